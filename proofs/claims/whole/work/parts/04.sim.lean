/-! What the machine of part 03 does, the model does: cells 0, 1, .. of ours stand at b, b + 1, .. of the heap; .retAddr j of ours stands for the cell kad j, which is older. -/
def x_V (b : Nat) (kad : Nat → Option Nat) : Value → Value
  | .ref a => .ref (b + a)
  | .retAddr j => va_rf (kad j)
  | v => v
def x_A (b : Nat) : ((Nat → Int32) ⊕ (Nat → Int64) ⊕ (Nat → UInt32) ⊕ (Nat → UInt64) ⊕ (Nat → Option Nat)) → ((Nat → Int32) ⊕ (Nat → Int64) ⊕ (Nat → UInt32) ⊕ (Nat → UInt64) ⊕ (Nat → Option Nat))
  | .inr (.inr (.inr (.inr f))) => .inr (.inr (.inr (.inr (fun j => (f j).map (fun a => b + a)))))
  | x => x
def x_E (dA : Nat → ClassId) (b : Nat) (kad : Nat → Option Nat) : x_C → va_E
  | .inl (t, n, x) => .inl (dA t, n, x_A b x)
  | .inr (ci, fs) => .inr (ci, fs.map (x_V b kad))
def x_ws (dA : Nat → ClassId) (b : Nat) (kad : Nat → Option Nat) (h : x_H) : va_W := (List.range h.2.1).map (fun k => (b + k, x_E dA b kad (h.1 k)))
def x_tys (dA : Nat → ClassId) : List (ClassId × FieldType) := (List.range x_ty.length).map (fun t => (dA t, x_ty.getD t .int))
def x_LV (b : Nat) (kad : Nat → Option Nat) (ls : Array Slot) (nL : Nat) (lv : x_L) : Prop := ls.size = nL ∧ lv_wf ls ∧ ∀ (i : Nat) (v : Value), lv i = some v → ls[i]? = some (.val (x_V b kad v))
theorem x_rf_cat (r : Option Nat) : (va_rf r).category = 1 := by cases r <;> rfl
theorem x_V_cat (b : Nat) (kad : Nat → Option Nat) (v : Value) : (x_V b kad v).category = v.category := by
  cases v <;> first
    | rfl
    | exact x_rf_cat _
theorem x_V_rf (b : Nat) (kad : Nat → Option Nat) (r : Option Nat) : x_V b kad (va_rf r) = va_rf (r.map (fun a => b + a)) := by cases r <;> rfl
theorem x_cs_map (b : Nat) (kad : Nat → Option Nat) (st : List Value) : ((st.map (x_V b kad)).map fun v => v.category).sum = x_cs st := by
  unfold x_cs
  rw [List.map_map]
  congr 1
  apply List.map_congr_left
  intro v _
  exact x_V_cat b kad v
theorem x_in_vp {i : Int32} {n : Nat} (h : x_in i n = true) : vp_in i n := by
  unfold x_in at h
  simp only [Bool.and_eq_true, Bool.not_eq_true', decide_eq_false_iff_not, decide_eq_true_eq] at h
  intro q
  rcases q with q | q
  · exact h.1 q
  · omega
-- the list of cells
theorem x_ws_get {dA : Nat → ClassId} {b : Nat} {kad : Nat → Option Nat} {h : x_H} {a : Nat} (ha : a < h.2.1) : (x_ws dA b kad h)[a]? = some (b + a, x_E dA b kad (h.1 a)) := by
  unfold x_ws
  rw [List.getElem?_map, List.getElem?_range ha]
  rfl
theorem x_ws_inv {dA : Nat → ClassId} {b : Nat} {kad : Nat → Option Nat} {h : x_H} {a : Nat} {q : Nat × va_E} (hq : (x_ws dA b kad h)[a]? = some q) : a < h.2.1 ∧ q = (b + a, x_E dA b kad (h.1 a)) := by
  have hl : a < h.2.1 := by
    have := (List.getElem?_eq_some_iff.mp hq).1
    simpa [x_ws] using this
  refine ⟨hl, ?_⟩
  rw [x_ws_get hl] at hq
  exact (Option.some.inj hq).symm
theorem x_ws_D {dA : Nat → ClassId} {b : Nat} {kad : Nat → Option Nat} {h : x_H} : va_D (fun q => b ≤ q) (x_ws dA b kad h) := by
  refine ⟨fun i j p q hp hq he => ?_, fun k q hq => ?_⟩
  · obtain ⟨-, rfl⟩ := x_ws_inv hp
    obtain ⟨-, rfl⟩ := x_ws_inv hq
    have he : b + i = b + j := he
    omega
  · obtain ⟨-, rfl⟩ := x_ws_inv hq
    exact Nat.le_add_right _ _
theorem x_ws_len {dA : Nat → ClassId} {b : Nat} {kad : Nat → Option Nat} {h : x_H} : (x_ws dA b kad h).length = h.2.1 := by simp [x_ws]
theorem x_ws_up {dA : Nat → ClassId} {b : Nat} {kad : Nat → Option Nat} {h : x_H} {a : Nat} {e : x_C} (ha : a < h.2.1) : (x_ws dA b kad h).set a (b + a, x_E dA b kad e) = x_ws dA b kad (x_up h a e) := by
  apply List.ext_getElem?
  intro i
  rw [List.getElem?_set]
  by_cases hi : i < h.2.1
  · rw [x_ws_get (h := x_up h a e) (a := i) hi, x_ws_get hi, x_ws_len]
    by_cases e1 : a = i
    · subst e1
      simp [x_up, va_up, ha]
    · have e2 : ¬ i = a := fun q => e1 q.symm
      simp [e1, x_up, va_up, e2]
  · have h1 : (x_ws dA b kad (x_up h a e))[i]? = none := by
      apply List.getElem?_eq_none
      rw [x_ws_len]
      exact Nat.not_lt.mp hi
    have h2 : (x_ws dA b kad h)[i]? = none := by
      apply List.getElem?_eq_none
      rw [x_ws_len]
      exact Nat.not_lt.mp hi
    rw [h1, h2]
    have e1 : ¬ a = i := by omega
    simp [e1]
theorem x_ws_nw {dA : Nat → ClassId} {b : Nat} {kad : Nat → Option Nat} {h : x_H} {e : x_C} {k : Nat} : x_ws dA b kad (x_nw h e k) = x_ws dA b kad h ++ [(b + h.2.1, x_E dA b kad e)] := by
  unfold x_ws x_nw
  simp only
  rw [List.range_succ, List.map_append]
  congr 1
  · apply List.map_congr_left
    intro i hi
    have hi : i < h.2.1 := List.mem_range.mp hi
    have e2 : ¬ i = h.2.1 := by omega
    simp [va_up, e2]
  · simp [va_up]
theorem x_get_inv {h : x_H} {a : Nat} {e : x_C} (q : x_get h a = some e) : a < h.2.1 ∧ h.1 a = e := by
  unfold x_get at q
  split at q
  · rename_i h1
    exact ⟨h1, Option.some.inj q⟩
  · cases q
theorem x_get_ws {dA : Nat → ClassId} {b : Nat} {kad : Nat → Option Nat} {h : x_H} {a : Nat} {e : x_C} (q : x_get h a = some e) : (x_ws dA b kad h)[a]? = some (b + a, x_E dA b kad e) := by
  obtain ⟨h1, rfl⟩ := x_get_inv q
  exact x_ws_get h1
theorem x_tys_get {dA : Nat → ClassId} {t : Nat} {ty : FieldType} (ht : x_ty[t]? = some ty) : (x_tys dA)[t]? = some (dA t, ty) := by
  have hl : t < x_ty.length := (List.getElem?_eq_some_iff.mp ht).1
  unfold x_tys
  rw [List.getElem?_map, List.getElem?_range hl]
  have h1 : x_ty.getD t .int = ty := by rw [List.getD_eq_getElem?_getD, ht]; rfl
  show some (dA t, x_ty.getD t .int) = some (dA t, ty)
  rw [h1]
-- locals
def x_ll (b : Nat) (kad : Nat → Option Nat) (nL : Nat) (lv : x_L) : List (Nat × Value) := (List.range nL).filterMap (fun j => (lv j).map (fun v => (j, x_V b kad v)))
theorem x_ll_mem {b : Nat} {kad : Nat → Option Nat} {nL j : Nat} {lv : x_L} {v : Value} (hj : j < nL) (h : lv j = some v) : (j, x_V b kad v) ∈ x_ll b kad nL lv := by
  unfold x_ll
  rw [List.mem_filterMap]
  exact ⟨j, List.mem_range.mpr hj, by rw [h]; rfl⟩
theorem x_LV_has {b : Nat} {kad : Nat → Option Nat} {ls : Array Slot} {nL : Nat} {lv : x_L} (h : x_LV b kad ls nL lv) : lv_has ls nL (x_ll b kad nL lv) := by
  refine ⟨h.1, h.2.1, fun q hq => ?_⟩
  unfold x_ll at hq
  rw [List.mem_filterMap] at hq
  obtain ⟨j, -, hj⟩ := hq
  cases hv : lv j with
  | none => rw [hv] at hj; cases hj
  | some v =>
    rw [hv] at hj
    cases hj
    exact h.2.2 j v hv
theorem x_LV_lt {b : Nat} {kad : Nat → Option Nat} {ls : Array Slot} {nL : Nat} {lv : x_L} (h : x_LV b kad ls nL lv) {j : Nat} {v : Value} (hj : lv j = some v) : j < nL := by
  have := lv_lt (h.2.2 j v hj)
  rw [h.1] at this
  exact this
theorem x_k2_inv {o : Option Value} {v : Value} (h : x_k2 o = some v) : o = some v ∧ v.category = 1 := by
  unfold x_k2 at h
  split at h
  · cases h
  · cases h
  · rename_i h1 h2
    subst h
    refine ⟨rfl, ?_⟩
    cases v <;> first | rfl | exact absurd rfl (h1 _) | exact absurd rfl (h2 _)
theorem x_LV_s1 {b : Nat} {kad : Nat → Option Nat} {ls ls' : Array Slot} {nL i : Nat} {lv : x_L} {v : Value} (h : x_LV b kad ls nL lv) (h' : lv_has ls' nL ((i, x_V b kad v) :: (x_ll b kad nL lv).filter (fun q => !(q.1 == i) && !(q.1 + 1 == i && q.2.category == 2)))) : x_LV b kad ls' nL (x_s1 lv i v) := by
  refine ⟨h'.1, h'.2.1, fun j w hw => ?_⟩
  unfold x_s1 at hw
  by_cases e1 : j = i
  · rw [if_pos e1] at hw
    cases hw
    subst e1
    exact h'.2.2 _ List.mem_cons_self
  · rw [if_neg e1] at hw
    by_cases e2 : j + 1 = i
    · rw [if_pos e2] at hw
      obtain ⟨e3, e4⟩ := x_k2_inv hw
      refine h'.2.2 (j, x_V b kad w) (List.mem_cons_of_mem _ (List.mem_filter.mpr ⟨x_ll_mem (x_LV_lt h e3) e3, ?_⟩))
      simp [e1, x_V_cat, e4]
    · rw [if_neg e2] at hw
      refine h'.2.2 (j, x_V b kad w) (List.mem_cons_of_mem _ (List.mem_filter.mpr ⟨x_ll_mem (x_LV_lt h hw) hw, ?_⟩))
      simp [e1, e2]
theorem x_LV_s2 {b : Nat} {kad : Nat → Option Nat} {ls ls' : Array Slot} {nL i : Nat} {lv : x_L} {v : Value} (h : x_LV b kad ls nL lv) (h' : lv_has ls' nL ((i, x_V b kad v) :: (x_ll b kad nL lv).filter (fun q => !(q.1 == i) && (!(q.1 == i + 1) && !(q.1 + 1 == i && q.2.category == 2))))) : x_LV b kad ls' nL (x_s2 lv i v) := by
  refine ⟨h'.1, h'.2.1, fun j w hw => ?_⟩
  unfold x_s2 at hw
  by_cases e1 : j = i
  · rw [if_pos e1] at hw
    cases hw
    subst e1
    exact h'.2.2 _ List.mem_cons_self
  · rw [if_neg e1] at hw
    by_cases e0 : j = i + 1
    · rw [if_pos e0] at hw
      cases hw
    · rw [if_neg e0] at hw
      by_cases e2 : j + 1 = i
      · rw [if_pos e2] at hw
        obtain ⟨e3, e4⟩ := x_k2_inv hw
        refine h'.2.2 (j, x_V b kad w) (List.mem_cons_of_mem _ (List.mem_filter.mpr ⟨x_ll_mem (x_LV_lt h e3) e3, ?_⟩))
        simp [e1, e0, x_V_cat, e4]
      · rw [if_neg e2] at hw
        refine h'.2.2 (j, x_V b kad w) (List.mem_cons_of_mem _ (List.mem_filter.mpr ⟨x_ll_mem (x_LV_lt h hw) hw, ?_⟩))
        simp [e1, e0, e2]
theorem x_en_mem : ∀ (vs : List Value) (i j : Nat) (v : Value), x_en i vs j = some v → (j, v) ∈ lv_args i vs
  | [], _, _, _, h => by cases h
  | w :: vs, i, j, v, h => by
    unfold x_en at h
    unfold lv_args
    by_cases e1 : j = i
    · rw [if_pos e1] at h
      cases h
      rw [e1]
      exact List.mem_cons_self
    · rw [if_neg e1] at h
      exact List.mem_cons_of_mem _ (x_en_mem vs _ j v h)
theorem x_args_map (b : Nat) (kad : Nat → Option Nat) : ∀ (vs : List Value) (i j : Nat) (v : Value), (j, v) ∈ lv_args i vs → (j, x_V b kad v) ∈ lv_args i (vs.map (x_V b kad))
  | [], _, _, _, h => by cases h
  | w :: vs, i, j, v, h => by
    unfold lv_args at h
    rw [List.map_cons]
    unfold lv_args
    rw [x_V_cat]
    rcases List.mem_cons.mp h with h | h
    · cases h
      exact List.mem_cons_self
    · exact List.mem_cons_of_mem _ (x_args_map b kad vs _ j v h)
theorem x_LV_en {b : Nat} {kad : Nat → Option Nat} {vs : List Value} {n : Nat} {ls : Array Slot} (h : lv_has ls n (lv_args 0 (vs.map (x_V b kad)))) : x_LV b kad ls n (x_en 0 vs) :=
  ⟨h.1, h.2.1, fun i v hv => h.2.2 (i, x_V b kad v) (x_args_map b kad vs 0 i v (x_en_mem vs 0 i v hv))⟩
-- one instruction: the operand stack alone
theorem x_i2_inv {f : Int32 → Int32 → Value} {st st' : List Value} (h : x_i2 f st = some st') : ∃ (x y : Int32) (r : List Value), st = .int y :: .int x :: r ∧ st' = f x y :: r := by
  unfold x_i2 at h
  split at h
  · cases h
    exact ⟨_, _, _, rfl, rfl⟩
  · cases h
theorem x_l2_inv {f : Int64 → Int64 → Value} {st st' : List Value} (h : x_l2 f st = some st') : ∃ (x y : Int64) (r : List Value), st = .long y :: .long x :: r ∧ st' = f x y :: r := by
  unfold x_l2 at h
  split at h
  · cases h
    exact ⟨_, _, _, rfl, rfl⟩
  · cases h
theorem x_i1_inv {f : Int32 → Value} {st st' : List Value} (h : x_i1 f st = some st') : ∃ (x : Int32) (r : List Value), st = .int x :: r ∧ st' = f x :: r := by
  unfold x_i1 at h
  split at h
  · cases h
    exact ⟨_, _, rfl, rfl⟩
  · cases h
theorem x_l1_inv {f : Int64 → Value} {st st' : List Value} (h : x_l1 f st = some st') : ∃ (x : Int64) (r : List Value), st = .long x :: r ∧ st' = f x :: r := by
  unfold x_l1 at h
  split at h
  · cases h
    exact ⟨_, _, rfl, rfl⟩
  · cases h
theorem x_li_inv {f : Int64 → Int32 → Value} {st st' : List Value} (h : x_li f st = some st') : ∃ (x : Int64) (y : Int32) (r : List Value), st = .int y :: .long x :: r ∧ st' = f x y :: r := by
  unfold x_li at h
  split at h
  · cases h
    exact ⟨_, _, _, rfl, rfl⟩
  · cases h
theorem x_idv_inv {f : Int32 → Int32 → Value} {st st' : List Value} (h : x_idv f st = some st') : ∃ (x y : Int32) (r : List Value), st = .int y :: .int x :: r ∧ ¬ y = 0 ∧ st' = f x y :: r := by
  unfold x_idv at h
  split at h
  · split at h
    · cases h
    · rename_i hy
      cases h
      exact ⟨_, _, _, rfl, hy, rfl⟩
  · cases h
theorem x_ldv_inv {f : Int64 → Int64 → Value} {st st' : List Value} (h : x_ldv f st = some st') : ∃ (x y : Int64) (r : List Value), st = .long y :: .long x :: r ∧ ¬ y = 0 ∧ st' = f x y :: r := by
  unfold x_ldv at h
  split at h
  · split at h
    · cases h
    · rename_i hy
      cases h
      exact ⟨_, _, _, rfl, hy, rfl⟩
  · cases h
theorem x_dup_inv {st st' : List Value} (h : x_dup st = some st') : ∃ (v : Value) (r : List Value), st = v :: r ∧ v.category = 1 ∧ st' = v :: v :: r := by
  unfold x_dup at h
  split at h
  · split at h
    · rename_i hy
      cases h
      exact ⟨_, _, rfl, hy, rfl⟩
    · cases h
  · cases h
theorem x_pp_inv {st st' : List Value} (h : x_pp st = some st') : ∃ (v : Value) (r : List Value), st = v :: r ∧ v.category = 1 ∧ st' = r := by
  unfold x_pp at h
  split at h
  · split at h
    · rename_i hy
      cases h
      exact ⟨_, _, rfl, hy, rfl⟩
    · cases h
  · cases h
theorem x_d2_inv {st st' : List Value} (h : x_d2 st = some st') : ∃ (v w : Value) (r : List Value), st = v :: w :: r ∧ v.category = 1 ∧ w.category = 1 ∧ st' = v :: w :: v :: w :: r := by
  unfold x_d2 at h
  split at h
  · split at h
    · rename_i hy
      cases h
      exact ⟨_, _, _, rfl, hy.1, hy.2, rfl⟩
    · cases h
  · cases h
theorem x_dx1_inv {st st' : List Value} (h : x_dx1 st = some st') : ∃ (v w : Value) (r : List Value), st = v :: w :: r ∧ v.category = 1 ∧ w.category = 1 ∧ st' = v :: w :: v :: r := by
  unfold x_dx1 at h
  split at h
  · split at h
    · rename_i hy
      cases h
      exact ⟨_, _, _, rfl, hy.1, hy.2, rfl⟩
    · cases h
  · cases h
theorem x_dx2_inv {st st' : List Value} (h : x_dx2 st = some st') : ∃ (v w u : Value) (r : List Value), st = v :: w :: u :: r ∧ v.category = 1 ∧ w.category = 1 ∧ u.category = 1 ∧ st' = v :: w :: u :: v :: r := by
  unfold x_dx2 at h
  split at h
  · split at h
    · rename_i hy
      cases h
      exact ⟨_, _, _, _, rfl, hy.1, hy.2.1, hy.2.2, rfl⟩
    · cases h
  · cases h
section XS
variable {p : Program} {l : Launch} {e : Env} {R : Room} {s : State} {m : MethodId} {args : Array Value} {below : List Frame} {meth : Method} {c : Code} {H : Heap} {locs : List Loc} {cells slots : Nat} {Q : State → Prop}
variable {cc : ByteArray} {pc : Nat} {ls : Array Slot} {b : Nat} {kad : Nat → Option Nat}
set_option maxHeartbeats 4000000 in
theorem x_pop_ok (hexec : p.tables.exec = Jvm.exec) (hb : c.code = cc) {i : Instr} (hdg : decode cc pc = .ok (i, x_len i)) {st st' : List Value} (h : x_pop i st = some st')
    (kk : W p l e R s m args below meth c H locs cells slots Q (F0 m (pc + x_len i) ls (st'.map (x_V b kad)))) : W p l e R s m args below meth c H locs cells slots Q (F0 m pc ls (st.map (x_V b kad))) := by
  cases i <;> first
    | (simp [x_pop] at h; done)
    | skip
  case iconst n => 
    cases h
    exact lv_iconst hexec hb hdg rfl kk
  case bipush n => 
    cases h
    exact lv_bipush hexec hb hdg rfl kk
  case sipush n => 
    cases h
    exact lv_sipush hexec hb hdg rfl kk
  case lconst n => 
    cases h
    exact lv_lconst hexec hb hdg rfl kk
  case iadd => 
    obtain ⟨x, y, r, rfl, rfl⟩ := x_i2_inv h
    exact lv_iadd hexec hb hdg kk
  case isub => 
    obtain ⟨x, y, r, rfl, rfl⟩ := x_i2_inv h
    exact lv_isub hexec hb hdg kk
  case imul => 
    obtain ⟨x, y, r, rfl, rfl⟩ := x_i2_inv h
    exact lv_imul hexec hb hdg kk
  case iand => 
    obtain ⟨x, y, r, rfl, rfl⟩ := x_i2_inv h
    exact lv_iand hexec hb hdg kk
  case ior => 
    obtain ⟨x, y, r, rfl, rfl⟩ := x_i2_inv h
    exact lv_ior hexec hb hdg kk
  case ixor => 
    obtain ⟨x, y, r, rfl, rfl⟩ := x_i2_inv h
    exact lv_ixor hexec hb hdg kk
  case ishl => 
    obtain ⟨x, y, r, rfl, rfl⟩ := x_i2_inv h
    exact lv_ishl hexec hb hdg kk
  case ishr => 
    obtain ⟨x, y, r, rfl, rfl⟩ := x_i2_inv h
    exact lv_ishr hexec hb hdg kk
  case iushr => 
    obtain ⟨x, y, r, rfl, rfl⟩ := x_i2_inv h
    exact lv_iushr hexec hb hdg rfl kk
  case idiv => 
    obtain ⟨x, y, r, rfl, hy, rfl⟩ := x_idv_inv h
    exact lv_idiv hexec hb hdg hy kk
  case irem => 
    obtain ⟨x, y, r, rfl, hy, rfl⟩ := x_idv_inv h
    exact lv_irem hexec hb hdg hy kk
  case ineg => 
    obtain ⟨x, r, rfl, rfl⟩ := x_i1_inv h
    exact lv_ineg hexec hb hdg kk
  case i2l => 
    obtain ⟨x, r, rfl, rfl⟩ := x_i1_inv h
    exact lv_i2l hexec hb hdg rfl kk
  case i2b => 
    obtain ⟨x, r, rfl, rfl⟩ := x_i1_inv h
    exact lv_i2b hexec hb hdg rfl kk
  case i2c => 
    obtain ⟨x, r, rfl, rfl⟩ := x_i1_inv h
    exact lv_i2c hexec hb hdg rfl kk
  case l2i => 
    obtain ⟨x, r, rfl, rfl⟩ := x_l1_inv h
    exact lv_l2i hexec hb hdg rfl kk
  case ladd => 
    obtain ⟨x, y, r, rfl, rfl⟩ := x_l2_inv h
    exact lv_ladd hexec hb hdg kk
  case lsub => 
    obtain ⟨x, y, r, rfl, rfl⟩ := x_l2_inv h
    exact lv_lsub hexec hb hdg kk
  case lmul => 
    obtain ⟨x, y, r, rfl, rfl⟩ := x_l2_inv h
    exact lv_lmul hexec hb hdg kk
  case land => 
    obtain ⟨x, y, r, rfl, rfl⟩ := x_l2_inv h
    exact lv_land hexec hb hdg kk
  case lor => 
    obtain ⟨x, y, r, rfl, rfl⟩ := x_l2_inv h
    exact lv_lor hexec hb hdg kk
  case ldiv => 
    obtain ⟨x, y, r, rfl, hy, rfl⟩ := x_ldv_inv h
    exact lv_ldiv hexec hb hdg hy kk
  case lrem => 
    obtain ⟨x, y, r, rfl, hy, rfl⟩ := x_ldv_inv h
    exact lv_lrem hexec hb hdg hy kk
  case lcmp => 
    obtain ⟨x, y, r, rfl, rfl⟩ := x_l2_inv h
    exact W.lcmp hexec hb hdg kk
  case lshl => 
    obtain ⟨x, y, r, rfl, rfl⟩ := x_li_inv h
    exact lv_lshl hexec hb hdg rfl kk
  case lshr => 
    obtain ⟨x, y, r, rfl, rfl⟩ := x_li_inv h
    exact lv_lshr hexec hb hdg rfl kk
  case lushr => 
    obtain ⟨x, y, r, rfl, rfl⟩ := x_li_inv h
    exact lv_lushr hexec hb hdg rfl kk
  case dup => 
    obtain ⟨v, r, rfl, hv, rfl⟩ := x_dup_inv h
    exact lv_dup hexec hb hdg (by rw [x_V_cat]; exact hv) kk
  case pop => 
    obtain ⟨v, r, rfl, hv, rfl⟩ := x_pp_inv h
    exact lv_pop hexec hb hdg (va := x_V b kad v) (by rw [x_V_cat]; exact hv) kk
  case dup2 => 
    obtain ⟨v, u, r, rfl, hv, hu, rfl⟩ := x_d2_inv h
    exact lv_dup2_11 hexec hb hdg (va := x_V b kad v) (vb := x_V b kad u) (by rw [x_V_cat]; exact hv) (by rw [x_V_cat]; exact hu) kk
  case dup_x1 => 
    obtain ⟨v, u, r, rfl, hv, hu, rfl⟩ := x_dx1_inv h
    exact lv_dup_x1 hexec hb hdg (va := x_V b kad v) (vb := x_V b kad u) (by rw [x_V_cat]; exact hv) (by rw [x_V_cat]; exact hu) kk
  case dup_x2 => 
    obtain ⟨v, u, t, r, rfl, hv, hu, ht, rfl⟩ := x_dx2_inv h
    exact lv_dup_x2 hexec hb hdg (va := x_V b kad v) (vb := x_V b kad u) (vd := x_V b kad t) (by rw [x_V_cat]; exact hv) (by rw [x_V_cat]; exact hu) (by rw [x_V_cat]; exact ht) kk
theorem x_ldi_inv {o : Option Value} {st st' : List Value} (h : x_ldi o st = some st') : ∃ x : Int32, o = some (.int x) ∧ st' = .int x :: st := by
  unfold x_ldi at h
  split at h
  · cases h
    exact ⟨_, rfl, rfl⟩
  · cases h
theorem x_ldl_inv {o : Option Value} {st st' : List Value} (h : x_ldl o st = some st') : ∃ x : Int64, o = some (.long x) ∧ st' = .long x :: st := by
  unfold x_ldl at h
  split at h
  · cases h
    exact ⟨_, rfl, rfl⟩
  · cases h
theorem x_lda_inv {b : Nat} {kad : Nat → Option Nat} (hk : ∀ j, j < 2000 → ∃ q, kad j = some q) {o : Option Value} {st st' : List Value} (h : x_lda o st = some st') : ∃ (v : Value) (q : Nat), o = some v ∧ x_V b kad v = .ref q ∧ st' = v :: st := by
  unfold x_lda at h
  split at h
  · cases h
    exact ⟨_, _, rfl, rfl, rfl⟩
  · split at h
    · rename_i x hx
      cases h
      obtain ⟨q, hq⟩ := hk x hx
      exact ⟨_, q, rfl, by show va_rf (kad x) = .ref q; rw [hq]; rfl, rfl⟩
    · cases h
  · cases h
set_option maxHeartbeats 4000000 in
theorem x_lod_ok (hexec : p.tables.exec = Jvm.exec) (hb : c.code = cc) (hk : ∀ j, j < 2000 → ∃ q, kad j = some q) {i : Instr} (hdg : decode cc pc = .ok (i, x_len i)) {nL : Nat} {lv : x_L} (hl : x_LV b kad ls nL lv) {st st' : List Value} (h : x_lod i lv st = some st')
    (kk : W p l e R s m args below meth c H locs cells slots Q (F0 m (pc + x_len i) ls (st'.map (x_V b kad)))) : W p l e R s m args below meth c H locs cells slots Q (F0 m pc ls (st.map (x_V b kad))) := by
  cases i <;> first
    | (simp [x_lod] at h; done)
    | skip
  case iload j => 
    obtain ⟨x, e1, rfl⟩ := x_ldi_inv h
    exact lv_iload hexec hb hdg (hl.2.2 _ _ e1) kk
  case iload_n j => 
    obtain ⟨x, e1, rfl⟩ := x_ldi_inv h
    exact lv_iload_n hexec hb hdg rfl (hl.2.2 _ _ e1) kk
  case lload j => 
    obtain ⟨x, e1, rfl⟩ := x_ldl_inv h
    exact lv_lload hexec hb hdg (hl.2.2 _ _ e1) kk
  case lload_n j => 
    obtain ⟨x, e1, rfl⟩ := x_ldl_inv h
    exact lv_lload_n hexec hb hdg rfl (hl.2.2 _ _ e1) kk
  case aload j => 
    obtain ⟨v, q, e1, e2, rfl⟩ := x_lda_inv (b := b) (kad := kad) hk h
    have h1 := hl.2.2 _ _ e1
    rw [e2] at h1
    refine lv_aload hexec hb hdg h1 ?_
    rw [← e2]
    exact kk
  case aload_n j => 
    obtain ⟨v, q, e1, e2, rfl⟩ := x_lda_inv (b := b) (kad := kad) hk h
    have h1 := hl.2.2 _ _ e1
    rw [e2] at h1
    refine lv_aload_n hexec hb hdg rfl h1 ?_
    rw [← e2]
    exact kk
theorem x_sti_inv {nL i : Nat} {lv lv' : x_L} {st st' : List Value} (h : x_sti nL i lv st = some (lv', st')) : ∃ x : Int32, st = .int x :: st' ∧ i < nL ∧ lv' = x_s1 lv i (.int x) := by
  unfold x_sti at h
  split at h
  · split at h
    · rename_i hi
      cases h
      exact ⟨_, rfl, hi, rfl⟩
    · cases h
  · cases h
theorem x_stl_inv {nL i : Nat} {lv lv' : x_L} {st st' : List Value} (h : x_stl nL i lv st = some (lv', st')) : ∃ x : Int64, st = .long x :: st' ∧ i + 1 < nL ∧ lv' = x_s2 lv i (.long x) := by
  unfold x_stl at h
  split at h
  · split at h
    · rename_i hi
      cases h
      exact ⟨_, rfl, hi, rfl⟩
    · cases h
  · cases h
theorem x_sta_inv {nL i : Nat} {lv lv' : x_L} {st st' : List Value} (h : x_sta nL i lv st = some (lv', st')) : ∃ x : Nat, st = .ref x :: st' ∧ i < nL ∧ lv' = x_s1 lv i (.ref x) := by
  unfold x_sta at h
  split at h
  · split at h
    · rename_i hi
      cases h
      exact ⟨_, rfl, hi, rfl⟩
    · cases h
  · cases h
theorem x_inc_inv {nL i : Nat} {n : Int} {lv lv' : x_L} {st st' : List Value} (h : x_inc nL i n lv st = some (lv', st')) : ∃ x : Int32, lv i = some (.int x) ∧ st = st' ∧ i < nL ∧ lv' = x_s1 lv i (.int (x + Int32.ofInt n)) := by
  unfold x_inc at h
  split at h
  · rename_i x hx
    split at h
    · rename_i hi
      cases h
      exact ⟨_, hx, rfl, hi, rfl⟩
    · cases h
  · cases h
set_option maxHeartbeats 4000000 in
theorem x_sto_ok (hexec : p.tables.exec = Jvm.exec) (hb : c.code = cc) {i : Instr} (hdg : decode cc pc = .ok (i, x_len i)) {nL : Nat} {lv lv' : x_L} (hl : x_LV b kad ls nL lv) {st st' : List Value} (h : x_sto nL i lv st = some (lv', st'))
    (kk : ∀ ls' : Array Slot, x_LV b kad ls' nL lv' → W p l e R s m args below meth c H locs cells slots Q (F0 m (pc + x_len i) ls' (st'.map (x_V b kad)))) : W p l e R s m args below meth c H locs cells slots Q (F0 m pc ls (st.map (x_V b kad))) := by
  cases i <;> first
    | (simp [x_sto] at h; done)
    | skip
  case istore j => 
    obtain ⟨x, rfl, hi, rfl⟩ := x_sti_inv h
    exact lv_istore hexec hb hdg (x_LV_has hl) hi rfl (fun ls' h' => kk ls' (x_LV_s1 hl h'))
  case istore_n j => 
    obtain ⟨x, rfl, hi, rfl⟩ := x_sti_inv h
    exact lv_istore_n hexec hb hdg rfl (x_LV_has hl) hi rfl (fun ls' h' => kk ls' (x_LV_s1 hl h'))
  case lstore j => 
    obtain ⟨x, rfl, hi, rfl⟩ := x_stl_inv h
    exact lv_lstore hexec hb hdg (x_LV_has hl) hi rfl (fun ls' h' => kk ls' (x_LV_s2 hl h'))
  case lstore_n j => 
    obtain ⟨x, rfl, hi, rfl⟩ := x_stl_inv h
    exact lv_lstore_n hexec hb hdg rfl (x_LV_has hl) hi rfl (fun ls' h' => kk ls' (x_LV_s2 hl h'))
  case astore j => 
    obtain ⟨x, rfl, hi, rfl⟩ := x_sta_inv h
    exact lv_astore hexec hb hdg (x_LV_has hl) hi rfl (fun ls' h' => kk ls' (x_LV_s1 hl h'))
  case astore_n j => 
    obtain ⟨x, rfl, hi, rfl⟩ := x_sta_inv h
    exact lv_astore_n hexec hb hdg rfl (x_LV_has hl) hi rfl (fun ls' h' => kk ls' (x_LV_s1 hl h'))
  case iinc j n => 
    obtain ⟨x, e1, rfl, hi, rfl⟩ := x_inc_inv h
    obtain ⟨q, hq⟩ := List.getElem?_of_mem (x_ll_mem (b := b) (kad := kad) hi e1)
    exact lv_iinc hexec hb hdg (x_LV_has hl) hq rfl hi rfl (fun ls' h' => kk ls' (x_LV_s1 (v := .int (x + Int32.ofInt n)) hl h'))
theorem x_tg {pc : Nat} {off : Int} (h : 0 ≤ (pc : Int) + off) : (pc : Int) + off = ((((pc : Int) + off).toNat : Nat) : Int) := (Int.toNat_of_nonneg h).symm
theorem x_gt_inv {off : Int} {pc pc' : Nat} {st st' : List Value} (h : x_gt off pc st = some (pc', st')) : (pc : Int) + off = (pc' : Int) ∧ st' = st := by
  unfold x_gt at h
  split at h
  · rename_i h0
    cases h
    exact ⟨x_tg h0, rfl⟩
  · cases h
theorem x_if_inv {cd : Jvm.ClassFile.Cond} {off : Int} {pc pc' : Nat} {st st' : List Value} (h : x_if cd off pc st = some (pc', st')) : ∃ (x : Int32) (t : Nat), st = .int x :: st' ∧ (pc : Int) + off = (t : Int) ∧ (x_cc cd x 0 = true → pc' = t) ∧ (¬ x_cc cd x 0 = true → pc' = pc + 3) := by
  unfold x_if at h
  split at h
  · split at h
    · rename_i h0
      split at h
      · rename_i h1
        cases h
        exact ⟨_, _, rfl, x_tg h0, fun _ => rfl, fun q => absurd h1 q⟩
      · rename_i h1
        cases h
        exact ⟨_, _, rfl, x_tg h0, fun q => absurd q h1, fun _ => rfl⟩
    · cases h
  · cases h
theorem x_ic_inv {cd : Jvm.ClassFile.Cond} {off : Int} {pc pc' : Nat} {st st' : List Value} (h : x_ic cd off pc st = some (pc', st')) : ∃ (x y : Int32) (t : Nat), st = .int y :: .int x :: st' ∧ (pc : Int) + off = (t : Int) ∧ (x_cc cd x y = true → pc' = t) ∧ (¬ x_cc cd x y = true → pc' = pc + 3) := by
  unfold x_ic at h
  split at h
  · split at h
    · rename_i h0
      split at h
      · rename_i h1
        cases h
        exact ⟨_, _, _, rfl, x_tg h0, fun _ => rfl, fun q => absurd h1 q⟩
      · rename_i h1
        cases h
        exact ⟨_, _, _, rfl, x_tg h0, fun q => absurd q h1, fun _ => rfl⟩
    · cases h
  · cases h
set_option maxHeartbeats 4000000 in
theorem x_jmp_ok (hexec : p.tables.exec = Jvm.exec) (hb : c.code = cc) {i : Instr} {len : Nat} (hdg : decode cc pc = .ok (i, len)) (hlen : x_sw i = false → len = x_len i) {pc' : Nat} {st st' : List Value} (h : x_jmp i pc st = some (pc', st'))
    (kk : W p l e R s m args below meth c H locs cells slots Q (F0 m pc' ls (st'.map (x_V b kad)))) : W p l e R s m args below meth c H locs cells slots Q (F0 m pc ls (st.map (x_V b kad))) := by
  cases i <;> first
    | (simp [x_jmp] at h; done)
    | skip
  case goto off => 
    cases hlen rfl
    obtain ⟨ht, rfl⟩ := x_gt_inv h
    exact lv_goto hexec hb hdg ht kk
  case ifCond cd off => 
    cases hlen rfl
    obtain ⟨x, t, rfl, ht, h1, h2⟩ := x_if_inv h
    cases cd
    · refine lv_if_eq hexec hb hdg ht (fun q => ?_) (fun q => ?_)
      · have e1 := h1 (by simpa [x_cc] using q)
        rw [e1] at kk
        exact kk
      · have e1 := h2 (by simpa [x_cc] using q)
        rw [e1] at kk
        exact kk
    · refine lv_if_ne hexec hb hdg ht (fun q => ?_) (fun q => ?_)
      · have e1 := h1 (by simpa [x_cc] using q)
        rw [e1] at kk
        exact kk
      · have e1 := h2 (by simpa [x_cc] using q)
        rw [e1] at kk
        exact kk
    · refine lv_if_lt hexec hb hdg ht (fun q => ?_) (fun q => ?_)
      · have e1 := h1 (by simpa [x_cc] using q)
        rw [e1] at kk
        exact kk
      · have e1 := h2 (by simpa [x_cc] using q)
        rw [e1] at kk
        exact kk
    · refine lv_if_ge hexec hb hdg ht (fun q => ?_) (fun q => ?_)
      · have e1 := h1 (by simpa [x_cc] using q)
        rw [e1] at kk
        exact kk
      · have e1 := h2 (by simpa [x_cc] using q)
        rw [e1] at kk
        exact kk
    · refine lv_if_gt hexec hb hdg ht (fun q => ?_) (fun q => ?_)
      · have e1 := h1 (by simpa [x_cc] using q)
        rw [e1] at kk
        exact kk
      · have e1 := h2 (by simpa [x_cc] using q)
        rw [e1] at kk
        exact kk
    · refine lv_if_le hexec hb hdg ht (fun q => ?_) (fun q => ?_)
      · have e1 := h1 (by simpa [x_cc] using q)
        rw [e1] at kk
        exact kk
      · have e1 := h2 (by simpa [x_cc] using q)
        rw [e1] at kk
        exact kk
  case if_icmp cd off => 
    cases hlen rfl
    obtain ⟨x, y, t, rfl, ht, h1, h2⟩ := x_ic_inv h
    cases cd
    · refine lv_icmp_eq hexec hb hdg ht (fun q => ?_) (fun q => ?_)
      · have e1 := h1 (by simpa [x_cc] using q)
        rw [e1] at kk
        exact kk
      · have e1 := h2 (by simpa [x_cc] using q)
        rw [e1] at kk
        exact kk
    · refine lv_icmp_ne hexec hb hdg ht (fun q => ?_) (fun q => ?_)
      · have e1 := h1 (by simpa [x_cc] using q)
        rw [e1] at kk
        exact kk
      · have e1 := h2 (by simpa [x_cc] using q)
        rw [e1] at kk
        exact kk
    · refine lv_icmp_lt hexec hb hdg ht (fun q => ?_) (fun q => ?_)
      · have e1 := h1 (by simpa [x_cc] using q)
        rw [e1] at kk
        exact kk
      · have e1 := h2 (by simpa [x_cc] using q)
        rw [e1] at kk
        exact kk
    · refine lv_icmp_ge hexec hb hdg ht (fun q => ?_) (fun q => ?_)
      · have e1 := h1 (by simpa [x_cc] using q)
        rw [e1] at kk
        exact kk
      · have e1 := h2 (by simpa [x_cc] using q)
        rw [e1] at kk
        exact kk
    · refine lv_icmp_gt hexec hb hdg ht (fun q => ?_) (fun q => ?_)
      · have e1 := h1 (by simpa [x_cc] using q)
        rw [e1] at kk
        exact kk
      · have e1 := h2 (by simpa [x_cc] using q)
        rw [e1] at kk
        exact kk
    · refine lv_icmp_le hexec hb hdg ht (fun q => ?_) (fun q => ?_)
      · have e1 := h1 (by simpa [x_cc] using q)
        rw [e1] at kk
        exact kk
      · have e1 := h2 (by simpa [x_cc] using q)
        rw [e1] at kk
        exact kk
  case tableswitch d lo hi offs => 
    have h : x_ts d lo hi offs pc st = some (pc', st') := h
    unfold x_ts at h
    split at h
    · split at h
      · rename_i h1
        obtain ⟨ht, rfl⟩ := x_gt_inv h
        exact lv_tableOut hexec hb hdg h1 ht kk
      · rename_i h1
        split at h
        · rename_i off ho
          obtain ⟨ht, rfl⟩ := x_gt_inv h
          exact lv_tableIn hexec hb hdg (fun q => h1 (Or.inl q)) (fun q => h1 (Or.inr q)) ho ht kk
        · cases h
    · cases h
end XS
-- the context of a method's body
def x_wsk (k : Nat) : List Jvm.Cond := Jvm.Cond.code (x_y k) (x_b k) (x_nL k) (x_rt k) :: x_w
def x_VM (D : va_G) (dA : Nat → ClassId) (U : State) : Prop := va_K D x_cl (x_tys dA) U ∧ (∀ w ∈ x_nest, va_Nw w U) ∧ ∀ C ∈ x_aos, va_AO C U
theorem x_VM_warm {D : va_G} {dA : Nat → ClassId} {u U : State} (hW : u.WarmedH U.vm) (h : x_VM D dA u) : x_VM D dA U := by
  refine ⟨va_K.moved hW.alike h.1, fun w hw => ?_, fun C hC => va_AO.moved hW.alike (h.2.2 C hC)⟩
  have h1 := h.2.1 w hw
  rcases s_nest w hw with ⟨a, i, x, n, d, g, rfl⟩ | ⟨a, i, x, g, rfl⟩
  · exact va_Nw.warmF hW h1
  · exact va_Nw.warmM hW h1
theorem x_VM_same {D : va_G} {dA : Nat → ClassId} {u U : State} (hv : u.vm = U.vm) (h : x_VM D dA u) : x_VM D dA U := by
  have ha : u.vm.Alike U.vm := by rw [hv]; exact Vm.Alike.refl _
  refine ⟨va_K.moved ha h.1, fun w hw => ?_, fun C hC => va_AO.moved ha (h.2.2 C hC)⟩
  have h1 := h.2.1 w hw
  rcases s_nest w hw with ⟨a, i, x, n, d, g, rfl⟩ | ⟨a, i, x, g, rfl⟩
  · exact va_Nw.same rfl hv h1
  · exact va_Nw.same rfl hv h1
def x_KS (b : Nat) (kad : Nat → Option Nat) (U : State) : Prop :=
  (∀ e ∈ x_gr, ∃ q, kad (1 + e.2.2.2) = some q ∧ vk_R e.1 e.2.1 e.2.2.1 q U) ∧
  (∀ i, i < x_gn → ∃ qk qv, kad (1 + i) = some qk ∧ kad (1000 + i) = some qv ∧ va_O "java/lang/String" qk (fun q => b ≤ q) U U.heap ∧ va_OF "java/lang/String" "coder" "B" (.int 0) qk (fun q => b ≤ q) U U.heap ∧ va_OF "java/lang/String" "value" "[B" (.ref qv) qk (fun q => b ≤ q) U U.heap ∧ va_T .byte qv (x_gl.getD i 0) (fun j => .int ((x_gb.getD i []).getD j 0)) (fun q => b ≤ q) U U.heap) ∧
  va_Z "java/lang/String" "COMPACT_STRINGS" "Z" (.int 1) (fun q => b ≤ q) U U.heap ∧ va_Z "jdk/internal/util/Preconditions" "SIOOBE_FORMATTER" "Ljava/util/function/BiFunction;" (va_rf (kad 2000)) (fun q => b ≤ q) U U.heap
def x_KC (b : Nat) (kad : Nat → Option Nat) (sc : x_Z) (U : State) : Prop := x_KS b kad U ∧ (∃ sa, kad 0 = some sa ∧ va_X sa sc.1 sc.2 U U.heap ∧ sa < b) ∧ ∀ j, j < 2000 → ∃ q, kad j = some q
theorem x_KC_warm {b : Nat} {kad : Nat → Option Nat} {sc : x_Z} {s U : State} {locs : List Loc} (h : x_KC b kad sc s) (hb : b ≤ s.heap.size) (hW : s.WarmedH U.vm) (hS : va_S (fun q => b ≤ q) s.heap U.heap locs) : x_KC b kad sc U := by
  obtain ⟨⟨h1, h2, h3, h4⟩, ⟨sa, h5, h6, h7⟩, h8⟩ := h
  have hq : ∀ a : Nat, a < s.heap.size → ¬ (fun q => b ≤ q) a → U.heap[a]? = s.heap[a]? := fun a ha hn => hS.2.1 a ha hn
  refine ⟨⟨fun e he => ?_, fun i hi => ?_, va_Z.moved hW.alike (h3.kept hq), va_Z.moved hW.alike (h4.kept hq)⟩, ⟨sa, h5, va_X.moved hW.alike (va_X.kept h6 (hq sa (Nat.lt_of_lt_of_le h7 hb) (fun z => Nat.lt_irrefl _ (Nat.lt_of_lt_of_le h7 z)))), h7⟩, h8⟩
  · obtain ⟨q, e1, e2⟩ := h1 e he
    exact ⟨q, e1, vk_R.warm hW e2⟩
  · obtain ⟨qk, qv, e1, e2, e3, e4, e5, e6⟩ := h2 i hi
    exact ⟨qk, qv, e1, e2, va_O.moved hW.alike (e3.kept hq), va_OF.moved hW.alike (e4.kept hq), va_OF.moved hW.alike (e5.kept hq), va_T.moved hW.alike (e6.kept hq)⟩
theorem x_KC_same {b : Nat} {kad : Nat → Option Nat} {sc : x_Z} {u U : State} (h : x_KC b kad sc u) (hv : U.vm = u.vm) (hh : U.heap = u.heap) : x_KC b kad sc U := by
  have ha : u.vm.Alike U.vm := by rw [hv]; exact Vm.Alike.refl _
  obtain ⟨⟨h1, h2, h3, h4⟩, ⟨sa, h5, h6, h7⟩, h8⟩ := h
  refine ⟨⟨fun e he => ?_, fun i hi => ?_, ?_, ?_⟩, ⟨sa, h5, ?_, h7⟩, h8⟩
  · obtain ⟨q, e1, e2⟩ := h1 e he
    exact ⟨q, e1, vk_R.same hv e2⟩
  · obtain ⟨qk, qv, e1, e2, e3, e4, e5, e6⟩ := h2 i hi
    rw [hh]
    exact ⟨qk, qv, e1, e2, va_O.moved ha e3, va_OF.moved ha e4, va_OF.moved ha e5, va_T.moved ha e6⟩
  · rw [hh]; exact va_Z.moved ha h3
  · rw [hh]; exact va_Z.moved ha h4
  · rw [hh]; exact va_X.moved ha h6
def x_cx (D : va_G) (dA : Nat → ClassId) (b : Nat) (kad : Nat → Option Nat) (sc : x_Z) (k : Nat) (p : Program) (s : State) (m : MethodId) (args : Array Value) (meth : Method) (c : Code) : Prop :=
  (p.tables.exec = Jvm.exec ∧ c.code = x_b k ∧ c.maxLocals = x_nL k ∧ meth.sig.returnType = x_rt k ∧ meth.locks = false ∧ ((x_y k).name = "<init>" → meth.name = "<init>") ∧ s.vm.findClass (x_y k).cls = some m.cls) ∧
  (∀ w ∈ x_w, w.before args s = true) ∧ x_VM D dA s ∧ x_KC b kad sc s ∧ b ≤ s.heap.size
def x_Pc (D : va_G) (dA : Nat → ClassId) (b : Nat) (kad : Nat → Option Nat) (sc : x_Z) (as : List Value) (h : x_H) : Array Value → State → Prop := fun v U =>
  v = (as.map (x_V b kad)).toArray ∧ U.heap.size = b + h.2.1 ∧ va_P D x_cl (x_ws dA b kad h) U.heap ∧ x_VM D dA U ∧ x_KC b kad sc U
def x_Q (D : va_G) (dA : Nat → ClassId) (b : Nat) (kad : Nat → Option Nat) (r : Option Value) (h : x_H) : Array Value → State → Outcome → State → Prop := fun _ st oc t =>
  (oc = .returned (r.map (x_V b kad)) ∧ va_P D x_cl (x_ws dA b kad h) t.heap) ∧ va_F (fun q => b ≤ q) st t
def x_rm (d mc ms : Nat) : Room := { frames := d, cells := mc, slots := ms, locals := 48 * d }
theorem x_Pc_blind {D : va_G} {dA : Nat → ClassId} {b : Nat} {kad : Nat → Option Nat} {sc : x_Z} {as : List Value} {h : x_H} : FrameBlind (x_Pc D dA b kad sc as h) := by
  intro a U g mk q
  obtain ⟨q0, q1, q2, q3, q4⟩ := q
  exact ⟨q0, q1, q2, x_VM_same (u := U) (U := U.calling g mk a) rfl q3, x_KC_same (u := U) (U := U.calling g mk a) q4 rfl rfl⟩
theorem x_RA_eq {U : State} {c1 c2 : ClassId} {ty : FieldType} (h1 : va_RA U c1 ty) (h2 : va_RA U c2 ty) : c1 = c2 := by
  cases ty with
  | object C =>
    obtain ⟨_, _, -, -, -, e1⟩ := h1
    obtain ⟨_, _, -, -, -, e2⟩ := h2
    exact Option.some.inj (e1.symm.trans e2)
  | _ => exact Option.some.inj (Eq.trans (Eq.symm h1) h2)
theorem x_new_q {D : va_G} {dA : Nat → ClassId} {b : Nat} {kad : Nat → Option Nat} {h : x_H} {q : Nat} {e : va_E} {H1 : Heap} (hP : va_P D x_cl (x_ws dA b kad h ++ [(q, e)]) H1) (hD : va_D (fun q => b ≤ q) (x_ws dA b kad h ++ [(q, e)])) (hz : H1.size ≤ b + h.2.1 + 1) : q = b + h.2.1 := by
  have hg : (x_ws dA b kad h ++ [(q, e)])[h.2.1]? = some (q, e) := by
    rw [List.getElem?_append_right (by rw [x_ws_len]; exact Nat.le_refl _), x_ws_len]
    simp
  have h1 : q < H1.size := (hP _ _ hg).lt
  have h2 : b ≤ q := hD.2 _ _ hg
  by_cases h3 : q < b + h.2.1
  · have hi : q - b < h.2.1 := by omega
    have hg2 : (x_ws dA b kad h ++ [(q, e)])[q - b]? = some (b + (q - b), x_E dA b kad (h.1 (q - b))) := by
      rw [List.getElem?_append_left (by rw [x_ws_len]; exact hi)]
      exact x_ws_get hi
    have := hD.1 _ _ _ _ hg2 hg (show b + (q - b) = q by omega)
    omega
  · omega
theorem x_fit_ok {b : Nat} {kad : Nat → Option Nat} {ty : FieldType} {v : Value} (h : x_fit ty v = true) : narrow ty (x_V b kad v) = x_V b kad v ∧ fits ty (x_V b kad v) = true := by
  cases ty <;> cases v <;> first
    | (simp [x_fit] at h; done)
    | exact ⟨rfl, rfl⟩
    | skip
  rename_i x
  have h2 : x = 0 ∨ x = 1 := by simpa [x_fit] using h
  rcases h2 with rfl | rfl
  · exact ⟨rfl, rfl⟩
  · exact ⟨rfl, rfl⟩
theorem x_A_up {b j v : Nat} {f : Nat → Option Nat} : (fun i => (va_up f j (some v) i).map (fun a => b + a)) = va_up (fun i => (f i).map (fun a => b + a)) j (some (b + v)) := by
  funext i
  unfold va_up
  split <;> rfl
section XT
variable {p : Program} {l : Launch} {e : Env} {R : Room} {s : State} {m : MethodId} {args : Array Value} {below : List Frame} {meth : Method} {c : Code} {H : Heap} {locs : List Loc} {cells slots : Nat} {Q : State → Prop}
variable {pc : Nat} {ls : Array Slot} {b : Nat} {kad : Nat → Option Nat} {D : va_G} {dA : Nat → ClassId} {sc : x_Z} {k : Nat} {h : x_H}
theorem x_cap {g : JFrame} (kk : H.size ≤ s.heap.size + cells → W p l e R s m args below meth c H locs cells slots Q g) : W p l e R s m args below meth c H locs cells slots Q g := fun T hT X => kk (by
  have h1 := X.same.2.2.1
  have h2 : (T.setVm s.vm).heap = T.heap := rfl
  rw [h2, hT] at h1
  exact h1) T hT X
theorem x_size {n0 : Nat} (hP : va_P D x_cl (x_ws dA b kad h) H) (hn : s.heap.size = b + n0) (hl : n0 ≤ h.2.1) (hz : s.heap.size ≤ H.size) (hc : H.size ≤ s.heap.size + (h.2.1 - n0)) : H.size = b + h.2.1 := by
  by_cases h0 : h.2.1 = n0
  · omega
  · have h1 : h.2.1 - 1 < h.2.1 := by omega
    have h2 := (hP _ _ (x_ws_get h1)).lt
    have h2 : b + (h.2.1 - 1) < H.size := h2
    omega
theorem x_gf_inv {k idx : Nat} {st st' : List Value} {h : x_H} (q : x_gf k idx st h = some st') : ∃ (a : Nat) (r : List Value) (ci : Nat) (fs : List Value) (sl : Nat) (ty : FieldType) (fl : Nat) (v : Value), st = .ref a :: r ∧ x_get h a = some (.inr (ci, fs)) ∧ x_fld k idx = some (ci, sl, ty, fl) ∧ fs[sl]? = some v ∧ st' = v :: r := by
  unfold x_gf at q
  split at q
  · split at q
    · rename_i hg
      split at q
      · rename_i hf
        split at q
        · rename_i e1
          subst e1
          split at q
          · rename_i hv
            cases q
            exact ⟨_, _, _, _, _, _, _, _, rfl, hg, hf, hv, rfl⟩
          · cases q
        · cases q
      · cases q
    · cases q
  · cases q
theorem x_ia_inv {sc : x_S} {st st' : List Value} {h : x_H} (q : x_ia sc st h = some st') : (∃ (j : Int32) (a : Nat) (r : List Value) (n : Nat) (f : Nat → Int32), st = .int j :: .ref a :: r ∧ x_get h a = some (.inl (0, n, .inl f)) ∧ x_in j n = true ∧ st' = .int (f j.toNatClampNeg) :: r) ∨ (∃ (z : x_Z) (j : Int32) (r : List Value), sc = some z ∧ st = .int j :: .retAddr 0 :: r ∧ x_in j z.1 = true ∧ st' = .int (z.2 j.toNatClampNeg) :: r) := by
  unfold x_ia at q
  split at q
  · split at q
    · rename_i hg
      split at q
      · rename_i e1
        obtain ⟨rfl, e2⟩ := e1
        cases q
        exact Or.inl ⟨_, _, _, _, _, rfl, hg, e2, rfl⟩
      · cases q
    · cases q
  · split at q
    · split at q
      · rename_i e1
        obtain ⟨rfl, e2⟩ := e1
        cases q
        exact Or.inr ⟨_, _, _, rfl, rfl, e2, rfl⟩
      · cases q
    · cases q
  · cases q
theorem x_la_inv {st st' : List Value} {h : x_H} (q : x_la st h = some st') : ∃ (j : Int32) (a : Nat) (r : List Value) (n : Nat) (f : Nat → Int64), st = .int j :: .ref a :: r ∧ x_get h a = some (.inl (1, n, .inr (.inl f))) ∧ x_in j n = true ∧ st' = .long (f j.toNatClampNeg) :: r := by
  unfold x_la at q
  split at q
  · split at q
    · rename_i hg
      split at q
      · rename_i e1
        obtain ⟨rfl, e2⟩ := e1
        cases q
        exact ⟨_, _, _, _, _, rfl, hg, e2, rfl⟩
      · cases q
    · cases q
  · cases q
theorem x_ca_inv {tt : Nat} {st st' : List Value} {h : x_H} (q : x_ca tt st h = some st') : ∃ (j : Int32) (a : Nat) (r : List Value) (n : Nat) (f : Nat → Int32), st = .int j :: .ref a :: r ∧ x_get h a = some (.inl (tt, n, .inl f)) ∧ x_in j n = true ∧ st' = .int (f j.toNatClampNeg) :: r := by
  unfold x_ca at q
  split at q
  · split at q
    · rename_i hg
      split at q
      · rename_i e1
        obtain ⟨rfl, e2⟩ := e1
        cases q
        exact ⟨_, _, _, _, _, rfl, hg, e2, rfl⟩
      · cases q
    · cases q
  · cases q
theorem x_aa_inv {st st' : List Value} {h : x_H} (q : x_aa st h = some st') : ∃ (j : Int32) (a : Nat) (r : List Value) (t n : Nat) (f : Nat → Option Nat) (ci : Nat), st = .int j :: .ref a :: r ∧ x_get h a = some (.inl (t, n, .inr (.inr (.inr (.inr f))))) ∧ x_cp t = some ci ∧ x_in j n = true ∧ st' = va_rf (f j.toNatClampNeg) :: r := by
  unfold x_aa at q
  split at q
  · split at q
    · rename_i hg
      split at q
      · rename_i hc
        split at q
        · rename_i e1
          cases q
          exact ⟨_, _, _, _, _, _, _, rfl, hg, hc, e1, rfl⟩
        · cases q
      · cases q
    · cases q
  · cases q
theorem x_al_inv {sc : x_S} {st st' : List Value} {h : x_H} (q : x_al sc st h = some st') : (∃ (a : Nat) (r : List Value) (t n : Nat) (f : (Nat → Int32) ⊕ (Nat → Int64) ⊕ (Nat → UInt32) ⊕ (Nat → UInt64) ⊕ (Nat → Option Nat)), st = .ref a :: r ∧ x_get h a = some (.inl (t, n, f)) ∧ t < x_ty.length ∧ st' = .int (Int32.ofNat n) :: r) ∨ (∃ (z : x_Z) (r : List Value), sc = some z ∧ st = .retAddr 0 :: r ∧ st' = .int (Int32.ofNat z.1) :: r) := by
  unfold x_al at q
  split at q
  · split at q
    · rename_i hg
      split at q
      · rename_i e1
        cases q
        exact Or.inl ⟨_, _, _, _, _, rfl, hg, e1, rfl⟩
      · cases q
    · cases q
  · split at q
    · split at q
      · rename_i e1
        subst e1
        cases q
        exact Or.inr ⟨_, _, rfl, rfl, rfl⟩
      · cases q
    · cases q
  · cases q
theorem x_or_inv {α : Type} {a b : Option α} {y : α} (q : x_or a b = some y) : a = some y ∨ b = some y := by
  unfold x_or at q
  split at q
  · exact Or.inl q
  · exact Or.inr q
theorem x_sg_inv {k idx : Nat} {st st' : List Value} (q : x_sg k idx st = some st') : ∃ (i : Nat) (r : List Value) (c : Nat), st = .retAddr (1 + i) :: r ∧ x_sfl k idx = some c ∧ i < x_gn ∧ (c = 0 → st' = .retAddr (1000 + i) :: r) ∧ (¬ c = 0 → st' = .int 0 :: r) := by
  unfold x_sg at q
  split at q
  · rename_i q0 r
    split at q
    · rename_i c hc
      split at q
      · rename_i hq
        refine ⟨q0 - 1, r, c, by rw [show 1 + (q0 - 1) = q0 by omega], hc, by omega, fun e => ?_, fun e => ?_⟩
        · rw [if_pos e] at q
          cases q
          rw [show 1000 + (q0 - 1) = 999 + q0 by omega]
        · rw [if_neg e] at q
          cases q
          rfl
      · cases q
    · cases q
  · cases q
theorem x_bb_inv {st st' : List Value} (q : x_bb st = some st') : ∃ (i : Nat) (j : Int32) (r : List Value), st = .int j :: .retAddr (1000 + i) :: r ∧ i < x_gn ∧ x_in j (x_gl.getD i 0) = true ∧ st' = .int ((x_gb.getD i []).getD j.toNatClampNeg 0) :: r := by
  unfold x_bb at q
  split at q
  · rename_i j q0 r
    split at q
    · rename_i hq
      cases q
      exact ⟨q0 - 1000, j, r, by rw [show 1000 + (q0 - 1000) = q0 by omega], by omega, hq.2.2, rfl⟩
    · cases q
  · cases q
theorem x_bl_inv {st st' : List Value} (q : x_bl st = some st') : ∃ (i : Nat) (r : List Value), st = .retAddr (1000 + i) :: r ∧ i < x_gn ∧ st' = .int (Int32.ofNat (x_gl.getD i 0)) :: r := by
  unfold x_bl at q
  split at q
  · rename_i q0 r
    split at q
    · rename_i hq
      cases q
      exact ⟨q0 - 1000, r, by rw [show 1000 + (q0 - 1000) = q0 by omega], by omega, rfl⟩
    · cases q
  · cases q
theorem x_gs_inv {k idx : Nat} {st st' : List Value} (q : x_gs k idx st = some st') : ∃ c, x_stt k idx = some c ∧ (c = 0 → st' = .int 1 :: st) ∧ (¬ c = 0 → st' = .retAddr 2000 :: st) := by
  unfold x_gs at q
  split at q
  · rename_i c hc
    refine ⟨c, hc, fun e => ?_, fun e => ?_⟩
    · rw [if_pos e] at q
      cases q
      rfl
    · rw [if_neg e] at q
      cases q
      rfl
  · cases q
theorem x_lcs_inv {k idx : Nat} {st st' : List Value} (q : x_lcs k idx st = some st') : ∃ v : Nat, x_con k idx = some (.retAddr v) ∧ st' = .retAddr v :: st := by
  unfold x_lcs at q
  split at q
  · rename_i hc
    cases q
    exact ⟨_, hc, rfl⟩
  · cases q
theorem x_lc_inv {k idx : Nat} {st st' : List Value} (q : x_lc k idx st = some st') : ∃ v : Int32, x_con k idx = some (.int v) ∧ st' = .int v :: st := by
  unfold x_lc at q
  split at q
  · rename_i hc
    cases q
    exact ⟨_, hc, rfl⟩
  · cases q
theorem x_ll2_inv {k idx : Nat} {st st' : List Value} (q : x_ll2 k idx st = some st') : ∃ v : Int64, x_con k idx = some (.long v) ∧ st' = .long v :: st := by
  unfold x_ll2 at q
  split at q
  · rename_i hc
    cases q
    exact ⟨_, hc, rfl⟩
  · cases q
set_option maxHeartbeats 4000000 in
theorem x_rd_ok (X : x_cx D dA b kad sc k p s m args meth c) {i : Instr} (hdg : decode (x_b k) pc = .ok (i, x_len i)) (hP : va_P D x_cl (x_ws dA b kad h) H) (hS : va_S (fun q => b ≤ q) s.heap H locs) {st st' : List Value} (q : x_rd (some sc) k i st h = some st')
    (kk : W p l e R s m args below meth c H locs cells slots Q (F0 m (pc + x_len i) ls (st'.map (x_V b kad)))) : W p l e R s m args below meth c H locs cells slots Q (F0 m pc ls (st.map (x_V b kad))) := by
  obtain ⟨⟨hexec, hb, hml, hrt, hlk, hnm, hown⟩, hts, ⟨hK, hN, hAO⟩, hKC, hbz⟩ := X
  obtain ⟨⟨hsr, hst, hZ1, hZ2⟩, ⟨sa, hsa, hX, hk0⟩, hkj⟩ := hKC
  have hkA : ¬ (fun q => b ≤ q) sa := fun q => Nat.lt_irrefl _ (Nat.lt_of_lt_of_le hk0 q)
  have esa : va_rf (kad 0) = .ref sa := by rw [hsa]; rfl
  cases i <;> first
    | (simp [x_rd] at q; done)
    | skip
  case getfield idx => 
    rcases x_or_inv (show x_or (x_gf k idx st h) (x_sg k idx st) = some st' from q) with q | q
    case inr =>
      obtain ⟨i, r, c0, rfl, hf, hi, he⟩ := x_sg_inv q
      obtain ⟨qk, qv, e1, e2, e3, e4, e5, e6⟩ := hst i hi
      have ek : va_rf (kad (1 + i)) = .ref qk := by rw [e1]; rfl
      show W p l e R s m args below meth c H locs cells slots Q (F0 m pc ls (va_rf (kad (1 + i)) :: r.map (x_V b kad)))
      rw [ek]
      rcases s_sfl hf with ⟨rfl, hl⟩ | ⟨rfl, hl⟩
      · have he := he.1 rfl
        subst he
        have kk : W p l e R s m args below meth c H locs cells slots Q (F0 m (pc + 3) ls (va_rf (kad (1000 + i)) :: r.map (x_V b kad))) := kk
        rw [e2] at kk
        exact vk_getf hexec hb e5 hS hown (hts _ hl) (fun _ z => z) hdg kk
      · have he := he.2 (by decide)
        subst he
        exact vk_getf hexec hb e4 hS hown (hts _ hl) (fun _ z => z) hdg kk
    obtain ⟨a, r, ci, fs, sl, ty, fl, v, rfl, hg, hf, hv, rfl⟩ := x_gf_inv q
    obtain ⟨C, T, N, ty0, hC, hsl, hw, hty, hnm2, -, -, -, hlink⟩ := s_fld hf
    have hv2 : (fs.map (x_V b kad))[sl]? = some (x_V b kad v) := by rw [List.getElem?_map, hv]; rfl
    rcases hlink with hlink | ⟨host, hlink⟩
    · exact va_get (D := D) (Ts := x_w) hexec hb hts hw hown hK hP a (x_get_ws hg) hC sl hsl (hts _ hlink) (fun _ z => z) hv2 hdg kk
    · exact va_getN (D := D) (Ts := x_w) hexec hb hts hw hown hK hP a (x_get_ws hg) hC sl hsl (va_Nw.use rfl (hN _ hlink)) (fun _ z => z) hv2 hdg kk
  case iaload => 
    rcases x_ia_inv (show x_ia (some sc) st h = some st' from q) with ⟨j, a, r, n, f, rfl, hg, hj, rfl⟩ | ⟨z, j, r, hz, rfl, hj, rfl⟩
    · exact va_iald (D := D) hexec hb hK hP a 0 (x_get_ws hg) (x_tys_get s_t0) (x_in_vp hj) hdg kk
    · cases hz
      show W p l e R s m args below meth c H locs cells slots Q (F0 m pc ls (.int j :: va_rf (kad 0) :: r.map (x_V b kad)))
      rw [esa]
      exact va_sld hexec hb hX (Nat.lt_of_lt_of_le hk0 hbz) hkA hS (x_in_vp hj) hdg kk
  case laload => 
    obtain ⟨j, a, r, n, f, rfl, hg, hj, rfl⟩ := x_la_inv q
    exact va_lald (D := D) hexec hb hK hP a 1 (x_get_ws hg) (x_tys_get s_t1) (x_in_vp hj) hdg kk
  case caload => 
    obtain ⟨j, a, r, n, f, rfl, hg, hj, rfl⟩ := x_ca_inv q
    exact va_cald (D := D) hexec hb hK hP a 2 (x_get_ws hg) (x_tys_get s_t2) (x_in_vp hj) hdg kk
  case baload => 
    rcases x_or_inv (show x_or (x_ca 3 st h) (x_bb st) = some st' from q) with q | q
    case inr =>
      obtain ⟨i, j, r, rfl, hi, hj, rfl⟩ := x_bb_inv q
      obtain ⟨qk, qv, e1, e2, e3, e4, e5, e6⟩ := hst i hi
      have ek : va_rf (kad (1000 + i)) = .ref qv := by rw [e2]; rfl
      show W p l e R s m args below meth c H locs cells slots Q (F0 m pc ls (.int j :: va_rf (kad (1000 + i)) :: r.map (x_V b kad)))
      rw [ek]
      exact va_tb hexec hb e6 hS (x_in_vp hj) rfl hdg kk
    obtain ⟨j, a, r, n, f, rfl, hg, hj, rfl⟩ := x_ca_inv q
    exact va_zald (D := D) hexec hb hK hP a 3 (x_get_ws hg) (x_tys_get s_t3) (x_in_vp hj) hdg kk
  case aaload => 
    obtain ⟨j, a, r, t, n, f, ci, rfl, hg, hc, hj, rfl⟩ := x_aa_inv q
    obtain ⟨r0, -, ht⟩ := s_cp hc
    refine va_aldq (D := D) hexec hb hK hP a t (x_get_ws hg) (x_tys_get ht) (x_in_vp hj) hdg ?_
    have e1 := x_V_rf b kad (f j.toNatClampNeg)
    rw [← e1]
    exact kk
  case arraylength => 
    rcases x_or_inv (show x_or (x_al (some sc) st h) (x_bl st) = some st' from q) with q | q
    case inr =>
      obtain ⟨i, r, rfl, hi, rfl⟩ := x_bl_inv q
      obtain ⟨qk, qv, e1, e2, e3, e4, e5, e6⟩ := hst i hi
      have ek : va_rf (kad (1000 + i)) = .ref qv := by rw [e2]; rfl
      show W p l e R s m args below meth c H locs cells slots Q (F0 m pc ls (va_rf (kad (1000 + i)) :: r.map (x_V b kad)))
      rw [ek]
      exact va_tlen hexec hb e6 hS rfl hdg kk
    rcases x_al_inv q with ⟨a, r, t, n, f, rfl, hg, ht, rfl⟩ | ⟨z, r, hz, rfl, rfl⟩
    · exact va_alen (D := D) hexec hb hK hP a t (x_get_ws hg) (x_tys_get (List.getElem?_eq_getElem ht)) rfl hdg kk
    · cases hz
      show W p l e R s m args below meth c H locs cells slots Q (F0 m pc ls (va_rf (kad 0) :: r.map (x_V b kad)))
      rw [esa]
      exact va_slen hexec hb hX (Nat.lt_of_lt_of_le hk0 hbz) hkA hS hdg kk
  case getstatic idx => 
    obtain ⟨c0, hc, he⟩ := x_gs_inv q
    rcases s_stt hc with ⟨rfl, hl⟩ | ⟨rfl, hl⟩
    · have he := he.1 rfl
      subst he
      exact va_gets hexec hb hZ1 hS hown (hts _ hl) (fun _ z => z) hdg kk
    · have he := he.2 (by decide)
      subst he
      exact va_gets hexec hb hZ2 hS hown (hts _ hl) (fun _ z => z) hdg kk
  case ldc idx => 
    rcases x_or_inv (show x_or (x_lc k idx st) (x_lcs k idx st) = some st' from q) with q | q
    case inr =>
      obtain ⟨v, hc, rfl⟩ := x_lcs_inv q
      obtain ⟨i, t, rfl, hi, hm⟩ := s_cons hc
      obtain ⟨q2, e1, e2⟩ := hsr _ hm
      have ek : va_rf (kad (1 + i)) = .ref q2 := by rw [e1]; rfl
      have kk : W p l e R s m args below meth c H locs cells slots Q (F0 m (pc + 2) ls (va_rf (kad (1 + i)) :: st.map (x_V b kad))) := kk
      rw [ek] at kk
      exact va_ldcS hexec hb hown e2 hdg kk
    obtain ⟨v, hc, rfl⟩ := x_lc_inv q
    exact lv_ldc hexec hb hown (hts _ (s_coni hc)) hdg kk
  case ldc_w idx => 
    obtain ⟨v, hc, rfl⟩ := x_lc_inv q
    exact lv_ldcw hexec hb hown (hts _ (s_coni hc)) hdg kk
  case ldc2_w idx => 
    obtain ⟨v, hc, rfl⟩ := x_ll2_inv q
    exact lv_ldc2 hexec hb hown (hts _ (s_conl hc)) hdg kk
theorem x_pf_inv {k idx : Nat} {st st' : List Value} {h h' : x_H} (q : x_pf k idx st h = some (st', h')) : ∃ (v : Value) (a : Nat) (ci : Nat) (fs : List Value) (sl : Nat) (ty : FieldType) (fl : Nat), st = v :: .ref a :: st' ∧ x_get h a = some (.inr (ci, fs)) ∧ x_fld k idx = some (ci, sl, ty, fl) ∧ x_fit ty v = true ∧ sl < fs.length ∧ fl < 2 ∧ h' = x_up h a (.inr (ci, fs.set sl v)) := by
  unfold x_pf at q
  split at q
  · split at q
    · rename_i hg
      split at q
      · rename_i hf
        split at q
        · rename_i e1
          obtain ⟨rfl, e2, e3, e4⟩ := e1
          cases q
          exact ⟨_, _, _, _, _, _, _, rfl, hg, hf, e2, e3, e4, rfl⟩
        · cases q
      · cases q
    · cases q
  · cases q
theorem x_is_inv {tt : Nat} {g : Int32 → Int32} {st st' : List Value} {h h' : x_H} (q : x_is tt g st h = some (st', h')) : ∃ (x j : Int32) (a n : Nat) (f : Nat → Int32), st = .int x :: .int j :: .ref a :: st' ∧ x_get h a = some (.inl (tt, n, .inl f)) ∧ x_in j n = true ∧ h' = x_up h a (.inl (tt, n, .inl (upd f j.toNatClampNeg (g x)))) := by
  unfold x_is at q
  split at q
  · split at q
    · rename_i hg
      split at q
      · rename_i e1
        obtain ⟨rfl, e2⟩ := e1
        cases q
        exact ⟨_, _, _, _, _, rfl, hg, e2, rfl⟩
      · cases q
    · cases q
  · cases q
theorem x_ls_inv {st st' : List Value} {h h' : x_H} (q : x_ls st h = some (st', h')) : ∃ (x : Int64) (j : Int32) (a n : Nat) (f : Nat → Int64), st = .long x :: .int j :: .ref a :: st' ∧ x_get h a = some (.inl (1, n, .inr (.inl f))) ∧ x_in j n = true ∧ h' = x_up h a (.inl (1, n, .inr (.inl (vp_updL f j.toNatClampNeg x)))) := by
  unfold x_ls at q
  split at q
  · split at q
    · rename_i hg
      split at q
      · rename_i e1
        obtain ⟨rfl, e2⟩ := e1
        cases q
        exact ⟨_, _, _, _, _, rfl, hg, e2, rfl⟩
      · cases q
    · cases q
  · cases q
theorem x_aok2_inv {d kd : Nat} {r : List Value} {sp dp n : Int32} {n0 n1 : Nat} (q : x_aok2 d kd r sp dp n n0 n1 = true) : kd = 8 ∧ ¬ d = 0 ∧ x_cs r ≤ 8 ∧ ¬ sp < 0 ∧ ¬ dp < 0 ∧ ¬ n < 0 ∧ sp.toNatClampNeg + n.toNatClampNeg ≤ n0 ∧ dp.toNatClampNeg + n.toNatClampNeg ≤ n1 := by
  unfold x_aok2 at q
  simpa only [Bool.and_eq_true, decide_eq_true_eq] using q
theorem x_aci_inv {d k idx : Nat} {st st' : List Value} {h h' : x_H} (q : x_aci d k idx st h = some (st', h')) : ∃ (n dp : Int32) (a1 : Nat) (sp : Int32) (a0 kc kd z n0 n1 : Nat) (f g : Nat → Int32), st = .int n :: .int dp :: .ref a1 :: .int sp :: .ref a0 :: st' ∧ x_mth k idx = some (kc, kd, z) ∧ x_get h a0 = some (.inl (0, n0, .inl f)) ∧ x_get h a1 = some (.inl (0, n1, .inl g)) ∧ x_aok2 d kd st' sp dp n n0 n1 = true ∧ h' = x_up h a1 (.inl (0, n1, .inl (va_cpy f g sp.toNatClampNeg dp.toNatClampNeg n.toNatClampNeg))) := by
  unfold x_aci at q
  split at q
  · split at q
    · rename_i hm
      split at q
      · rename_i h0
        split at q
        · rename_i h1
          split at q
          · rename_i e1
            obtain ⟨rfl, rfl, e2⟩ := e1
            cases q
            exact ⟨_, _, _, _, _, _, _, _, _, _, _, _, rfl, hm, h0, h1, e2, rfl⟩
          · cases q
        · cases q
      · cases q
    · cases q
  · cases q
theorem x_acl_inv {d k idx : Nat} {st st' : List Value} {h h' : x_H} (q : x_acl d k idx st h = some (st', h')) : ∃ (n dp : Int32) (a1 : Nat) (sp : Int32) (a0 kc kd z n0 n1 : Nat) (f g : Nat → Int64), st = .int n :: .int dp :: .ref a1 :: .int sp :: .ref a0 :: st' ∧ x_mth k idx = some (kc, kd, z) ∧ x_get h a0 = some (.inl (1, n0, .inr (.inl f))) ∧ x_get h a1 = some (.inl (1, n1, .inr (.inl g))) ∧ x_aok2 d kd st' sp dp n n0 n1 = true ∧ h' = x_up h a1 (.inl (1, n1, .inr (.inl (va_cpy f g sp.toNatClampNeg dp.toNatClampNeg n.toNatClampNeg)))) := by
  unfold x_acl at q
  split at q
  · split at q
    · rename_i hm
      split at q
      · rename_i h0
        split at q
        · rename_i h1
          split at q
          · rename_i e1
            obtain ⟨rfl, rfl, e2⟩ := e1
            cases q
            exact ⟨_, _, _, _, _, _, _, _, _, _, _, _, rfl, hm, h0, h1, e2, rfl⟩
          · cases q
        · cases q
      · cases q
    · cases q
  · cases q
theorem x_as_inv {st st' : List Value} {h h' : x_H} (q : x_as st h = some (st', h')) : ∃ (v : Nat) (j : Int32) (a t n : Nat) (f : Nat → Option Nat) (ci : Nat) (vs : List Value), st = .ref v :: .int j :: .ref a :: st' ∧ x_get h a = some (.inl (t, n, .inr (.inr (.inr (.inr f))))) ∧ x_get h v = some (.inr (ci, vs)) ∧ x_in j n = true ∧ x_cp t = some ci ∧ h' = x_up h a (.inl (t, n, .inr (.inr (.inr (.inr (va_up f j.toNatClampNeg (some v))))))) := by
  unfold x_as at q
  split at q
  · split at q
    · rename_i hg
      split at q
      · rename_i hv
        split at q
        · rename_i e1
          obtain ⟨e2, e3⟩ := e1
          cases q
          exact ⟨_, _, _, _, _, _, _, _, rfl, hg, hv, e2, e3, rfl⟩
        · cases q
      · cases q
    · cases q
  · cases q
set_option maxHeartbeats 4000000 in
theorem x_wr_ok (X : x_cx D dA b kad sc k p s m args meth c) {i : Instr} (hdg : decode (x_b k) pc = .ok (i, x_len i)) (hP : va_P D x_cl (x_ws dA b kad h) H) (hS : va_S (fun q => b ≤ q) s.heap H locs) {h' : x_H} {st st' : List Value} (hls : ls.size = x_nL k) {d : Nat} (hR : d ≤ R.frames ∧ 48 * d ≤ R.locals) (q : x_wr d k i st h = some (st', h'))
    (kk : ∀ (H1 : Heap) (locs1 : List Loc), va_P D x_cl (x_ws dA b kad h') H1 → va_S (fun q => b ≤ q) s.heap H1 locs1 → W p l e R s m args below meth c H1 locs1 cells slots Q (F0 m (pc + x_len i) ls (st'.map (x_V b kad)))) : W p l e R s m args below meth c H locs cells slots Q (F0 m pc ls (st.map (x_V b kad))) := by
  obtain ⟨⟨hexec, hb, hml, hrt, hlk, hnm, hown⟩, hts, ⟨hK, hN, hAO⟩, hKC, hbz⟩ := X
  cases i <;> first
    | (simp [x_wr] at q; done)
    | skip
  case putfield idx => 
    obtain ⟨v, a, ci, fs, sl, ty, fl, rfl, hg, hf, hfit, hl, hfl, rfl⟩ := x_pf_inv q
    obtain ⟨C, T, N, ty0, hC, hsl, hw, hty, hnm2, ety, hf0, hf1, hlink⟩ := s_fld hf
    obtain ⟨ha, -⟩ := x_get_inv hg
    have hl2 : sl < (fs.map (x_V b kad)).length := by rw [List.length_map]; exact hl
    obtain ⟨hn1, hn2⟩ := x_fit_ok (b := b) (kad := kad) hfit
    have hd : parseFieldDescriptor (T sl).2.2.1 = some ty := by rw [hty sl hsl, ety]
    have hin : ∀ w ∈ u_ws C T N, w ∈ x_w := hw
    have kk2 : ∀ (H1 : Heap) (locs1 : List Loc), va_P D x_cl ((x_ws dA b kad h).set a (b + a, .inr (ci, (fs.map (x_V b kad)).set sl (x_V b kad v)))) H1 → va_D (fun q => b ≤ q) ((x_ws dA b kad h).set a (b + a, .inr (ci, (fs.map (x_V b kad)).set sl (x_V b kad v)))) → va_S (fun q => b ≤ q) s.heap H1 locs1 → W p l e R s m args below meth c H1 locs1 cells slots Q (F0 m (pc + 3) ls (st'.map (x_V b kad))) := fun H1 locs1 hP1 _ hS1 => by
      refine kk H1 locs1 ?_ hS1
      rw [← x_ws_up ha]
      have e1 : x_E dA b kad (.inr (ci, fs.set sl v)) = .inr (ci, (fs.map (x_V b kad)).set sl (x_V b kad v)) := by simp [x_E, List.map_set]
      rw [e1]
      exact hP1
    by_cases h0 : fl = 0
    · rcases hlink with hlink | ⟨host, hlink⟩
      · exact va_put (D := D) (Ts := x_w) hexec hb hts hin ty0 hty hnm2 hown hK hP x_ws_D hS a (x_get_ws hg) hC sl hsl (hts _ hlink) (fun _ z => z) (hf0 h0) hd hn1 hn2 hl2 hdg kk2
      · exact va_putN (D := D) (Ts := x_w) hexec hb hts hin ty0 hty hnm2 hown hK hP x_ws_D hS a (x_get_ws hg) hC sl hsl (va_Nw.use rfl (hN _ hlink)) (fun _ z => z) (hf0 h0) hd hn1 hn2 hl2 hdg kk2
    · obtain ⟨g1, g2, g3, g4⟩ := hf1 (by omega)
      exact va_putF (D := D) (Ts := x_w) hexec hb hts hin ty0 hty hnm2 hown hK hP x_ws_D hS a (x_get_ws hg) hC sl hsl (hts _ g4) (fun _ z => z) g1 (hnm g2) g3 hd hn1 hn2 hl2 hdg kk2
  case invokestatic idx => 
    rcases x_or_inv (show x_or (x_aci d k idx st h) (x_acl d k idx st h) = some (st', h') from q) with q | q
    case inl =>
      replace q := x_aci_inv q
      obtain ⟨n, dp, a1, sp, a0, kc, kd, z, n0, n1, f, g, rfl, hm, g0, g1, hok, rfl⟩ := q
      obtain ⟨rfl, hd, hr, h1, h2, h3, h4, h5⟩ := x_aok2_inv hok
      obtain ⟨m1, m2, m3, m4⟩ := s_m8 hm
      obtain ⟨ha, -⟩ := x_get_inv g1
      have hr2 : ((st'.map (x_V b kad)).map fun v => v.category).sum ≤ 8 := by rw [x_cs_map]; exact hr
      refine va_copyi (D := D) hexec hb (by rw [hml, hls]) hown (hts _ m1) (hts _ m2) (hts _ m3) (hts _ m4) hK hP x_ws_D hS a0 a1 0 0 (x_get_ws g0) (x_get_ws g1) (x_tys_get s_t0) (x_tys_get s_t0) rfl h1 h2 h3 h4 h5 (fun _ _ => rfl) (by omega) (by show _ + (7 + 11) ≤ _; omega) hdg (fun H1 locs1 hP1 _ hS1 => kk H1 locs1 ?_ hS1)
      rw [← x_ws_up ha]
      exact hP1
    case inr =>
      replace q := x_acl_inv q
      obtain ⟨n, dp, a1, sp, a0, kc, kd, z, n0, n1, f, g, rfl, hm, g0, g1, hok, rfl⟩ := q
      obtain ⟨rfl, hd, hr, h1, h2, h3, h4, h5⟩ := x_aok2_inv hok
      obtain ⟨m1, m2, m3, m4⟩ := s_m8 hm
      obtain ⟨ha, -⟩ := x_get_inv g1
      have hr2 : ((st'.map (x_V b kad)).map fun v => v.category).sum ≤ 8 := by rw [x_cs_map]; exact hr
      refine va_copyl (D := D) hexec hb (by rw [hml, hls]) hown (hts _ m1) (hts _ m2) (hts _ m3) (hts _ m4) hK hP x_ws_D hS a0 a1 1 1 (x_get_ws g0) (x_get_ws g1) (x_tys_get s_t1) (x_tys_get s_t1) rfl h1 h2 h3 h4 h5 (fun _ _ => rfl) (by omega) (by show _ + (7 + 11) ≤ _; omega) hdg (fun H1 locs1 hP1 _ hS1 => kk H1 locs1 ?_ hS1)
      rw [← x_ws_up ha]
      exact hP1
  case iastore => 
    obtain ⟨x, j, a, n, f, rfl, hg, hj, rfl⟩ := x_is_inv q
    obtain ⟨ha, -⟩ := x_get_inv hg
    refine va_iast (D := D) hexec hb hK hP x_ws_D hS a 0 (x_get_ws hg) (x_tys_get s_t0) (x_in_vp hj) hdg (fun H1 locs1 hP1 _ hS1 => kk H1 locs1 ?_ hS1)
    rw [← x_ws_up ha]
    exact hP1
  case castore => 
    obtain ⟨x, j, a, n, f, rfl, hg, hj, rfl⟩ := x_is_inv q
    obtain ⟨ha, -⟩ := x_get_inv hg
    refine va_cast (D := D) hexec hb hK hP x_ws_D hS a 2 (x_get_ws hg) (x_tys_get s_t2) (x_in_vp hj) hdg (fun H1 locs1 hP1 _ hS1 => kk H1 locs1 ?_ hS1)
    rw [← x_ws_up ha]
    exact hP1
  case bastore => 
    obtain ⟨x, j, a, n, f, rfl, hg, hj, rfl⟩ := x_is_inv q
    obtain ⟨ha, -⟩ := x_get_inv hg
    refine va_zast (D := D) hexec hb hK hP x_ws_D hS a 3 (x_get_ws hg) (x_tys_get s_t3) (x_in_vp hj) hdg (fun H1 locs1 hP1 _ hS1 => kk H1 locs1 ?_ hS1)
    rw [← x_ws_up ha]
    exact hP1
  case lastore => 
    obtain ⟨x, j, a, n, f, rfl, hg, hj, rfl⟩ := x_ls_inv q
    obtain ⟨ha, -⟩ := x_get_inv hg
    refine va_last (D := D) hexec hb hK hP x_ws_D hS a 1 (x_get_ws hg) (x_tys_get s_t1) (x_in_vp hj) hdg (fun H1 locs1 hP1 _ hS1 => kk H1 locs1 ?_ hS1)
    rw [← x_ws_up ha]
    exact hP1
  case aastore => 
    obtain ⟨v, j, a, t, n, f, ci, vs, rfl, hg, hv, hj, hc, rfl⟩ := x_as_inv q
    obtain ⟨ha, -⟩ := x_get_inv hg
    obtain ⟨r0, hr0, ht⟩ := s_cp hc
    refine va_astq (D := D) hexec hb hK hP x_ws_D hS a t v ci (x_get_ws hg) (x_tys_get ht) (x_get_ws hv) hr0 (x_in_vp hj) hdg (fun H1 locs1 hP1 _ hS1 => kk H1 locs1 ?_ hS1)
    rw [← x_ws_up ha]
    have e1 : x_E dA b kad (.inl (t, n, .inr (.inr (.inr (.inr (va_up f j.toNatClampNeg (some v))))))) = .inl (dA t, n, .inr (.inr (.inr (.inr (va_up (fun i => (f i).map (fun a => b + a)) j.toNatClampNeg (some (b + v))))))) := by
      simp only [x_E, x_A]
      rw [x_A_up]
    rw [e1]
    exact hP1
theorem x_no_inv {k idx : Nat} {st st' : List Value} {h h' : x_H} (q : x_no k idx st h = some (st', h')) : ∃ (ci : Nat) (fs : List Value), x_cls k idx = some (ci, fs) ∧ st' = .ref h.2.1 :: st ∧ h' = x_nw h (.inr (ci, fs)) fs.length := by
  unfold x_no at q
  split at q
  · rename_i hc
    cases q
    exact ⟨_, _, hc, rfl, rfl⟩
  · cases q
theorem x_na_inv {ty : Jvm.ClassFile.ArrayType} {st st' : List Value} {h h' : x_H} (q : x_na ty st h = some (st', h')) : ∃ (n : Int32) (r : List Value) (e : x_C), st = .int n :: r ∧ ¬ n < 0 ∧ n.toNatClampNeg ≤ 65536 ∧ x_a0 ty n.toNatClampNeg = some e ∧ st' = .ref h.2.1 :: r ∧ h' = x_nw h e n.toNatClampNeg := by
  unfold x_na at q
  split at q
  · split at q
    · cases q
    · rename_i hn
      split at q
      · rename_i he
        cases q
        exact ⟨_, _, _, rfl, fun z => hn (Or.inl z), Nat.not_lt.mp (fun z => hn (Or.inr z)), he, rfl, rfl⟩
      · cases q
  · cases q
theorem x_nr_inv {k idx : Nat} {st st' : List Value} {h h' : x_H} (q : x_nr k idx st h = some (st', h')) : ∃ (n : Int32) (r : List Value) (t : Nat), st = .int n :: r ∧ ¬ n < 0 ∧ n.toNatClampNeg ≤ 65536 ∧ x_anw k idx = some t ∧ st' = .ref h.2.1 :: r ∧ h' = x_nw h (.inl (t, n.toNatClampNeg, .inr (.inr (.inr (.inr (fun _ => none)))))) n.toNatClampNeg := by
  unfold x_nr at q
  split at q
  · split at q
    · cases q
    · rename_i hn
      split at q
      · rename_i he
        cases q
        exact ⟨_, _, _, rfl, fun z => hn (Or.inl z), Nat.not_lt.mp (fun z => hn (Or.inr z)), he, rfl, rfl⟩
      · cases q
  · cases q
theorem x_K_last {D : va_G} {dA : Nat → ClassId} {U : State} {t : Nat} {ty : FieldType} {cA : ClassId} (hK : va_K D x_cl (x_tys dA) U) (hK2 : va_K D x_cl (x_tys dA ++ [(cA, ty)]) U) (ht : x_ty[t]? = some ty) : cA = dA t := by
  have h1 := (hK.2 t _ (x_tys_get ht)).2
  have h2 := (hK2.2 (x_tys dA).length (cA, ty) (by simp)).2
  exact x_RA_eq h2 h1
set_option maxHeartbeats 4000000 in
theorem x_mk_ok (X : x_cx D dA b kad sc k p s m args meth c) {i : Instr} (hdg : decode (x_b k) pc = .ok (i, x_len i)) {n0 s0 : Nat} (hz : s.heap.size = b + n0) (hn0 : n0 ≤ h.2.1) (hs0 : s0 ≤ h.2.2) (hP : va_P D x_cl (x_ws dA b kad h) H) (hS : va_S (fun q => b ≤ q) s.heap H locs) {h' : x_H} {st st' : List Value} (q : x_mk k i st h = some (st', h')) (hc : h'.2.1 - n0 ≤ R.cells ∧ h'.2.2 - s0 ≤ R.slots)
    (kk : ∀ (H1 : Heap), va_P D x_cl (x_ws dA b kad h') H1 → va_S (fun q => b ≤ q) s.heap H1 locs → W p l e R s m args below meth c H1 locs (h'.2.1 - n0) (h'.2.2 - s0) Q (F0 m (pc + x_len i) ls (st'.map (x_V b kad)))) : W p l e R s m args below meth c H locs (h.2.1 - n0) (h.2.2 - s0) Q (F0 m pc ls (st.map (x_V b kad))) := by
  obtain ⟨⟨hexec, hb, hml, hrt, hlk, hnm, hown⟩, hts, ⟨hK, hN, hAO⟩, hKC, hbz⟩ := X
  have hA : ∀ q : Nat, s.heap.size ≤ q → (fun q => b ≤ q) q := fun q z => Nat.le_trans hbz z
  cases i <;> first
    | (simp [x_mk] at q; done)
    | skip
  case new idx => 
    obtain ⟨ci, fs, hcl, rfl, rfl⟩ := x_no_inv q
    obtain ⟨C, T, N, ty0, hC, hw, hty, hlink, hinst, hini, hlen, hfs, hnr⟩ := s_cls hcl
    subst hlen
    have h1 : (x_nw h (.inr (ci, fs)) fs.length).2.1 = h.2.1 + 1 := rfl
    have h2 : (x_nw h (.inr (ci, fs)) fs.length).2.2 = h.2.2 + fs.length := rfl
    rw [h1, h2] at hc
    have em : fs.map (x_V b kad) = fs := by
      conv => rhs; rw [← List.map_id fs]
      apply List.map_congr_left
      intro v hv
      rcases hnr v hv with rfl | rfl | rfl <;> rfl
    refine va_new (D := D) (Ts := x_w) hexec hb hts hw ty0 hty hown (hts _ hlink) (hts _ hinst) (hts _ hini) hK hP x_ws_D hS hA hC hfs (by omega) (by omega) hdg (fun q1 H1 hP1 hD1 hS1 => ?_)
    refine x_cap (fun hcap => ?_)
    have e1 : q1 = b + h.2.1 := x_new_q hP1 hD1 (by omega)
    subst e1
    refine W.widen (k := (x_nw h (.inr (ci, fs)) fs.length).2.1 - n0) (n := (x_nw h (.inr (ci, fs)) fs.length).2.2 - s0) (by rw [h1]; omega) (by rw [h2]; omega) ?_
    refine kk H1 ?_ hS1
    rw [x_ws_nw]
    have e2 : x_E dA b kad (.inr (ci, fs)) = .inr (ci, fs) := by simp only [x_E]; rw [em]
    rw [e2]
    exact hP1
  case newarray ty => 
    obtain ⟨n, r, e0, rfl, hn, hn2, he, rfl, rfl⟩ := x_na_inv q
    have h1 : (x_nw h e0 n.toNatClampNeg).2.1 = h.2.1 + 1 := rfl
    have h2 : (x_nw h e0 n.toNatClampNeg).2.2 = h.2.2 + n.toNatClampNeg := rfl
    rw [h1, h2] at hc
    have fin : ∀ (t : Nat) (ty1 : FieldType) (a0 : vp_A), x_ty[t]? = some ty1 → e0 = .inl (t, a0) → x_E dA b kad (.inl (t, a0)) = .inl (dA t, a0) → ∀ (q1 : Nat) (cA : ClassId) (H1 : Heap), va_K D x_cl (x_tys dA ++ [(cA, ty1)]) s → va_P D x_cl (x_ws dA b kad h ++ [(q1, .inl (cA, a0))]) H1 → va_D (fun q => b ≤ q) (x_ws dA b kad h ++ [(q1, .inl (cA, a0))]) → va_S (fun q => b ≤ q) s.heap H1 locs → W p l e R s m args below meth c H1 locs (h.2.1 - n0 + 1) (h.2.2 - s0 + n.toNatClampNeg) Q (F0 m (pc + 2) ls (.ref q1 :: r.map (x_V b kad))) := fun t ty1 a0 ht e1 ex q1 cA H1 hK1 hP1 hD1 hS1 => by
      refine x_cap (fun hcap => ?_)
      have e2 : q1 = b + h.2.1 := x_new_q hP1 hD1 (by omega)
      have e3 : cA = dA t := x_K_last hK hK1 ht
      subst e2
      subst e3
      refine W.widen (k := (x_nw h e0 n.toNatClampNeg).2.1 - n0) (n := (x_nw h e0 n.toNatClampNeg).2.2 - s0) (by rw [h1]; omega) (by rw [h2]; omega) ?_
      refine kk H1 ?_ hS1
      rw [x_ws_nw, e1, ex]
      exact hP1
    cases ty <;> first
      | (simp [x_a0] at he; done)
      | skip
    · have he : some (Sum.inl (3, n.toNatClampNeg, .inl (fun _ => 0))) = some e0 := he
      exact va_newa (D := D) (atype := .boolean) (a0 := (n.toNatClampNeg, .inl (fun _ => 0))) hexec hb (hts _ s_a3) rfl hK hP x_ws_D hS hA (fun _ => rfl) hn rfl (show n.toNatClampNeg * 1 ≤ 536870912 by omega) (by omega) (by omega) hdg (fin 3 .boolean (n.toNatClampNeg, .inl (fun _ => 0)) s_t3 (Option.some.inj he).symm rfl)
    · have he : some (Sum.inl (2, n.toNatClampNeg, .inl (fun _ => 0))) = some e0 := he
      exact va_newa (D := D) (atype := .char) (a0 := (n.toNatClampNeg, .inl (fun _ => 0))) hexec hb (hts _ s_a2) rfl hK hP x_ws_D hS hA (fun _ => rfl) hn rfl (show n.toNatClampNeg * 2 ≤ 536870912 by omega) (by omega) (by omega) hdg (fin 2 .char (n.toNatClampNeg, .inl (fun _ => 0)) s_t2 (Option.some.inj he).symm rfl)
    · have he : some (Sum.inl (0, n.toNatClampNeg, .inl (fun _ => 0))) = some e0 := he
      exact va_newa (D := D) (atype := .int) (a0 := (n.toNatClampNeg, .inl (fun _ => 0))) hexec hb (hts _ s_a0) rfl hK hP x_ws_D hS hA (fun _ => rfl) hn rfl (show n.toNatClampNeg * 4 ≤ 536870912 by omega) (by omega) (by omega) hdg (fin 0 .int (n.toNatClampNeg, .inl (fun _ => 0)) s_t0 (Option.some.inj he).symm rfl)
    · have he : some (Sum.inl (1, n.toNatClampNeg, .inr (.inl (fun _ => 0)))) = some e0 := he
      exact va_newa (D := D) (atype := .long) (a0 := (n.toNatClampNeg, .inr (.inl (fun _ => 0)))) hexec hb (hts _ s_a1) rfl hK hP x_ws_D hS hA (fun _ => rfl) hn rfl (show n.toNatClampNeg * 8 ≤ 536870912 by omega) (by omega) (by omega) hdg (fin 1 .long (n.toNatClampNeg, .inr (.inl (fun _ => 0))) s_t1 (Option.some.inj he).symm rfl)
  case anewarray idx => 
    obtain ⟨n, r, t, rfl, hn, hn2, ht0, rfl, rfl⟩ := x_nr_inv q
    obtain ⟨C, hlink, ht, hao⟩ := s_anw ht0
    have h1 : (x_nw h (.inl (t, n.toNatClampNeg, .inr (.inr (.inr (.inr (fun _ => none)))))) n.toNatClampNeg).2.1 = h.2.1 + 1 := rfl
    have h2 : (x_nw h (.inl (t, n.toNatClampNeg, .inr (.inr (.inr (.inr (fun _ => none)))))) n.toNatClampNeg).2.2 = h.2.2 + n.toNatClampNeg := rfl
    rw [h1, h2] at hc
    refine va_newq (D := D) hexec hb hown (hts _ hlink) (hAO _ hao) hK hP x_ws_D hS hA hn rfl (by omega) (by omega) (by omega) hdg (fun q1 cA H1 hK1 hP1 hD1 hS1 => ?_)
    refine x_cap (fun hcap => ?_)
    have e2 : q1 = b + h.2.1 := x_new_q hP1 hD1 (by omega)
    have e3 : cA = dA t := x_K_last hK hK1 ht
    subst e2
    subst e3
    refine W.widen (k := (x_nw h (.inl (t, n.toNatClampNeg, .inr (.inr (.inr (.inr (fun _ => none)))))) n.toNatClampNeg).2.1 - n0) (n := (x_nw h (.inl (t, n.toNatClampNeg, .inr (.inr (.inr (.inr (fun _ => none)))))) n.toNatClampNeg).2.2 - s0) (by rw [h1]; omega) (by rw [h2]; omega) ?_
    refine kk H1 ?_ hS1
    rw [x_ws_nw]
    exact hP1
theorem x_oi_inv {d k idx : Nat} {st st' : List Value} (q : x_oi d k idx st = some st') : ∃ (a kc n : Nat), st = .ref a :: st' ∧ x_mth k idx = some (kc, 3, n) ∧ ¬ d = 0 ∧ x_cs st' ≤ 8 := by
  unfold x_oi at q
  split at q
  · rename_i hm
    split at q
    · split at q
      · rename_i e1
        obtain ⟨rfl, e2, e3⟩ := e1
        cases q
        exact ⟨_, _, _, rfl, hm, e2, e3⟩
      · cases q
    · cases q
  · cases q
theorem x_mm_inv {d k idx : Nat} {st st' : List Value} (q : x_mm d k idx st = some st') : ∃ (x y : Int32) (r : List Value) (kc n : Nat), st = .int y :: .int x :: r ∧ x_mth k idx = some (kc, 4, n) ∧ ¬ d = 0 ∧ x_cs r ≤ 8 ∧ st' = .int (if y < x then y else x) :: r := by
  unfold x_mm at q
  split at q
  · rename_i hm
    split at q
    · split at q
      · rename_i e1
        obtain ⟨rfl, e2, e3⟩ := e1
        cases q
        exact ⟨_, _, _, _, _, rfl, hm, e2, e3, rfl⟩
      · cases q
    · cases q
  · cases q
theorem x_mx_inv {d k idx : Nat} {st st' : List Value} (q : x_mx d k idx st = some st') : ∃ (x y : Int32) (r : List Value) (kc n : Nat), st = .int y :: .int x :: r ∧ x_mth k idx = some (kc, 6, n) ∧ ¬ d = 0 ∧ x_cs r ≤ 8 ∧ st' = .int (if x < y then y else x) :: r := by
  unfold x_mx at q
  split at q
  · rename_i hm
    split at q
    · split at q
      · rename_i e1
        obtain ⟨rfl, e2, e3⟩ := e1
        cases q
        exact ⟨_, _, _, _, _, rfl, hm, e2, e3, rfl⟩
      · cases q
    · cases q
  · cases q
set_option maxHeartbeats 4000000 in
theorem x_now_ok (X : x_cx D dA b kad sc k p s m args meth c) {i : Instr} (hdg : decode (x_b k) pc = .ok (i, x_len i)) (hls : ls.size = x_nL k) {d : Nat} (hR : d ≤ R.frames ∧ 48 * d ≤ R.locals) (hc : cells ≤ R.cells ∧ slots ≤ R.slots) {st st' : List Value} (q : x_now d k i st = some st')
    (kk : W p l e R s m args below meth c H locs cells slots Q (F0 m (pc + 3) ls (st'.map (x_V b kad)))) : W p l e R s m args below meth c H locs cells slots Q (F0 m pc ls (st.map (x_V b kad))) := by
  obtain ⟨⟨hexec, hb, hml, hrt, hlk, hnm, hown⟩, hts, ⟨hK, hN, hAO⟩, hKC, hbz⟩ := X
  cases i <;> first
    | (simp [x_now] at q; done)
    | skip
  case invokespecial idx => 
    obtain ⟨a, kc, n, rfl, hm, hd, hr⟩ := x_oi_inv q
    obtain ⟨g1, g2, g3⟩ := s_m3 hm
    have hr2 : ((st'.map (x_V b kad)).map fun v => v.category).sum ≤ 8 := by rw [x_cs_map]; exact hr
    exact W.objInit hexec hb hown (hts _ g1) (hts _ g2) (hts _ g3) rfl (by rw [hml]; exact hls) rfl hdg (by omega) (by show 2 * 0 + _ + 12 ≤ _; omega) kk
  case invokestatic idx => 
    rcases x_or_inv (show x_or (x_mm d k idx st) (x_mx d k idx st) = some st' from q) with q | q
    case inl =>
      obtain ⟨x, y, r, kc, n, rfl, hm, hd, hr, rfl⟩ := x_mm_inv q
      obtain ⟨g1, g2, g3, g4⟩ := s_m4 hm
      have hr2 : ((r.map (x_V b kad)).map fun v => v.category).sum ≤ 8 := by rw [x_cs_map]; exact hr
      exact va_mmin hexec hb (by rw [hml, hls]) hown (hts _ g1) (hts _ g2) (hts _ g3) (hts _ g4) (by omega) (by omega) hc.1 hc.2 hdg kk
    case inr =>
      obtain ⟨x, y, r, kc, n, rfl, hm, hd, hr, rfl⟩ := x_mx_inv q
      obtain ⟨g1, g2, g3, g4⟩ := s_m6 hm
      have hr2 : ((r.map (x_V b kad)).map fun v => v.category).sum ≤ 8 := by rw [x_cs_map]; exact hr
      exact va_mmax hexec hb (by rw [hml, hls]) hown (hts _ g1) (hts _ g2) (hts _ g3) (hts _ g4) (by omega) (by omega) hc.1 hc.2 hdg kk
end XT
section XU
variable {p : Program} {l : Launch} {e : Env} {R : Room} {s : State} {m : MethodId} {args : Array Value} {below : List Frame} {meth : Method} {c : Code} {H : Heap} {locs : List Loc} {cells slots : Nat} {Q : State → Prop}
variable {pc : Nat} {ls : Array Slot} {b : Nat} {kad : Nat → Option Nat} {D : va_G} {dA : Nat → ClassId} {sc : x_Z} {k : Nat} {h : x_H}
theorem x_one_inv {sc : x_S} {d k : Nat} {i : Instr} {pc pc' : Nat} {lv lv' : x_L} {st st' : List Value} {h h' : x_H} (q : x_one sc d k i pc lv st h = some (pc', lv', st', h')) :
    (x_pop i st = some st' ∧ pc' = pc + x_len i ∧ lv' = lv ∧ h' = h) ∨ (x_lod i lv st = some st' ∧ pc' = pc + x_len i ∧ lv' = lv ∧ h' = h) ∨ (x_sto (x_nL k) i lv st = some (lv', st') ∧ pc' = pc + x_len i ∧ h' = h) ∨ (x_jmp i pc st = some (pc', st') ∧ lv' = lv ∧ h' = h) ∨
    (x_rd sc k i st h = some st' ∧ pc' = pc + x_len i ∧ lv' = lv ∧ h' = h) ∨ (x_wr d k i st h = some (st', h') ∧ pc' = pc + x_len i ∧ lv' = lv) ∨ (x_mk k i st h = some (st', h') ∧ pc' = pc + x_len i ∧ lv' = lv) ∨ (x_now d k i st = some st' ∧ pc' = pc + 3 ∧ lv' = lv ∧ h' = h) := by
  unfold x_one at q
  split at q
  · rename_i e1
    cases q
    exact Or.inl ⟨e1, rfl, rfl, rfl⟩
  · split at q
    · rename_i e1
      cases q
      exact Or.inr (Or.inl ⟨e1, rfl, rfl, rfl⟩)
    · split at q
      · rename_i e1
        cases q
        exact Or.inr (Or.inr (Or.inl ⟨e1, rfl, rfl⟩))
      · split at q
        · rename_i e1
          cases q
          exact Or.inr (Or.inr (Or.inr (Or.inl ⟨e1, rfl, rfl⟩)))
        · split at q
          · rename_i e1
            cases q
            exact Or.inr (Or.inr (Or.inr (Or.inr (Or.inl ⟨e1, rfl, rfl, rfl⟩))))
          · split at q
            · rename_i e1
              cases q
              exact Or.inr (Or.inr (Or.inr (Or.inr (Or.inr (Or.inl ⟨e1, rfl, rfl⟩)))))
            · split at q
              · rename_i e1
                cases q
                exact Or.inr (Or.inr (Or.inr (Or.inr (Or.inr (Or.inr (Or.inl ⟨e1, rfl, rfl⟩))))))
              · split at q
                · rename_i e1
                  cases q
                  exact Or.inr (Or.inr (Or.inr (Or.inr (Or.inr (Or.inr (Or.inr ⟨e1, rfl, rfl, rfl⟩))))))
                · cases q
theorem x_wr_mono {d k : Nat} {i : Instr} {st st' : List Value} {h h' : x_H} (q : x_wr d k i st h = some (st', h')) : h'.2 = h.2 := by
  cases i <;> first
    | (simp [x_wr] at q; done)
    | (obtain ⟨_, _, _, _, _, _, _, _, _, _, _, _, _, rfl⟩ := x_pf_inv q; rfl)
    | (obtain ⟨_, _, _, _, _, _, _, _, rfl⟩ := x_is_inv q; rfl)
    | (obtain ⟨_, _, _, _, _, _, _, _, rfl⟩ := x_ls_inv q; rfl)
    | (obtain ⟨_, _, _, _, _, _, _, _, _, _, _, _, _, rfl⟩ := x_as_inv q; rfl)
    | (rcases x_or_inv q with q | q; (obtain ⟨_, _, _, _, _, _, _, _, _, _, _, _, _, _, _, _, _, rfl⟩ := x_aci_inv q; rfl); (obtain ⟨_, _, _, _, _, _, _, _, _, _, _, _, _, _, _, _, _, rfl⟩ := x_acl_inv q; rfl))
theorem x_mk_mono {k : Nat} {i : Instr} {st st' : List Value} {h h' : x_H} (q : x_mk k i st h = some (st', h')) : h.2.1 ≤ h'.2.1 ∧ h.2.2 ≤ h'.2.2 := by
  cases i <;> first
    | (simp [x_mk] at q; done)
    | (obtain ⟨_, _, _, _, rfl⟩ := x_no_inv q; exact ⟨Nat.le_succ _, Nat.le_add_right _ _⟩)
    | (obtain ⟨_, _, _, _, _, _, _, _, rfl⟩ := x_na_inv q; exact ⟨Nat.le_succ _, Nat.le_add_right _ _⟩)
    | (obtain ⟨_, _, _, _, _, _, _, _, rfl⟩ := x_nr_inv q; exact ⟨Nat.le_succ _, Nat.le_add_right _ _⟩)
theorem x_one_mono {sc : x_S} {d k : Nat} {i : Instr} {pc pc' : Nat} {lv lv' : x_L} {st st' : List Value} {h h' : x_H} (q : x_one sc d k i pc lv st h = some (pc', lv', st', h')) : h.2.1 ≤ h'.2.1 ∧ h.2.2 ≤ h'.2.2 := by
  rcases x_one_inv q with ⟨-, -, -, rfl⟩ | ⟨-, -, -, rfl⟩ | ⟨-, -, rfl⟩ | ⟨-, -, rfl⟩ | ⟨-, -, -, rfl⟩ | ⟨q1, -, -⟩ | ⟨q1, -, -⟩ | ⟨-, -, -, rfl⟩
  · exact ⟨Nat.le_refl _, Nat.le_refl _⟩
  · exact ⟨Nat.le_refl _, Nat.le_refl _⟩
  · exact ⟨Nat.le_refl _, Nat.le_refl _⟩
  · exact ⟨Nat.le_refl _, Nat.le_refl _⟩
  · exact ⟨Nat.le_refl _, Nat.le_refl _⟩
  · rw [x_wr_mono q1]
    exact ⟨Nat.le_refl _, Nat.le_refl _⟩
  · exact x_mk_mono q1
  · exact ⟨Nat.le_refl _, Nat.le_refl _⟩
theorem x_run_mono {sc : x_S} : ∀ (f d k pc : Nat) (lv : x_L) (st : List Value) (h : x_H) (r : Option Value) (h' : x_H), x_run sc f d k pc lv st h = some (r, h') → h.2.1 ≤ h'.2.1 ∧ h.2.2 ≤ h'.2.2
  | 0, d, k, pc, lv, st, h, r, h', q => by cases q
  | f + 1, d, k, pc, lv, st, h, r, h', q => by
    have q : x_bd sc (x_run sc f) d k pc lv st h = some (r, h') := q
    unfold x_bd at q
    split at q
    · cases q
    · split at q
      · rename_i e1
        have a1 := x_one_mono e1
        have a2 := x_run_mono f _ _ _ _ _ _ _ _ q
        exact ⟨Nat.le_trans a1.1 a2.1, Nat.le_trans a1.2 a2.2⟩
      · split at q
        · cases q
          exact ⟨Nat.le_refl _, Nat.le_refl _⟩
        · split at q
          · split at q
            · split at q
              · cases q
              · split at q
                · rename_i e1
                  have a1 := x_run_mono f _ _ _ _ _ _ _ _ e1
                  have a2 := x_run_mono f _ _ _ _ _ _ _ _ q
                  exact ⟨Nat.le_trans a1.1 a2.1, Nat.le_trans a1.2 a2.2⟩
                · cases q
            · cases q
          · cases q
theorem x_len_sl (vs : List Value) : (lg_sl vs).length = x_cs vs := by
  induction vs with
  | nil => rfl
  | cons v vs ih =>
    have h1 : lg_sl (v :: vs) = (if v.category = 2 then [Slot.val v, .second] else [.val v]) ++ lg_sl vs := rfl
    have h2 : x_cs (v :: vs) = v.category + x_cs vs := by simp [x_cs]
    rw [h1, h2, List.length_append, ih]
    rcases lv_cat v with e | e
    · simp [e]
    · simp [e]
theorem x_ri_inv {rt : Option FieldType} {st : List Value} {r : Option Value} (q : x_ri rt st = some r) : ∃ x : Int32, st = [.int x] ∧ r = some (.int x) ∧ (rt = some .int ∨ ∃ ty, rt = some ty ∧ narrow ty (.int x) = .int x) := by
  unfold x_ri at q
  split at q
  · split at q
    · cases q
      exact ⟨_, rfl, rfl, Or.inl rfl⟩
    · split at q
      · rename_i e1
        cases q
        exact ⟨_, rfl, rfl, Or.inr ⟨_, rfl, congrArg Value.int e1⟩⟩
      · cases q
    · split at q
      · rename_i e1
        cases q
        exact ⟨_, rfl, rfl, Or.inr ⟨_, rfl, congrArg Value.int e1⟩⟩
      · cases q
    · split at q
      · rename_i e1
        cases q
        exact ⟨_, rfl, rfl, Or.inr ⟨_, rfl, congrArg Value.int e1⟩⟩
      · cases q
    · cases q
  · cases q
theorem x_rl_inv {rt : Option FieldType} {st : List Value} {r : Option Value} (q : x_rl rt st = some r) : ∃ x : Int64, st = [.long x] ∧ r = some (.long x) ∧ rt = some .long := by
  unfold x_rl at q
  split at q
  · split at q
    · cases q
      exact ⟨_, rfl, rfl, rfl⟩
    · cases q
  · cases q
theorem x_ra_inv {rt : Option FieldType} {st : List Value} {r : Option Value} (q : x_ra rt st = some r) : ∃ (a : Nat) (ty : FieldType), st = [.ref a] ∧ r = some (.ref a) ∧ rt = some ty ∧ ((∃ n, ty = .object n) ∨ ∃ t, ty = .array t) := by
  unfold x_ra at q
  split at q
  · split at q
    · cases q
      exact ⟨_, _, rfl, rfl, rfl, Or.inl ⟨_, rfl⟩⟩
    · cases q
      exact ⟨_, _, rfl, rfl, rfl, Or.inr ⟨_, rfl⟩⟩
    · cases q
  · cases q
theorem x_rv_inv {rt : Option FieldType} {st : List Value} {r : Option Value} (q : x_rv rt st = some r) : st = [] ∧ r = none ∧ rt = none := by
  unfold x_rv at q
  split at q
  · split at q
    · cases q
      exact ⟨rfl, rfl, rfl⟩
    · cases q
  · cases q
set_option maxHeartbeats 4000000 in
theorem x_end_ok (X : x_cx D dA b kad sc k p s m args meth c) {i : Instr} (hdg : decode (x_b k) pc = .ok (i, x_len i)) (hP : va_P D x_cl (x_ws dA b kad h) H) (hS : va_S (fun q => b ≤ q) s.heap H locs) {st : List Value} {r : Option Value} (q : x_end k i st = some r) :
    W p l e R s m args below meth c H locs cells slots (MQ below (x_Q D dA b kad r h) args s cells slots (fun q => b ≤ q)) (F0 m pc ls (st.map (x_V b kad))) := by
  obtain ⟨⟨hexec, hb, hml, hrt, hlk, hnm, hown⟩, hts, ⟨hK, hN, hAO⟩, hKC, hbz⟩ := X
  cases i <;> first
    | (simp [x_end] at q; done)
    | skip
  case areturn => 
    obtain ⟨a, ty, rfl, rfl, e1, e2⟩ := x_ra_inv q
    rw [e1] at hrt
    exact W.aret (v := .ref (b + a)) hexec hb hrt e2 (Or.inr ⟨_, rfl⟩) (fun t ht _ => ⟨⟨rfl, by rw [ht]; exact hP⟩, hS.F ht⟩) hS.2.2 hdg hlk
  case ireturn => 
    obtain ⟨x, rfl, rfl, e1 | ⟨ty, e1, e2⟩⟩ := x_ri_inv q
    · rw [e1] at hrt
      exact W.iret hexec hb hrt (fun t ht _ => ⟨⟨rfl, by rw [ht]; exact hP⟩, hS.F ht⟩) hS.2.2 hdg hlk
    · rw [e1] at hrt
      exact W.zret hexec hb hrt e2 (fun t ht _ => ⟨⟨rfl, by rw [ht]; exact hP⟩, hS.F ht⟩) hS.2.2 hdg hlk
  case lreturn => 
    obtain ⟨x, rfl, rfl, e1⟩ := x_rl_inv q
    rw [e1] at hrt
    exact W.lret hexec hb hrt (fun t ht _ => ⟨⟨rfl, by rw [ht]; exact hP⟩, hS.F ht⟩) hS.2.2 hdg hlk
  case return_ => 
    obtain ⟨rfl, rfl, e1⟩ := x_rv_inv q
    rw [e1] at hrt
    exact W.vret hexec hb hrt (fun t ht _ => ⟨⟨rfl, by rw [ht]; exact hP⟩, hS.F ht⟩) hS.2.2 hdg hlk
theorem x_callk {pc : Nat} {rest st0 : List Value} {a : Array Value} {mc ms : Nat} {v : Option Value} {h1 : x_H} (hr : va_Run p l e R s m args below meth c H locs cells slots mc ms (F0 m pc ls st0) rest (x_Q D dA b kad v h1 a) (fun q => b ≤ q)) (hS : va_S (fun q => b ≤ q) s.heap H locs)
    (kk : ∀ (H1 : Heap) (locs1 : List Loc), va_P D x_cl (x_ws dA b kad h1) H1 → va_S (fun q => b ≤ q) s.heap H1 locs1 → W p l e R s m args below meth c H1 locs1 (cells + mc) (slots + ms) Q (F0 m (pc + 3) ls ((v.map (x_V b kad)).toList ++ rest))) : W p l e R s m args below meth c H locs cells slots Q (F0 m pc ls st0) := by
  intro T hT X
  obtain ⟨v', st₀, t, T', L, h0, X', hL, e1, e2, ⟨⟨hv, hp⟩, hz, hk⟩, st⟩ := hr T hT X
  cases hv
  rw [h0] at hz hk
  obtain ⟨t2, a1, b1⟩ := kk T'.heap (locs ++ L) (by rw [e1]; exact hp)
    ⟨Nat.le_trans hS.1 (by rw [e1]; exact hz), fun q h1 h2 => by rw [e1, hk q (Nat.lt_of_lt_of_le h1 hS.1) h2]; exact hS.2.1 q h1 h2, fun q hq => by
      rcases List.mem_append.mp hq with h | h
      · exact hS.2.2 q h
      · exact hL q h⟩ T' rfl X'
  exact ⟨t2, st t2 a1, b1⟩
theorem x_good (kc : Nat) (hc : Jvm.Cond.code (x_y kc) (x_b kc) (x_nL kc) (x_rt kc) ∈ x_w) : GoodIn x_w (x_wsk kc) := by
  intro w hw
  have hw2 : w ∈ x_w := by
    rcases List.mem_cons.mp hw with rfl | h1
    · exact hc
    · exact h1
  exact ⟨hw2, s_good w hw2⟩
theorem x_pre (X : x_cx D dA b kad sc k p s m args meth c) {as : List Value} (hz : H.size = b + h.2.1) (hP : va_P D x_cl (x_ws dA b kad h) H) (hS : va_S (fun q => b ≤ q) s.heap H locs) : PreS s H (x_Pc D dA b kad sc as h) (as.map (x_V b kad)) := by
  obtain ⟨-, -, hVM, hKC, hbz⟩ := X
  exact ⟨x_Pc_blind, fun U hU hW => ⟨rfl, by rw [hU]; exact hz, by rw [hU]; exact hP, x_VM_warm hW hVM, x_KC_warm hKC hbz hW (by rw [hU]; exact hS)⟩⟩
theorem x_c0_inv {k idx kc : Nat} {st as r : List Value} (q : x_c0 k idx st = some (kc, as, r)) : x_mth k idx = some (kc, 0, as.length) ∧ st = as.reverse ++ r ∧ x_cs r ≤ 8 := by
  unfold x_c0 at q
  split at q
  · rename_i hm
    split at q
    · rename_i e1
      obtain ⟨rfl, e2, e3⟩ := e1
      cases q
      refine ⟨?_, ?_, e3⟩
      · rw [hm]
        simp [Nat.min_eq_left e2]
      · rw [List.reverse_reverse, List.take_append_drop]
    · cases q
  · cases q
theorem x_c1_inv {k idx kc : Nat} {st as r : List Value} {h : x_H} (q : x_c1 k idx st h = some (kc, as, r)) : ∃ (a : Nat) (as2 : List Value) (fs : List Value), as = .ref a :: as2 ∧ x_mth k idx = some (kc, 1, as2.length) ∧ st = as2.reverse ++ .ref a :: r ∧ x_get h a = some (.inr (x_own kc, fs)) ∧ x_cs r ≤ 8 := by
  unfold x_c1 at q
  split at q
  · rename_i hm
    split at q
    · rename_i e1
      obtain ⟨rfl, e2⟩ := e1
      split at q
      · rename_i a r0 hd
        split at q
        · rename_i hg
          split at q
          · rename_i e3
            obtain ⟨rfl, e4⟩ := e3
            cases q
            refine ⟨_, _, _, rfl, ?_, ?_, hg, e4⟩
            · rw [hm]
              simp [Nat.min_eq_left e2]
            · rw [List.reverse_reverse, ← hd, List.take_append_drop]
          · cases q
        · cases q
      · cases q
    · cases q
  · cases q
theorem x_c2_inv {k idx kc : Nat} {st as r : List Value} (q : x_c2 k idx st = some (kc, as, r)) : ∃ (a : Nat) (as2 : List Value), as = .ref a :: as2 ∧ x_mth k idx = some (kc, 2, as2.length) ∧ st = as2.reverse ++ .ref a :: r ∧ x_cs r ≤ 8 := by
  unfold x_c2 at q
  split at q
  · rename_i hm
    split at q
    · rename_i e1
      obtain ⟨rfl, e2⟩ := e1
      split at q
      · rename_i a r0 hd
        split at q
        · rename_i e4
          cases q
          refine ⟨_, _, rfl, ?_, ?_, e4⟩
          · rw [hm]
            simp [Nat.min_eq_left e2]
          · rw [List.reverse_reverse, ← hd, List.take_append_drop]
        · cases q
      · cases q
    · cases q
  · cases q
theorem x_c7_inv {k idx kc : Nat} {st as r : List Value} (q : x_c7 k idx st = some (kc, as, r)) : ∃ (i : Nat) (as2 : List Value), as = .retAddr (1 + i) :: as2 ∧ x_mth k idx = some (kc, 7, as2.length) ∧ st = as2.reverse ++ .retAddr (1 + i) :: r ∧ i < x_gn ∧ x_cs r ≤ 8 := by
  unfold x_c7 at q
  split at q
  · rename_i hm
    split at q
    · rename_i e1
      obtain ⟨rfl, e2⟩ := e1
      split at q
      · rename_i q0 r0 hd
        split at q
        · rename_i e3
          obtain ⟨e4, e5, e6⟩ := e3
          cases q
          have e7 : 1 + (q0 - 1) = q0 := by omega
          refine ⟨q0 - 1, _, by rw [e7], ?_, ?_, by omega, e6⟩
          · rw [hm]
            simp [Nat.min_eq_left e2]
          · rw [e7, List.reverse_reverse, ← hd, List.take_append_drop]
        · cases q
      · cases q
    · cases q
  · cases q
theorem x_cal_ok0 {k kc : Nat} {i : Instr} {st as r : List Value} {h : x_H} (q : x_cal k i st h = some (kc, as, r)) : x_mok k (match i with | .invokestatic j => j | .invokevirtual j => j | .invokespecial j => j | _ => 0) kc := by
  cases i <;> first
    | (simp [x_cal] at q; done)
    | skip
  case invokestatic idx =>
    obtain ⟨hm, -⟩ := x_c0_inv q
    exact (s_m0 hm).1
  case invokevirtual idx =>
    rcases x_or_inv (show x_or (x_c1 k idx st h) (x_c7 k idx st) = some (kc, as, r) from q) with q | q
    · obtain ⟨_, _, _, -, hm, -⟩ := x_c1_inv q
      exact (s_m1 hm).1
    · obtain ⟨_, _, -, hm, -⟩ := x_c7_inv q
      exact (s_m7 hm).1
  case invokespecial idx =>
    obtain ⟨_, _, -, hm, -⟩ := x_c2_inv q
    exact (s_m2 hm).1
set_option maxHeartbeats 4000000 in
theorem x_cal_ok (X : x_cx D dA b kad sc k p s m args meth c) {i : Instr} (hdg : decode (x_b k) pc = .ok (i, x_len i)) (hls : ls.size = x_nL k) (hz : H.size = b + h.2.1) (hP : va_P D x_cl (x_ws dA b kad h) H) (hS : va_S (fun q => b ≤ q) s.heap H locs) {d kc mc ms : Nat} {st as r : List Value} {v : Option Value} {h1 : x_H} (q : x_cal k i st h = some (kc, as, r)) (hR : d + 1 ≤ R.frames ∧ 48 * (d + 1) ≤ R.locals)
    (hM : Met l (x_y kc) (x_wsk kc) (x_rm d mc ms) (x_Pc D dA b kad sc as h) (x_Q D dA b kad v h1) mc ms (fun q => b ≤ q)) (hc : cells + mc ≤ R.cells ∧ slots + ms ≤ R.slots)
    (kk : ∀ (H1 : Heap) (locs1 : List Loc), va_P D x_cl (x_ws dA b kad h1) H1 → va_S (fun q => b ≤ q) s.heap H1 locs1 → W p l e R s m args below meth c H1 locs1 (cells + mc) (slots + ms) Q (F0 m (pc + 3) ls ((v.toList ++ r).map (x_V b kad)))) : W p l e R s m args below meth c H locs cells slots Q (F0 m pc ls (st.map (x_V b kad))) := by
  have hpre := x_pre X (as := as) hz hP hS
  obtain ⟨⟨hexec, hb, hml, hrt, hlk, hnm, hown⟩, hts, ⟨hK, hN, hAO⟩, hKC, hbz⟩ := X
  have hmok := x_cal_ok0 q
  obtain ⟨c1, c2, c3, c4, c5, c6⟩ := hmok
  have hG := x_good kc c1
  have hini : (Jvm.Cond.initialized (x_y kc).cls).before args s = true := hts _ c2
  have hRR : (x_rm d mc ms).frames + 1 ≤ R.frames ∧ 8 + (x_nL kc + 11) + (x_rm d mc ms).locals ≤ R.locals := by
    show d + 1 ≤ R.frames ∧ 8 + (x_nL kc + 11) + 48 * d ≤ R.locals
    omega
  have ev : (v.toList ++ r).map (x_V b kad) = (v.map (x_V b kad)).toList ++ r.map (x_V b kad) := by
    cases v <;> simp
  rw [ev] at kk
  have hF : CallFix p m c (x_b k) (x_nL k) s args x_w (x_y k).cls := ⟨hexec, hb, hml, hown, hts⟩
  cases i <;> first
    | (simp [x_cal] at q; done)
    | skip
  case invokestatic idx => 
    obtain ⟨hm, rfl, hr⟩ := x_c0_inv q
    obtain ⟨-, g1⟩ := s_m0 hm
    have c6 : Jvm.Cond.methodLink (x_y k).cls idx (x_y kc) ∈ x_w ∨ ∃ host, Jvm.Cond.methodLinkNest (x_y k).cls idx (x_y kc) host ∈ x_nest := c6
    have hd3 := (s_m0 hm).2.2
    have hst := hts _ g1.1
    have hrm := lv_room (m := m) (pc := pc) (ls := ls) (rest := ((as.reverse ++ r).map (x_V b kad))) (st := r.map (x_V b kad)) (by rw [x_cs_map]; exact hr)
    have hsk : (F0 m pc ls ((as.reverse ++ r).map (x_V b kad))).stack = (as.map (x_V b kad)).reverse ++ r.map (x_V b kad) := by show (as.reverse ++ r).map (x_V b kad) = _; rw [List.map_append, List.map_reverse]
    rcases c6 with hl | ⟨host, hl⟩
    · exact x_callk (va_runS hF hM ⟨callB_of as.length hts hG rfl rfl rfl hini (hts _ hl) ⟨c3.1, c3.2, hd3⟩ hRR, hst⟩ hpre rfl (by rw [List.length_map]) hls hsk hrm hdg hc) hS kk
    · exact x_callk (va_runSN hF hM ⟨va_cnB as.length hts hG rfl rfl rfl (hN _ hl) hini ⟨c3.1, c3.2, hd3⟩ hRR, hst, trivial⟩ hpre rfl (by rw [List.length_map]) hls hsk hrm hdg hc) hS kk
  case invokevirtual idx => 
    rcases x_or_inv (show x_or (x_c1 k idx st h) (x_c7 k idx st) = some (kc, as, r) from q) with q | q
    case inr =>
      obtain ⟨i, as2, rfl, hm, rfl, hi, hr⟩ := x_c7_inv q
      obtain ⟨-, g1, g2, hsel⟩ := s_m7 hm
      have c6 : Jvm.Cond.methodLink (x_y k).cls idx (x_y kc) ∈ x_w ∨ ∃ host, Jvm.Cond.methodLinkNest (x_y k).cls idx (x_y kc) host ∈ x_nest := c6
      have hin := hts _ g1
      have hsl := hts _ hsel
      obtain ⟨qk, qv, e1, -, e3, -⟩ := hKC.1.2.1 i hi
      have ek : x_V b kad (.retAddr (1 + i)) = .ref qk := by show va_rf (kad (1 + i)) = _; rw [e1]; rfl
      have hrm := lv_room (m := m) (pc := pc) (ls := ls) (rest := ((as2.reverse ++ .retAddr (1 + i) :: r).map (x_V b kad))) (st := r.map (x_V b kad)) (by rw [x_cs_map]; exact hr)
      have hsk : (F0 m pc ls ((as2.reverse ++ .retAddr (1 + i) :: r).map (x_V b kad))).stack = (as2.map (x_V b kad)).reverse ++ .ref qk :: r.map (x_V b kad) := by show (as2.reverse ++ .retAddr (1 + i) :: r).map (x_V b kad) = _; rw [List.map_append, List.map_reverse, List.map_cons, ek]
      have hrc : ∃ cell : Cell, H[qk]? = some cell ∧ cell.vm.isStatics = false ∧ s.vm.findClass "java/lang/String" = some cell.cls := by
        obtain ⟨cell, f1, f2, f3, f4⟩ := e3
        have hlt : qk < s.heap.size := (Array.getElem?_eq_some_iff.mp f1).1
        exact ⟨cell, by rw [hS.2.1 qk hlt f4]; exact f1, f2, f3⟩
      have hpre : PreS s H (x_Pc D dA b kad sc (.retAddr (1 + i) :: as2) h) (.ref qk :: as2.map (x_V b kad)) := by
        rw [List.map_cons, ek] at hpre
        exact hpre
      rcases c6 with hl | ⟨host, hl⟩
      · exact x_callk (va_runV (C := "java/lang/String") hF hM ⟨callB_of as2.length hts hG rfl rfl rfl hini (hts _ hl) ⟨c3.1, c3.2, g2⟩ hRR, hin, hsl⟩ ⟨hpre.1, hrc, hpre.2⟩ rfl (by rw [List.length_map]) hls hsk hrm hdg hc) hS kk
      · exact x_callk (va_runVN (C := "java/lang/String") hF hM ⟨va_cnB as2.length hts hG rfl rfl rfl (hN _ hl) hini ⟨c3.1, c3.2, g2⟩ hRR, hin, hsl⟩ ⟨hpre.1, hrc, hpre.2⟩ rfl (by rw [List.length_map]) hls hsk hrm hdg hc) hS kk
    obtain ⟨a, as2, fs, rfl, hm, rfl, hg, hr⟩ := x_c1_inv q
    obtain ⟨-, g1, g2, C, T, N, hC, hsel⟩ := s_m1 hm
    have c6 : Jvm.Cond.methodLink (x_y k).cls idx (x_y kc) ∈ x_w ∨ ∃ host, Jvm.Cond.methodLinkNest (x_y k).cls idx (x_y kc) host ∈ x_nest := c6
    have hin := hts _ g1
    have hsl := hts _ hsel
    have hrm := lv_room (m := m) (pc := pc) (ls := ls) (rest := ((as2.reverse ++ .ref a :: r).map (x_V b kad))) (st := r.map (x_V b kad)) (by rw [x_cs_map]; exact hr)
    have hsk : (F0 m pc ls ((as2.reverse ++ .ref a :: r).map (x_V b kad))).stack = (as2.map (x_V b kad)).reverse ++ .ref (b + a) :: r.map (x_V b kad) := by show (as2.reverse ++ .ref a :: r).map (x_V b kad) = _; rw [List.map_append, List.map_reverse]; rfl
    have hrc := va_recv (D := D) hK hP hC (x_get_ws hg)
    rcases c6 with hl | ⟨host, hl⟩
    · exact x_callk (va_runV (C := C) hF hM ⟨callB_of as2.length hts hG rfl rfl rfl hini (hts _ hl) ⟨c3.1, c3.2, g2⟩ hRR, hin, hsl⟩ ⟨hpre.1, hrc, hpre.2⟩ rfl (by rw [List.length_map]) hls hsk hrm hdg hc) hS kk
    · exact x_callk (va_runVN (C := C) hF hM ⟨va_cnB as2.length hts hG rfl rfl rfl (hN _ hl) hini ⟨c3.1, c3.2, g2⟩ hRR, hin, hsl⟩ ⟨hpre.1, hrc, hpre.2⟩ rfl (by rw [List.length_map]) hls hsk hrm hdg hc) hS kk
  case invokespecial idx => 
    obtain ⟨a, as2, rfl, hm, rfl, hr⟩ := x_c2_inv q
    obtain ⟨-, g1, g2, g3, g4⟩ := s_m2 hm
    have c6 : Jvm.Cond.methodLink (x_y k).cls idx (x_y kc) ∈ x_w ∨ ∃ host, Jvm.Cond.methodLinkNest (x_y k).cls idx (x_y kc) host ∈ x_nest := c6
    have hin := hts _ g1
    have hrm := lv_room (m := m) (pc := pc) (ls := ls) (rest := ((as2.reverse ++ .ref a :: r).map (x_V b kad))) (st := r.map (x_V b kad)) (by rw [x_cs_map]; exact hr)
    have hsk : (F0 m pc ls ((as2.reverse ++ .ref a :: r).map (x_V b kad))).stack = (as2.map (x_V b kad)).reverse ++ .ref (b + a) :: r.map (x_V b kad) := by show (as2.reverse ++ .ref a :: r).map (x_V b kad) = _; rw [List.map_append, List.map_reverse]; rfl
    have hw0 : x_wsk kc = Jvm.Cond.code (x_y kc) (x_b kc) (x_nL kc) none :: x_w := by unfold x_wsk; rw [g4]
    rcases c6 with hl | ⟨host, hl⟩
    · exact x_callk (va_runI hF hM ⟨callB_of as2.length hts hG hw0 rfl rfl hini (hts _ hl) ⟨c3.1, c3.2, g2⟩ hRR, g3, hin⟩ hpre rfl (by rw [List.length_map]) hls hsk hrm hdg hc) hS kk
    · exact x_callk (va_runIN hF hM ⟨va_cnB as2.length hts hG hw0 rfl rfl (hN _ hl) hini ⟨c3.1, c3.2, g2⟩ hRR, g3, hin⟩ hpre rfl (by rw [List.length_map]) hls hsk hrm hdg hc) hS kk
end XU
/-- what x_sim says of a body at fuel f -/
def x_SM (l : Launch) (D : va_G) (dA : Nat → ClassId) (b : Nat) (kad : Nat → Option Nat) (sc : x_Z) (f : Nat) : Prop := ∀ (d k pc : Nat) (lv : x_L) (st : List Value) (h : x_H) (r : Option Value) (h' : x_H), x_run (some sc) f d k pc lv st h = some (r, h') →
  ∀ (p : Program) (e : Env) (R : Room) (s : State) (m : MethodId) (args : Array Value) (below : List Frame) (meth : Method) (c : Code) (H : Heap) (locs : List Loc) (ls : Array Slot) (n0 s0 : Nat), x_cx D dA b kad sc k p s m args meth c → s.heap.size = b + n0 → n0 ≤ h.2.1 → s0 ≤ h.2.2 → x_LV b kad ls (x_nL k) lv → va_P D x_cl (x_ws dA b kad h) H → va_S (fun q => b ≤ q) s.heap H locs → d ≤ R.frames ∧ 48 * d ≤ R.locals → h'.2.1 - n0 ≤ R.cells ∧ h'.2.2 - s0 ≤ R.slots →
  W p l e R s m args below meth c H locs (h.2.1 - n0) (h.2.2 - s0) (MQ below (x_Q D dA b kad r h') args s (h'.2.1 - n0) (h'.2.2 - s0) (fun q => b ≤ q)) (F0 m pc ls (st.map (x_V b kad)))
theorem x_met {l : Launch} {D : va_G} {dA : Nat → ClassId} {b : Nat} {kad : Nat → Option Nat} {sc : x_Z} {f : Nat} (ih : x_SM l D dA b kad sc f) {d kc : Nat} {as : List Value} {h h1 : x_H} {v : Option Value} (hp : plainName (x_y kc).cls = true) (has : x_cs as ≤ x_nL kc) (q : x_run (some sc) f d kc 0 (x_en 0 as) [] h = some (v, h1)) :
    Met l (x_y kc) (x_wsk kc) (x_rm d (h1.2.1 - h.2.1) (h1.2.2 - h.2.2)) (x_Pc D dA b kad sc as h) (x_Q D dA b kad v h1) (h1.2.1 - h.2.1) (h1.2.2 - h.2.2) (fun q => b ≤ q) := by
  refine Met.ofW (cc := x_b kc) (maxL := x_nL kc) (ret := x_rt kc) hp rfl ?_
  intro p e s m args below meth c s₁ B hml hv
  obtain ⟨rfl, hsz, hP, hVM, hKC⟩ := hv
  have hts : ∀ w ∈ x_w, w.before (as.map (x_V b kad)).toArray s = true := fun w hw => atoms_spec (ws := x_wsk kc) B.pre w (List.mem_cons_of_mem _ hw)
  have hown : s.vm.findClass (x_y kc).cls = some m.cls := findClass_of_methodNamed B.named
  have hl := lv_entry (as.map (x_V b kad)) (n := x_nL kc) (by
    rw [x_len_sl]
    have e1 : x_cs (as.map (x_V b kad)) = x_cs as := x_cs_map b kad as
    rw [e1]
    exact has)
  rw [lg_entry_eq]
  generalize (lg_sl (as.map (x_V b kad)) ++ List.replicate (x_nL kc - (lg_sl (as.map (x_V b kad))).length) Slot.unset).toArray = ls at hl ⊢
  have hW := ih d kc 0 (x_en 0 as) [] h v h1 q p e (headSpec (x_wsk kc) (x_rm d (h1.2.1 - h.2.1) (h1.2.2 - h.2.2))).room s m (as.map (x_V b kad)).toArray below meth c s.heap [] ls h.2.1 h.2.2
    ⟨⟨B.exec, B.bytes, hml, B.returns, B.notSynchronized, fun hh => (name_of_methodNamed B.named B.method).1.trans hh, hown⟩, hts, hVM, hKC, by rw [hsz]; exact Nat.le_add_right _ _⟩ hsz (Nat.le_refl _) (Nat.le_refl _) (x_LV_en hl) hP va_S.rf ⟨Nat.le_refl _, Nat.le_refl _⟩ ⟨Nat.le_refl _, Nat.le_refl _⟩
  rw [Nat.sub_self, Nat.sub_self] at hW
  exact hW
set_option maxHeartbeats 4000000 in
theorem x_sim {l : Launch} {D : va_G} {dA : Nat → ClassId} {b : Nat} {kad : Nat → Option Nat} {sc : x_Z} : ∀ f : Nat, x_SM l D dA b kad sc f
  | 0 => by
    intro d k pc lv st h r h' q
    cases q
  | f + 1 => by
    have ih := x_sim (l := l) (D := D) (dA := dA) (b := b) (kad := kad) (sc := sc) f
    intro d k pc lv st h r h' q p e R s m args below meth c H locs ls n0 s0 X hz hn0 hs0 hl hP hS hR hc
    have q : x_bd (some sc) (x_run (some sc) f) d k pc lv st h = some (r, h') := q
    unfold x_bd at q
    split at q
    · cases q
    · rename_i i hi
      obtain ⟨len, hdg, hlen⟩ := s_dec hi
      split at q
      · rename_i pc' lv' st' h2 e1
        have hm1 := x_one_mono e1
        have hm2 := x_run_mono f _ _ _ _ _ _ _ _ q
        have go : ∀ (H1 : Heap) (locs1 : List Loc) (ls1 : Array Slot), x_LV b kad ls1 (x_nL k) lv' → va_P D x_cl (x_ws dA b kad h2) H1 → va_S (fun q => b ≤ q) s.heap H1 locs1 → W p l e R s m args below meth c H1 locs1 (h2.2.1 - n0) (h2.2.2 - s0) (MQ below (x_Q D dA b kad r h') args s (h'.2.1 - n0) (h'.2.2 - s0) (fun q => b ≤ q)) (F0 m pc' ls1 (st'.map (x_V b kad))) := fun H1 locs1 ls1 a1 a2 a3 =>
          ih d k pc' lv' st' h2 r h' q p e R s m args below meth c H1 locs1 ls1 n0 s0 X hz (Nat.le_trans hn0 hm1.1) (Nat.le_trans hs0 hm1.2) a1 a2 a3 hR hc
        have hexec := X.1.1
        have hb := X.1.2.1
        rcases x_one_inv e1 with ⟨q1, rfl, rfl, rfl⟩ | ⟨q1, rfl, rfl, rfl⟩ | ⟨q1, rfl, rfl⟩ | ⟨q1, rfl, rfl⟩ | ⟨q1, rfl, rfl, rfl⟩ | ⟨q1, rfl, rfl⟩ | ⟨q1, rfl, rfl⟩ | ⟨q1, rfl, rfl, rfl⟩
        · have hsw : x_sw i = false := by cases i <;> first | rfl | (simp [x_pop] at q1; done)
          cases hlen hsw
          exact x_pop_ok hexec hb hdg q1 (go H locs ls hl hP hS)
        · have hsw : x_sw i = false := by cases i <;> first | rfl | (simp [x_lod] at q1; done)
          cases hlen hsw
          exact x_lod_ok hexec hb X.2.2.2.1.2.2 hdg hl q1 (go H locs ls hl hP hS)
        · have hsw : x_sw i = false := by cases i <;> first | rfl | (simp [x_sto] at q1; done)
          cases hlen hsw
          exact x_sto_ok hexec hb hdg hl q1 (fun ls1 a1 => go H locs ls1 a1 hP hS)
        · exact x_jmp_ok hexec hb hdg hlen q1 (go H locs ls hl hP hS)
        · have hsw : x_sw i = false := by cases i <;> first | rfl | (simp [x_rd] at q1; done)
          cases hlen hsw
          exact x_rd_ok X hdg hP hS q1 (go H locs ls hl hP hS)
        · have hsw : x_sw i = false := by cases i <;> first | rfl | (simp [x_wr] at q1; done)
          cases hlen hsw
          have e2 := x_wr_mono q1
          refine x_wr_ok X hdg hP hS hl.1 hR q1 (fun H1 locs1 a1 a2 => ?_)
          have a3 := go H1 locs1 ls hl a1 a2
          rw [e2] at a3
          exact a3
        · have hsw : x_sw i = false := by cases i <;> first | rfl | (simp [x_mk] at q1; done)
          cases hlen hsw
          exact x_mk_ok X hdg hz hn0 hs0 hP hS q1 ⟨by omega, by omega⟩ (fun H1 a1 a2 => go H1 locs ls hl a1 a2)
        · have hsw : x_sw i = false := by cases i <;> first | rfl | (simp [x_now] at q1; done)
          cases hlen hsw
          exact x_now_ok X hdg hl.1 hR ⟨by omega, by omega⟩ q1 (go H locs ls hl hP hS)
      · split at q
        · rename_i r2 e1
          cases q
          have hsw : x_sw i = false := by cases i <;> first | rfl | (simp [x_end] at e1; done)
          cases hlen hsw
          exact x_end_ok X hdg hP hS e1
        · split at q
          · rename_i kc as r2 e1
            have hsw : x_sw i = false := by cases i <;> first | rfl | (simp [x_cal] at e1; done)
            cases hlen hsw
            split at q
            · rename_i has
              split at q
              · cases q
              · rename_i d'
                split at q
                · rename_i v h1 e2
                  have hm1 := x_run_mono f _ _ _ _ _ _ _ _ e2
                  have hm2 := x_run_mono f _ _ _ _ _ _ _ _ q
                  have hM := x_met ih (x_cal_ok0 e1).2.2.2.2.1 has e2
                  refine x_cap (fun hcap => ?_)
                  have hsz := x_size hP hz hn0 hS.1 hcap
                  refine x_cal_ok X hdg hl.1 hsz hP hS e1 hR hM ⟨by omega, by omega⟩ (fun H1 locs1 a1 a2 => ?_)
                  have a3 := ih _ _ _ _ _ _ _ _ q p e R s m args below meth c H1 locs1 ls n0 s0 X hz (by omega) (by omega) hl a1 a2 hR hc
                  refine W.widen (k := h1.2.1 - n0) (n := h1.2.2 - s0) (by omega) (by omega) ?_
                  exact a3
                · cases q
            · cases q
          · cases q
