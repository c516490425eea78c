/-! Walking: cells and calls. -/
theorem x_get_up_s {h : x_H} {a : Nat} {e : x_C} (ha : a < h.2.1) : x_get (x_up h a e) a = some e := by
  simp [x_get, x_up, va_up, ha]
theorem x_get_up_n {h : x_H} {a c : Nat} {e : x_C} (hc : ¬ c = a) : x_get (x_up h a e) c = x_get h c := by
  simp [x_get, x_up, va_up, hc]
theorem x_get_lt {h : x_H} {a : Nat} {e : x_C} (q : x_get h a = some e) : a < h.2.1 := (x_get_inv q).1
theorem x_aci_no {d k idx kc kd n : Nat} {st : List Value} {h : x_H} (hm : x_mth k idx = some (kc, kd, n)) (hk : ¬ kd = 8) : x_aci d k idx st h = none := by
  cases hq : x_aci d k idx st h with
  | none => rfl
  | some y =>
    obtain ⟨st', h'⟩ := y
    obtain ⟨_, _, _, _, _, _, kd', _, _, _, _, _, -, hm2, -, -, hok, -⟩ := x_aci_inv hq
    rw [hm] at hm2
    cases hm2
    exact absurd (x_aok2_inv hok).1 hk
theorem x_acl_no {d k idx kc kd n : Nat} {st : List Value} {h : x_H} (hm : x_mth k idx = some (kc, kd, n)) (hk : ¬ kd = 8) : x_acl d k idx st h = none := by
  cases hq : x_acl d k idx st h with
  | none => rfl
  | some y =>
    obtain ⟨st', h'⟩ := y
    obtain ⟨_, _, _, _, _, _, kd', _, _, _, _, _, -, hm2, -, -, hok, -⟩ := x_acl_inv hq
    rw [hm] at hm2
    cases hm2
    exact absurd (x_aok2_inv hok).1 hk
theorem x_mm_no {d k idx kc kd n : Nat} {st : List Value} (hm : x_mth k idx = some (kc, kd, n)) (hk : ¬ kd = 4) : x_mm d k idx st = none := by
  cases hq : x_mm d k idx st with
  | none => rfl
  | some y =>
    obtain ⟨_, _, _, _, _, -, hm2, -⟩ := x_mm_inv hq
    rw [hm] at hm2
    cases hm2
    exact absurd rfl hk
theorem x_mx_no {d k idx kc kd n : Nat} {st : List Value} (hm : x_mth k idx = some (kc, kd, n)) (hk : ¬ kd = 6) : x_mx d k idx st = none := by
  cases hq : x_mx d k idx st with
  | none => rfl
  | some y =>
    obtain ⟨_, _, _, _, _, -, hm2, -⟩ := x_mx_inv hq
    rw [hm] at hm2
    cases hm2
    exact absurd rfl hk
theorem x_oi_no {d k idx kc kd n : Nat} {st : List Value} (hm : x_mth k idx = some (kc, kd, n)) (hk : ¬ kd = 3) : x_oi d k idx st = none := by
  cases hq : x_oi d k idx st with
  | none => rfl
  | some y =>
    obtain ⟨_, _, _, -, hm2, -⟩ := x_oi_inv hq
    rw [hm] at hm2
    cases hm2
    exact absurd rfl hk
section XX
variable {sc : x_S} {d k pc : Nat} {lv : x_L} {st : List Value} {h : x_H} {Q : Option Value → x_H → Prop}
theorem x_T_getf {idx a ci sl fl pc2 : Nat} {ty : FieldType} {fs st : List Value} {v : Value} (hi : x_ins k pc = some (.getfield idx)) (hf : x_fld k idx = some (ci, sl, ty, fl)) (hg : x_get h a = some (.inr (ci, fs))) (hv : fs[sl]? = some v) (hn : pc + 3 = pc2) (t : x_T sc d k pc2 lv (v :: st) h Q) : x_T sc d k pc lv (.ref a :: st) h Q := by
  subst hn
  refine x_T_step hi ?_ t
  simp [x_one, x_pop, x_lod, x_sto, x_jmp, x_rd, x_or, x_gf, hg, hf, hv, x_len]
theorem x_T_putf {idx a ci sl fl pc2 : Nat} {ty : FieldType} {fs st : List Value} {v : Value} (hi : x_ins k pc = some (.putfield idx)) (hf : x_fld k idx = some (ci, sl, ty, fl)) (hg : x_get h a = some (.inr (ci, fs))) (hv : x_fit ty v = true) (hl : sl < fs.length) (hfl : fl < 2) (hn : pc + 3 = pc2) (t : x_T sc d k pc2 lv st (x_up h a (.inr (ci, fs.set sl v))) Q) : x_T sc d k pc lv (v :: .ref a :: st) h Q := by
  subst hn
  refine x_T_step hi ?_ t
  simp [x_one, x_pop, x_lod, x_sto, x_jmp, x_rd, x_wr, x_pf, hg, hf, hv, hl, hfl, x_len]
theorem x_T_iald {v : Int32} {j : Int32} {a n pc2 : Nat} {f : Nat → Int32} {st : List Value} (hi : x_ins k pc = some .iaload) (hg : x_get h a = some (.inl (0, n, .inl f))) (hj : x_in j n = true) (hv : f j.toNatClampNeg = v) (hn : pc + 1 = pc2) (t : x_T sc d k pc2 lv (.int v :: st) h Q) : x_T sc d k pc lv (.int j :: .ref a :: st) h Q := by
  subst hn hv
  refine x_T_step hi ?_ t
  simp [x_one, x_pop, x_lod, x_sto, x_jmp, x_rd, x_ia, hg, hj, x_len]
theorem x_T_scld {z : x_Z} {j v : Int32} {pc2 : Nat} {st : List Value} (hi : x_ins k pc = some .iaload) (hj : x_in j z.1 = true) (hv : z.2 j.toNatClampNeg = v) (hn : pc + 1 = pc2) (t : x_T (some z) d k pc2 lv (.int v :: st) h Q) : x_T (some z) d k pc lv (.int j :: .retAddr 0 :: st) h Q := by
  subst hn hv
  refine x_T_step hi ?_ t
  simp [x_one, x_pop, x_lod, x_sto, x_jmp, x_rd, x_ia, hj, x_len]
theorem x_T_sclen {z : x_Z} {pc2 : Nat} {st : List Value} (hi : x_ins k pc = some .arraylength) (hn : pc + 1 = pc2) (t : x_T (some z) d k pc2 lv (.int (Int32.ofNat z.1) :: st) h Q) : x_T (some z) d k pc lv (.retAddr 0 :: st) h Q := by
  subst hn
  refine x_T_step hi ?_ t
  simp [x_one, x_pop, x_lod, x_sto, x_jmp, x_rd, x_or, x_al, x_len]
theorem x_T_aload_k {j : Nat} {x : Nat} {pc2 : Nat} (hi : x_ins k pc = some (.aload j)) (hl : lv j = some (.retAddr x)) (hx : x < 2000) (hn : pc + 2 = pc2) (t : x_T sc d k pc2 lv (.retAddr x :: st) h Q) : x_T sc d k pc lv st h Q := by
  subst hn
  refine x_T_step hi ?_ t
  simp [x_one, x_pop, x_lod, x_lda, hl, hx, x_len]
theorem x_T_aload_nk {j : Fin 4} {x : Nat} {pc2 : Nat} (hi : x_ins k pc = some (.aload_n j)) (hl : lv (j : Nat) = some (.retAddr x)) (hx : x < 2000) (hn : pc + 1 = pc2) (t : x_T sc d k pc2 lv (.retAddr x :: st) h Q) : x_T sc d k pc lv st h Q := by
  subst hn
  refine x_T_step hi ?_ t
  simp [x_one, x_pop, x_lod, x_lda, hl, hx, x_len]
theorem x_T_lald {v : Int64} {j : Int32} {a n pc2 : Nat} {f : Nat → Int64} {st : List Value} (hi : x_ins k pc = some .laload) (hg : x_get h a = some (.inl (1, n, .inr (.inl f)))) (hj : x_in j n = true) (hv : f j.toNatClampNeg = v) (hn : pc + 1 = pc2) (t : x_T sc d k pc2 lv (.long v :: st) h Q) : x_T sc d k pc lv (.int j :: .ref a :: st) h Q := by
  subst hn hv
  refine x_T_step hi ?_ t
  simp [x_one, x_pop, x_lod, x_sto, x_jmp, x_rd, x_la, hg, hj, x_len]
theorem x_T_cald {v : Int32} {j : Int32} {a n pc2 : Nat} {f : Nat → Int32} {st : List Value} (hi : x_ins k pc = some .caload) (hg : x_get h a = some (.inl (2, n, .inl f))) (hj : x_in j n = true) (hv : f j.toNatClampNeg = v) (hn : pc + 1 = pc2) (t : x_T sc d k pc2 lv (.int v :: st) h Q) : x_T sc d k pc lv (.int j :: .ref a :: st) h Q := by
  subst hn hv
  refine x_T_step hi ?_ t
  simp [x_one, x_pop, x_lod, x_sto, x_jmp, x_rd, x_or, x_ca, hg, hj, x_len]
theorem x_T_bald {v : Int32} {j : Int32} {a n pc2 : Nat} {f : Nat → Int32} {st : List Value} (hi : x_ins k pc = some .baload) (hg : x_get h a = some (.inl (3, n, .inl f))) (hj : x_in j n = true) (hv : f j.toNatClampNeg = v) (hn : pc + 1 = pc2) (t : x_T sc d k pc2 lv (.int v :: st) h Q) : x_T sc d k pc lv (.int j :: .ref a :: st) h Q := by
  subst hn hv
  refine x_T_step hi ?_ t
  simp [x_one, x_pop, x_lod, x_sto, x_jmp, x_rd, x_or, x_ca, hg, hj, x_len]
theorem x_T_aald {j : Int32} {a t0 n ci y pc2 : Nat} {f : Nat → Option Nat} {st : List Value} (hi : x_ins k pc = some .aaload) (hg : x_get h a = some (.inl (t0, n, .inr (.inr (.inr (.inr f)))))) (hc : x_cp t0 = some ci) (hj : x_in j n = true) (hy : f j.toNatClampNeg = some y) (hn : pc + 1 = pc2) (t : x_T sc d k pc2 lv (.ref y :: st) h Q) : x_T sc d k pc lv (.int j :: .ref a :: st) h Q := by
  subst hn
  refine x_T_step hi ?_ t
  simp [x_one, x_pop, x_lod, x_sto, x_jmp, x_rd, x_aa, hg, hc, hj, hy, va_rf, x_len]
theorem x_T_alen {a t0 n pc2 : Nat} {f : (Nat → Int32) ⊕ (Nat → Int64) ⊕ (Nat → UInt32) ⊕ (Nat → UInt64) ⊕ (Nat → Option Nat)} {st : List Value} (hi : x_ins k pc = some .arraylength) (hg : x_get h a = some (.inl (t0, n, f))) (ht : t0 < x_ty.length) (hn : pc + 1 = pc2) (t : x_T sc d k pc2 lv (.int (Int32.ofNat n) :: st) h Q) : x_T sc d k pc lv (.ref a :: st) h Q := by
  subst hn
  refine x_T_step hi ?_ t
  simp [x_one, x_pop, x_lod, x_sto, x_jmp, x_rd, x_or, x_al, hg, ht, x_len]
theorem x_T_iast {x j : Int32} {a n pc2 : Nat} {f : Nat → Int32} {st : List Value} (hi : x_ins k pc = some .iastore) (hg : x_get h a = some (.inl (0, n, .inl f))) (hj : x_in j n = true) (hn : pc + 1 = pc2) (t : x_T sc d k pc2 lv st (x_up h a (.inl (0, n, .inl (upd f j.toNatClampNeg x)))) Q) : x_T sc d k pc lv (.int x :: .int j :: .ref a :: st) h Q := by
  subst hn
  refine x_T_step hi ?_ t
  simp [x_one, x_pop, x_lod, x_sto, x_jmp, x_rd, x_wr, x_is, hg, hj, x_len]
theorem x_T_cast {x j : Int32} {a n pc2 : Nat} {f : Nat → Int32} {st : List Value} (hi : x_ins k pc = some .castore) (hg : x_get h a = some (.inl (2, n, .inl f))) (hj : x_in j n = true) (hn : pc + 1 = pc2) (t : x_T sc d k pc2 lv st (x_up h a (.inl (2, n, .inl (upd f j.toNatClampNeg (vp_nar .char x))))) Q) : x_T sc d k pc lv (.int x :: .int j :: .ref a :: st) h Q := by
  subst hn
  refine x_T_step hi ?_ t
  simp [x_one, x_pop, x_lod, x_sto, x_jmp, x_rd, x_wr, x_is, hg, hj, x_len]
theorem x_T_bast {x j : Int32} {a n pc2 : Nat} {f : Nat → Int32} {st : List Value} (hi : x_ins k pc = some .bastore) (hg : x_get h a = some (.inl (3, n, .inl f))) (hj : x_in j n = true) (hn : pc + 1 = pc2) (t : x_T sc d k pc2 lv st (x_up h a (.inl (3, n, .inl (upd f j.toNatClampNeg (vp_nar .boolean x))))) Q) : x_T sc d k pc lv (.int x :: .int j :: .ref a :: st) h Q := by
  subst hn
  refine x_T_step hi ?_ t
  simp [x_one, x_pop, x_lod, x_sto, x_jmp, x_rd, x_wr, x_is, hg, hj, x_len]
theorem x_T_last {x : Int64} {j : Int32} {a n pc2 : Nat} {f : Nat → Int64} {st : List Value} (hi : x_ins k pc = some .lastore) (hg : x_get h a = some (.inl (1, n, .inr (.inl f)))) (hj : x_in j n = true) (hn : pc + 1 = pc2) (t : x_T sc d k pc2 lv st (x_up h a (.inl (1, n, .inr (.inl (vp_updL f j.toNatClampNeg x))))) Q) : x_T sc d k pc lv (.long x :: .int j :: .ref a :: st) h Q := by
  subst hn
  refine x_T_step hi ?_ t
  simp [x_one, x_pop, x_lod, x_sto, x_jmp, x_rd, x_wr, x_ls, hg, hj, x_len]
theorem x_T_ts {dl lo hh : Int} {offs : Array Int} {x : Int32} {pc2 : Nat} {st : List Value} (hi : x_ins k pc = some (.tableswitch dl lo hh offs)) (hq : x_ts dl lo hh offs pc [.int x] = some (pc2, [])) (t : x_T sc d k pc2 lv st h Q) : x_T sc d k pc lv (.int x :: st) h Q := by
  refine x_T_step hi ?_ t
  have h1 : x_ts dl lo hh offs pc (.int x :: st) = some (pc2, st) := by
    unfold x_ts x_gt at hq ⊢
    simp only at hq ⊢
    split at hq
    · rename_i h1
      rw [if_pos h1]
      split at hq
      · rename_i h2
        rw [if_pos h2]
        cases hq
        rfl
      · cases hq
    · rename_i h1
      rw [if_neg h1]
      split at hq
      · rename_i off ho
        split at hq
        · rename_i h2
          rw [if_pos h2]
          cases hq
          rfl
        · cases hq
      · cases hq
  simp [x_one, x_pop, x_lod, x_sto, x_jmp, h1]
theorem x_T_iret {x : Int32} (hi : x_ins k pc = some .ireturn) (hr : x_rt k = some .int) (hq : Q (some (.int x)) h) : x_T sc d k pc lv [.int x] h Q := x_T_end hi (by simp [x_end, x_ri, hr]) hq
theorem x_T_zret {x : Int32} (hi : x_ins k pc = some .ireturn) (hr : x_rt k = some .boolean) (hx : x &&& 1 = x) (hq : Q (some (.int x)) h) : x_T sc d k pc lv [.int x] h Q := x_T_end hi (by simp [x_end, x_ri, hr, hx]) hq
theorem x_T_lret {x : Int64} (hi : x_ins k pc = some .lreturn) (hr : x_rt k = some .long) (hq : Q (some (.long x)) h) : x_T sc d k pc lv [.long x] h Q := x_T_end hi (by simp [x_end, x_rl, hr]) hq
theorem x_T_vret (hi : x_ins k pc = some .return_) (hr : x_rt k = none) (hq : Q none h) : x_T sc d k pc lv [] h Q := x_T_end hi (by simp [x_end, x_rv, hr]) hq
/-- a call; the callee's walk ends in what comes behind the call -/
theorem x_T_cs {idx kc n : Nat} {as r : List Value} (hi : x_ins k pc = some (.invokestatic idx)) (hm : x_mth k idx = some (kc, 0, n)) (hn : as.length = n) (hst : st = as.reverse ++ r) (hr : x_cs r ≤ 8) (ha : x_cs as ≤ x_nL kc) (t : x_T sc d kc 0 (x_en 0 as) [] h (fun v h' => x_T sc (d + 1) k (pc + 3) lv (v.toList ++ r) h' Q)) : x_T sc (d + 1) k pc lv st h Q := by
  subst hst hn
  have hd : (as.reverse ++ r).drop as.length = r := by
    rw [← List.length_reverse, List.drop_left]
  have ht : (as.reverse ++ r).take as.length = as.reverse := by
    rw [← List.length_reverse, List.take_left]
  refine x_T_call hi ?_ (r := r) (as := as) (kc := kc) ?_ ha t (fun v h' q => q)
  · simp [x_one, x_pop, x_lod, x_sto, x_jmp, x_rd, x_wr, x_or, x_mk, x_now, x_aci_no hm (by decide), x_acl_no hm (by decide), x_mm_no hm (by decide), x_mx_no hm (by decide)]
  · simp [x_cal, x_c0, hm, hd, ht, hr]
theorem x_T_cv {idx kc a n : Nat} {as r fs : List Value} (hi : x_ins k pc = some (.invokevirtual idx)) (hm : x_mth k idx = some (kc, 1, n)) (hn : as.length = n) (hst : st = as.reverse ++ .ref a :: r) (hg : x_get h a = some (.inr (x_own kc, fs))) (hr : x_cs r ≤ 8) (ha : x_cs (.ref a :: as) ≤ x_nL kc) (t : x_T sc d kc 0 (x_en 0 (.ref a :: as)) [] h (fun v h' => x_T sc (d + 1) k (pc + 3) lv (v.toList ++ r) h' Q)) : x_T sc (d + 1) k pc lv st h Q := by
  subst hst hn
  have hd : (as.reverse ++ .ref a :: r).drop as.length = .ref a :: r := by
    rw [← List.length_reverse, List.drop_left]
  have ht : (as.reverse ++ .ref a :: r).take as.length = as.reverse := by
    rw [← List.length_reverse, List.take_left]
  refine x_T_call hi rfl (r := r) (as := .ref a :: as) (kc := kc) ?_ ha t (fun v h' q => q)
  simp [x_cal, x_or, x_c1, hm, hd, ht, hr, hg]
theorem x_T_ci {idx kc a n : Nat} {as r : List Value} (hi : x_ins k pc = some (.invokespecial idx)) (hm : x_mth k idx = some (kc, 2, n)) (hn : as.length = n) (hst : st = as.reverse ++ .ref a :: r) (hr : x_cs r ≤ 8) (ha : x_cs (.ref a :: as) ≤ x_nL kc) (t : x_T sc d kc 0 (x_en 0 (.ref a :: as)) [] h (fun v h' => x_T sc (d + 1) k (pc + 3) lv (v.toList ++ r) h' Q)) : x_T sc (d + 1) k pc lv st h Q := by
  subst hst hn
  have hd : (as.reverse ++ .ref a :: r).drop as.length = .ref a :: r := by
    rw [← List.length_reverse, List.drop_left]
  have ht : (as.reverse ++ .ref a :: r).take as.length = as.reverse := by
    rw [← List.length_reverse, List.take_left]
  refine x_T_call hi ?_ (r := r) (as := .ref a :: as) (kc := kc) ?_ ha t (fun v h' q => q)
  · simp [x_one, x_pop, x_lod, x_sto, x_jmp, x_rd, x_wr, x_mk, x_now, x_oi_no hm (by decide)]
  · simp [x_cal, x_c2, hm, hd, ht, hr]
theorem x_T_new {idx ci pc2 : Nat} {fs : List Value} (hi : x_ins k pc = some (.new idx)) (hc : x_cls k idx = some (ci, fs)) (hn : pc + 3 = pc2) (t : x_T sc d k pc2 lv (.ref h.2.1 :: st) (x_nw h (.inr (ci, fs)) fs.length) Q) : x_T sc d k pc lv st h Q := by
  subst hn
  refine x_T_step hi ?_ t
  simp [x_one, x_pop, x_lod, x_sto, x_jmp, x_rd, x_wr, x_mk, x_no, hc, x_len]
end XX
/-- what a program can read off closed cells -/
def x_obj (h : x_H) (a : Nat) : Option (Nat × List Value) := match x_get h a with
  | some (.inr o) => some o
  | _ => none
def x_ari (h : x_H) (a : Nat) : Option (Nat × Nat) := match x_get h a with
  | some (.inl (t, n, .inl _)) => some (t, n)
  | _ => none
def x_ati (h : x_H) (a j : Nat) : Int32 := match x_get h a with
  | some (.inl (_, _, .inl f)) => f j
  | _ => 0
def x_arr (h : x_H) (a : Nat) : Option (Nat × Nat × List (Option Nat)) := match x_get h a with
  | some (.inl (t, n, .inr (.inr (.inr (.inr f))))) => some (t, n, (List.range n).map f)
  | _ => none
theorem x_obj_get {h : x_H} {a : Nat} {o : Nat × List Value} (q : x_obj h a = some o) : x_get h a = some (.inr o) := by
  unfold x_obj at q
  split at q
  · rename_i hg
    cases q
    exact hg
  · cases q
theorem x_ari_get {h : x_H} {a t n : Nat} (q : x_ari h a = some (t, n)) : ∃ f : Nat → Int32, x_get h a = some (.inl (t, n, .inl f)) ∧ ∀ j, f j = x_ati h a j := by
  unfold x_ari at q
  split at q
  · rename_i f hg
    cases q
    refine ⟨f, hg, fun j => ?_⟩
    simp [x_ati, hg]
  · cases q
theorem x_arr_get {h : x_H} {a t n : Nat} {l : List (Option Nat)} (q : x_arr h a = some (t, n, l)) : ∃ f : Nat → Option Nat, x_get h a = some (.inl (t, n, .inr (.inr (.inr (.inr f))))) ∧ (List.range n).map f = l := by
  unfold x_arr at q
  split at q
  · rename_i f hg
    cases q
    exact ⟨f, hg, rfl⟩
  · cases q
/-- a closed run, by its answer -/
def x_h00 : x_H := (fun _ => .inr (0, []), 0, 0)
def x_hp (o : Option (Option Value × x_H)) : x_H := match o with
  | some (_, h) => h
  | none => x_h00
def x_vl (o : Option (Option Value × x_H)) : Option (Option Value) := match o with
  | some (v, _) => some v
  | none => none
theorem x_T_closed {d k pc : Nat} {lv : x_L} {st : List Value} {h : x_H} (f : Nat) {v : Option Value} (q : x_vl (x_run none f d k pc lv st h) = some v) {sc : x_S} {Q : Option Value → x_H → Prop} (hQ : Q v (x_hp (x_run none f d k pc lv st h))) : x_T sc d k pc lv st h Q := by
  refine x_T_none ⟨f, v, x_hp (x_run none f d k pc lv st h), ?_, hQ⟩
  cases hr : x_run none f d k pc lv st h with
  | none => rw [hr] at q; cases q
  | some y =>
    obtain ⟨v2, h2⟩ := y
    rw [hr] at q
    cases q
    rfl
section XV
variable {sc : x_S} {d k pc : Nat} {lv : x_L} {h : x_H} {Q : Option Value → x_H → Prop}
theorem x_T_putfV {idx a ci sl fl pc2 : Nat} {ty : FieldType} {fs st : List Value} {v : Value} (hi : x_ins k pc = some (.putfield idx)) (hf : x_fld k idx = some (ci, sl, ty, fl)) (hg : x_get h a = some (.inr (ci, fs))) (hv : x_fit ty v = true) (hl : sl < fs.length) (hfl : fl < 2) (hn : pc + 3 = pc2) (t : ∀ h2 : x_H, x_get h2 a = some (.inr (ci, fs.set sl v)) → (∀ c, ¬ c = a → x_get h2 c = x_get h c) → h2.2 = h.2 → x_T sc d k pc2 lv st h2 Q) : x_T sc d k pc lv (v :: .ref a :: st) h Q :=
  x_T_putf hi hf hg hv hl hfl hn (t _ (x_get_up_s (x_get_lt hg)) (fun _ hc => x_get_up_n hc) rfl)
theorem x_T_iastV {x j : Int32} {a n pc2 : Nat} {f : Nat → Int32} {st : List Value} (hi : x_ins k pc = some .iastore) (hg : x_get h a = some (.inl (0, n, .inl f))) (hj : x_in j n = true) (hn : pc + 1 = pc2) (t : ∀ h2 : x_H, x_get h2 a = some (.inl (0, n, .inl (upd f j.toNatClampNeg x))) → (∀ c, ¬ c = a → x_get h2 c = x_get h c) → h2.2 = h.2 → x_T sc d k pc2 lv st h2 Q) : x_T sc d k pc lv (.int x :: .int j :: .ref a :: st) h Q :=
  x_T_iast hi hg hj hn (t _ (x_get_up_s (x_get_lt hg)) (fun _ hc => x_get_up_n hc) rfl)
theorem x_T_castV {x j : Int32} {a n pc2 : Nat} {f : Nat → Int32} {st : List Value} (hi : x_ins k pc = some .castore) (hg : x_get h a = some (.inl (2, n, .inl f))) (hj : x_in j n = true) (hn : pc + 1 = pc2) (t : ∀ h2 : x_H, x_get h2 a = some (.inl (2, n, .inl (upd f j.toNatClampNeg (vp_nar .char x)))) → (∀ c, ¬ c = a → x_get h2 c = x_get h c) → h2.2 = h.2 → x_T sc d k pc2 lv st h2 Q) : x_T sc d k pc lv (.int x :: .int j :: .ref a :: st) h Q :=
  x_T_cast hi hg hj hn (t _ (x_get_up_s (x_get_lt hg)) (fun _ hc => x_get_up_n hc) rfl)
end XV
