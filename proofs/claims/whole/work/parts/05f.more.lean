/-! More rows over the state: bits, longs, truth values, calls by contract, Strings. -/
def zB (b : Bool) : Int := if b then 1 else 0
theorem zB_t {b : Bool} (h : b = true) : zB b = 1 := by rw [h]; rfl
theorem zB_f {b : Bool} (h : b = false) : zB b = 0 := by rw [h]; rfl
theorem zB_R (b : Bool) : iR (zB b) := by cases b <;> exact ⟨by decide, by decide⟩
theorem zB_0 (b : Bool) : 0 ≤ zB b := by cases b <;> decide
theorem zB_1 (b : Bool) : zB b ≤ 1 := by cases b <;> decide
theorem zB_and (b : Bool) : iZ (zB b) &&& 1 = iZ (zB b) := by cases b <;> decide
theorem zB_fit (b : Bool) : x_fit .boolean (.int (iZ (zB b))) = true := by cases b <;> decide
theorem zB_nar (b : Bool) : vp_nar .boolean (iZ (zB b)) = iZ (zB b) := by cases b <;> decide
theorem zB_eq0 {b : Bool} : zB b = 0 ↔ b = false := by cases b <;> decide
theorem zB_ne0 {b : Bool} : ¬ zB b = 0 ↔ b = true := by cases b <;> decide
def zand (a b : Int) : Int := (iZ a &&& iZ b).toInt
def zor (a b : Int) : Int := (iZ a ||| iZ b).toInt
def zshl (a b : Int) : Int := (iZ a <<< (iZ b &&& 31)).toInt
def zshr (a b : Int) : Int := (iZ a >>> (iZ b &&& 31)).toInt
def zdiv (a b : Int) : Int := (iZ a / iZ b).toInt
def zrem (a b : Int) : Int := (iZ a - iZ a / iZ b * iZ b).toInt
def zi2c (a : Int) : Int := ((iZ a).toUInt32 % 65536).toInt32.toInt
def zl2i (x : Int64) : Int := x.toInt32.toInt
def li2l (a : Int) : Int64 := (iZ a).toInt64
def lshl (x : Int64) (a : Int) : Int64 := x <<< ((iZ a).toInt64 &&& 63)
def lshr (x : Int64) (a : Int) : Int64 := x >>> ((iZ a).toInt64 &&& 63)
theorem iZ_back (x : Int32) : iZ x.toInt = x := (iZ_of x).symm
theorem zand_R (a b : Int) : iR (zand a b) := iR_of _
theorem zor_R (a b : Int) : iR (zor a b) := iR_of _
theorem zshl_R (a b : Int) : iR (zshl a b) := iR_of _
theorem zshr_R (a b : Int) : iR (zshr a b) := iR_of _
theorem zdiv_R (a b : Int) : iR (zdiv a b) := iR_of _
theorem zrem_R (a b : Int) : iR (zrem a b) := iR_of _
theorem zi2c_R (a : Int) : iR (zi2c a) := iR_of _
theorem zl2i_R (a : Int64) : iR (zl2i a) := iR_of _
/-- a compare of two longs, by order -/
theorem lg_lt0 {x y : Int64} : x_cc .lt (lg_cmp x y) 0 = true ↔ x < y := by
  unfold lg_cmp
  by_cases h1 : y < x
  · have h2 : ¬ x < y := fun z => Int64.lt_irrefl (Int64.lt_trans h1 z)
    simp [x_cc, h1, h2]
  · by_cases h2 : x = y
    · subst h2
      simp [x_cc, Int64.lt_irrefl]
    · have h3 : x < y := by
        rw [Int64.lt_iff_toInt_lt] at h1 ⊢
        have : ¬ x.toInt = y.toInt := fun z => h2 (Int64.toInt_inj.mp z)
        omega
      simp [x_cc, h1, h2, h3]
theorem lg_gt0 {x y : Int64} : x_cc .gt (lg_cmp x y) 0 = true ↔ y < x := by
  unfold lg_cmp
  by_cases h1 : y < x
  · simp [x_cc, h1]
  · by_cases h2 : x = y
    · subst h2
      simp [x_cc, Int64.lt_irrefl]
    · simp [x_cc, h1, h2]
theorem lg_ge0 {x y : Int64} : x_cc .ge (lg_cmp x y) 0 = true ↔ ¬ x < y := by
  have h := lg_lt0 (x := x) (y := y)
  have e : x_cc .ge (lg_cmp x y) 0 = !x_cc .lt (lg_cmp x y) 0 := by
    unfold lg_cmp
    split
    · decide
    · split <;> decide
  rw [e]
  simp [← h]
theorem lg_le0 {x y : Int64} : x_cc .le (lg_cmp x y) 0 = true ↔ ¬ y < x := by
  have h := lg_gt0 (x := x) (y := y)
  have e : x_cc .le (lg_cmp x y) 0 = !x_cc .gt (lg_cmp x y) 0 := by
    unfold lg_cmp
    split
    · decide
    · split <;> decide
  rw [e]
  simp [← h]
section WF
variable {sc : x_S} {d k pc : Nat} {lv : x_L} {st : List Value} {S : w_S} {Q : Option Value → w_S → Prop} {pc2 pc3 : Nat}
theorem w_l_lt {x y : Int64} {off : Int} (hi0 : x_ins k pc = some .lcmp) (hi : x_ins k (pc + 1) = some (.ifCond .lt off)) (hn : ((pc + 1 : Nat) : Int) + off = (pc2 : Int)) (hm : pc + 1 + 3 = pc3) (t : x < y → w_T sc d k pc2 lv st S Q) (f : ¬ x < y → w_T sc d k pc3 lv st S Q) : w_T sc d k pc lv (.long y :: .long x :: st) S Q := fun h hW => x_T_lcmp hi0 rfl (x_T_if hi hn hm (fun q => t (lg_lt0.mp q) h hW) (fun q => f (fun z => q (lg_lt0.mpr z)) h hW))
theorem w_l_gt {x y : Int64} {off : Int} (hi0 : x_ins k pc = some .lcmp) (hi : x_ins k (pc + 1) = some (.ifCond .gt off)) (hn : ((pc + 1 : Nat) : Int) + off = (pc2 : Int)) (hm : pc + 1 + 3 = pc3) (t : y < x → w_T sc d k pc2 lv st S Q) (f : ¬ y < x → w_T sc d k pc3 lv st S Q) : w_T sc d k pc lv (.long y :: .long x :: st) S Q := fun h hW => x_T_lcmp hi0 rfl (x_T_if hi hn hm (fun q => t (lg_gt0.mp q) h hW) (fun q => f (fun z => q (lg_gt0.mpr z)) h hW))
theorem w_l_ge {x y : Int64} {off : Int} (hi0 : x_ins k pc = some .lcmp) (hi : x_ins k (pc + 1) = some (.ifCond .ge off)) (hn : ((pc + 1 : Nat) : Int) + off = (pc2 : Int)) (hm : pc + 1 + 3 = pc3) (t : ¬ x < y → w_T sc d k pc2 lv st S Q) (f : x < y → w_T sc d k pc3 lv st S Q) : w_T sc d k pc lv (.long y :: .long x :: st) S Q := fun h hW => x_T_lcmp hi0 rfl (x_T_if hi hn hm (fun q => t (lg_ge0.mp q) h hW) (fun q => f (Decidable.byContradiction (fun z => q (lg_ge0.mpr z))) h hW))
theorem w_l_le {x y : Int64} {off : Int} (hi0 : x_ins k pc = some .lcmp) (hi : x_ins k (pc + 1) = some (.ifCond .le off)) (hn : ((pc + 1 : Nat) : Int) + off = (pc2 : Int)) (hm : pc + 1 + 3 = pc3) (t : ¬ y < x → w_T sc d k pc2 lv st S Q) (f : y < x → w_T sc d k pc3 lv st S Q) : w_T sc d k pc lv (.long y :: .long x :: st) S Q := fun h hW => x_T_lcmp hi0 rfl (x_T_if hi hn hm (fun q => t (lg_le0.mp q) h hW) (fun q => f (Decidable.byContradiction (fun z => q (lg_le0.mpr z))) h hW))
theorem w_zand {a b : Int} (hi : x_ins k pc = some .iand) (hn : pc + 1 = pc2) (t : w_T sc d k pc2 lv (.int (iZ (zand a b)) :: st) S Q) : w_T sc d k pc lv (.int (iZ b) :: .int (iZ a) :: st) S Q := w_iand hi hn (by unfold zand at t; rw [iZ_back] at t; exact t)
theorem w_zor {a b : Int} (hi : x_ins k pc = some .ior) (hn : pc + 1 = pc2) (t : w_T sc d k pc2 lv (.int (iZ (zor a b)) :: st) S Q) : w_T sc d k pc lv (.int (iZ b) :: .int (iZ a) :: st) S Q := w_ior hi hn (by unfold zor at t; rw [iZ_back] at t; exact t)
theorem w_zshl {a b : Int} (hi : x_ins k pc = some .ishl) (hn : pc + 1 = pc2) (t : w_T sc d k pc2 lv (.int (iZ (zshl a b)) :: st) S Q) : w_T sc d k pc lv (.int (iZ b) :: .int (iZ a) :: st) S Q := w_ishl hi hn (by unfold zshl at t; rw [iZ_back] at t; exact t)
theorem w_zshr {a b : Int} (hi : x_ins k pc = some .ishr) (hn : pc + 1 = pc2) (t : w_T sc d k pc2 lv (.int (iZ (zshr a b)) :: st) S Q) : w_T sc d k pc lv (.int (iZ b) :: .int (iZ a) :: st) S Q := w_ishr hi hn (by unfold zshr at t; rw [iZ_back] at t; exact t)
theorem w_zdiv {a b : Int} (hi : x_ins k pc = some .idiv) (hy : ¬ iZ b = 0) (hn : pc + 1 = pc2) (t : w_T sc d k pc2 lv (.int (iZ (zdiv a b)) :: st) S Q) : w_T sc d k pc lv (.int (iZ b) :: .int (iZ a) :: st) S Q := w_idiv hi hy hn (by unfold zdiv at t; rw [iZ_back] at t; exact t)
theorem w_zrem {a b : Int} (hi : x_ins k pc = some .irem) (hy : ¬ iZ b = 0) (hn : pc + 1 = pc2) (t : w_T sc d k pc2 lv (.int (iZ (zrem a b)) :: st) S Q) : w_T sc d k pc lv (.int (iZ b) :: .int (iZ a) :: st) S Q := w_irem hi hy hn (by unfold zrem at t; rw [iZ_back] at t; exact t)
theorem w_zi2c {a : Int} (hi : x_ins k pc = some .i2c) (hn : pc + 1 = pc2) (t : w_T sc d k pc2 lv (.int (iZ (zi2c a)) :: st) S Q) : w_T sc d k pc lv (.int (iZ a) :: st) S Q := w_i2c hi hn (by unfold zi2c at t; rw [iZ_back] at t; exact t)
theorem w_zl2i {x : Int64} (hi : x_ins k pc = some .l2i) (hn : pc + 1 = pc2) (t : w_T sc d k pc2 lv (.int (iZ (zl2i x)) :: st) S Q) : w_T sc d k pc lv (.long x :: st) S Q := w_l2i hi hn (by unfold zl2i at t; rw [iZ_back] at t; exact t)
theorem w_zi2l {a : Int} (hi : x_ins k pc = some .i2l) (hn : pc + 1 = pc2) (t : w_T sc d k pc2 lv (.long (li2l a) :: st) S Q) : w_T sc d k pc lv (.int (iZ a) :: st) S Q := w_i2l hi hn t
theorem w_zlshl {x : Int64} {a : Int} (hi : x_ins k pc = some .lshl) (hn : pc + 1 = pc2) (t : w_T sc d k pc2 lv (.long (lshl x a) :: st) S Q) : w_T sc d k pc lv (.int (iZ a) :: .long x :: st) S Q := w_lshl hi hn t
theorem w_zlshr {x : Int64} {a : Int} (hi : x_ins k pc = some .lshr) (hn : pc + 1 = pc2) (t : w_T sc d k pc2 lv (.long (lshr x a) :: st) S Q) : w_T sc d k pc lv (.int (iZ a) :: .long x :: st) S Q := w_lshr hi hn t
/-- truth values -/
theorem w_b_eq {b : Bool} {off : Int} (hi : x_ins k pc = some (.ifCond .eq off)) (hn : (pc : Int) + off = (pc2 : Int)) (hm : pc + 3 = pc3) (t : b = false → w_T sc d k pc2 lv st S Q) (f : b = true → w_T sc d k pc3 lv st S Q) : w_T sc d k pc lv (.int (iZ (zB b)) :: st) S Q := w_if_eq hi hn hm (zB_R b) (fun q => t (zB_eq0.mp q)) (fun q => f (zB_ne0.mp q))
theorem w_b_ne {b : Bool} {off : Int} (hi : x_ins k pc = some (.ifCond .ne off)) (hn : (pc : Int) + off = (pc2 : Int)) (hm : pc + 3 = pc3) (t : b = true → w_T sc d k pc2 lv st S Q) (f : b = false → w_T sc d k pc3 lv st S Q) : w_T sc d k pc lv (.int (iZ (zB b)) :: st) S Q := w_if_ne hi hn hm (zB_R b) (fun q => t (zB_ne0.mp q)) (fun q => f (zB_eq0.mp q))
theorem w_p_eq {p : Prop} [Decidable p] {off : Int} (hi : x_ins k pc = some (.ifCond .eq off)) (hn : (pc : Int) + off = (pc2 : Int)) (hm : pc + 3 = pc3) (t : ¬ p → w_T sc d k pc2 lv st S Q) (f : p → w_T sc d k pc3 lv st S Q) : w_T sc d k pc lv (.int (iZ (zB (decide p))) :: st) S Q := w_b_eq hi hn hm (fun q => t (of_decide_eq_false q)) (fun q => f (of_decide_eq_true q))
theorem w_p_ne {p : Prop} [Decidable p] {off : Int} (hi : x_ins k pc = some (.ifCond .ne off)) (hn : (pc : Int) + off = (pc2 : Int)) (hm : pc + 3 = pc3) (t : p → w_T sc d k pc2 lv st S Q) (f : ¬ p → w_T sc d k pc3 lv st S Q) : w_T sc d k pc lv (.int (iZ (zB (decide p))) :: st) S Q := w_b_ne hi hn hm (fun q => t (of_decide_eq_true q)) (fun q => f (of_decide_eq_false q))
theorem w_bret {b : Bool} (hi : x_ins k pc = some .ireturn) (hr : x_rt k = some .boolean) (hq : Q (some (.int (iZ (zB b)))) S) : w_T sc d k pc lv [.int (iZ (zB b))] S Q := w_zret hi hr (zB_and b) hq
/-- a join: the value that all roads bring -/
theorem w_j1 {p : Prop} [Decidable p] (hp : p) (t : w_T sc d k pc lv (.int (iZ (zB (decide p))) :: st) S Q) : w_T sc d k pc lv (.int (iZ 1) :: st) S Q := by
  rw [zB_t (decide_eq_true hp)] at t
  exact t
theorem w_j0 {p : Prop} [Decidable p] (hp : ¬ p) (t : w_T sc d k pc lv (.int (iZ (zB (decide p))) :: st) S Q) : w_T sc d k pc lv (.int (iZ 0) :: st) S Q := by
  rw [zB_f (decide_eq_false hp)] at t
  exact t
theorem w_ji1 {p : Prop} [Decidable p] {a b : Int} (hp : p) (t : w_T sc d k pc lv (.int (iZ (if p then a else b)) :: st) S Q) : w_T sc d k pc lv (.int (iZ a) :: st) S Q := by
  rw [if_pos hp] at t
  exact t
theorem w_ji0 {p : Prop} [Decidable p] {a b : Int} (hp : ¬ p) (t : w_T sc d k pc lv (.int (iZ (if p then a else b)) :: st) S Q) : w_T sc d k pc lv (.int (iZ b) :: st) S Q := by
  rw [if_neg hp] at t
  exact t
theorem w_jl1 {p : Prop} [Decidable p] {a b : Int64} (hp : p) (t : w_T sc d k pc lv (.long (if p then a else b) :: st) S Q) : w_T sc d k pc lv (.long a :: st) S Q := by
  rw [if_pos hp] at t
  exact t
theorem w_jl0 {p : Prop} [Decidable p] {a b : Int64} (hp : ¬ p) (t : w_T sc d k pc lv (.long (if p then a else b) :: st) S Q) : w_T sc d k pc lv (.long b :: st) S Q := by
  rw [if_neg hp] at t
  exact t
/-- calls by contract -/
theorem w_CS {idx kc n : Nat} {as r : List Value} {Q1 : Option Value → w_S → Prop} (hi : x_ins k pc = some (.invokestatic idx)) (hm : x_mth k idx = some (kc, 0, n)) (hn : as.length = n) (hst : st = as.reverse ++ r) (hr : x_cs r ≤ 8) (ha : x_cs as ≤ x_nL kc) (hd : 0 < d) (hp : pc + 3 = pc2) (c : w_T sc (d - 1) kc 0 (x_en 0 as) [] S Q1) (t : ∀ v S2, Q1 v S2 → w_T sc d k pc2 lv (v.toList ++ r) S2 Q) : w_T sc d k pc lv st S Q := by
  subst hp
  obtain ⟨e, rfl⟩ : ∃ e, d = e + 1 := ⟨d - 1, by omega⟩
  exact w_cs hi hm hn hst hr ha (w_mono c t)
theorem w_CV {idx kc a n nn : Nat} {fs : List (Nat × Nat)} {as r : List Value} {Q1 : Option Value → w_S → Prop} (hi : x_ins k pc = some (.invokevirtual idx)) (hm : x_mth k idx = some (kc, 1, n)) (hn : as.length = n) (hst : st = as.reverse ++ .ref a :: r) (hs : w_sh[a]? = some (0, x_own kc, nn, fs)) (hr : x_cs r ≤ 8) (ha : x_cs (.ref a :: as) ≤ x_nL kc) (hd : 0 < d) (hp : pc + 3 = pc2) (c : w_T sc (d - 1) kc 0 (x_en 0 (.ref a :: as)) [] S Q1) (t : ∀ v S2, Q1 v S2 → w_T sc d k pc2 lv (v.toList ++ r) S2 Q) : w_T sc d k pc lv st S Q := by
  subst hp
  obtain ⟨e, rfl⟩ : ∃ e, d = e + 1 := ⟨d - 1, by omega⟩
  exact w_cv hi hm hn hst hs hr ha (w_mono c t)
theorem w_C7 {idx kc q n : Nat} {as r : List Value} {Q1 : Option Value → w_S → Prop} (hi : x_ins k pc = some (.invokevirtual idx)) (hm : x_mth k idx = some (kc, 7, n)) (hn : as.length = n) (hst : st = as.reverse ++ .retAddr q :: r) (hq : 1 ≤ q ∧ q < 1 + x_gn) (hr : x_cs r ≤ 8) (ha : x_cs (.retAddr q :: as) ≤ x_nL kc) (hd : 0 < d) (hp : pc + 3 = pc2) (c : w_T sc (d - 1) kc 0 (x_en 0 (.retAddr q :: as)) [] S Q1) (t : ∀ v S2, Q1 v S2 → w_T sc d k pc2 lv (v.toList ++ r) S2 Q) : w_T sc d k pc lv st S Q := by
  subst hp
  obtain ⟨e, rfl⟩ : ∃ e, d = e + 1 := ⟨d - 1, by omega⟩
  subst hst hn
  intro h hW
  have hd : (as.reverse ++ .retAddr q :: r).drop as.length = .retAddr q :: r := by
    rw [← List.length_reverse, List.drop_left]
  have ht : (as.reverse ++ .retAddr q :: r).take as.length = as.reverse := by
    rw [← List.length_reverse, List.take_left]
  refine x_T_call hi rfl (r := r) (as := .retAddr q :: as) (kc := kc) ?_ ha (c h hW) (fun v h' q => ?_)
  · simp [x_cal, x_or, x_c1, x_c7, hm, hd, ht, hr, hq]
  · obtain ⟨S2, a, b⟩ := q
    exact t v S2 b h' a
theorem w_min {a b : Int} {idx qq nn : Nat} (hi : x_ins k pc = some (.invokestatic idx)) (hm : x_mth k idx = some (qq, 4, nn)) (ha : iR a) (hb : iR b) (hd : ¬ d = 0) (hr : x_cs st ≤ 8) (hn : pc + 3 = pc2) (t : w_T sc d k pc2 lv (.int (iZ (if b < a then b else a)) :: st) S Q) : w_T sc d k pc lv (.int (iZ b) :: .int (iZ a) :: st) S Q := by
  subst hn
  intro h hW
  refine x_T_step hi ?_ (t h hW)
  have e : (if iZ b < iZ a then iZ b else iZ a) = iZ (if b < a then b else a) := by
    by_cases hc : b < a
    · rw [if_pos hc, if_pos ((iZ_lt hb ha).mpr hc)]
    · rw [if_neg hc, if_neg (fun z => hc ((iZ_lt hb ha).mp z))]
  simp [x_one, x_pop, x_lod, x_sto, x_jmp, x_rd, x_wr, x_or, x_aci_no hm (by decide), x_acl_no hm (by decide), x_mk, x_now, x_mm, hm, hd, hr, e]
theorem w_ldci {idx : Nat} {v : Int} (hi : x_ins k pc = some (.ldc idx)) (hc : x_con k idx = some (.int (iZ v))) (hn : pc + 2 = pc2) (t : w_T sc d k pc2 lv (.int (iZ v) :: st) S Q) : w_T sc d k pc lv st S Q := by
  subst hn
  intro h hW
  refine x_T_step hi ?_ (t h hW)
  simp [x_one, x_pop, x_lod, x_sto, x_jmp, x_rd, x_or, x_lc, hc, x_len]
theorem w_ldcw {idx : Nat} {v : Int} (hi : x_ins k pc = some (.ldc_w idx)) (hc : x_con k idx = some (.int (iZ v))) (hn : pc + 3 = pc2) (t : w_T sc d k pc2 lv (.int (iZ v) :: st) S Q) : w_T sc d k pc lv st S Q := by
  subst hn
  intro h hW
  refine x_T_step hi ?_ (t h hW)
  simp [x_one, x_pop, x_lod, x_sto, x_jmp, x_rd, x_or, x_lc, hc, x_len]
theorem w_ldcs {idx q : Nat} (hi : x_ins k pc = some (.ldc idx)) (hc : x_con k idx = some (.retAddr q)) (hn : pc + 2 = pc2) (t : w_T sc d k pc2 lv (.retAddr q :: st) S Q) : w_T sc d k pc lv st S Q := by
  subst hn
  intro h hW
  refine x_T_step hi ?_ (t h hW)
  simp [x_one, x_pop, x_lod, x_sto, x_jmp, x_rd, x_or, x_lc, x_lcs, hc, x_len]
theorem w_aloadk {j x : Nat} (hi : x_ins k pc = some (.aload j)) (hl : lv j = some (.retAddr x)) (hx : x < 2000) (hn : pc + 2 = pc2) (t : w_T sc d k pc2 lv (.retAddr x :: st) S Q) : w_T sc d k pc lv st S Q := fun h hW => x_T_aload_k hi hl hx hn (t h hW)
theorem w_aloadk_n {j : Fin 4} {x : Nat} (hi : x_ins k pc = some (.aload_n j)) (hl : lv (j : Nat) = some (.retAddr x)) (hx : x < 2000) (hn : pc + 1 = pc2) (t : w_T sc d k pc2 lv (.retAddr x :: st) S Q) : w_T sc d k pc lv st S Q := fun h hW => x_T_aload_nk hi hl hx hn (t h hW)
theorem w_sgetv {idx q : Nat} (hi : x_ins k pc = some (.getfield idx)) (hf : x_sfl k idx = some 0) (hq : 1 ≤ q ∧ q < 1 + x_gn) (hn : pc + 3 = pc2) (t : w_T sc d k pc2 lv (.retAddr (999 + q) :: st) S Q) : w_T sc d k pc lv (.retAddr q :: st) S Q := by
  subst hn
  intro h hW
  refine x_T_step hi ?_ (t h hW)
  simp [x_one, x_pop, x_lod, x_sto, x_jmp, x_rd, x_or, x_gf, x_sg, hf, hq, x_len]
theorem w_sgetc {idx q : Nat} (hi : x_ins k pc = some (.getfield idx)) (hf : x_sfl k idx = some 1) (hq : 1 ≤ q ∧ q < 1 + x_gn) (hn : pc + 3 = pc2) (t : w_T sc d k pc2 lv (.int (iZ 0) :: st) S Q) : w_T sc d k pc lv (.retAddr q :: st) S Q := by
  subst hn
  intro h hW
  refine x_T_step hi ?_ (t h hW)
  have e : iZ 0 = 0 := by decide
  simp [x_one, x_pop, x_lod, x_sto, x_jmp, x_rd, x_or, x_gf, x_sg, hf, hq, x_len, e]
theorem w_sstat {idx : Nat} (hi : x_ins k pc = some (.getstatic idx)) (hf : x_stt k idx = some 0) (hn : pc + 3 = pc2) (t : w_T sc d k pc2 lv (.int (iZ 1) :: st) S Q) : w_T sc d k pc lv st S Q := by
  subst hn
  intro h hW
  refine x_T_step hi ?_ (t h hW)
  have e : iZ 1 = 1 := by decide
  simp [x_one, x_pop, x_lod, x_sto, x_jmp, x_rd, x_gs, hf, x_len, e]
theorem w_sstat1 {idx : Nat} (hi : x_ins k pc = some (.getstatic idx)) (hf : x_stt k idx = some 1) (hn : pc + 3 = pc2) (t : w_T sc d k pc2 lv (.retAddr 2000 :: st) S Q) : w_T sc d k pc lv st S Q := by
  subst hn
  intro h hW
  refine x_T_step hi ?_ (t h hW)
  simp [x_one, x_pop, x_lod, x_sto, x_jmp, x_rd, x_gs, hf, x_len]
/-- the letters of the constants -/
def sgl (q : Nat) : Int := (x_gl.getD (q - 1) 0 : Nat)
def sgb (q : Nat) (i : Int) : Int := ((x_gb.getD (q - 1) []).getD i.toNat 0).toInt
theorem w_sbald {q : Nat} {i : Int} (hi : x_ins k pc = some .baload) (hq : 1 ≤ q ∧ q < 1 + x_gn) (h0 : 0 ≤ i) (h1 : i < sgl q) (h2 : i < 2147483648) (hn : pc + 1 = pc2) (t : w_T sc d k pc2 lv (.int (iZ (sgb q i)) :: st) S Q) : w_T sc d k pc lv (.int (iZ i) :: .retAddr (999 + q) :: st) S Q := by
  subst hn
  intro h hW
  refine x_T_step hi ?_ (t h hW)
  have c1 := iZ_clamp (a := i) ⟨by omega, by omega⟩
  have e : 999 + q - 1000 = q - 1 := by omega
  have h3 : x_in (iZ i) (x_gl.getD (q - 1) 0) = true := by
    have z0 : ¬ iZ i < 0 := by
      rw [show (0 : Int32) = iZ 0 by decide, iZ_lt ⟨by omega, by omega⟩ iR_0]
      omega
    unfold sgl at h1
    unfold x_in
    rw [c1]
    simp only [Bool.and_eq_true, Bool.not_eq_true', decide_eq_false_iff_not, decide_eq_true_eq]
    exact ⟨z0, by omega⟩
  have h4 : 1000 ≤ 999 + q ∧ 999 + q < 1000 + x_gn := ⟨by omega, by omega⟩
  have h5 : iZ (sgb q i) = (x_gb.getD (q - 1) []).getD i.toNat 0 := by
    unfold sgb
    exact iZ_back _
  have h6 : x_ca 3 (.int (iZ i) :: .retAddr (999 + q) :: st) h = none := rfl
  have h7 : x_bb (.int (iZ i) :: .retAddr (999 + q) :: st) = some (.int (iZ (sgb q i)) :: st) := by
    show (if 1000 ≤ 999 + q ∧ 999 + q < 1000 + x_gn ∧ x_in (iZ i) (x_gl.getD (999 + q - 1000) 0) = true then some (.int ((x_gb.getD (999 + q - 1000) []).getD (iZ i).toNatClampNeg 0) :: st) else none) = _
    rw [e, c1, if_pos ⟨h4.1, h4.2, h3⟩, h5]
  simp only [x_one, x_pop, x_lod, x_sto, x_jmp, x_rd, x_or, h6, h7, x_len]
theorem w_salen {q : Nat} (hi : x_ins k pc = some .arraylength) (hq : 1 ≤ q ∧ q < 1 + x_gn) (hn : pc + 1 = pc2) (t : w_T sc d k pc2 lv (.int (iZ (sgl q)) :: st) S Q) : w_T sc d k pc lv (.retAddr (999 + q) :: st) S Q := by
  subst hn
  intro h hW
  refine x_T_step hi ?_ (t h hW)
  have e : 999 + q - 1000 = q - 1 := by omega
  have h4 : 1000 ≤ 999 + q ∧ 999 + q < 1000 + x_gn := ⟨by omega, by omega⟩
  have h6 : x_al sc (.retAddr (999 + q) :: st) h = none := by
    unfold x_al
    cases sc with
    | none => rfl
    | some z =>
      show (if 999 + q = 0 then _ else none) = none
      rw [if_neg (by omega)]
  have h7 : x_bl (.retAddr (999 + q) :: st) = some (.int (iZ (sgl q)) :: st) := by
    show (if 1000 ≤ 999 + q ∧ 999 + q < 1000 + x_gn then some (.int (Int32.ofNat (x_gl.getD (999 + q - 1000) 0)) :: st) else none) = _
    rw [e, if_pos h4]
    rfl
  simp only [x_one, x_pop, x_lod, x_sto, x_jmp, x_rd, x_or, h6, h7, x_len]
theorem w_ts {dl lo hh : Int} {offs : Array Int} {z : Int} (hi : x_ins k pc = some (.tableswitch dl lo hh offs)) (hq : x_ts dl lo hh offs pc [.int (iZ z)] = some (pc2, [])) (t : w_T sc d k pc2 lv st S Q) : w_T sc d k pc lv (.int (iZ z) :: st) S Q := fun h hW => x_T_ts hi hq (t h hW)
end WF
/-- reading behind a change -/
theorem rv_self (S : w_S) (a k : Nat) (z : Int) : sv (w_v S a k z) a k = z := by simp [sv, w_v]
theorem rv_ne {S : w_S} {a k b j : Nat} {z : Int} (h : ¬ (b = a ∧ j = k)) : sv (w_v S a k z) b j = sv S b j := by simp only [sv, w_v, if_neg h]
theorem rl_self (S : w_S) (a k : Nat) (z : Int64) : sl (w_l S a k z) a k = z := by simp [sl, w_l]
theorem rl_ne {S : w_S} {a k b j : Nat} {z : Int64} (h : ¬ (b = a ∧ j = k)) : sl (w_l S a k z) b j = sl S b j := by simp only [sl, w_l, if_neg h]
theorem rA_self (S : w_S) (a : Nat) (f : Int → Int) : sA (w_A S a f) a = f := by simp [sA, w_A]
theorem rA_ne {S : w_S} {a b : Nat} {f : Int → Int} (h : ¬ b = a) : sA (w_A S a f) b = sA S b := by simp only [sA, w_A, if_neg h]
theorem rL_self (S : w_S) (a : Nat) (f : Int → Int64) : sL (w_L S a f) a = f := by simp [sL, w_L]
theorem rL_ne {S : w_S} {a b : Nat} {f : Int → Int64} (h : ¬ b = a) : sL (w_L S a f) b = sL S b := by simp only [sL, w_L, if_neg h]
theorem rR_self (S : w_S) (a : Nat) (f : Int → Option Nat) : sR (w_R S a f) a = f := by simp [sR, w_R]
theorem rR_ne {S : w_S} {a b : Nat} {f : Int → Option Nat} (h : ¬ b = a) : sR (w_R S a f) b = sR S b := by simp only [sR, w_R, if_neg h]
