/-! Walking by the machine of part 03: x_T sc d k pc lv st h Q: from here the method ends, and Q holds of its answer and the cells. -/
def x_T (sc : x_S) (d k pc : Nat) (lv : x_L) (st : List Value) (h : x_H) (Q : Option Value → x_H → Prop) : Prop := ∃ (f : Nat) (r : Option Value) (h' : x_H), x_run sc f d k pc lv st h = some (r, h') ∧ Q r h'
theorem x_one_end {sc : x_S} {d k pc : Nat} {i : Instr} {lv : x_L} {st : List Value} {h : x_H} {r : Option Value} (q : x_end k i st = some r) : x_one sc d k i pc lv st h = none := by
  cases i <;> first
    | (simp [x_end] at q; done)
    | rfl
theorem x_cal_end {k : Nat} {i : Instr} {st : List Value} {h : x_H} {y : Nat × List Value × List Value} (q : x_cal k i st h = some y) : x_end k i st = none := by
  cases i <;> first
    | (simp [x_cal] at q; done)
    | rfl
theorem x_one_cal {sc sc' : x_S} {d k pc : Nat} {i : Instr} {lv : x_L} {st : List Value} {h : x_H} {y : Nat × List Value × List Value} (h1 : x_one sc d k i pc lv st h = none) (q : x_cal k i st h = some y) : x_one sc' d k i pc lv st h = none := by
  cases i <;> first
    | (simp [x_cal] at q; done)
    | exact h1
theorem x_ia_sc {sc' : x_S} {st st' : List Value} {h : x_H} (q : x_ia none st h = some st') : x_ia sc' st h = some st' := by
  rcases x_ia_inv q with ⟨j, a, r, n, f, rfl, hg, hj, rfl⟩ | ⟨z, j, r, hz, -⟩
  · simp [x_ia, hg, hj]
  · cases hz
theorem x_al_sc {sc' : x_S} {st st' : List Value} {h : x_H} (q : x_al none st h = some st') : x_al sc' st h = some st' := by
  rcases x_al_inv q with ⟨a, r, t, n, f, rfl, hg, ht, rfl⟩ | ⟨z, r, hz, -⟩
  · simp [x_al, hg, ht]
  · cases hz
theorem x_rl_sc {sc' : x_S} {st st' : List Value} {h : x_H} (q : x_or (x_al none st h) (x_bl st) = some st') : x_or (x_al sc' st h) (x_bl st) = some st' := by
  rcases x_or_inv q with q1 | q1
  · rw [x_al_sc (sc' := sc') q1]
    rfl
  · obtain ⟨i, r, rfl, hi, rfl⟩ := x_bl_inv q1
    have e : x_al sc' (.retAddr (1000 + i) :: r) h = none := by
      unfold x_al
      simp only
      split
      · split
        · omega
        · rfl
      · rfl
    rw [e]
    exact q1
theorem x_one_sc {sc sc' : x_S} (hs : sc = none ∨ sc = sc') {d k pc : Nat} {i : Instr} {lv : x_L} {st : List Value} {h : x_H} {y : Nat × x_L × List Value × x_H} (h1 : x_one sc d k i pc lv st h = some y) : x_one sc' d k i pc lv st h = some y := by
  rcases hs with rfl | rfl
  · cases i <;> first
      | exact h1
      | skip
    case arraylength =>
      cases hq : x_or (x_al none st h) (x_bl st) with
      | none => simp [x_one, x_pop, x_lod, x_sto, x_jmp, x_rd, x_wr, x_mk, x_now, hq] at h1
      | some st' =>
        have h2 := x_rl_sc (sc' := sc') hq
        simp [x_one, x_pop, x_lod, x_sto, x_jmp, x_rd, hq] at h1
        simp [x_one, x_pop, x_lod, x_sto, x_jmp, x_rd, h2, h1]
    case iaload =>
      cases hq : x_ia none st h with
      | none => simp [x_one, x_pop, x_lod, x_sto, x_jmp, x_rd, x_wr, x_mk, x_now, hq] at h1
      | some st' =>
        have h2 := x_ia_sc (sc' := sc') hq
        simp [x_one, x_pop, x_lod, x_sto, x_jmp, x_rd, hq] at h1
        simp [x_one, x_pop, x_lod, x_sto, x_jmp, x_rd, h2, h1]
  · exact h1
theorem x_bd_mono {sc sc' : x_S} {F G : x_F} (hs : sc = none ∨ sc = sc') (hFG : ∀ d k pc lv st h x, F d k pc lv st h = some x → G d k pc lv st h = some x) {d k pc : Nat} {lv : x_L} {st : List Value} {h : x_H} {x : Option Value × x_H} (q : x_bd sc F d k pc lv st h = some x) : x_bd sc' G d k pc lv st h = some x := by
  unfold x_bd at q ⊢
  cases hi : x_ins k pc with
  | none => rw [hi] at q; cases q
  | some i =>
    rw [hi] at q
    simp only at q ⊢
    cases h1 : x_one sc d k i pc lv st h with
    | some y =>
      have h2 : x_one sc' d k i pc lv st h = some y := x_one_sc hs h1
      rw [h1] at q
      rw [h2]
      exact hFG _ _ _ _ _ _ _ q
    | none =>
      rw [h1] at q
      simp only at q
      cases h3 : x_end k i st with
      | some r =>
        rw [h3] at q
        have h2 : x_one sc' d k i pc lv st h = none := x_one_end h3
        rw [h2]
        exact q
      | none =>
        rw [h3] at q
        simp only at q
        cases h4 : x_cal k i st h with
        | none => rw [h4] at q; cases q
        | some y =>
          obtain ⟨kc, as, r⟩ := y
          rw [h4] at q
          have h2 : x_one sc' d k i pc lv st h = none := x_one_cal h1 h4
          rw [h2]
          simp only at q ⊢
          split at q
          · rename_i h5
            rw [if_pos h5]
            cases d with
            | zero => cases q
            | succ d' =>
              simp only at q ⊢
              cases h6 : F d' kc 0 (x_en 0 as) [] h with
              | none => rw [h6] at q; cases q
              | some y =>
                rw [h6] at q
                rw [hFG _ _ _ _ _ _ _ h6]
                exact hFG _ _ _ _ _ _ _ q
          · cases q
theorem x_run_up {sc sc' : x_S} (hs : sc = none ∨ sc = sc') : ∀ (f n d k pc : Nat) (lv : x_L) (st : List Value) (h : x_H) (x : Option Value × x_H), x_run sc f d k pc lv st h = some x → x_run sc' (f + n) d k pc lv st h = some x
  | 0, n, d, k, pc, lv, st, h, x, q => by cases q
  | f + 1, n, d, k, pc, lv, st, h, x, q => by
    have e1 : f + 1 + n = (f + n) + 1 := by omega
    rw [e1]
    exact x_bd_mono hs (fun d k pc lv st h x q => x_run_up hs f n d k pc lv st h x q) q
section XW
variable {sc : x_S} {d k pc : Nat} {lv : x_L} {st : List Value} {h : x_H} {Q : Option Value → x_H → Prop}
theorem x_T_none {sc : x_S} (t : x_T none d k pc lv st h Q) : x_T sc d k pc lv st h Q := by
  obtain ⟨f, r, h', q, hq⟩ := t
  exact ⟨f, r, h', x_run_up (Or.inl rfl) f 0 d k pc lv st h _ q, hq⟩
theorem x_T_mono {Q' : Option Value → x_H → Prop} (t : x_T sc d k pc lv st h Q) (hQ : ∀ r h', Q r h' → Q' r h') : x_T sc d k pc lv st h Q' := by
  obtain ⟨f, r, h', q, hq⟩ := t
  exact ⟨f, r, h', q, hQ _ _ hq⟩
theorem x_T_step {i : Instr} {pc' : Nat} {lv' : x_L} {st' : List Value} {h' : x_H} (hi : x_ins k pc = some i) (h1 : x_one sc d k i pc lv st h = some (pc', lv', st', h')) (t : x_T sc d k pc' lv' st' h' Q) : x_T sc d k pc lv st h Q := by
  obtain ⟨f, r, h2, q, hq⟩ := t
  refine ⟨f + 1, r, h2, ?_, hq⟩
  show x_bd sc (x_run sc f) d k pc lv st h = some (r, h2)
  unfold x_bd
  rw [hi]
  simp only
  rw [h1]
  exact q
theorem x_T_end {i : Instr} {r : Option Value} (hi : x_ins k pc = some i) (h3 : x_end k i st = some r) (hq : Q r h) : x_T sc d k pc lv st h Q := by
  refine ⟨1, r, h, ?_, hq⟩
  show x_bd sc (x_run sc 0) d k pc lv st h = some (r, h)
  unfold x_bd
  rw [hi]
  simp only
  rw [x_one_end h3]
  simp only
  rw [h3]
theorem x_T_call {i : Instr} {kc : Nat} {as r : List Value} {Q1 : Option Value → x_H → Prop} (hi : x_ins k pc = some i) (h1 : x_one sc (d + 1) k i pc lv st h = none) (h4 : x_cal k i st h = some (kc, as, r)) (ha : x_cs as ≤ x_nL kc) (t : x_T sc d kc 0 (x_en 0 as) [] h Q1) (kk : ∀ (v : Option Value) (h' : x_H), Q1 v h' → x_T sc (d + 1) k (pc + 3) lv (v.toList ++ r) h' Q) : x_T sc (d + 1) k pc lv st h Q := by
  obtain ⟨f, v, h', q, hq⟩ := t
  obtain ⟨f2, v2, h2, q2, hq2⟩ := kk v h' hq
  refine ⟨f + f2 + 1, v2, h2, ?_, hq2⟩
  show x_bd sc (x_run sc (f + f2)) (d + 1) k pc lv st h = some (v2, h2)
  unfold x_bd
  rw [hi]
  simp only
  rw [h1, x_cal_end h4]
  simp only
  rw [h4]
  simp only
  rw [if_pos ha, x_run_up (Or.inr rfl) f f2 d kc 0 (x_en 0 as) [] h _ q]
  simp only
  have e1 : f + f2 = f2 + f := by omega
  rw [e1]
  exact x_run_up (Or.inr rfl) f2 f (d + 1) k (pc + 3) lv (v.toList ++ r) h' _ q2
theorem x_T_iadd {x y : Int32} {st : List Value} {pc2 : Nat} (hi : x_ins k pc = some .iadd) (hn : pc + 1 = pc2) (t : x_T sc d k pc2 lv (.int (x + y) :: st) h Q) : x_T sc d k pc lv (.int y :: .int x :: st) h Q := by
  subst hn
  exact x_T_step hi rfl t
theorem x_T_isub {x y : Int32} {st : List Value} {pc2 : Nat} (hi : x_ins k pc = some .isub) (hn : pc + 1 = pc2) (t : x_T sc d k pc2 lv (.int (x - y) :: st) h Q) : x_T sc d k pc lv (.int y :: .int x :: st) h Q := by
  subst hn
  exact x_T_step hi rfl t
theorem x_T_imul {x y : Int32} {st : List Value} {pc2 : Nat} (hi : x_ins k pc = some .imul) (hn : pc + 1 = pc2) (t : x_T sc d k pc2 lv (.int (x * y) :: st) h Q) : x_T sc d k pc lv (.int y :: .int x :: st) h Q := by
  subst hn
  exact x_T_step hi rfl t
theorem x_T_iand {x y : Int32} {st : List Value} {pc2 : Nat} (hi : x_ins k pc = some .iand) (hn : pc + 1 = pc2) (t : x_T sc d k pc2 lv (.int (x &&& y) :: st) h Q) : x_T sc d k pc lv (.int y :: .int x :: st) h Q := by
  subst hn
  exact x_T_step hi rfl t
theorem x_T_ior {x y : Int32} {st : List Value} {pc2 : Nat} (hi : x_ins k pc = some .ior) (hn : pc + 1 = pc2) (t : x_T sc d k pc2 lv (.int (x ||| y) :: st) h Q) : x_T sc d k pc lv (.int y :: .int x :: st) h Q := by
  subst hn
  exact x_T_step hi rfl t
theorem x_T_ishl {x y : Int32} {st : List Value} {pc2 : Nat} (hi : x_ins k pc = some .ishl) (hn : pc + 1 = pc2) (t : x_T sc d k pc2 lv (.int (x <<< (y &&& 31)) :: st) h Q) : x_T sc d k pc lv (.int y :: .int x :: st) h Q := by
  subst hn
  exact x_T_step hi rfl t
theorem x_T_ishr {x y : Int32} {st : List Value} {pc2 : Nat} (hi : x_ins k pc = some .ishr) (hn : pc + 1 = pc2) (t : x_T sc d k pc2 lv (.int (x >>> (y &&& 31)) :: st) h Q) : x_T sc d k pc lv (.int y :: .int x :: st) h Q := by
  subst hn
  exact x_T_step hi rfl t
theorem x_T_ladd {x y : Int64} {st : List Value} {pc2 : Nat} (hi : x_ins k pc = some .ladd) (hn : pc + 1 = pc2) (t : x_T sc d k pc2 lv (.long (x + y) :: st) h Q) : x_T sc d k pc lv (.long y :: .long x :: st) h Q := by
  subst hn
  exact x_T_step hi rfl t
theorem x_T_lsub {x y : Int64} {st : List Value} {pc2 : Nat} (hi : x_ins k pc = some .lsub) (hn : pc + 1 = pc2) (t : x_T sc d k pc2 lv (.long (x - y) :: st) h Q) : x_T sc d k pc lv (.long y :: .long x :: st) h Q := by
  subst hn
  exact x_T_step hi rfl t
theorem x_T_lmul {x y : Int64} {st : List Value} {pc2 : Nat} (hi : x_ins k pc = some .lmul) (hn : pc + 1 = pc2) (t : x_T sc d k pc2 lv (.long (x * y) :: st) h Q) : x_T sc d k pc lv (.long y :: .long x :: st) h Q := by
  subst hn
  exact x_T_step hi rfl t
theorem x_T_land {x y : Int64} {st : List Value} {pc2 : Nat} (hi : x_ins k pc = some .land) (hn : pc + 1 = pc2) (t : x_T sc d k pc2 lv (.long (x &&& y) :: st) h Q) : x_T sc d k pc lv (.long y :: .long x :: st) h Q := by
  subst hn
  exact x_T_step hi rfl t
theorem x_T_lor {x y : Int64} {st : List Value} {pc2 : Nat} (hi : x_ins k pc = some .lor) (hn : pc + 1 = pc2) (t : x_T sc d k pc2 lv (.long (x ||| y) :: st) h Q) : x_T sc d k pc lv (.long y :: .long x :: st) h Q := by
  subst hn
  exact x_T_step hi rfl t
theorem x_T_lcmp {x y : Int64} {st : List Value} {pc2 : Nat} (hi : x_ins k pc = some .lcmp) (hn : pc + 1 = pc2) (t : x_T sc d k pc2 lv (.int (lg_cmp x y) :: st) h Q) : x_T sc d k pc lv (.long y :: .long x :: st) h Q := by
  subst hn
  exact x_T_step hi rfl t
theorem x_T_lshl {x : Int64} {y : Int32} {st : List Value} {pc2 : Nat} (hi : x_ins k pc = some .lshl) (hn : pc + 1 = pc2) (t : x_T sc d k pc2 lv (.long (x <<< (y.toInt64 &&& 63)) :: st) h Q) : x_T sc d k pc lv (.int y :: .long x :: st) h Q := by
  subst hn
  exact x_T_step hi rfl t
theorem x_T_lshr {x : Int64} {y : Int32} {st : List Value} {pc2 : Nat} (hi : x_ins k pc = some .lshr) (hn : pc + 1 = pc2) (t : x_T sc d k pc2 lv (.long (x >>> (y.toInt64 &&& 63)) :: st) h Q) : x_T sc d k pc lv (.int y :: .long x :: st) h Q := by
  subst hn
  exact x_T_step hi rfl t
theorem x_T_i2l {x : Int32} {st : List Value} {pc2 : Nat} (hi : x_ins k pc = some .i2l) (hn : pc + 1 = pc2) (t : x_T sc d k pc2 lv (.long x.toInt64 :: st) h Q) : x_T sc d k pc lv (.int x :: st) h Q := by
  subst hn
  exact x_T_step hi rfl t
theorem x_T_i2c {x : Int32} {st : List Value} {pc2 : Nat} (hi : x_ins k pc = some .i2c) (hn : pc + 1 = pc2) (t : x_T sc d k pc2 lv (.int (x.toUInt32 % 65536).toInt32 :: st) h Q) : x_T sc d k pc lv (.int x :: st) h Q := by
  subst hn
  exact x_T_step hi rfl t
theorem x_T_l2i {x : Int64} {st : List Value} {pc2 : Nat} (hi : x_ins k pc = some .l2i) (hn : pc + 1 = pc2) (t : x_T sc d k pc2 lv (.int x.toInt32 :: st) h Q) : x_T sc d k pc lv (.long x :: st) h Q := by
  subst hn
  exact x_T_step hi rfl t
theorem x_T_ineg {x : Int32} {st : List Value} {pc2 : Nat} (hi : x_ins k pc = some .ineg) (hn : pc + 1 = pc2) (t : x_T sc d k pc2 lv (.int (-x) :: st) h Q) : x_T sc d k pc lv (.int x :: st) h Q := by
  subst hn
  exact x_T_step hi rfl t
theorem x_T_idiv {x y : Int32} {st : List Value} {pc2 : Nat} (hi : x_ins k pc = some .idiv) (hy : ¬ y = 0) (hn : pc + 1 = pc2) (t : x_T sc d k pc2 lv (.int (x / y) :: st) h Q) : x_T sc d k pc lv (.int y :: .int x :: st) h Q := by
  subst hn
  refine x_T_step hi ?_ t
  simp [x_one, x_pop, x_idv, hy, x_len]
theorem x_T_irem {x y : Int32} {st : List Value} {pc2 : Nat} (hi : x_ins k pc = some .irem) (hy : ¬ y = 0) (hn : pc + 1 = pc2) (t : x_T sc d k pc2 lv (.int (x - x / y * y) :: st) h Q) : x_T sc d k pc lv (.int y :: .int x :: st) h Q := by
  subst hn
  refine x_T_step hi ?_ t
  simp [x_one, x_pop, x_idv, hy, x_len]
theorem x_T_iconst {n : Int} {v : Int32} {pc2 : Nat} (hi : x_ins k pc = some (.iconst n)) (hv : Int32.ofInt n = v) (hn : pc + 1 = pc2) (t : x_T sc d k pc2 lv (.int v :: st) h Q) : x_T sc d k pc lv st h Q := by
  subst hn hv
  exact x_T_step hi rfl t
theorem x_T_bipush {n : Int} {v : Int32} {pc2 : Nat} (hi : x_ins k pc = some (.bipush n)) (hv : (Int8.ofInt n).toInt32 = v) (hn : pc + 2 = pc2) (t : x_T sc d k pc2 lv (.int v :: st) h Q) : x_T sc d k pc lv st h Q := by
  subst hn hv
  exact x_T_step hi rfl t
theorem x_T_sipush {n : Int} {v : Int32} {pc2 : Nat} (hi : x_ins k pc = some (.sipush n)) (hv : (Int16.ofInt n).toInt32 = v) (hn : pc + 3 = pc2) (t : x_T sc d k pc2 lv (.int v :: st) h Q) : x_T sc d k pc lv st h Q := by
  subst hn hv
  exact x_T_step hi rfl t
theorem x_T_lconst {n : Fin 2} {v : Int64} {pc2 : Nat} (hi : x_ins k pc = some (.lconst n)) (hv : Int64.ofNat (n : Nat) = v) (hn : pc + 1 = pc2) (t : x_T sc d k pc2 lv (.long v :: st) h Q) : x_T sc d k pc lv st h Q := by
  subst hn hv
  exact x_T_step hi rfl t
theorem x_T_dup {v : Value} {st : List Value} {pc2 : Nat} (hi : x_ins k pc = some .dup) (hv : v.category = 1) (hn : pc + 1 = pc2) (t : x_T sc d k pc2 lv (v :: v :: st) h Q) : x_T sc d k pc lv (v :: st) h Q := by
  subst hn
  refine x_T_step hi ?_ t
  simp [x_one, x_pop, x_dup, hv, x_len]
theorem x_T_pop {v : Value} {st : List Value} {pc2 : Nat} (hi : x_ins k pc = some .pop) (hv : v.category = 1) (hn : pc + 1 = pc2) (t : x_T sc d k pc2 lv st h Q) : x_T sc d k pc lv (v :: st) h Q := by
  subst hn
  refine x_T_step hi ?_ t
  simp [x_one, x_pop, x_pp, hv, x_len]
theorem x_T_dup2 {v u : Value} {st : List Value} {pc2 : Nat} (hi : x_ins k pc = some .dup2) (hv : v.category = 1) (hu : u.category = 1) (hn : pc + 1 = pc2) (t : x_T sc d k pc2 lv (v :: u :: v :: u :: st) h Q) : x_T sc d k pc lv (v :: u :: st) h Q := by
  subst hn
  refine x_T_step hi ?_ t
  simp [x_one, x_pop, x_d2, hv, hu, x_len]
theorem x_T_iload {j : Nat} {x : Int32} {pc2 : Nat} (hi : x_ins k pc = some (.iload j)) (hl : lv j = some (.int x)) (hn : pc + 2 = pc2) (t : x_T sc d k pc2 lv (.int x :: st) h Q) : x_T sc d k pc lv st h Q := by
  subst hn
  refine x_T_step hi ?_ t
  simp [x_one, x_pop, x_lod, x_ldi, hl, x_len]
theorem x_T_iload_n {j : Fin 4} {x : Int32} {pc2 : Nat} (hi : x_ins k pc = some (.iload_n j)) (hl : lv (j : Nat) = some (.int x)) (hn : pc + 1 = pc2) (t : x_T sc d k pc2 lv (.int x :: st) h Q) : x_T sc d k pc lv st h Q := by
  subst hn
  refine x_T_step hi ?_ t
  simp [x_one, x_pop, x_lod, x_ldi, hl, x_len]
theorem x_T_lload {j : Nat} {x : Int64} {pc2 : Nat} (hi : x_ins k pc = some (.lload j)) (hl : lv j = some (.long x)) (hn : pc + 2 = pc2) (t : x_T sc d k pc2 lv (.long x :: st) h Q) : x_T sc d k pc lv st h Q := by
  subst hn
  refine x_T_step hi ?_ t
  simp [x_one, x_pop, x_lod, x_ldl, hl, x_len]
theorem x_T_lload_n {j : Fin 4} {x : Int64} {pc2 : Nat} (hi : x_ins k pc = some (.lload_n j)) (hl : lv (j : Nat) = some (.long x)) (hn : pc + 1 = pc2) (t : x_T sc d k pc2 lv (.long x :: st) h Q) : x_T sc d k pc lv st h Q := by
  subst hn
  refine x_T_step hi ?_ t
  simp [x_one, x_pop, x_lod, x_ldl, hl, x_len]
theorem x_T_aload {j : Nat} {x : Nat} {pc2 : Nat} (hi : x_ins k pc = some (.aload j)) (hl : lv j = some (.ref x)) (hn : pc + 2 = pc2) (t : x_T sc d k pc2 lv (.ref x :: st) h Q) : x_T sc d k pc lv st h Q := by
  subst hn
  refine x_T_step hi ?_ t
  simp [x_one, x_pop, x_lod, x_lda, hl, x_len]
theorem x_T_aload_n {j : Fin 4} {x : Nat} {pc2 : Nat} (hi : x_ins k pc = some (.aload_n j)) (hl : lv (j : Nat) = some (.ref x)) (hn : pc + 1 = pc2) (t : x_T sc d k pc2 lv (.ref x :: st) h Q) : x_T sc d k pc lv st h Q := by
  subst hn
  refine x_T_step hi ?_ t
  simp [x_one, x_pop, x_lod, x_lda, hl, x_len]
theorem x_T_istore {j : Nat} {x : Int32} {st : List Value} {pc2 : Nat} (hi : x_ins k pc = some (.istore j)) (hb : j < x_nL k) (hn : pc + 2 = pc2) (t : x_T sc d k pc2 (x_s1 lv j (.int x)) st h Q) : x_T sc d k pc lv (.int x :: st) h Q := by
  subst hn
  refine x_T_step hi ?_ t
  simp [x_one, x_pop, x_lod, x_sto, x_sti, hb, x_len]
theorem x_T_istore_n {j : Fin 4} {x : Int32} {st : List Value} {pc2 : Nat} (hi : x_ins k pc = some (.istore_n j)) (hb : (j : Nat) < x_nL k) (hn : pc + 1 = pc2) (t : x_T sc d k pc2 (x_s1 lv (j : Nat) (.int x)) st h Q) : x_T sc d k pc lv (.int x :: st) h Q := by
  subst hn
  refine x_T_step hi ?_ t
  simp [x_one, x_pop, x_lod, x_sto, x_sti, hb, x_len]
theorem x_T_lstore {j : Nat} {x : Int64} {st : List Value} {pc2 : Nat} (hi : x_ins k pc = some (.lstore j)) (hb : j + 1 < x_nL k) (hn : pc + 2 = pc2) (t : x_T sc d k pc2 (x_s2 lv j (.long x)) st h Q) : x_T sc d k pc lv (.long x :: st) h Q := by
  subst hn
  refine x_T_step hi ?_ t
  simp [x_one, x_pop, x_lod, x_sto, x_stl, hb, x_len]
theorem x_T_lstore_n {j : Fin 4} {x : Int64} {st : List Value} {pc2 : Nat} (hi : x_ins k pc = some (.lstore_n j)) (hb : (j : Nat) + 1 < x_nL k) (hn : pc + 1 = pc2) (t : x_T sc d k pc2 (x_s2 lv (j : Nat) (.long x)) st h Q) : x_T sc d k pc lv (.long x :: st) h Q := by
  subst hn
  refine x_T_step hi ?_ t
  simp [x_one, x_pop, x_lod, x_sto, x_stl, hb, x_len]
theorem x_T_astore {j : Nat} {x : Nat} {st : List Value} {pc2 : Nat} (hi : x_ins k pc = some (.astore j)) (hb : j < x_nL k) (hn : pc + 2 = pc2) (t : x_T sc d k pc2 (x_s1 lv j (.ref x)) st h Q) : x_T sc d k pc lv (.ref x :: st) h Q := by
  subst hn
  refine x_T_step hi ?_ t
  simp [x_one, x_pop, x_lod, x_sto, x_sta, hb, x_len]
theorem x_T_astore_n {j : Fin 4} {x : Nat} {st : List Value} {pc2 : Nat} (hi : x_ins k pc = some (.astore_n j)) (hb : (j : Nat) < x_nL k) (hn : pc + 1 = pc2) (t : x_T sc d k pc2 (x_s1 lv (j : Nat) (.ref x)) st h Q) : x_T sc d k pc lv (.ref x :: st) h Q := by
  subst hn
  refine x_T_step hi ?_ t
  simp [x_one, x_pop, x_lod, x_sto, x_sta, hb, x_len]
theorem x_T_iinc {j : Nat} {n : Int} {x v : Int32} {pc2 : Nat} (hi : x_ins k pc = some (.iinc j n)) (hl : lv j = some (.int x)) (hb : j < x_nL k) (hv : Int32.ofInt n = v) (hn : pc + 3 = pc2) (t : x_T sc d k pc2 (x_s1 lv j (.int (x + v))) st h Q) : x_T sc d k pc lv st h Q := by
  subst hn hv
  refine x_T_step hi ?_ t
  simp [x_one, x_pop, x_lod, x_sto, x_inc, hl, hb, x_len]
theorem x_T_goto {off : Int} {pc2 : Nat} (hi : x_ins k pc = some (.goto off)) (hn : (pc : Int) + off = (pc2 : Int)) (t : x_T sc d k pc2 lv st h Q) : x_T sc d k pc lv st h Q := by
  refine x_T_step hi ?_ t
  have h0 : 0 ≤ (pc : Int) + off := by omega
  have h1 : ((pc : Int) + off).toNat = pc2 := by omega
  simp [x_one, x_pop, x_lod, x_sto, x_jmp, x_gt, h0, h1]
theorem x_T_if {cd : Jvm.ClassFile.Cond} {off : Int} {x : Int32} {st : List Value} {pc2 pc3 : Nat} (hi : x_ins k pc = some (.ifCond cd off)) (hn : (pc : Int) + off = (pc2 : Int)) (hm : pc + 3 = pc3) (t : x_cc cd x 0 = true → x_T sc d k pc2 lv st h Q) (f : ¬ x_cc cd x 0 = true → x_T sc d k pc3 lv st h Q) : x_T sc d k pc lv (.int x :: st) h Q := by
  have h0 : 0 ≤ (pc : Int) + off := by omega
  have h1 : ((pc : Int) + off).toNat = pc2 := by omega
  subst hm
  by_cases hc : x_cc cd x 0 = true
  · refine x_T_step hi ?_ (t hc)
    simp [x_one, x_pop, x_lod, x_sto, x_jmp, x_if, h0, h1, hc]
  · refine x_T_step hi ?_ (f hc)
    simp [x_one, x_pop, x_lod, x_sto, x_jmp, x_if, h0, hc]
theorem x_T_ic {cd : Jvm.ClassFile.Cond} {off : Int} {x y : Int32} {st : List Value} {pc2 pc3 : Nat} (hi : x_ins k pc = some (.if_icmp cd off)) (hn : (pc : Int) + off = (pc2 : Int)) (hm : pc + 3 = pc3) (t : x_cc cd x y = true → x_T sc d k pc2 lv st h Q) (f : ¬ x_cc cd x y = true → x_T sc d k pc3 lv st h Q) : x_T sc d k pc lv (.int y :: .int x :: st) h Q := by
  have h0 : 0 ≤ (pc : Int) + off := by omega
  have h1 : ((pc : Int) + off).toNat = pc2 := by omega
  subst hm
  by_cases hc : x_cc cd x y = true
  · refine x_T_step hi ?_ (t hc)
    simp [x_one, x_pop, x_lod, x_sto, x_jmp, x_ic, h0, h1, hc]
  · refine x_T_step hi ?_ (f hc)
    simp [x_one, x_pop, x_lod, x_sto, x_jmp, x_ic, h0, hc]
end XW
