/-! The reference's conditions and its files. -/
theorem scan_cg {g h : Int → Int} {n fl : Int} (ha : ag g h n) (h0 : 0 ≤ n) (h1 : n ≤ 160) (hg : ∀ j, 0 ≤ j → j < n → 0 ≤ g j ∧ g j < 128) : scan g n fl = scan h n fl := by
  have t := tri_cong ha 161 0 0 0 (fun _ => 0) (fun _ => 0) (fun _ => 0) (fun _ => 0) (Int.le_refl 0) (fun j a b => absurd b (by omega)) (fun j a b => absurd b (by omega))
  have tz := tri_z hg 161 0 0 0 (fun _ => 0) (fun _ => 0) (Int.le_refl 0) h0 (Int.le_refl 0) (Int.le_refl 0) (Int.le_refl 0) (Int.le_refl 0) (fun j a b => absurd b (by omega)) (fun j a b => absurd b (by omega))
  have j := jnl_cong (n := (tri g n 161 0 0 (fun _ => 0) (fun _ => 0) 0).2.2) 161 0 0 _ _ _ _ (Int.le_refl 0) t.2.1 t.2.2
  have jz := jnl_z (n := (tri g n 161 0 0 (fun _ => 0) (fun _ => 0) 0).2.2) 161 0 0 _ _ (Int.le_refl 0) (Int.le_refl 0) (Int.le_refl 0) tz.1 (fun j a b => ⟨(tz.2.2.1 j a b).1, Int.le_trans (tz.2.2.1 j a b).2 h1⟩) tz.2.2.2
  have e : jq h n = jnl (tri g n 161 0 0 (fun _ => 0) (fun _ => 0) 0).2.2 161 0 0 (tri h n 161 0 0 (fun _ => 0) (fun _ => 0) 0).1 (tri h n 161 0 0 (fun _ => 0) (fun _ => 0) 0).2.1 := by
    unfold jq
    rw [← t.1]
  have e2 : jq g n = jnl (tri g n 161 0 0 (fun _ => 0) (fun _ => 0) 0).2.2 161 0 0 (tri g n 161 0 0 (fun _ => 0) (fun _ => 0) 0).1 (tri g n 161 0 0 (fun _ => 0) (fun _ => 0) 0).2.1 := rfl
  rw [← e, ← e2] at j
  rw [← e2] at jz
  have f := jfn_cong (p := jq g n) (q := jq h n) j.1 jz.1 (fun x a b => j.2.1 x a (by omega))
  unfold scan
  rw [← f.1]
  exact spl_cong f.2.1 (fun x a b c => j.2.2 x a (by have := f.2.2.1 x a b c; omega)) 161 0 0 false [] (Int.le_refl 0)
theorem icd_sft {X Y : Int → Int64} {b n a e lv ic : Int} (h : ∀ j, 0 ≤ j → j < n → Y (b + j) = X j) (a0 : 0 ≤ a) (e1 : e ≤ n) : icd Y (b + a) (b + e) lv ic = icd X a e lv ic := by
  unfold icd
  by_cases c : a + 3 = e
  · rw [show b + a + 1 = b + (a + 1) by omega, show b + a + 2 = b + (a + 2) by omega, h a a0 (by omega), h (a + 1) (by omega) (by omega), h (a + 2) (by omega) (by omega), show b + a + 3 = b + (a + 3) by omega]
    by_cases c2 : ¬ (a + 3 = e ∧ X a = 60 ∧ X (a + 2) = 62) ∨ X (a + 1) < 48 ∨ ¬ X (a + 1) < 51
    · rw [if_pos c2, if_pos (by rcases c2 with z | z; exact Or.inl (fun q => z ⟨c, q.2⟩); exact Or.inr z)]
    · rw [if_neg c2, if_neg (fun z => c2 (by rcases z with z | z; exact Or.inl (fun q => z ⟨by omega, q.2⟩); exact Or.inr z))]
  · rw [if_pos (Or.inl (fun z => c (by omega))), if_pos (Or.inl (fun z => c z.1))]
def rcs (A B : Int → Int) (o : Int) : List Cnd → Prop
  | [] => True
  | c :: r => A (o + r.length) = zB c.1 ∧ B (o + r.length) = zB c.2 ∧ rcs A B o r
theorem rcs_fr {A B A2 B2 : Int → Int} {o : Int} : ∀ cs : List Cnd, rcs A B o cs → (∀ j, o ≤ j → j < o + cs.length → A2 j = A j ∧ B2 j = B j) → rcs A2 B2 o cs
  | [], _, _ => trivial
  | c :: r, h, f => by
    have f0 := f (o + r.length) (by omega) (by rw [List.length_cons]; omega)
    exact ⟨by rw [f0.1]; exact h.1, by rw [f0.2]; exact h.2.1, rcs_fr r h.2.2 (fun j a b => f j a (by rw [List.length_cons]; omega))⟩
theorem rcs_b {A B : Int → Int} {o : Int} {cs : List Cnd} (h : rcs A B o cs) (h0 : 0 < (cs.length : Int)) : 0 ≤ A (o + cs.length - 1) ∧ A (o + cs.length - 1) ≤ 1 ∧ 0 ≤ B (o + cs.length - 1) ∧ B (o + cs.length - 1) ≤ 1 := by
  cases cs with
  | nil => exact absurd h0 (by rw [List.length_nil]; omega)
  | cons c r =>
    have h1 := h.1
    have h2 := h.2.1
    rw [List.length_cons, show o + ((r.length + 1 : Nat) : Int) - 1 = o + (r.length : Int) by omega, h1, h2]
    have z : ∀ b : Bool, 0 ≤ zB b ∧ zB b ≤ 1 := fun b => by cases b <;> decide
    exact ⟨(z _).1, (z _).2, (z _).1, (z _).2⟩
def trn (b : Bool) (cs : List Cnd) : Int × List Cnd := if b = true then tels cs else tcls cs
theorem le50 {x : Int64} : (50 : Int64) < x ↔ ¬ x < 51 := by
  rw [Int64.lt_iff_toInt_lt, Int64.lt_iff_toInt_lt]
  show (50 : Int) < x.toInt ↔ ¬ x.toInt < 51
  omega
theorem dig3_r {x : Int64} (h1 : ¬ x < 48) (h2 : x < 51) : zl2i x - 48 = x.toInt - 48 ∧ 0 ≤ x.toInt - 48 ∧ x.toInt - 48 ≤ 2 := by
  rcases dig3 h1 h2 with h | h | h <;> rw [h] <;> decide
theorem trn_1 {S W : w_S} {o z : Int} {cs : List Cnd} {b : Bool} {p : Prop} (hc : rcs (sA S 260) (sA S 261) o cs) (hb : b = true) (h0 : 0 < (cs.length : Int)) (c31 : sA S 261 (o + cs.length - 1) = 0) (_ : p) (hz : (sA S 260 (o + cs.length - 1) = 0 ∧ z = 1) ∨ (¬ sA S 260 (o + cs.length - 1) = 0 ∧ z = 0)) (g : fr (fun a => a = 249 ∨ a = 260 ∨ a = 261) S W) (hv : ∀ k, sv W 249 k = sv S 249 k) (hcn : sv S 249 16 = o + cs.length) (w0 : sA W 260 = w_u (sA S 260) (o + cs.length - 1) z) (w1 : sA W 261 = w_u (sA S 261) (o + cs.length - 1) 1) : some (Value.int (iZ 0)) = some (.int (iZ (trn b cs).1)) ∧ fr (fun a => a = 249 ∨ a = 260 ∨ a = 261) S W ∧ (∀ k, ¬ k = 16 → sv W 249 k = sv S 249 k) ∧ sv W 249 16 = o + (trn b cs).2.length ∧ rcs (sA W 260) (sA W 261) o (trn b cs).2 ∧ ∀ j, j < o → sA W 260 j = sA S 260 j ∧ sA W 261 j = sA S 261 j := by
  cases cs with
  | nil => exact absurd h0 (by rw [List.length_nil]; omega)
  | cons c r =>
    have h1 := hc.1
    have h2 := hc.2.1
    have el : o + ((c :: r).length : Int) - 1 = o + (r.length : Int) := by rw [List.length_cons]; omega
    rw [el] at c31 hz w0 w1
    rw [h2] at c31
    rw [h1] at hz
    have c2 : c.2 = false := by revert c31; cases c.2 <;> decide
    have hz : z = zB (!c.1) := by
      revert hz
      cases c.1
      · intro q
        rcases q with q | q
        · exact q.2
        · exact absurd rfl q.1
      · intro q
        rcases q with q | q
        · exact absurd q.1 (by decide)
        · exact q.2
    have e : trn b (c :: r) = (0, (!c.1, true) :: r) := by
      unfold trn
      rw [if_pos hb]
      show (if c.2 = true then ((4 : Int), c :: r) else (0, (!c.1, true) :: r)) = _
      rw [if_neg (by rw [c2]; decide)]
    rw [e]
    refine ⟨rfl, g, fun k _ => hv k, by rw [hv]; exact hcn, ⟨?_, ?_, rcs_fr r hc.2.2 (fun j a b => ?_)⟩, fun j hj => ?_⟩
    · rw [w0, w_u_self, hz]
    · rw [w1, w_u_self]
      rfl
    · rw [w0, w1]
      exact ⟨w_u_ne _ _ (by omega), w_u_ne _ _ (by omega)⟩
    · rw [w0, w1]
      exact ⟨w_u_ne _ _ (by omega), w_u_ne _ _ (by omega)⟩
theorem r_skp {sc : x_S} {d : Nat} {S : w_S} {lv o : Int} {cs : List Cnd} (l0 : 0 ≤ lv) (l3 : lv ≤ 3) (o0 : 0 ≤ o) (o1 : o + cs.length ≤ 79) (hlv : sv S 249 12 = lv) (ho : sA S 259 lv = o) (hcn : sv S 249 16 = o + cs.length) (hc : rcs (sA S 260) (sA S 261) o cs) (hd : 0 ≤ d) : w_T sc d 128 0 (x_en 0 [.ref 249]) [] S (fun v S2 => v = some (.int (iZ (zB (skp cs)))) ∧ S2 = S) := by
  refine w_aload_n rfl rfl rfl ?_
  refine w_getI (z := (o + cs.length)) rfl rfl sh_249 rfl hcn rfl ?_
  refine w_aload_n rfl rfl rfl ?_
  refine w_getR rfl rfl sh_249 rfl rfl ?_
  refine w_aload_n rfl rfl rfl ?_
  refine w_getI (z := lv) rfl rfl sh_249 rfl hlv rfl ?_
  refine w_iald (z := o) rfl sh_259 (by omega) (by omega) (by decide) ho rfl ?_
  refine w_ic_le (pc2 := 34) (pc3 := 16) rfl (by decide) rfl ⟨by omega, by omega⟩ ⟨by omega, by omega⟩ (fun c13 => ?_) (fun c13 => ?_)
  · skip
    refine w_iconst rfl rfl ?_
    refine w_zret rfl rfl (by decide) ?_
    refine q_i ?_
    cases cs with
    | nil => first | rfl | (rw [List.length_nil] at *; omega)
    | cons c r =>
      rw [List.length_cons] at *
      have h1 := hc.1
      show _ = zB c.1
      first
        | omega
        | (rw [show o + ((r.length + 1 : Nat) : Int) - 1 = o + (r.length : Int) by omega, h1] at c27; revert c27; cases c.1 <;> decide)
  · skip
    refine w_aload_n rfl rfl rfl ?_
    refine w_getR rfl rfl sh_249 rfl rfl ?_
    refine w_aload_n rfl rfl rfl ?_
    refine w_getI (z := (o + cs.length)) rfl rfl sh_249 rfl hcn rfl ?_
    refine w_iconst rfl rfl ?_
    refine w_isub rfl rfl ?_
    have g60 := rcs_b hc (by omega)
    refine w_bald (z := sA S 260 (((o + cs.length)) - 1)) rfl sh_260 (by omega) (by omega) (by decide) rfl rfl ?_
    refine w_if_eq (pc2 := 34) (pc3 := 30) rfl (by decide) rfl ⟨by omega, by omega⟩ (fun c27 => ?_) (fun c27 => ?_)
    · skip
      refine w_iconst rfl rfl ?_
      refine w_zret rfl rfl (by decide) ?_
      refine q_i ?_
      cases cs with
      | nil => first | rfl | (rw [List.length_nil] at *; omega)
      | cons c r =>
        rw [List.length_cons] at *
        have h1 := hc.1
        show _ = zB c.1
        first
          | omega
          | (rw [show o + ((r.length + 1 : Nat) : Int) - 1 = o + (r.length : Int) by omega, h1] at c27; revert c27; cases c.1 <;> decide)
    · skip
      refine w_iconst rfl rfl ?_
      refine w_goto (pc2 := 35) rfl (by decide) ?_
      refine w_zret rfl rfl (by decide) ?_
      refine q_i ?_
      cases cs with
      | nil => first | rfl | (rw [List.length_nil] at *; omega)
      | cons c r =>
        rw [List.length_cons] at *
        have h1 := hc.1
        show _ = zB c.1
        first
          | omega
          | (rw [show o + ((r.length + 1 : Nat) : Int) - 1 = o + (r.length : Int) by omega, h1] at c27; revert c27; cases c.1 <;> decide)
theorem r_trn {sc : x_S} {d : Nat} {S : w_S} {lv o : Int} {cs : List Cnd} {b : Bool} (l0 : 0 ≤ lv) (l3 : lv ≤ 3) (o0 : 0 ≤ o) (o1 : o + cs.length ≤ 79) (hlv : sv S 249 12 = lv) (ho : sA S 259 lv = o) (hcn : sv S 249 16 = o + cs.length) (hc : rcs (sA S 260) (sA S 261) o cs) (hd : 0 ≤ d) : w_T sc d 131 0 (x_en 0 [.ref 249, .int (iZ (zB b))]) [] S (fun v S2 => v = some (.int (iZ (trn b cs).1)) ∧ fr (fun a => a = 249 ∨ a = 260 ∨ a = 261) S S2 ∧ (∀ k, ¬ k = 16 → sv S2 249 k = sv S 249 k) ∧ sv S2 249 16 = o + (trn b cs).2.length ∧ rcs (sA S2 260) (sA S2 261) o (trn b cs).2 ∧ ∀ j, j < o → sA S2 260 j = sA S 260 j ∧ sA S2 261 j = sA S 261 j) := by
  refine w_aload_n rfl rfl rfl ?_
  refine w_getI (z := (o + cs.length)) rfl rfl sh_249 rfl hcn rfl ?_
  refine w_aload_n rfl rfl rfl ?_
  refine w_getR rfl rfl sh_249 rfl rfl ?_
  refine w_aload_n rfl rfl rfl ?_
  refine w_getI (z := lv) rfl rfl sh_249 rfl hlv rfl ?_
  refine w_iald (z := o) rfl sh_259 (by omega) (by omega) (by decide) ho rfl ?_
  refine w_ic_eq (pc2 := 34) (pc3 := 16) rfl (by decide) rfl ⟨by omega, by omega⟩ ⟨by omega, by omega⟩ (fun c13 => ?_) (fun c13 => ?_)
  · skip
    refine w_iconst rfl rfl ?_
    refine w_iret rfl rfl ?_
    cases cs with
    | nil => first | (rw [List.length_nil] at *; omega) | (refine ⟨by cases b <;> rfl, fr_refl _ _, fun _ _ => rfl, by cases b <;> exact hcn, by cases b <;> exact trivial, fun _ _ => ⟨rfl, rfl⟩⟩)
    | cons c r =>
      rw [List.length_cons] at *
      have h1 := hc.1
      have h2 := hc.2.1
      first
        | (exfalso; omega)
        | (rw [show o + ((r.length + 1 : Nat) : Int) - 1 = o + (r.length : Int) by omega, h2] at c31
           have c2 : c.2 = true := by revert c31; cases c.2 <;> decide
           have e : trn b (c :: r) = (4, c :: r) := by
             unfold trn
             rw [if_pos c17]
             show (if c.2 = true then ((4 : Int), c :: r) else (0, (!c.1, true) :: r)) = _
             rw [if_pos c2]
           rw [e]
           exact ⟨rfl, fr_refl _ _, fun _ _ => rfl, hcn, hc, fun _ _ => ⟨rfl, rfl⟩⟩)
  · skip
    refine w_iload_n rfl rfl rfl ?_
    refine w_b_eq (pc2 := 36) (pc3 := 20) rfl (by decide) rfl (fun c17 => ?_) (fun c17 => ?_)
    · skip
      refine w_iload_n rfl rfl rfl ?_
      refine w_b_eq (pc2 := 85) (pc3 := 40) rfl (by decide) rfl (fun c37 => ?_) (fun c37 => ?_)
      · skip
        refine w_aload_n rfl rfl rfl ?_
        refine w_dup rfl rfl rfl ?_
        refine w_getI (z := (o + cs.length)) rfl rfl sh_249 rfl hcn rfl ?_
        refine w_iconst rfl rfl ?_
        refine w_isub rfl rfl ?_
        refine w_putf rfl rfl sh_249 rfl rfl (by decide) rfl ?_
        refine w_iconst rfl rfl ?_
        refine w_iret rfl rfl ?_
        cases cs with
        | nil => exfalso; rw [List.length_nil] at *; omega
        | cons c r =>
          rw [List.length_cons] at *
          have h1 := hc.1
          have h2 := hc.2.1
          have e : trn b (c :: r) = (0, r) := by
            unfold trn
            rw [if_neg (by rw [c37]; decide)]
            rfl
          rw [e]
          refine ⟨rfl, (fr_v (fr_refl _ _) (by omega)), fun k hk => ?_, ?_, hc.2.2, fun _ _ => ⟨rfl, rfl⟩⟩
          · simp (disch := omega) only [rv_self, rv_ne, rl_self, rl_ne, rA_self, rA_ne, rL_self, rL_ne, rR_self, rR_ne, xvl, xvA, xvL, xvR, xlv, xlA, xlL, xlR, xAv, xAl, xAL, xAR, xLv, xLl, xLA, xLR, xRv, xRl, xRA, xRL]
          · simp (disch := omega) only [rv_self, rv_ne, rl_self, rl_ne, rA_self, rA_ne, rL_self, rL_ne, rR_self, rR_ne, xvl, xvA, xvL, xvR, xlv, xlA, xlL, xlR, xAv, xAl, xAL, xAR, xLv, xLl, xLA, xLR, xRv, xRl, xRA, xRL]; show _ = o + (r.length : Int); omega
      · skip
        refine w_aload_n rfl rfl rfl ?_
        refine w_getR rfl rfl sh_249 rfl rfl ?_
        refine w_aload_n rfl rfl rfl ?_
        refine w_getI (z := (o + cs.length)) rfl rfl sh_249 rfl hcn rfl ?_
        refine w_iconst rfl rfl ?_
        refine w_isub rfl rfl ?_
        refine w_iconst rfl rfl ?_
        refine w_baS (f := sA S 261) rfl sh_261 (by omega) (by omega) (by decide) (by decide) rfl rfl ?_
        refine w_aload_n rfl rfl rfl ?_
        refine w_getR rfl rfl sh_249 rfl rfl ?_
        refine w_aload_n rfl rfl rfl ?_
        refine w_getI (z := (o + cs.length)) rfl rfl sh_249 rfl hcn rfl ?_
        refine w_iconst rfl rfl ?_
        refine w_isub rfl rfl ?_
        refine w_aload_n rfl rfl rfl ?_
        refine w_getR rfl rfl sh_249 rfl rfl ?_
        refine w_aload_n rfl rfl rfl ?_
        refine w_getI (z := (o + cs.length)) rfl rfl sh_249 rfl hcn rfl ?_
        refine w_iconst rfl rfl ?_
        refine w_isub rfl rfl ?_
        have g61 := rcs_b hc (by omega)
        refine w_bald (z := sA S 260 (((o + cs.length)) - 1)) rfl sh_260 (by omega) (by omega) (by decide) (congrFun (rA_ne (by decide)) _) rfl ?_
        refine w_if_ne (pc2 := 80) (pc3 := 76) rfl (by decide) rfl ⟨by omega, by omega⟩ (fun c73 => ?_) (fun c73 => ?_)
        · skip
          refine w_iconst rfl rfl ?_
          refine w_baS (f := sA S 260) rfl sh_260 (by omega) (by omega) (by decide) (by decide) (rA_ne (by decide)) rfl ?_
          refine w_goto (pc2 := 95) rfl (by decide) ?_
          refine w_iconst rfl rfl ?_
          refine w_iret rfl rfl ?_
          first
            | exact absurd c37 (by rw [c17]; decide)
            | exact trn_1 hc c17 (by omega) c31 (by exact c73) (by first | exact Or.inl ⟨c73, rfl⟩ | exact Or.inr ⟨c73, rfl⟩) (fr_A (fr_A (fr_refl _ _) (by omega)) (by omega)) (fun _ => rfl) hcn rfl rfl
        · skip
          refine w_iconst rfl rfl ?_
          refine w_goto (pc2 := 81) rfl (by decide) ?_
          refine w_baS (f := sA S 260) rfl sh_260 (by omega) (by omega) (by decide) (by decide) (rA_ne (by decide)) rfl ?_
          refine w_goto (pc2 := 95) rfl (by decide) ?_
          refine w_iconst rfl rfl ?_
          refine w_iret rfl rfl ?_
          first
            | exact absurd c37 (by rw [c17]; decide)
            | exact trn_1 hc c17 (by omega) c31 (by exact c73) (by first | exact Or.inl ⟨c73, rfl⟩ | exact Or.inr ⟨c73, rfl⟩) (fr_A (fr_A (fr_refl _ _) (by omega)) (by omega)) (fun _ => rfl) hcn rfl rfl
    · skip
      refine w_aload_n rfl rfl rfl ?_
      refine w_getR rfl rfl sh_249 rfl rfl ?_
      refine w_aload_n rfl rfl rfl ?_
      refine w_getI (z := (o + cs.length)) rfl rfl sh_249 rfl hcn rfl ?_
      refine w_iconst rfl rfl ?_
      refine w_isub rfl rfl ?_
      have g60 := rcs_b hc (by omega)
      refine w_bald (z := sA S 261 (((o + cs.length)) - 1)) rfl sh_261 (by omega) (by omega) (by decide) rfl rfl ?_
      refine w_if_eq (pc2 := 36) (pc3 := 34) rfl (by decide) rfl ⟨by omega, by omega⟩ (fun c31 => ?_) (fun c31 => ?_)
      · skip
        refine w_iload_n rfl rfl rfl ?_
        refine w_b_eq (pc2 := 85) (pc3 := 40) rfl (by decide) rfl (fun c37 => ?_) (fun c37 => ?_)
        · skip
          refine w_aload_n rfl rfl rfl ?_
          refine w_dup rfl rfl rfl ?_
          refine w_getI (z := (o + cs.length)) rfl rfl sh_249 rfl hcn rfl ?_
          refine w_iconst rfl rfl ?_
          refine w_isub rfl rfl ?_
          refine w_putf rfl rfl sh_249 rfl rfl (by decide) rfl ?_
          refine w_iconst rfl rfl ?_
          refine w_iret rfl rfl ?_
          cases cs with
          | nil => exfalso; rw [List.length_nil] at *; omega
          | cons c r =>
            rw [List.length_cons] at *
            have h1 := hc.1
            have h2 := hc.2.1
            have e : trn b (c :: r) = (0, r) := by
              unfold trn
              rw [if_neg (by rw [c37]; decide)]
              rfl
            rw [e]
            refine ⟨rfl, (fr_v (fr_refl _ _) (by omega)), fun k hk => ?_, ?_, hc.2.2, fun _ _ => ⟨rfl, rfl⟩⟩
            · simp (disch := omega) only [rv_self, rv_ne, rl_self, rl_ne, rA_self, rA_ne, rL_self, rL_ne, rR_self, rR_ne, xvl, xvA, xvL, xvR, xlv, xlA, xlL, xlR, xAv, xAl, xAL, xAR, xLv, xLl, xLA, xLR, xRv, xRl, xRA, xRL]
            · simp (disch := omega) only [rv_self, rv_ne, rl_self, rl_ne, rA_self, rA_ne, rL_self, rL_ne, rR_self, rR_ne, xvl, xvA, xvL, xvR, xlv, xlA, xlL, xlR, xAv, xAl, xAL, xAR, xLv, xLl, xLA, xLR, xRv, xRl, xRA, xRL]; show _ = o + (r.length : Int); omega
        · skip
          refine w_aload_n rfl rfl rfl ?_
          refine w_getR rfl rfl sh_249 rfl rfl ?_
          refine w_aload_n rfl rfl rfl ?_
          refine w_getI (z := (o + cs.length)) rfl rfl sh_249 rfl hcn rfl ?_
          refine w_iconst rfl rfl ?_
          refine w_isub rfl rfl ?_
          refine w_iconst rfl rfl ?_
          refine w_baS (f := sA S 261) rfl sh_261 (by omega) (by omega) (by decide) (by decide) rfl rfl ?_
          refine w_aload_n rfl rfl rfl ?_
          refine w_getR rfl rfl sh_249 rfl rfl ?_
          refine w_aload_n rfl rfl rfl ?_
          refine w_getI (z := (o + cs.length)) rfl rfl sh_249 rfl hcn rfl ?_
          refine w_iconst rfl rfl ?_
          refine w_isub rfl rfl ?_
          refine w_aload_n rfl rfl rfl ?_
          refine w_getR rfl rfl sh_249 rfl rfl ?_
          refine w_aload_n rfl rfl rfl ?_
          refine w_getI (z := (o + cs.length)) rfl rfl sh_249 rfl hcn rfl ?_
          refine w_iconst rfl rfl ?_
          refine w_isub rfl rfl ?_
          have g61 := rcs_b hc (by omega)
          refine w_bald (z := sA S 260 (((o + cs.length)) - 1)) rfl sh_260 (by omega) (by omega) (by decide) (congrFun (rA_ne (by decide)) _) rfl ?_
          refine w_if_ne (pc2 := 80) (pc3 := 76) rfl (by decide) rfl ⟨by omega, by omega⟩ (fun c73 => ?_) (fun c73 => ?_)
          · skip
            refine w_iconst rfl rfl ?_
            refine w_baS (f := sA S 260) rfl sh_260 (by omega) (by omega) (by decide) (by decide) (rA_ne (by decide)) rfl ?_
            refine w_goto (pc2 := 95) rfl (by decide) ?_
            refine w_iconst rfl rfl ?_
            refine w_iret rfl rfl ?_
            first
              | exact absurd c37 (by rw [c17]; decide)
              | exact trn_1 hc c17 (by omega) c31 (by exact c73) (by first | exact Or.inl ⟨c73, rfl⟩ | exact Or.inr ⟨c73, rfl⟩) (fr_A (fr_A (fr_refl _ _) (by omega)) (by omega)) (fun _ => rfl) hcn rfl rfl
          · skip
            refine w_iconst rfl rfl ?_
            refine w_goto (pc2 := 81) rfl (by decide) ?_
            refine w_baS (f := sA S 260) rfl sh_260 (by omega) (by omega) (by decide) (by decide) (rA_ne (by decide)) rfl ?_
            refine w_goto (pc2 := 95) rfl (by decide) ?_
            refine w_iconst rfl rfl ?_
            refine w_iret rfl rfl ?_
            first
              | exact absurd c37 (by rw [c17]; decide)
              | exact trn_1 hc c17 (by omega) c31 (by exact c73) (by first | exact Or.inl ⟨c73, rfl⟩ | exact Or.inr ⟨c73, rfl⟩) (fr_A (fr_A (fr_refl _ _) (by omega)) (by omega)) (fun _ => rfl) hcn rfl rfl
      · skip
        refine w_iconst rfl rfl ?_
        refine w_iret rfl rfl ?_
        cases cs with
        | nil => first | (rw [List.length_nil] at *; omega) | (refine ⟨by cases b <;> rfl, fr_refl _ _, fun _ _ => rfl, by cases b <;> exact hcn, by cases b <;> exact trivial, fun _ _ => ⟨rfl, rfl⟩⟩)
        | cons c r =>
          rw [List.length_cons] at *
          have h1 := hc.1
          have h2 := hc.2.1
          first
            | (exfalso; omega)
            | (rw [show o + ((r.length + 1 : Nat) : Int) - 1 = o + (r.length : Int) by omega, h2] at c31
               have c2 : c.2 = true := by revert c31; cases c.2 <;> decide
               have e : trn b (c :: r) = (4, c :: r) := by
                 unfold trn
                 rw [if_pos c17]
                 show (if c.2 = true then ((4 : Int), c :: r) else (0, (!c.1, true) :: r)) = _
                 rw [if_pos c2]
               rw [e]
               exact ⟨rfl, fr_refl _ _, fun _ _ => rfl, hcn, hc, fun _ _ => ⟨rfl, rfl⟩⟩)
def RDp (S : w_S) (f : Int) (v : Option Value) (S2 : w_S) : Prop := v = some (.int (iZ (scan (fun k => sA S 250 (160 * f + k)) (sA S 251 f) f).1)) ∧ fr (fun a => a = 249 ∨ (252 ≤ a ∧ a ≤ 259)) S S2 ∧ (∀ k, ¬ k = 5 → sv S2 249 k = sv S 249 k) ∧ ((scan (fun k => sA S 250 (160 * f + k)) (sA S 251 f) f).1 = 0 → rrep S2 (sv S 249 12) (scan (fun k => sA S 250 (160 * f + k)) (sA S 251 f) f).2 ∧ (scan (fun k => sA S 250 (160 * f + k)) (sA S 251 f) f).2.length ≤ 160 ∧ sA S2 257 = w_u (sA S 257) (sv S 249 12) (161 * (sv S 249 12)) ∧ sA S2 258 = w_u (sA S 258) (sv S 249 12) (161 * (sv S 249 12) + (scan (fun k => sA S 250 (160 * f + k)) (sA S 251 f) f).2.length) ∧ sA S2 259 = w_u (sA S 259) (sv S 249 12) (sv S 249 16) ∧ ∀ x, x < 161 * (sv S 249 12) → sL S2 254 x = sL S 254 x ∧ sA S2 255 x = sA S 255 x ∧ sA S2 256 x = sA S 256 x)
theorem r_rd {sc : x_S} {d : Nat} {S : w_S} {f : Int} (f0 : 0 ≤ f) (f2 : f ≤ 2) (h0 : 0 ≤ sA S 251 f) (h1 : sA S 251 f ≤ 160) (hg : ∀ i, 0 ≤ i → i < sA S 251 f → 0 ≤ sA S 250 (160 * f + i) ∧ sA S 250 (160 * f + i) < 128) (l0 : 0 ≤ sv S 249 12) (l3 : sv S 249 12 ≤ 3) (hd : 2 ≤ d) : w_T sc d 127 0 (x_en 0 [.ref 249, .int (iZ f)]) [] S (fun v S2 => RDp S f v S2) := r_read f0 f2 h0 h1 hg l0 l3 hd
theorem r_inc {sc : x_S} {d : Nat} {S : w_S} {lv ic a e : Int} (a0 : 0 ≤ a) (a1 : a ≤ 650) (e0 : 0 ≤ e) (e1 : e ≤ 644) (l0 : 0 ≤ lv) (l3 : lv ≤ 3) (i0 : 0 ≤ ic) (i10 : ic ≤ 10) (hlv : sv S 249 12 = lv) (hic : sv S 249 13 = ic) (ht : ∀ f : Int, 0 ≤ f → f ≤ 2 → 0 ≤ sA S 251 f ∧ sA S 251 f ≤ 160 ∧ ∀ i, 0 ≤ i → i < sA S 251 f → 0 ≤ sA S 250 (160 * f + i) ∧ sA S 250 (160 * f + i) < 128) (hd : 5 ≤ d) : w_T sc d 132 0 (x_en 0 [.ref 249, .int (iZ a), .int (iZ e)]) [] S (fun v S2 => (¬ (icd (sL S 254) a e lv ic) = 0 ∧ v = some (.int (iZ (icd (sL S 254) a e lv ic))) ∧ S2 = S) ∨ ((icd (sL S 254) a e lv ic) = 0 ∧ RDp (w_v (w_v S 249 13 (ic + 1)) 249 12 (lv + 1)) ((sL S 254 (a + 1)).toInt - 48) v S2)) := by
  refine w_iload_n rfl rfl rfl ?_
  refine w_iload_n rfl rfl rfl ?_
  refine w_iconst rfl rfl ?_
  refine w_iadd rfl rfl ?_
  refine w_ic_ne (pc2 := 69) (pc3 := 7) rfl (by decide) rfl ⟨by omega, by omega⟩ ⟨by omega, by omega⟩ (fun c4 => ?_) (fun c4 => ?_)
  · skip
    refine w_iconst rfl rfl ?_
    refine w_istore_n rfl (by decide) rfl ?_
    refine w_iload_n rfl rfl rfl ?_
    refine w_if_ne (pc2 := 77) (pc3 := 75) rfl (by decide) rfl ⟨by decide, by decide⟩ (fun hc => absurd hc (by decide)) (fun _ => ?_)
    refine w_iconst rfl rfl ?_
    refine w_iret rfl rfl ?_
    have e : (icd (sL S 254) a e lv ic) = 3 := by
      unfold icd
      rw [if_pos (by first | exact Or.inl (fun z => by omega) | exact Or.inl (fun z => c17 z.2.1) | exact Or.inl (fun z => c32 z.2.2) | exact Or.inr (Or.inl c47) | exact Or.inr (Or.inr (le50.1 c62)))]
    exact Or.inl ⟨by rw [e]; decide, by rw [e], rfl⟩
  · skip
    refine w_aload_n rfl rfl rfl ?_
    refine w_getR rfl rfl sh_249 rfl rfl ?_
    refine w_iload_n rfl rfl rfl ?_
    refine w_lald (z := sL S 254 a) rfl sh_254 (by omega) (by omega) (by decide) rfl rfl ?_
    refine w_ldc2 (v := 60) rfl rfl rfl ?_
    refine w_l_ne (pc2 := 69) (pc3 := 20) rfl rfl (by decide) rfl (fun c17 => ?_) (fun c17 => ?_)
    · skip
      refine w_iconst rfl rfl ?_
      refine w_istore_n rfl (by decide) rfl ?_
      refine w_iload_n rfl rfl rfl ?_
      refine w_if_ne (pc2 := 77) (pc3 := 75) rfl (by decide) rfl ⟨by decide, by decide⟩ (fun hc => absurd hc (by decide)) (fun _ => ?_)
      refine w_iconst rfl rfl ?_
      refine w_iret rfl rfl ?_
      have e : (icd (sL S 254) a e lv ic) = 3 := by
        unfold icd
        rw [if_pos (by first | exact Or.inl (fun z => by omega) | exact Or.inl (fun z => c17 z.2.1) | exact Or.inl (fun z => c32 z.2.2) | exact Or.inr (Or.inl c47) | exact Or.inr (Or.inr (le50.1 c62)))]
      exact Or.inl ⟨by rw [e]; decide, by rw [e], rfl⟩
    · skip
      refine w_aload_n rfl rfl rfl ?_
      refine w_getR rfl rfl sh_249 rfl rfl ?_
      refine w_iload_n rfl rfl rfl ?_
      refine w_iconst rfl rfl ?_
      refine w_iadd rfl rfl ?_
      refine w_lald (z := sL S 254 (a + 2)) rfl sh_254 (by omega) (by omega) (by decide) rfl rfl ?_
      refine w_ldc2 (v := 62) rfl rfl rfl ?_
      refine w_l_ne (pc2 := 69) (pc3 := 35) rfl rfl (by decide) rfl (fun c32 => ?_) (fun c32 => ?_)
      · skip
        refine w_iconst rfl rfl ?_
        refine w_istore_n rfl (by decide) rfl ?_
        refine w_iload_n rfl rfl rfl ?_
        refine w_if_ne (pc2 := 77) (pc3 := 75) rfl (by decide) rfl ⟨by decide, by decide⟩ (fun hc => absurd hc (by decide)) (fun _ => ?_)
        refine w_iconst rfl rfl ?_
        refine w_iret rfl rfl ?_
        have e : (icd (sL S 254) a e lv ic) = 3 := by
          unfold icd
          rw [if_pos (by first | exact Or.inl (fun z => by omega) | exact Or.inl (fun z => c17 z.2.1) | exact Or.inl (fun z => c32 z.2.2) | exact Or.inr (Or.inl c47) | exact Or.inr (Or.inr (le50.1 c62)))]
        exact Or.inl ⟨by rw [e]; decide, by rw [e], rfl⟩
      · skip
        refine w_aload_n rfl rfl rfl ?_
        refine w_getR rfl rfl sh_249 rfl rfl ?_
        refine w_iload_n rfl rfl rfl ?_
        refine w_iconst rfl rfl ?_
        refine w_iadd rfl rfl ?_
        refine w_lald (z := sL S 254 (a + 1)) rfl sh_254 (by omega) (by omega) (by decide) rfl rfl ?_
        refine w_ldc2 (v := 48) rfl rfl rfl ?_
        refine w_l_lt (pc2 := 69) (pc3 := 50) rfl rfl (by decide) rfl (fun c47 => ?_) (fun c47 => ?_)
        · skip
          refine w_iconst rfl rfl ?_
          refine w_istore_n rfl (by decide) rfl ?_
          refine w_iload_n rfl rfl rfl ?_
          refine w_if_ne (pc2 := 77) (pc3 := 75) rfl (by decide) rfl ⟨by decide, by decide⟩ (fun hc => absurd hc (by decide)) (fun _ => ?_)
          refine w_iconst rfl rfl ?_
          refine w_iret rfl rfl ?_
          have e : (icd (sL S 254) a e lv ic) = 3 := by
            unfold icd
            rw [if_pos (by first | exact Or.inl (fun z => by omega) | exact Or.inl (fun z => c17 z.2.1) | exact Or.inl (fun z => c32 z.2.2) | exact Or.inr (Or.inl c47) | exact Or.inr (Or.inr (le50.1 c62)))]
          exact Or.inl ⟨by rw [e]; decide, by rw [e], rfl⟩
        · skip
          refine w_aload_n rfl rfl rfl ?_
          refine w_getR rfl rfl sh_249 rfl rfl ?_
          refine w_iload_n rfl rfl rfl ?_
          refine w_iconst rfl rfl ?_
          refine w_iadd rfl rfl ?_
          refine w_lald (z := sL S 254 (a + 1)) rfl sh_254 (by omega) (by omega) (by decide) rfl rfl ?_
          refine w_ldc2 (v := 50) rfl rfl rfl ?_
          refine w_l_gt (pc2 := 69) (pc3 := 65) rfl rfl (by decide) rfl (fun c62 => ?_) (fun c62 => ?_)
          · skip
            refine w_iconst rfl rfl ?_
            refine w_istore_n rfl (by decide) rfl ?_
            refine w_iload_n rfl rfl rfl ?_
            refine w_if_ne (pc2 := 77) (pc3 := 75) rfl (by decide) rfl ⟨by decide, by decide⟩ (fun hc => absurd hc (by decide)) (fun _ => ?_)
            refine w_iconst rfl rfl ?_
            refine w_iret rfl rfl ?_
            have e : (icd (sL S 254) a e lv ic) = 3 := by
              unfold icd
              rw [if_pos (by first | exact Or.inl (fun z => by omega) | exact Or.inl (fun z => c17 z.2.1) | exact Or.inl (fun z => c32 z.2.2) | exact Or.inr (Or.inl c47) | exact Or.inr (Or.inr (le50.1 c62)))]
            exact Or.inl ⟨by rw [e]; decide, by rw [e], rfl⟩
          · skip
            refine w_iconst rfl rfl ?_
            refine w_goto (pc2 := 70) rfl (by decide) ?_
            refine w_istore_n rfl (by decide) rfl ?_
            refine w_iload_n rfl rfl rfl ?_
            refine w_if_ne (pc2 := 77) (pc3 := 75) rfl (by decide) rfl ⟨by decide, by decide⟩ (fun _ => ?_) (fun hc => absurd hc (by decide))
            refine w_aload_n rfl rfl rfl ?_
            refine w_getI (z := lv) rfl rfl sh_249 rfl hlv rfl ?_
            refine w_iconst rfl rfl ?_
            refine w_ic_eq (pc2 := 94) (pc3 := 85) rfl (by decide) rfl ⟨by omega, by omega⟩ ⟨by decide, by decide⟩ (fun c82 => ?_) (fun c82 => ?_)
            · skip
              refine w_iconst rfl rfl ?_
              refine w_iret rfl rfl ?_
              have e : (icd (sL S 254) a e lv ic) = 5 := by
                unfold icd
                rw [if_neg (by rintro (z | z | z); exact z ⟨by omega, c17, c32⟩; exact c47 z; exact c62 (le50.2 z)), if_pos (by omega)]
              exact Or.inl ⟨by rw [e]; decide, by rw [e], rfl⟩
            · skip
              refine w_aload_n rfl rfl rfl ?_
              refine w_getI (z := ic) rfl rfl sh_249 rfl hic rfl ?_
              refine w_bipush rfl (by decide) rfl ?_
              refine w_ic_ne (pc2 := 96) (pc3 := 94) rfl (by decide) rfl ⟨by omega, by omega⟩ ⟨by decide, by decide⟩ (fun c91 => ?_) (fun c91 => ?_)
              · skip
                refine w_aload_n rfl rfl rfl ?_
                refine w_dup rfl rfl rfl ?_
                refine w_getI (z := ic) rfl rfl sh_249 rfl hic rfl ?_
                refine w_iconst rfl rfl ?_
                refine w_iadd rfl rfl ?_
                refine w_putf rfl rfl sh_249 rfl rfl (by decide) rfl ?_
                refine w_aload_n rfl rfl rfl ?_
                refine w_dup rfl rfl rfl ?_
                refine w_getI (z := lv) rfl rfl sh_249 rfl ((rv_ne (by decide)).trans hlv) rfl ?_
                refine w_iconst rfl rfl ?_
                refine w_iadd rfl rfl ?_
                refine w_putf rfl rfl sh_249 rfl rfl (by decide) rfl ?_
                refine w_aload_n rfl rfl rfl ?_
                refine w_aload_n rfl rfl rfl ?_
                refine w_getR rfl rfl sh_249 rfl rfl ?_
                refine w_iload_n rfl rfl rfl ?_
                refine w_iconst rfl rfl ?_
                refine w_iadd rfl rfl ?_
                refine w_lald (z := sL S 254 (a + 1)) rfl sh_254 (by omega) (by omega) (by decide) rfl rfl ?_
                refine w_zl2i rfl rfl ?_
                refine w_bipush rfl (by decide) rfl ?_
                have hdz := dig3_r c47 (by by_cases q : (sL S 254 (a + 1)) < 51; exact q; exact absurd (le50.2 q) c62)
                have htf := ht ((sL S 254 (a + 1)).toInt - 48) hdz.2.1 hdz.2.2
                refine w_isub rfl rfl ?_
                rw [hdz.1]
                refine w_CV (as := [.int (iZ ((sL S 254 (a + 1)).toInt - 48))]) (r := []) rfl rfl rfl rfl sh_249 (Nat.le_of_ble_eq_true rfl) (Nat.le_of_ble_eq_true rfl) (by omega) rfl (r_rd (S := (w_v (w_v S 249 13 (ic + 1)) 249 12 (lv + 1))) (f := (sL S 254 (a + 1)).toInt - 48) hdz.2.1 hdz.2.2 htf.1 htf.2.1 htf.2.2 (by show 0 ≤ lv + 1; omega) (by show lv + 1 ≤ 3; omega) (by omega)) ?_
                rintro _ V ⟨rfl, hrd⟩
                show w_T _ _ 132 132 _ [.int (iZ ((scan (fun k => sA (w_v (w_v S 249 13 (ic + 1)) 249 12 (lv + 1)) 250 (160 * ((sL S 254 (a + 1)).toInt - 48) + k)) (sA (w_v (w_v S 249 13 (ic + 1)) 249 12 (lv + 1)) 251 ((sL S 254 (a + 1)).toInt - 48)) ((sL S 254 (a + 1)).toInt - 48)).1))] _ _
                refine w_iret rfl rfl ?_
                have e : (icd (sL S 254) a e lv ic) = 0 := by
                  unfold icd
                  rw [if_neg (by rintro (z | z | z); exact z ⟨by omega, c17, c32⟩; exact c47 z; exact c62 (le50.2 z)), if_neg (by omega)]
                exact Or.inr ⟨e, rfl, hrd⟩
              · skip
                refine w_iconst rfl rfl ?_
                refine w_iret rfl rfl ?_
                have e : (icd (sL S 254) a e lv ic) = 5 := by
                  unfold icd
                  rw [if_neg (by rintro (z | z | z); exact z ⟨by omega, c17, c32⟩; exact c47 z; exact c62 (le50.2 z)), if_pos (by omega)]
                exact Or.inl ⟨by rw [e]; decide, by rw [e], rfl⟩
