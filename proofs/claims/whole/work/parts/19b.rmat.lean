/-! The reference finds the brackets that belong together. -/
def stk_ok (Y : Int → Int64) : Int → List Int → Prop
  | k, [] => bal Y 0 k
  | k, j :: r => opn (Y j) = true ∧ 0 ≤ j ∧ j < k ∧ bal Y (j + 1) k ∧ stk_ok Y j r
def skr (f : Int → Int) : List Int → Prop
  | [] => True
  | j :: r => f r.length = j ∧ skr f r
theorem skr_u {f : Int → Int} {z x : Int} : ∀ st : List Int, skr f st → (st.length : Int) ≤ z → skr (w_u f z x) st
  | [], _, _ => trivial
  | j :: r, h, hz => by
    rw [List.length_cons] at hz
    exact ⟨(w_u_ne _ _ (by omega)).trans h.1, skr_u r h.2 (by omega)⟩
theorem stk_lt {Y : Int → Int64} : ∀ (st : List Int) (k : Int), stk_ok Y k st → ∀ x, x ∈ st → x < k
  | [], k, _, x, hx => absurd hx (by simp)
  | j :: r, k, h, x, hx => by
    rcases List.mem_cons.1 hx with z | z
    · rw [z]; exact h.2.2.1
    · have := stk_lt r j h.2.2.2.2 x z
      have := h.2.2.1
      omega
theorem stk_len {Y : Int → Int64} : ∀ (st : List Int) (k : Int), stk_ok Y k st → (st.length : Int) ≤ k
  | [], k, h => h.1
  | j :: r, k, h => by
    have := stk_len r j h.2.2.2.2
    have := h.2.2.1
    rw [List.length_cons]
    omega
theorem stk_sk {Y : Int → Int64} : ∀ (st : List Int) (k : Int), stk_ok Y k st → sk Y k.toNat 0 [] = some st
  | [], k, h => by
    have := h.2
    rw [show k - 0 = k by omega] at this
    exact this
  | j :: r, k, h => by
    have i := stk_sk r j h.2.2.2.2
    have h1 := h.2.1
    have h2 := h.2.2.1
    rw [show k.toNat = j.toNat + ((k - (j + 1)).toNat + 1) by omega, sk_cat, i]
    show sk Y ((k - (j + 1)).toNat + 1) (0 + (j.toNat : Int)) r = some (j :: r)
    rw [show 0 + (j.toNat : Int) = j by omega]
    show (skS Y j r).bind _ = _
    have e : skS Y j r = some (j :: r) := by
      unfold skS
      rw [if_pos h.1]
    rw [e]
    exact bal_sk h.2.2.2.1 (j :: r)
def MI (Y : Int → Int64) (k : Int) (st : List Int) (g : Int → Int) : Prop := stk_ok Y k st ∧ (∀ i, 0 ≤ i → i < k → opn (Y i) = true → i ∈ st ∨ (i < g i ∧ g i < k ∧ prb (Y i) (Y (g i)) = true ∧ bal Y (i + 1) (g i) ∧ g (g i) = i)) ∧ ∀ j, 0 ≤ j → j < k → clo (Y j) = true → 0 ≤ g j ∧ g j < j ∧ opn (Y (g j)) = true ∧ g (g j) = j ∧ ¬ g j ∈ st
theorem clo_no {y : Int64} (h : clo y = true) : opn y = false := by
  rcases of_decide_eq_true h with q | q | q <;> rw [q] <;> decide
theorem opn_nc {y : Int64} (h : opn y = true) : clo y = false := by
  rcases of_decide_eq_true h with q | q | q <;> rw [q] <;> decide
theorem MI_pl {Y : Int → Int64} {k : Int} {st : List Int} {g : Int → Int} (h : MI Y k st g) (h1 : opn (Y k) = false) (h2 : clo (Y k) = false) : MI Y (k + 1) st g := by
  have hb := bal_1 h1 h2
  refine ⟨?_, fun i i0 i1 hi => ?_, fun j j0 j1 hj => ?_⟩
  · have h0 := h.1
    cases st with
    | nil => exact bal_cat h0 hb
    | cons j r => exact ⟨h0.1, h0.2.1, by have := h0.2.2.1; omega, bal_cat h0.2.2.2.1 hb, h0.2.2.2.2⟩
  · by_cases c : i = k
    · rw [c, h1] at hi; exact Bool.noConfusion hi
    · rcases h.2.1 i i0 (by omega) hi with z | z
      · exact Or.inl z
      · exact Or.inr ⟨z.1, by have := z.2.1; omega, z.2.2⟩
  · by_cases c : j = k
    · rw [c, h2] at hj; exact Bool.noConfusion hj
    · exact h.2.2 j j0 (by omega) hj
theorem MI_op {Y : Int → Int64} {k : Int} {st : List Int} {g : Int → Int} (k0 : 0 ≤ k) (h : MI Y k st g) (h1 : opn (Y k) = true) : MI Y (k + 1) (k :: st) g := by
  refine ⟨⟨h1, k0, by omega, bal_0 Y (k + 1), h.1⟩, fun i i0 i1 hi => ?_, fun j j0 j1 hj => ?_⟩
  · by_cases c : i = k
    · exact Or.inl (by rw [c]; simp)
    · rcases h.2.1 i i0 (by omega) hi with z | z
      · exact Or.inl (by simp [z])
      · exact Or.inr ⟨z.1, by have := z.2.1; omega, z.2.2⟩
  · by_cases c : j = k
    · rw [c, opn_nc h1] at hj; exact Bool.noConfusion hj
    · have q := h.2.2 j j0 (by omega) hj
      refine ⟨q.1, q.2.1, q.2.2.1, q.2.2.2.1, fun z => ?_⟩
      rcases List.mem_cons.1 z with z | z
      · have := q.2.1; omega
      · exact q.2.2.2.2 z
theorem MI_cl {Y : Int → Int64} {k j : Int} {r : List Int} {g : Int → Int} (h : MI Y k (j :: r) g) (hp : prb (Y j) (Y k) = true) : MI Y (k + 1) r (w_u (w_u g k j) j k) := by
  have p := prb_o hp
  have h0 := h.1
  have jk := h0.2.2.1
  have e1 : w_u (w_u g k j) j k j = k := w_u_self _ _ _
  have e2 : w_u (w_u g k j) j k k = j := (w_u_ne _ _ (by omega)).trans (w_u_self _ _ _)
  have e3 : ∀ x, ¬ x = j → ¬ x = k → w_u (w_u g k j) j k x = g x := fun x a b => (w_u_ne _ _ a).trans (w_u_ne _ _ b)
  have jn : clo (Y j) = false := opn_nc p.1
  refine ⟨?_, fun i i0 i1 hi => ?_, fun c c0 c1 hc => ?_⟩
  · have hb := bal_br h0.2.2.2.1 hp
    have h5 := h0.2.2.2.2
    cases r with
    | nil => exact bal_cat h5 hb
    | cons j2 r2 => exact ⟨h5.1, h5.2.1, by have := h5.2.2.1; omega, bal_cat h5.2.2.2.1 hb, h5.2.2.2.2⟩
  · have ik : ¬ i = k := fun z => by rw [z, p.2.2] at hi; exact Bool.noConfusion hi
    by_cases ij : i = j
    · rw [ij, e1, e2]
      exact Or.inr ⟨jk, by omega, hp, h0.2.2.2.1, rfl⟩
    · rcases h.2.1 i i0 (by omega) hi with z | z
      · rcases List.mem_cons.1 z with z | z
        · exact absurd z ij
        · exact Or.inl z
      · have g1 : ¬ g i = j := fun q => by
          have := (prb_o z.2.2.1).2.1
          rw [q, jn] at this
          exact Bool.noConfusion this
        have g2 : ¬ g i = k := by have := z.2.1; omega
        rw [e3 i ij ik, e3 (g i) g1 g2]
        exact Or.inr ⟨z.1, by have := z.2.1; omega, z.2.2⟩
  · by_cases ck : c = k
    · rw [ck, e2, e1]
      refine ⟨h0.2.1, jk, p.1, rfl, fun z => ?_⟩
      have := stk_lt r j h0.2.2.2.2 j z
      omega
    · have cj : ¬ c = j := fun z => by rw [z, jn] at hc; exact Bool.noConfusion hc
      have q := h.2.2 c c0 (by omega) hc
      have g1 : ¬ g c = j := fun z => q.2.2.2.2 (by rw [z]; simp)
      have g2 : ¬ g c = k := by have := q.2.1; omega
      rw [e3 c cj ck, e3 (g c) g1 g2]
      exact ⟨q.1, q.2.1, q.2.2.1, q.2.2.2.1, fun z => q.2.2.2.2 (by simp [z])⟩
theorem due_prb {x c : Int64} (h : clo c = true) : prb x c = true ↔ x = if ¬ c = 41 then c - 2 else 40 := by
  rcases of_decide_eq_true h with z | z | z
  · rw [z, show (if ¬ (41 : Int64) = 41 then (41 : Int64) - 2 else 40) = 40 by decide]
    constructor
    · intro q
      rcases of_decide_eq_true q with ⟨a, _⟩ | ⟨_, b⟩ | ⟨_, b⟩
      · exact a
      · exact absurd b (by decide)
      · exact absurd b (by decide)
    · intro q; rw [q]; decide
  · rw [z, show (if ¬ (93 : Int64) = 41 then (93 : Int64) - 2 else 40) = 91 by decide]
    constructor
    · intro q
      rcases of_decide_eq_true q with ⟨_, b⟩ | ⟨a, _⟩ | ⟨_, b⟩
      · exact absurd b (by decide)
      · exact a
      · exact absurd b (by decide)
    · intro q; rw [q]; decide
  · rw [z, show (if ¬ (125 : Int64) = 41 then (125 : Int64) - 2 else 40) = 123 by decide]
    constructor
    · intro q
      rcases of_decide_eq_true q with ⟨_, b⟩ | ⟨_, b⟩ | ⟨a, _⟩
      · exact absurd b (by decide)
      · exact absurd b (by decide)
      · exact a
    · intro q; rw [q]; decide
/-- a closing bracket that nothing opens -/
theorem no_bal {Y : Int → Int64} {n k : Int} {st : List Int} (k0 : 0 ≤ k) (k1 : k < n) (h : stk_ok Y k st) (hc : clo (Y k) = true) (hn : ∀ j r, st = j :: r → prb (Y j) (Y k) = false) : ¬ bal Y 0 n := fun hb => by
  have e := hb.2
  rw [show (n - 0).toNat = k.toNat + ((n - k - 1).toNat + 1) by omega, sk_cat, stk_sk st k h] at e
  have e : (skS Y (0 + (k.toNat : Int)) st).bind _ = some [] := e
  rw [show 0 + (k.toNat : Int) = k by omega] at e
  have z : skS Y k st = none := by
    unfold skS
    rw [if_neg (by rw [clo_no hc]; decide), if_pos hc]
    cases st with
    | nil => rfl
    | cons j r =>
      show (if prb (Y j) (Y k) = true then some r else none) = none
      rw [hn j r rfl]
      rfl
  rw [z] at e
  exact nns e
theorem no_bal2 {Y : Int → Int64} {n : Int} {st : List Int} (h : stk_ok Y n st) (hl : ¬ st = []) : ¬ bal Y 0 n := fun hb => by
  have e := hb.2
  rw [show n - 0 = n by omega, stk_sk st n h] at e
  exact hl (Option.some.inj e)
/-- what the reference knows of the words: where each bracket's other one stands -/
def RM (S : w_S) (n : Int) (Y : Int → Int64) (mt : Int → Int) : Prop := PYW S n Y ∧ MTP Y n mt ∧ (∀ k, 0 ≤ k → k < n → sA S 287 k = mt k) ∧ ∀ k, 0 ≤ k → k < n → clo (Y k) = true → 0 ≤ mt k ∧ mt k < k ∧ opn (Y (mt k)) = true ∧ mt (mt k) = k
theorem RM_of {S : w_S} {n : Int} {Y : Int → Int64} (hP : PYW S n Y) (h : MI Y n [] (sA S 287)) : RM S n Y (sA S 287) := by
  refine ⟨hP, fun k k0 k1 hk => ?_, fun _ _ _ => rfl, fun k k0 k1 hk => ?_⟩
  · rcases h.2.1 k k0 k1 hk with z | z
    · exact absurd z (by simp)
    · exact ⟨z.1, z.2.1, z.2.2⟩
  · have q := h.2.2 k k0 k1 hk
    exact ⟨q.1, q.2.1, q.2.2.1, q.2.2.2.1⟩
theorem r_mat_c {sc : x_S} {d : Nat} {S : w_S} {nn : Int} {Y : Int → Int64} (hP : PYW S nn Y) (hd : 3 ≤ d) : ∀ n : Nat, (∀ (c : Int) (k : Int) (st : List Int) (U : w_S) (lv : x_L) (l0 : lv 0 = some (.ref 249)) (l1 : lv 1 = some (.int (iZ c))) (l2 : lv 2 = some (.int (iZ k))) (k0 : 0 ≤ k) (k1 : k ≤ nn) (hf : fr (fun a => a = 287 ∨ a = 288) S U) (hI : MI Y k st (sA U 287)) (hs : skr (sA U 288) st) (hc : c = st.length) (hm : (nn - k).toNat < n), w_T sc d 147 4 lv [] U (fun v S2 => fr (fun a => a = 287 ∨ a = 288) S S2 ∧ (bal Y 0 nn → v = some (.int (iZ 1)) ∧ ∃ mt, RM S2 nn Y mt) ∧ (¬ bal Y 0 nn → v = some (.int (iZ 0))))) := by
  intro n
  induction n with
  | zero => exact fun c k st U lv l0 l1 l2 k0 k1 hf hI hs hc hm => absurd hm (Nat.not_lt_zero _)
  | succ n ih =>
    intro c k st U lv l0 l1 l2 k0 k1 hf hI hs hc hm
    have n0 := hP.2.1
    have n1 := hP.2.2.1
    have hcl := stk_len _ _ hI.1
    refine w_iload_n rfl l2 rfl ?_
    refine w_aload_n rfl l0 rfl ?_
    refine w_getI (z := nn) rfl rfl sh_249 rfl ((fr_gv hf (by decide) 49).trans hP.1) rfl ?_
    refine w_ic_ge (pc2 := 156) (pc3 := 12) rfl (by decide) rfl ⟨by omega, by omega⟩ ⟨by omega, by omega⟩ (fun c9 => ?_) (fun c9 => ?_)
    · skip
      refine w_iload_n rfl l1 rfl ?_
      refine w_if_ne (pc2 := 164) (pc3 := 160) rfl (by decide) rfl ⟨by omega, by omega⟩ (fun c157 => ?_) (fun c157 => ?_)
      · skip
        refine w_iconst rfl rfl ?_
        refine w_zret rfl rfl (by decide) ?_
        have ek : k = nn := by omega
        subst ek
        refine ⟨hf, fun hb => ?_, fun hb => ?_⟩
        · exact absurd hb (no_bal2 hI.1 (fun e => by rw [e, List.length_nil] at hc; omega))
        · rfl
      · skip
        refine w_iconst rfl rfl ?_
        refine w_goto (pc2 := 165) rfl (by decide) ?_
        refine w_zret rfl rfl (by decide) ?_
        have ek : k = nn := by omega
        subst ek
        refine ⟨hf, fun hb => ?_, fun hb => ?_⟩
        · have e : st = [] := List.length_eq_zero_iff.1 (by omega)
          subst e
          exact ⟨rfl, _, RM_of (PYW_fr hP hf (fr_gv hf (by decide) 49) (by decide)) hI⟩
        · exact absurd (show bal Y 0 k from by
            have e : st = [] := List.length_eq_zero_iff.1 (by omega)
            have q := hI.1
            rw [e] at q
            exact q) hb
    · skip
      refine w_aload_n rfl l0 rfl ?_
      refine w_getR rfl rfl sh_249 rfl rfl ?_
      refine w_iload_n rfl l2 rfl ?_
      refine w_lald (z := Y k) rfl sh_285 (by omega) (by omega) (by decide) ((congrFun (fr_gL hf (by decide)) _).trans (hP.2.2.2.1 k (by omega) (by omega))) rfl ?_
      refine w_lstore_n rfl (by decide) rfl ?_
      refine w_lload_n rfl rfl rfl ?_
      refine w_ldc2 (v := 40) rfl rfl rfl ?_
      apply w_br (A := w_T _ _ 147 43 _ [] _ _) (B := w_T _ _ 147 53 _ [] _ _) ((Y k) = 40 ∨ ((Y k) = 91 ∨ (Y k) = 123))
      · intro kT1 kT2
        refine w_l_eq (pc2 := 43) (pc3 := 27) rfl rfl (by decide) rfl (fun q1 => ?_) (fun q1 => ?_)
        · skip
          exact kT1 (Or.inl q1)
        · skip
          refine w_lload_n rfl rfl rfl ?_
          refine w_ldc2 (v := 91) rfl rfl rfl ?_
          refine w_l_eq (pc2 := 43) (pc3 := 35) rfl rfl (by decide) rfl (fun q2 => ?_) (fun q2 => ?_)
          · skip
            exact kT1 (Or.inr (Or.inl q2))
          · skip
            refine w_lload_n rfl rfl rfl ?_
            refine w_ldc2 (v := 123) rfl rfl rfl ?_
            refine w_l_ne (pc2 := 53) (pc3 := 43) rfl rfl (by decide) rfl (fun q3 => ?_) (fun q3 => ?_)
            · skip
              exact kT2 (not_or.mpr ⟨q1, (not_or.mpr ⟨q2, q3⟩)⟩)
            · skip
              exact kT1 (Or.inr (Or.inr q3))
      · intro c24
        refine w_aload_n rfl l0 rfl ?_
        refine w_getR rfl rfl sh_249 rfl rfl ?_
        refine w_iload_n rfl l1 rfl ?_
        refine w_iload_n rfl (congrArg x_k2 l2) rfl ?_
        refine w_iaS (f := sA U 288) rfl sh_288 (by omega) (by omega) (by decide) rfl rfl ?_
        refine w_iinc rfl l1 (by decide) rfl ?_
        refine w_lload_n rfl rfl rfl ?_
        refine w_ldc2 (v := 41) rfl rfl rfl ?_
        apply w_br (A := w_T _ _ 147 77 _ [] _ _) (B := w_T _ _ 147 150 _ [] _ _) ((Y k) = 41 ∨ ((Y k) = 93 ∨ (Y k) = 125))
        · intro kT1 kT2
          refine w_l_eq (pc2 := 77) (pc3 := 61) rfl rfl (by decide) rfl (fun q4 => ?_) (fun q4 => ?_)
          · skip
            exact kT1 (Or.inl q4)
          · skip
            refine w_lload_n rfl rfl rfl ?_
            refine w_ldc2 (v := 93) rfl rfl rfl ?_
            refine w_l_eq (pc2 := 77) (pc3 := 69) rfl rfl (by decide) rfl (fun q5 => ?_) (fun q5 => ?_)
            · skip
              exact kT1 (Or.inr (Or.inl q5))
            · skip
              refine w_lload_n rfl rfl rfl ?_
              refine w_ldc2 (v := 125) rfl rfl rfl ?_
              refine w_l_ne (pc2 := 150) (pc3 := 77) rfl rfl (by decide) rfl (fun q6 => ?_) (fun q6 => ?_)
              · skip
                exact kT2 (not_or.mpr ⟨q4, (not_or.mpr ⟨q5, q6⟩)⟩)
              · skip
                exact kT1 (Or.inr (Or.inr q6))
        · intro c58
          exfalso; have q1 := opn_nc (y := Y k) (decide_eq_true (by first | exact c24 | (rcases c24 with z | z | z; exact Or.inl z; exact Or.inr (Or.inl z); exact Or.inr (Or.inr z)))); have q2 : clo (Y k) = true := decide_eq_true c58; rw [q1] at q2; exact Bool.noConfusion q2
        · intro c58
          refine w_iinc rfl (congrArg x_k2 l2) (by decide) rfl ?_
          refine w_goto (pc2 := 4) rfl (by decide) ?_
          exact ih (c + 1) (k + 1) ((k :: st)) _ _ (by exact (congrArg x_k2 l0)) (by exact rfl) (by exact rfl) (by omega) (by omega) (by exact (fr_A hf (by omega))) (by exact MI_op k0 hI (decide_eq_true c24)) (by exact ⟨by rw [hc]; exact w_u_self _ _ _, skr_u st hs (by omega)⟩) (by rw [List.length_cons]; omega) (by omega)
      · intro c24
        refine w_lload_n rfl rfl rfl ?_
        refine w_ldc2 (v := 41) rfl rfl rfl ?_
        apply w_br (A := w_T _ _ 147 77 _ [] _ _) (B := w_T _ _ 147 150 _ [] _ _) ((Y k) = 41 ∨ ((Y k) = 93 ∨ (Y k) = 125))
        · intro kT1 kT2
          refine w_l_eq (pc2 := 77) (pc3 := 61) rfl rfl (by decide) rfl (fun q7 => ?_) (fun q7 => ?_)
          · skip
            exact kT1 (Or.inl q7)
          · skip
            refine w_lload_n rfl rfl rfl ?_
            refine w_ldc2 (v := 93) rfl rfl rfl ?_
            refine w_l_eq (pc2 := 77) (pc3 := 69) rfl rfl (by decide) rfl (fun q8 => ?_) (fun q8 => ?_)
            · skip
              exact kT1 (Or.inr (Or.inl q8))
            · skip
              refine w_lload_n rfl rfl rfl ?_
              refine w_ldc2 (v := 125) rfl rfl rfl ?_
              refine w_l_ne (pc2 := 150) (pc3 := 77) rfl rfl (by decide) rfl (fun q9 => ?_) (fun q9 => ?_)
              · skip
                exact kT2 (not_or.mpr ⟨q7, (not_or.mpr ⟨q8, q9⟩)⟩)
              · skip
                exact kT1 (Or.inr (Or.inr q9))
        · intro c58
          refine w_lload_n rfl rfl rfl ?_
          refine w_ldc2 (v := 41) rfl rfl rfl ?_
          apply w_jn (A := w_T _ _ 147 96 _ [.long (if ¬ (Y k) = 41 then (Y k) - 2 else 40)] _ _)
          · intro kT
            refine w_l_ne (pc2 := 91) (pc3 := 85) rfl rfl (by decide) rfl (fun q10 => ?_) (fun q10 => ?_)
            · skip
              refine w_lload_n rfl rfl rfl ?_
              refine w_ldc2 (v := 2) rfl rfl rfl ?_
              refine w_lsub rfl rfl ?_
              exact w_jl1 (p := ¬ (Y k) = 41) (a := (Y k) - 2) (b := 40) q10 kT
            · skip
              refine w_ldc2 (v := 40) rfl rfl rfl ?_
              refine w_goto (pc2 := 96) rfl (by decide) ?_
              exact w_jl0 (p := ¬ (Y k) = 41) (a := (Y k) - 2) (b := 40) (not_not_intro q10) kT
          · show w_T _ _ 147 96 _ [.long (if ¬ (Y k) = 41 then (Y k) - 2 else 40)] _ _
            refine w_lstore rfl (by decide) rfl ?_
            refine w_iload_n rfl l1 rfl ?_
            refine w_if_eq (pc2 := 121) (pc3 := 102) rfl (by decide) rfl ⟨by omega, by omega⟩ (fun c99 => ?_) (fun c99 => ?_)
            · skip
              refine w_iconst rfl rfl ?_
              refine w_zret rfl rfl (by decide) ?_
              refine ⟨hf, fun z => absurd z (no_bal k0 (by omega) hI.1 (decide_eq_true c58) (fun j2 r2 e2 => ?_)), fun _ => rfl⟩
              first
                | (rw [e2, List.length_cons] at hc; omega)
                | (obtain ⟨e3, e4⟩ := List.cons.inj e2
                   rw [← e3]
                   cases z2 : prb (Y j) (Y k)
                   · rfl
                   · exact absurd ((due_prb (decide_eq_true c58)).1 z2) c118)
            · skip
              obtain ⟨j, r, rfl⟩ : ∃ j r, st = j :: r := by
                cases st with
                | nil => exfalso; rw [List.length_nil] at hc; omega
                | cons j r => exact ⟨j, r, rfl⟩
              rw [List.length_cons] at hc hcl
              have hj : sA U 288 (c - 1) = j := by rw [show c - 1 = (r.length : Int) by omega]; exact hs.1
              have hjk := hI.1.2.2.1
              have hj0 := hI.1.2.1
              refine w_aload_n rfl l0 rfl ?_
              refine w_getR rfl rfl sh_249 rfl rfl ?_
              refine w_aload_n rfl l0 rfl ?_
              refine w_getR rfl rfl sh_249 rfl rfl ?_
              refine w_iload_n rfl l1 rfl ?_
              refine w_iconst rfl rfl ?_
              refine w_isub rfl rfl ?_
              refine w_iald (z := j) rfl sh_288 (by omega) (by omega) (by decide) (by rw [show c - 1 = c - 1 by omega]; exact hj) rfl ?_
              refine w_lald (z := Y j) rfl sh_285 (by omega) (by omega) (by decide) ((congrFun (fr_gL hf (by decide)) _).trans (hP.2.2.2.1 j (by omega) (by omega))) rfl ?_
              refine w_lload rfl rfl rfl ?_
              refine w_l_eq (pc2 := 123) (pc3 := 121) rfl rfl (by decide) rfl (fun c118 => ?_) (fun c118 => ?_)
              · skip
                refine w_iinc rfl l1 (by decide) rfl ?_
                refine w_aload_n rfl (congrArg x_k2 l0) rfl ?_
                refine w_getR rfl rfl sh_249 rfl rfl ?_
                refine w_iload_n rfl (congrArg x_k2 l2) rfl ?_
                refine w_aload_n rfl (congrArg x_k2 l0) rfl ?_
                refine w_getR rfl rfl sh_249 rfl rfl ?_
                refine w_iload_n rfl rfl rfl ?_
                refine w_iald (z := j) rfl sh_288 (by omega) (by omega) (by decide) (by rw [show c + (-1) = c - 1 by omega]; exact hj) rfl ?_
                refine w_iaS (f := sA U 287) rfl sh_287 (by omega) (by omega) (by decide) rfl rfl ?_
                refine w_aload_n rfl (congrArg x_k2 l0) rfl ?_
                refine w_getR rfl rfl sh_249 rfl rfl ?_
                refine w_aload_n rfl (congrArg x_k2 l0) rfl ?_
                refine w_getR rfl rfl sh_249 rfl rfl ?_
                refine w_iload_n rfl rfl rfl ?_
                refine w_iald (z := j) rfl sh_288 (by omega) (by omega) (by decide) ((congrFun (rA_ne (by decide)) _).trans (by rw [show c + (-1) = c - 1 by omega]; exact hj)) rfl ?_
                refine w_iload_n rfl (congrArg x_k2 l2) rfl ?_
                refine w_iaS (f := w_u (sA U 287) k j) rfl sh_287 (by omega) (by omega) (by decide) (rA_self _ _ _) rfl ?_
                refine w_iinc rfl (congrArg x_k2 l2) (by decide) rfl ?_
                refine w_goto (pc2 := 4) rfl (by decide) ?_
                exact ih (c + (-1)) (k + 1) r _ _ (by exact (congrArg x_k2 l0)) (by exact rfl) (by exact rfl) (by omega) (by omega) (by exact (fr_A (fr_A hf (by omega)) (by omega))) (by exact MI_cl hI ((due_prb (decide_eq_true c58)).2 c118)) (by exact hs.2) (by omega) (by omega)
              · skip
                refine w_iconst rfl rfl ?_
                refine w_zret rfl rfl (by decide) ?_
                refine ⟨hf, fun z => absurd z (no_bal k0 (by omega) hI.1 (decide_eq_true c58) (fun j2 r2 e2 => ?_)), fun _ => rfl⟩
                first
                  | (rw [e2, List.length_cons] at hc; omega)
                  | (obtain ⟨e3, e4⟩ := List.cons.inj e2
                     rw [← e3]
                     cases z2 : prb (Y j) (Y k)
                     · rfl
                     · exact absurd ((due_prb (decide_eq_true c58)).1 z2) c118)
        · intro c58
          refine w_iinc rfl (congrArg x_k2 l2) (by decide) rfl ?_
          refine w_goto (pc2 := 4) rfl (by decide) ?_
          exact ih c (k + 1) st _ _ (by exact l0) (by exact (congrArg x_k2 l1)) (by exact rfl) (by omega) (by omega) (by exact hf) (by exact MI_pl hI (decide_eq_false c24) (decide_eq_false c58)) (by exact hs) (by exact hc) (by omega)
theorem r_mat {sc : x_S} {d : Nat} {S : w_S} {nn : Int} {Y : Int → Int64} (hP : PYW S nn Y) (hd : 3 ≤ d) : w_T sc d 147 0 (x_en 0 [.ref 249]) [] S (fun v S2 => fr (fun a => a = 287 ∨ a = 288) S S2 ∧ (bal Y 0 nn → v = some (.int (iZ 1)) ∧ ∃ mt, RM S2 nn Y mt) ∧ (¬ bal Y 0 nn → v = some (.int (iZ 0)))) := by
  have n0 := hP.2.1
  have n1 := hP.2.2.1
  refine w_iconst rfl rfl ?_
  refine w_istore_n rfl (by decide) rfl ?_
  refine w_iconst rfl rfl ?_
  refine w_istore_n rfl (by decide) rfl ?_
  exact (r_mat_c hP hd _) 0 0 ([]) _ _ rfl rfl rfl (by omega) (by omega) (by exact (fr_refl _ S)) (by exact ⟨bal_0 Y 0, fun i a b => by omega, fun i a b => by omega⟩) (by exact trivial) (by rfl) (Nat.lt_succ_self _)
