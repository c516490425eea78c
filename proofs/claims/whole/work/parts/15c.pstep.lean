/-! The class's parser: its small steps. -/
def ndg (L : List Nd) (j : Int) : Nd := L.getD j.toNat (0, 0, 0)
def trep (S : w_S) (L : List Nd) : Prop := sv S 235 3 = L.length ∧ ∀ j : Int, 0 ≤ j → j < L.length → sA S 236 j = (ndg L j).1 ∧ sA S 237 j = (ndg L j).2.1 ∧ sA S 238 j = (ndg L j).2.2
def PW (S : w_S) (n : Int) (Y : Int → Int64) (D : List Dcl) (a : Int) (M : List Nd) : Prop := PS S n Y ∧ DR S D ∧ sv S 234 4 = a ∧ trep S M ∧ 0 ≤ a ∧ a ≤ n
theorem ndg_l {M N : List Nd} {j : Int} (h0 : 0 ≤ j) (h1 : j < M.length) : ndg (M ++ N) j = ndg M j := by
  unfold ndg
  rw [List.getD_eq_getElem?_getD, List.getElem?_append_left (by omega), ← List.getD_eq_getElem?_getD]
theorem ndg_r {M N : List Nd} {j : Int} (h : (M.length : Int) ≤ j) : ndg (M ++ N) j = ndg N (j - M.length) := by
  unfold ndg
  rw [List.getD_eq_getElem?_getD, List.getElem?_append_right (by omega), ← List.getD_eq_getElem?_getD, show j.toNat - M.length = (j - M.length).toNat by omega]
theorem ndg_0 {x : Nd} {N : List Nd} : ndg (x :: N) 0 = x := rfl
theorem ndg_s {x : Nd} {N : List Nd} {j : Int} (h : 0 < j) : ndg (x :: N) j = ndg N (j - 1) := by
  unfold ndg
  rw [show j.toNat = (j - 1).toNat + 1 by omega]
  rfl
theorem PS_fr {c : Nat → Prop} {S S2 : w_S} {n : Int} {Y : Int → Int64} (h : PS S n Y) (f : fr c S S2) (h3 : sv S2 234 3 = sv S 234 3) (hc : ¬ c 239 ∧ ¬ c 240) : PS S2 n Y := ⟨h.1, h.2.1, by rw [h3]; exact h.2.2.1, by rw [fr_gL f hc.1, fr_gA f hc.2]; exact h.2.2.2.1, h.2.2.2.2⟩
theorem DR_fr {c : Nat → Prop} {S S2 : w_S} {D : List Dcl} (h : DR S D) (f : fr c S S2) (h7 : sv S2 234 7 = sv S 234 7) (hc : ¬ c 241 ∧ ¬ c 242) : DR S2 D := ⟨by rw [h7]; exact h.1, h.2.1, by rw [fr_gL f hc.1, fr_gA f hc.2]; exact h.2.2⟩
theorem trep_fr {c : Nat → Prop} {S S2 : w_S} {L : List Nd} (h : trep S L) (f : fr c S S2) (hc : ∀ a, 235 ≤ a → a ≤ 238 → ¬ c a) : trep S2 L := ⟨by rw [fr_gv f (hc 235 (by omega) (by omega))]; exact h.1, by rw [fr_gA f (hc 236 (by omega) (by omega)), fr_gA f (hc 237 (by omega) (by omega)), fr_gA f (hc 238 (by omega) (by omega))]; exact h.2⟩
theorem PW_tree {S S2 : w_S} {n : Int} {Y : Int → Int64} {D : List Dcl} {a : Int} {M M2 : List Nd} (h : PW S n Y D a M) (f : fr (fun a => 235 ≤ a ∧ a ≤ 238) S S2) (ht : trep S2 M2) : PW S2 n Y D a M2 := ⟨PS_fr h.1 f (fr_gv f (by omega) 3) (by omega), DR_fr h.2.1 f (fr_gv f (by omega) 7) (by omega), by rw [fr_gv f (by omega)]; exact h.2.2.1, ht, h.2.2.2.2⟩
theorem PW_at {S : w_S} {n : Int} {Y : Int → Int64} {D : List Dcl} {a b : Int} {M : List Nd} (h : PW S n Y D a M) (b0 : 0 ≤ b) (b1 : b ≤ n) : PW (w_v S 234 4 b) n Y D b M := by
  have f : fr (fun a => a = 234) S (w_v S 234 4 b) := fr_v (fr_refl _ _) rfl
  exact ⟨PS_fr h.1 f (rv_ne (by decide)) (by decide), DR_fr h.2.1 f (rv_ne (by decide)) (by decide), rv_self _ _ _ _, trep_fr h.2.2.2.1 f (fun a a0 a1 => by omega), b0, b1⟩
theorem trep_kid {S : w_S} {M N : List Nd} {k t c c2 : Int} (h : trep S (M ++ (k, t, c) :: N)) : trep (w_A S 238 (w_u (sA S 238) M.length c2)) (M ++ (k, t, c2) :: N) := by
  have hl : (M ++ (k, t, c) :: N).length = (M ++ (k, t, c2) :: N).length := by rw [List.length_append, List.length_append, List.length_cons, List.length_cons]
  refine ⟨by rw [← hl]; exact h.1, fun j j0 j1 => ?_⟩
  have q := h.2 j j0 (by rw [hl]; exact j1)
  by_cases c1 : j < M.length
  · rw [ndg_l j0 c1] at q ⊢
    exact ⟨q.1, q.2.1, (w_u_ne _ _ (by omega)).trans q.2.2⟩
  · rw [ndg_r (by omega)] at q ⊢
    by_cases c3 : j = M.length
    · rw [c3, Int.sub_self, ndg_0] at q ⊢
      exact ⟨q.1, q.2.1, w_u_self _ _ _⟩
    · rw [ndg_s (by omega)] at q ⊢
      exact ⟨q.1, q.2.1, (w_u_ne _ _ c3).trans q.2.2⟩
theorem trep_tok {S : w_S} {M N : List Nd} {k t c t2 : Int} (h : trep S (M ++ (k, t, c) :: N)) : trep (w_A S 237 (w_u (sA S 237) M.length t2)) (M ++ (k, t2, c) :: N) := by
  have hl : (M ++ (k, t, c) :: N).length = (M ++ (k, t2, c) :: N).length := by rw [List.length_append, List.length_append, List.length_cons, List.length_cons]
  refine ⟨by rw [← hl]; exact h.1, fun j j0 j1 => ?_⟩
  have q := h.2 j j0 (by rw [hl]; exact j1)
  by_cases c1 : j < M.length
  · rw [ndg_l j0 c1] at q ⊢
    exact ⟨q.1, (w_u_ne _ _ (by omega)).trans q.2.1, q.2.2⟩
  · rw [ndg_r (by omega)] at q ⊢
    by_cases c3 : j = M.length
    · rw [c3, Int.sub_self, ndg_0] at q ⊢
      exact ⟨q.1, w_u_self _ _ _, q.2.2⟩
    · rw [ndg_s (by omega)] at q ⊢
      exact ⟨q.1, (w_u_ne _ _ c3).trans q.2.1, q.2.2⟩
theorem trep_knd {S : w_S} {M N : List Nd} {k t c k2 : Int} (h : trep S (M ++ (k, t, c) :: N)) : trep (w_A S 236 (w_u (sA S 236) M.length k2)) (M ++ (k2, t, c) :: N) := by
  have hl : (M ++ (k, t, c) :: N).length = (M ++ (k2, t, c) :: N).length := by rw [List.length_append, List.length_append, List.length_cons, List.length_cons]
  refine ⟨by rw [← hl]; exact h.1, fun j j0 j1 => ?_⟩
  have q := h.2 j j0 (by rw [hl]; exact j1)
  by_cases c1 : j < M.length
  · rw [ndg_l j0 c1] at q ⊢
    exact ⟨(w_u_ne _ _ (by omega)).trans q.1, q.2.1, q.2.2⟩
  · rw [ndg_r (by omega)] at q ⊢
    by_cases c3 : j = M.length
    · rw [c3, Int.sub_self, ndg_0] at q ⊢
      exact ⟨w_u_self _ _ _, q.2.1, q.2.2⟩
    · rw [ndg_s (by omega)] at q ⊢
      exact ⟨(w_u_ne _ _ c3).trans q.1, q.2.1, q.2.2⟩
theorem trep_snoc {S W : w_S} {M : List Nd} {k t c : Int} (h : trep S M) (w3 : sv W 235 3 = (M.length : Int) + 1) (w0 : sA W 236 = w_u (sA S 236) M.length k) (w1 : sA W 237 = w_u (sA S 237) M.length t) (w2 : sA W 238 = w_u (sA S 238) M.length c) : trep W (M ++ [(k, t, c)]) := by
  refine ⟨by rw [w3, List.length_append]; show _ = ((M.length + 1 : Nat) : Int); omega, fun j j0 j1 => ?_⟩
  rw [List.length_append] at j1
  have j1 : j < ((M.length + 1 : Nat) : Int) := j1
  rw [w0, w1, w2]
  by_cases c1 : j < M.length
  · rw [ndg_l j0 c1, w_u_ne _ _ (by omega), w_u_ne _ _ (by omega), w_u_ne _ _ (by omega)]
    exact h.2 j j0 c1
  · have e : j = M.length := by omega
    rw [ndg_r (by omega), e, Int.sub_self, ndg_0, w_u_self, w_u_self, w_u_self]
    exact ⟨rfl, rfl, rfl⟩
theorem trep_ins {S W : w_S} {M N : List Nd} {k t c : Int} (h : trep S (M ++ N)) (w3 : sv W 235 3 = ((M ++ N).length : Int) + 1) (w0 : sA W 236 = w_u (w_cp (sA S 236) (sA S 236) M.length (M.length + 1) (((M ++ N).length : Int) - M.length)) M.length k) (w1 : sA W 237 = w_u (w_cp (sA S 237) (sA S 237) M.length (M.length + 1) (((M ++ N).length : Int) - M.length)) M.length t) (w2 : sA W 238 = w_u (w_cp (sA S 238) (sA S 238) M.length (M.length + 1) (((M ++ N).length : Int) - M.length)) M.length c) : trep W (M ++ (k, t, c) :: N) := by
  have hl : ((M ++ N).length : Int) = M.length + N.length := by rw [List.length_append]; omega
  have hl2 : ((M ++ (k, t, c) :: N).length : Int) = M.length + N.length + 1 := by rw [List.length_append, List.length_cons]; omega
  refine ⟨by rw [w3, hl, hl2], fun j j0 j1 => ?_⟩
  rw [hl2] at j1
  rw [hl] at w0 w1 w2
  rw [w0, w1, w2]
  by_cases c1 : j < M.length
  · rw [ndg_l j0 c1, w_u_ne _ _ (by omega), w_u_ne _ _ (by omega), w_u_ne _ _ (by omega)]
    have q := h.2 j j0 (by omega)
    rw [ndg_l j0 c1] at q
    unfold w_cp
    rw [if_neg (by omega), if_neg (by omega), if_neg (by omega)]
    exact q
  · by_cases c3 : j = M.length
    · rw [ndg_r (by omega), c3, Int.sub_self, ndg_0, w_u_self, w_u_self, w_u_self]
      exact ⟨rfl, rfl, rfl⟩
    · rw [ndg_r (by omega), ndg_s (by omega), w_u_ne _ _ c3, w_u_ne _ _ c3, w_u_ne _ _ c3]
      have q := h.2 (j - 1) (by omega) (by omega)
      rw [ndg_r (by omega)] at q
      unfold w_cp
      rw [if_pos (by omega), if_pos (by omega), if_pos (by omega), show (M.length : Int) + (j - (M.length + 1)) = j - 1 by omega, show j - (M.length : Int) - 1 = j - 1 - M.length by omega]
      exact q
theorem c_tadd {sc : x_S} {d : Nat} {S : w_S} {M : List Nd} {k t c : Int} (ht : trep S M) (h1 : M.length ≤ 199) (hd : 1 ≤ d) : w_T sc d 109 0 (x_en 0 [.ref 235, .int (iZ k), .int (iZ t), .int (iZ c)]) [] S (fun v S2 => v = some (.int (iZ (M.length : Int))) ∧ fr (fun a => 235 ≤ a ∧ a ≤ 238) S S2 ∧ trep S2 (M ++ [(k, t, c)])) := by
  refine w_aload_n rfl rfl rfl ?_
  refine w_getI (z := (M.length : Int)) rfl rfl sh_235 rfl ht.1 rfl ?_
  refine w_sipush rfl (by decide) rfl ?_
  refine w_min rfl rfl ⟨by omega, by omega⟩ ⟨by decide, by decide⟩ (by omega) (Nat.le_of_ble_eq_true rfl) rfl ?_
  rw [if_neg (show ¬ (200 : Int) < (M.length : Int) by omega)]
  refine w_istore rfl (by decide) rfl ?_
  refine w_aload_n rfl rfl rfl ?_
  refine w_getR rfl rfl sh_235 rfl rfl ?_
  refine w_iload rfl rfl rfl ?_
  refine w_iload_n rfl rfl rfl ?_
  refine w_iaS (f := sA S 236) rfl sh_236 (by omega) (by omega) (by decide) rfl rfl ?_
  refine w_aload_n rfl rfl rfl ?_
  refine w_getR rfl rfl sh_235 rfl rfl ?_
  refine w_iload rfl rfl rfl ?_
  refine w_iload_n rfl rfl rfl ?_
  refine w_iaS (f := sA S 237) rfl sh_237 (by omega) (by omega) (by decide) (rA_ne (by decide)) rfl ?_
  refine w_aload_n rfl rfl rfl ?_
  refine w_getR rfl rfl sh_235 rfl rfl ?_
  refine w_iload rfl rfl rfl ?_
  refine w_iload_n rfl rfl rfl ?_
  refine w_iaS (f := sA S 238) rfl sh_238 (by omega) (by omega) (by decide) ((rA_ne (by decide)).trans (rA_ne (by decide))) rfl ?_
  refine w_aload_n rfl rfl rfl ?_
  refine w_iload rfl rfl rfl ?_
  refine w_iconst rfl rfl ?_
  refine w_iadd rfl rfl ?_
  refine w_putf rfl rfl sh_235 rfl rfl (by decide) rfl ?_
  refine w_iload rfl rfl rfl ?_
  refine w_iret rfl rfl ?_
  exact ⟨rfl, (fr_v (fr_A (fr_A (fr_A (fr_refl _ _) (by omega)) (by omega)) (by omega)) (by omega)), trep_snoc ht (by simp (disch := omega) only [rv_self, rv_ne, rl_self, rl_ne, rA_self, rA_ne, rL_self, rL_ne, rR_self, rR_ne, xvl, xvA, xvL, xvR, xlv, xlA, xlL, xlR, xAv, xAl, xAL, xAR, xLv, xLl, xLA, xLR, xRv, xRl, xRA, xRL]) rfl rfl rfl⟩
theorem c_tins {sc : x_S} {d : Nat} {S : w_S} {M N : List Nd} {k t c : Int} (ht : trep S (M ++ N)) (h1 : (M ++ N).length ≤ 200) (hd : 1 ≤ d) : w_T sc d 110 0 (x_en 0 [.ref 235, .int (iZ ((M.length : Int))), .int (iZ k), .int (iZ t), .int (iZ c)]) [] S (fun v S2 => v = none ∧ fr (fun a => 235 ≤ a ∧ a ≤ 238) S S2 ∧ trep S2 (M ++ (k, t, c) :: N)) := by
  have hl : ((M ++ N).length : Int) = M.length + N.length := by rw [List.length_append]; omega
  refine w_iload_n rfl rfl rfl ?_
  refine w_if_lt (pc2 := 22) (pc3 := 4) rfl (by decide) rfl ⟨by omega, by omega⟩ (fun c1 => ?_) (fun c1 => ?_)
  · omega
  · skip
    refine w_iload_n rfl rfl rfl ?_
    refine w_aload_n rfl rfl rfl ?_
    refine w_getI (z := ((M ++ N).length : Int)) rfl rfl sh_235 rfl ht.1 rfl ?_
    refine w_ic_gt (pc2 := 22) (pc3 := 12) rfl (by decide) rfl ⟨by omega, by omega⟩ ⟨by omega, by omega⟩ (fun c9 => ?_) (fun c9 => ?_)
    · omega
    · skip
      refine w_aload_n rfl rfl rfl ?_
      refine w_getI (z := ((M ++ N).length : Int)) rfl rfl sh_235 rfl ht.1 rfl ?_
      refine w_sipush rfl (by decide) rfl ?_
      refine w_ic_lt (pc2 := 23) (pc3 := 22) rfl (by decide) rfl ⟨by omega, by omega⟩ ⟨by decide, by decide⟩ (fun c19 => ?_) (fun c19 => ?_)
      · skip
        refine w_aload_n rfl rfl rfl ?_
        refine w_getR rfl rfl sh_235 rfl rfl ?_
        refine w_iload_n rfl rfl rfl ?_
        refine w_aload_n rfl rfl rfl ?_
        refine w_getR rfl rfl sh_235 rfl rfl ?_
        refine w_iload_n rfl rfl rfl ?_
        refine w_iconst rfl rfl ?_
        refine w_iadd rfl rfl ?_
        refine w_aload_n rfl rfl rfl ?_
        refine w_getI (z := ((M ++ N).length : Int)) rfl rfl sh_235 rfl ht.1 rfl ?_
        refine w_iload_n rfl rfl rfl ?_
        refine w_isub rfl rfl ?_
        refine w_cpi (f := sA S 236) (g := sA S 236) rfl rfl sh_236 sh_236 (by omega) (by omega) (by omega) (by omega) (by omega) (by decide) (by decide) (by omega) (Nat.le_of_ble_eq_true rfl) rfl rfl rfl ?_
        refine w_aload_n rfl rfl rfl ?_
        refine w_getR rfl rfl sh_235 rfl rfl ?_
        refine w_iload_n rfl rfl rfl ?_
        refine w_aload_n rfl rfl rfl ?_
        refine w_getR rfl rfl sh_235 rfl rfl ?_
        refine w_iload_n rfl rfl rfl ?_
        refine w_iconst rfl rfl ?_
        refine w_iadd rfl rfl ?_
        refine w_aload_n rfl rfl rfl ?_
        refine w_getI (z := ((M ++ N).length : Int)) rfl rfl sh_235 rfl ht.1 rfl ?_
        refine w_iload_n rfl rfl rfl ?_
        refine w_isub rfl rfl ?_
        refine w_cpi (f := sA S 237) (g := sA S 237) rfl rfl sh_237 sh_237 (by omega) (by omega) (by omega) (by omega) (by omega) (by decide) (by decide) (by omega) (Nat.le_of_ble_eq_true rfl) (rA_ne (by decide)) (rA_ne (by decide)) rfl ?_
        refine w_aload_n rfl rfl rfl ?_
        refine w_getR rfl rfl sh_235 rfl rfl ?_
        refine w_iload_n rfl rfl rfl ?_
        refine w_aload_n rfl rfl rfl ?_
        refine w_getR rfl rfl sh_235 rfl rfl ?_
        refine w_iload_n rfl rfl rfl ?_
        refine w_iconst rfl rfl ?_
        refine w_iadd rfl rfl ?_
        refine w_aload_n rfl rfl rfl ?_
        refine w_getI (z := ((M ++ N).length : Int)) rfl rfl sh_235 rfl ht.1 rfl ?_
        refine w_iload_n rfl rfl rfl ?_
        refine w_isub rfl rfl ?_
        refine w_cpi (f := sA S 238) (g := sA S 238) rfl rfl sh_238 sh_238 (by omega) (by omega) (by omega) (by omega) (by omega) (by decide) (by decide) (by omega) (Nat.le_of_ble_eq_true rfl) ((rA_ne (by decide)).trans (rA_ne (by decide))) ((rA_ne (by decide)).trans (rA_ne (by decide))) rfl ?_
        refine w_aload_n rfl rfl rfl ?_
        refine w_getR rfl rfl sh_235 rfl rfl ?_
        refine w_iload_n rfl rfl rfl ?_
        refine w_iload_n rfl rfl rfl ?_
        refine w_iaS (f := w_cp (sA S 236) (sA S 236) ((M.length : Int)) (((M.length : Int)) + 1) ((((M ++ N).length : Int)) - ((M.length : Int)))) rfl sh_236 (by omega) (by omega) (by decide) ((rA_ne (by decide)).trans ((rA_ne (by decide)).trans (rA_self _ _ _))) rfl ?_
        refine w_aload_n rfl rfl rfl ?_
        refine w_getR rfl rfl sh_235 rfl rfl ?_
        refine w_iload_n rfl rfl rfl ?_
        refine w_iload_n rfl rfl rfl ?_
        refine w_iaS (f := w_cp (sA S 237) (sA S 237) ((M.length : Int)) (((M.length : Int)) + 1) ((((M ++ N).length : Int)) - ((M.length : Int)))) rfl sh_237 (by omega) (by omega) (by decide) ((rA_ne (by decide)).trans ((rA_ne (by decide)).trans (rA_self _ _ _))) rfl ?_
        refine w_aload_n rfl rfl rfl ?_
        refine w_getR rfl rfl sh_235 rfl rfl ?_
        refine w_iload_n rfl rfl rfl ?_
        refine w_iload rfl rfl rfl ?_
        refine w_iaS (f := w_cp (sA S 238) (sA S 238) ((M.length : Int)) (((M.length : Int)) + 1) ((((M ++ N).length : Int)) - ((M.length : Int)))) rfl sh_238 (by omega) (by omega) (by decide) ((rA_ne (by decide)).trans ((rA_ne (by decide)).trans (rA_self _ _ _))) rfl ?_
        refine w_aload_n rfl rfl rfl ?_
        refine w_dup rfl rfl rfl ?_
        refine w_getI (z := ((M ++ N).length : Int)) rfl rfl sh_235 rfl ht.1 rfl ?_
        refine w_iconst rfl rfl ?_
        refine w_iadd rfl rfl ?_
        refine w_putf rfl rfl sh_235 rfl rfl (by decide) rfl ?_
        refine w_vret rfl rfl ?_
        exact ⟨rfl, (fr_v (fr_A (fr_A (fr_A (fr_A (fr_A (fr_A (fr_refl _ _) (by omega)) (by omega)) (by omega)) (by omega)) (by omega)) (by omega)) (by omega)), trep_ins ht (by simp (disch := omega) only [rv_self, rv_ne, rl_self, rl_ne, rA_self, rA_ne, rL_self, rL_ne, rR_self, rR_ne, xvl, xvA, xvL, xvR, xlv, xlA, xlL, xlR, xAv, xAl, xAL, xAR, xLv, xLl, xLA, xLR, xRv, xRl, xRA, xRL]) rfl rfl rfl⟩
      · omega
theorem Y_lt {S : w_S} {n : Int} {Y : Int → Int64} {D : List Dcl} {a : Int} {M : List Nd} (h : PW S n Y D a M) {k : Int} {x : Int64} (hx : ¬ x = 0) (hk : Y k = x) : k < n := by
  by_cases c : k < n
  · exact c
  · exact absurd ((h.1.2.2.2.2.2 k (by omega)).symm.trans hk) (fun z => hx z.symm)
theorem c_tk1 {sc : x_S} {d : Nat} {S : w_S} {nn : Int} {Y : Int → Int64} {D : List Dcl} {a : Int} {M : List Nd} {c : Int} {x : Int64} (hw : PW S nn Y D a M) (hc : li2l c = x) (c0 : 0 ≤ c) (c1 : c < 128) (hx : ¬ x = 0) (hY : Y a = x) (hd : 0 ≤ d) : w_T sc d 43 0 (x_en 0 [.ref 234, .int (iZ c)]) [] S (fun v S2 => v = some (.int (iZ 1)) ∧ fr (fun a => 234 ≤ a ∧ a ≤ 242) S S2 ∧ PW S2 nn Y D (a + 1) M) := by
  have hnn := hw.1.1
  have hn1 := hw.1.2.1
  have ha0 := hw.2.2.2.2.1
  have ha1 := hw.2.2.2.2.2
  rw [← hc] at hY hx
  have hal := Y_lt hw hx hY
  refine w_aload_n rfl rfl rfl ?_
  refine w_getR rfl rfl sh_234 rfl rfl ?_
  refine w_aload_n rfl rfl rfl ?_
  refine w_getI (z := a) rfl rfl sh_234 rfl hw.2.2.1 rfl ?_
  refine w_lald (z := Y a) rfl sh_239 (by omega) (by omega) (by decide) (hw.1.2.2.2.1 _ (by omega) (by omega)).1 rfl ?_
  refine w_iload_n rfl rfl rfl ?_
  refine w_zi2l rfl rfl ?_
  refine w_l_ne (pc2 := 19) (pc3 := 15) rfl rfl (by decide) rfl (fun c12 => ?_) (fun c12 => ?_)
  · exact absurd hY c12
  · skip
    refine w_iconst rfl rfl ?_
    refine w_goto (pc2 := 20) rfl (by decide) ?_
    refine w_istore_n rfl (by decide) rfl ?_
    refine w_aload_n rfl rfl rfl ?_
    refine w_dup rfl rfl rfl ?_
    refine w_getI (z := a) rfl rfl sh_234 rfl hw.2.2.1 rfl ?_
    refine w_iload_n rfl rfl rfl ?_
    refine w_if_eq (pc2 := 34) (pc3 := 30) rfl (by decide) rfl ⟨by decide, by decide⟩ (fun hc => absurd hc (by decide)) (fun _ => ?_)
    refine w_iconst rfl rfl ?_
    refine w_goto (pc2 := 35) rfl (by decide) ?_
    refine w_iadd rfl rfl ?_
    refine w_putf rfl rfl sh_234 rfl rfl (by decide) rfl ?_
    refine w_iload_n rfl rfl rfl ?_
    refine w_zret rfl rfl (by decide) ?_
    refine ⟨rfl, (fr_v (fr_refl _ _) (by omega)), ?_⟩
    exact PW_at hw (by omega) (by omega)
theorem c_tk0 {sc : x_S} {d : Nat} {S : w_S} {nn : Int} {Y : Int → Int64} {D : List Dcl} {a : Int} {M : List Nd} {c : Int} {x : Int64} (hw : PW S nn Y D a M) (hc : li2l c = x) (c0 : 0 ≤ c) (c1 : c < 128) (hx : ¬ x = 0) (hY : ¬ Y a = x) (hd : 0 ≤ d) : w_T sc d 43 0 (x_en 0 [.ref 234, .int (iZ c)]) [] S (fun v S2 => v = some (.int (iZ 0)) ∧ fr (fun a => 234 ≤ a ∧ a ≤ 242) S S2 ∧ PW S2 nn Y D a M) := by
  have hnn := hw.1.1
  have hn1 := hw.1.2.1
  have ha0 := hw.2.2.2.2.1
  have ha1 := hw.2.2.2.2.2
  rw [← hc] at hY hx
  refine w_aload_n rfl rfl rfl ?_
  refine w_getR rfl rfl sh_234 rfl rfl ?_
  refine w_aload_n rfl rfl rfl ?_
  refine w_getI (z := a) rfl rfl sh_234 rfl hw.2.2.1 rfl ?_
  refine w_lald (z := Y a) rfl sh_239 (by omega) (by omega) (by decide) (hw.1.2.2.2.1 _ (by omega) (by omega)).1 rfl ?_
  refine w_iload_n rfl rfl rfl ?_
  refine w_zi2l rfl rfl ?_
  refine w_l_ne (pc2 := 19) (pc3 := 15) rfl rfl (by decide) rfl (fun c12 => ?_) (fun c12 => ?_)
  · skip
    refine w_iconst rfl rfl ?_
    refine w_istore_n rfl (by decide) rfl ?_
    refine w_aload_n rfl rfl rfl ?_
    refine w_dup rfl rfl rfl ?_
    refine w_getI (z := a) rfl rfl sh_234 rfl hw.2.2.1 rfl ?_
    refine w_iload_n rfl rfl rfl ?_
    refine w_if_eq (pc2 := 34) (pc3 := 30) rfl (by decide) rfl ⟨by decide, by decide⟩ (fun _ => ?_) (fun hc => absurd hc (by decide))
    refine w_iconst rfl rfl ?_
    refine w_iadd rfl rfl ?_
    refine w_putf rfl rfl sh_234 rfl rfl (by decide) rfl ?_
    refine w_iload_n rfl rfl rfl ?_
    refine w_zret rfl rfl (by decide) ?_
    refine ⟨rfl, (fr_v (fr_refl _ _) (by omega)), ?_⟩
    have := PW_at hw ha0 ha1
    rw [show a + 0 = a by omega]
    exact this
  · exact absurd c12 hY
theorem c_ist_c {sc : x_S} {d : Nat} {S : w_S} {nn : Int} {Y : Int → Int64} {D : List Dcl} {a : Int} {M : List Nd} {i : Int} (hw : PW S nn Y D a M) (i0 : 0 ≤ i) (i9 : i ≤ 1000) (hd : 0 ≤ d) : ∀ n : Nat, (∀ (k : Int) (E : List Dcl) (lv : x_L) (l0 : lv 0 = some (.ref 234)) (l1 : lv 1 = some (.int (iZ i))) (l2 : lv 2 = some (.int (iZ k))) (hi : i < nn) (h4 : wk (Y i) = 4) (hk : k = (E.length : Int) - 1) (hE : drep (sL S 241) (sA S 242) E) (h1 : E.length ≤ 100) (he : dlk D (Y i) = dlk E (Y i)) (hm : E.length < n), w_T sc d 44 49 lv [] S (fun v S2 => v = some (.int (iZ (zB (isT D (Y i))))) ∧ S2 = S)) := by
  intro n
  induction n with
  | zero => exact fun k E lv l0 l1 l2 hi h4 hk hE h1 he hm => absurd hm (Nat.not_lt_zero _)
  | succ n ih =>
    intro k E lv l0 l1 l2 hi h4 hk hE h1 he hm
    have hnn := hw.1.1
    have hn1 := hw.1.2.1
    have ha0 := hw.2.2.2.2.1
    have ha1 := hw.2.2.2.2.2
    have hD := hw.2.1
    refine w_iload_n rfl l2 rfl ?_
    refine w_if_lt (pc2 := 82) (pc3 := 53) rfl (by decide) rfl ⟨by omega, by omega⟩ (fun c50 => ?_) (fun c50 => ?_)
    · skip
      refine w_iconst rfl rfl ?_
      refine w_zret rfl rfl (by decide) ?_
      refine q_i ?_
      unfold isT
      rw [if_pos h4, he]
      have : E = [] := List.length_eq_zero_iff.1 (by omega)
      rw [this]
      rfl
    · skip
      obtain ⟨c, r, rfl⟩ : ∃ c r, E = c :: r := by
        cases E with
        | nil => exfalso; rw [List.length_nil] at hk; omega
        | cons c r => exact ⟨c, r, rfl⟩
      have ek : k = (r.length : Int) := by rw [List.length_cons] at hk; omega
      have hE1 : sL S 241 k = c.1 := by rw [ek]; exact hE.1
      have hE2 : sA S 242 k = zB c.2 := by rw [ek]; exact hE.2.1
      rw [List.length_cons] at h1
      refine w_aload_n rfl l0 rfl ?_
      refine w_getR rfl rfl sh_234 rfl rfl ?_
      refine w_iload_n rfl l2 rfl ?_
      refine w_lald (z := c.1) rfl sh_241 (by omega) (by omega) (by decide) hE1 rfl ?_
      refine w_aload_n rfl l0 rfl ?_
      refine w_getR rfl rfl sh_234 rfl rfl ?_
      refine w_iload_n rfl l1 rfl ?_
      refine w_lald (z := Y i) rfl sh_239 (by omega) (by omega) (by decide) (hw.1.2.2.2.1 _ (by omega) (by omega)).1 rfl ?_
      refine w_l_ne (pc2 := 76) (pc3 := 69) rfl rfl (by decide) rfl (fun c66 => ?_) (fun c66 => ?_)
      · skip
        refine w_iinc rfl l2 (by decide) rfl ?_
        refine w_goto (pc2 := 49) rfl (by decide) ?_
        exact ih (k + (-1)) r _ (by exact l0) (by exact (congrArg x_k2 l1)) (by exact rfl) (by omega) (by exact h4) (by rw [List.length_cons] at hk; omega) (by exact hE.2.2) (by omega) (by rw [he]; show (if _ then _ else _) = _; rw [if_neg c66]) (by omega)
      · skip
        refine w_aload_n rfl l0 rfl ?_
        refine w_getR rfl rfl sh_234 rfl rfl ?_
        refine w_iload_n rfl l2 rfl ?_
        refine w_bald (z := zB c.2) rfl sh_242 (by omega) (by omega) (by decide) hE2 rfl ?_
        refine w_bret rfl rfl ?_
        refine q_i ?_
        unfold isT
        rw [if_pos h4, he]
        show _ = zB (if c.1 = Y i then c.2 else dlk r (Y i))
        rw [if_pos c66]
theorem c_ist {sc : x_S} {d : Nat} {S : w_S} {nn : Int} {Y : Int → Int64} {D : List Dcl} {a : Int} {M : List Nd} {i : Int} (hw : PW S nn Y D a M) (i0 : 0 ≤ i) (i9 : i ≤ 1000) (hd : 0 ≤ d) : w_T sc d 44 0 (x_en 0 [.ref 234, .int (iZ i)]) [] S (fun v S2 => v = some (.int (iZ (zB (isT D (Y i))))) ∧ S2 = S) := by
  have hnn := hw.1.1
  have hn1 := hw.1.2.1
  have ha0 := hw.2.2.2.2.1
  have ha1 := hw.2.2.2.2.2
  have hwr := wk_r (Y i)
  have hD := hw.2.1
  refine w_iload_n rfl rfl rfl ?_
  refine w_aload_n rfl rfl rfl ?_
  refine w_getI (z := nn) rfl rfl sh_234 rfl hw.1.2.2.1 rfl ?_
  refine w_ic_ge (pc2 := 18) (pc3 := 8) rfl (by decide) rfl ⟨by omega, by omega⟩ ⟨by omega, by omega⟩ (fun c5 => ?_) (fun c5 => ?_)
  · skip
    refine w_iload_n rfl rfl rfl ?_
    refine w_aload_n rfl rfl rfl ?_
    refine w_getI (z := nn) rfl rfl sh_234 rfl hw.1.2.2.1 rfl ?_
    refine w_ic_ge (pc2 := 40) (pc3 := 26) rfl (by decide) rfl ⟨by omega, by omega⟩ ⟨by omega, by omega⟩ (fun c23 => ?_) (fun c23 => ?_)
    · skip
      refine w_iconst rfl rfl ?_
      refine w_zret rfl rfl (by decide) ?_
      refine q_i ?_
      unfold isT
      first
        | (rw [if_neg (by first | exact c15 | (rw [hw.1.2.2.2.2.2 i (by omega), wk_0]; decide)), decide_eq_true c33]; done)
        | (rw [if_neg (by first | exact c15 | (rw [hw.1.2.2.2.2.2 i (by omega), wk_0]; decide)), decide_eq_false (by first | exact c33 | (rw [hw.1.2.2.2.2.2 i (by omega), wk_0]; decide))]; rfl)
        | (rw [if_neg (by first | exact c15 | (rw [hw.1.2.2.2.2.2 i (by omega), wk_0]; decide)), decide_eq_true c33]; rfl)
    · skip
      refine w_aload_n rfl rfl rfl ?_
      refine w_getR rfl rfl sh_234 rfl rfl ?_
      refine w_iload_n rfl rfl rfl ?_
      refine w_iald (z := wk (Y i)) rfl sh_240 (by omega) (by omega) (by decide) (hw.1.2.2.2.1 _ (by omega) (by omega)).2 rfl ?_
      refine w_iconst rfl rfl ?_
      refine w_ic_ne (pc2 := 40) (pc3 := 36) rfl (by decide) rfl ⟨by omega, by omega⟩ ⟨by decide, by decide⟩ (fun c33 => ?_) (fun c33 => ?_)
      · skip
        refine w_iconst rfl rfl ?_
        refine w_zret rfl rfl (by decide) ?_
        refine q_i ?_
        unfold isT
        first
          | (rw [if_neg (by first | exact c15 | (rw [hw.1.2.2.2.2.2 i (by omega), wk_0]; decide)), decide_eq_true c33]; done)
          | (rw [if_neg (by first | exact c15 | (rw [hw.1.2.2.2.2.2 i (by omega), wk_0]; decide)), decide_eq_false (by first | exact c33 | (rw [hw.1.2.2.2.2.2 i (by omega), wk_0]; decide))]; rfl)
          | (rw [if_neg (by first | exact c15 | (rw [hw.1.2.2.2.2.2 i (by omega), wk_0]; decide)), decide_eq_true c33]; rfl)
      · skip
        refine w_iconst rfl rfl ?_
        refine w_goto (pc2 := 41) rfl (by decide) ?_
        refine w_zret rfl rfl (by decide) ?_
        refine q_i ?_
        unfold isT
        first
          | (rw [if_neg (by first | exact c15 | (rw [hw.1.2.2.2.2.2 i (by omega), wk_0]; decide)), decide_eq_true c33]; done)
          | (rw [if_neg (by first | exact c15 | (rw [hw.1.2.2.2.2.2 i (by omega), wk_0]; decide)), decide_eq_false (by first | exact c33 | (rw [hw.1.2.2.2.2.2 i (by omega), wk_0]; decide))]; rfl)
          | (rw [if_neg (by first | exact c15 | (rw [hw.1.2.2.2.2.2 i (by omega), wk_0]; decide)), decide_eq_true c33]; rfl)
  · skip
    refine w_aload_n rfl rfl rfl ?_
    refine w_getR rfl rfl sh_234 rfl rfl ?_
    refine w_iload_n rfl rfl rfl ?_
    refine w_iald (z := wk (Y i)) rfl sh_240 (by omega) (by omega) (by decide) (hw.1.2.2.2.1 _ (by omega) (by omega)).2 rfl ?_
    refine w_iconst rfl rfl ?_
    refine w_ic_eq (pc2 := 42) (pc3 := 18) rfl (by decide) rfl ⟨by omega, by omega⟩ ⟨by decide, by decide⟩ (fun c15 => ?_) (fun c15 => ?_)
    · skip
      refine w_aload_n rfl rfl rfl ?_
      refine w_getI (z := (D.length : Int)) rfl rfl sh_234 rfl hw.2.1.1 rfl ?_
      refine w_iconst rfl rfl ?_
      refine w_isub rfl rfl ?_
      refine w_istore_n rfl (by decide) rfl ?_
      exact (c_ist_c hw i0 i9 hd _) (((D.length : Int)) - 1) D _ rfl rfl rfl (by omega) (by exact c15) (by rfl) (by exact hD.2.2) (by exact hD.2.1) (by rfl) (Nat.lt_succ_self _)
    · skip
      refine w_iload_n rfl rfl rfl ?_
      refine w_aload_n rfl rfl rfl ?_
      refine w_getI (z := nn) rfl rfl sh_234 rfl hw.1.2.2.1 rfl ?_
      refine w_ic_ge (pc2 := 40) (pc3 := 26) rfl (by decide) rfl ⟨by omega, by omega⟩ ⟨by omega, by omega⟩ (fun c23 => ?_) (fun c23 => ?_)
      · skip
        refine w_iconst rfl rfl ?_
        refine w_zret rfl rfl (by decide) ?_
        refine q_i ?_
        unfold isT
        first
          | (rw [if_neg (by first | exact c15 | (rw [hw.1.2.2.2.2.2 i (by omega), wk_0]; decide)), decide_eq_true c33]; done)
          | (rw [if_neg (by first | exact c15 | (rw [hw.1.2.2.2.2.2 i (by omega), wk_0]; decide)), decide_eq_false (by first | exact c33 | (rw [hw.1.2.2.2.2.2 i (by omega), wk_0]; decide))]; rfl)
          | (rw [if_neg (by first | exact c15 | (rw [hw.1.2.2.2.2.2 i (by omega), wk_0]; decide)), decide_eq_true c33]; rfl)
      · skip
        refine w_aload_n rfl rfl rfl ?_
        refine w_getR rfl rfl sh_234 rfl rfl ?_
        refine w_iload_n rfl rfl rfl ?_
        refine w_iald (z := wk (Y i)) rfl sh_240 (by omega) (by omega) (by decide) (hw.1.2.2.2.1 _ (by omega) (by omega)).2 rfl ?_
        refine w_iconst rfl rfl ?_
        refine w_ic_ne (pc2 := 40) (pc3 := 36) rfl (by decide) rfl ⟨by omega, by omega⟩ ⟨by decide, by decide⟩ (fun c33 => ?_) (fun c33 => ?_)
        · skip
          refine w_iconst rfl rfl ?_
          refine w_zret rfl rfl (by decide) ?_
          refine q_i ?_
          unfold isT
          first
            | (rw [if_neg (by first | exact c15 | (rw [hw.1.2.2.2.2.2 i (by omega), wk_0]; decide)), decide_eq_true c33]; done)
            | (rw [if_neg (by first | exact c15 | (rw [hw.1.2.2.2.2.2 i (by omega), wk_0]; decide)), decide_eq_false (by first | exact c33 | (rw [hw.1.2.2.2.2.2 i (by omega), wk_0]; decide))]; rfl)
            | (rw [if_neg (by first | exact c15 | (rw [hw.1.2.2.2.2.2 i (by omega), wk_0]; decide)), decide_eq_true c33]; rfl)
        · skip
          refine w_iconst rfl rfl ?_
          refine w_goto (pc2 := 41) rfl (by decide) ?_
          refine w_zret rfl rfl (by decide) ?_
          refine q_i ?_
          unfold isT
          first
            | (rw [if_neg (by first | exact c15 | (rw [hw.1.2.2.2.2.2 i (by omega), wk_0]; decide)), decide_eq_true c33]; done)
            | (rw [if_neg (by first | exact c15 | (rw [hw.1.2.2.2.2.2 i (by omega), wk_0]; decide)), decide_eq_false (by first | exact c33 | (rw [hw.1.2.2.2.2.2 i (by omega), wk_0]; decide))]; rfl)
            | (rw [if_neg (by first | exact c15 | (rw [hw.1.2.2.2.2.2 i (by omega), wk_0]; decide)), decide_eq_true c33]; rfl)
