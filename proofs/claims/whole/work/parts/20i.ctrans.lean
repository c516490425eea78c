/-! The class translates, whole. -/
def CRs (S : w_S) (R : Rst) : Prop := sv S 0 4 = R.1 ∧ sv S 30 2 = R.2.1.length ∧ ofn (sL S 31) (sA S 32) 256 0 R.2.1 ∧ sv S 3 2 = R.2.2.1 ∧ (∃ pi, ctab S pi R.2.2.2.1) ∧ trep S R.2.2.2.2
def FCT (a : Nat) : Prop := a = 0 ∨ FRN a ∨ (234 ≤ a ∧ a ≤ 242)
def CTp (S : w_S) (q : Prs) (v : Option Value) (S2 : w_S) : Prop := v = some (.int (iZ (vdq q))) ∧ fr FCT S S2 ∧ sv S2 0 3 = sv S 0 3 ∧ CRs S2 (rsq q)
theorem trep_0 {S : w_S} (h : sv S 235 3 = 0) : trep S [] := ⟨h, fun j j0 j1 => absurd j1 (by rw [List.length_nil]; omega)⟩
section CTL
variable {S V W : w_S} {q : Prs} {v : Option Value}
theorem CT_A (h : PRq S q v V) (hz : ¬ q.1 = 0) : CTp S q (some (.int (iZ q.1))) (w_v (w_v (w_v V 0 4 q.1) 30 2 0) 235 3 0) := by
  obtain ⟨h1, h2, ⟨pi, h3⟩, h4, h5⟩ := h
  have e1 : vdq q = q.1 := by unfold vdq; rw [if_pos hz]
  have e2 : okq q = [] := by unfold okq; rw [if_pos hz]
  have e3 : ndq q = [] := by unfold ndq; rw [e1, if_neg hz]
  have f : fr (fun a => a = 0 ∨ a = 30 ∨ a = 235) V (w_v (w_v (w_v V 0 4 q.1) 30 2 0) 235 3 0) := fr_v (fr_v (fr_v (fr_refl _ _) (Or.inl rfl)) (Or.inr (Or.inl rfl))) (Or.inr (Or.inr rfl))
  refine ⟨by rw [e1], fr_trans (fr_mono h2 (fun a h => Or.inr (Or.inl h))) (fr_mono f (fun a h => by unfold FCT FRN; omega)), ?_, ?_, ?_, ?_, ?_, ⟨pi, ctab_fr h3 f (fun a a0 a1 => by omega)⟩, ?_⟩
  · rw [rv_ne (by decide), rv_ne (by decide), rv_ne (by decide), fr_gv h2 (by unfold FRN; omega)]
  · show sv _ 0 4 = vdq q
    rw [e1, rv_ne (by decide), rv_ne (by decide)]
    exact rv_self _ _ _ _
  · show sv _ 30 2 = ((okq q).length : Int)
    rw [e2, rv_ne (by decide)]
    exact rv_self _ _ _ _
  · show ofn _ _ 256 0 (okq q)
    rw [e2]
    exact trivial
  · show sv _ 3 2 = q.2.2.1
    rw [rv_ne (by decide), rv_ne (by decide), rv_ne (by decide)]
    exact h4
  · show trep _ (ndq q)
    rw [e3]
    exact trep_0 (rv_self _ _ _ _)
theorem CT_B {c : Int} (h : PRq S q v V) (hz : q.1 = 0) (hc : vdq q = c) (f : fr (fun a => a = 0 ∨ (234 ≤ a ∧ a ≤ 242)) V W) (h3 : sv W 0 3 = sv V 0 3) (h4 : sv W 0 4 = c) (ht : trep W (ndq q)) : CTp S q (some (.int (iZ c))) W := by
  obtain ⟨g1, g2, ⟨pi, g3⟩, g4, g5⟩ := h
  have e2 : okq q = q.2.2.2 := by unfold okq; rw [if_neg (not_not_intro hz)]
  refine ⟨by rw [hc], fr_trans (fr_mono g2 (fun a h => Or.inr (Or.inl h))) (fr_mono f (fun a h => by unfold FCT; omega)), ?_, ?_, ?_, ?_, ?_, ⟨pi, ctab_fr g3 f (fun a a0 a1 => by omega)⟩, ht⟩
  · rw [h3, fr_gv g2 (by unfold FRN; omega)]
  · show sv _ 0 4 = vdq q
    rw [hc]
    exact h4
  · show sv _ 30 2 = ((okq q).length : Int)
    rw [e2, fr_gv f (by decide)]
    exact (g5 hz).1
  · show ofn _ _ 256 0 (okq q)
    rw [e2, fr_gL f (by decide), fr_gA f (by decide)]
    exact (g5 hz).2
  · show sv _ 3 2 = q.2.2.1
    rw [fr_gv f (by decide)]
    exact g4
end CTL
theorem c_isfl {sc : x_S} {d : Nat} {S : w_S} {f : Int} (hr : -2147483648 ≤ f ∧ f < 2147483648) (hd : 0 ≤ d) : w_T sc d 15 0 (x_en 0 [.int (iZ f)]) [] S (fun v S2 => v = some (.int (iZ (zB (decide (0 ≤ f ∧ f < 3))))) ∧ S2 = S) := by
  refine w_iload_n rfl rfl rfl ?_
  apply w_jn (A := w_T _ _ 15 14 _ [.int (iZ (zB (decide (0 ≤ f ∧ f < 3))))] _ _)
  · intro kT
    refine w_if_lt (pc2 := 13) (pc3 := 4) rfl (by decide) rfl ⟨by omega, by omega⟩ (fun q1 => ?_) (fun q1 => ?_)
    · skip
      refine w_iconst rfl rfl ?_
      exact w_j0 (p := 0 ≤ f ∧ f < 3) (fun q => (Int.not_le.mpr q1) q.1) kT
    · skip
      refine w_iload_n rfl rfl rfl ?_
      refine w_iconst rfl rfl ?_
      refine w_ic_ge (pc2 := 13) (pc3 := 9) rfl (by decide) rfl ⟨by omega, by omega⟩ ⟨by decide, by decide⟩ (fun q2 => ?_) (fun q2 => ?_)
      · skip
        refine w_iconst rfl rfl ?_
        exact w_j0 (p := 0 ≤ f ∧ f < 3) (fun q => (Int.not_lt.mpr q2) q.2) kT
      · skip
        refine w_iconst rfl rfl ?_
        refine w_goto (pc2 := 14) rfl (by decide) ?_
        exact w_j1 (p := 0 ≤ f ∧ f < 3) ⟨q1, q2⟩ kT
  · show w_T _ _ 15 14 _ [.int (iZ (zB (decide (0 ≤ f ∧ f < 3))))] _ _
    refine w_bret rfl rfl ?_
    refine q_b ?_
    exact decide_eq_decide.2 (by constructor <;> (intro z; omega))
theorem c_trans {sc : x_S} {d : Nat} {S : w_S} {F : Int → (Int → Int) × Int} {f : Int} (hF : Fok F) (hI : CIv S F) (f0 : 0 ≤ f) (f2 : f ≤ 2) (hd : 330 ≤ d) : w_T sc d 6 0 (x_en 0 [.ref 0, .int (iZ f)]) [] S (CTp S (pall F f)) := by
  refine w_iload_n rfl rfl rfl ?_
  refine w_CS (as := [.int (iZ f)]) (r := []) rfl rfl rfl rfl (Nat.le_of_ble_eq_true rfl) (Nat.le_of_ble_eq_true rfl) (by omega) rfl (c_isfl (f := f) (by omega) (by omega)) ?_
  rintro _ _ ⟨rfl, hS⟩
  rw [hS]
  show w_T _ _ 6 4 _ [.int (iZ (zB (decide (0 ≤ f ∧ f < 3))))] _ _
  refine w_b_ne (pc2 := 9) (pc3 := 7) rfl (by decide) rfl (fun c4 => ?_) (fun c4 => ?_)
  · skip
    refine w_aload_n rfl rfl rfl ?_
    refine w_aload_n rfl rfl rfl ?_
    refine w_getR rfl rfl sh_0 rfl rfl ?_
    refine w_aload_n rfl rfl rfl ?_
    refine w_getR rfl rfl sh_0 rfl rfl ?_
    refine w_iload_n rfl rfl rfl ?_
    refine w_CV (as := [.ref 1, .int (iZ f)]) (r := [.ref 0]) rfl rfl rfl rfl sh_2 (Nat.le_of_ble_eq_true rfl) (Nat.le_of_ble_eq_true rfl) (by omega) rfl (w_mono (c_run hF hI f0 f2 (by omega)) (fun v S2 h => (⟨h.1, h⟩ : v = some (.int (iZ (pall F f).1)) ∧ PRq S (pall F f) v S2))) ?_
    rintro _ V ⟨rfl, hPR⟩
    show w_T _ _ 6 22 _ [.int (iZ ((pall F f).1)), .ref 0] _ _
    have hO := pall_ok hF f0 f2
    have ho0 := hO.1
    have ho1 := hO.2.1
    refine w_putf rfl rfl sh_0 rfl rfl (by decide) rfl ?_
    refine w_aload_n rfl rfl rfl ?_
    refine w_getI (z := (pall F f).1) rfl rfl sh_0 rfl (rv_self _ _ _ _) rfl ?_
    refine w_if_ne (pc2 := 56) (pc3 := 32) rfl (by decide) rfl ⟨by omega, by omega⟩ (fun c29 => ?_) (fun c29 => ?_)
    · skip
      refine w_aload_n rfl rfl rfl ?_
      refine w_getR rfl rfl sh_0 rfl rfl ?_
      refine w_getR rfl rfl sh_2 rfl rfl ?_
      refine w_getR rfl rfl sh_3 rfl rfl ?_
      refine w_iconst rfl rfl ?_
      refine w_putf rfl rfl sh_30 rfl rfl (by decide) rfl ?_
      refine w_aload_n rfl rfl rfl ?_
      refine w_getR rfl rfl sh_0 rfl rfl ?_
      refine w_getR rfl rfl sh_234 rfl rfl ?_
      refine w_iconst rfl rfl ?_
      refine w_putf rfl rfl sh_235 rfl rfl (by decide) rfl ?_
      refine w_aload_n rfl rfl rfl ?_
      refine w_getI (z := (pall F f).1) rfl rfl sh_0 rfl ((rv_ne (by decide)).trans ((rv_ne (by decide)).trans (rv_self _ _ _ _))) rfl ?_
      refine w_iret rfl rfl ?_
      exact CT_A hPR c29
    · skip
      refine w_aload_n rfl rfl rfl ?_
      refine w_aload_n rfl rfl rfl ?_
      refine w_getR rfl rfl sh_0 rfl rfl ?_
      refine w_aload_n rfl rfl rfl ?_
      refine w_getR rfl rfl sh_0 rfl rfl ?_
      refine w_getR rfl rfl sh_2 rfl rfl ?_
      refine w_getR rfl rfl sh_3 rfl rfl ?_
      refine w_CV (as := [.ref 30]) (r := [.ref 0]) rfl rfl rfl rfl sh_234 (Nat.le_of_ble_eq_true rfl) (Nat.le_of_ble_eq_true rfl) (by omega) rfl (c_prs (S := (w_v V 0 4 ((pall F f).1))) (ol := (pall F f).2.2.2) (by rw [rv_ne (by decide)]; exact (hPR.2.2.2.2 c29).1) (hO.2.2.2.2.2 c29).2 (hO.2.2.2.2.2 c29).1 (hPR.2.2.2.2 c29).2 (by omega)) ?_
      rintro _ W ⟨rfl, hf2, hn2, ht2⟩
      show w_T _ _ 6 50 _ [.int (iZ (prc (yw (pall F f).2.2.2) ((pall F f).2.2.2.length : Int))), .ref 0] _ _
      refine w_putf rfl rfl sh_0 rfl rfl (by decide) rfl ?_
      refine w_goto (pc2 := 81) rfl (by decide) ?_
      refine w_aload_n rfl rfl rfl ?_
      refine w_getI (z := prc (yw (pall F f).2.2.2) ((pall F f).2.2.2.length : Int)) rfl rfl sh_0 rfl (rv_self _ _ _ _) rfl ?_
      refine w_iret rfl rfl ?_
      have hv9 : vdq (pall F f) = prc (yw (pall F f).2.2.2) ((pall F f).2.2.2.length : Int) := vdq_0 c29
      refine CT_B hPR c29 hv9 (fr_v (fr_trans (fr_v (fr_refl _ _) (Or.inl rfl)) (fr_mono hf2 (fun a h => Or.inr h))) (Or.inl rfl)) ?_ (rv_self _ _ _ _) ?_
      · rw [rv_ne (by decide), fr_gv hf2 (by decide), rv_ne (by decide)]
      · have fW : fr (fun a => a = 0) W (w_v W 0 4 (prc (yw (pall F f).2.2.2) ((pall F f).2.2.2.length : Int))) := fr_v (fr_refl _ _) rfl
        unfold ndq
        rw [hv9]
        by_cases z : prc (yw (pall F f).2.2.2) ((pall F f).2.2.2.length : Int) = 0
        · rw [if_pos z]
          exact trep_fr (ht2 z) fW (fun a a0 a1 => by omega)
        · rw [if_neg z]
          exact trep_0 (by rw [rv_ne (by decide)]; exact hn2 z)
  · exfalso; have := of_decide_eq_false c4; omega
theorem c_transn {sc : x_S} {d : Nat} {S : w_S} {f : Int} (hf : f < 0 ∨ 2 < f) (hr : -2147483648 ≤ f ∧ f < 2147483648) (hd : 5 ≤ d) : w_T sc d 6 0 (x_en 0 [.ref 0, .int (iZ f)]) [] S (fun v S2 => v = some (.int (iZ (-1))) ∧ S2 = S) := by
  refine w_iload_n rfl rfl rfl ?_
  refine w_CS (as := [.int (iZ f)]) (r := []) rfl rfl rfl rfl (Nat.le_of_ble_eq_true rfl) (Nat.le_of_ble_eq_true rfl) (by omega) rfl (c_isfl (f := f) (by omega) (by omega)) ?_
  rintro _ _ ⟨rfl, hS⟩
  rw [hS]
  show w_T _ _ 6 4 _ [.int (iZ (zB (decide (0 ≤ f ∧ f < 3))))] _ _
  refine w_b_ne (pc2 := 9) (pc3 := 7) rfl (by decide) rfl (fun c4 => ?_) (fun c4 => ?_)
  · exfalso; have := of_decide_eq_true c4; omega
  · skip
    refine w_iconst rfl rfl ?_
    refine w_iret rfl rfl ?_
    exact ⟨rfl, rfl⟩
