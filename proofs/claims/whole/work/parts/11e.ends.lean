/-! The reference ends an argument. -/
theorem seg_snoc {nm : Nat → Int64} {X : Int → Int64} {O : Int → Int} {R R2 : Int → Int} {a : List ETok} : ∀ (os : List (List ETok)) (b : Int), seg nm X O R b os → fw nm X O (R (b + os.length)) a → (∀ j, j ≤ b + os.length → R2 j = R j) → R2 (b + os.length + 1) = R (b + os.length) + a.length → seg nm X O R2 b (os ++ [a])
  | [], b, _, h2, h3, h4 => by
    rw [List.length_nil, show b + ((0 : Nat) : Int) = b by omega] at h2 h3 h4
    have e := h3 b (Int.le_refl b)
    exact ⟨by rw [e]; exact h2, by rw [e]; exact h4, trivial⟩
  | x :: os, b, h1, h2, h3, h4 => by
    rw [List.length_cons, show b + ((os.length + 1 : Nat) : Int) = b + 1 + (os.length : Int) by omega] at h2 h3 h4
    have e := h3 b (by omega)
    have e1 := h3 (b + 1) (by omega)
    refine ⟨by rw [e]; exact h1.1, by rw [e, e1]; exact h1.2.1, seg_snoc os (b + 1) h1.2.2 h2 h3 h4⟩
theorem seg_cong {nm : Nat → Int64} {X Y : Int → Int64} {O Q : Int → Int} {R R2 : Int → Int} : ∀ (as : List (List ETok)) (b : Int), seg nm X O R b as → (∀ j, b ≤ j → j ≤ b + as.length → R2 j = R j) → (∀ j, R b ≤ j → j < R (b + as.length) → Y j = X j ∧ Q j = O j) → seg nm Y Q R2 b as
  | [], b, _, _, _ => trivial
  | a :: as, b, h, h2, h3 => by
    rw [List.length_cons, show b + ((as.length + 1 : Nat) : Int) = b + 1 + (as.length : Int) by omega] at h2 h3
    have q := seg_n as (b + 1) as.length h.2.2 (Nat.le_refl _)
    have q1 := h.2.1
    have e := h2 b (Int.le_refl b) (by omega)
    have e1 := h2 (b + 1) (by omega) (by omega)
    refine ⟨by rw [e]; exact fw_fr a _ (fun j p r => h3 j p (by omega)) h.1, by rw [e, e1]; exact q1, seg_cong as (b + 1) h.2.2 (fun j p r => h2 j (by omega) r) (fun j p r => h3 j (by omega) r)⟩
def aeS (S : w_S) (i n : Int) : w_S := w_A (w_A (w_v S 249 46 i) 282 (w_u (sA S 282) i (n + 1))) 284 (w_u (sA S 284) (4 * i + (n + 1)) (sv S 249 32))
theorem r_ae {sc : x_S} {d : Nat} {S : w_S} {nm : Nat → Int64} {i m : Int} {e : Mac} {t c : ETok} {as os : List (List ETok)} {ou : List ETok} (hi : sv S 249 46 = i + 1) (i0 : 0 ≤ i) (i1 : i < 31) (hL : LRp nm S i m e t c as os) (hS0 : LSp nm m e t as) (hol : os.length < e.2.2.1.length) (ho4 : ∀ k, (os.getD k []).length ≤ 40) (hlo : lall os) (hgo : ∀ a, a ∈ os → lgw a) (c0 : 0 ≤ sv S 249 29) (c1 : sv S 249 29 ≤ 1321) (hg1 : sA S 284 (4 * i + os.length) = sA S 278 (i + 1)) (hg2 : sv S 249 32 = sA S 278 (i + 1) + ou.length) (hg3 : 0 ≤ sA S 278 (i + 1)) (hg4 : sv S 249 32 ≤ 2561) (hou : fw nm (sL S 271) (sA S 272) (sA S 278 (i + 1)) ou) (hok : loks ou) (hgk : lgw ou) (hd : 5 ≤ d) : w_T sc d 141 0 (x_en 0 [.ref 249]) [] S (fun v S2 => (40 < (ou.length : Int) → v = some (.int (iZ 7)) ∧ S2 = S) ∧ ((ou.length : Int) ≤ 40 → (((os ++ [ou]).length : Int) < rtk e → PUSHp nm (aeS S i os.length) i (as.getD (os ++ [ou]).length []) v S2) ∧ (rtk e ≤ (os ++ [ou]).length → RPp nm (aeS S i os.length) i e t c as (os ++ [ou]) v S2))) := by
  have h3 := hS0.2.2.1.1
  have e282 : sA S 282 i = os.length := hL.2.2.2.2.2.2.2.2.2.2
  have hoc := hL.2.2.2.2.2.2.2.2.2.1
  have hu2 : sA S 278 (sv S 249 46) = sA S 278 (i + 1) := by rw [hi]
  refine w_aload_n rfl rfl rfl ?_
  refine w_getI (z := sv S 249 32) rfl rfl sh_249 rfl rfl rfl ?_
  refine w_aload_n rfl rfl rfl ?_
  refine w_getR rfl rfl sh_249 rfl rfl ?_
  refine w_aload_n rfl rfl rfl ?_
  refine w_getI (z := sv S 249 46) rfl rfl sh_249 rfl rfl rfl ?_
  refine w_iald (z := sA S 278 (sv S 249 46)) rfl sh_278 (by omega) (by omega) (by decide) rfl rfl ?_
  refine w_isub rfl rfl ?_
  refine w_bipush rfl (by decide) rfl ?_
  refine w_ic_le (pc2 := 22) (pc3 := 19) rfl (by decide) rfl ⟨by omega, by omega⟩ ⟨by decide, by decide⟩ (fun c16 => ?_) (fun c16 => ?_)
  · skip
    refine w_aload_n rfl rfl rfl ?_
    refine w_dup rfl rfl rfl ?_
    refine w_getI (z := sv S 249 46) rfl rfl sh_249 rfl rfl rfl ?_
    refine w_iconst rfl rfl ?_
    refine w_isub rfl rfl ?_
    rw [hi, show i + 1 - 1 = i by omega]
    refine w_putf rfl rfl sh_249 rfl rfl (by decide) rfl ?_
    refine w_aload_n rfl rfl rfl ?_
    refine w_getR rfl rfl sh_249 rfl rfl ?_
    refine w_aload_n rfl rfl rfl ?_
    refine w_getI (z := i) rfl rfl sh_249 rfl (rv_self _ _ _ _) rfl ?_
    refine w_dup2 rfl rfl rfl rfl ?_
    refine w_iald (z := sA S 282 i) rfl sh_282 (by omega) (by omega) (by decide) rfl rfl ?_
    refine w_iconst rfl rfl ?_
    refine w_iadd rfl rfl ?_
    rw [e282]
    refine w_iaS (f := sA S 282) rfl sh_282 (by omega) (by omega) (by decide) rfl rfl ?_
    refine w_aload_n rfl rfl rfl ?_
    refine w_getR rfl rfl sh_249 rfl rfl ?_
    refine w_iconst rfl rfl ?_
    refine w_aload_n rfl rfl rfl ?_
    refine w_getI (z := i) rfl rfl sh_249 rfl (rv_self S 249 46 i) rfl ?_
    refine w_imul rfl rfl ?_
    refine w_aload_n rfl rfl rfl ?_
    refine w_getR rfl rfl sh_249 rfl rfl ?_
    refine w_aload_n rfl rfl rfl ?_
    refine w_getI (z := i) rfl rfl sh_249 rfl (rv_self S 249 46 i) rfl ?_
    refine w_iald (z := (w_u (sA S 282) i (os.length + 1)) i) rfl sh_282 (by omega) (by omega) (by decide) (congrFun (rA_self _ _ _) _) rfl ?_
    rw [w_u_self]
    refine w_iadd rfl rfl ?_
    refine w_aload_n rfl rfl rfl ?_
    refine w_getI (z := sv S 249 32) rfl rfl sh_249 rfl (rv_ne (S := S) (a := 249) (k := 46) (z := i) (b := 249) (j := 32) (by decide)) rfl ?_
    refine w_iaS (f := sA S 284) rfl sh_284 (by omega) (by omega) (by decide) (rA_ne (by decide)) rfl ?_
    have hst : w_T sc (d - 1) 140 0 (x_en 0 [.ref 249]) [] (aeS S i os.length) (fun v S2 => (((os ++ [ou]).length : Int) < rtk e → PUSHp nm (aeS S i os.length) i (as.getD (os ++ [ou]).length []) v S2) ∧ (rtk e ≤ (os ++ [ou]).length → RPp nm (aeS S i os.length) i e t c as (os ++ [ou]) v S2)) := by
      refine r_beg (m := m) (by unfold aeS; simp (disch := omega) only [rv_self, rv_ne, rl_self, rl_ne, rA_self, rA_ne, rL_self, rL_ne, rR_self, rR_ne, xvl, xvA, xvL, xvR, xlv, xlA, xlL, xlR, xAv, xAl, xAL, xAR, xLv, xLl, xLA, xLR, xRv, xRl, xRA, xRL]) i0 i1 ?_ hS0 (by rw [List.length_append]; simp only [List.length_cons, List.length_nil]; omega) ?_ ?_ ?_ (by unfold aeS; simp (disch := omega) only [rv_self, rv_ne, rl_self, rl_ne, rA_self, rA_ne, rL_self, rL_ne, rR_self, rR_ne, xvl, xvA, xvL, xvR, xlv, xlA, xlL, xlR, xAv, xAl, xAL, xAR, xLv, xLl, xLA, xLR, xRv, xRl, xRA, xRL]; omega) (by unfold aeS; simp (disch := omega) only [rv_self, rv_ne, rl_self, rl_ne, rA_self, rA_ne, rL_self, rL_ne, rR_self, rR_ne, xvl, xvA, xvL, xvR, xlv, xlA, xlL, xlR, xAv, xAl, xAL, xAR, xLv, xLl, xLA, xLR, xRv, xRl, xRA, xRL]; omega) (by omega)
      · obtain ⟨k1, k2, k3, k4, k5, k6, k7, k8, k9, k10, k11⟩ := hL
        unfold aeS
        refine ⟨by simp (disch := omega) only [rv_self, rv_ne, rl_self, rl_ne, rA_self, rA_ne, rL_self, rL_ne, rR_self, rR_ne, xvl, xvA, xvL, xvR, xlv, xlA, xlL, xlR, xAv, xAl, xAL, xAR, xLv, xLl, xLA, xLR, xRv, xRl, xRA, xRL]; exact k1, ?_, by simp (disch := omega) only [rv_self, rv_ne, rl_self, rl_ne, rA_self, rA_ne, rL_self, rL_ne, rR_self, rR_ne, xvl, xvA, xvL, xvR, xlv, xlA, xlL, xlR, xAv, xAl, xAL, xAR, xLv, xLl, xLA, xLR, xRv, xRl, xRA, xRL]; exact k3, by simp (disch := omega) only [rv_self, rv_ne, rl_self, rl_ne, rA_self, rA_ne, rL_self, rL_ne, rR_self, rR_ne, xvl, xvA, xvL, xvR, xlv, xlA, xlL, xlR, xAv, xAl, xAL, xAR, xLv, xLl, xLA, xLR, xRv, xRl, xRA, xRL]; exact k4, by simp (disch := omega) only [rv_self, rv_ne, rl_self, rl_ne, rA_self, rA_ne, rL_self, rL_ne, rR_self, rR_ne, xvl, xvA, xvL, xvR, xlv, xlA, xlL, xlR, xAv, xAl, xAL, xAR, xLv, xLl, xLA, xLR, xRv, xRl, xRA, xRL]; exact k5, ?_, by simp (disch := omega) only [rv_self, rv_ne, rl_self, rl_ne, rA_self, rA_ne, rL_self, rL_ne, rR_self, rR_ne, xvl, xvA, xvL, xvR, xlv, xlA, xlL, xlR, xAv, xAl, xAL, xAR, xLv, xLl, xLA, xLR, xRv, xRl, xRA, xRL]; exact k7, by simp (disch := omega) only [rv_self, rv_ne, rl_self, rl_ne, rA_self, rA_ne, rL_self, rL_ne, rR_self, rR_ne, xvl, xvA, xvL, xvR, xlv, xlA, xlL, xlR, xAv, xAl, xAL, xAR, xLv, xLl, xLA, xLR, xRv, xRl, xRA, xRL]; exact k8, ?_, ?_, ?_⟩
        · exact ⟨by simp (disch := omega) only [rv_self, rv_ne, rl_self, rl_ne, rA_self, rA_ne, rL_self, rL_ne, rR_self, rR_ne, xvl, xvA, xvL, xvR, xlv, xlA, xlL, xlR, xAv, xAl, xAL, xAR, xLv, xLl, xLA, xLR, xRv, xRl, xRA, xRL]; exact k2.1, by simp (disch := omega) only [rv_self, rv_ne, rl_self, rl_ne, rA_self, rA_ne, rL_self, rL_ne, rR_self, rR_ne, xvl, xvA, xvL, xvR, xlv, xlA, xlL, xlR, xAv, xAl, xAL, xAR, xLv, xLl, xLA, xLR, xRv, xRl, xRA, xRL]; exact k2.2.1, by simp (disch := omega) only [rv_self, rv_ne, rl_self, rl_ne, rA_self, rA_ne, rL_self, rL_ne, rR_self, rR_ne, xvl, xvA, xvL, xvR, xlv, xlA, xlL, xlR, xAv, xAl, xAL, xAR, xLv, xLl, xLA, xLR, xRv, xRl, xRA, xRL]; exact k2.2.2.1, by simp (disch := omega) only [rv_self, rv_ne, rl_self, rl_ne, rA_self, rA_ne, rL_self, rL_ne, rR_self, rR_ne, xvl, xvA, xvL, xvR, xlv, xlA, xlL, xlR, xAv, xAl, xAL, xAR, xLv, xLl, xLA, xLR, xRv, xRl, xRA, xRL]; exact k2.2.2.2.1, by simp (disch := omega) only [rv_self, rv_ne, rl_self, rl_ne, rA_self, rA_ne, rL_self, rL_ne, rR_self, rR_ne, xvl, xvA, xvL, xvR, xlv, xlA, xlL, xlR, xAv, xAl, xAL, xAR, xLv, xLl, xLA, xLR, xRv, xRl, xRA, xRL]; exact k2.2.2.2.2⟩
        · simp (disch := omega) only [rv_self, rv_ne, rl_self, rl_ne, rA_self, rA_ne, rL_self, rL_ne, rR_self, rR_ne, xvl, xvA, xvL, xvR, xlv, xlA, xlL, xlR, xAv, xAl, xAL, xAR, xLv, xLl, xLA, xLR, xRv, xRl, xRA, xRL]
          refine seg_snoc os (4 * i) k6 (by rw [hg1]; exact hou) (fun j hj => w_u_ne _ _ (by omega)) ?_
          rw [show 4 * i + (os.length : Int) + 1 = 4 * i + ((os.length : Int) + 1) by omega, w_u_self, hg1]
          exact hg2
        · simp (disch := omega) only [rv_self, rv_ne, rl_self, rl_ne, rA_self, rA_ne, rL_self, rL_ne, rR_self, rR_ne, xvl, xvA, xvL, xvR, xlv, xlA, xlL, xlR, xAv, xAl, xAL, xAR, xLv, xLl, xLA, xLR, xRv, xRl, xRA, xRL]
          rw [w_u_ne _ _ (by omega)]
          exact k9
        · simp (disch := omega) only [rv_self, rv_ne, rl_self, rl_ne, rA_self, rA_ne, rL_self, rL_ne, rR_self, rR_ne, xvl, xvA, xvL, xvR, xlv, xlA, xlL, xlR, xAv, xAl, xAL, xAR, xLv, xLl, xLA, xLR, xRv, xRl, xRA, xRL]
          rw [List.length_append, show (4 * i + ((os.length + [ou].length : Nat) : Int)) = 4 * i + ((os.length : Int) + 1) by simp only [List.length_cons, List.length_nil]; omega, w_u_self]
          exact hg4
        · simp (disch := omega) only [rv_self, rv_ne, rl_self, rl_ne, rA_self, rA_ne, rL_self, rL_ne, rR_self, rR_ne, xvl, xvA, xvL, xvR, xlv, xlA, xlL, xlR, xAv, xAl, xAL, xAR, xLv, xLl, xLA, xLR, xRv, xRl, xRA, xRL]
          rw [w_u_self, List.length_append]
          simp only [List.length_cons, List.length_nil]
          omega
      · intro k
        by_cases q : k < os.length
        · rw [List.getD_eq_getElem?_getD, List.getElem?_append_left q, ← List.getD_eq_getElem?_getD]
          exact ho4 k
        · by_cases q2 : k = os.length
          · subst q2
            rw [List.getD_eq_getElem?_getD, List.getElem?_append_right (Nat.le_refl _)]
            simp
            omega
          · rw [List.getD_eq_getElem?_getD, List.getElem?_eq_none (by rw [List.length_append]; simp; omega)]
            simp
      · intro a ha
        rcases List.mem_append.mp ha with z | z
        · exact hlo a z
        · rw [List.mem_singleton.mp z]
          exact hok
      · intro a ha
        rcases List.mem_append.mp ha with z | z
        · exact hgo a z
        · rw [List.mem_singleton.mp z]
          exact hgk
    have hst2 : w_T sc (d - 1) 140 0 (x_en 0 [.ref 249]) [] (aeS S i os.length) (fun v S2 => (∃ z, v = some (.int (iZ z))) ∧ (((os ++ [ou]).length : Int) < rtk e → PUSHp nm (aeS S i os.length) i (as.getD (os ++ [ou]).length []) v S2) ∧ (rtk e ≤ (os ++ [ou]).length → RPp nm (aeS S i os.length) i e t c as (os ++ [ou]) v S2)) := w_mono hst (fun v S2 q => ⟨by
      by_cases z : ((os ++ [ou]).length : Int) < rtk e
      · exact ⟨_, (q.1 z).1⟩
      · exact ⟨_, (q.2 (by omega)).1⟩, q⟩)
    refine w_aload_n rfl rfl rfl ?_
    refine w_CV (as := []) (r := []) rfl rfl rfl rfl sh_249 (Nat.le_of_ble_eq_true rfl) (Nat.le_of_ble_eq_true rfl) (by omega) rfl (hst2) ?_
    rintro _ V ⟨⟨zz, rfl⟩, hq⟩
    show w_T _ _ 141 74 _ [.int (iZ zz)] _ _
    refine w_iret rfl rfl ?_
    exact ⟨fun z => by omega, fun _ => hq⟩
  · skip
    refine w_bipush rfl (by decide) rfl ?_
    refine w_iret rfl rfl ?_
    exact ⟨fun _ => ⟨rfl, rfl⟩, fun z => by omega⟩
