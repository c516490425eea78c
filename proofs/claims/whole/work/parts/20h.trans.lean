/-! Both translates whole. -/
def vdq (q : Prs) : Int := if ¬ q.1 = 0 then q.1 else prc (yw q.2.2.2) q.2.2.2.length
def okq (q : Prs) : List OTok := if ¬ q.1 = 0 then [] else q.2.2.2
def ndq (q : Prs) : List Nd := if vdq q = 0 then Pnd (yw q.2.2.2) q.2.2.2.length else []
abbrev Rst : Type := Int × List OTok × Int × List Mac × List Nd
def rsq (q : Prs) : Rst := (vdq q, okq q, q.2.2.1, q.2.1, ndq q)
def RRs (S : w_S) (R : Rst) : Prop := sv S 249 50 = R.1 ∧ sv S 249 49 = R.2.1.length ∧ ofn (sL S 285) (sA S 286) 1 0 R.2.1 ∧ sv S 249 23 = R.2.2.1 ∧ (∃ sg, rtab S sg R.2.2.2.1) ∧ nrep S R.2.2.2.2
def FRT (a : Nat) : Prop := a = 249 ∨ (252 ≤ a ∧ a ≤ 304)
def RTp (S : w_S) (q : Prs) (v : Option Value) (S2 : w_S) : Prop := v = some (.int (iZ (vdq q))) ∧ fr FRT S S2 ∧ sv S2 249 2 = sv S 249 2 ∧ RRs S2 (rsq q)
theorem prc_c {Y : Int → Int64} {n : Int} : (¬ chk Y n = 0 → prc Y n = chk Y n) ∧ (chk Y n = 0 → odd Y n = false ∧ dpp Y n = false ∧ prc Y n = if pu Y n 110 0 [] = none then 11 else 0) ∧ 0 ≤ chk Y n ∧ chk Y n ≤ 10 := by
  by_cases h1 : odd Y n = true
  · have e1 : prc Y n = 10 := by unfold prc; rw [if_pos h1]
    have e2 : chk Y n = 10 := by unfold chk; rw [if_pos h1]
    rw [e1, e2]
    exact ⟨fun _ => rfl, fun z => absurd z (by decide), by decide, by decide⟩
  · by_cases h2 : dpp Y n = true
    · have e1 : prc Y n = 7 := by unfold prc; rw [if_neg h1, if_pos h2]
      have e2 : chk Y n = 7 := by unfold chk; rw [if_neg h1, if_pos h2]
      rw [e1, e2]
      exact ⟨fun _ => rfl, fun z => absurd z (by decide), by decide, by decide⟩
    · have e1 : prc Y n = if pu Y n 110 0 [] = none then 11 else 0 := by unfold prc; rw [if_neg h1, if_neg h2]
      have e2 : chk Y n = 0 := by unfold chk; rw [if_neg h1, if_neg h2]
      rw [e1, e2]
      refine ⟨fun z => absurd rfl z, fun _ => ⟨?_, ?_, rfl⟩, by decide, by decide⟩
      · cases z : odd Y n
        · rfl
        · exact absurd z h1
      · cases z : dpp Y n
        · rfl
        · exact absurd z h2
theorem PYW_of {S : w_S} {l : List OTok} (h1 : sv S 249 49 = l.length) (h2 : l.length ≤ 100) (h3 : ogw l) (h4 : ofn (sL S 285) (sA S 286) 1 0 l) : PYW S l.length (yw l) := ⟨h1, by omega, by omega, fun k k0 k1 => (ofn_yw h4 k0 k1).1, fun k k0 k1 => yw_gw h3 k0 k1, fun k hk => yw_out hk⟩
section RTL
variable {S U W : w_S} {q : Prs}
theorem RR_fr (h : PRs S q U) (f : fr (fun a => a = 249 ∨ (287 ≤ a ∧ a ≤ 304)) U W) (hv : ∀ k, ¬ (k = 49 ∨ k = 50 ∨ k = 56 ∨ k = 61 ∨ k = 67) → sv W 249 k = sv U 249 k) : fr FRT S W ∧ sv W 249 2 = sv S 249 2 ∧ sv W 249 23 = q.2.2.1 ∧ ∃ sg, rtab W sg q.2.1 := by
  obtain ⟨h1, h2, h3, h4, ⟨sg, h5⟩, h6, h7⟩ := h
  exact ⟨fr_trans (fr_mono h2 (fun a h => by unfold RFN at h; unfold FRT; omega)) (fr_mono f (fun a h => by unfold FRT; omega)), by rw [hv 2 (by decide), h3 2 (by unfold RSL; decide)], by rw [hv 23 (by decide)]; exact h6, sg, rtab_fr h5 f (fun a a0 a1 => by omega)⟩
theorem RT_A (h : PRs S q U) (hz : ¬ q.1 = 0) : RTp S q (some (.int (iZ q.1))) (w_v U 249 49 0) := by
  have f : fr (fun a => a = 249 ∨ (287 ≤ a ∧ a ≤ 304)) U (w_v U 249 49 0) := fr_v (fr_refl _ _) (Or.inl rfl)
  have r := RR_fr h f (fun k hk => rv_ne (by omega))
  have e1 : vdq q = q.1 := by unfold vdq; rw [if_pos hz]
  have e2 : okq q = [] := by unfold okq; rw [if_pos hz]
  have e3 : ndq q = [] := by unfold ndq; rw [e1, if_neg hz]
  refine ⟨by rw [e1], r.1, r.2.1, ?_, ?_, ?_, r.2.2.1, r.2.2.2, ?_⟩
  · show sv _ 249 50 = vdq q
    rw [e1, rv_ne (by decide)]
    exact h.1
  · show sv _ 249 49 = ((okq q).length : Int)
    rw [e2]
    exact rv_self _ _ _ _
  · show ofn _ _ 1 0 (okq q)
    rw [e2]
    exact trivial
  · show nrep _ (ndq q)
    rw [e3]
    refine ⟨?_, by decide, fun j j0 j1 => absurd j1 (by rw [List.length_nil]; omega)⟩
    rw [rv_ne (by decide)]
    exact h.2.2.2.1
theorem RT_B {c : Int} (h : PRs S q U) (hz : q.1 = 0) (hv : vdq q = c) (f : fr (fun a => a = 249 ∨ (287 ≤ a ∧ a ≤ 304)) U W) (hk : ∀ k, ¬ (k = 50 ∨ k = 56 ∨ k = 61 ∨ k = 67) → sv W 249 k = sv U 249 k) (h50 : sv W 249 50 = c) (hn : nrep W (ndq q)) : RTp S q (some (.int (iZ c))) W := by
  have r := RR_fr h f (fun k hk9 => hk k (by omega))
  have e2 : okq q = q.2.2.2 := by unfold okq; rw [if_neg (not_not_intro hz)]
  have h7 := h.2.2.2.2.2.2 hz
  refine ⟨by rw [hv], r.1, r.2.1, ?_, ?_, ?_, r.2.2.1, r.2.2.2, hn⟩
  · show sv _ 249 50 = vdq q
    rw [hv]
    exact h50
  · show sv _ 249 49 = ((okq q).length : Int)
    rw [e2, hk 49 (by decide)]
    exact h7.1
  · show ofn _ _ 1 0 (okq q)
    rw [e2, fr_gL f (by decide), fr_gA f (by decide)]
    exact h7.2
theorem nrep_0 {W : w_S} {q : Prs} (h : sv W 249 56 = 0) (hv : ¬ vdq q = 0) : nrep W (ndq q) := by
  have e : ndq q = [] := by unfold ndq; rw [if_neg hv]
  rw [e]
  exact ⟨h, by decide, fun j j0 j1 => absurd j1 (by rw [List.length_nil]; omega)⟩
theorem nrep_P {W : w_S} {q : Prs} (h : nrep W (Pnd (yw q.2.2.2) q.2.2.2.length)) (hv : vdq q = 0) : nrep W (ndq q) := by
  unfold ndq
  rw [if_pos hv]
  exact h
theorem vdq_0 {q : Prs} (hz : q.1 = 0) : vdq q = prc (yw q.2.2.2) q.2.2.2.length := by
  unfold vdq
  rw [if_neg (not_not_intro hz)]
end RTL
theorem r_k118_c {sc : x_S} {d : Nat} {S : w_S} {q : Prs} (hO : POK q) (hd : 70 ≤ d) : ∀ n : Nat, (∀ (zz : Int) (U : w_S) (lv : x_L) (l0 : lv 0 = some (.ref 249)) (hPR : PRs S q U) (hm : 0 < n), w_T sc d 145 118 lv [] U (RTp S q)) := by
  intro n
  induction n with
  | zero => exact fun zz U lv l0 hPR hm => absurd hm (Nat.not_lt_zero _)
  | succ n ih =>
    intro zz U lv l0 hPR hm
    have ho0 := hO.1
    have ho1 := hO.2.1
    refine w_aload_n rfl l0 rfl ?_
    refine w_getI (z := q.1) rfl rfl sh_249 rfl hPR.1 rfl ?_
    refine w_if_eq (pc2 := 135) (pc3 := 125) rfl (by decide) rfl ⟨by omega, by omega⟩ (fun c122 => ?_) (fun c122 => ?_)
    · skip
      have hoo := hO.2.2.2.2.2 c122
      have h77 := hPR.2.2.2.2.2.2 c122
      have hPY := PYW_of h77.1 hoo.2 hoo.1 h77.2
      refine w_aload_n rfl l0 rfl ?_
      refine w_aload_n rfl l0 rfl ?_
      refine w_CV (as := []) (r := [.ref 249]) rfl rfl rfl rfl sh_249 (Nat.le_of_ble_eq_true rfl) (Nat.le_of_ble_eq_true rfl) (by omega) rfl (r_chk (S := U) hPY (by omega)) ?_
      rintro _ _ ⟨rfl, hS⟩
      rw [hS]
      show w_T _ _ 145 140 _ [.int (iZ (chk (yw q.2.2.2) (q.2.2.2.length : Int))), .ref 249] _ _
      have hcr := (prc_c (Y := yw q.2.2.2) (n := (q.2.2.2.length : Int)))
      have hcr3 := hcr.2.2.1
      have hcr4 := hcr.2.2.2
      refine w_putf rfl rfl sh_249 rfl rfl (by decide) rfl ?_
      refine w_aload_n rfl l0 rfl ?_
      refine w_getI (z := chk (yw q.2.2.2) (q.2.2.2.length : Int)) rfl rfl sh_249 rfl (rv_self _ _ _ _) rfl ?_
      refine w_if_ne (pc2 := 163) (pc3 := 150) rfl (by decide) rfl ⟨by omega, by omega⟩ (fun c147 => ?_) (fun c147 => ?_)
      · skip
        refine w_aload_n rfl l0 rfl ?_
        refine w_getI (z := chk (yw q.2.2.2) (q.2.2.2.length : Int)) rfl rfl sh_249 rfl (rv_self _ _ _ _) rfl ?_
        refine w_if_eq (pc2 := 175) (pc3 := 170) rfl (by decide) rfl ⟨by omega, by omega⟩ (fun c167 => ?_) (fun c167 => ?_)
        · exact absurd c167 c147
        · skip
          refine w_aload_n rfl l0 rfl ?_
          refine w_iconst rfl rfl ?_
          refine w_putf rfl rfl sh_249 rfl rfl (by decide) rfl ?_
          refine w_aload_n rfl l0 rfl ?_
          refine w_getI (z := chk (yw q.2.2.2) (q.2.2.2.length : Int)) rfl rfl sh_249 rfl ((rv_ne (by decide)).trans (rv_self _ _ _ _)) rfl ?_
          refine w_iret rfl rfl ?_
          have hv9 : vdq q = chk (yw q.2.2.2) (q.2.2.2.length : Int) := by rw [vdq_0 c122, hcr.1 c147]
          refine RT_B hPR c122 hv9 (fr_v (fr_v (fr_refl _ _) (Or.inl rfl)) (Or.inl rfl)) (fun k hk => ?_) ?_ (nrep_0 (rv_self _ _ _ _) (by rw [hv9]; exact c147))
          · rw [rv_ne (by omega), rv_ne (by omega)]
          · rw [rv_ne (by decide)]
            exact rv_self _ _ _ _
      · skip
        refine w_aload_n rfl l0 rfl ?_
        by_cases hpu : pu (yw q.2.2.2) (q.2.2.2.length : Int) 110 0 [] = none
        · skip
          have hP2 : PYW (w_v U 249 50 (chk (yw q.2.2.2) (q.2.2.2.length : Int))) (q.2.2.2.length : Int) (yw q.2.2.2) := PYW_fr (c := fun a => a = 249) hPY (fr_v (fr_refl _ _) rfl) (rv_ne (by decide)) (by decide)
          have h56 : sv (w_v U 249 50 (chk (yw q.2.2.2) (q.2.2.2.length : Int))) 249 56 = 0 := by rw [rv_ne (by decide)]; exact hPR.2.2.2.1
          have hBd := dpp_6 (hcr.2.1 c147).2.1
          refine w_CV (as := []) (r := []) rfl rfl rfl rfl sh_249 (Nat.le_of_ble_eq_true rfl) (Nat.le_of_ble_eq_true rfl) (by omega) rfl (w_mono (r_prsd hP2 h56 hBd (by omega)) (fun v S2 h => (⟨h.2.1 hpu, h.1⟩ : v = some (.int (iZ 0)) ∧ pfr _ S2))) ?_
          rintro _ Z1 ⟨rfl, hz1⟩
          show w_T _ _ 145 154 _ [.int (iZ 0)] _ _
          refine w_if_ne (pc2 := 163) (pc3 := 157) rfl (by decide) rfl ⟨by decide, by decide⟩ (fun hc => absurd hc (by decide)) (fun _ => ?_)
          refine w_aload_n rfl l0 rfl ?_
          refine w_bipush rfl (by decide) rfl ?_
          refine w_putf rfl rfl sh_249 rfl rfl (by decide) rfl ?_
          refine w_aload_n rfl l0 rfl ?_
          refine w_getI (z := 11) rfl rfl sh_249 rfl (rv_self _ _ _ _) rfl ?_
          refine w_if_eq (pc2 := 175) (pc3 := 170) rfl (by decide) rfl ⟨by decide, by decide⟩ (fun hc => absurd hc (by decide)) (fun _ => ?_)
          refine w_aload_n rfl l0 rfl ?_
          refine w_iconst rfl rfl ?_
          refine w_putf rfl rfl sh_249 rfl rfl (by decide) rfl ?_
          refine w_aload_n rfl l0 rfl ?_
          refine w_getI (z := 11) rfl rfl sh_249 rfl ((rv_ne (by decide)).trans (rv_self _ _ _ _)) rfl ?_
          refine w_iret rfl rfl ?_
          have hv9 : vdq q = 11 := by rw [vdq_0 c122, (hcr.2.1 c147).2.2, if_pos hpu]
          refine RT_B hPR c122 hv9 (fr_trans (fr_v (fr_refl _ _) (Or.inl rfl)) (fr_trans hz1.1 (fr_v (fr_v (fr_refl _ _) (Or.inl rfl)) (Or.inl rfl)))) (fun k hk => ?_) ?_ (nrep_0 (rv_self _ _ _ _) (by rw [hv9]; decide))
          · rw [rv_ne (by omega), rv_ne (by omega), hz1.2 k (by omega), rv_ne (by omega)]
          · rw [rv_ne (by decide)]
            exact rv_self _ _ _ _
        · skip
          have hP2 : PYW (w_v U 249 50 (chk (yw q.2.2.2) (q.2.2.2.length : Int))) (q.2.2.2.length : Int) (yw q.2.2.2) := PYW_fr (c := fun a => a = 249) hPY (fr_v (fr_refl _ _) rfl) (rv_ne (by decide)) (by decide)
          have h56 : sv (w_v U 249 50 (chk (yw q.2.2.2) (q.2.2.2.length : Int))) 249 56 = 0 := by rw [rv_ne (by decide)]; exact hPR.2.2.2.1
          have hBd := dpp_6 (hcr.2.1 c147).2.1
          refine w_CV (as := []) (r := []) rfl rfl rfl rfl sh_249 (Nat.le_of_ble_eq_true rfl) (Nat.le_of_ble_eq_true rfl) (by omega) rfl (w_mono (r_prsd hP2 h56 hBd (by omega)) (fun v S2 h => (⟨(h.2.2 hpu).1, h.1, (h.2.2 hpu).2⟩ : v = some (.int (iZ 1)) ∧ pfr _ S2 ∧ nrep S2 _))) ?_
          rintro _ Z2 ⟨rfl, hz2, hn2⟩
          show w_T _ _ 145 154 _ [.int (iZ 1)] _ _
          refine w_if_ne (pc2 := 163) (pc3 := 157) rfl (by decide) rfl ⟨by decide, by decide⟩ (fun _ => ?_) (fun hc => absurd hc (by decide))
          refine w_aload_n rfl l0 rfl ?_
          refine w_getI (z := 0) rfl rfl sh_249 rfl ((hz2.2 50 (by decide)).trans ((rv_self _ _ _ _).trans c147)) rfl ?_
          refine w_if_eq (pc2 := 175) (pc3 := 170) rfl (by decide) rfl ⟨by decide, by decide⟩ (fun _ => ?_) (fun hc => absurd hc (by decide))
          refine w_aload_n rfl l0 rfl ?_
          refine w_getI (z := 0) rfl rfl sh_249 rfl ((hz2.2 50 (by decide)).trans ((rv_self _ _ _ _).trans c147)) rfl ?_
          refine w_iret rfl rfl ?_
          have hv9 : vdq q = 0 := by rw [vdq_0 c122, (hcr.2.1 c147).2.2, if_neg hpu]
          refine RT_B hPR c122 hv9 (fr_trans (fr_v (fr_refl _ _) (Or.inl rfl)) hz2.1) (fun k hk => ?_) ((hz2.2 50 (by decide)).trans ((rv_self _ _ _ _).trans c147)) (nrep_P hn2 hv9)
          rw [hz2.2 k (by omega), rv_ne (by omega)]
    · skip
      refine w_aload_n rfl l0 rfl ?_
      refine w_iconst rfl rfl ?_
      refine w_putf rfl rfl sh_249 rfl rfl (by decide) rfl ?_
      refine w_aload_n rfl l0 rfl ?_
      refine w_getI (z := q.1) rfl rfl sh_249 rfl ((rv_ne (by decide)).trans hPR.1) rfl ?_
      refine w_iret rfl rfl ?_
      exact RT_A hPR c122
theorem r_trans {sc : x_S} {d : Nat} {S : w_S} {F : Int → (Int → Int) × Int} {f : Int} (hF : Fok F) (hR : RT S F) (f0 : 0 ≤ f) (f2 : f ≤ 2) (hd : 100 ≤ d) : w_T sc d 145 0 (x_en 0 [.ref 249, .int (iZ f)]) [] S (RTp S (pall F f)) := r_tr1 hF hR f0 f2 (fun S2 h lv l0 => r_k118_c (pall_ok hF f0 f2) (by omega) 1 0 S2 lv l0 h (by omega)) (by omega)
theorem r_transn {sc : x_S} {d : Nat} {S : w_S} {f : Int} (hf : f < 0 ∨ 2 < f) (hr : -2147483648 ≤ f ∧ f < 2147483648) (hd : 5 ≤ d) : w_T sc d 145 0 (x_en 0 [.ref 249, .int (iZ f)]) [] S (fun v S2 => v = some (.int (iZ (-1))) ∧ S2 = S) := by
  refine w_iload_n rfl rfl rfl ?_
  refine w_if_lt (pc2 := 9) (pc3 := 4) rfl (by decide) rfl ⟨by omega, by omega⟩ (fun c1 => ?_) (fun c1 => ?_)
  · skip
    refine w_iconst rfl rfl ?_
    refine w_iret rfl rfl ?_
    exact ⟨rfl, rfl⟩
  · skip
    refine w_iload_n rfl rfl rfl ?_
    refine w_iconst rfl rfl ?_
    refine w_ic_le (pc2 := 11) (pc3 := 9) rfl (by decide) rfl ⟨by omega, by omega⟩ ⟨by decide, by decide⟩ (fun c6 => ?_) (fun c6 => ?_)
    · exfalso; omega
    · skip
      refine w_iconst rfl rfl ?_
      refine w_iret rfl rfl ?_
      exact ⟨rfl, rfl⟩
