/-! The reference: arguments one by one. -/
theorem HD_eq {sc : x_S} {d : Nat} {S : w_S} {Q : Option Value → w_S → Prop} {s z y : Int} (h : iZ z = iZ y) (k : HDp sc d S Q s y) : HDp sc d S Q s z := fun lv l0 l1 l2 => k lv l0 (by rw [← h]; exact l1) l2
theorem LR_fr {c : Nat → Prop} {nm : Nat → Int64} {U V : w_S} {i m : Int} {e : Mac} {t k : ETok} {as os : List (List ETok)} (h : LRp nm U i m e t k as os) (f : fr c U V) (hc : ∀ a, (262 ≤ a ∧ a ≤ 266) ∨ (271 ≤ a ∧ a ≤ 274) ∨ (279 ≤ a ∧ a ≤ 284) → ¬ c a) : LRp nm V i m e t k as os := by
  obtain ⟨h1, h2, h3, h4, h5, h6, h7, h8, h9, h10, h11⟩ := h
  have g79 := fr_gA f (hc 279 (by omega))
  have g80 := fr_gA f (hc 280 (by omega))
  have g81 := fr_gA f (hc 281 (by omega))
  have g82 := fr_gA f (hc 282 (by omega))
  have g83 := fr_gA f (hc 283 (by omega))
  have g84 := fr_gA f (hc 284 (by omega))
  have g71 := fr_gL f (hc 271 (by omega))
  have g72 := fr_gA f (hc 272 (by omega))
  have g73 := fr_gL f (hc 273 (by omega))
  have g74 := fr_gA f (hc 274 (by omega))
  unfold LRp
  rw [g79, g80, g81, g82, g83, g84, g71, g72, g73, g74]
  exact ⟨h1, rmac_fr h2 f (fun a a0 a1 => hc a (by omega)), h3, h4, h5, h6, h7, h8, h9, h10, h11⟩
theorem push_keep {nm : Nat → Int64} {W S2 : w_S} {i b g w : Int} {A : List ETok} {v : Option Value} (h : PUSHp nm W i A v S2) (hb : b ≤ sv W 249 29) : keepp W S2 i b g w := by
  obtain ⟨p1, p2, p3, p4, p5, p6, p7, p8, p9⟩ := h
  refine ⟨fr_mono p2 (by omega), fun k hk => p3 k (by omega), fun j _ hj => p7 j (by omega), fun j _ _ => ⟨by rw [fr_gL p2 (by omega)], by rw [fr_gA p2 (by omega)]⟩, fun j _ _ => ⟨by rw [fr_gL p2 (by omega)], by rw [fr_gA p2 (by omega)]⟩, fun j hj => ⟨by rw [p8]; exact w_u_ne _ _ (by omega), by rw [p9]; exact w_u_ne _ _ (by omega)⟩, fun j _ => ⟨by rw [fr_gA p2 (by omega)], by rw [fr_gA p2 (by omega)], by rw [fr_gA p2 (by omega)], by rw [fr_gA p2 (by omega)]⟩, fun j _ => ⟨by rw [fr_gA p2 (by omega)], by rw [fr_gA p2 (by omega)]⟩⟩
theorem os_40 {os : List (List ETok)} {ou : List ETok} (h : ∀ k, (os.getD k []).length ≤ 40) (h2 : (ou.length : Int) ≤ 40) : ∀ k, ((os ++ [ou]).getD k []).length ≤ 40 := by
  intro k
  by_cases q : k < os.length
  · rw [List.getD_eq_getElem?_getD, List.getElem?_append_left q, ← List.getD_eq_getElem?_getD]
    exact h k
  · by_cases q2 : k = os.length
    · subst q2
      rw [List.getD_eq_getElem?_getD, List.getElem?_append_right (Nat.le_refl _)]
      simp
      omega
    · rw [List.getD_eq_getElem?_getD, List.getElem?_eq_none (by rw [List.length_append]; simp; omega)]
      simp
theorem LR_ae {nm : Nat → Int64} {S : w_S} {i m : Int} {e : Mac} {t c : ETok} {as os : List (List ETok)} {ou : List ETok} (hL : LRp nm S i m e t c as os) (ha : as.length ≤ 3) (hg1 : sA S 284 (4 * i + os.length) = sA S 278 (i + 1)) (hg2 : sv S 249 32 = sA S 278 (i + 1) + ou.length) (hg4 : sv S 249 32 ≤ 2561) (hou : fw nm (sL S 271) (sA S 272) (sA S 278 (i + 1)) ou) : LRp nm (aeS S i os.length) i m e t c as (os ++ [ou]) := by
  obtain ⟨k1, k2, k3, k4, k5, k6, k7, k8, k9, k10, k11⟩ := hL
  unfold aeS
  refine ⟨by simp (disch := omega) only [rv_self, rv_ne, rl_self, rl_ne, rA_self, rA_ne, rL_self, rL_ne, rR_self, rR_ne, xvl, xvA, xvL, xvR, xlv, xlA, xlL, xlR, xAv, xAl, xAL, xAR, xLv, xLl, xLA, xLR, xRv, xRl, xRA, xRL]; exact k1, ?_, by simp (disch := omega) only [rv_self, rv_ne, rl_self, rl_ne, rA_self, rA_ne, rL_self, rL_ne, rR_self, rR_ne, xvl, xvA, xvL, xvR, xlv, xlA, xlL, xlR, xAv, xAl, xAL, xAR, xLv, xLl, xLA, xLR, xRv, xRl, xRA, xRL]; exact k3, by simp (disch := omega) only [rv_self, rv_ne, rl_self, rl_ne, rA_self, rA_ne, rL_self, rL_ne, rR_self, rR_ne, xvl, xvA, xvL, xvR, xlv, xlA, xlL, xlR, xAv, xAl, xAL, xAR, xLv, xLl, xLA, xLR, xRv, xRl, xRA, xRL]; exact k4, by simp (disch := omega) only [rv_self, rv_ne, rl_self, rl_ne, rA_self, rA_ne, rL_self, rL_ne, rR_self, rR_ne, xvl, xvA, xvL, xvR, xlv, xlA, xlL, xlR, xAv, xAl, xAL, xAR, xLv, xLl, xLA, xLR, xRv, xRl, xRA, xRL]; exact k5, ?_, by simp (disch := omega) only [rv_self, rv_ne, rl_self, rl_ne, rA_self, rA_ne, rL_self, rL_ne, rR_self, rR_ne, xvl, xvA, xvL, xvR, xlv, xlA, xlL, xlR, xAv, xAl, xAL, xAR, xLv, xLl, xLA, xLR, xRv, xRl, xRA, xRL]; exact k7, by simp (disch := omega) only [rv_self, rv_ne, rl_self, rl_ne, rA_self, rA_ne, rL_self, rL_ne, rR_self, rR_ne, xvl, xvA, xvL, xvR, xlv, xlA, xlL, xlR, xAv, xAl, xAL, xAR, xLv, xLl, xLA, xLR, xRv, xRl, xRA, xRL]; exact k8, ?_, ?_, ?_⟩
  · exact ⟨by simp (disch := omega) only [rv_self, rv_ne, rl_self, rl_ne, rA_self, rA_ne, rL_self, rL_ne, rR_self, rR_ne, xvl, xvA, xvL, xvR, xlv, xlA, xlL, xlR, xAv, xAl, xAL, xAR, xLv, xLl, xLA, xLR, xRv, xRl, xRA, xRL]; exact k2.1, by simp (disch := omega) only [rv_self, rv_ne, rl_self, rl_ne, rA_self, rA_ne, rL_self, rL_ne, rR_self, rR_ne, xvl, xvA, xvL, xvR, xlv, xlA, xlL, xlR, xAv, xAl, xAL, xAR, xLv, xLl, xLA, xLR, xRv, xRl, xRA, xRL]; exact k2.2.1, by simp (disch := omega) only [rv_self, rv_ne, rl_self, rl_ne, rA_self, rA_ne, rL_self, rL_ne, rR_self, rR_ne, xvl, xvA, xvL, xvR, xlv, xlA, xlL, xlR, xAv, xAl, xAL, xAR, xLv, xLl, xLA, xLR, xRv, xRl, xRA, xRL]; exact k2.2.2.1, by simp (disch := omega) only [rv_self, rv_ne, rl_self, rl_ne, rA_self, rA_ne, rL_self, rL_ne, rR_self, rR_ne, xvl, xvA, xvL, xvR, xlv, xlA, xlL, xlR, xAv, xAl, xAL, xAR, xLv, xLl, xLA, xLR, xRv, xRl, xRA, xRL]; exact k2.2.2.2.1, by simp (disch := omega) only [rv_self, rv_ne, rl_self, rl_ne, rA_self, rA_ne, rL_self, rL_ne, rR_self, rR_ne, xvl, xvA, xvL, xvR, xlv, xlA, xlL, xlR, xAv, xAl, xAL, xAR, xLv, xLl, xLA, xLR, xRv, xRl, xRA, xRL]; exact k2.2.2.2.2⟩
  · simp (disch := omega) only [rv_self, rv_ne, rl_self, rl_ne, rA_self, rA_ne, rL_self, rL_ne, rR_self, rR_ne, xvl, xvA, xvL, xvR, xlv, xlA, xlL, xlR, xAv, xAl, xAL, xAR, xLv, xLl, xLA, xLR, xRv, xRl, xRA, xRL]
    refine seg_snoc os (4 * i) k6 (by rw [hg1]; exact hou) (fun j hj => w_u_ne _ _ (by omega)) ?_
    rw [show 4 * i + (os.length : Int) + 1 = 4 * i + ((os.length : Int) + 1) by omega, w_u_self, hg1]
    exact hg2
  · simp (disch := omega) only [rv_self, rv_ne, rl_self, rl_ne, rA_self, rA_ne, rL_self, rL_ne, rR_self, rR_ne, xvl, xvA, xvL, xvR, xlv, xlA, xlL, xlR, xAv, xAl, xAL, xAR, xLv, xLl, xLA, xLR, xRv, xRl, xRA, xRL]
    rw [w_u_ne _ _ (by omega)]
    exact k9
  · simp (disch := omega) only [rv_self, rv_ne, rl_self, rl_ne, rA_self, rA_ne, rL_self, rL_ne, rR_self, rR_ne, xvl, xvA, xvL, xvR, xlv, xlA, xlL, xlR, xAv, xAl, xAL, xAR, xLv, xLl, xLA, xLR, xRv, xRl, xRA, xRL]
    rw [List.length_append, show (4 * i + ((os.length + [ou].length : Nat) : Int)) = 4 * i + ((os.length : Int) + 1) by simp only [List.length_cons, List.length_nil]; omega, w_u_self]
    exact hg4
  · simp (disch := omega) only [rv_self, rv_ne, rl_self, rl_ne, rA_self, rA_ne, rL_self, rL_ne, rR_self, rR_ne, xvl, xvA, xvL, xvR, xlv, xlA, xlL, xlR, xAv, xAl, xAL, xAR, xLv, xLl, xLA, xLR, xRv, xRl, xRA, xRL]
    rw [w_u_self, List.length_append]
    simp only [List.length_cons, List.length_nil]
    omega
theorem RA1 {sc : x_S} {d : Nat} {Q : Option Value → w_S → Prop} {nm : Nat → Int64} {sg : Nat → Nat} {T : List Mac} {n : Nat} (H : RXp sc d Q nm sg T n) (hd : 7 ≤ d) (hM : ∀ k : Int, 0 ≤ k → k < T.length → mok (mg T k)) (hB : ∀ k : Int, 0 ≤ k → k < T.length → bg (mg T k)) {i cb m : Int} {e : Mac} {t c : ETok} {as : List (List ETok)} (hS0 : LSp nm m e t as) (hs40 : sumlen as ≤ 40) (hcb : cb ≤ 1320) {U : w_S} {a : List ETok} {os : List (List ETok)} {rc s q : Int} (hA : ARp U nm sg T i cb rc m e t c as os a) (h1 : os.length < as.length) (h2 : as.getD os.length [] = a) (ho4 : ∀ k, (os.getD k []).length ≤ 40) (hlo : lall os) (hgo : ∀ a, a ∈ os → lgw a) (q0 : 0 ≤ q) (hcap : sv U 249 29 + sv U 249 32 + q ≤ 160 + 40 * rc) (s0 : 0 ≤ s) (hst : s + a.length + 1 + 85 * (30 - rc) ≤ 98960) (hfu : 40 + 100 * (31 - rc) ≤ n) (KE : ∀ S2 s2, ¬ (expL T n rc a []).1 = 0 → sv S2 249 23 = (expL T n rc a []).2.1 → ERp U S2 → 0 ≤ s2 → s2 ≤ 100000 → HDp sc d S2 Q s2 (expL T n rc a []).1) (KR : (expL T n rc a []).1 = 0 → 40 < ((expL T n rc a []).2.2.length : Int) → ∀ S2 s2, sv S2 249 23 = (expL T n rc a []).2.1 → ERp U S2 → 0 ≤ s2 → s2 ≤ 100000 → HDp sc d S2 Q s2 7) (KG : (expL T n rc a []).1 = 0 → ((expL T n rc a []).2.2.length : Int) ≤ 40 → ∀ W S2 s2 z, ((os ++ [(expL T n rc a []).2.2]).length < as.length → PUSHp nm W i (as.getD (os ++ [(expL T n rc a []).2.2]).length []) (some (.int (iZ z))) S2) → (as.length ≤ (os ++ [(expL T n rc a []).2.2]).length → RPp nm W i e t c as (os ++ [(expL T n rc a []).2.2]) (some (.int (iZ z))) S2) → rtab W sg T → nm = nmR W → LRp nm W i m e t c as (os ++ [(expL T n rc a []).2.2]) → keepp U W i cb (sA U 284 (4 * i)) (sv U 249 35) → sv W 249 46 = i → sv W 249 29 = cb → sv W 249 23 = (expL T n rc a []).2.1 → sA W 283 (4 * i) = sA U 283 (4 * i) → sA W 284 (4 * i) = sA U 284 (4 * i) → sA W 284 (4 * i + (os ++ [(expL T n rc a []).2.2]).length) = sv W 249 32 → sv W 249 35 = sv U 249 35 → sv W 249 35 = sA W 283 (4 * i + as.length) → sv W 249 32 = sv U 249 32 + (expL T n rc a []).2.2.length → s + 1 ≤ s2 → s2 ≤ s + a.length + 1 + 85 * ((expL T n rc a []).2.1 - rc) → HDp sc d S2 Q s2 z) : HDp sc d U Q s 0 := by
  obtain ⟨hrt, hnm, h46, i0, irc, rc30, h77, cb0, h29, hbw, h23, hL, hg84, hg78, h35, h35b, hg0⟩ := hA
  have hp3 := hS0.2.2.1.1
  have hpa := hS0.2.2.2.2.2.2.2.2.1
  have hlen := hS0.2.2.2.2.2.2.2.2.2.1
  have ha40 : a.length ≤ 40 := by rw [← h2]; exact hlen _
  have hla : loks a := by rw [← h2]; exact lall_get hS0.2.2.2.2.2.2.2.2.2.2.1 _
  have hga : lgw a := by rw [← h2]; exact lgw_get hS0.2.2.2.2.2.2.2.2.2.2.2 _
  have xr := expL_r hM n rc a [] rc30
  have hr0 : 0 ≤ sv U 249 35 := by
    have := hL.2.2.2.2.2.2.1
    have := seg_n as (4 * i) as.length hL.2.2.2.2.1 (Nat.le_refl _)
    omega
  refine H U (i + 1) cb (sv U 249 32) rc s a [] ⟨hrt, hnm, h46, by omega, by omega, rc30, h77, cb0, h29, hbw, h23, hr0, by omega, hg0, by rw [List.length_nil]; simp, trivial, by omega⟩ hla hga s0 (by omega) (by omega) ?_ KE
  intro V s2 hz hV hk hv35 hs1 hs2
  obtain ⟨v1, v2, v3, v4, v5, v6, v7, v8, v9, v10, v11, v12, v13, v14, v15, v16, v17⟩ := hV
  have xz := xr.2.2.2.2 hz
  rw [List.length_nil] at v9 xz
  have hol := xz.2 hla (fun x hx => absurd hx (by simp))
  have hog := expL_gw hM hB n rc a [] rc30 hz hga (fun x hx => absurd hx (by simp))
  have hLV := LR_keep hL hk (by omega) (by omega) (by omega) (by omega)
  have k8 := hk.2.2.2.2.2.2.2
  have k6 := hk.2.2.2.2.2.1
  have e84 := (k8 (4 * i + os.length) (by omega)).2
  have e78 := (k6 (i + 1) (Int.le_refl _)).2
  have e77 := (k6 (i + 1) (Int.le_refl _)).1
  refine r_step (by omega) (by omega) (by omega) (r_nx2 (S := V) (nm := nm) (i := i) (m := m) (e := e) (t := t) (c := c) (as := as) (os := os) (ou := (expL T n rc a []).2.2) v3 i0 (by omega) hLV hS0 (by omega) ho4 hlo hgo (by omega) (by omega) (by omega) (by omega) (by omega) (by omega) (by rw [e78, hg78]; exact v16) hol hog (by omega) (by omega)) ?_
  intro v S2 hq
  by_cases c40 : 40 < ((expL T n rc a []).2.2.length : Int)
  · obtain ⟨q1, q2⟩ := hq.1 c40
    refine ⟨7, q1, ?_⟩
    rw [q2]
    exact KR hz c40 V (s2 + 1) v11 (ER_of hk) (by omega) (by omega)
  · have hq2 := hq.2 (by omega)
    have hrk : rtk e = e.2.2.1.length := rtk_of (by omega) hS0.2.2.1
    have hln : ((os ++ [(expL T n rc a []).2.2]).length : Int) = os.length + 1 := by rw [List.length_append]; rfl
    have hz2 : ∃ z, v = some (.int (iZ z)) := by
      by_cases y : ((os ++ [(expL T n rc a []).2.2]).length : Int) < rtk e
      · exact ⟨_, (hq2.1 y).1⟩
      · exact ⟨_, (hq2.2 (by omega)).1⟩
    obtain ⟨z, rfl⟩ := hz2
    refine ⟨z, rfl, ?_⟩
    have hfae : fr (fun a => a = 249 ∨ a = 282 ∨ a = 284) V (aeS V i os.length) := fr_A (fr_A (fr_v (fr_refl _ _) (by omega)) (by omega)) (by omega)
    have hkae : keepp V (aeS V i os.length) i cb (sA U 284 (4 * i)) (sv U 249 35) := by
      unfold aeS
      refine ⟨fr_A (fr_A (fr_v (fr_refl _ _) (by omega)) (by omega)) (by omega), fun k hk => ?_, fun j _ _ => ⟨?_, ?_⟩, fun j _ _ => ⟨?_, ?_⟩, fun j _ _ => ⟨?_, ?_⟩, fun j _ => ⟨?_, ?_⟩, fun j hj => ⟨?_, ?_, ?_, ?_⟩, fun j hj => ⟨?_, ?_⟩⟩
      · simp (disch := omega) only [rv_self, rv_ne, rl_self, rl_ne, rA_self, rA_ne, rL_self, rL_ne, rR_self, rR_ne, xvl, xvA, xvL, xvR, xlv, xlA, xlL, xlR, xAv, xAl, xAL, xAR, xLv, xLl, xLA, xLR, xRv, xRl, xRA, xRL]
      · simp (disch := omega) only [rv_self, rv_ne, rl_self, rl_ne, rA_self, rA_ne, rL_self, rL_ne, rR_self, rR_ne, xvl, xvA, xvL, xvR, xlv, xlA, xlL, xlR, xAv, xAl, xAL, xAR, xLv, xLl, xLA, xLR, xRv, xRl, xRA, xRL]
      · simp (disch := omega) only [rv_self, rv_ne, rl_self, rl_ne, rA_self, rA_ne, rL_self, rL_ne, rR_self, rR_ne, xvl, xvA, xvL, xvR, xlv, xlA, xlL, xlR, xAv, xAl, xAL, xAR, xLv, xLl, xLA, xLR, xRv, xRl, xRA, xRL]
      · simp (disch := omega) only [rv_self, rv_ne, rl_self, rl_ne, rA_self, rA_ne, rL_self, rL_ne, rR_self, rR_ne, xvl, xvA, xvL, xvR, xlv, xlA, xlL, xlR, xAv, xAl, xAL, xAR, xLv, xLl, xLA, xLR, xRv, xRl, xRA, xRL]
      · simp (disch := omega) only [rv_self, rv_ne, rl_self, rl_ne, rA_self, rA_ne, rL_self, rL_ne, rR_self, rR_ne, xvl, xvA, xvL, xvR, xlv, xlA, xlL, xlR, xAv, xAl, xAL, xAR, xLv, xLl, xLA, xLR, xRv, xRl, xRA, xRL]
      · simp (disch := omega) only [rv_self, rv_ne, rl_self, rl_ne, rA_self, rA_ne, rL_self, rL_ne, rR_self, rR_ne, xvl, xvA, xvL, xvR, xlv, xlA, xlL, xlR, xAv, xAl, xAL, xAR, xLv, xLl, xLA, xLR, xRv, xRl, xRA, xRL]
      · simp (disch := omega) only [rv_self, rv_ne, rl_self, rl_ne, rA_self, rA_ne, rL_self, rL_ne, rR_self, rR_ne, xvl, xvA, xvL, xvR, xlv, xlA, xlL, xlR, xAv, xAl, xAL, xAR, xLv, xLl, xLA, xLR, xRv, xRl, xRA, xRL]
      · simp (disch := omega) only [rv_self, rv_ne, rl_self, rl_ne, rA_self, rA_ne, rL_self, rL_ne, rR_self, rR_ne, xvl, xvA, xvL, xvR, xlv, xlA, xlL, xlR, xAv, xAl, xAL, xAR, xLv, xLl, xLA, xLR, xRv, xRl, xRA, xRL]
      · simp (disch := omega) only [rv_self, rv_ne, rl_self, rl_ne, rA_self, rA_ne, rL_self, rL_ne, rR_self, rR_ne, xvl, xvA, xvL, xvR, xlv, xlA, xlL, xlR, xAv, xAl, xAL, xAR, xLv, xLl, xLA, xLR, xRv, xRl, xRA, xRL]
      · simp (disch := omega) only [rv_self, rv_ne, rl_self, rl_ne, rA_self, rA_ne, rL_self, rL_ne, rR_self, rR_ne, xvl, xvA, xvL, xvR, xlv, xlA, xlL, xlR, xAv, xAl, xAL, xAR, xLv, xLl, xLA, xLR, xRv, xRl, xRA, xRL]
      · simp (disch := omega) only [rv_self, rv_ne, rl_self, rl_ne, rA_self, rA_ne, rL_self, rL_ne, rR_self, rR_ne, xvl, xvA, xvL, xvR, xlv, xlA, xlL, xlR, xAv, xAl, xAL, xAR, xLv, xLl, xLA, xLR, xRv, xRl, xRA, xRL]
      · simp (disch := omega) only [rv_self, rv_ne, rl_self, rl_ne, rA_self, rA_ne, rL_self, rL_ne, rR_self, rR_ne, xvl, xvA, xvL, xvR, xlv, xlA, xlL, xlR, xAv, xAl, xAL, xAR, xLv, xLl, xLA, xLR, xRv, xRl, xRA, xRL]
      · simp (disch := omega) only [rv_self, rv_ne, rl_self, rl_ne, rA_self, rA_ne, rL_self, rL_ne, rR_self, rR_ne, xvl, xvA, xvL, xvR, xlv, xlA, xlL, xlR, xAv, xAl, xAL, xAR, xLv, xLl, xLA, xLR, xRv, xRl, xRA, xRL]
        exact w_u_ne _ _ (by omega)
      · simp (disch := omega) only [rv_self, rv_ne, rl_self, rl_ne, rA_self, rA_ne, rL_self, rL_ne, rR_self, rR_ne, xvl, xvA, xvL, xvR, xlv, xlA, xlL, xlR, xAv, xAl, xAL, xAR, xLv, xLl, xLA, xLR, xRv, xRl, xRA, xRL]
      · simp (disch := omega) only [rv_self, rv_ne, rl_self, rl_ne, rA_self, rA_ne, rL_self, rL_ne, rR_self, rR_ne, xvl, xvA, xvL, xvR, xlv, xlA, xlL, xlR, xAv, xAl, xAL, xAR, xLv, xLl, xLA, xLR, xRv, xRl, xRA, xRL]
        exact w_u_ne _ _ (by omega)
    have hgn := seg_n os (4 * i) os.length hL.2.2.2.2.2.1 (Nat.le_refl _)
    have hku := keep_trans (i := i) (b := cb) (g := sA U 284 (4 * i)) (w := sv U 249 35) (S := U) (S1 := V) (S2 := aeS V i os.length) ⟨hk.1, hk.2.1, hk.2.2.1, fun j j0 j1 => hk.2.2.2.1 j j0 (by omega), hk.2.2.2.2.1, fun j hj => k6 j (by omega), fun j hj => hk.2.2.2.2.2.2.1 j (by omega), fun j hj => k8 j (by omega)⟩ hkae (Int.le_refl _) (Int.le_refl _) (Int.le_refl _) (Int.le_refl _)
    have hLW := LR_ae (ou := (expL T n rc a []).2.2) hLV (by omega) (by omega) (by omega) (by omega) (by rw [e78, hg78]; exact v16)
    have f282 : ∀ k, ¬ k = 46 → sv (aeS V i os.length) 249 k = sv V 249 k := fun k hk => by
      unfold aeS
      simp (disch := omega) only [rv_self, rv_ne, rl_self, rl_ne, rA_self, rA_ne, rL_self, rL_ne, rR_self, rR_ne, xvl, xvA, xvL, xvR, xlv, xlA, xlL, xlR, xAv, xAl, xAL, xAR, xLv, xLl, xLA, xLR, xRv, xRl, xRA, xRL]
    refine KG hz (by omega) (aeS V i os.length) S2 (s2 + 1) z (fun y => hq2.1 (by omega)) (fun y => hq2.2 (by omega)) (rtab_fr v1 hfae (by omega)) ?_ hLW hku (by unfold aeS; simp (disch := omega) only [rv_self, rv_ne, rl_self, rl_ne, rA_self, rA_ne, rL_self, rL_ne, rR_self, rR_ne, xvl, xvA, xvL, xvR, xlv, xlA, xlL, xlR, xAv, xAl, xAL, xAR, xLv, xLl, xLA, xLR, xRv, xRl, xRA, xRL]) (by rw [f282 29 (by decide)]; omega) (by rw [f282 23 (by decide)]; exact v11) ?_ ?_ ?_ (by rw [f282 35 (by decide)]; exact hv35) ?_ (by rw [f282 32 (by decide)]; exact v15) (by omega) (by omega)
    · rw [v2]
      exact (nmR_fr hfae (by decide)).symm
    · rw [fr_gA hfae (by omega)]
      exact (k8 (4 * i) (by omega)).1
    · unfold aeS
      simp (disch := omega) only [rv_self, rv_ne, rl_self, rl_ne, rA_self, rA_ne, rL_self, rL_ne, rR_self, rR_ne, xvl, xvA, xvL, xvR, xlv, xlA, xlL, xlR, xAv, xAl, xAL, xAR, xLv, xLl, xLA, xLR, xRv, xRl, xRA, xRL]
      rw [w_u_ne _ _ (by omega)]
      exact (k8 (4 * i) (by omega)).2
    · rw [hln, f282 32 (by decide)]
      unfold aeS
      simp (disch := omega) only [rv_self, rv_ne, rl_self, rl_ne, rA_self, rA_ne, rL_self, rL_ne, rR_self, rR_ne, xvl, xvA, xvL, xvR, xlv, xlA, xlL, xlR, xAv, xAl, xAL, xAR, xLv, xLl, xLA, xLR, xRv, xRl, xRA, xRL]
      rw [show 4 * i + ((os.length : Int) + 1) = 4 * i + ((os.length : Int) + 1) from rfl, w_u_self]
    · rw [f282 35 (by decide), fr_gA hfae (by omega), (k8 (4 * i + as.length) (by omega)).1]
      omega
theorem RA {sc : x_S} {d : Nat} {Q : Option Value → w_S → Prop} {nm : Nat → Int64} {sg : Nat → Nat} {T : List Mac} {n : Nat} (H : RXp sc d Q nm sg T n) (hd : 7 ≤ d) (hM : ∀ k : Int, 0 ≤ k → k < T.length → mok (mg T k)) (hB : ∀ k : Int, 0 ≤ k → k < T.length → bg (mg T k)) {i cb m : Int} {e : Mac} {t c : ETok} {as : List (List ETok)} (hS0 : LSp nm m e t as) (hs40 : sumlen as ≤ 40) (hcb : cb ≤ 1320) : ∀ (A3 : List (List ETok)) (U : w_S) (a : List ETok) (os : List (List ETok)) (rc s : Int), ARp U nm sg T i cb rc m e t c as os a → as.drop os.length = a :: A3 → (∀ k, (os.getD k []).length ≤ 40) → lall os → (∀ a, a ∈ os → lgw a) → sv U 249 29 + sv U 249 32 + sumlen A3 ≤ 160 + 40 * rc → 0 ≤ s → s + a.length + sumlen A3 + A3.length + 1 + 85 * (30 - rc) ≤ 98960 → 40 + 100 * (31 - rc) ≤ n → (∀ W S2 s2 z, (exArgs (fun r a => expL T n r a []) (a :: A3) rc).1 = 0 → RPp nm W i e t c as (os ++ (exArgs (fun r a => expL T n r a []) (a :: A3) rc).2.2) (some (.int (iZ z))) S2 → LRp nm W i m e t c as (os ++ (exArgs (fun r a => expL T n r a []) (a :: A3) rc).2.2) → keepp U W i cb (sA U 284 (4 * i)) (sv U 249 35) → sv W 249 46 = i → sv W 249 29 = cb → sv W 249 23 = (exArgs (fun r a => expL T n r a []) (a :: A3) rc).2.1 → sA W 283 (4 * i) = sA U 283 (4 * i) → sA W 284 (4 * i) = sA U 284 (4 * i) → s + 1 ≤ s2 → s2 ≤ s + a.length + sumlen A3 + A3.length + 1 + 85 * ((exArgs (fun r a => expL T n r a []) (a :: A3) rc).2.1 - rc) → HDp sc d S2 Q s2 z) → (∀ S2 s2, ¬ (exArgs (fun r a => expL T n r a []) (a :: A3) rc).1 = 0 → sv S2 249 23 = (exArgs (fun r a => expL T n r a []) (a :: A3) rc).2.1 → ERp U S2 → 0 ≤ s2 → s2 ≤ 100000 → HDp sc d S2 Q s2 (exArgs (fun r a => expL T n r a []) (a :: A3) rc).1) → HDp sc d U Q s 0 := by
  intro A3
  induction A3 with
  | nil =>
    intro U a os rc s hA hdr ho4 hlo hgo hcap s0 hst hfu K1 K2
    have hdg := drop_get hdr
    have hal : as.length = os.length + 1 := by
      have := congrArg List.length hdr
      rw [List.length_drop] at this
      simp only [List.length_cons, List.length_nil] at this
      omega
    have hs0 : sumlen ([] : List (List ETok)) = 0 := rfl
    rw [hs0, List.length_nil] at hst K1
    rw [hs0] at hcap
    have xr := expL_r hM n rc a [] hA.2.2.2.2.2.1
    refine RA1 H hd hM hB hS0 hs40 hcb (q := 0) hA hdg.2.2 hdg.1 ho4 hlo hgo (Int.le_refl 0) hcap s0 (by omega) hfu ?_ ?_ ?_
    · intro S2 s2 h0 h1 h2 h3 h4
      rw [exA_1 h0] at K2
      exact K2 S2 s2 h0 h1 h2 h3 h4
    · intro h0 h40 S2 s2 h1 h2 h3 h4
      rw [exA_2 h0 h40] at K2
      exact K2 S2 s2 (by show ¬ (7 : Int) = 0; decide) h1 h2 h3 h4
    · intro h0 h40 W S2 s2 z hp hr w1 w2 w3 w4 w5 w6 w7 w8 w9 w10 w11 w12 w13 w14 w15
      rw [exA_3 h0 (by omega)] at K1
      exact K1 W S2 s2 z rfl (hr (by rw [List.length_append]; simp; omega)) w3 w4 w5 w6 w7 w8 w9 w14 (by show s2 ≤ s + a.length + 0 + ((0 : Nat) : Int) + 1 + 85 * ((expL T n rc a []).2.1 - rc); omega)
  | cons a2 A4 ih =>
    intro U a os rc s hA hdr ho4 hlo hgo hcap s0 hst hfu K1 K2
    have hdg := drop_get hdr
    have hdg2 := drop_get hdg.2.1
    have hs2 : sumlen (a2 :: A4) = a2.length + sumlen A4 := rfl
    have hsn := sumlen_n A4
    have hrc := hA.2.2.2.2.2.1
    have hirc := hA.2.2.2.2.1
    have hi0 := hA.2.2.2.1
    have hp3 := hS0.2.2.1.1
    have hpa := hS0.2.2.2.2.2.2.2.2.1
    rw [hs2, List.length_cons] at hst K1
    rw [hs2] at hcap
    have xr := expL_r hM n rc a [] hrc
    refine RA1 H hd hM hB hS0 hs40 hcb (q := a2.length + sumlen A4) hA hdg.2.2 hdg.1 ho4 hlo hgo (by omega) (by omega) s0 (by omega) hfu ?_ ?_ ?_
    · intro S2 s2 h0 h1 h2 h3 h4
      rw [exA_1 h0] at K2
      exact K2 S2 s2 h0 h1 h2 h3 h4
    · intro h0 h40 S2 s2 h1 h2 h3 h4
      rw [exA_2 h0 h40] at K2
      exact K2 S2 s2 (by show ¬ (7 : Int) = 0; decide) h1 h2 h3 h4
    · intro h0 h40 W S2 s2 z hp hr w1 w2 w3 w4 w5 w6 w7 w8 w9 w10 w11 w12 w13 w14 w15
      rw [exA_3 h0 (by omega)] at K1 K2
      have hln : (os ++ [(expL T n rc a []).2.2]).length = os.length + 1 := by rw [List.length_append]; rfl
      have hpu := hp (by omega)
      rw [hln, hdg2.1] at hpu
      have hkp := push_keep (i := i) (b := cb) (g := sA U 284 (4 * i)) (w := sv U 249 35) hpu (by omega)
      obtain ⟨p1, p2, p3, p4, p5, p6, p7, p8, p9⟩ := hpu
      have hkU := keep_trans w4 hkp (Int.le_refl _) (Int.le_refl _) (Int.le_refl _) (Int.le_refl _)
      have xz := (xr.2.2.2.2 h0).1
      rw [List.length_nil] at xz
      have hU29 := hA.2.2.2.2.2.2.2.2.1
      have hU35 := hA.2.2.2.2.2.2.2.2.2.2.2.2.2.2.2.1
      have hU32 := hA.2.2.2.2.2.2.2.2.2.2.2.2.2.2.2.2
      have n32 := p3 32 (by decide)
      have n35 := p3 35 (by decide)
      have n23 := p3 23 (by decide)
      have g83 := fr_gA p2 (a := 283) (by omega)
      have g84 := fr_gA p2 (a := 284) (by omega)
      have la : loks a := by rw [← hdg.1]; exact lall_get hS0.2.2.2.2.2.2.2.2.2.2.1 _
      have ga : lgw a := by rw [← hdg.1]; exact lgw_get hS0.2.2.2.2.2.2.2.2.2.2.2 _
      refine HD_eq (Value.int.inj (Option.some.inj p1)) (ih S2 a2 (os ++ [(expL T n rc a []).2.2]) (expL T n rc a []).2.1 s2 ⟨rtab_fr w1 p2 (by omega), by rw [w2]; exact (nmR_fr p2 (by omega)).symm, p4, hi0, by omega, xr.2.2.2.1, by rw [p8, w_u_self]; exact w6, hA.2.2.2.2.2.2.2.1, by omega, by rw [p5]; exact p6, by omega, LR_fr w3 p2 (by omega), by rw [g84, n32]; exact w10, by rw [p9, w_u_self, n32], by rw [g83, n35]; exact w12, by omega, by omega⟩ (by rw [hln]; exact hdg.2.1) (os_40 ho4 h40) ?_ ?_ (by omega) (by omega) (by omega) (by omega) ?_ ?_)
      · intro y hy
        rcases List.mem_append.mp hy with q | q
        · exact hlo y q
        · rw [List.mem_singleton.mp q]
          exact (xr.2.2.2.2 h0).2 la (fun x hx => absurd hx (by simp))
      · intro y hy
        rcases List.mem_append.mp hy with q | q
        · exact hgo y q
        · rw [List.mem_singleton.mp q]
          exact expL_gw hM hB n rc a [] hrc h0 ga (fun x hx => absurd hx (by simp))
      · intro W2 S3 s3 z3 x0 x1 x2 x3 x4 x5 x6 x7 x8 x9 x10
        rw [List.append_assoc] at x1 x2
        refine K1 W2 S3 s3 z3 x0 x1 x2 (keep_trans hkU (i2 := i) (b2 := cb) (g2 := sA U 284 (4 * i)) (w2 := sv U 249 35) ?_ (Int.le_refl _) (Int.le_refl _) (Int.le_refl _) (Int.le_refl _)) x4 x5 x6 (by rw [x7, g83]; exact w8) (by rw [x8, g84]; exact w9) (by omega) ?_
        · rw [show sA S2 284 (4 * i) = sA U 284 (4 * i) by rw [g84]; exact w9, show sv S2 249 35 = sv U 249 35 by omega] at x3
          exact x3
        · have x10b : s3 ≤ s2 + a2.length + sumlen A4 + A4.length + 1 + 85 * ((exArgs (fun r a => expL T n r a []) (a2 :: A4) (expL T n rc a []).2.1).2.1 - (expL T n rc a []).2.1) := x10
          show s3 ≤ s + a.length + (a2.length + sumlen A4) + ((A4.length + 1 : Nat) : Int) + 1 + 85 * ((exArgs (fun r a => expL T n r a []) (a2 :: A4) (expL T n rc a []).2.1).2.1 - rc)
          omega
      · intro S3 s3 x0 x1 x2 x3 x4
        exact K2 S3 s3 x0 x1 (ER_t (ER_of hkU) x2) x3 x4
