/-! The loop of the reference, step by step. -/
def HDp (sc : x_S) (d : Nat) (S : w_S) (Q : Option Value → w_S → Prop) (s c : Int) : Prop := ∀ lv : x_L, lv 0 = some (.ref 249) → lv 1 = some (.int (iZ c)) → lv 2 = some (.int (iZ s)) → w_T sc d 136 69 lv [] S Q
theorem r_step {sc : x_S} {d : Nat} {S : w_S} {Q Q1 : Option Value → w_S → Prop} {s : Int} (hd : 0 < d) (s0 : 0 ≤ s) (s1 : s < 100000) (hn : w_T sc (d - 1) 138 0 (x_en 0 [.ref 249]) [] S Q1) (hk : ∀ v S2, Q1 v S2 → ∃ z, v = some (.int (iZ z)) ∧ HDp sc d S2 Q (s + 1) z) : HDp sc d S Q s 0 := by
  intro lv l0 l1 l2
  refine w_iload_n rfl l2 rfl ?_
  refine w_ldcw (v := 100000) rfl rfl rfl ?_
  refine w_ic_ge (pc2 := 91) (pc3 := 76) rfl (by decide) rfl ⟨by omega, by omega⟩ ⟨by decide, by decide⟩ (fun c => ?_) (fun c => ?_)
  · omega
  · refine w_iload_n rfl l1 rfl ?_
    refine w_if_ne (pc2 := 91) (pc3 := 80) rfl (by decide) rfl ⟨by decide, by decide⟩ (fun c2 => absurd rfl c2) (fun c2 => ?_)
    refine w_aload_n rfl l0 rfl ?_
    refine w_CV (as := []) (r := []) (Q1 := Q1) rfl rfl rfl rfl sh_249 (Nat.le_of_ble_eq_true rfl) (Nat.le_of_ble_eq_true rfl) hd rfl hn ?_
    intro v S2 q
    obtain ⟨z, rfl, hz⟩ := hk v S2 q
    show w_T _ _ 136 84 _ [.int (iZ z)] _ _
    refine w_istore_n rfl (by decide) rfl ?_
    refine w_iinc rfl l2 (by decide) rfl ?_
    refine w_goto (pc2 := 69) rfl (by decide) ?_
    exact hz _ (congrArg x_k2 l0) rfl rfl
def keepp (S S2 : w_S) (i b g w : Int) : Prop := fr (fun a => a = 249 ∨ (269 ≤ a ∧ a ≤ 284)) S S2 ∧ (∀ k, ¬ (k = 23 ∨ k = 29 ∨ k = 32 ∨ k = 35 ∨ k = 46) → sv S2 249 k = sv S 249 k) ∧ (∀ j, 0 ≤ j → j < b → sL S2 269 j = sL S 269 j ∧ sA S2 270 j = sA S 270 j) ∧ (∀ j, 0 ≤ j → j < g → sL S2 271 j = sL S 271 j ∧ sA S2 272 j = sA S 272 j) ∧ (∀ j, 0 ≤ j → j < w → sL S2 273 j = sL S 273 j ∧ sA S2 274 j = sA S 274 j) ∧ (∀ j, j ≤ i → sA S2 277 j = sA S 277 j ∧ sA S2 278 j = sA S 278 j) ∧ (∀ j, j < i → sA S2 279 j = sA S 279 j ∧ sA S2 280 j = sA S 280 j ∧ sA S2 281 j = sA S 281 j ∧ sA S2 282 j = sA S 282 j) ∧ (∀ j, j < 4 * i → sA S2 283 j = sA S 283 j ∧ sA S2 284 j = sA S 284 j)
theorem keep_refl (S : w_S) (i b g w : Int) : keepp S S i b g w := ⟨fr_refl _ _, fun _ _ => rfl, fun _ _ _ => ⟨rfl, rfl⟩, fun _ _ _ => ⟨rfl, rfl⟩, fun _ _ _ => ⟨rfl, rfl⟩, fun _ _ => ⟨rfl, rfl⟩, fun _ _ => ⟨rfl, rfl, rfl, rfl⟩, fun _ _ => ⟨rfl, rfl⟩⟩
theorem keep_trans {S S1 S2 : w_S} {i b g w i2 b2 g2 w2 : Int} (h1 : keepp S S1 i b g w) (h2 : keepp S1 S2 i2 b2 g2 w2) (hi : i ≤ i2) (hb : b ≤ b2) (hg : g ≤ g2) (hw : w ≤ w2) : keepp S S2 i b g w := by
  obtain ⟨a1, a2, a3, a4, a5, a6, a7, a8⟩ := h1
  obtain ⟨c1, c2, c3, c4, c5, c6, c7, c8⟩ := h2
  refine ⟨fr_trans a1 c1, fun k hk => (c2 k hk).trans (a2 k hk), fun j j0 j1 => ?_, fun j j0 j1 => ?_, fun j j0 j1 => ?_, fun j j0 => ?_, fun j j0 => ?_, fun j j0 => ?_⟩
  · have x := c3 j j0 (by omega)
    have y := a3 j j0 j1
    exact ⟨x.1.trans y.1, x.2.trans y.2⟩
  · have x := c4 j j0 (by omega)
    have y := a4 j j0 j1
    exact ⟨x.1.trans y.1, x.2.trans y.2⟩
  · have x := c5 j j0 (by omega)
    have y := a5 j j0 j1
    exact ⟨x.1.trans y.1, x.2.trans y.2⟩
  · have x := c6 j (by omega)
    have y := a6 j j0
    exact ⟨x.1.trans y.1, x.2.trans y.2⟩
  · have x := c7 j (by omega)
    have y := a7 j j0
    exact ⟨x.1.trans y.1, x.2.1.trans y.2.1, x.2.2.1.trans y.2.2.1, x.2.2.2.trans y.2.2.2⟩
  · have x := c8 j (by omega)
    have y := a8 j j0
    exact ⟨x.1.trans y.1, x.2.trans y.2⟩
theorem rtab_fr {c : Nat → Prop} {S S2 : w_S} {sg : Nat → Nat} {T : List Mac} (h : rtab S sg T) (f : fr c S S2) (hc : ∀ a, 262 ≤ a → a ≤ 266 → ¬ c a) : rtab S2 sg T := ⟨h.1, h.2.1, h.2.2.1, fun k k0 k1 => ⟨rmac_fr (h.2.2.2.1 k k0 k1).1 f hc, (h.2.2.2.1 k k0 k1).2⟩, fun m m8 hm => by rw [fr_gL f (hc 262 (by decide) (by decide))]; exact h.2.2.2.2 m m8 hm⟩
theorem nmR_fr {c : Nat → Prop} {S S2 : w_S} (f : fr c S S2) (hc : ¬ c 262) : nmR S2 = nmR S := by
  funext q
  unfold nmR
  rw [fr_gL f hc]
/-- the machine at a list -/
def MSp (S : w_S) (nm : Nat → Int64) (sg : Nat → Nat) (T : List Mac) (i b g0 r : Int) (l dn : List ETok) : Prop := rtab S sg T ∧ nm = nmR S ∧ sv S 249 46 = i ∧ 0 ≤ i ∧ i ≤ r ∧ r ≤ 30 ∧ sA S 277 i = b ∧ 0 ≤ b ∧ sv S 249 29 = b + l.length ∧ bw nm (sL S 269) (sA S 270) (sv S 249 29) l ∧ sv S 249 23 = r ∧ 0 ≤ sv S 249 35 ∧ sv S 249 35 ≤ 40 * i ∧ 0 ≤ g0 ∧ sv S 249 32 = g0 + dn.length ∧ fw nm (sL S 271) (sA S 272) g0 dn ∧ sv S 249 29 + sv S 249 32 ≤ 160 + 40 * r
theorem mv_keep {S : w_S} {nm : Nat → Int64} {t : ETok} {i b g w : Int} (hg : g ≤ sv S 249 32) : keepp S (w_v (w_A (w_L (w_v S 249 29 (sv S 249 29 - 1)) 271 (w_u (sL S 271) (sv S 249 32) t.1)) 272 (w_u (sA S 272) (sv S 249 32) (eo nm t))) 249 32 (sv S 249 32 + 1)) i b g w := by
  refine ⟨fr_v (fr_A (fr_L (fr_v (fr_refl _ _) (by omega)) (by omega)) (by omega)) (by omega), fun k hk => ?_, fun j _ _ => ?_, fun j _ _ => ?_, fun j _ _ => ?_, fun j _ => ?_, fun j _ => ?_, fun j _ => ?_⟩
  · simp (disch := omega) only [rv_self, rv_ne, rl_self, rl_ne, rA_self, rA_ne, rL_self, rL_ne, rR_self, rR_ne, xvl, xvA, xvL, xvR, xlv, xlA, xlL, xlR, xAv, xAl, xAL, xAR, xLv, xLl, xLA, xLR, xRv, xRl, xRA, xRL]
  · exact ⟨by simp (disch := omega) only [rv_self, rv_ne, rl_self, rl_ne, rA_self, rA_ne, rL_self, rL_ne, rR_self, rR_ne, xvl, xvA, xvL, xvR, xlv, xlA, xlL, xlR, xAv, xAl, xAL, xAR, xLv, xLl, xLA, xLR, xRv, xRl, xRA, xRL], by simp (disch := omega) only [rv_self, rv_ne, rl_self, rl_ne, rA_self, rA_ne, rL_self, rL_ne, rR_self, rR_ne, xvl, xvA, xvL, xvR, xlv, xlA, xlL, xlR, xAv, xAl, xAL, xAR, xLv, xLl, xLA, xLR, xRv, xRl, xRA, xRL]⟩
  · simp (disch := omega) only [rv_self, rv_ne, rl_self, rl_ne, rA_self, rA_ne, rL_self, rL_ne, rR_self, rR_ne, xvl, xvA, xvL, xvR, xlv, xlA, xlL, xlR, xAv, xAl, xAL, xAR, xLv, xLl, xLA, xLR, xRv, xRl, xRA, xRL]
    exact ⟨w_u_ne _ _ (by omega), w_u_ne _ _ (by omega)⟩
  · exact ⟨by simp (disch := omega) only [rv_self, rv_ne, rl_self, rl_ne, rA_self, rA_ne, rL_self, rL_ne, rR_self, rR_ne, xvl, xvA, xvL, xvR, xlv, xlA, xlL, xlR, xAv, xAl, xAL, xAR, xLv, xLl, xLA, xLR, xRv, xRl, xRA, xRL], by simp (disch := omega) only [rv_self, rv_ne, rl_self, rl_ne, rA_self, rA_ne, rL_self, rL_ne, rR_self, rR_ne, xvl, xvA, xvL, xvR, xlv, xlA, xlL, xlR, xAv, xAl, xAL, xAR, xLv, xLl, xLA, xLR, xRv, xRl, xRA, xRL]⟩
  · exact ⟨by simp (disch := omega) only [rv_self, rv_ne, rl_self, rl_ne, rA_self, rA_ne, rL_self, rL_ne, rR_self, rR_ne, xvl, xvA, xvL, xvR, xlv, xlA, xlL, xlR, xAv, xAl, xAL, xAR, xLv, xLl, xLA, xLR, xRv, xRl, xRA, xRL], by simp (disch := omega) only [rv_self, rv_ne, rl_self, rl_ne, rA_self, rA_ne, rL_self, rL_ne, rR_self, rR_ne, xvl, xvA, xvL, xvR, xlv, xlA, xlL, xlR, xAv, xAl, xAL, xAR, xLv, xLl, xLA, xLR, xRv, xRl, xRA, xRL]⟩
  · exact ⟨by simp (disch := omega) only [rv_self, rv_ne, rl_self, rl_ne, rA_self, rA_ne, rL_self, rL_ne, rR_self, rR_ne, xvl, xvA, xvL, xvR, xlv, xlA, xlL, xlR, xAv, xAl, xAL, xAR, xLv, xLl, xLA, xLR, xRv, xRl, xRA, xRL], by simp (disch := omega) only [rv_self, rv_ne, rl_self, rl_ne, rA_self, rA_ne, rL_self, rL_ne, rR_self, rR_ne, xvl, xvA, xvL, xvR, xlv, xlA, xlL, xlR, xAv, xAl, xAL, xAR, xLv, xLl, xLA, xLR, xRv, xRl, xRA, xRL], by simp (disch := omega) only [rv_self, rv_ne, rl_self, rl_ne, rA_self, rA_ne, rL_self, rL_ne, rR_self, rR_ne, xvl, xvA, xvL, xvR, xlv, xlA, xlL, xlR, xAv, xAl, xAL, xAR, xLv, xLl, xLA, xLR, xRv, xRl, xRA, xRL], by simp (disch := omega) only [rv_self, rv_ne, rl_self, rl_ne, rA_self, rA_ne, rL_self, rL_ne, rR_self, rR_ne, xvl, xvA, xvL, xvR, xlv, xlA, xlL, xlR, xAv, xAl, xAL, xAR, xLv, xLl, xLA, xLR, xRv, xRl, xRA, xRL]⟩
  · exact ⟨by simp (disch := omega) only [rv_self, rv_ne, rl_self, rl_ne, rA_self, rA_ne, rL_self, rL_ne, rR_self, rR_ne, xvl, xvA, xvL, xvR, xlv, xlA, xlL, xlR, xAv, xAl, xAL, xAR, xLv, xLl, xLA, xLR, xRv, xRl, xRA, xRL], by simp (disch := omega) only [rv_self, rv_ne, rl_self, rl_ne, rA_self, rA_ne, rL_self, rL_ne, rR_self, rR_ne, xvl, xvA, xvL, xvR, xlv, xlA, xlL, xlR, xAv, xAl, xAL, xAR, xLv, xLl, xLA, xLR, xRv, xRl, xRA, xRL]⟩
