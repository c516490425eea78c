/-! The reference, from the first file to what has come out. -/
def PRs (S : w_S) (q : Prs) (S2 : w_S) : Prop := sv S2 249 50 = q.1 ∧ fr RFN S S2 ∧ (∀ k, ¬ (RSL k ∨ k = 50 ∨ k = 56) → sv S2 249 k = sv S 249 k) ∧ sv S2 249 56 = 0 ∧ (∃ sg, rtab S2 sg q.2.1) ∧ sv S2 249 23 = q.2.2.1 ∧ (q.1 = 0 → sv S2 249 49 = q.2.2.2.length ∧ ofn (sL S2 285) (sA S2 286) 1 0 q.2.2.2)
theorem rtab_0 {S : w_S} (h : ∀ j : Int, 0 ≤ j → j < 8 → sL S 262 j = 0) : rtab S (fun k => k) [] := ⟨by decide, fun k hk => absurd hk (by rw [List.length_nil]; omega), fun j k hj => absurd hj (by rw [List.length_nil]; omega), fun k k0 k1 => absurd k1 (by rw [List.length_nil]; omega), fun m hm _ => h m (by omega) (by omega)⟩
theorem r_tr0 {sc : x_S} {F : Int → (Int → Int) × Int} (hF : Fok F) {d : Nat} (hd : 70 ≤ d) {S W V : w_S} {Q : Option Value → w_S → Prop} {f : Int} (f0 : 0 ≤ f) (f2 : f ≤ 2) (hR : RT S F) (g : fr (fun a => a = 249 ∨ a = 262) S W) (hv : ∀ k, ¬ (k = 23 ∨ k = 49 ∨ k = 26 ∨ k = 12 ∨ k = 13 ∨ k = 16 ∨ k = 17 ∨ k = 56) → sv W 249 k = sv S 249 k) (h0 : ∀ k, (k = 23 ∨ k = 49 ∨ k = 26 ∨ k = 12 ∨ k = 13 ∨ k = 16 ∨ k = 17 ∨ k = 56) → sv W 249 k = 0) (hm : ∀ j : Int, 0 ≤ j → j < 8 → sL W 262 j = 0) {v : Option Value} (hrd : RDp W f v V) (K : ∀ S2, PRs S (pall F f) S2 → K118 sc d S2 Q) : HR2 sc d (w_v V 249 50 (psc F f).1) Q 0 := by
  have hRW : RT W F := RT_fr hR g (by decide)
  have hFf := hF f f0 f2
  unfold RDp at hrd
  rw [psc_of hF hRW f0 f2] at hrd
  obtain ⟨d1, d2, d3, d4⟩ := hrd
  have gV : fr RFN S (w_v V 249 50 (psc F f).1) := fr_v (fr_trans (fr_mono g (fun a h => by unfold RFN; omega)) (fr_mono d2 (fun a h => by unfold RFN; omega))) (Or.inl rfl)
  have hvV : ∀ k, ¬ (k = 5 ∨ k = 50) → sv (w_v V 249 50 (psc F f).1) 249 k = sv W 249 k := fun k hk => by rw [rv_ne (by omega), d3 k (by omega)]
  have h50 : sv (w_v V 249 50 (psc F f).1) 249 50 = (psc F f).1 := rv_self _ _ _ _
  have gW : fr (fun a => a = 249 ∨ (252 ≤ a ∧ a ≤ 259)) W (w_v V 249 50 (psc F f).1) := fr_v d2 (Or.inl rfl)
  have ht : rtab (w_v V 249 50 (psc F f).1) (fun k => k) [] := rtab_0 (fun j j0 j1 => by rw [fr_gL gW (by decide)]; exact hm j j0 j1)
  by_cases hs : (psc F f).1 = 0
  · have hfn := hFf.2.2.2.2.2 hs
    have hn160 : (psc F f).2.length ≤ 160 := hfn.1.2.1
    have em : mu [newf (psc F f).2] = ((psc F f).2.length : Int) - 0 + 1 + 0 := rfl
    obtain ⟨k1, k2, k3, k4, k5, k6⟩ := d4 hs
    rw [h0 12 (by decide)] at k1 k3 k4 k5
    rw [h0 16 (by decide)] at k5
    refine r_loop hF hd (S0 := w_v V 249 50 (psc F f).1) 2000 [newf (psc F f).2] _ [] 0 [] 0 0 ⟨fr_refl _ _, fun _ _ => rfl⟩ (fun z hz => by rw [List.mem_singleton.1 hz]; exact hfn) (fun z hz => absurd hz (by show ¬ z ∈ ([] : List Frm); simp)) (by show (1 : Nat) ≤ 4; decide) ?_ ?_ (by rw [h50]; exact hs) (by decide) (by decide) (by decide) (by decide) (by decide) (by decide) (by rw [em]; omega) (by rw [em]; omega) (fun S2 h2 => K S2 ?_)
    · exact ⟨⟨fun k k0 k1 => absurd k1 (by rw [List.length_nil]; omega), fun j k h => absurd h (by rw [List.length_nil]; omega)⟩, by decide, fun k k0 k1 => absurd k1 (by rw [List.length_nil]; omega)⟩
    · refine ⟨⟨⟨k1, ?_, ?_, ?_, trivial⟩, trivial⟩, ?_, ?_, ?_, ?_, ⟨?_, ?_⟩, ?_, ?_, trivial, ⟨_, ht⟩, RT_fr hRW gW (by decide)⟩
      · show sA V 257 0 = 161 * 0 + 0
        rw [k3]
        exact w_u_self _ _ _
      · show sA V 258 0 = 161 * 0 + ((psc F f).2.length : Int)
        rw [k4]
        exact w_u_self _ _ _
      · show sA V 259 0 = 0
        rw [k5]
        exact w_u_self _ _ _
      · rw [hvV 12 (by decide), h0 12 (by decide)]
        rfl
      · rw [hvV 13 (by decide), h0 13 (by decide)]
      · rw [hvV 16 (by decide), h0 16 (by decide)]
        rfl
      · rw [hvV 17 (by decide), h0 17 (by decide)]
        rfl
      · show fw _ _ _ 0 (grp _ 0 0)
        rw [grp_nil]
        exact trivial
      · rw [hvV 26 (by decide), h0 26 (by decide)]
        show (0 : Int) = ((grp _ 0 0).length : Int)
        rw [grp_nil]
        rfl
      · rw [hvV 23 (by decide), h0 23 (by decide)]
      · rw [hvV 49 (by decide), h0 49 (by decide)]
        rfl
    · have e : pall F f = prun F 2000 [newf (psc F f).2] [] 0 [] 0 := by
        unfold pall
        rw [if_neg (not_not_intro hs)]
      rw [e]
      obtain ⟨p1, p2, p3, p4, p5⟩ := h2
      refine ⟨p1, fr_trans gV p2.1, fun k hk => ?_, ?_, p3, p4, p5⟩
      · rw [p2.2 k (fun z => hk (by unfold RSL at *; omega)), hvV k (fun z => hk (by unfold RSL; omega)), hv k (fun z => hk (by unfold RSL; omega))]
      · rw [p2.2 56 (by unfold RSL; omega), hvV 56 (by decide), h0 56 (by decide)]
  · have e : pall F f = ((psc F f).1, [], 0, []) := by
      unfold pall
      rw [if_pos hs]
    refine r_hd0 (by decide) (by decide) (by rw [h50]; exact hFf.2.2.2.1) (by rw [h50]; have := hFf.2.2.2.2.1; omega) (Or.inl (by rw [h50]; exact hs)) (K _ ?_)
    rw [e]
    refine ⟨h50, gV, fun k hk => ?_, ?_, ⟨_, ht⟩, ?_, fun z => absurd z hs⟩
    · rw [hvV k (fun z => hk (by unfold RSL; omega)), hv k (fun z => hk (by unfold RSL; omega))]
    · rw [hvV 56 (by decide), h0 56 (by decide)]
    · rw [hvV 23 (by decide), h0 23 (by decide)]
theorem r_tr1_c {sc : x_S} {d : Nat} {S : w_S} {Q : Option Value → w_S → Prop} {F : Int → (Int → Int) × Int} {f : Int} (hF : Fok F) (hR : RT S F) (f0 : 0 ≤ f) (f2 : f ≤ 2) (K : ∀ S2, PRs S (pall F f) S2 → K118 sc d S2 Q) (hd : 80 ≤ d) : ∀ n : Nat, (∀ (i : Int) (U : w_S) (lv : x_L) (l0 : lv 0 = some (.ref 249)) (l1 : lv 1 = some (.int (iZ f))) (l2 : lv 2 = some (.int (iZ i))) (i0 : 0 ≤ i) (i1 : i ≤ 8) (hfr : fr (fun a => a = 249 ∨ a = 262) S U) (hvU : ∀ k, sv U 249 k = sv S 249 k) (hz : ∀ j : Int, 0 ≤ j → j < i → sL U 262 j = 0) (hm : (8 - i).toNat < n), w_T sc d 145 13 lv [] U Q) := by
  intro n
  induction n with
  | zero => exact fun i U lv l0 l1 l2 i0 i1 hfr hvU hz hm => absurd hm (Nat.not_lt_zero _)
  | succ n ih =>
    intro i U lv l0 l1 l2 i0 i1 hfr hvU hz hm
    refine w_iload_n rfl l2 rfl ?_
    refine w_bipush rfl (by decide) rfl ?_
    refine w_ic_ge (pc2 := 32) (pc3 := 19) rfl (by decide) rfl ⟨by omega, by omega⟩ ⟨by decide, by decide⟩ (fun c16 => ?_) (fun c16 => ?_)
    · skip
      refine w_aload_n rfl l0 rfl ?_
      refine w_iconst rfl rfl ?_
      refine w_putf rfl rfl sh_249 rfl rfl (by decide) rfl ?_
      refine w_aload_n rfl l0 rfl ?_
      refine w_iconst rfl rfl ?_
      refine w_putf rfl rfl sh_249 rfl rfl (by decide) rfl ?_
      refine w_aload_n rfl l0 rfl ?_
      refine w_iconst rfl rfl ?_
      refine w_putf rfl rfl sh_249 rfl rfl (by decide) rfl ?_
      refine w_aload_n rfl l0 rfl ?_
      refine w_iconst rfl rfl ?_
      refine w_putf rfl rfl sh_249 rfl rfl (by decide) rfl ?_
      refine w_aload_n rfl l0 rfl ?_
      refine w_iconst rfl rfl ?_
      refine w_putf rfl rfl sh_249 rfl rfl (by decide) rfl ?_
      refine w_aload_n rfl l0 rfl ?_
      refine w_iconst rfl rfl ?_
      refine w_putf rfl rfl sh_249 rfl rfl (by decide) rfl ?_
      refine w_aload_n rfl l0 rfl ?_
      refine w_iconst rfl rfl ?_
      refine w_putf rfl rfl sh_249 rfl rfl (by decide) rfl ?_
      refine w_aload_n rfl l0 rfl ?_
      refine w_iconst rfl rfl ?_
      refine w_putf rfl rfl sh_249 rfl rfl (by decide) rfl ?_
      refine w_aload_n rfl l0 rfl ?_
      refine w_aload_n rfl l0 rfl ?_
      refine w_iload_n rfl l1 rfl ?_
      have hRW : RT ((w_v (w_v (w_v (w_v (w_v (w_v (w_v (w_v U 249 23 0) 249 49 0) 249 26 0) 249 12 0) 249 13 0) 249 16 0) 249 17 0) 249 56 0)) F := RT_fr hR (fr_v (fr_v (fr_v (fr_v (fr_v (fr_v (fr_v (fr_v hfr (by first | exact Or.inl rfl | exact Or.inr rfl)) (by first | exact Or.inl rfl | exact Or.inr rfl)) (by first | exact Or.inl rfl | exact Or.inr rfl)) (by first | exact Or.inl rfl | exact Or.inr rfl)) (by first | exact Or.inl rfl | exact Or.inr rfl)) (by first | exact Or.inl rfl | exact Or.inr rfl)) (by first | exact Or.inl rfl | exact Or.inr rfl)) (by first | exact Or.inl rfl | exact Or.inr rfl)) (by decide)
      have hps := psc_of hF hRW f0 f2
      have htf : ∀ f : Int, 0 ≤ f → f ≤ 2 → 0 ≤ sA ((w_v (w_v (w_v (w_v (w_v (w_v (w_v (w_v U 249 23 0) 249 49 0) 249 26 0) 249 12 0) 249 13 0) 249 16 0) 249 17 0) 249 56 0)) 251 f ∧ sA ((w_v (w_v (w_v (w_v (w_v (w_v (w_v (w_v U 249 23 0) 249 49 0) 249 26 0) 249 12 0) 249 13 0) 249 16 0) 249 17 0) 249 56 0)) 251 f ≤ 160 ∧ ∀ i, 0 ≤ i → i < sA ((w_v (w_v (w_v (w_v (w_v (w_v (w_v (w_v U 249 23 0) 249 49 0) 249 26 0) 249 12 0) 249 13 0) 249 16 0) 249 17 0) 249 56 0)) 251 f → 0 ≤ sA ((w_v (w_v (w_v (w_v (w_v (w_v (w_v (w_v U 249 23 0) 249 49 0) 249 26 0) 249 12 0) 249 13 0) 249 16 0) 249 17 0) 249 56 0)) 250 (160 * f + i) ∧ sA ((w_v (w_v (w_v (w_v (w_v (w_v (w_v (w_v U 249 23 0) 249 49 0) 249 26 0) 249 12 0) 249 13 0) 249 16 0) 249 17 0) 249 56 0)) 250 (160 * f + i) < 128 := fun f f0 f2 => by
        have q := hRW f f0 f2
        have q2 := hF f f0 f2
        rw [q.1]
        exact ⟨q2.1, q2.2.1, fun i i0 i1 => by rw [q.2 i i0 i1]; exact q2.2.2.1 i i0 i1⟩
      refine w_CV (as := [.int (iZ f)]) (r := [.ref 249]) rfl rfl rfl rfl sh_249 (Nat.le_of_ble_eq_true rfl) (Nat.le_of_ble_eq_true rfl) (by omega) rfl (w_mono (r_rd (S := (w_v (w_v (w_v (w_v (w_v (w_v (w_v (w_v U 249 23 0) 249 49 0) 249 26 0) 249 12 0) 249 13 0) 249 16 0) 249 17 0) 249 56 0)) (f := f) f0 f2 (htf f f0 f2).1 (htf f f0 f2).2.1 (htf f f0 f2).2.2 (by show (0 : Int) ≤ 0; decide) (by show (0 : Int) ≤ 3; decide) (by omega)) (fun v S2 h => (⟨by rw [h.1, hps], h⟩ : v = some (.int (iZ (psc F f).1)) ∧ RDp (w_v (w_v (w_v (w_v (w_v (w_v (w_v (w_v U 249 23 0) 249 49 0) 249 26 0) 249 12 0) 249 13 0) 249 16 0) 249 17 0) 249 56 0) f v S2))) ?_
      rintro _ V ⟨rfl, hrd⟩
      show w_T _ _ 145 78 _ [.int (iZ ((psc F f).1)), .ref 249] _ _
      refine w_putf rfl rfl sh_249 rfl rfl (by decide) rfl ?_
      refine w_iconst rfl rfl ?_
      refine w_istore_n rfl (by decide) rfl ?_
      refine r_tr0 hF (by omega) f0 f2 hR (fr_v (fr_v (fr_v (fr_v (fr_v (fr_v (fr_v (fr_v hfr (by first | exact Or.inl rfl | exact Or.inr rfl)) (by first | exact Or.inl rfl | exact Or.inr rfl)) (by first | exact Or.inl rfl | exact Or.inr rfl)) (by first | exact Or.inl rfl | exact Or.inr rfl)) (by first | exact Or.inl rfl | exact Or.inr rfl)) (by first | exact Or.inl rfl | exact Or.inr rfl)) (by first | exact Or.inl rfl | exact Or.inr rfl)) (by first | exact Or.inl rfl | exact Or.inr rfl)) ?_ ?_ (fun j j0 j1 => hz j j0 (by omega)) hrd K _ (by exact l0) (by exact rfl)
      · intro k hk
        rw [← hvU k]
        simp only [not_or] at hk
        simp only [sv, w_v]
        simp [hk]
      · intro k hk
        rcases hk with h | h | h | h | h | h | h | h <;> rw [h] <;> rfl
    · skip
      refine w_aload_n rfl l0 rfl ?_
      refine w_getR rfl rfl sh_249 rfl rfl ?_
      refine w_iload_n rfl l2 rfl ?_
      refine w_lconst (v := 0) rfl (by decide) rfl ?_
      refine w_laS (f := sL U 262) rfl sh_262 (by omega) (by omega) (by decide) rfl rfl ?_
      refine w_iinc rfl l2 (by decide) rfl ?_
      refine w_goto (pc2 := 13) rfl (by decide) ?_
      exact ih (i + 1) _ _ (by exact l0) (by exact (congrArg x_k2 l1)) (by exact rfl) (by omega) (by omega) (by exact (fr_L hfr (by omega))) (by intro k; exact hvU k) (by intro j j0 j1; by_cases hj : j = i; (rw [hj]; exact w_u_self _ _ _); (exact (w_u_ne _ _ hj).trans (hz j j0 (by omega)))) (by omega)
theorem r_tr1 {sc : x_S} {d : Nat} {S : w_S} {Q : Option Value → w_S → Prop} {F : Int → (Int → Int) × Int} {f : Int} (hF : Fok F) (hR : RT S F) (f0 : 0 ≤ f) (f2 : f ≤ 2) (K : ∀ S2, PRs S (pall F f) S2 → K118 sc d S2 Q) (hd : 80 ≤ d) : w_T sc d 145 0 (x_en 0 [.ref 249, .int (iZ f)]) [] S Q := by
  refine w_iload_n rfl rfl rfl ?_
  refine w_if_lt (pc2 := 9) (pc3 := 4) rfl (by decide) rfl ⟨by omega, by omega⟩ (fun c1 => ?_) (fun c1 => ?_)
  · omega
  · skip
    refine w_iload_n rfl rfl rfl ?_
    refine w_iconst rfl rfl ?_
    refine w_ic_le (pc2 := 11) (pc3 := 9) rfl (by decide) rfl ⟨by omega, by omega⟩ ⟨by decide, by decide⟩ (fun c6 => ?_) (fun c6 => ?_)
    · skip
      refine w_iconst rfl rfl ?_
      refine w_istore_n rfl (by decide) rfl ?_
      exact (r_tr1_c hF hR f0 f2 K hd _) 0 _ _ rfl rfl rfl (by omega) (by omega) (by exact (fr_refl _ S)) (by intro k; rfl) (by intro j j0 j1; omega) (Nat.lt_succ_self _)
    · omega
