/-! The class, from the first file to what has come out. -/
def CIv (S : w_S) (F : Int → (Int → Int) × Int) : Prop := (∃ pi : Nat → Nat, (∀ k, k < 8 → pi k < 8) ∧ (∀ j k, j < 8 → k < 8 → pi j = pi k → j = k) ∧ (∀ k : Int, 0 ≤ k → k < 8 → sR S 5 k = some (6 + 3 * pi k.toNat))) ∧ (∀ k : Int, 0 ≤ k → k < 31 → sR S 42 k = some (43 + 5 * k.toNat)) ∧ (∀ k : Int, 0 ≤ k → k < 4 → sR S 201 k = some (202 + 8 * k.toNat)) ∧ (∀ k : Int, 0 ≤ k → k < 3 → sR S 1 k = some (243 + 2 * k.toNat) ∧ sv S (243 + 2 * k.toNat) 1 = (F k).2 ∧ sA S (244 + 2 * k.toNat) = (F k).1)
theorem CIv_fr {c : Nat → Prop} {S S2 : w_S} {F : Int → (Int → Int) × Int} {T : List Mac} (h : CIv S F) (g : fr c S S2) (hc : ∀ a, c a → FRN a) (h1 : ∃ pi, ctab S2 pi T) : CIv S2 F := by
  have nc : ∀ a, ¬ FRN a → ¬ c a := fun a h z => h (hc a z)
  have n1 : ¬ c 1 := nc 1 (by unfold FRN; omega)
  have n2 : ¬ c 42 := nc 42 (by unfold FRN; omega)
  have n3 : ¬ c 201 := nc 201 (by unfold FRN; omega)
  obtain ⟨pi, hp⟩ := h1
  refine ⟨⟨pi, hp.2.2.1, hp.2.2.2.1, hp.2.2.2.2.1⟩, by rw [fr_gR g n2]; exact h.2.1, by rw [fr_gR g n3]; exact h.2.2.1, fun k k0 k1 => ?_⟩
  have q := h.2.2.2 k k0 k1
  exact ⟨by rw [fr_gR g n1]; exact q.1, by rw [fr_gv g (nc _ (by unfold FRN; omega))]; exact q.2.1, by rw [fr_gA g (nc _ (by unfold FRN; omega))]; exact q.2.2⟩
theorem c_run0 {sc : x_S} {F : Int → (Int → Int) × Int} (hF : Fok F) {d : Nat} (hd : 140 ≤ d) {S V : w_S} {f : Int} (f0 : 0 ≤ f) (f2 : f ≤ 2) (hI : CIv S F) (g : fr (fun a => a = 2 ∨ a = 3 ∨ a = 4 ∨ a = 30 ∨ a = 202 ∨ a = 203) S V) (h2 : sv V 2 3 = 0) (h3 : sv V 2 4 = 0) (h4 : sv V 3 2 = 0) (h5 : sv V 4 1 = 0) (h6 : sv V 30 2 = 0) (hR : RST V 0 f) : HRp sc d V (PRq S (pall F f)) 0 0 := by
  have hn : ∀ a, ¬ (a = 2 ∨ a = 3 ∨ a = 4 ∨ a = 30 ∨ a = 202 ∨ a = 203) → ¬ (a = 2 ∨ a = 3 ∨ a = 4 ∨ a = 30 ∨ a = 202 ∨ a = 203) := fun a h => h
  have hct : ∃ pi, ctab V pi [] := by
    obtain ⟨pi, p1, p2, p3⟩ := hI.1
    exact ⟨pi, h5, by decide, p1, p2, by rw [fr_gR g (by omega)]; exact p3, fun k k0 k1 => absurd k1 (by rw [List.length_nil]; omega)⟩
  have hP : CPp V F [] 0 [] 0 ((0 : Nat) : Int) := by
    refine ⟨hct, by rw [fr_gR g (by omega)]; exact hI.2.1, by rw [fr_gR g (by omega)]; exact hI.2.2.1, fun k k0 k1 => ?_, h2, h3, h4, h6, trivial⟩
    have q := hI.2.2.2 k k0 k1
    exact ⟨by rw [fr_gR g (by omega)]; exact q.1, by rw [fr_gv g (by omega)]; exact q.2.1, by rw [fr_gA g (by omega)]; exact q.2.2⟩
  have gV : fr FRN S V := fr_mono g (fun a h => by unfold FRN; omega)
  have hFf := hF f f0 f2
  refine c_loopR hF hd (l := 0) (by decide) f0 f2 hP hR (by decide) (by decide) (fun S3 f3 hn3 => ?_)
  have g3 : fr FRN S S3 := fr_w gV f3 (fun a h => by unfold FRN; omega)
  have f31 : ∀ a, a ≤ 197 → ¬ ((198 ≤ a ∧ a ≤ 200) ∨ (202 + 8 * 0 ≤ a ∧ a ≤ 207 + 8 * 0)) := fun a h => by omega
  have hcp3 : CPp S3 F [] 0 [] 0 ((0 : Nat) : Int) := by
    obtain ⟨p3, hp3⟩ := hct
    refine CP_fr hP f3 (fun a h => by unfold FRN; omega) ⟨p3, ctab_fr hp3 f3 (fun a _ a1 => f31 a (by omega))⟩ ?_ ?_ ?_ ?_ ?_
    · rw [fr_gv f3 (f31 2 (by omega))]; exact h2
    · rw [fr_gv f3 (f31 2 (by omega))]; exact h3
    · rw [fr_gv f3 (f31 3 (by omega))]; exact h4
    · rw [fr_gv f3 (f31 30 (by omega))]; exact h6
    · exact trivial
  unfold pall
  by_cases hs : (psc F f).1 = 0
  · rw [if_neg (not_not_intro hs), hs]
    have hfn := hFf.2.2.2.2.2 hs
    have hn160 : (psc F f).2.length ≤ 160 := hfn.1.2.1
    have em : mu [newf (psc F f).2] = ((psc F f).2.length : Int) - 0 + 1 + 0 := rfl
    refine c_loop hF hd 2000 [newf (psc F f).2] S3 [] 0 [] 0 (0 + 1) g3 (fun z hz => ?_) (by show (1 : Nat) ≤ 4; decide) ?_ ⟨hn3, trivial⟩ hcp3 (by decide) (by decide) (by decide) (by decide) (by decide) (by decide) (by rw [em]; omega) (by rw [em]; omega)
    · rw [List.mem_singleton.1 hz]; exact hfn
    · exact ⟨⟨fun k k0 k1 => absurd k1 (by rw [List.length_nil]; omega), fun j k h => absurd h (by rw [List.length_nil]; omega)⟩, by decide, fun k k0 k1 => absurd k1 (by rw [List.length_nil]; omega)⟩
  · rw [if_pos hs]
    refine c_hd0 (by decide) (by decide) hFf.2.2.2.1 (by have := hFf.2.2.2.2.1; omega) (by rw [hcp3.2.2.2.2.1]; decide) (by rw [hcp3.2.2.2.2.1]; decide) (Or.inl hs) ?_
    exact ⟨rfl, g3, hcp3.1, hcp3.2.2.2.2.2.2.1, fun z => absurd z hs⟩
theorem c_xrs {sc : x_S} {d : Nat} {S : w_S}  (hd : 0 ≤ d) : w_T sc d 20 0 (x_en 0 [.ref 3]) [] S (fun v S2 => v = none ∧ S2 = w_v (w_v (w_v S 4 1 0) 30 2 0) 3 2 0) := by
  refine w_aload_n rfl rfl rfl ?_
  refine w_getR rfl rfl sh_3 rfl rfl ?_
  refine w_iconst rfl rfl ?_
  refine w_putf rfl rfl sh_4 rfl rfl (by decide) rfl ?_
  refine w_aload_n rfl rfl rfl ?_
  refine w_getR rfl rfl sh_3 rfl rfl ?_
  refine w_iconst rfl rfl ?_
  refine w_putf rfl rfl sh_30 rfl rfl (by decide) rfl ?_
  refine w_aload_n rfl rfl rfl ?_
  refine w_iconst rfl rfl ?_
  refine w_putf rfl rfl sh_3 rfl rfl (by decide) rfl ?_
  refine w_vret rfl rfl ?_
  exact ⟨rfl, rfl⟩
theorem c_run {sc : x_S} {d : Nat} {S : w_S} {F : Int → (Int → Int) × Int} {f : Int} (hF : Fok F) (hI : CIv S F) (f0 : 0 ≤ f) (f2 : f ≤ 2) (hd : 150 ≤ d) : w_T sc d 64 0 (x_en 0 [.ref 2, .ref 1, .int (iZ f)]) [] S (PRq S (pall F f)) := by
  refine w_aload_n rfl rfl rfl ?_
  refine w_getR rfl rfl sh_2 rfl rfl ?_
  refine w_CV (as := []) (r := []) rfl rfl rfl rfl sh_3 (Nat.le_of_ble_eq_true rfl) (Nat.le_of_ble_eq_true rfl) (by omega) rfl (c_xrs (by omega)) ?_
  rintro _ _ ⟨rfl, hS⟩
  rw [hS]
  show w_T _ _ 64 7 _ [] _ _
  refine w_aload_n rfl rfl rfl ?_
  refine w_iconst rfl rfl ?_
  refine w_putf rfl rfl sh_2 rfl rfl (by decide) rfl ?_
  refine w_aload_n rfl rfl rfl ?_
  refine w_iconst rfl rfl ?_
  refine w_putf rfl rfl sh_2 rfl rfl (by decide) rfl ?_
  refine w_aload_n rfl rfl rfl ?_
  refine w_getR rfl rfl sh_2 rfl rfl ?_
  refine w_iconst rfl rfl ?_
  refine w_aald rfl sh_201 rfl (by omega) (by omega) (by decide) (by have q := hI.2.2.1 0 (by decide) (by decide); exact q) rfl ?_
  refine w_iload_n rfl rfl rfl ?_
  refine w_CV (as := [.int (iZ f)]) (r := []) rfl rfl rfl rfl sh_202 (Nat.le_of_ble_eq_true rfl) (Nat.le_of_ble_eq_true rfl) (by omega) rfl (c_rst (l := 0) (f := f) (by decide) (by omega)) ?_
  rintro _ V ⟨rfl, hrd⟩
  show w_T _ _ 64 27 _ [] _ _
  refine w_iconst rfl rfl ?_
  refine w_istore_n rfl (by decide) rfl ?_
  refine w_iconst rfl rfl ?_
  refine w_istore rfl (by decide) rfl ?_
  refine c_run0 hF (by omega) f0 f2 hI (fr_w (fr_v (fr_v (fr_v (fr_v (fr_v (fr_refl _ S) (by omega)) (by omega)) (by omega)) (by omega)) (by omega)) hrd.1 (fun a h => by omega)) ?_ ?_ ?_ ?_ ?_ hrd.2 _ (by exact rfl) (by exact rfl) (by exact rfl) (by exact rfl)
  · rw [fr_gv hrd.1 (by omega)]; rfl
  · rw [fr_gv hrd.1 (by omega)]; rfl
  · rw [fr_gv hrd.1 (by omega)]; rfl
  · rw [fr_gv hrd.1 (by omega)]; rfl
  · rw [fr_gv hrd.1 (by omega)]; rfl
