/-! What a range gives is right at every place. -/
section OKG
variable {Y : Int → Int64} {D : List Dcl} {mt : Int → Int} {n : Int}
theorem VA_oka (hM : MTP Y n mt) (hn : n ≤ 100) {f : Int → Int → Option (List Nd)} {g : Int → Int → Bool} {lo hi : Int} (hlo : 0 ≤ lo) (hhi : hi ≤ n) (hf : ∀ x y N, lo ≤ x → y ≤ hi → Rch Y mt x y → f x y = some N → g x y = true) : ∀ (m : Nat) (x y : Int) (r : List Nd × Int), lo ≤ x → y ≤ hi → Rch Y mt x y → VA Y mt f m x y = some r → oka Y mt g m x y = true
  | 0, x, y, r, _, _, _, h => nns h
  | m + 1, x, y, r, hx, hy, hr, h => by
    rw [VA] at h
    obtain ⟨N, h1, h2⟩ := bind_some h
    have s := see_rch (w := 44) hM (by omega) (by omega : y ≤ n) hr
    rw [oka, Bool.and_eq_true]
    refine ⟨hf _ _ N hx (by omega) s.1 h1, ?_⟩
    by_cases c : see Y mt x y 44 < y
    · rw [if_pos c] at h2 ⊢
      obtain ⟨r2, h3, _⟩ := bind_some h2
      obtain ⟨cc, hc⟩ := s.1
      have q2 := Rch_sp hM cc x _ y hc hr s.2.1 (by omega) (by omega)
      have q3 := Rch_nx q2 c
      rw [nx_p (by rw [see_44 hM (by omega) (by omega) hn c]; decide)] at q3
      exact VA_oka hM hn hlo hhi hf m _ y r2 (by omega) hy q3 h3
    · rw [if_neg c]
theorem VE_ok (hM : MTP Y n mt) (hn : n ≤ 100) : ∀ (f : Nat) (a b : Int) (N : List Nd), VE Y D mt f a b = some N → Rch Y mt a b → 0 ≤ a → b ≤ n → ∀ F : Nat, 1 ≤ F → b - a < F → ok Y D mt F a b true = true
  | 0, a, b, N, h, _, _, _, _, _, _ => nns h
  | f + 1, a, b, N, h, hr, a0, bn, F, f1, f2 => by
    have h0 := h
    rw [VE] at h0
    obtain ⟨L, hL, _⟩ := bind_some h0
    have ab : a < b := by
      by_cases c : a < b
      · exact c
      · rw [show (200 : Nat) = 199 + 1 from rfl, cs, if_pos (by omega), if_pos rfl] at hL
        exact nns hL
    have rn := Rch_nx hr ab
    have g := nxt_gt hM a0 (by omega : a < n)
    have lb := Rch_le rn
    obtain ⟨G, rfl⟩ : ∃ G : Nat, F = G + 1 := ⟨F - 1, by omega⟩
    by_cases cL : L = []
    · subst cL
      rw [VE_1 hL] at h
      have hL2 := hL
      rw [show (200 : Nat) = 199 + 1 from rfl, cs_t ab] at hL2
      rw [ok_t ab]
      by_cases c1 : prf (Y a) = true
      · have hb := prf_nb c1
        rw [if_pos c1] at h
        obtain ⟨N2, h2, _⟩ := bind_some h
        rw [nx_p (by rintro (z | z); exact hb.2.2.2.1 z; exact hb.2.2.2.2 z)] at rn
        rw [if_neg (fun z => hb.2.2.2.1 z.1), if_pos c1]
        exact VE_ok hM hn f (a + 1) b N2 h2 rn (by omega) bn G (by omega) (by omega)
      · rw [if_neg c1] at h
        by_cases c2 : Y a = 40 ∧ isT D (Y (a + 1)) = true
        · rw [if_pos c2] at h hL2
          obtain ⟨N2, h2, _⟩ := bind_some h
          rw [nx_b (Or.inl c2.1)] at rn g lb
          by_cases c3 : cok Y mt a = true
          · rw [if_pos c2, c3, decide_eq_true (by omega : mt a < b), VE_ok hM hn f (mt a + 1) b N2 h2 rn (by omega) bn G (by omega) (by omega)]
            rfl
          · rw [if_neg c3] at hL2
            exact nns hL2
        · rw [if_neg c2] at h hL2
          rw [if_neg c2, if_neg c1]
          rw [if_neg c1] at hL2
          by_cases c3 : a = b - 1
          · by_cases c4 : Y a = 40
            · exfalso
              have q := hM a a0 (by omega) (opb (Or.inl c4))
              rw [nx_b (Or.inl c4)] at lb
              omega
            · rw [if_neg c4] at hL2 ⊢
              by_cases c5 : wk (Y a) = 5 ∨ (wk (Y a) = 4 ∧ isT D (Y a) = false)
              · rw [if_pos c5]
                obtain ⟨G2, rfl⟩ : ∃ G2 : Nat, G = G2 + 1 := ⟨G - 1, by omega⟩
                rw [ok_e (by omega)]
                rfl
              · rw [if_neg c5] at hL2
                exact nns hL2
          · rw [if_neg c3] at h
            -- the last bracket
            have hq : ∃ q, a ≤ q ∧ (Y q = 40 ∨ Y q = 91) ∧ mt q + 1 = b ∧ Rch Y mt a q ∧ (q = a → Y a = 40) ∧ q < b := by
              by_cases c4 : Y a = 40
              · rw [if_pos c4] at hL2
                rw [nx_b (Or.inl c4)] at rn g lb
                by_cases c5 : mt a + 1 = b
                · exact ⟨a, Int.le_refl _, Or.inl c4, c5, Rch_0 a, fun _ => c4, ab⟩
                · obtain ⟨q, q1, q2, q3, q4, q6⟩ := cs_last hM bn 199 (mt a + 1) hL2 rn (by omega) (by omega)
                  exact ⟨q, by omega, q2, q3, Rch_s (by omega) (by rw [nx_b (Or.inl c4)]; exact q4), fun _ => c4, q6⟩
              · rw [if_neg c4] at hL2
                by_cases c5 : wk (Y a) = 5 ∨ (wk (Y a) = 4 ∧ isT D (Y a) = false)
                · have hb := wk_nb (y := Y a) (by rcases c5 with z | z; exact Or.inr z; exact Or.inl z.1)
                  have np : ¬ (Y a = 40 ∨ Y a = 91) := by rintro (z | z); exact hb.2.2.2.2.1 z; exact hb.2.2.2.2.2 z
                  rw [if_pos c5] at hL2
                  rw [nx_p np] at rn
                  obtain ⟨q, q1, q2, q3, q4, q6⟩ := cs_last hM bn 199 (a + 1) hL2 rn (by omega) (by omega)
                  exact ⟨q, by omega, q2, q3, Rch_s (by omega) (by rw [nx_p np]; exact q4), fun z => by omega, q6⟩
                · rw [if_neg c5] at hL2
                  exact nns hL2
            obtain ⟨q, q1, q2, q3, q4, q5, q6⟩ := hq
            have qn : q < n := by omega
            have mq := hM q (by omega) qn (opb q2)
            have eb : mt (b - 1) = q := by rw [show b - 1 = mt q by omega]; exact mq.2.2.2.2
            have rin := bal_rch hM mq.2.2.2.1 (by omega) (by omega : mt q ≤ n)
            rw [eb] at h
            by_cases c4 : q = a
            · rw [if_pos c4] at h
              have c40 := q5 c4
              rw [if_pos c40]
              rw [c4] at rin q3
              rw [show b - 1 = mt a by omega] at h
              obtain ⟨G2, hG2⟩ : ∃ G2 : Nat, G = G2 + 1 := ⟨G - 1, by omega⟩
              rw [VE_ok hM hn f (a + 1) (mt a) N h rin (by omega) (by omega) G (by omega) (by omega), decide_eq_true (by omega : mt a < b), hG2, ok_e (by omega)]
              rfl
            · rw [if_neg c4] at h
              suffices hgoal : ok Y D mt (G + 1) a b true = true by
                rw [ok_t ab, if_neg c2, if_neg c1] at hgoal
                exact hgoal
              have tail : ∀ (hin : ∀ F2 : Nat, 1 ≤ F2 → (mt q - (q + 1)) < F2 → (Y q = 91 → ok Y D mt F2 (q + 1) (mt q) true = true) ∧ (Y q = 40 → (if mt q = q + 1 then true else oka Y mt (fun x y => ok Y D mt F2 x y true) 200 (q + 1) (mt q)) = true)), ∀ F2 : Nat, 1 ≤ F2 → b - q < F2 → ok Y D mt F2 q b false = true := fun hin F2 k1 k2 => by
                obtain ⟨G2, rfl⟩ : ∃ G2 : Nat, F2 = G2 + 1 := ⟨F2 - 1, by omega⟩
                obtain ⟨G3, hG3⟩ : ∃ G3 : Nat, G2 = G3 + 1 := ⟨G2 - 1, by omega⟩
                have hi := hin G2 (by omega) (by omega)
                rw [ok_f (by omega)]
                have te : ok Y D mt G2 (mt q + 1) b false = true := by rw [hG3, ok_e (by omega)]; rfl
                by_cases c91 : Y q = 91
                · rw [if_pos c91, hi.1 c91, decide_eq_true (by omega : mt q < b), te]
                  rfl
                · have c40 : Y q = 40 := q2.resolve_right c91
                  rw [if_neg c91, if_pos c40, hi.2 c40, decide_eq_true (by omega : mt q < b), te]
                  rfl
              have fin : ∀ (N1 : List Nd), VE Y D mt f a q = some N1 → (∀ F2 : Nat, 1 ≤ F2 → (mt q - (q + 1)) < F2 → (Y q = 91 → ok Y D mt F2 (q + 1) (mt q) true = true) ∧ (Y q = 40 → (if mt q = q + 1 then true else oka Y mt (fun x y => ok Y D mt F2 x y true) 200 (q + 1) (mt q)) = true)) → ok Y D mt (G + 1) a b true = true := fun N1 e1 hin => ok_cat hM hn bn 200 a q true (VE_ok hM hn f a q N1 e1 q4 a0 (by omega) 200 (by decide) (by omega)) a0 q1 (by omega) (tail hin) (G + 1) (by omega) (by omega)
              by_cases c91 : Y q = 91
              · rw [if_pos c91] at h
                obtain ⟨N1, e1, h2⟩ := bind_some h
                obtain ⟨N2, e2, _⟩ := bind_some h2
                rw [show b - 1 = mt q by omega] at e2
                exact fin N1 e1 (fun F2 k1 k2 => ⟨fun _ => VE_ok hM hn f (q + 1) (mt q) N2 e2 rin (by omega) (by omega) F2 k1 k2, fun z => by rw [c91] at z; exact absurd z (by decide)⟩)
              · rw [if_neg c91] at h
                obtain ⟨N1, e1, h2⟩ := bind_some h
                obtain ⟨r2, e2, _⟩ := bind_some h2
                rw [show b - 1 = mt q by omega] at e2
                refine fin N1 e1 (fun F2 k1 k2 => ⟨fun z => absurd z c91, fun _ => ?_⟩)
                by_cases c5 : mt q = q + 1
                · rw [if_pos c5]
                · rw [if_neg c5]
                  rw [if_neg (by omega)] at e2
                  refine VA_oka hM hn (lo := q + 1) (hi := mt q) (by omega) (by omega) (fun x y N3 hx hy hrc e3 => ?_) 200 (q + 1) (mt q) r2 (Int.le_refl _) (Int.le_refl _) rin e2
                  exact VE_ok hM hn f x y N3 e3 hrc (by omega) (by omega) F2 k1 (by omega)
    · rw [VE_2 hL cL] at h
      obtain ⟨N1, h1, h2⟩ := bind_some h
      obtain ⟨N2, h3, _⟩ := bind_some h2
      have hp := (pick_in (Y := Y) L (-1) 9).2 cL (by decide)
      have hm := cs_mem hM bn 200 a true L hL hr a0 _ hp
      have l1 := Rch_le hm.1
      have hb := stq_nb hm.2.2.1
      refine ok_cat hM hn bn 200 a (pickN Y L (-1) 9) true (VE_ok hM hn f a _ N1 h1 hm.1 a0 (by omega) 200 (by decide) (by omega)) a0 l1 (by omega) (fun F2 k1 k2 => ?_) (G + 1) (by omega) (by omega)
      obtain ⟨G2, rfl⟩ : ∃ G2 : Nat, F2 = G2 + 1 := ⟨F2 - 1, by omega⟩
      rw [ok_f hm.2.2.2, if_neg hb.2.2.2.2, if_neg hb.2.2.2.1, if_neg (by omega)]
      by_cases c9 : G2 = 0
      · exfalso
        have := Rch_le hm.2.1
        omega
      · by_cases c8 : pickN Y L (-1) 9 + 1 < b
        · exact VE_ok hM hn f _ b N2 h3 hm.2.1 (by omega) bn G2 (by omega) (by omega)
        · exfalso
          have e : pickN Y L (-1) 9 + 1 = b := by omega
          rw [e] at h3
          cases f with
          | zero => exact nns h3
          | succ f =>
            rw [VE] at h3
            obtain ⟨L3, h4, _⟩ := bind_some h3
            rw [show (200 : Nat) = 199 + 1 from rfl, cs, if_pos (Int.le_refl _), if_pos rfl] at h4
            exact nns h4
end OKG
