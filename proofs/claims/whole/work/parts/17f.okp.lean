/-! A range that gives an expression is right at every place: the proof. -/
section OKF
variable {Y : Int → Int64} {D : List Dcl} {mt : Int → Int} {n : Int}
theorem ok_le (hM : MTP Y n mt) : ∀ (F : Nat) (k b : Int) (w : Bool), ok Y D mt F k b w = true → 0 ≤ k → b ≤ n → k < b → Rch Y mt k b
  | 0, k, b, w, h, _, _, _ => Bool.noConfusion (show false = true from h)
  | F + 1, k, b, w, h, k0, bn, kb => by
    have go : ∀ {j : Int} {w2 : Bool}, nxt Y mt k = j → j ≤ b → ok Y D mt F j b w2 = true → Rch Y mt k b := fun {j w2} hj hjb ho => by
      have g := nxt_gt hM k0 (by omega : k < n)
      refine Rch_s kb ?_
      rw [hj] at g ⊢
      by_cases c : j < b
      · exact ok_le hM F j b w2 ho (by omega) bn c
      · rw [show j = b by omega]
        exact Rch_0 b
    cases w with
    | true =>
      rw [ok_t kb] at h
      by_cases c1 : Y k = 40 ∧ isT D (Y (k + 1)) = true
      · rw [if_pos c1, Bool.and_eq_true, Bool.and_eq_true] at h
        have := of_decide_eq_true h.2.1
        exact go (nx_b (Or.inl c1.1)) (by omega) h.2.2
      · rw [if_neg c1] at h
        by_cases c2 : prf (Y k) = true
        · rw [if_pos c2] at h
          have hb := prf_nb c2
          exact go (nx_p (by rintro (z | z); exact hb.2.2.2.1 z; exact hb.2.2.2.2 z)) (by omega) h
        · rw [if_neg c2] at h
          by_cases c3 : Y k = 40
          · rw [if_pos c3, Bool.and_eq_true, Bool.and_eq_true] at h
            have := of_decide_eq_true h.2.1
            exact go (nx_b (Or.inl c3)) (by omega) h.2.2
          · rw [if_neg c3] at h
            by_cases c4 : wk (Y k) = 5 ∨ (wk (Y k) = 4 ∧ isT D (Y k) = false)
            · rw [if_pos c4] at h
              have hb := wk_nb (y := Y k) (by rcases c4 with z | z; exact Or.inr z; exact Or.inl z.1)
              exact go (nx_p (by rintro (z | z); exact hb.2.2.2.2.1 z; exact hb.2.2.2.2.2 z)) (by omega) h
            · rw [if_neg c4] at h
              exact Bool.noConfusion h
    | false =>
      rw [ok_f kb] at h
      by_cases c1 : Y k = 91
      · rw [if_pos c1, Bool.and_eq_true, Bool.and_eq_true] at h
        have := of_decide_eq_true h.2.1
        exact go (nx_b (Or.inr c1)) (by omega) h.2.2
      · rw [if_neg c1] at h
        by_cases c2 : Y k = 40
        · rw [if_pos c2, Bool.and_eq_true, Bool.and_eq_true] at h
          have := of_decide_eq_true h.2.1
          exact go (nx_b (Or.inl c2)) (by omega) h.2.2
        · rw [if_neg c2] at h
          by_cases c3 : stq (Y k) < 0
          · rw [if_pos c3] at h
            exact Bool.noConfusion h
          · rw [if_neg c3] at h
            exact go (nx_p (by rintro (z | z); exact c2 z; exact c1 z)) (by omega) h
/-- one and the same with any fuel that is enough; and behind a place where it was right it may go on -/
theorem ok_cat (hM : MTP Y n mt) (hn : n ≤ 100) {b : Int} (bn : b ≤ n) : ∀ (F : Nat) (k s : Int) (w : Bool), ok Y D mt F k s w = true → 0 ≤ k → k ≤ s → s ≤ b → (∀ F2 : Nat, 1 ≤ F2 → b - s < F2 → ok Y D mt F2 s b false = true) → ∀ F2 : Nat, 1 ≤ F2 → b - k < F2 → ok Y D mt F2 k b w = true
  | 0, k, s, w, h, _, _, _, _, _, _, _ => Bool.noConfusion (show false = true from h)
  | F + 1, k, s, w, h, k0, ks, sb, ht, F2, f1, f2 => by
    by_cases cs : k = s
    · rw [ok_e (by omega)] at h
      have : w = false := by revert h; cases w <;> decide
      subst this
      rw [cs] at f2 ⊢
      exact ht F2 f1 f2
    · have kb : k < s := by omega
      obtain ⟨G, rfl⟩ : ∃ G : Nat, F2 = G + 1 := ⟨F2 - 1, by omega⟩
      -- the same range with another fuel
      have fu : ∀ {x y : Int} {w2 : Bool}, 0 ≤ x → x ≤ y → y ≤ n → y - x < G → ok Y D mt F x y w2 = true → ok Y D mt G x y w2 = true := fun {x y w2} x0 xy yn yg ho => ok_cat hM hn yn F x y w2 ho x0 xy (Int.le_refl _) (fun F3 g1 g2 => by
        obtain ⟨G3, rfl⟩ : ∃ G3 : Nat, F3 = G3 + 1 := ⟨F3 - 1, by omega⟩
        rw [ok_e (Int.le_refl _)]
        rfl) G (by omega) yg
      have mtk : (Y k = 40 ∨ Y k = 91) → k < mt k ∧ mt k < n := fun z => by
        have := hM k k0 (by omega) (opb z)
        omega
      cases w with
      | true =>
        rw [ok_t (by omega)] at h ⊢
        by_cases c1 : Y k = 40 ∧ isT D (Y (k + 1)) = true
        · rw [if_pos c1, Bool.and_eq_true, Bool.and_eq_true] at h
          have h2 := of_decide_eq_true h.2.1
          have h3 := mtk (Or.inl c1.1)
          rw [if_pos c1, h.1, decide_eq_true (by omega : mt k < b), ok_cat hM hn bn F _ s true h.2.2 (by omega) (by omega) sb ht G (by omega) (by omega)]
          rfl
        · rw [if_neg c1] at h ⊢
          by_cases c2 : prf (Y k) = true
          · rw [if_pos c2] at h ⊢
            exact ok_cat hM hn bn F _ s true h (by omega) (by omega) sb ht G (by omega) (by omega)
          · rw [if_neg c2] at h ⊢
            by_cases c3 : Y k = 40
            · rw [if_pos c3, Bool.and_eq_true, Bool.and_eq_true] at h
              have h2 := of_decide_eq_true h.2.1
              have h3 := mtk (Or.inl c3)
              rw [if_pos c3, fu (by omega) (by omega) (by omega) (by omega) h.1, decide_eq_true (by omega : mt k < b), ok_cat hM hn bn F _ s false h.2.2 (by omega) (by omega) sb ht G (by omega) (by omega)]
              rfl
            · rw [if_neg c3] at h ⊢
              by_cases c4 : wk (Y k) = 5 ∨ (wk (Y k) = 4 ∧ isT D (Y k) = false)
              · rw [if_pos c4] at h ⊢
                exact ok_cat hM hn bn F _ s false h (by omega) (by omega) sb ht G (by omega) (by omega)
              · rw [if_neg c4] at h
                exact Bool.noConfusion h
      | false =>
        rw [ok_f (by omega)] at h ⊢
        by_cases c1 : Y k = 91
        · rw [if_pos c1, Bool.and_eq_true, Bool.and_eq_true] at h
          have h2 := of_decide_eq_true h.2.1
          have h3 := mtk (Or.inr c1)
          rw [if_pos c1, fu (by omega) (by omega) (by omega) (by omega) h.1, decide_eq_true (by omega : mt k < b), ok_cat hM hn bn F _ s false h.2.2 (by omega) (by omega) sb ht G (by omega) (by omega)]
          rfl
        · rw [if_neg c1] at h ⊢
          by_cases c2 : Y k = 40
          · rw [if_pos c2, Bool.and_eq_true, Bool.and_eq_true] at h
            have h2 := of_decide_eq_true h.2.1
            have h3 := mtk (Or.inl c2)
            have h4 : (if mt k = k + 1 then true else oka Y mt (fun x y => ok Y D mt G x y true) 200 (k + 1) (mt k)) = true := by
              have h1 := h.1
              by_cases c3 : mt k = k + 1
              · rw [if_pos c3]
              · rw [if_neg c3] at h1 ⊢
                refine oka_mono hM hn (lo := k + 1) (hi := mt k) (by omega) (by omega) (fun x y hx hy ho => ?_) 200 (k + 1) (mt k) (Int.le_refl _) (Int.le_refl _) (bal_rch hM (hM k k0 (by omega) (opb (Or.inl c2))).2.2.2.1 (by omega) (by omega)) h1
                by_cases c4 : x ≤ y
                · exact fu (by omega) c4 (by omega) (by omega) ho
                · exfalso
                  cases F with
                  | zero => exact Bool.noConfusion (show false = true from ho)
                  | succ F =>
                    have ho : ok Y D mt (F + 1) x y true = true := ho
                    rw [ok_e (by omega)] at ho
                    exact Bool.noConfusion ho
            rw [if_pos c2, h4, decide_eq_true (by omega : mt k < b), ok_cat hM hn bn F _ s false h.2.2 (by omega) (by omega) sb ht G (by omega) (by omega)]
            rfl
          · rw [if_neg c2] at h ⊢
            by_cases c3 : stq (Y k) < 0
            · rw [if_pos c3] at h
              exact Bool.noConfusion h
            · rw [if_neg c3] at h ⊢
              exact ok_cat hM hn bn F _ s true h (by omega) (by omega) sb ht G (by omega) (by omega)
theorem cs_mem (hM : MTP Y n mt) {b : Int} (bn : b ≤ n) : ∀ (f : Nat) (k : Int) (w : Bool) (L : List Int), cs Y D mt f k b w = some L → Rch Y mt k b → 0 ≤ k → ∀ x, x ∈ L → Rch Y mt k x ∧ Rch Y mt (x + 1) b ∧ 0 ≤ stq (Y x) ∧ x < b
  | 0, k, w, L, h, _, _, _, _ => nns h
  | f + 1, k, w, L, h, hr, k0, x, hx => by
    by_cases kb : b ≤ k
    · rw [cs, if_pos kb] at h
      cases w with
      | true => exact nns h
      | false =>
        cases h
        exact absurd hx (by simp)
    · have kb : k < b := by omega
      have g := nxt_gt hM k0 (by omega : k < n)
      have rn := Rch_nx hr kb
      have go : ∀ {j : Int} {w2 : Bool}, nxt Y mt k = j → cs Y D mt f j b w2 = some L → Rch Y mt k x ∧ Rch Y mt (x + 1) b ∧ 0 ≤ stq (Y x) ∧ x < b := fun {j w2} hj ho => by
        rw [hj] at rn g
        have i := cs_mem hM bn f j w2 L ho rn (by omega) x hx
        have l := Rch_le i.1
        exact ⟨Rch_s (by omega) (by rw [hj]; exact i.1), i.2⟩
      cases w with
      | true =>
        rw [cs_t kb] at h
        by_cases c1 : Y k = 40 ∧ isT D (Y (k + 1)) = true
        · rw [if_pos c1] at h
          by_cases c2 : cok Y mt k = true
          · rw [if_pos c2] at h
            exact go (nx_b (Or.inl c1.1)) h
          · rw [if_neg c2] at h
            exact nns h
        · rw [if_neg c1] at h
          by_cases c2 : prf (Y k) = true
          · rw [if_pos c2] at h
            have hb := prf_nb c2
            exact go (nx_p (by rintro (z | z); exact hb.2.2.2.1 z; exact hb.2.2.2.2 z)) h
          · rw [if_neg c2] at h
            by_cases c3 : Y k = 40
            · rw [if_pos c3] at h
              exact go (nx_b (Or.inl c3)) h
            · rw [if_neg c3] at h
              by_cases c4 : wk (Y k) = 5 ∨ (wk (Y k) = 4 ∧ isT D (Y k) = false)
              · rw [if_pos c4] at h
                have hb := wk_nb (y := Y k) (by rcases c4 with z | z; exact Or.inr z; exact Or.inl z.1)
                exact go (nx_p (by rintro (z | z); exact hb.2.2.2.2.1 z; exact hb.2.2.2.2.2 z)) h
              · rw [if_neg c4] at h
                exact nns h
      | false =>
        rw [cs_f kb] at h
        by_cases c1 : Y k = 40 ∨ Y k = 91
        · rw [if_pos c1] at h
          exact go (nx_b c1) h
        · rw [if_neg c1] at h
          by_cases c3 : stq (Y k) < 0
          · rw [if_pos c3] at h
            exact nns h
          · rw [if_neg c3] at h
            obtain ⟨R, hR, h2⟩ := bind_some h
            cases h2
            rw [nx_p c1] at rn
            rcases List.mem_cons.1 hx with z | z
            · rw [z]
              exact ⟨Rch_0 k, rn, by omega, kb⟩
            · have i := cs_mem hM bn f (k + 1) true R hR rn (by omega) x z
              have l := Rch_le i.1
              exact ⟨Rch_s (by omega) (by rw [nx_p c1]; exact i.1), i.2⟩
theorem cs_last (hM : MTP Y n mt) {b : Int} (bn : b ≤ n) : ∀ (f : Nat) (k : Int), cs Y D mt f k b false = some [] → Rch Y mt k b → 0 ≤ k → k < b → ∃ q, k ≤ q ∧ (Y q = 40 ∨ Y q = 91) ∧ mt q + 1 = b ∧ Rch Y mt k q ∧ q < b
  | 0, k, h, _, _, _ => nns h
  | f + 1, k, h, hr, k0, kb => by
    have g := nxt_gt hM k0 (by omega : k < n)
    have rn := Rch_nx hr kb
    rw [cs_f kb] at h
    by_cases c1 : Y k = 40 ∨ Y k = 91
    · rw [if_pos c1] at h
      rw [nx_b c1] at g rn
      have l := Rch_le rn
      by_cases c2 : mt k + 1 = b
      · exact ⟨k, Int.le_refl _, c1, c2, Rch_0 k, kb⟩
      · obtain ⟨q, q1, q2, q3, q4, q6⟩ := cs_last hM bn f (mt k + 1) h rn (by omega) (by omega)
        exact ⟨q, by omega, q2, q3, Rch_s (by omega) (by rw [nx_b c1]; exact q4), q6⟩
    · rw [if_neg c1] at h
      by_cases c3 : stq (Y k) < 0
      · rw [if_pos c3] at h
        exact nns h
      · rw [if_neg c3] at h
        obtain ⟨R, hR, h2⟩ := bind_some h
        exact absurd (congrArg List.length (Option.some.inj h2)) (by rw [List.length_cons, List.length_nil]; omega)
theorem pick_in : ∀ (L : List Int) (b w : Int), (pickN Y L b w = b ∨ pickN Y L b w ∈ L) ∧ (¬ L = [] → 4 < w → pickN Y L b w ∈ L)
  | [], b, w => ⟨Or.inl rfl, fun z => absurd rfl z⟩
  | k :: r, b, w => by
    have e : pickN Y (k :: r) b w = pickN Y r (if stq (Y k) < w ∨ (stq (Y k) = w ∧ 0 < stq (Y k)) then k else b) (if stq (Y k) < w then stq (Y k) else w) := rfl
    have i := (pick_in r (if stq (Y k) < w ∨ (stq (Y k) = w ∧ 0 < stq (Y k)) then k else b) (if stq (Y k) < w then stq (Y k) else w)).1
    rw [e]
    refine ⟨?_, fun _ hw => ?_⟩
    · rcases i with z | z
      · rw [z]
        split
        · exact Or.inr (by simp)
        · exact Or.inl rfl
      · exact Or.inr (by simp [z])
    · have := (stq_sto (Y k)).2.2.2.1
      rw [if_pos (by omega)] at i ⊢
      rcases i with z | z
      · rw [z]
        simp
      · simp [z]
end OKF
