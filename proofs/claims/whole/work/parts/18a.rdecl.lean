/-! Declarators by ranges. -/
section RD
variable (Y : Int → Int64) (mt : Int → Int)
def rfm : Nat → Int → Int → Option (List Nd)
  | 0, _, _ => none
  | m + 1, k, e => if e ≤ k then some [] else if Y k = 91 ∧ mt k = k + 2 ∧ wk (Y (k + 1)) = 5 then (rfm m (mt k + 1) e).bind (fun F => some ((5, k + 1, 0) :: F)) else if Y k = 40 ∧ mt k = k + 1 then (rfm m (mt k + 1) e).bind (fun F => some ((6, k, 0) :: F)) else none
def rdr : Nat → Int → Int → Option (List Nd)
  | 0, _, _ => none
  | m + 1, l, h => if h ≤ stN Y h l then none else if Y (stN Y h l) = 40 then (rdr m (stN Y h l + 1) (mt (stN Y h l))).bind (fun N => (rfm Y mt 200 (mt (stN Y h l) + 1) h).bind (fun F => some (N ++ F ++ stR (stN Y h l - l).toNat l)))
    else if wk (Y (stN Y h l)) = 4 then (rfm Y mt 200 (stN Y h l + 1) h).bind (fun F => some ([(4, stN Y h l, 0)] ++ F ++ stR (stN Y h l - l).toNat l)) else none
end RD
def stp2 (p : Int64 → Bool) : Prop := ∀ y, p y = true → y = 44 ∨ y = 59 ∨ y = 123 ∨ y = 125 ∨ y = 61
def Wq (Y : Int → Int64) (mt : Int → Int) (a k : Int) : Prop := ∀ p, stp2 p → ∃ c : Nat, (c : Int) ≤ k - a ∧ ∀ (f : Nat) (e : Int), k ≤ e → wlk Y mt p (c + f) a e = wlk Y mt p f k e
section RD2
variable {Y : Int → Int64} {mt : Int → Int} {n : Int}
theorem stp2_f {p : Int64 → Bool} (h : stp2 p) {y : Int64} (h1 : ¬ (y = 44 ∨ y = 59 ∨ y = 123 ∨ y = 125 ∨ y = 61)) : p y = false := by
  cases q : p y
  · rfl
  · exact absurd (h y q) h1
theorem Wq_0 (a : Int) : Wq Y mt a a := fun p _ => ⟨0, by omega, fun f e _ => by rw [Nat.zero_add]⟩
theorem Wq_cat {a k b : Int} (h1 : Wq Y mt a k) (h2 : Wq Y mt k b) (ab : k ≤ b) : Wq Y mt a b := fun p hp => by
  obtain ⟨c1, l1, e1⟩ := h1 p hp
  obtain ⟨c2, l2, e2⟩ := h2 p hp
  refine ⟨c1 + c2, by omega, fun f e he => ?_⟩
  rw [show c1 + c2 + f = c1 + (c2 + f) by omega, e1 _ e (by omega), e2 f e he]
theorem Wq_1 {k : Int} (h : ¬ (Y k = 44 ∨ Y k = 59 ∨ Y k = 123 ∨ Y k = 125 ∨ Y k = 61)) (h2 : ¬ (Y k = 40 ∨ Y k = 91)) : Wq Y mt k (k + 1) := fun p hp => by
  refine ⟨1, by omega, fun f e he => ?_⟩
  rw [show 1 + f = f + 1 by omega, wlk_s (by omega) (stp2_f hp h), if_neg h2]
theorem Wq_b {k : Int} (h2 : Y k = 40 ∨ Y k = 91) (hm : k < mt k) : Wq Y mt k (mt k + 1) := fun p hp => by
  refine ⟨1, by omega, fun f e he => ?_⟩
  rw [show 1 + f = f + 1 by omega, wlk_s (by omega) (stp2_f hp (by rcases h2 with z | z <;> rw [z] <;> decide)), if_pos h2]
theorem Wq_st : ∀ (m : Nat) (a : Int), (∀ s, a ≤ s → s < a + m → Y s = 42) → Wq Y mt a (a + m)
  | 0, a, _ => by
    rw [show a + ((0 : Nat) : Int) = a by omega]
    exact Wq_0 a
  | m + 1, a, h => by
    have h0 := h a (Int.le_refl _) (by omega)
    have i := Wq_st m (a + 1) (fun s s0 s1 => h s (by omega) (by omega))
    rw [show a + 1 + (m : Int) = a + ((m + 1 : Nat) : Int) by omega] at i
    exact Wq_cat (Wq_1 (by rw [h0]; decide) (by rw [h0]; decide)) i (by omega)
theorem stN_b {a s h : Int} (hs : stN Y n a = s) (sa : a ≤ s) (sh : s < h) (sn : s < n) : stN Y h a = s := by
  have h1 : ∀ j, a ≤ j → j < s → Y j = 42 := fun j j0 j1 => stN_all (n := n) j j0 (by omega) (by omega)
  have h2 : ¬ Y s = 42 := by
    have := fi_hit (p := fun j => decide (¬ Y j = 42)) (n := n) _ a rfl (by show stN Y n a < n; omega)
    have := of_decide_eq_true this
    have e : fi (fun j => decide (¬ Y j = 42)) n a = s := hs
    rw [e] at this
    exact this
  have l1 : stN Y h a ≤ s := fi_le (p := fun j => decide (¬ Y j = 42)) (n := h) (k := s) sh (decide_eq_true h2) _ a rfl sa
  have l2 := stN_r (Y := Y) (n := h) (a := a) (by omega)
  by_cases z : stN Y h a = s
  · exact z
  · exfalso
    have h3 := fi_hit (p := fun j => decide (¬ Y j = 42)) (n := h) _ a rfl (by show stN Y h a < h; omega)
    exact of_decide_eq_true h3 (h1 _ l2.1 (by show stN Y h a < s; omega))
theorem wk5_nb {y : Int64} (h : wk y = 4 ∨ wk y = 5) : ¬ (y = 44 ∨ y = 59 ∨ y = 123 ∨ y = 125 ∨ y = 61) := by
  have key : ∀ c : Int64, wk c = 0 → ¬ y = c := fun c hc z => by rw [z, hc] at h; omega
  rintro (z | z | z | z | z)
  · exact key 44 (by decide) z
  · exact key 59 (by decide) z
  · exact key 123 (by decide) z
  · exact key 125 (by decide) z
  · exact key 61 (by decide) z
theorem pf_C (hY : ∀ k, n ≤ k → Y k = 0) (hM : MTP Y n mt) : ∀ (m : Nat) (a : Int) (r : Int × List Nd × Int), 0 ≤ a → a ≤ n → pf Y m a = some r → bal Y a r.1 ∧ Wq Y mt a r.1 ∧ nbr (Y r.1) ∧ a ≤ r.1 ∧ r.1 ≤ n ∧ ∀ f : Nat, r.1 - a < f → rfm Y mt f a r.1 = some r.2.1
  | 0, a, r, _, _, h => nns h
  | m + 1, a, r, a0, an, h => by
    have lt : ∀ {k : Int} {x : Int64}, ¬ x = 0 → Y k = x → k < n := fun {k x} hx hk => Yk_lt hY hx hk
    rw [pf] at h
    by_cases c1 : Y a = 40
    · rw [if_pos c1] at h
      by_cases c2 : Y (a + 1) = 41
      · rw [if_pos c2] at h
        have al := lt (by decide) c2
        obtain ⟨s, hs, h3⟩ := bind_some h
        have hp : prb (Y a) (Y (a + 1)) = true := by rw [c1, c2]; decide
        have hm : mt a = a + 1 := mt_u hM a0 (by omega) (bal_0 Y (a + 1)) hp
        have i := pf_C hY hM m (a + 2) s (by omega) (by omega) hs
        have b2 := bal_br (bal_0 Y (a + 1)) hp
        rw [show a + 1 + 1 = a + 2 by omega] at b2
        have w2 := Wq_b (Y := Y) (mt := mt) (Or.inl c1) (by omega)
        rw [hm, show a + 1 + 1 = a + 2 by omega] at w2
        cases h3
        refine ⟨bal_cat b2 i.1, Wq_cat w2 i.2.1 i.2.2.2.1, i.2.2.1, by show a ≤ s.1; omega, i.2.2.2.2.1, fun f hf => ?_⟩
        have hf : s.1 - a < f := hf
        obtain ⟨g, rfl⟩ := fpos hf (by omega)
        show rfm Y mt (g + 1) a s.1 = _
        rw [rfm, if_neg (by omega), if_neg (fun z => by rw [c1] at z; exact absurd z.1 (by decide)), if_pos ⟨c1, hm⟩, hm, show a + 1 + 1 = a + 2 by omega, i.2.2.2.2.2 g (by omega)]
        rfl
      · rw [if_neg c2] at h
        exact nns h
    · rw [if_neg c1] at h
      by_cases c2 : Y a = 91
      · rw [if_pos c2] at h
        by_cases c3 : wk (Y (a + 1)) = 5 ∧ Y (a + 2) = 93
        · rw [if_pos c3] at h
          have al := lt (by decide) c3.2
          obtain ⟨s, hs, h3⟩ := bind_some h
          have nb := wk_nb (y := Y (a + 1)) (Or.inr c3.1)
          have b1 := bal_1 nb.1 nb.2.1
          rw [show a + 1 + 1 = a + 2 by omega] at b1
          have hp : prb (Y a) (Y (a + 2)) = true := by rw [c2, c3.2]; decide
          have hm : mt a = a + 2 := mt_u hM a0 (by omega) b1 hp
          have i := pf_C hY hM m (a + 3) s (by omega) (by omega) hs
          have b2 := bal_br b1 hp
          rw [show a + 2 + 1 = a + 3 by omega] at b2
          have w2 := Wq_b (Y := Y) (mt := mt) (Or.inr c2) (by omega)
          rw [hm, show a + 2 + 1 = a + 3 by omega] at w2
          cases h3
          refine ⟨bal_cat b2 i.1, Wq_cat w2 i.2.1 i.2.2.2.1, i.2.2.1, by show a ≤ s.1; omega, i.2.2.2.2.1, fun f hf => ?_⟩
          have hf : s.1 - a < f := hf
          obtain ⟨g, rfl⟩ := fpos hf (by omega)
          show rfm Y mt (g + 1) a s.1 = _
          rw [rfm, if_neg (by omega), if_pos ⟨c2, hm, c3.1⟩, hm, show a + 2 + 1 = a + 3 by omega, i.2.2.2.2.2 g (by omega)]
          rfl
        · rw [if_neg c3] at h
          exact nns h
      · rw [if_neg c2] at h
        cases h
        refine ⟨bal_0 Y a, Wq_0 a, ⟨c1, c2⟩, Int.le_refl _, an, fun f hf => ?_⟩
        have hf : a - a < f := hf
        obtain ⟨g, rfl⟩ := fpos hf (by omega)
        show rfm Y mt (g + 1) a a = _
        rw [rfm, if_pos (Int.le_refl _)]
theorem pd_C (hY : ∀ k, n ≤ k → Y k = 0) (hn : n ≤ 100) (hM : MTP Y n mt) : ∀ (m : Nat) (dp a : Int) (r : Int × List Nd × Int), 0 ≤ a → a ≤ n → pd Y n m dp a = some r → bal Y a r.1 ∧ Wq Y mt a r.1 ∧ nbr (Y r.1) ∧ a < r.1 ∧ r.1 ≤ n ∧ ∀ f : Nat, r.1 - a < f → rdr Y mt f a r.1 = some r.2.1
  | 0, dp, a, r, _, _, h => nns h
  | m + 1, dp, a, r, a0, an, h => by
    have lt : ∀ {k : Int} {x : Int64}, ¬ x = 0 → Y k = x → k < n := fun {k x} hx hk => Yk_lt hY hx hk
    rw [pd_s] at h
    obtain ⟨q, hq, h2⟩ := bind_some h
    obtain ⟨F, hF, h3⟩ := bind_some h2
    have sr := stN_r (Y := Y) an
    have stars : ∀ s, a ≤ s → s < a + ((stN Y n a - a).toNat : Int) → Y s = 42 := fun s s0 s1 => stN_all (n := n) s s0 (by omega) (by omega)
    have bs := bal_stars _ a stars
    have ws := Wq_st (mt := mt) _ a stars
    rw [show a + ((stN Y n a - a).toNat : Int) = stN Y n a by omega] at bs ws
    unfold pdb at hq
    by_cases c4 : wk (Y (stN Y n a)) = 4
    · rw [if_pos c4] at hq
      have al := wk_ne hY (by decide) c4
      have nb := wk_nb (y := Y (stN Y n a)) (Or.inl c4)
      cases hq
      have i := pf_C hY hM 110 (stN Y n a + 1) F (by omega) (by omega) hF
      have l4 := i.2.2.2.1
      cases h3
      refine ⟨bal_cat bs (bal_cat (bal_1 nb.1 nb.2.1) i.1), Wq_cat ws (Wq_cat (Wq_1 (wk5_nb (Or.inl c4)) (by rintro (z | z); exact nb.2.2.2.2.1 z; exact nb.2.2.2.2.2 z)) i.2.1 l4) (by show stN Y n a ≤ F.1; omega), i.2.2.1, by show a < F.1; omega, i.2.2.2.2.1, fun f hf => ?_⟩
      have hf : F.1 - a < f := hf
      obtain ⟨g, rfl⟩ := fpos hf (by omega)
      have es := stN_b (Y := Y) (n := n) (h := F.1) (a := a) rfl sr.1 (by omega) al
      show rdr Y mt (g + 1) a F.1 = _
      rw [rdr, es, if_neg (by omega), if_neg nb.2.2.2.2.1, if_pos c4, i.2.2.2.2.2 200 (by have := i.2.2.2.2.1; omega)]
      rfl
    · rw [if_neg c4] at hq
      by_cases c12 : 12 ≤ dp
      · rw [if_pos c12] at hq
        exact nns hq
      · rw [if_neg c12] at hq
        by_cases c40 : Y (stN Y n a) = 40
        · rw [if_pos c40] at hq
          have al := lt (by decide) c40
          obtain ⟨s, hs, h5⟩ := bind_some hq
          have i := pd_C hY hn hM m (dp + 1) (stN Y n a + 1) s (by omega) (by omega) hs
          have i4 := i.2.2.2.1
          by_cases c41 : Y s.1 = 41
          · rw [if_pos c41] at h5
            have sl := lt (by decide) c41
            cases h5
            have hp : prb (Y (stN Y n a)) (Y s.1) = true := by rw [c40, c41]; decide
            have hm : mt (stN Y n a) = s.1 := mt_u hM (by omega) (by omega) i.1 hp
            have j := pf_C hY hM 110 (s.1 + 1) F (by omega) (by omega) hF
            have l4 := j.2.2.2.1
            have wb := Wq_b (Y := Y) (mt := mt) (k := stN Y n a) (Or.inl c40) (by omega)
            rw [hm] at wb
            cases h3
            refine ⟨bal_cat bs (bal_cat (bal_br i.1 hp) j.1), Wq_cat ws (Wq_cat wb j.2.1 l4) (by show stN Y n a ≤ F.1; omega), j.2.2.1, by show a < F.1; omega, j.2.2.2.2.1, fun f hf => ?_⟩
            have hf : F.1 - a < f := hf
            obtain ⟨g, rfl⟩ := fpos hf (by omega)
            have es := stN_b (Y := Y) (n := n) (h := F.1) (a := a) rfl sr.1 (by omega) al
            show rdr Y mt (g + 1) a F.1 = _
            rw [rdr, es, if_neg (by omega), if_pos c40, hm, i.2.2.2.2.2 g (by omega)]
            show (rfm Y mt 200 (s.1 + 1) F.1).bind _ = _
            rw [j.2.2.2.2.2 200 (by have := j.2.2.2.2.1; omega)]
            rfl
          · rw [if_neg c41] at h5
            exact nns h5
        · rw [if_neg c40] at hq
          exact nns hq
theorem rfm_pf (hY : ∀ k, n ≤ k → Y k = 0) (hM : MTP Y n mt) {e : Int} (en : e ≤ n) (he : nbr (Y e)) : ∀ (f : Nat) (k : Int) (F : List Nd), rfm Y mt f k e = some F → 0 ≤ k → k ≤ e → Rch Y mt k e → ∀ m : Nat, n + 2 - k ≤ m → pf Y m k = some (e, F, 0)
  | 0, k, F, h, _, _, _, _, _ => nns h
  | f + 1, k, F, h, k0, ke, hr, m, hm => by
    obtain ⟨m1, rfl⟩ : ∃ m1 : Nat, m = m1 + 1 := ⟨m - 1, by omega⟩
    rw [rfm] at h
    rw [pf]
    by_cases c : e ≤ k
    · rw [if_pos c] at h
      cases h
      rw [show k = e by omega, if_neg he.1, if_neg he.2]
    · rw [if_neg c] at h
      have rn := Rch_nx hr (by omega)
      by_cases c1 : Y k = 91 ∧ mt k = k + 2 ∧ wk (Y (k + 1)) = 5
      · rw [if_pos c1] at h
        obtain ⟨F2, h2, h3⟩ := bind_some h
        rw [nx_b (Or.inr c1.1)] at rn
        have q := hM k k0 (by omega) (opb (Or.inr c1.1))
        have e93 : Y (k + 2) = 93 := by
          have := of_decide_eq_true q.2.2.1
          rw [c1.1, c1.2.1] at this
          rcases this with z | z | z
          · exact absurd z.1 (by decide)
          · exact z.2
          · exact absurd z.1 (by decide)
        have l := Rch_le rn
        have i := rfm_pf hY hM en he f (mt k + 1) F2 h2 (by omega) l rn m1 (by omega)
        rw [if_neg (by rw [c1.1]; decide), if_pos c1.1, if_pos ⟨c1.2.2, e93⟩, show k + 3 = mt k + 1 by omega, i]
        cases h3
        rfl
      · rw [if_neg c1] at h
        by_cases c2 : Y k = 40 ∧ mt k = k + 1
        · rw [if_pos c2] at h
          obtain ⟨F2, h2, h3⟩ := bind_some h
          rw [nx_b (Or.inl c2.1)] at rn
          have q := hM k k0 (by omega) (opb (Or.inl c2.1))
          have e41 : Y (k + 1) = 41 := by
            have := of_decide_eq_true q.2.2.1
            rw [c2.1, c2.2] at this
            rcases this with z | z | z
            · exact z.2
            · exact absurd z.1 (by decide)
            · exact absurd z.1 (by decide)
          have l := Rch_le rn
          have i := rfm_pf hY hM en he f (mt k + 1) F2 h2 (by omega) l rn m1 (by omega)
          rw [if_pos c2.1, if_pos e41, show k + 2 = mt k + 1 by omega, i]
          cases h3
          rfl
        · rw [if_neg c2] at h
          exact nns h
theorem Rch_st (hM : MTP Y n mt) {e : Int} (en : e ≤ n) : ∀ (m : Nat) (a : Int), (∀ s, a ≤ s → s < a + m → Y s = 42) → 0 ≤ a → a + m ≤ e → Rch Y mt a e → Rch Y mt (a + m) e
  | 0, a, _, _, _, h => by
    rw [show a + ((0 : Nat) : Int) = a by omega]
    exact h
  | m + 1, a, hs, a0, hm, h => by
    have h0 := hs a (Int.le_refl _) (by omega)
    have rn := Rch_nx h (by omega)
    rw [nx_p (by rw [h0]; decide)] at rn
    have i := Rch_st hM en m (a + 1) (fun s s0 s1 => hs s (by omega) (by omega)) (by omega) (by omega) rn
    rw [show a + ((m + 1 : Nat) : Int) = a + 1 + m by omega]
    exact i
theorem stN_w {a s h : Int} (hs : stN Y h a = s) (sa : a ≤ s) (sh : s < h) (hn : h ≤ n) : stN Y n a = s := by
  have h1 : ∀ j, a ≤ j → j < s → Y j = 42 := fun j j0 j1 => stN_all (n := h) j j0 (by omega) (by omega)
  have h2 : ¬ Y s = 42 := by
    have := fi_hit (p := fun j => decide (¬ Y j = 42)) (n := h) _ a rfl (by show stN Y h a < h; omega)
    have := of_decide_eq_true this
    have e : fi (fun j => decide (¬ Y j = 42)) h a = s := hs
    rw [e] at this
    exact this
  have l1 : stN Y n a ≤ s := fi_le (p := fun j => decide (¬ Y j = 42)) (n := n) (k := s) (by omega) (decide_eq_true h2) _ a rfl sa
  have l2 := stN_r (Y := Y) (n := n) (a := a) (by omega)
  by_cases z : stN Y n a = s
  · exact z
  · exfalso
    have h3 := fi_hit (p := fun j => decide (¬ Y j = 42)) (n := n) _ a rfl (by show stN Y n a < n; omega)
    exact of_decide_eq_true h3 (h1 _ l2.1 (by show stN Y n a < s; omega))
theorem rdr_pd (hY : ∀ k, n ≤ k → Y k = 0) (hn : n ≤ 100) (hM : MTP Y n mt) (hB : ∀ k : Int, 0 ≤ k → k < n → bc Y (k + 1).toNat ≤ 6) : ∀ (f : Nat) (a e dp : Int) (N : List Nd), rdr Y mt f a e = some N → 0 ≤ a → e ≤ n → a ≤ e → Rch Y mt a e → nbr (Y e) → 0 ≤ dp → dp ≤ bc Y a.toNat → ∀ m : Nat, 13 - dp ≤ m → pd Y n m dp a = some (e, N, 0)
  | 0, a, e, dp, N, h, _, _, _, _, _, _, _, _, _ => nns h
  | f + 1, a, e, dp, N, h, a0, en, ae, hr, he, d0, hdp, m, hm => by
    have bca : bc Y a.toNat ≤ 6 := by
      by_cases z : a = 0
      · rw [z]
        show (0 : Int) ≤ 6
        decide
      · have := hB (a - 1) (by omega) (by omega)
        rw [show a - 1 + 1 = a by omega] at this
        exact this
    obtain ⟨m1, rfl⟩ : ∃ m1 : Nat, m = m1 + 1 := ⟨m - 1, by omega⟩
    rw [rdr] at h
    by_cases c : e ≤ stN Y e a
    · rw [if_pos c] at h
      exact nns h
    · rw [if_neg c] at h
      have sr := stN_r (Y := Y) ae
      have es : stN Y n a = stN Y e a := stN_w rfl sr.1 (by omega) en
      have stars : ∀ s, a ≤ s → s < a + ((stN Y e a - a).toNat : Int) → Y s = 42 := fun s s0 s1 => stN_all (n := e) s s0 (by omega) (by omega)
      have rs := Rch_st hM en (stN Y e a - a).toNat a stars a0 (by omega) hr
      have bs := bal_stars (stN Y e a - a).toNat a stars
      rw [show a + ((stN Y e a - a).toNat : Int) = stN Y e a by omega] at rs bs
      have bcs := bc_bal a0 bs
      have rn := Rch_nx rs (by omega)
      rw [pd_s, es]
      by_cases c40 : Y (stN Y e a) = 40
      · rw [if_pos c40] at h
        obtain ⟨N0, h1, h2⟩ := bind_some h
        obtain ⟨F, h3, h4⟩ := bind_some h2
        have q := hM (stN Y e a) (by omega) (by omega) (opb (Or.inl c40))
        rw [nx_b (Or.inl c40)] at rn
        have l := Rch_le rn
        have e41 : Y (mt (stN Y e a)) = 41 := by
          have := of_decide_eq_true q.2.2.1
          rw [c40] at this
          rcases this with z | z | z
          · exact z.2
          · exact absurd z.1 (by decide)
          · exact absurd z.1 (by decide)
        have i := rdr_pd hY hn hM hB f (stN Y e a + 1) (mt (stN Y e a)) (dp + 1) N0 h1 (by omega) (by omega) (by omega) (bal_rch hM q.2.2.2.1 (by omega) (by omega)) (by rw [e41]; exact ⟨by decide, by decide⟩) (by omega) (by rw [bc_o (by omega) (opb (Or.inl c40)), bcs]; omega) m1 (by omega)
        have j := rfm_pf hY hM en he 200 (mt (stN Y e a) + 1) F h3 (by omega) l rn 110 (by omega)
        have eb : pdb Y n m1 dp (stN Y e a) = some (mt (stN Y e a) + 1, N0, 0) := by
          unfold pdb
          rw [if_neg (by rw [c40]; decide), if_neg (by omega), if_pos c40, i]
          show (if Y (mt (stN Y e a)) = 41 then some (mt (stN Y e a) + 1, N0, 0) else none) = _
          rw [if_pos e41]
        rw [eb]
        show (pf Y 110 (mt (stN Y e a) + 1)).bind _ = _
        rw [j]
        cases h4
        rfl
      · rw [if_neg c40] at h
        by_cases c4 : wk (Y (stN Y e a)) = 4
        · rw [if_pos c4] at h
          obtain ⟨F, h3, h4⟩ := bind_some h
          have nb := wk_nb (y := Y (stN Y e a)) (Or.inl c4)
          rw [nx_p (by rintro (z | z); exact nb.2.2.2.2.1 z; exact nb.2.2.2.2.2 z)] at rn
          have l := Rch_le rn
          have j := rfm_pf hY hM en he 200 (stN Y e a + 1) F h3 (by omega) l rn 110 (by omega)
          have eb : pdb Y n m1 dp (stN Y e a) = some (stN Y e a + 1, [(4, stN Y e a, 0)], 0) := by
            unfold pdb
            rw [if_pos c4]
          rw [eb]
          show (pf Y 110 (stN Y e a + 1)).bind _ = _
          rw [j]
          cases h4
          rfl
        · rw [if_neg c4] at h
          exact nns h
end RD2
