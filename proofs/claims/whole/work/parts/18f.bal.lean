/-! What is taken has its brackets in order. -/
section BAL
variable {Y : Int → Int64} {n : Int}
theorem bal_y {k : Int} {y : Int64} (h : Y k = y) (h1 : opn y = false) (h2 : clo y = false) : bal Y k (k + 1) := bal_1 (by rw [h]; exact h1) (by rw [h]; exact h2)
theorem bal_p {k j : Int} {y z : Int64} (h : bal Y (k + 1) j) (hy : Y k = y) (hz : Y j = z) (hp : prb y z = true) : bal Y k (j + 1) := bal_br h (by rw [hy, hz]; exact hp)
theorem bal_stN {a : Int} (h : a ≤ n) : bal Y a (stN Y n a) := by
  have sr := stN_r (Y := Y) h
  have b2 := bal_stars (Y := Y) (stN Y n a - a).toNat a (fun s s0 s1 => stN_all (n := n) s s0 (by omega) (by omega))
  rw [show a + ((stN Y n a - a).toNat : Int) = stN Y n a by omega] at b2
  exact b2
theorem sto_nb {y : Int64} {m : Int} (h : sto y = m) (hm : ¬ m = 0) : opn y = false ∧ clo y = false := by
  have q := (stq_sto y).2.1
  have h2 : 0 < sto y := by
    unfold sto at h ⊢
    by_cases c1 : y = 42 ∨ y = 47
    · rw [if_pos c1]; decide
    · rw [if_neg c1] at h ⊢
      by_cases c2 : y = 43 ∨ y = 45
      · rw [if_pos c2]; decide
      · rw [if_neg c2] at h ⊢
        by_cases c3 : y = 60 ∨ y = 62
        · rw [if_pos c3]; decide
        · rw [if_neg c3] at h ⊢
          by_cases c4 : y = 7869
          · rw [if_pos c4]; decide
          · rw [if_neg c4] at h
            exact absurd h.symm hm
  have h3 := q h2
  have := stq_nb (y := y) (by omega)
  exact ⟨this.1, this.2.1⟩
theorem px_B {D : List Dcl} (hY : ∀ k, n ≤ k → Y k = 0) : ∀ (m md : Nat) (dp a : Int) (acc : List Nd) (r : Int × List Nd × Int), (md ≤ 7 ∨ (11 ≤ md ∧ md ≤ 14)) → a ≤ n → px Y D n m md dp a acc = some r → (¬ md = 7 → bal Y a r.1) ∧ (md = 7 → bal Y a (r.1 - 1) ∧ Y (r.1 - 1) = 41)
  | 0, md, dp, a, acc, r, hmd, h, hp => nns hp
  | m + 1, md, dp, a, acc, r, hmd, h, hp => by
    have lt : ∀ {k : Int} {x : Int64}, ¬ x = 0 → Y k = x → k < n := fun {k x} hx hk => Yk_lt hY hx hk
    have en := fun (md : Nat) (dp a : Int) (acc : List Nd) (r : Int × List Nd × Int) (q : (md ≤ 7 ∨ (11 ≤ md ∧ md ≤ 14))) (h : a ≤ n) (hp : px Y D n m md dp a acc = some r) => (px_r hY m md dp a acc r q h hp).2.1
    by_cases c0 : md = 0
    · subst c0
      refine ⟨fun _ => ?_, fun z => absurd z (by decide)⟩
      rw [px_0] at hp
      split at hp
      · exact nns hp
      · obtain ⟨q, hq, h2⟩ := bind_some hp
        have i := (px_B hY m 1 dp a [] q (Or.inl (by decide)) h hq).1 (by decide)
        split at h2
        · rename_i c
          obtain ⟨s, hs, h3⟩ := bind_some h2
          have j := (px_B hY m 0 dp (q.1 + 1) [] s (Or.inl (by decide)) (by have := lt (by decide) c; omega) hs).1 (by decide)
          cases h3
          exact bal_cat i (bal_cat (bal_y c (by decide) (by decide)) j)
        · cases h2
          exact i
    · by_cases c4 : md ≤ 4
      · refine ⟨fun _ => ?_, fun z => by omega⟩
        rw [px_b c0 c4] at hp
        obtain ⟨q, hq, h2⟩ := bind_some hp
        have i := (px_B hY m (md + 1) dp a [] q (Or.inl (by omega)) h hq).1 (by omega)
        have j := (px_B hY m (md + 10) dp q.1 q.2.1 r (Or.inr ⟨by omega, by omega⟩) (en _ _ _ _ _ (Or.inl (by omega)) h hq) h2).1 (by omega)
        exact bal_cat i j
      · by_cases c5 : md = 5
        · subst c5
          refine ⟨fun _ => ?_, fun z => absurd z (by decide)⟩
          rw [px_5] at hp
          split at hp
          · rename_i c
            have c := prf_nb c
            obtain ⟨s, hs, h3⟩ := bind_some hp
            have al : a < n := by
              by_cases z : a < n
              · exact z
              · have e0 := hY a (by omega)
                rename_i c7
                rw [e0] at c7
                exact absurd c7 (by decide)
            have j := (px_B hY m 5 dp (a + 1) [] s (Or.inl (by decide)) (by omega) hs).1 (by decide)
            cases h3
            exact bal_cat (bal_1 c.1 c.2.1) j
          · split at hp
            · rename_i c
              split at hp
              · rename_i c2
                obtain ⟨s, hs, h3⟩ := bind_some hp
                have tn := isT_nb c.2
                have al : a + 1 < n := by
                  by_cases z : a + 1 < n
                  · exact z
                  · have c := c.2
                    rw [hY (a + 1) (by omega), isT_0] at c
                    exact Bool.noConfusion c
                have j := (px_B hY m 5 dp (stN Y n (a + 2) + 1) [] s (Or.inl (by decide)) (by have := lt (by decide) c2; omega) hs).1 (by decide)
                cases h3
                have bt := bal_1 (Y := Y) tn.1 tn.2
                rw [show a + 1 + 1 = a + 2 by omega] at bt
                exact bal_cat (bal_p (bal_cat bt (bal_stN (by omega))) c.1 c2 (by decide)) j
              · exact nns hp
            · split at hp
              · rename_i c
                obtain ⟨q, hq, h2⟩ := bind_some hp
                have al := lt (by decide) c
                have i := (px_B hY m 0 (dp + 1) (a + 1) [] q (Or.inl (by decide)) (by omega) hq).1 (by decide)
                split at h2
                · rename_i c2
                  have j := (px_B hY m 6 dp (q.1 + 1) q.2.1 r (Or.inl (by decide)) (by have := lt (by decide) c2; omega) h2).1 (by decide)
                  exact bal_cat (bal_p i c c2 (by decide)) j
                · exact nns h2
              · have leaf : (wk (Y a) = 4 ∨ wk (Y a) = 5) → ∀ N, px Y D n m 6 dp (a + 1) N = some r → bal Y a r.1 := fun c N hN => by
                  have al : a < n := by
                    by_cases z : a < n
                    · exact z
                    · rw [hY a (by omega), wk_0] at c
                      rcases c with c | c <;> exact absurd c (by decide)
                  have j := (px_B hY m 6 dp (a + 1) N r (Or.inl (by decide)) (by omega) hN).1 (by decide)
                  have nb := wk_nb c
                  exact bal_cat (bal_1 nb.1 nb.2.1) j
                split at hp
                · rename_i c
                  exact leaf (Or.inr c) _ hp
                · split at hp
                  · rename_i c
                    exact leaf (Or.inl c.1) _ hp
                  · exact nns hp
        · by_cases c6 : md = 6
          · subst c6
            refine ⟨fun _ => ?_, fun z => absurd z (by decide)⟩
            rw [px_6] at hp
            split at hp
            · rename_i c
              obtain ⟨q, hq, h2⟩ := bind_some hp
              have al := lt (by decide) c
              have i := (px_B hY m 0 (dp + 1) (a + 1) [] q (Or.inl (by decide)) (by omega) hq).1 (by decide)
              split at h2
              · rename_i c2
                have j := (px_B hY m 6 dp (q.1 + 1) _ r (Or.inl (by decide)) (by have := lt (by decide) c2; omega) h2).1 (by decide)
                exact bal_cat (bal_p i c c2 (by decide)) j
              · exact nns h2
            · split at hp
              · rename_i c
                have al := lt (by decide) c
                split at hp
                · rename_i c2
                  have al2 := lt (by decide) c2
                  have j := (px_B hY m 6 dp (a + 2) _ r (Or.inl (by decide)) (by omega) hp).1 (by decide)
                  have b := bal_p (bal_0 Y (a + 1)) c c2 (by decide)
                  rw [show a + 1 + 1 = a + 2 by omega] at b
                  exact bal_cat b j
                · obtain ⟨q, hq, h2⟩ := bind_some hp
                  have i := (px_B hY m 7 dp (a + 1) [] q (Or.inl (by decide)) (by omega) hq).2 rfl
                  have j := (px_B hY m 6 dp q.1 _ r (Or.inl (by decide)) (en _ _ _ _ _ (Or.inl (by decide)) (by omega) hq) h2).1 (by decide)
                  have b := bal_p i.1 c i.2 (by decide)
                  rw [show q.1 - 1 + 1 = q.1 by omega] at b
                  exact bal_cat b j
              · cases hp
                exact bal_0 Y a
          · by_cases c7 : md = 7
            · subst c7
              refine ⟨fun z => absurd rfl z, fun _ => ?_⟩
              rw [px_7] at hp
              obtain ⟨q, hq, h2⟩ := bind_some hp
              have i := (px_B hY m 0 (dp + 1) a [] q (Or.inl (by decide)) h hq).1 (by decide)
              split at h2
              · rename_i c
                obtain ⟨s, hs, h3⟩ := bind_some h2
                have j := (px_B hY m 7 dp (q.1 + 1) [] s (Or.inl (by decide)) (by have := lt (by decide) c; omega) hs).2 rfl
                cases h3
                exact ⟨bal_cat i (bal_cat (bal_y c (by decide) (by decide)) j.1), j.2⟩
              · split at h2
                · rename_i c
                  cases h2
                  show bal Y a (q.1 + 1 - 1) ∧ Y (q.1 + 1 - 1) = 41
                  rw [show q.1 + 1 - 1 = q.1 by omega]
                  exact ⟨i, c⟩
                · exact nns h2
            · refine ⟨fun _ => ?_, fun z => absurd z c7⟩
              rw [px_l (by omega)] at hp
              split at hp
              · rename_i c
                have nb := sto_nb c (by omega)
                have al : a < n := by
                  by_cases z : a < n
                  · exact z
                  · rw [hY a (by omega)] at c
                    exact absurd c.symm (by show ¬ ((md : Int) - 10 = 0); omega)
                obtain ⟨q, hq, h2⟩ := bind_some hp
                have i := (px_B hY m (md - 9) dp (a + 1) [] q (Or.inl (by omega)) (by omega) hq).1 (by omega)
                have j := (px_B hY m md dp q.1 _ r hmd (en _ _ _ _ _ (Or.inl (by omega)) (by omega) hq) h2).1 c7
                exact bal_cat (bal_1 nb.1 nb.2) (bal_cat i j)
              · cases hp
                exact bal_0 Y a
theorem pf_B (hY : ∀ k, n ≤ k → Y k = 0) : ∀ (m : Nat) (a : Int) (r : Int × List Nd × Int), a ≤ n → pf Y m a = some r → bal Y a r.1
  | 0, a, r, h, hp => nns hp
  | m + 1, a, r, h, hp => by
    have lt : ∀ {k : Int} {x : Int64}, ¬ x = 0 → Y k = x → k < n := fun {k x} hx hk => Yk_lt hY hx hk
    rw [pf] at hp
    split at hp
    · rename_i c0
      split at hp
      · rename_i c
        have al := lt (by decide) c
        obtain ⟨s, hs, h3⟩ := bind_some hp
        have i := pf_B hY m (a + 2) s (by omega) hs
        cases h3
        have b := bal_p (bal_0 Y (a + 1)) c0 c (by decide)
        rw [show a + 1 + 1 = a + 2 by omega] at b
        exact bal_cat b i
      · exact nns hp
    · split at hp
      · rename_i c0
        split at hp
        · rename_i c
          have al := lt (by decide) c.2
          obtain ⟨s, hs, h3⟩ := bind_some hp
          have i := pf_B hY m (a + 3) s (by omega) hs
          cases h3
          have nb := wk_nb (Or.inr c.1)
          have b1 := bal_1 (Y := Y) nb.1 nb.2.1
          rw [show a + 1 + 1 = a + 2 by omega] at b1
          have b := bal_p b1 c0 c.2 (by decide)
          rw [show a + 2 + 1 = a + 3 by omega] at b
          exact bal_cat b i
        · exact nns hp
      · cases hp
        exact bal_0 Y a
theorem pd_B (hY : ∀ k, n ≤ k → Y k = 0) : ∀ (m : Nat) (dp a : Int) (r : Int × List Nd × Int), a ≤ n → pd Y n m dp a = some r → bal Y a r.1
  | 0, dp, a, r, h, hp => nns hp
  | m + 1, dp, a, r, h, hp => by
    have lt : ∀ {k : Int} {x : Int64}, ¬ x = 0 → Y k = x → k < n := fun {k x} hx hk => Yk_lt hY hx hk
    have sr := stN_r (Y := Y) h
    rw [pd] at hp
    obtain ⟨q, hq, h2⟩ := bind_some hp
    obtain ⟨f, hf, h3⟩ := bind_some h2
    have base : bal Y (stN Y n a) q.1 ∧ q.1 ≤ n := by
      split at hq
      · rename_i c
        have al : stN Y n a < n := by
          by_cases z : stN Y n a < n
          · exact z
          · rw [hY _ (by omega), wk_0] at c
            exact absurd c (by decide)
        have nb := wk_nb (Or.inl c)
        cases hq
        exact ⟨bal_1 nb.1 nb.2.1, by show stN Y n a + 1 ≤ n; omega⟩
      · split at hq
        · exact nns hq
        · split at hq
          · rename_i c
            have al := lt (by decide) c
            obtain ⟨s, hs, h4⟩ := bind_some hq
            have i := pd_B hY m (dp + 1) (stN Y n a + 1) s (by omega) hs
            split at h4
            · rename_i c2
              have sl := lt (by decide) c2
              cases h4
              exact ⟨bal_p i c c2 (by decide), by show s.1 + 1 ≤ n; omega⟩
            · exact nns h4
          · exact nns hq
    have j := pf_B hY 110 q.1 f base.2 hf
    cases h3
    exact bal_cat (bal_stN h) (bal_cat base.1 j)
theorem ps_B (hY : ∀ k, n ≤ k → Y k = 0) : ∀ (m md : Nat) (may td fst : Bool) (dp a : Int) (D : List Dcl) (r : Int × List Nd × Int × List Dcl × Bool), md ≤ 4 → a ≤ n → ps Y n m md may td fst dp a D = some r → r.1 ≤ n ∧ (¬ md = 1 → bal Y a r.1) ∧ (md = 1 → bal Y a (r.1 - 1) ∧ Y (r.1 - 1) = 125)
  | 0, md, may, td, fst, dp, a, D, r, hmd, h, hp => nns hp
  | m + 1, md, may, td, fst, dp, a, D, r, hmd, h, hp => by
    have lt : ∀ {k : Int} {x : Int64}, ¬ x = 0 → Y k = x → k < n := fun {k x} hx hk => Yk_lt hY hx hk
    have wl : ∀ {k : Int} {z : Int}, ¬ z = 0 → wk (Y k) = z → k < n := fun {k z} hz hk => by
      by_cases c : k < n
      · exact c
      · rw [hY k (by omega), wk_0] at hk
        exact absurd hk.symm hz
    have wn : ∀ {k : Int} {z : Int}, ¬ z = 0 → wk (Y k) = z → bal Y k (k + 1) := fun {k z} hz hk => by
      have key : ∀ c : Int64, wk c = 0 → ¬ Y k = c := fun c hc z2 => by rw [z2, hc] at hk; exact hz hk.symm
      exact bal_1 (decide_eq_false (by rintro (z | z | z); exact key 40 (by decide) z; exact key 91 (by decide) z; exact key 123 (by decide) z)) (decide_eq_false (by rintro (z | z | z); exact key 41 (by decide) z; exact key 93 (by decide) z; exact key 125 (by decide) z))
    by_cases c0 : md = 0
    · subst c0
      rw [ps_0] at hp
      split at hp
      · exact nns hp
      · rename_i c
        have y123 : Y a = 123 := Decidable.not_not.1 (fun z => c (Or.inr z))
        have al := lt (by decide) y123
        obtain ⟨q, hq, h2⟩ := bind_some hp
        have i := ps_B hY m 1 false false false dp (a + 1) D q (by decide) (by omega) hq
        cases h2
        have b := bal_p (i.2.2 rfl).1 y123 (i.2.2 rfl).2 (by decide)
        rw [show q.1 - 1 + 1 = q.1 by omega] at b
        exact ⟨i.1, fun _ => b, fun z => absurd z (by decide)⟩
    · by_cases c1 : md = 1
      · subst c1
        rw [ps_1] at hp
        split at hp
        · rename_i c
          have al := lt (by decide) c
          cases hp
          refine ⟨by show a + 1 ≤ n; omega, fun z => absurd rfl z, fun _ => ?_⟩
          show bal Y a (a + 1 - 1) ∧ Y (a + 1 - 1) = 125
          rw [show a + 1 - 1 = a by omega]
          exact ⟨bal_0 Y a, c⟩
        · obtain ⟨q, hq, h2⟩ := bind_some hp
          obtain ⟨s, hs, h3⟩ := bind_some h2
          have i : q.1 ≤ n ∧ bal Y a q.1 := by
            split at hq
            · have := ps_B hY m 3 false false false dp a D q (by decide) h hq
              exact ⟨this.1, this.2.1 (by decide)⟩
            · have := ps_B hY m 2 false false false dp a D q (by decide) h hq
              exact ⟨this.1, this.2.1 (by decide)⟩
          have j := ps_B hY m 1 false false false dp q.1 q.2.2.2.1 s (by decide) i.1 hs
          cases h3
          exact ⟨j.1, fun z => absurd rfl z, fun _ => ⟨bal_cat i.2 (j.2.2 rfl).1, (j.2.2 rfl).2⟩⟩
      · by_cases c2 : md = 2
        · subst c2
          rw [ps_2] at hp
          split at hp
          · have := ps_B hY m 0 false false false (dp + 1) a D r (by decide) h hp
            exact ⟨this.1, fun _ => this.2.1 (by decide), fun z => absurd z (by decide)⟩
          · obtain ⟨p, he⟩ : ∃ p, (if wk (Y a) = 3 then a + 1 else a) = p := ⟨_, rfl⟩
            rw [he] at hp
            have hb : bal Y a p ∧ p ≤ n := by
              by_cases z : wk (Y a) = 3
              · rw [if_pos z] at he
                rw [← he]
                exact ⟨wn (by decide) z, by have := wl (by decide) z; omega⟩
              · rw [if_neg z] at he
                rw [← he]
                exact ⟨bal_0 Y a, h⟩
            split at hp
            · rename_i c
              have pl := lt (by decide) c
              cases hp
              exact ⟨by show p + 1 ≤ n; omega, fun _ => bal_cat hb.1 (bal_y c (by decide) (by decide)), fun z => absurd z (by decide)⟩
            · obtain ⟨q, hq, h2⟩ := bind_some hp
              have i := (px_B hY 2100 0 (dp + 1) p [] q (Or.inl (by decide)) hb.2 hq).1 (by decide)
              split at h2
              · rename_i c
                have pl := lt (by decide) c
                cases h2
                exact ⟨by show q.1 + 1 ≤ n; omega, fun _ => bal_cat hb.1 (bal_cat i (bal_y c (by decide) (by decide))), fun z => absurd z (by decide)⟩
              · exact nns h2
        · by_cases c3 : md = 3
          · subst c3
            rw [ps_3] at hp
            obtain ⟨p, he⟩ : ∃ p, (if wk (Y a) = 2 then a + 1 else a) = p := ⟨_, rfl⟩
            rw [he] at hp
            have hb : bal Y a p ∧ p ≤ n := by
              by_cases z : wk (Y a) = 2
              · rw [if_pos z] at he
                rw [← he]
                exact ⟨wn (by decide) z, by have := wl (by decide) z; omega⟩
              · rw [if_neg z] at he
                rw [← he]
                exact ⟨bal_0 Y a, h⟩
            split at hp
            · rename_i c
              have tn := isT_nb c
              have pl : p < n := by
                by_cases z : p < n
                · exact z
                · rw [hY p (by omega), isT_0] at c
                  exact Bool.noConfusion c
              obtain ⟨q, hq, h2⟩ := bind_some hp
              have i := ps_B hY m 4 may _ true dp (p + 1) D q (by decide) (by omega) hq
              cases h2
              exact ⟨i.1, fun _ => bal_cat hb.1 (bal_cat (bal_1 tn.1 tn.2) (i.2.1 (by decide))), fun z => absurd z (by decide)⟩
            · exact nns hp
          · have c4 : md = 4 := by omega
            subst c4
            rw [ps_4] at hp
            obtain ⟨q, hq, h2⟩ := bind_some hp
            have b := pd_B hY 15 0 a q h hq
            have bn := (pd_r hY 15 0 a q h hq).2.1
            refine (show r.1 ≤ n ∧ bal Y a r.1 from ?_).elim (fun x1 x2 => ⟨x1, fun _ => x2, fun z => absurd z (by decide)⟩)
            split at h2
            · rename_i c
              split at h2
              · obtain ⟨s, hs, h3⟩ := bind_some h2
                have i := ps_B hY m 0 false false false (dp + 1) q.1 _ s (by decide) bn hs
                cases h3
                exact ⟨i.1, bal_cat b (i.2.1 (by decide))⟩
              · exact nns h2
            · split at h2
              · rename_i c
                have ql := lt (by decide) c.2
                obtain ⟨e, he, h3⟩ := bind_some h2
                have i := (px_B hY 2100 0 (dp + 1) (q.1 + 1) [] e (Or.inl (by decide)) (by omega) he).1 (by decide)
                have b2 := bal_cat b (bal_cat (bal_y c.2 (by decide) (by decide)) i)
                split at h3
                · rename_i c5
                  have el := lt (by decide) c5
                  obtain ⟨s, hs, h4⟩ := bind_some h3
                  have j := ps_B hY m 4 may td false dp (e.1 + 1) _ s (by decide) (by omega) hs
                  cases h4
                  exact ⟨j.1, bal_cat b2 (bal_cat (bal_y c5 (by decide) (by decide)) (j.2.1 (by decide)))⟩
                · split at h3
                  · rename_i c5
                    have el := lt (by decide) c5
                    cases h3
                    exact ⟨by show e.1 + 1 ≤ n; omega, bal_cat b2 (bal_y c5 (by decide) (by decide))⟩
                  · exact nns h3
              · split at h2
                · rename_i c5
                  have el := lt (by decide) c5
                  obtain ⟨s, hs, h4⟩ := bind_some h2
                  have j := ps_B hY m 4 may td false dp (q.1 + 1) _ s (by decide) (by omega) hs
                  cases h4
                  exact ⟨j.1, bal_cat b (bal_cat (bal_y c5 (by decide) (by decide)) (j.2.1 (by decide)))⟩
                · split at h2
                  · rename_i c5
                    have el := lt (by decide) c5
                    cases h2
                    exact ⟨by show q.1 + 1 ≤ n; omega, bal_cat b (bal_y c5 (by decide) (by decide))⟩
                  · exact nns h2
theorem pu_B (hY : ∀ k, n ≤ k → Y k = 0) : ∀ (m : Nat) (a : Int) (D : List Dcl) (r : Int × List Nd × Int × List Dcl × Bool), a ≤ n → pu Y n m a D = some r → bal Y a n
  | 0, a, D, r, _, h => nns h
  | m + 1, a, D, r, an, h => by
    rw [pu] at h
    split at h
    · rename_i c
      have : a = n := by omega
      rw [this]
      exact bal_0 Y n
    · split at h
      · obtain ⟨q, hq, h2⟩ := bind_some h
        obtain ⟨s, hs, h3⟩ := bind_some h2
        have i := ps_B hY 1100 3 true false false 0 a D q (by decide) an hq
        exact bal_cat (i.2.1 (by decide)) (pu_B hY m q.1 q.2.2.2.1 s i.1 hs)
      · exact nns h
end BAL
