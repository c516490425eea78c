/-! Items: what is taken is what the ranges give. -/
def XI (Y : Int → Int64) (mt : Int → Int) (n a : Int) (D : List Dcl) (r : Int × List Nd × Int × List Dcl × Bool) : Prop := a ≤ r.1 - 1 ∧ r.1 ≤ n ∧ Y (r.1 - 1) = 125 ∧ bal Y a (r.1 - 1) ∧ ∀ f : Nat, r.1 - 1 - a < f → rs Y mt f 0 true false a (r.1 - 1) D = some (r.2.1, r.2.2.1, r.2.2.2.1)
def XB (Y : Int → Int64) (mt : Int → Int) (n a : Int) (D : List Dcl) (r : Int × List Nd × Int × List Dcl × Bool) : Prop := Y a = 123 ∧ r.1 = mt a + 1 ∧ a < mt a ∧ mt a < n ∧ bal Y a r.1 ∧ r.2.2.2.1 = D ∧ ∃ B : List Nd × Int × List Dcl, r.2.1 = (9, a, B.2.1) :: B.1 ∧ ∀ f : Nat, mt a - a ≤ f → rs Y mt f 0 true false (a + 1) (mt a) D = some B
def XT (Y : Int → Int64) (mt : Int → Int) (n : Int) (ins : Bool) (a : Int) (D : List Dcl) (r : Int × List Nd × Int × List Dcl × Bool) : Prop := a < r.1 ∧ r.1 ≤ n ∧ bal Y a r.1 ∧ ∀ (f : Nat) (e : Int), r.1 ≤ e → e ≤ n → r.1 - a ≤ f → rs Y mt (f + 1) 0 ins false a e D = (rs Y mt f 0 ins false r.1 e r.2.2.2.1).bind (fun R => some (r.2.1 ++ R.1, 1 + R.2.1, R.2.2))
def XD (Y : Int → Int64) (mt : Int → Int) (n : Int) (td : Bool) (a : Int) (D : List Dcl) (r : Int × List Nd × Int × List Dcl × Bool) : Prop :=
  (r.2.2.2.2 = false → a < r.1 - 1 ∧ r.1 ≤ n ∧ Y (r.1 - 1) = 59 ∧ bal Y a (r.1 - 1) ∧ Wz Y mt a (r.1 - 1) ∧ ∀ f : Nat, r.1 - 1 - a < f → rs Y mt f 1 false td a (r.1 - 1) D = some (r.2.1, r.2.2.1, r.2.2.2.1)) ∧
  (r.2.2.2.2 = true → td = false ∧ ∃ (q : Int) (L : List Nd) (D1 : List Dcl) (s : Int × List Nd × Int × List Dcl × Bool), a < q ∧ q < n ∧ bal Y a q ∧ Wz Y mt a q ∧ (∀ f : Nat, q - a < f → rs Y mt f 1 true false a q D = some (L, 1, D1)) ∧ XB Y mt n q D1 s ∧ r.1 = s.1 ∧ r.2.1 = L ++ s.2.1 ∧ r.2.2.1 = 2 ∧ r.2.2.2.1 = D1)
theorem bal_suf {Y : Int → Int64} {x y z : Int} (h1 : bal Y x y) (h2 : bal Y x z) (h : y ≤ z) : bal Y y z := by
  have a1 := h1.1
  refine ⟨h, ?_⟩
  have e := h2.2
  rw [show (z - x).toNat = (y - x).toNat + (z - y).toNat by omega, sk_cat, h1.2] at e
  have e : sk Y (z - y).toNat (x + ((y - x).toNat : Int)) [] = some [] := e
  rw [show x + ((y - x).toNat : Int) = y by omega] at e
  exact e
theorem ps4_d {Y : Int → Int64} {n : Int} : ∀ (m : Nat) (may td fst : Bool) (dp a : Int) (D : List Dcl) (r : Int × List Nd × Int × List Dcl × Bool), ps Y n m 4 may td fst dp a D = some r → r.2.2.2.2 = true → may = true ∧ fst = true
  | 0, may, td, fst, dp, a, D, r, hp, _ => nns hp
  | m + 1, may, td, fst, dp, a, D, r, hp, hd => by
    rw [ps_4] at hp
    obtain ⟨q, hq, h2⟩ := bind_some hp
    by_cases c1 : may = true ∧ td = false ∧ fst = true ∧ Y q.1 = 123
    · exact ⟨c1.1, c1.2.2.1⟩
    · rw [if_neg c1] at h2
      have go : ∀ {k : Int} {D2 : List Dcl} {s : Int × List Nd × Int × List Dcl × Bool}, ps Y n m 4 may td false dp k D2 = some s → s.2.2.2.2 = true → may = true ∧ fst = true := fun {k D2 s} hs hd2 => Bool.noConfusion (ps4_d m may td false dp k D2 s hs hd2).2
      by_cases c2 : td = false ∧ Y q.1 = 61
      · rw [if_pos c2] at h2
        obtain ⟨e, he, h3⟩ := bind_some h2
        by_cases c3 : Y e.1 = 44
        · rw [if_pos c3] at h3
          obtain ⟨s, hs, h4⟩ := bind_some h3
          cases h4
          exact go hs hd
        · rw [if_neg c3] at h3
          by_cases c4 : Y e.1 = 59
          · rw [if_pos c4] at h3
            cases h3
            exact Bool.noConfusion (show false = true from hd)
          · rw [if_neg c4] at h3
            exact nns h3
      · rw [if_neg c2] at h2
        by_cases c3 : Y q.1 = 44
        · rw [if_pos c3] at h2
          obtain ⟨s, hs, h4⟩ := bind_some h2
          cases h4
          exact go hs hd
        · rw [if_neg c3] at h2
          by_cases c4 : Y q.1 = 59
          · rw [if_pos c4] at h2
            cases h2
            exact Bool.noConfusion (show false = true from hd)
          · rw [if_neg c4] at h2
            exact nns h2
theorem ps4_may {Y : Int → Int64} {n : Int} {m : Nat} {td fst : Bool} {dp a : Int} {D : List Dcl} {r : Int × List Nd × Int × List Dcl × Bool} (h : ps Y n m 4 false td fst dp a D = some r) (hd : r.2.2.2.2 = true) : False := Bool.noConfusion (ps4_d m _ _ _ _ _ _ _ h hd).1
theorem ps4_fst {Y : Int → Int64} {n : Int} {m : Nat} {may td fst : Bool} {dp a : Int} {D : List Dcl} {r : Int × List Nd × Int × List Dcl × Bool} (h : ps Y n m 4 may td fst dp a D = some r) (hd : r.2.2.2.2 = true) : fst = true := (ps4_d m _ _ _ _ _ _ _ h hd).2
section XSS
variable {Y : Int → Int64} {mt : Int → Int} {n : Int}
theorem stp2_44 : stp2 (fun y => decide (y = 44)) := fun y hy => Or.inl (of_decide_eq_true hy)
theorem stp2_61 : stp2 (fun y => decide (y = 61)) := fun y hy => Or.inr (Or.inr (Or.inr (Or.inr (of_decide_eq_true hy))))
theorem stp_44 : stp (fun y => decide (y = 44)) := fun y hy => Or.inl (of_decide_eq_true hy)
/-- a declarator and what ends it: the commas and the = as the ranges find them -/
theorem dl_see (hn : n ≤ 100) {a k q e : Int} (a0 : 0 ≤ a) (en : e ≤ n) (hw : Wq Y mt a k) (ak : a < k) (hkq : (k = q ∧ (q < e → Y q = 44)) ∨ (Y k = 61 ∧ k < q ∧ Wt Y mt (k + 1) q ∧ (q < e → Y q = 44))) (qe : q ≤ e) : see Y mt a e 44 = q ∧ see Y mt a q 61 = k := by
  have kq : k ≤ q := by rcases hkq with z | z <;> omega
  have h1 : see Y mt a e 44 = q := by
    rcases hkq with ⟨z1, z2⟩ | ⟨z1, z2, z3, z4⟩
    · refine see_q hn a0 (by omega) (by rw [← z1]; exact hw _ stp2_44) qe z2
    · refine see_q hn a0 (by omega) ?_ qe z4
      obtain ⟨c1, l1, e1⟩ := hw _ stp2_44
      obtain ⟨c2, l2, e2⟩ := z3 _ stp_44
      refine ⟨c1 + (c2 + 1), by omega, fun f e5 he => ?_⟩
      rw [show c1 + (c2 + 1) + f = c1 + ((c2 + f) + 1) by omega, e1 _ e5 (by omega), wlk_s (by omega) (by rw [z1]; rfl), if_neg (by rw [z1]; decide)]
      exact e2 f e5 he
  refine ⟨h1, see_q hn a0 (by omega) (hw _ stp2_61) kq (fun z => ?_)⟩
  rcases hkq with ⟨z1, _⟩ | ⟨z1, _⟩
  · omega
  · exact z1
theorem ps_C (hY : ∀ k, n ≤ k → Y k = 0) (hn : n ≤ 100) (hM : MTP Y n mt) : ∀ (m md : Nat) (may td fst : Bool) (dp a : Int) (D : List Dcl) (r : Int × List Nd × Int × List Dcl × Bool), 0 ≤ a → a ≤ n → ps Y n m md may td fst dp a D = some r →
    (md = 0 → XB Y mt n a D r) ∧ (md = 1 → XI Y mt n a D r) ∧ (md = 2 → sdc D (Y a) = false → XT Y mt n true a D r) ∧ (md = 3 → sdc D (Y a) = true → XT Y mt n (!may) a D r) ∧ (md = 4 → XD Y mt n td a D r)
  | 0, md, may, td, fst, dp, a, D, r, a0, h, hp => nns hp
  | m + 1, md, may, td, fst, dp, a, D, r, a0, h, hp => by
    have lt : ∀ {k : Int} {x : Int64}, ¬ x = 0 → Y k = x → k < n := fun {k x} hx hk => Yk_lt hY hx hk
    refine ⟨fun c => ?_, fun c => ?_, fun c hsd => ?_, fun c hsd => ?_, fun c => ?_⟩
    · subst c
      rw [ps_0] at hp
      by_cases c1 : 12 < dp ∨ ¬ Y a = 123
      · rw [if_pos c1] at hp
        exact nns hp
      · rw [if_neg c1] at hp
        have e123 : Y a = 123 := Decidable.not_not.1 (fun z => c1 (Or.inr z))
        have al := lt (by decide) e123
        obtain ⟨q, hq, h2⟩ := bind_some hp
        have i := (ps_C hY hn hM m 1 false false false dp (a + 1) D q (by omega) (by omega) hq).2.1 rfl
        obtain ⟨i1, i2, i3, i4, i5⟩ := i
        have hpr : prb (Y a) (Y (q.1 - 1)) = true := by rw [e123, i3]; decide
        have hm : mt a = q.1 - 1 := mt_u hM a0 al i4 hpr
        have hb := bal_br i4 hpr
        rw [show q.1 - 1 + 1 = q.1 by omega] at hb
        cases h2
        refine ⟨e123, by show q.1 = mt a + 1; omega, by omega, by omega, hb, rfl, (q.2.1, q.2.2.1, q.2.2.2.1), rfl, fun f hf => ?_⟩
        rw [hm]
        exact i5 f (by omega)
    · subst c
      rw [ps_1] at hp
      by_cases c1 : Y a = 125
      · rw [if_pos c1] at hp
        have al := lt (by decide) c1
        cases hp
        refine ⟨by show a ≤ a + 1 - 1; omega, by show a + 1 ≤ n; omega, ?_, ?_, fun f hf => ?_⟩
        · show Y (a + 1 - 1) = 125
          rw [show a + 1 - 1 = a by omega]
          exact c1
        · show bal Y a (a + 1 - 1)
          rw [show a + 1 - 1 = a by omega]
          exact bal_0 Y a
        · have hf : a + 1 - 1 - a < f := hf
          obtain ⟨g, rfl⟩ := fpos hf (by omega)
          show rs Y mt (g + 1) 0 true false a (a + 1 - 1) D = _
          rw [rs_e (by omega)]
      · rw [if_neg c1] at hp
        obtain ⟨q, hq, h2⟩ := bind_some hp
        obtain ⟨s, hs, h3⟩ := bind_some h2
        have t : XT Y mt n true a D q := by
          by_cases c2 : sdc D (Y a) = true
          · rw [if_pos c2] at hq
            exact (ps_C hY hn hM m 3 false false false dp a D q a0 h hq).2.2.2.1 rfl c2
          · rw [if_neg c2] at hq
            exact (ps_C hY hn hM m 2 false false false dp a D q a0 h hq).2.2.1 rfl (by simpa using c2)
        obtain ⟨t1, t2, t3, t4⟩ := t
        have i := (ps_C hY hn hM m 1 false false false dp q.1 q.2.2.2.1 s (by omega) t2 hs).2.1 rfl
        obtain ⟨i1, i2, i3, i4, i5⟩ := i
        cases h3
        refine ⟨by show a ≤ s.1 - 1; omega, i2, i3, bal_cat t3 i4, fun f hf => ?_⟩
        have hf : s.1 - 1 - a < f := hf
        obtain ⟨g, rfl⟩ := fpos hf (by omega)
        show rs Y mt (g + 1) 0 true false a (s.1 - 1) D = _
        rw [t4 g (s.1 - 1) i1 (by omega) (by omega), i5 g (by omega)]
        rfl
    · subst c
      rw [ps_2] at hp
      by_cases c1 : Y a = 123
      · rw [if_pos c1] at hp
        have b := (ps_C hY hn hM m 0 false false false (dp + 1) a D r a0 h hp).1 rfl
        obtain ⟨b1, b2, b3, b4, b5, b6, B, b7, b8⟩ := b
        refine ⟨by omega, by omega, b5, fun f e he en hf => ?_⟩
        rw [rs_blk (by omega) hsd c1, b8 f (by omega), b6, b7, b2]
        rfl
      · rw [if_neg c1] at hp
        obtain ⟨p, hpe⟩ : ∃ p, (if wk (Y a) = 3 then a + 1 else a) = p := ⟨_, rfl⟩
        have hpa : a ≤ p ∧ p ≤ a + 1 ∧ p ≤ n ∧ bal Y a p := by
          by_cases z : wk (Y a) = 3
          · rw [if_pos z] at hpe
            have := wk_ne hY (by decide) z
            have nb : opn (Y a) = false ∧ clo (Y a) = false := by
              have key : ∀ c : Int64, wk c = 0 → ¬ Y a = c := fun c hc z2 => by rw [z2, hc] at z; exact absurd z (by decide)
              exact ⟨decide_eq_false (by rintro (z | z | z); exact key 40 (by decide) z; exact key 91 (by decide) z; exact key 123 (by decide) z), decide_eq_false (by rintro (z | z | z); exact key 41 (by decide) z; exact key 93 (by decide) z; exact key 125 (by decide) z)⟩
            have hb := bal_1 nb.1 nb.2
            rw [hpe] at hb
            exact ⟨by omega, by omega, by omega, hb⟩
          · rw [if_neg z] at hpe
            rw [← hpe]
            exact ⟨Int.le_refl _, by omega, h, bal_0 Y a⟩
        rw [hpe] at hp
        by_cases c2 : Y p = 59
        · rw [if_pos c2] at hp
          have pl := lt (by decide) c2
          have hp := Option.some.inj hp
          rw [← hp]
          refine ⟨by show a < p + 1; omega, by show p + 1 ≤ n; omega, bal_cat hpa.2.2.2 (bal_1 (by rw [c2]; decide) (by rw [c2]; decide)), fun f e he en hf => ?_⟩
          have he : p + 1 ≤ e := he
          rw [rs_stm (by omega) hsd c1 hpe (spp_at hn (by omega) (by omega) (Wz_0 p) (by omega) (Or.inl c2)), if_neg (by rintro (z | z); omega; exact z c2), if_pos rfl, if_pos rfl]
          show (rs Y mt f 0 true false (p + 1) e D).bind _ = _
          cases rs Y mt f 0 true false (p + 1) e D with
          | none => rfl
          | some R =>
            show some ((if wk (Y a) = 3 then 11 else 10, if wk (Y a) = 3 then a else p, 0) :: [] ++ R.1, 1 + R.2.1, R.2.2) = some ([(if wk (Y a) = 3 then 11 else 10, a, 0)] ++ R.1, 1 + R.2.1, R.2.2)
            have : (if wk (Y a) = 3 then a else p) = a := by
              by_cases z : wk (Y a) = 3
              · rw [if_pos z]
              · rw [if_neg z] at hpe
                rw [if_neg z, ← hpe]
            rw [this]
        · rw [if_neg c2] at hp
          obtain ⟨q, hq, h2⟩ := bind_some hp
          obtain ⟨L, x1, x2, x3, x4⟩ := (px_C hY hn hM 2100 0 (dp + 1) p [] q (by omega) hpa.2.2.1 hq).1 rfl
          have pq := x1.1
          by_cases c3 : Y q.1 = 59
          · rw [if_pos c3] at h2
            have ql := lt (by decide) c3
            have h2 := Option.some.inj h2
            rw [← h2]
            refine ⟨by show a < q.1 + 1; omega, by show q.1 + 1 ≤ n; omega, bal_cat hpa.2.2.2 (bal_cat x1.2.2.1 (bal_1 (by rw [c3]; decide) (by rw [c3]; decide))), fun f e he en hf => ?_⟩
            have he : q.1 + 1 ≤ e := he
            rw [rs_stm (by omega) hsd c1 hpe (spp_at hn (by omega) (by omega) (Wz_t x1.2.2.2.2.1) (by omega) (Or.inl c3)), if_neg (by rintro (z | z); omega; exact z c3), if_neg (show ¬ q.1 = p by omega), x1.2.2.2.2.2 200 (by omega)]
            simp only [if_neg (show ¬ q.1 = p by omega)]
            rfl
          · rw [if_neg c3] at h2
            exact nns h2
    · subst c
      rw [ps_3] at hp
      obtain ⟨t, hte⟩ : ∃ t, (if wk (Y a) = 2 then a + 1 else a) = t := ⟨_, rfl⟩
      rw [hte] at hp
      by_cases c1 : isT D (Y t) = true
      · rw [if_pos c1] at hp
        have tl := isT_lt hY c1
        have hta : a ≤ t ∧ t ≤ a + 1 := by
          by_cases z : wk (Y a) = 2
          · rw [if_pos z] at hte; omega
          · rw [if_neg z] at hte; omega
        have hba : bal Y a (t + 1) := by
          have tn := isT_nb c1
          by_cases z : wk (Y a) = 2
          · rw [if_pos z] at hte
            have nb : opn (Y a) = false ∧ clo (Y a) = false := by
              have key : ∀ c : Int64, wk c = 0 → ¬ Y a = c := fun c hc z2 => by rw [z2, hc] at z; exact absurd z (by decide)
              exact ⟨decide_eq_false (by rintro (z | z | z); exact key 40 (by decide) z; exact key 91 (by decide) z; exact key 123 (by decide) z), decide_eq_false (by rintro (z | z | z); exact key 41 (by decide) z; exact key 93 (by decide) z; exact key 125 (by decide) z)⟩
            have hb := bal_1 nb.1 nb.2
            rw [hte] at hb
            exact bal_cat hb (bal_1 tn.1 tn.2)
          · rw [if_neg z] at hte
            rw [hte]
            exact bal_1 tn.1 tn.2
        obtain ⟨q, hq, h2⟩ := bind_some hp
        have d := (ps_C hY hn hM m 4 may (decide (wk (Y a) = 2)) true dp (t + 1) D q (by omega) (by omega) hq).2.2.2.2 rfl
        have h2 := Option.some.inj h2
        rw [← h2]
        cases hdef : q.2.2.2.2
        · obtain ⟨d1, d2, d3, d4, d5, d6⟩ := d.1 hdef
          have hb59 := bal_1 (Y := Y) (k := q.1 - 1) (by rw [d3]; decide) (by rw [d3]; decide)
          rw [show q.1 - 1 + 1 = q.1 by omega] at hb59
          refine ⟨by show a < q.1; omega, d2, bal_cat hba (bal_cat d4 hb59), fun f e he en hf => ?_⟩
          have he : q.1 ≤ e := he
          have hf : q.1 - a ≤ f := hf
          rw [rs_dec (by omega) hsd hte (spp_at hn (by omega) (by omega) d5 (by omega) (Or.inl d3)), if_neg (not_not_intro ⟨by omega, c1⟩), if_neg (by omega), if_neg (by rw [d3]; decide), d6 f (by omega)]
          show (rs Y mt f 0 (!may) false (q.1 - 1 + 1) e q.2.2.2.1).bind _ = _
          rw [show q.1 - 1 + 1 = q.1 by omega]
          rfl
        · obtain ⟨d1, k, L, D1, s, k1, k2, k3, k4, k5, kb, k6, k7, k8, k9⟩ := d.2 hdef
          obtain ⟨b1, b2, b3, b4, b5, b6, B, b7, b8⟩ := kb
          have ntd : ¬ wk (Y a) = 2 := of_decide_eq_false d1
          have hmay : may = true := by
            cases may with
            | true => rfl
            | false =>
              exfalso
              exact ps4_may hq hdef
          refine ⟨by show a < q.1; omega, by show q.1 ≤ n; omega, ?_, fun f e he en hf => ?_⟩
          · show bal Y a q.1
            rw [k6]
            exact bal_cat hba (bal_cat k3 b5)
          have he : q.1 ≤ e := he
          have hf : q.1 - a ≤ f := hf
          rw [rs_dec (by omega) hsd hte (spp_at hn (by omega) (by omega) k4 (by omega) (Or.inr b1)), if_neg (not_not_intro ⟨by omega, c1⟩), if_neg (by omega), if_pos b1, hmay, if_neg (by rintro (z | z); exact Bool.noConfusion z; exact ntd z), k5 f (by omega)]
          show (rs Y mt f 0 true false (k + 1) (mt k) D1).bind _ = _
          rw [b8 f (by omega)]
          show (rs Y mt f 0 false false (mt k + 1) e D1).bind _ = (rs Y mt f 0 false false q.1 e q.2.2.2.1).bind _
          rw [k9, show q.1 = mt k + 1 by omega, k8, k7, b7, if_pos rfl]
          rfl
      · rw [if_neg c1] at hp
        exact nns hp
    · subst c
      have hp0 := hp
      rw [ps_4] at hp
      obtain ⟨q, hq, h2⟩ := bind_some hp
      obtain ⟨p1, p2, p3, p4, p5, p6⟩ := pd_C hY hn hM 15 0 a q a0 h hq
      have rd := p6 200 (by omega)
      by_cases c1 : may = true ∧ td = false ∧ fst = true ∧ Y q.1 = 123
      · rw [if_pos c1] at h2
        by_cases c2 : isF q.2.1 = true
        · rw [if_pos c2] at h2
          obtain ⟨s, hs, h3⟩ := bind_some h2
          have ql := lt (by decide) c1.2.2.2
          have b := (ps_C hY hn hM m 0 false false false (dp + 1) q.1 _ s (by omega) p5 hs).1 rfl
          cases h3
          refine ⟨fun z => Bool.noConfusion (show true = false from z), fun _ => ⟨c1.2.1, q.1, dnd q.2.1 0, (Y (ndg q.2.1 0).2.1, td) :: D, s, p4, ql, p1, Wz_q p2, fun f hf => ?_, b, rfl, rfl, rfl, b.2.2.2.2.2.1⟩⟩
          obtain ⟨g, rfl⟩ := fpos hf (by omega)
          have sq := dl_see hn a0 p5 p2 p4 (q := q.1) (e := q.1) (Or.inl ⟨rfl, fun z => by omega⟩) (Int.le_refl _)
          rw [rs_1 sq.1 sq.2, if_neg (by rintro (z | z); omega; omega), rd]
          show (if true = true ∧ isF q.2.1 = false then none else _ : RI) = _
          rw [if_neg (fun z => by rw [c2] at z; exact Bool.noConfusion z.2), if_pos rfl, if_pos rfl]
          show (if q.1 < q.1 then _ else some ([], 0, (Y (ndg q.2.1 0).2.1, false) :: D) : RI).bind _ = _
          rw [if_neg (by omega), c1.2.1]
          show some (dnd q.2.1 0 ++ [] ++ [], 1 + (0 : Int), (Y (ndg q.2.1 0).2.1, false) :: D) = _
          rw [List.append_nil, List.append_nil]
          rfl
        · rw [if_neg c2] at h2
          exact nns h2
      · rw [if_neg c1] at h2
        -- the rest of the list
        have rest : ∀ {k : Int} {V : List Nd} {c0 : Int}, q.1 ≤ k → k < n → ((q.1 = k ∧ V = [] ∧ c0 = 0) ∨ (td = false ∧ Y q.1 = 61 ∧ c0 = 1 ∧ ∃ L, XC Y ((Y (ndg q.2.1 0).2.1, td) :: D) mt n (q.1 + 1) k V L)) → (Y k = 44 → ∀ s : Int × List Nd × Int × List Dcl × Bool, ps Y n m 4 may td false dp (k + 1) ((Y (ndg q.2.1 0).2.1, td) :: D) = some s → r = (s.1, dnd q.2.1 c0 ++ V ++ s.2.1, 1 + s.2.2.1, s.2.2.2.1, s.2.2.2.2) → XD Y mt n td a D r) ∧ (Y k = 59 → r = (k + 1, dnd q.2.1 c0 ++ V, 1, (Y (ndg q.2.1 0).2.1, td) :: D, false) → XD Y mt n td a D r) := fun {k V c0} qk kn hV => by
          have wz : Wz Y mt a k ∧ bal Y a k ∧ (Y k = 44 ∨ Y k = 59 → ∀ e : Int, k ≤ e → e ≤ n → (k < e → Y k = 44) → see Y mt a e 44 = k ∧ see Y mt a k 61 = q.1) := by
            rcases hV with ⟨z1, z2, z3⟩ | ⟨z1, z2, z3, L, z4⟩
            · refine ⟨by rw [← z1]; exact Wz_q p2, by rw [← z1]; exact p1, fun _ e he en h44 => ?_⟩
              exact dl_see hn a0 en p2 p4 (Or.inl ⟨z1, h44⟩) he
            · have k1 := z4.1
              refine ⟨Wz_cat (Wz_q p2) (Wz_cat (Wz_1 (by rw [z2]; decide) (by rw [z2]; decide)) (Wz_t z4.2.2.2.2.1) (by omega)) (by omega), bal_cat p1 (bal_cat (bal_1 (by rw [z2]; decide) (by rw [z2]; decide)) z4.2.2.1), fun _ e he en h44 => ?_⟩
              exact dl_see hn a0 en p2 p4 (Or.inr ⟨z2, by omega, z4.2.2.2.2.1, h44⟩) he
          have cond : ∀ e : Int, ¬ (((td = true ∨ false = true) ∧ q.1 < k) ∨ (false = true ∧ k < e)) := fun e => by
            rintro (⟨z, z2⟩ | z)
            · rcases hV with ⟨z1, _⟩ | ⟨z1, _⟩
              · omega
              · rcases z with z | z
                · rw [z1] at z; exact Bool.noConfusion z
                · exact Bool.noConfusion z
            · exact Bool.noConfusion z.1
          have vv : ∀ (g : Nat) (e : Int), k ≤ e → e ≤ n → (k < e → Y k = 44) → (Y k = 44 ∨ Y k = 59) → rs Y mt (g + 1) 1 false td a e D = (if k < e then rs Y mt g 1 false td (k + 1) e ((Y (ndg q.2.1 0).2.1, td) :: D) else some ([], 0, (Y (ndg q.2.1 0).2.1, td) :: D)).bind (fun R => some (dnd q.2.1 c0 ++ V ++ R.1, 1 + R.2.1, R.2.2)) := fun g e he en h44 hk => by
            have sq := wz.2.2 hk e he en h44
            rw [rs_1 sq.1 sq.2, if_neg (cond e), rd]
            show (if false = true ∧ isF q.2.1 = false then none else _ : RI) = _
            rw [if_neg (fun z => Bool.noConfusion z.1)]
            rcases hV with ⟨z1, z2, z3⟩ | ⟨z1, z2, z3, L, z4⟩
            · rw [if_pos z1, if_pos z1, z2, z3]
              rfl
            · have k1 := z4.1
              rw [if_neg (show ¬ q.1 = k by omega), z4.2.2.2.2.2 200 (by omega), z3]
              simp only [if_neg (show ¬ q.1 = k by omega)]
              rfl
          refine ⟨fun h44 s hs hr => ?_, fun h59 hr => ?_⟩
          · have d := (ps_C hY hn hM m 4 may td false dp (k + 1) _ s (by omega) (by omega) hs).2.2.2.2 rfl
            have nd : s.2.2.2.2 = false := by
              cases hd : s.2.2.2.2
              · rfl
              · exact absurd (ps4_fst hs hd) (by decide)
            obtain ⟨d1, d2, d3, d4, d5, d6⟩ := d.1 nd
            rw [hr]
            refine ⟨fun _ => ⟨by show a < s.1 - 1; omega, d2, d3, bal_cat wz.2.1 (bal_cat (bal_1 (by rw [h44]; decide) (by rw [h44]; decide)) d4), Wz_cat wz.1 (Wz_cat (Wz_1 (by rw [h44]; decide) (by rw [h44]; decide)) d5 (by omega)) (by omega), fun f hf => ?_⟩, fun z => by rw [nd] at z; exact Bool.noConfusion z⟩
            have hf : s.1 - 1 - a < f := hf
            obtain ⟨g, rfl⟩ := fpos hf (by omega)
            show rs Y mt (g + 1) 1 false td a (s.1 - 1) D = _
            rw [vv g (s.1 - 1) (by omega) (by omega) (fun _ => h44) (Or.inl h44), if_pos (by omega), d6 g (by omega)]
            rfl
          · rw [hr]
            refine ⟨fun _ => ⟨by show a < k + 1 - 1; omega, by show k + 1 ≤ n; omega, ?_, ?_, ?_, fun f hf => ?_⟩, fun z => Bool.noConfusion (show false = true from z)⟩
            · show Y (k + 1 - 1) = 59
              rw [show k + 1 - 1 = k by omega]
              exact h59
            · show bal Y a (k + 1 - 1)
              rw [show k + 1 - 1 = k by omega]
              exact wz.2.1
            · show Wz Y mt a (k + 1 - 1)
              rw [show k + 1 - 1 = k by omega]
              exact wz.1
            · have hf : k + 1 - 1 - a < f := hf
              obtain ⟨g, rfl⟩ := fpos hf (by omega)
              show rs Y mt (g + 1) 1 false td a (k + 1 - 1) D = _
              rw [show k + 1 - 1 = k by omega, vv g k (Int.le_refl _) (by omega) (fun z => by omega) (Or.inr h59), if_neg (by omega)]
              show some (dnd q.2.1 c0 ++ V ++ [], 1 + (0 : Int), (Y (ndg q.2.1 0).2.1, td) :: D) = _
              rw [List.append_nil]
              rfl
        by_cases c2 : td = false ∧ Y q.1 = 61
        · rw [if_pos c2] at h2
          have ql := lt (by decide) c2.2
          obtain ⟨e, he, h3⟩ := bind_some h2
          obtain ⟨L, x1, x2, x3, x4⟩ := (px_C hY hn hM 2100 0 (dp + 1) (q.1 + 1) [] e (by omega) (by omega) he).1 rfl
          have x1a := x1.1
          by_cases c3 : Y e.1 = 44
          · rw [if_pos c3] at h3
            obtain ⟨s, hs, h4⟩ := bind_some h3
            exact (rest (k := e.1) (V := e.2.1) (c0 := 1) (by omega) (lt (by decide) c3) (Or.inr ⟨c2.1, c2.2, rfl, L, x1⟩)).1 c3 s hs (Option.some.inj h4).symm
          · rw [if_neg c3] at h3
            by_cases c4 : Y e.1 = 59
            · rw [if_pos c4] at h3
              exact (rest (k := e.1) (V := e.2.1) (c0 := 1) (by omega) (lt (by decide) c4) (Or.inr ⟨c2.1, c2.2, rfl, L, x1⟩)).2 c4 (Option.some.inj h3).symm
            · rw [if_neg c4] at h3
              exact nns h3
        · rw [if_neg c2] at h2
          by_cases c3 : Y q.1 = 44
          · rw [if_pos c3] at h2
            obtain ⟨s, hs, h4⟩ := bind_some h2
            exact (rest (k := q.1) (V := []) (c0 := 0) (Int.le_refl _) (lt (by decide) c3) (Or.inl ⟨rfl, rfl, rfl⟩)).1 c3 s hs (by rw [List.append_nil]; exact (Option.some.inj h4).symm)
          · rw [if_neg c3] at h2
            by_cases c4 : Y q.1 = 59
            · rw [if_pos c4] at h2
              exact (rest (k := q.1) (V := []) (c0 := 0) (Int.le_refl _) (lt (by decide) c4) (Or.inl ⟨rfl, rfl, rfl⟩)).2 c4 (by rw [List.append_nil]; exact (Option.some.inj h2).symm)
            · rw [if_neg c4] at h2
              exact nns h2
end XSS
