/-! What is taken from the left to the right is what the ranges give: the whole of it. -/
section XCP
variable {Y : Int → Int64} {D : List Dcl} {mt : Int → Int} {n : Int}
theorem VE_post {g : Nat} {p0 b : Int} (h : cs Y D mt 200 p0 b true = some []) (h1 : prf (Y p0) = false) (h2 : ¬ (Y p0 = 40 ∧ isT D (Y (p0 + 1)) = true)) (h3 : ¬ p0 = b - 1) (h4 : ¬ mt (b - 1) = p0) : VE Y D mt (g + 1) p0 b = (if Y (mt (b - 1)) = 91 then (VE Y D mt g p0 (mt (b - 1))).bind (fun N => (VE Y D mt g (mt (b - 1) + 1) (b - 1)).bind (fun N2 => some ((15, mt (b - 1), 2) :: N ++ N2)))
       else (VE Y D mt g p0 (mt (b - 1))).bind (fun N => (if b - 1 ≤ mt (b - 1) + 1 then some ([], 0) else VA Y mt (VE Y D mt g) 200 (mt (b - 1) + 1) (b - 1)).bind (fun r => some ((16, mt (b - 1), 1 + r.2) :: N ++ r.1)))) := by
  rw [VE_1 h, if_neg (by rw [h1]; decide), if_neg h2, if_neg h3, if_neg h4]
theorem Tr_br (hM : MTP Y n mt) {p0 a q : Int} (h : Tr Y D mt p0 a []) (ha : a < q) (hm : mt a = q) (hb : Y a = 40 ∨ Y a = 91) : Tr Y D mt p0 (q + 1) [] := by
  obtain ⟨c, hc, hh⟩ := h
  refine ⟨c + 1, by omega, fun f b hb2 => ?_⟩
  rw [show c + 1 + f = c + (f + 1) by omega, hh _ b (by omega), cs_f (by omega), if_pos hb, hm]
theorem Wt_br {p0 a q : Int} (h : Wt Y mt p0 a) (ha : a < q) (hm : mt a = q) (hb : Y a = 40 ∨ Y a = 91) : Wt Y mt p0 (q + 1) := fun p hp => by
  obtain ⟨c, hc, hh⟩ := h p hp
  refine ⟨c + 1, by omega, fun f e he => ?_⟩
  rw [show c + 1 + f = c + (f + 1) by omega, hh _ e (by omega), wlk_s (by omega) (stp_f hp (by rcases hb with z | z <;> rw [z] <;> decide)), if_pos hb, hm]
def AC (Y : Int → Int64) (D : List Dcl) (mt : Int → Int) (n a z : Int) (N : List Nd) (c : Int) : Prop := a < z ∧ z < n ∧ Y z = 41 ∧ bal Y a z ∧ ∀ f g : Nat, z - a < f → z - a < g → VA Y mt (VE Y D mt f) g a z = some (N, c)
theorem see_at {a q e : Int} {N : List Nd} {L : List Int} (hn : n ≤ 100) (a0 : 0 ≤ a) (h : XC Y D mt n a q N L) (he : q ≤ e) (hq : q < e → Y q = 44) : see Y mt a e 44 = q := by
  have hs : stp (fun y => decide (y = 44)) := fun y hy => Or.inl (of_decide_eq_true hy)
  obtain ⟨c, hc, hh⟩ := h.2.2.2.2.1 _ hs
  have h2 := hh (200 - c) e he
  have q1 := h.2.1
  rw [show c + (200 - c) = 200 by omega, show 200 - c = (199 - c) + 1 by omega] at h2
  unfold see
  have e2 : wlk Y mt (fun y => decide (y = 44)) (199 - c + 1) q e = q := by
    rw [wlk]
    by_cases z : e ≤ q
    · rw [if_pos z]
    · rw [if_neg z, if_pos (decide_eq_true (hq (by omega)))]
  rw [h2, e2]
  split <;> omega
theorem XC_idx (hM : MTP Y n mt) (hn : n ≤ 100) {p0 a q : Int} {N N2 : List Nd} {L : List Int} (p00 : 0 ≤ p0) (h1 : prf (Y p0) = false) (h2 : ¬ (Y p0 = 40 ∧ isT D (Y (p0 + 1)) = true)) (h : XC Y D mt n p0 a N []) (hi : XC Y D mt n (a + 1) q N2 L) (h91 : Y a = 91) (h93 : Y q = 93) (hq : q < n) : XC Y D mt n p0 (q + 1) ((15, a, 2) :: N ++ N2) [] := by
  have pa := h.1
  have aq := hi.1
  have hp : prb (Y a) (Y q) = true := by rw [h91, h93]; decide
  have hm : mt a = q := mt_u hM (by omega) (by omega) hi.2.2.1 hp
  have hm2 : mt q = a := by rw [← hm]; exact (hM a (by omega) (by omega) (by rw [h91]; decide)).2.2.2.2
  have ht := Tr_br hM h.2.2.2.1 (by omega) hm (Or.inr h91)
  refine ⟨by omega, by omega, bal_cat h.2.2.1 (bal_br hi.2.2.1 hp), ht, Wt_br h.2.2.2.2.1 (by omega) hm (Or.inr h91), fun f hf => ?_⟩
  obtain ⟨g, rfl⟩ := fpos hf (by omega)
  have eb : q + 1 - 1 = q := by omega
  rw [VE_post (Tr_cs ht p00 (by omega)) h1 h2 (by omega) (by rw [eb, hm2]; omega), eb, hm2, if_pos h91, h.2.2.2.2.2 g (by omega)]
  show (VE Y D mt g (a + 1) q).bind _ = _
  rw [hi.2.2.2.2.2 g (by omega)]
  rfl
theorem XC_ca0 (hM : MTP Y n mt) (hn : n ≤ 100) {p0 a : Int} {N : List Nd} (p00 : 0 ≤ p0) (h1 : prf (Y p0) = false) (h2 : ¬ (Y p0 = 40 ∧ isT D (Y (p0 + 1)) = true)) (h : XC Y D mt n p0 a N []) (h40 : Y a = 40) (h41 : Y (a + 1) = 41) (hq : a + 1 < n) : XC Y D mt n p0 (a + 2) ((16, a, 1) :: N) [] := by
  have pa := h.1
  have hp : prb (Y a) (Y (a + 1)) = true := by rw [h40, h41]; decide
  have hm : mt a = a + 1 := mt_u hM (by omega) (by omega) (bal_0 Y (a + 1)) hp
  have hm2 : mt (a + 1) = a := by rw [← hm]; exact (hM a (by omega) (by omega) (by rw [h40]; decide)).2.2.2.2
  have ht := Tr_br hM h.2.2.2.1 (by omega) hm (Or.inl h40)
  rw [show a + 1 + 1 = a + 2 by omega] at ht
  have hw := Wt_br h.2.2.2.2.1 (by omega) hm (Or.inl h40)
  rw [show a + 1 + 1 = a + 2 by omega] at hw
  have hb := bal_br (bal_0 Y (a + 1)) hp
  rw [show a + 1 + 1 = a + 2 by omega] at hb
  refine ⟨by omega, by omega, bal_cat h.2.2.1 hb, ht, hw, fun f hf => ?_⟩
  obtain ⟨g, rfl⟩ := fpos hf (by omega)
  have eb : a + 2 - 1 = a + 1 := by omega
  rw [VE_post (Tr_cs ht p00 (by omega)) h1 h2 (by omega) (by rw [eb, hm2]; omega), eb, hm2, if_neg (by rw [h40]; decide), h.2.2.2.2.2 g (by omega)]
  show (if a + 1 ≤ a + 1 then some ([], 0) else _ : Option (List Nd × Int)).bind _ = _
  rw [if_pos (Int.le_refl _)]
  show some ((16, a, 1 + 0) :: N ++ []) = _
  rw [List.append_nil, Int.add_zero]
theorem XC_cal (hM : MTP Y n mt) (hn : n ≤ 100) {p0 a q c : Int} {N N2 : List Nd} (p00 : 0 ≤ p0) (h1 : prf (Y p0) = false) (h2 : ¬ (Y p0 = 40 ∧ isT D (Y (p0 + 1)) = true)) (h : XC Y D mt n p0 a N []) (h40 : Y a = 40) (ha : AC Y D mt n (a + 1) q N2 c) : XC Y D mt n p0 (q + 1) ((16, a, 1 + c) :: N ++ N2) [] := by
  have pa := h.1
  have aq := ha.1
  have hq := ha.2.1
  have hp : prb (Y a) (Y q) = true := by rw [h40, ha.2.2.1]; decide
  have hm : mt a = q := mt_u hM (by omega) (by omega) ha.2.2.2.1 hp
  have hm2 : mt q = a := by rw [← hm]; exact (hM a (by omega) (by omega) (by rw [h40]; decide)).2.2.2.2
  have ht := Tr_br hM h.2.2.2.1 (by omega) hm (Or.inl h40)
  refine ⟨by omega, by omega, bal_cat h.2.2.1 (bal_br ha.2.2.2.1 hp), ht, Wt_br h.2.2.2.2.1 (by omega) hm (Or.inl h40), fun f hf => ?_⟩
  obtain ⟨g, rfl⟩ := fpos hf (by omega)
  have eb : q + 1 - 1 = q := by omega
  rw [VE_post (Tr_cs ht p00 (by omega)) h1 h2 (by omega) (by rw [eb, hm2]; omega), eb, hm2, if_neg (by rw [h40]; decide), h.2.2.2.2.2 g (by omega)]
  show (if q ≤ a + 1 then some ([], 0) else VA Y mt (VE Y D mt g) 200 (a + 1) q).bind _ = _
  rw [if_neg (by omega), ha.2.2.2.2 g 200 (by omega) (by omega)]
  rfl
theorem AC_1 {a q : Int} {N : List Nd} {L : List Int} (hn : n ≤ 100) (a0 : 0 ≤ a) (h : XC Y D mt n a q N L) (h41 : Y q = 41) (hq : q < n) : AC Y D mt n a q N 1 := by
  refine ⟨h.1, hq, h41, h.2.2.1, fun f g hf hg => ?_⟩
  have aq := h.1
  obtain ⟨g2, rfl⟩ := fpos hg (by omega)
  rw [VA, see_at hn a0 h (Int.le_refl _) (fun z => by omega), h.2.2.2.2.2 f hf]
  show (if q < q then _ else some (N, 1)) = _
  rw [if_neg (by omega)]
theorem AC_s {a q z c : Int} {N N2 : List Nd} {L : List Int} (hn : n ≤ 100) (a0 : 0 ≤ a) (h : XC Y D mt n a q N L) (h44 : Y q = 44) (h2 : AC Y D mt n (q + 1) z N2 c) : AC Y D mt n a z (N ++ N2) (1 + c) := by
  have aq := h.1
  have qz := h2.1
  refine ⟨by omega, h2.2.1, h2.2.2.1, bal_cat h.2.2.1 (bal_cat (bal_1 (by rw [h44]; decide) (by rw [h44]; decide)) h2.2.2.2.1), fun f g hf hg => ?_⟩
  obtain ⟨g2, rfl⟩ := fpos hg (by omega)
  rw [VA, see_at hn a0 h (by omega) (fun _ => h44), h.2.2.2.2.2 f (by omega)]
  show (if q < z then (VA Y mt (VE Y D mt f) g2 (q + 1) z).bind _ else some (N, 1)) = _
  rw [if_pos (by omega), h2.2.2.2.2 f g2 (by omega) (by omega)]
  rfl
end XCP
def nbr (y : Int64) : Prop := ¬ y = 40 ∧ ¬ y = 91
/-- soundness of the descent -/
theorem px_C {Y : Int → Int64} {D : List Dcl} {mt : Int → Int} {n : Int} (hY : ∀ k, n ≤ k → Y k = 0) (hn : n ≤ 100) (hM : MTP Y n mt) : ∀ (m md : Nat) (dp a : Int) (acc : List Nd) (r : Int × List Nd × Int), 0 ≤ a → a ≤ n → px Y D n m md dp a acc = some r →
    (md = 0 → ∃ L, XC Y D mt n a r.1 r.2.1 L ∧ (∀ x, x ∈ L → 0 ≤ stq (Y x)) ∧ nbr (Y r.1) ∧ stq (Y r.1) = -1) ∧
    (1 ≤ md → md ≤ 5 → ∃ L, XC Y D mt n a r.1 r.2.1 L ∧ (∀ x, x ∈ L → (md : Int) ≤ stq (Y x)) ∧ nbr (Y r.1) ∧ sto (Y r.1) < md) ∧
    (md = 6 → ∀ p0, 0 ≤ p0 → prf (Y p0) = false → ¬ (Y p0 = 40 ∧ isT D (Y (p0 + 1)) = true) → XC Y D mt n p0 a acc [] → XC Y D mt n p0 r.1 r.2.1 [] ∧ nbr (Y r.1)) ∧
    (md = 7 → AC Y D mt n a (r.1 - 1) r.2.1 r.2.2) ∧
    (11 ≤ md → md ≤ 14 → ∀ a0 L, 0 ≤ a0 → XC Y D mt n a0 a acc L → (∀ x, x ∈ L → (md : Int) - 10 ≤ stq (Y x)) → nbr (Y a) → sto (Y a) < (md : Int) - 9 → ∃ L2, XC Y D mt n a0 r.1 r.2.1 L2 ∧ (∀ x, x ∈ L2 → (md : Int) - 10 ≤ stq (Y x)) ∧ nbr (Y r.1) ∧ sto (Y r.1) < (md : Int) - 10)
  | 0, md, dp, a, acc, r, a0, h, hp => nns hp
  | m + 1, md, dp, a, acc, r, a0, h, hp => by
    have lt : ∀ {k : Int} {x : Int64}, ¬ x = 0 → Y k = x → k < n := fun {k x} hx hk => Yk_lt hY hx hk
    refine ⟨fun c => ?_, fun c1 c5 => ?_, fun c => ?_, fun c => ?_, fun c1 c2 => ?_⟩
    · subst c
      rw [px_0] at hp
      split at hp
      · exact nns hp
      · obtain ⟨q, hq, h2⟩ := bind_some hp
        obtain ⟨L, x1, x2, x3, x4⟩ := (px_C hY hn hM m 1 dp a [] q a0 h hq).2.1 (by decide) (by decide)
        have hst := stq_sto (Y q.1)
        have x2' : ∀ x, x ∈ L → 1 ≤ stq (Y x) := fun x hx => x2 x hx
        split at h2
        · rename_i c61
          have ql := lt (by decide) c61
          obtain ⟨s, hs, h3⟩ := bind_some h2
          have x1a := x1.1
          obtain ⟨L2, y1, y2, y3, y4⟩ := (px_C hY hn hM m 0 dp (q.1 + 1) [] s (by omega) (by omega) hs).1 rfl
          cases h3
          have hk0 : stq (Y q.1) = 0 := hst.2.2.1.2 c61
          refine ⟨L ++ q.1 :: L2, XC_bin a0 hn x1 y1 (by omega) (pick_mid hk0 (Or.inr ⟨rfl, y2⟩) L (-1) 9 (fun x hx => ⟨by have := x2' x hx; omega, fun _ => by have := x2' x hx; omega⟩) (by decide) (fun _ => by decide)), fun x hx => ?_, y3, y4⟩
          rcases List.mem_append.1 hx with z | z
          · have := x2' x z; omega
          · rcases List.mem_cons.1 z with z | z
            · rw [z]; omega
            · exact y2 x z
        · rename_i c61
          cases h2
          refine ⟨L, x1, fun x hx => by have := x2' x hx; omega, x3, ?_⟩
          have s0 := sto_r (Y q.1)
          exact (hst.1 (by have : sto (Y q.1) < ((1 : Nat) : Int) := x4; omega)).resolve_left c61
    · by_cases c4 : md ≤ 4
      · rw [px_b (by omega) c4] at hp
        obtain ⟨q, hq, h2⟩ := bind_some hp
        obtain ⟨L, x1, x2, x3, x4⟩ := (px_C hY hn hM m (md + 1) dp a [] q a0 h hq).2.1 (by omega) (by omega)
        obtain ⟨L2, y1, y2, y3, y4⟩ := (px_C hY hn hM m (md + 10) dp q.1 q.2.1 r (by have := x1.1; omega) x1.2.1 h2).2.2.2.2 (by omega) (by omega) a L a0 x1 (fun x hx => by have := x2 x hx; omega) x3 (by omega)
        exact ⟨L2, y1, fun x hx => by have := y2 x hx; omega, y3, by omega⟩
      · have c : md = 5 := by omega
        subst c
        have sto5 : ∀ y : Int64, sto y < ((5 : Nat) : Int) := fun y => by have := sto_r y; omega
        have fin : ∀ {b : Int} {l : List Nd}, prf (Y a) = false → ¬ (Y a = 40 ∧ isT D (Y (a + 1)) = true) → XC Y D mt n a b l [] → px Y D n m 6 dp b l = some r → ∃ L, XC Y D mt n a r.1 r.2.1 L ∧ (∀ x, x ∈ L → ((5 : Nat) : Int) ≤ stq (Y x)) ∧ nbr (Y r.1) ∧ sto (Y r.1) < ((5 : Nat) : Int) := fun {b l} g1 g2 g3 g4 => by
          have z := (px_C hY hn hM m 6 dp b l r (by have := g3.1; omega) g3.2.1 g4).2.2.1 rfl a a0 g1 g2 g3
          exact ⟨[], z.1, fun x hx => absurd hx (by simp), z.2, sto5 _⟩
        have ext : ∀ {s : Int × List Nd × Int} {b : Int}, 0 ≤ b → b ≤ n → px Y D n m 5 dp b [] = some s → XC Y D mt n b s.1 s.2.1 [] ∧ nbr (Y s.1) := fun {s b} b0 b1 hs => by
          obtain ⟨L, x1, x2, x3, x4⟩ := (px_C hY hn hM m 5 dp b [] s b0 b1 hs).2.1 (by decide) (by decide)
          have : L = [] := by
            cases L with
            | nil => rfl
            | cons y L =>
              have := x2 y (by simp)
              have := (stq_sto (Y y)).2.2.2.1
              omega
          rw [this] at x1
          exact ⟨x1, x3⟩
        by_cases p1 : prf (Y a) = true
        · rw [px_5a p1] at hp
          have al : a < n := by
            have := of_decide_eq_true p1
            rcases this with z | z | z <;> exact lt (by decide) z
          obtain ⟨s, hs, h3⟩ := bind_some hp
          have x := ext (by omega) (by omega) hs
          cases h3
          exact ⟨[], XC_pre a0 hn x.1 rfl p1, fun x hx => absurd hx (by simp), x.2, sto5 _⟩
        · have p1 : prf (Y a) = false := by simpa using p1
          by_cases p2 : Y a = 40 ∧ isT D (Y (a + 1)) = true
          · rw [px_5c p1 p2] at hp
            obtain ⟨q, hq, h2⟩ := bind_some hp
            have qr := cst_r hY p2.1 p2.2 a0 hq
            obtain ⟨s, hs, h3⟩ := bind_some h2
            have x := ext (by omega) qr.2.1 hs
            have al2 := isT_lt hY p2.2
            unfold cst at hq
            split at hq
            · rename_i c41
              have sl := lt (by decide) c41
              cases hq
              cases h3
              exact ⟨[], XC_cst hM a0 hn p2.1 p2.2 al2 c41 sl x.1, fun x hx => absurd hx (by simp), x.2, sto5 _⟩
            · exact nns hq
          · rw [px_5p p1 p2] at hp
            obtain ⟨q, hq, h2⟩ := bind_some hp
            unfold prm at hq
            split at hq
            · rename_i c40
              have al := lt (by decide) c40
              obtain ⟨e, he, h3⟩ := bind_some hq
              obtain ⟨L, x1, x2, x3, x4⟩ := (px_C hY hn hM m 0 (dp + 1) (a + 1) [] e (by omega) (by omega) he).1 rfl
              split at h3
              · rename_i c41
                have el := lt (by decide) c41
                cases h3
                exact fin p1 p2 (XC_par hM a0 hn x1 c40 (fun z => p2 ⟨c40, z⟩) c41 el) h2
              · exact nns h3
            · split at hq
              · rename_i c5
                have al := wk_ne hY (by decide) c5
                cases hq
                have := XC_leaf (D := D) (mt := mt) a0 al hn (Or.inl c5)
                rw [if_pos c5] at this
                exact fin p1 p2 this h2
              · split at hq
                · rename_i c5 c4
                  have al := wk_ne hY (by decide) c4.1
                  cases hq
                  have := XC_leaf (D := D) (mt := mt) a0 al hn (Or.inr c4)
                  rw [if_neg c5] at this
                  exact fin p1 p2 this h2
                · exact nns hq
    · subst c
      intro p0 p00 g1 g2 g3
      rw [px_6] at hp
      have go : ∀ {b : Int} {l : List Nd}, XC Y D mt n p0 b l [] → px Y D n m 6 dp b l = some r → XC Y D mt n p0 r.1 r.2.1 [] ∧ nbr (Y r.1) := fun {b l} g4 g5 => (px_C hY hn hM m 6 dp b l r (by have := g4.1; omega) g4.2.1 g5).2.2.1 rfl p0 p00 g1 g2 g4
      split at hp
      · rename_i c91
        have al := lt (by decide) c91
        obtain ⟨q, hq, h2⟩ := bind_some hp
        obtain ⟨L, x1, x2, x3, x4⟩ := (px_C hY hn hM m 0 (dp + 1) (a + 1) [] q (by omega) (by omega) hq).1 rfl
        split at h2
        · rename_i c93
          exact go (XC_idx hM hn p00 g1 g2 g3 x1 c91 c93 (lt (by decide) c93)) h2
        · exact nns h2
      · rename_i c91
        split at hp
        · rename_i c40
          have al := lt (by decide) c40
          split at hp
          · rename_i c41
            exact go (XC_ca0 hM hn p00 g1 g2 g3 c40 c41 (lt (by decide) c41)) hp
          · obtain ⟨q, hq, h2⟩ := bind_some hp
            have x := (px_C hY hn hM m 7 dp (a + 1) [] q (by omega) (by omega) hq).2.2.2.1 rfl
            have y := XC_cal hM hn p00 g1 g2 g3 c40 x
            rw [show q.1 - 1 + 1 = q.1 by omega] at y
            exact go y h2
        · rename_i c40
          cases hp
          exact ⟨g3, c40, c91⟩
    · subst c
      rw [px_7] at hp
      obtain ⟨q, hq, h2⟩ := bind_some hp
      obtain ⟨L, x1, x2, x3, x4⟩ := (px_C hY hn hM m 0 (dp + 1) a [] q a0 h hq).1 rfl
      split at h2
      · rename_i c44
        have ql := lt (by decide) c44
        obtain ⟨s, hs, h3⟩ := bind_some h2
        have y := (px_C hY hn hM m 7 dp (q.1 + 1) [] s (by have := x1.1; omega) (by omega) hs).2.2.2.1 rfl
        cases h3
        exact AC_s hn a0 x1 c44 y
      · split at h2
        · rename_i c41
          have ql := lt (by decide) c41
          cases h2
          have y := AC_1 hn a0 x1 c41 ql
          show AC Y D mt n a (q.1 + 1 - 1) q.2.1 1
          rw [show q.1 + 1 - 1 = q.1 by omega]
          exact y
        · exact nns h2
    · intro b0 L hb0 g1 g2 g3 g4
      rw [px_l c1] at hp
      by_cases cs : sto (Y a) = (md : Int) - 10
      · rw [if_pos cs] at hp
        have hst := stq_sto (Y a)
        have hst2 := hst.2.1 (by omega)
        have al : a < n := by
          by_cases z : a < n
          · exact z
          · rw [hY a (by omega)] at cs
            have : sto 0 = 0 := by decide
            omega
        obtain ⟨q, hq, h2⟩ := bind_some hp
        obtain ⟨L2, x1, x2, x3, x4⟩ := (px_C hY hn hM m (md - 9) dp (a + 1) [] q (by omega) (by omega) hq).2.1 (by omega) (by omega)
        have xx : XC Y D mt n b0 q.1 ((12, a, 2) :: acc ++ q.2.1) (L ++ a :: L2) := XC_bin hb0 hn g1 x1 (by omega) (pick_mid (t := (md : Int) - 10) (by omega) (Or.inl ⟨by omega, fun x hx => by have := x2 x hx; omega⟩) L (-1) 9 (fun x hx => ⟨g2 x hx, fun z => by omega⟩) (by omega) (fun z => by omega))
        exact (px_C hY hn hM m md dp q.1 _ r (by have := x1.1; omega) x1.2.1 h2).2.2.2.2 c1 c2 b0 (L ++ a :: L2) hb0 xx (fun x hx => by
          rcases List.mem_append.1 hx with z | z
          · exact g2 x z
          · rcases List.mem_cons.1 z with z | z
            · rw [z]; omega
            · have := x2 x z; omega) x3 (by omega)
      · rw [if_neg cs] at hp
        cases hp
        exact ⟨L, g1, g2, g3, by show sto (Y a) < _; omega⟩
