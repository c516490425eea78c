/-! A range that is right at every place is taken from the left to the right. -/
section OKH
variable {Y : Int → Int64} {D : List Dcl} {mt : Int → Int} {n : Int}
def PXO (Y : Int → Int64) (D : List Dcl) (mt : Int → Int) (n : Int) (K : Int) : Prop := ∀ (F M : Nat) (x b dp : Int), b - x < K → 0 ≤ x → x < b → b ≤ n → ok Y D mt F x b true = true → nbr (Y b) → stq (Y b) = -1 → 0 ≤ dp → dp ≤ bc Y x.toNat + 1 → 20 * (n + 1 - x) + 12 ≤ M → ∃ N, px Y D n M 0 dp x [] = some (b, N, 0)
theorem ok_ne {F : Nat} {x b : Int} (h : ok Y D mt F x b true = true) : x < b := by
  by_cases c : x < b
  · exact c
  · cases F with
    | zero => exact Bool.noConfusion (show false = true from h)
    | succ F =>
      rw [ok_e (by omega)] at h
      exact Bool.noConfusion h
theorem px_bal (hY : ∀ k, n ≤ k → Y k = 0) (hn : n ≤ 100) (hM : MTP Y n mt) {m : Nat} {dp x y : Int} {N : List Nd} {c : Int} (x0 : 0 ≤ x) (x1 : x ≤ n) (h : px Y D n m 0 dp x [] = some (y, N, c)) : bal Y x y ∧ x < y := by
  obtain ⟨L, z, _⟩ := (px_C hY hn hM m 0 dp x [] _ x0 x1 h).1 rfl
  exact ⟨z.2.2.1, z.1⟩
theorem px_bal5 (hY : ∀ k, n ≤ k → Y k = 0) (hn : n ≤ 100) (hM : MTP Y n mt) {m md : Nat} {dp x y : Int} {N : List Nd} {c : Int} (m1 : 1 ≤ md) (m5 : md ≤ 5) (x0 : 0 ≤ x) (x1 : x ≤ n) (h : px Y D n m md dp x [] = some (y, N, c)) : bal Y x y ∧ x < y := by
  obtain ⟨L, z, _⟩ := (px_C hY hn hM m md dp x [] _ x0 x1 h).2.1 m1 m5
  exact ⟨z.2.2.1, z.1⟩
theorem px_cnt {m md : Nat} {dp x : Int} {acc : List Nd} {r : Int × List Nd × Int} (h7 : ¬ md = 7) (h : px Y D n m md dp x acc = some r) : px Y D n m md dp x acc = some (r.1, r.2.1, 0) := by
  have := px_z m md dp x acc r h7 h
  rw [h, ← this]
theorem ok_7 (hY : ∀ k, n ≤ k → Y k = 0) (hn : n ≤ 100) (hM : MTP Y n mt) {K : Int} (IH : PXO Y D mt n K) {F : Nat} {z dp : Int} (zn : z < n) (h41 : Y z = 41) (d0 : 0 ≤ dp) : ∀ (g M : Nat) (x : Int), 0 ≤ x → x ≤ z → z - x < K → Rch Y mt x z → oka Y mt (fun x y => ok Y D mt F x y true) g x z = true → dp + 1 ≤ bc Y x.toNat + 1 → 20 * (n + 1 - x) + 13 ≤ M → ∃ N c, px Y D n M 7 dp x [] = some (z + 1, N, c)
  | 0, M, x, _, _, _, _, h, _, _ => Bool.noConfusion (show false = true from h)
  | g + 1, M, x, x0, xz, hK, hr, h, hdp, hM2 => by
    obtain ⟨M1, rfl⟩ : ∃ M1 : Nat, M = M1 + 1 := ⟨M - 1, by omega⟩
    rw [oka, Bool.and_eq_true] at h
    have s := see_rch (w := 44) hM x0 (by omega : z ≤ n) hr
    have h1 : ok Y D mt F x (see Y mt x z 44) true = true := h.1
    have ne := ok_ne h1
    have hY2 : Y (see Y mt x z 44) = 44 ∨ (see Y mt x z 44 = z) := by
      by_cases c : see Y mt x z 44 < z
      · exact Or.inl (see_44 hM x0 (by omega) hn c)
      · exact Or.inr (by omega)
    have hst : nbr (Y (see Y mt x z 44)) ∧ stq (Y (see Y mt x z 44)) = -1 := by
      rcases hY2 with q | q
      · rw [q]; exact ⟨⟨by decide, by decide⟩, by decide⟩
      · rw [q, h41]; exact ⟨⟨by decide, by decide⟩, by decide⟩
    obtain ⟨N, e⟩ := IH F M1 x (see Y mt x z 44) (dp + 1) (by omega) x0 ne (by omega) h1 hst.1 hst.2 (by omega) hdp (by omega)
    rw [px_7, e]
    have hb := px_bal hY hn hM x0 (by omega) e
    have h2 := h.2
    by_cases c : see Y mt x z 44 < z
    · rw [if_pos c] at h2
      have e44 : Y (see Y mt x z 44) = 44 := see_44 hM x0 (by omega) hn c
      obtain ⟨cc, hc⟩ := s.1
      have q2 := Rch_sp hM cc x _ z hc hr s.2.1 x0 (by omega)
      have q3 := Rch_nx q2 c
      rw [nx_p (by rw [e44]; decide)] at q3
      have hbc : bc Y (see Y mt x z 44 + 1).toNat = bc Y x.toNat := by
        rw [bc_bal (by omega) (bal_1 (Y := Y) (k := see Y mt x z 44) (by rw [e44]; decide) (by rw [e44]; decide)), bc_bal x0 hb.1]
      obtain ⟨N2, c2, e2⟩ := ok_7 hY hn hM IH zn h41 d0 g M1 (see Y mt x z 44 + 1) (by omega) (by omega) (by omega) q3 h2 (by rw [hbc]; exact hdp) (by omega)
      refine ⟨N ++ N2, 1 + c2, ?_⟩
      show (if Y (see Y mt x z 44) = 44 then (px Y D n M1 7 dp (see Y mt x z 44 + 1) []).bind _ else _ : PR) = _
      rw [if_pos e44, e2]
      rfl
    · have e2 : see Y mt x z 44 = z := by omega
      refine ⟨N, 1, ?_⟩
      show (if Y (see Y mt x z 44) = 44 then _ else if Y (see Y mt x z 44) = 41 then some (see Y mt x z 44 + 1, N, 1) else none : PR) = _
      rw [e2, h41, if_neg (by decide), if_pos rfl]
theorem ok_6 (hY : ∀ k, n ≤ k → Y k = 0) (hn : n ≤ 100) (hM : MTP Y n mt) {K : Int} (IH : PXO Y D mt n K) {b dp : Int} (bn : b ≤ n) (hb : nbr (Y b)) (d0 : 0 ≤ dp) : ∀ (F M : Nat) (y : Int) (acc : List Nd), ok Y D mt F y b false = true → 0 ≤ y → y ≤ b → b - y ≤ K → dp ≤ bc Y y.toNat + 1 → 20 * (n + 1 - y) + 3 ≤ M → ∃ y2 N F2, px Y D n M 6 dp y acc = some (y2, N, 0) ∧ y ≤ y2 ∧ y2 ≤ b ∧ nbr (Y y2) ∧ ok Y D mt F2 y2 b false = true
  | 0, M, y, acc, h, _, _, _, _, _ => Bool.noConfusion (show false = true from h)
  | F + 1, M, y, acc, h, y0, yb, hK, hdp, hM2 => by
    obtain ⟨M1, rfl⟩ : ∃ M1 : Nat, M = M1 + 1 := ⟨M - 1, by omega⟩
    by_cases c : y = b
    · refine ⟨b, acc, F + 1, ?_, by omega, Int.le_refl _, hb, ?_⟩
      · rw [c, px_6, if_neg hb.2, if_neg hb.1]
      · rw [c] at h
        exact h
    · have yb : y < b := by omega
      have h0 := h
      rw [ok_f yb] at h
      by_cases c1 : Y y = 91
      · rw [if_pos c1, Bool.and_eq_true, Bool.and_eq_true] at h
        have m1 := of_decide_eq_true h.2.1
        have q := hM y y0 (by omega) (opb (Or.inr c1))
        have e93 : Y (mt y) = 93 := by
          have := of_decide_eq_true q.2.2.1
          rw [c1] at this
          rcases this with z | z | z
          · exact absurd z.1 (by decide)
          · exact z.2
          · exact absurd z.1 (by decide)
        have ne := ok_ne h.1
        obtain ⟨N, e⟩ := IH F M1 (y + 1) (mt y) (dp + 1) (by omega) (by omega) ne (by omega) h.1 (by rw [e93]; exact ⟨by decide, by decide⟩) (by rw [e93]; decide) (by omega) (by rw [bc_o y0 (opb (Or.inr c1))]; omega) (by omega)
        have hbc : bc Y (mt y + 1).toNat = bc Y y.toNat := bc_bal y0 (bal_br q.2.2.2.1 q.2.2.1)
        obtain ⟨y2, N2, F2, e2, l1, l2, l3, l4⟩ := ok_6 hY hn hM IH bn hb d0 F M1 (mt y + 1) ((15, y, 2) :: acc ++ N) h.2.2 (by omega) (by omega) (by omega) (by rw [hbc]; exact hdp) (by omega)
        refine ⟨y2, N2, F2, ?_, by omega, l2, l3, l4⟩
        rw [px_6, if_pos c1, e]
        show (if Y (mt y) = 93 then px Y D n M1 6 dp (mt y + 1) ((15, y, 2) :: acc ++ N) else none) = _
        rw [if_pos e93, e2]
      · rw [if_neg c1] at h
        by_cases c2 : Y y = 40
        · rw [if_pos c2, Bool.and_eq_true, Bool.and_eq_true] at h
          have m1 := of_decide_eq_true h.2.1
          have q := hM y y0 (by omega) (opb (Or.inl c2))
          have e41 : Y (mt y) = 41 := by
            have := of_decide_eq_true q.2.2.1
            rw [c2] at this
            rcases this with z | z | z
            · exact z.2
            · exact absurd z.1 (by decide)
            · exact absurd z.1 (by decide)
          have hbc : bc Y (mt y + 1).toNat = bc Y y.toNat := bc_bal y0 (bal_br q.2.2.2.1 q.2.2.1)
          have h1 := h.1
          by_cases c3 : mt y = y + 1
          · obtain ⟨y2, N2, F2, e2, l1, l2, l3, l4⟩ := ok_6 hY hn hM IH bn hb d0 F M1 (mt y + 1) ((16, y, 1) :: acc) h.2.2 (by omega) (by omega) (by omega) (by rw [hbc]; exact hdp) (by omega)
            refine ⟨y2, N2, F2, ?_, by omega, l2, l3, l4⟩
            rw [px_6, if_neg c1, if_pos c2, if_pos (by rw [← c3]; exact e41), show y + 2 = mt y + 1 by omega, e2]
          · rw [if_neg c3] at h1
            have n41 : ¬ Y (y + 1) = 41 := fun z => c3 (mt_u hM y0 (by omega) (bal_0 Y (y + 1)) (by rw [c2, z]; decide))
            obtain ⟨N, cN, e⟩ := ok_7 hY hn hM IH (z := mt y) (dp := dp) (by omega) e41 d0 200 M1 (y + 1) (by omega) (by omega) (by omega) (bal_rch hM q.2.2.2.1 (by omega) (by omega)) h1 (by rw [bc_o y0 (opb (Or.inl c2))]; omega) (by omega)
            obtain ⟨y2, N2, F2, e2, l1, l2, l3, l4⟩ := ok_6 hY hn hM IH bn hb d0 F M1 (mt y + 1) ((16, y, 1 + cN) :: acc ++ N) h.2.2 (by omega) (by omega) (by omega) (by rw [hbc]; exact hdp) (by omega)
            refine ⟨y2, N2, F2, ?_, by omega, l2, l3, l4⟩
            rw [px_6, if_neg c1, if_pos c2, if_neg n41, e]
            exact e2
        · refine ⟨y, acc, F + 1, ?_, Int.le_refl _, by omega, ⟨c2, c1⟩, h0⟩
          rw [px_6, if_neg c1, if_neg c2]
theorem ok_5 (hY : ∀ k, n ≤ k → Y k = 0) (hn : n ≤ 100) (hM : MTP Y n mt) {K : Int} (IH : PXO Y D mt n K) {b dp : Int} (bn : b ≤ n) (hb : nbr (Y b)) (d0 : 0 ≤ dp) : ∀ (F M : Nat) (x : Int), ok Y D mt F x b true = true → 0 ≤ x → b - x ≤ K → dp ≤ bc Y x.toNat + 1 → 20 * (n + 1 - x) + 7 ≤ M → ∃ y N F2, px Y D n M 5 dp x [] = some (y, N, 0) ∧ x < y ∧ y ≤ b ∧ nbr (Y y) ∧ ok Y D mt F2 y b false = true
  | 0, M, x, h, _, _, _, _ => Bool.noConfusion (show false = true from h)
  | F + 1, M, x, h, x0, hK, hdp, hM2 => by
    have xb := ok_ne h
    obtain ⟨M1, rfl⟩ : ∃ M1 : Nat, M = M1 + 1 := ⟨M - 1, by omega⟩
    rw [ok_t xb] at h
    have post : ∀ {y0 : Int} {N0 : List Nd}, prf (Y x) = false → ¬ (Y x = 40 ∧ isT D (Y (x + 1)) = true) → prm Y D n M1 dp x = some (y0, N0, 0) → x < y0 → y0 ≤ b → ok Y D mt F y0 b false = true → bc Y y0.toNat = bc Y x.toNat → ∃ y N F2, px Y D n (M1 + 1) 5 dp x [] = some (y, N, 0) ∧ x < y ∧ y ≤ b ∧ nbr (Y y) ∧ ok Y D mt F2 y b false = true := fun {y0 N0} p1 p2 p3 p4 p5 p6 p7 => by
      obtain ⟨y2, N2, F2, e2, l1, l2, l3, l4⟩ := ok_6 hY hn hM IH bn hb d0 F M1 y0 N0 p6 (by omega) p5 (by omega) (by rw [p7]; exact hdp) (by omega)
      refine ⟨y2, N2, F2, ?_, by omega, l2, l3, l4⟩
      rw [px_5p p1 p2, p3]
      exact e2
    by_cases c1 : Y x = 40 ∧ isT D (Y (x + 1)) = true
    · rw [if_pos c1, Bool.and_eq_true, Bool.and_eq_true] at h
      have m1 := of_decide_eq_true h.2.1
      have q := hM x x0 (by omega) (opb (Or.inl c1.1))
      have e41 : Y (mt x) = 41 := by
        have := of_decide_eq_true q.2.2.1
        rw [c1.1] at this
        rcases this with z | z | z
        · exact z.2
        · exact absurd z.1 (by decide)
        · exact absurd z.1 (by decide)
      have m2 : x + 2 ≤ mt x := by
        by_cases z : mt x = x + 1
        · rw [z] at e41
          have := (isT_nb c1.2).2
          rw [e41] at this
          exact absurd this (by decide)
        · omega
      have hs : stN Y n (x + 2) = mt x := by
        have h1 := of_decide_eq_true h.1
        have h2 := fi_all (p := fun s => decide (¬ Y s = 42)) (n := mt x) _ (x + 2) rfl h1
        have h3 : stN Y n (x + 2) ≤ mt x := fi_le (p := fun s => decide (¬ Y s = 42)) (n := n) (k := mt x) (by omega) (decide_eq_true (by rw [e41]; decide)) _ (x + 2) rfl m2
        have h4 := stN_r (Y := Y) (n := n) (a := x + 2) (by omega)
        by_cases z : stN Y n (x + 2) = mt x
        · exact z
        · exfalso
          have h5 := h2 (stN Y n (x + 2)) h4.1 (by omega)
          have h6 := fi_hit (p := fun s => decide (¬ Y s = 42)) (n := n) _ (x + 2) rfl (by show stN Y n (x + 2) < n; omega)
          have h6 : decide (¬ Y (stN Y n (x + 2)) = 42) = true := h6
          rw [h5] at h6
          exact Bool.noConfusion h6
      have p1 : prf (Y x) = false := by rw [c1.1]; decide
      have hbc : bc Y (mt x + 1).toNat = bc Y x.toNat := bc_bal x0 (bal_br q.2.2.2.1 q.2.2.1)
      obtain ⟨y, N, F2, e, l1, l2, l3, l4⟩ := ok_5 hY hn hM IH bn hb d0 F M1 (mt x + 1) h.2.2 (by omega) (by omega) (by rw [hbc]; exact hdp) (by omega)
      have ec : cst Y n x = some (mt x + 1, (14, x, 2 + (stN Y n (x + 2) - (x + 2))) :: (3, x + 1, 0) :: stF (stN Y n (x + 2) - (x + 2)).toNat (x + 2), 0) := by
        unfold cst
        rw [hs, if_pos e41]
      refine ⟨y, ((14, x, 2 + (stN Y n (x + 2) - (x + 2))) :: (3, x + 1, 0) :: stF (stN Y n (x + 2) - (x + 2)).toNat (x + 2)) ++ N, F2, ?_, by omega, l2, l3, l4⟩
      rw [px_5c p1 c1, ec]
      show (px Y D n M1 5 dp (mt x + 1) []).bind _ = _
      rw [e]
      rfl
    · rw [if_neg c1] at h
      by_cases c2 : prf (Y x) = true
      · rw [if_pos c2] at h
        have nb := prf_nb c2
        have hbc : bc Y (x + 1).toNat = bc Y x.toNat := bc_bal x0 (bal_1 nb.1 nb.2.1)
        obtain ⟨y, N, F2, e, l1, l2, l3, l4⟩ := ok_5 hY hn hM IH bn hb d0 F M1 (x + 1) h (by omega) (by omega) (by rw [hbc]; exact hdp) (by omega)
        refine ⟨y, (13, x, 1) :: N, F2, ?_, by omega, l2, l3, l4⟩
        rw [px_5a c2, e]
        rfl
      · rw [if_neg c2] at h
        have p1 : prf (Y x) = false := by simpa using c2
        by_cases c3 : Y x = 40
        · rw [if_pos c3, Bool.and_eq_true, Bool.and_eq_true] at h
          have m1 := of_decide_eq_true h.2.1
          have q := hM x x0 (by omega) (opb (Or.inl c3))
          have e41 : Y (mt x) = 41 := by
            have := of_decide_eq_true q.2.2.1
            rw [c3] at this
            rcases this with z | z | z
            · exact z.2
            · exact absurd z.1 (by decide)
            · exact absurd z.1 (by decide)
          have ne := ok_ne h.1
          obtain ⟨N, e⟩ := IH F M1 (x + 1) (mt x) (dp + 1) (by omega) (by omega) ne (by omega) h.1 (by rw [e41]; exact ⟨by decide, by decide⟩) (by rw [e41]; decide) (by omega) (by rw [bc_o x0 (opb (Or.inl c3))]; omega) (by omega)
          refine post p1 c1 (N0 := N) ?_ (by omega : x < mt x + 1) (by omega) h.2.2 (bc_bal x0 (bal_br q.2.2.2.1 q.2.2.1))
          unfold prm
          rw [if_pos c3, e]
          show (if Y (mt x) = 41 then some (mt x + 1, N, 0) else none) = _
          rw [if_pos e41]
        · rw [if_neg c3] at h
          by_cases c4 : wk (Y x) = 5 ∨ (wk (Y x) = 4 ∧ isT D (Y x) = false)
          · rw [if_pos c4] at h
            have nb := wk_nb (y := Y x) (by rcases c4 with z | z; exact Or.inr z; exact Or.inl z.1)
            have hbc : bc Y (x + 1).toNat = bc Y x.toNat := bc_bal x0 (bal_1 nb.1 nb.2.1)
            by_cases c5 : wk (Y x) = 5
            · refine post p1 c1 (N0 := [(18, x, 0)]) ?_ (by omega : x < x + 1) (by omega) h hbc
              unfold prm
              rw [if_neg c3, if_pos c5]
            · refine post p1 c1 (N0 := [(17, x, 0)]) ?_ (by omega : x < x + 1) (by omega) h hbc
              unfold prm
              rw [if_neg c3, if_neg c5, if_pos (c4.resolve_left c5)]
          · rw [if_neg c4] at h
            exact Bool.noConfusion h
theorem ok_op {F : Nat} {y b : Int} (h : ok Y D mt F y b false = true) (yb : y < b) (hy : nbr (Y y)) : 0 ≤ stq (Y y) ∧ ∃ F2, ok Y D mt F2 (y + 1) b true = true := by
  cases F with
  | zero => exact Bool.noConfusion (show false = true from h)
  | succ F =>
    rw [ok_f yb, if_neg hy.2, if_neg hy.1] at h
    by_cases c : stq (Y y) < 0
    · rw [if_pos c] at h
      exact Bool.noConfusion h
    · rw [if_neg c] at h
      exact ⟨by omega, F, h⟩
/-- the levels -/
theorem ok_s (hY : ∀ k, n ≤ k → Y k = 0) (hn : n ≤ 100) (hM : MTP Y n mt) {K : Int} (IH : PXO Y D mt n K) {b dp : Int} (bn : b ≤ n) (hb : nbr (Y b)) (hb2 : stq (Y b) = -1) (d0 : 0 ≤ dp) : ∀ (j s : Nat), s + j = 5 → 1 ≤ s → ∀ (F M : Nat) (x : Int), ok Y D mt F x b true = true → 0 ≤ x → b - x ≤ K → dp ≤ bc Y x.toNat + 1 → 20 * (n + 1 - x) + 12 - s ≤ M → ∃ y N F2, px Y D n M s dp x [] = some (y, N, 0) ∧ x < y ∧ y ≤ b ∧ nbr (Y y) ∧ ok Y D mt F2 y b false = true ∧ (y = b ∨ sto (Y y) < s)
  | 0, s, hs, s1, F, M, x, h, x0, hK, hdp, hM2 => by
    have e5 : s = 5 := by omega
    subst e5
    obtain ⟨y, N, F2, e, l1, l2, l3, l4⟩ := ok_5 hY hn hM IH bn hb d0 F M x h x0 hK hdp (by omega)
    exact ⟨y, N, F2, e, l1, l2, l3, l4, Or.inr (by have := sto_r (Y y); omega)⟩
  | j + 1, s, hs, s1, F, M, x, h, x0, hK, hdp, hM2 => by
    have xb9 := ok_ne h
    obtain ⟨M1, rfl⟩ : ∃ M1 : Nat, M = M1 + 1 := ⟨M - 1, by omega⟩
    have low := ok_s hY hn hM IH bn hb hb2 d0 j (s + 1) (by omega) (by omega)
    have sb0 : sto (Y b) = 0 := by
      have a := (stq_sto (Y b)).2.1
      have r := sto_r (Y b)
      by_cases z : sto (Y b) = 0
      · exact z
      · have := a (by omega)
        omega
    -- the loop
    have loop : ∀ (g : Nat) (y : Int) (acc : List Nd) (Mx F2 : Nat), (b - y).toNat ≤ g → x < y → y ≤ b → nbr (Y y) → ok Y D mt F2 y b false = true → (y = b ∨ sto (Y y) < s + 1) → bc Y y.toNat = bc Y x.toNat → 20 * (n + 1 - y) + 6 ≤ Mx → ∃ y2 N F3, px Y D n Mx (s + 10) dp y acc = some (y2, N, 0) ∧ x < y2 ∧ y2 ≤ b ∧ nbr (Y y2) ∧ ok Y D mt F3 y2 b false = true ∧ (y2 = b ∨ sto (Y y2) < s) := fun g => by
      induction g with
      | zero =>
        intro y acc Mx F2 hg xy yb ny hk hs2 hbc hMx
        obtain ⟨M2, rfl⟩ : ∃ M2 : Nat, Mx = M2 + 1 := ⟨Mx - 1, by omega⟩
        have e : y = b := by omega
        refine ⟨y, acc, F2, ?_, xy, yb, ny, hk, Or.inl e⟩
        rw [px_l (by omega), if_neg (by rw [e, sb0]; omega)]
      | succ g ih =>
        intro y acc Mx F2 hg xy yb ny hk hs2 hbc hMx
        obtain ⟨M2, rfl⟩ : ∃ M2 : Nat, Mx = M2 + 1 := ⟨Mx - 1, by omega⟩
        by_cases e : y = b
        · refine ⟨y, acc, F2, ?_, xy, yb, ny, hk, Or.inl e⟩
          rw [px_l (by omega), if_neg (by rw [e, sb0]; omega)]
        · have o := ok_op hk (by omega) ny
          obtain ⟨o1, F4, o2⟩ := o
          by_cases cs : sto (Y y) = s
          · have nb := stq_nb o1
            have ne := ok_ne o2
            have hbc2 : bc Y (y + 1).toNat = bc Y x.toNat := by rw [bc_bal (by omega) (bal_1 (k := y) nb.1 nb.2.1), hbc]
            obtain ⟨y2, N2, F5, e2, l1, l2, l3, l4, l5⟩ := low F4 M2 (y + 1) o2 (by omega) (by omega) (by rw [hbc2]; exact hdp) (by omega)
            have bb := px_bal5 hY hn hM (by omega) (by omega) (by omega) (by omega) e2
            obtain ⟨y3, N3, F6, e3, k1, k2, k3, k4, k5⟩ := ih y2 ((12, y, 2) :: acc ++ N2) M2 F5 (by omega) (by omega) l2 l3 l4 (by rcases l5 with z | z; exact Or.inl z; exact Or.inr (by omega)) (by rw [bc_bal (by omega) bb.1, hbc2]) (by omega)
            refine ⟨y3, N3, F6, ?_, k1, k2, k3, k4, k5⟩
            rw [px_l (by omega), if_pos (by rw [cs]; omega), show s + 10 - 9 = s + 1 by omega, e2]
            exact e3
          · refine ⟨y, acc, F2, ?_, xy, yb, ny, hk, Or.inr (by rcases hs2 with z | z; exact absurd z e; omega)⟩
            rw [px_l (by omega), if_neg (by omega)]
    obtain ⟨y, N, F2, e, l1, l2, l3, l4, l5⟩ := low F M1 x h x0 hK hdp (by omega)
    have bb := px_bal5 hY hn hM (by omega) (by omega) x0 (by omega) e
    obtain ⟨y3, N3, F6, e3, k1, k2, k3, k4, k5⟩ := loop (b - y).toNat y N M1 F2 (Nat.le_refl _) l1 l2 l3 l4 (by rcases l5 with z | z; exact Or.inl z; exact Or.inr (by omega)) (bc_bal x0 bb.1) (by omega)
    refine ⟨y3, N3, F6, ?_, k1, k2, k3, k4, k5⟩
    rw [px_b (by omega) (by omega), e]
    exact e3
theorem PXO_all (hY : ∀ k, n ≤ k → Y k = 0) (hn : n ≤ 100) (hM : MTP Y n mt) (hB : ∀ k : Int, 0 ≤ k → k < n → bc Y (k + 1).toNat ≤ 6) : ∀ K : Nat, PXO Y D mt n K
  | 0 => fun F M x b dp hK x0 xb bn h hb hb2 d0 hdp hM2 => by omega
  | K + 1 => fun F M x b dp hK x0 xb bn h hb hb2 d0 hdp hM2 => by
    have IH := PXO_all hY hn hM hB K
    obtain ⟨M1, rfl⟩ : ∃ M1 : Nat, M = M1 + 1 := ⟨M - 1, by omega⟩
    have dp12 : ¬ 12 < dp := by
      have hbx : bc Y x.toNat ≤ 6 := by
        by_cases z : x = 0
        · rw [z]
          show (0 : Int) ≤ 6
          decide
        · have := hB (x - 1) (by omega) (by omega)
          rw [show x - 1 + 1 = x by omega] at this
          exact this
      omega
    obtain ⟨y, N, F2, e, l1, l2, l3, l4, l5⟩ := ok_s hY hn hM IH bn hb hb2 d0 4 1 rfl (by decide) F M1 x h x0 (by omega) hdp (by omega)
    have bb := px_bal5 hY hn hM (by decide) (by decide) x0 (by omega) e
    rw [px_0, if_neg dp12, e]
    by_cases c : y = b
    · refine ⟨N, ?_⟩
      show (if Y y = 61 then _ else some (y, N, 0) : PR) = _
      have n61 : ¬ Y y = 61 := fun z => by
        rw [c] at z
        rw [z] at hb2
        exact absurd hb2 (by decide)
      rw [if_neg n61, c]
    · obtain ⟨o1, F4, o2⟩ := ok_op l4 (by omega) l3
      have s1 := l5.resolve_left c
      have s0 := sto_r (Y y)
      have e61 : Y y = 61 := ((stq_sto (Y y)).1 (by omega)).resolve_right (by omega)
      have ne := ok_ne o2
      have hbc2 : bc Y (y + 1).toNat = bc Y x.toNat := by rw [bc_bal (by omega) (bal_1 (Y := Y) (k := y) (by rw [e61]; decide) (by rw [e61]; decide)), bc_bal x0 bb.1]
      obtain ⟨N2, e2⟩ := IH F4 M1 (y + 1) b dp (by omega) (by omega) ne bn o2 hb hb2 d0 (by rw [hbc2]; exact hdp) (by omega)
      refine ⟨(12, y, 2) :: N ++ N2, ?_⟩
      show (if Y y = 61 then (px Y D n M1 0 dp (y + 1) []).bind _ else _ : PR) = _
      rw [if_pos e61, e2]
      rfl
end OKH
/-- an expression: both ways agree -/
theorem px_VE {Y : Int → Int64} {D : List Dcl} {mt : Int → Int} {n : Int} (hY : ∀ k, n ≤ k → Y k = 0) (hn : n ≤ 100) (hM : MTP Y n mt) (hB : ∀ k : Int, 0 ≤ k → k < n → bc Y (k + 1).toNat ≤ 6) {f M : Nat} {a b dp : Int} {N : List Nd} (a0 : 0 ≤ a) (bn : b ≤ n) (hr : Rch Y mt a b) (h : VE Y D mt f a b = some N) (hf : b - a < f) (hb : nbr (Y b)) (hb2 : stq (Y b) = -1) (d0 : 0 ≤ dp) (hdp : dp ≤ bc Y a.toNat + 1) (hM2 : 20 * (n + 1 - a) + 12 ≤ M) : px Y D n M 0 dp a [] = some (b, N, 0) := by
  have hk := VE_ok hM hn f a b N h hr a0 bn 200 (by decide) (by have := Rch_le hr; omega)
  have ab := ok_ne hk
  obtain ⟨N2, e⟩ := PXO_all hY hn hM hB 200 200 M a b dp (by omega) a0 ab bn hk hb hb2 d0 hdp hM2
  obtain ⟨L, x, _⟩ := (px_C hY hn hM M 0 dp a [] _ a0 (by omega) e).1 rfl
  have e2 := x.2.2.2.2.2 f hf
  have e2 : VE Y D mt f a b = some N2 := e2
  rw [h] at e2
  rw [e, Option.some.inj e2]
