/-! Expressions: what they are, from the left to the right. -/
abbrev Nd : Type := Int × Int × Int
abbrev PR : Type := Option (Int × List Nd × Int)
def sto (y : Int64) : Int := if y = 42 ∨ y = 47 then 4 else if y = 43 ∨ y = 45 then 3 else if y = 60 ∨ y = 62 then 2 else if y = 7869 then 1 else 0
def prf (y : Int64) : Bool := decide (y = 45 ∨ y = 42 ∨ y = 38)
def stN (Y : Int → Int64) (n a : Int) : Int := fi (fun j => decide (¬ Y j = 42)) n a
def stF : Nat → Int → List Nd
  | 0, _ => []
  | m + 1, a => (7, a, 0) :: stF m (a + 1)
section PX
variable (Y : Int → Int64) (D : List Dcl) (n : Int)
def px : Nat → Nat → Int → Int → List Nd → PR
  | 0, _, _, _, _ => none
  | m + 1, md, dp, a, acc =>
    if md = 0 then (if 12 < dp then none else (px m 1 dp a []).bind (fun q => if Y q.1 = 61 then (px m 0 dp (q.1 + 1) []).bind (fun r => some (r.1, (12, q.1, 2) :: q.2.1 ++ r.2.1, 0)) else some (q.1, q.2.1, 0)))
    else if md ≤ 4 then (px m (md + 1) dp a []).bind (fun q => px m (md + 10) dp q.1 q.2.1)
    else if md = 5 then
      (if prf (Y a) = true then (px m 5 dp (a + 1) []).bind (fun r => some (r.1, (13, a, 1) :: r.2.1, 0))
       else if Y a = 40 ∧ isT D (Y (a + 1)) = true then (if Y (stN Y n (a + 2)) = 41 then (px m 5 dp (stN Y n (a + 2) + 1) []).bind (fun r => some (r.1, (14, a, 2 + (stN Y n (a + 2) - (a + 2))) :: (3, a + 1, 0) :: stF (stN Y n (a + 2) - (a + 2)).toNat (a + 2) ++ r.2.1, 0)) else none)
       else if Y a = 40 then (px m 0 (dp + 1) (a + 1) []).bind (fun q => if Y q.1 = 41 then px m 6 dp (q.1 + 1) q.2.1 else none)
       else if wk (Y a) = 5 then px m 6 dp (a + 1) [(18, a, 0)]
       else if wk (Y a) = 4 ∧ isT D (Y a) = false then px m 6 dp (a + 1) [(17, a, 0)] else none)
    else if md = 6 then
      (if Y a = 91 then (px m 0 (dp + 1) (a + 1) []).bind (fun q => if Y q.1 = 93 then px m 6 dp (q.1 + 1) ((15, a, 2) :: acc ++ q.2.1) else none)
       else if Y a = 40 then (if Y (a + 1) = 41 then px m 6 dp (a + 2) ((16, a, 1) :: acc) else (px m 7 dp (a + 1) []).bind (fun q => px m 6 dp q.1 ((16, a, 1 + q.2.2) :: acc ++ q.2.1)))
       else some (a, acc, 0))
    else if md = 7 then (px m 0 (dp + 1) a []).bind (fun q => if Y q.1 = 44 then (px m 7 dp (q.1 + 1) []).bind (fun r => some (r.1, q.2.1 ++ r.2.1, 1 + r.2.2)) else if Y q.1 = 41 then some (q.1 + 1, q.2.1, 1) else none)
    else (if sto (Y a) = md - 10 then (px m (md - 9) dp (a + 1) []).bind (fun q => px m md dp q.1 ((12, a, 2) :: acc ++ q.2.1)) else some (a, acc, 0))
end PX
section PX2
variable {Y : Int → Int64} {D : List Dcl} {n : Int} {m : Nat} {dp a : Int} {acc : List Nd}
theorem px_0 : px Y D n (m + 1) 0 dp a acc = if 12 < dp then none else (px Y D n m 1 dp a []).bind (fun q => if Y q.1 = 61 then (px Y D n m 0 dp (q.1 + 1) []).bind (fun r => some (r.1, (12, q.1, 2) :: q.2.1 ++ r.2.1, 0)) else some (q.1, q.2.1, 0)) := by
  rw [px, if_pos rfl]
theorem px_b {md : Nat} (h0 : ¬ md = 0) (h4 : md ≤ 4) : px Y D n (m + 1) md dp a acc = (px Y D n m (md + 1) dp a []).bind (fun q => px Y D n m (md + 10) dp q.1 q.2.1) := by
  rw [px, if_neg h0, if_pos h4]
theorem px_5 : px Y D n (m + 1) 5 dp a acc = (if prf (Y a) = true then (px Y D n m 5 dp (a + 1) []).bind (fun r => some (r.1, (13, a, 1) :: r.2.1, 0))
       else if Y a = 40 ∧ isT D (Y (a + 1)) = true then (if Y (stN Y n (a + 2)) = 41 then (px Y D n m 5 dp (stN Y n (a + 2) + 1) []).bind (fun r => some (r.1, (14, a, 2 + (stN Y n (a + 2) - (a + 2))) :: (3, a + 1, 0) :: stF (stN Y n (a + 2) - (a + 2)).toNat (a + 2) ++ r.2.1, 0)) else none)
       else if Y a = 40 then (px Y D n m 0 (dp + 1) (a + 1) []).bind (fun q => if Y q.1 = 41 then px Y D n m 6 dp (q.1 + 1) q.2.1 else none)
       else if wk (Y a) = 5 then px Y D n m 6 dp (a + 1) [(18, a, 0)]
       else if wk (Y a) = 4 ∧ isT D (Y a) = false then px Y D n m 6 dp (a + 1) [(17, a, 0)] else none) := by
  rw [px, if_neg (by decide), if_neg (by decide), if_pos rfl]
theorem px_6 : px Y D n (m + 1) 6 dp a acc = (if Y a = 91 then (px Y D n m 0 (dp + 1) (a + 1) []).bind (fun q => if Y q.1 = 93 then px Y D n m 6 dp (q.1 + 1) ((15, a, 2) :: acc ++ q.2.1) else none)
       else if Y a = 40 then (if Y (a + 1) = 41 then px Y D n m 6 dp (a + 2) ((16, a, 1) :: acc) else (px Y D n m 7 dp (a + 1) []).bind (fun q => px Y D n m 6 dp q.1 ((16, a, 1 + q.2.2) :: acc ++ q.2.1)))
       else some (a, acc, 0)) := by
  rw [px, if_neg (by decide), if_neg (by decide), if_neg (by decide), if_pos rfl]
theorem px_7 : px Y D n (m + 1) 7 dp a acc = (px Y D n m 0 (dp + 1) a []).bind (fun q => if Y q.1 = 44 then (px Y D n m 7 dp (q.1 + 1) []).bind (fun r => some (r.1, q.2.1 ++ r.2.1, 1 + r.2.2)) else if Y q.1 = 41 then some (q.1 + 1, q.2.1, 1) else none) := by
  rw [px, if_neg (by decide), if_neg (by decide), if_neg (by decide), if_neg (by decide), if_pos rfl]
theorem px_l {md : Nat} (h : 11 ≤ md) : px Y D n (m + 1) md dp a acc = (if sto (Y a) = md - 10 then (px Y D n m (md - 9) dp (a + 1) []).bind (fun q => px Y D n m md dp q.1 ((12, a, 2) :: acc ++ q.2.1)) else some (a, acc, 0)) := by
  rw [px, if_neg (by omega), if_neg (by omega), if_neg (by omega), if_neg (by omega), if_neg (by omega)]
end PX2
theorem nns {α : Type} {x : α} {p : Prop} (h : (none : Option α) = some x) : p := by cases h
theorem isT_0 (D : List Dcl) : isT D 0 = false := by
  unfold isT
  rw [wk_0]
  rfl
theorem bind_some {α β : Type} {o : Option α} {f : α → Option β} {r : β} (h : o.bind f = some r) : ∃ q, o = some q ∧ f q = some r := by
  cases o with
  | none => exact nns h
  | some q => exact ⟨q, rfl, h⟩
theorem stF_len : ∀ (m : Nat) (a : Int), (stF m a).length = m
  | 0, _ => rfl
  | m + 1, a => by
    show (stF m (a + 1)).length + 1 = m + 1
    rw [stF_len m (a + 1)]
theorem stN_r {Y : Int → Int64} {n a : Int} (h : a ≤ n) : a ≤ stN Y n a ∧ stN Y n a ≤ n := fi_r h
/-- where it ends, and that each node has a token of its own -/
theorem px_r {Y : Int → Int64} {D : List Dcl} {n : Int} (hY : ∀ k, n ≤ k → Y k = 0) : ∀ (m md : Nat) (dp a : Int) (acc : List Nd) (r : Int × List Nd × Int), (md ≤ 7 ∨ (11 ≤ md ∧ md ≤ 14)) → a ≤ n → px Y D n m md dp a acc = some r → a ≤ r.1 ∧ r.1 ≤ n ∧ (r.2.1.length : Int) ≤ (if md = 6 ∨ 11 ≤ md then acc.length else 0) + (r.1 - a) ∧ ((md = 6 ∨ 11 ≤ md) ∨ a + 1 ≤ r.1) ∧ (md = 7 → (r.2.1.length : Int) + 1 ≤ r.1 - a)
  | 0, md, dp, a, acc, r, hmd, h, hp => nns hp
  | m + 1, md, dp, a, acc, r, hmd, h, hp => by
    have lt : ∀ {k : Int} {x : Int64}, ¬ x = 0 → Y k = x → k < n := fun {k x} hx hk => by
      by_cases c : k < n
      · exact c
      · exact absurd ((hY k (by omega)).symm.trans hk) (fun z => hx z.symm)
    by_cases c0 : md = 0
    · subst c0
      rw [px_0] at hp
      split at hp
      · exact nns hp
      · obtain ⟨q, hq, h2⟩ := bind_some hp
        have i1 := px_r hY m 1 dp a [] q (by omega) h hq
        rw [if_neg (by decide)] at i1
        have i1b := i1.2.2.2.1.resolve_left (by decide)
        split at h2
        · rename_i c
          obtain ⟨s, hs, h3⟩ := bind_some h2
          have ql := lt (by decide) c
          have i2 := px_r hY m 0 dp (q.1 + 1) [] s (by omega) (by omega) hs
          rw [if_neg (by decide)] at i2
          cases h3
          refine ⟨by show a ≤ s.1; omega, i2.2.1, ?_, Or.inr (by show a + 1 ≤ s.1; omega), fun z => absurd z (by decide)⟩
          rw [if_neg (by decide)]
          show ((((12, q.1, 2) :: q.2.1 ++ s.2.1).length : Nat) : Int) ≤ 0 + (s.1 - a)
          rw [List.length_append, List.length_cons]
          omega
        · cases h2
          refine ⟨i1.1, i1.2.1, ?_, Or.inr i1b, fun z => absurd z (by decide)⟩
          rw [if_neg (by decide)]
          exact i1.2.2.1
    · by_cases c4 : md ≤ 4
      · rw [px_b c0 c4] at hp
        obtain ⟨q, hq, h2⟩ := bind_some hp
        have i1 := px_r hY m (md + 1) dp a [] q (by omega) h hq
        rw [if_neg (by omega)] at i1
        have i1b := i1.2.2.2.1.resolve_left (by omega)
        have i2 := px_r hY m (md + 10) dp q.1 q.2.1 r (by omega) i1.2.1 h2
        rw [if_pos (by omega)] at i2
        refine ⟨by omega, i2.2.1, ?_, Or.inr (by omega), fun z => absurd z (by omega)⟩
        rw [if_neg (by omega)]
        omega
      · by_cases c5 : md = 5
        · subst c5
          rw [px_5] at hp
          rw [if_neg (by decide)]
          have fin6 : ∀ {b : Int} {l : List Nd}, a + 1 ≤ b → b ≤ n → (l.length : Int) ≤ b - a → px Y D n m 6 dp b l = some r → a ≤ r.1 ∧ r.1 ≤ n ∧ (r.2.1.length : Int) ≤ 0 + (r.1 - a) ∧ ((5 = 6 ∨ 11 ≤ 5) ∨ a + 1 ≤ r.1) ∧ ((5 : Nat) = 7 → (r.2.1.length : Int) + 1 ≤ r.1 - a) := fun {b l} h1 h2 h3 h4 => by
            have i := px_r hY m 6 dp b l r (by omega) h2 h4
            rw [if_pos (by decide)] at i
            exact ⟨by omega, i.2.1, by omega, Or.inr (by omega), fun z => absurd z (by decide)⟩
          split at hp
          · rename_i c
            have al : a < n := by
              have := of_decide_eq_true c
              rcases this with z | z | z <;> exact lt (by decide) z
            obtain ⟨s, hs, h3⟩ := bind_some hp
            have i2 := px_r hY m 5 dp (a + 1) [] s (by omega) (by omega) hs
            rw [if_neg (by decide)] at i2
            cases h3
            refine ⟨by show a ≤ s.1; omega, i2.2.1, ?_, Or.inr (by show a + 1 ≤ s.1; omega), fun z => absurd z (by decide)⟩
            show ((((13, a, 1) :: s.2.1).length : Nat) : Int) ≤ 0 + (s.1 - a)
            rw [List.length_cons]
            omega
          · split at hp
            · rename_i c
              have al := lt (by decide) c.1
              have al2 : a + 1 < n := by
                by_cases z : a + 1 < n
                · exact z
                · have := c.2
                  rw [hY (a + 1) (by omega)] at this
                  rw [isT_0] at this
                  exact Bool.noConfusion this
              have sr := stN_r (Y := Y) (n := n) (a := a + 2) (by omega)
              split at hp
              · rename_i c2
                have sl := lt (by decide) c2
                obtain ⟨s, hs, h3⟩ := bind_some hp
                have i2 := px_r hY m 5 dp (stN Y n (a + 2) + 1) [] s (by omega) (by omega) hs
                rw [if_neg (by decide)] at i2
                cases h3
                refine ⟨by show a ≤ s.1; omega, i2.2.1, ?_, Or.inr (by show a + 1 ≤ s.1; omega), fun z => absurd z (by decide)⟩
                show ((((14, a, 2 + (stN Y n (a + 2) - (a + 2))) :: (3, a + 1, 0) :: stF (stN Y n (a + 2) - (a + 2)).toNat (a + 2) ++ s.2.1).length : Nat) : Int) ≤ 0 + (s.1 - a)
                rw [List.length_append, List.length_cons, List.length_cons, stF_len]
                omega
              · exact nns hp
            · split at hp
              · rename_i c
                have al := lt (by decide) c
                obtain ⟨q, hq, h2⟩ := bind_some hp
                have i1 := px_r hY m 0 (dp + 1) (a + 1) [] q (by omega) (by omega) hq
                rw [if_neg (by decide)] at i1
                split at h2
                · rename_i c2
                  have ql := lt (by decide) c2
                  exact fin6 (by omega) (by omega) (by omega) h2
                · exact nns h2
              · split at hp
                · rename_i c
                  have al : a < n := by
                    by_cases z : a < n
                    · exact z
                    · rw [hY a (by omega), wk_0] at c
                      exact absurd c (by decide)
                  exact fin6 (by omega) (by omega) (by show (1 : Int) ≤ a + 1 - a; omega) hp
                · split at hp
                  · rename_i c
                    have al : a < n := by
                      by_cases z : a < n
                      · exact z
                      · have c := c.1
                        rw [hY a (by omega), wk_0] at c
                        exact absurd c (by decide)
                    exact fin6 (by omega) (by omega) (by show (1 : Int) ≤ a + 1 - a; omega) hp
                  · exact nns hp
        · by_cases c6 : md = 6
          · subst c6
            rw [px_6] at hp
            rw [if_pos (by decide)]
            have fin6 : ∀ {b : Int} {l : List Nd}, a ≤ b → b ≤ n → (l.length : Int) ≤ acc.length + (b - a) → px Y D n m 6 dp b l = some r → a ≤ r.1 ∧ r.1 ≤ n ∧ (r.2.1.length : Int) ≤ acc.length + (r.1 - a) ∧ ((6 = 6 ∨ 11 ≤ 6) ∨ a + 1 ≤ r.1) ∧ ((6 : Nat) = 7 → (r.2.1.length : Int) + 1 ≤ r.1 - a) := fun {b l} h1 h2 h3 h4 => by
              have i := px_r hY m 6 dp b l r (by omega) h2 h4
              rw [if_pos (by decide)] at i
              exact ⟨by omega, i.2.1, by omega, Or.inl (by decide), fun z => absurd z (by decide)⟩
            split at hp
            · rename_i c
              have al := lt (by decide) c
              obtain ⟨q, hq, h2⟩ := bind_some hp
              have i1 := px_r hY m 0 (dp + 1) (a + 1) [] q (by omega) (by omega) hq
              rw [if_neg (by decide)] at i1
              split at h2
              · rename_i c2
                have ql := lt (by decide) c2
                exact fin6 (by omega) (by omega) (by rw [List.length_append, List.length_cons]; omega) h2
              · exact nns h2
            · split at hp
              · rename_i c
                have al := lt (by decide) c
                split at hp
                · rename_i c2
                  have ql := lt (by decide) c2
                  exact fin6 (by omega) (by omega) (by rw [List.length_cons]; omega) hp
                · obtain ⟨q, hq, h2⟩ := bind_some hp
                  have i1 := px_r hY m 7 dp (a + 1) [] q (by omega) (by omega) hq
                  rw [if_neg (by decide)] at i1
                  exact fin6 (by omega) (by omega) (by rw [List.length_append, List.length_cons]; omega) h2
              · cases hp
                exact ⟨Int.le_refl _, h, by show (acc.length : Int) ≤ acc.length + (a - a); omega, Or.inl (by decide), fun z => absurd z (by decide)⟩
          · by_cases c7 : md = 7
            · subst c7
              rw [px_7] at hp
              rw [if_neg (by decide)]
              obtain ⟨q, hq, h2⟩ := bind_some hp
              have i1 := px_r hY m 0 (dp + 1) a [] q (by omega) h hq
              rw [if_neg (by decide)] at i1
              have i1b := i1.2.2.2.1.resolve_left (by decide)
              split at h2
              · rename_i c
                have ql := lt (by decide) c
                obtain ⟨s, hs, h3⟩ := bind_some h2
                have i2 := px_r hY m 7 dp (q.1 + 1) [] s (by omega) (by omega) hs
                rw [if_neg (by decide)] at i2
                have i2b := i2.2.2.2.2 rfl
                cases h3
                refine ⟨by show a ≤ s.1; omega, i2.2.1, ?_, Or.inr (by show a + 1 ≤ s.1; omega), fun _ => ?_⟩
                · show (((q.2.1 ++ s.2.1).length : Nat) : Int) ≤ 0 + (s.1 - a)
                  rw [List.length_append]
                  omega
                · show (((q.2.1 ++ s.2.1).length : Nat) : Int) + 1 ≤ s.1 - a
                  rw [List.length_append]
                  omega
              · split at h2
                · rename_i c
                  have ql := lt (by decide) c
                  cases h2
                  exact ⟨by show a ≤ q.1 + 1; omega, by show q.1 + 1 ≤ n; omega, by show (q.2.1.length : Int) ≤ 0 + (q.1 + 1 - a); omega, Or.inr (by show a + 1 ≤ q.1 + 1; omega), fun _ => by show (q.2.1.length : Int) + 1 ≤ q.1 + 1 - a; omega⟩
                · exact nns h2
            · by_cases c8 : 11 ≤ md
              · rw [px_l c8] at hp
                rw [if_pos (Or.inr c8)]
                split at hp
                · rename_i c
                  have al : a < n := by
                    by_cases z : a < n
                    · exact z
                    · rw [hY a (by omega)] at c
                      have : sto 0 = 0 := by decide
                      omega
                  obtain ⟨q, hq, h2⟩ := bind_some hp
                  have i1 := px_r hY m (md - 9) dp (a + 1) [] q (by omega) (by omega) hq
                  by_cases c9 : md - 9 = 6 ∨ 11 ≤ md - 9
                  · rw [if_pos c9, List.length_nil] at i1
                    have i2 := px_r hY m md dp q.1 ((12, a, 2) :: acc ++ q.2.1) r (by omega) i1.2.1 h2
                    rw [if_pos (Or.inr c8), List.length_append, List.length_cons] at i2
                    exact ⟨by omega, i2.2.1, by omega, Or.inl (Or.inr c8), fun z => absurd z c7⟩
                  · rw [if_neg c9] at i1
                    have i2 := px_r hY m md dp q.1 ((12, a, 2) :: acc ++ q.2.1) r (by omega) i1.2.1 h2
                    rw [if_pos (Or.inr c8), List.length_append, List.length_cons] at i2
                    exact ⟨by omega, i2.2.1, by omega, Or.inl (Or.inr c8), fun z => absurd z c7⟩
                · cases hp
                  exact ⟨Int.le_refl _, h, by show (acc.length : Int) ≤ acc.length + (a - a); omega, Or.inl (Or.inr c8), fun z => absurd z c7⟩
              · omega
