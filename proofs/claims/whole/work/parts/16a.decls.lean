/-! Declarators, declarations, statements, blocks: from the left to the right. -/
def stR : Nat → Int → List Nd
  | 0, _ => []
  | m + 1, a => (7, a + m, 0) :: stR m a
theorem stR_len : ∀ (m : Nat) (a : Int), (stR m a).length = m
  | 0, _ => rfl
  | m + 1, a => by
    show (stR m a).length + 1 = m + 1
    rw [stR_len m a]
section PD
variable (Y : Int → Int64) (n : Int)
def pf : Nat → Int → PR
  | 0, _ => none
  | m + 1, a => if Y a = 40 then (if Y (a + 1) = 41 then (pf m (a + 2)).bind (fun r => some (r.1, (6, a, 0) :: r.2.1, 0)) else none) else if Y a = 91 then (if wk (Y (a + 1)) = 5 ∧ Y (a + 2) = 93 then (pf m (a + 3)).bind (fun r => some (r.1, (5, a + 1, 0) :: r.2.1, 0)) else none) else some (a, [], 0)
def pd : Nat → Int → Int → PR
  | 0, _, _ => none
  | m + 1, dp, a => (if wk (Y (stN Y n a)) = 4 then some (stN Y n a + 1, [(4, stN Y n a, 0)], 0) else if 12 ≤ dp then none else if Y (stN Y n a) = 40 then (pd m (dp + 1) (stN Y n a + 1)).bind (fun q => if Y q.1 = 41 then some (q.1 + 1, q.2.1, 0) else none) else none : PR).bind (fun q => (pf Y 110 q.1).bind (fun r => some (r.1, q.2.1 ++ r.2.1 ++ stR (stN Y n a - a).toNat a, 0)))
abbrev SR : Type := Option (Int × List Nd × Int × List Dcl × Bool)
def dnd (N : List Nd) (c : Int) : List Nd := (4, (ndg N 0).2.1, (N.length : Int) - 1 + c) :: N.tail
def isF (N : List Nd) : Bool := decide (0 < (N.length : Int) - 1 ∧ (ndg N 1).1 = 6)
def ps : Nat → Nat → Bool → Bool → Bool → Int → Int → List Dcl → SR
  | 0, _, _, _, _, _, _, _ => none
  | m + 1, md, may, td, fst, dp, a, D =>
    if md = 0 then (if 12 < dp ∨ ¬ Y a = 123 then none else (ps m 1 false false false dp (a + 1) D).bind (fun q => some (q.1, (9, a, q.2.2.1) :: q.2.1, 1, D, false)))
    else if md = 1 then (if Y a = 125 then some (a + 1, [], 0, D, false) else (if sdc D (Y a) = true then ps m 3 false false false dp a D else ps m 2 false false false dp a D).bind (fun q => (ps m 1 false false false dp q.1 q.2.2.2.1).bind (fun r => some (r.1, q.2.1 ++ r.2.1, 1 + r.2.2.1, r.2.2.2.1, false))))
    else if md = 2 then (if Y a = 123 then ps m 0 false false false (dp + 1) a D
      else if Y (if wk (Y a) = 3 then a + 1 else a) = 59 then some ((if wk (Y a) = 3 then a + 1 else a) + 1, [(if wk (Y a) = 3 then 11 else 10, a, 0)], 1, D, false)
      else (px Y D n 2100 0 (dp + 1) (if wk (Y a) = 3 then a + 1 else a) []).bind (fun r => if Y r.1 = 59 then some (r.1 + 1, (if wk (Y a) = 3 then 11 else 10, if wk (Y a) = 3 then a else r.1, 1) :: r.2.1, 1, D, false) else none))
    else if md = 3 then (if isT D (Y (if wk (Y a) = 2 then a + 1 else a)) = true then (ps m 4 may (decide (wk (Y a) = 2)) true dp ((if wk (Y a) = 2 then a + 1 else a) + 1) D).bind (fun q => some (q.1, (if q.2.2.2.2 = true then 8 else if wk (Y a) = 2 then 2 else 1, a, 1 + q.2.2.1) :: (3, if wk (Y a) = 2 then a + 1 else a, 0) :: q.2.1, 1, q.2.2.2.1, false)) else none)
    else (pd Y n 15 0 a).bind (fun q =>
      if may = true ∧ td = false ∧ fst = true ∧ Y q.1 = 123 then (if isF q.2.1 = true then (ps m 0 false false false (dp + 1) q.1 ((Y (ndg q.2.1 0).2.1, td) :: D)).bind (fun r => some (r.1, dnd q.2.1 0 ++ r.2.1, 2, r.2.2.2.1, true)) else none)
      else if td = false ∧ Y q.1 = 61 then (px Y ((Y (ndg q.2.1 0).2.1, td) :: D) n 2100 0 (dp + 1) (q.1 + 1) []).bind (fun e => if Y e.1 = 44 then (ps m 4 may td false dp (e.1 + 1) ((Y (ndg q.2.1 0).2.1, td) :: D)).bind (fun r => some (r.1, dnd q.2.1 1 ++ e.2.1 ++ r.2.1, 1 + r.2.2.1, r.2.2.2.1, r.2.2.2.2)) else if Y e.1 = 59 then some (e.1 + 1, dnd q.2.1 1 ++ e.2.1, 1, (Y (ndg q.2.1 0).2.1, td) :: D, false) else none)
      else if Y q.1 = 44 then (ps m 4 may td false dp (q.1 + 1) ((Y (ndg q.2.1 0).2.1, td) :: D)).bind (fun r => some (r.1, dnd q.2.1 0 ++ r.2.1, 1 + r.2.2.1, r.2.2.2.1, r.2.2.2.2)) else if Y q.1 = 59 then some (q.1 + 1, dnd q.2.1 0, 1, (Y (ndg q.2.1 0).2.1, td) :: D, false) else none)
def pu : Nat → Int → List Dcl → SR
  | 0, _, _ => none
  | m + 1, a, D => if n ≤ a then some (a, [], 0, D, false) else if sdc D (Y a) = true then (ps Y n 1100 3 true false false 0 a D).bind (fun q => (pu m q.1 q.2.2.2.1).bind (fun r => some (r.1, q.2.1 ++ r.2.1, 1 + r.2.2.1, r.2.2.2.1, false))) else none
end PD
theorem pf_r {Y : Int → Int64} {n : Int} (hY : ∀ k, n ≤ k → Y k = 0) : ∀ (m : Nat) (a : Int) (r : Int × List Nd × Int), a ≤ n → pf Y m a = some r → a ≤ r.1 ∧ r.1 ≤ n ∧ 2 * (r.2.1.length : Int) ≤ r.1 - a ∧ ∀ x, x ∈ r.2.1 → x.1 = 5 ∨ x.1 = 6
  | 0, a, r, h, hp => nns hp
  | m + 1, a, r, h, hp => by
    have lt : ∀ {k : Int} {x : Int64}, ¬ x = 0 → Y k = x → k < n := fun {k x} hx hk => by
      by_cases c : k < n
      · exact c
      · exact absurd ((hY k (by omega)).symm.trans hk) (fun z => hx z.symm)
    rw [pf] at hp
    split at hp
    · split at hp
      · rename_i c
        have al := lt (by decide) c
        obtain ⟨s, hs, h3⟩ := bind_some hp
        have i := pf_r hY m (a + 2) s (by omega) hs
        cases h3
        refine ⟨by show a ≤ s.1; omega, i.2.1, ?_, fun x hx => ?_⟩
        · show 2 * ((((6, a, 0) :: s.2.1).length : Nat) : Int) ≤ s.1 - a
          rw [List.length_cons]
          omega
        · rcases List.mem_cons.1 hx with z | z
          · rw [z]; exact Or.inr rfl
          · exact i.2.2.2 x z
      · exact nns hp
    · split at hp
      · split at hp
        · rename_i c
          have al := lt (by decide) c.2
          obtain ⟨s, hs, h3⟩ := bind_some hp
          have i := pf_r hY m (a + 3) s (by omega) hs
          cases h3
          refine ⟨by show a ≤ s.1; omega, i.2.1, ?_, fun x hx => ?_⟩
          · show 2 * ((((5, a + 1, 0) :: s.2.1).length : Nat) : Int) ≤ s.1 - a
            rw [List.length_cons]
            omega
          · rcases List.mem_cons.1 hx with z | z
            · rw [z]; exact Or.inl rfl
            · exact i.2.2.2 x z
        · exact nns hp
      · cases hp
        exact ⟨Int.le_refl _, h, by show 2 * ((0 : Nat) : Int) ≤ a - a; omega, fun x hx => absurd hx (by show ¬ x ∈ ([] : List Nd); simp)⟩
theorem stR_7 : ∀ (m : Nat) (a : Int) (x : Nd), x ∈ stR m a → x.1 = 7
  | 0, _, x, h => absurd h (by show ¬ x ∈ ([] : List Nd); simp)
  | m + 1, a, x, h => by
    rcases List.mem_cons.1 h with z | z
    · rw [z]
    · exact stR_7 m a x z
theorem ndg_mem {L : List Nd} {j : Int} (h0 : 0 ≤ j) (h1 : j < L.length) : ndg L j ∈ L := by
  unfold ndg
  rw [List.getD_eq_getElem?_getD, List.getElem?_eq_getElem (by omega)]
  exact List.getElem_mem _
/-- where a declarator ends; its first node is its name -/
theorem pd_r {Y : Int → Int64} {n : Int} (hY : ∀ k, n ≤ k → Y k = 0) : ∀ (m : Nat) (dp a : Int) (r : Int × List Nd × Int), a ≤ n → pd Y n m dp a = some r → a + 1 ≤ r.1 ∧ r.1 ≤ n ∧ (r.2.1.length : Int) ≤ r.1 - a ∧ 1 ≤ r.2.1.length ∧ (ndg r.2.1 0).1 = 4 ∧ (ndg r.2.1 0).2.2 = 0 ∧ a ≤ (ndg r.2.1 0).2.1 ∧ (ndg r.2.1 0).2.1 < n ∧ (isF r.2.1 = true → (r.2.1.length : Int) + 1 ≤ r.1 - a)
  | 0, dp, a, r, h, hp => nns hp
  | m + 1, dp, a, r, h, hp => by
    have lt : ∀ {k : Int} {x : Int64}, ¬ x = 0 → Y k = x → k < n := fun {k x} hx hk => by
      by_cases c : k < n
      · exact c
      · exact absurd ((hY k (by omega)).symm.trans hk) (fun z => hx z.symm)
    have sr := stN_r (Y := Y) h
    rw [pd] at hp
    obtain ⟨q, hq, h2⟩ := bind_some hp
    obtain ⟨f, hf, h3⟩ := bind_some h2
    have base : stN Y n a + 1 ≤ q.1 ∧ q.1 ≤ n ∧ (q.2.1.length : Int) ≤ q.1 - stN Y n a ∧ 1 ≤ q.2.1.length ∧ (ndg q.2.1 0).1 = 4 ∧ (ndg q.2.1 0).2.2 = 0 ∧ stN Y n a ≤ (ndg q.2.1 0).2.1 ∧ (ndg q.2.1 0).2.1 < n ∧ (isF q.2.1 = true → (q.2.1.length : Int) + 1 ≤ q.1 - stN Y n a) := by
      split at hq
      · rename_i c
        have al : stN Y n a < n := by
          by_cases z : stN Y n a < n
          · exact z
          · rw [hY _ (by omega), wk_0] at c
            exact absurd c (by decide)
        cases hq
        refine ⟨Int.le_refl _, by show stN Y n a + 1 ≤ n; omega, by show ((1 : Nat) : Int) ≤ stN Y n a + 1 - stN Y n a; omega, by show 1 ≤ 1; decide, rfl, rfl, Int.le_refl _, al, fun z => ?_⟩
        exact absurd (of_decide_eq_true z).1 (by show ¬ (0 : Int) < ((1 : Nat) : Int) - 1; decide)
      · split at hq
        · exact nns hq
        · split at hq
          · rename_i c
            have al := lt (by decide) c
            obtain ⟨s, hs, h4⟩ := bind_some hq
            have i := pd_r hY m (dp + 1) (stN Y n a + 1) s (by omega) hs
            split at h4
            · rename_i c2
              have sl := lt (by decide) c2
              cases h4
              exact ⟨by show stN Y n a + 1 ≤ s.1 + 1; omega, by show s.1 + 1 ≤ n; omega, by show (s.2.1.length : Int) ≤ s.1 + 1 - stN Y n a; omega, i.2.2.2.1, i.2.2.2.2.1, i.2.2.2.2.2.1, by have := i.2.2.2.2.2.2.1; show stN Y n a ≤ (ndg s.2.1 0).2.1; omega, i.2.2.2.2.2.2.2.1, fun z => by have := i.2.2.2.2.2.2.2.2 z; show (s.2.1.length : Int) + 1 ≤ s.1 + 1 - stN Y n a; omega⟩
            · exact nns h4
          · exact nns hq
    have fr := pf_r hY 110 q.1 f base.2.1 hf
    have hl0 : ndg (q.2.1 ++ f.2.1 ++ stR (stN Y n a - a).toNat a) 0 = ndg q.2.1 0 := by
      rw [List.append_assoc, ndg_l (Int.le_refl _) (by omega)]
    have hlen : ((q.2.1 ++ f.2.1 ++ stR (stN Y n a - a).toNat a).length : Int) = q.2.1.length + f.2.1.length + (stN Y n a - a) := by
      rw [List.length_append, List.length_append, stR_len]
      omega
    cases h3
    refine ⟨by show a + 1 ≤ f.1; omega, fr.2.1, ?_, ?_, by show (ndg (q.2.1 ++ f.2.1 ++ stR (stN Y n a - a).toNat a) 0).1 = 4; rw [hl0]; exact base.2.2.2.2.1, by show (ndg (q.2.1 ++ f.2.1 ++ stR (stN Y n a - a).toNat a) 0).2.2 = 0; rw [hl0]; exact base.2.2.2.2.2.1, ?_, ?_, fun z => ?_⟩
    · show ((q.2.1 ++ f.2.1 ++ stR (stN Y n a - a).toNat a).length : Int) ≤ f.1 - a
      rw [hlen]
      omega
    · show 1 ≤ (q.2.1 ++ f.2.1 ++ stR (stN Y n a - a).toNat a).length
      omega
    · show a ≤ (ndg (q.2.1 ++ f.2.1 ++ stR (stN Y n a - a).toNat a) 0).2.1
      rw [hl0]
      have := base.2.2.2.2.2.2.1
      omega
    · show (ndg (q.2.1 ++ f.2.1 ++ stR (stN Y n a - a).toNat a) 0).2.1 < n
      rw [hl0]
      exact base.2.2.2.2.2.2.2.1
    · show ((q.2.1 ++ f.2.1 ++ stR (stN Y n a - a).toNat a).length : Int) + 1 ≤ f.1 - a
      have z : isF (q.2.1 ++ f.2.1 ++ stR (stN Y n a - a).toNat a) = true := z
      have z2 := of_decide_eq_true z
      rw [hlen] at z2 ⊢
      by_cases c : 1 < q.2.1.length
      · have e : ndg (q.2.1 ++ f.2.1 ++ stR (stN Y n a - a).toNat a) 1 = ndg q.2.1 1 := by
          rw [List.append_assoc, ndg_l (by decide) (by omega)]
        rw [e] at z2
        have := base.2.2.2.2.2.2.2.2 (decide_eq_true ⟨by omega, z2.2⟩)
        omega
      · by_cases c2 : 0 < f.2.1.length
        · omega
        · exfalso
          have e : f.2.1 = [] := List.length_eq_zero_iff.1 (by omega)
          have e2 : ndg (q.2.1 ++ f.2.1 ++ stR (stN Y n a - a).toNat a) 1 = ndg (stR (stN Y n a - a).toNat a) 0 := by
            rw [e, List.append_nil, ndg_r (by omega), show (1 : Int) - q.2.1.length = 0 by omega]
          rw [e2] at z2
          have hm := stR_7 _ _ _ (ndg_mem (L := stR (stN Y n a - a).toNat a) (j := 0) (Int.le_refl _) (by rw [stR_len]; omega))
          omega
