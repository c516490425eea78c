/-! Where declarations, statements and blocks end. -/
section PS2
variable {Y : Int → Int64} {n : Int} {m : Nat} {may td fst : Bool} {dp a : Int} {D : List Dcl}
theorem ps_0 : ps Y n (m + 1) 0 may td fst dp a D = if 12 < dp ∨ ¬ Y a = 123 then none else (ps Y n m 1 false false false dp (a + 1) D).bind (fun q => some (q.1, (9, a, q.2.2.1) :: q.2.1, 1, D, false)) := by
  rw [ps, if_pos rfl]
theorem ps_1 : ps Y n (m + 1) 1 may td fst dp a D = if Y a = 125 then some (a + 1, [], 0, D, false) else (if sdc D (Y a) = true then ps Y n m 3 false false false dp a D else ps Y n m 2 false false false dp a D).bind (fun q => (ps Y n m 1 false false false dp q.1 q.2.2.2.1).bind (fun r => some (r.1, q.2.1 ++ r.2.1, 1 + r.2.2.1, r.2.2.2.1, false))) := by
  rw [ps, if_neg (by decide), if_pos rfl]
theorem ps_2 : ps Y n (m + 1) 2 may td fst dp a D = if Y a = 123 then ps Y n m 0 false false false (dp + 1) a D
      else if Y (if wk (Y a) = 3 then a + 1 else a) = 59 then some ((if wk (Y a) = 3 then a + 1 else a) + 1, [(if wk (Y a) = 3 then 11 else 10, a, 0)], 1, D, false)
      else (px Y D n 2100 0 (dp + 1) (if wk (Y a) = 3 then a + 1 else a) []).bind (fun r => if Y r.1 = 59 then some (r.1 + 1, (if wk (Y a) = 3 then 11 else 10, if wk (Y a) = 3 then a else r.1, 1) :: r.2.1, 1, D, false) else none) := by
  rw [ps, if_neg (by decide), if_neg (by decide), if_pos rfl]
theorem ps_3 : ps Y n (m + 1) 3 may td fst dp a D = if isT D (Y (if wk (Y a) = 2 then a + 1 else a)) = true then (ps Y n m 4 may (decide (wk (Y a) = 2)) true dp ((if wk (Y a) = 2 then a + 1 else a) + 1) D).bind (fun q => some (q.1, (if q.2.2.2.2 = true then 8 else if wk (Y a) = 2 then 2 else 1, a, 1 + q.2.2.1) :: (3, if wk (Y a) = 2 then a + 1 else a, 0) :: q.2.1, 1, q.2.2.2.1, false)) else none := by
  rw [ps, if_neg (by decide), if_neg (by decide), if_neg (by decide), if_pos rfl]
theorem ps_4 : ps Y n (m + 1) 4 may td fst dp a D = (pd Y n 15 0 a).bind (fun q =>
      if may = true ∧ td = false ∧ fst = true ∧ Y q.1 = 123 then (if isF q.2.1 = true then (ps Y n m 0 false false false (dp + 1) q.1 ((Y (ndg q.2.1 0).2.1, td) :: D)).bind (fun r => some (r.1, dnd q.2.1 0 ++ r.2.1, 2, r.2.2.2.1, true)) else none)
      else if td = false ∧ Y q.1 = 61 then (px Y ((Y (ndg q.2.1 0).2.1, td) :: D) n 2100 0 (dp + 1) (q.1 + 1) []).bind (fun e => if Y e.1 = 44 then (ps Y n m 4 may td false dp (e.1 + 1) ((Y (ndg q.2.1 0).2.1, td) :: D)).bind (fun r => some (r.1, dnd q.2.1 1 ++ e.2.1 ++ r.2.1, 1 + r.2.2.1, r.2.2.2.1, r.2.2.2.2)) else if Y e.1 = 59 then some (e.1 + 1, dnd q.2.1 1 ++ e.2.1, 1, (Y (ndg q.2.1 0).2.1, td) :: D, false) else none)
      else if Y q.1 = 44 then (ps Y n m 4 may td false dp (q.1 + 1) ((Y (ndg q.2.1 0).2.1, td) :: D)).bind (fun r => some (r.1, dnd q.2.1 0 ++ r.2.1, 1 + r.2.2.1, r.2.2.2.1, r.2.2.2.2)) else if Y q.1 = 59 then some (q.1 + 1, dnd q.2.1 0, 1, (Y (ndg q.2.1 0).2.1, td) :: D, false) else none) := by
  rw [ps, if_neg (by decide), if_neg (by decide), if_neg (by decide), if_neg (by decide)]
end PS2
theorem dnd_len {N : List Nd} {c : Int} (h : 1 ≤ N.length) : (dnd N c).length = N.length := by
  unfold dnd
  rw [List.length_cons, List.length_tail]
  omega
theorem wk_ne {Y : Int → Int64} {n k c : Int} (hY : ∀ k, n ≤ k → Y k = 0) (hc : 1 ≤ c) (h : wk (Y k) = c) : k < n := by
  by_cases z : k < n
  · exact z
  · rw [hY k (by omega), wk_0] at h
    omega
theorem isT_lt {Y : Int → Int64} {n k : Int} {D : List Dcl} (hY : ∀ k, n ≤ k → Y k = 0) (h : isT D (Y k) = true) : k < n := by
  by_cases z : k < n
  · exact z
  · rw [hY k (by omega), isT_0] at h
    exact Bool.noConfusion h
theorem Yk_lt {Y : Int → Int64} {n : Int} (hY : ∀ k, n ≤ k → Y k = 0) {k : Int} {x : Int64} (hx : ¬ x = 0) (hk : Y k = x) : k < n := by
  by_cases c : k < n
  · exact c
  · exact absurd ((hY k (by omega)).symm.trans hk) (fun z => hx z.symm)
/-- how far it goes, how many nodes, which declarations count behind it -/
def PSB (md : Nat) (a n : Int) (D : List Dcl) (r : Int × List Nd × Int × List Dcl × Bool) : Prop := a + 1 ≤ r.1 ∧ r.1 ≤ n ∧ (r.2.1.length : Int) + (if md = 1 ∨ md = 4 then 1 else 0) ≤ r.1 - a ∧ (∃ E, r.2.2.2.1 = E ++ D) ∧ (r.2.2.2.1.length : Int) ≤ D.length + (r.1 - a) ∧ (md = 0 → r.2.2.2.1 = D) ∧ (md = 2 → r.2.2.2.1 = D)
theorem ps_r {Y : Int → Int64} {n : Int} (hY : ∀ k, n ≤ k → Y k = 0) : ∀ (m md : Nat) (may td fst : Bool) (dp a : Int) (D : List Dcl) (r : Int × List Nd × Int × List Dcl × Bool), md ≤ 4 → a ≤ n → ps Y n m md may td fst dp a D = some r → PSB md a n D r
  | 0, md, may, td, fst, dp, a, D, r, h4, h, hp => nns hp
  | m + 1, md, may, td, fst, dp, a, D, r, h4, h, hp => by
    have cases5 : md = 0 ∨ md = 1 ∨ md = 2 ∨ md = 3 ∨ md = 4 := by omega
    rcases cases5 with c | c | c | c | c
    · subst c
      rw [ps_0] at hp
      split at hp
      · exact nns hp
      · rename_i c
        have al := Yk_lt hY (by decide : ¬ (123 : Int64) = 0) (show Y a = 123 by by_cases z : Y a = 123; exact z; exact absurd (Or.inr z) c)
        obtain ⟨q, hq, h2⟩ := bind_some hp
        have i := ps_r hY m 1 false false false dp (a + 1) D q (by decide) (by omega) hq
        have i3 := i.2.2.1
        rw [if_pos (Or.inl rfl)] at i3
        cases h2
        refine ⟨by show a + 1 ≤ q.1; have := i.1; omega, i.2.1, ?_, ⟨[], rfl⟩, by show (D.length : Int) ≤ D.length + (q.1 - a); have := i.1; omega, fun _ => rfl, fun _ => rfl⟩
        rw [if_neg (by decide)]
        show ((((9, a, q.2.2.1) :: q.2.1).length : Nat) : Int) + 0 ≤ q.1 - a
        rw [List.length_cons]
        omega
    · subst c
      rw [ps_1] at hp
      split at hp
      · rename_i c
        have al := Yk_lt hY (by decide) c
        cases hp
        refine ⟨Int.le_refl _, by show a + 1 ≤ n; omega, ?_, ⟨[], rfl⟩, by show (D.length : Int) ≤ D.length + (a + 1 - a); omega, fun _ => rfl, fun _ => rfl⟩
        rw [if_pos (Or.inl rfl)]
        show ((0 : Nat) : Int) + 1 ≤ a + 1 - a
        omega
      · obtain ⟨q, hq, h2⟩ := bind_some hp
        obtain ⟨s, hs, h3⟩ := bind_some h2
        have i : a + 1 ≤ q.1 ∧ q.1 ≤ n ∧ (q.2.1.length : Int) ≤ q.1 - a ∧ (∃ E, q.2.2.2.1 = E ++ D) ∧ (q.2.2.2.1.length : Int) ≤ D.length + (q.1 - a) := by
          split at hq
          · have i := ps_r hY m 3 false false false dp a D q (by decide) h hq
            have i3 := i.2.2.1
            rw [if_neg (by decide)] at i3
            exact ⟨i.1, i.2.1, by omega, i.2.2.2.1, i.2.2.2.2.1⟩
          · have i := ps_r hY m 2 false false false dp a D q (by decide) h hq
            have i3 := i.2.2.1
            rw [if_neg (by decide)] at i3
            exact ⟨i.1, i.2.1, by omega, i.2.2.2.1, i.2.2.2.2.1⟩
        have j := ps_r hY m 1 false false false dp q.1 q.2.2.2.1 s (by decide) i.2.1 hs
        have j3 := j.2.2.1
        rw [if_pos (Or.inl rfl)] at j3
        cases h3
        refine ⟨by show a + 1 ≤ s.1; have := j.1; omega, j.2.1, ?_, ?_, ?_, fun z => absurd z (by decide), fun z => absurd z (by decide)⟩
        · rw [if_pos (Or.inl rfl)]
          show (((q.2.1 ++ s.2.1).length : Nat) : Int) + 1 ≤ s.1 - a
          rw [List.length_append]
          omega
        · obtain ⟨E, hE⟩ := i.2.2.2.1
          obtain ⟨E2, hE2⟩ := j.2.2.2.1
          exact ⟨E2 ++ E, by show s.2.2.2.1 = _; rw [hE2, hE, List.append_assoc]⟩
        · show (s.2.2.2.1.length : Int) ≤ D.length + (s.1 - a)
          have := j.2.2.2.2.1
          omega
    · subst c
      rw [ps_2] at hp
      split at hp
      · have i := ps_r hY m 0 false false false (dp + 1) a D r (by decide) h hp
        have i3 := i.2.2.1
        rw [if_neg (by decide)] at i3
        refine ⟨i.1, i.2.1, ?_, i.2.2.2.1, i.2.2.2.2.1, fun z => absurd z (by decide), fun _ => i.2.2.2.2.2.1 rfl⟩
        rw [if_neg (by decide)]
        exact i3
      · have hpp : a ≤ (if wk (Y a) = 3 then a + 1 else a) ∧ (if wk (Y a) = 3 then a + 1 else a) ≤ a + 1 := by split <;> omega
        have hpn : (if wk (Y a) = 3 then a + 1 else a) ≤ n := by
          split
          · rename_i z
            have := wk_ne hY (by decide) z
            omega
          · exact h
        revert hp hpp hpn
        generalize (if wk (Y a) = 3 then a + 1 else a) = p
        intro hp hpp hpn
        by_cases c : Y p = 59
        · rw [if_pos c] at hp
          have al := Yk_lt hY (by decide) c
          have hp := Option.some.inj hp
          rw [← hp]
          refine ⟨by show a + 1 ≤ p + 1; omega, by show p + 1 ≤ n; omega, ?_, ⟨[], rfl⟩, by show (D.length : Int) ≤ D.length + (p + 1 - a); omega, fun _ => rfl, fun _ => rfl⟩
          show ((1 : Nat) : Int) + (if (2 : Nat) = 1 ∨ (2 : Nat) = 4 then 1 else 0) ≤ p + 1 - a
          rw [if_neg (by decide)]
          omega
        · rw [if_neg c] at hp
          obtain ⟨q, hq, h2⟩ := bind_some hp
          have i := px_r hY 2100 0 (dp + 1) _ [] q (by decide) hpn hq
          rw [if_neg (by decide)] at i
          by_cases c : Y q.1 = 59
          · rw [if_pos c] at h2
            have al := Yk_lt hY (by decide) c
            have h2 := Option.some.inj h2
            rw [← h2]
            refine ⟨by show a + 1 ≤ q.1 + 1; omega, by show q.1 + 1 ≤ n; omega, ?_, ⟨[], rfl⟩, by show (D.length : Int) ≤ D.length + (q.1 + 1 - a); omega, fun _ => rfl, fun _ => rfl⟩
            show ((q.2.1.length + 1 : Nat) : Int) + (if (2 : Nat) = 1 ∨ (2 : Nat) = 4 then 1 else 0) ≤ q.1 + 1 - a
            rw [if_neg (by decide)]
            omega
          · rw [if_neg c] at h2
            exact nns h2
    · subst c
      rw [ps_3] at hp
      have hpp : a ≤ (if wk (Y a) = 2 then a + 1 else a) := by split <;> omega
      by_cases c : isT D (Y (if wk (Y a) = 2 then a + 1 else a)) = true
      · rw [if_pos c] at hp
        have tl := isT_lt hY c
        obtain ⟨q, hq, h2⟩ := bind_some hp
        have i := ps_r hY m 4 may (decide (wk (Y a) = 2)) true dp _ D q (by decide) (by omega) hq
        have i3 := i.2.2.1
        rw [if_pos (Or.inr rfl)] at i3
        have h2 := Option.some.inj h2
        rw [← h2]
        have i1 := i.1
        have i5 := i.2.2.2.2.1
        refine ⟨by show a + 1 ≤ q.1; omega, i.2.1, ?_, i.2.2.2.1, by show (q.2.2.2.1.length : Int) ≤ D.length + (q.1 - a); omega, fun z => absurd z (by decide), fun z => absurd z (by decide)⟩
        show ((q.2.1.length + 1 + 1 : Nat) : Int) + (if (3 : Nat) = 1 ∨ (3 : Nat) = 4 then 1 else 0) ≤ q.1 - a
        rw [if_neg (by decide)]
        omega
      · rw [if_neg c] at hp
        exact nns hp
    · subst c
      rw [ps_4] at hp
      obtain ⟨q, hq, h2⟩ := bind_some hp
      have d := pd_r hY 15 0 a q h hq
      have hl0 : ((dnd q.2.1 0).length : Int) = q.2.1.length := by rw [dnd_len d.2.2.2.1]
      have hl1 : ((dnd q.2.1 1).length : Int) = q.2.1.length := by rw [dnd_len d.2.2.2.1]
      have hcons : (((Y (ndg q.2.1 0).2.1, td) :: D).length : Int) = D.length + 1 := by rw [List.length_cons]; omega
      split at h2
      · split at h2
        · rename_i c1 c2
          obtain ⟨s, hs, h3⟩ := bind_some h2
          have i := ps_r hY m 0 false false false (dp + 1) q.1 _ s (by decide) d.2.1 hs
          have i3 := i.2.2.1
          rw [if_neg (by decide)] at i3
          have d9 := d.2.2.2.2.2.2.2.2 c2
          have i7 := i.2.2.2.2.2.1 rfl
          cases h3
          refine ⟨by show a + 1 ≤ s.1; have := i.1; omega, i.2.1, ?_, ⟨[(Y (ndg q.2.1 0).2.1, td)], by show s.2.2.2.1 = _; rw [i7]; rfl⟩, ?_, fun z => absurd z (by decide), fun z => absurd z (by decide)⟩
          · rw [if_pos (Or.inr rfl)]
            show (((dnd q.2.1 0 ++ s.2.1).length : Nat) : Int) + 1 ≤ s.1 - a
            rw [List.length_append]
            omega
          · show (s.2.2.2.1.length : Int) ≤ D.length + (s.1 - a)
            rw [i7, hcons]
            have := i.1
            omega
        · exact nns h2
      · split at h2
        · rename_i c1 c2
          have ql := Yk_lt hY (by decide) c2.2
          obtain ⟨e, he, h3⟩ := bind_some h2
          have x := px_r hY 2100 0 (dp + 1) (q.1 + 1) [] e (by decide) (by omega) he
          rw [if_neg (by decide)] at x
          split at h3
          · rename_i c3
            have el := Yk_lt hY (by decide) c3
            obtain ⟨s, hs, h4⟩ := bind_some h3
            have i := ps_r hY m 4 may td false dp (e.1 + 1) _ s (by decide) (by omega) hs
            have i3 := i.2.2.1
            rw [if_pos (Or.inr rfl)] at i3
            cases h4
            refine ⟨by show a + 1 ≤ s.1; have := i.1; omega, i.2.1, ?_, ?_, ?_, fun z => absurd z (by decide), fun z => absurd z (by decide)⟩
            · rw [if_pos (Or.inr rfl)]
              show (((dnd q.2.1 1 ++ e.2.1 ++ s.2.1).length : Nat) : Int) + 1 ≤ s.1 - a
              rw [List.length_append, List.length_append]
              omega
            · obtain ⟨E, hE⟩ := i.2.2.2.1
              exact ⟨E ++ [(Y (ndg q.2.1 0).2.1, td)], by show s.2.2.2.1 = _; rw [hE, List.append_assoc]; rfl⟩
            · show (s.2.2.2.1.length : Int) ≤ D.length + (s.1 - a)
              have := i.2.2.2.2.1
              omega
          · split at h3
            · rename_i c3
              have el := Yk_lt hY (by decide) c3
              cases h3
              refine ⟨by show a + 1 ≤ e.1 + 1; omega, by show e.1 + 1 ≤ n; omega, ?_, ⟨[(Y (ndg q.2.1 0).2.1, td)], rfl⟩, ?_, fun z => absurd z (by decide), fun z => absurd z (by decide)⟩
              · rw [if_pos (Or.inr rfl)]
                show (((dnd q.2.1 1 ++ e.2.1).length : Nat) : Int) + 1 ≤ e.1 + 1 - a
                rw [List.length_append]
                omega
              · show (((Y (ndg q.2.1 0).2.1, td) :: D).length : Int) ≤ D.length + (e.1 + 1 - a)
                omega
            · exact nns h3
        · split at h2
          · rename_i c3
            have el := Yk_lt hY (by decide) c3
            obtain ⟨s, hs, h4⟩ := bind_some h2
            have i := ps_r hY m 4 may td false dp (q.1 + 1) _ s (by decide) (by omega) hs
            have i3 := i.2.2.1
            rw [if_pos (Or.inr rfl)] at i3
            cases h4
            refine ⟨by show a + 1 ≤ s.1; have := i.1; omega, i.2.1, ?_, ?_, ?_, fun z => absurd z (by decide), fun z => absurd z (by decide)⟩
            · rw [if_pos (Or.inr rfl)]
              show (((dnd q.2.1 0 ++ s.2.1).length : Nat) : Int) + 1 ≤ s.1 - a
              rw [List.length_append]
              omega
            · obtain ⟨E, hE⟩ := i.2.2.2.1
              exact ⟨E ++ [(Y (ndg q.2.1 0).2.1, td)], by show s.2.2.2.1 = _; rw [hE, List.append_assoc]; rfl⟩
            · show (s.2.2.2.1.length : Int) ≤ D.length + (s.1 - a)
              have := i.2.2.2.2.1
              omega
          · split at h2
            · rename_i c3
              have el := Yk_lt hY (by decide) c3
              cases h2
              refine ⟨by show a + 1 ≤ q.1 + 1; omega, by show q.1 + 1 ≤ n; omega, ?_, ⟨[(Y (ndg q.2.1 0).2.1, td)], rfl⟩, ?_, fun z => absurd z (by decide), fun z => absurd z (by decide)⟩
              · rw [if_pos (Or.inr rfl)]
                show (((dnd q.2.1 0).length : Nat) : Int) + 1 ≤ q.1 + 1 - a
                omega
              · show (((Y (ndg q.2.1 0).2.1, td) :: D).length : Int) ≤ D.length + (q.1 + 1 - a)
                omega
            · exact nns h2
theorem drep_suf {A : Int → Int64} {B : Int → Int} : ∀ (E D : List Dcl), drep A B (E ++ D) → drep A B D
  | [], _, h => h
  | _ :: E, D, h => drep_suf E D h.2.2
