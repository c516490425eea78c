/-! Items: what the ranges give is taken. -/
section KSS
variable {Y : Int → Int64} {mt : Int → Int} {n : Int}
theorem bc6 (hB : ∀ k : Int, 0 ≤ k → k < n → bc Y (k + 1).toNat ≤ 6) {a : Int} (a0 : 0 ≤ a) (an : a ≤ n) : bc Y a.toNat ≤ 6 := by
  by_cases z : a = 0
  · rw [z]
    show (0 : Int) ≤ 6
    decide
  · have := hB (a - 1) (by omega) (by omega)
    rw [show a - 1 + 1 = a by omega] at this
    exact this
theorem spp_r (hM : MTP Y n mt) {x e : Int} (x0 : 0 ≤ x) (en : e ≤ n) (hn : n ≤ 100) (h : ¬ spp Y mt x e < 0) : Rch Y mt x (spp Y mt x e) ∧ spp Y mt x e < e ∧ (Y (spp Y mt x e) = 59 ∨ Y (spp Y mt x e) = 123) := by
  have i := wlk_rch hM (p := p3) 200 x e x0 en
  unfold spp at h ⊢
  by_cases c : wlk Y mt p3 200 x e < e ∧ ¬ Y (wlk Y mt p3 200 x e) = 125
  · rw [if_pos c]
    have := of_decide_eq_true (wlk_p (p := p3) 200 x e (by omega) (fun j j0 j1 => (nxt_gt hM (by omega) (by omega)).1) c.1)
    refine ⟨i, c.1, ?_⟩
    rcases this with z | z | z
    · exact Or.inl z
    · exact Or.inr z
    · exact absurd z c.2
  · rw [if_neg c] at h
    exact absurd (by decide : (-1 : Int) < 0) h
/-- declarators -/
theorem rs_K1 (hY : ∀ k, n ≤ k → Y k = 0) (hn : n ≤ 100) (hM : MTP Y n mt) (hB : ∀ k : Int, 0 ≤ k → k < n → bc Y (k + 1).toNat ≤ 6) : ∀ (f : Nat) (td : Bool) (a e dp : Int) (D : List Dcl) (L : List Nd × Int × List Dcl), rs Y mt f 1 false td a e D = some L → 0 ≤ a → e < n → Rch Y mt a e → Y e = 59 → 0 ≤ dp → dp ≤ bc Y a.toNat → bal Y a e ∧ ∀ (M : Nat) (may fst : Bool), 10 * (n + 1 - a) + 4 ≤ M → ps Y n M 4 may td fst dp a D = some (e + 1, L.1, L.2.1, L.2.2, false)
  | 0, td, a, e, dp, D, L, h, _, _, _, _, _, _ => nns h
  | f + 1, td, a, e, dp, D, L, h, a0, en, hr, h59, d0, hdp => by
    have ae := Rch_le hr
    have s44 := see_rch (w := 44) hM a0 (by omega : e ≤ n) hr
    obtain ⟨q, hq⟩ : ∃ q, see Y mt a e 44 = q := ⟨_, rfl⟩
    rw [hq] at s44
    have s61 := see_rch (w := 61) hM a0 (by omega : q ≤ n) s44.1
    obtain ⟨r, hrr⟩ : ∃ r, see Y mt a q 61 = r := ⟨_, rfl⟩
    rw [hrr] at s61
    rw [rs_1 hq hrr] at h
    by_cases c0 : ((td = true ∨ false = true) ∧ r < q) ∨ (false = true ∧ q < e)
    · rw [if_pos c0] at h
      exact nns h
    · rw [if_neg c0] at h
      obtain ⟨N, hN, h2⟩ := bind_some h
      rw [if_neg (fun z => Bool.noConfusion z.1)] at h2
      obtain ⟨V, hV, h3⟩ := bind_some h2
      obtain ⟨R, hR, h4⟩ := bind_some h3
      have yq : Y q = 44 ∨ (q = e ∧ Y q = 59) := by
        by_cases c : q < e
        · left
          rw [← hq]
          exact see_44 hM a0 (by omega) hn (by rw [hq]; exact c)
        · right
          have : q = e := by omega
          exact ⟨this, by rw [this]; exact h59⟩
      have yr : (r = q) ∨ (r < q ∧ Y r = 61) := by
        by_cases c : r < q
        · right
          refine ⟨c, ?_⟩
          rw [← hrr]
          exact see_44 hM a0 (by omega) hn (by rw [hrr]; exact c)
        · left
          omega
      have nbq : nbr (Y q) ∧ stq (Y q) = -1 ∧ ¬ Y q = 61 ∧ ¬ Y q = 123 := by
        rcases yq with z | z
        · rw [z]; exact ⟨⟨by decide, by decide⟩, by decide, by decide, by decide⟩
        · rw [z.2]; exact ⟨⟨by decide, by decide⟩, by decide, by decide, by decide⟩
      have nbr_r : nbr (Y r) ∧ ¬ Y r = 123 := by
        rcases yr with z | z
        · rw [z]; exact ⟨nbq.1, nbq.2.2.2⟩
        · rw [z.2]; exact ⟨⟨by decide, by decide⟩, by decide⟩
      have ep := rdr_pd hY hn hM hB 200 a r 0 N hN a0 (by omega) s61.2.2 s61.1 nbr_r.1 (by decide) (by omega) 15 (by decide)
      obtain ⟨p1, p2, p3, p4, p5, p6⟩ := pd_C hY hn hM 15 0 a _ a0 (by omega) ep
      have bcr : bc Y r.toNat = bc Y a.toNat := bc_bal a0 p1
      have arr : a < r := p4
      obtain ⟨cc, hc⟩ := s61.1
      have rq := Rch_sp hM cc a r q hc s44.1 s61.2.1 a0 (by omega)
      -- the value
      have hval : bal Y a q ∧ (r < q → px Y ((Y (ndg N 0).2.1, td) :: D) n 2100 0 (dp + 1) (r + 1) [] = some (q, V, 0)) ∧ (r = q → V = []) := by
        rcases yr with z | z
        · rw [if_pos z] at hV
          cases hV
          exact ⟨by rw [← z]; exact p1, fun z2 => by omega, fun _ => rfl⟩
        · rw [if_neg (by omega)] at hV
          have r1 := Rch_nx rq z.1
          rw [nx_p (by rw [z.2]; decide)] at r1
          have b61 := bal_1 (Y := Y) (k := r) (by rw [z.2]; decide) (by rw [z.2]; decide)
          have bcr1 : bc Y (r + 1).toNat = bc Y a.toNat := by rw [bc_bal (by omega) b61, bcr]
          have ex := px_VE hY hn hM hB (M := 2100) (dp := dp + 1) (by omega : 0 ≤ r + 1) (by omega : q ≤ n) r1 hV (by have := Rch_le r1; omega) nbq.1 nbq.2.1 (by omega) (by rw [bcr1]; omega) (by omega)
          have bx := px_bal hY hn hM (by omega) (by omega) ex
          exact ⟨bal_cat p1 (bal_cat b61 bx.1), fun _ => ex, fun z2 => by omega⟩
      have bcq : bc Y q.toNat = bc Y a.toNat := bc_bal a0 hval.1
      -- behind it
      have hrest : bal Y a e ∧ (q < e → Y q = 44 ∧ ∀ (M : Nat) (may fst : Bool), 10 * (n + 1 - (q + 1)) + 4 ≤ M → ps Y n M 4 may td fst dp (q + 1) ((Y (ndg N 0).2.1, td) :: D) = some (e + 1, R.1, R.2.1, R.2.2, false)) ∧ (q = e → R = ([], 0, (Y (ndg N 0).2.1, td) :: D)) := by
        by_cases c : q < e
        · rw [if_pos c] at hR
          have y44 : Y q = 44 := yq.resolve_right (fun z => by omega)
          obtain ⟨cq, hcq⟩ := s44.1
          have qe := Rch_sp hM cq a q e hcq hr s44.2.1 a0 (by omega)
          have q1 := Rch_nx qe c
          rw [nx_p (by rw [y44]; decide)] at q1
          have b44 := bal_1 (Y := Y) (k := q) (by rw [y44]; decide) (by rw [y44]; decide)
          have i := rs_K1 hY hn hM hB f td (q + 1) e dp _ R hR (by omega) en q1 h59 d0 (by rw [bc_bal (by omega) b44, bcq]; exact hdp)
          exact ⟨bal_cat hval.1 (bal_cat b44 i.1), fun _ => ⟨y44, i.2⟩, fun z => by omega⟩
        · rw [if_neg c] at hR
          cases hR
          have : q = e := by omega
          exact ⟨by rw [← this]; exact hval.1, fun z => by omega, fun _ => rfl⟩
      refine ⟨hrest.1, fun M may fst hMf => ?_⟩
      obtain ⟨M1, rfl⟩ : ∃ M1 : Nat, M = M1 + 1 := ⟨M - 1, by omega⟩
      rw [ps_4, ep]
      show (if may = true ∧ td = false ∧ fst = true ∧ Y r = 123 then _ else if td = false ∧ Y r = 61 then (px Y ((Y (ndg N 0).2.1, td) :: D) n 2100 0 (dp + 1) (r + 1) []).bind _ else if Y r = 44 then (ps Y n M1 4 may td false dp (r + 1) ((Y (ndg N 0).2.1, td) :: D)).bind _ else if Y r = 59 then _ else none : SR) = _
      rw [if_neg (fun z => nbr_r.2 z.2.2.2)]
      have h4 := Option.some.inj h4
      rw [← h4]
      rcases yr with z | z
      · have zv := hval.2.2 z
        rw [if_neg (fun w => nbq.2.2.1 (by rw [← z]; exact w.2)), z, zv, if_pos rfl]
        by_cases c : q < e
        · obtain ⟨y44, ih⟩ := hrest.2.1 c
          rw [if_pos y44, ih M1 may false (by omega)]
          show some (e + 1, dnd N 0 ++ R.1, 1 + R.2.1, R.2.2, false) = some (e + 1, dnd N 0 ++ [] ++ R.1, 1 + R.2.1, R.2.2, false)
          rw [List.append_nil]
        · have qe : q = e := by omega
          have hR2 := hrest.2.2 qe
          have y59 : Y q = 59 := by rw [qe]; exact h59
          rw [if_neg (by rw [y59]; decide), if_pos y59, hR2, qe]
          show some (e + 1, dnd N 0, (1 : Int), (Y (ndg N 0).2.1, td) :: D, false) = some (e + 1, dnd N 0 ++ [] ++ [], 1 + (0 : Int), (Y (ndg N 0).2.1, td) :: D, false)
          rw [List.append_nil, List.append_nil]
          rfl
      · have ntd : td = false := by
          cases td with
          | false => rfl
          | true => exact absurd (Or.inl ⟨Or.inl rfl, z.1⟩) c0
        rw [if_pos ⟨ntd, z.2⟩, hval.2.1 z.1]
        show (if Y q = 44 then (ps Y n M1 4 may td false dp (q + 1) ((Y (ndg N 0).2.1, td) :: D)).bind _ else if Y q = 59 then some (q + 1, dnd N 1 ++ V, 1, (Y (ndg N 0).2.1, td) :: D, false) else none : SR) = _
        rw [if_neg (show ¬ r = q by omega)]
        by_cases c : q < e
        · obtain ⟨y44, ih⟩ := hrest.2.1 c
          rw [if_pos y44, ih M1 may false (by omega)]
          rfl
        · have qe : q = e := by omega
          have hR2 := hrest.2.2 qe
          have y59 : Y q = 59 := by rw [qe]; exact h59
          rw [if_neg (by rw [y59]; decide), if_pos y59, hR2, qe]
          show some (e + 1, dnd N 1 ++ V, (1 : Int), (Y (ndg N 0).2.1, td) :: D, false) = some (e + 1, dnd N 1 ++ V ++ [], 1 + (0 : Int), (Y (ndg N 0).2.1, td) :: D, false)
          rw [List.append_nil]
          rfl
/-- the declarator of a function -/
theorem rs_K2 (hY : ∀ k, n ≤ k → Y k = 0) (hn : n ≤ 100) (hM : MTP Y n mt) (hB : ∀ k : Int, 0 ≤ k → k < n → bc Y (k + 1).toNat ≤ 6) {f : Nat} {a e : Int} {D : List Dcl} {L : List Nd × Int × List Dcl} (h : rs Y mt f 1 true false a e D = some L) (a0 : 0 ≤ a) (en : e < n) (hr : Rch Y mt a e) (h123 : Y e = 123) : bal Y a e ∧ ∃ N, pd Y n 15 0 a = some (e, N, 0) ∧ isF N = true ∧ L = (dnd N 0, 1, (Y (ndg N 0).2.1, false) :: D) := by
  cases f with
  | zero => exact nns h
  | succ f =>
    have ae := Rch_le hr
    have s44 := see_rch (w := 44) hM a0 (by omega : e ≤ n) hr
    obtain ⟨q, hq⟩ : ∃ q, see Y mt a e 44 = q := ⟨_, rfl⟩
    rw [hq] at s44
    have s61 := see_rch (w := 61) hM a0 (by omega : q ≤ n) s44.1
    obtain ⟨r, hrr⟩ : ∃ r, see Y mt a q 61 = r := ⟨_, rfl⟩
    rw [hrr] at s61
    rw [rs_1 hq hrr] at h
    by_cases c0 : ((false = true ∨ true = true) ∧ r < q) ∨ (true = true ∧ q < e)
    · rw [if_pos c0] at h
      exact nns h
    · rw [if_neg c0] at h
      have rq : r = q := by
        have : ¬ r < q := fun z => c0 (Or.inl ⟨Or.inr rfl, z⟩)
        omega
      have qe : q = e := by
        have : ¬ q < e := fun z => c0 (Or.inr ⟨rfl, z⟩)
        omega
      obtain ⟨N, hN, h2⟩ := bind_some h
      by_cases c1 : true = true ∧ isF N = false
      · rw [if_pos c1] at h2
        exact nns h2
      · rw [if_neg c1, if_pos rq] at h2
        have h2 : (if q < e then _ else some ([], 0, (Y (ndg N 0).2.1, false) :: D) : RI).bind _ = some L := h2
        rw [if_neg (by omega)] at h2
        have h2 : some (dnd N (if r = q then 0 else 1) ++ [] ++ [], 1 + (0 : Int), (Y (ndg N 0).2.1, false) :: D) = some L := h2
        rw [if_pos rq, List.append_nil, List.append_nil] at h2
        rw [rq, qe] at hN s61
        have ep := rdr_pd hY hn hM hB 200 a e 0 N hN a0 (by omega) s61.2.2 s61.1 (by rw [h123]; exact ⟨by decide, by decide⟩) (by decide) (bc_n Y _) 15 (by decide)
        obtain ⟨p1, p2, p3, p4, p5, p6⟩ := pd_C hY hn hM 15 0 a _ a0 (by omega) ep
        refine ⟨p1, N, ep, ?_, (Option.some.inj h2).symm⟩
        cases z : isF N
        · exact absurd ⟨rfl, z⟩ c1
        · rfl
end KSS
