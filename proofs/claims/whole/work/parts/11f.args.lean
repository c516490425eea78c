/-! The reference finds the arguments of a call. -/
theorem fa_shape : ∀ (l : List ETok) (n : Int) (cur cur2 : List ETok) (as as2 : List (List ETok)), (fa l n cur as = none → fa l n cur2 as2 = none) ∧ (∀ q, fa l n cur as = some q → ∃ q2, fa l n cur2 as2 = some q2 ∧ q2.2 = q.2 ∧ q2.1.length + as.length = q.1.length + as2.length)
  | [], n, cur, cur2, as, as2 => ⟨fun _ => rfl, fun q h => by cases h⟩
  | t :: ts, n, cur, cur2, as, as2 => by
    by_cases h1 : n = 0 ∧ t.1 = 41
    · rw [fa_end h1, fa_end h1]
      refine ⟨fun h => (by cases h), fun q h => ?_⟩
      cases h
      exact ⟨_, rfl, rfl, by simp only [List.length_append, List.length_cons, List.length_nil]; omega⟩
    · by_cases h2 : n = 0 ∧ t.1 = 44
      · rw [fa_comma h1 h2, fa_comma h1 h2]
        have i := fa_shape ts 0 [] [] (as ++ [cur]) (as2 ++ [cur2])
        refine ⟨i.1, fun q h => ?_⟩
        obtain ⟨q2, a, b, c⟩ := i.2 q h
        exact ⟨q2, a, b, by simp only [List.length_append, List.length_cons, List.length_nil] at c; omega⟩
      · rw [fa_in h1 h2, fa_in h1 h2]
        exact fa_shape ts _ _ _ as as2
def fq (l : List ETok) : Option (List (List ETok) × ETok × List ETok) := fa l (-1) [] []
theorem fq_cons {p : ETok} {l : List ETok} (h : p.1 = 40) : fq (p :: l) = fa l 0 [p] [] := by
  unfold fq
  rw [fa_in (by intro z; exact absurd z.1 (by decide)) (by intro z; exact absurd z.1 (by decide)), if_pos h]
  rfl
theorem fa_len : ∀ (l : List ETok) (n : Int) (cur : List ETok) (as : List (List ETok)) (q : List (List ETok) × ETok × List ETok), fa l n cur as = some q → as.length + 1 ≤ q.1.length
  | [], n, cur, as, q, h => by cases h
  | t :: ts, n, cur, as, q, h => by
    by_cases h1 : n = 0 ∧ t.1 = 41
    · rw [fa_end h1] at h
      cases h
      simp
    · by_cases h2 : n = 0 ∧ t.1 = 44
      · rw [fa_comma h1 h2] at h
        have := fa_len ts _ _ _ q h
        simp only [List.length_append, List.length_cons, List.length_nil] at this
        omega
      · rw [fa_in h1 h2] at h
        exact fa_len ts _ _ _ q h
theorem fa_suf : ∀ (l : List ETok) (n : Int) (cur : List ETok) (as : List (List ETok)) (q : List (List ETok) × ETok × List ETok), fa l n cur as = some q → ∃ p, l = p ++ q.2.1 :: q.2.2
  | [], n, cur, as, q, h => by cases h
  | t :: ts, n, cur, as, q, h => by
    by_cases h1 : n = 0 ∧ t.1 = 41
    · rw [fa_end h1] at h
      cases h
      exact ⟨[], rfl⟩
    · by_cases h2 : n = 0 ∧ t.1 = 44
      · rw [fa_comma h1 h2] at h
        obtain ⟨p, hp⟩ := fa_suf ts _ _ _ q h
        exact ⟨t :: p, by rw [hp]; rfl⟩
      · rw [fa_in h1 h2] at h
        obtain ⟨p, hp⟩ := fa_suf ts _ _ _ q h
        exact ⟨t :: p, by rw [hp]; rfl⟩
theorem fa_last {x : ETok} {ts cur : List ETok} {g : Int} {as : List (List ETok)} {q : List (List ETok) × ETok × List ETok} (h : fa (x :: ts) g cur as = some q) (hl : ts.length ≤ q.2.2.length) : (g = 0 ∧ x.1 = 41) ∧ q = (as ++ [cur], x, ts) := by
  by_cases h1 : g = 0 ∧ x.1 = 41
  · rw [fa_end h1] at h
    exact ⟨h1, (Option.some.inj h).symm⟩
  · by_cases h2 : g = 0 ∧ x.1 = 44
    · rw [fa_comma h1 h2] at h
      have := (fa_r _ _ _ _ _ h).1
      omega
    · rw [fa_in h1 h2] at h
      have := (fa_r _ _ _ _ _ h).1
      omega
theorem fa_not {x : ETok} {ts cur : List ETok} {g : Int} {as : List (List ETok)} {q : List (List ETok) × ETok × List ETok} (h : fa (x :: ts) g cur as = some q) (hl : q.2.2.length < ts.length) : ¬ (g = 0 ∧ x.1 = 41) := fun h1 => by
  rw [fa_end h1] at h
  have e := (Option.some.inj h).symm
  rw [e] at hl
  exact absurd hl (by simp)
def fz (o : Option (List (List ETok) × ETok × List ETok)) : List (List ETok) × ETok × List ETok := o.getD ([], e0, [])
set_option maxRecDepth 6000 in
theorem r_args_c {sc : x_S} {d : Nat} {S : w_S} {nm : Nat → Int64} {i m b r : Int} {e : Mac} {p40 : ETok} {r1 : List ETok} (hi : sv S 249 46 = i) (i0 : 0 ≤ i) (i1 : i < 31) (m0 : 0 ≤ m) (m8 : m < 8) (hk : rmac S m e) (ho : mok e) (hcl : e.2.1 = true) (hbt : sA S 277 i = b) (b0 : 0 ≤ b) (hcm : sv S 249 29 = b + r1.length + 1) (c1 : sv S 249 29 ≤ 1360) (hbw : bw nm (sL S 269) (sA S 270) (sv S 249 29) (p40 :: r1)) (hp4 : p40.1 = 40) (hlk : loks (p40 :: r1)) (hr : sv S 249 23 = r) (r30 : r ≤ 30) (r00 : 0 ≤ r) (hw0 : 0 ≤ sv S 249 35) (hw1 : r < 30 → sv S 249 35 ≤ 1160) (hrf : sA S 283 (4 * i) = sv S 249 35) (hd : 1 ≤ d) : ∀ n : Nat, (∀ (dp : Int) (cm : Int) (k : Int) (g : Int) (ts : List ETok) (cur : List ETok) (as : List (List ETok)) (lv : x_L) (l0 : lv 0 = some (.ref 249)) (l1 : lv 1 = some (.int (iZ m))) (l2 : lv 2 = some (.int (iZ dp))) (l3 : lv 3 = some (.int (iZ cm))) (l4 : lv 4 = some (.int (iZ k))) (dg : dp = g + 1) (hg0 : -1 ≤ g) (hg1 : g = -1 → hd40 ts = true) (hcc : cm = as.length) (k0 : b - 1 ≤ k) (k1 : k ≤ sv S 249 29 - 1) (hts : bw nm (sL S 269) (sA S 270) (k + 1) ts) (htl : (ts.length : Int) = k + 1 - b) (gk : g + k ≤ 1400) (ak : (as.length : Int) + k ≤ 1400) (he : fa ts g cur as = fq (p40 :: r1)) (kb : b ≤ k) (hm : 2001 + (k + 2).toNat < n), w_T sc d 139 34 lv [] S (fun v S2 => v = some (.int (iZ (if ¬ (fargs e r1).1 = 0 then (fargs e r1).1 else if r = 30 then 7 else 0))) ∧ fr (fun a => a = 249 ∨ a = 273 ∨ a = 274 ∨ a = 281 ∨ a = 283) S S2 ∧ (∀ k, ¬ (k = 29 ∨ k = 35) → sv S2 249 k = sv S 249 k) ∧ ((if ¬ (fargs e r1).1 = 0 then (fargs e r1).1 else if r = 30 then 7 else 0) = 0 → sv S2 249 29 = b + (fargs e r1).2.2.2.length ∧ sA S2 281 = w_u (sA S 281) i (zand (eo nm (fargs e r1).2.2.1) 255) ∧ seg nm (sL S2 273) (sA S2 274) (sA S2 283) (4 * i) ((fargs e r1).2.1.take e.2.2.1.length) ∧ sv S2 249 35 = sA S2 283 (4 * i + ((fargs e r1).2.1.take e.2.2.1.length).length) ∧ sv S2 249 35 ≤ sv S 249 35 + 40 ∧ (∀ j, j < sv S 249 35 → sL S2 273 j = sL S 273 j ∧ sA S2 274 j = sA S 274 j) ∧ (∀ j, j ≤ 4 * i → sA S2 283 j = sA S 283 j)))) ∧ (∀ (dp : Int) (cm : Int) (k : Int) (lv : x_L) (l0 : lv 0 = some (.ref 249)) (l1 : lv 1 = some (.int (iZ m))) (l2 : lv 2 = some (.int (iZ dp))) (l3 : lv 3 = some (.int (iZ cm))) (l4 : lv 4 = some (.int (iZ k))) (hd0 : (0 < dp ∧ dp ≤ 1500 ∧ fq (p40 :: r1) = none) ∨ (dp = 0 ∧ fq (p40 :: r1) = some (fz (fq (p40 :: r1))) ∧ k + 1 = b + (fz (fq (p40 :: r1))).2.2.length ∧ cm + 1 = (fz (fq (p40 :: r1))).1.length ∧ 0 ≤ cm ∧ cm ≤ 1500 ∧ k + 1 ≤ 1360)) (kk : -1 ≤ k ∧ k ≤ 1360) (ck : 0 ≤ cm ∧ cm ≤ 1500) (hm : 2000 < n), w_T sc d 139 118 lv [] S (fun v S2 => v = some (.int (iZ (if ¬ (fargs e r1).1 = 0 then (fargs e r1).1 else if r = 30 then 7 else 0))) ∧ fr (fun a => a = 249 ∨ a = 273 ∨ a = 274 ∨ a = 281 ∨ a = 283) S S2 ∧ (∀ k, ¬ (k = 29 ∨ k = 35) → sv S2 249 k = sv S 249 k) ∧ ((if ¬ (fargs e r1).1 = 0 then (fargs e r1).1 else if r = 30 then 7 else 0) = 0 → sv S2 249 29 = b + (fargs e r1).2.2.2.length ∧ sA S2 281 = w_u (sA S 281) i (zand (eo nm (fargs e r1).2.2.1) 255) ∧ seg nm (sL S2 273) (sA S2 274) (sA S2 283) (4 * i) ((fargs e r1).2.1.take e.2.2.1.length) ∧ sv S2 249 35 = sA S2 283 (4 * i + ((fargs e r1).2.1.take e.2.2.1.length).length) ∧ sv S2 249 35 ≤ sv S 249 35 + 40 ∧ (∀ j, j < sv S 249 35 → sL S2 273 j = sL S 273 j ∧ sA S2 274 j = sA S 274 j) ∧ (∀ j, j ≤ 4 * i → sA S2 283 j = sA S 283 j)))) ∧ (∀ (g : Int) (kc : Int) (ai : Int) (q : Int) (G : List (List ETok) × ETok × List ETok) (ts : List ETok) (cur : List ETok) (as0 : List (List ETok)) (U : w_S) (lv : x_L) (l0 : lv 0 = some (.ref 249)) (l1 : lv 1 = some (.int (iZ m))) (l2 : lv 2 = some (.int (iZ g))) (l4 : lv 4 = some (.int (iZ kc))) (l6 : lv 6 = some (.int (iZ ai))) (l7 : lv 7 = some (.int (iZ q))) (hfr : fr (fun a => a = 249 ∨ a = 273 ∨ a = 274 ∨ a = 281 ∨ a = 283) S U) (h9 : ∀ k, ¬ (k = 29 ∨ k = 35) → sv U 249 k = sv S 249 k) (h29 : sv U 249 29 = sv S 249 29) (hfg : fargs e r1 = (0, G)) (hrn : ¬ r = 30) (hG : fa r1 0 [] [] = some G) (hGp : (e.2.2.1.length = 0 ∧ sv S 249 29 = kc + 2) ∨ e.2.2.1.length = G.1.length) (hkc : kc = b + G.2.2.length) (hb40 : sv S 249 29 - kc - 2 ≤ 40) (h281 : sA U 281 = w_u (sA S 281) i (zand (eo nm G.2.1) 255)) (hts : bw nm (sL S 269) (sA S 270) (q + 1) ts) (htl : (ts.length : Int) = q + 1 - b) (hqk : kc ≤ q ∧ q ≤ sv S 249 29 - 2) (g0 : 0 ≤ g ∧ g + q ≤ 1400) (he : fa ts g cur as0 = some G) (hai : ai = as0.length) (hsg : seg nm (sL U 273) (sA U 274) (sA U 283) (4 * i) as0) (hcu : fw nm (sL U 273) (sA U 274) (sA U 283 (4 * i + as0.length)) cur) (h35 : sv U 249 35 = sA U 283 (4 * i + as0.length) + cur.length) (h35b : sv U 249 35 ≤ sv S 249 35 + (sv S 249 29 - 2 - q)) (h35c : sv S 249 35 ≤ sA U 283 (4 * i + as0.length)) (hlow : ∀ j, j < sv S 249 35 → sL U 273 j = sL S 273 j ∧ sA U 274 j = sA S 274 j) (hl83 : ∀ j, j ≤ 4 * i → sA U 283 j = sA S 283 j) (hm : (q + 1).toNat < n), w_T sc d 139 222 lv [] U (fun v S2 => v = some (.int (iZ (if ¬ (fargs e r1).1 = 0 then (fargs e r1).1 else if r = 30 then 7 else 0))) ∧ fr (fun a => a = 249 ∨ a = 273 ∨ a = 274 ∨ a = 281 ∨ a = 283) S S2 ∧ (∀ k, ¬ (k = 29 ∨ k = 35) → sv S2 249 k = sv S 249 k) ∧ ((if ¬ (fargs e r1).1 = 0 then (fargs e r1).1 else if r = 30 then 7 else 0) = 0 → sv S2 249 29 = b + (fargs e r1).2.2.2.length ∧ sA S2 281 = w_u (sA S 281) i (zand (eo nm (fargs e r1).2.2.1) 255) ∧ seg nm (sL S2 273) (sA S2 274) (sA S2 283) (4 * i) ((fargs e r1).2.1.take e.2.2.1.length) ∧ sv S2 249 35 = sA S2 283 (4 * i + ((fargs e r1).2.1.take e.2.2.1.length).length) ∧ sv S2 249 35 ≤ sv S 249 35 + 40 ∧ (∀ j, j < sv S 249 35 → sL S2 273 j = sL S 273 j ∧ sA S2 274 j = sA S 274 j) ∧ (∀ j, j ≤ 4 * i → sA S2 283 j = sA S 283 j)))) := by
  intro n
  induction n with
  | zero => exact ⟨fun dp cm k g ts cur as lv l0 l1 l2 l3 l4 dg hg0 hg1 hcc k0 k1 hts htl gk ak he kb hm => absurd hm (Nat.not_lt_zero _), fun dp cm k lv l0 l1 l2 l3 l4 hd0 kk ck hm => absurd hm (Nat.not_lt_zero _), fun g kc ai q G ts cur as0 U lv l0 l1 l2 l4 l6 l7 hfr h9 h29 hfg hrn hG hGp hkc hb40 h281 hts htl hqk g0 he hai hsg hcu h35 h35b h35c hlow hl83 hm => absurd hm (Nat.not_lt_zero _)⟩
  | succ n ih =>
    refine ⟨?_, ?_, ?_⟩
    · skip
      intro dp cm k g ts cur as lv l0 l1 l2 l3 l4 dg hg0 hg1 hcc k0 k1 hts htl gk ak he kb hm
      have e263 : sA S 263 m = e.2.2.1.length := by rw [hk.2.1]; unfold rtk; rw [if_pos hcl]
      have h3 := ho.1
      have hbt2 : sA S 277 (sv S 249 46) = b := by rw [hi]; exact hbt
      obtain ⟨x, ts2, rfl⟩ := list_cons (l := ts) (by omega)
      have hx : sL S 269 k = x.1 := by rw [show k = k + 1 - 1 by omega]; exact hts.1
      simp only [List.length_cons] at htl
      refine w_iload_n rfl l2 rfl ?_
      refine w_aload_n rfl l0 rfl ?_
      refine w_getR rfl rfl sh_249 rfl rfl ?_
      refine w_iload rfl l4 rfl ?_
      refine w_lald (z := sL S 269 k) rfl sh_269 (by omega) (by omega) (by decide) rfl rfl ?_
      refine w_ldc2 (v := 40) rfl rfl rfl ?_
      apply w_jn (A := w_T _ _ 139 72 _ [.int (iZ (if ¬ (sL S 269 k) = 40 then (if ¬ (sL S 269 k) = 41 then 0 else (-1)) else 1)), .int (iZ dp)] _ _)
      · intro kT
        refine w_l_ne (pc2 := 53) (pc3 := 49) rfl rfl (by decide) rfl (fun q1 => ?_) (fun q1 => ?_)
        · skip
          refine w_aload_n rfl l0 rfl ?_
          refine w_getR rfl rfl sh_249 rfl rfl ?_
          refine w_iload rfl l4 rfl ?_
          refine w_lald (z := sL S 269 k) rfl sh_269 (by omega) (by omega) (by decide) rfl rfl ?_
          refine w_ldc2 (v := 41) rfl rfl rfl ?_
          refine w_l_ne (pc2 := 71) (pc3 := 67) rfl rfl (by decide) rfl (fun q2 => ?_) (fun q2 => ?_)
          · skip
            refine w_iconst rfl rfl ?_
            exact w_jri (a := if ¬ (sL S 269 k) = 40 then (if ¬ (sL S 269 k) = 41 then 0 else (-1)) else 1) (b := 0) (by rw [if_pos q1, if_pos q2]) kT
          · skip
            refine w_iconst rfl rfl ?_
            refine w_goto (pc2 := 72) rfl (by decide) ?_
            exact w_jri (a := if ¬ (sL S 269 k) = 40 then (if ¬ (sL S 269 k) = 41 then 0 else (-1)) else 1) (b := (-1)) (by rw [if_pos q1, if_neg (not_not_intro q2)]) kT
        · skip
          refine w_iconst rfl rfl ?_
          refine w_goto (pc2 := 72) rfl (by decide) ?_
          exact w_jri (a := if ¬ (sL S 269 k) = 40 then (if ¬ (sL S 269 k) = 41 then 0 else (-1)) else 1) (b := 1) (by rw [if_neg (not_not_intro q1)]) kT
      · show w_T _ _ 139 72 _ [.int (iZ (if ¬ (sL S 269 k) = 40 then (if ¬ (sL S 269 k) = 41 then 0 else (-1)) else 1)), .int (iZ dp)] _ _
        generalize hdl : (if ¬ (sL S 269 k) = 40 then (if ¬ (sL S 269 k) = 41 then 0 else (-1)) else 1) = dl
        refine w_iadd rfl rfl ?_
        refine w_istore_n rfl (by decide) rfl ?_
        refine w_iload_n rfl l3 rfl ?_
        refine w_aload_n rfl l0 rfl ?_
        refine w_getR rfl rfl sh_249 rfl rfl ?_
        refine w_iload rfl l4 rfl ?_
        refine w_lald (z := sL S 269 k) rfl sh_269 (by omega) (by omega) (by decide) rfl rfl ?_
        refine w_ldc2 (v := 44) rfl rfl rfl ?_
        apply w_jn (A := w_T _ _ 139 99 _ [.int (iZ (zB (decide ((sL S 269 k) = 44 ∧ dp + dl = 1)))), .int (iZ cm)] _ _)
        · intro kT
          refine w_l_ne (pc2 := 98) (pc3 := 89) rfl rfl (by decide) rfl (fun q3 => ?_) (fun q3 => ?_)
          · skip
            refine w_iconst rfl rfl ?_
            exact w_j0 (p := (sL S 269 k) = 44 ∧ dp + dl = 1) (fun q => q3 q.1) kT
          · skip
            refine w_iload_n rfl rfl rfl ?_
            refine w_iconst rfl rfl ?_
            refine w_ic_ne (pc2 := 98) (pc3 := 94) rfl (by decide) rfl ⟨by omega, by omega⟩ ⟨by decide, by decide⟩ (fun q4 => ?_) (fun q4 => ?_)
            · skip
              refine w_iconst rfl rfl ?_
              exact w_j0 (p := (sL S 269 k) = 44 ∧ dp + dl = 1) (fun q => q4 q.2) kT
            · skip
              refine w_iconst rfl rfl ?_
              refine w_goto (pc2 := 99) rfl (by decide) ?_
              exact w_j1 (p := (sL S 269 k) = 44 ∧ dp + dl = 1) ⟨q3, q4⟩ kT
        · show w_T _ _ 139 99 _ [.int (iZ (zB (decide ((sL S 269 k) = 44 ∧ dp + dl = 1)))), .int (iZ cm)] _ _
          generalize hcd : (decide ((sL S 269 k) = 44 ∧ dp + dl = 1)) = cd
          refine w_iadd rfl rfl ?_
          refine w_istore_n rfl (by decide) rfl ?_
          refine w_iload_n rfl rfl rfl ?_
          apply w_jn (A := w_T _ _ 139 110 _ [.int (iZ (zB (decide (0 < dp + dl))))] _ _)
          · intro kT
            refine w_if_le (pc2 := 109) (pc3 := 105) rfl (by decide) rfl ⟨by omega, by omega⟩ (fun q5 => ?_) (fun q5 => ?_)
            · skip
              refine w_iconst rfl rfl ?_
              exact w_j0 (p := 0 < dp + dl) (Int.not_lt.mpr q5) kT
            · skip
              refine w_iconst rfl rfl ?_
              refine w_goto (pc2 := 110) rfl (by decide) ?_
              exact w_j1 (p := 0 < dp + dl) q5 kT
          · show w_T _ _ 139 110 _ [.int (iZ (zB (decide (0 < dp + dl))))] _ _
            generalize hmo : (decide (0 < dp + dl)) = mo
            have hdl2 : dl = if x.1 = 40 then 1 else if x.1 = 41 then -1 else 0 := by
              rw [← hdl, hx]
              by_cases q1 : x.1 = 40
              · rw [if_neg (not_not_intro q1), if_pos q1]
              · rw [if_pos q1, if_neg q1]
                by_cases q2 : x.1 = 41
                · rw [if_neg (not_not_intro q2), if_pos q2]
                · rw [if_pos q2, if_neg q2]
            have hdr : -1 ≤ dl ∧ dl ≤ 1 := by
              rw [hdl2]
              split
              · decide
              · split <;> decide
            have hcr := zB_0 cd
            have hcr1 := zB_1 cd
            have hx40 : g = -1 → x.1 = 40 := fun z => of_decide_eq_true (hg1 z)
            have hcd2 : cd = decide (x.1 = 44 ∧ dp + dl = 1) := by rw [← hcd, hx]
            have hend : g = 0 ∧ x.1 = 41 ↔ dp + dl ≤ 0 := by
              rw [hdl2, dg]
              constructor
              · intro z
                rw [if_neg (by rw [z.2]; decide), if_pos z.2]
                omega
              · intro z
                by_cases q1 : x.1 = 40
                · rw [if_pos q1] at z
                  omega
                · rw [if_neg q1] at z
                  by_cases q2 : x.1 = 41
                  · rw [if_pos q2] at z
                    exact ⟨by have : ¬ g = -1 := fun y => q1 (hx40 y); omega, q2⟩
                  · rw [if_neg q2] at z
                    exact absurd (hx40 (by omega)) q1
            obtain ⟨cur2, as2, he2, hcm2⟩ : ∃ cur2 as2, (0 ≤ g + dl → fa ts2 (g + dl) cur2 as2 = fq (p40 :: r1)) ∧ cm + zB cd = as2.length := by
              by_cases q2 : g = 0 ∧ x.1 = 44
              · have hd1 : dl = 0 := by rw [hdl2, if_neg (by rw [q2.2]; decide), if_neg (by rw [q2.2]; decide)]
                refine ⟨[], as ++ [cur], fun z => ?_, ?_⟩
                · rw [fa_comma (fun y => by rw [q2.2] at y; exact absurd y.2 (by decide)) q2] at he
                  rw [show g + dl = 0 by omega]
                  exact he
                · rw [hcd2, zB_t (decide_eq_true ⟨q2.2, by omega⟩), List.length_append, hcc]
                  rfl
              · refine ⟨cur ++ [x], as, fun z => ?_, ?_⟩
                · rw [fa_in (fun y => by have := hend.mp y; omega) q2, ← hdl2] at he
                  exact he
                · rw [hcd2, zB_f (decide_eq_false (fun y => q2 ⟨?_, y.1⟩)), Int.add_zero]
                  · exact hcc
                  · have hd1 : dl = 0 := by rw [hdl2, if_neg (by rw [y.1]; decide), if_neg (by rw [y.1]; decide)]
                    omega
            have hex0 : ¬ 0 < dp + dl → (0 < dp + dl ∧ dp + dl ≤ 1500 ∧ fq (p40 :: r1) = none) ∨ (dp + dl = 0 ∧ fq (p40 :: r1) = some (fz (fq (p40 :: r1))) ∧ k + -1 + 1 = b + (fz (fq (p40 :: r1))).2.2.length ∧ cm + zB cd + 1 = (fz (fq (p40 :: r1))).1.length ∧ 0 ≤ cm + zB cd ∧ cm + zB cd ≤ 1500 ∧ k + -1 + 1 ≤ 1360) := fun z => by
              have h1 := hend.mpr (by omega)
              have h2 := he
              rw [fa_end h1] at h2
              have h4 : (fz (fq (p40 :: r1))) = (as ++ [cur], x, ts2) := by rw [← h2]; rfl
              have h5 : cd = false := by rw [hcd2]; exact decide_eq_false (fun y => by rw [h1.2] at y; exact absurd y.1 (by decide))
              rw [h4, ← h2, h5]
              have e0b : zB false = 0 := rfl
              have hd1 : dl = -1 := by rw [hdl2, if_neg (by rw [h1.2]; decide), if_pos h1.2]
              refine Or.inr ⟨by omega, rfl, by show k + -1 + 1 = b + (ts2.length : Int); omega, ?_, by omega, by omega, by omega⟩
              show cm + zB false + 1 = ((as ++ [cur]).length : Int)
              rw [List.length_append, e0b, hcc]
              simp
            have hex1 : 0 < dp + dl → k + -1 < sA S 277 (sv S 249 46) → (0 < dp + dl ∧ dp + dl ≤ 1500 ∧ fq (p40 :: r1) = none) ∨ (dp + dl = 0 ∧ fq (p40 :: r1) = some (fz (fq (p40 :: r1))) ∧ k + -1 + 1 = b + (fz (fq (p40 :: r1))).2.2.length ∧ cm + zB cd + 1 = (fz (fq (p40 :: r1))).1.length ∧ 0 ≤ cm + zB cd ∧ cm + zB cd ≤ 1500 ∧ k + -1 + 1 ≤ 1360) := fun z z2 => by
              have h0 : ts2 = [] := List.eq_nil_of_length_eq_zero (by omega)
              have h2 := he2 (by omega)
              rw [h0] at h2
              exact Or.inl ⟨z, by omega, h2.symm⟩
            refine w_istore rfl (by decide) rfl ?_
            refine w_iinc rfl (congrArg x_k2 l4) (by decide) rfl ?_
            refine w_goto (pc2 := 15) rfl (by decide) ?_
            refine w_iload rfl rfl rfl ?_
            refine w_b_eq (pc2 := 118) (pc3 := 20) rfl (by decide) rfl (fun c17 => ?_) (fun c17 => ?_)
            · skip
              exact ih.2.1 (dp + dl) (cm + (zB cd)) (k + (-1)) _ (by exact l0) (by exact (congrArg x_k2 l1)) (by exact rfl) (by exact rfl) (by exact rfl) (by first | exact hex0 (of_decide_eq_false (hmo.trans c17)) | exact hex1 (of_decide_eq_true (hmo.trans c17)) c31) (by omega) (by omega) (by omega)
            · skip
              refine w_iload rfl rfl rfl ?_
              refine w_aload_n rfl l0 rfl ?_
              refine w_getR rfl rfl sh_249 rfl rfl ?_
              refine w_aload_n rfl l0 rfl ?_
              refine w_getI (z := sv S 249 46) rfl rfl sh_249 rfl rfl rfl ?_
              refine w_iald (z := sA S 277 (sv S 249 46)) rfl sh_277 (by omega) (by omega) (by decide) rfl rfl ?_
              refine w_ic_lt (pc2 := 118) (pc3 := 34) rfl (by decide) rfl ⟨by omega, by omega⟩ ⟨by omega, by omega⟩ (fun c31 => ?_) (fun c31 => ?_)
              · skip
                exact ih.2.1 (dp + dl) (cm + (zB cd)) (k + (-1)) _ (by exact l0) (by exact (congrArg x_k2 l1)) (by exact rfl) (by exact rfl) (by exact rfl) (by first | exact hex0 (of_decide_eq_false (hmo.trans c17)) | exact hex1 (of_decide_eq_true (hmo.trans c17)) c31) (by omega) (by omega) (by omega)
              · skip
                exact ih.1 (dp + dl) (cm + (zB cd)) (k + (-1)) ((g + dl)) ts2 cur2 as2 _ (by exact l0) (by exact (congrArg x_k2 l1)) (by exact rfl) (by exact rfl) (by exact rfl) (by omega) (by have := of_decide_eq_true (hmo.trans c17); omega) (by intro z; have := of_decide_eq_true (hmo.trans c17); omega) (by exact hcm2) (by omega) (by omega) (by rw [show k + -1 + 1 = k + 1 - 1 by omega]; exact hts.2.2) (by omega) (by omega) (by omega) (by exact he2 (by have := of_decide_eq_true (hmo.trans c17); omega)) (by omega) (by omega)
    · skip
      intro dp cm k lv l0 l1 l2 l3 l4 hd0 kk ck hm
      have e263 : sA S 263 m = e.2.2.1.length := by rw [hk.2.1]; unfold rtk; rw [if_pos hcl]
      have h3 := ho.1
      have hbt2 : sA S 277 (sv S 249 46) = b := by rw [hi]; exact hbt
      refine w_iinc rfl l4 (by decide) rfl ?_
      refine w_iload_n rfl l2 rfl ?_
      refine w_if_le (pc2 := 128) (pc3 := 125) rfl (by decide) rfl ⟨by omega, by omega⟩ (fun c122 => ?_) (fun c122 => ?_)
      · skip
        have hR := hd0.resolve_left (fun z => by have := z.1; omega)
        have hR3 := hR.2.2.1
        have hR4 := hR.2.2.2.1
        have hsh := (fa_shape r1 0 [p40] [] [] []).2 (fz (fq (p40 :: r1))) (by rw [← fq_cons hp4]; exact hR.2.1)
        obtain ⟨G, hG, hG2, hGl⟩ := hsh
        have hfad : fad r1 = G := by unfold fad; rw [hG]; rfl
        have hfe := fargs_eq (e := e) (r := r1) (by rw [hfad]; exact hG)
        rw [hfad] at hfe
        have hr2 : (G.2.2.length : Int) = (fz (fq (p40 :: r1))).2.2.length := by rw [hG2]
        have hbtw : fbt r1 G.2.2 = sv S 249 29 - (k + 1) - 2 := by
          unfold fbt
          omega
        have hl1 : (G.1.length : Int) = cm + 1 := by
          simp only [List.length_nil] at hGl
          omega
        have hrl := (fa_r _ _ _ _ _ hG).1
        refine w_aload_n rfl l0 rfl ?_
        refine w_getI (z := sv S 249 29) rfl rfl sh_249 rfl rfl rfl ?_
        refine w_iload rfl rfl rfl ?_
        refine w_isub rfl rfl ?_
        refine w_iconst rfl rfl ?_
        refine w_isub rfl rfl ?_
        refine w_istore rfl (by decide) rfl ?_
        refine w_iload rfl rfl rfl ?_
        apply w_jn (A := w_T _ _ 139 160 _ [.int (iZ (if (¬ ((sv S 249 29 - (k + 1)) - 2) = 0) ∨ (¬ sA S 263 m = 0) then cm + 1 else 0))] _ _)
        · intro kT
          refine w_if_ne (pc2 := 157) (pc3 := 144) rfl (by decide) rfl ⟨by omega, by omega⟩ (fun q6 => ?_) (fun q6 => ?_)
          · skip
            refine w_iload_n rfl (congrArg x_k2 l3) rfl ?_
            refine w_iconst rfl rfl ?_
            refine w_iadd rfl rfl ?_
            exact w_ji1 (p := (¬ ((sv S 249 29 - (k + 1)) - 2) = 0) ∨ (¬ sA S 263 m = 0)) (a := cm + 1) (b := 0) (Or.inl q6) kT
          · skip
            refine w_aload_n rfl l0 rfl ?_
            refine w_getR rfl rfl sh_249 rfl rfl ?_
            refine w_iload_n rfl l1 rfl ?_
            refine w_iald (z := sA S 263 m) rfl sh_263 (by omega) (by omega) (by decide) rfl rfl ?_
            refine w_if_ne (pc2 := 157) (pc3 := 153) rfl (by decide) rfl ⟨by omega, by omega⟩ (fun q7 => ?_) (fun q7 => ?_)
            · skip
              refine w_iload_n rfl (congrArg x_k2 l3) rfl ?_
              refine w_iconst rfl rfl ?_
              refine w_iadd rfl rfl ?_
              exact w_ji1 (p := (¬ ((sv S 249 29 - (k + 1)) - 2) = 0) ∨ (¬ sA S 263 m = 0)) (a := cm + 1) (b := 0) (Or.inr q7) kT
            · skip
              refine w_iconst rfl rfl ?_
              refine w_goto (pc2 := 160) rfl (by decide) ?_
              exact w_ji0 (p := (¬ ((sv S 249 29 - (k + 1)) - 2) = 0) ∨ (¬ sA S 263 m = 0)) (a := cm + 1) (b := 0) (not_or.mpr ⟨(not_not_intro q6), (not_not_intro q7)⟩) kT
        · show w_T _ _ 139 160 _ [.int (iZ (if (¬ ((sv S 249 29 - (k + 1)) - 2) = 0) ∨ (¬ sA S 263 m = 0) then cm + 1 else 0))] _ _
          refine w_aload_n rfl l0 rfl ?_
          refine w_getR rfl rfl sh_249 rfl rfl ?_
          refine w_iload_n rfl l1 rfl ?_
          refine w_iald (z := sA S 263 m) rfl sh_263 (by omega) (by omega) (by decide) rfl rfl ?_
          refine w_ic_eq (pc2 := 172) (pc3 := 169) rfl (by decide) rfl ⟨by omega, by omega⟩ ⟨by omega, by omega⟩ (fun c166 => ?_) (fun c166 => ?_)
          · skip
            refine w_iload rfl rfl rfl ?_
            refine w_bipush rfl (by decide) rfl ?_
            apply w_br (A := w_T _ _ 139 188 _ [] _ _) (B := w_T _ _ 139 191 _ [] _ _) (40 < ((sv S 249 29 - (k + 1)) - 2) ∨ sv S 249 23 = 30)
            · intro kT1 kT2
              refine w_ic_gt (pc2 := 188) (pc3 := 179) rfl (by decide) rfl ⟨by omega, by omega⟩ ⟨by decide, by decide⟩ (fun q8 => ?_) (fun q8 => ?_)
              · skip
                exact kT1 (Or.inl q8)
              · skip
                refine w_aload_n rfl l0 rfl ?_
                refine w_getI (z := sv S 249 23) rfl rfl sh_249 rfl rfl rfl ?_
                refine w_bipush rfl (by decide) rfl ?_
                refine w_ic_ne (pc2 := 191) (pc3 := 188) rfl (by decide) rfl ⟨by omega, by omega⟩ ⟨by decide, by decide⟩ (fun q9 => ?_) (fun q9 => ?_)
                · skip
                  exact kT2 (not_or.mpr ⟨(Int.not_lt.mpr q8), q9⟩)
                · skip
                  exact kT1 (Or.inr q9)
            · intro c176
              refine w_bipush rfl (by decide) rfl ?_
              refine w_iret rfl rfl ?_
              have hcv : (if ¬ (fargs e r1).1 = 0 then (fargs e r1).1 else if r = 30 then 7 else 0) = 7 := by
                by_cases h4 : 40 < fbt r1 G.2.2
                · have hfg : fargs e r1 = (7, G) := by rw [hfe, if_neg (by unfold fcn; split <;> split at c166 <;> omega), if_pos h4]
                  rw [hfg, if_pos (by show ¬ (7 : Int) = 0; decide)]
                · have hfg : fargs e r1 = (0, G) := by rw [hfe, if_neg (by unfold fcn; split <;> split at c166 <;> omega), if_neg h4]
                  rw [hfg, if_neg (by show ¬ ¬ (0 : Int) = 0; decide), if_pos (by omega)]
              rw [hcv]
              exact ⟨rfl, fr_refl _ _, fun _ _ => rfl, fun z => absurd z (by decide)⟩
            · intro c176
              have hcl0 : sA S 270 (k + 1) = eo nm G.2.1 := by
                obtain ⟨p, hpp⟩ := fa_suf _ _ _ _ _ hG
                have h9 := hbw.2.2
                have h8 := congrArg List.length hpp
                rw [List.length_append, List.length_cons] at h8
                rw [hpp] at h9
                have h7 := ((bw_app p _ _).mp h9).2
                have h6 := h7.2.1
                rw [show sv S 249 29 - 1 - (p.length : Int) - 1 = k + 1 by omega] at h6
                exact h6
              refine w_aload_n rfl l0 rfl ?_
              refine w_getR rfl rfl sh_249 rfl rfl ?_
              refine w_aload_n rfl l0 rfl ?_
              refine w_getI (z := sv S 249 46) rfl rfl sh_249 rfl rfl rfl ?_
              refine w_aload_n rfl l0 rfl ?_
              refine w_getR rfl rfl sh_249 rfl rfl ?_
              refine w_iload rfl rfl rfl ?_
              refine w_iald (z := sA S 270 (k + 1)) rfl sh_270 (by omega) (by omega) (by decide) rfl rfl ?_
              refine w_sipush rfl (by decide) rfl ?_
              refine w_zand rfl rfl ?_
              refine w_iaS (f := sA S 281) rfl sh_281 (by omega) (by omega) (by decide) rfl rfl ?_
              refine w_iconst rfl rfl ?_
              refine w_istore rfl (by decide) rfl ?_
              refine w_aload_n rfl l0 rfl ?_
              refine w_getI (z := sv S 249 29) rfl rfl sh_249 rfl rfl rfl ?_
              refine w_iconst rfl rfl ?_
              refine w_isub rfl rfl ?_
              refine w_istore rfl (by decide) rfl ?_
              exact ih.2.2 dp (k + 1) 0 (sv S 249 29 - 2) G r1 ([]) ([]) _ _ l0 l1 l2 rfl rfl rfl (by exact (fr_A (fr_refl _ _) (by omega))) (by intro k hk; simp (disch := omega) only [rv_self, rv_ne, rl_self, rl_ne, rA_self, rA_ne, rL_self, rL_ne, rR_self, rR_ne, xvl, xvA, xvL, xvR, xlv, xlA, xlL, xlR, xAv, xAl, xAL, xAR, xLv, xLl, xLA, xLR, xRv, xRl, xRA, xRL]) (by simp (disch := omega) only [rv_self, rv_ne, rl_self, rl_ne, rA_self, rA_ne, rL_self, rL_ne, rR_self, rR_ne, xvl, xvA, xvL, xvR, xlv, xlA, xlL, xlR, xAv, xAl, xAL, xAR, xLv, xLl, xLA, xLR, xRv, xRl, xRA, xRL]) (by rw [hfe, if_neg (by unfold fcn; split <;> omega), if_neg (by omega)]) (by omega) (by exact hG) (by omega) (by omega) (by omega) (by simp (disch := omega) only [rv_self, rv_ne, rl_self, rl_ne, rA_self, rA_ne, rL_self, rL_ne, rR_self, rR_ne, xvl, xvA, xvL, xvR, xlv, xlA, xlL, xlR, xAv, xAl, xAL, xAR, xLv, xLl, xLA, xLR, xRv, xRl, xRA, xRL]; rw [hi, hcl0]) (by rw [show sv S 249 29 - 2 + 1 = sv S 249 29 - 1 by omega]; exact hbw.2.2) (by omega) (by omega) (by omega) (by rw [show dp = 0 by omega]; exact hG) (by rfl) (by exact trivial) (by exact trivial) (by simp (disch := omega) only [rv_self, rv_ne, rl_self, rl_ne, rA_self, rA_ne, rL_self, rL_ne, rR_self, rR_ne, xvl, xvA, xvL, xvR, xlv, xlA, xlL, xlR, xAv, xAl, xAL, xAR, xLv, xLl, xLA, xLR, xRv, xRl, xRA, xRL]; rw [List.length_nil, show 4 * i + ((0 : Nat) : Int) = 4 * i by omega, hrf]; simp) (by simp (disch := omega) only [rv_self, rv_ne, rl_self, rl_ne, rA_self, rA_ne, rL_self, rL_ne, rR_self, rR_ne, xvl, xvA, xvL, xvR, xlv, xlA, xlL, xlR, xAv, xAl, xAL, xAR, xLv, xLl, xLA, xLR, xRv, xRl, xRA, xRL]; omega) (by simp (disch := omega) only [rv_self, rv_ne, rl_self, rl_ne, rA_self, rA_ne, rL_self, rL_ne, rR_self, rR_ne, xvl, xvA, xvL, xvR, xlv, xlA, xlL, xlR, xAv, xAl, xAL, xAR, xLv, xLl, xLA, xLR, xRv, xRl, xRA, xRL]; rw [List.length_nil, show 4 * i + ((0 : Nat) : Int) = 4 * i by omega, hrf]; exact Int.le_refl _) (by intro j hj; exact ⟨by simp (disch := omega) only [rv_self, rv_ne, rl_self, rl_ne, rA_self, rA_ne, rL_self, rL_ne, rR_self, rR_ne, xvl, xvA, xvL, xvR, xlv, xlA, xlL, xlR, xAv, xAl, xAL, xAR, xLv, xLl, xLA, xLR, xRv, xRl, xRA, xRL], by simp (disch := omega) only [rv_self, rv_ne, rl_self, rl_ne, rA_self, rA_ne, rL_self, rL_ne, rR_self, rR_ne, xvl, xvA, xvL, xvR, xlv, xlA, xlL, xlR, xAv, xAl, xAL, xAR, xLv, xLl, xLA, xLR, xRv, xRl, xRA, xRL]⟩) (by intro j hj; simp (disch := omega) only [rv_self, rv_ne, rl_self, rl_ne, rA_self, rA_ne, rL_self, rL_ne, rR_self, rR_ne, xvl, xvA, xvL, xvR, xlv, xlA, xlL, xlR, xAv, xAl, xAL, xAR, xLv, xLl, xLA, xLR, xRv, xRl, xRA, xRL]) (by omega)
          · skip
            refine w_bipush rfl (by decide) rfl ?_
            refine w_iret rfl rfl ?_
            have hfg : fargs e r1 = (8, G) := by
              rw [hfe, if_pos]
              unfold fcn
              split <;> split at c166 <;> omega
            have hcv : (if ¬ (fargs e r1).1 = 0 then (fargs e r1).1 else if r = 30 then 7 else 0) = 8 := by rw [hfg, if_pos (by show ¬ (8 : Int) = 0; decide)]
            rw [hcv]
            exact ⟨rfl, fr_refl _ _, fun _ _ => rfl, fun z => absurd z (by decide)⟩
      · skip
        refine w_bipush rfl (by decide) rfl ?_
        refine w_iret rfl rfl ?_
        have hL := hd0.resolve_right (fun z => by have := z.1; omega)
        have hn := (fa_shape r1 0 [p40] [] [] []).1 (by rw [← fq_cons hp4]; exact hL.2.2)
        have hfg : fargs e r1 = (8, [], e0, []) := by unfold fargs; rw [hn]
        have hcv : (if ¬ (fargs e r1).1 = 0 then (fargs e r1).1 else if r = 30 then 7 else 0) = 8 := by rw [hfg, if_pos (by show ¬ (8 : Int) = 0; decide)]
        rw [hcv]
        exact ⟨rfl, fr_refl _ _, fun _ _ => rfl, fun z => absurd z (by decide)⟩
    · skip
      intro g kc ai q G ts cur as0 U lv l0 l1 l2 l4 l6 l7 hfr h9 h29 hfg hrn hG hGp hkc hb40 h281 hts htl hqk g0 he hai hsg hcu h35 h35b h35c hlow hl83 hm
      have e263 : sA S 263 m = e.2.2.1.length := by rw [hk.2.1]; unfold rtk; rw [if_pos hcl]
      have h3 := ho.1
      have hbt2 : sA S 277 (sv S 249 46) = b := by rw [hi]; exact hbt
      have e46 : sv U 249 46 = i := by rw [h9 46 (by decide)]; exact hi
      have u263 : sA U 263 m = e.2.2.1.length := by rw [fr_gA hfr (by omega)]; exact e263
      have u269 : sL U 269 = sL S 269 := fr_gL hfr (by omega)
      have u270 : sA U 270 = sA S 270 := fr_gA hfr (by omega)
      obtain ⟨x, ts2, rfl⟩ := list_cons (l := ts) (by omega)
      have hx : sL S 269 q = x.1 ∧ sA S 270 q = eo nm x := by rw [show q = q + 1 - 1 by omega]; exact ⟨hts.1, hts.2.1⟩
      simp only [List.length_cons] at htl
      have hal := fa_len _ _ _ _ _ he
      refine w_iload rfl l7 rfl ?_
      refine w_iload rfl l4 rfl ?_
      refine w_ic_le (pc2 := 359) (pc3 := 229) rfl (by decide) rfl ⟨by omega, by omega⟩ ⟨by omega, by omega⟩ (fun c226 => ?_) (fun c226 => ?_)
      · skip
        refine w_aload_n rfl l0 rfl ?_
        refine w_getR rfl rfl sh_249 rfl rfl ?_
        refine w_iload_n rfl l1 rfl ?_
        refine w_iald (z := sA U 263 m) rfl sh_263 (by omega) (by omega) (by decide) rfl rfl ?_
        refine w_if_le (pc2 := 390) (pc3 := 368) rfl (by decide) rfl ⟨by omega, by omega⟩ (fun c365 => ?_) (fun c365 => ?_)
        · skip
          refine w_aload_n rfl l0 rfl ?_
          refine w_iload rfl l4 rfl ?_
          refine w_putf rfl rfl sh_249 rfl rfl (by decide) rfl ?_
          refine w_iconst rfl rfl ?_
          refine w_iret rfl rfl ?_
          have hla := fa_last he (by omega)
          obtain ⟨⟨hg00, hx41⟩, hGe⟩ := hla
          have hcv : (if ¬ (fargs e r1).1 = 0 then (fargs e r1).1 else if r = 30 then 7 else 0) = 0 := by rw [hfg, if_neg (by show ¬ ¬ (0 : Int) = 0; decide), if_neg hrn]
          rw [hcv, hfg]
          refine ⟨rfl, (fr_v hfr (by omega)), ?_, fun _ => ⟨?_, ?_, ?_, ?_, ?_, ?_, ?_⟩⟩
          · intro k hk
            simp (disch := omega) only [rv_self, rv_ne, rl_self, rl_ne, rA_self, rA_ne, rL_self, rL_ne, rR_self, rR_ne, xvl, xvA, xvL, xvR, xlv, xlA, xlL, xlR, xAv, xAl, xAL, xAR, xLv, xLl, xLA, xLR, xRv, xRl, xRA, xRL]
            exact h9 k hk
          · simp (disch := omega) only [rv_self, rv_ne, rl_self, rl_ne, rA_self, rA_ne, rL_self, rL_ne, rR_self, rR_ne, xvl, xvA, xvL, xvR, xlv, xlA, xlL, xlR, xAv, xAl, xAL, xAR, xLv, xLl, xLA, xLR, xRv, xRl, xRA, xRL]
            exact hkc
          · simp (disch := omega) only [rv_self, rv_ne, rl_self, rl_ne, rA_self, rA_ne, rL_self, rL_ne, rR_self, rR_ne, xvl, xvA, xvL, xvR, xlv, xlA, xlL, xlR, xAv, xAl, xAL, xAR, xLv, xLl, xLA, xLR, xRv, xRl, xRA, xRL]
            exact h281
          · have hp0 : e.2.2.1.length = 0 := by omega
            show seg _ _ _ _ _ (G.1.take e.2.2.1.length)
            rw [hp0]
            exact trivial
          · have hp0 : e.2.2.1.length = 0 := by omega
            show sv _ 249 35 = sA _ 283 (4 * i + ((G.1.take e.2.2.1.length).length : Int))
            rw [hp0]
            simp (disch := omega) only [rv_self, rv_ne, rl_self, rl_ne, rA_self, rA_ne, rL_self, rL_ne, rR_self, rR_ne, xvl, xvA, xvL, xvR, xlv, xlA, xlL, xlR, xAv, xAl, xAL, xAR, xLv, xLl, xLA, xLR, xRv, xRl, xRA, xRL]
            simp only [List.take_zero, List.length_nil]
            rw [show 4 * i + ((0 : Nat) : Int) = 4 * i by omega, hl83 _ (Int.le_refl _), hrf]
            omega
          · simp (disch := omega) only [rv_self, rv_ne, rl_self, rl_ne, rA_self, rA_ne, rL_self, rL_ne, rR_self, rR_ne, xvl, xvA, xvL, xvR, xlv, xlA, xlL, xlR, xAv, xAl, xAL, xAR, xLv, xLl, xLA, xLR, xRv, xRl, xRA, xRL]
            omega
          · intro j hj
            simp (disch := omega) only [rv_self, rv_ne, rl_self, rl_ne, rA_self, rA_ne, rL_self, rL_ne, rR_self, rR_ne, xvl, xvA, xvL, xvR, xlv, xlA, xlL, xlR, xAv, xAl, xAL, xAR, xLv, xLl, xLA, xLR, xRv, xRl, xRA, xRL]
            exact hlow j hj
          · intro j hj
            simp (disch := omega) only [rv_self, rv_ne, rl_self, rl_ne, rA_self, rA_ne, rL_self, rL_ne, rR_self, rR_ne, xvl, xvA, xvL, xvR, xlv, xlA, xlL, xlR, xAv, xAl, xAL, xAR, xLv, xLl, xLA, xLR, xRv, xRl, xRA, xRL]
            exact hl83 j hj
        · skip
          refine w_aload_n rfl l0 rfl ?_
          refine w_getR rfl rfl sh_249 rfl rfl ?_
          refine w_iconst rfl rfl ?_
          refine w_aload_n rfl l0 rfl ?_
          refine w_getI (z := sv U 249 46) rfl rfl sh_249 rfl rfl rfl ?_
          refine w_imul rfl rfl ?_
          refine w_aload_n rfl l0 rfl ?_
          refine w_getR rfl rfl sh_249 rfl rfl ?_
          refine w_iload_n rfl l1 rfl ?_
          refine w_iald (z := sA U 263 m) rfl sh_263 (by omega) (by omega) (by decide) rfl rfl ?_
          refine w_iadd rfl rfl ?_
          refine w_aload_n rfl l0 rfl ?_
          refine w_getI (z := sv U 249 35) rfl rfl sh_249 rfl rfl rfl ?_
          refine w_iaS (f := sA U 283) rfl sh_283 (by omega) (by omega) (by decide) rfl rfl ?_
          refine w_aload_n rfl l0 rfl ?_
          refine w_iload rfl l4 rfl ?_
          refine w_putf rfl rfl sh_249 rfl rfl (by decide) rfl ?_
          refine w_iconst rfl rfl ?_
          refine w_iret rfl rfl ?_
          have hla := fa_last he (by omega)
          obtain ⟨⟨hg00, hx41⟩, hGe⟩ := hla
          have hcv : (if ¬ (fargs e r1).1 = 0 then (fargs e r1).1 else if r = 30 then 7 else 0) = 0 := by rw [hfg, if_neg (by show ¬ ¬ (0 : Int) = 0; decide), if_neg hrn]
          rw [hcv, hfg]
          refine ⟨rfl, (fr_v (fr_A hfr (by omega)) (by omega)), ?_, fun _ => ⟨?_, ?_, ?_, ?_, ?_, ?_, ?_⟩⟩
          · intro k hk
            simp (disch := omega) only [rv_self, rv_ne, rl_self, rl_ne, rA_self, rA_ne, rL_self, rL_ne, rR_self, rR_ne, xvl, xvA, xvL, xvR, xlv, xlA, xlL, xlR, xAv, xAl, xAL, xAR, xLv, xLl, xLA, xLR, xRv, xRl, xRA, xRL]
            exact h9 k hk
          · simp (disch := omega) only [rv_self, rv_ne, rl_self, rl_ne, rA_self, rA_ne, rL_self, rL_ne, rR_self, rR_ne, xvl, xvA, xvL, xvR, xlv, xlA, xlL, xlR, xAv, xAl, xAL, xAR, xLv, xLl, xLA, xLR, xRv, xRl, xRA, xRL]
            exact hkc
          · simp (disch := omega) only [rv_self, rv_ne, rl_self, rl_ne, rA_self, rA_ne, rL_self, rL_ne, rR_self, rR_ne, xvl, xvA, xvL, xvR, xlv, xlA, xlL, xlR, xAv, xAl, xAL, xAR, xLv, xLl, xLA, xLR, xRv, xRl, xRA, xRL]
            exact h281
          · have hta : G.1.take e.2.2.1.length = as0 ++ [cur] := by
              rw [hGe]
              refine List.take_of_length_le ?_
              rw [hGe] at hGp
              simp only [List.length_append, List.length_cons, List.length_nil] at hGp ⊢
              omega
            show seg _ _ _ _ _ (G.1.take e.2.2.1.length)
            rw [hta]
            simp (disch := omega) only [rv_self, rv_ne, rl_self, rl_ne, rA_self, rA_ne, rL_self, rL_ne, rR_self, rR_ne, xvl, xvA, xvL, xvR, xlv, xlA, xlL, xlR, xAv, xAl, xAL, xAR, xLv, xLl, xLA, xLR, xRv, xRl, xRA, xRL]
            rw [e46, u263]
            have hpl : (e.2.2.1.length : Int) = as0.length + 1 := by
              rw [hGe] at hGp
              simp only [List.length_append, List.length_cons, List.length_nil] at hGp
              omega
            refine seg_snoc as0 (4 * i) hsg hcu (fun j hj => w_u_ne _ _ (by omega)) ?_
            rw [show 4 * i + (as0.length : Int) + 1 = 4 * i + e.2.2.1.length by omega, w_u_self]
            exact h35
          · have hta : (G.1.take e.2.2.1.length).length = e.2.2.1.length := by
              rw [List.length_take]
              omega
            show sv _ 249 35 = sA _ 283 (4 * i + ((G.1.take e.2.2.1.length).length : Int))
            rw [hta]
            simp (disch := omega) only [rv_self, rv_ne, rl_self, rl_ne, rA_self, rA_ne, rL_self, rL_ne, rR_self, rR_ne, xvl, xvA, xvL, xvR, xlv, xlA, xlL, xlR, xAv, xAl, xAL, xAR, xLv, xLl, xLA, xLR, xRv, xRl, xRA, xRL]
            rw [e46, u263, w_u_self]
          · simp (disch := omega) only [rv_self, rv_ne, rl_self, rl_ne, rA_self, rA_ne, rL_self, rL_ne, rR_self, rR_ne, xvl, xvA, xvL, xvR, xlv, xlA, xlL, xlR, xAv, xAl, xAL, xAR, xLv, xLl, xLA, xLR, xRv, xRl, xRA, xRL]
            omega
          · intro j hj
            simp (disch := omega) only [rv_self, rv_ne, rl_self, rl_ne, rA_self, rA_ne, rL_self, rL_ne, rR_self, rR_ne, xvl, xvA, xvL, xvR, xlv, xlA, xlL, xlR, xAv, xAl, xAL, xAR, xLv, xLl, xLA, xLR, xRv, xRl, xRA, xRL]
            exact hlow j hj
          · intro j hj
            simp (disch := omega) only [rv_self, rv_ne, rl_self, rl_ne, rA_self, rA_ne, rL_self, rL_ne, rR_self, rR_ne, xvl, xvA, xvL, xvR, xlv, xlA, xlL, xlR, xAv, xAl, xAL, xAR, xLv, xLl, xLA, xLR, xRv, xRl, xRA, xRL]
            rw [e46, u263, w_u_ne _ _ (by omega)]
            exact hl83 j hj
      · skip
        refine w_iload_n rfl l2 rfl ?_
        refine w_aload_n rfl l0 rfl ?_
        refine w_getR rfl rfl sh_249 rfl rfl ?_
        refine w_iload rfl l7 rfl ?_
        refine w_lald (z := sL U 269 q) rfl sh_269 (by omega) (by omega) (by decide) rfl rfl ?_
        refine w_ldc2 (v := 40) rfl rfl rfl ?_
        apply w_jn (A := w_T _ _ 139 267 _ [.int (iZ (if ¬ (sL U 269 q) = 40 then (if ¬ (sL U 269 q) = 41 then 0 else (-1)) else 1)), .int (iZ g)] _ _)
        · intro kT
          refine w_l_ne (pc2 := 248) (pc3 := 244) rfl rfl (by decide) rfl (fun q10 => ?_) (fun q10 => ?_)
          · skip
            refine w_aload_n rfl l0 rfl ?_
            refine w_getR rfl rfl sh_249 rfl rfl ?_
            refine w_iload rfl l7 rfl ?_
            refine w_lald (z := sL U 269 q) rfl sh_269 (by omega) (by omega) (by decide) rfl rfl ?_
            refine w_ldc2 (v := 41) rfl rfl rfl ?_
            refine w_l_ne (pc2 := 266) (pc3 := 262) rfl rfl (by decide) rfl (fun q11 => ?_) (fun q11 => ?_)
            · skip
              refine w_iconst rfl rfl ?_
              exact w_jri (a := if ¬ (sL U 269 q) = 40 then (if ¬ (sL U 269 q) = 41 then 0 else (-1)) else 1) (b := 0) (by rw [if_pos q10, if_pos q11]) kT
            · skip
              refine w_iconst rfl rfl ?_
              refine w_goto (pc2 := 267) rfl (by decide) ?_
              exact w_jri (a := if ¬ (sL U 269 q) = 40 then (if ¬ (sL U 269 q) = 41 then 0 else (-1)) else 1) (b := (-1)) (by rw [if_pos q10, if_neg (not_not_intro q11)]) kT
          · skip
            refine w_iconst rfl rfl ?_
            refine w_goto (pc2 := 267) rfl (by decide) ?_
            exact w_jri (a := if ¬ (sL U 269 q) = 40 then (if ¬ (sL U 269 q) = 41 then 0 else (-1)) else 1) (b := 1) (by rw [if_neg (not_not_intro q10)]) kT
        · show w_T _ _ 139 267 _ [.int (iZ (if ¬ (sL U 269 q) = 40 then (if ¬ (sL U 269 q) = 41 then 0 else (-1)) else 1)), .int (iZ g)] _ _
          generalize hdl : (if ¬ (sL U 269 q) = 40 then (if ¬ (sL U 269 q) = 41 then 0 else (-1)) else 1) = dl
          have hdl2 : dl = if x.1 = 40 then 1 else if x.1 = 41 then -1 else 0 := by
            rw [← hdl, u269, hx.1]
            by_cases q1 : x.1 = 40
            · rw [if_neg (not_not_intro q1), if_pos q1]
            · rw [if_pos q1, if_neg q1]
              by_cases q2 : x.1 = 41
              · rw [if_neg (not_not_intro q2), if_pos q2]
              · rw [if_pos q2, if_neg q2]
          have hnend := fa_not he (by omega)
          have hdr : -1 ≤ dl ∧ dl ≤ 1 := by
            rw [hdl2]
            split
            · decide
            · split <;> decide
          have hdg : 0 ≤ g + dl := by
            by_cases q1 : x.1 = 41
            · have : ¬ g = 0 := fun z => hnend ⟨z, q1⟩
              omega
            · rw [hdl2, if_neg q1]
              split <;> omega
          refine w_iadd rfl rfl ?_
          refine w_istore_n rfl (by decide) rfl ?_
          refine w_aload_n rfl l0 rfl ?_
          refine w_getR rfl rfl sh_249 rfl rfl ?_
          refine w_iload rfl l7 rfl ?_
          refine w_lald (z := sL U 269 q) rfl sh_269 (by omega) (by omega) (by decide) rfl rfl ?_
          refine w_ldc2 (v := 44) rfl rfl rfl ?_
          apply w_br (A := w_T _ _ 139 287 _ [] _ _) (B := w_T _ _ 139 311 _ [] _ _) ((sL U 269 q) = 44 ∧ g + dl = 0)
          · intro kT1 kT2
            refine w_l_ne (pc2 := 311) (pc3 := 283) rfl rfl (by decide) rfl (fun q12 => ?_) (fun q12 => ?_)
            · skip
              exact kT2 (fun q => q12 q.1)
            · skip
              refine w_iload_n rfl rfl rfl ?_
              refine w_if_ne (pc2 := 311) (pc3 := 287) rfl (by decide) rfl ⟨by omega, by omega⟩ (fun q13 => ?_) (fun q13 => ?_)
              · skip
                exact kT2 (fun q => q13 q.2)
              · skip
                exact kT1 ⟨q12, q13⟩
          · intro c280
            have hc44 : x.1 = 44 := by rw [← hx.1, ← u269]; exact c280.1
            have hd00 : g + dl = 0 := c280.2
            have hd0b : dl = 0 := by rw [hdl2, if_neg (by rw [hc44]; decide), if_neg (by rw [hc44]; decide)]
            refine w_iinc rfl l6 (by decide) rfl ?_
            refine w_aload_n rfl l0 rfl ?_
            refine w_getR rfl rfl sh_249 rfl rfl ?_
            refine w_iconst rfl rfl ?_
            refine w_aload_n rfl l0 rfl ?_
            refine w_getI (z := sv U 249 46) rfl rfl sh_249 rfl rfl rfl ?_
            refine w_imul rfl rfl ?_
            refine w_iload rfl rfl rfl ?_
            refine w_iadd rfl rfl ?_
            refine w_aload_n rfl l0 rfl ?_
            refine w_getI (z := sv U 249 35) rfl rfl sh_249 rfl rfl rfl ?_
            refine w_iaS (f := sA U 283) rfl sh_283 (by omega) (by omega) (by decide) rfl rfl ?_
            refine w_goto (pc2 := 353) rfl (by decide) ?_
            refine w_iinc rfl l7 (by decide) rfl ?_
            refine w_goto (pc2 := 222) rfl (by decide) ?_
            exact ih.2.2 (g + dl) kc (ai + 1) (q + (-1)) G ts2 ([]) ((as0 ++ [cur])) _ _ (by exact l0) (by exact (congrArg x_k2 l1)) (by exact rfl) (by exact l4) (by exact rfl) (by exact rfl) (by exact (fr_A hfr (by omega))) (by intro k hk; simp (disch := omega) only [rv_self, rv_ne, rl_self, rl_ne, rA_self, rA_ne, rL_self, rL_ne, rR_self, rR_ne, xvl, xvA, xvL, xvR, xlv, xlA, xlL, xlR, xAv, xAl, xAL, xAR, xLv, xLl, xLA, xLR, xRv, xRl, xRA, xRL]; exact h9 k hk) (by simp (disch := omega) only [rv_self, rv_ne, rl_self, rl_ne, rA_self, rA_ne, rL_self, rL_ne, rR_self, rR_ne, xvl, xvA, xvL, xvR, xlv, xlA, xlL, xlR, xAv, xAl, xAL, xAR, xLv, xLl, xLA, xLR, xRv, xRl, xRA, xRL]; exact h29) (by exact hfg) (by exact hrn) (by exact hG) (by exact hGp) (by exact hkc) (by exact hb40) (by simp (disch := omega) only [rv_self, rv_ne, rl_self, rl_ne, rA_self, rA_ne, rL_self, rL_ne, rR_self, rR_ne, xvl, xvA, xvL, xvR, xlv, xlA, xlL, xlR, xAv, xAl, xAL, xAR, xLv, xLl, xLA, xLR, xRv, xRl, xRA, xRL]; exact h281) (by rw [show q + -1 + 1 = q + 1 - 1 by omega]; exact hts.2.2) (by omega) (by omega) (by omega) (by rw [fa_comma hnend ⟨by omega, hc44⟩] at he; rw [show g + dl = 0 by omega]; exact he) (by rw [List.length_append, hai]; rfl) (by simp (disch := omega) only [rv_self, rv_ne, rl_self, rl_ne, rA_self, rA_ne, rL_self, rL_ne, rR_self, rR_ne, xvl, xvA, xvL, xvR, xlv, xlA, xlL, xlR, xAv, xAl, xAL, xAR, xLv, xLl, xLA, xLR, xRv, xRl, xRA, xRL]; rw [e46]; refine seg_snoc as0 (4 * i) hsg hcu (fun j hj => w_u_ne _ _ (by omega)) ?_; rw [show 4 * i + (as0.length : Int) + 1 = 4 * i + (ai + 1) by omega, w_u_self]; exact h35) (by exact trivial) (by simp (disch := omega) only [rv_self, rv_ne, rl_self, rl_ne, rA_self, rA_ne, rL_self, rL_ne, rR_self, rR_ne, xvl, xvA, xvL, xvR, xlv, xlA, xlL, xlR, xAv, xAl, xAL, xAR, xLv, xLl, xLA, xLR, xRv, xRl, xRA, xRL]; rw [e46, List.length_append, List.length_nil, show 4 * i + ((as0.length + [cur].length : Nat) : Int) = 4 * i + (ai + 1) by simp only [List.length_cons, List.length_nil]; omega, w_u_self]; simp) (by simp (disch := omega) only [rv_self, rv_ne, rl_self, rl_ne, rA_self, rA_ne, rL_self, rL_ne, rR_self, rR_ne, xvl, xvA, xvL, xvR, xlv, xlA, xlL, xlR, xAv, xAl, xAL, xAR, xLv, xLl, xLA, xLR, xRv, xRl, xRA, xRL]; omega) (by simp (disch := omega) only [rv_self, rv_ne, rl_self, rl_ne, rA_self, rA_ne, rL_self, rL_ne, rR_self, rR_ne, xvl, xvA, xvL, xvR, xlv, xlA, xlL, xlR, xAv, xAl, xAL, xAR, xLv, xLl, xLA, xLR, xRv, xRl, xRA, xRL]; rw [e46, List.length_append, show 4 * i + ((as0.length + [cur].length : Nat) : Int) = 4 * i + (ai + 1) by simp only [List.length_cons, List.length_nil]; omega, w_u_self]; omega) (by intro j hj; simp (disch := omega) only [rv_self, rv_ne, rl_self, rl_ne, rA_self, rA_ne, rL_self, rL_ne, rR_self, rR_ne, xvl, xvA, xvL, xvR, xlv, xlA, xlL, xlR, xAv, xAl, xAL, xAR, xLv, xLl, xLA, xLR, xRv, xRl, xRA, xRL]; exact hlow j hj) (by intro j hj; simp (disch := omega) only [rv_self, rv_ne, rl_self, rl_ne, rA_self, rA_ne, rL_self, rL_ne, rR_self, rR_ne, xvl, xvA, xvL, xvR, xlv, xlA, xlL, xlR, xAv, xAl, xAL, xAR, xLv, xLl, xLA, xLR, xRv, xRl, xRA, xRL]; rw [w_u_ne _ _ (by omega)]; exact hl83 j hj) (by omega)
          · intro c280
            have hncm : ¬ (g = 0 ∧ x.1 = 44) := fun z => c280 ⟨by rw [u269, hx.1]; exact z.2, by rw [hdl2, if_neg (by rw [z.2]; decide), if_neg (by rw [z.2]; decide)]; omega⟩
            refine w_aload_n rfl l0 rfl ?_
            refine w_getR rfl rfl sh_249 rfl rfl ?_
            refine w_aload_n rfl l0 rfl ?_
            refine w_getI (z := sv U 249 35) rfl rfl sh_249 rfl rfl rfl ?_
            refine w_aload_n rfl l0 rfl ?_
            refine w_getR rfl rfl sh_249 rfl rfl ?_
            refine w_iload rfl l7 rfl ?_
            refine w_lald (z := sL U 269 q) rfl sh_269 (by omega) (by omega) (by decide) rfl rfl ?_
            refine w_laS (f := sL U 273) rfl sh_273 (by omega) (by omega) (by decide) rfl rfl ?_
            refine w_aload_n rfl l0 rfl ?_
            refine w_getR rfl rfl sh_249 rfl rfl ?_
            refine w_aload_n rfl l0 rfl ?_
            refine w_getI (z := sv U 249 35) rfl rfl sh_249 rfl rfl rfl ?_
            refine w_aload_n rfl l0 rfl ?_
            refine w_getR rfl rfl sh_249 rfl rfl ?_
            refine w_iload rfl l7 rfl ?_
            refine w_iald (z := sA U 270 q) rfl sh_270 (by omega) (by omega) (by decide) rfl rfl ?_
            refine w_iaS (f := sA U 274) rfl sh_274 (by omega) (by omega) (by decide) rfl rfl ?_
            refine w_aload_n rfl l0 rfl ?_
            refine w_dup rfl rfl rfl ?_
            refine w_getI (z := sv U 249 35) rfl rfl sh_249 rfl rfl rfl ?_
            refine w_iconst rfl rfl ?_
            refine w_iadd rfl rfl ?_
            refine w_putf rfl rfl sh_249 rfl rfl (by decide) rfl ?_
            refine w_iinc rfl l7 (by decide) rfl ?_
            refine w_goto (pc2 := 222) rfl (by decide) ?_
            exact ih.2.2 (g + dl) kc ai (q + (-1)) G ts2 ((cur ++ [x])) as0 _ _ (by exact l0) (by exact (congrArg x_k2 l1)) (by exact rfl) (by exact l4) (by exact (congrArg x_k2 l6)) (by exact rfl) (by exact (fr_v (fr_A (fr_L hfr (by omega)) (by omega)) (by omega))) (by intro k hk; simp (disch := omega) only [rv_self, rv_ne, rl_self, rl_ne, rA_self, rA_ne, rL_self, rL_ne, rR_self, rR_ne, xvl, xvA, xvL, xvR, xlv, xlA, xlL, xlR, xAv, xAl, xAL, xAR, xLv, xLl, xLA, xLR, xRv, xRl, xRA, xRL]; exact h9 k hk) (by simp (disch := omega) only [rv_self, rv_ne, rl_self, rl_ne, rA_self, rA_ne, rL_self, rL_ne, rR_self, rR_ne, xvl, xvA, xvL, xvR, xlv, xlA, xlL, xlR, xAv, xAl, xAL, xAR, xLv, xLl, xLA, xLR, xRv, xRl, xRA, xRL]; exact h29) (by exact hfg) (by exact hrn) (by exact hG) (by exact hGp) (by exact hkc) (by exact hb40) (by simp (disch := omega) only [rv_self, rv_ne, rl_self, rl_ne, rA_self, rA_ne, rL_self, rL_ne, rR_self, rR_ne, xvl, xvA, xvL, xvR, xlv, xlA, xlL, xlR, xAv, xAl, xAL, xAR, xLv, xLl, xLA, xLR, xRv, xRl, xRA, xRL]; exact h281) (by rw [show q + -1 + 1 = q + 1 - 1 by omega]; exact hts.2.2) (by omega) (by omega) (by omega) (by rw [fa_in hnend (fun z => hncm z), ← hdl2] at he; exact he) (by exact hai) (by simp (disch := omega) only [rv_self, rv_ne, rl_self, rl_ne, rA_self, rA_ne, rL_self, rL_ne, rR_self, rR_ne, xvl, xvA, xvL, xvR, xlv, xlA, xlL, xlR, xAv, xAl, xAL, xAR, xLv, xLl, xLA, xLR, xRv, xRl, xRA, xRL]; exact seg_cong as0 (4 * i) hsg (fun j _ _ => rfl) (fun j _ h => ⟨w_u_ne _ _ (by omega), w_u_ne _ _ (by omega)⟩)) (by simp (disch := omega) only [rv_self, rv_ne, rl_self, rl_ne, rA_self, rA_ne, rL_self, rL_ne, rR_self, rR_ne, xvl, xvA, xvL, xvR, xlv, xlA, xlL, xlR, xAv, xAl, xAL, xAR, xLv, xLl, xLA, xLR, xRv, xRl, xRA, xRL]; rw [h35, u269, u270, hx.1, hx.2]; exact fw_snoc hcu) (by simp (disch := omega) only [rv_self, rv_ne, rl_self, rl_ne, rA_self, rA_ne, rL_self, rL_ne, rR_self, rR_ne, xvl, xvA, xvL, xvR, xlv, xlA, xlL, xlR, xAv, xAl, xAL, xAR, xLv, xLl, xLA, xLR, xRv, xRl, xRA, xRL]; rw [h35, List.length_append]; simp only [List.length_cons, List.length_nil]; omega) (by simp (disch := omega) only [rv_self, rv_ne, rl_self, rl_ne, rA_self, rA_ne, rL_self, rL_ne, rR_self, rR_ne, xvl, xvA, xvL, xvR, xlv, xlA, xlL, xlR, xAv, xAl, xAL, xAR, xLv, xLl, xLA, xLR, xRv, xRl, xRA, xRL]; omega) (by simp (disch := omega) only [rv_self, rv_ne, rl_self, rl_ne, rA_self, rA_ne, rL_self, rL_ne, rR_self, rR_ne, xvl, xvA, xvL, xvR, xlv, xlA, xlL, xlR, xAv, xAl, xAL, xAR, xLv, xLl, xLA, xLR, xRv, xRl, xRA, xRL]; exact h35c) (by intro j hj; simp (disch := omega) only [rv_self, rv_ne, rl_self, rl_ne, rA_self, rA_ne, rL_self, rL_ne, rR_self, rR_ne, xvl, xvA, xvL, xvR, xlv, xlA, xlL, xlR, xAv, xAl, xAL, xAR, xLv, xLl, xLA, xLR, xRv, xRl, xRA, xRL]; rw [w_u_ne _ _ (by omega), w_u_ne _ _ (by omega)]; exact hlow j hj) (by intro j hj; simp (disch := omega) only [rv_self, rv_ne, rl_self, rl_ne, rA_self, rA_ne, rL_self, rL_ne, rR_self, rR_ne, xvl, xvA, xvL, xvR, xlv, xlA, xlL, xlR, xAv, xAl, xAL, xAR, xLv, xLl, xLA, xLR, xRv, xRl, xRA, xRL]; exact hl83 j hj) (by omega)
set_option maxRecDepth 6000 in
theorem r_args {sc : x_S} {d : Nat} {S : w_S} {nm : Nat → Int64} {i m b r : Int} {e : Mac} {p40 : ETok} {r1 : List ETok} (hi : sv S 249 46 = i) (i0 : 0 ≤ i) (i1 : i < 31) (m0 : 0 ≤ m) (m8 : m < 8) (hk : rmac S m e) (ho : mok e) (hcl : e.2.1 = true) (hbt : sA S 277 i = b) (b0 : 0 ≤ b) (hcm : sv S 249 29 = b + r1.length + 1) (c1 : sv S 249 29 ≤ 1360) (hbw : bw nm (sL S 269) (sA S 270) (sv S 249 29) (p40 :: r1)) (hp4 : p40.1 = 40) (hlk : loks (p40 :: r1)) (hr : sv S 249 23 = r) (r30 : r ≤ 30) (r00 : 0 ≤ r) (hw0 : 0 ≤ sv S 249 35) (hw1 : r < 30 → sv S 249 35 ≤ 1160) (hrf : sA S 283 (4 * i) = sv S 249 35) (hd : 1 ≤ d) : w_T sc d 139 0 (x_en 0 [.ref 249, .int (iZ m)]) [] S (fun v S2 => v = some (.int (iZ (if ¬ (fargs e r1).1 = 0 then (fargs e r1).1 else if r = 30 then 7 else 0))) ∧ fr (fun a => a = 249 ∨ a = 273 ∨ a = 274 ∨ a = 281 ∨ a = 283) S S2 ∧ (∀ k, ¬ (k = 29 ∨ k = 35) → sv S2 249 k = sv S 249 k) ∧ ((if ¬ (fargs e r1).1 = 0 then (fargs e r1).1 else if r = 30 then 7 else 0) = 0 → sv S2 249 29 = b + (fargs e r1).2.2.2.length ∧ sA S2 281 = w_u (sA S 281) i (zand (eo nm (fargs e r1).2.2.1) 255) ∧ seg nm (sL S2 273) (sA S2 274) (sA S2 283) (4 * i) ((fargs e r1).2.1.take e.2.2.1.length) ∧ sv S2 249 35 = sA S2 283 (4 * i + ((fargs e r1).2.1.take e.2.2.1.length).length) ∧ sv S2 249 35 ≤ sv S 249 35 + 40 ∧ (∀ j, j < sv S 249 35 → sL S2 273 j = sL S 273 j ∧ sA S2 274 j = sA S 274 j) ∧ (∀ j, j ≤ 4 * i → sA S2 283 j = sA S 283 j))) := by
  have e263 : sA S 263 m = e.2.2.1.length := by rw [hk.2.1]; unfold rtk; rw [if_pos hcl]
  have h3 := ho.1
  have hbt2 : sA S 277 (sv S 249 46) = b := by rw [hi]; exact hbt
  refine w_iconst rfl rfl ?_
  refine w_istore_n rfl (by decide) rfl ?_
  refine w_iconst rfl rfl ?_
  refine w_istore_n rfl (by decide) rfl ?_
  refine w_aload_n rfl rfl rfl ?_
  refine w_getI (z := sv S 249 29) rfl rfl sh_249 rfl rfl rfl ?_
  refine w_iconst rfl rfl ?_
  refine w_isub rfl rfl ?_
  refine w_istore rfl (by decide) rfl ?_
  refine w_iconst rfl rfl ?_
  refine w_istore rfl (by decide) rfl ?_
  refine w_iload rfl rfl rfl ?_
  refine w_if_eq (pc2 := 118) (pc3 := 20) rfl (by decide) rfl ⟨by decide, by decide⟩ (fun hc => absurd hc (by decide)) (fun _ => ?_)
  refine w_iload rfl rfl rfl ?_
  refine w_aload_n rfl rfl rfl ?_
  refine w_getR rfl rfl sh_249 rfl rfl ?_
  refine w_aload_n rfl rfl rfl ?_
  refine w_getI (z := sv S 249 46) rfl rfl sh_249 rfl rfl rfl ?_
  refine w_iald (z := sA S 277 (sv S 249 46)) rfl sh_277 (by omega) (by omega) (by decide) rfl rfl ?_
  refine w_ic_lt (pc2 := 118) (pc3 := 34) rfl (by decide) rfl ⟨by omega, by omega⟩ ⟨by omega, by omega⟩ (fun c31 => ?_) (fun c31 => ?_)
  · skip
    exact (r_args_c hi i0 i1 m0 m8 hk ho hcl hbt b0 hcm c1 hbw hp4 hlk hr r30 r00 hw0 hw1 hrf hd _).2.1 0 0 (sv S 249 29 - 1) _ rfl rfl rfl rfl rfl (by omega) (by omega) (by omega) (Nat.lt_succ_self _)
  · skip
    exact (r_args_c hi i0 i1 m0 m8 hk ho hcl hbt b0 hcm c1 hbw hp4 hlk hr r30 r00 hw0 hw1 hrf hd _).1 0 0 (sv S 249 29 - 1) ((-1)) ((p40 :: r1)) ([]) ([]) _ rfl rfl rfl rfl rfl (by omega) (by omega) (by exact fun _ => by unfold hd40; exact decide_eq_true hp4) (by rfl) (by omega) (by omega) (by rw [show sv S 249 29 - 1 + 1 = sv S 249 29 by omega]; exact hbw) (by rw [List.length_cons]; omega) (by omega) (by rw [List.length_nil]; simp <;> omega) (by rfl) (by omega) (Nat.lt_succ_self _)
