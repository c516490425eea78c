/-! The arguments of a call (class). -/
def e0 : ETok := (0, 0, fun _ => false)
def fa : List ETok → Int → List ETok → List (List ETok) → Option (List (List ETok) × ETok × List ETok)
  | [], _, _, _ => none
  | t :: ts, n, cur, as => if n = 0 ∧ t.1 = 41 then some (as ++ [cur], t, ts) else if n = 0 ∧ t.1 = 44 then fa ts 0 [] (as ++ [cur]) else fa ts (n + (if t.1 = 40 then 1 else if t.1 = 41 then -1 else 0)) (cur ++ [t]) as
def fbt (l r : List ETok) : Int := (l.length : Int) - 1 - r.length
def fcn (e : Mac) (l : List ETok) (as : List (List ETok)) (r : List ETok) : Int := if fbt l r = 0 ∧ (e.2.2.1.length : Int) = 0 then 0 else as.length
def fad (l : List ETok) : List (List ETok) × ETok × List ETok := (fa l 0 [] []).getD ([], e0, [])
def fargs (e : Mac) (l : List ETok) : Int × List (List ETok) × ETok × List ETok := match fa l 0 [] [] with
  | none => (8, [], e0, [])
  | some (as, c, r) => if ¬ fcn e l as r = e.2.2.1.length then (8, as, c, r) else if 40 < fbt l r then (7, as, c, r) else (0, as, c, r)
theorem fargs_eq {e : Mac} {r : List ETok} (h : fa r 0 [] [] = some (fad r)) : fargs e r = if ¬ fcn e r (fad r).1 (fad r).2.2 = e.2.2.1.length then (8, fad r) else if 40 < fbt r (fad r).2.2 then (7, fad r) else (0, fad r) := by
  unfold fargs
  rw [h]
theorem fa_end {t : ETok} {ts : List ETok} {n : Int} {cur : List ETok} {as : List (List ETok)} (h : n = 0 ∧ t.1 = 41) : fa (t :: ts) n cur as = some (as ++ [cur], t, ts) := by
  show (if n = 0 ∧ t.1 = 41 then _ else _) = _
  rw [if_pos h]
theorem fa_comma {t : ETok} {ts : List ETok} {n : Int} {cur : List ETok} {as : List (List ETok)} (h : ¬ (n = 0 ∧ t.1 = 41)) (h2 : n = 0 ∧ t.1 = 44) : fa (t :: ts) n cur as = fa ts 0 [] (as ++ [cur]) := by
  show (if n = 0 ∧ t.1 = 41 then _ else if n = 0 ∧ t.1 = 44 then _ else _) = _
  rw [if_neg h, if_pos h2]
theorem fa_in {t : ETok} {ts : List ETok} {n : Int} {cur : List ETok} {as : List (List ETok)} (h : ¬ (n = 0 ∧ t.1 = 41)) (h2 : ¬ (n = 0 ∧ t.1 = 44)) : fa (t :: ts) n cur as = fa ts (n + (if t.1 = 40 then 1 else if t.1 = 41 then -1 else 0)) (cur ++ [t]) as := by
  show (if n = 0 ∧ t.1 = 41 then _ else if n = 0 ∧ t.1 = 44 then _ else _) = _
  rw [if_neg h, if_neg h2]
/-- where arguments stand in the stack -/
def argr (nm : Nat → Int64) (X : Int → Int64) (O : Int → Int) (L H : Int → Int) (b p : Int) (as : List (List ETok)) : Prop := ∀ k : Nat, k < as.length → k < 3 → bw nm X O (H k) (as.getD k []) ∧ L k = H k - (as.getD k []).length ∧ b ≤ L k ∧ H k ≤ p
theorem argr_add {nm : Nat → Int64} {X : Int → Int64} {O : Int → Int} {L H L2 H2 : Int → Int} {b p : Int} {as : List (List ETok)} {a : List ETok} (h : argr nm X O L H b p as) (h1 : ∀ k : Int, ¬ k = as.length → L2 k = L k ∧ H2 k = H k) (h2 : (as.length : Int) < 3 → bw nm X O (H2 as.length) a ∧ L2 as.length = H2 as.length - a.length ∧ b ≤ L2 as.length ∧ H2 as.length ≤ p) : argr nm X O L2 H2 b p (as ++ [a]) := fun k hk h3 => by
  rw [List.length_append] at hk
  by_cases e : k = as.length
  · subst e
    have : (as ++ [a]).getD as.length [] = a := by
      rw [List.getD_eq_getElem?_getD, List.getElem?_append_right (by omega)]
      simp
    rw [this]
    exact h2 (by omega)
  · have : (as ++ [a]).getD k [] = as.getD k [] := by
      rw [List.getD_eq_getElem?_getD, List.getD_eq_getElem?_getD, List.getElem?_append_left (by simp at hk; omega)]
    rw [this, (h1 k (by omega)).1, (h1 k (by omega)).2]
    exact h k (by simp at hk; omega) h3
theorem c_fa_c {sc : x_S} {d : Nat} {S : w_S} {T : List Mac} {u q : Nat} {e : Mac} {base : Int} {r : List ETok} (hq : q < 31) (hu : u < 8) (hk : cmac S u e) (ho : mok e) (hc0 : sv S (43 + 5 * q) 4 = 0) (hp : sv S 33 2 = base + r.length + 2) (b0 : 0 ≤ base) (hP : sv S 33 2 ≤ 1360) (hb : bw (nmT T) (sL S 34) (sA S 35) (sv S 33 2 - 2) r) (hd : 1 ≤ d) : ∀ n : Nat, (∀ (g : Int) (h : Int) (i : Int) (ts : List ETok) (cur : List ETok) (as : List (List ETok)) (U : w_S) (lv : x_L) (l0 : lv 0 = some (.ref 3)) (l1 : lv 1 = some (.ref (6 + 3 * u))) (l2 : lv 2 = some (.ref (43 + 5 * q))) (l3 : lv 3 = some (.int (iZ base))) (l4 : lv 4 = some (.int (iZ (sv S 33 2 - 3)))) (l5 : lv 5 = some (.int (iZ g))) (l6 : lv 6 = some (.int (iZ h))) (l7 : lv 7 = some (.int (iZ i))) (hfr : fr (fun a => 43 + 5 * q ≤ a ∧ a ≤ 45 + 5 * q) S U) (hcl : sv U (43 + 5 * q) 5 = -1) (hct : sv U (43 + 5 * q) 4 = as.length) (i0 : base ≤ i) (i1 : i ≤ sv S 33 2 - 3) (hts : bw (nmT T) (sL S 34) (sA S 35) (i + 1) ts) (htl : (ts.length : Int) = i + 1 - base) (hcu : bw (nmT T) (sL S 34) (sA S 35) h cur) (hcl2 : (cur.length : Int) = h - (i + 1)) (h9 : h ≤ sv S 33 2 - 2) (n0 : 0 ≤ g) (n1 : g + i ≤ 1400) (al : (as.length : Int) + i ≤ 1400) (har : argr (nmT T) (sL S 34) (sA S 35) (sA U (44 + 5 * q)) (sA U (45 + 5 * q)) base (sv S 33 2 - 2) as) (he : fa ts g cur as = fa r 0 [] []) (hm : (i + 2).toNat < n), w_T sc d 25 42 lv [] U (fun v S2 => v = some (.int (iZ (fargs e r).1)) ∧ fr (fun a => 43 + 5 * q ≤ a ∧ a ≤ 45 + 5 * q) S S2 ∧ ((fargs e r).1 = 0 → sv S2 (43 + 5 * q) 5 = base + (fargs e r).2.2.2.length ∧ argr (nmT T) (sL S 34) (sA S 35) (sA S2 (44 + 5 * q)) (sA S2 (45 + 5 * q)) base (sv S 33 2 - 2) (fargs e r).2.1 ∧ bw (nmT T) (sL S 34) (sA S 35) (base + (fargs e r).2.2.2.length + 1) ((fargs e r).2.2.1 :: (fargs e r).2.2.2)))) ∧ (∀  (U : w_S) (lv : x_L) (l0 : lv 0 = some (.ref 3)) (l1 : lv 1 = some (.ref (6 + 3 * u))) (l2 : lv 2 = some (.ref (43 + 5 * q))) (l4 : lv 4 = some (.int (iZ (sv S 33 2 - 3)))) (hfr : fr (fun a => 43 + 5 * q ≤ a ∧ a ≤ 45 + 5 * q) S U) (hcc : ((sv U (43 + 5 * q) 5 = -1 ∧ fa r 0 [] [] = none) ∨ (sv U (43 + 5 * q) 5 = base + (fad r).2.2.length ∧ fa r 0 [] [] = some (fad r) ∧ sv U (43 + 5 * q) 4 = (fad r).1.length ∧ argr (nmT T) (sL S 34) (sA S 35) (sA U (44 + 5 * q)) (sA U (45 + 5 * q)) base (sv S 33 2 - 2) (fad r).1 ∧ bw (nmT T) (sL S 34) (sA S 35) (base + (fad r).2.2.length + 1) ((fad r).2.1 :: (fad r).2.2) ∧ ((fad r).1.length : Int) ≤ 1500 ∧ ((fad r).2.2.length : Int) ≤ 1360))) (hm : 0 < n), w_T sc d 25 161 lv [] U (fun v S2 => v = some (.int (iZ (fargs e r).1)) ∧ fr (fun a => 43 + 5 * q ≤ a ∧ a ≤ 45 + 5 * q) S S2 ∧ ((fargs e r).1 = 0 → sv S2 (43 + 5 * q) 5 = base + (fargs e r).2.2.2.length ∧ argr (nmT T) (sL S 34) (sA S 35) (sA S2 (44 + 5 * q)) (sA S2 (45 + 5 * q)) base (sv S 33 2 - 2) (fargs e r).2.1 ∧ bw (nmT T) (sL S 34) (sA S 35) (base + (fargs e r).2.2.2.length + 1) ((fargs e r).2.2.1 :: (fargs e r).2.2.2)))) := by
  intro n
  induction n with
  | zero => exact ⟨fun g h i ts cur as U lv l0 l1 l2 l3 l4 l5 l6 l7 hfr hcl hct i0 i1 hts htl hcu hcl2 h9 n0 n1 al har he hm => absurd hm (Nat.not_lt_zero _), fun U lv l0 l1 l2 l4 hfr hcc hm => absurd hm (Nat.not_lt_zero _)⟩
  | succ n ih =>
    refine ⟨?_, ?_⟩
    · skip
      intro g h i ts cur as U lv l0 l1 l2 l3 l4 l5 l6 l7 hfr hcl hct i0 i1 hts htl hcu hcl2 h9 n0 n1 al har he hm
      have eP : sv U 33 2 = sv S 33 2 := fr_gv hfr (by omega) 2
      have ep2 : sv U (6 + 3 * u) 2 = sv S (6 + 3 * u) 2 := fr_gv hfr (by omega) 2
      have hpl := hk.2.2.1
      have hp3 := ho.1
      refine w_aload_n rfl l0 rfl ?_
      cases ts with
      | nil => exact absurd htl (by simp; omega)
      | cons t ts2 =>
      have hx : sL U 34 i = t.1 := by rw [fr_gL hfr (by omega), show i = i + 1 - 1 by omega]; exact hts.1
      refine w_getR rfl rfl sh_3 rfl rfl ?_
      refine w_getR rfl rfl sh_33 rfl rfl ?_
      refine w_iload rfl l7 rfl ?_
      refine w_lald (z := sL U 34 i) rfl sh_34 (by omega) (by omega) (by decide) rfl rfl ?_
      refine w_lstore rfl (by decide) rfl ?_
      refine w_iload rfl l5 rfl ?_
      refine w_if_ne (pc2 := 72) (pc3 := 59) rfl (by decide) rfl ⟨by omega, by omega⟩ (fun c56 => ?_) (fun c56 => ?_)
      · skip
        refine w_iconst rfl rfl ?_
        refine w_istore rfl (by decide) rfl ?_
        refine w_iload rfl rfl rfl ?_
        refine w_if_ne (pc2 := 94) (pc3 := 80) rfl (by decide) rfl ⟨by decide, by decide⟩ (fun hc => absurd hc (by decide)) (fun _ => ?_)
        refine w_iload rfl l5 rfl ?_
        refine w_if_ne (pc2 := 108) (pc3 := 85) rfl (by decide) rfl ⟨by omega, by omega⟩ (fun c82 => ?_) (fun c82 => ?_)
        · skip
          refine w_aload_n rfl l2 rfl ?_
          refine w_iload rfl rfl rfl ?_
          refine w_if_eq (pc2 := 119) (pc3 := 114) rfl (by decide) rfl ⟨by decide, by decide⟩ (fun _ => ?_) (fun hc => absurd hc (by decide))
          refine w_iconst rfl rfl ?_
          refine w_putf rfl rfl (sh_arg hq) rfl rfl (by decide) rfl ?_
          refine w_iload rfl l5 rfl ?_
          refine w_lload rfl rfl rfl ?_
          refine w_ldc2 (v := 40) rfl rfl rfl ?_
          refine w_l_ne (pc2 := 138) (pc3 := 134) rfl rfl (by decide) rfl (fun c131 => ?_) (fun c131 => ?_)
          · skip
            refine w_lload rfl rfl rfl ?_
            refine w_ldc2 (v := 41) rfl rfl rfl ?_
            refine w_l_ne (pc2 := 151) (pc3 := 147) rfl rfl (by decide) rfl (fun c144 => ?_) (fun c144 => ?_)
            · skip
              refine w_iconst rfl rfl ?_
              refine w_iadd rfl rfl ?_
              refine w_istore rfl (by decide) rfl ?_
              refine w_iinc rfl (congrArg x_k2 l7) (by decide) rfl ?_
              refine w_goto (pc2 := 29) rfl (by decide) ?_
              refine w_iload rfl rfl rfl ?_
              refine w_iload_n rfl l3 rfl ?_
              refine w_ic_lt (pc2 := 161) (pc3 := 35) rfl (by decide) rfl ⟨by omega, by omega⟩ ⟨by omega, by omega⟩ (fun c32 => ?_) (fun c32 => ?_)
              · skip
                exact ih.2 _ _ (by exact l0) (by exact l1) (by exact l2) (by exact (congrArg x_k2 l4)) (by exact (fr_v hfr (by omega))) (by left; refine ⟨by simp (disch := omega) only [rv_self, rv_ne, rl_self, rl_ne, rA_self, rA_ne, rL_self, rL_ne, rR_self, rR_ne, xvl, xvA, xvL, xvR, xlv, xlA, xlL, xlR, xAv, xAl, xAL, xAR, xLv, xLl, xLA, xLR, xRv, xRl, xRA, xRL], ?_⟩; have hnil : ts2 = [] := List.eq_nil_of_length_eq_zero (by rw [List.length_cons] at htl; omega); first | (exact absurd (c91.symm.trans c131) (by decide)) | (exact absurd (c91.symm.trans c144) (by decide)) | (exact absurd c56 c82) | (exact absurd c82 c56) | (rw [fa_in (by (first | exact fun z => c56 z.1 | exact fun z => c65 (hx.trans z.2) | exact fun z => absurd ((hx.trans z.2).symm.trans c91) (by decide))) (by (first | exact fun z => c56 z.1 | exact fun z => c82 z.1 | exact fun z => c91 (hx.trans z.2))), hnil] at he; rw [← he]; rfl) | (rw [fa_comma (by (first | exact fun z => c56 z.1 | exact fun z => c65 (hx.trans z.2) | exact fun z => absurd ((hx.trans z.2).symm.trans c91) (by decide))) ⟨by omega, hx.symm.trans c91⟩, hnil] at he; rw [← he]; rfl)) (by omega)
              · skip
                refine w_aload_n rfl l2 rfl ?_
                refine w_getI (z := (-1)) rfl rfl (sh_arg hq) rfl (rv_self _ _ _ _) rfl ?_
                refine w_if_ge (pc2 := 161) (pc3 := 42) rfl (by decide) rfl ⟨by decide, by decide⟩ (fun hc => absurd hc (by decide)) (fun _ => ?_)
                exact ih.1 (g + 0) h (i + (-1)) ts2 ((cur ++ [t])) as _ _ (by exact l0) (by exact l1) (by exact l2) (by exact l3) (by exact (congrArg x_k2 l4)) (by exact rfl) (by exact (congrArg x_k2 l6)) (by exact rfl) (by exact (fr_v hfr (by omega))) (by simp (disch := omega) only [rv_self, rv_ne, rl_self, rl_ne, rA_self, rA_ne, rL_self, rL_ne, rR_self, rR_ne, xvl, xvA, xvL, xvR, xlv, xlA, xlL, xlR, xAv, xAl, xAL, xAR, xLv, xLl, xLA, xLR, xRv, xRl, xRA, xRL]) (by simp (disch := omega) only [rv_self, rv_ne, rl_self, rl_ne, rA_self, rA_ne, rL_self, rL_ne, rR_self, rR_ne, xvl, xvA, xvL, xvR, xlv, xlA, xlL, xlR, xAv, xAl, xAL, xAR, xLv, xLl, xLA, xLR, xRv, xRl, xRA, xRL]; exact hct) (by omega) (by omega) (by rw [show i + -1 + 1 = i + 1 - 1 by omega]; exact hts.2.2) (by rw [List.length_cons] at htl; omega) (by exact (bw_app _ _ _).mpr ⟨hcu, by rw [show h - (cur.length : Int) = i + 1 by omega]; exact ⟨hts.1, hts.2.1, trivial⟩⟩) (by rw [List.length_append]; simp; omega) (by omega) (by first | omega | (exact absurd c144 c65) | (exact absurd (c144.symm.trans c91) (by decide))) (by omega) (by omega) (by simp (disch := omega) only [rv_self, rv_ne, rl_self, rl_ne, rA_self, rA_ne, rL_self, rL_ne, rR_self, rR_ne, xvl, xvA, xvL, xvR, xlv, xlA, xlL, xlR, xAv, xAl, xAL, xAR, xLv, xLl, xLA, xLR, xRv, xRl, xRA, xRL]; exact har) (by first | (exact absurd (c91.symm.trans c131) (by decide)) | (exact absurd (c91.symm.trans c144) (by decide)) | (exact absurd c56 c82) | (exact absurd c82 c56) | (rw [fa_in (by (first | exact fun z => c56 z.1 | exact fun z => c65 (hx.trans z.2) | exact fun z => absurd ((hx.trans z.2).symm.trans c91) (by decide))) (by (first | exact fun z => c56 z.1 | exact fun z => c82 z.1 | exact fun z => c91 (hx.trans z.2)))] at he; (first | rw [if_pos (hx.symm.trans c131)] at he | (rw [if_neg (fun z => c131 (hx.trans z))] at he; first | rw [if_pos (hx.symm.trans c144)] at he | rw [if_neg (fun z => c144 (hx.trans z))] at he)); exact he)) (by omega)
            · skip
              refine w_iconst rfl rfl ?_
              refine w_goto (pc2 := 152) rfl (by decide) ?_
              refine w_iadd rfl rfl ?_
              refine w_istore rfl (by decide) rfl ?_
              refine w_iinc rfl (congrArg x_k2 l7) (by decide) rfl ?_
              refine w_goto (pc2 := 29) rfl (by decide) ?_
              refine w_iload rfl rfl rfl ?_
              refine w_iload_n rfl l3 rfl ?_
              refine w_ic_lt (pc2 := 161) (pc3 := 35) rfl (by decide) rfl ⟨by omega, by omega⟩ ⟨by omega, by omega⟩ (fun c32 => ?_) (fun c32 => ?_)
              · skip
                exact ih.2 _ _ (by exact l0) (by exact l1) (by exact l2) (by exact (congrArg x_k2 l4)) (by exact (fr_v hfr (by omega))) (by left; refine ⟨by simp (disch := omega) only [rv_self, rv_ne, rl_self, rl_ne, rA_self, rA_ne, rL_self, rL_ne, rR_self, rR_ne, xvl, xvA, xvL, xvR, xlv, xlA, xlL, xlR, xAv, xAl, xAL, xAR, xLv, xLl, xLA, xLR, xRv, xRl, xRA, xRL], ?_⟩; have hnil : ts2 = [] := List.eq_nil_of_length_eq_zero (by rw [List.length_cons] at htl; omega); first | (exact absurd (c91.symm.trans c131) (by decide)) | (exact absurd (c91.symm.trans c144) (by decide)) | (exact absurd c56 c82) | (exact absurd c82 c56) | (rw [fa_in (by (first | exact fun z => c56 z.1 | exact fun z => c65 (hx.trans z.2) | exact fun z => absurd ((hx.trans z.2).symm.trans c91) (by decide))) (by (first | exact fun z => c56 z.1 | exact fun z => c82 z.1 | exact fun z => c91 (hx.trans z.2))), hnil] at he; rw [← he]; rfl) | (rw [fa_comma (by (first | exact fun z => c56 z.1 | exact fun z => c65 (hx.trans z.2) | exact fun z => absurd ((hx.trans z.2).symm.trans c91) (by decide))) ⟨by omega, hx.symm.trans c91⟩, hnil] at he; rw [← he]; rfl)) (by omega)
              · skip
                refine w_aload_n rfl l2 rfl ?_
                refine w_getI (z := (-1)) rfl rfl (sh_arg hq) rfl (rv_self _ _ _ _) rfl ?_
                refine w_if_ge (pc2 := 161) (pc3 := 42) rfl (by decide) rfl ⟨by decide, by decide⟩ (fun hc => absurd hc (by decide)) (fun _ => ?_)
                exact ih.1 (g + ((-1))) h (i + (-1)) ts2 ((cur ++ [t])) as _ _ (by exact l0) (by exact l1) (by exact l2) (by exact l3) (by exact (congrArg x_k2 l4)) (by exact rfl) (by exact (congrArg x_k2 l6)) (by exact rfl) (by exact (fr_v hfr (by omega))) (by simp (disch := omega) only [rv_self, rv_ne, rl_self, rl_ne, rA_self, rA_ne, rL_self, rL_ne, rR_self, rR_ne, xvl, xvA, xvL, xvR, xlv, xlA, xlL, xlR, xAv, xAl, xAL, xAR, xLv, xLl, xLA, xLR, xRv, xRl, xRA, xRL]) (by simp (disch := omega) only [rv_self, rv_ne, rl_self, rl_ne, rA_self, rA_ne, rL_self, rL_ne, rR_self, rR_ne, xvl, xvA, xvL, xvR, xlv, xlA, xlL, xlR, xAv, xAl, xAL, xAR, xLv, xLl, xLA, xLR, xRv, xRl, xRA, xRL]; exact hct) (by omega) (by omega) (by rw [show i + -1 + 1 = i + 1 - 1 by omega]; exact hts.2.2) (by rw [List.length_cons] at htl; omega) (by exact (bw_app _ _ _).mpr ⟨hcu, by rw [show h - (cur.length : Int) = i + 1 by omega]; exact ⟨hts.1, hts.2.1, trivial⟩⟩) (by rw [List.length_append]; simp; omega) (by omega) (by first | omega | (exact absurd c144 c65) | (exact absurd (c144.symm.trans c91) (by decide))) (by omega) (by omega) (by simp (disch := omega) only [rv_self, rv_ne, rl_self, rl_ne, rA_self, rA_ne, rL_self, rL_ne, rR_self, rR_ne, xvl, xvA, xvL, xvR, xlv, xlA, xlL, xlR, xAv, xAl, xAL, xAR, xLv, xLl, xLA, xLR, xRv, xRl, xRA, xRL]; exact har) (by first | (exact absurd (c91.symm.trans c131) (by decide)) | (exact absurd (c91.symm.trans c144) (by decide)) | (exact absurd c56 c82) | (exact absurd c82 c56) | (rw [fa_in (by (first | exact fun z => c56 z.1 | exact fun z => c65 (hx.trans z.2) | exact fun z => absurd ((hx.trans z.2).symm.trans c91) (by decide))) (by (first | exact fun z => c56 z.1 | exact fun z => c82 z.1 | exact fun z => c91 (hx.trans z.2)))] at he; (first | rw [if_pos (hx.symm.trans c131)] at he | (rw [if_neg (fun z => c131 (hx.trans z))] at he; first | rw [if_pos (hx.symm.trans c144)] at he | rw [if_neg (fun z => c144 (hx.trans z))] at he)); exact he)) (by omega)
          · skip
            refine w_iconst rfl rfl ?_
            refine w_goto (pc2 := 152) rfl (by decide) ?_
            refine w_iadd rfl rfl ?_
            refine w_istore rfl (by decide) rfl ?_
            refine w_iinc rfl (congrArg x_k2 l7) (by decide) rfl ?_
            refine w_goto (pc2 := 29) rfl (by decide) ?_
            refine w_iload rfl rfl rfl ?_
            refine w_iload_n rfl l3 rfl ?_
            refine w_ic_lt (pc2 := 161) (pc3 := 35) rfl (by decide) rfl ⟨by omega, by omega⟩ ⟨by omega, by omega⟩ (fun c32 => ?_) (fun c32 => ?_)
            · skip
              exact ih.2 _ _ (by exact l0) (by exact l1) (by exact l2) (by exact (congrArg x_k2 l4)) (by exact (fr_v hfr (by omega))) (by left; refine ⟨by simp (disch := omega) only [rv_self, rv_ne, rl_self, rl_ne, rA_self, rA_ne, rL_self, rL_ne, rR_self, rR_ne, xvl, xvA, xvL, xvR, xlv, xlA, xlL, xlR, xAv, xAl, xAL, xAR, xLv, xLl, xLA, xLR, xRv, xRl, xRA, xRL], ?_⟩; have hnil : ts2 = [] := List.eq_nil_of_length_eq_zero (by rw [List.length_cons] at htl; omega); first | (exact absurd (c91.symm.trans c131) (by decide)) | (exact absurd (c91.symm.trans c144) (by decide)) | (exact absurd c56 c82) | (exact absurd c82 c56) | (rw [fa_in (by (first | exact fun z => c56 z.1 | exact fun z => c65 (hx.trans z.2) | exact fun z => absurd ((hx.trans z.2).symm.trans c91) (by decide))) (by (first | exact fun z => c56 z.1 | exact fun z => c82 z.1 | exact fun z => c91 (hx.trans z.2))), hnil] at he; rw [← he]; rfl) | (rw [fa_comma (by (first | exact fun z => c56 z.1 | exact fun z => c65 (hx.trans z.2) | exact fun z => absurd ((hx.trans z.2).symm.trans c91) (by decide))) ⟨by omega, hx.symm.trans c91⟩, hnil] at he; rw [← he]; rfl)) (by omega)
            · skip
              refine w_aload_n rfl l2 rfl ?_
              refine w_getI (z := (-1)) rfl rfl (sh_arg hq) rfl (rv_self _ _ _ _) rfl ?_
              refine w_if_ge (pc2 := 161) (pc3 := 42) rfl (by decide) rfl ⟨by decide, by decide⟩ (fun hc => absurd hc (by decide)) (fun _ => ?_)
              exact ih.1 (g + 1) h (i + (-1)) ts2 ((cur ++ [t])) as _ _ (by exact l0) (by exact l1) (by exact l2) (by exact l3) (by exact (congrArg x_k2 l4)) (by exact rfl) (by exact (congrArg x_k2 l6)) (by exact rfl) (by exact (fr_v hfr (by omega))) (by simp (disch := omega) only [rv_self, rv_ne, rl_self, rl_ne, rA_self, rA_ne, rL_self, rL_ne, rR_self, rR_ne, xvl, xvA, xvL, xvR, xlv, xlA, xlL, xlR, xAv, xAl, xAL, xAR, xLv, xLl, xLA, xLR, xRv, xRl, xRA, xRL]) (by simp (disch := omega) only [rv_self, rv_ne, rl_self, rl_ne, rA_self, rA_ne, rL_self, rL_ne, rR_self, rR_ne, xvl, xvA, xvL, xvR, xlv, xlA, xlL, xlR, xAv, xAl, xAL, xAR, xLv, xLl, xLA, xLR, xRv, xRl, xRA, xRL]; exact hct) (by omega) (by omega) (by rw [show i + -1 + 1 = i + 1 - 1 by omega]; exact hts.2.2) (by rw [List.length_cons] at htl; omega) (by exact (bw_app _ _ _).mpr ⟨hcu, by rw [show h - (cur.length : Int) = i + 1 by omega]; exact ⟨hts.1, hts.2.1, trivial⟩⟩) (by rw [List.length_append]; simp; omega) (by omega) (by first | omega | (exact absurd c144 c65) | (exact absurd (c144.symm.trans c91) (by decide))) (by omega) (by omega) (by simp (disch := omega) only [rv_self, rv_ne, rl_self, rl_ne, rA_self, rA_ne, rL_self, rL_ne, rR_self, rR_ne, xvl, xvA, xvL, xvR, xlv, xlA, xlL, xlR, xAv, xAl, xAL, xAR, xLv, xLl, xLA, xLR, xRv, xRl, xRA, xRL]; exact har) (by first | (exact absurd (c91.symm.trans c131) (by decide)) | (exact absurd (c91.symm.trans c144) (by decide)) | (exact absurd c56 c82) | (exact absurd c82 c56) | (rw [fa_in (by (first | exact fun z => c56 z.1 | exact fun z => c65 (hx.trans z.2) | exact fun z => absurd ((hx.trans z.2).symm.trans c91) (by decide))) (by (first | exact fun z => c56 z.1 | exact fun z => c82 z.1 | exact fun z => c91 (hx.trans z.2)))] at he; (first | rw [if_pos (hx.symm.trans c131)] at he | (rw [if_neg (fun z => c131 (hx.trans z))] at he; first | rw [if_pos (hx.symm.trans c144)] at he | rw [if_neg (fun z => c144 (hx.trans z))] at he)); exact he)) (by omega)
        · skip
          refine w_lload rfl rfl rfl ?_
          refine w_ldc2 (v := 44) rfl rfl rfl ?_
          refine w_l_ne (pc2 := 108) (pc3 := 94) rfl rfl (by decide) rfl (fun c91 => ?_) (fun c91 => ?_)
          · skip
            refine w_aload_n rfl l2 rfl ?_
            refine w_iload rfl rfl rfl ?_
            refine w_if_eq (pc2 := 119) (pc3 := 114) rfl (by decide) rfl ⟨by decide, by decide⟩ (fun _ => ?_) (fun hc => absurd hc (by decide))
            refine w_iconst rfl rfl ?_
            refine w_putf rfl rfl (sh_arg hq) rfl rfl (by decide) rfl ?_
            refine w_iload rfl l5 rfl ?_
            refine w_lload rfl rfl rfl ?_
            refine w_ldc2 (v := 40) rfl rfl rfl ?_
            refine w_l_ne (pc2 := 138) (pc3 := 134) rfl rfl (by decide) rfl (fun c131 => ?_) (fun c131 => ?_)
            · skip
              refine w_lload rfl rfl rfl ?_
              refine w_ldc2 (v := 41) rfl rfl rfl ?_
              refine w_l_ne (pc2 := 151) (pc3 := 147) rfl rfl (by decide) rfl (fun c144 => ?_) (fun c144 => ?_)
              · skip
                refine w_iconst rfl rfl ?_
                refine w_iadd rfl rfl ?_
                refine w_istore rfl (by decide) rfl ?_
                refine w_iinc rfl (congrArg x_k2 l7) (by decide) rfl ?_
                refine w_goto (pc2 := 29) rfl (by decide) ?_
                refine w_iload rfl rfl rfl ?_
                refine w_iload_n rfl l3 rfl ?_
                refine w_ic_lt (pc2 := 161) (pc3 := 35) rfl (by decide) rfl ⟨by omega, by omega⟩ ⟨by omega, by omega⟩ (fun c32 => ?_) (fun c32 => ?_)
                · skip
                  exact ih.2 _ _ (by exact l0) (by exact l1) (by exact l2) (by exact (congrArg x_k2 l4)) (by exact (fr_v hfr (by omega))) (by left; refine ⟨by simp (disch := omega) only [rv_self, rv_ne, rl_self, rl_ne, rA_self, rA_ne, rL_self, rL_ne, rR_self, rR_ne, xvl, xvA, xvL, xvR, xlv, xlA, xlL, xlR, xAv, xAl, xAL, xAR, xLv, xLl, xLA, xLR, xRv, xRl, xRA, xRL], ?_⟩; have hnil : ts2 = [] := List.eq_nil_of_length_eq_zero (by rw [List.length_cons] at htl; omega); first | (exact absurd (c91.symm.trans c131) (by decide)) | (exact absurd (c91.symm.trans c144) (by decide)) | (exact absurd c56 c82) | (exact absurd c82 c56) | (rw [fa_in (by (first | exact fun z => c56 z.1 | exact fun z => c65 (hx.trans z.2) | exact fun z => absurd ((hx.trans z.2).symm.trans c91) (by decide))) (by (first | exact fun z => c56 z.1 | exact fun z => c82 z.1 | exact fun z => c91 (hx.trans z.2))), hnil] at he; rw [← he]; rfl) | (rw [fa_comma (by (first | exact fun z => c56 z.1 | exact fun z => c65 (hx.trans z.2) | exact fun z => absurd ((hx.trans z.2).symm.trans c91) (by decide))) ⟨by omega, hx.symm.trans c91⟩, hnil] at he; rw [← he]; rfl)) (by omega)
                · skip
                  refine w_aload_n rfl l2 rfl ?_
                  refine w_getI (z := (-1)) rfl rfl (sh_arg hq) rfl (rv_self _ _ _ _) rfl ?_
                  refine w_if_ge (pc2 := 161) (pc3 := 42) rfl (by decide) rfl ⟨by decide, by decide⟩ (fun hc => absurd hc (by decide)) (fun _ => ?_)
                  exact ih.1 (g + 0) h (i + (-1)) ts2 ((cur ++ [t])) as _ _ (by exact l0) (by exact l1) (by exact l2) (by exact l3) (by exact (congrArg x_k2 l4)) (by exact rfl) (by exact (congrArg x_k2 l6)) (by exact rfl) (by exact (fr_v hfr (by omega))) (by simp (disch := omega) only [rv_self, rv_ne, rl_self, rl_ne, rA_self, rA_ne, rL_self, rL_ne, rR_self, rR_ne, xvl, xvA, xvL, xvR, xlv, xlA, xlL, xlR, xAv, xAl, xAL, xAR, xLv, xLl, xLA, xLR, xRv, xRl, xRA, xRL]) (by simp (disch := omega) only [rv_self, rv_ne, rl_self, rl_ne, rA_self, rA_ne, rL_self, rL_ne, rR_self, rR_ne, xvl, xvA, xvL, xvR, xlv, xlA, xlL, xlR, xAv, xAl, xAL, xAR, xLv, xLl, xLA, xLR, xRv, xRl, xRA, xRL]; exact hct) (by omega) (by omega) (by rw [show i + -1 + 1 = i + 1 - 1 by omega]; exact hts.2.2) (by rw [List.length_cons] at htl; omega) (by exact (bw_app _ _ _).mpr ⟨hcu, by rw [show h - (cur.length : Int) = i + 1 by omega]; exact ⟨hts.1, hts.2.1, trivial⟩⟩) (by rw [List.length_append]; simp; omega) (by omega) (by first | omega | (exact absurd c144 c65) | (exact absurd (c144.symm.trans c91) (by decide))) (by omega) (by omega) (by simp (disch := omega) only [rv_self, rv_ne, rl_self, rl_ne, rA_self, rA_ne, rL_self, rL_ne, rR_self, rR_ne, xvl, xvA, xvL, xvR, xlv, xlA, xlL, xlR, xAv, xAl, xAL, xAR, xLv, xLl, xLA, xLR, xRv, xRl, xRA, xRL]; exact har) (by first | (exact absurd (c91.symm.trans c131) (by decide)) | (exact absurd (c91.symm.trans c144) (by decide)) | (exact absurd c56 c82) | (exact absurd c82 c56) | (rw [fa_in (by (first | exact fun z => c56 z.1 | exact fun z => c65 (hx.trans z.2) | exact fun z => absurd ((hx.trans z.2).symm.trans c91) (by decide))) (by (first | exact fun z => c56 z.1 | exact fun z => c82 z.1 | exact fun z => c91 (hx.trans z.2)))] at he; (first | rw [if_pos (hx.symm.trans c131)] at he | (rw [if_neg (fun z => c131 (hx.trans z))] at he; first | rw [if_pos (hx.symm.trans c144)] at he | rw [if_neg (fun z => c144 (hx.trans z))] at he)); exact he)) (by omega)
              · skip
                refine w_iconst rfl rfl ?_
                refine w_goto (pc2 := 152) rfl (by decide) ?_
                refine w_iadd rfl rfl ?_
                refine w_istore rfl (by decide) rfl ?_
                refine w_iinc rfl (congrArg x_k2 l7) (by decide) rfl ?_
                refine w_goto (pc2 := 29) rfl (by decide) ?_
                refine w_iload rfl rfl rfl ?_
                refine w_iload_n rfl l3 rfl ?_
                refine w_ic_lt (pc2 := 161) (pc3 := 35) rfl (by decide) rfl ⟨by omega, by omega⟩ ⟨by omega, by omega⟩ (fun c32 => ?_) (fun c32 => ?_)
                · skip
                  exact ih.2 _ _ (by exact l0) (by exact l1) (by exact l2) (by exact (congrArg x_k2 l4)) (by exact (fr_v hfr (by omega))) (by left; refine ⟨by simp (disch := omega) only [rv_self, rv_ne, rl_self, rl_ne, rA_self, rA_ne, rL_self, rL_ne, rR_self, rR_ne, xvl, xvA, xvL, xvR, xlv, xlA, xlL, xlR, xAv, xAl, xAL, xAR, xLv, xLl, xLA, xLR, xRv, xRl, xRA, xRL], ?_⟩; have hnil : ts2 = [] := List.eq_nil_of_length_eq_zero (by rw [List.length_cons] at htl; omega); first | (exact absurd (c91.symm.trans c131) (by decide)) | (exact absurd (c91.symm.trans c144) (by decide)) | (exact absurd c56 c82) | (exact absurd c82 c56) | (rw [fa_in (by (first | exact fun z => c56 z.1 | exact fun z => c65 (hx.trans z.2) | exact fun z => absurd ((hx.trans z.2).symm.trans c91) (by decide))) (by (first | exact fun z => c56 z.1 | exact fun z => c82 z.1 | exact fun z => c91 (hx.trans z.2))), hnil] at he; rw [← he]; rfl) | (rw [fa_comma (by (first | exact fun z => c56 z.1 | exact fun z => c65 (hx.trans z.2) | exact fun z => absurd ((hx.trans z.2).symm.trans c91) (by decide))) ⟨by omega, hx.symm.trans c91⟩, hnil] at he; rw [← he]; rfl)) (by omega)
                · skip
                  refine w_aload_n rfl l2 rfl ?_
                  refine w_getI (z := (-1)) rfl rfl (sh_arg hq) rfl (rv_self _ _ _ _) rfl ?_
                  refine w_if_ge (pc2 := 161) (pc3 := 42) rfl (by decide) rfl ⟨by decide, by decide⟩ (fun hc => absurd hc (by decide)) (fun _ => ?_)
                  exact ih.1 (g + ((-1))) h (i + (-1)) ts2 ((cur ++ [t])) as _ _ (by exact l0) (by exact l1) (by exact l2) (by exact l3) (by exact (congrArg x_k2 l4)) (by exact rfl) (by exact (congrArg x_k2 l6)) (by exact rfl) (by exact (fr_v hfr (by omega))) (by simp (disch := omega) only [rv_self, rv_ne, rl_self, rl_ne, rA_self, rA_ne, rL_self, rL_ne, rR_self, rR_ne, xvl, xvA, xvL, xvR, xlv, xlA, xlL, xlR, xAv, xAl, xAL, xAR, xLv, xLl, xLA, xLR, xRv, xRl, xRA, xRL]) (by simp (disch := omega) only [rv_self, rv_ne, rl_self, rl_ne, rA_self, rA_ne, rL_self, rL_ne, rR_self, rR_ne, xvl, xvA, xvL, xvR, xlv, xlA, xlL, xlR, xAv, xAl, xAL, xAR, xLv, xLl, xLA, xLR, xRv, xRl, xRA, xRL]; exact hct) (by omega) (by omega) (by rw [show i + -1 + 1 = i + 1 - 1 by omega]; exact hts.2.2) (by rw [List.length_cons] at htl; omega) (by exact (bw_app _ _ _).mpr ⟨hcu, by rw [show h - (cur.length : Int) = i + 1 by omega]; exact ⟨hts.1, hts.2.1, trivial⟩⟩) (by rw [List.length_append]; simp; omega) (by omega) (by first | omega | (exact absurd c144 c65) | (exact absurd (c144.symm.trans c91) (by decide))) (by omega) (by omega) (by simp (disch := omega) only [rv_self, rv_ne, rl_self, rl_ne, rA_self, rA_ne, rL_self, rL_ne, rR_self, rR_ne, xvl, xvA, xvL, xvR, xlv, xlA, xlL, xlR, xAv, xAl, xAL, xAR, xLv, xLl, xLA, xLR, xRv, xRl, xRA, xRL]; exact har) (by first | (exact absurd (c91.symm.trans c131) (by decide)) | (exact absurd (c91.symm.trans c144) (by decide)) | (exact absurd c56 c82) | (exact absurd c82 c56) | (rw [fa_in (by (first | exact fun z => c56 z.1 | exact fun z => c65 (hx.trans z.2) | exact fun z => absurd ((hx.trans z.2).symm.trans c91) (by decide))) (by (first | exact fun z => c56 z.1 | exact fun z => c82 z.1 | exact fun z => c91 (hx.trans z.2)))] at he; (first | rw [if_pos (hx.symm.trans c131)] at he | (rw [if_neg (fun z => c131 (hx.trans z))] at he; first | rw [if_pos (hx.symm.trans c144)] at he | rw [if_neg (fun z => c144 (hx.trans z))] at he)); exact he)) (by omega)
            · skip
              refine w_iconst rfl rfl ?_
              refine w_goto (pc2 := 152) rfl (by decide) ?_
              refine w_iadd rfl rfl ?_
              refine w_istore rfl (by decide) rfl ?_
              refine w_iinc rfl (congrArg x_k2 l7) (by decide) rfl ?_
              refine w_goto (pc2 := 29) rfl (by decide) ?_
              refine w_iload rfl rfl rfl ?_
              refine w_iload_n rfl l3 rfl ?_
              refine w_ic_lt (pc2 := 161) (pc3 := 35) rfl (by decide) rfl ⟨by omega, by omega⟩ ⟨by omega, by omega⟩ (fun c32 => ?_) (fun c32 => ?_)
              · skip
                exact ih.2 _ _ (by exact l0) (by exact l1) (by exact l2) (by exact (congrArg x_k2 l4)) (by exact (fr_v hfr (by omega))) (by left; refine ⟨by simp (disch := omega) only [rv_self, rv_ne, rl_self, rl_ne, rA_self, rA_ne, rL_self, rL_ne, rR_self, rR_ne, xvl, xvA, xvL, xvR, xlv, xlA, xlL, xlR, xAv, xAl, xAL, xAR, xLv, xLl, xLA, xLR, xRv, xRl, xRA, xRL], ?_⟩; have hnil : ts2 = [] := List.eq_nil_of_length_eq_zero (by rw [List.length_cons] at htl; omega); first | (exact absurd (c91.symm.trans c131) (by decide)) | (exact absurd (c91.symm.trans c144) (by decide)) | (exact absurd c56 c82) | (exact absurd c82 c56) | (rw [fa_in (by (first | exact fun z => c56 z.1 | exact fun z => c65 (hx.trans z.2) | exact fun z => absurd ((hx.trans z.2).symm.trans c91) (by decide))) (by (first | exact fun z => c56 z.1 | exact fun z => c82 z.1 | exact fun z => c91 (hx.trans z.2))), hnil] at he; rw [← he]; rfl) | (rw [fa_comma (by (first | exact fun z => c56 z.1 | exact fun z => c65 (hx.trans z.2) | exact fun z => absurd ((hx.trans z.2).symm.trans c91) (by decide))) ⟨by omega, hx.symm.trans c91⟩, hnil] at he; rw [← he]; rfl)) (by omega)
              · skip
                refine w_aload_n rfl l2 rfl ?_
                refine w_getI (z := (-1)) rfl rfl (sh_arg hq) rfl (rv_self _ _ _ _) rfl ?_
                refine w_if_ge (pc2 := 161) (pc3 := 42) rfl (by decide) rfl ⟨by decide, by decide⟩ (fun hc => absurd hc (by decide)) (fun _ => ?_)
                exact ih.1 (g + 1) h (i + (-1)) ts2 ((cur ++ [t])) as _ _ (by exact l0) (by exact l1) (by exact l2) (by exact l3) (by exact (congrArg x_k2 l4)) (by exact rfl) (by exact (congrArg x_k2 l6)) (by exact rfl) (by exact (fr_v hfr (by omega))) (by simp (disch := omega) only [rv_self, rv_ne, rl_self, rl_ne, rA_self, rA_ne, rL_self, rL_ne, rR_self, rR_ne, xvl, xvA, xvL, xvR, xlv, xlA, xlL, xlR, xAv, xAl, xAL, xAR, xLv, xLl, xLA, xLR, xRv, xRl, xRA, xRL]) (by simp (disch := omega) only [rv_self, rv_ne, rl_self, rl_ne, rA_self, rA_ne, rL_self, rL_ne, rR_self, rR_ne, xvl, xvA, xvL, xvR, xlv, xlA, xlL, xlR, xAv, xAl, xAL, xAR, xLv, xLl, xLA, xLR, xRv, xRl, xRA, xRL]; exact hct) (by omega) (by omega) (by rw [show i + -1 + 1 = i + 1 - 1 by omega]; exact hts.2.2) (by rw [List.length_cons] at htl; omega) (by exact (bw_app _ _ _).mpr ⟨hcu, by rw [show h - (cur.length : Int) = i + 1 by omega]; exact ⟨hts.1, hts.2.1, trivial⟩⟩) (by rw [List.length_append]; simp; omega) (by omega) (by first | omega | (exact absurd c144 c65) | (exact absurd (c144.symm.trans c91) (by decide))) (by omega) (by omega) (by simp (disch := omega) only [rv_self, rv_ne, rl_self, rl_ne, rA_self, rA_ne, rL_self, rL_ne, rR_self, rR_ne, xvl, xvA, xvL, xvR, xlv, xlA, xlL, xlR, xAv, xAl, xAL, xAR, xLv, xLl, xLA, xLR, xRv, xRl, xRA, xRL]; exact har) (by first | (exact absurd (c91.symm.trans c131) (by decide)) | (exact absurd (c91.symm.trans c144) (by decide)) | (exact absurd c56 c82) | (exact absurd c82 c56) | (rw [fa_in (by (first | exact fun z => c56 z.1 | exact fun z => c65 (hx.trans z.2) | exact fun z => absurd ((hx.trans z.2).symm.trans c91) (by decide))) (by (first | exact fun z => c56 z.1 | exact fun z => c82 z.1 | exact fun z => c91 (hx.trans z.2)))] at he; (first | rw [if_pos (hx.symm.trans c131)] at he | (rw [if_neg (fun z => c131 (hx.trans z))] at he; first | rw [if_pos (hx.symm.trans c144)] at he | rw [if_neg (fun z => c144 (hx.trans z))] at he)); exact he)) (by omega)
          · skip
            refine w_aload_n rfl l2 rfl ?_
            refine w_iload rfl (congrArg x_k2 l7) rfl ?_
            refine w_iconst rfl rfl ?_
            refine w_iadd rfl rfl ?_
            refine w_iload rfl l6 rfl ?_
            refine w_CV (as := [.int (iZ (i + 1)), .int (iZ h)]) (r := []) rfl rfl rfl rfl (sh_arg hq) (Nat.le_of_ble_eq_true rfl) (Nat.le_of_ble_eq_true rfl) (by omega) rfl (c_aad (S := U) (q := q) (x := i + 1) (y := h) hq (by omega) (by omega) (by omega)) ?_
            rintro _ W ⟨rfl, f1, a1, a2, a3, a4⟩
            show w_T _ _ 25 104 _ [] _ _
            rw [hct] at a1 a3 a4
            refine w_iload rfl (congrArg x_k2 l7) rfl ?_
            refine w_istore rfl (by decide) rfl ?_
            refine w_aload_n rfl l2 rfl ?_
            refine w_iload rfl rfl rfl ?_
            refine w_if_eq (pc2 := 119) (pc3 := 114) rfl (by decide) rfl ⟨by decide, by decide⟩ (fun _ => ?_) (fun hc => absurd hc (by decide))
            refine w_iconst rfl rfl ?_
            refine w_putf rfl rfl (sh_arg hq) rfl rfl (by decide) rfl ?_
            refine w_iload rfl (congrArg x_k2 l5) rfl ?_
            refine w_lload rfl rfl rfl ?_
            refine w_ldc2 (v := 40) rfl rfl rfl ?_
            refine w_l_ne (pc2 := 138) (pc3 := 134) rfl rfl (by decide) rfl (fun c131 => ?_) (fun c131 => ?_)
            · skip
              refine w_lload rfl rfl rfl ?_
              refine w_ldc2 (v := 41) rfl rfl rfl ?_
              refine w_l_ne (pc2 := 151) (pc3 := 147) rfl rfl (by decide) rfl (fun c144 => ?_) (fun c144 => ?_)
              · skip
                refine w_iconst rfl rfl ?_
                refine w_iadd rfl rfl ?_
                refine w_istore rfl (by decide) rfl ?_
                refine w_iinc rfl (congrArg x_k2 l7) (by decide) rfl ?_
                refine w_goto (pc2 := 29) rfl (by decide) ?_
                refine w_iload rfl rfl rfl ?_
                refine w_iload_n rfl l3 rfl ?_
                refine w_ic_lt (pc2 := 161) (pc3 := 35) rfl (by decide) rfl ⟨by omega, by omega⟩ ⟨by omega, by omega⟩ (fun c32 => ?_) (fun c32 => ?_)
                · skip
                  exact ih.2 _ _ (by exact l0) (by exact l1) (by exact l2) (by exact (congrArg x_k2 l4)) (by exact (fr_v (fr_trans hfr f1) (by omega))) (by left; refine ⟨by simp (disch := omega) only [rv_self, rv_ne, rl_self, rl_ne, rA_self, rA_ne, rL_self, rL_ne, rR_self, rR_ne, xvl, xvA, xvL, xvR, xlv, xlA, xlL, xlR, xAv, xAl, xAL, xAR, xLv, xLl, xLA, xLR, xRv, xRl, xRA, xRL], ?_⟩; have hnil : ts2 = [] := List.eq_nil_of_length_eq_zero (by rw [List.length_cons] at htl; omega); first | (exact absurd (c91.symm.trans c131) (by decide)) | (exact absurd (c91.symm.trans c144) (by decide)) | (exact absurd c56 c82) | (exact absurd c82 c56) | (rw [fa_in (by (first | exact fun z => c56 z.1 | exact fun z => c65 (hx.trans z.2) | exact fun z => absurd ((hx.trans z.2).symm.trans c91) (by decide))) (by (first | exact fun z => c56 z.1 | exact fun z => c82 z.1 | exact fun z => c91 (hx.trans z.2))), hnil] at he; rw [← he]; rfl) | (rw [fa_comma (by (first | exact fun z => c56 z.1 | exact fun z => c65 (hx.trans z.2) | exact fun z => absurd ((hx.trans z.2).symm.trans c91) (by decide))) ⟨by omega, hx.symm.trans c91⟩, hnil] at he; rw [← he]; rfl)) (by omega)
                · skip
                  refine w_aload_n rfl l2 rfl ?_
                  refine w_getI (z := (-1)) rfl rfl (sh_arg hq) rfl (rv_self _ _ _ _) rfl ?_
                  refine w_if_ge (pc2 := 161) (pc3 := 42) rfl (by decide) rfl ⟨by decide, by decide⟩ (fun hc => absurd hc (by decide)) (fun _ => ?_)
                  exact ih.1 (g + 0) i (i + (-1)) ts2 ([]) ((as ++ [cur])) _ _ (by exact l0) (by exact l1) (by exact l2) (by exact l3) (by exact (congrArg x_k2 l4)) (by exact rfl) (by exact rfl) (by exact rfl) (by exact (fr_v (fr_trans hfr f1) (by omega))) (by simp (disch := omega) only [rv_self, rv_ne, rl_self, rl_ne, rA_self, rA_ne, rL_self, rL_ne, rR_self, rR_ne, xvl, xvA, xvL, xvR, xlv, xlA, xlL, xlR, xAv, xAl, xAL, xAR, xLv, xLl, xLA, xLR, xRv, xRl, xRA, xRL]) (by simp (disch := omega) only [rv_self, rv_ne, rl_self, rl_ne, rA_self, rA_ne, rL_self, rL_ne, rR_self, rR_ne, xvl, xvA, xvL, xvR, xlv, xlA, xlL, xlR, xAv, xAl, xAL, xAR, xLv, xLl, xLA, xLR, xRv, xRl, xRA, xRL]; rw [a1, List.length_append]; rfl) (by omega) (by omega) (by rw [show i + -1 + 1 = i + 1 - 1 by omega]; exact hts.2.2) (by rw [List.length_cons] at htl; omega) (by exact trivial) (by rw [List.length_nil]; simp <;> omega) (by omega) (by first | omega | (exact absurd c144 c65) | (exact absurd (c144.symm.trans c91) (by decide))) (by omega) (by rw [List.length_append]; simp; omega) (by simp (disch := omega) only [rv_self, rv_ne, rl_self, rl_ne, rA_self, rA_ne, rL_self, rL_ne, rR_self, rR_ne, xvl, xvA, xvL, xvR, xlv, xlA, xlL, xlR, xAv, xAl, xAL, xAR, xLv, xLl, xLA, xLR, xRv, xRl, xRA, xRL]; exact argr_add har (fun k z => a3 k z) (fun z => by rw [(a4 z).1, (a4 z).2]; exact ⟨hcu, by omega, by omega, by omega⟩)) (by first | (exact absurd (c91.symm.trans c131) (by decide)) | (exact absurd (c91.symm.trans c144) (by decide)) | (exact absurd c56 c82) | (exact absurd c82 c56) | (rw [fa_comma (by (first | exact fun z => c56 z.1 | exact fun z => c65 (hx.trans z.2) | exact fun z => absurd ((hx.trans z.2).symm.trans c91) (by decide))) ⟨by omega, hx.symm.trans c91⟩] at he; rw [show g + 0 = 0 by omega]; exact he)) (by omega)
              · skip
                refine w_iconst rfl rfl ?_
                refine w_goto (pc2 := 152) rfl (by decide) ?_
                refine w_iadd rfl rfl ?_
                refine w_istore rfl (by decide) rfl ?_
                refine w_iinc rfl (congrArg x_k2 l7) (by decide) rfl ?_
                refine w_goto (pc2 := 29) rfl (by decide) ?_
                refine w_iload rfl rfl rfl ?_
                refine w_iload_n rfl l3 rfl ?_
                refine w_ic_lt (pc2 := 161) (pc3 := 35) rfl (by decide) rfl ⟨by omega, by omega⟩ ⟨by omega, by omega⟩ (fun c32 => ?_) (fun c32 => ?_)
                · skip
                  exact ih.2 _ _ (by exact l0) (by exact l1) (by exact l2) (by exact (congrArg x_k2 l4)) (by exact (fr_v (fr_trans hfr f1) (by omega))) (by left; refine ⟨by simp (disch := omega) only [rv_self, rv_ne, rl_self, rl_ne, rA_self, rA_ne, rL_self, rL_ne, rR_self, rR_ne, xvl, xvA, xvL, xvR, xlv, xlA, xlL, xlR, xAv, xAl, xAL, xAR, xLv, xLl, xLA, xLR, xRv, xRl, xRA, xRL], ?_⟩; have hnil : ts2 = [] := List.eq_nil_of_length_eq_zero (by rw [List.length_cons] at htl; omega); first | (exact absurd (c91.symm.trans c131) (by decide)) | (exact absurd (c91.symm.trans c144) (by decide)) | (exact absurd c56 c82) | (exact absurd c82 c56) | (rw [fa_in (by (first | exact fun z => c56 z.1 | exact fun z => c65 (hx.trans z.2) | exact fun z => absurd ((hx.trans z.2).symm.trans c91) (by decide))) (by (first | exact fun z => c56 z.1 | exact fun z => c82 z.1 | exact fun z => c91 (hx.trans z.2))), hnil] at he; rw [← he]; rfl) | (rw [fa_comma (by (first | exact fun z => c56 z.1 | exact fun z => c65 (hx.trans z.2) | exact fun z => absurd ((hx.trans z.2).symm.trans c91) (by decide))) ⟨by omega, hx.symm.trans c91⟩, hnil] at he; rw [← he]; rfl)) (by omega)
                · skip
                  refine w_aload_n rfl l2 rfl ?_
                  refine w_getI (z := (-1)) rfl rfl (sh_arg hq) rfl (rv_self _ _ _ _) rfl ?_
                  refine w_if_ge (pc2 := 161) (pc3 := 42) rfl (by decide) rfl ⟨by decide, by decide⟩ (fun hc => absurd hc (by decide)) (fun _ => ?_)
                  exact ih.1 (g + ((-1))) i (i + (-1)) ts2 ([]) ((as ++ [cur])) _ _ (by exact l0) (by exact l1) (by exact l2) (by exact l3) (by exact (congrArg x_k2 l4)) (by exact rfl) (by exact rfl) (by exact rfl) (by exact (fr_v (fr_trans hfr f1) (by omega))) (by simp (disch := omega) only [rv_self, rv_ne, rl_self, rl_ne, rA_self, rA_ne, rL_self, rL_ne, rR_self, rR_ne, xvl, xvA, xvL, xvR, xlv, xlA, xlL, xlR, xAv, xAl, xAL, xAR, xLv, xLl, xLA, xLR, xRv, xRl, xRA, xRL]) (by simp (disch := omega) only [rv_self, rv_ne, rl_self, rl_ne, rA_self, rA_ne, rL_self, rL_ne, rR_self, rR_ne, xvl, xvA, xvL, xvR, xlv, xlA, xlL, xlR, xAv, xAl, xAL, xAR, xLv, xLl, xLA, xLR, xRv, xRl, xRA, xRL]; rw [a1, List.length_append]; rfl) (by omega) (by omega) (by rw [show i + -1 + 1 = i + 1 - 1 by omega]; exact hts.2.2) (by rw [List.length_cons] at htl; omega) (by exact trivial) (by rw [List.length_nil]; simp <;> omega) (by omega) (by first | omega | (exact absurd c144 c65) | (exact absurd (c144.symm.trans c91) (by decide))) (by omega) (by rw [List.length_append]; simp; omega) (by simp (disch := omega) only [rv_self, rv_ne, rl_self, rl_ne, rA_self, rA_ne, rL_self, rL_ne, rR_self, rR_ne, xvl, xvA, xvL, xvR, xlv, xlA, xlL, xlR, xAv, xAl, xAL, xAR, xLv, xLl, xLA, xLR, xRv, xRl, xRA, xRL]; exact argr_add har (fun k z => a3 k z) (fun z => by rw [(a4 z).1, (a4 z).2]; exact ⟨hcu, by omega, by omega, by omega⟩)) (by first | (exact absurd (c91.symm.trans c131) (by decide)) | (exact absurd (c91.symm.trans c144) (by decide)) | (exact absurd c56 c82) | (exact absurd c82 c56) | (rw [fa_comma (by (first | exact fun z => c56 z.1 | exact fun z => c65 (hx.trans z.2) | exact fun z => absurd ((hx.trans z.2).symm.trans c91) (by decide))) ⟨by omega, hx.symm.trans c91⟩] at he; rw [show g + 0 = 0 by omega]; exact he)) (by omega)
            · skip
              refine w_iconst rfl rfl ?_
              refine w_goto (pc2 := 152) rfl (by decide) ?_
              refine w_iadd rfl rfl ?_
              refine w_istore rfl (by decide) rfl ?_
              refine w_iinc rfl (congrArg x_k2 l7) (by decide) rfl ?_
              refine w_goto (pc2 := 29) rfl (by decide) ?_
              refine w_iload rfl rfl rfl ?_
              refine w_iload_n rfl l3 rfl ?_
              refine w_ic_lt (pc2 := 161) (pc3 := 35) rfl (by decide) rfl ⟨by omega, by omega⟩ ⟨by omega, by omega⟩ (fun c32 => ?_) (fun c32 => ?_)
              · skip
                exact ih.2 _ _ (by exact l0) (by exact l1) (by exact l2) (by exact (congrArg x_k2 l4)) (by exact (fr_v (fr_trans hfr f1) (by omega))) (by left; refine ⟨by simp (disch := omega) only [rv_self, rv_ne, rl_self, rl_ne, rA_self, rA_ne, rL_self, rL_ne, rR_self, rR_ne, xvl, xvA, xvL, xvR, xlv, xlA, xlL, xlR, xAv, xAl, xAL, xAR, xLv, xLl, xLA, xLR, xRv, xRl, xRA, xRL], ?_⟩; have hnil : ts2 = [] := List.eq_nil_of_length_eq_zero (by rw [List.length_cons] at htl; omega); first | (exact absurd (c91.symm.trans c131) (by decide)) | (exact absurd (c91.symm.trans c144) (by decide)) | (exact absurd c56 c82) | (exact absurd c82 c56) | (rw [fa_in (by (first | exact fun z => c56 z.1 | exact fun z => c65 (hx.trans z.2) | exact fun z => absurd ((hx.trans z.2).symm.trans c91) (by decide))) (by (first | exact fun z => c56 z.1 | exact fun z => c82 z.1 | exact fun z => c91 (hx.trans z.2))), hnil] at he; rw [← he]; rfl) | (rw [fa_comma (by (first | exact fun z => c56 z.1 | exact fun z => c65 (hx.trans z.2) | exact fun z => absurd ((hx.trans z.2).symm.trans c91) (by decide))) ⟨by omega, hx.symm.trans c91⟩, hnil] at he; rw [← he]; rfl)) (by omega)
              · skip
                refine w_aload_n rfl l2 rfl ?_
                refine w_getI (z := (-1)) rfl rfl (sh_arg hq) rfl (rv_self _ _ _ _) rfl ?_
                refine w_if_ge (pc2 := 161) (pc3 := 42) rfl (by decide) rfl ⟨by decide, by decide⟩ (fun hc => absurd hc (by decide)) (fun _ => ?_)
                exact ih.1 (g + 1) i (i + (-1)) ts2 ([]) ((as ++ [cur])) _ _ (by exact l0) (by exact l1) (by exact l2) (by exact l3) (by exact (congrArg x_k2 l4)) (by exact rfl) (by exact rfl) (by exact rfl) (by exact (fr_v (fr_trans hfr f1) (by omega))) (by simp (disch := omega) only [rv_self, rv_ne, rl_self, rl_ne, rA_self, rA_ne, rL_self, rL_ne, rR_self, rR_ne, xvl, xvA, xvL, xvR, xlv, xlA, xlL, xlR, xAv, xAl, xAL, xAR, xLv, xLl, xLA, xLR, xRv, xRl, xRA, xRL]) (by simp (disch := omega) only [rv_self, rv_ne, rl_self, rl_ne, rA_self, rA_ne, rL_self, rL_ne, rR_self, rR_ne, xvl, xvA, xvL, xvR, xlv, xlA, xlL, xlR, xAv, xAl, xAL, xAR, xLv, xLl, xLA, xLR, xRv, xRl, xRA, xRL]; rw [a1, List.length_append]; rfl) (by omega) (by omega) (by rw [show i + -1 + 1 = i + 1 - 1 by omega]; exact hts.2.2) (by rw [List.length_cons] at htl; omega) (by exact trivial) (by rw [List.length_nil]; simp <;> omega) (by omega) (by first | omega | (exact absurd c144 c65) | (exact absurd (c144.symm.trans c91) (by decide))) (by omega) (by rw [List.length_append]; simp; omega) (by simp (disch := omega) only [rv_self, rv_ne, rl_self, rl_ne, rA_self, rA_ne, rL_self, rL_ne, rR_self, rR_ne, xvl, xvA, xvL, xvR, xlv, xlA, xlL, xlR, xAv, xAl, xAL, xAR, xLv, xLl, xLA, xLR, xRv, xRl, xRA, xRL]; exact argr_add har (fun k z => a3 k z) (fun z => by rw [(a4 z).1, (a4 z).2]; exact ⟨hcu, by omega, by omega, by omega⟩)) (by first | (exact absurd (c91.symm.trans c131) (by decide)) | (exact absurd (c91.symm.trans c144) (by decide)) | (exact absurd c56 c82) | (exact absurd c82 c56) | (rw [fa_comma (by (first | exact fun z => c56 z.1 | exact fun z => c65 (hx.trans z.2) | exact fun z => absurd ((hx.trans z.2).symm.trans c91) (by decide))) ⟨by omega, hx.symm.trans c91⟩] at he; rw [show g + 0 = 0 by omega]; exact he)) (by omega)
      · skip
        refine w_lload rfl rfl rfl ?_
        refine w_ldc2 (v := 41) rfl rfl rfl ?_
        refine w_l_ne (pc2 := 72) (pc3 := 68) rfl rfl (by decide) rfl (fun c65 => ?_) (fun c65 => ?_)
        · skip
          refine w_iconst rfl rfl ?_
          refine w_istore rfl (by decide) rfl ?_
          refine w_iload rfl rfl rfl ?_
          refine w_if_ne (pc2 := 94) (pc3 := 80) rfl (by decide) rfl ⟨by decide, by decide⟩ (fun hc => absurd hc (by decide)) (fun _ => ?_)
          refine w_iload rfl l5 rfl ?_
          refine w_if_ne (pc2 := 108) (pc3 := 85) rfl (by decide) rfl ⟨by omega, by omega⟩ (fun c82 => ?_) (fun c82 => ?_)
          · skip
            refine w_aload_n rfl l2 rfl ?_
            refine w_iload rfl rfl rfl ?_
            refine w_if_eq (pc2 := 119) (pc3 := 114) rfl (by decide) rfl ⟨by decide, by decide⟩ (fun _ => ?_) (fun hc => absurd hc (by decide))
            refine w_iconst rfl rfl ?_
            refine w_putf rfl rfl (sh_arg hq) rfl rfl (by decide) rfl ?_
            refine w_iload rfl l5 rfl ?_
            refine w_lload rfl rfl rfl ?_
            refine w_ldc2 (v := 40) rfl rfl rfl ?_
            refine w_l_ne (pc2 := 138) (pc3 := 134) rfl rfl (by decide) rfl (fun c131 => ?_) (fun c131 => ?_)
            · skip
              refine w_lload rfl rfl rfl ?_
              refine w_ldc2 (v := 41) rfl rfl rfl ?_
              refine w_l_ne (pc2 := 151) (pc3 := 147) rfl rfl (by decide) rfl (fun c144 => ?_) (fun c144 => ?_)
              · skip
                refine w_iconst rfl rfl ?_
                refine w_iadd rfl rfl ?_
                refine w_istore rfl (by decide) rfl ?_
                refine w_iinc rfl (congrArg x_k2 l7) (by decide) rfl ?_
                refine w_goto (pc2 := 29) rfl (by decide) ?_
                refine w_iload rfl rfl rfl ?_
                refine w_iload_n rfl l3 rfl ?_
                refine w_ic_lt (pc2 := 161) (pc3 := 35) rfl (by decide) rfl ⟨by omega, by omega⟩ ⟨by omega, by omega⟩ (fun c32 => ?_) (fun c32 => ?_)
                · skip
                  exact ih.2 _ _ (by exact l0) (by exact l1) (by exact l2) (by exact (congrArg x_k2 l4)) (by exact (fr_v hfr (by omega))) (by left; refine ⟨by simp (disch := omega) only [rv_self, rv_ne, rl_self, rl_ne, rA_self, rA_ne, rL_self, rL_ne, rR_self, rR_ne, xvl, xvA, xvL, xvR, xlv, xlA, xlL, xlR, xAv, xAl, xAL, xAR, xLv, xLl, xLA, xLR, xRv, xRl, xRA, xRL], ?_⟩; have hnil : ts2 = [] := List.eq_nil_of_length_eq_zero (by rw [List.length_cons] at htl; omega); first | (exact absurd (c91.symm.trans c131) (by decide)) | (exact absurd (c91.symm.trans c144) (by decide)) | (exact absurd c56 c82) | (exact absurd c82 c56) | (rw [fa_in (by (first | exact fun z => c56 z.1 | exact fun z => c65 (hx.trans z.2) | exact fun z => absurd ((hx.trans z.2).symm.trans c91) (by decide))) (by (first | exact fun z => c56 z.1 | exact fun z => c82 z.1 | exact fun z => c91 (hx.trans z.2))), hnil] at he; rw [← he]; rfl) | (rw [fa_comma (by (first | exact fun z => c56 z.1 | exact fun z => c65 (hx.trans z.2) | exact fun z => absurd ((hx.trans z.2).symm.trans c91) (by decide))) ⟨by omega, hx.symm.trans c91⟩, hnil] at he; rw [← he]; rfl)) (by omega)
                · skip
                  refine w_aload_n rfl l2 rfl ?_
                  refine w_getI (z := (-1)) rfl rfl (sh_arg hq) rfl (rv_self _ _ _ _) rfl ?_
                  refine w_if_ge (pc2 := 161) (pc3 := 42) rfl (by decide) rfl ⟨by decide, by decide⟩ (fun hc => absurd hc (by decide)) (fun _ => ?_)
                  exact ih.1 (g + 0) h (i + (-1)) ts2 ((cur ++ [t])) as _ _ (by exact l0) (by exact l1) (by exact l2) (by exact l3) (by exact (congrArg x_k2 l4)) (by exact rfl) (by exact (congrArg x_k2 l6)) (by exact rfl) (by exact (fr_v hfr (by omega))) (by simp (disch := omega) only [rv_self, rv_ne, rl_self, rl_ne, rA_self, rA_ne, rL_self, rL_ne, rR_self, rR_ne, xvl, xvA, xvL, xvR, xlv, xlA, xlL, xlR, xAv, xAl, xAL, xAR, xLv, xLl, xLA, xLR, xRv, xRl, xRA, xRL]) (by simp (disch := omega) only [rv_self, rv_ne, rl_self, rl_ne, rA_self, rA_ne, rL_self, rL_ne, rR_self, rR_ne, xvl, xvA, xvL, xvR, xlv, xlA, xlL, xlR, xAv, xAl, xAL, xAR, xLv, xLl, xLA, xLR, xRv, xRl, xRA, xRL]; exact hct) (by omega) (by omega) (by rw [show i + -1 + 1 = i + 1 - 1 by omega]; exact hts.2.2) (by rw [List.length_cons] at htl; omega) (by exact (bw_app _ _ _).mpr ⟨hcu, by rw [show h - (cur.length : Int) = i + 1 by omega]; exact ⟨hts.1, hts.2.1, trivial⟩⟩) (by rw [List.length_append]; simp; omega) (by omega) (by first | omega | (exact absurd c144 c65) | (exact absurd (c144.symm.trans c91) (by decide))) (by omega) (by omega) (by simp (disch := omega) only [rv_self, rv_ne, rl_self, rl_ne, rA_self, rA_ne, rL_self, rL_ne, rR_self, rR_ne, xvl, xvA, xvL, xvR, xlv, xlA, xlL, xlR, xAv, xAl, xAL, xAR, xLv, xLl, xLA, xLR, xRv, xRl, xRA, xRL]; exact har) (by first | (exact absurd (c91.symm.trans c131) (by decide)) | (exact absurd (c91.symm.trans c144) (by decide)) | (exact absurd c56 c82) | (exact absurd c82 c56) | (rw [fa_in (by (first | exact fun z => c56 z.1 | exact fun z => c65 (hx.trans z.2) | exact fun z => absurd ((hx.trans z.2).symm.trans c91) (by decide))) (by (first | exact fun z => c56 z.1 | exact fun z => c82 z.1 | exact fun z => c91 (hx.trans z.2)))] at he; (first | rw [if_pos (hx.symm.trans c131)] at he | (rw [if_neg (fun z => c131 (hx.trans z))] at he; first | rw [if_pos (hx.symm.trans c144)] at he | rw [if_neg (fun z => c144 (hx.trans z))] at he)); exact he)) (by omega)
              · skip
                refine w_iconst rfl rfl ?_
                refine w_goto (pc2 := 152) rfl (by decide) ?_
                refine w_iadd rfl rfl ?_
                refine w_istore rfl (by decide) rfl ?_
                refine w_iinc rfl (congrArg x_k2 l7) (by decide) rfl ?_
                refine w_goto (pc2 := 29) rfl (by decide) ?_
                refine w_iload rfl rfl rfl ?_
                refine w_iload_n rfl l3 rfl ?_
                refine w_ic_lt (pc2 := 161) (pc3 := 35) rfl (by decide) rfl ⟨by omega, by omega⟩ ⟨by omega, by omega⟩ (fun c32 => ?_) (fun c32 => ?_)
                · skip
                  exact ih.2 _ _ (by exact l0) (by exact l1) (by exact l2) (by exact (congrArg x_k2 l4)) (by exact (fr_v hfr (by omega))) (by left; refine ⟨by simp (disch := omega) only [rv_self, rv_ne, rl_self, rl_ne, rA_self, rA_ne, rL_self, rL_ne, rR_self, rR_ne, xvl, xvA, xvL, xvR, xlv, xlA, xlL, xlR, xAv, xAl, xAL, xAR, xLv, xLl, xLA, xLR, xRv, xRl, xRA, xRL], ?_⟩; have hnil : ts2 = [] := List.eq_nil_of_length_eq_zero (by rw [List.length_cons] at htl; omega); first | (exact absurd (c91.symm.trans c131) (by decide)) | (exact absurd (c91.symm.trans c144) (by decide)) | (exact absurd c56 c82) | (exact absurd c82 c56) | (rw [fa_in (by (first | exact fun z => c56 z.1 | exact fun z => c65 (hx.trans z.2) | exact fun z => absurd ((hx.trans z.2).symm.trans c91) (by decide))) (by (first | exact fun z => c56 z.1 | exact fun z => c82 z.1 | exact fun z => c91 (hx.trans z.2))), hnil] at he; rw [← he]; rfl) | (rw [fa_comma (by (first | exact fun z => c56 z.1 | exact fun z => c65 (hx.trans z.2) | exact fun z => absurd ((hx.trans z.2).symm.trans c91) (by decide))) ⟨by omega, hx.symm.trans c91⟩, hnil] at he; rw [← he]; rfl)) (by omega)
                · skip
                  refine w_aload_n rfl l2 rfl ?_
                  refine w_getI (z := (-1)) rfl rfl (sh_arg hq) rfl (rv_self _ _ _ _) rfl ?_
                  refine w_if_ge (pc2 := 161) (pc3 := 42) rfl (by decide) rfl ⟨by decide, by decide⟩ (fun hc => absurd hc (by decide)) (fun _ => ?_)
                  exact ih.1 (g + ((-1))) h (i + (-1)) ts2 ((cur ++ [t])) as _ _ (by exact l0) (by exact l1) (by exact l2) (by exact l3) (by exact (congrArg x_k2 l4)) (by exact rfl) (by exact (congrArg x_k2 l6)) (by exact rfl) (by exact (fr_v hfr (by omega))) (by simp (disch := omega) only [rv_self, rv_ne, rl_self, rl_ne, rA_self, rA_ne, rL_self, rL_ne, rR_self, rR_ne, xvl, xvA, xvL, xvR, xlv, xlA, xlL, xlR, xAv, xAl, xAL, xAR, xLv, xLl, xLA, xLR, xRv, xRl, xRA, xRL]) (by simp (disch := omega) only [rv_self, rv_ne, rl_self, rl_ne, rA_self, rA_ne, rL_self, rL_ne, rR_self, rR_ne, xvl, xvA, xvL, xvR, xlv, xlA, xlL, xlR, xAv, xAl, xAL, xAR, xLv, xLl, xLA, xLR, xRv, xRl, xRA, xRL]; exact hct) (by omega) (by omega) (by rw [show i + -1 + 1 = i + 1 - 1 by omega]; exact hts.2.2) (by rw [List.length_cons] at htl; omega) (by exact (bw_app _ _ _).mpr ⟨hcu, by rw [show h - (cur.length : Int) = i + 1 by omega]; exact ⟨hts.1, hts.2.1, trivial⟩⟩) (by rw [List.length_append]; simp; omega) (by omega) (by first | omega | (exact absurd c144 c65) | (exact absurd (c144.symm.trans c91) (by decide))) (by omega) (by omega) (by simp (disch := omega) only [rv_self, rv_ne, rl_self, rl_ne, rA_self, rA_ne, rL_self, rL_ne, rR_self, rR_ne, xvl, xvA, xvL, xvR, xlv, xlA, xlL, xlR, xAv, xAl, xAL, xAR, xLv, xLl, xLA, xLR, xRv, xRl, xRA, xRL]; exact har) (by first | (exact absurd (c91.symm.trans c131) (by decide)) | (exact absurd (c91.symm.trans c144) (by decide)) | (exact absurd c56 c82) | (exact absurd c82 c56) | (rw [fa_in (by (first | exact fun z => c56 z.1 | exact fun z => c65 (hx.trans z.2) | exact fun z => absurd ((hx.trans z.2).symm.trans c91) (by decide))) (by (first | exact fun z => c56 z.1 | exact fun z => c82 z.1 | exact fun z => c91 (hx.trans z.2)))] at he; (first | rw [if_pos (hx.symm.trans c131)] at he | (rw [if_neg (fun z => c131 (hx.trans z))] at he; first | rw [if_pos (hx.symm.trans c144)] at he | rw [if_neg (fun z => c144 (hx.trans z))] at he)); exact he)) (by omega)
            · skip
              refine w_iconst rfl rfl ?_
              refine w_goto (pc2 := 152) rfl (by decide) ?_
              refine w_iadd rfl rfl ?_
              refine w_istore rfl (by decide) rfl ?_
              refine w_iinc rfl (congrArg x_k2 l7) (by decide) rfl ?_
              refine w_goto (pc2 := 29) rfl (by decide) ?_
              refine w_iload rfl rfl rfl ?_
              refine w_iload_n rfl l3 rfl ?_
              refine w_ic_lt (pc2 := 161) (pc3 := 35) rfl (by decide) rfl ⟨by omega, by omega⟩ ⟨by omega, by omega⟩ (fun c32 => ?_) (fun c32 => ?_)
              · skip
                exact ih.2 _ _ (by exact l0) (by exact l1) (by exact l2) (by exact (congrArg x_k2 l4)) (by exact (fr_v hfr (by omega))) (by left; refine ⟨by simp (disch := omega) only [rv_self, rv_ne, rl_self, rl_ne, rA_self, rA_ne, rL_self, rL_ne, rR_self, rR_ne, xvl, xvA, xvL, xvR, xlv, xlA, xlL, xlR, xAv, xAl, xAL, xAR, xLv, xLl, xLA, xLR, xRv, xRl, xRA, xRL], ?_⟩; have hnil : ts2 = [] := List.eq_nil_of_length_eq_zero (by rw [List.length_cons] at htl; omega); first | (exact absurd (c91.symm.trans c131) (by decide)) | (exact absurd (c91.symm.trans c144) (by decide)) | (exact absurd c56 c82) | (exact absurd c82 c56) | (rw [fa_in (by (first | exact fun z => c56 z.1 | exact fun z => c65 (hx.trans z.2) | exact fun z => absurd ((hx.trans z.2).symm.trans c91) (by decide))) (by (first | exact fun z => c56 z.1 | exact fun z => c82 z.1 | exact fun z => c91 (hx.trans z.2))), hnil] at he; rw [← he]; rfl) | (rw [fa_comma (by (first | exact fun z => c56 z.1 | exact fun z => c65 (hx.trans z.2) | exact fun z => absurd ((hx.trans z.2).symm.trans c91) (by decide))) ⟨by omega, hx.symm.trans c91⟩, hnil] at he; rw [← he]; rfl)) (by omega)
              · skip
                refine w_aload_n rfl l2 rfl ?_
                refine w_getI (z := (-1)) rfl rfl (sh_arg hq) rfl (rv_self _ _ _ _) rfl ?_
                refine w_if_ge (pc2 := 161) (pc3 := 42) rfl (by decide) rfl ⟨by decide, by decide⟩ (fun hc => absurd hc (by decide)) (fun _ => ?_)
                exact ih.1 (g + 1) h (i + (-1)) ts2 ((cur ++ [t])) as _ _ (by exact l0) (by exact l1) (by exact l2) (by exact l3) (by exact (congrArg x_k2 l4)) (by exact rfl) (by exact (congrArg x_k2 l6)) (by exact rfl) (by exact (fr_v hfr (by omega))) (by simp (disch := omega) only [rv_self, rv_ne, rl_self, rl_ne, rA_self, rA_ne, rL_self, rL_ne, rR_self, rR_ne, xvl, xvA, xvL, xvR, xlv, xlA, xlL, xlR, xAv, xAl, xAL, xAR, xLv, xLl, xLA, xLR, xRv, xRl, xRA, xRL]) (by simp (disch := omega) only [rv_self, rv_ne, rl_self, rl_ne, rA_self, rA_ne, rL_self, rL_ne, rR_self, rR_ne, xvl, xvA, xvL, xvR, xlv, xlA, xlL, xlR, xAv, xAl, xAL, xAR, xLv, xLl, xLA, xLR, xRv, xRl, xRA, xRL]; exact hct) (by omega) (by omega) (by rw [show i + -1 + 1 = i + 1 - 1 by omega]; exact hts.2.2) (by rw [List.length_cons] at htl; omega) (by exact (bw_app _ _ _).mpr ⟨hcu, by rw [show h - (cur.length : Int) = i + 1 by omega]; exact ⟨hts.1, hts.2.1, trivial⟩⟩) (by rw [List.length_append]; simp; omega) (by omega) (by first | omega | (exact absurd c144 c65) | (exact absurd (c144.symm.trans c91) (by decide))) (by omega) (by omega) (by simp (disch := omega) only [rv_self, rv_ne, rl_self, rl_ne, rA_self, rA_ne, rL_self, rL_ne, rR_self, rR_ne, xvl, xvA, xvL, xvR, xlv, xlA, xlL, xlR, xAv, xAl, xAL, xAR, xLv, xLl, xLA, xLR, xRv, xRl, xRA, xRL]; exact har) (by first | (exact absurd (c91.symm.trans c131) (by decide)) | (exact absurd (c91.symm.trans c144) (by decide)) | (exact absurd c56 c82) | (exact absurd c82 c56) | (rw [fa_in (by (first | exact fun z => c56 z.1 | exact fun z => c65 (hx.trans z.2) | exact fun z => absurd ((hx.trans z.2).symm.trans c91) (by decide))) (by (first | exact fun z => c56 z.1 | exact fun z => c82 z.1 | exact fun z => c91 (hx.trans z.2)))] at he; (first | rw [if_pos (hx.symm.trans c131)] at he | (rw [if_neg (fun z => c131 (hx.trans z))] at he; first | rw [if_pos (hx.symm.trans c144)] at he | rw [if_neg (fun z => c144 (hx.trans z))] at he)); exact he)) (by omega)
          · skip
            refine w_lload rfl rfl rfl ?_
            refine w_ldc2 (v := 44) rfl rfl rfl ?_
            refine w_l_ne (pc2 := 108) (pc3 := 94) rfl rfl (by decide) rfl (fun c91 => ?_) (fun c91 => ?_)
            · skip
              refine w_aload_n rfl l2 rfl ?_
              refine w_iload rfl rfl rfl ?_
              refine w_if_eq (pc2 := 119) (pc3 := 114) rfl (by decide) rfl ⟨by decide, by decide⟩ (fun _ => ?_) (fun hc => absurd hc (by decide))
              refine w_iconst rfl rfl ?_
              refine w_putf rfl rfl (sh_arg hq) rfl rfl (by decide) rfl ?_
              refine w_iload rfl l5 rfl ?_
              refine w_lload rfl rfl rfl ?_
              refine w_ldc2 (v := 40) rfl rfl rfl ?_
              refine w_l_ne (pc2 := 138) (pc3 := 134) rfl rfl (by decide) rfl (fun c131 => ?_) (fun c131 => ?_)
              · skip
                refine w_lload rfl rfl rfl ?_
                refine w_ldc2 (v := 41) rfl rfl rfl ?_
                refine w_l_ne (pc2 := 151) (pc3 := 147) rfl rfl (by decide) rfl (fun c144 => ?_) (fun c144 => ?_)
                · skip
                  refine w_iconst rfl rfl ?_
                  refine w_iadd rfl rfl ?_
                  refine w_istore rfl (by decide) rfl ?_
                  refine w_iinc rfl (congrArg x_k2 l7) (by decide) rfl ?_
                  refine w_goto (pc2 := 29) rfl (by decide) ?_
                  refine w_iload rfl rfl rfl ?_
                  refine w_iload_n rfl l3 rfl ?_
                  refine w_ic_lt (pc2 := 161) (pc3 := 35) rfl (by decide) rfl ⟨by omega, by omega⟩ ⟨by omega, by omega⟩ (fun c32 => ?_) (fun c32 => ?_)
                  · skip
                    exact ih.2 _ _ (by exact l0) (by exact l1) (by exact l2) (by exact (congrArg x_k2 l4)) (by exact (fr_v hfr (by omega))) (by left; refine ⟨by simp (disch := omega) only [rv_self, rv_ne, rl_self, rl_ne, rA_self, rA_ne, rL_self, rL_ne, rR_self, rR_ne, xvl, xvA, xvL, xvR, xlv, xlA, xlL, xlR, xAv, xAl, xAL, xAR, xLv, xLl, xLA, xLR, xRv, xRl, xRA, xRL], ?_⟩; have hnil : ts2 = [] := List.eq_nil_of_length_eq_zero (by rw [List.length_cons] at htl; omega); first | (exact absurd (c91.symm.trans c131) (by decide)) | (exact absurd (c91.symm.trans c144) (by decide)) | (exact absurd c56 c82) | (exact absurd c82 c56) | (rw [fa_in (by (first | exact fun z => c56 z.1 | exact fun z => c65 (hx.trans z.2) | exact fun z => absurd ((hx.trans z.2).symm.trans c91) (by decide))) (by (first | exact fun z => c56 z.1 | exact fun z => c82 z.1 | exact fun z => c91 (hx.trans z.2))), hnil] at he; rw [← he]; rfl) | (rw [fa_comma (by (first | exact fun z => c56 z.1 | exact fun z => c65 (hx.trans z.2) | exact fun z => absurd ((hx.trans z.2).symm.trans c91) (by decide))) ⟨by omega, hx.symm.trans c91⟩, hnil] at he; rw [← he]; rfl)) (by omega)
                  · skip
                    refine w_aload_n rfl l2 rfl ?_
                    refine w_getI (z := (-1)) rfl rfl (sh_arg hq) rfl (rv_self _ _ _ _) rfl ?_
                    refine w_if_ge (pc2 := 161) (pc3 := 42) rfl (by decide) rfl ⟨by decide, by decide⟩ (fun hc => absurd hc (by decide)) (fun _ => ?_)
                    exact ih.1 (g + 0) h (i + (-1)) ts2 ((cur ++ [t])) as _ _ (by exact l0) (by exact l1) (by exact l2) (by exact l3) (by exact (congrArg x_k2 l4)) (by exact rfl) (by exact (congrArg x_k2 l6)) (by exact rfl) (by exact (fr_v hfr (by omega))) (by simp (disch := omega) only [rv_self, rv_ne, rl_self, rl_ne, rA_self, rA_ne, rL_self, rL_ne, rR_self, rR_ne, xvl, xvA, xvL, xvR, xlv, xlA, xlL, xlR, xAv, xAl, xAL, xAR, xLv, xLl, xLA, xLR, xRv, xRl, xRA, xRL]) (by simp (disch := omega) only [rv_self, rv_ne, rl_self, rl_ne, rA_self, rA_ne, rL_self, rL_ne, rR_self, rR_ne, xvl, xvA, xvL, xvR, xlv, xlA, xlL, xlR, xAv, xAl, xAL, xAR, xLv, xLl, xLA, xLR, xRv, xRl, xRA, xRL]; exact hct) (by omega) (by omega) (by rw [show i + -1 + 1 = i + 1 - 1 by omega]; exact hts.2.2) (by rw [List.length_cons] at htl; omega) (by exact (bw_app _ _ _).mpr ⟨hcu, by rw [show h - (cur.length : Int) = i + 1 by omega]; exact ⟨hts.1, hts.2.1, trivial⟩⟩) (by rw [List.length_append]; simp; omega) (by omega) (by first | omega | (exact absurd c144 c65) | (exact absurd (c144.symm.trans c91) (by decide))) (by omega) (by omega) (by simp (disch := omega) only [rv_self, rv_ne, rl_self, rl_ne, rA_self, rA_ne, rL_self, rL_ne, rR_self, rR_ne, xvl, xvA, xvL, xvR, xlv, xlA, xlL, xlR, xAv, xAl, xAL, xAR, xLv, xLl, xLA, xLR, xRv, xRl, xRA, xRL]; exact har) (by first | (exact absurd (c91.symm.trans c131) (by decide)) | (exact absurd (c91.symm.trans c144) (by decide)) | (exact absurd c56 c82) | (exact absurd c82 c56) | (rw [fa_in (by (first | exact fun z => c56 z.1 | exact fun z => c65 (hx.trans z.2) | exact fun z => absurd ((hx.trans z.2).symm.trans c91) (by decide))) (by (first | exact fun z => c56 z.1 | exact fun z => c82 z.1 | exact fun z => c91 (hx.trans z.2)))] at he; (first | rw [if_pos (hx.symm.trans c131)] at he | (rw [if_neg (fun z => c131 (hx.trans z))] at he; first | rw [if_pos (hx.symm.trans c144)] at he | rw [if_neg (fun z => c144 (hx.trans z))] at he)); exact he)) (by omega)
                · skip
                  refine w_iconst rfl rfl ?_
                  refine w_goto (pc2 := 152) rfl (by decide) ?_
                  refine w_iadd rfl rfl ?_
                  refine w_istore rfl (by decide) rfl ?_
                  refine w_iinc rfl (congrArg x_k2 l7) (by decide) rfl ?_
                  refine w_goto (pc2 := 29) rfl (by decide) ?_
                  refine w_iload rfl rfl rfl ?_
                  refine w_iload_n rfl l3 rfl ?_
                  refine w_ic_lt (pc2 := 161) (pc3 := 35) rfl (by decide) rfl ⟨by omega, by omega⟩ ⟨by omega, by omega⟩ (fun c32 => ?_) (fun c32 => ?_)
                  · skip
                    exact ih.2 _ _ (by exact l0) (by exact l1) (by exact l2) (by exact (congrArg x_k2 l4)) (by exact (fr_v hfr (by omega))) (by left; refine ⟨by simp (disch := omega) only [rv_self, rv_ne, rl_self, rl_ne, rA_self, rA_ne, rL_self, rL_ne, rR_self, rR_ne, xvl, xvA, xvL, xvR, xlv, xlA, xlL, xlR, xAv, xAl, xAL, xAR, xLv, xLl, xLA, xLR, xRv, xRl, xRA, xRL], ?_⟩; have hnil : ts2 = [] := List.eq_nil_of_length_eq_zero (by rw [List.length_cons] at htl; omega); first | (exact absurd (c91.symm.trans c131) (by decide)) | (exact absurd (c91.symm.trans c144) (by decide)) | (exact absurd c56 c82) | (exact absurd c82 c56) | (rw [fa_in (by (first | exact fun z => c56 z.1 | exact fun z => c65 (hx.trans z.2) | exact fun z => absurd ((hx.trans z.2).symm.trans c91) (by decide))) (by (first | exact fun z => c56 z.1 | exact fun z => c82 z.1 | exact fun z => c91 (hx.trans z.2))), hnil] at he; rw [← he]; rfl) | (rw [fa_comma (by (first | exact fun z => c56 z.1 | exact fun z => c65 (hx.trans z.2) | exact fun z => absurd ((hx.trans z.2).symm.trans c91) (by decide))) ⟨by omega, hx.symm.trans c91⟩, hnil] at he; rw [← he]; rfl)) (by omega)
                  · skip
                    refine w_aload_n rfl l2 rfl ?_
                    refine w_getI (z := (-1)) rfl rfl (sh_arg hq) rfl (rv_self _ _ _ _) rfl ?_
                    refine w_if_ge (pc2 := 161) (pc3 := 42) rfl (by decide) rfl ⟨by decide, by decide⟩ (fun hc => absurd hc (by decide)) (fun _ => ?_)
                    exact ih.1 (g + ((-1))) h (i + (-1)) ts2 ((cur ++ [t])) as _ _ (by exact l0) (by exact l1) (by exact l2) (by exact l3) (by exact (congrArg x_k2 l4)) (by exact rfl) (by exact (congrArg x_k2 l6)) (by exact rfl) (by exact (fr_v hfr (by omega))) (by simp (disch := omega) only [rv_self, rv_ne, rl_self, rl_ne, rA_self, rA_ne, rL_self, rL_ne, rR_self, rR_ne, xvl, xvA, xvL, xvR, xlv, xlA, xlL, xlR, xAv, xAl, xAL, xAR, xLv, xLl, xLA, xLR, xRv, xRl, xRA, xRL]) (by simp (disch := omega) only [rv_self, rv_ne, rl_self, rl_ne, rA_self, rA_ne, rL_self, rL_ne, rR_self, rR_ne, xvl, xvA, xvL, xvR, xlv, xlA, xlL, xlR, xAv, xAl, xAL, xAR, xLv, xLl, xLA, xLR, xRv, xRl, xRA, xRL]; exact hct) (by omega) (by omega) (by rw [show i + -1 + 1 = i + 1 - 1 by omega]; exact hts.2.2) (by rw [List.length_cons] at htl; omega) (by exact (bw_app _ _ _).mpr ⟨hcu, by rw [show h - (cur.length : Int) = i + 1 by omega]; exact ⟨hts.1, hts.2.1, trivial⟩⟩) (by rw [List.length_append]; simp; omega) (by omega) (by first | omega | (exact absurd c144 c65) | (exact absurd (c144.symm.trans c91) (by decide))) (by omega) (by omega) (by simp (disch := omega) only [rv_self, rv_ne, rl_self, rl_ne, rA_self, rA_ne, rL_self, rL_ne, rR_self, rR_ne, xvl, xvA, xvL, xvR, xlv, xlA, xlL, xlR, xAv, xAl, xAL, xAR, xLv, xLl, xLA, xLR, xRv, xRl, xRA, xRL]; exact har) (by first | (exact absurd (c91.symm.trans c131) (by decide)) | (exact absurd (c91.symm.trans c144) (by decide)) | (exact absurd c56 c82) | (exact absurd c82 c56) | (rw [fa_in (by (first | exact fun z => c56 z.1 | exact fun z => c65 (hx.trans z.2) | exact fun z => absurd ((hx.trans z.2).symm.trans c91) (by decide))) (by (first | exact fun z => c56 z.1 | exact fun z => c82 z.1 | exact fun z => c91 (hx.trans z.2)))] at he; (first | rw [if_pos (hx.symm.trans c131)] at he | (rw [if_neg (fun z => c131 (hx.trans z))] at he; first | rw [if_pos (hx.symm.trans c144)] at he | rw [if_neg (fun z => c144 (hx.trans z))] at he)); exact he)) (by omega)
              · skip
                refine w_iconst rfl rfl ?_
                refine w_goto (pc2 := 152) rfl (by decide) ?_
                refine w_iadd rfl rfl ?_
                refine w_istore rfl (by decide) rfl ?_
                refine w_iinc rfl (congrArg x_k2 l7) (by decide) rfl ?_
                refine w_goto (pc2 := 29) rfl (by decide) ?_
                refine w_iload rfl rfl rfl ?_
                refine w_iload_n rfl l3 rfl ?_
                refine w_ic_lt (pc2 := 161) (pc3 := 35) rfl (by decide) rfl ⟨by omega, by omega⟩ ⟨by omega, by omega⟩ (fun c32 => ?_) (fun c32 => ?_)
                · skip
                  exact ih.2 _ _ (by exact l0) (by exact l1) (by exact l2) (by exact (congrArg x_k2 l4)) (by exact (fr_v hfr (by omega))) (by left; refine ⟨by simp (disch := omega) only [rv_self, rv_ne, rl_self, rl_ne, rA_self, rA_ne, rL_self, rL_ne, rR_self, rR_ne, xvl, xvA, xvL, xvR, xlv, xlA, xlL, xlR, xAv, xAl, xAL, xAR, xLv, xLl, xLA, xLR, xRv, xRl, xRA, xRL], ?_⟩; have hnil : ts2 = [] := List.eq_nil_of_length_eq_zero (by rw [List.length_cons] at htl; omega); first | (exact absurd (c91.symm.trans c131) (by decide)) | (exact absurd (c91.symm.trans c144) (by decide)) | (exact absurd c56 c82) | (exact absurd c82 c56) | (rw [fa_in (by (first | exact fun z => c56 z.1 | exact fun z => c65 (hx.trans z.2) | exact fun z => absurd ((hx.trans z.2).symm.trans c91) (by decide))) (by (first | exact fun z => c56 z.1 | exact fun z => c82 z.1 | exact fun z => c91 (hx.trans z.2))), hnil] at he; rw [← he]; rfl) | (rw [fa_comma (by (first | exact fun z => c56 z.1 | exact fun z => c65 (hx.trans z.2) | exact fun z => absurd ((hx.trans z.2).symm.trans c91) (by decide))) ⟨by omega, hx.symm.trans c91⟩, hnil] at he; rw [← he]; rfl)) (by omega)
                · skip
                  refine w_aload_n rfl l2 rfl ?_
                  refine w_getI (z := (-1)) rfl rfl (sh_arg hq) rfl (rv_self _ _ _ _) rfl ?_
                  refine w_if_ge (pc2 := 161) (pc3 := 42) rfl (by decide) rfl ⟨by decide, by decide⟩ (fun hc => absurd hc (by decide)) (fun _ => ?_)
                  exact ih.1 (g + 1) h (i + (-1)) ts2 ((cur ++ [t])) as _ _ (by exact l0) (by exact l1) (by exact l2) (by exact l3) (by exact (congrArg x_k2 l4)) (by exact rfl) (by exact (congrArg x_k2 l6)) (by exact rfl) (by exact (fr_v hfr (by omega))) (by simp (disch := omega) only [rv_self, rv_ne, rl_self, rl_ne, rA_self, rA_ne, rL_self, rL_ne, rR_self, rR_ne, xvl, xvA, xvL, xvR, xlv, xlA, xlL, xlR, xAv, xAl, xAL, xAR, xLv, xLl, xLA, xLR, xRv, xRl, xRA, xRL]) (by simp (disch := omega) only [rv_self, rv_ne, rl_self, rl_ne, rA_self, rA_ne, rL_self, rL_ne, rR_self, rR_ne, xvl, xvA, xvL, xvR, xlv, xlA, xlL, xlR, xAv, xAl, xAL, xAR, xLv, xLl, xLA, xLR, xRv, xRl, xRA, xRL]; exact hct) (by omega) (by omega) (by rw [show i + -1 + 1 = i + 1 - 1 by omega]; exact hts.2.2) (by rw [List.length_cons] at htl; omega) (by exact (bw_app _ _ _).mpr ⟨hcu, by rw [show h - (cur.length : Int) = i + 1 by omega]; exact ⟨hts.1, hts.2.1, trivial⟩⟩) (by rw [List.length_append]; simp; omega) (by omega) (by first | omega | (exact absurd c144 c65) | (exact absurd (c144.symm.trans c91) (by decide))) (by omega) (by omega) (by simp (disch := omega) only [rv_self, rv_ne, rl_self, rl_ne, rA_self, rA_ne, rL_self, rL_ne, rR_self, rR_ne, xvl, xvA, xvL, xvR, xlv, xlA, xlL, xlR, xAv, xAl, xAL, xAR, xLv, xLl, xLA, xLR, xRv, xRl, xRA, xRL]; exact har) (by first | (exact absurd (c91.symm.trans c131) (by decide)) | (exact absurd (c91.symm.trans c144) (by decide)) | (exact absurd c56 c82) | (exact absurd c82 c56) | (rw [fa_in (by (first | exact fun z => c56 z.1 | exact fun z => c65 (hx.trans z.2) | exact fun z => absurd ((hx.trans z.2).symm.trans c91) (by decide))) (by (first | exact fun z => c56 z.1 | exact fun z => c82 z.1 | exact fun z => c91 (hx.trans z.2)))] at he; (first | rw [if_pos (hx.symm.trans c131)] at he | (rw [if_neg (fun z => c131 (hx.trans z))] at he; first | rw [if_pos (hx.symm.trans c144)] at he | rw [if_neg (fun z => c144 (hx.trans z))] at he)); exact he)) (by omega)
            · skip
              refine w_aload_n rfl l2 rfl ?_
              refine w_iload rfl (congrArg x_k2 l7) rfl ?_
              refine w_iconst rfl rfl ?_
              refine w_iadd rfl rfl ?_
              refine w_iload rfl l6 rfl ?_
              refine w_CV (as := [.int (iZ (i + 1)), .int (iZ h)]) (r := []) rfl rfl rfl rfl (sh_arg hq) (Nat.le_of_ble_eq_true rfl) (Nat.le_of_ble_eq_true rfl) (by omega) rfl (c_aad (S := U) (q := q) (x := i + 1) (y := h) hq (by omega) (by omega) (by omega)) ?_
              rintro _ W ⟨rfl, f1, a1, a2, a3, a4⟩
              show w_T _ _ 25 104 _ [] _ _
              rw [hct] at a1 a3 a4
              refine w_iload rfl (congrArg x_k2 l7) rfl ?_
              refine w_istore rfl (by decide) rfl ?_
              refine w_aload_n rfl l2 rfl ?_
              refine w_iload rfl rfl rfl ?_
              refine w_if_eq (pc2 := 119) (pc3 := 114) rfl (by decide) rfl ⟨by decide, by decide⟩ (fun _ => ?_) (fun hc => absurd hc (by decide))
              refine w_iconst rfl rfl ?_
              refine w_putf rfl rfl (sh_arg hq) rfl rfl (by decide) rfl ?_
              refine w_iload rfl (congrArg x_k2 l5) rfl ?_
              refine w_lload rfl rfl rfl ?_
              refine w_ldc2 (v := 40) rfl rfl rfl ?_
              refine w_l_ne (pc2 := 138) (pc3 := 134) rfl rfl (by decide) rfl (fun c131 => ?_) (fun c131 => ?_)
              · skip
                refine w_lload rfl rfl rfl ?_
                refine w_ldc2 (v := 41) rfl rfl rfl ?_
                refine w_l_ne (pc2 := 151) (pc3 := 147) rfl rfl (by decide) rfl (fun c144 => ?_) (fun c144 => ?_)
                · skip
                  refine w_iconst rfl rfl ?_
                  refine w_iadd rfl rfl ?_
                  refine w_istore rfl (by decide) rfl ?_
                  refine w_iinc rfl (congrArg x_k2 l7) (by decide) rfl ?_
                  refine w_goto (pc2 := 29) rfl (by decide) ?_
                  refine w_iload rfl rfl rfl ?_
                  refine w_iload_n rfl l3 rfl ?_
                  refine w_ic_lt (pc2 := 161) (pc3 := 35) rfl (by decide) rfl ⟨by omega, by omega⟩ ⟨by omega, by omega⟩ (fun c32 => ?_) (fun c32 => ?_)
                  · skip
                    exact ih.2 _ _ (by exact l0) (by exact l1) (by exact l2) (by exact (congrArg x_k2 l4)) (by exact (fr_v (fr_trans hfr f1) (by omega))) (by left; refine ⟨by simp (disch := omega) only [rv_self, rv_ne, rl_self, rl_ne, rA_self, rA_ne, rL_self, rL_ne, rR_self, rR_ne, xvl, xvA, xvL, xvR, xlv, xlA, xlL, xlR, xAv, xAl, xAL, xAR, xLv, xLl, xLA, xLR, xRv, xRl, xRA, xRL], ?_⟩; have hnil : ts2 = [] := List.eq_nil_of_length_eq_zero (by rw [List.length_cons] at htl; omega); first | (exact absurd (c91.symm.trans c131) (by decide)) | (exact absurd (c91.symm.trans c144) (by decide)) | (exact absurd c56 c82) | (exact absurd c82 c56) | (rw [fa_in (by (first | exact fun z => c56 z.1 | exact fun z => c65 (hx.trans z.2) | exact fun z => absurd ((hx.trans z.2).symm.trans c91) (by decide))) (by (first | exact fun z => c56 z.1 | exact fun z => c82 z.1 | exact fun z => c91 (hx.trans z.2))), hnil] at he; rw [← he]; rfl) | (rw [fa_comma (by (first | exact fun z => c56 z.1 | exact fun z => c65 (hx.trans z.2) | exact fun z => absurd ((hx.trans z.2).symm.trans c91) (by decide))) ⟨by omega, hx.symm.trans c91⟩, hnil] at he; rw [← he]; rfl)) (by omega)
                  · skip
                    refine w_aload_n rfl l2 rfl ?_
                    refine w_getI (z := (-1)) rfl rfl (sh_arg hq) rfl (rv_self _ _ _ _) rfl ?_
                    refine w_if_ge (pc2 := 161) (pc3 := 42) rfl (by decide) rfl ⟨by decide, by decide⟩ (fun hc => absurd hc (by decide)) (fun _ => ?_)
                    exact ih.1 (g + 0) i (i + (-1)) ts2 ([]) ((as ++ [cur])) _ _ (by exact l0) (by exact l1) (by exact l2) (by exact l3) (by exact (congrArg x_k2 l4)) (by exact rfl) (by exact rfl) (by exact rfl) (by exact (fr_v (fr_trans hfr f1) (by omega))) (by simp (disch := omega) only [rv_self, rv_ne, rl_self, rl_ne, rA_self, rA_ne, rL_self, rL_ne, rR_self, rR_ne, xvl, xvA, xvL, xvR, xlv, xlA, xlL, xlR, xAv, xAl, xAL, xAR, xLv, xLl, xLA, xLR, xRv, xRl, xRA, xRL]) (by simp (disch := omega) only [rv_self, rv_ne, rl_self, rl_ne, rA_self, rA_ne, rL_self, rL_ne, rR_self, rR_ne, xvl, xvA, xvL, xvR, xlv, xlA, xlL, xlR, xAv, xAl, xAL, xAR, xLv, xLl, xLA, xLR, xRv, xRl, xRA, xRL]; rw [a1, List.length_append]; rfl) (by omega) (by omega) (by rw [show i + -1 + 1 = i + 1 - 1 by omega]; exact hts.2.2) (by rw [List.length_cons] at htl; omega) (by exact trivial) (by rw [List.length_nil]; simp <;> omega) (by omega) (by first | omega | (exact absurd c144 c65) | (exact absurd (c144.symm.trans c91) (by decide))) (by omega) (by rw [List.length_append]; simp; omega) (by simp (disch := omega) only [rv_self, rv_ne, rl_self, rl_ne, rA_self, rA_ne, rL_self, rL_ne, rR_self, rR_ne, xvl, xvA, xvL, xvR, xlv, xlA, xlL, xlR, xAv, xAl, xAL, xAR, xLv, xLl, xLA, xLR, xRv, xRl, xRA, xRL]; exact argr_add har (fun k z => a3 k z) (fun z => by rw [(a4 z).1, (a4 z).2]; exact ⟨hcu, by omega, by omega, by omega⟩)) (by first | (exact absurd (c91.symm.trans c131) (by decide)) | (exact absurd (c91.symm.trans c144) (by decide)) | (exact absurd c56 c82) | (exact absurd c82 c56) | (rw [fa_comma (by (first | exact fun z => c56 z.1 | exact fun z => c65 (hx.trans z.2) | exact fun z => absurd ((hx.trans z.2).symm.trans c91) (by decide))) ⟨by omega, hx.symm.trans c91⟩] at he; rw [show g + 0 = 0 by omega]; exact he)) (by omega)
                · skip
                  refine w_iconst rfl rfl ?_
                  refine w_goto (pc2 := 152) rfl (by decide) ?_
                  refine w_iadd rfl rfl ?_
                  refine w_istore rfl (by decide) rfl ?_
                  refine w_iinc rfl (congrArg x_k2 l7) (by decide) rfl ?_
                  refine w_goto (pc2 := 29) rfl (by decide) ?_
                  refine w_iload rfl rfl rfl ?_
                  refine w_iload_n rfl l3 rfl ?_
                  refine w_ic_lt (pc2 := 161) (pc3 := 35) rfl (by decide) rfl ⟨by omega, by omega⟩ ⟨by omega, by omega⟩ (fun c32 => ?_) (fun c32 => ?_)
                  · skip
                    exact ih.2 _ _ (by exact l0) (by exact l1) (by exact l2) (by exact (congrArg x_k2 l4)) (by exact (fr_v (fr_trans hfr f1) (by omega))) (by left; refine ⟨by simp (disch := omega) only [rv_self, rv_ne, rl_self, rl_ne, rA_self, rA_ne, rL_self, rL_ne, rR_self, rR_ne, xvl, xvA, xvL, xvR, xlv, xlA, xlL, xlR, xAv, xAl, xAL, xAR, xLv, xLl, xLA, xLR, xRv, xRl, xRA, xRL], ?_⟩; have hnil : ts2 = [] := List.eq_nil_of_length_eq_zero (by rw [List.length_cons] at htl; omega); first | (exact absurd (c91.symm.trans c131) (by decide)) | (exact absurd (c91.symm.trans c144) (by decide)) | (exact absurd c56 c82) | (exact absurd c82 c56) | (rw [fa_in (by (first | exact fun z => c56 z.1 | exact fun z => c65 (hx.trans z.2) | exact fun z => absurd ((hx.trans z.2).symm.trans c91) (by decide))) (by (first | exact fun z => c56 z.1 | exact fun z => c82 z.1 | exact fun z => c91 (hx.trans z.2))), hnil] at he; rw [← he]; rfl) | (rw [fa_comma (by (first | exact fun z => c56 z.1 | exact fun z => c65 (hx.trans z.2) | exact fun z => absurd ((hx.trans z.2).symm.trans c91) (by decide))) ⟨by omega, hx.symm.trans c91⟩, hnil] at he; rw [← he]; rfl)) (by omega)
                  · skip
                    refine w_aload_n rfl l2 rfl ?_
                    refine w_getI (z := (-1)) rfl rfl (sh_arg hq) rfl (rv_self _ _ _ _) rfl ?_
                    refine w_if_ge (pc2 := 161) (pc3 := 42) rfl (by decide) rfl ⟨by decide, by decide⟩ (fun hc => absurd hc (by decide)) (fun _ => ?_)
                    exact ih.1 (g + ((-1))) i (i + (-1)) ts2 ([]) ((as ++ [cur])) _ _ (by exact l0) (by exact l1) (by exact l2) (by exact l3) (by exact (congrArg x_k2 l4)) (by exact rfl) (by exact rfl) (by exact rfl) (by exact (fr_v (fr_trans hfr f1) (by omega))) (by simp (disch := omega) only [rv_self, rv_ne, rl_self, rl_ne, rA_self, rA_ne, rL_self, rL_ne, rR_self, rR_ne, xvl, xvA, xvL, xvR, xlv, xlA, xlL, xlR, xAv, xAl, xAL, xAR, xLv, xLl, xLA, xLR, xRv, xRl, xRA, xRL]) (by simp (disch := omega) only [rv_self, rv_ne, rl_self, rl_ne, rA_self, rA_ne, rL_self, rL_ne, rR_self, rR_ne, xvl, xvA, xvL, xvR, xlv, xlA, xlL, xlR, xAv, xAl, xAL, xAR, xLv, xLl, xLA, xLR, xRv, xRl, xRA, xRL]; rw [a1, List.length_append]; rfl) (by omega) (by omega) (by rw [show i + -1 + 1 = i + 1 - 1 by omega]; exact hts.2.2) (by rw [List.length_cons] at htl; omega) (by exact trivial) (by rw [List.length_nil]; simp <;> omega) (by omega) (by first | omega | (exact absurd c144 c65) | (exact absurd (c144.symm.trans c91) (by decide))) (by omega) (by rw [List.length_append]; simp; omega) (by simp (disch := omega) only [rv_self, rv_ne, rl_self, rl_ne, rA_self, rA_ne, rL_self, rL_ne, rR_self, rR_ne, xvl, xvA, xvL, xvR, xlv, xlA, xlL, xlR, xAv, xAl, xAL, xAR, xLv, xLl, xLA, xLR, xRv, xRl, xRA, xRL]; exact argr_add har (fun k z => a3 k z) (fun z => by rw [(a4 z).1, (a4 z).2]; exact ⟨hcu, by omega, by omega, by omega⟩)) (by first | (exact absurd (c91.symm.trans c131) (by decide)) | (exact absurd (c91.symm.trans c144) (by decide)) | (exact absurd c56 c82) | (exact absurd c82 c56) | (rw [fa_comma (by (first | exact fun z => c56 z.1 | exact fun z => c65 (hx.trans z.2) | exact fun z => absurd ((hx.trans z.2).symm.trans c91) (by decide))) ⟨by omega, hx.symm.trans c91⟩] at he; rw [show g + 0 = 0 by omega]; exact he)) (by omega)
              · skip
                refine w_iconst rfl rfl ?_
                refine w_goto (pc2 := 152) rfl (by decide) ?_
                refine w_iadd rfl rfl ?_
                refine w_istore rfl (by decide) rfl ?_
                refine w_iinc rfl (congrArg x_k2 l7) (by decide) rfl ?_
                refine w_goto (pc2 := 29) rfl (by decide) ?_
                refine w_iload rfl rfl rfl ?_
                refine w_iload_n rfl l3 rfl ?_
                refine w_ic_lt (pc2 := 161) (pc3 := 35) rfl (by decide) rfl ⟨by omega, by omega⟩ ⟨by omega, by omega⟩ (fun c32 => ?_) (fun c32 => ?_)
                · skip
                  exact ih.2 _ _ (by exact l0) (by exact l1) (by exact l2) (by exact (congrArg x_k2 l4)) (by exact (fr_v (fr_trans hfr f1) (by omega))) (by left; refine ⟨by simp (disch := omega) only [rv_self, rv_ne, rl_self, rl_ne, rA_self, rA_ne, rL_self, rL_ne, rR_self, rR_ne, xvl, xvA, xvL, xvR, xlv, xlA, xlL, xlR, xAv, xAl, xAL, xAR, xLv, xLl, xLA, xLR, xRv, xRl, xRA, xRL], ?_⟩; have hnil : ts2 = [] := List.eq_nil_of_length_eq_zero (by rw [List.length_cons] at htl; omega); first | (exact absurd (c91.symm.trans c131) (by decide)) | (exact absurd (c91.symm.trans c144) (by decide)) | (exact absurd c56 c82) | (exact absurd c82 c56) | (rw [fa_in (by (first | exact fun z => c56 z.1 | exact fun z => c65 (hx.trans z.2) | exact fun z => absurd ((hx.trans z.2).symm.trans c91) (by decide))) (by (first | exact fun z => c56 z.1 | exact fun z => c82 z.1 | exact fun z => c91 (hx.trans z.2))), hnil] at he; rw [← he]; rfl) | (rw [fa_comma (by (first | exact fun z => c56 z.1 | exact fun z => c65 (hx.trans z.2) | exact fun z => absurd ((hx.trans z.2).symm.trans c91) (by decide))) ⟨by omega, hx.symm.trans c91⟩, hnil] at he; rw [← he]; rfl)) (by omega)
                · skip
                  refine w_aload_n rfl l2 rfl ?_
                  refine w_getI (z := (-1)) rfl rfl (sh_arg hq) rfl (rv_self _ _ _ _) rfl ?_
                  refine w_if_ge (pc2 := 161) (pc3 := 42) rfl (by decide) rfl ⟨by decide, by decide⟩ (fun hc => absurd hc (by decide)) (fun _ => ?_)
                  exact ih.1 (g + 1) i (i + (-1)) ts2 ([]) ((as ++ [cur])) _ _ (by exact l0) (by exact l1) (by exact l2) (by exact l3) (by exact (congrArg x_k2 l4)) (by exact rfl) (by exact rfl) (by exact rfl) (by exact (fr_v (fr_trans hfr f1) (by omega))) (by simp (disch := omega) only [rv_self, rv_ne, rl_self, rl_ne, rA_self, rA_ne, rL_self, rL_ne, rR_self, rR_ne, xvl, xvA, xvL, xvR, xlv, xlA, xlL, xlR, xAv, xAl, xAL, xAR, xLv, xLl, xLA, xLR, xRv, xRl, xRA, xRL]) (by simp (disch := omega) only [rv_self, rv_ne, rl_self, rl_ne, rA_self, rA_ne, rL_self, rL_ne, rR_self, rR_ne, xvl, xvA, xvL, xvR, xlv, xlA, xlL, xlR, xAv, xAl, xAL, xAR, xLv, xLl, xLA, xLR, xRv, xRl, xRA, xRL]; rw [a1, List.length_append]; rfl) (by omega) (by omega) (by rw [show i + -1 + 1 = i + 1 - 1 by omega]; exact hts.2.2) (by rw [List.length_cons] at htl; omega) (by exact trivial) (by rw [List.length_nil]; simp <;> omega) (by omega) (by first | omega | (exact absurd c144 c65) | (exact absurd (c144.symm.trans c91) (by decide))) (by omega) (by rw [List.length_append]; simp; omega) (by simp (disch := omega) only [rv_self, rv_ne, rl_self, rl_ne, rA_self, rA_ne, rL_self, rL_ne, rR_self, rR_ne, xvl, xvA, xvL, xvR, xlv, xlA, xlL, xlR, xAv, xAl, xAL, xAR, xLv, xLl, xLA, xLR, xRv, xRl, xRA, xRL]; exact argr_add har (fun k z => a3 k z) (fun z => by rw [(a4 z).1, (a4 z).2]; exact ⟨hcu, by omega, by omega, by omega⟩)) (by first | (exact absurd (c91.symm.trans c131) (by decide)) | (exact absurd (c91.symm.trans c144) (by decide)) | (exact absurd c56 c82) | (exact absurd c82 c56) | (rw [fa_comma (by (first | exact fun z => c56 z.1 | exact fun z => c65 (hx.trans z.2) | exact fun z => absurd ((hx.trans z.2).symm.trans c91) (by decide))) ⟨by omega, hx.symm.trans c91⟩] at he; rw [show g + 0 = 0 by omega]; exact he)) (by omega)
        · skip
          refine w_iconst rfl rfl ?_
          refine w_goto (pc2 := 73) rfl (by decide) ?_
          refine w_istore rfl (by decide) rfl ?_
          refine w_iload rfl rfl rfl ?_
          refine w_if_ne (pc2 := 94) (pc3 := 80) rfl (by decide) rfl ⟨by decide, by decide⟩ (fun _ => ?_) (fun hc => absurd hc (by decide))
          refine w_aload_n rfl l2 rfl ?_
          refine w_iload rfl (congrArg x_k2 l7) rfl ?_
          refine w_iconst rfl rfl ?_
          refine w_iadd rfl rfl ?_
          refine w_iload rfl l6 rfl ?_
          refine w_CV (as := [.int (iZ (i + 1)), .int (iZ h)]) (r := []) rfl rfl rfl rfl (sh_arg hq) (Nat.le_of_ble_eq_true rfl) (Nat.le_of_ble_eq_true rfl) (by omega) rfl (c_aad (S := U) (q := q) (x := i + 1) (y := h) hq (by omega) (by omega) (by omega)) ?_
          rintro _ W ⟨rfl, f1, a1, a2, a3, a4⟩
          show w_T _ _ 25 104 _ [] _ _
          rw [hct] at a1 a3 a4
          refine w_iload rfl (congrArg x_k2 l7) rfl ?_
          refine w_istore rfl (by decide) rfl ?_
          refine w_aload_n rfl l2 rfl ?_
          refine w_iload rfl rfl rfl ?_
          refine w_if_eq (pc2 := 119) (pc3 := 114) rfl (by decide) rfl ⟨by decide, by decide⟩ (fun hc => absurd hc (by decide)) (fun _ => ?_)
          refine w_iload rfl (congrArg x_k2 l7) rfl ?_
          refine w_goto (pc2 := 120) rfl (by decide) ?_
          refine w_putf rfl rfl (sh_arg hq) rfl rfl (by decide) rfl ?_
          refine w_iload rfl (congrArg x_k2 l5) rfl ?_
          refine w_lload rfl rfl rfl ?_
          refine w_ldc2 (v := 40) rfl rfl rfl ?_
          refine w_l_ne (pc2 := 138) (pc3 := 134) rfl rfl (by decide) rfl (fun c131 => ?_) (fun c131 => ?_)
          · skip
            refine w_lload rfl rfl rfl ?_
            refine w_ldc2 (v := 41) rfl rfl rfl ?_
            refine w_l_ne (pc2 := 151) (pc3 := 147) rfl rfl (by decide) rfl (fun c144 => ?_) (fun c144 => ?_)
            · skip
              refine w_iconst rfl rfl ?_
              refine w_iadd rfl rfl ?_
              refine w_istore rfl (by decide) rfl ?_
              refine w_iinc rfl (congrArg x_k2 l7) (by decide) rfl ?_
              refine w_goto (pc2 := 29) rfl (by decide) ?_
              refine w_iload rfl rfl rfl ?_
              refine w_iload_n rfl l3 rfl ?_
              refine w_ic_lt (pc2 := 161) (pc3 := 35) rfl (by decide) rfl ⟨by omega, by omega⟩ ⟨by omega, by omega⟩ (fun c32 => ?_) (fun c32 => ?_)
              · skip
                exact ih.2 _ _ (by exact l0) (by exact l1) (by exact l2) (by exact (congrArg x_k2 l4)) (by exact (fr_v (fr_trans hfr f1) (by omega))) (by first | (exact absurd (c91.symm.trans c131) (by decide)) | (exact absurd (c91.symm.trans c144) (by decide)) | (exact absurd c56 c82) | (exact absurd c82 c56) | (right; have hfd : fa r 0 [] [] = some (as ++ [cur], t, ts2) := (by rw [← he]; exact fa_end ⟨by omega, hx.symm.trans c65⟩); have hfe : fad r = (as ++ [cur], t, ts2) := (by unfold fad; rw [hfd]; rfl); rw [hfe]; refine ⟨?_, hfd, ?_, ?_, ?_, ?_, ?_⟩; (simp (disch := omega) only [rv_self, rv_ne, rl_self, rl_ne, rA_self, rA_ne, rL_self, rL_ne, rR_self, rR_ne, xvl, xvA, xvL, xvR, xlv, xlA, xlL, xlR, xAv, xAl, xAL, xAR, xLv, xLl, xLA, xLR, xRv, xRl, xRA, xRL]; rw [List.length_cons] at htl; show i = base + (ts2.length : Int); omega); (simp (disch := omega) only [rv_self, rv_ne, rl_self, rl_ne, rA_self, rA_ne, rL_self, rL_ne, rR_self, rR_ne, xvl, xvA, xvL, xvR, xlv, xlA, xlL, xlR, xAv, xAl, xAL, xAR, xLv, xLl, xLA, xLR, xRv, xRl, xRA, xRL]; rw [a1, List.length_append]; rfl); (simp (disch := omega) only [rv_self, rv_ne, rl_self, rl_ne, rA_self, rA_ne, rL_self, rL_ne, rR_self, rR_ne, xvl, xvA, xvL, xvR, xlv, xlA, xlL, xlR, xAv, xAl, xAL, xAR, xLv, xLl, xLA, xLR, xRv, xRl, xRA, xRL]; exact argr_add har (fun k z => a3 k z) (fun z => by rw [(a4 z).1, (a4 z).2]; exact ⟨hcu, by omega, by omega, by omega⟩)); (rw [List.length_cons] at htl; show bw _ _ _ (base + (ts2.length : Int) + 1) (t :: ts2); rw [show base + (ts2.length : Int) + 1 = i + 1 by omega]; exact hts); (rw [List.length_append]; simp; omega); (rw [List.length_cons] at htl; show (ts2.length : Int) ≤ 1360; omega))) (by omega)
              · skip
                refine w_aload_n rfl l2 rfl ?_
                refine w_getI (z := i) rfl rfl (sh_arg hq) rfl (rv_self _ _ _ _) rfl ?_
                refine w_if_ge (pc2 := 161) (pc3 := 42) rfl (by decide) rfl ⟨by omega, by omega⟩ (fun c39 => ?_) (fun c39 => ?_)
                · skip
                  exact ih.2 _ _ (by exact l0) (by exact l1) (by exact l2) (by exact (congrArg x_k2 l4)) (by exact (fr_v (fr_trans hfr f1) (by omega))) (by first | (exact absurd (c91.symm.trans c131) (by decide)) | (exact absurd (c91.symm.trans c144) (by decide)) | (exact absurd c56 c82) | (exact absurd c82 c56) | (right; have hfd : fa r 0 [] [] = some (as ++ [cur], t, ts2) := (by rw [← he]; exact fa_end ⟨by omega, hx.symm.trans c65⟩); have hfe : fad r = (as ++ [cur], t, ts2) := (by unfold fad; rw [hfd]; rfl); rw [hfe]; refine ⟨?_, hfd, ?_, ?_, ?_, ?_, ?_⟩; (simp (disch := omega) only [rv_self, rv_ne, rl_self, rl_ne, rA_self, rA_ne, rL_self, rL_ne, rR_self, rR_ne, xvl, xvA, xvL, xvR, xlv, xlA, xlL, xlR, xAv, xAl, xAL, xAR, xLv, xLl, xLA, xLR, xRv, xRl, xRA, xRL]; rw [List.length_cons] at htl; show i = base + (ts2.length : Int); omega); (simp (disch := omega) only [rv_self, rv_ne, rl_self, rl_ne, rA_self, rA_ne, rL_self, rL_ne, rR_self, rR_ne, xvl, xvA, xvL, xvR, xlv, xlA, xlL, xlR, xAv, xAl, xAL, xAR, xLv, xLl, xLA, xLR, xRv, xRl, xRA, xRL]; rw [a1, List.length_append]; rfl); (simp (disch := omega) only [rv_self, rv_ne, rl_self, rl_ne, rA_self, rA_ne, rL_self, rL_ne, rR_self, rR_ne, xvl, xvA, xvL, xvR, xlv, xlA, xlL, xlR, xAv, xAl, xAL, xAR, xLv, xLl, xLA, xLR, xRv, xRl, xRA, xRL]; exact argr_add har (fun k z => a3 k z) (fun z => by rw [(a4 z).1, (a4 z).2]; exact ⟨hcu, by omega, by omega, by omega⟩)); (rw [List.length_cons] at htl; show bw _ _ _ (base + (ts2.length : Int) + 1) (t :: ts2); rw [show base + (ts2.length : Int) + 1 = i + 1 by omega]; exact hts); (rw [List.length_append]; simp; omega); (rw [List.length_cons] at htl; show (ts2.length : Int) ≤ 1360; omega))) (by omega)
                · omega
            · skip
              refine w_iconst rfl rfl ?_
              refine w_goto (pc2 := 152) rfl (by decide) ?_
              refine w_iadd rfl rfl ?_
              refine w_istore rfl (by decide) rfl ?_
              refine w_iinc rfl (congrArg x_k2 l7) (by decide) rfl ?_
              refine w_goto (pc2 := 29) rfl (by decide) ?_
              refine w_iload rfl rfl rfl ?_
              refine w_iload_n rfl l3 rfl ?_
              refine w_ic_lt (pc2 := 161) (pc3 := 35) rfl (by decide) rfl ⟨by omega, by omega⟩ ⟨by omega, by omega⟩ (fun c32 => ?_) (fun c32 => ?_)
              · skip
                exact ih.2 _ _ (by exact l0) (by exact l1) (by exact l2) (by exact (congrArg x_k2 l4)) (by exact (fr_v (fr_trans hfr f1) (by omega))) (by first | (exact absurd (c91.symm.trans c131) (by decide)) | (exact absurd (c91.symm.trans c144) (by decide)) | (exact absurd c56 c82) | (exact absurd c82 c56) | (right; have hfd : fa r 0 [] [] = some (as ++ [cur], t, ts2) := (by rw [← he]; exact fa_end ⟨by omega, hx.symm.trans c65⟩); have hfe : fad r = (as ++ [cur], t, ts2) := (by unfold fad; rw [hfd]; rfl); rw [hfe]; refine ⟨?_, hfd, ?_, ?_, ?_, ?_, ?_⟩; (simp (disch := omega) only [rv_self, rv_ne, rl_self, rl_ne, rA_self, rA_ne, rL_self, rL_ne, rR_self, rR_ne, xvl, xvA, xvL, xvR, xlv, xlA, xlL, xlR, xAv, xAl, xAL, xAR, xLv, xLl, xLA, xLR, xRv, xRl, xRA, xRL]; rw [List.length_cons] at htl; show i = base + (ts2.length : Int); omega); (simp (disch := omega) only [rv_self, rv_ne, rl_self, rl_ne, rA_self, rA_ne, rL_self, rL_ne, rR_self, rR_ne, xvl, xvA, xvL, xvR, xlv, xlA, xlL, xlR, xAv, xAl, xAL, xAR, xLv, xLl, xLA, xLR, xRv, xRl, xRA, xRL]; rw [a1, List.length_append]; rfl); (simp (disch := omega) only [rv_self, rv_ne, rl_self, rl_ne, rA_self, rA_ne, rL_self, rL_ne, rR_self, rR_ne, xvl, xvA, xvL, xvR, xlv, xlA, xlL, xlR, xAv, xAl, xAL, xAR, xLv, xLl, xLA, xLR, xRv, xRl, xRA, xRL]; exact argr_add har (fun k z => a3 k z) (fun z => by rw [(a4 z).1, (a4 z).2]; exact ⟨hcu, by omega, by omega, by omega⟩)); (rw [List.length_cons] at htl; show bw _ _ _ (base + (ts2.length : Int) + 1) (t :: ts2); rw [show base + (ts2.length : Int) + 1 = i + 1 by omega]; exact hts); (rw [List.length_append]; simp; omega); (rw [List.length_cons] at htl; show (ts2.length : Int) ≤ 1360; omega))) (by omega)
              · skip
                refine w_aload_n rfl l2 rfl ?_
                refine w_getI (z := i) rfl rfl (sh_arg hq) rfl (rv_self _ _ _ _) rfl ?_
                refine w_if_ge (pc2 := 161) (pc3 := 42) rfl (by decide) rfl ⟨by omega, by omega⟩ (fun c39 => ?_) (fun c39 => ?_)
                · skip
                  exact ih.2 _ _ (by exact l0) (by exact l1) (by exact l2) (by exact (congrArg x_k2 l4)) (by exact (fr_v (fr_trans hfr f1) (by omega))) (by first | (exact absurd (c91.symm.trans c131) (by decide)) | (exact absurd (c91.symm.trans c144) (by decide)) | (exact absurd c56 c82) | (exact absurd c82 c56) | (right; have hfd : fa r 0 [] [] = some (as ++ [cur], t, ts2) := (by rw [← he]; exact fa_end ⟨by omega, hx.symm.trans c65⟩); have hfe : fad r = (as ++ [cur], t, ts2) := (by unfold fad; rw [hfd]; rfl); rw [hfe]; refine ⟨?_, hfd, ?_, ?_, ?_, ?_, ?_⟩; (simp (disch := omega) only [rv_self, rv_ne, rl_self, rl_ne, rA_self, rA_ne, rL_self, rL_ne, rR_self, rR_ne, xvl, xvA, xvL, xvR, xlv, xlA, xlL, xlR, xAv, xAl, xAL, xAR, xLv, xLl, xLA, xLR, xRv, xRl, xRA, xRL]; rw [List.length_cons] at htl; show i = base + (ts2.length : Int); omega); (simp (disch := omega) only [rv_self, rv_ne, rl_self, rl_ne, rA_self, rA_ne, rL_self, rL_ne, rR_self, rR_ne, xvl, xvA, xvL, xvR, xlv, xlA, xlL, xlR, xAv, xAl, xAL, xAR, xLv, xLl, xLA, xLR, xRv, xRl, xRA, xRL]; rw [a1, List.length_append]; rfl); (simp (disch := omega) only [rv_self, rv_ne, rl_self, rl_ne, rA_self, rA_ne, rL_self, rL_ne, rR_self, rR_ne, xvl, xvA, xvL, xvR, xlv, xlA, xlL, xlR, xAv, xAl, xAL, xAR, xLv, xLl, xLA, xLR, xRv, xRl, xRA, xRL]; exact argr_add har (fun k z => a3 k z) (fun z => by rw [(a4 z).1, (a4 z).2]; exact ⟨hcu, by omega, by omega, by omega⟩)); (rw [List.length_cons] at htl; show bw _ _ _ (base + (ts2.length : Int) + 1) (t :: ts2); rw [show base + (ts2.length : Int) + 1 = i + 1 by omega]; exact hts); (rw [List.length_append]; simp; omega); (rw [List.length_cons] at htl; show (ts2.length : Int) ≤ 1360; omega))) (by omega)
                · omega
          · skip
            refine w_iconst rfl rfl ?_
            refine w_goto (pc2 := 152) rfl (by decide) ?_
            refine w_iadd rfl rfl ?_
            refine w_istore rfl (by decide) rfl ?_
            refine w_iinc rfl (congrArg x_k2 l7) (by decide) rfl ?_
            refine w_goto (pc2 := 29) rfl (by decide) ?_
            refine w_iload rfl rfl rfl ?_
            refine w_iload_n rfl l3 rfl ?_
            refine w_ic_lt (pc2 := 161) (pc3 := 35) rfl (by decide) rfl ⟨by omega, by omega⟩ ⟨by omega, by omega⟩ (fun c32 => ?_) (fun c32 => ?_)
            · skip
              exact ih.2 _ _ (by exact l0) (by exact l1) (by exact l2) (by exact (congrArg x_k2 l4)) (by exact (fr_v (fr_trans hfr f1) (by omega))) (by first | (exact absurd (c91.symm.trans c131) (by decide)) | (exact absurd (c91.symm.trans c144) (by decide)) | (exact absurd c56 c82) | (exact absurd c82 c56) | (right; have hfd : fa r 0 [] [] = some (as ++ [cur], t, ts2) := (by rw [← he]; exact fa_end ⟨by omega, hx.symm.trans c65⟩); have hfe : fad r = (as ++ [cur], t, ts2) := (by unfold fad; rw [hfd]; rfl); rw [hfe]; refine ⟨?_, hfd, ?_, ?_, ?_, ?_, ?_⟩; (simp (disch := omega) only [rv_self, rv_ne, rl_self, rl_ne, rA_self, rA_ne, rL_self, rL_ne, rR_self, rR_ne, xvl, xvA, xvL, xvR, xlv, xlA, xlL, xlR, xAv, xAl, xAL, xAR, xLv, xLl, xLA, xLR, xRv, xRl, xRA, xRL]; rw [List.length_cons] at htl; show i = base + (ts2.length : Int); omega); (simp (disch := omega) only [rv_self, rv_ne, rl_self, rl_ne, rA_self, rA_ne, rL_self, rL_ne, rR_self, rR_ne, xvl, xvA, xvL, xvR, xlv, xlA, xlL, xlR, xAv, xAl, xAL, xAR, xLv, xLl, xLA, xLR, xRv, xRl, xRA, xRL]; rw [a1, List.length_append]; rfl); (simp (disch := omega) only [rv_self, rv_ne, rl_self, rl_ne, rA_self, rA_ne, rL_self, rL_ne, rR_self, rR_ne, xvl, xvA, xvL, xvR, xlv, xlA, xlL, xlR, xAv, xAl, xAL, xAR, xLv, xLl, xLA, xLR, xRv, xRl, xRA, xRL]; exact argr_add har (fun k z => a3 k z) (fun z => by rw [(a4 z).1, (a4 z).2]; exact ⟨hcu, by omega, by omega, by omega⟩)); (rw [List.length_cons] at htl; show bw _ _ _ (base + (ts2.length : Int) + 1) (t :: ts2); rw [show base + (ts2.length : Int) + 1 = i + 1 by omega]; exact hts); (rw [List.length_append]; simp; omega); (rw [List.length_cons] at htl; show (ts2.length : Int) ≤ 1360; omega))) (by omega)
            · skip
              refine w_aload_n rfl l2 rfl ?_
              refine w_getI (z := i) rfl rfl (sh_arg hq) rfl (rv_self _ _ _ _) rfl ?_
              refine w_if_ge (pc2 := 161) (pc3 := 42) rfl (by decide) rfl ⟨by omega, by omega⟩ (fun c39 => ?_) (fun c39 => ?_)
              · skip
                exact ih.2 _ _ (by exact l0) (by exact l1) (by exact l2) (by exact (congrArg x_k2 l4)) (by exact (fr_v (fr_trans hfr f1) (by omega))) (by first | (exact absurd (c91.symm.trans c131) (by decide)) | (exact absurd (c91.symm.trans c144) (by decide)) | (exact absurd c56 c82) | (exact absurd c82 c56) | (right; have hfd : fa r 0 [] [] = some (as ++ [cur], t, ts2) := (by rw [← he]; exact fa_end ⟨by omega, hx.symm.trans c65⟩); have hfe : fad r = (as ++ [cur], t, ts2) := (by unfold fad; rw [hfd]; rfl); rw [hfe]; refine ⟨?_, hfd, ?_, ?_, ?_, ?_, ?_⟩; (simp (disch := omega) only [rv_self, rv_ne, rl_self, rl_ne, rA_self, rA_ne, rL_self, rL_ne, rR_self, rR_ne, xvl, xvA, xvL, xvR, xlv, xlA, xlL, xlR, xAv, xAl, xAL, xAR, xLv, xLl, xLA, xLR, xRv, xRl, xRA, xRL]; rw [List.length_cons] at htl; show i = base + (ts2.length : Int); omega); (simp (disch := omega) only [rv_self, rv_ne, rl_self, rl_ne, rA_self, rA_ne, rL_self, rL_ne, rR_self, rR_ne, xvl, xvA, xvL, xvR, xlv, xlA, xlL, xlR, xAv, xAl, xAL, xAR, xLv, xLl, xLA, xLR, xRv, xRl, xRA, xRL]; rw [a1, List.length_append]; rfl); (simp (disch := omega) only [rv_self, rv_ne, rl_self, rl_ne, rA_self, rA_ne, rL_self, rL_ne, rR_self, rR_ne, xvl, xvA, xvL, xvR, xlv, xlA, xlL, xlR, xAv, xAl, xAL, xAR, xLv, xLl, xLA, xLR, xRv, xRl, xRA, xRL]; exact argr_add har (fun k z => a3 k z) (fun z => by rw [(a4 z).1, (a4 z).2]; exact ⟨hcu, by omega, by omega, by omega⟩)); (rw [List.length_cons] at htl; show bw _ _ _ (base + (ts2.length : Int) + 1) (t :: ts2); rw [show base + (ts2.length : Int) + 1 = i + 1 by omega]; exact hts); (rw [List.length_append]; simp; omega); (rw [List.length_cons] at htl; show (ts2.length : Int) ≤ 1360; omega))) (by omega)
              · omega
    · skip
      intro U lv l0 l1 l2 l4 hfr hcc hm
      have eP : sv U 33 2 = sv S 33 2 := fr_gv hfr (by omega) 2
      have ep2 : sv U (6 + 3 * u) 2 = sv S (6 + 3 * u) 2 := fr_gv hfr (by omega) 2
      have hpl := hk.2.2.1
      have hp3 := ho.1
      refine w_aload_n rfl l2 rfl ?_
      refine w_getI (z := sv U (43 + 5 * q) 5) rfl rfl (sh_arg hq) rfl rfl rfl ?_
      refine w_if_ge (pc2 := 171) (pc3 := 168) rfl (by decide) rfl ⟨by omega, by omega⟩ (fun c165 => ?_) (fun c165 => ?_)
      · skip
        have hs := hcc.resolve_left (fun z => by have := z.1; omega)
        have hs1 := hs.1
        have hs3 := hs.2.2.1
        have hs6 := hs.2.2.2.2.2.1
        have hbt : fbt r (fad r).2.2 = sv S 33 2 - 3 - sv U (43 + 5 * q) 5 := by
          unfold fbt
          omega
        refine w_iload rfl l4 rfl ?_
        refine w_aload_n rfl l2 rfl ?_
        refine w_getI (z := sv U (43 + 5 * q) 5) rfl rfl (sh_arg hq) rfl rfl rfl ?_
        refine w_isub rfl rfl ?_
        refine w_istore rfl (by decide) rfl ?_
        refine w_iload rfl rfl rfl ?_
        refine w_if_ne (pc2 := 196) (pc3 := 185) rfl (by decide) rfl ⟨by omega, by omega⟩ (fun c182 => ?_) (fun c182 => ?_)
        · skip
          refine w_aload_n rfl l2 rfl ?_
          refine w_getI (z := sv U (43 + 5 * q) 4) rfl rfl (sh_arg hq) rfl rfl rfl ?_
          refine w_istore rfl (by decide) rfl ?_
          refine w_iload rfl rfl rfl ?_
          refine w_aload_n rfl l1 rfl ?_
          refine w_getI (z := sv U (6 + 3 * u) 2) rfl rfl (sh_mac hu) rfl rfl rfl ?_
          refine w_ic_eq (pc2 := 214) (pc3 := 211) rfl (by decide) rfl ⟨by omega, by omega⟩ ⟨by omega, by omega⟩ (fun c208 => ?_) (fun c208 => ?_)
          · skip
            refine w_iload rfl rfl rfl ?_
            refine w_bipush rfl (by decide) rfl ?_
            refine w_ic_le (pc2 := 226) (pc3 := 221) rfl (by decide) rfl ⟨by omega, by omega⟩ ⟨by decide, by decide⟩ (fun c218 => ?_) (fun c218 => ?_)
            · skip
              refine w_iconst rfl rfl ?_
              refine w_iret rfl rfl ?_
              have hfg : fargs e r = (0, fad r) := by
                rw [fargs_eq hs.2.1, if_neg (by unfold fcn; split <;> omega), if_neg (by omega)]
              rw [hfg]
              exact ⟨rfl, hfr, fun _ => ⟨hs.1, hs.2.2.2.1, hs.2.2.2.2.1⟩⟩
            · skip
              refine w_bipush rfl (by decide) rfl ?_
              refine w_goto (pc2 := 227) rfl (by decide) ?_
              refine w_iret rfl rfl ?_
              have hfg : fargs e r = (7, fad r) := by
                rw [fargs_eq hs.2.1, if_neg (by unfold fcn; split <;> omega), if_pos (by omega)]
              rw [hfg]
              exact ⟨rfl, hfr, fun z => absurd z (by show ¬ (7 : Int) = 0; decide)⟩
          · skip
            refine w_bipush rfl (by decide) rfl ?_
            refine w_iret rfl rfl ?_
            have hfg : fargs e r = (8, fad r) := by
              rw [fargs_eq hs.2.1, if_pos]
              unfold fcn
              split <;> omega
            rw [hfg]
            exact ⟨rfl, hfr, fun z => absurd z (by show ¬ (8 : Int) = 0; decide)⟩
        · skip
          refine w_aload_n rfl l1 rfl ?_
          refine w_getI (z := sv U (6 + 3 * u) 2) rfl rfl (sh_mac hu) rfl rfl rfl ?_
          refine w_if_ne (pc2 := 196) (pc3 := 192) rfl (by decide) rfl ⟨by omega, by omega⟩ (fun c189 => ?_) (fun c189 => ?_)
          · skip
            refine w_aload_n rfl l2 rfl ?_
            refine w_getI (z := sv U (43 + 5 * q) 4) rfl rfl (sh_arg hq) rfl rfl rfl ?_
            refine w_istore rfl (by decide) rfl ?_
            refine w_iload rfl rfl rfl ?_
            refine w_aload_n rfl l1 rfl ?_
            refine w_getI (z := sv U (6 + 3 * u) 2) rfl rfl (sh_mac hu) rfl rfl rfl ?_
            refine w_ic_eq (pc2 := 214) (pc3 := 211) rfl (by decide) rfl ⟨by omega, by omega⟩ ⟨by omega, by omega⟩ (fun c208 => ?_) (fun c208 => ?_)
            · skip
              refine w_iload rfl rfl rfl ?_
              refine w_bipush rfl (by decide) rfl ?_
              refine w_ic_le (pc2 := 226) (pc3 := 221) rfl (by decide) rfl ⟨by omega, by omega⟩ ⟨by decide, by decide⟩ (fun c218 => ?_) (fun c218 => ?_)
              · skip
                refine w_iconst rfl rfl ?_
                refine w_iret rfl rfl ?_
                have hfg : fargs e r = (0, fad r) := by
                  rw [fargs_eq hs.2.1, if_neg (by unfold fcn; split <;> omega), if_neg (by omega)]
                rw [hfg]
                exact ⟨rfl, hfr, fun _ => ⟨hs.1, hs.2.2.2.1, hs.2.2.2.2.1⟩⟩
              · skip
                refine w_bipush rfl (by decide) rfl ?_
                refine w_goto (pc2 := 227) rfl (by decide) ?_
                refine w_iret rfl rfl ?_
                have hfg : fargs e r = (7, fad r) := by
                  rw [fargs_eq hs.2.1, if_neg (by unfold fcn; split <;> omega), if_pos (by omega)]
                rw [hfg]
                exact ⟨rfl, hfr, fun z => absurd z (by show ¬ (7 : Int) = 0; decide)⟩
            · skip
              refine w_bipush rfl (by decide) rfl ?_
              refine w_iret rfl rfl ?_
              have hfg : fargs e r = (8, fad r) := by
                rw [fargs_eq hs.2.1, if_pos]
                unfold fcn
                split <;> omega
              rw [hfg]
              exact ⟨rfl, hfr, fun z => absurd z (by show ¬ (8 : Int) = 0; decide)⟩
          · skip
            refine w_iconst rfl rfl ?_
            refine w_goto (pc2 := 200) rfl (by decide) ?_
            refine w_istore rfl (by decide) rfl ?_
            refine w_iload rfl rfl rfl ?_
            refine w_aload_n rfl l1 rfl ?_
            refine w_getI (z := sv U (6 + 3 * u) 2) rfl rfl (sh_mac hu) rfl rfl rfl ?_
            refine w_ic_eq (pc2 := 214) (pc3 := 211) rfl (by decide) rfl ⟨by decide, by decide⟩ ⟨by omega, by omega⟩ (fun c208 => ?_) (fun c208 => ?_)
            · skip
              refine w_iload rfl rfl rfl ?_
              refine w_bipush rfl (by decide) rfl ?_
              refine w_ic_le (pc2 := 226) (pc3 := 221) rfl (by decide) rfl ⟨by omega, by omega⟩ ⟨by decide, by decide⟩ (fun c218 => ?_) (fun c218 => ?_)
              · skip
                refine w_iconst rfl rfl ?_
                refine w_iret rfl rfl ?_
                have hfg : fargs e r = (0, fad r) := by
                  rw [fargs_eq hs.2.1, if_neg (by unfold fcn; split <;> omega), if_neg (by omega)]
                rw [hfg]
                exact ⟨rfl, hfr, fun _ => ⟨hs.1, hs.2.2.2.1, hs.2.2.2.2.1⟩⟩
              · skip
                refine w_bipush rfl (by decide) rfl ?_
                refine w_goto (pc2 := 227) rfl (by decide) ?_
                refine w_iret rfl rfl ?_
                have hfg : fargs e r = (7, fad r) := by
                  rw [fargs_eq hs.2.1, if_neg (by unfold fcn; split <;> omega), if_pos (by omega)]
                rw [hfg]
                exact ⟨rfl, hfr, fun z => absurd z (by show ¬ (7 : Int) = 0; decide)⟩
            · skip
              refine w_bipush rfl (by decide) rfl ?_
              refine w_iret rfl rfl ?_
              have hfg : fargs e r = (8, fad r) := by
                rw [fargs_eq hs.2.1, if_pos]
                unfold fcn
                split <;> omega
              rw [hfg]
              exact ⟨rfl, hfr, fun z => absurd z (by show ¬ (8 : Int) = 0; decide)⟩
      · skip
        refine w_bipush rfl (by decide) rfl ?_
        refine w_iret rfl rfl ?_
        have hn : fa r 0 [] [] = none := by
          rcases hcc with z | z
          · exact z.2
          · have := z.1
            omega
        have hfg : fargs e r = (8, [], e0, []) := by unfold fargs; rw [hn]
        rw [hfg]
        exact ⟨rfl, hfr, fun z => absurd z (by show ¬ (8 : Int) = 0; decide)⟩
theorem c_fa {sc : x_S} {d : Nat} {S : w_S} {T : List Mac} {u q : Nat} {e : Mac} {base : Int} {r : List ETok} (hq : q < 31) (hu : u < 8) (hk : cmac S u e) (ho : mok e) (hc0 : sv S (43 + 5 * q) 4 = 0) (hp : sv S 33 2 = base + r.length + 2) (b0 : 0 ≤ base) (hP : sv S 33 2 ≤ 1360) (hb : bw (nmT T) (sL S 34) (sA S 35) (sv S 33 2 - 2) r) (hd : 1 ≤ d) : w_T sc d 25 0 (x_en 0 [.ref 3, .ref (6 + 3 * u), .ref (43 + 5 * q), .int (iZ base)]) [] S (fun v S2 => v = some (.int (iZ (fargs e r).1)) ∧ fr (fun a => 43 + 5 * q ≤ a ∧ a ≤ 45 + 5 * q) S S2 ∧ ((fargs e r).1 = 0 → sv S2 (43 + 5 * q) 5 = base + (fargs e r).2.2.2.length ∧ argr (nmT T) (sL S 34) (sA S 35) (sA S2 (44 + 5 * q)) (sA S2 (45 + 5 * q)) base (sv S 33 2 - 2) (fargs e r).2.1 ∧ bw (nmT T) (sL S 34) (sA S 35) (base + (fargs e r).2.2.2.length + 1) ((fargs e r).2.2.1 :: (fargs e r).2.2.2))) := by
  have hpl := hk.2.2.1
  have hp3 := ho.1
  refine w_aload_n rfl rfl rfl ?_
  refine w_getR rfl rfl sh_3 rfl rfl ?_
  refine w_getI (z := sv S 33 2) rfl rfl sh_33 rfl rfl rfl ?_
  refine w_iconst rfl rfl ?_
  refine w_isub rfl rfl ?_
  refine w_istore rfl (by decide) rfl ?_
  refine w_iconst rfl rfl ?_
  refine w_istore rfl (by decide) rfl ?_
  refine w_iload rfl rfl rfl ?_
  refine w_iconst rfl rfl ?_
  refine w_iadd rfl rfl ?_
  refine w_istore rfl (by decide) rfl ?_
  refine w_aload_n rfl rfl rfl ?_
  refine w_iconst rfl rfl ?_
  refine w_putf rfl rfl (sh_arg hq) rfl rfl (by decide) rfl ?_
  refine w_iload rfl rfl rfl ?_
  refine w_istore rfl (by decide) rfl ?_
  refine w_iload rfl rfl rfl ?_
  refine w_iload_n rfl rfl rfl ?_
  refine w_ic_lt (pc2 := 161) (pc3 := 35) rfl (by decide) rfl ⟨by omega, by omega⟩ ⟨by omega, by omega⟩ (fun c32 => ?_) (fun c32 => ?_)
  · skip
    exact (c_fa_c hq hu hk ho hc0 hp b0 hP hb hd _).2 _ _ rfl rfl rfl rfl (by exact (fr_v (fr_refl _ _) (by omega))) (by left; refine ⟨by simp (disch := omega) only [rv_self, rv_ne, rl_self, rl_ne, rA_self, rA_ne, rL_self, rL_ne, rR_self, rR_ne, xvl, xvA, xvL, xvR, xlv, xlA, xlL, xlR, xAv, xAl, xAL, xAR, xLv, xLl, xLA, xLR, xRv, xRl, xRA, xRL], ?_⟩; have : r = [] := List.eq_nil_of_length_eq_zero (by omega); cases this; rfl) (Nat.lt_succ_self _)
  · skip
    refine w_aload_n rfl rfl rfl ?_
    refine w_getI (z := (-1)) rfl rfl (sh_arg hq) rfl (rv_self _ _ _ _) rfl ?_
    refine w_if_ge (pc2 := 161) (pc3 := 42) rfl (by decide) rfl ⟨by decide, by decide⟩ (fun hc => absurd hc (by decide)) (fun _ => ?_)
    exact (c_fa_c hq hu hk ho hc0 hp b0 hP hb hd _).1 0 (sv S 33 2 - 3 + 1) (sv S 33 2 - 3) r ([]) ([]) _ _ rfl rfl rfl rfl rfl rfl rfl rfl (by exact (fr_v (fr_refl _ _) (by omega))) (by simp (disch := omega) only [rv_self, rv_ne, rl_self, rl_ne, rA_self, rA_ne, rL_self, rL_ne, rR_self, rR_ne, xvl, xvA, xvL, xvR, xlv, xlA, xlL, xlR, xAv, xAl, xAL, xAR, xLv, xLl, xLA, xLR, xRv, xRl, xRA, xRL]) (by simp (disch := omega) only [rv_self, rv_ne, rl_self, rl_ne, rA_self, rA_ne, rL_self, rL_ne, rR_self, rR_ne, xvl, xvA, xvL, xvR, xlv, xlA, xlL, xlR, xAv, xAl, xAL, xAR, xLv, xLl, xLA, xLR, xRv, xRl, xRA, xRL]; rw [hc0]; rfl) (by omega) (by omega) (by rw [show sv S 33 2 - 3 + 1 = sv S 33 2 - 2 by omega]; exact hb) (by omega) (by exact trivial) (by rw [List.length_nil]; simp <;> omega) (by omega) (by omega) (by omega) (by rw [List.length_nil]; simp <;> omega) (by exact fun k z => absurd z (by simp)) (by rfl) (Nat.lt_succ_self _)
