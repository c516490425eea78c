/-! The reference expands a group. -/
theorem r_xe_c {sc : x_S} {d : Nat} {S : w_S} {nm : Nat → Int64} {gs : List ETok} {ol : List OTok} {z : Int} (z0 : 0 ≤ z) (z1 : z ≤ 99) (hgo : z = 99 → sv S 249 32 = gs.length ∧ fw nm (sL S 271) (sA S 272) 0 gs ∧ loks gs ∧ gs.length ≤ 1360) (hoz : sv S 249 49 = ol.length) (ho1 : ol.length ≤ 100) (hof : ofn (sL S 285) (sA S 286) 1 0 ol) (hd : 0 ≤ d) : ∀ n : Nat, (∀  (lv : x_L) (l0 : lv 0 = some (.ref 249)) (l1 : lv 1 = some (.int (iZ z)))  (hm : 2000 < n), w_T sc d 136 91 lv [] S (fun v S2 => v = some (.int (iZ (if ¬ z = 99 then z else if 100 < (ol.length : Int) + gs.length then 7 else 0))) ∧ fr (fun a => a = 249 ∨ a = 285 ∨ a = 286) S S2 ∧ (∀ k, ¬ k = 49 → sv S2 249 k = sv S 249 k) ∧ (z = 99 → (ol.length : Int) + gs.length ≤ 100 → sv S2 249 49 = (ol ++ gs.map eot).length ∧ ofn (sL S2 285) (sA S2 286) 1 0 (ol ++ gs.map eot)))) ∧ (∀ (i : Int) (k1 : List ETok) (k2 : List ETok) (U : w_S) (lv : x_L) (l0 : lv 0 = some (.ref 249)) (l2 : lv 2 = some (.int (iZ i))) (hz : z = 99) (h00 : (ol.length : Int) + gs.length ≤ 100) (hfr : fr (fun a => a = 249 ∨ a = 285 ∨ a = 286) S U) (h9 : ∀ k, ¬ k = 49 → sv U 249 k = sv S 249 k) (hsp : gs = k1 ++ k2) (hi : i = k1.length) (hzz : sv U 249 49 = (ol ++ k1.map eot).length) (hof2 : ofn (sL U 285) (sA U 286) 1 0 (ol ++ k1.map eot)) (hm : k2.length < n), w_T sc d 136 118 lv [] U (fun v S2 => v = some (.int (iZ (if ¬ z = 99 then z else if 100 < (ol.length : Int) + gs.length then 7 else 0))) ∧ fr (fun a => a = 249 ∨ a = 285 ∨ a = 286) S S2 ∧ (∀ k, ¬ k = 49 → sv S2 249 k = sv S 249 k) ∧ (z = 99 → (ol.length : Int) + gs.length ≤ 100 → sv S2 249 49 = (ol ++ gs.map eot).length ∧ ofn (sL S2 285) (sA S2 286) 1 0 (ol ++ gs.map eot)))) := by
  intro n
  induction n with
  | zero => exact ⟨fun lv l0 l1 hm => absurd hm (Nat.not_lt_zero _), fun i k1 k2 U lv l0 l2 hz h00 hfr h9 hsp hi hzz hof2 hm => absurd hm (Nat.not_lt_zero _)⟩
  | succ n ih =>
    refine ⟨?_, ?_⟩
    · skip
      intro lv l0 l1 hm
      refine w_iload_n rfl l1 rfl ?_
      refine w_bipush rfl (by decide) rfl ?_
      refine w_ic_eq (pc2 := 99) (pc3 := 97) rfl (by decide) rfl ⟨by omega, by omega⟩ ⟨by decide, by decide⟩ (fun c94 => ?_) (fun c94 => ?_)
      · skip
        obtain ⟨g1, g2, g3, g4⟩ := hgo c94
        refine w_aload_n rfl l0 rfl ?_
        refine w_getI (z := sv S 249 49) rfl rfl sh_249 rfl rfl rfl ?_
        refine w_aload_n rfl l0 rfl ?_
        refine w_getI (z := sv S 249 32) rfl rfl sh_249 rfl rfl rfl ?_
        refine w_iadd rfl rfl ?_
        refine w_bipush rfl (by decide) rfl ?_
        refine w_ic_le (pc2 := 116) (pc3 := 113) rfl (by decide) rfl ⟨by omega, by omega⟩ ⟨by decide, by decide⟩ (fun c110 => ?_) (fun c110 => ?_)
        · skip
          refine w_iconst rfl rfl ?_
          refine w_istore_n rfl (by decide) rfl ?_
          exact ih.2 0 ([]) gs _ _ l0 rfl (by exact c94) (by omega) (by exact fr_refl _ _) (by intro k hk; rfl) (by rfl) (by rfl) (by rw [hoz]; simp) (by show ofn _ _ _ _ (ol ++ []); rw [List.append_nil]; exact hof) (by first | omega | (simp only [List.length_cons] at hm; omega))
        · skip
          refine w_bipush rfl (by decide) rfl ?_
          refine w_iret rfl rfl ?_
          rw [if_neg (not_not_intro c94), if_pos (by omega)]
          exact ⟨rfl, fr_refl _ _, fun _ _ => rfl, fun _ q => by omega⟩
      · skip
        refine w_iload_n rfl l1 rfl ?_
        refine w_iret rfl rfl ?_
        rw [if_pos c94]
        exact ⟨rfl, fr_refl _ _, fun _ _ => rfl, fun q => absurd q c94⟩
    · skip
      intro i k1 k2 U lv l0 l2 hz h00 hfr h9 hsp hi hzz hof2 hm
      obtain ⟨g1, g2, g3, g4⟩ := hgo hz
      have hlk : (gs.length : Int) = k1.length + k2.length := by rw [hsp, List.length_append]; omega
      have hlo : ((ol ++ k1.map eot).length : Int) = ol.length + k1.length := by rw [List.length_append, List.length_map]; omega
      have e32 := h9 32 (by decide)
      refine w_iload_n rfl l2 rfl ?_
      refine w_aload_n rfl l0 rfl ?_
      refine w_getI (z := sv U 249 32) rfl rfl sh_249 rfl rfl rfl ?_
      refine w_ic_ge (pc2 := 175) (pc3 := 126) rfl (by decide) rfl ⟨by omega, by omega⟩ ⟨by omega, by omega⟩ (fun c123 => ?_) (fun c123 => ?_)
      · skip
        refine w_iconst rfl rfl ?_
        refine w_iret rfl rfl ?_
        have hn : k2 = [] := List.eq_nil_of_length_eq_zero (by omega)
        rw [hn, List.append_nil] at hsp
        rw [if_neg (not_not_intro hz), if_neg (by omega), hsp]
        exact ⟨rfl, hfr, h9, fun _ _ => ⟨hzz, hof2⟩⟩
      · skip
        obtain ⟨x, k3, rfl⟩ := list_cons (l := k2) (by omega)
        have hxw : sL U 271 i = x.1 ∧ sA U 272 i = eo nm x := by
          rw [fr_gL hfr (by omega), fr_gA hfr (by omega)]
          rw [hsp] at g2
          have := ((fw_app k1 _ 0).mp g2).2
          rw [Int.zero_add, ← hi] at this
          exact ⟨this.1, this.2.1⟩
        have hxo : eok x := g3 x (by rw [hsp]; simp)
        have hxr := eo_R (nm := nm) hxo.2.1 hxo.2.2
        have hsr : zshr (sA U 272 i) 8 = x.2.1 := by rw [hxw.2, zshr_div ⟨by omega, by omega⟩ (by omega) (by omega)]; exact eo_div nm x
        simp only [List.length_cons] at hlk
        refine w_aload_n rfl l0 rfl ?_
        refine w_getR rfl rfl sh_249 rfl rfl ?_
        refine w_aload_n rfl l0 rfl ?_
        refine w_getI (z := sv U 249 49) rfl rfl sh_249 rfl rfl rfl ?_
        refine w_aload_n rfl l0 rfl ?_
        refine w_getR rfl rfl sh_249 rfl rfl ?_
        refine w_iload_n rfl l2 rfl ?_
        refine w_lald (z := sL U 271 i) rfl sh_271 (by omega) (by omega) (by decide) rfl rfl ?_
        refine w_laS (f := sL U 285) rfl sh_285 (by omega) (by omega) (by decide) rfl rfl ?_
        refine w_aload_n rfl l0 rfl ?_
        refine w_getR rfl rfl sh_249 rfl rfl ?_
        refine w_aload_n rfl l0 rfl ?_
        refine w_getI (z := sv U 249 49) rfl rfl sh_249 rfl rfl rfl ?_
        refine w_aload_n rfl l0 rfl ?_
        refine w_getR rfl rfl sh_249 rfl rfl ?_
        refine w_iload_n rfl l2 rfl ?_
        refine w_iald (z := sA U 272 i) rfl sh_272 (by omega) (by omega) (by decide) rfl rfl ?_
        refine w_bipush rfl (by decide) rfl ?_
        refine w_zshr rfl rfl ?_
        refine w_iaS (f := sA U 286) rfl sh_286 (by omega) (by omega) (by decide) rfl rfl ?_
        refine w_aload_n rfl l0 rfl ?_
        refine w_dup rfl rfl rfl ?_
        refine w_getI (z := sv U 249 49) rfl rfl sh_249 rfl rfl rfl ?_
        refine w_iconst rfl rfl ?_
        refine w_iadd rfl rfl ?_
        refine w_putf rfl rfl sh_249 rfl rfl (by decide) rfl ?_
        refine w_iinc rfl l2 (by decide) rfl ?_
        refine w_goto (pc2 := 118) rfl (by decide) ?_
        exact ih.2 (i + 1) ((k1 ++ [x])) k3 _ _ l0 rfl (by exact hz) (by exact h00) (by exact (fr_v (fr_A (fr_L hfr (by omega)) (by omega)) (by omega))) (by intro k hk; simp (disch := omega) only [rv_self, rv_ne, rl_self, rl_ne, rA_self, rA_ne, rL_self, rL_ne, rR_self, rR_ne, xvl, xvA, xvL, xvR, xlv, xlA, xlL, xlR, xAv, xAl, xAL, xAR, xLv, xLl, xLA, xLR, xRv, xRl, xRA, xRL]; exact h9 k hk) (by rw [hsp, List.append_assoc]; rfl) (by rw [List.length_append, hi]; rfl) (by simp (disch := omega) only [rv_self, rv_ne, rl_self, rl_ne, rA_self, rA_ne, rL_self, rL_ne, rR_self, rR_ne, xvl, xvA, xvL, xvR, xlv, xlA, xlL, xlR, xAv, xAl, xAL, xAR, xLv, xLl, xLA, xLR, xRv, xRl, xRA, xRL]; rw [hzz, hlo, List.length_append, List.length_map, List.length_append]; simp only [List.length_cons, List.length_nil]; omega) (by simp (disch := omega) only [rv_self, rv_ne, rl_self, rl_ne, rA_self, rA_ne, rL_self, rL_ne, rR_self, rR_ne, xvl, xvA, xvL, xvR, xlv, xlA, xlL, xlR, xAv, xAl, xAL, xAR, xLv, xLl, xLA, xLR, xRv, xRl, xRA, xRL]; rw [List.map_append, ← List.append_assoc, hzz, hsr, hxw.1]; have q := ofn_snoc (e := eot x) (z := x.2.1) hof2 (by show x.2.1 / 1 = x.2.1; omega) hxo.2.1 (by have := hxo.2.2; omega); rw [Int.zero_add] at q; exact q) (by first | omega | (simp only [List.length_cons] at hm; omega))
def XPp (S : w_S) (T : List Mac) (r : Int) (G : List ETok) (ol : List OTok) (v : Option Value) (S2 : w_S) : Prop := v = some (.int (iZ (if ¬ (expL T 4000 r G []).1 = 0 then (expL T 4000 r G []).1 else if 100 < (ol.length : Int) + (expL T 4000 r G []).2.2.length then 7 else 0))) ∧ fr (fun a => a = 249 ∨ (269 ≤ a ∧ a ≤ 286)) S S2 ∧ (∀ k, ¬ (k = 23 ∨ k = 26 ∨ k = 29 ∨ k = 32 ∨ k = 35 ∨ k = 46 ∨ k = 49) → sv S2 249 k = sv S 249 k) ∧ sv S2 249 26 = 0 ∧ sv S2 249 23 = (expL T 4000 r G []).2.1 ∧ ((if ¬ (expL T 4000 r G []).1 = 0 then (expL T 4000 r G []).1 else if 100 < (ol.length : Int) + (expL T 4000 r G []).2.2.length then 7 else 0) = 0 → sv S2 249 49 = (ol ++ (expL T 4000 r G []).2.2.map eot).length ∧ ofn (sL S2 285) (sA S2 286) 1 0 (ol ++ (expL T 4000 r G []).2.2.map eot))
theorem exA_99 {f : Int → List ETok → Int × Int × List ETok} {r : Int} (hf : ∀ r a, r ≤ 30 → 0 ≤ (f r a).1 ∧ (f r a).1 ≤ 99 ∧ r ≤ (f r a).2.1 ∧ (f r a).2.1 ≤ 30) (h9 : ∀ r2 a, r ≤ r2 → r2 ≤ 30 → a.length ≤ 40 → ¬ (f r2 a).1 = 99) : ∀ (as : List (List ETok)) (r2 : Int), r ≤ r2 → r2 ≤ 30 → (∀ a, a ∈ as → a.length ≤ 40) → ¬ (exArgs f as r2).1 = 99
  | [], r2, _, _, _ => by show ¬ (0 : Int) = 99; decide
  | a :: as, r2, h0, h1, ha => by
    have q := hf r2 a h1
    by_cases c1 : (f r2 a).1 = 0
    · by_cases c2 : 40 < ((f r2 a).2.2.length : Int)
      · rw [exA_2 c1 c2]
        show ¬ (7 : Int) = 99
        decide
      · rw [exA_3 c1 c2]
        exact exA_99 hf h9 as _ (by omega) q.2.2.2 (fun x hx => ha x (by simp [hx]))
    · rw [exA_1 c1]
      exact h9 r2 a h0 h1 (ha a (by simp))
theorem expL_99 {T : List Mac} (hM : ∀ k : Int, 0 ≤ k → k < T.length → mok (mg T k)) : ∀ (n : Nat) (r : Int) (l d : List ETok), r ≤ 30 → (l.length : Int) + 100 * (31 - r) ≤ n → ¬ (expL T n r l d).1 = 99
  | 0, r, l, d, h, hf => by omega
  | n + 1, r, [], d, h, hf => by show ¬ (0 : Int) = 99; decide
  | n + 1, r, t :: ts, d, h, hf => by
    rw [List.length_cons] at hf
    by_cases c : mtx T t ts < 0
    · rw [expL_mv c]
      exact expL_99 hM n r ts _ h (by omega)
    · have m := mtx_r c
      have hok := hM (mtx T t ts) (by omega) (by omega)
      have hcc : (mg T (mtx T t ts)).2.1 = true → hd40 ts = true := fun z => m.2.2.2.2.resolve_right (by rw [z]; decide)
      have xr := xcall_r (t := t) hok hcc
      have hf2 : ∀ r a, r ≤ 30 → 0 ≤ (expL T n r a []).1 ∧ (expL T n r a []).1 ≤ 99 ∧ r ≤ (expL T n r a []).2.1 ∧ (expL T n r a []).2.1 ≤ 30 := fun r a hr => by
        have i := expL_r hM n r a [] hr
        exact ⟨i.1, i.2.1, i.2.2.1, i.2.2.2.1⟩
      have x := xstep_r (f := fun r a => expL T n r a []) (t := t) (ts := ts) hok hcc h hf2
      by_cases s : (xstep (fun r a => expL T n r a []) (mg T (mtx T t ts)) r t ts).1 = 0
      · rw [expL_go c s]
        have x2 := x.2.2.2.2 s
        exact expL_99 hM n _ _ d x.2.2.2.1 (by omega)
      · rw [expL_bad c s]
        show ¬ (xstep (fun r a => expL T n r a []) (mg T (mtx T t ts)) r t ts).1 = 99
        by_cases c1 : (xcall (mg T (mtx T t ts)) t ts).1 = 0
        · by_cases c2 : 30 ≤ r
          · rw [xs_2 c1 c2]
            show ¬ (7 : Int) = 99
            decide
          · by_cases c3 : (exArgs (fun r a => expL T n r a []) ((xcall (mg T (mtx T t ts)) t ts).2.1.take (mg T (mtx T t ts)).2.2.1.length) (r + 1)).1 = 0
            · by_cases c4 : (mrep (mg T (mtx T t ts)) (xcall (mg T (mtx T t ts)) t ts).2.1 (exArgs (fun r a => expL T n r a []) ((xcall (mg T (mtx T t ts)) t ts).2.1.take (mg T (mtx T t ts)).2.2.1.length) (r + 1)).2.2 t.2.1).1 = 0
              · rw [xs_5 c1 c2 c3 c4]
                show ¬ (0 : Int) = 99
                decide
              · rw [xs_4 c1 c2 c3 c4]
                have := mrep_r (e := (mg T (mtx T t ts))) (as := (xcall (mg T (mtx T t ts)) t ts).2.1) (os := (exArgs (fun r a => expL T n r a []) ((xcall (mg T (mtx T t ts)) t ts).2.1.take (mg T (mtx T t ts)).2.2.1.length) (r + 1)).2.2) (pl := t.2.1)
                show ¬ (mrep (mg T (mtx T t ts)) (xcall (mg T (mtx T t ts)) t ts).2.1 (exArgs (fun r a => expL T n r a []) ((xcall (mg T (mtx T t ts)) t ts).2.1.take (mg T (mtx T t ts)).2.2.1.length) (r + 1)).2.2 t.2.1).1 = 99
                omega
            · rw [xs_3 c1 c2 c3]
              refine exA_99 (r := r + 1) hf2 (fun r2 a q1 q2 q3 => expL_99 hM n r2 a [] q2 (by omega)) _ _ (Int.le_refl _) (by omega) (fun a ha => ?_)
              have h3 := (xr.2.2 c1).2.1
              obtain ⟨k, hk, e⟩ := List.mem_iff_getElem.mp (List.mem_of_mem_take ha)
              have h4 := sumlen_get (xcall (mg T (mtx T t ts)) t ts).2.1 k
              rw [List.getD_eq_getElem?_getD, List.getElem?_eq_getElem hk] at h4
              rw [← e]
              have h5 : ((xcall (mg T (mtx T t ts)) t ts).2.1[k].length : Int) ≤ sumlen (xcall (mg T (mtx T t ts)) t ts).2.1 := h4
              omega
        · rw [xs_1 c1]
          show ¬ (xcall (mg T (mtx T t ts)) t ts).1 = 99
          omega
theorem HD_end {sc : x_S} {d : Nat} {S : w_S} {Q : Option Value → w_S → Prop} {s c : Int} (s0 : 0 ≤ s) (s1 : s ≤ 100000) (c0 : 0 ≤ c) (c1 : c ≤ 99) (hc : ¬ c = 0) (k : ∀ lv : x_L, lv 0 = some (.ref 249) → lv 1 = some (.int (iZ c)) → w_T sc d 136 91 lv [] S Q) : HDp sc d S Q s c := by
  intro lv l0 l1 l2
  refine w_iload_n rfl l2 rfl ?_
  refine w_ldcw (v := 100000) rfl rfl rfl ?_
  refine w_ic_ge (pc2 := 91) (pc3 := 76) rfl (by decide) rfl ⟨by omega, by omega⟩ ⟨by decide, by decide⟩ (fun q => ?_) (fun q => ?_)
  · exact k lv l0 l1
  · refine w_iload_n rfl l1 rfl ?_
    refine w_if_ne (pc2 := 91) (pc3 := 80) rfl (by decide) rfl ⟨by omega, by omega⟩ (fun c2 => ?_) (fun c2 => absurd c2 hc)
    exact k lv l0 l1
theorem r_xp2 {sc : x_S} {d : Nat} {S U : w_S} {sg : Nat → Nat} {T : List Mac} {r : Int} {G : List ETok} {ol : List OTok} (hT : tabok T) (ht : rtab S sg T) (hB : ∀ k : Int, 0 ≤ k → k < T.length → bg (mg T k)) (hG1 : G.length ≤ 160) (hlk : loks G) (hlg : lgw G) (hr : sv S 249 23 = r) (r0 : 0 ≤ r) (r30 : r ≤ 30) (hoz : sv S 249 49 = ol.length) (ho1 : ol.length ≤ 100) (hof : ofn (sL S 285) (sA S 286) 1 0 ol) (hfr : fr (fun a => a = 249 ∨ a = 269 ∨ a = 270 ∨ a = 277) S U) (h9 : ∀ k, ¬ (k = 26 ∨ k = 29 ∨ k = 32 ∨ k = 35 ∨ k = 46) → sv U 249 k = sv S 249 k) (h29 : sv U 249 29 = G.length) (h32 : sv U 249 32 = 0) (h35 : sv U 249 35 = 0) (h46 : sv U 249 46 = 0) (h77 : sA U 277 0 = 0) (h26 : sv U 249 26 = 0) (hb : bw (nmR S) (sL U 269) (sA U 270) G.length G) (hd : 8 ≤ d) : HDp sc d U (XPp S T r G ol) 0 0 := by
  have hM : ∀ k : Int, 0 ≤ k → k < T.length → mok (mg T k) := fun k k0 k1 => (ht.2.2.2.1 k k0 k1).2
  have e23 := h9 23 (by decide)
  have e49 := h9 49 (by decide)
  have xr := expL_r hM 4000 r G [] r30
  rw [List.length_nil] at xr
  have htU := rtab_fr ht hfr (by omega)
  have hnU : nmR S = nmR U := (nmR_fr hfr (by omega)).symm
  refine RX (nm := nmR S) (sg := sg) hd hT hM hB 4000 U 0 0 0 r 0 G [] ⟨htU, hnU, h46, by omega, by omega, r30, h77, by omega, by omega, by rw [h29]; exact hb, by omega, by omega, by omega, by omega, by rw [h32]; rfl, trivial, by omega⟩ hlk hlg (by omega) (by omega) (by omega) ?_ ?_
  · intro S2 s2 y0 y1 y2 y3 y4 y5
    obtain ⟨h1, h2, q3, q4, q5, q6, q7, q8, q9, q10, q11, q12, q13, q14, q15, q16, q17⟩ := y1
    rw [List.length_nil] at q9
    refine r_step (by omega) (by omega) (by omega) (r_nx0 q3 (by omega) (by omega) (by omega) (by omega)) ?_
    rintro _ S5 ⟨rfl, hS5⟩
    rw [hS5]
    refine ⟨99, rfl, ?_⟩
    refine HD_end (by omega) (by omega) (by omega) (by omega) (by omega) ?_
    intro lv l0 l1
    have hfS : fr (fun a => a = 249 ∨ (269 ≤ a ∧ a ≤ 284)) S S2 := fr_trans (fr_mono hfr (by omega)) y2.1
    have z49 : sv S2 249 49 = ol.length := by rw [y2.2.1 49 (by decide)]; omega
    have hx := (r_xe_c (nm := nmR S) (gs := (expL T 4000 r G []).2.2) (ol := ol) (S := S2) (d := d) (sc := sc) (by decide : (0 : Int) ≤ 99) (by decide) (fun _ => ⟨by omega, q16, (xr.2.2.2.2 y0).2 hlk (fun x hx => absurd hx (by simp)), by omega⟩) z49 ho1 (by rw [fr_gL hfS (by omega), fr_gA hfS (by omega)]; exact hof) (Nat.zero_le _) 2001).1 lv l0 l1 (by omega)
    refine w_mono hx ?_
    rintro v S3 ⟨rfl, f1, f2, f3⟩
    rw [if_neg (not_not_intro rfl)]
    have hv : (if ¬ (expL T 4000 r G []).1 = 0 then (expL T 4000 r G []).1 else if 100 < (ol.length : Int) + (expL T 4000 r G []).2.2.length then 7 else 0) = if 100 < (ol.length : Int) + (expL T 4000 r G []).2.2.length then 7 else 0 := by rw [if_neg (not_not_intro y0)]
    refine ⟨by rw [hv], fr_trans (fr_mono hfS (by omega)) (fr_mono f1 (by omega)), fun k hk => ?_, ?_, ?_, fun hz => f3 rfl ?_⟩
    · rw [f2 k (by omega), y2.2.1 k (by omega), h9 k (by omega)]
    · rw [f2 26 (by decide), y2.2.1 26 (by decide), h26]
    · rw [f2 23 (by decide)]
      exact q11
    · rw [hv] at hz
      split at hz <;> omega
  · intro S2 s2 y0 y1 y2 y3 y4
    refine HD_end y3 y4 xr.1 xr.2.1 y0 ?_
    intro lv l0 l1
    have hfS : fr (fun a => a = 249 ∨ (269 ≤ a ∧ a ≤ 284)) S S2 := fr_trans (fr_mono hfr (by omega)) y2.1
    have z49 : sv S2 249 49 = ol.length := by rw [y2.2 49 (by decide)]; omega
    have h99 : ¬ (expL T 4000 r G []).1 = 99 := expL_99 hM 4000 r G [] r30 (by omega)
    have hx := (r_xe_c (nm := nmR S) (gs := []) (ol := ol) (S := S2) (d := d) (sc := sc) xr.1 xr.2.1 (fun q => absurd q h99) z49 ho1 (by rw [fr_gL hfS (by omega), fr_gA hfS (by omega)]; exact hof) (Nat.zero_le _) 2001).1 lv l0 l1 (by omega)
    refine w_mono hx ?_
    rintro v S3 ⟨rfl, f1, f2, f3⟩
    rw [if_pos h99]
    have hv : (if ¬ (expL T 4000 r G []).1 = 0 then (expL T 4000 r G []).1 else if 100 < (ol.length : Int) + (expL T 4000 r G []).2.2.length then 7 else 0) = (expL T 4000 r G []).1 := by rw [if_pos y0]
    refine ⟨by rw [hv], fr_trans (fr_mono hfS (by omega)) (fr_mono f1 (by omega)), fun k hk => ?_, ?_, ?_, fun hz => by rw [hv] at hz; exact absurd hz y0⟩
    · rw [f2 k (by omega), y2.2 k (by omega), h9 k (by omega)]
    · rw [f2 26 (by decide), y2.2 26 (by decide), h26]
    · rw [f2 23 (by decide)]
      exact y1
theorem r_xp_c {sc : x_S} {d : Nat} {S : w_S} {sg : Nat → Nat} {T : List Mac} {r : Int} {G : List ETok} {ol : List OTok} (hT : tabok T) (ht : rtab S sg T) (hB : ∀ k : Int, 0 ≤ k → k < T.length → bg (mg T k)) (hG : fw (nmR S) (sL S 267) (sA S 268) 0 G) (hG0 : sv S 249 26 = G.length) (hG1 : G.length ≤ 160) (hlk : loks G) (hlg : lgw G) (hr : sv S 249 23 = r) (r0 : 0 ≤ r) (r30 : r ≤ 30) (hoz : sv S 249 49 = ol.length) (ho1 : ol.length ≤ 100) (hof : ofn (sL S 285) (sA S 286) 1 0 ol) (hd : 8 ≤ d) : ∀ n : Nat, (∀ (k : Int) (ka : List ETok) (kb : List ETok) (U : w_S) (lv : x_L) (l0 : lv 0 = some (.ref 249)) (l1 : lv 1 = some (.int (iZ k))) (hfr : fr (fun a => a = 249 ∨ a = 269 ∨ a = 270 ∨ a = 277) S U) (h9 : ∀ k, ¬ (k = 29 ∨ k = 32 ∨ k = 35 ∨ k = 46) → sv U 249 k = sv S 249 k) (hsp : G = ka ++ kb) (hka : (ka.length : Int) = k + 1) (h29 : sv U 249 29 = kb.length) (h32 : sv U 249 32 = 0) (h35 : sv U 249 35 = 0) (h46 : sv U 249 46 = 0) (h77 : sA U 277 0 = 0) (hb : bw (nmR S) (sL U 269) (sA U 270) (sv U 249 29) kb) (hm : (k + 1).toNat < n), w_T sc d 136 34 lv [] U (XPp S T r G ol)) := by
  intro n
  induction n with
  | zero => exact fun k ka kb U lv l0 l1 hfr h9 hsp hka h29 h32 h35 h46 h77 hb hm => absurd hm (Nat.not_lt_zero _)
  | succ n ih =>
    intro k ka kb U lv l0 l1 hfr h9 hsp hka h29 h32 h35 h46 h77 hb hm
    have hll : (G.length : Int) = ka.length + kb.length := by rw [hsp, List.length_append]; omega
    refine w_iload_n rfl l1 rfl ?_
    refine w_if_lt (pc2 := 60) (pc3 := 38) rfl (by decide) rfl ⟨by omega, by omega⟩ (fun c35 => ?_) (fun c35 => ?_)
    · skip
      have hn : ka = [] := List.eq_nil_of_length_eq_zero (by omega)
      rw [hn, List.nil_append] at hsp
      rw [← hsp] at h29 hb
      refine w_aload_n rfl l0 rfl ?_
      refine w_iconst rfl rfl ?_
      refine w_putf rfl rfl sh_249 rfl rfl (by decide) rfl ?_
      refine w_iconst rfl rfl ?_
      refine w_istore_n rfl (by decide) rfl ?_
      refine w_iconst rfl rfl ?_
      refine w_istore_n rfl (by decide) rfl ?_
      exact r_xp2 hT ht hB hG1 hlk hlg hr r0 r30 hoz ho1 hof (fr_v hfr (by omega)) (by intro k hk; simp (disch := omega) only [rv_self, rv_ne, rl_self, rl_ne, rA_self, rA_ne, rL_self, rL_ne, rR_self, rR_ne, xvl, xvA, xvL, xvR, xlv, xlA, xlL, xlR, xAv, xAl, xAL, xAR, xLv, xLl, xLA, xLR, xRv, xRl, xRA, xRL]; exact h9 k (by omega)) (by simp (disch := omega) only [rv_self, rv_ne, rl_self, rl_ne, rA_self, rA_ne, rL_self, rL_ne, rR_self, rR_ne, xvl, xvA, xvL, xvR, xlv, xlA, xlL, xlR, xAv, xAl, xAL, xAR, xLv, xLl, xLA, xLR, xRv, xRl, xRA, xRL]; exact h29) (by simp (disch := omega) only [rv_self, rv_ne, rl_self, rl_ne, rA_self, rA_ne, rL_self, rL_ne, rR_self, rR_ne, xvl, xvA, xvL, xvR, xlv, xlA, xlL, xlR, xAv, xAl, xAL, xAR, xLv, xLl, xLA, xLR, xRv, xRl, xRA, xRL]; exact h32) (by simp (disch := omega) only [rv_self, rv_ne, rl_self, rl_ne, rA_self, rA_ne, rL_self, rL_ne, rR_self, rR_ne, xvl, xvA, xvL, xvR, xlv, xlA, xlL, xlR, xAv, xAl, xAL, xAR, xLv, xLl, xLA, xLR, xRv, xRl, xRA, xRL]; exact h35) (by simp (disch := omega) only [rv_self, rv_ne, rl_self, rl_ne, rA_self, rA_ne, rL_self, rL_ne, rR_self, rR_ne, xvl, xvA, xvL, xvR, xlv, xlA, xlL, xlR, xAv, xAl, xAL, xAR, xLv, xLl, xLA, xLR, xRv, xRl, xRA, xRL]; exact h46) (by simp (disch := omega) only [rv_self, rv_ne, rl_self, rl_ne, rA_self, rA_ne, rL_self, rL_ne, rR_self, rR_ne, xvl, xvA, xvL, xvR, xlv, xlA, xlL, xlR, xAv, xAl, xAL, xAR, xLv, xLl, xLA, xLR, xRv, xRl, xRA, xRL]; exact h77) (by simp (disch := omega) only [rv_self, rv_ne, rl_self, rl_ne, rA_self, rA_ne, rL_self, rL_ne, rR_self, rR_ne, xvl, xvA, xvL, xvR, xlv, xlA, xlL, xlR, xAv, xAl, xAL, xAR, xLv, xLl, xLA, xLR, xRv, xRl, xRA, xRL]) (by simp (disch := omega) only [rv_self, rv_ne, rl_self, rl_ne, rA_self, rA_ne, rL_self, rL_ne, rR_self, rR_ne, xvl, xvA, xvL, xvR, xlv, xlA, xlL, xlR, xAv, xAl, xAL, xAR, xLv, xLl, xLA, xLR, xRv, xRl, xRA, xRL]; rw [← h29]; exact hb) hd _ (congrArg x_k2 l0) rfl rfl
    · skip
      obtain ⟨k1, x, rfl⟩ := list_snoc (l := ka) (by omega)
      have hka2 : (k1.length : Int) = k := by rw [List.length_append] at hka; simp only [List.length_cons, List.length_nil] at hka; omega
      have hx1 : sL U 267 k = x.1 ∧ sA U 268 k = eo (nmR S) x := by
        have q := hG
        rw [hsp, List.append_assoc] at q
        have q2 := fw_at (d3 := kb) q
        rw [show 0 + (k1.length : Int) = k by omega] at q2
        rw [fr_gL hfr (by omega), fr_gA hfr (by omega)]
        exact q2
      have hll3 : (G.length : Int) = k1.length + 1 + kb.length := by rw [hsp]; simp only [List.length_append, List.length_cons, List.length_nil]; omega
      refine w_aload_n rfl l0 rfl ?_
      refine w_aload_n rfl l0 rfl ?_
      refine w_getR rfl rfl sh_249 rfl rfl ?_
      refine w_iload_n rfl l1 rfl ?_
      refine w_lald (z := sL U 267 k) rfl sh_267 (by omega) (by omega) (by decide) rfl rfl ?_
      refine w_aload_n rfl l0 rfl ?_
      refine w_getR rfl rfl sh_249 rfl rfl ?_
      refine w_iload_n rfl l1 rfl ?_
      refine w_iald (z := sA U 268 k) rfl sh_268 (by omega) (by omega) (by decide) rfl rfl ?_
      refine w_CV (as := [.long (sL U 267 k), .int (iZ (sA U 268 k))]) (r := []) rfl rfl rfl rfl sh_249 (Nat.le_of_ble_eq_true rfl) (Nat.le_of_ble_eq_true rfl) (by omega) rfl (r_lay (x := sL U 267 k) (z := sA U 268 k) (by (try simp (disch := omega) only [rv_self, rv_ne, rl_self, rl_ne, rA_self, rA_ne, rL_self, rL_ne, rR_self, rR_ne, xvl, xvA, xvL, xvR, xlv, xlA, xlL, xlR, xAv, xAl, xAL, xAR, xLv, xLl, xLA, xLR, xRv, xRl, xRA, xRL]); omega) (by (try simp (disch := omega) only [rv_self, rv_ne, rl_self, rl_ne, rA_self, rA_ne, rL_self, rL_ne, rR_self, rR_ne, xvl, xvA, xvL, xvR, xlv, xlA, xlL, xlR, xAv, xAl, xAL, xAR, xLv, xLl, xLA, xLR, xRv, xRl, xRA, xRL]); omega) (by omega)) ?_
      rintro _ _ ⟨rfl, hS⟩
      rw [hS]
      show w_T _ _ 136 54 _ [] _ _
      refine w_iinc rfl l1 (by decide) rfl ?_
      refine w_goto (pc2 := 34) rfl (by decide) ?_
      exact ih (k + (-1)) k1 ((x :: kb)) _ _ (by exact (congrArg x_k2 l0)) (by exact rfl) (by exact (fr_v (fr_A (fr_L hfr (by omega)) (by omega)) (by omega))) (by intro k hk; simp (disch := omega) only [rv_self, rv_ne, rl_self, rl_ne, rA_self, rA_ne, rL_self, rL_ne, rR_self, rR_ne, xvl, xvA, xvL, xvR, xlv, xlA, xlL, xlR, xAv, xAl, xAL, xAR, xLv, xLl, xLA, xLR, xRv, xRl, xRA, xRL]; exact h9 k hk) (by rw [hsp, List.append_assoc]; rfl) (by omega) (by simp (disch := omega) only [rv_self, rv_ne, rl_self, rl_ne, rA_self, rA_ne, rL_self, rL_ne, rR_self, rR_ne, xvl, xvA, xvL, xvR, xlv, xlA, xlL, xlR, xAv, xAl, xAL, xAR, xLv, xLl, xLA, xLR, xRv, xRl, xRA, xRL]; rw [h29, List.length_cons]; omega) (by simp (disch := omega) only [rv_self, rv_ne, rl_self, rl_ne, rA_self, rA_ne, rL_self, rL_ne, rR_self, rR_ne, xvl, xvA, xvL, xvR, xlv, xlA, xlL, xlR, xAv, xAl, xAL, xAR, xLv, xLl, xLA, xLR, xRv, xRl, xRA, xRL]; exact h32) (by simp (disch := omega) only [rv_self, rv_ne, rl_self, rl_ne, rA_self, rA_ne, rL_self, rL_ne, rR_self, rR_ne, xvl, xvA, xvL, xvR, xlv, xlA, xlL, xlR, xAv, xAl, xAL, xAR, xLv, xLl, xLA, xLR, xRv, xRl, xRA, xRL]; exact h35) (by simp (disch := omega) only [rv_self, rv_ne, rl_self, rl_ne, rA_self, rA_ne, rL_self, rL_ne, rR_self, rR_ne, xvl, xvA, xvL, xvR, xlv, xlA, xlL, xlR, xAv, xAl, xAL, xAR, xLv, xLl, xLA, xLR, xRv, xRl, xRA, xRL]; exact h46) (by simp (disch := omega) only [rv_self, rv_ne, rl_self, rl_ne, rA_self, rA_ne, rL_self, rL_ne, rR_self, rR_ne, xvl, xvA, xvL, xvR, xlv, xlA, xlL, xlR, xAv, xAl, xAL, xAR, xLv, xLl, xLA, xLR, xRv, xRl, xRA, xRL]; exact h77) (by simp (disch := omega) only [rv_self, rv_ne, rl_self, rl_ne, rA_self, rA_ne, rL_self, rL_ne, rR_self, rR_ne, xvl, xvA, xvL, xvR, xlv, xlA, xlL, xlR, xAv, xAl, xAL, xAR, xLv, xLl, xLA, xLR, xRv, xRl, xRA, xRL]; rw [hx1.1, hx1.2]; exact bw_push (e := x) hb) (by omega)
theorem r_xp {sc : x_S} {d : Nat} {S : w_S} {sg : Nat → Nat} {T : List Mac} {r : Int} {G : List ETok} {ol : List OTok} (hT : tabok T) (ht : rtab S sg T) (hB : ∀ k : Int, 0 ≤ k → k < T.length → bg (mg T k)) (hG : fw (nmR S) (sL S 267) (sA S 268) 0 G) (hG0 : sv S 249 26 = G.length) (hG1 : G.length ≤ 160) (hlk : loks G) (hlg : lgw G) (hr : sv S 249 23 = r) (r0 : 0 ≤ r) (r30 : r ≤ 30) (hoz : sv S 249 49 = ol.length) (ho1 : ol.length ≤ 100) (hof : ofn (sL S 285) (sA S 286) 1 0 ol) (hd : 8 ≤ d) : w_T sc d 136 0 (x_en 0 [.ref 249]) [] S (XPp S T r G ol) := by
  refine w_aload_n rfl rfl rfl ?_
  refine w_iconst rfl rfl ?_
  refine w_putf rfl rfl sh_249 rfl rfl (by decide) rfl ?_
  refine w_aload_n rfl rfl rfl ?_
  refine w_iconst rfl rfl ?_
  refine w_putf rfl rfl sh_249 rfl rfl (by decide) rfl ?_
  refine w_aload_n rfl rfl rfl ?_
  refine w_iconst rfl rfl ?_
  refine w_putf rfl rfl sh_249 rfl rfl (by decide) rfl ?_
  refine w_aload_n rfl rfl rfl ?_
  refine w_iconst rfl rfl ?_
  refine w_putf rfl rfl sh_249 rfl rfl (by decide) rfl ?_
  refine w_aload_n rfl rfl rfl ?_
  refine w_getR rfl rfl sh_249 rfl rfl ?_
  refine w_iconst rfl rfl ?_
  refine w_iconst rfl rfl ?_
  refine w_iaS (f := sA S 277) rfl sh_277 (by omega) (by omega) (by decide) rfl rfl ?_
  refine w_aload_n rfl rfl rfl ?_
  refine w_getI (z := sv S 249 26) rfl rfl sh_249 rfl ((rv_ne (S := (w_v (w_v (w_v S 249 29 0) 249 32 0) 249 35 0)) (a := 249) (k := 46) (z := 0) (b := 249) (j := 26) (by decide)).trans ((rv_ne (by decide)).trans ((rv_ne (by decide)).trans (rv_ne (by decide))))) rfl ?_
  refine w_iconst rfl rfl ?_
  refine w_isub rfl rfl ?_
  refine w_istore_n rfl (by decide) rfl ?_
  exact (r_xp_c hT ht hB hG hG0 hG1 hlk hlg hr r0 r30 hoz ho1 hof hd _) (sv S 249 26 - 1) G ([]) _ _ rfl rfl (by exact (fr_A (fr_v (fr_v (fr_v (fr_v (fr_refl _ _) (by omega)) (by omega)) (by omega)) (by omega)) (by omega))) (by intro k hk; simp (disch := omega) only [rv_self, rv_ne, rl_self, rl_ne, rA_self, rA_ne, rL_self, rL_ne, rR_self, rR_ne, xvl, xvA, xvL, xvR, xlv, xlA, xlL, xlR, xAv, xAl, xAL, xAR, xLv, xLl, xLA, xLR, xRv, xRl, xRA, xRL]) (by rw [List.append_nil]) (by omega) (by simp (disch := omega) only [rv_self, rv_ne, rl_self, rl_ne, rA_self, rA_ne, rL_self, rL_ne, rR_self, rR_ne, xvl, xvA, xvL, xvR, xlv, xlA, xlL, xlR, xAv, xAl, xAL, xAR, xLv, xLl, xLA, xLR, xRv, xRl, xRA, xRL]; rfl) (by simp (disch := omega) only [rv_self, rv_ne, rl_self, rl_ne, rA_self, rA_ne, rL_self, rL_ne, rR_self, rR_ne, xvl, xvA, xvL, xvR, xlv, xlA, xlL, xlR, xAv, xAl, xAL, xAR, xLv, xLl, xLA, xLR, xRv, xRl, xRA, xRL]) (by simp (disch := omega) only [rv_self, rv_ne, rl_self, rl_ne, rA_self, rA_ne, rL_self, rL_ne, rR_self, rR_ne, xvl, xvA, xvL, xvR, xlv, xlA, xlL, xlR, xAv, xAl, xAL, xAR, xLv, xLl, xLA, xLR, xRv, xRl, xRA, xRL]) (by simp (disch := omega) only [rv_self, rv_ne, rl_self, rl_ne, rA_self, rA_ne, rL_self, rL_ne, rR_self, rR_ne, xvl, xvA, xvL, xvR, xlv, xlA, xlL, xlR, xAv, xAl, xAL, xAR, xLv, xLl, xLA, xLR, xRv, xRl, xRA, xRL]) (by simp (disch := omega) only [rv_self, rv_ne, rl_self, rl_ne, rA_self, rA_ne, rL_self, rL_ne, rR_self, rR_ne, xvl, xvA, xvL, xvR, xlv, xlA, xlL, xlR, xAv, xAl, xAL, xAR, xLv, xLl, xLA, xLR, xRv, xRl, xRA, xRL]; rw [w_u_self]) (by exact trivial) (Nat.lt_succ_self _)
