/-! What items give, task after task. -/
section BIG4
variable (Y : Int → Int64) (mt : Int → Int) (n : Int) (G : List Tk → List Nd → List Ed → Prop) (Fl : Prop)
def GI : Prop := ∀ (i e p j : Int) (T : List Tk) (N : List Nd) (E : List Ed) (D : List Dcl), 0 ≤ i → i ≤ e → e ≤ n → TV Y mt n E D i e → 0 ≤ p → p < N.length → -1 ≤ j → j < n → bdT mt N E ((0, i, e, p, j) :: T) → 0 ≤ wt mt T → (ist Y D mt i e p j N = none → Fl) → (∀ q, ist Y D mt i e p j N = some q → muT mt (q.1 ++ T) < muT mt ((0, i, e, p, j) :: T) ∧ G (q.1 ++ T) q.2 E) → G ((0, i, e, p, j) :: T) N E
def GB : Prop := ∀ (a b p j : Int) (T : List Tk) (N : List Nd) (E : List Ed), 0 ≤ a → a < n → Y a = 123 → 0 ≤ p → p < N.length → bdT mt N E ((1, a, b, p, j) :: T) → 0 ≤ wt mt T → G ((0, a + 1, mt a, (N.length : Int), a) :: T) (gr N 9 a p) E → G ((1, a, b, p, j) :: T) N E
def RIt (D : List Dcl) (i e j : Int) (o : RI) : Prop := (∀ R, o = some R → (R.1.length : Int) ≤ e - i) ∧ ∀ (N : List Nd) (T : List Tk) (E : List Ed) (p : Int), Ac mt n E D i j → 0 ≤ p → p < N.length → bdT mt N E ((0, i, e, p, j) :: T) → 0 ≤ wt mt T → (∀ R E2, o = some R → XE mt n E E2 i e e → G T (bmp N p R.2.1 ++ R.1) E2) → (o = none → Fl) → G ((0, i, e, p, j) :: T) N E
end BIG4
def tC (r q x j : Int) : List Tk := if q = r then [] else [(5, r, q, x, j)]
theorem tC_w {mt : Int → Int} (r q x j : Int) (T : List Tk) : (q = r ∧ wt mt (tC r q x j ++ T) = wt mt T ∧ (tC r q x j ++ T).length = T.length) ∨ (¬ q = r ∧ wt mt (tC r q x j ++ T) = (q - r) + wt mt T ∧ (tC r q x j ++ T).length = T.length + 1) := by
  unfold tC
  by_cases z : q = r
  · rw [if_pos z]
    exact Or.inl ⟨z, rfl, rfl⟩
  · rw [if_neg z]
    exact Or.inr ⟨z, wt_w (by decide), rfl⟩
theorem gr_e {N : List Nd} {k t p c : Int} {F : List Nd} : bmp (gr N k t p) N.length c ++ F = bmp N p 1 ++ (k, t, c) :: F := by
  unfold gr
  rw [gr_c, Int.zero_add]
  rfl
theorem wk3_nb {y : Int64} (h : wk y = 3) : opn y = false ∧ clo y = false := by
  rw [wk_3.2 h]
  exact ⟨by decide, by decide⟩
theorem wk2_nb {y : Int64} (h : wk y = 2) : opn y = false ∧ clo y = false := by
  rw [wk_2.2 h]
  exact ⟨by decide, by decide⟩
section BG4
variable {Y : Int → Int64} {mt : Int → Int} {n : Int} {G : List Tk → List Nd → List Ed → Prop} {Fl : Prop}
theorem BI (hM : MTP Y n mt) (hn : n ≤ 100) (hGV : GV Y mt n G Fl) (hGD : GD Y mt n G Fl) (hGI : GI Y mt n G Fl) (hGB : GB Y mt n G) : ∀ (K : Nat) (i e j : Int) (D : List Dcl), e - i < K → 0 ≤ i → i ≤ e → e ≤ n → bal Y i e → -1 ≤ j → j < i → (0 ≤ j → opn (Y j) = true) → upb n mt j = e → ∃ o, (∀ f : Nat, e - i < f → rs Y mt f 0 (decide (0 ≤ j)) false i e D = o) ∧ RIt mt n G Fl D i e j o
  | 0, i, e, j, D, h, _, ie, _, _, _, _, _, _ => by
    exfalso
    have : ((0 : Nat) : Int) = 0 := rfl
    omega
  | K + 1, i, e, j, D, hK, i0, ie, en, hbal, j1, ji, jo, hu => by
    have pre : ∀ (N : List Nd) (T : List Tk) (E : List Ed) (p : Int), Ac mt n E D i j → 0 ≤ p → p < N.length → bdT mt N E ((0, i, e, p, j) :: T) → 0 ≤ wt mt T → (ist Y D mt i e p j N = none → Fl) → (∀ q, ist Y D mt i e p j N = some q → muT mt (q.1 ++ T) < muT mt ((0, i, e, p, j) :: T) ∧ G (q.1 ++ T) q.2 E) → G ((0, i, e, p, j) :: T) N E := fun N T E p hA p0 p1 hb hW h1 h2 => hGI i e p j T N E D i0 ie en (by have q := Ac_TV (Y := Y) hA (by omega); rw [hu] at q; exact q) p0 p1 j1 (by omega) hb hW h1 h2
    have bad : ∀ (h : ∀ (p : Int) (N : List Nd), ist Y D mt i e p j N = none), RIt mt n G Fl D i e j none := fun h => ⟨fun R hR => nns hR, fun N T E p hA p0 p1 hb hW _ hN => pre N T E p hA p0 p1 hb hW (fun _ => hN rfl) (fun q9 hq9 => nns ((h p N).symm.trans hq9))⟩
    have preS : ∀ {N : List Nd} {T : List Tk} {E : List Ed} {p : Int} {q : List Tk × List Nd}, Ac mt n E D i j → 0 ≤ p → p < N.length → bdT mt N E ((0, i, e, p, j) :: T) → 0 ≤ wt mt T → ist Y D mt i e p j N = some q → muT mt (q.1 ++ T) < muT mt ((0, i, e, p, j) :: T) → G (q.1 ++ T) q.2 E → G ((0, i, e, p, j) :: T) N E := fun {N T E p q} hA p0 p1 hb hW hq hm hg => pre N T E p hA p0 p1 hb hW (fun z => nns (z.symm.trans hq)) (fun r hr => by
      have e9 : q = r := Option.some.inj (hq.symm.trans hr)
      rw [← e9]
      exact ⟨hm, hg⟩)
    by_cases c0 : i = e
    · refine ⟨some ([], 0, D), fun f hf => ?_, fun R hR => ?_, fun N T E p hA p0 p1 hb hW hs hN => ?_⟩
      · obtain ⟨g, rfl⟩ := fpos hf (by omega)
        exact rs_e (by omega)
      · cases hR
        show ((0 : Nat) : Int) ≤ _
        omega
      · have h9 := hs ([], 0, D) E rfl (XE_0 (by omega))
        have h9 : G T (bmp N p 0 ++ []) E := h9
        rw [bmp_0, List.append_nil] at h9
        refine preS (q := ([], N)) hA p0 p1 hb hW (by unfold ist; rw [if_pos c0]) ?_ h9
        show muT mt T < _
        unfold muT
        rw [wt_w (by decide), List.length_cons]
        omega
    · have il : i < e := by omega
      by_cases c1 : 0 ≤ j ∧ sdc D (Y i) = false
      · have hdj : decide (0 ≤ j) = true := decide_eq_true c1.1
        rw [hdj]
        have is1 : ∀ (p : Int) (N : List Nd), ist Y D mt i e p j N = sst Y mt i e p j N := fun p N => by unfold ist; rw [if_neg c0, if_pos c1]
        by_cases c2 : Y i = 123
        · have ho : opn (Y i) = true := by rw [c2]; decide
          have hm := hM i i0 (by omega) ho
          have hme := bal_in hM hbal i0 en (Int.le_refl _) il ho
          have hbb := bal_br hm.2.2.2.1 hm.2.2.1
          have hub : upb n mt i = mt i := by unfold upb; rw [if_neg (by omega)]
          obtain ⟨oB, eB, rB⟩ := BI hM hn hGV hGD hGI hGB K (i + 1) (mt i) i D (by omega) (by omega) (by omega) (by omega) hm.2.2.2.1 (by omega) (by omega) (fun _ => ho) hub
          obtain ⟨oR, eR, rR⟩ := BI hM hn hGV hGD hGI hGB K (mt i + 1) e j D (by omega) (by omega) (by omega) en (bal_suf hbb hbal (by omega)) j1 (by omega) jo hu
          rw [hdj] at eR
          rw [decide_eq_true i0] at eB
          refine ⟨oB.bind (fun B => oR.bind (fun R => some ((9, i, B.2.1) :: B.1 ++ R.1, 1 + R.2.1, R.2.2))), fun f hf => ?_, fun R hR => ?_, fun N T E p hA p0 p1 hb hW hs hN => ?_⟩
          · obtain ⟨g, rfl⟩ := fpos hf (by omega)
            rw [rs_blk il c1.2 c2, eB g (by omega), eR g (by omega)]
          · obtain ⟨B, q1, q2⟩ := bind_some hR
            obtain ⟨R', q3, q4⟩ := bind_some q2
            have l1 := rB.1 B q1
            have l2 := rR.1 R' q3
            cases q4
            show (((9, i, B.2.1) :: B.1 ++ R'.1).length : Int) ≤ e - i
            rw [List.length_append, List.length_cons]
            omega
          · have hb0 := (bd_w (show ¬ (0 : Int) = 1 by decide)).1 hb
            refine preS (q := ([(1, i, i, p, j), (0, mt i + 1, e, p, j)], N)) hA p0 p1 hb hW (by rw [is1]; unfold sst; rw [if_pos c2]) ?_ ?_
            · show muT mt ((1, i, i, p, j) :: (0, mt i + 1, e, p, j) :: T) < _
              unfold muT
              rw [wt_1, wt_w (by decide), wt_w (by decide), List.length_cons, List.length_cons, List.length_cons]
              omega
            · show G ((1, i, i, p, j) :: (0, mt i + 1, e, p, j) :: T) N E
              refine hGB i i p j _ N E i0 (by omega) c2 p0 p1 (bd_1.2 (by rw [wt_w (by decide), List.length_cons]; omega)) (by rw [wt_w (by decide)]; omega) ?_
              refine rB.2 (gr N 9 i p) _ E _ (Ac_in hA (by omega) (by omega) (by omega)) (by omega) (by rw [gr_len]; omega) ((bd_w (by decide)).2 (by rw [gr_len, wt_w (by decide), List.length_cons]; omega)) (by rw [wt_w (by decide)]; omega) (fun B E2 hB hX => ?_) (fun z => hN (by rw [z]; rfl))
              have l1 := rB.1 B hB
              have xl := XE_len hX
              rw [gr_e]
              refine rR.2 _ T E2 p (Ac_out hA hX (by omega) (by omega)) p0 (by rw [List.length_append, bmp_len]; omega) ((bd_w (by decide)).2 (by rw [List.length_append, bmp_len, List.length_cons]; omega)) hW (fun R E3 hR hX2 => ?_) (fun z => hN (by rw [hB, z]; rfl))
              have h9 := hs ((9, i, B.2.1) :: B.1 ++ R.1, 1 + R.2.1, R.2.2) E3 (by rw [hB, hR]; rfl) (XE_w (XE_t hX hX2 (by omega) (by omega) (by omega)) (by omega) (Int.le_refl _) (Int.le_refl _))
              rw [bmp_l (by rw [bmp_len]; exact p1), bmp_2, List.append_assoc]
              exact h9
        · generalize hx : rpi Y i = x
          have hx1 : (if wk (Y i) = 3 then i + 1 else i) = x := hx
          have hxb : bal Y i x ∧ i ≤ x ∧ x ≤ i + 1 := by
            rw [← hx]
            unfold rpi
            by_cases z : wk (Y i) = 3
            · rw [if_pos z]
              exact ⟨bal_1 (wk3_nb z).1 (wk3_nb z).2, by omega, by omega⟩
            · rw [if_neg z]
              exact ⟨bal_0 Y i, by omega, by omega⟩
          generalize hq : spp Y mt x e = q
          have qR := spp_R hM (by omega) en hn hq
          by_cases c3 : q < 0 ∨ ¬ Y q = 59
          · refine ⟨none, fun f hf => ?_, bad (fun p N => ?_)⟩
            · obtain ⟨g, rfl⟩ := fpos hf (by omega)
              rw [rs_stm il c1.2 c2 hx1 hq, if_pos c3]
            · rw [is1]
              unfold sst
              rw [if_neg c2, hx, hq, if_pos c3]
          · have qr := qR.resolve_left (by omega)
            have q59 : Y q = 59 := by
              by_cases z : Y q = 59
              · exact z
              · exact absurd (Or.inr z) c3
            have hbq := spp_bal hM i0 en hbal hxb.1 hq qr.1
            have hbq1 := bal_cat hbq (bal_1 (k := q) (by rw [q59]; decide) (by rw [q59]; decide))
            obtain ⟨oR, eR, rR⟩ := BI hM hn hGV hGD hGI hGB K (q + 1) e j D (by omega) (by omega) (by omega) en (bal_suf hbq1 hbal (by omega)) j1 (by omega) jo hu
            rw [hdj] at eR
            have hV : ∃ oV, (if q = x then some [] else VE Y D mt 200 x q) = oV ∧ (∀ V, oV = some V → (V.length : Int) ≤ q - x) ∧ ∀ (N1 : List Nd) (T1 : List Tk) (E1 : List Ed) (y : Int), Ac mt n E1 D i j → 0 ≤ y → y < N1.length → bdT mt N1 E1 (tC x q y j ++ T1) → 0 ≤ wt mt T1 → (∀ V, oV = some V → G T1 (bmp N1 y (if q = x then 0 else 1) ++ V) E1) → (oV = none → Fl) → G (tC x q y j ++ T1) N1 E1 := by
              by_cases z : q = x
              · refine ⟨some [], by rw [if_pos z], fun V hV => ?_, fun N1 T1 E1 y _ _ _ _ _ hs _ => ?_⟩
                · cases hV
                  show ((0 : Nat) : Int) ≤ _
                  omega
                · have h9 := hs [] rfl
                  rw [if_pos z, bmp_0, List.append_nil] at h9
                  unfold tC
                  rw [if_pos z]
                  exact h9
              · obtain ⟨o1, e1, r1⟩ := BV (D := D) hM hn hGV 200 x q (by omega) (by omega) (by omega) (by omega) qr.2.2.2.1
                refine ⟨o1, by rw [if_neg z]; exact e1 200 (by omega), fun V hV => (r1.1 V hV).1, fun N1 T1 E1 y hA x0 x1 hb hW hs hN => ?_⟩
                unfold tC at hb ⊢
                rw [if_neg z] at hb ⊢
                refine RV_u r1 N1 T1 E1 y j (TV_s (Ac_TV hA (by omega)) (by omega) (by omega)) x0 x1 hb hW (fun V hV => ?_) hN
                have h9 := hs V hV
                rw [if_neg z] at h9
                exact h9
            obtain ⟨oV, eV, lV, gV⟩ := hV
            generalize hkd : (if wk (Y i) = 3 then (11 : Int) else 10) = kd
            generalize htk : (if wk (Y i) = 3 then i else q) = tk
            refine ⟨oV.bind (fun V => oR.bind (fun R => some ((kd, tk, if q = x then 0 else 1) :: V ++ R.1, 1 + R.2.1, R.2.2))), fun f hf => ?_, fun R hR => ?_, fun N T E p hA p0 p1 hb hW hs hN => ?_⟩
            · obtain ⟨g, rfl⟩ := fpos hf (by omega)
              rw [rs_stm il c1.2 c2 hx1 hq, if_neg c3, eV, eR g (by omega), hkd, htk]
            · obtain ⟨V, q1, q2⟩ := bind_some hR
              obtain ⟨R', q3, q4⟩ := bind_some q2
              have l1 := lV V q1
              have l2 := rR.1 R' q3
              cases q4
              show (((kd, tk, if q = x then 0 else 1) :: V ++ R'.1).length : Int) ≤ e - i
              rw [List.length_append, List.length_cons]
              omega
            · have hb0 := (bd_w (show ¬ (0 : Int) = 1 by decide)).1 hb
              have A1 := tC_w (mt := mt) x q N.length j ((0, q + 1, e, p, j) :: T)
              rw [wt_w (by decide), List.length_cons] at A1
              refine preS (q := (tC x q N.length j ++ [(0, q + 1, e, p, j)], gr N kd tk p)) hA p0 p1 hb hW ?_ ?_ ?_
              · rw [is1]
                unfold sst tC
                rw [if_neg c2, hx, hq, if_neg c3, hkd, htk]
              · show muT mt (tC x q N.length j ++ [(0, q + 1, e, p, j)] ++ T) < _
                rw [List.append_assoc]
                show muT mt (tC x q N.length j ++ (0, q + 1, e, p, j) :: T) < _
                unfold muT
                rw [wt_w (a := i) (by decide), List.length_cons]
                omega
              · show G (tC x q N.length j ++ [(0, q + 1, e, p, j)] ++ T) (gr N kd tk p) E
                rw [List.append_assoc]
                show G (tC x q N.length j ++ (0, q + 1, e, p, j) :: T) (gr N kd tk p) E
                have gl := gr_len N kd tk p
                refine gV _ _ _ _ hA (by omega) (by omega) ?_ (by rw [wt_w (by decide)]; omega) (fun V hV => ?_) (fun z => hN (by rw [z]; rfl))
                · unfold bdT muT
                  omega
                · have l1 := lV V hV
                  rw [gr_e]
                  refine rR.2 _ T E p (Ac_mono hA (by omega)) p0 (by rw [List.length_append, bmp_len]; omega) ((bd_w (by decide)).2 (by rw [List.length_append, bmp_len, List.length_cons]; omega)) hW (fun R E3 hR hX2 => ?_) (fun z => hN (by rw [hV, z]; rfl))
                  have h9 := hs ((kd, tk, if q = x then 0 else 1) :: V ++ R.1, 1 + R.2.1, R.2.2) E3 (by rw [hV, hR]; rfl) (XE_w hX2 (by omega) (Int.le_refl _) (Int.le_refl _))
                  rw [bmp_l (by rw [bmp_len]; exact p1), bmp_2, List.append_assoc]
                  exact h9
      · by_cases c2 : sdc D (Y i) = false
        · have hdj : decide (0 ≤ j) = false := decide_eq_false (fun z => c1 ⟨z, c2⟩)
          refine ⟨none, fun f hf => ?_, bad (fun p N => ?_)⟩
          · obtain ⟨g, rfl⟩ := fpos hf (by omega)
            rw [hdj]
            exact rs_no il c2
          · unfold ist
            rw [if_neg c0, if_neg c1, if_pos (Or.inl c2)]
        · have c2t : sdc D (Y i) = true := by
            cases z : sdc D (Y i)
            · exact absurd z c2
            · rfl
          generalize ht : tp Y i = t
          have ht1 : (if wk (Y i) = 2 then i + 1 else i) = t := ht
          generalize hq : spp Y mt (t + 1) e = q
          by_cases c3 : t < e ∧ isT D (Y t) = true
          · have htb : bal Y i t ∧ i ≤ t ∧ t ≤ i + 1 := by
              rw [← ht]
              unfold tp
              by_cases z : wk (Y i) = 2
              · rw [if_pos z]
                exact ⟨bal_1 (wk2_nb z).1 (wk2_nb z).2, by omega, by omega⟩
              · rw [if_neg z]
                exact ⟨bal_0 Y i, by omega, by omega⟩
            have htb1 := bal_cat htb.1 (bal_1 (k := t) (isT_nb c3.2).1 (isT_nb c3.2).2)
            have qR := spp_R hM (by omega) en hn hq
            have nor : ¬ (sdc D (Y i) = false ∨ ¬ (t < e ∧ isT D (Y t) = true)) := fun z => by
              rcases z with z | z
              · exact c2 z
              · exact z c3
            by_cases c4 : q < 0
            · refine ⟨none, fun f hf => ?_, bad (fun p N => ?_)⟩
              · obtain ⟨g, rfl⟩ := fpos hf (by omega)
                rw [rs_dec il c2t ht1 hq, if_neg (not_not_intro c3), if_pos c4]
              · unfold ist
                rw [if_neg c0, if_neg c1, ht, if_neg nor, hq, if_pos c4]
            · have qr := qR.resolve_left (by omega)
              have hbq := spp_bal hM i0 en hbal htb1 hq qr.1
              by_cases c5 : Y q = 123
              · by_cases c6 : 0 ≤ j ∨ wk (Y i) = 2
                · refine ⟨none, fun f hf => ?_, bad (fun p N => ?_)⟩
                  · obtain ⟨g, rfl⟩ := fpos hf (by omega)
                    rw [rs_dec il c2t ht1 hq, if_neg (not_not_intro c3), if_neg c4, if_pos c5, if_pos (by rcases c6 with z | z; exact Or.inl (decide_eq_true z); exact Or.inr z)]
                  · unfold ist
                    rw [if_neg c0, if_neg c1, ht, if_neg nor, hq, if_neg c4, if_pos c5, if_pos c6]
                · have hdj : decide (0 ≤ j) = false := decide_eq_false (fun z => c6 (Or.inl z))
                  have ho : opn (Y q) = true := by rw [c5]; decide
                  have hm := hM q (by omega) (by omega) ho
                  have hme := bal_in hM hbal i0 en (by omega) qr.2.2.1 ho
                  have hbb := bal_cat hbq (bal_br hm.2.2.2.1 hm.2.2.1)
                  have hub : upb n mt q = mt q := by unfold upb; rw [if_neg (by omega)]
                  obtain ⟨oL, eL, rL⟩ := BD hM hn hGV hGD (w := 4) (by decide) (by decide) 200 (t + 1) q D (by omega) (by omega) (by omega) (by omega) qr.2.2.2.1
                  rw [show decide ((4 : Int) = 4) = true from rfl, show decide ((4 : Int) = 3) = false from rfl] at eL
                  have ii : ∀ (p : Int) (N : List Nd), ist Y D mt i e p j N = some ([(4, t + 1, q, (N.length : Int), j), (1, q, q, (N.length : Int), j), (0, mt q + 1, e, p, j)], gr (gr N 8 i p) 3 t N.length) := fun p N => by
                    unfold ist
                    rw [if_neg c0, if_neg c1, ht, if_neg nor, hq, if_neg c4, if_pos c5, if_neg c6]
                  have start : ∀ (N : List Nd) (T : List Tk) (E : List Ed) (p : Int), Ac mt n E D i j → 0 ≤ p → p < N.length → bdT mt N E ((0, i, e, p, j) :: T) → 0 ≤ wt mt T → (∀ L E2, oL = some L → XE mt n E E2 (t + 1) q (upb n mt j) → Ac mt n E2 L.2.2 q j → G ((1, q, q, (N.length : Int), j) :: (0, mt q + 1, e, p, j) :: T) (bmp N p 1 ++ (8, i, 1 + L.2.1) :: ([(3, t, 0)] ++ L.1)) E2) → (oL = none → Fl) → G ((0, i, e, p, j) :: T) N E := fun N T E p hA p0 p1 hb hW hs hN => by
                    have hb0 := (bd_w (show ¬ (0 : Int) = 1 by decide)).1 hb
                    refine preS hA p0 p1 hb hW (ii p N) ?_ ?_
                    · show muT mt ((4, t + 1, q, (N.length : Int), j) :: (1, q, q, (N.length : Int), j) :: (0, mt q + 1, e, p, j) :: T) < _
                      unfold muT
                      rw [wt_w (by decide), wt_1, wt_w (by decide), wt_w (by decide), List.length_cons, List.length_cons, List.length_cons, List.length_cons]
                      omega
                    · show G ((4, t + 1, q, (N.length : Int), j) :: (1, q, q, (N.length : Int), j) :: (0, mt q + 1, e, p, j) :: T) (gr (gr N 8 i p) 3 t N.length) E
                      have g1 := gr_len N 8 i p
                      have g2 := gr_len (gr N 8 i p) 3 t N.length
                      refine rL.2 _ _ E _ j (Ac_mono hA (by omega)) (by omega) (by omega) (by omega) (by omega) j1 (by omega) jo ((bd_w (by decide)).2 (by rw [wt_1, wt_w (by decide), List.length_cons, List.length_cons]; omega)) (by rw [wt_w (by decide), wt_1, wt_w (by decide)]; omega) (by rw [wt_1, wt_w (by decide)]; omega) (fun L E2 hL hX hA2 => ?_) hN
                      have h9 := hs L E2 hL hX hA2
                      have e9 : gr (gr N 8 i p) 3 t N.length = bmp N p 1 ++ (8, i, 1) :: [(3, t, 0)] := gr_1
                      rw [e9, gr_c]
                      exact h9
                  cases hL : oL with
                  | none =>
                    refine ⟨none, fun f hf => ?_, fun R hR => nns hR, fun N T E p hA p0 p1 hb hW hs hN => start N T E p hA p0 p1 hb hW (fun L E2 hL9 => nns (hL.symm.trans hL9)) (fun _ => hN rfl)⟩
                    obtain ⟨g, rfl⟩ := fpos hf (by omega)
                    rw [rs_dec il c2t ht1 hq, if_neg (not_not_intro c3), if_neg c4, if_pos c5, if_neg (by rw [hdj]; rintro (z | z); exact Bool.noConfusion z; exact c6 (Or.inr z)), eL g (by omega), hL]
                    rfl
                  | some L =>
                    have lL := rL.1 L hL
                    obtain ⟨oB, eB, rB⟩ := BI hM hn hGV hGD hGI hGB K (q + 1) (mt q) q L.2.2 (by omega) (by omega) (by omega) (by omega) hm.2.2.2.1 (by omega) (by omega) (fun _ => ho) hub
                    obtain ⟨oR, eR, rR⟩ := BI hM hn hGV hGD hGI hGB K (mt q + 1) e j L.2.2 (by omega) (by omega) (by omega) en (bal_suf hbb hbal (by omega)) j1 (by omega) jo hu
                    rw [decide_eq_true (show (0 : Int) ≤ q by omega)] at eB
                    refine ⟨oB.bind (fun B => oR.bind (fun R => some ((8, i, 1 + (L.2.1 + 1)) :: (3, t, 0) :: (L.1 ++ ((9, q, B.2.1) :: B.1)) ++ R.1, 1 + R.2.1, R.2.2))), fun f hf => ?_, fun R hR => ?_, fun N T E p hA p0 p1 hb hW hs hN => ?_⟩
                    · obtain ⟨g, rfl⟩ := fpos hf (by omega)
                      rw [rs_dec il c2t ht1 hq, if_neg (not_not_intro c3), if_neg c4, if_pos c5, if_neg (by rw [hdj]; rintro (z | z); exact Bool.noConfusion z; exact c6 (Or.inr z)), eL g (by omega), hL, Option.bind_some, eB g (by omega), eR g (by omega)]
                    · obtain ⟨B, q1, q2⟩ := bind_some hR
                      obtain ⟨R', q3, q4⟩ := bind_some q2
                      have l1 := rB.1 B q1
                      have l2 := rR.1 R' q3
                      cases q4
                      show (((8, i, 1 + (L.2.1 + 1)) :: (3, t, 0) :: (L.1 ++ ((9, q, B.2.1) :: B.1)) ++ R'.1).length : Int) ≤ e - i
                      rw [List.length_append, List.length_cons, List.length_cons, List.length_append, List.length_cons]
                      omega
                    · have hb0 := (bd_w (show ¬ (0 : Int) = 1 by decide)).1 hb
                      refine start N T E p hA p0 p1 hb hW (fun L' E2 hL9 hX hA2 => ?_) (fun z => nns (z.symm.trans hL))
                      have eLL : L = L' := Option.some.inj (hL.symm.trans hL9)
                      subst eLL
                      have xl := XE_len hX
                      generalize hN1 : bmp N p 1 ++ (8, i, 1 + L.2.1) :: ([(3, t, 0)] ++ L.1) = N1
                      have nl : (N1.length : Int) = N.length + 2 + L.1.length := by
                        rw [← hN1, List.length_append, bmp_len, List.length_cons, List.length_append, List.length_cons, List.length_nil]
                        omega
                      refine hGB q q N.length j _ N1 E2 (by omega) (by omega) c5 (by omega) (by omega) (bd_1.2 (by rw [wt_w (by decide), List.length_cons]; omega)) (by rw [wt_w (by decide)]; omega) ?_
                      refine rB.2 _ _ E2 _ (Ac_in hA2 (by omega) (by omega) (by omega)) (by omega) (by rw [gr_len]; omega) ((bd_w (by decide)).2 (by rw [gr_len, wt_w (by decide), List.length_cons]; omega)) (by rw [wt_w (by decide)]; omega) (fun B E3 hB hX2 => ?_) (fun z => hN (by rw [z]; rfl))
                      have l1 := rB.1 B hB
                      have xl2 := XE_len hX2
                      rw [gr_e]
                      refine rR.2 _ T E3 p (Ac_out hA2 hX2 (by omega) (by omega)) p0 (by rw [List.length_append, bmp_len]; omega) ((bd_w (by decide)).2 (by rw [List.length_append, bmp_len, List.length_cons]; omega)) hW (fun R E4 hR hX3 => ?_) (fun z => hN (by rw [hB, z]; rfl))
                      have h9 := hs ((8, i, 1 + (L.2.1 + 1)) :: (3, t, 0) :: (L.1 ++ ((9, q, B.2.1) :: B.1)) ++ R.1, 1 + R.2.1, R.2.2) E4 (by rw [hB, hR]; rfl) (XE_w (XE_t (XE_t hX (XE_w hX2 (Int.le_refl _) (Int.le_refl _) (show mt q ≤ upb n mt j by omega)) (by omega) (by omega) (Int.le_refl _)) hX3 (by omega) (by omega) (by omega)) (by omega) (Int.le_refl _) (Int.le_refl _))
                      have e8 : bmp N1 N.length 1 ++ (9, q, B.2.1) :: B.1 = bmp N p 1 ++ ((8, i, 1 + (L.2.1 + 1)) :: (3, t, 0) :: (L.1 ++ ((9, q, B.2.1) :: B.1))) := by
                        rw [← hN1, gr_c, show 1 + L.2.1 + 1 = 1 + (L.2.1 + 1) by omega]
                        simp only [List.append_assoc]
                        rfl
                      rw [e8, bmp_l (by rw [bmp_len]; exact p1), bmp_2, List.append_assoc]
                      exact h9
              · have q59 : Y q = 59 := qr.2.2.2.2.resolve_right c5
                have hbq1 := bal_cat hbq (bal_1 (k := q) (by rw [q59]; decide) (by rw [q59]; decide))
                generalize hw : (if wk (Y i) = 2 then (3 : Int) else 2) = w
                have w23 : 2 ≤ w ∧ w ≤ 3 ∧ decide (w = 3) = decide (wk (Y i) = 2) := by
                  rw [← hw]
                  by_cases z : wk (Y i) = 2
                  · rw [if_pos z, decide_eq_true z]
                    exact ⟨by decide, by decide, rfl⟩
                  · rw [if_neg z, decide_eq_false z]
                    exact ⟨by decide, by decide, rfl⟩
                generalize hkd : (if wk (Y i) = 2 then (2 : Int) else 1) = kd
                have hw1 : ¬ w = 1 := by omega
                obtain ⟨oL, eL, rL⟩ := BD hM hn hGV hGD (w := w) (by omega) (by omega) 200 (t + 1) q D (by omega) (by omega) (by omega) (by omega) qr.2.2.2.1
                rw [w23.2.2, decide_eq_false (show ¬ w = 4 by omega)] at eL
                have ii : ∀ (p : Int) (N : List Nd), ist Y D mt i e p j N = some ([(w, t + 1, q, (N.length : Int), j), (0, q + 1, e, p, j)], gr (gr N kd i p) 3 t N.length) := fun p N => by
                  unfold ist
                  rw [if_neg c0, if_neg c1, ht, if_neg nor, hq, if_neg c4, if_neg c5, hw, hkd]
                have start : ∀ (N : List Nd) (T : List Tk) (E : List Ed) (p : Int), Ac mt n E D i j → 0 ≤ p → p < N.length → bdT mt N E ((0, i, e, p, j) :: T) → 0 ≤ wt mt T → (∀ L E2, oL = some L → XE mt n E E2 (t + 1) q (upb n mt j) → Ac mt n E2 L.2.2 q j → G ((0, q + 1, e, p, j) :: T) (bmp N p 1 ++ (kd, i, 1 + L.2.1) :: ([(3, t, 0)] ++ L.1)) E2) → (oL = none → Fl) → G ((0, i, e, p, j) :: T) N E := fun N T E p hA p0 p1 hb hW hs hN => by
                  have hb0 := (bd_w (show ¬ (0 : Int) = 1 by decide)).1 hb
                  refine preS hA p0 p1 hb hW (ii p N) ?_ ?_
                  · show muT mt ((w, t + 1, q, (N.length : Int), j) :: (0, q + 1, e, p, j) :: T) < _
                    unfold muT
                    rw [wt_w hw1, wt_w (by decide), wt_w (by decide), List.length_cons, List.length_cons, List.length_cons]
                    omega
                  · show G ((w, t + 1, q, (N.length : Int), j) :: (0, q + 1, e, p, j) :: T) (gr (gr N kd i p) 3 t N.length) E
                    have g1 := gr_len N kd i p
                    have g2 := gr_len (gr N kd i p) 3 t N.length
                    refine rL.2 _ _ E _ j (Ac_mono hA (by omega)) (by omega) (by omega) (by omega) (by omega) j1 (by omega) jo ((bd_w hw1).2 (by rw [wt_w (by decide), List.length_cons]; omega)) (by rw [wt_w hw1, wt_w (by decide)]; omega) (by rw [wt_w (by decide)]; omega) (fun L E2 hL hX hA2 => ?_) hN
                    have h9 := hs L E2 hL hX hA2
                    have e9 : gr (gr N kd i p) 3 t N.length = bmp N p 1 ++ (kd, i, 1) :: [(3, t, 0)] := gr_1
                    rw [e9, gr_c]
                    exact h9
                cases hL : oL with
                | none =>
                  refine ⟨none, fun f hf => ?_, fun R hR => nns hR, fun N T E p hA p0 p1 hb hW hs hN => start N T E p hA p0 p1 hb hW (fun L E2 hL9 => nns (hL.symm.trans hL9)) (fun _ => hN rfl)⟩
                  obtain ⟨g, rfl⟩ := fpos hf (by omega)
                  rw [rs_dec il c2t ht1 hq, if_neg (not_not_intro c3), if_neg c4, if_neg c5, eL g (by omega), hL]
                  rfl
                | some L =>
                  have lL := rL.1 L hL
                  obtain ⟨oR, eR, rR⟩ := BI hM hn hGV hGD hGI hGB K (q + 1) e j L.2.2 (by omega) (by omega) (by omega) en (bal_suf hbq1 hbal (by omega)) j1 (by omega) jo hu
                  refine ⟨oR.bind (fun R => some ((kd, i, 1 + L.2.1) :: (3, t, 0) :: L.1 ++ R.1, 1 + R.2.1, R.2.2)), fun f hf => ?_, fun R hR => ?_, fun N T E p hA p0 p1 hb hW hs hN => ?_⟩
                  · obtain ⟨g, rfl⟩ := fpos hf (by omega)
                    rw [rs_dec il c2t ht1 hq, if_neg (not_not_intro c3), if_neg c4, if_neg c5, eL g (by omega), hL, Option.bind_some, eR g (by omega), hkd]
                  · obtain ⟨R', q3, q4⟩ := bind_some hR
                    have l2 := rR.1 R' q3
                    cases q4
                    show (((kd, i, 1 + L.2.1) :: (3, t, 0) :: L.1 ++ R'.1).length : Int) ≤ e - i
                    rw [List.length_append, List.length_cons, List.length_cons]
                    omega
                  · have hb0 := (bd_w (show ¬ (0 : Int) = 1 by decide)).1 hb
                    refine start N T E p hA p0 p1 hb hW (fun L' E2 hL9 hX hA2 => ?_) (fun z => nns (z.symm.trans hL))
                    have eLL : L = L' := Option.some.inj (hL.symm.trans hL9)
                    subst eLL
                    have xl := XE_len hX
                    refine rR.2 _ T E2 p (Ac_mono hA2 (by omega)) p0 (by rw [List.length_append, bmp_len]; omega) ((bd_w (by decide)).2 (by rw [List.length_append, bmp_len, List.length_cons, List.length_append, List.length_cons, List.length_nil]; omega)) hW (fun R E4 hR hX3 => ?_) (fun z => hN (by rw [z]; rfl))
                    have h9 := hs ((kd, i, 1 + L.2.1) :: (3, t, 0) :: L.1 ++ R.1, 1 + R.2.1, R.2.2) E4 (by rw [hR]; rfl) (XE_w (XE_t hX hX3 (by omega) (by omega) (by omega)) (by omega) (Int.le_refl _) (Int.le_refl _))
                    rw [bmp_l (by rw [bmp_len]; exact p1), bmp_2, List.append_assoc]
                    exact h9
          · refine ⟨none, fun f hf => ?_, bad (fun p N => ?_)⟩
            · obtain ⟨g, rfl⟩ := fpos hf (by omega)
              rw [rs_dec il c2t ht1 hq, if_pos c3]
            · unfold ist
              rw [if_neg c0, if_neg c1, ht, if_pos (Or.inr c3)]
end BG4
