/-! What declarators give, task after task. -/
section BIG3
variable (Y : Int → Int64) (mt : Int → Int) (n : Int) (G : List Tk → List Nd → List Ed → Prop) (Fl : Prop)
def GD : Prop := ∀ (w a e p j : Int) (T : List Tk) (N : List Nd) (E : List Ed), 2 ≤ w → w ≤ 4 → 0 ≤ a → a ≤ e → e ≤ n → Rch Y mt a e → 0 ≤ p → p < N.length → -1 ≤ j → j < n → (0 ≤ j → opn (Y j) = true) → bdT mt N E ((w, a, e, p, j) :: T) → E.length ≤ 99 → 0 ≤ wt mt T → (dst Y mt w a e p j N E = none → Fl) → (∀ q, dst Y mt w a e p j N E = some q → muT mt (q.1 ++ T) < muT mt ((w, a, e, p, j) :: T) ∧ G (q.1 ++ T) q.2.1 q.2.2) → G ((w, a, e, p, j) :: T) N E
def RD (D : List Dcl) (w a e : Int) (o : RI) : Prop := (∀ R, o = some R → (R.1.length : Int) ≤ e - a) ∧ ∀ (N : List Nd) (T : List Tk) (E : List Ed) (p j : Int), Ac mt n E D a j → e ≤ upb n mt j → upb n mt j ≤ n → 0 ≤ p → p < N.length → -1 ≤ j → j < n → (0 ≤ j → opn (Y j) = true) → bdT mt N E ((w, a, e, p, j) :: T) → (E.length : Int) + wt mt ((w, a, e, p, j) :: T) ≤ 98 → 0 ≤ wt mt T → (∀ R E2, o = some R → XE mt n E E2 a e (upb n mt j) → Ac mt n E2 R.2.2 e j → G T (bmp N p R.2.1 ++ R.1) E2) → (o = none → Fl) → G ((w, a, e, p, j) :: T) N E
end BIG3
def tA (r q x j : Int) : List Tk := if r = q then [] else [(5, r + 1, q, x, j)]
def tB (w q e p j : Int) : List Tk := if q < e then [(w, q + 1, e, p, j)] else []
theorem tA_w {mt : Int → Int} (r q x j : Int) (T : List Tk) : (r = q ∧ wt mt (tA r q x j ++ T) = wt mt T ∧ (tA r q x j ++ T).length = T.length) ∨ (¬ r = q ∧ wt mt (tA r q x j ++ T) = (q - (r + 1)) + wt mt T ∧ (tA r q x j ++ T).length = T.length + 1) := by
  unfold tA
  by_cases z : r = q
  · rw [if_pos z]
    exact Or.inl ⟨z, rfl, rfl⟩
  · rw [if_neg z]
    exact Or.inr ⟨z, wt_w (by decide), rfl⟩
theorem tB_w {mt : Int → Int} {w : Int} (q e p j : Int) (T : List Tk) (hw : ¬ w = 1) : (q < e ∧ wt mt (tB w q e p j ++ T) = (e - (q + 1)) + wt mt T ∧ (tB w q e p j ++ T).length = T.length + 1) ∨ (e ≤ q ∧ wt mt (tB w q e p j ++ T) = wt mt T ∧ (tB w q e p j ++ T).length = T.length) := by
  unfold tB
  by_cases z : q < e
  · rw [if_pos z]
    exact Or.inl ⟨z, wt_w hw, rfl⟩
  · rw [if_neg z]
    exact Or.inr ⟨by omega, rfl, rfl⟩
section BG3
variable {Y : Int → Int64} {mt : Int → Int} {n : Int} {G : List Tk → List Nd → List Ed → Prop} {Fl : Prop}
theorem RV_u {D : List Dcl} {a b : Int} {o : Option (List Nd)} (h : RV Y mt n G Fl D a b o) (N : List Nd) (T : List Tk) (E : List Ed) (p j : Int) (ht : TV Y mt n E D a b) (p0 : 0 ≤ p) (p1 : p < N.length) (hb : bdT mt N E ((5, a, b, p, j) :: T)) (hW : 0 ≤ wt mt T) (hs : ∀ N', o = some N' → G T (bmp N p 1 ++ N') E) (hn : o = none → Fl) : G ((5, a, b, p, j) :: T) N E := by
  cases e : o with
  | none => exact h.2 e (hn e) N T E p j ht p0 p1 hb hW
  | some N' => exact (h.1 N' e).2 N T E p j ht p0 p1 hb hW (hs N' e)
theorem BD (hM : MTP Y n mt) (hn : n ≤ 100) (hGV : GV Y mt n G Fl) (hGD : GD Y mt n G Fl) {w : Int} (w2 : 2 ≤ w) (w4 : w ≤ 4) : ∀ (K : Nat) (a e : Int) (D : List Dcl), e - a < K → 0 ≤ a → a ≤ e → e ≤ n → Rch Y mt a e → ∃ o, (∀ f : Nat, e - a < f → rs Y mt f 1 (decide (w = 4)) (decide (w = 3)) a e D = o) ∧ RD Y mt n G Fl D w a e o
  | 0, a, e, D, h, _, ae, _, _ => by
    exfalso
    have : ((0 : Nat) : Int) = 0 := rfl
    omega
  | K + 1, a, e, D, hK, a0, ae, en, hra => by
    have sq := see_rch (w := 44) hM a0 en hra
    generalize hsq : see Y mt a e 44 = q at sq
    have sq1 := sq.2.1
    have sq2 := sq.2.2
    have sr := see_rch (w := 61) hM a0 (by omega) sq.1
    generalize hsr : see Y mt a q 61 = r at sr
    have sr1 := sr.2.1
    have sr2 := sr.2.2
    have pre : ∀ (N : List Nd) (T : List Tk) (E : List Ed) (p j : Int), 0 ≤ p → p < N.length → -1 ≤ j → j < n → (0 ≤ j → opn (Y j) = true) → bdT mt N E ((w, a, e, p, j) :: T) → (E.length : Int) + wt mt ((w, a, e, p, j) :: T) ≤ 98 → 0 ≤ wt mt T → (dst Y mt w a e p j N E = none → Fl) → (∀ q, dst Y mt w a e p j N E = some q → muT mt (q.1 ++ T) < muT mt ((w, a, e, p, j) :: T) ∧ G (q.1 ++ T) q.2.1 q.2.2) → G ((w, a, e, p, j) :: T) N E := fun N T E p j p0 p1 j1 j2 jo hb hE hW h1 h2 => hGD w a e p j T N E w2 w4 a0 ae en hra p0 p1 j1 j2 jo hb (by rw [wt_w (by omega)] at hE; omega) hW h1 h2
    have bad : ∀ (h : ∀ (p j : Int) (N : List Nd) (E : List Ed), dst Y mt w a e p j N E = none), RD Y mt n G Fl D w a e none := fun h => ⟨fun R hR => nns hR, fun N T E p j _ _ _ p0 p1 j1 j2 jo hb hE hW _ hN => pre N T E p j p0 p1 j1 j2 jo hb hE hW (fun _ => hN rfl) (fun q9 hq9 => nns ((h p j N E).symm.trans hq9))⟩
    by_cases hc : (¬ w = 2 ∧ r < q) ∨ (w = 4 ∧ q < e)
    · refine ⟨none, fun f hf => ?_, bad (fun p j N E => dst_c hsq hsr hc)⟩
      obtain ⟨g, rfl⟩ := fpos hf (by omega)
      rw [rs_1 hsq hsr, if_pos (by simp only [decide_eq_true_eq]; omega)]
    · have hc2 : ¬ (((decide (w = 3)) = true ∨ (decide (w = 4)) = true) ∧ r < q ∨ (decide (w = 4)) = true ∧ q < e) := by
        simp only [decide_eq_true_eq]
        omega
      cases hR1 : rdr Y mt 200 a r with
      | none =>
        refine ⟨none, fun f hf => ?_, bad (fun p j N E => ?_)⟩
        · obtain ⟨g, rfl⟩ := fpos hf (by omega)
          rw [rs_1 hsq hsr, if_neg hc2, hR1]
          rfl
        · unfold dst
          rw [hsq, hsr, if_neg hc, hR1]
          rfl
      | some M =>
        have mp := rdr_p hM 200 a r M hR1 a0 sr2 (by omega) sr.1
        by_cases hF : w = 4 ∧ isF M = false
        · refine ⟨none, fun f hf => ?_, bad (fun p j N E => ?_)⟩
          · obtain ⟨g, rfl⟩ := fpos hf (by omega)
            rw [rs_1 hsq hsr, if_neg hc2, hR1, Option.bind_some, if_pos ⟨decide_eq_true hF.1, hF.2⟩]
          · unfold dst
            rw [hsq, hsr, if_neg hc, hR1, Option.bind_some, if_pos hF]
        · have mp1 := mp.1
          have mp2 := mp.2.1
          have hdn : ∀ c : Int, (dnd M c).length = M.length := fun c => dnd_len mp1
          generalize hnm : (ndg M 0).2.1 = nm at mp
          have ddn : ∀ c : Int, dnd M c = (4, nm, (M.length : Int) - 1 + c) :: M.tail := fun c => by unfold dnd; rw [hnm]
          generalize hD1 : (Y nm, decide (w = 3)) :: D = D1
          have hV : ∃ oV, (if r = q then some [] else VE Y D1 mt 200 (r + 1) q) = oV ∧ (∀ V, oV = some V → (r = q ∧ (V.length : Int) = 0) ∨ (¬ r = q ∧ (V.length : Int) ≤ q - r - 1)) ∧ ∀ (N1 : List Nd) (T1 : List Tk) (E1 : List Ed) (x j : Int), Ac mt n E1 D1 r j → q ≤ upb n mt j → upb n mt j ≤ n → 0 ≤ x → x < N1.length → bdT mt N1 E1 (tA r q x j ++ T1) → 0 ≤ wt mt T1 → (∀ V, oV = some V → G T1 (bmp N1 x (if r = q then 0 else 1) ++ V) E1) → (oV = none → Fl) → G (tA r q x j ++ T1) N1 E1 := by
            by_cases z : r = q
            · refine ⟨some [], by rw [if_pos z], fun V hV => ?_, fun N1 T1 E1 x j _ _ _ _ _ _ _ hs _ => ?_⟩
              · cases hV
                exact Or.inl ⟨z, rfl⟩
              · have h9 := hs [] rfl
                rw [if_pos z, bmp_0, List.append_nil] at h9
                unfold tA
                rw [if_pos z]
                exact h9
            · have h61 : Y r = 61 := by
                have := see_44 hM a0 (show q ≤ n by omega) hn (w := 61) (by rw [hsr]; omega)
                rw [hsr] at this
                exact this
              have hr2 : Rch Y mt (r + 1) q := by
                obtain ⟨c1, hc1⟩ := sr.1
                have g1 := Rch_sp hM c1 a r q hc1 sq.1 sr1 a0 (by omega)
                have g2 := Rch_nx g1 (by omega)
                rw [nx_p (by rw [h61]; decide)] at g2
                exact g2
              obtain ⟨o1, e1, r1⟩ := BV (D := D1) hM hn hGV 200 (r + 1) q (by omega) (by omega) (by omega) (by omega) hr2
              refine ⟨o1, by rw [if_neg z]; exact e1 200 (by omega), fun V hV => Or.inr ⟨z, by have := (r1.1 V hV).1; omega⟩, fun N1 T1 E1 x j hA hu hun x0 x1 hb hW hs hN => ?_⟩
              unfold tA at hb ⊢
              rw [if_neg z] at hb ⊢
              refine RV_u r1 N1 T1 E1 x j (TV_s (Ac_TV hA hun) (by omega) hu) x0 x1 hb hW (fun V hV => ?_) hN
              have h9 := hs V hV
              rw [if_neg z] at h9
              exact h9
          obtain ⟨oV, eV, lV, gV⟩ := hV
          have hR : ∃ oR, (∀ f : Nat, e - a ≤ f → (if q < e then rs Y mt f 1 (decide (w = 4)) (decide (w = 3)) (q + 1) e D1 else some ([], 0, D1)) = oR) ∧ (∀ R, oR = some R → (R.1.length : Int) ≤ e - q ∧ (q < e → (R.1.length : Int) ≤ e - q - 1)) ∧ ∀ (N2 : List Nd) (T : List Tk) (E1 : List Ed) (p j : Int), Ac mt n E1 D1 q j → e ≤ upb n mt j → upb n mt j ≤ n → 0 ≤ p → p < N2.length → -1 ≤ j → j < n → (0 ≤ j → opn (Y j) = true) → bdT mt N2 E1 (tB w q e p j ++ T) → (E1.length : Int) + wt mt (tB w q e p j ++ T) ≤ 98 → 0 ≤ wt mt T → (∀ R E2, oR = some R → XE mt n E1 E2 q e (upb n mt j) → Ac mt n E2 R.2.2 e j → G T (bmp N2 p R.2.1 ++ R.1) E2) → (oR = none → Fl) → G (tB w q e p j ++ T) N2 E1 := by
            by_cases z : q < e
            · have h44 : Y q = 44 := by
                have := see_44 hM a0 en hn (w := 44) (by rw [hsq]; exact z)
                rw [hsq] at this
                exact this
              have hr2 : Rch Y mt (q + 1) e := by
                obtain ⟨c1, hc1⟩ := sq.1
                have g1 := Rch_sp hM c1 a q e hc1 hra sq1 a0 en
                have g2 := Rch_nx g1 z
                rw [nx_p (by rw [h44]; decide)] at g2
                exact g2
              obtain ⟨o1, e1, r1⟩ := BD hM hn hGV hGD w2 w4 K (q + 1) e D1 (by omega) (by omega) (by omega) en hr2
              refine ⟨o1, fun f hf => by rw [if_pos z]; exact e1 f (by omega), fun R hR => ⟨by have := r1.1 R hR; omega, fun _ => by have := r1.1 R hR; omega⟩, fun N2 T E1 p j hA hu hun p0 p1 j1 j2 jo hb hE hW hs hN => ?_⟩
              unfold tB at hb hE ⊢
              rw [if_pos z] at hb hE ⊢
              exact r1.2 N2 T E1 p j (Ac_mono hA (by omega)) hu hun p0 p1 j1 j2 jo hb hE hW (fun R E2 hR hX hA2 => hs R E2 hR (XE_w hX (by omega) (Int.le_refl _) (Int.le_refl _)) hA2) hN
            · have eq : q = e := by omega
              refine ⟨some ([], 0, D1), fun f hf => by rw [if_neg z], fun R hR => ?_, fun N2 T E1 p j hA hu hun p0 p1 j1 j2 jo hb hE hW hs hN => ?_⟩
              · cases hR
                exact ⟨by show ((0 : Nat) : Int) ≤ _; omega, fun y => absurd y z⟩
              · have h9 := hs ([], 0, D1) E1 rfl (XE_0 (by omega)) (Ac_mono hA (by omega))
                have h9 : G T (bmp N2 p 0 ++ []) E1 := h9
                rw [bmp_0, List.append_nil] at h9
                unfold tB
                rw [if_neg z]
                exact h9
          obtain ⟨oR, eR, lR, gR⟩ := hR
          refine ⟨oV.bind (fun V => oR.bind (fun R => some (dnd M (if r = q then 0 else 1) ++ V ++ R.1, 1 + R.2.1, R.2.2))), fun f hf => ?_, fun R hR => ?_, fun N T E p j hA hu hun p0 p1 j1 j2 jo hb hE hW hs hN => ?_⟩
          · obtain ⟨g, rfl⟩ := fpos hf (by omega)
            rw [rs_1 hsq hsr, if_neg hc2, hR1, Option.bind_some, if_neg (fun z => hF ⟨of_decide_eq_true z.1, z.2⟩), hnm, hD1, eV]
            congr 1
            funext V
            rw [eR g (by omega)]
          · obtain ⟨V, q1, q2⟩ := bind_some hR
            obtain ⟨R', q3, q4⟩ := bind_some q2
            have l1 := lV V q1
            have l2 := lR R' q3
            have l21 := l2.1
            have l22 := l2.2
            cases q4
            show ((dnd M (if r = q then 0 else 1) ++ V ++ R'.1).length : Int) ≤ e - a
            rw [List.length_append, List.length_append, hdn]
            omega
          · have hd : dst Y mt w a e p j N E = some (tA r q N.length j ++ tB w q e p j, bmp N p 1 ++ (4, nm, (M.length : Int) - 1) :: M.tail, (Y nm, r, j, decide (w = 3)) :: E) := by
              unfold dst
              rw [hsq, hsr, if_neg hc, hR1, Option.bind_some, if_neg hF, hnm]
              rfl
            have hb0 := (bd_w (show ¬ w = 1 by omega)).1 hb
            rw [wt_w (show ¬ w = 1 by omega)] at hE
            have A1 := tA_w (mt := mt) r q N.length j (tB w q e p j ++ T)
            have B1 := tB_w (mt := mt) q e p j T (show ¬ w = 1 by omega)
            have ml : (M.tail.length : Int) = M.length - 1 := by rw [List.length_tail]; omega
            refine pre N T E p j p0 p1 j1 j2 jo hb (by rw [wt_w (show ¬ w = 1 by omega)]; omega) hW (fun z => nns (z.symm.trans hd)) (fun q9 hq9 => ?_)
            have e9 : (tA r q N.length j ++ tB w q e p j, bmp N p 1 ++ (4, nm, (M.length : Int) - 1) :: M.tail, (Y nm, r, j, decide (w = 3)) :: E) = q9 := Option.some.inj (hd.symm.trans hq9)
            rw [← e9]
            show muT mt ((tA r q N.length j ++ tB w q e p j) ++ T) < _ ∧ G ((tA r q N.length j ++ tB w q e p j) ++ T) (bmp N p 1 ++ (4, nm, (M.length : Int) - 1) :: M.tail) ((Y nm, r, j, decide (w = 3)) :: E)
            rw [List.append_assoc]
            refine ⟨?_, ?_⟩
            · unfold muT
              rw [wt_w (show ¬ w = 1 by omega), List.length_cons]
              omega
            · have hA1 : Ac mt n ((Y nm, r, j, decide (w = 3)) :: E) D1 r j := by
                rw [← hD1]
                exact Ac_add hA sr2 mp.2.2
              have hX1 : XE mt n E ((Y nm, r, j, decide (w = 3)) :: E) a r (upb n mt j) := ⟨[(Y nm, r, j, decide (w = 3))], rfl, by show ((1 : Nat) : Int) ≤ _; omega, fun d hd9 => by
                rw [List.mem_singleton.1 hd9]
                exact ⟨Int.le_refl _, Int.le_refl _, mp.2.2⟩⟩
              have nl : ((bmp N p 1 ++ (4, nm, (M.length : Int) - 1) :: M.tail).length : Int) = N.length + M.length := by
                rw [List.length_append, bmp_len, List.length_cons]
                omega
              refine gV _ _ _ _ _ hA1 (by omega) hun (by omega) (by omega) ?_ (by omega) (fun V hV => ?_) (fun z => hN (by rw [z]; rfl))
              · unfold bdT muT
                rw [List.length_cons]
                omega
              · have l1 := lV V hV
                have e2 : bmp (bmp N p 1 ++ (4, nm, (M.length : Int) - 1) :: M.tail) N.length (if r = q then 0 else 1) ++ V = bmp N p 1 ++ (dnd M (if r = q then 0 else 1) ++ V) := by
                  rw [gr_c, ddn]
                  rfl
                rw [e2]
                have nl2 : ((bmp N p 1 ++ (dnd M (if r = q then 0 else 1) ++ V)).length : Int) = N.length + M.length + V.length := by
                  rw [List.length_append, bmp_len, List.length_append, hdn]
                  omega
                refine gR _ T _ p j (Ac_mono hA1 (by omega)) hu hun p0 (by omega) j1 j2 jo ?_ ?_ hW (fun R E2 hR hX hA2 => ?_) (fun z => hN (by rw [hV, z]; rfl))
                · unfold bdT muT
                  rw [List.length_cons]
                  omega
                · rw [List.length_cons]
                  omega
                · have h9 := hs (dnd M (if r = q then 0 else 1) ++ V ++ R.1, 1 + R.2.1, R.2.2) E2 (by rw [hV, hR]; rfl) (XE_t hX1 hX sr1 (by omega) (Int.le_refl _)) hA2
                  rw [bmp_l (by rw [bmp_len]; exact p1), bmp_2, List.append_assoc]
                  exact h9
end BG3
