/-! What an expression gives, task after task. -/
section BG2
variable {Y : Int → Int64} {mt : Int → Int} {n : Int} {G : List Tk → List Nd → List Ed → Prop} {Fl : Prop} {D : List Dcl}
theorem GV_s (hG : GV Y mt n G Fl) {a b p j : Int} {T : List Tk} {N : List Nd} {E : List Ed} {q : List Tk × List Nd} (a0 : 0 ≤ a) (ab : a ≤ b) (bn : b ≤ n) (hr : Rch Y mt a b) (ht : TV Y mt n E D a b) (p0 : 0 ≤ p) (p1 : p < N.length) (hb : bdT mt N E ((5, a, b, p, j) :: T)) (hW : 0 ≤ wt mt T) (hv : vst Y D mt a b p N = some q) (hm : muT mt (q.1 ++ T) < muT mt ((5, a, b, p, j) :: T)) (hg : G (q.1 ++ T) q.2 E) : G ((5, a, b, p, j) :: T) N E :=
  hG a b p j T N E D a0 ab bn hr ht p0 p1 hb hW (fun z => nns (z.symm.trans hv)) (fun r hr9 => by
    have e : q = r := Option.some.inj (hv.symm.trans hr9)
    rw [← e]
    exact ⟨hm, hg⟩)
theorem onv_c (hG : GV Y mt n G Fl) {a b x y : Int} {o1 : Option (List Nd)} (H : List Nd) (pp : List Nd → Int → Int) (NN : List Nd → Int → List Nd) (a0 : 0 ≤ a) (bn : b ≤ n) (hr : Rch Y mt a b) (r1 : RV Y mt n G Fl D x y o1) (hx : a ≤ x) (xy : x ≤ y) (hy : y ≤ b) (hxy : (H.length : Int) + (y - x) ≤ b - a) (hlt : y - x < b - a) (hv : ∀ N p, vst Y D mt a b p N = some ([(5, x, y, pp N p, 0)], NN N p)) (hlen : ∀ N p, (NN N p).length = N.length + H.length) (hpp : ∀ (N : List Nd) (p : Int), 0 ≤ p → p < N.length → 0 ≤ pp N p ∧ pp N p < (NN N p).length) (hnn : ∀ (N : List Nd) (p : Int) (N1 : List Nd), 0 ≤ p → p < N.length → bmp (NN N p) (pp N p) 1 ++ N1 = bmp N p 1 ++ (H ++ N1)) : RV Y mt n G Fl D a b (o1.bind (fun N1 => some (H ++ N1))) := by
  have st : ∀ (N : List Nd) (T : List Tk) (E : List Ed) (p j : Int), TV Y mt n E D a b → 0 ≤ p → p < N.length → bdT mt N E ((5, a, b, p, j) :: T) → 0 ≤ wt mt T → G ((5, x, y, pp N p, 0) :: T) (NN N p) E → G ((5, a, b, p, j) :: T) N E := fun N T E p j ht p0 p1 hb hW hg => by
    refine GV_s hG a0 (by omega) bn hr ht p0 p1 hb hW (hv N p) ?_ hg
    show muT mt ((5, x, y, pp N p, 0) :: T) < _
    unfold muT
    rw [wt_w (by decide), wt_w (by decide), List.length_cons, List.length_cons]
    omega
  have bb : ∀ (N : List Nd) (T : List Tk) (E : List Ed) (p j : Int), bdT mt N E ((5, a, b, p, j) :: T) → bdT mt (NN N p) E ((5, x, y, pp N p, 0) :: T) := fun N T E p j hb => by
    have hb := (bd_w (by decide)).1 hb
    refine (bd_w (by decide)).2 ?_
    rw [hlen]
    omega
  refine ⟨fun N' h => ?_, fun h hF N T E p j ht p0 p1 hb hW => ?_⟩
  · obtain ⟨N1, q1, q2⟩ := bind_some h
    have a1 := r1.1 N1 q1
    have a11 := a1.1
    cases q2
    refine ⟨by rw [List.length_append]; omega, fun N T E p j ht p0 p1 hb hW hg => st N T E p j ht p0 p1 hb hW ?_⟩
    have h9 := hpp N p p0 p1
    refine a1.2 (NN N p) T E (pp N p) 0 (TV_s ht hx hy) h9.1 h9.2 (bb N T E p j hb) hW ?_
    rw [hnn N p N1 p0 p1]
    exact hg
  · have h9 := hpp N p p0 p1
    cases q1 : o1 with
    | none => exact st N T E p j ht p0 p1 hb hW (r1.2 q1 hF (NN N p) T E (pp N p) 0 (TV_s ht hx hy) h9.1 h9.2 (bb N T E p j hb) hW)
    | some N1 =>
      rw [q1] at h
      exact nns h.symm
theorem twv_c (hG : GV Y mt n G Fl) {a b x1 y1 x2 y2 k t : Int} {o1 o2 : Option (List Nd)} (a0 : 0 ≤ a) (bn : b ≤ n) (hr : Rch Y mt a b) (r1 : RV Y mt n G Fl D x1 y1 o1) (r2 : RV Y mt n G Fl D x2 y2 o2) (h1 : a ≤ x1) (h2 : x1 ≤ y1) (h3 : y1 ≤ x2) (h4 : x2 ≤ y2) (h5 : y2 ≤ b) (hs : 1 + (y1 - x1) + (y2 - x2) ≤ b - a) (hv : ∀ N p, vst Y D mt a b p N = some ([(5, x1, y1, (N.length : Int), 0), (5, x2, y2, (N.length : Int), 0)], gr N k t p)) : RV Y mt n G Fl D a b (o1.bind (fun N1 => o2.bind (fun N2 => some ((k, t, 2) :: N1 ++ N2)))) := by
  have st : ∀ (N : List Nd) (T : List Tk) (E : List Ed) (p j : Int), TV Y mt n E D a b → 0 ≤ p → p < N.length → bdT mt N E ((5, a, b, p, j) :: T) → 0 ≤ wt mt T → G ((5, x1, y1, (N.length : Int), 0) :: (5, x2, y2, (N.length : Int), 0) :: T) (gr N k t p) E → G ((5, a, b, p, j) :: T) N E := fun N T E p j ht p0 p1 hb hW hg => by
    refine GV_s hG a0 (by omega) bn hr ht p0 p1 hb hW (hv N p) ?_ hg
    show muT mt ((5, x1, y1, (N.length : Int), 0) :: (5, x2, y2, (N.length : Int), 0) :: T) < _
    unfold muT
    rw [wt_w (by decide), wt_w (by decide), wt_w (by decide), List.length_cons, List.length_cons, List.length_cons]
    omega
  have b1 : ∀ (N : List Nd) (T : List Tk) (E : List Ed) (p j : Int), bdT mt N E ((5, a, b, p, j) :: T) → bdT mt (gr N k t p) E ((5, x1, y1, (N.length : Int), 0) :: (5, x2, y2, (N.length : Int), 0) :: T) := fun N T E p j hb => by
    have hb := (bd_w (by decide)).1 hb
    refine (bd_w (by decide)).2 ?_
    rw [gr_len, wt_w (by decide), List.length_cons]
    omega
  have b2 : ∀ (N : List Nd) (T : List Tk) (E : List Ed) (p j : Int) (N1 : List Nd), (N1.length : Int) ≤ y1 - x1 → bdT mt N E ((5, a, b, p, j) :: T) → bdT mt (bmp N p 1 ++ (k, t, 1) :: N1) E ((5, x2, y2, (N.length : Int), 0) :: T) := fun N T E p j N1 hl hb => by
    have hb := (bd_w (by decide)).1 hb
    refine (bd_w (by decide)).2 ?_
    rw [List.length_append, bmp_len, List.length_cons]
    omega
  have w1 : ∀ (N : List Nd) (T : List Tk), 0 ≤ wt mt T → 0 ≤ wt mt ((5, x2, y2, (N.length : Int), 0) :: T) := fun N T hW => by
    rw [wt_w (by decide)]
    omega
  refine ⟨fun N' h => ?_, fun h hF N T E p j ht p0 p1 hb hW => ?_⟩
  · obtain ⟨N1, q1, q2⟩ := bind_some h
    obtain ⟨N2, q3, q4⟩ := bind_some q2
    have a1 := r1.1 N1 q1
    have a2 := r2.1 N2 q3
    have a11 := a1.1
    have a21 := a2.1
    cases q4
    refine ⟨by rw [List.length_append, List.length_cons]; omega, fun N T E p j ht p0 p1 hb hW hg => st N T E p j ht p0 p1 hb hW ?_⟩
    refine a1.2 (gr N k t p) _ E _ 0 (TV_s ht h1 (by omega)) (by omega) (by rw [gr_len]; omega) (b1 N T E p j hb) (w1 N T hW) ?_
    rw [gr_1]
    refine a2.2 _ T E _ 0 (TV_s ht (by omega) h5) (by omega) (by rw [List.length_append, bmp_len, List.length_cons]; omega) (b2 N T E p j N1 a11 hb) hW ?_
    rw [gr_c]
    exact hg
  · cases q1 : o1 with
    | none => exact st N T E p j ht p0 p1 hb hW (r1.2 q1 hF (gr N k t p) _ E _ 0 (TV_s ht h1 (by omega)) (by omega) (by rw [gr_len]; omega) (b1 N T E p j hb) (w1 N T hW))
    | some N1 =>
      rw [q1] at h
      have a1 := r1.1 N1 q1
      have a11 := a1.1
      cases q3 : o2 with
      | none =>
        refine st N T E p j ht p0 p1 hb hW ?_
        refine a1.2 (gr N k t p) _ E _ 0 (TV_s ht h1 (by omega)) (by omega) (by rw [gr_len]; omega) (b1 N T E p j hb) (w1 N T hW) ?_
        rw [gr_1]
        exact r2.2 q3 hF _ T E _ 0 (TV_s ht (by omega) h5) (by omega) (by rw [List.length_append, bmp_len, List.length_cons]; omega) (b2 N T E p j N1 a11 hb) hW
      | some N2 =>
        rw [q3] at h
        exact nns h.symm
theorem clv_c (hG : GV Y mt n G Fl) {a b x1 y1 x2 y2 k t : Int} {l : List (Int × Int)} {o1 : Option (List Nd)} {o2 : Option (List Nd × Int)} (a0 : 0 ≤ a) (bn : b ≤ n) (hr : Rch Y mt a b) (r1 : RV Y mt n G Fl D x1 y1 o1) (r2 : RL Y mt n G Fl D x2 y2 l o2) (h1 : a ≤ x1) (h2 : x1 ≤ y1) (h3 : y1 ≤ x2) (h4 : x2 ≤ y2) (h5 : y2 ≤ b) (hs : 2 + (y1 - x1) + (y2 - x2) ≤ b - a) (hv : ∀ N p, vst Y D mt a b p N = some ((5, x1, y1, (N.length : Int), 0) :: vtk N.length l, gr N k t p)) : RV Y mt n G Fl D a b (o1.bind (fun N1 => o2.bind (fun r => some ((k, t, 1 + r.2) :: N1 ++ r.1)))) := by
  have w1 := r2.1.1
  have w3 := r2.1.2
  have w2 := r2.2.1
  have st : ∀ (N : List Nd) (T : List Tk) (E : List Ed) (p j : Int), TV Y mt n E D a b → 0 ≤ p → p < N.length → bdT mt N E ((5, a, b, p, j) :: T) → 0 ≤ wt mt T → G ((5, x1, y1, (N.length : Int), 0) :: (vtk N.length l ++ T)) (gr N k t p) E → G ((5, a, b, p, j) :: T) N E := fun N T E p j ht p0 p1 hb hW hg => by
    refine GV_s hG a0 (by omega) bn hr ht p0 p1 hb hW (hv N p) ?_ hg
    show muT mt ((5, x1, y1, (N.length : Int), 0) :: (vtk N.length l ++ T)) < _
    unfold muT
    rw [wt_w (by decide), wt_w (by decide), wt_app, wt_vtk, List.length_cons, List.length_cons, List.length_append, vtk_len]
    omega
  have b1 : ∀ (N : List Nd) (T : List Tk) (E : List Ed) (p j : Int), bdT mt N E ((5, a, b, p, j) :: T) → bdT mt (gr N k t p) E ((5, x1, y1, (N.length : Int), 0) :: (vtk N.length l ++ T)) := fun N T E p j hb => by
    have hb := (bd_w (by decide)).1 hb
    refine (bd_w (by decide)).2 ?_
    rw [gr_len, wt_app, wt_vtk, List.length_append, vtk_len]
    omega
  have b2 : ∀ (N : List Nd) (T : List Tk) (E : List Ed) (p j : Int) (N1 : List Nd), (N1.length : Int) ≤ y1 - x1 → bdT mt N E ((5, a, b, p, j) :: T) → bdT mt (bmp N p 1 ++ (k, t, 1) :: N1) E (vtk N.length l ++ T) := fun N T E p j N1 hl hb => by
    have hb := (bd_w (by decide)).1 hb
    unfold bdT muT
    rw [wt_app, wt_vtk, List.length_append, List.length_append, vtk_len, bmp_len, List.length_cons]
    omega
  have w4 : ∀ (N : List Nd) (T : List Tk), 0 ≤ wt mt T → 0 ≤ wt mt (vtk N.length l ++ T) := fun N T hW => by
    rw [wt_app, wt_vtk]
    omega
  refine ⟨fun N' h => ?_, fun h hF N T E p j ht p0 p1 hb hW => ?_⟩
  · obtain ⟨N1, q1, q2⟩ := bind_some h
    obtain ⟨r, q3, q4⟩ := bind_some q2
    have a1 := r1.1 N1 q1
    have a2 := r2.2.2.1 r q3
    have a11 := a1.1
    have a21 := a2.1
    cases q4
    refine ⟨by rw [List.length_append, List.length_cons]; omega, fun N T E p j ht p0 p1 hb hW hg => st N T E p j ht p0 p1 hb hW ?_⟩
    refine a1.2 (gr N k t p) _ E _ 0 (TV_s ht h1 (by omega)) (by omega) (by rw [gr_len]; omega) (b1 N T E p j hb) (w4 N T hW) ?_
    rw [gr_1]
    refine a2.2 _ T E _ (TV_s ht (by omega) h5) (by omega) (by rw [List.length_append, bmp_len, List.length_cons]; omega) (b2 N T E p j N1 a11 hb) hW ?_
    rw [gr_c]
    exact hg
  · cases q1 : o1 with
    | none => exact st N T E p j ht p0 p1 hb hW (r1.2 q1 hF (gr N k t p) _ E _ 0 (TV_s ht h1 (by omega)) (by omega) (by rw [gr_len]; omega) (b1 N T E p j hb) (w4 N T hW))
    | some N1 =>
      rw [q1] at h
      have a1 := r1.1 N1 q1
      have a11 := a1.1
      cases q3 : o2 with
      | none =>
        refine st N T E p j ht p0 p1 hb hW ?_
        refine a1.2 (gr N k t p) _ E _ 0 (TV_s ht h1 (by omega)) (by omega) (by rw [gr_len]; omega) (b1 N T E p j hb) (w4 N T hW) ?_
        rw [gr_1]
        exact r2.2.2.2 q3 hF _ T E _ (TV_s ht (by omega) h5) (by omega) (by rw [List.length_append, bmp_len, List.length_cons]; omega) (b2 N T E p j N1 a11 hb) hW
      | some r =>
        rw [q3] at h
        exact nns h.symm
theorem BV (hM : MTP Y n mt) (hn : n ≤ 100) (hG : GV Y mt n G Fl) : ∀ (K : Nat) (a b : Int), b - a < K → 0 ≤ a → a ≤ b → b ≤ n → Rch Y mt a b → ∃ o, (∀ f : Nat, b - a < f → VE Y D mt f a b = o) ∧ RV Y mt n G Fl D a b o
  | 0, a, b, h, _, ab, _, _ => by
    exfalso
    have : ((0 : Nat) : Int) = 0 := rfl
    omega
  | K + 1, a, b, hK, a0, ab, bn, hr => by
    have IH := BV hM hn hG K
    cases hc : cs Y D mt 200 a b true with
    | none =>
      refine ⟨none, fun f hf => ?_, fun N' h => nns h, fun _ hF N T E p j ht p0 p1 hb hW => hG a b p j T N E D a0 ab bn hr ht p0 p1 hb hW (fun _ => hF) (fun q hq => ?_)⟩
      · obtain ⟨g, rfl⟩ := fpos hf (by omega)
        rw [VE, hc]
        rfl
      · have e : vst Y D mt a b p N = none := by
          unfold vst
          rw [hc]
          rfl
        exact nns (e.symm.trans hq)
    | some L =>
      have hab := cs_lt (f := 199) hc
      by_cases hL : L = []
      · rw [hL] at hc
        have vs : ∀ (N : List Nd) (p : Int), vst Y D mt a b p N = _ := fun N p => by
          unfold vst
          rw [hc, Option.bind_some, if_pos rfl]
        by_cases c1 : prf (Y a) = true
        · have nb := prf_nb c1
          have hr1 := Rch_nx hr hab
          rw [nx_p (fun z => by rcases z with z | z; exact nb.2.2.2.1 z; exact nb.2.2.2.2 z)] at hr1
          obtain ⟨o1, e1, r1⟩ := IH (a + 1) b (by omega) (by omega) (by omega) bn hr1
          refine ⟨o1.bind (fun N1 => some ([(13, a, 1)] ++ N1)), fun f hf => ?_, onv_c hG [(13, a, 1)] (fun N _ => N.length) (fun N p => gr N 13 a p) a0 bn hr r1 (by omega) (by omega) (Int.le_refl _) (by show ((1 : Nat) : Int) + _ ≤ _; omega) (by omega) (fun N p => by rw [vs, if_pos c1]) (fun N p => gr_len _ _ _ _) (fun N p p0 p1 => ⟨by omega, by rw [gr_len]; omega⟩) (fun N p N1 p0 p1 => gr_1)⟩
          obtain ⟨g, rfl⟩ := fpos hf (by omega)
          rw [VE_1 hc, if_pos c1, e1 g (by omega)]
          rfl
        · have c1f : prf (Y a) = false := by
            cases z : prf (Y a)
            · rfl
            · exact absurd z c1
          by_cases c2 : Y a = 40 ∧ isT D (Y (a + 1)) = true
          · have hm := hM a a0 (by omega) (opb (Or.inl c2.1))
            have hr1 := Rch_nx hr hab
            rw [nx_b (Or.inl c2.1)] at hr1
            have hl1 := Rch_le hr1
            have h2 : a + 2 ≤ mt a := by
              by_cases z : mt a = a + 1
              · exfalso
                have q2 := (prb_o hm.2.2.1).2.1
                rw [z, (isT_nb c2.2).2] at q2
                exact Bool.noConfusion q2
              · have := hm.1; omega
            obtain ⟨o1, e1, r1⟩ := IH (mt a + 1) b (by omega) (by omega) (by omega) bn hr1
            refine ⟨o1.bind (fun N1 => some (((14, a, 2 + (mt a - (a + 2))) :: (3, a + 1, 0) :: stF (mt a - (a + 2)).toNat (a + 2)) ++ N1)), fun f hf => ?_, onv_c hG _ (fun N _ => N.length) (fun N p => cstN N a p (mt a)) a0 bn hr r1 (by omega) (by omega) (Int.le_refl _) (by rw [List.length_cons, List.length_cons, stF_len]; omega) (by omega) (fun N p => by rw [vs, if_neg c1, if_pos c2]) (fun N p => ?_) (fun N p p0 p1 => ⟨by omega, ?_⟩) (fun N p N1 p0 p1 => ?_)⟩
            · obtain ⟨g, rfl⟩ := fpos hf (by omega)
              rw [VE_1 hc, if_neg c1, if_pos c2, e1 g (by omega)]
            · have := cst_len (N := N) (p := p) h2
              rw [List.length_cons, List.length_cons, stF_len]
              omega
            · have := cst_len (N := N) (p := p) h2
              omega
            · unfold cstN
              rw [bmp_q (by rw [bmp_len]), List.append_assoc]
              show bmp N p 1 ++ ((14, a, 1 + (mt a - (a + 2)) + 1) :: (3, a + 1, 0) :: stF (mt a - (a + 2)).toNat (a + 2) ++ N1) = _
              rw [show 1 + (mt a - (a + 2)) + 1 = 2 + (mt a - (a + 2)) by omega]
          · by_cases c3 : a = b - 1
            · refine ⟨some [(if wk (Y a) = 5 then 18 else 17, a, 0)], fun f hf => ?_, fun N' h => ?_, fun h => nns h.symm⟩
              · obtain ⟨g, rfl⟩ := fpos hf (by omega)
                rw [VE_1 hc, if_neg c1, if_neg c2, if_pos c3]
              · cases h
                refine ⟨by show ((1 : Nat) : Int) ≤ _; omega, fun N T E p j ht p0 p1 hb hW hg => GV_s hG a0 ab bn hr ht p0 p1 hb hW (q := ([], gr N (if wk (Y a) = 5 then 18 else 17) a p)) (by rw [vs, if_neg c1, if_neg c2, if_pos c3]) ?_ hg⟩
                show muT mt T < _
                unfold muT
                rw [wt_w (by decide), List.length_cons]
                omega
            · obtain ⟨v1, v2, v3, v4, v5⟩ := vlast hM a0 bn hr hc c1f c2 c3
              have hm := hM (mt (b - 1)) (by omega) (by omega) (opb v3)
              rw [v4] at hm
              have hin := bal_rch hM hm.2.2.2.1 (by omega) (by omega)
              by_cases c4 : mt (b - 1) = a
              · rw [c4] at hin
                obtain ⟨o1, e1, r1⟩ := IH (a + 1) (b - 1) (by omega) (by omega) (by omega) (by omega) hin
                refine ⟨o1.bind (fun N1 => some ([] ++ N1)), fun f hf => ?_, onv_c hG [] (fun _ p => p) (fun N _ => N) a0 bn hr r1 (by omega) (by omega) (by omega) (by show ((0 : Nat) : Int) + _ ≤ _; omega) (by omega) (fun N p => by rw [vs, if_neg c1, if_neg c2, if_neg c3, if_pos c4]) (fun N p => rfl) (fun N p p0 p1 => ⟨p0, p1⟩) (fun N p N1 p0 p1 => rfl)⟩
                obtain ⟨g, rfl⟩ := fpos hf (by omega)
                rw [VE_1 hc, if_neg c1, if_neg c2, if_neg c3, if_pos c4, e1 g (by omega)]
                cases o1 <;> rfl
              · obtain ⟨o1, e1, r1⟩ := IH a (mt (b - 1)) (by omega) a0 v1 (by omega) v5
                by_cases c5 : Y (mt (b - 1)) = 91
                · obtain ⟨o2, e2, r2⟩ := IH (mt (b - 1) + 1) (b - 1) (by omega) (by omega) (by omega) (by omega) hin
                  refine ⟨_, fun f hf => ?_, twv_c hG a0 bn hr r1 r2 (Int.le_refl _) v1 (by omega) (by omega) (by omega) (by omega) (k := 15) (t := mt (b - 1)) (fun N p => by rw [vs, if_neg c1, if_neg c2, if_neg c3, if_neg c4, if_pos c5])⟩
                  obtain ⟨g, rfl⟩ := fpos hf (by omega)
                  rw [VE_1 hc, if_neg c1, if_neg c2, if_neg c3, if_neg c4, if_pos c5, e1 g (by omega), e2 g (by omega)]
                · by_cases c6 : b - 1 ≤ mt (b - 1) + 1
                  · refine ⟨o1.bind (fun N1 => some ([(16, mt (b - 1), 1)] ++ N1)), fun f hf => ?_, onv_c hG [(16, mt (b - 1), 1)] (fun N _ => N.length) (fun N p => gr N 16 (mt (b - 1)) p) a0 bn hr r1 (Int.le_refl _) v1 (by omega) (by show ((1 : Nat) : Int) + _ ≤ _; omega) (by omega) (fun N p => by rw [vs, if_neg c1, if_neg c2, if_neg c3, if_neg c4, if_neg c5, if_pos c6]) (fun N p => gr_len _ _ _ _) (fun N p p0 p1 => ⟨by omega, by rw [gr_len]; omega⟩) (fun N p N1 p0 p1 => gr_1)⟩
                    obtain ⟨g, rfl⟩ := fpos hf (by omega)
                    rw [VE_1 hc, if_neg c1, if_neg c2, if_neg c3, if_neg c4, if_neg c5, e1 g (by omega)]
                    cases o1 with
                    | none => rfl
                    | some N1 =>
                      show (if b - 1 ≤ mt (b - 1) + 1 then some ([], 0) else _).bind _ = _
                      rw [if_pos c6]
                      show some ((16, mt (b - 1), 1 + 0) :: N1 ++ []) = some ([(16, mt (b - 1), 1)] ++ N1)
                      rw [List.append_nil, Int.add_zero]
                      rfl
                  · obtain ⟨l, o2, e2, e3, r2⟩ := BA hM hn IH (K + 1) (mt (b - 1) + 1) (b - 1) (by omega) (by omega) (by omega) (by omega) (by omega) hin
                    refine ⟨_, fun f hf => ?_, clv_c hG a0 bn hr r1 r2 (Int.le_refl _) v1 (by omega) (by omega) (by omega) (by omega) (k := 16) (t := mt (b - 1)) (fun N p => by rw [vs, if_neg c1, if_neg c2, if_neg c3, if_neg c4, if_neg c5, if_neg c6, e2 200 (by omega)])⟩
                    obtain ⟨g, rfl⟩ := fpos hf (by omega)
                    rw [VE_1 hc, if_neg c1, if_neg c2, if_neg c3, if_neg c4, if_neg c5, e1 g (by omega)]
                    congr 1
                    funext N1
                    rw [if_neg c6, e3 g 200 (by omega) (by omega)]
      · have m := (pick_in (Y := Y) L (-1) 9).2 hL (by decide)
        have q := cs_mem hM bn 200 a true L hc hr a0 _ m
        have q1 := Rch_le q.1
        have q2 := Rch_le q.2.1
        obtain ⟨o1, e1, r1⟩ := IH a (pickN Y L (-1) 9) (by omega) a0 q1 (by omega) q.1
        obtain ⟨o2, e2, r2⟩ := IH (pickN Y L (-1) 9 + 1) b (by omega) (by omega) (by omega) bn q.2.1
        refine ⟨_, fun f hf => ?_, twv_c hG a0 bn hr r1 r2 (Int.le_refl _) q1 (by omega) (by omega) (Int.le_refl _) (by omega) (k := 12) (t := pickN Y L (-1) 9) (fun N p => by unfold vst; rw [hc, Option.bind_some, if_neg hL])⟩
        obtain ⟨g, rfl⟩ := fpos hf (by omega)
        rw [VE_2 hc hL, e1 g (by omega), e2 g (by omega)]
end BG2
