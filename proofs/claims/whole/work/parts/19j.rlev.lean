/-! Declarators of the reference, level by level. -/
def lsum : List Lv → Int
  | [] => 0
  | v :: r => (v.2.1 - v.1) + (v.2.2.2 - v.2.2.1) + lsum r
def lok (n : Int) (Y : Int → Int64) (mt : Int → Int) (v : Lv) : Prop := 0 ≤ v.1 ∧ v.1 ≤ v.2.1 ∧ v.2.1 ≤ n ∧ 0 ≤ v.2.2.1 ∧ v.2.2.1 ≤ v.2.2.2 ∧ v.2.2.2 ≤ n ∧ Rch Y mt v.2.2.1 v.2.2.2
theorem lsum_n {n : Int} {Y : Int → Int64} {mt : Int → Int} : ∀ L : List Lv, (∀ v, v ∈ L → lok n Y mt v) → 0 ≤ lsum L
  | [], _ => Int.le_refl 0
  | v :: r, h => by
    have i := lsum_n r (fun u hu => h u (by simp [hu]))
    have q := h v (by simp)
    have := q.2.1
    have := q.2.2.2.2.1
    show 0 ≤ (v.2.1 - v.1) + (v.2.2.2 - v.2.2.1) + lsum r
    omega
theorem lsum_suf {n : Int} {Y : Int → Int64} {mt : Int → Int} : ∀ (l L : List Lv), (∀ v, v ∈ l ++ L → lok n Y mt v) → lsum L ≤ lsum (l ++ L)
  | [], L, _ => Int.le_refl _
  | v :: r, L, h => by
    have i := lsum_suf r L (fun u hu => h u (by simp at hu ⊢; exact Or.inr hu))
    have q := h v (by simp)
    have := q.2.1
    have := q.2.2.2.2.1
    show lsum L ≤ (v.2.1 - v.1) + (v.2.2.2 - v.2.2.1) + lsum (r ++ L)
    omega
def LI (n : Int) (Y : Int → Int64) (mt : Int → Int) (a r lo hi d : Int) (acc : List Lv) (m : Nat) : Prop := 0 ≤ lo ∧ lo ≤ hi ∧ hi ≤ n ∧ Rch Y mt lo hi ∧ d = acc.length ∧ d ≤ bc Y lo.toNat ∧ lsum acc + (hi - lo) ≤ r - a ∧ (∀ v, v ∈ acc → lok n Y mt v) ∧ hi - lo < m ∧ lvl Y mt 200 a r = (lvl Y mt m lo hi).bind (fun q => some (q.1, q.2 ++ acc))
def LD (n : Int) (Y : Int → Int64) (mt : Int → Int) (a r y : Int) (acc : List Lv) : Prop := 0 ≤ y ∧ y < n ∧ wk (Y y) = 4 ∧ lsum acc + 1 ≤ r - a ∧ (∀ v, v ∈ acc → lok n Y mt v) ∧ 1 ≤ acc.length ∧ acc.length ≤ 7 ∧ lvl Y mt 200 a r = some (y, acc)
section LS
variable {Y : Int → Int64} {mt : Int → Int} {n a r lo hi d s : Int} {acc : List Lv} {m : Nat}
theorem LI_c (hM : MTP Y n mt) (h : LI n Y mt a r lo hi d acc m) (hs : stN Y hi lo = s) (sh : s < hi) : lo ≤ s ∧ Rch Y mt s hi ∧ bc Y s.toNat = bc Y lo.toNat := by
  have sr := stN_r (Y := Y) h.2.1
  rw [hs] at sr
  refine ⟨sr.1, ?_, ?_⟩
  · have q := Rch_st hM h.2.2.1 (s - lo).toNat lo (fun j j0 j1 => stN_all (n := hi) j j0 (by omega) (by omega)) h.1 (by omega) h.2.2.2.1
    rw [show lo + ((s - lo).toNat : Int) = s by omega] at q
    exact q
  · have q := bal_stN (Y := Y) h.2.1
    rw [hs] at q
    exact bc_bal h.1 q
theorem LI_r (hM : MTP Y n mt) (h : LI n Y mt a r lo hi d acc (m + 1)) (hs : stN Y hi lo = s) (sh : s < hi) (h40 : Y s = 40) : LI n Y mt a r (s + 1) (mt s) (d + 1) ((lo, s, mt s + 1, hi) :: acc) m ∧ mt s < hi := by
  have c := LI_c hM h hs sh
  have l0 := h.1
  have q := hM s (by omega) (by have := h.2.2.1; omega) (opb (Or.inl h40))
  have nx := Rch_nx c.2.1 sh
  rw [nx_b (Or.inl h40)] at nx
  have nl := Rch_le nx
  have hin := h.2.2.1
  have bo := bc_o (Y := Y) (k := s) (by omega) (opb (Or.inl h40))
  obtain ⟨_, h2, h3, h4, h5, h6, h7, h8, h9, h10⟩ := h
  refine ⟨⟨by omega, by omega, by omega, bal_rch hM q.2.2.2.1 (by omega) (by omega), by rw [List.length_cons]; omega, by omega, ?_, fun v hv => ?_, by omega, ?_⟩, by omega⟩
  · show (s - lo) + (hi - (mt s + 1)) + lsum acc + (mt s - (s + 1)) ≤ r - a
    omega
  · rcases List.mem_cons.1 hv with z | z
    · rw [z]
      exact ⟨l0, c.1, by show s ≤ n; omega, by show 0 ≤ mt s + 1; omega, nl, hin, nx⟩
    · exact h8 v z
  · rw [h10, lvl, hs, if_neg (by omega), if_pos h40]
    cases lvl Y mt m (s + 1) (mt s) with
    | none => rfl
    | some q =>
      show some (q.1, (q.2 ++ [(lo, s, mt s + 1, hi)]) ++ acc) = some (q.1, q.2 ++ (lo, s, mt s + 1, hi) :: acc)
      rw [List.append_assoc]
      rfl
theorem LI_n (hM : MTP Y n mt) (hB : bc Y lo.toNat ≤ 6) (h : LI n Y mt a r lo hi d acc (m + 1)) (hs : stN Y hi lo = s) (sh : s < hi) (h40 : ¬ Y s = 40) (h4 : wk (Y s) = 4) : LD n Y mt a r s ((lo, s, s + 1, hi) :: acc) := by
  have c := LI_c hM h hs sh
  have l0 := h.1
  have hin := h.2.2.1
  have nb := wk_nb (y := Y s) (Or.inl h4)
  have nx := Rch_nx c.2.1 sh
  rw [nx_p (fun z => by rcases z with z | z; exact nb.2.2.2.2.1 z; exact nb.2.2.2.2.2 z)] at nx
  obtain ⟨_, h2, h3, h4', h5, h6, h7, h8, h9, h10⟩ := h
  refine ⟨by omega, by omega, h4, ?_, fun v hv => ?_, by rw [List.length_cons]; omega, by rw [List.length_cons]; omega, ?_⟩
  · show (s - lo) + (hi - (s + 1)) + lsum acc + 1 ≤ r - a
    omega
  · rcases List.mem_cons.1 hv with z | z
    · rw [z]
      exact ⟨l0, c.1, by show s ≤ n; omega, by show 0 ≤ s + 1; omega, by show s + 1 ≤ hi; omega, hin, nx⟩
    · exact h8 v z
  · rw [h10, lvl, hs, if_neg (by omega), if_neg h40, if_pos h4]
    rfl
theorem LI_0 (h : LI n Y mt a r lo hi d acc (m + 1)) (hs : hi ≤ stN Y hi lo) : lvl Y mt 200 a r = none := by
  rw [h.2.2.2.2.2.2.2.2.2, lvl, if_pos hs]
  rfl
theorem LI_x (h : LI n Y mt a r lo hi d acc (m + 1)) (hs : stN Y hi lo = s) (sh : s < hi) (h40 : ¬ Y s = 40) (h4 : ¬ wk (Y s) = 4) : lvl Y mt 200 a r = none := by
  rw [h.2.2.2.2.2.2.2.2.2, lvl, hs, if_neg (by omega), if_neg h40, if_neg h4]
  rfl
end LS
def otr : List Lv → Lv
  | [] => (0, 0, 0, 0)
  | v :: r => if r = [] then v else if v.1 = v.2.1 ∧ v.2.2.1 = v.2.2.2 then otr r else v
theorem stR_hd {m : Nat} {a : Int} (h : 0 < m) : ∃ x X, stR m a = x :: X ∧ x.1 = 7 := by
  cases m with
  | zero => exact absurd h (by omega)
  | succ m => exact ⟨_, _, rfl, rfl⟩
theorem rfm_hd {Y : Int → Int64} {mt : Int → Int} {f : Nat} {k e : Int} {F : List Nd} (h : rfm Y mt (f + 1) k e = some F) : (e ≤ k → F = []) ∧ (k < e → ∃ x X, F = x :: X ∧ (x.1 = 6 ↔ Y k = 40)) := by
  rw [rfm] at h
  by_cases c : e ≤ k
  · rw [if_pos c] at h
    cases h
    exact ⟨fun _ => rfl, fun z => absurd z (by omega)⟩
  · rw [if_neg c] at h
    refine ⟨fun z => absurd z c, fun _ => ?_⟩
    by_cases c1 : Y k = 91 ∧ mt k = k + 2 ∧ wk (Y (k + 1)) = 5
    · rw [if_pos c1] at h
      obtain ⟨G, hG, h2⟩ := bind_some h
      cases h2
      exact ⟨_, _, rfl, ⟨fun z => absurd (show (5 : Int) = 6 from z) (by decide), fun z => by rw [c1.1] at z; exact absurd z (by decide)⟩⟩
    · rw [if_neg c1] at h
      by_cases c2 : Y k = 40 ∧ mt k = k + 1
      · rw [if_pos c2] at h
        obtain ⟨G, hG, h2⟩ := bind_some h
        cases h2
        exact ⟨_, _, rfl, ⟨fun _ => c2.1, fun _ => rfl⟩⟩
      · rw [if_neg c2] at h
        exact nns h
def hd6 (G : List Nd) : Bool := match G with
  | [] => false
  | x :: _ => decide (x.1 = 6)
theorem isF_hd {x : Nd} {G : List Nd} : isF (x :: G) = hd6 G := by
  unfold isF hd6
  cases G with
  | nil => exact decide_eq_false (fun z => absurd z.1 (by rw [List.length_cons, List.length_nil]; omega))
  | cons y G =>
    have e1 : (ndg (x :: y :: G) 1).1 = y.1 := rfl
    show decide (0 < ((x :: y :: G).length : Int) - 1 ∧ (ndg (x :: y :: G) 1).1 = 6) = decide (y.1 = 6)
    refine decide_eq_decide.2 ⟨fun z => z.2, fun z => ⟨by rw [List.length_cons, List.length_cons]; omega, z⟩⟩
theorem otr_hd {n : Int} {Y : Int → Int64} {mt : Int → Int} : ∀ (L : List Lv) (G : List Nd), 1 ≤ L.length → (∀ v, v ∈ L → lok n Y mt v) → fml Y mt L = some G → hd6 G = decide (¬ (otr L).2.2.1 = (otr L).2.2.2 ∧ Y (otr L).2.2.1 = 40)
  | [], _, h, _, _ => absurd h (by rw [List.length_nil]; omega)
  | v :: r, G, _, hk, h => by
    have k1 := hk v (by simp)
    have k2 := k1.2.1
    have k5 := k1.2.2.2.2.1
    obtain ⟨F, hF, h2⟩ := bind_some h
    obtain ⟨H, hH, h3⟩ := bind_some h2
    have hG : F ++ stR (v.2.1 - v.1).toNat v.1 ++ H = G := Option.some.inj h3
    have hd := rfm_hd (f := 199) hF
    by_cases c : v.2.2.1 < v.2.2.2
    · obtain ⟨x, X, e1, e2⟩ := hd.2 c
      have eo : otr (v :: r) = v := by
        rw [otr]
        by_cases z : r = []
        · rw [if_pos z]
        · rw [if_neg z, if_neg (fun y => by omega)]
      rw [eo, ← hG, e1]
      show decide (x.1 = 6) = _
      by_cases z : Y v.2.2.1 = 40
      · rw [decide_eq_true (e2.2 z), decide_eq_true ⟨by omega, z⟩]
      · rw [decide_eq_false (fun y => z (e2.1 y)), decide_eq_false (fun y => z y.2)]
    · have e1 := hd.1 (by omega)
      by_cases c2 : v.1 < v.2.1
      · obtain ⟨x, X, e3, e4⟩ := stR_hd (m := (v.2.1 - v.1).toNat) (a := v.1) (by omega)
        have eo : otr (v :: r) = v := by
          rw [otr]
          by_cases z : r = []
          · rw [if_pos z]
          · rw [if_neg z, if_neg (fun y => by omega)]
        rw [eo, ← hG, e1, e3]
        show decide (x.1 = 6) = _
        rw [decide_eq_false (by rw [e4]; decide), decide_eq_false (fun y => y.1 (by omega))]
      · have e3 : stR (v.2.1 - v.1).toNat v.1 = [] := by rw [show (v.2.1 - v.1).toNat = 0 by omega]; rfl
        rw [e1, e3] at hG
        have hG : H = G := hG
        by_cases z : r = []
        · have eo : otr (v :: r) = v := by rw [otr, if_pos z]
          rw [z] at hH
          have hH : H = [] := (Option.some.inj hH).symm
          rw [eo, ← hG, hH, decide_eq_false (fun y => y.1 (by omega))]
          rfl
        · have eo : otr (v :: r) = otr r := by rw [otr, if_neg z, if_pos ⟨by omega, by omega⟩]
          rw [eo, ← hG]
          exact otr_hd r H (by cases r with | nil => exact absurd rfl z | cons a b => rw [List.length_cons]; omega) (fun u hu => hk u (by simp [hu])) hH
theorem fml_c {Y : Int → Int64} {mt : Int → Int} {v : Lv} {r : List Lv} : fml Y mt (v :: r) = ((rfm Y mt 200 v.2.2.1 v.2.2.2).bind (fun F => some (F ++ stR (v.2.1 - v.1).toNat v.1))).bind (fun F => (fml Y mt r).bind (fun G => some (F ++ G))) := by
  show (rfm Y mt 200 v.2.2.1 v.2.2.2).bind _ = _
  cases rfm Y mt 200 v.2.2.1 v.2.2.2 with
  | none => rfl
  | some F => rfl
def dst (Y : Int → Int64) (mt : Int → Int) (w a e p j : Int) (N : List Nd) (E : List Ed) : Option (List Tk × List Nd × List Ed) := if (¬ w = 2 ∧ see Y mt a (see Y mt a e 44) 61 < see Y mt a e 44) ∨ (w = 4 ∧ see Y mt a e 44 < e) then none
  else (rdr Y mt 200 a (see Y mt a (see Y mt a e 44) 61)).bind (fun M => if w = 4 ∧ isF M = false then none else some ((if see Y mt a (see Y mt a e 44) 61 = see Y mt a e 44 then [] else [(5, see Y mt a (see Y mt a e 44) 61 + 1, see Y mt a e 44, (N.length : Int), j)]) ++ (if see Y mt a e 44 < e then [(w, see Y mt a e 44 + 1, e, p, j)] else []), bmp N p 1 ++ (4, (ndg M 0).2.1, (M.length : Int) - 1) :: M.tail, (Y (ndg M 0).2.1, see Y mt a (see Y mt a e 44) 61, j, decide (w = 3)) :: E))
def DX (S : w_S) (n : Int) (Y : Int → Int64) (mt : Int → Int) (T : List Tk) (res : Option (List Tk × List Nd × List Ed)) (v : Option Value) (S2 : w_S) : Prop := pfr S S2 ∧ (res = none → v = some (.int (iZ 0))) ∧ ∀ q, res = some q → v = some (.int (iZ 1)) ∧ PQ S2 n Y mt q.2.2 q.2.1 (q.1 ++ T)
theorem DX_n {S S2 : w_S} {n : Int} {Y : Int → Int64} {mt : Int → Int} {T : List Tk} {res : Option (List Tk × List Nd × List Ed)} (h : res = none) (f : pfr S S2) : DX S n Y mt T res (some (.int (iZ 0))) S2 := ⟨f, fun _ => rfl, fun q hq => nns (h.symm.trans hq)⟩
theorem DX_s {S S2 : w_S} {n : Int} {Y : Int → Int64} {mt : Int → Int} {T : List Tk} {res : Option (List Tk × List Nd × List Ed)} {q : List Tk × List Nd × List Ed} (h : res = some q) (f : pfr S S2) (hq : PQ S2 n Y mt q.2.2 q.2.1 (q.1 ++ T)) : DX S n Y mt T res (some (.int (iZ 1))) S2 := ⟨f, fun z => nns (z.symm.trans h), fun r hr => by
  have e : q = r := Option.some.inj (h.symm.trans hr)
  rw [← e]
  exact ⟨rfl, hq⟩⟩
section DS
variable {Y : Int → Int64} {mt : Int → Int} {n w a e p j q r y : Int} {N : List Nd} {E : List Ed} {acc : List Lv}
theorem dst_c (hsq : see Y mt a e 44 = q) (hsr : see Y mt a q 61 = r) (h : (¬ w = 2 ∧ r < q) ∨ (w = 4 ∧ q < e)) : dst Y mt w a e p j N E = none := by
  unfold dst
  rw [hsq, hsr, if_pos h]
theorem dst_l (hsq : see Y mt a e 44 = q) (hsr : see Y mt a q 61 = r) (h : ¬ ((¬ w = 2 ∧ r < q) ∨ (w = 4 ∧ q < e))) (hl : lvl Y mt 200 a r = none) : dst Y mt w a e p j N E = none := by
  unfold dst
  rw [hsq, hsr, if_neg h, rdr_lvl, hl]
  rfl
theorem dst_f (hsq : see Y mt a e 44 = q) (hsr : see Y mt a q 61 = r) (h : ¬ ((¬ w = 2 ∧ r < q) ∨ (w = 4 ∧ q < e))) (hl : lvl Y mt 200 a r = some (y, acc)) (hf : fml Y mt acc = none) : dst Y mt w a e p j N E = none := by
  unfold dst
  rw [hsq, hsr, if_neg h, rdr_lvl, hl]
  show ((fml Y mt acc).bind _).bind _ = _
  rw [hf]
  rfl
theorem dst_o (hsq : see Y mt a e 44 = q) (hsr : see Y mt a q 61 = r) (h : ¬ ((¬ w = 2 ∧ r < q) ∨ (w = 4 ∧ q < e))) (hL : LD n Y mt a r y acc) (hw : w = 4) (ho : ¬ (¬ (otr acc).2.2.1 = (otr acc).2.2.2 ∧ Y (otr acc).2.2.1 = 40)) : dst Y mt w a e p j N E = none := by
  cases hf : fml Y mt acc with
  | none => exact dst_f hsq hsr h hL.2.2.2.2.2.2.2 hf
  | some G =>
    unfold dst
    rw [hsq, hsr, if_neg h, rdr_lvl, hL.2.2.2.2.2.2.2]
    show ((fml Y mt acc).bind _).bind _ = _
    rw [hf]
    show (if w = 4 ∧ isF ((4, y, 0) :: G) = false then none else _) = none
    rw [if_pos ⟨hw, by rw [isF_hd, otr_hd acc G hL.2.2.2.2.2.1 hL.2.2.2.2.1 hf]; exact decide_eq_false ho⟩]
theorem dst_s (hsq : see Y mt a e 44 = q) (hsr : see Y mt a q 61 = r) (h : ¬ ((¬ w = 2 ∧ r < q) ∨ (w = 4 ∧ q < e))) (hL : LD n Y mt a r y acc) (ho : w = 4 → ¬ (otr acc).2.2.1 = (otr acc).2.2.2 ∧ Y (otr acc).2.2.1 = 40) {G : List Nd} (hf : fml Y mt acc = some G) : dst Y mt w a e p j N E = some ((if r = q then [] else [(5, r + 1, q, (N.length : Int), j)]) ++ (if q < e then [(w, q + 1, e, p, j)] else []), bmp N p 1 ++ (4, y, (G.length : Int)) :: G, (Y y, r, j, decide (w = 3)) :: E) := by
  unfold dst
  rw [hsq, hsr, if_neg h, rdr_lvl, hL.2.2.2.2.2.2.2]
  show ((fml Y mt acc).bind _).bind _ = _
  rw [hf]
  show (if w = 4 ∧ isF ((4, y, 0) :: G) = false then none else some (_, bmp N p 1 ++ (4, y, ((((4, y, 0) : Nd) :: G).length : Int) - 1) :: G, (Y y, r, j, decide (w = 3)) :: E)) = _
  rw [if_neg (fun z => by
    have q9 := z.2
    rw [isF_hd, otr_hd acc G hL.2.2.2.2.2.1 hL.2.2.2.2.1 hf, decide_eq_true (ho z.1)] at q9
    exact Bool.noConfusion q9), List.length_cons, show (((G.length + 1 : Nat) : Int)) - 1 = (G.length : Int) by omega]
end DS
theorem erep_cons {S W : w_S} {n : Int} {Y : Int → Int64} {E : List Ed} {x : Ed} (h : erep S n Y E) (h9 : E.length ≤ 99) (hx : edk n Y x) (w0 : sv W 249 61 = (E.length : Int) + 1) (w1 : sL W 292 = w_u (sL S 292) E.length x.1) (w2 : sA W 293 = w_u (sA S 293) E.length x.2.1) (w3 : sA W 294 = w_u (sA S 294) E.length x.2.2.1) (w4 : sA W 295 = w_u (sA S 295) E.length (zB x.2.2.2)) : erep W n Y (x :: E) := by
  refine ⟨by rw [w0, List.length_cons]; omega, by rw [List.length_cons]; omega, ⟨by rw [w1, w_u_self], by rw [w2, w_u_self], by rw [w3, w_u_self], by rw [w4, w_u_self], erp_fr E h.2.2.1 (fun j hj => ?_)⟩, fun z hz => ?_⟩
  · rw [w1, w2, w3, w4]
    exact ⟨w_u_ne _ _ (by omega), w_u_ne _ _ (by omega), w_u_ne _ _ (by omega), w_u_ne _ _ (by omega)⟩
  · rcases List.mem_cons.1 hz with q | q
    · rw [q]; exact hx
    · exact h.2.2.2 z q
theorem PQ_e {S S2 : w_S} {n : Int} {Y : Int → Int64} {mt : Int → Int} {E E2 : List Ed} {N : List Nd} {T : List Tk} (h : PQ S n Y mt E N T) (f : fr (fun a => a = 249 ∨ (292 ≤ a ∧ a ≤ 295)) S S2) (hv : ∀ k, ¬ k = 61 → sv S2 249 k = sv S 249 k) (hn : erep S2 n Y E2) : pfr S S2 ∧ PQ S2 n Y mt E2 N T := ⟨⟨fr_mono f (fun a h => by omega), fun k hk => hv k (fun z => hk (Or.inr (Or.inl z)))⟩, RM_fr h.1 f (hv 49 (by decide)) (by decide) (by decide), hn, nrep_fr h.2.2.1 f (hv 56 (by decide)) (fun a a0 a1 => by omega), tkr_fr h.2.2.2 f (hv 67 (by decide)) (fun a a0 a1 => by omega)⟩
