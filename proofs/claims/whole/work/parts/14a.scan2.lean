/-! What holds of the tokens of a file. -/
theorem one_c {x : Int64} {c : Int} (h : x.toInt = c) (c0 : 0 < c) (c1 : c < 128) : wl x = 1 ∧ wc x 0 = c := by
  have e : wl x = 1 := by
    unfold wl
    rw [h]
    show (if 0 < c then 1 + wlN 9 (c / 128) else 0) = 1
    rw [if_pos c0, wlN_0 9 (by omega)]
    rfl
  refine ⟨e, ?_⟩
  rw [wc_div (by decide) (by omega), e, h]
  show c / 128 ^ (0 : Nat) % 128 = c
  rw [Int.pow_zero, Int.ediv_one]
  omega
theorem wdl_r {c : Int} (h : wdl c = true) : 0 < c ∧ c < 128 := by
  unfold wdl at h
  have := of_decide_eq_true h
  omega
theorem li2l_s {c : Int} (c0 : 0 ≤ c) (c1 : c < 128) : (li2l c).toInt = c := li2l_toInt ⟨by omega, by omega⟩
theorem pkN_w {A : Int → Int} : ∀ (m : Nat) (i : Int) (x : Int64), 0 < x.toInt → allw x → wl x + m ≤ 9 → (∀ j, i ≤ j → j < i + m → wdl (A j) = true) → 0 < (pkN A m i x).toInt ∧ allw (pkN A m i x) ∧ wl (pkN A m i x) = wl x + m ∧ wc (pkN A m i x) 0 = wc x 0
  | 0, i, x, h0, h1, h2, h3 => ⟨h0, h1, by show wl x = wl x + ((0 : Nat) : Int); omega, rfl⟩
  | m + 1, i, x, h0, h1, h2, h3 => by
    have hc := wdl_r (h3 i (Int.le_refl _) (by omega))
    have hb := one_c (li2l_s (c := A i) (by omega) hc.2) hc.1 hc.2
    have hl := wl_lt (x := x) (by omega)
    have hw0 := wl_pos h0
    have hs := wstep (x := x) (c := A i) (j := (wl x).toNat) (by omega) hl (by omega) (by omega) hc.2
    have hbi : (li2l (A i)).toInt = A i := li2l_s (by omega) hc.2
    have hy : (lshl x 7 + li2l (A i)).toInt = x.toInt * 128 ^ (wl (li2l (A i))).toNat + (li2l (A i)).toInt := by
      rw [hs.2.1, hb.1, hbi]
      rfl
    have q1 := cat_wl h0 (by omega) (by omega) hy
    have y0 : 0 < (lshl x 7 + li2l (A i)).toInt := by rw [hs.2.1]; omega
    have ya : allw (lshl x 7 + li2l (A i)) := fun k k0 k1 => by
      by_cases c : k < wl x
      · rw [cat_wc1 h0 (by omega) (by omega) hy k0 c]
        exact h1 k k0 c
      · rw [cat_wc2 h0 (by omega) (by omega) hy (by omega) (by omega), show k - wl x = 0 by omega, hb.2]
        exact h3 i (Int.le_refl _) (by omega)
    have ih := pkN_w m (i + 1) (lshl x 7 + li2l (A i)) y0 ya (by omega) (fun j j0 j1 => h3 j (by omega) (by omega))
    refine ⟨ih.1, ih.2.1, ?_, ?_⟩
    · show wl (pkN A m (i + 1) (lshl x 7 + li2l (A i))) = _
      rw [ih.2.2.1]
      omega
    · show wc (pkN A m (i + 1) (lshl x 7 + li2l (A i))) 0 = _
      rw [ih.2.2.2, cat_wc1 h0 (by omega) (by omega) hy (by decide) (by omega)]
theorem pk_1 {A : Int → Int} {p e : Int} (h : p < e) : pk A p e = pkN A (e - p - 1).toNat (p + 1) (lshl 0 7 + li2l (A p)) := by
  unfold pk
  rw [show (e - p).toNat = (e - p - 1).toNat + 1 by omega]
  rfl
theorem fst_c {c : Int} (c0 : 0 ≤ c) (c1 : c < 128) : (lshl 0 7 + li2l c).toInt = c := by
  have hs := wstep (x := 0) (c := c) (j := 0) (by decide) (by decide) (by decide) c0 c1
  rw [hs.2.1]
  show (0 : Int) * 128 + c = c
  omega
theorem pun_w {c : Int} (h : pun c = true) : wdl c = false ∧ 0 < c ∧ c < 128 := by
  unfold pun at h
  have := of_decide_eq_true h
  refine ⟨?_, by omega, by omega⟩
  unfold wdl
  exact decide_eq_false (by omega)
theorem gw_te {A : Int → Int} {n p : Int} (hp : p < n) (h1 : ¬ te A n p = p) (h9 : te A n p - p ≤ 9) : gw (pk A p (te A n p)) ∧ (nam (pk A p (te A n p)) = true → wdl (A p) = true) ∧ p < te A n p ∧ (∀ q, ¬ A q = 10 → True) ∧ ¬ A (te A n p - 1) = 10 ∧ ¬ A p = 10 ∧ (4 < wl (pk A p (te A n p)) → p + 5 ≤ te A n p ∧ (te A n p < n → wdl (A (te A n p)) = false)) := by
  have hr := te_r (A := A) hp
  have hlt : p < te A n p := by omega
  refine ⟨?_, ?_, hlt, fun _ _ => trivial, ?_, ?_, ?_⟩
  all_goals by_cases c : pun (A p) = true
  all_goals first | have hw := pun_w c | skip
  · have e1 : te A n p = if p + 1 < n ∧ A (p + 1) = A p ∧ (A p = 35 ∨ A p = 61) then p + 2 else p + 1 := by unfold te; rw [if_pos c]
    by_cases c2 : p + 1 < n ∧ A (p + 1) = A p ∧ (A p = 35 ∨ A p = 61)
    · rw [if_pos c2] at e1
      rw [e1]
      have e2 : pk A p (p + 2) = lshl (lshl 0 7 + li2l (A p)) 7 + li2l (A (p + 1)) := by
        rw [pk_1 (by omega), show (p + 2 - p - 1).toNat = 1 by omega]
        rfl
      rw [e2, c2.2.1]
      rcases c2.2.2 with z | z
      · rw [z]
        exact ⟨by decide, Or.inr (Or.inr (Or.inl (by decide)))⟩
      · rw [z]
        exact ⟨by decide, Or.inr (Or.inr (Or.inr (by decide)))⟩
    · rw [if_neg c2] at e1
      rw [e1]
      have e2 : pk A p (p + 1) = lshl 0 7 + li2l (A p) := by
        rw [pk_1 (by omega), show (p + 1 - p - 1).toNat = 0 by omega]
        rfl
      have e3 := fst_c (c := A p) (by omega) hw.2.2
      rw [e2]
      exact ⟨by rw [e3]; exact hw.2.1, Or.inr (Or.inl ⟨by rw [e3]; exact hw.2.2, by rw [e3]; exact hw.1⟩)⟩
  · have e1 : te A n p = wnd A n p := by unfold te; rw [if_neg c]
    have hall : ∀ j, p ≤ j → j < te A n p → wdl (A j) = true := fun j j0 j1 => by
      rw [e1] at j1
      have := fi_bef (p := fun j => !wdl (A j)) (n := n) _ p rfl j j0 j1 (by omega)
      simpa using this
    have h0 := wdl_r (hall p (Int.le_refl _) hlt)
    have e3 := fst_c (c := A p) (by omega) h0.2
    have e4 := one_c e3 h0.1 h0.2
    rw [pk_1 hlt]
    have q := pkN_w (A := A) (te A n p - p - 1).toNat (p + 1) (lshl 0 7 + li2l (A p)) (by rw [e3]; exact h0.1) (fun k k0 k1 => by rw [show k = 0 by omega, e4.2]; exact hall p (Int.le_refl _) hlt) (by omega) (fun j j0 j1 => hall j (by omega) (by omega))
    exact ⟨q.1, Or.inl q.2.1⟩
  · have e1 : te A n p = if p + 1 < n ∧ A (p + 1) = A p ∧ (A p = 35 ∨ A p = 61) then p + 2 else p + 1 := by unfold te; rw [if_pos c]
    intro hn
    exfalso
    by_cases c2 : p + 1 < n ∧ A (p + 1) = A p ∧ (A p = 35 ∨ A p = 61)
    · rw [if_pos c2] at e1
      rw [e1] at hn
      have e2 : pk A p (p + 2) = lshl (lshl 0 7 + li2l (A p)) 7 + li2l (A (p + 1)) := by
        rw [pk_1 (by omega), show (p + 2 - p - 1).toNat = 1 by omega]
        rfl
      rw [e2, c2.2.1] at hn
      rcases c2.2.2 with z | z
      · rw [z] at hn
        exact absurd hn (by decide)
      · rw [z] at hn
        exact absurd hn (by decide)
    · rw [if_neg c2] at e1
      rw [e1] at hn
      have e2 : pk A p (p + 1) = lshl 0 7 + li2l (A p) := by
        rw [pk_1 (by omega), show (p + 1 - p - 1).toNat = 0 by omega]
        rfl
      have e3 := fst_c (c := A p) (by omega) hw.2.2
      have e4 := one_c e3 hw.2.1 hw.2.2
      rw [e2] at hn
      unfold nam at hn
      rw [e4.2, hw.1] at hn
      exact Bool.noConfusion hn
  · intro _
    have e1 : te A n p = wnd A n p := by unfold te; rw [if_neg c]
    have := fi_bef (p := fun j => !wdl (A j)) (n := n) _ p rfl p (Int.le_refl _) (by unfold wnd at e1; omega) hp
    simpa using this
  · have e1 : te A n p = if p + 1 < n ∧ A (p + 1) = A p ∧ (A p = 35 ∨ A p = 61) then p + 2 else p + 1 := by unfold te; rw [if_pos c]
    have np : ¬ A p = 10 := fun z => by rw [z] at c; exact absurd c (by decide)
    by_cases c2 : p + 1 < n ∧ A (p + 1) = A p ∧ (A p = 35 ∨ A p = 61)
    · rw [if_pos c2] at e1
      rw [e1, show p + 2 - 1 = p + 1 by omega, c2.2.1]
      exact np
    · rw [if_neg c2] at e1
      rw [e1, show p + 1 - 1 = p by omega]
      exact np
  · have e1 : te A n p = wnd A n p := by unfold te; rw [if_neg c]
    have := fi_bef (p := fun j => !wdl (A j)) (n := n) _ p rfl (te A n p - 1) (by omega) (by unfold wnd at e1; omega) (by omega)
    have h : wdl (A (te A n p - 1)) = true := by simpa using this
    exact fun z => by rw [z] at h; exact absurd h (by decide)
  · exact fun z => by rw [z] at c; exact absurd c (by decide)
  · have e1 : te A n p = wnd A n p := by unfold te; rw [if_neg c]
    have := fi_bef (p := fun j => !wdl (A j)) (n := n) _ p rfl p (Int.le_refl _) (by unfold wnd at e1; omega) hp
    have h : wdl (A p) = true := by simpa using this
    exact fun z => by rw [z] at h; exact absurd h (by decide)
  · have e1 : te A n p = if p + 1 < n ∧ A (p + 1) = A p ∧ (A p = 35 ∨ A p = 61) then p + 2 else p + 1 := by unfold te; rw [if_pos c]
    intro h4
    exfalso
    by_cases c2 : p + 1 < n ∧ A (p + 1) = A p ∧ (A p = 35 ∨ A p = 61)
    · rw [if_pos c2] at e1
      rw [e1] at h4
      have e2 : pk A p (p + 2) = lshl (lshl 0 7 + li2l (A p)) 7 + li2l (A (p + 1)) := by
        rw [pk_1 (by omega), show (p + 2 - p - 1).toNat = 1 by omega]
        rfl
      rw [e2, c2.2.1] at h4
      rcases c2.2.2 with z | z
      · rw [z] at h4
        exact absurd h4 (by decide)
      · rw [z] at h4
        exact absurd h4 (by decide)
    · rw [if_neg c2] at e1
      rw [e1] at h4
      have e2 : pk A p (p + 1) = lshl 0 7 + li2l (A p) := by
        rw [pk_1 (by omega), show (p + 1 - p - 1).toNat = 0 by omega]
        rfl
      have e3 := fst_c (c := A p) (by omega) hw.2.2
      have e4 := one_c e3 hw.2.1 hw.2.2
      rw [e2, e4.1] at h4
      omega
  · intro h4
    have e1 : te A n p = wnd A n p := by unfold te; rw [if_neg c]
    have hall : ∀ j, p ≤ j → j < te A n p → wdl (A j) = true := fun j j0 j1 => by
      rw [e1] at j1
      have := fi_bef (p := fun j => !wdl (A j)) (n := n) _ p rfl j j0 j1 (by omega)
      simpa using this
    have h0 := wdl_r (hall p (Int.le_refl _) hlt)
    have e3 := fst_c (c := A p) (by omega) h0.2
    have e4 := one_c e3 h0.1 h0.2
    rw [pk_1 hlt] at h4
    have q := pkN_w (A := A) (te A n p - p - 1).toNat (p + 1) (lshl 0 7 + li2l (A p)) (by rw [e3]; exact h0.1) (fun k k0 k1 => by rw [show k = 0 by omega, e4.2]; exact hall p (Int.le_refl _) hlt) (by omega) (fun j j0 j1 => hall j (by omega) (by omega))
    rw [q.2.2.1, e4.1] at h4
    refine ⟨by omega, fun hn => ?_⟩
    have := fi_hit (p := fun j => !wdl (A j)) (n := n) _ p rfl (by unfold wnd at e1; omega)
    rw [e1]
    unfold wnd
    simpa using this
def tki (x : Int64) : Prop := x = 28401283814 ∨ x = 3635385283302
theorem tki_wl {x : Int64} (h : tki x) : 4 < wl x := by
  rcases h with h | h <;> rw [h] <;> decide
def SI (A : Int → Int) (n p ln : Int) (t : List Tok) (P : Int → Int) : Prop := (∀ i : Int, 0 ≤ i → i < t.length → gw (tx t i) ∧ 0 ≤ (tkg t i).2.1 ∧ (tkg t i).2.1 ≤ 4000 ∧ 0 ≤ tln t i ∧ tln t i ≤ ln ∧ 0 ≤ P i) ∧ (∀ i : Int, 0 ≤ i → i + 1 < t.length → P i + 1 ≤ P (i + 1) ∧ (¬ tln t (i + 1) = tln t i → P i + 2 ≤ P (i + 1)) ∧ (tki (tx t i) → nam (tx t (i + 1)) = true → P i + 6 ≤ P (i + 1))) ∧ (0 < t.length → P ((t.length : Int) - 1) + 1 ≤ p ∧ (tln t ((t.length : Int) - 1) < ln → P ((t.length : Int) - 1) + 2 ≤ p) ∧ (tki (tx t ((t.length : Int) - 1)) → P ((t.length : Int) - 1) + 5 ≤ p ∧ (P ((t.length : Int) - 1) + 5 = p → p < n → wdl (A p) = false))) ∧ (t.length : Int) + ln ≤ p ∧ 0 ≤ ln ∧ (p = n → 0 < n → 0 < t.length → tln t ((t.length : Int) - 1) < ln)
theorem tkg_lt {t : List Tok} {k : Tok} {i : Int} (h0 : 0 ≤ i) (h1 : i < t.length) : tkg (t ++ [k]) i = tkg t i := by
  unfold tkg
  rw [List.getD_eq_getElem?_getD, List.getElem?_append_left (by omega), ← List.getD_eq_getElem?_getD]
theorem tkg_eq {t : List Tok} {k : Tok} : tkg (t ++ [k]) t.length = k := by
  unfold tkg
  rw [List.getD_eq_getElem?_getD, List.getElem?_append_right (by omega)]
  simp
theorem SI_b {A : Int → Int} {n p q ln z : Int} {t : List Tok} {P : Int → Int} (h : SI A n p ln t P) (hq : p < q) (hz : z = 0 ∨ z = 1) (hn : q = n → 0 < n → z = 1) : SI A n q (ln + z) t P := by
  obtain ⟨h1, h2, h3, h4, h5, h6⟩ := h
  refine ⟨fun i i0 i1 => ?_, h2, fun h0 => ?_, by omega, by omega, fun k k0 k1 => ?_⟩
  · have := h1 i i0 i1
    exact ⟨this.1, this.2.1, this.2.2.1, this.2.2.2.1, by omega, this.2.2.2.2.2⟩
  · have := h3 h0
    refine ⟨by omega, fun _ => by omega, fun k => ?_⟩
    have k2 := this.2.2 k
    exact ⟨by omega, fun k3 => by omega⟩
  · have := h1 ((t.length : Int) - 1) (by omega) (by omega)
    have := hn k k0
    omega
theorem SI_t {A : Int → Int} {n p ln pl : Int} {g : Bool} {t : List Tok} {P : Int → Int} (h : SI A n p ln t P) (p0 : 0 ≤ p) (hp : p < n) (h1 : ¬ te A n p = p) (h9 : te A n p - p ≤ 9) (pl0 : 0 ≤ pl) (pl1 : pl ≤ 4000) (hz : A (n - 1) = 10) : SI A n (te A n p) ln (t ++ [(pk A p (te A n p), pl, ln, g)]) (w_u P t.length p) := by
  have hg := gw_te hp h1 h9
  have hr := te_r (A := A) hp
  have hlen : ((t ++ [(pk A p (te A n p), pl, ln, g)]).length : Int) = t.length + 1 := by rw [List.length_append]; show ((t.length + 1 : Nat) : Int) = _; omega
  have hn : te A n p < n := by
    by_cases c : te A n p = n
    · rw [c] at hg
      exact absurd hz hg.2.2.2.2.1
    · omega
  obtain ⟨a1, a2, a3, a4, a5, a6⟩ := h
  have xlt : ∀ i : Int, 0 ≤ i → i < t.length → tx (t ++ [(pk A p (te A n p), pl, ln, g)]) i = tx t i ∧ tln (t ++ [(pk A p (te A n p), pl, ln, g)]) i = tln t i ∧ (tkg (t ++ [(pk A p (te A n p), pl, ln, g)]) i).2.1 = (tkg t i).2.1 := fun i i0 i1 => by
    unfold tx tln
    rw [tkg_lt i0 i1]
    exact ⟨rfl, rfl, rfl⟩
  have xeq : tx (t ++ [(pk A p (te A n p), pl, ln, g)]) t.length = pk A p (te A n p) ∧ tln (t ++ [(pk A p (te A n p), pl, ln, g)]) t.length = ln ∧ (tkg (t ++ [(pk A p (te A n p), pl, ln, g)]) t.length).2.1 = pl := by
    unfold tx tln
    rw [tkg_eq]
    exact ⟨rfl, rfl, rfl⟩
  refine ⟨fun i i0 i1 => ?_, fun i i0 i1 => ?_, fun _ => ?_, by omega, a5, fun k => absurd k (by omega)⟩
  · rw [hlen] at i1
    by_cases c : i < t.length
    · rw [(xlt i i0 c).1, (xlt i i0 c).2.1, (xlt i i0 c).2.2, w_u_ne _ _ (by omega)]
      exact a1 i i0 c
    · have : i = t.length := by omega
      rw [this, xeq.1, xeq.2.1, xeq.2.2, w_u_self]
      exact ⟨hg.1, pl0, pl1, a5, Int.le_refl _, p0⟩
  · rw [hlen] at i1
    by_cases c : i + 1 < t.length
    · rw [(xlt i i0 (by omega)).1, (xlt i i0 (by omega)).2.1, (xlt (i + 1) (by omega) c).1, (xlt (i + 1) (by omega) c).2.1, w_u_ne _ _ (by omega), w_u_ne _ _ (by omega)]
      exact a2 i i0 c
    · have e : i + 1 = t.length := by omega
      have e2 : i = (t.length : Int) - 1 := by omega
      have a3' := a3 (by omega)
      have b1 := a1 i i0 (by omega)
      rw [← e2] at a3'
      rw [(xlt i i0 (by omega)).1, (xlt i i0 (by omega)).2.1, e, xeq.1, xeq.2.1, w_u_self, w_u_ne _ _ (by omega)]
      refine ⟨a3'.1, fun k => a3'.2.1 (by omega), fun k1 k2 => ?_⟩
      have k3 := a3'.2.2 k1
      by_cases k4 : P i + 5 = p
      · have k5 := k3.2 k4 hp
        rw [hg.2.1 k2] at k5
        exact Bool.noConfusion k5
      · omega
  · rw [hlen, show (t.length : Int) + 1 - 1 = t.length by omega, xeq.1, xeq.2.1, w_u_self]
    refine ⟨by omega, fun k => absurd k (by omega), fun k => ?_⟩
    have k2 := hg.2.2.2.2.2.2 (tki_wl k)
    exact ⟨k2.1, fun k3 k4 => k2.2 k4⟩
theorem bl_n {A : Int → Int} {n p : Int} (hp : p < n) (h1 : p < bl A n p) (hz : A (n - 1) = 10) : bl A n p = n → 0 < n → zB (decide (A p = 10)) = 1 := fun k _ => by
  by_cases c : A p = 10
  · rw [decide_eq_true c]
    rfl
  · exfalso
    unfold bl at h1 k
    by_cases c1 : A p = 32
    · rw [if_pos (Or.inl c1)] at k
      rw [show n - 1 = p by omega, c1] at hz
      exact absurd hz (by decide)
    · rw [if_neg (fun z => z.elim c1 c)] at h1 k
      by_cases c2 : A p = 47 ∧ p + 1 < n ∧ A (p + 1) = 42
      · rw [if_pos c2] at k
        unfold lce at k
        by_cases c3 : lcf A n (p + 2) + 1 < n
        · rw [if_pos c3] at k
          have q := fi_hit (p := fun j => decide (A j = 42 ∧ A (j + 1) = 47)) (n := n - 1) _ (p + 2) rfl (by unfold lcf at c3; omega)
          have q2 := (of_decide_eq_true q).2
          rw [show fi (fun j => decide (A j = 42 ∧ A (j + 1) = 47)) (n - 1) (p + 2) + 1 = n - 1 by unfold lcf at k; omega, hz] at q2
          exact absurd q2 (by decide)
        · rw [if_neg c3] at k
          omega
      · rw [if_neg c2] at h1 k
        by_cases c3 : A p = 47 ∧ p + 1 < n ∧ A (p + 1) = 47
        · rw [if_pos c3] at k
          unfold nlf at k
          have := fi_le (p := fun j => decide (A j = 10)) (n := n) (k := n - 1) (by omega) (decide_eq_true hz) _ p rfl (by omega)
          omega
        · rw [if_neg c3] at k
          omega
theorem spl_si {A N : Int → Int} {n fl : Int} (hz : 0 < n → A (n - 1) = 10) (f0 : 0 ≤ fl) (f2 : fl ≤ 2) (hN : ∀ j, 0 ≤ j → j < n → ¬ A j = 10 → 0 ≤ N j ∧ N j ≤ 160) : ∀ (m : Nat) (p ln : Int) (g : Bool) (t : List Tok) (P : Int → Int), SI A n p ln t P → 0 ≤ p → p ≤ n → n - p ≤ m → 0 ≤ (spl A N n fl m p ln g t).1 ∧ (spl A N n fl m p ln g t).1 ≤ 2 ∧ ((spl A N n fl m p ln g t).1 = 0 → ∃ l2 P2, SI A n n l2 (spl A N n fl m p ln g t).2 P2)
  | 0, p, ln, g, t, P, h, p0, p1, hm => by
    have e : p = n := by omega
    rw [e] at h
    exact ⟨Int.le_refl 0, (by decide : (0 : Int) ≤ 2), fun _ => ⟨ln, P, h⟩⟩
  | m + 1, p, ln, g, t, P, h, p0, p1, hm => by
    by_cases c : p < n
    · have hb := bl_r (A := A) c
      by_cases c1 : bl A n p < 0
      · rw [spl_1 c c1]
        exact ⟨(by decide : (0 : Int) ≤ 1), (by decide : (1 : Int) ≤ 2), fun z => absurd z (by show ¬ (1 : Int) = 0; decide)⟩
      · by_cases c2 : p < bl A n p
        · rw [spl_b c c2 (by omega)]
          have hb2 := hb.resolve_left (by omega)
          exact spl_si hz f0 f2 hN m _ _ _ t P (SI_b h c2 (by by_cases q : A p = 10; (rw [decide_eq_true q]; exact Or.inr rfl); (rw [decide_eq_false q]; exact Or.inl rfl)) (bl_n c c2 (hz (by omega)))) (by omega) hb2.2 (by omega)
        · by_cases c3 : te A n p = p ∨ 9 < te A n p - p
          · rw [spl_2 c (by omega) (by omega) c3]
            exact ⟨(by decide : (0 : Int) ≤ 2), (by decide : (2 : Int) ≤ 2), fun z => absurd z (by show ¬ (2 : Int) = 0; decide)⟩
          · have c4 : ¬ te A n p = p ∧ te A n p - p ≤ 9 := ⟨fun z => c3 (Or.inl z), by omega⟩
            have hg := gw_te c c4.1 c4.2
            have hr := te_r (A := A) c
            have hNp := hN p p0 c hg.2.2.2.2.2.1
            rw [spl_t c (by omega) (by omega) c3]
            exact spl_si hz f0 f2 hN m _ _ _ _ _ (SI_t h p0 c c4.1 c4.2 (by omega) (by omega) (hz (by omega))) (by omega) hr.2 (by omega)
    · rw [spl_0 (by omega)]
      have e : p = n := by omega
      rw [e] at h
      exact ⟨Int.le_refl 0, (by decide : (0 : Int) ≤ 2), fun _ => ⟨ln, P, h⟩⟩
theorem SI_ok {A : Int → Int} {n l2 : Int} {t : List Tok} {P : Int → Int} (n0 : 0 ≤ n) (n1 : n ≤ 161) (h : SI A n n l2 t P) : fok (newf t) := by
  obtain ⟨h1, h2, h3, h4, h5, h6⟩ := h
  have hlen : t.length ≤ 160 ∧ (0 < t.length → P ((t.length : Int) - 1) + 2 ≤ n) := by
    by_cases c : 0 < t.length
    · have := h6 rfl (by omega) c
      have := h1 ((t.length : Int) - 1) (by omega) (by omega)
      exact ⟨by omega, fun _ => (h3 c).2.1 (by assumption)⟩
    · exact ⟨by omega, fun z => absurd z c⟩
  refine ⟨⟨fun j j0 j1 => ?_, hlen.1, fun j j0 j1 => ?_, fun j j0 j1 => (h1 j j0 j1).1⟩, Int.le_refl _, Int.le_refl _, by show (0 : Int) ≤ t.length; omega, fun c hc => absurd hc (by show ¬ c ∈ ([] : List Cnd).tail; simp), Int.le_refl _, Int.le_refl _, fun _ => rfl, fun _ => rfl, w_u P t.length n, ⟨?_, ?_, ?_, ?_, ?_⟩, ?_⟩
  · have q := h1 j j0 j1
    exact ⟨q.1.1, q.2.1, q.2.2.1⟩
  · have q := h1 j j0 j1
    have hj1 : j < (t.length : Int) := j1
    have q5 : tln t j ≤ l2 := q.2.2.2.2.1
    exact ⟨q.2.2.2.1, by show tln t j ≤ 4000; omega⟩
  · show 0 ≤ w_u P t.length n 0
    by_cases c : (0 : Int) = t.length
    · rw [← c, w_u_self]
      exact n0
    · rw [w_u_ne _ _ c]
      exact (h1 0 (by decide) (by omega)).2.2.2.2.2
  · show w_u P t.length n t.length ≤ 161
    rw [w_u_self]
    exact n1
  · intro i i0 i1
    have i1 : i < (t.length : Int) := i1
    show w_u P t.length n i + 1 ≤ w_u P t.length n (i + 1)
    rw [w_u_ne _ _ (by omega)]
    by_cases c : i + 1 = t.length
    · rw [c, w_u_self, show i = (t.length : Int) - 1 by omega]
      have := hlen.2 (by omega)
      omega
    · rw [w_u_ne _ _ c]
      exact (h2 i i0 (by omega)).1
  · intro i i0 i1 hd
    have i1 : i < (t.length : Int) := i1
    show w_u P t.length n i + 2 ≤ w_u P t.length n (i + 1)
    rw [w_u_ne _ _ (by omega)]
    by_cases c : i + 1 = t.length
    · rw [c, w_u_self, show i = (t.length : Int) - 1 by omega]
      exact hlen.2 (by omega)
    · rw [w_u_ne _ _ c]
      exact (h2 i i0 (by omega)).2.1 (hd.resolve_left c)
  · intro i i0 i1 hd hn
    have i1 : i + 1 < (t.length : Int) := i1
    show w_u P t.length n i + 6 ≤ w_u P t.length n (i + 1)
    rw [w_u_ne _ _ (by omega), w_u_ne _ _ (by omega)]
    exact (h2 i i0 i1).2.2 hd hn
  · show 9 * (((([] : List Cnd).length : Nat)) : Int) ≤ w_u P t.length n 0
    by_cases c : (0 : Int) = t.length
    · rw [← c, w_u_self]
      exact n0
    · rw [w_u_ne _ _ c]
      exact (h1 0 (by decide) (by omega)).2.2.2.2.2
theorem scan_ok {g : Int → Int} {n fl : Int} (h0 : 0 ≤ n) (h1 : n ≤ 160) (hg : ∀ j, 0 ≤ j → j < n → 0 ≤ g j ∧ g j < 128) (f0 : 0 ≤ fl) (f2 : fl ≤ 2) : 0 ≤ (scan g n fl).1 ∧ (scan g n fl).1 ≤ 2 ∧ ((scan g n fl).1 = 0 → fok (newf (scan g n fl).2)) := by
  have tz := tri_z hg 161 0 0 0 (fun _ => 0) (fun _ => 0) (Int.le_refl 0) h0 (Int.le_refl 0) (Int.le_refl 0) (Int.le_refl 0) (Int.le_refl 0) (fun j a b => absurd b (by omega)) (fun j a b => absurd b (by omega))
  have jz := jnl_z (n := (tri g n 161 0 0 (fun _ => 0) (fun _ => 0) 0).2.2) 161 0 0 _ _ (Int.le_refl 0) (Int.le_refl 0) (Int.le_refl 0) tz.1 (fun j a b => ⟨(tz.2.2.1 j a b).1, Int.le_trans (tz.2.2.1 j a b).2 h1⟩) tz.2.2.2
  have e2 : jq g n = jnl (tri g n 161 0 0 (fun _ => 0) (fun _ => 0) 0).2.2 161 0 0 (tri g n 161 0 0 (fun _ => 0) (fun _ => 0) 0).1 (tri g n 161 0 0 (fun _ => 0) (fun _ => 0) 0).2.1 := rfl
  rw [← e2] at jz
  have f := jfn_cong (p := jq g n) (q := jq g n) rfl jz.1 (fun _ _ _ => rfl)
  have hl : 0 < (jfn (jq g n)).2 → (jfn (jq g n)).1 ((jfn (jq g n)).2 - 1) = 10 := fun hp => by
    by_cases c : (jfn (jq g n)).2 = (jq g n).2.2 + 1
    · rw [c, show (jq g n).2.2 + 1 - 1 = (jq g n).2.2 by omega]
      exact f.2.2.2.2.2 c
    · have c2 : (jfn (jq g n)).2 = (jq g n).2.2 := by have := f.2.2.2.1; have := f.2.2.2.2.1; omega
      unfold jfn at c hp ⊢
      by_cases c3 : 0 < (jq g n).2.2 ∧ ¬ (jq g n).1 ((jq g n).2.2 - 1) = 10
      · rw [if_pos c3] at c
        exact absurd rfl c
      · rw [if_neg c3] at hp ⊢
        have hp : 0 < (jq g n).2.2 := hp
        show (jq g n).1 ((jq g n).2.2 - 1) = 10
        by_cases c4 : (jq g n).1 ((jq g n).2.2 - 1) = 10
        · exact c4
        · exact absurd ⟨hp, c4⟩ c3
  have hn0 : 0 ≤ (jfn (jq g n)).2 := by have := f.2.2.2.1; have := jz.1; omega
  have hn1 : (jfn (jq g n)).2 ≤ 161 := by have := f.2.2.2.2.1; have := jz.2.1; have := tz.2.1; omega
  have hs := spl_si (A := (jfn (jq g n)).1) (N := (jq g n).2.1) (n := (jfn (jq g n)).2) (fl := fl) hl f0 f2 (fun j a b c => jz.2.2.1 j a (by have := f.2.2.1 j a b c; have := jz.2.1; omega)) 161 0 0 false [] (fun _ => 0) ⟨fun i i0 i1 => absurd i1 (by rw [List.length_nil]; omega), fun i i0 i1 => absurd i1 (by rw [List.length_nil]; omega), fun h => absurd h (by decide), by decide, Int.le_refl _, fun _ _ h => absurd h (by decide)⟩ (Int.le_refl _) hn0 (by omega)
  refine ⟨hs.1, hs.2.1, fun z => ?_⟩
  obtain ⟨l2, P2, h⟩ := hs.2.2 z
  exact SI_ok hn0 hn1 h
theorem Fok_of {F : Int → (Int → Int) × Int} (h : ∀ f : Int, 0 ≤ f → f ≤ 2 → 0 ≤ (F f).2 ∧ (F f).2 ≤ 160 ∧ (∀ i, 0 ≤ i → i < (F f).2 → 0 ≤ (F f).1 i ∧ (F f).1 i < 128)) : Fok F := fun f f0 f2 => by
  have q := h f f0 f2
  have s := scan_ok (fl := f) q.1 q.2.1 q.2.2 f0 f2
  exact ⟨q.1, q.2.1, q.2.2, s.1, by have := s.2.1; unfold psc; omega, s.2.2⟩
