/-! What holds of the tables and the frames while a file is taken line by line. -/
def TOK (T : List Mac) : Prop := tabok T ∧ T.length ≤ 8 ∧ ∀ k : Int, 0 ≤ k → k < T.length → mok (mg T k) ∧ bg (mg T k)
/-- room that the tokens took in their file -/
def cwt (t : List Tok) (P : Int → Int) : Prop := 0 ≤ P 0 ∧ P t.length ≤ 161 ∧ (∀ i : Int, 0 ≤ i → i < t.length → P i + 1 ≤ P (i + 1)) ∧ (∀ i : Int, 0 ≤ i → i < t.length → (i + 1 = t.length ∨ ¬ tln t (i + 1) = tln t i) → P i + 2 ≤ P (i + 1)) ∧ (∀ i : Int, 0 ≤ i → i + 1 < t.length → (tx t i = 28401283814 ∨ tx t i = 3635385283302) → nam (tx t (i + 1)) = true → P i + 6 ≤ P (i + 1))
def tgd (t : List Tok) : Prop := tkok t ∧ t.length ≤ 160 ∧ (∀ j : Int, 0 ≤ j → j < t.length → 0 ≤ tln t j ∧ tln t j ≤ 4000) ∧ (∀ j : Int, 0 ≤ j → j < t.length → gw (tx t j))
def fok (f : Frm) : Prop := tgd f.1 ∧ 0 ≤ f.2.2.1 ∧ f.2.2.1 ≤ f.2.1 ∧ f.2.1 ≤ f.1.length ∧ csok f.2.2.2.1 ∧ 0 ≤ f.2.2.2.2 ∧ f.2.2.2.2 ≤ f.2.1 ∧ (skp f.2.2.2.1 = true → f.2.2.1 = f.2.1) ∧ (skp f.2.2.2.1 = false → f.2.2.2.2 = 0) ∧ ∃ P, cwt f.1 P ∧ 9 * (f.2.2.2.1.length : Int) ≤ P f.2.1
theorem fi_all {p : Int → Bool} {n : Int} : ∀ (m : Nat) (i : Int), (n - i).toNat = m → n ≤ fi p n i → ∀ k, i ≤ k → k < n → p k = false
  | 0, i, hm, h, k, k0, k1 => by omega
  | m + 1, i, hm, h, k, k0, k1 => by
    by_cases c : p i = true
    · rw [fi_stop (by omega) c] at h
      omega
    · have c : p i = false := by simpa using c
      by_cases e : k = i
      · rw [e]
        exact c
      · rw [fi_next (by omega) c] at h
        exact fi_all m (i + 1) (by omega) h k (by omega) k1
theorem bdy_all {X : Int → Int64} {q e : Int} (h : bdy X q e = true) : ∀ k, q ≤ k → k < e → X k = 4515 → ¬ k = q ∧ ¬ k = e - 1 ∧ ¬ X (k + 1) = 4515 := fun k k0 k1 hx => by
  have h2 : e ≤ bdx X q e := of_decide_eq_true h
  have h3 := fi_all _ q rfl h2 k k0 k1
  have h4 := of_decide_eq_false h3
  exact ⟨fun z => h4 ⟨hx, Or.inl z⟩, fun z => h4 ⟨hx, Or.inr (Or.inl z)⟩, fun z => h4 ⟨hx, Or.inr (Or.inr z)⟩⟩
theorem dmk_bg {t : List Tok} {a p q e : Int} (hg : ∀ j : Int, 0 ≤ j → j < t.length → gw (tx t j)) (q0 : 0 ≤ q) (e1 : e ≤ t.length) (hb : bdy (tx t) q e = true) : bg (dmk (tx t) a p q e) := by
  have hl : (dmk (tx t) a p q e).2.2.2 = slN (tx t) (e - q).toNat q := rfl
  have hn := slN_len (tx t) (e - q).toNat q
  have hal := bdy_all hb
  have hpa : ∀ j : Int, pas (slN (tx t) (e - q).toNat q) j = true → 0 ≤ j ∧ j < e - q ∧ tx t (q + j) = 4515 := fun j hj => by
    have h := of_decide_eq_true hj
    rw [hn] at h
    have h3 := h.2.2
    rw [lg_slN _ _ _ _ h.1 h.2.1] at h3
    exact ⟨h.1, by omega, h3⟩
  refine ⟨?_, fun j hj => ?_, fun j j0 j1 => ?_⟩
  · rw [hl]
    cases hc : pas (slN (tx t) (e - q).toNat q) 0 with
    | false => rfl
    | true =>
      have h := hpa 0 hc
      exact absurd (by omega : q + 0 = q) (hal (q + 0) (by omega) (by omega) h.2.2).1
  · rw [hl] at hj ⊢
    cases hc : pas (slN (tx t) (e - q).toNat q) (j + 1) with
    | false => rfl
    | true =>
      have h := hpa j hj
      have h2 := hpa (j + 1) hc
      have h3 := (hal (q + j) (by omega) (by omega) h.2.2).2.2
      rw [show q + j + 1 = q + (j + 1) by omega] at h3
      exact absurd h2.2.2 h3
  · rw [hl, hn] at j1
    rw [hl, lg_slN _ _ _ _ j0 j1]
    exact hg _ (by omega) (by omega)
theorem und_ok {T : List Mac} {x : Int64} (h : TOK T) : TOK (und T x) := by
  by_cases c : fnd T x < 0
  · have : und T x = T := by unfold und; rw [if_pos c]
    rw [this]
    exact h
  · have hl := und_len c
    have hr := fnd_r T x
    have h8 := h.2.1
    refine ⟨⟨fun k k0 k1 => ?_, fun j k hj hk e => ?_⟩, by omega, fun k k0 k1 => ?_⟩
    · rw [mg_und c k0 (by omega)]
      split
      · exact h.1.1 _ (by omega) (by omega)
      · exact h.1.1 _ k0 (by omega)
    · have e1 : (mg (und T x) j).1 = (mg (und T x) k).1 := e
      rw [mg_und c (by omega) (by omega), mg_und c (by omega) (by omega)] at e1
      have q := h.1.2
      have key : ∀ a b : Int, 0 ≤ a → a < T.length → 0 ≤ b → b < T.length → (mg T a).1 = (mg T b).1 → a = b := fun a b a0 a1 b0 b1 z => by
        have := q a.toNat b.toNat (by omega) (by omega) z
        omega
      split at e1
      · split at e1
        · omega
        · have := key _ _ (by omega) (by omega) (by omega) (by omega) e1
          omega
      · split at e1
        · have := key _ _ (by omega) (by omega) (by omega) (by omega) e1
          omega
        · have := key _ _ (by omega) (by omega) (by omega) (by omega) e1
          omega
    · rw [mg_und c k0 (by omega)]
      split
      · exact h.2.2 _ (by omega) (by omega)
      · exact h.2.2 _ k0 (by omega)
theorem snoc_ok {T : List Mac} {e : Mac} (h : TOK T) (h8 : T.length < 8) (hf : fnd T e.1 < 0) (ho : mok e) (hb : bg e) : TOK (T ++ [e]) := by
  have hl : (T ++ [e]).length = T.length + 1 := by rw [List.length_append]; rfl
  have hne : ∀ k : Int, 0 ≤ k → k < T.length → ¬ (mg T k).1 = e.1 := fun k k0 k1 z => by
    have := fnd_eq h.1 k0 k1 z
    omega
  refine ⟨⟨fun k k0 k1 => ?_, fun j k hj hk z => ?_⟩, by omega, fun k k0 k1 => ?_⟩
  · rw [mg_snoc k0 (by omega)]
    split
    · exact h.1.1 _ k0 (by omega)
    · intro z
      have := ho.2.2.2.1
      rw [z] at this
      exact absurd this (by decide)
  · have e1 : (mg (T ++ [e]) j).1 = (mg (T ++ [e]) k).1 := z
    rw [mg_snoc (by omega) (by omega), mg_snoc (by omega) (by omega)] at e1
    split at e1
    · split at e1
      · have := h.1.2 j k (by omega) (by omega) e1
        omega
      · exact absurd e1 (hne _ (by omega) (by omega))
    · split at e1
      · exact absurd e1.symm (hne _ (by omega) (by omega))
      · omega
  · rw [mg_snoc k0 (by omega)]
    split
    · exact h.2.2 _ k0 (by omega)
    · exact ⟨ho, hb⟩
theorem dft_ok {T : List Mac} {t : List Tok} {a p q e : Int} (h : TOK T) (hg : tgd t) (a0 : 0 ≤ a) (a1 : a < t.length) (q0 : 0 ≤ q) (e1 : e ≤ t.length) (hb : bdy (tx t) q e = true) : TOK (dft T (tx t) a p q e).2 ∧ 0 ≤ (dft T (tx t) a p q e).1 ∧ (dft T (tx t) a p q e).1 ≤ 9 := by
  unfold dft
  split
  · exact ⟨h, by simp, by simp⟩
  · split
    · exact ⟨h, by simp, by simp⟩
    · refine ⟨snoc_ok h (by omega) ?_ (dmk_ok hg.1 a0 a1 q0 e1 (by omega) (by omega)) (dmk_bg hg.2.2.2 q0 e1 hb), by simp, by simp⟩
      show fnd T (tx t a) < 0
      omega
theorem dfn_ok {T : List Mac} {t : List Tok} {a e : Int} (h : TOK T) (hg : tgd t) (a0 : 0 ≤ a) (e1 : e ≤ t.length) : TOK (dfn T t a e).2 ∧ 0 ≤ (dfn T t a e).1 ∧ (dfn T t a e).1 ≤ 9 := by
  unfold dfn
  split
  · exact ⟨h, by simp, by simp⟩
  · rename_i h1
    split
    · split
      · exact ⟨h, by simp, by simp⟩
      · rename_i h3
        have hb : bdy (tx t) (pe (tx t) (a + 2) e) e = true := by
          cases z : bdy (tx t) (pe (tx t) (a + 2) e) e with
          | true => rfl
          | false => exact absurd (Or.inr z) h3
        exact dft_ok h hg a0 (by omega) (by omega) e1 hb
    · split
      · exact ⟨h, by simp, by simp⟩
      · rename_i h3
        exact dft_ok h hg a0 (by omega) (by omega) e1 (by simpa using h3)
theorem icd_r (X : Int → Int64) (a e lv ic : Int) : 0 ≤ icd X a e lv ic ∧ icd X a e lv ic ≤ 9 ∧ (icd X a e lv ic = 0 → lv < 3 ∧ ic < 10 ∧ 0 ≤ (X (a + 1)).toInt - 48 ∧ (X (a + 1)).toInt - 48 ≤ 2) := by
  unfold icd
  split
  · exact ⟨by decide, by decide, fun z => absurd z (by decide)⟩
  · rename_i h1
    split
    · exact ⟨by decide, by decide, fun z => absurd z (by decide)⟩
    · rename_i h2
      have h3 := not_or.mp (not_or.mp h1).2
      have h4 := dig3_z h3.1 (by simpa using h3.2)
      exact ⟨by decide, by decide, fun _ => ⟨by omega, by omega, h4.2⟩⟩
/-- what a directive does to the conditionals -/
theorem ob_ok {T : List Mac} {t : List Tok} {cs : List Cnd} {a e lv ic : Int} (h : TOK T) (hg : tgd t) (hc : csok cs) (a0 : 0 ≤ a) (e1 : e ≤ t.length) (hs : skp cs = true → tx t a = 27344319718 ∨ tx t a = 213596645) : TOK (ob T t cs a e lv ic).2.1 ∧ 0 ≤ (ob T t cs a e lv ic).1 ∧ (ob T t cs a e lv ic).1 ≤ 9 ∧ csok (ob T t cs a e lv ic).2.2.1 ∧ ((ob T t cs a e lv ic).2.2.2 = -1 ∨ (0 ≤ (ob T t cs a e lv ic).2.2.2 ∧ (ob T t cs a e lv ic).2.2.2 ≤ 2 ∧ (ob T t cs a e lv ic).1 = 0 ∧ lv < 3 ∧ ic < 10 ∧ (ob T t cs a e lv ic).2.2.1 = cs ∧ skp cs = false)) ∧ ((ob T t cs a e lv ic).2.2.1.length ≤ cs.length ∨ ((ob T t cs a e lv ic).2.2.1.length = cs.length + 1 ∧ a + 2 = e ∧ (tx t a = 28401283814 ∨ tx t a = 3635385283302) ∧ nam (tx t (a + 1)) = true)) := by
  have hsf : ∀ z : Int64, tx t a = z → ¬ (z = 27344319718 ∨ z = 213596645) → skp cs = false := fun z e1 e2 => by
    cases q : skp cs with
    | false => rfl
    | true => exact absurd (e1 ▸ hs q) e2
  have hpush : ∀ b : Bool, skp cs = false → csok ((b, false) :: cs) := fun b hz c hm => by
    have hm2 : c ∈ cs := hm
    cases cs with
    | nil => exact absurd hm2 (by simp)
    | cons c2 r =>
      rcases List.mem_cons.mp hm2 with z | z
      · rw [z]
        exact hz
      · exact hc c z
  have hels : 0 ≤ (tels cs).1 ∧ (tels cs).1 ≤ 9 ∧ csok (tels cs).2 ∧ (tels cs).2.length ≤ cs.length := by
    cases cs with
    | nil => exact ⟨by decide, by decide, hc, by decide⟩
    | cons c r =>
      show 0 ≤ (if c.2 = true then ((4 : Int), c :: r) else (0, (!c.1, true) :: r)).1 ∧ (if c.2 = true then ((4 : Int), c :: r) else (0, (!c.1, true) :: r)).1 ≤ 9 ∧ csok (if c.2 = true then ((4 : Int), c :: r) else (0, (!c.1, true) :: r)).2 ∧ (if c.2 = true then ((4 : Int), c :: r) else (0, (!c.1, true) :: r)).2.length ≤ _
      split
      · exact ⟨by show (0 : Int) ≤ 4; decide, by show (4 : Int) ≤ 9; decide, hc, Nat.le_refl _⟩
      · exact ⟨by show (0 : Int) ≤ 0; decide, by show (0 : Int) ≤ 9; decide, hc, Nat.le_refl _⟩
  have hcls : 0 ≤ (tcls cs).1 ∧ (tcls cs).1 ≤ 9 ∧ csok (tcls cs).2 ∧ (tcls cs).2.length ≤ cs.length := by
    cases cs with
    | nil => exact ⟨by decide, by decide, hc, by decide⟩
    | cons c r => exact ⟨by show (0 : Int) ≤ 0; decide, by show (0 : Int) ≤ 9; decide, fun c2 h2 => hc c2 (List.mem_of_mem_tail h2), Nat.le_succ _⟩
  unfold ob
  split
  · exact ⟨h, by simp, by simp, hc, Or.inl rfl, Or.inl (Nat.le_refl _)⟩
  · rename_i hea
    split
    · have q := dfn_ok (T := T) (a := a + 1) (e := e) h hg (by omega) e1
      exact ⟨q.1, q.2.1, q.2.2, hc, Or.inl rfl, Or.inl (Nat.le_refl _)⟩
    · split
      · rename_i h3
        have q := icd_r (tx t) (a + 1) e lv ic
        have hsk := hsf _ h3 (by decide)
        refine ⟨h, q.1, q.2.1, hc, ?_, Or.inl (Nat.le_refl _)⟩
        by_cases z : icd (tx t) (a + 1) e lv ic = 0
        · have q2 := q.2.2 z
          rw [show a + 1 + 1 = a + 2 by omega] at q2
          refine Or.inr ?_
          show 0 ≤ (if icd (tx t) (a + 1) e lv ic = 0 then (tx t (a + 2)).toInt - 48 else -1) ∧ (if icd (tx t) (a + 1) e lv ic = 0 then (tx t (a + 2)).toInt - 48 else -1) ≤ 2 ∧ _
          rw [if_pos z]
          exact ⟨q2.2.2.1, q2.2.2.2, z, q2.1, q2.2.1, rfl, hsk⟩
        · refine Or.inl ?_
          show (if icd (tx t) (a + 1) e lv ic = 0 then (tx t (a + 2)).toInt - 48 else -1) = -1
          rw [if_neg z]
      · split
        · split
          · exact ⟨h, hels.1, hels.2.1, hels.2.2.1, Or.inl rfl, Or.inl hels.2.2.2⟩
          · exact ⟨h, by show (0 : Int) ≤ 3; decide, by show (3 : Int) ≤ 9; decide, hc, Or.inl rfl, Or.inl (Nat.le_refl _)⟩
        · split
          · split
            · exact ⟨h, hcls.1, hcls.2.1, hcls.2.2.1, Or.inl rfl, Or.inl hcls.2.2.2⟩
            · exact ⟨h, by show (0 : Int) ≤ 3; decide, by show (3 : Int) ≤ 9; decide, hc, Or.inl rfl, Or.inl (Nat.le_refl _)⟩
          · split
            · exact ⟨h, by show (0 : Int) ≤ 3; decide, by show (3 : Int) ≤ 9; decide, hc, Or.inl rfl, Or.inl (Nat.le_refl _)⟩
            · rename_i h6
              have h6 := Decidable.not_not.mp h6
              unfold obn
              split
              · exact ⟨und_ok h, by show (0 : Int) ≤ 0; decide, by show (0 : Int) ≤ 9; decide, hc, Or.inl rfl, Or.inl (Nat.le_refl _)⟩
              · split
                · rename_i h8
                  exact ⟨h, by show (0 : Int) ≤ 0; decide, by show (0 : Int) ≤ 9; decide, hpush _ (hsf _ h8 (by decide)), Or.inl rfl, Or.inr ⟨rfl, h6.1, Or.inl h8, h6.2⟩⟩
                · split
                  · rename_i h8
                    exact ⟨h, by show (0 : Int) ≤ 0; decide, by show (0 : Int) ≤ 9; decide, hpush _ (hsf _ h8 (by decide)), Or.inl rfl, Or.inr ⟨rfl, h6.1, Or.inr h8, h6.2⟩⟩
                  · exact ⟨h, by show (0 : Int) ≤ 3; decide, by show (3 : Int) ≤ 9; decide, hc, Or.inl rfl, Or.inl (Nat.le_refl _)⟩
theorem xg_R {T : List Mac} (hT : TOK T) (r : Int) (G : List ETok) (ol : List OTok) (hr : r ≤ 30) : 0 ≤ (xg T r ol G).1 ∧ (xg T r ol G).1 ≤ 99 ∧ r ≤ (xg T r ol G).2.1 ∧ (xg T r ol G).2.1 ≤ 30 ∧ ((xg T r ol G).1 = 0 → (xg T r ol G).2.2.length ≤ 100) := by
  have x := expL_r (T := T) (fun k k0 k1 => (hT.2.2 k k0 k1).1) 4000 r G [] hr
  unfold xg
  refine ⟨?_, ?_, x.2.2.1, x.2.2.2.1, fun z => ?_⟩
  · show 0 ≤ (if ¬ (expL T 4000 r G []).1 = 0 then (expL T 4000 r G []).1 else if 100 < (ol.length : Int) + (expL T 4000 r G []).2.2.length then 7 else 0)
    split
    · exact x.1
    · split <;> decide
  · show (if ¬ (expL T 4000 r G []).1 = 0 then (expL T 4000 r G []).1 else if 100 < (ol.length : Int) + (expL T 4000 r G []).2.2.length then 7 else 0) ≤ 99
    split
    · exact x.2.1
    · split <;> decide
  · have z2 : (if ¬ (expL T 4000 r G []).1 = 0 then (expL T 4000 r G []).1 else if 100 < (ol.length : Int) + (expL T 4000 r G []).2.2.length then 7 else 0) = 0 := z
    show (ol ++ (expL T 4000 r G []).2.2.map eot).length ≤ 100
    rw [List.length_append, List.length_map]
    split at z2
    · rename_i h
      exact absurd z2 h
    · split at z2
      · exact absurd z2 (by decide)
      · omega
theorem cwt_mono {t : List Tok} {P : Int → Int} (h : cwt t P) : ∀ (m : Nat) (i : Int), 0 ≤ i → i + m ≤ t.length → P i ≤ P (i + m)
  | 0, i, h0, h1 => by
    rw [show i + ((0 : Nat) : Int) = i by omega]
    exact Int.le_refl _
  | m + 1, i, h0, h1 => by
    have a := h.2.2.1 i h0 (by omega)
    have b := cwt_mono h m (i + 1) (by omega) (by omega)
    rw [show i + ((m + 1 : Nat) : Int) = i + 1 + m by omega]
    omega
theorem cwt_le {t : List Tok} {P : Int → Int} (h : cwt t P) {i j : Int} (h0 : 0 ≤ i) (hij : i ≤ j) (h1 : j ≤ t.length) : P i ≤ P j := by
  have := cwt_mono h (j - i).toNat i h0 (by omega)
  rw [show i + ((j - i).toNat : Int) = j by omega] at this
  exact this
theorem fi_hit {p : Int → Bool} {n : Int} : ∀ (m : Nat) (i : Int), (n - i).toNat = m → fi p n i < n → p (fi p n i) = true
  | 0, i, hm, h => by
    rw [fi_end (by omega)] at h
    omega
  | m + 1, i, hm, h => by
    by_cases c : p i = true
    · rw [fi_stop (by omega) c]
      exact c
    · have c : p i = false := by simpa using c
      rw [fi_next (by omega) c] at h ⊢
      exact fi_hit m (i + 1) (by omega) h
theorem fi_bef {p : Int → Bool} {n : Int} : ∀ (m : Nat) (i : Int), (n - i).toNat = m → ∀ k, i ≤ k → k < fi p n i → k < n → p k = false
  | 0, i, hm, k, k0, k1, k2 => by omega
  | m + 1, i, hm, k, k0, k1, k2 => by
    by_cases c : p i = true
    · rw [fi_stop (by omega) c] at k1
      omega
    · have c : p i = false := by simpa using c
      by_cases e : k = i
      · rw [e]
        exact c
      · rw [fi_next (by omega) c] at k1
        exact fi_bef m (i + 1) (by omega) k (by omega) k1 k2
theorem lnE_in {t : List Tok} {i : Int} (h : i < t.length) {k : Int} (k0 : i ≤ k) (k1 : k < lnE t i) : tln t k = tln t i := by
  have hr := fi_r (p := fun j => decide (¬ tln t j = tln t i)) (n := t.length) (i := i) (by omega)
  have := fi_bef (p := fun j => decide (¬ tln t j = tln t i)) (n := t.length) _ i rfl k k0 k1 (by unfold lnE at k1; omega)
  have := of_decide_eq_false this
  exact Decidable.not_not.mp this
theorem lnE_out {t : List Tok} {i : Int} (h : lnE t i < t.length) : ¬ tln t (lnE t i) = tln t i := by
  have := fi_hit (p := fun j => decide (¬ tln t j = tln t i)) (n := t.length) _ i rfl h
  exact of_decide_eq_true this
/-- a conditional takes nine -/
theorem cwt_9 {t : List Tok} {P : Int → Int} (h : cwt t P) {nx : Int} (h0 : 0 ≤ nx) (h1 : nx < t.length) (h2 : nx + 1 + 2 = lnE t nx) (h3 : tx t (nx + 1) = 28401283814 ∨ tx t (nx + 1) = 3635385283302) (h4 : nam (tx t (nx + 1 + 1)) = true) : P nx + 9 ≤ P (lnE t nx) := by
  have hr := lnE_r h0 h1
  have a1 := h.2.2.1 nx h0 h1
  have a2 := h.2.2.2.2 (nx + 1) (by omega) (by omega) h3 h4
  have a3 := h.2.2.2.1 (nx + 1 + 1) (by omega) (by omega) (by
    by_cases c : lnE t nx < t.length
    · refine Or.inr ?_
      have o := lnE_out c
      rw [lnE_in h1 (k := nx + 1 + 1) (by omega) (by omega), show nx + 1 + 1 + 1 = lnE t nx by omega]
      exact o
    · exact Or.inl (by omega))
  rw [show nx + 1 + 1 + 1 = lnE t nx by omega] at a3
  omega
theorem fok_18 {f : Frm} (h : fok f) : f.2.2.2.1.length < 18 := by
  obtain ⟨P, h1, h2⟩ := h.2.2.2.2.2.2.2.2.2
  have := cwt_le h1 (i := f.2.1) (j := f.1.length) (by have := h.2.1; have := h.2.2.1; omega) h.2.2.2.1 (Int.le_refl _)
  have := h1.2.1
  omega
theorem tkl_ok {T : List Mac} {r : Int} {ol : List OTok} {t : List Tok} {nx gr : Int} {cs : List Cnd} {dp lv ic : Int} (hT : TOK T) (hf : fok (t, nx, gr, cs, dp)) (hr : r ≤ 30) (ho : ol.length ≤ 100) (hx : nx < t.length) : TOK (tkl T r ol t nx gr cs dp lv ic).2.2.1 ∧ fok (tkl T r ol t nx gr cs dp lv ic).2.1 ∧ 0 ≤ (tkl T r ol t nx gr cs dp lv ic).1 ∧ (tkl T r ol t nx gr cs dp lv ic).1 ≤ 99 ∧ r ≤ (tkl T r ol t nx gr cs dp lv ic).2.2.2.1 ∧ (tkl T r ol t nx gr cs dp lv ic).2.2.2.1 ≤ 30 ∧ ((tkl T r ol t nx gr cs dp lv ic).1 = 0 → (tkl T r ol t nx gr cs dp lv ic).2.2.2.2.1.length ≤ 100) ∧ (tkl T r ol t nx gr cs dp lv ic).2.1.1 = t ∧ (tkl T r ol t nx gr cs dp lv ic).2.1.2.1 = lnE t nx ∧ ((tkl T r ol t nx gr cs dp lv ic).2.2.2.2.2 = -1 ∨ (0 ≤ (tkl T r ol t nx gr cs dp lv ic).2.2.2.2.2 ∧ (tkl T r ol t nx gr cs dp lv ic).2.2.2.2.2 ≤ 2 ∧ lv < 3 ∧ ic < 10 ∧ skp (tkl T r ol t nx gr cs dp lv ic).2.1.2.2.2.1 = false ∧ (tkl T r ol t nx gr cs dp lv ic).1 = 0)) := by
  obtain ⟨k1, k2, k3, k4, k5, k6, k7, k8, k9, P, k10, k11⟩ := hf
  have k2 : 0 ≤ gr := k2
  have k3 : gr ≤ nx := k3
  have k6 : 0 ≤ dp := k6
  have k7 : dp ≤ nx := k7
  have k11 : 9 * (cs.length : Int) ≤ P nx := k11
  have k10 : cwt t P := k10
  have hle := lnE_r (t := t) (i := nx) (by omega) hx
  have hP := cwt_le k10 (i := nx) (j := lnE t nx) (by omega) (by omega) hle.2
  have hx2 := xg_R hT r (grp t gr nx) ol hr
  by_cases c1 : skp cs = true ∧ (lvs (tx t) nx (lnE t nx) dp).1 = false
  · have hz : (tkl T r ol t nx gr cs dp lv ic) = (0, (t, lnE t nx, lnE t nx, cs, (lvs (tx t) nx (lnE t nx) dp).2), T, r, ol, -1) := by
      unfold tkl
      rw [if_pos c1]
    rw [hz]
    have lr := lvs_r (X := tx t) (a := nx) (e := lnE t nx) k6
    refine ⟨hT, ⟨k1, ?_, Int.le_refl _, hle.2, k5, lr.1, ?_, fun _ => rfl, fun z => ?_, P, k10, ?_⟩, by simp, by simp, Int.le_refl _, hr, fun _ => ho, rfl, rfl, Or.inl rfl⟩
    · show 0 ≤ lnE t nx
      omega
    · show (lvs (tx t) nx (lnE t nx) dp).2 ≤ lnE t nx
      omega
    · have z2 : skp cs = false := z
      rw [c1.1] at z2
      exact absurd z2 (by decide)
    · show 9 * (cs.length : Int) ≤ P (lnE t nx)
      omega
  · by_cases c2 : tx t nx = 35
    · have hsk : skp cs = true → (lvs (tx t) nx (lnE t nx) dp).1 = true := fun z => by
        cases q : (lvs (tx t) nx (lnE t nx) dp).1 with
        | true => rfl
        | false => exact absurd ⟨z, q⟩ c1
      have hdp : dp = 0 := by
        cases q : skp cs with
        | false => exact k9 q
        | true =>
          have q2 := hsk q
          unfold lvs at q2
          split at q2
          · exact Bool.noConfusion (show false = true from q2)
          · split at q2
            · exact Bool.noConfusion (show false = true from q2)
            · split at q2
              · exact Bool.noConfusion (show false = true from q2)
              · omega
      have hend : skp cs = true → tx t (nx + 1) = 27344319718 ∨ tx t (nx + 1) = 213596645 := fun z => by
        have q2 := hsk z
        unfold lvs at q2
        split at q2
        · exact Bool.noConfusion (show false = true from q2)
        · split at q2
          · exact Bool.noConfusion (show false = true from q2)
          · split at q2
            · exact Bool.noConfusion (show false = true from q2)
            · exact of_decide_eq_true q2
      by_cases c3 : (xg T r ol (grp t gr nx)).1 = 0
      · have hz : (tkl T r ol t nx gr cs dp lv ic) = ((ob T t cs (nx + 1) (lnE t nx) lv ic).1, (t, lnE t nx, lnE t nx, (ob T t cs (nx + 1) (lnE t nx) lv ic).2.2.1, dp), (ob T t cs (nx + 1) (lnE t nx) lv ic).2.1, (xg T r ol (grp t gr nx)).2.1, (xg T r ol (grp t gr nx)).2.2, (ob T t cs (nx + 1) (lnE t nx) lv ic).2.2.2) := by
          unfold tkl
          rw [if_neg c1, if_neg (not_not_intro c2), if_neg (not_not_intro c3)]
        rw [hz]
        have q := ob_ok (T := T) (t := t) (cs := cs) (a := nx + 1) (e := lnE t nx) (lv := lv) (ic := ic) hT k1 k5 (by omega) hle.2 hend
        refine ⟨q.1, ⟨k1, ?_, Int.le_refl _, hle.2, q.2.2.2.1, k6, ?_, fun _ => rfl, fun _ => hdp, P, k10, ?_⟩, q.2.1, by have := q.2.2.1; show (ob T t cs (nx + 1) (lnE t nx) lv ic).1 ≤ 99; omega, hx2.2.2.1, hx2.2.2.2.1, fun _ => hx2.2.2.2.2 c3, rfl, rfl, ?_⟩
        · show 0 ≤ lnE t nx
          omega
        · show dp ≤ lnE t nx
          omega
        · show 9 * ((ob T t cs (nx + 1) (lnE t nx) lv ic).2.2.1.length : Int) ≤ P (lnE t nx)
          rcases q.2.2.2.2.2 with z | ⟨z1, z2, z3, z4⟩
          · omega
          · have := cwt_9 k10 (by omega) hx z2 z3 z4
            omega
        · rcases q.2.2.2.2.1 with z | ⟨z1, z2, z3, z4, z5, z6, z7⟩
          · exact Or.inl z
          · refine Or.inr ⟨z1, z2, z4, z5, ?_, z3⟩
            show skp (ob T t cs (nx + 1) (lnE t nx) lv ic).2.2.1 = false
            rw [z6]
            exact z7
      · have hz : (tkl T r ol t nx gr cs dp lv ic) = ((xg T r ol (grp t gr nx)).1, (t, lnE t nx, lnE t nx, cs, dp), T, (xg T r ol (grp t gr nx)).2.1, ol, -1) := by
          unfold tkl
          rw [if_neg c1, if_neg (not_not_intro c2), if_pos c3]
        rw [hz]
        refine ⟨hT, ⟨k1, ?_, Int.le_refl _, hle.2, k5, k6, ?_, fun _ => rfl, fun _ => hdp, P, k10, ?_⟩, hx2.1, hx2.2.1, hx2.2.2.1, hx2.2.2.2.1, fun _ => ho, rfl, rfl, Or.inl rfl⟩
        · show 0 ≤ lnE t nx
          omega
        · show dp ≤ lnE t nx
          omega
        · show 9 * (cs.length : Int) ≤ P (lnE t nx)
          omega
    · have hz : (tkl T r ol t nx gr cs dp lv ic) = (0, (t, lnE t nx, gr, cs, dp), T, r, ol, -1) := by
        unfold tkl
        rw [if_neg c1, if_pos c2]
      rw [hz]
      have hns : skp cs = false := by
        cases q : skp cs with
        | false => rfl
        | true =>
          refine absurd ⟨q, ?_⟩ c1
          unfold lvs
          rw [if_pos (Or.inl c2)]
      refine ⟨hT, ⟨k1, k2, ?_, hle.2, k5, k6, ?_, fun z => ?_, k9, P, k10, ?_⟩, by simp, by simp, Int.le_refl _, hr, fun _ => ho, rfl, rfl, Or.inl rfl⟩
      · show gr ≤ lnE t nx
        omega
      · show dp ≤ lnE t nx
        omega
      · have z2 : skp cs = true := z
        rw [hns] at z2
        exact absurd z2 (by decide)
      · show 9 * (cs.length : Int) ≤ P (lnE t nx)
        omega
