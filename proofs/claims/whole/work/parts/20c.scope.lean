/-! Which declarations count where. -/
section SC
variable {Y : Int → Int64} {mt : Int → Int} {n : Int}
theorem bs_dlk {y : Int64} {x : Int} : ∀ E : List Ed, (∀ d, d ∈ E → d.2.1 ≤ x) → (E.filter (fun d => decide (x < upb n mt d.2.2.1))).Pairwise (fun u v => v.2.2.1 ≤ u.2.2.1) → (bsE (ctE n mt y x) E).any (fun q => q.2.2.2.2) = dlk ((E.filter (fun d => decide (x < upb n mt d.2.2.1))).map (fun d => (d.1, d.2.2.2))) y
  | [], _, _ => rfl
  | e :: r, h, hp => by
    have h1 := h e (by simp)
    have hr : ∀ d, d ∈ r → d.2.1 ≤ x := fun d hd => h d (by simp [hd])
    by_cases c : x < upb n mt e.2.2.1
    · rw [List.filter_cons_of_pos (p := fun d : Ed => decide (x < upb n mt d.2.2.1)) (a := e) (l := r) (decide_eq_true c)] at hp ⊢
      have hp2 := List.pairwise_cons.1 hp
      have i := bs_dlk (y := y) r hr hp2.2
      rw [List.map_cons]
      show _ = (if e.1 = y then e.2.2.2 else dlk _ y)
      by_cases c2 : e.1 = y
      · rw [if_pos c2, bsE_t (decide_eq_true ⟨c2, h1, c⟩) (fun q hq => ?_)]
        · rfl
        · have key : ∀ (r : List Ed) (q : Int × Ed), bsE (ctE n mt y x) r = some q → q.2 ∈ r ∧ ctE n mt y x q.2 = true := by
            intro r
            induction r with
            | nil => intro q h; exact nns h
            | cons e r ih =>
              intro q h
              rw [bsE] at h
              by_cases z : ctE n mt y x e = true ∧ (bsE (ctE n mt y x) r).all (fun q => decide (q.2.2.2.1 ≤ e.2.2.1)) = true
              · rw [if_pos z] at h
                cases h
                exact ⟨by simp, z.1⟩
              · rw [if_neg z] at h
                have := ih q h
                exact ⟨by simp [this.1], this.2⟩
          have k := key r q hq
          have k2 := of_decide_eq_true k.2
          exact hp2.1 q.2 (List.mem_filter.2 ⟨k.1, decide_eq_true k2.2.2⟩)
      · rw [if_neg c2, bsE_f (decide_eq_false (fun z => c2 z.1)), i]
    · rw [List.filter_cons_of_neg (p := fun d : Ed => decide (x < upb n mt d.2.2.1)) (a := e) (l := r) (by rw [decide_eq_true_iff]; exact c)] at hp ⊢
      rw [bsE_f (decide_eq_false (fun z => c z.2.2)), bs_dlk r hr hp]
variable (Y mt n) in
def Ac (E : List Ed) (D : List Dcl) (a j : Int) : Prop := (∀ d, d ∈ E → d.2.1 ≤ a ∧ wk d.1 = 4) ∧ ∃ A : List Ed, (∀ x, a ≤ x → x < upb n mt j → E.filter (fun d => decide (x < upb n mt d.2.2.1)) = A) ∧ A.Pairwise (fun u v => v.2.2.1 ≤ u.2.2.1) ∧ (∀ d, d ∈ A → d.2.2.1 ≤ j) ∧ A.map (fun d => (d.1, d.2.2.2)) = D
theorem bsE_n4 {y : Int64} {x : Int} (hy : ¬ wk y = 4) : ∀ E : List Ed, (∀ d, d ∈ E → wk d.1 = 4) → bsE (ctE n mt y x) E = none
  | [], _ => rfl
  | e :: r, h => by
    rw [bsE_f (decide_eq_false (fun z => hy (by rw [← z.1]; exact h e (by simp)))), bsE_n4 hy r (fun d hd => h d (by simp [hd]))]
theorem Ac_TV {E : List Ed} {D : List Dcl} {a j : Int} (h : Ac mt n E D a j) (hu : upb n mt j ≤ n) : TV Y mt n E D a (upb n mt j) := fun x x0 x1 => by
  obtain ⟨h1, A, h2, h3, h4, h5⟩ := h
  unfold tyE
  rw [if_neg (by omega)]
  have hw := wk_1 (y := Y x)
  have e := h2 x x0 x1
  unfold isT
  by_cases c : wk (Y x) = 4
  · rw [if_pos c]
    have i := bs_dlk (n := n) (mt := mt) (x := x) (y := Y x) E (fun d hd => by have := (h1 d hd).1; omega) (by rw [e]; exact h3)
    rw [e, h5] at i
    rw [← i]
    cases z : (bsE (ctE n mt (Y x) x) E).any (fun q => q.2.2.2.2)
    · refine decide_eq_false (fun q => ?_)
      rcases q with q | q | q
      · have := hw.1 (Or.inl q); omega
      · have := hw.1 (Or.inr q); omega
      · exact Bool.noConfusion q
    · exact decide_eq_true (Or.inr (Or.inr rfl))
  · rw [if_neg c, bsE_n4 c E (fun d hd => (h1 d hd).2)]
    refine decide_eq_decide.2 ⟨fun q => ?_, fun q => ?_⟩
    · rcases q with q | q | q
      · exact hw.1 (Or.inl q)
      · exact hw.1 (Or.inr q)
      · exact Bool.noConfusion q
    · rcases hw.2 q with z | z
      · exact Or.inl z
      · exact Or.inr (Or.inl z)
theorem Ac_mono {E : List Ed} {D : List Dcl} {a b j : Int} (h : Ac mt n E D a j) (ab : a ≤ b) : Ac mt n E D b j := by
  obtain ⟨h1, A, h2, h3⟩ := h
  exact ⟨fun d hd => ⟨by have := (h1 d hd).1; omega, (h1 d hd).2⟩, A, fun x x0 x1 => h2 x (by omega) x1, h3⟩
theorem Ac_add {E : List Ed} {D : List Dcl} {a r j : Int} {y : Int64} {td : Bool} (h : Ac mt n E D a j) (ar : a ≤ r) (hy : wk y = 4) : Ac mt n ((y, r, j, td) :: E) ((y, td) :: D) r j := by
  obtain ⟨h1, A, h2, h3, h4, h5⟩ := h
  refine ⟨fun d hd => ?_, (y, r, j, td) :: A, fun x x0 x1 => ?_, List.pairwise_cons.2 ⟨fun d hd => h4 d hd, h3⟩, fun d hd => ?_, by rw [List.map_cons, h5]⟩
  · rcases List.mem_cons.1 hd with z | z
    · rw [z]; exact ⟨Int.le_refl _, hy⟩
    · exact ⟨by have := (h1 d z).1; omega, (h1 d z).2⟩
  · rw [List.filter_cons_of_pos (p := fun d : Ed => decide (x < upb n mt d.2.2.1)) (a := (y, r, j, td)) (l := E) (decide_eq_true x1), h2 x (by omega) x1]
  · rcases List.mem_cons.1 hd with z | z
    · rw [z]; exact Int.le_refl _
    · exact h4 d z
theorem Ac_in {E : List Ed} {D : List Dcl} {a j q : Int} (h : Ac mt n E D a j) (aq : a ≤ q + 1) (jq : j ≤ q) (hu : upb n mt q ≤ upb n mt j) : Ac mt n E D (q + 1) q := by
  obtain ⟨h1, A, h2, h3, h4, h5⟩ := h
  exact ⟨fun d hd => ⟨by have := (h1 d hd).1; omega, (h1 d hd).2⟩, A, fun x x0 x1 => h2 x (by omega) (by omega), h3, fun d hd => by have := h4 d hd; omega, h5⟩
variable (mt n) in
def XE (E E2 : List Ed) (a e u : Int) : Prop := ∃ F : List Ed, E2 = F ++ E ∧ (F.length : Int) ≤ e - a ∧ ∀ d, d ∈ F → upb n mt d.2.2.1 ≤ u ∧ d.2.1 ≤ e ∧ wk d.1 = 4
theorem XE_0 {E : List Ed} {a e u : Int} (h : a ≤ e) : XE mt n E E a e u := ⟨[], rfl, by rw [List.length_nil]; omega, fun d hd => absurd hd (by simp)⟩
theorem XE_t {E E1 E2 : List Ed} {a b c e u v : Int} (h1 : XE mt n E E1 a b u) (h2 : XE mt n E1 E2 c e v) (bc : b ≤ c) (ce : c ≤ e) (uv : u ≤ v) : XE mt n E E2 a e v := by
  obtain ⟨F, e1, l1, p1⟩ := h1
  obtain ⟨F2, e2, l2, p2⟩ := h2
  refine ⟨F2 ++ F, by rw [e2, e1, List.append_assoc], by rw [List.length_append]; omega, fun d hd => ?_⟩
  rcases List.mem_append.1 hd with z | z
  · exact p2 d z
  · have q := p1 d z
    exact ⟨by omega, by omega, q.2.2⟩
theorem XE_w {E E2 : List Ed} {a e u a2 e2 u2 : Int} (h : XE mt n E E2 a e u) (h1 : a2 ≤ a) (h2 : e ≤ e2) (h3 : u ≤ u2) : XE mt n E E2 a2 e2 u2 := by
  obtain ⟨F, e1, l1, p1⟩ := h
  exact ⟨F, e1, by omega, fun d hd => ⟨by have := (p1 d hd).1; omega, by have := (p1 d hd).2.1; omega, (p1 d hd).2.2⟩⟩
theorem XE_len {E E2 : List Ed} {a e u : Int} (h : XE mt n E E2 a e u) : (E2.length : Int) ≤ E.length + (e - a) := by
  obtain ⟨F, e1, l1, p1⟩ := h
  rw [e1, List.length_append]
  omega
theorem Ac_out {E E2 : List Ed} {D : List Dcl} {a i e j b : Int} (h : Ac mt n E D a j) (hx : XE mt n E E2 i e e) (ab : a ≤ b) (eb : e ≤ b) : Ac mt n E2 D b j := by
  obtain ⟨h1, A, h2, h3⟩ := h
  obtain ⟨F, e1, l1, p1⟩ := hx
  refine ⟨fun d hd => ?_, A, fun x x0 x1 => ?_, h3⟩
  · rw [e1] at hd
    rcases List.mem_append.1 hd with z | z
    · have q := p1 d z
      exact ⟨by omega, q.2.2⟩
    · exact ⟨by have := (h1 d z).1; omega, (h1 d z).2⟩
  · rw [e1, List.filter_append, h2 x (by omega) x1]
    have e2 : F.filter (fun d => decide (x < upb n mt d.2.2.1)) = [] := List.filter_eq_nil_iff.2 (fun d hd => by
      have q := p1 d hd
      rw [decide_eq_true_iff]
      omega)
    rw [e2]
    rfl
theorem wlk_bal (hM : MTP Y n mt) {i e : Int} (i0 : 0 ≤ i) (en : e ≤ n) (hb : bal Y i e) : ∀ (m : Nat) (k : Int), bal Y i k → bal Y i (wlk Y mt p3 m k e)
  | 0, k, h => h
  | m + 1, k, h => by
    by_cases c : e ≤ k
    · rw [wlk_e c]
      exact h
    · by_cases c2 : p3 (Y k) = true
      · rw [wlk_h (by omega) c2]
        exact h
      · have c2f : p3 (Y k) = false := by
          cases z : p3 (Y k)
          · rfl
          · exact absurd z c2
        have hk := h.1
        by_cases c3 : Y k = 40 ∨ Y k = 91
        · rw [wlk_b (by omega) c2f c3]
          have q := hM k (by omega) (by omega) (opb c3)
          exact wlk_bal hM i0 en hb m _ (bal_cat h (bal_br q.2.2.2.1 q.2.2.1))
        · rw [wlk_1 (by omega) c2f c3]
          have no : opn (Y k) = false := decide_eq_false (fun z => by
            rcases z with z | z | z
            · exact c3 (Or.inl z)
            · exact c3 (Or.inr z)
            · exact c2 (decide_eq_true (Or.inr (Or.inl z))))
          have nc : clo (Y k) = false := by
            cases z : clo (Y k)
            · rfl
            · exfalso
              exact c (bal_nc h hb z)
          exact wlk_bal hM i0 en hb m _ (bal_cat h (bal_1 no nc))
theorem spp_bal (hM : MTP Y n mt) {i e x q : Int} (i0 : 0 ≤ i) (en : e ≤ n) (hb : bal Y i e) (hx : bal Y i x) (hq : spp Y mt x e = q) (q0 : 0 ≤ q) : bal Y i q := by
  have b := wlk_bal hM i0 en hb 200 x hx
  rw [← hq] at q0 ⊢
  unfold spp at q0 ⊢
  by_cases c : wlk Y mt p3 200 x e < e ∧ ¬ Y (wlk Y mt p3 200 x e) = 125
  · rw [if_pos c]
    exact b
  · rw [if_neg c] at q0
    exact absurd q0 (by decide)
theorem rdr_p (hM : MTP Y n mt) : ∀ (f : Nat) (a r : Int) (M : List Nd), rdr Y mt f a r = some M → 0 ≤ a → a ≤ r → r ≤ n → Rch Y mt a r → 1 ≤ M.length ∧ (M.length : Int) ≤ r - a ∧ wk (Y (ndg M 0).2.1) = 4
  | 0, a, r, M, h, _, _, _, _ => nns h
  | f + 1, a, r, M, h, a0, ar, rn, hr => by
    rw [rdr] at h
    have sr := stN_r (Y := Y) ar
    by_cases c : r ≤ stN Y r a
    · rw [if_pos c] at h
      exact nns h
    · rw [if_neg c] at h
      generalize hs : stN Y r a = s at h sr c
      have hr2 : Rch Y mt s r := by
        have q := Rch_st hM rn (s - a).toNat a (fun j j0 j1 => stN_all (n := r) j j0 (by omega) (by omega)) a0 (by omega) hr
        rw [show a + ((s - a).toNat : Int) = s by omega] at q
        exact q
      have nx := Rch_nx hr2 (by omega)
      by_cases c2 : Y s = 40
      · rw [if_pos c2] at h
        rw [nx_b (Or.inl c2)] at nx
        have nl := Rch_le nx
        have hm := hM s (by omega) (by omega) (opb (Or.inl c2))
        obtain ⟨N1, q1, q2⟩ := bind_some h
        obtain ⟨F, q3, q4⟩ := bind_some q2
        have i := rdr_p hM f (s + 1) (mt s) N1 q1 (by omega) (by omega) (by omega) (bal_rch hM hm.2.2.2.1 (by omega) (by omega))
        have l := (rfm_len hM rn 200 (mt s + 1) F q3 (by omega) nx).1
        cases q4
        refine ⟨by rw [List.length_append, List.length_append]; omega, by rw [List.length_append, List.length_append, stR_len]; omega, ?_⟩
        rw [List.append_assoc, ndg_l (Int.le_refl 0) (by omega)]
        exact i.2.2
      · rw [if_neg c2] at h
        by_cases c3 : wk (Y s) = 4
        · rw [if_pos c3] at h
          have nb := wk_nb (y := Y s) (Or.inl c3)
          rw [nx_p (fun z => by rcases z with z | z; exact nb.2.2.2.2.1 z; exact nb.2.2.2.2.2 z)] at nx
          have nl := Rch_le nx
          obtain ⟨F, q3, q4⟩ := bind_some h
          have l := (rfm_len hM rn 200 (s + 1) F q3 (by omega) nx).1
          cases q4
          exact ⟨by rw [List.length_append, List.length_append]; show 1 ≤ 1 + _ + _; omega, by rw [List.length_append, List.length_append, stR_len]; show ((1 + _ + _ : Nat) : Int) ≤ _; omega, c3⟩
        · rw [if_neg c3] at h
          exact nns h
end SC
