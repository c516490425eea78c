/-! The macros of the reference; pasting. -/
theorem fi_le {p : Int → Bool} {n k : Int} (hk : k < n) (hp : p k = true) : ∀ (m : Nat) (i : Int), (n - i).toNat = m → i ≤ k → fi p n i ≤ k
  | 0, i, hm, h => by omega
  | m + 1, i, hm, h => by
    by_cases q : p i = true
    · rw [fi_stop (by omega) q]
      exact h
    · rw [fi_next (by omega) (by simpa using q)]
      have : ¬ i = k := fun z => q (by rw [z]; exact hp)
      exact fi_le hk hp m (i + 1) (by omega) (by omega)
theorem mg_nat {T : List Mac} {k : Int} (h : 0 ≤ k) : nmT T k.toNat = (mg T k).1 := rfl
theorem fnd_eq {T : List Mac} (hT : tabok T) {x : Int64} {k : Int} (h0 : 0 ≤ k) (h1 : k < T.length) (hx : (mg T k).1 = x) : fnd T x = k := by
  have hl : fnx T x ≤ k := fi_le h1 (decide_eq_true hx) _ 0 rfl h0
  have hr := fnx_r T x
  have e : fnd T x = fnx T x := by unfold fnd; rw [if_pos (by omega)]
  have ha := fnd_at (T := T) (x := x) (by omega)
  rw [e] at ha ⊢
  have := hT.2 (fnx T x).toNat k.toNat (by omega) (by omega) (by rw [mg_nat hr.1, mg_nat h0, ha, hx])
  omega
def rtk (e : Mac) : Int := if e.2.1 = true then (e.2.2.1.length : Int) else -1
def rmac (S : w_S) (m : Int) (e : Mac) : Prop := sL S 262 m = e.1 ∧ sA S 263 m = rtk e ∧ sA S 266 m = e.2.2.2.length ∧ (∀ j : Int, 0 ≤ j → j < e.2.2.1.length → sL S 264 (3 * m + j) = lg e.2.2.1 j) ∧ (∀ j : Int, 0 ≤ j → j < e.2.2.2.length → sL S 265 (12 * m + j) = lg e.2.2.2 j)
def rtab (S : w_S) (sg : Nat → Nat) (T : List Mac) : Prop := T.length ≤ 8 ∧ (∀ k, k < T.length → sg k < 8) ∧ (∀ j k, j < T.length → k < T.length → sg j = sg k → j = k) ∧ (∀ k : Int, 0 ≤ k → k < T.length → rmac S (sg k.toNat) (mg T k) ∧ mok (mg T k)) ∧ (∀ m : Nat, m < 8 → (∀ k, k < T.length → ¬ sg k = m) → sL S 262 m = 0)
def rfn (T : List Mac) (sg : Nat → Nat) (x : Int64) : Int := if fnd T x < 0 then -1 else sg (fnd T x).toNat
def nmR (S : w_S) (m : Nat) : Int64 := sL S 262 m
theorem rfn_r {S : w_S} {sg : Nat → Nat} {T : List Mac} (h : rtab S sg T) (x : Int64) : rfn T sg x = -1 ∨ (0 ≤ rfn T sg x ∧ rfn T sg x < 8) := by
  unfold rfn
  have hf := fnd_r T x
  split
  · exact Or.inl rfl
  · have := h.2.1 (fnd T x).toNat (by omega)
    right
    omega
theorem r_find_c {sc : x_S} {d : Nat} {S : w_S} {sg : Nat → Nat} {T : List Mac} {x : Int64} (hT : tabok T) (ht : rtab S sg T) (hx : ¬ x = 0) (hd : 0 ≤ d) : ∀ n : Nat, (∀ (i : Int) (lv : x_L) (l0 : lv 0 = some (.ref 249)) (l1 : lv 1 = some (.long x)) (l3 : lv 3 = some (.int (iZ i))) (i0 : 0 ≤ i) (i1 : i ≤ 8) (ie : ∀ j : Int, 0 ≤ j → j < i → ¬ sL S 262 j = x) (hm : (8 - i).toNat < n), w_T sc d 133 2 lv [] S (fun v S2 => v = some (.int (iZ (rfn T sg x))) ∧ S2 = S)) := by
  intro n
  induction n with
  | zero => exact fun i lv l0 l1 l3 i0 i1 ie hm => absurd hm (Nat.not_lt_zero _)
  | succ n ih =>
    intro i lv l0 l1 l3 i0 i1 ie hm
    refine w_iload_n rfl l3 rfl ?_
    refine w_bipush rfl (by decide) rfl ?_
    refine w_ic_ge (pc2 := 33) (pc3 := 8) rfl (by decide) rfl ⟨by omega, by omega⟩ ⟨by decide, by decide⟩ (fun c5 => ?_) (fun c5 => ?_)
    · skip
      refine w_iconst rfl rfl ?_
      refine w_iret rfl rfl ?_
      refine q_i ?_
      unfold rfn
      have hf := fnd_r T x
      by_cases q : fnd T x < 0
      · rw [if_pos q]
      · have h1 := (ht.2.2.2.1 (fnd T x) (by omega) (by omega)).1.1
        have h3 := ht.2.1 (fnd T x).toNat (by omega)
        rw [fnd_at (by omega)] at h1
        exact absurd h1 (ie _ (by omega) (by omega))
    · skip
      refine w_lload_n rfl l1 rfl ?_
      refine w_lconst (v := 0) rfl (by decide) rfl ?_
      refine w_l_eq (pc2 := 27) (pc3 := 14) rfl rfl (by decide) rfl (fun c11 => ?_) (fun c11 => ?_)
      · exact absurd c11 hx
      · skip
        refine w_aload_n rfl l0 rfl ?_
        refine w_getR rfl rfl sh_249 rfl rfl ?_
        refine w_iload_n rfl l3 rfl ?_
        refine w_lald (z := sL S 262 i) rfl sh_262 (by omega) (by omega) (by decide) rfl rfl ?_
        refine w_lload_n rfl l1 rfl ?_
        refine w_l_ne (pc2 := 27) (pc3 := 25) rfl rfl (by decide) rfl (fun c22 => ?_) (fun c22 => ?_)
        · skip
          refine w_iinc rfl l3 (by decide) rfl ?_
          refine w_goto (pc2 := 2) rfl (by decide) ?_
          exact ih (i + 1) _ l0 l1 rfl (by omega) (by omega) (by intro j a b; by_cases e : j = i; (rw [e]; exact c22); (exact ie j a (by omega))) (by omega)
        · skip
          refine w_iload_n rfl l3 rfl ?_
          refine w_iret rfl rfl ?_
          refine q_i ?_
          by_cases q : ∃ k, k < T.length ∧ sg k = i.toNat
          · obtain ⟨k, hk, hs⟩ := q
            have h1 := (ht.2.2.2.1 (k : Int) (by omega) (by omega)).1.1
            rw [Int.toNat_natCast, hs, Int.toNat_of_nonneg i0, c22] at h1
            have h2 := fnd_eq hT (x := x) (k := (k : Int)) (by omega) (by omega) h1.symm
            unfold rfn
            rw [h2, if_neg (by omega), Int.toNat_natCast, hs]
            omega
          · have h1 := ht.2.2.2.2 i.toNat (by omega) (fun k hk hs => q ⟨k, hk, hs⟩)
            rw [Int.toNat_of_nonneg i0, c22] at h1
            exact absurd h1 hx
theorem r_find {sc : x_S} {d : Nat} {S : w_S} {sg : Nat → Nat} {T : List Mac} {x : Int64} (hT : tabok T) (ht : rtab S sg T) (hx : ¬ x = 0) (hd : 0 ≤ d) : w_T sc d 133 0 (x_en 0 [.ref 249, .long x]) [] S (fun v S2 => v = some (.int (iZ (rfn T sg x))) ∧ S2 = S) := by
  refine w_iconst rfl rfl ?_
  refine w_istore_n rfl (by decide) rfl ?_
  exact (r_find_c hT ht hx hd _) 0 _ rfl rfl rfl (by omega) (by omega) (by intro j a b; omega) (Nat.lt_succ_self _)
theorem r_which_c {sc : x_S} {d : Nat} {S : w_S} {m : Int} {e : Mac} {x : Int64} (m0 : 0 ≤ m) (m8 : m < 8) (hk : rmac S m e) (ho : mok e) (hd : 0 ≤ d) : ∀ n : Nat, (∀ (i : Int) (lv : x_L) (l0 : lv 0 = some (.ref 249)) (l1 : lv 1 = some (.int (iZ m))) (l2 : lv 2 = some (.long x)) (l4 : lv 4 = some (.int (iZ i))) (i0 : 0 ≤ i) (i1 : i ≤ e.2.2.1.length) (ie : lfx e.2.2.1 x = fi (fun k => decide (lg e.2.2.1 k = x)) e.2.2.1.length i) (hm : (e.2.2.1.length - i).toNat < n), w_T sc d 142 3 lv [] S (fun v S2 => v = some (.int (iZ (lix e.2.2.1 x))) ∧ S2 = S)) := by
  intro n
  induction n with
  | zero => exact fun i lv l0 l1 l2 l4 i0 i1 ie hm => absurd hm (Nat.not_lt_zero _)
  | succ n ih =>
    intro i lv l0 l1 l2 l4 i0 i1 ie hm
    have h3 := ho.1
    have htk : sA S 263 m = rtk e := hk.2.1
    have hr : sA S 263 m = e.2.2.1.length ∨ (sA S 263 m = -1 ∧ e.2.2.1.length = 0) := by
      rw [htk]
      unfold rtk
      split
      · exact Or.inl rfl
      · rename_i q
        exact Or.inr ⟨rfl, by rw [ho.2.2.1 (by simpa using q)]; rfl⟩
    refine w_iload rfl l4 rfl ?_
    refine w_aload_n rfl l0 rfl ?_
    refine w_getR rfl rfl sh_249 rfl rfl ?_
    refine w_iload_n rfl l1 rfl ?_
    refine w_iald (z := sA S 263 m) rfl sh_263 (by omega) (by omega) (by decide) rfl rfl ?_
    refine w_ic_ge (pc2 := 39) (pc3 := 14) rfl (by decide) rfl ⟨by omega, by omega⟩ ⟨by omega, by omega⟩ (fun c11 => ?_) (fun c11 => ?_)
    · skip
      refine w_iconst rfl rfl ?_
      refine w_iret rfl rfl ?_
      have q : lfx e.2.2.1 x = i := by rw [ie]; exact fi_end (by omega)
      exact q_i (by unfold lix; rw [if_neg (by omega)])
    · skip
      refine w_aload_n rfl l0 rfl ?_
      refine w_getR rfl rfl sh_249 rfl rfl ?_
      refine w_iconst rfl rfl ?_
      refine w_iload_n rfl l1 rfl ?_
      refine w_imul rfl rfl ?_
      refine w_iload rfl l4 rfl ?_
      refine w_iadd rfl rfl ?_
      refine w_lald (z := sL S 264 ((3 * m) + i)) rfl sh_264 (by omega) (by omega) (by decide) rfl rfl ?_
      refine w_lload_n rfl l2 rfl ?_
      refine w_l_ne (pc2 := 33) (pc3 := 30) rfl rfl (by decide) rfl (fun c27 => ?_) (fun c27 => ?_)
      · skip
        refine w_iinc rfl l4 (by decide) rfl ?_
        refine w_goto (pc2 := 3) rfl (by decide) ?_
        exact ih (i + 1) _ l0 l1 l2 rfl (by omega) (by omega) (by rw [ie]; exact fi_next (by omega) (decide_eq_false (fun z => c27 (by rw [hk.2.2.2.1 i i0 (by omega)]; exact z)))) (by omega)
      · skip
        refine w_iload rfl l4 rfl ?_
        refine w_iret rfl rfl ?_
        have q : lfx e.2.2.1 x = i := by rw [ie]; exact fi_stop (by omega) (decide_eq_true (by rw [← hk.2.2.2.1 i i0 (by omega)]; exact c27))
        exact q_i (by unfold lix; rw [if_pos (by omega), q])
theorem r_which {sc : x_S} {d : Nat} {S : w_S} {m : Int} {e : Mac} {x : Int64} (m0 : 0 ≤ m) (m8 : m < 8) (hk : rmac S m e) (ho : mok e) (hd : 0 ≤ d) : w_T sc d 142 0 (x_en 0 [.ref 249, .int (iZ m), .long x]) [] S (fun v S2 => v = some (.int (iZ (lix e.2.2.1 x))) ∧ S2 = S) := by
  have h3 := ho.1
  refine w_iconst rfl rfl ?_
  refine w_istore rfl (by decide) rfl ?_
  exact (r_which_c m0 m8 hk ho hd _) 0 _ rfl rfl rfl rfl (by omega) (by omega) (by rfl) (Nat.lt_succ_self _)
theorem r_lay {sc : x_S} {d : Nat} {S : w_S} {x : Int64} {z : Int} (h0 : 0 ≤ sv S 249 29) (h1 : sv S 249 29 < 1361) (hd : 0 ≤ d) : w_T sc d 137 0 (x_en 0 [.ref 249, .long x, .int (iZ z)]) [] S (fun v S2 => v = none ∧ S2 = w_v (w_A (w_L S 269 (w_u (sL S 269) (sv S 249 29) x)) 270 (w_u (sA S 270) (sv S 249 29) z)) 249 29 (sv S 249 29 + 1)) := by
  refine w_aload_n rfl rfl rfl ?_
  refine w_getR rfl rfl sh_249 rfl rfl ?_
  refine w_aload_n rfl rfl rfl ?_
  refine w_getI (z := sv S 249 29) rfl rfl sh_249 rfl rfl rfl ?_
  refine w_lload_n rfl rfl rfl ?_
  refine w_laS (f := sL S 269) rfl sh_269 (by omega) (by omega) (by decide) rfl rfl ?_
  refine w_aload_n rfl rfl rfl ?_
  refine w_getR rfl rfl sh_249 rfl rfl ?_
  refine w_aload_n rfl rfl rfl ?_
  refine w_getI (z := sv S 249 29) rfl rfl sh_249 rfl rfl rfl ?_
  refine w_iload_n rfl rfl rfl ?_
  refine w_iaS (f := sA S 270) rfl sh_270 (by omega) (by omega) (by decide) rfl rfl ?_
  refine w_aload_n rfl rfl rfl ?_
  refine w_dup rfl rfl rfl ?_
  refine w_getI (z := sv S 249 29) rfl rfl sh_249 rfl rfl rfl ?_
  refine w_iconst rfl rfl ?_
  refine w_iadd rfl rfl ?_
  refine w_putf rfl rfl sh_249 rfl rfl (by decide) rfl ?_
  refine w_vret rfl rfl ?_
  exact ⟨rfl, rfl⟩
