/-! Bodies and parameters; joining two tokens (class). -/
def pas (B : List Int64) (i : Int) : Bool := decide (0 ≤ i ∧ i < B.length ∧ lg B i = 4515)
def lfx (l : List Int64) (x : Int64) : Int := fi (fun k => decide (lg l k = x)) l.length 0
def lix (l : List Int64) (x : Int64) : Int := if lfx l x < l.length then lfx l x else -1
theorem lix_r (l : List Int64) (x : Int64) : lix l x = -1 ∨ (0 ≤ lix l x ∧ lix l x < l.length) := by
  unfold lix
  have : 0 ≤ lfx l x ∧ lfx l x ≤ l.length := fi_r (by omega)
  split
  · right; omega
  · exact Or.inl rfl
def jto (a b : Int64) : Bool := (wdl (a.toInt % 128) && wdl (b.toInt % 128)) || decide (a = b ∧ (a = 35 ∨ a = 61))
def jt (a b : Int64) : Option Int64 := if jto a b = true ∧ wl a + wl b ≤ 9 then some (lshl a (7 * wl b) + b) else none
section JT
variable {a b : Int64}
theorem jt_no (c : (((wdl (a.toInt % 128)) = true ∧ (wdl (b.toInt % 128)) = true) ∧ 9 < wl a + wl b) ∨ ((¬ ((wdl (a.toInt % 128)) = true ∧ (wdl (b.toInt % 128)) = true)) ∧ ((¬ (a = b ∧ (a = 35 ∨ a = 61))) ∨ 9 < wl a + wl b))) : jt a b = none := by
  unfold jt jto
  simp only [Bool.or_eq_true, Bool.and_eq_true, decide_eq_true_eq]
  rw [if_neg]
  rintro ⟨h1, h2⟩
  rcases c with c | c
  · omega
  · rcases h1 with h | h
    · exact c.1 h
    · rcases c.2 with q | q
      · exact q h
      · omega
theorem jt_yes (c : ¬ ((((wdl (a.toInt % 128)) = true ∧ (wdl (b.toInt % 128)) = true) ∧ 9 < wl a + wl b) ∨ ((¬ ((wdl (a.toInt % 128)) = true ∧ (wdl (b.toInt % 128)) = true)) ∧ ((¬ (a = b ∧ (a = 35 ∨ a = 61))) ∨ 9 < wl a + wl b)))) : jt a b = some (lshl a (7 * wl b) + b) := by
  unfold jt jto
  simp only [Bool.or_eq_true, Bool.and_eq_true, decide_eq_true_eq]
  by_cases h : (wdl (a.toInt % 128)) = true ∧ (wdl (b.toInt % 128)) = true
  · rw [if_pos ⟨Or.inl h, Int.not_lt.mp (fun z => c (Or.inl ⟨h, z⟩))⟩]
  · by_cases k : a = b ∧ (a = 35 ∨ a = 61)
    · rw [if_pos ⟨Or.inr k, Int.not_lt.mp (fun z => c (Or.inr ⟨h, Or.inr z⟩))⟩]
    · exact absurd (Or.inr ⟨h, Or.inl k⟩) c
end JT
theorem c_pas {sc : x_S} {d : Nat} {S : w_S} {u : Nat} {e : Mac} {i : Int} (hu : u < 8) (hk : cmac S u e) (ho : mok e) (i0 : -1 ≤ i) (i1 : i ≤ 13) (hd : 0 ≤ d) : w_T sc d 31 0 (x_en 0 [.ref (6 + 3 * u), .int (iZ i)]) [] S (fun v S2 => v = some (.int (iZ (zB (pas e.2.2.2 i)))) ∧ S2 = S) := by
  have hz := hk.2.2.2.1
  have h12 := ho.2.1
  refine w_iload_n rfl rfl rfl ?_
  apply w_jn (A := w_T _ _ 31 30 _ [.int (iZ (zB (decide (0 ≤ i ∧ (i < (sv S (6 + 3 * u) 4) ∧ (sL S (8 + 3 * u) i) = 4515)))))] _ _)
  · intro kT
    refine w_if_lt (pc2 := 29) (pc3 := 4) rfl (by decide) rfl ⟨by omega, by omega⟩ (fun q1 => ?_) (fun q1 => ?_)
    · skip
      refine w_iconst rfl rfl ?_
      exact w_j0 (p := 0 ≤ i ∧ (i < (sv S (6 + 3 * u) 4) ∧ (sL S (8 + 3 * u) i) = 4515)) (fun q => (Int.not_le.mpr q1) q.1) kT
    · skip
      refine w_iload_n rfl rfl rfl ?_
      refine w_aload_n rfl rfl rfl ?_
      refine w_getI (z := sv S (6 + 3 * u) 4) rfl rfl (sh_mac hu) rfl rfl rfl ?_
      refine w_ic_ge (pc2 := 29) (pc3 := 12) rfl (by decide) rfl ⟨by omega, by omega⟩ ⟨by omega, by omega⟩ (fun q2 => ?_) (fun q2 => ?_)
      · skip
        refine w_iconst rfl rfl ?_
        exact w_j0 (p := 0 ≤ i ∧ (i < (sv S (6 + 3 * u) 4) ∧ (sL S (8 + 3 * u) i) = 4515)) (fun q => (fun q => (Int.not_lt.mpr q2) q.1) q.2) kT
      · skip
        refine w_aload_n rfl rfl rfl ?_
        refine w_getR rfl rfl (sh_mac hu) rfl rfl ?_
        refine w_iload_n rfl rfl rfl ?_
        refine w_lald (z := sL S (8 + 3 * u) i) rfl (sh_mac2 hu) (by omega) (by omega) (by decide) rfl rfl ?_
        refine w_ldc2 (v := 4515) rfl rfl rfl ?_
        refine w_l_ne (pc2 := 29) (pc3 := 25) rfl rfl (by decide) rfl (fun q3 => ?_) (fun q3 => ?_)
        · skip
          refine w_iconst rfl rfl ?_
          exact w_j0 (p := 0 ≤ i ∧ (i < (sv S (6 + 3 * u) 4) ∧ (sL S (8 + 3 * u) i) = 4515)) (fun q => (fun q => q3 q.2) q.2) kT
        · skip
          refine w_iconst rfl rfl ?_
          refine w_goto (pc2 := 30) rfl (by decide) ?_
          exact w_j1 (p := 0 ≤ i ∧ (i < (sv S (6 + 3 * u) 4) ∧ (sL S (8 + 3 * u) i) = 4515)) ⟨q1, ⟨q2, q3⟩⟩ kT
  · show w_T _ _ 31 30 _ [.int (iZ (zB (decide (0 ≤ i ∧ (i < (sv S (6 + 3 * u) 4) ∧ (sL S (8 + 3 * u) i) = 4515)))))] _ _
    refine w_bret rfl rfl ?_
    exact q_b (decide_eq_decide.mpr (by
      constructor
      · intro z
        exact ⟨z.1, by omega, by rw [← hk.2.2.2.2.2 i z.1 (by omega)]; exact z.2.2⟩
      · intro z
        exact ⟨z.1, by omega, by rw [hk.2.2.2.2.2 i z.1 z.2.1]; exact z.2.2⟩))
theorem c_par_c {sc : x_S} {d : Nat} {S : w_S} {u : Nat} {e : Mac} {i : Int} (hu : u < 8) (hk : cmac S u e) (ho : mok e) (i0 : 0 ≤ i) (i1 : i < e.2.2.2.length) (hd : 0 ≤ d) : ∀ n : Nat, (∀ (p : Int) (lv : x_L) (l0 : lv 0 = some (.ref (6 + 3 * u))) (l1 : lv 1 = some (.int (iZ i))) (l2 : lv 2 = some (.int (iZ p))) (p0 : 0 ≤ p) (p1 : p ≤ e.2.2.1.length) (pe : lfx e.2.2.1 (lg e.2.2.2 i) = fi (fun k => decide (lg e.2.2.1 k = lg e.2.2.2 i)) e.2.2.1.length p) (hm : (e.2.2.1.length - p).toNat < n), w_T sc d 32 2 lv [] S (fun v S2 => v = some (.int (iZ (lix e.2.2.1 (lg e.2.2.2 i)))) ∧ S2 = S)) := by
  intro n
  induction n with
  | zero => exact fun p lv l0 l1 l2 p0 p1 pe hm => absurd hm (Nat.not_lt_zero _)
  | succ n ih =>
    intro p lv l0 l1 l2 p0 p1 pe hm
    have hz := hk.2.2.1
    have h3 := ho.1
    have h12 := ho.2.1
    refine w_iload_n rfl l2 rfl ?_
    refine w_aload_n rfl l0 rfl ?_
    refine w_getI (z := sv S (6 + 3 * u) 2) rfl rfl (sh_mac hu) rfl rfl rfl ?_
    refine w_ic_ge (pc2 := 34) (pc3 := 10) rfl (by decide) rfl ⟨by omega, by omega⟩ ⟨by omega, by omega⟩ (fun c7 => ?_) (fun c7 => ?_)
    · skip
      refine w_iconst rfl rfl ?_
      refine w_iret rfl rfl ?_
      have q : lfx e.2.2.1 (lg e.2.2.2 i) = p := by rw [pe]; exact fi_end (by omega)
      exact q_i (by unfold lix; rw [if_neg (by omega)])
    · skip
      refine w_aload_n rfl l0 rfl ?_
      refine w_getR rfl rfl (sh_mac hu) rfl rfl ?_
      refine w_iload_n rfl l2 rfl ?_
      refine w_lald (z := sL S (7 + 3 * u) p) rfl (sh_mac1 hu) (by omega) (by omega) (by decide) rfl rfl ?_
      refine w_aload_n rfl l0 rfl ?_
      refine w_getR rfl rfl (sh_mac hu) rfl rfl ?_
      refine w_iload_n rfl l1 rfl ?_
      refine w_lald (z := sL S (8 + 3 * u) i) rfl (sh_mac2 hu) (by omega) (by omega) (by decide) rfl rfl ?_
      refine w_l_ne (pc2 := 28) (pc3 := 26) rfl rfl (by decide) rfl (fun c23 => ?_) (fun c23 => ?_)
      · skip
        refine w_iinc rfl l2 (by decide) rfl ?_
        refine w_goto (pc2 := 2) rfl (by decide) ?_
        exact ih (p + 1) _ (by exact l0) (by exact (congrArg x_k2 l1)) (by exact rfl) (by omega) (by omega) (by rw [pe]; exact fi_next (by omega) (decide_eq_false (fun z => c23 (by rw [hk.2.2.2.2.1 p p0 (by omega), hk.2.2.2.2.2 i i0 i1]; exact z)))) (by omega)
      · skip
        refine w_iload_n rfl l2 rfl ?_
        refine w_iret rfl rfl ?_
        have q : lfx e.2.2.1 (lg e.2.2.2 i) = p := by rw [pe]; exact fi_stop (by omega) (decide_eq_true (by rw [← hk.2.2.2.2.1 p p0 (by omega), ← hk.2.2.2.2.2 i i0 i1]; exact c23))
        exact q_i (by unfold lix; rw [if_pos (by omega), q])
theorem c_par {sc : x_S} {d : Nat} {S : w_S} {u : Nat} {e : Mac} {i : Int} (hu : u < 8) (hk : cmac S u e) (ho : mok e) (i0 : 0 ≤ i) (i1 : i < e.2.2.2.length) (hd : 0 ≤ d) : w_T sc d 32 0 (x_en 0 [.ref (6 + 3 * u), .int (iZ i)]) [] S (fun v S2 => v = some (.int (iZ (lix e.2.2.1 (lg e.2.2.2 i)))) ∧ S2 = S) := by
  refine w_iconst rfl rfl ?_
  refine w_istore_n rfl (by decide) rfl ?_
  exact (c_par_c hu hk ho i0 i1 hd _) 0 _ rfl rfl rfl (by omega) (by omega) (by rfl) (Nat.lt_succ_self _)
theorem c_aad {sc : x_S} {d : Nat} {S : w_S} {q : Nat} {x y : Int} (hq : q < 31) (h0 : 0 ≤ sv S (43 + 5 * q) 4) (h1 : sv S (43 + 5 * q) 4 ≤ 2000) (hd : 0 ≤ d) : w_T sc d 18 0 (x_en 0 [.ref (43 + 5 * q), .int (iZ x), .int (iZ y)]) [] S (fun v S2 => v = none ∧ fr (fun a => 43 + 5 * q ≤ a ∧ a ≤ 45 + 5 * q) S S2 ∧ sv S2 (43 + 5 * q) 4 = sv S (43 + 5 * q) 4 + 1 ∧ sv S2 (43 + 5 * q) 5 = sv S (43 + 5 * q) 5 ∧ (∀ k, ¬ k = sv S (43 + 5 * q) 4 → sA S2 (44 + 5 * q) k = sA S (44 + 5 * q) k ∧ sA S2 (45 + 5 * q) k = sA S (45 + 5 * q) k) ∧ (sv S (43 + 5 * q) 4 < 3 → sA S2 (44 + 5 * q) (sv S (43 + 5 * q) 4) = x ∧ sA S2 (45 + 5 * q) (sv S (43 + 5 * q) 4) = y)) := by
  refine w_aload_n rfl rfl rfl ?_
  refine w_getI (z := sv S (43 + 5 * q) 4) rfl rfl (sh_arg hq) rfl rfl rfl ?_
  refine w_iconst rfl rfl ?_
  refine w_ic_ge (pc2 := 28) (pc3 := 8) rfl (by decide) rfl ⟨by omega, by omega⟩ ⟨by decide, by decide⟩ (fun c5 => ?_) (fun c5 => ?_)
  · skip
    refine w_aload_n rfl rfl rfl ?_
    refine w_dup rfl rfl rfl ?_
    refine w_getI (z := sv S (43 + 5 * q) 4) rfl rfl (sh_arg hq) rfl rfl rfl ?_
    refine w_iconst rfl rfl ?_
    refine w_iadd rfl rfl ?_
    refine w_putf rfl rfl (sh_arg hq) rfl rfl (by decide) rfl ?_
    refine w_vret rfl rfl ?_
    refine ⟨rfl, (fr_v (fr_refl _ _) (by omega)), ?_, ?_, ?_, ?_⟩
    · simp (disch := omega) only [rv_self, rv_ne, rl_self, rl_ne, rA_self, rA_ne, rL_self, rL_ne, rR_self, rR_ne, xvl, xvA, xvL, xvR, xlv, xlA, xlL, xlR, xAv, xAl, xAL, xAR, xLv, xLl, xLA, xLR, xRv, xRl, xRA, xRL]
    · simp (disch := omega) only [rv_self, rv_ne, rl_self, rl_ne, rA_self, rA_ne, rL_self, rL_ne, rR_self, rR_ne, xvl, xvA, xvL, xvR, xlv, xlA, xlL, xlR, xAv, xAl, xAL, xAR, xLv, xLl, xLA, xLR, xRv, xRl, xRA, xRL]
    · intro k hk
      exact ⟨by simp (disch := omega) only [rv_self, rv_ne, rl_self, rl_ne, rA_self, rA_ne, rL_self, rL_ne, rR_self, rR_ne, xvl, xvA, xvL, xvR, xlv, xlA, xlL, xlR, xAv, xAl, xAL, xAR, xLv, xLl, xLA, xLR, xRv, xRl, xRA, xRL], by simp (disch := omega) only [rv_self, rv_ne, rl_self, rl_ne, rA_self, rA_ne, rL_self, rL_ne, rR_self, rR_ne, xvl, xvA, xvL, xvR, xlv, xlA, xlL, xlR, xAv, xAl, xAL, xAR, xLv, xLl, xLA, xLR, xRv, xRl, xRA, xRL]⟩
    · intro z
      omega
  · skip
    refine w_aload_n rfl rfl rfl ?_
    refine w_getR rfl rfl (sh_arg hq) rfl rfl ?_
    refine w_aload_n rfl rfl rfl ?_
    refine w_getI (z := sv S (43 + 5 * q) 4) rfl rfl (sh_arg hq) rfl rfl rfl ?_
    refine w_iload_n rfl rfl rfl ?_
    refine w_iaS (f := sA S (44 + 5 * q)) rfl (sh_arg1 hq) (by omega) (by omega) (by decide) rfl rfl ?_
    refine w_aload_n rfl rfl rfl ?_
    refine w_getR rfl rfl (sh_arg hq) rfl rfl ?_
    refine w_aload_n rfl rfl rfl ?_
    refine w_getI (z := sv S (43 + 5 * q) 4) rfl rfl (sh_arg hq) rfl rfl rfl ?_
    refine w_iload_n rfl rfl rfl ?_
    refine w_iaS (f := sA S (45 + 5 * q)) rfl (sh_arg2 hq) (by omega) (by omega) (by decide) (rA_ne (by omega)) rfl ?_
    refine w_aload_n rfl rfl rfl ?_
    refine w_dup rfl rfl rfl ?_
    refine w_getI (z := sv S (43 + 5 * q) 4) rfl rfl (sh_arg hq) rfl rfl rfl ?_
    refine w_iconst rfl rfl ?_
    refine w_iadd rfl rfl ?_
    refine w_putf rfl rfl (sh_arg hq) rfl rfl (by decide) rfl ?_
    refine w_vret rfl rfl ?_
    refine ⟨rfl, (fr_v (fr_A (fr_A (fr_refl _ _) (by omega)) (by omega)) (by omega)), ?_, ?_, ?_, ?_⟩
    · simp (disch := omega) only [rv_self, rv_ne, rl_self, rl_ne, rA_self, rA_ne, rL_self, rL_ne, rR_self, rR_ne, xvl, xvA, xvL, xvR, xlv, xlA, xlL, xlR, xAv, xAl, xAL, xAR, xLv, xLl, xLA, xLR, xRv, xRl, xRA, xRL]
    · simp (disch := omega) only [rv_self, rv_ne, rl_self, rl_ne, rA_self, rA_ne, rL_self, rL_ne, rR_self, rR_ne, xvl, xvA, xvL, xvR, xlv, xlA, xlL, xlR, xAv, xAl, xAL, xAR, xLv, xLl, xLA, xLR, xRv, xRl, xRA, xRL]
    · intro k hk
      simp (disch := omega) only [rv_self, rv_ne, rl_self, rl_ne, rA_self, rA_ne, rL_self, rL_ne, rR_self, rR_ne, xvl, xvA, xvL, xvR, xlv, xlA, xlL, xlR, xAv, xAl, xAL, xAR, xLv, xLl, xLA, xLR, xRv, xRl, xRA, xRL]
      exact ⟨w_u_ne _ _ hk, w_u_ne _ _ hk⟩
    · intro _
      simp (disch := omega) only [rv_self, rv_ne, rl_self, rl_ne, rA_self, rA_ne, rL_self, rL_ne, rR_self, rR_ne, xvl, xvA, xvL, xvR, xlv, xlA, xlL, xlR, xAv, xAl, xAL, xAR, xLv, xLl, xLA, xLR, xRv, xRl, xRA, xRL]
      exact ⟨w_u_self _ _ _, w_u_self _ _ _⟩
theorem c_jat {sc : x_S} {d : Nat} {S : w_S} {i p : Int} (i0 : 1 ≤ i) (i1 : i < sv S 39 2) (h1 : sv S 39 2 ≤ 480) (hx : 0 < (sL S 40 (i - 1)).toInt) (hy : 0 < (sL S 40 i).toInt) (z0 : 0 ≤ sA S 41 (i - 1)) (z1 : sA S 41 (i - 1) < 2147483648) (y0 : 0 ≤ sA S 41 i) (y1 : sA S 41 i < 2147483648) (hd : 1 ≤ d) : w_T sc d 100 0 (x_en 0 [.ref 39, .int (iZ i), .int (iZ p)]) [] S (fun v S2 => match jt (sL S 40 (i - 1)) (sL S 40 i) with | none => v = some (.int (iZ 0)) ∧ S2 = S | some x => v = some (.int (iZ 1)) ∧ fr (fun a => a = 39 ∨ a = 40 ∨ a = 41) S S2 ∧ sv S2 39 2 = sv S 39 2 - 1 ∧ sL S2 40 = w_cp (w_u (sL S 40) (i - 1) x) (w_u (sL S 40) (i - 1) x) (i + 1) i (sv S 39 2 - i - 1) ∧ sA S2 41 = w_cp (w_u (sA S 41) (i - 1) (p * 256 + zand (sA S 41 (i - 1) % 256) (sA S 41 i % 256))) (w_u (sA S 41) (i - 1) (p * 256 + zand (sA S 41 (i - 1) % 256) (sA S 41 i % 256))) (i + 1) i (sv S 39 2 - i - 1)) := by
  have w1 := wl_9 (sL S 40 (i - 1))
  have w2 := wl_9 (sL S 40 i)
  have w3 := wl_0 (sL S 40 (i - 1))
  have w4 := wl_0 (sL S 40 i)
  refine w_iload_n rfl rfl rfl ?_
  refine w_iconst rfl rfl ?_
  refine w_ic_lt (pc2 := 13) (pc3 := 5) rfl (by decide) rfl ⟨by omega, by omega⟩ ⟨by decide, by decide⟩ (fun c2 => ?_) (fun c2 => ?_)
  · omega
  · skip
    refine w_iload_n rfl rfl rfl ?_
    refine w_aload_n rfl rfl rfl ?_
    refine w_getI (z := sv S 39 2) rfl rfl sh_39 rfl rfl rfl ?_
    refine w_ic_lt (pc2 := 15) (pc3 := 13) rfl (by decide) rfl ⟨by omega, by omega⟩ ⟨by omega, by omega⟩ (fun c10 => ?_) (fun c10 => ?_)
    · skip
      refine w_aload_n rfl rfl rfl ?_
      refine w_getR rfl rfl sh_39 rfl rfl ?_
      refine w_iload_n rfl rfl rfl ?_
      refine w_iconst rfl rfl ?_
      refine w_isub rfl rfl ?_
      refine w_lald (z := sL S 40 (i - 1)) rfl sh_40 (by omega) (by omega) (by decide) rfl rfl ?_
      refine w_lstore_n rfl (by decide) rfl ?_
      refine w_aload_n rfl rfl rfl ?_
      refine w_getR rfl rfl sh_39 rfl rfl ?_
      refine w_iload_n rfl rfl rfl ?_
      refine w_lald (z := sL S 40 i) rfl sh_40 (by omega) (by omega) (by decide) rfl rfl ?_
      refine w_lstore rfl (by decide) rfl ?_
      refine w_lload_n rfl rfl rfl ?_
      refine w_CS (as := [.long (sL S 40 (i - 1))]) (r := []) rfl rfl rfl rfl (Nat.le_of_ble_eq_true rfl) (Nat.le_of_ble_eq_true rfl) (by omega) rfl (c_isw (x := sL S 40 (i - 1)) (by omega)) ?_
      rintro _ _ ⟨rfl, hS⟩
      rw [hS]
      show w_T _ _ 100 36 _ [.int (iZ (zB (wdl ((sL S 40 (i - 1)).toInt % 128))))] _ _
      apply w_jn (A := w_T _ _ 100 52 _ [.int (iZ (zB (decide ((wdl ((sL S 40 (i - 1)).toInt % 128)) = true ∧ (wdl ((sL S 40 i).toInt % 128)) = true))))] _ _)
      · intro kT
        refine w_b_eq (pc2 := 51) (pc3 := 39) rfl (by decide) rfl (fun q1 => ?_) (fun q1 => ?_)
        · skip
          refine w_iconst rfl rfl ?_
          exact w_j0 (p := (wdl ((sL S 40 (i - 1)).toInt % 128)) = true ∧ (wdl ((sL S 40 i).toInt % 128)) = true) (fun q => (Bool.eq_false_iff.mp q1) q.1) kT
        · skip
          refine w_lload rfl rfl rfl ?_
          refine w_CS (as := [.long (sL S 40 i)]) (r := []) rfl rfl rfl rfl (Nat.le_of_ble_eq_true rfl) (Nat.le_of_ble_eq_true rfl) (by omega) rfl (c_isw (x := sL S 40 i) (by omega)) ?_
          rintro _ _ ⟨rfl, hS⟩
          rw [hS]
          show w_T _ _ 100 44 _ [.int (iZ (zB (wdl ((sL S 40 i).toInt % 128))))] _ _
          refine w_b_eq (pc2 := 51) (pc3 := 47) rfl (by decide) rfl (fun q2 => ?_) (fun q2 => ?_)
          · skip
            refine w_iconst rfl rfl ?_
            exact w_j0 (p := (wdl ((sL S 40 (i - 1)).toInt % 128)) = true ∧ (wdl ((sL S 40 i).toInt % 128)) = true) (fun q => (Bool.eq_false_iff.mp q2) q.2) kT
          · skip
            refine w_iconst rfl rfl ?_
            refine w_goto (pc2 := 52) rfl (by decide) ?_
            exact w_j1 (p := (wdl ((sL S 40 (i - 1)).toInt % 128)) = true ∧ (wdl ((sL S 40 i).toInt % 128)) = true) ⟨q1, q2⟩ kT
      · show w_T _ _ 100 52 _ [.int (iZ (zB (decide ((wdl ((sL S 40 (i - 1)).toInt % 128)) = true ∧ (wdl ((sL S 40 i).toInt % 128)) = true))))] _ _
        refine w_istore rfl (by decide) rfl ?_
        refine w_lload_n rfl rfl rfl ?_
        refine w_lload rfl rfl rfl ?_
        apply w_jn (A := w_T _ _ 100 82 _ [.int (iZ (zB (decide ((sL S 40 (i - 1)) = (sL S 40 i) ∧ ((sL S 40 (i - 1)) = 35 ∨ (sL S 40 (i - 1)) = 61)))))] _ _)
        · intro kT
          refine w_l_ne (pc2 := 81) (pc3 := 61) rfl rfl (by decide) rfl (fun q3 => ?_) (fun q3 => ?_)
          · skip
            refine w_iconst rfl rfl ?_
            exact w_j0 (p := (sL S 40 (i - 1)) = (sL S 40 i) ∧ ((sL S 40 (i - 1)) = 35 ∨ (sL S 40 (i - 1)) = 61)) (fun q => q3 q.1) kT
          · skip
            refine w_lload_n rfl rfl rfl ?_
            refine w_ldc2 (v := 35) rfl rfl rfl ?_
            refine w_l_eq (pc2 := 77) (pc3 := 69) rfl rfl (by decide) rfl (fun q4 => ?_) (fun q4 => ?_)
            · skip
              refine w_iconst rfl rfl ?_
              refine w_goto (pc2 := 82) rfl (by decide) ?_
              exact w_j1 (p := (sL S 40 (i - 1)) = (sL S 40 i) ∧ ((sL S 40 (i - 1)) = 35 ∨ (sL S 40 (i - 1)) = 61)) ⟨q3, (Or.inl q4)⟩ kT
            · skip
              refine w_lload_n rfl rfl rfl ?_
              refine w_ldc2 (v := 61) rfl rfl rfl ?_
              refine w_l_ne (pc2 := 81) (pc3 := 77) rfl rfl (by decide) rfl (fun q5 => ?_) (fun q5 => ?_)
              · skip
                refine w_iconst rfl rfl ?_
                exact w_j0 (p := (sL S 40 (i - 1)) = (sL S 40 i) ∧ ((sL S 40 (i - 1)) = 35 ∨ (sL S 40 (i - 1)) = 61)) (fun q => (not_or.mpr ⟨q4, q5⟩) q.2) kT
              · skip
                refine w_iconst rfl rfl ?_
                refine w_goto (pc2 := 82) rfl (by decide) ?_
                exact w_j1 (p := (sL S 40 (i - 1)) = (sL S 40 i) ∧ ((sL S 40 (i - 1)) = 35 ∨ (sL S 40 (i - 1)) = 61)) ⟨q3, (Or.inr q5)⟩ kT
        · show w_T _ _ 100 82 _ [.int (iZ (zB (decide ((sL S 40 (i - 1)) = (sL S 40 i) ∧ ((sL S 40 (i - 1)) = 35 ∨ (sL S 40 (i - 1)) = 61)))))] _ _
          refine w_istore rfl (by decide) rfl ?_
          refine w_iload rfl rfl rfl ?_
          apply w_br (A := w_T _ _ 100 109 _ [] _ _) (B := w_T _ _ 100 111 _ [] _ _) ((((wdl ((sL S 40 (i - 1)).toInt % 128)) = true ∧ (wdl ((sL S 40 i).toInt % 128)) = true) ∧ 9 < ((wl (sL S 40 (i - 1))) + (wl (sL S 40 i)))) ∨ ((¬ ((wdl ((sL S 40 (i - 1)).toInt % 128)) = true ∧ (wdl ((sL S 40 i).toInt % 128)) = true)) ∧ ((¬ ((sL S 40 (i - 1)) = (sL S 40 i) ∧ ((sL S 40 (i - 1)) = 35 ∨ (sL S 40 (i - 1)) = 61))) ∨ 9 < ((wl (sL S 40 (i - 1))) + (wl (sL S 40 i))))))
          · intro kT1 kT2
            refine w_p_ne (pc2 := 94) (pc3 := 89) rfl (by decide) rfl (fun q6 => ?_) (fun q6 => ?_)
            · skip
              refine w_lload_n rfl rfl rfl ?_
              refine w_CS (as := [.long (sL S 40 (i - 1))]) (r := []) rfl rfl rfl rfl (Nat.le_of_ble_eq_true rfl) (Nat.le_of_ble_eq_true rfl) (by omega) rfl (c_len (x := sL S 40 (i - 1)) (by omega) (by omega)) ?_
              rintro _ _ ⟨rfl, hS⟩
              rw [hS]
              show w_T _ _ 100 98 _ [.int (iZ (wl (sL S 40 (i - 1))))] _ _
              refine w_lload rfl rfl rfl ?_
              refine w_CS (as := [.long (sL S 40 i)]) (r := [.int (iZ (wl (sL S 40 (i - 1))))]) rfl rfl rfl rfl (Nat.le_of_ble_eq_true rfl) (Nat.le_of_ble_eq_true rfl) (by omega) rfl (c_len (x := sL S 40 i) (by omega) (by omega)) ?_
              rintro _ _ ⟨rfl, hS⟩
              rw [hS]
              show w_T _ _ 100 103 _ [.int (iZ (wl (sL S 40 i))), .int (iZ (wl (sL S 40 (i - 1))))] _ _
              refine w_iadd rfl rfl ?_
              refine w_bipush rfl (by decide) rfl ?_
              refine w_ic_le (pc2 := 111) (pc3 := 109) rfl (by decide) rfl ⟨by omega, by omega⟩ ⟨by decide, by decide⟩ (fun q7 => ?_) (fun q7 => ?_)
              · skip
                exact kT2 (not_or.mpr ⟨fun q => (Int.not_lt.mpr q7) q.2, fun q => (not_not_intro q6) q.1⟩)
              · skip
                exact kT1 (Or.inl ⟨q6, q7⟩)
            · skip
              refine w_iload rfl rfl rfl ?_
              refine w_p_eq (pc2 := 109) (pc3 := 94) rfl (by decide) rfl (fun q8 => ?_) (fun q8 => ?_)
              · skip
                exact kT1 (Or.inr ⟨q6, (Or.inl q8)⟩)
              · skip
                refine w_lload_n rfl rfl rfl ?_
                refine w_CS (as := [.long (sL S 40 (i - 1))]) (r := []) rfl rfl rfl rfl (Nat.le_of_ble_eq_true rfl) (Nat.le_of_ble_eq_true rfl) (by omega) rfl (c_len (x := sL S 40 (i - 1)) (by omega) (by omega)) ?_
                rintro _ _ ⟨rfl, hS⟩
                rw [hS]
                show w_T _ _ 100 98 _ [.int (iZ (wl (sL S 40 (i - 1))))] _ _
                refine w_lload rfl rfl rfl ?_
                refine w_CS (as := [.long (sL S 40 i)]) (r := [.int (iZ (wl (sL S 40 (i - 1))))]) rfl rfl rfl rfl (Nat.le_of_ble_eq_true rfl) (Nat.le_of_ble_eq_true rfl) (by omega) rfl (c_len (x := sL S 40 i) (by omega) (by omega)) ?_
                rintro _ _ ⟨rfl, hS⟩
                rw [hS]
                show w_T _ _ 100 103 _ [.int (iZ (wl (sL S 40 i))), .int (iZ (wl (sL S 40 (i - 1))))] _ _
                refine w_iadd rfl rfl ?_
                refine w_bipush rfl (by decide) rfl ?_
                refine w_ic_le (pc2 := 111) (pc3 := 109) rfl (by decide) rfl ⟨by omega, by omega⟩ ⟨by decide, by decide⟩ (fun q9 => ?_) (fun q9 => ?_)
                · skip
                  exact kT2 (not_or.mpr ⟨fun q => q6 q.1, fun q => (not_or.mpr ⟨(not_not_intro q8), (Int.not_lt.mpr q9)⟩) q.2⟩)
                · skip
                  exact kT1 (Or.inr ⟨q6, (Or.inr q9)⟩)
          · intro c86
            refine w_iconst rfl rfl ?_
            refine w_zret rfl rfl (by decide) ?_
            rw [jt_no c86]
            exact ⟨rfl, rfl⟩
          · intro c86
            refine w_aload_n rfl rfl rfl ?_
            refine w_getR rfl rfl sh_39 rfl rfl ?_
            refine w_iload_n rfl rfl rfl ?_
            refine w_iconst rfl rfl ?_
            refine w_isub rfl rfl ?_
            refine w_lload_n rfl rfl rfl ?_
            refine w_bipush rfl (by decide) rfl ?_
            refine w_lload rfl rfl rfl ?_
            refine w_CS (as := [.long (sL S 40 i)]) (r := [.int (iZ 7), .long (sL S 40 (i - 1)), .int (iZ (i - 1)), .ref 40]) rfl rfl rfl rfl (Nat.le_of_ble_eq_true rfl) (Nat.le_of_ble_eq_true rfl) (by omega) rfl (c_len (x := sL S 40 i) (by omega) (by omega)) ?_
            rintro _ _ ⟨rfl, hS⟩
            rw [hS]
            show w_T _ _ 100 126 _ [.int (iZ (wl (sL S 40 i))), .int (iZ 7), .long (sL S 40 (i - 1)), .int (iZ (i - 1)), .ref 40] _ _
            refine w_imul rfl rfl ?_
            refine w_zlshl rfl rfl ?_
            refine w_lload rfl rfl rfl ?_
            refine w_ladd rfl rfl ?_
            refine w_laS (f := sL S 40) rfl sh_40 (by omega) (by omega) (by decide) rfl rfl ?_
            refine w_aload_n rfl rfl rfl ?_
            refine w_getR rfl rfl sh_39 rfl rfl ?_
            refine w_iload_n rfl rfl rfl ?_
            refine w_iconst rfl rfl ?_
            refine w_isub rfl rfl ?_
            refine w_iload_n rfl rfl rfl ?_
            refine w_sipush rfl (by decide) rfl ?_
            refine w_imul rfl rfl ?_
            refine w_aload_n rfl rfl rfl ?_
            refine w_iload_n rfl rfl rfl ?_
            refine w_iconst rfl rfl ?_
            refine w_isub rfl rfl ?_
            refine w_CV (as := [.int (iZ (i - 1))]) (r := [.int (iZ (p * 256)), .int (iZ (i - 1)), .ref 41]) rfl rfl rfl rfl sh_39 (Nat.le_of_ble_eq_true rfl) (Nat.le_of_ble_eq_true rfl) (by omega) rfl (c_hid (b := 40) (c := 41) (n := 480) (a := 39) (i := i - 1) ⟨sh_39, sh_40, sh_41⟩ (by decide) (by omega) (by omega) (by simp (disch := omega) only [rv_self, rv_ne, rl_self, rl_ne, rA_self, rA_ne, rL_self, rL_ne, rR_self, rR_ne, xvl, xvA, xvL, xvR, xlv, xlA, xlL, xlR, xAv, xAl, xAL, xAR, xLv, xLl, xLA, xLR, xRv, xRl, xRA, xRL]; omega) (by simp (disch := omega) only [rv_self, rv_ne, rl_self, rl_ne, rA_self, rA_ne, rL_self, rL_ne, rR_self, rR_ne, xvl, xvA, xvL, xvR, xlv, xlA, xlL, xlR, xAv, xAl, xAL, xAR, xLv, xLl, xLA, xLR, xRv, xRl, xRA, xRL]; omega) (by omega)) ?_
            rintro _ _ ⟨rfl, hS⟩
            rw [hS]
            show w_T _ _ 100 151 _ [.int (iZ (sA S 41 (i - 1) % 256)), .int (iZ (p * 256)), .int (iZ (i - 1)), .ref 41] _ _
            refine w_aload_n rfl rfl rfl ?_
            refine w_iload_n rfl rfl rfl ?_
            refine w_CV (as := [.int (iZ i)]) (r := [.int (iZ (sA S 41 (i - 1) % 256)), .int (iZ (p * 256)), .int (iZ (i - 1)), .ref 41]) rfl rfl rfl rfl sh_39 (Nat.le_of_ble_eq_true rfl) (Nat.le_of_ble_eq_true rfl) (by omega) rfl (c_hid (b := 40) (c := 41) (n := 480) (a := 39) (i := i) ⟨sh_39, sh_40, sh_41⟩ (by decide) (by omega) (by omega) (by simp (disch := omega) only [rv_self, rv_ne, rl_self, rl_ne, rA_self, rA_ne, rL_self, rL_ne, rR_self, rR_ne, xvl, xvA, xvL, xvR, xlv, xlA, xlL, xlR, xAv, xAl, xAL, xAR, xLv, xLl, xLA, xLR, xRv, xRl, xRA, xRL]; omega) (by simp (disch := omega) only [rv_self, rv_ne, rl_self, rl_ne, rA_self, rA_ne, rL_self, rL_ne, rR_self, rR_ne, xvl, xvA, xvL, xvR, xlv, xlA, xlL, xlR, xAv, xAl, xAL, xAR, xLv, xLl, xLA, xLR, xRv, xRl, xRA, xRL]; omega) (by omega)) ?_
            rintro _ _ ⟨rfl, hS⟩
            rw [hS]
            show w_T _ _ 100 156 _ [.int (iZ (sA S 41 i % 256)), .int (iZ (sA S 41 (i - 1) % 256)), .int (iZ (p * 256)), .int (iZ (i - 1)), .ref 41] _ _
            refine w_zand rfl rfl ?_
            refine w_iadd rfl rfl ?_
            refine w_iaS (f := sA S 41) rfl sh_41 (by omega) (by omega) (by decide) rfl rfl ?_
            refine w_aload_n rfl rfl rfl ?_
            refine w_getR rfl rfl sh_39 rfl rfl ?_
            refine w_iload_n rfl rfl rfl ?_
            refine w_iconst rfl rfl ?_
            refine w_iadd rfl rfl ?_
            refine w_aload_n rfl rfl rfl ?_
            refine w_getR rfl rfl sh_39 rfl rfl ?_
            refine w_iload_n rfl rfl rfl ?_
            refine w_aload_n rfl rfl rfl ?_
            refine w_getI (z := sv S 39 2) rfl rfl sh_39 rfl rfl rfl ?_
            refine w_iload_n rfl rfl rfl ?_
            refine w_isub rfl rfl ?_
            refine w_iconst rfl rfl ?_
            refine w_isub rfl rfl ?_
            refine w_cpl (f := w_u (sL S 40) (i - 1) ((lshl (sL S 40 (i - 1)) (7 * (wl (sL S 40 i)))) + (sL S 40 i))) (g := w_u (sL S 40) (i - 1) ((lshl (sL S 40 (i - 1)) (7 * (wl (sL S 40 i)))) + (sL S 40 i))) rfl rfl sh_40 sh_40 (by omega) (by omega) (by omega) (by omega) (by omega) (by decide) (by decide) (by omega) (Nat.le_of_ble_eq_true rfl) (rL_self S 40 (w_u (sL S 40) (i - 1) ((lshl (sL S 40 (i - 1)) (7 * (wl (sL S 40 i)))) + (sL S 40 i)))) (rL_self S 40 (w_u (sL S 40) (i - 1) ((lshl (sL S 40 (i - 1)) (7 * (wl (sL S 40 i)))) + (sL S 40 i)))) rfl ?_
            refine w_aload_n rfl rfl rfl ?_
            refine w_getR rfl rfl sh_39 rfl rfl ?_
            refine w_iload_n rfl rfl rfl ?_
            refine w_iconst rfl rfl ?_
            refine w_iadd rfl rfl ?_
            refine w_aload_n rfl rfl rfl ?_
            refine w_getR rfl rfl sh_39 rfl rfl ?_
            refine w_iload_n rfl rfl rfl ?_
            refine w_aload_n rfl rfl rfl ?_
            refine w_getI (z := sv S 39 2) rfl rfl sh_39 rfl rfl rfl ?_
            refine w_iload_n rfl rfl rfl ?_
            refine w_isub rfl rfl ?_
            refine w_iconst rfl rfl ?_
            refine w_isub rfl rfl ?_
            refine w_cpi (f := w_u (sA S 41) (i - 1) ((p * 256) + (zand (sA S 41 (i - 1) % 256) (sA S 41 i % 256)))) (g := w_u (sA S 41) (i - 1) ((p * 256) + (zand (sA S 41 (i - 1) % 256) (sA S 41 i % 256)))) rfl rfl sh_41 sh_41 (by omega) (by omega) (by omega) (by omega) (by omega) (by decide) (by decide) (by omega) (Nat.le_of_ble_eq_true rfl) (rA_self (w_L S 40 (w_u (sL S 40) (i - 1) ((lshl (sL S 40 (i - 1)) (7 * (wl (sL S 40 i)))) + (sL S 40 i)))) 41 (w_u (sA S 41) (i - 1) ((p * 256) + (zand (sA S 41 (i - 1) % 256) (sA S 41 i % 256))))) (rA_self (w_L S 40 (w_u (sL S 40) (i - 1) ((lshl (sL S 40 (i - 1)) (7 * (wl (sL S 40 i)))) + (sL S 40 i)))) 41 (w_u (sA S 41) (i - 1) ((p * 256) + (zand (sA S 41 (i - 1) % 256) (sA S 41 i % 256))))) rfl ?_
            refine w_aload_n rfl rfl rfl ?_
            refine w_dup rfl rfl rfl ?_
            refine w_getI (z := sv S 39 2) rfl rfl sh_39 rfl rfl rfl ?_
            refine w_iconst rfl rfl ?_
            refine w_isub rfl rfl ?_
            refine w_putf rfl rfl sh_39 rfl rfl (by decide) rfl ?_
            refine w_iconst rfl rfl ?_
            refine w_zret rfl rfl (by decide) ?_
            rw [jt_yes c86]
            exact ⟨rfl, (fr_v (fr_A (fr_L (fr_A (fr_L (fr_refl _ _) (by omega)) (by omega)) (by omega)) (by omega)) (by omega)), by simp (disch := omega) only [rv_self, rv_ne, rl_self, rl_ne, rA_self, rA_ne, rL_self, rL_ne, rR_self, rR_ne, xvl, xvA, xvL, xvR, xlv, xlA, xlL, xlR, xAv, xAl, xAL, xAR, xLv, xLl, xLA, xLR, xRv, xRl, xRA, xRL], by simp (disch := omega) only [rv_self, rv_ne, rl_self, rl_ne, rA_self, rA_ne, rL_self, rL_ne, rR_self, rR_ne, xvl, xvA, xvL, xvR, xlv, xlA, xlL, xlR, xAv, xAl, xAL, xAR, xLv, xLl, xLA, xLR, xRv, xRl, xRA, xRL], by simp (disch := omega) only [rv_self, rv_ne, rl_self, rl_ne, rA_self, rA_ne, rL_self, rL_ne, rR_self, rR_ne, xvl, xvA, xvL, xvR, xlv, xlA, xlL, xlR, xAv, xAl, xAL, xAR, xLv, xLl, xLA, xLR, xRv, xRl, xRA, xRL]⟩
    · omega
