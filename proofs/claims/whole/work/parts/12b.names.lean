/-! The class defines and forgets a name. -/
def slN (X : Int → Int64) : Nat → Int → List Int64
  | 0, _ => []
  | m + 1, i => X i :: slN X m (i + 1)
def sl2 (X : Int → Int64) : Nat → Int → List Int64
  | 0, _ => []
  | m + 1, i => X i :: sl2 X m (i + 2)
theorem slN_len (X : Int → Int64) : ∀ (m : Nat) (i : Int), (slN X m i).length = m
  | 0, _ => rfl
  | m + 1, i => by
    show (slN X m (i + 1)).length + 1 = m + 1
    rw [slN_len X m]
theorem sl2_len (X : Int → Int64) : ∀ (m : Nat) (i : Int), (sl2 X m i).length = m
  | 0, _ => rfl
  | m + 1, i => by
    show (sl2 X m (i + 2)).length + 1 = m + 1
    rw [sl2_len X m]
theorem lg_c (a : Int64) (l : List Int64) {j : Int} (h : 0 < j) : lg (a :: l) j = lg l (j - 1) := by
  unfold lg
  rw [show j.toNat = (j - 1).toNat + 1 by omega]
  rfl
theorem lg_slN (X : Int → Int64) : ∀ (m : Nat) (i j : Int), 0 ≤ j → j < m → lg (slN X m i) j = X (i + j)
  | 0, i, j, h0, h1 => by omega
  | m + 1, i, j, h0, h1 => by
    by_cases h : j = 0
    · rw [h, Int.add_zero]
      rfl
    · show lg (X i :: slN X m (i + 1)) j = _
      rw [lg_c _ _ (by omega), lg_slN X m _ _ (by omega) (by omega)]
      exact congrArg X (by omega)
theorem lg_sl2 (X : Int → Int64) : ∀ (m : Nat) (i j : Int), 0 ≤ j → j < m → lg (sl2 X m i) j = X (i + 2 * j)
  | 0, i, j, h0, h1 => by omega
  | m + 1, i, j, h0, h1 => by
    by_cases h : j = 0
    · rw [h, Int.mul_zero, Int.add_zero]
      rfl
    · show lg (X i :: sl2 X m (i + 2)) j = _
      rw [lg_c _ _ (by omega), lg_sl2 X m _ _ (by omega) (by omega)]
      exact congrArg X (by omega)
def dmn (p q : Int) : Int := if p < 0 then 0 else (q - p) / 2
def dmk (X : Int → Int64) (a p q e : Int) : Mac := (X a, decide (0 ≤ p), sl2 X (dmn p q).toNat p, slN X (e - q).toNat q)
def dft (T : List Mac) (X : Int → Int64) (a p q e : Int) : Int × List Mac := if 0 ≤ fnd T (X a) then (6, T) else if 3 < dmn p q ∨ 12 < e - q ∨ 8 ≤ T.length then (7, T) else (0, T ++ [dmk X a p q e])
def und (T : List Mac) (x : Int64) : List Mac := if fnd T x < 0 then T else (T.set (fnd T x).toNat (mg T (T.length - 1))).dropLast
theorem w_u_upto {α : Type} {f g : Int → α} {i j : Int} {v : α} (h : ¬ j = i → f j = g j) (hv : v = g i) : w_u f i v j = g j := by
  by_cases e : j = i
  · rw [e, w_u_self, hv]
  · rw [w_u_ne _ _ e]
    exact h e
theorem mg_snoc {T : List Mac} {e : Mac} {k : Int} (h0 : 0 ≤ k) (h1 : k < T.length + 1) : mg (T ++ [e]) k = if k < T.length then mg T k else e := by
  unfold mg
  rw [List.getD_eq_getElem?_getD]
  by_cases h : k < T.length
  · rw [if_pos h, List.getElem?_append_left (by omega), List.getD_eq_getElem?_getD]
  · rw [if_neg h, List.getElem?_append_right (by omega), show k.toNat - T.length = 0 by omega]
    rfl
theorem und_len {T : List Mac} {x : Int64} (h : ¬ fnd T x < 0) : (und T x).length = T.length - 1 := by
  unfold und
  rw [if_neg h, List.length_dropLast, List.length_set]
theorem mg_und {T : List Mac} {x : Int64} (h : ¬ fnd T x < 0) {k : Int} (h0 : 0 ≤ k) (h1 : k < T.length - 1) : mg (und T x) k = if k = fnd T x then mg T (T.length - 1) else mg T k := by
  unfold und
  rw [if_neg h]
  unfold mg
  rw [List.getD_eq_getElem?_getD, List.getElem?_dropLast, List.length_set, if_pos (by omega), List.getElem?_set]
  by_cases e : k = fnd T x
  · rw [if_pos e, if_pos (by rw [e]), if_pos (by omega)]
    rfl
  · rw [if_neg e, if_neg (by omega), List.getD_eq_getElem?_getD]
theorem ctab_snoc {S W : w_S} {pi : Nat → Nat} {T : List Mac} {e : Mac} (h : ctab S pi T) (h8 : T.length < 8) (f : fr (fun a => a = 4 ∨ (6 + 3 * pi T.length ≤ a ∧ a ≤ 8 + 3 * pi T.length)) S W) (hn : sv W 4 1 = T.length + 1) (hc : cmac W (pi T.length) e) (ho : mok e) : ctab W pi (T ++ [e]) := by
  have hl : (T ++ [e]).length = T.length + 1 := by rw [List.length_append]; rfl
  refine ⟨by rw [hn, hl]; rfl, by omega, h.2.2.1, h.2.2.2.1, by rw [fr_gR f (by omega)]; exact h.2.2.2.2.1, fun k k0 k1 => ?_⟩
  rw [mg_snoc k0 (by omega)]
  by_cases hk : k < T.length
  · rw [if_pos hk]
    have hne : ¬ pi k.toNat = pi T.length := fun z => by
      have := h.2.2.2.1 _ _ (by omega) h8 z
      omega
    exact ⟨cmac_fr (h.2.2.2.2.2 k k0 hk).1 f (by omega) (by omega) (by omega), (h.2.2.2.2.2 k k0 hk).2⟩
  · rw [if_neg hk, show k.toNat = T.length by omega]
    exact ⟨hc, ho⟩
theorem dmk_ok {t : List Tok} {a p q e : Int} (hto : tkok t) (a0 : 0 ≤ a) (a1 : a < t.length) (q0 : 0 ≤ q) (e1 : e ≤ t.length) (h3 : dmn p q ≤ 3) (h12 : e - q ≤ 12) : mok (dmk (tx t) a p q e) := by
  refine ⟨?_, ?_, fun z => ?_, (hto a a0 a1).1, fun j j0 j1 => ?_⟩
  · show (sl2 _ _ _).length ≤ 3
    rw [sl2_len]
    omega
  · show (slN _ _ _).length ≤ 12
    rw [slN_len]
    omega
  · have z2 : p < 0 := by
      have : decide (0 ≤ p) = false := z
      simpa using this
    show sl2 _ (dmn p q).toNat _ = []
    unfold dmn
    rw [if_pos z2]
    rfl
  · have j2 : j < ((slN (tx t) (e - q).toNat q).length : Nat) := j1
    rw [slN_len] at j2
    show 0 < (lg (slN _ _ _) j).toInt
    rw [lg_slN _ _ _ _ j0 j2]
    exact (hto _ (by omega) (by omega)).1
theorem c_def_c {sc : x_S} {d : Nat} {S : w_S} {l : Nat} {t : List Tok} {pi : Nat → Nat} {T : List Mac} {a p q e : Int} (hl : l < 4) (hs : srep S l t) (hto : tkok t) (ht6 : t.length ≤ 160) (ht : ctab S pi T) (a0 : 0 ≤ a) (a1 : a < t.length) (p0 : -1 ≤ p) (p1 : p ≤ q) (q0 : 0 ≤ q) (q1 : q ≤ e) (e1 : e ≤ t.length) (hd : 1 ≤ d) : ∀ n : Nat, (∀ (i : Int) (U : w_S) (lv : x_L) (l1 : lv 1 = some (.ref (203 + 8 * l))) (l3 : lv 3 = some (.int (iZ p))) (l4 : lv 4 = some (.int (iZ q))) (l6 : lv 6 = some (.int (iZ (dmn p q)))) (l7 : lv 7 = some (.int (iZ (e - q)))) (l8 : lv 8 = some (.ref (6 + 3 * pi T.length))) (l9 : lv 9 = some (.int (iZ i))) (hf0 : fnd T (tx t a) < 0) (h00 : ¬ (3 < dmn p q ∨ 12 < e - q ∨ (8 : Int) ≤ T.length)) (hfr : fr (fun a => a = 4 ∨ (6 + 3 * pi T.length ≤ a ∧ a ≤ 8 + 3 * pi T.length)) S U) (hn : sv U 4 1 = T.length + 1) (u0 : sl U (6 + 3 * pi T.length) 0 = tx t a) (u1 : sv U (6 + 3 * pi T.length) 1 = zB (decide (0 ≤ p))) (u2 : sv U (6 + 3 * pi T.length) 2 = dmn p q) (u3 : ∀ j : Int, 0 ≤ j → j < i → sL U (7 + 3 * pi T.length) j = tx t (p + 2 * j)) (i0 : 0 ≤ i) (i1 : i ≤ dmn p q) (hm : (dmn p q - i).toNat < n), w_T sc d 35 120 lv [] U (fun v S2 => v = some (.int (iZ (dft T (tx t) a p q e).1)) ∧ fr (fun a => 4 ≤ a ∧ a < 30) S S2 ∧ ctab S2 pi (dft T (tx t) a p q e).2)) := by
  intro n
  induction n with
  | zero => exact fun i U lv l1 l3 l4 l6 l7 l8 l9 hf0 h00 hfr hn u0 u1 u2 u3 i0 i1 hm => absurd hm (Nat.not_lt_zero _)
  | succ n ih =>
    intro i U lv l1 l3 l4 l6 l7 l8 l9 hf0 h00 hfr hn u0 u1 u2 u3 i0 i1 hm
    have h8 := ht.2.1
    have hpz := ht.2.2.1 T.length (by omega)
    have hsU : sL U (204 + 8 * l) = sL S (204 + 8 * l) := fr_gL hfr (by omega)
    have hdr : 0 ≤ dmn p q ∧ (0 ≤ p → 2 * dmn p q ≤ q - p) ∧ (p < 0 → dmn p q = 0) := by
      unfold dmn
      split <;> omega
    refine w_iload rfl l9 rfl ?_
    refine w_iload rfl l6 rfl ?_
    refine w_ic_ge (pc2 := 152) (pc3 := 127) rfl (by decide) rfl ⟨by omega, by omega⟩ ⟨by omega, by omega⟩ (fun c124 => ?_) (fun c124 => ?_)
    · skip
      refine w_aload rfl l8 rfl ?_
      refine w_iload rfl l7 rfl ?_
      refine w_putf rfl rfl (sh_mac (ht.2.2.1 T.length (by omega))) rfl rfl (by decide) rfl ?_
      refine w_aload_n rfl l1 rfl ?_
      refine w_getR rfl rfl (sh_srow hl).1 rfl rfl ?_
      refine w_iload rfl l4 rfl ?_
      refine w_aload rfl l8 rfl ?_
      refine w_getR rfl rfl (sh_mac (ht.2.2.1 T.length (by omega))) rfl rfl ?_
      refine w_iconst rfl rfl ?_
      refine w_iload rfl l7 rfl ?_
      refine w_cpl (f := sL U (204 + 8 * l)) (g := sL U (8 + 3 * pi T.length)) rfl rfl (sh_srow hl).2.1 (sh_mac2 (ht.2.2.1 T.length (by omega))) (by omega) (by omega) (by omega) (by omega) (by omega) (by decide) (by decide) (by omega) (Nat.le_of_ble_eq_true rfl) rfl rfl rfl ?_
      refine w_iconst rfl rfl ?_
      refine w_iret rfl rfl ?_
      unfold dft
      rw [if_neg (by omega), if_neg (by omega)]
      refine ⟨rfl, (fr_L (fr_v (fr_mono hfr (by omega)) (by omega)) (by omega)), ctab_snoc ht (by omega) (fr_L (fr_v hfr (by omega)) (by omega)) ?_ ⟨?_, ?_, ?_, ?_, fun j j0 j1 => ?_, fun j j0 j1 => ?_⟩ (dmk_ok hto a0 a1 q0 e1 (by omega) (by omega))⟩
      · simp (disch := omega) only [rv_self, rv_ne, rl_self, rl_ne, rA_self, rA_ne, rL_self, rL_ne, rR_self, rR_ne, xvl, xvA, xvL, xvR, xlv, xlA, xlL, xlR, xAv, xAl, xAL, xAR, xLv, xLl, xLA, xLR, xRv, xRl, xRA, xRL]; exact hn
      · simp (disch := omega) only [rv_self, rv_ne, rl_self, rl_ne, rA_self, rA_ne, rL_self, rL_ne, rR_self, rR_ne, xvl, xvA, xvL, xvR, xlv, xlA, xlL, xlR, xAv, xAl, xAL, xAR, xLv, xLl, xLA, xLR, xRv, xRl, xRA, xRL]; exact u0
      · simp (disch := omega) only [rv_self, rv_ne, rl_self, rl_ne, rA_self, rA_ne, rL_self, rL_ne, rR_self, rR_ne, xvl, xvA, xvL, xvR, xlv, xlA, xlL, xlR, xAv, xAl, xAL, xAR, xLv, xLl, xLA, xLR, xRv, xRl, xRA, xRL]; exact u1
      · simp (disch := omega) only [rv_self, rv_ne, rl_self, rl_ne, rA_self, rA_ne, rL_self, rL_ne, rR_self, rR_ne, xvl, xvA, xvL, xvR, xlv, xlA, xlL, xlR, xAv, xAl, xAL, xAR, xLv, xLl, xLA, xLR, xRv, xRl, xRA, xRL]; rw [u2]; show dmn p q = ((sl2 _ _ _).length : Nat); rw [sl2_len]; omega
      · simp (disch := omega) only [rv_self, rv_ne, rl_self, rl_ne, rA_self, rA_ne, rL_self, rL_ne, rR_self, rR_ne, xvl, xvA, xvL, xvR, xlv, xlA, xlL, xlR, xAv, xAl, xAL, xAR, xLv, xLl, xLA, xLR, xRv, xRl, xRA, xRL]; show e - q = ((slN _ _ _).length : Nat); rw [slN_len]; omega
      · have j2 : j < ((sl2 (tx t) (dmn p q).toNat p).length : Nat) := j1
        rw [sl2_len] at j2
        simp (disch := omega) only [rv_self, rv_ne, rl_self, rl_ne, rA_self, rA_ne, rL_self, rL_ne, rR_self, rR_ne, xvl, xvA, xvL, xvR, xlv, xlA, xlL, xlR, xAv, xAl, xAL, xAR, xLv, xLl, xLA, xLR, xRv, xRl, xRA, xRL]
        show _ = lg (sl2 _ _ _) j
        rw [lg_sl2 _ _ _ _ j0 j2]
        exact u3 j j0 (by omega)
      · have j2 : j < ((slN (tx t) (e - q).toNat q).length : Nat) := j1
        rw [slN_len] at j2
        simp (disch := omega) only [rv_self, rv_ne, rl_self, rl_ne, rA_self, rA_ne, rL_self, rL_ne, rR_self, rR_ne, xvl, xvA, xvL, xvR, xlv, xlA, xlL, xlR, xAv, xAl, xAL, xAR, xLv, xLl, xLA, xLR, xRv, xRl, xRA, xRL]
        show _ = lg (slN _ _ _) j
        rw [lg_slN _ _ _ _ j0 j2]
        unfold w_cp
        rw [if_pos (by omega), Int.sub_zero, hsU]
        exact (hs.2 _ (by omega) (by omega)).1
    · skip
      refine w_aload rfl l8 rfl ?_
      refine w_getR rfl rfl (sh_mac (ht.2.2.1 T.length (by omega))) rfl rfl ?_
      refine w_iload rfl l9 rfl ?_
      refine w_aload_n rfl l1 rfl ?_
      refine w_getR rfl rfl (sh_srow hl).1 rfl rfl ?_
      refine w_iload_n rfl l3 rfl ?_
      refine w_iconst rfl rfl ?_
      refine w_iload rfl l9 rfl ?_
      refine w_imul rfl rfl ?_
      refine w_iadd rfl rfl ?_
      refine w_lald (z := tx t (p + (2 * i))) rfl (sh_srow hl).2.1 (by omega) (by omega) (by decide) ((congrFun hsU _).trans (hs.2 _ (by omega) (by omega)).1) rfl ?_
      refine w_laS (f := sL U (7 + 3 * pi T.length)) rfl (sh_mac1 (ht.2.2.1 T.length (by omega))) (by omega) (by omega) (by decide) rfl rfl ?_
      refine w_iinc rfl l9 (by decide) rfl ?_
      refine w_goto (pc2 := 120) rfl (by decide) ?_
      exact ih (i + 1) _ _ (by exact l1) (by exact l3) (by exact l4) (by exact l6) (by exact l7) (by exact (congrArg x_k2 l8)) (by exact rfl) (by exact hf0) (by exact h00) (by exact (fr_L hfr (by omega))) (by simp (disch := omega) only [rv_self, rv_ne, rl_self, rl_ne, rA_self, rA_ne, rL_self, rL_ne, rR_self, rR_ne, xvl, xvA, xvL, xvR, xlv, xlA, xlL, xlR, xAv, xAl, xAL, xAR, xLv, xLl, xLA, xLR, xRv, xRl, xRA, xRL]; exact hn) (by simp (disch := omega) only [rv_self, rv_ne, rl_self, rl_ne, rA_self, rA_ne, rL_self, rL_ne, rR_self, rR_ne, xvl, xvA, xvL, xvR, xlv, xlA, xlL, xlR, xAv, xAl, xAL, xAR, xLv, xLl, xLA, xLR, xRv, xRl, xRA, xRL]; exact u0) (by simp (disch := omega) only [rv_self, rv_ne, rl_self, rl_ne, rA_self, rA_ne, rL_self, rL_ne, rR_self, rR_ne, xvl, xvA, xvL, xvR, xlv, xlA, xlL, xlR, xAv, xAl, xAL, xAR, xLv, xLl, xLA, xLR, xRv, xRl, xRA, xRL]; exact u1) (by simp (disch := omega) only [rv_self, rv_ne, rl_self, rl_ne, rA_self, rA_ne, rL_self, rL_ne, rR_self, rR_ne, xvl, xvA, xvL, xvR, xlv, xlA, xlL, xlR, xAv, xAl, xAL, xAR, xLv, xLl, xLA, xLR, xRv, xRl, xRA, xRL]; exact u2) (by simp (disch := omega) only [rv_self, rv_ne, rl_self, rl_ne, rA_self, rA_ne, rL_self, rL_ne, rR_self, rR_ne, xvl, xvA, xvL, xvR, xlv, xlA, xlL, xlR, xAv, xAl, xAL, xAR, xLv, xLl, xLA, xLR, xRv, xRl, xRA, xRL]; intro j j0 j1; exact w_u_upto (g := fun j => tx t (p + 2 * j)) (fun hj => u3 j j0 (by omega)) rfl) (by omega) (by omega) (by omega)
theorem c_def {sc : x_S} {d : Nat} {S : w_S} {l : Nat} {t : List Tok} {pi : Nat → Nat} {T : List Mac} {a p q e : Int} (hl : l < 4) (hs : srep S l t) (hto : tkok t) (ht6 : t.length ≤ 160) (ht : ctab S pi T) (a0 : 0 ≤ a) (a1 : a < t.length) (p0 : -1 ≤ p) (p1 : p ≤ q) (q0 : 0 ≤ q) (q1 : q ≤ e) (e1 : e ≤ t.length) (hd : 1 ≤ d) : w_T sc d 35 0 (x_en 0 [.ref 4, .ref (203 + 8 * l), .int (iZ a), .int (iZ p), .int (iZ q), .int (iZ e)]) [] S (fun v S2 => v = some (.int (iZ (dft T (tx t) a p q e).1)) ∧ fr (fun a => 4 ≤ a ∧ a < 30) S S2 ∧ ctab S2 pi (dft T (tx t) a p q e).2) := by
  have h8 := ht.2.1
  have hfr0 := fnd_r T (tx t a)
  have hpi := fun z => ht.2.2.1 T.length z
  have hdn : (if 0 ≤ p then zdiv (q - p) 2 else 0) = dmn p q := by
    unfold dmn
    by_cases z : p < 0
    · rw [if_neg (by omega), if_pos z]
    · rw [if_pos (by omega), if_neg z, zdiv_id (by omega) (by omega) (by decide) (by decide)]
  have hdr : 0 ≤ dmn p q ∧ dmn p q ≤ 200 ∧ (0 ≤ p → 2 * dmn p q ≤ q - p) := by
    unfold dmn
    split <;> omega
  refine w_aload_n rfl rfl rfl ?_
  refine w_aload_n rfl rfl rfl ?_
  refine w_getR rfl rfl (sh_srow hl).1 rfl rfl ?_
  refine w_iload_n rfl rfl rfl ?_
  refine w_lald (z := tx t a) rfl (sh_srow hl).2.1 (by omega) (by omega) (by decide) (hs.2 _ (by omega) (by omega)).1 rfl ?_
  refine w_CV (as := [.long (tx t a)]) (r := []) rfl rfl rfl rfl sh_4 (Nat.le_of_ble_eq_true rfl) (Nat.le_of_ble_eq_true rfl) (by omega) rfl (c_find (x := tx t a) ht (by omega)) ?_
  rintro _ _ ⟨rfl, hS⟩
  rw [hS]
  show w_T _ _ 35 10 _ [.int (iZ (fnd T (tx t a)))] _ _
  refine w_if_lt (pc2 := 16) (pc3 := 13) rfl (by decide) rfl ⟨by omega, by omega⟩ (fun c10 => ?_) (fun c10 => ?_)
  · skip
    refine w_iload_n rfl rfl rfl ?_
    apply w_jn (A := w_T _ _ 35 30 _ [.int (iZ (if 0 ≤ p then zdiv (q - p) 2 else 0))] _ _)
    · intro kT
      refine w_if_ge (pc2 := 24) (pc3 := 20) rfl (by decide) rfl ⟨by omega, by omega⟩ (fun q1 => ?_) (fun q1 => ?_)
      · skip
        refine w_iload rfl rfl rfl ?_
        refine w_iload_n rfl rfl rfl ?_
        refine w_isub rfl rfl ?_
        refine w_iconst rfl rfl ?_
        refine w_zdiv rfl (by decide) rfl ?_
        exact w_ji1 (p := 0 ≤ p) (a := zdiv (q - p) 2) (b := 0) q1 kT
      · skip
        refine w_iconst rfl rfl ?_
        refine w_goto (pc2 := 30) rfl (by decide) ?_
        exact w_ji0 (p := 0 ≤ p) (a := zdiv (q - p) 2) (b := 0) (Int.not_le.mpr q1) kT
    · show w_T _ _ 35 30 _ [.int (iZ (if 0 ≤ p then zdiv (q - p) 2 else 0))] _ _
      rw [hdn]
      refine w_istore rfl (by decide) rfl ?_
      refine w_iload rfl rfl rfl ?_
      refine w_iload rfl rfl rfl ?_
      refine w_isub rfl rfl ?_
      refine w_istore rfl (by decide) rfl ?_
      refine w_iload rfl rfl rfl ?_
      refine w_iconst rfl rfl ?_
      apply w_br (A := w_T _ _ 35 61 _ [] _ _) (B := w_T _ _ 35 64 _ [] _ _) (3 < dmn p q ∨ (12 < e - q ∨ 8 ≤ ((T.length : Int))))
      · intro kT1 kT2
        refine w_ic_gt (pc2 := 61) (pc3 := 45) rfl (by decide) rfl ⟨by omega, by omega⟩ ⟨by decide, by decide⟩ (fun q2 => ?_) (fun q2 => ?_)
        · skip
          exact kT1 (Or.inl q2)
        · skip
          refine w_iload rfl rfl rfl ?_
          refine w_bipush rfl (by decide) rfl ?_
          refine w_ic_gt (pc2 := 61) (pc3 := 52) rfl (by decide) rfl ⟨by omega, by omega⟩ ⟨by decide, by decide⟩ (fun q3 => ?_) (fun q3 => ?_)
          · skip
            exact kT1 (Or.inr (Or.inl q3))
          · skip
            refine w_aload_n rfl rfl rfl ?_
            refine w_getI (z := (T.length : Int)) rfl rfl sh_4 rfl ht.1 rfl ?_
            refine w_bipush rfl (by decide) rfl ?_
            refine w_ic_lt (pc2 := 64) (pc3 := 61) rfl (by decide) rfl ⟨by omega, by omega⟩ ⟨by decide, by decide⟩ (fun q4 => ?_) (fun q4 => ?_)
            · skip
              exact kT2 (not_or.mpr ⟨(Int.not_lt.mpr q2), (not_or.mpr ⟨(Int.not_lt.mpr q3), (Int.not_le.mpr q4)⟩)⟩)
            · skip
              exact kT1 (Or.inr (Or.inr q4))
      · intro c42
        refine w_bipush rfl (by decide) rfl ?_
        refine w_iret rfl rfl ?_
        unfold dft
        rw [if_neg (by omega), if_pos (by omega)]
        exact ⟨rfl, fr_refl _ _, ht⟩
      · intro c42
        have hpz := ht.2.2.1 T.length (by omega)
        refine w_aload_n rfl rfl rfl ?_
        refine w_getR rfl rfl sh_4 rfl rfl ?_
        refine w_aload_n rfl rfl rfl ?_
        refine w_getI (z := (T.length : Int)) rfl rfl sh_4 rfl ht.1 rfl ?_
        refine w_aald rfl sh_5 rfl (by omega) (by omega) (by decide) (by have q := ht.2.2.2.2.1 (T.length : Int) (by omega) (by omega); rw [Int.toNat_natCast] at q; exact q) rfl ?_
        refine w_astore rfl (by decide) rfl ?_
        refine w_aload_n rfl rfl rfl ?_
        refine w_dup rfl rfl rfl ?_
        refine w_getI (z := (T.length : Int)) rfl rfl sh_4 rfl ht.1 rfl ?_
        refine w_iconst rfl rfl ?_
        refine w_iadd rfl rfl ?_
        refine w_putf rfl rfl sh_4 rfl rfl (by decide) rfl ?_
        refine w_aload rfl rfl rfl ?_
        refine w_aload_n rfl rfl rfl ?_
        refine w_getR rfl rfl (sh_srow hl).1 rfl rfl ?_
        refine w_iload_n rfl rfl rfl ?_
        refine w_lald (z := tx t a) rfl (sh_srow hl).2.1 (by omega) (by omega) (by decide) (hs.2 _ (by omega) (by omega)).1 rfl ?_
        refine w_putl rfl rfl (sh_mac (ht.2.2.1 T.length (by omega))) rfl (by decide) rfl ?_
        refine w_aload rfl rfl rfl ?_
        refine w_iload_n rfl rfl rfl ?_
        apply w_jn (A := w_T _ _ 35 107 _ [.int (iZ (zB (decide (0 ≤ p)))), .ref (6 + 3 * pi T.length)] _ _)
        · intro kT
          refine w_if_lt (pc2 := 106) (pc3 := 102) rfl (by decide) rfl ⟨by omega, by omega⟩ (fun q5 => ?_) (fun q5 => ?_)
          · skip
            refine w_iconst rfl rfl ?_
            exact w_j0 (p := 0 ≤ p) (Int.not_le.mpr q5) kT
          · skip
            refine w_iconst rfl rfl ?_
            refine w_goto (pc2 := 107) rfl (by decide) ?_
            exact w_j1 (p := 0 ≤ p) q5 kT
        · show w_T _ _ 35 107 _ [.int (iZ (zB (decide (0 ≤ p)))), .ref (6 + 3 * pi T.length)] _ _
          refine w_putf rfl rfl (sh_mac (ht.2.2.1 T.length (by omega))) rfl (zB_fit _) (by decide) rfl ?_
          refine w_aload rfl rfl rfl ?_
          refine w_iload rfl rfl rfl ?_
          refine w_putf rfl rfl (sh_mac (ht.2.2.1 T.length (by omega))) rfl rfl (by decide) rfl ?_
          refine w_iconst rfl rfl ?_
          refine w_istore rfl (by decide) rfl ?_
          exact (c_def_c hl hs hto ht6 ht a0 a1 p0 p1 q0 q1 e1 hd _) 0 _ _ rfl rfl rfl rfl rfl rfl rfl (by omega) (by omega) (by exact (fr_v (fr_v (fr_l (fr_v (fr_refl _ _) (by omega)) (by omega)) (by omega)) (by omega))) (by simp (disch := omega) only [rv_self, rv_ne, rl_self, rl_ne, rA_self, rA_ne, rL_self, rL_ne, rR_self, rR_ne, xvl, xvA, xvL, xvR, xlv, xlA, xlL, xlR, xAv, xAl, xAL, xAR, xLv, xLl, xLA, xLR, xRv, xRl, xRA, xRL]) (by simp (disch := omega) only [rv_self, rv_ne, rl_self, rl_ne, rA_self, rA_ne, rL_self, rL_ne, rR_self, rR_ne, xvl, xvA, xvL, xvR, xlv, xlA, xlL, xlR, xAv, xAl, xAL, xAR, xLv, xLl, xLA, xLR, xRv, xRl, xRA, xRL]) (by simp (disch := omega) only [rv_self, rv_ne, rl_self, rl_ne, rA_self, rA_ne, rL_self, rL_ne, rR_self, rR_ne, xvl, xvA, xvL, xvR, xlv, xlA, xlL, xlR, xAv, xAl, xAL, xAR, xLv, xLl, xLA, xLR, xRv, xRl, xRA, xRL]) (by simp (disch := omega) only [rv_self, rv_ne, rl_self, rl_ne, rA_self, rA_ne, rL_self, rL_ne, rR_self, rR_ne, xvl, xvA, xvL, xvR, xlv, xlA, xlL, xlR, xAv, xAl, xAL, xAR, xLv, xLl, xLA, xLR, xRv, xRl, xRA, xRL]) (by intro j j0 j1; omega) (by omega) (by omega) (Nat.lt_succ_self _)
  · skip
    refine w_bipush rfl (by decide) rfl ?_
    refine w_iret rfl rfl ?_
    unfold dft
    rw [if_pos c10]
    exact ⟨rfl, fr_refl _ _, ht⟩
theorem ctab_und {S W : w_S} {pi : Nat → Nat} {T : List Mac} {x : Int64} (h : ctab S pi T) (hx : ¬ fnd T x < 0) (f : fr (fun a => a = 4 ∨ a = 5) S W) (hn : sv W 4 1 = T.length - 1) (hR : ∀ k : Int, 0 ≤ k → k < 8 → sR W 5 k = if k = fnd T x then some (6 + 3 * pi (T.length - 1)) else if k = T.length - 1 then some (6 + 3 * pi (fnd T x).toNat) else sR S 5 k) : ctab W (fun k => if k = (fnd T x).toNat then pi (T.length - 1) else if k = T.length - 1 then pi (fnd T x).toNat else pi k) (und T x) := by
  have hl := und_len hx
  have hr := fnd_r T x
  have h8 := h.2.1
  refine ⟨by rw [hn, hl]; omega, by omega, fun k k8 => ?_, fun j k j8 k8 e => ?_, fun k k0 k8 => ?_, fun k k0 k1 => ?_⟩
  · show (if _ then _ else _) < 8
    split
    · exact h.2.2.1 _ (by omega)
    · split
      · exact h.2.2.1 _ (by omega)
      · exact h.2.2.1 _ k8
  · have e2 : (if j = (fnd T x).toNat then pi (T.length - 1) else if j = T.length - 1 then pi (fnd T x).toNat else pi j) = (if k = (fnd T x).toNat then pi (T.length - 1) else if k = T.length - 1 then pi (fnd T x).toNat else pi k) := e
    have q := h.2.2.2.1
    split at e2 <;> split at e2 <;> (try split at e2) <;> (try split at e2) <;> (have := q _ _ (by omega) (by omega) e2; omega)
  · rw [hR k k0 k8]
    show _ = some (6 + 3 * (if _ then _ else _))
    by_cases c1 : k = fnd T x
    · rw [if_pos c1, if_pos (by omega)]
    · rw [if_neg c1, if_neg (show ¬ k.toNat = (fnd T x).toNat by omega)]
      by_cases c2 : k = T.length - 1
      · rw [if_pos c2, if_pos (show k.toNat = T.length - 1 by omega)]
      · rw [if_neg c2, if_neg (show ¬ k.toNat = T.length - 1 by omega)]
        exact h.2.2.2.2.1 k k0 k8
  · rw [mg_und hx k0 (by omega)]
    show cmac W (if _ then _ else _) _ ∧ _
    by_cases c1 : k = fnd T x
    · rw [if_pos c1, if_pos (by omega)]
      have q := h.2.2.2.2.2 (T.length - 1 : Int) (by omega) (by omega)
      rw [show ((T.length : Int) - 1).toNat = T.length - 1 by omega] at q
      exact ⟨cmac_fr q.1 f (by omega) (by omega) (by omega), q.2⟩
    · rw [if_neg c1, if_neg (by omega), if_neg (by omega)]
      have q := h.2.2.2.2.2 k k0 (by omega)
      exact ⟨cmac_fr q.1 f (by omega) (by omega) (by omega), q.2⟩
theorem c_und {sc : x_S} {d : Nat} {S : w_S} {pi : Nat → Nat} {T : List Mac} {x : Int64} (ht : ctab S pi T) (hd : 1 ≤ d) : w_T sc d 36 0 (x_en 0 [.ref 4, .long x]) [] S (fun v S2 => v = none ∧ fr (fun a => a = 4 ∨ a = 5) S S2 ∧ ∃ p2, ctab S2 p2 (und T x)) := by
  have h8 := ht.2.1
  have hfr0 := fnd_r T x
  refine w_aload_n rfl rfl rfl ?_
  refine w_lload_n rfl rfl rfl ?_
  refine w_CV (as := [.long x]) (r := []) rfl rfl rfl rfl sh_4 (Nat.le_of_ble_eq_true rfl) (Nat.le_of_ble_eq_true rfl) (by omega) rfl (c_find (x := x) ht (by omega)) ?_
  rintro _ _ ⟨rfl, hS⟩
  rw [hS]
  show w_T _ _ 36 5 _ [.int (iZ (fnd T x))] _ _
  refine w_istore_n rfl (by decide) rfl ?_
  refine w_iload_n rfl rfl rfl ?_
  refine w_if_lt (pc2 := 54) (pc3 := 10) rfl (by decide) rfl ⟨by omega, by omega⟩ (fun c7 => ?_) (fun c7 => ?_)
  · skip
    refine w_vret rfl rfl ?_
    have hu : und T x = T := by unfold und; rw [if_pos c7]
    rw [hu]
    exact ⟨rfl, fr_refl _ _, pi, ht⟩
  · skip
    refine w_aload_n rfl rfl rfl ?_
    refine w_dup rfl rfl rfl ?_
    refine w_getI (z := (T.length : Int)) rfl rfl sh_4 rfl ht.1 rfl ?_
    refine w_iconst rfl rfl ?_
    refine w_isub rfl rfl ?_
    refine w_putf rfl rfl sh_4 rfl rfl (by decide) rfl ?_
    refine w_aload_n rfl rfl rfl ?_
    refine w_getR rfl rfl sh_4 rfl rfl ?_
    refine w_aload_n rfl rfl rfl ?_
    refine w_getI (z := ((T.length : Int)) - 1) rfl rfl sh_4 rfl (rv_self _ _ _ _) rfl ?_
    refine w_aald rfl sh_5 rfl (by omega) (by omega) (by decide) (by have q := ht.2.2.2.2.1 (T.length - 1 : Int) (by omega) (by omega); rw [show ((T.length : Int) - 1).toNat = T.length - 1 by omega] at q; exact q) rfl ?_
    refine w_astore rfl (by decide) rfl ?_
    refine w_aload_n rfl rfl rfl ?_
    refine w_getR rfl rfl sh_4 rfl rfl ?_
    refine w_aload_n rfl rfl rfl ?_
    refine w_getI (z := ((T.length : Int)) - 1) rfl rfl sh_4 rfl (rv_self _ _ _ _) rfl ?_
    refine w_aload_n rfl rfl rfl ?_
    refine w_getR rfl rfl sh_4 rfl rfl ?_
    refine w_iload_n rfl rfl rfl ?_
    refine w_aald rfl sh_5 rfl (by omega) (by omega) (by decide) (ht.2.2.2.2.1 (fnd T x) (by omega) (by omega)) rfl ?_
    refine w_raS (f := sR S 5) rfl sh_5 (sh_mac (ht.2.2.1 (fnd T x).toNat (by omega))) rfl (by omega) (by omega) (by decide) rfl rfl ?_
    refine w_aload_n rfl rfl rfl ?_
    refine w_getR rfl rfl sh_4 rfl rfl ?_
    refine w_iload_n rfl rfl rfl ?_
    refine w_aload rfl rfl rfl ?_
    refine w_raS (f := w_u (sR S 5) (((T.length : Int)) - 1) (some (6 + 3 * pi (fnd T x).toNat))) rfl sh_5 (sh_mac (ht.2.2.1 (T.length - 1) (by omega))) rfl (by omega) (by omega) (by decide) (rR_self _ _ _) rfl ?_
    refine w_vret rfl rfl ?_
    refine ⟨rfl, (fr_R (fr_R (fr_v (fr_refl _ _) (by omega)) (by omega)) (by omega)), _, ctab_und ht (by omega) (fr_R (fr_R (fr_v (fr_refl _ _) (by omega)) (by omega)) (by omega)) ?_ (fun k k0 k8 => ?_)⟩
    · simp (disch := omega) only [rv_self, rv_ne, rl_self, rl_ne, rA_self, rA_ne, rL_self, rL_ne, rR_self, rR_ne, xvl, xvA, xvL, xvR, xlv, xlA, xlL, xlR, xAv, xAl, xAL, xAR, xLv, xLl, xLA, xLR, xRv, xRl, xRA, xRL]
    · simp (disch := omega) only [rv_self, rv_ne, rl_self, rl_ne, rA_self, rA_ne, rL_self, rL_ne, rR_self, rR_ne, xvl, xvA, xvL, xvR, xlv, xlA, xlL, xlR, xAv, xAl, xAL, xAR, xLv, xLl, xLA, xLR, xRv, xRl, xRA, xRL]
      by_cases c1 : k = fnd T x
      · rw [c1, if_pos rfl, w_u_self]
      · rw [if_neg c1, w_u_ne _ _ c1]
        by_cases c2 : k = T.length - 1
        · rw [c2, if_pos rfl, w_u_self]
        · rw [if_neg c2, w_u_ne _ _ c2]
