/-! What a body gives (class). -/
theorem fw_snoc {nm : Nat → Int64} {X : Int → Int64} {O : Int → Int} {i : Int} {l : List ETok} {e : ETok} (h : fw nm X O i l) : fw nm (w_u X (i + l.length) e.1) (w_u O (i + l.length) (eo nm e)) i (l ++ [e]) :=
  (fw_app l [e] i).mpr ⟨fw_fr l i (fun j a b => ⟨w_u_ne _ _ (by omega), w_u_ne _ _ (by omega)⟩) h, w_u_self _ _ _, w_u_self _ _ _, trivial⟩
theorem bw_push {nm : Nat → Int64} {X : Int → Int64} {O : Int → Int} {i : Int} {l : List ETok} {e : ETok} (h : bw nm X O i l) : bw nm (w_u X i e.1) (w_u O i (eo nm e)) (i + 1) (e :: l) := by
  refine ⟨?_, ?_, ?_⟩
  · rw [show i + 1 - 1 = i by omega]
    exact w_u_self _ _ _
  · rw [show i + 1 - 1 = i by omega]
    exact w_u_self _ _ _
  · rw [show i + 1 - 1 = i by omega]
    exact bw_fr l i (fun j a b => ⟨w_u_ne _ _ (by omega), w_u_ne _ _ (by omega)⟩) h
def eok (e : ETok) : Prop := 0 < e.1.toInt ∧ 0 ≤ e.2.1 ∧ e.2.1 ≤ 4000
def loks (l : List ETok) : Prop := ∀ x, x ∈ l → eok x
theorem loks_app {l k : List ETok} (h1 : loks l) (h2 : loks k) : loks (l ++ k) := fun x hx => (List.mem_append.mp hx).elim (h1 x) (h2 x)
theorem wlN_lt : ∀ (n : Nat) (v : Int), 0 ≤ v → v < 128 ^ n → v < 128 ^ (wlN n v).toNat
  | 0, v, h0, h1 => by
    show v < 128 ^ 0
    exact h1
  | n + 1, v, h0, h1 => by
    by_cases h : 0 < v
    · rw [wlN_s n h]
      have hn := wlN_n n (v / 128)
      rw [show (1 + wlN n (v / 128)).toNat = (wlN n (v / 128)).toNat + 1 by omega, Int.pow_succ]
      have h2 : v / 128 < 128 ^ n := by
        rw [Int.ediv_lt_iff_lt_mul (by decide)]
        rw [Int.pow_succ] at h1
        exact h1
      have := wlN_lt n (v / 128) (Int.ediv_nonneg h0 (by decide)) h2
      omega
    · rw [wlN_0 _ (by omega)]
      show v < 128 ^ 0
      simp
      omega
theorem wl_lt {x : Int64} (h : 0 ≤ x.toInt) : x.toInt < 128 ^ (wl x).toNat := wlN_lt 10 _ h (by have := i64_lt x; omega)
theorem wl_pos {x : Int64} (h : 0 < x.toInt) : 1 ≤ wl x := by
  unfold wl
  rw [wlN_s 9 h]
  have := wlN_n 9 (x.toInt / 128)
  omega
theorem jt_val {a b : Int64} (ha : 0 < a.toInt) (hb : 0 < b.toInt) (hl : wl a + wl b ≤ 9) : (lshl a (7 * wl b) + b).toInt = a.toInt * 128 ^ (wl b).toNat + b.toInt ∧ a.toInt * 128 ^ (wl b).toNat + b.toInt < 128 ^ (wl a + wl b).toNat ∧ a.toInt * 128 ^ (wl b).toNat + b.toInt < 9223372036854775808 ∧ (lshl a (7 * wl b)).toInt = a.toInt * 2 ^ (7 * (wl b).toNat) ∧ b.toInt < 2 ^ (7 * (wl b).toNat) := by
  have a0 := wl_0 a
  have b0 := wl_0 b
  have a1 := wl_pos ha
  have h1 := wl_lt (x := a) (by omega)
  have h2 := wl_lt (x := b) (by omega)
  have e2 : (2 : Int) ^ (7 * (wl b).toNat) = 128 ^ (wl b).toNat := by
    rw [Int.pow_mul, show (2 : Int) ^ 7 = 128 from rfl]
  have hpos : (0 : Int) < 128 ^ (wl b).toNat := Int.pow_pos (by decide)
  have h3 : a.toInt * 128 ^ (wl b).toNat + b.toInt < 128 ^ (wl a + wl b).toNat := by
    rw [show (wl a + wl b).toNat = (wl a).toNat + (wl b).toNat by omega, Int.pow_add]
    have : (a.toInt + 1) * 128 ^ (wl b).toNat ≤ 128 ^ (wl a).toNat * 128 ^ (wl b).toNat := Int.mul_le_mul_of_nonneg_right (by omega) (Int.le_of_lt hpos)
    rw [Int.add_mul, Int.one_mul] at this
    omega
  have h4 : a.toInt * 128 ^ (wl b).toNat + b.toInt < 9223372036854775808 := by
    have : (128 : Int) ^ (wl a + wl b).toNat ≤ 9223372036854775808 := by
      have : (wl a + wl b).toNat = 0 ∨ (wl a + wl b).toNat = 1 ∨ (wl a + wl b).toNat = 2 ∨ (wl a + wl b).toNat = 3 ∨ (wl a + wl b).toNat = 4 ∨ (wl a + wl b).toNat = 5 ∨ (wl a + wl b).toNat = 6 ∨ (wl a + wl b).toNat = 7 ∨ (wl a + wl b).toNat = 8 ∨ (wl a + wl b).toNat = 9 := by omega
      rcases this with e | e | e | e | e | e | e | e | e | e <;> (rw [e]; decide)
    omega
  have h5 : (lshl a (7 * wl b)).toInt = a.toInt * 2 ^ (7 * (wl b).toNat) := by
    rw [lshl_toInt (by omega) (by omega) (by omega) (by rw [show (7 * wl b).toNat = 7 * (wl b).toNat by omega, e2]; omega), show (7 * wl b).toNat = 7 * (wl b).toNat by omega]
  have h6 : 0 ≤ a.toInt * 128 ^ (wl b).toNat := Int.mul_nonneg (by omega) (Int.le_of_lt hpos)
  refine ⟨?_, h3, h4, h5, by rw [e2]; exact h2⟩
  rw [ladd_toInt (by rw [h5, e2]; exact h6) (by omega) (by rw [h5, e2]; exact h4), h5, e2]
theorem jt_pos {a b x : Int64} (ha : 0 < a.toInt) (hb : 0 < b.toInt) (h : jt a b = some x) : 0 < x.toInt := by
  unfold jt at h
  split at h
  · rename_i q
    cases h
    rw [(jt_val ha hb q.2).1]
    have : 0 ≤ a.toInt * 128 ^ (wl b).toNat := Int.mul_nonneg (by omega) (Int.le_of_lt (Int.pow_pos (by decide)))
    omega
  · cases h
def argo (nm : Nat → Int64) (X : Int → Int64) (O : Int → Int) (F G : Int → Int) (p : Int) (os : List (List ETok)) : Prop := ∀ k : Nat, k < os.length → k < 3 → fw nm X O (F k) (os.getD k []) ∧ G k = F k + (os.getD k []).length ∧ 0 ≤ F k ∧ G k ≤ p
def brow (e : Mac) (as os : List (List ETok)) (pl i : Int) : List ETok := if lix e.2.2.1 (lg e.2.2.2 i) < 0 then [(lg e.2.2.2 i, pl, fun _ => false)] else if pas e.2.2.2 (i - 1) = true ∨ pas e.2.2.2 (i + 1) = true then as.getD (lix e.2.2.1 (lg e.2.2.2 i)).toNat [] else os.getD (lix e.2.2.1 (lg e.2.2.2 i)).toNat []
theorem eo_plain (nm : Nat → Int64) (x : Int64) (p : Int) : eo nm (x, p, fun _ => false) = p * 256 + 0 := by
  unfold eo
  rw [hs_none]
  rfl
theorem c_arow_c {sc : x_S} {d : Nat} {S : w_S} {T : List Mac} {u q : Nat} {e : Mac} {base top pl : Int} {as os : List (List ETok)} {i : Int} {l : List ETok} (hq : q < 31) (hu : u < 8) (hk : cmac S u e) (ho : mok e) (har : argr (nmT T) (sL S 34) (sA S 35) (sA S (44 + 5 * q)) (sA S (45 + 5 * q)) base top as) (hag : argo (nmT T) (sL S 37) (sA S 38) (sA S (46 + 5 * q)) (sA S (47 + 5 * q)) (sv S 36 2) os) (hca : e.2.2.1.length ≤ as.length) (hco : e.2.2.1.length ≤ os.length) (ha4 : ∀ k, (as.getD k []).length ≤ 40) (ho4 : ∀ k, (os.getD k []).length ≤ 40) (b0 : 0 ≤ base) (tp : top ≤ sv S 33 2) (hP : sv S 33 2 ≤ 1360) (hD : sv S 36 2 ≤ 1360) (i0 : 0 ≤ i) (i1 : i < e.2.2.2.length) (hz : sv S 39 2 = l.length) (hw : fw (nmT T) (sL S 40) (sA S 41) 0 l) (hll : (l.length : Int) ≤ 440) (hd : 1 ≤ d) : ∀ n : Nat, (∀ (k : Int) (j : Int) (l2 : List ETok) (rs : List ETok) (U : w_S) (lv : x_L) (l0 : lv 0 = some (.ref 3)) (l3 : lv 3 = some (.ref (43 + 5 * q))) (l5 : lv 5 = some (.int (iZ k))) (l6 : lv 6 = some (.int (iZ j))) (hfr : fr (fun a => a = 39 ∨ a = 40 ∨ a = 41) S U) (hz : sv U 39 2 = l2.length) (hw : fw (nmT T) (sL U 40) (sA U 41) 0 l2) (he : l2 ++ rs = l ++ brow e as os pl i) (hl : (l2.length : Int) + rs.length ≤ 480) (k0 : 0 ≤ k ∧ k < 3) (hb : bw (nmT T) (sL S 34) (sA S 35) (j + 1) rs) (hj : (rs.length : Int) = j + 1 - sA S (44 + 5 * q) k) (hj2 : j < sv S 33 2 ∧ -1 ≤ j ∧ 0 ≤ sA S (44 + 5 * q) k) (hm : (j + 1).toNat < n), w_T sc d 28 62 lv [] U (fun v S2 => v = none ∧ fr (fun a => a = 39 ∨ a = 40 ∨ a = 41) S S2 ∧ sv S2 39 2 = (l ++ brow e as os pl i).length ∧ fw (nmT T) (sL S2 40) (sA S2 41) 0 (l ++ brow e as os pl i))) ∧ (∀ (k : Int) (j : Int) (l2 : List ETok) (rs : List ETok) (U : w_S) (lv : x_L) (l0 : lv 0 = some (.ref 3)) (l3 : lv 3 = some (.ref (43 + 5 * q))) (l5 : lv 5 = some (.int (iZ k))) (l6 : lv 6 = some (.int (iZ j))) (hfr : fr (fun a => a = 39 ∨ a = 40 ∨ a = 41) S U) (hz : sv U 39 2 = l2.length) (hw : fw (nmT T) (sL U 40) (sA U 41) 0 l2) (he : l2 ++ rs = l ++ brow e as os pl i) (hl : (l2.length : Int) + rs.length ≤ 480) (k0 : 0 ≤ k ∧ k < 3) (hb : fw (nmT T) (sL S 37) (sA S 38) j rs) (hj : (rs.length : Int) = sA S (47 + 5 * q) k - j) (hj2 : sA S (47 + 5 * q) k ≤ sv S 36 2 ∧ 0 ≤ j) (hm : (1400 - j).toNat < n), w_T sc d 28 105 lv [] U (fun v S2 => v = none ∧ fr (fun a => a = 39 ∨ a = 40 ∨ a = 41) S S2 ∧ sv S2 39 2 = (l ++ brow e as os pl i).length ∧ fw (nmT T) (sL S2 40) (sA S2 41) 0 (l ++ brow e as os pl i))) := by
  intro n
  induction n with
  | zero => exact ⟨fun k j l2 rs U lv l0 l3 l5 l6 hfr hz hw he hl k0 hb hj hj2 hm => absurd hm (Nat.not_lt_zero _), fun k j l2 rs U lv l0 l3 l5 l6 hfr hz hw he hl k0 hb hj hj2 hm => absurd hm (Nat.not_lt_zero _)⟩
  | succ n ih =>
    refine ⟨?_, ?_⟩
    · skip
      intro k j l2 rs U lv l0 l3 l5 l6 hfr hz hw he hl k0 hb hj hj2 hm
      have eP : sv U 33 2 = sv S 33 2 := fr_gv hfr (by omega) 2
      have eD : sv U 36 2 = sv S 36 2 := fr_gv hfr (by omega) 2
      have e34 : sL U 34 = sL S 34 := fr_gL hfr (by omega)
      have e35 : sA U 35 = sA S 35 := fr_gA hfr (by omega)
      have e37 : sL U 37 = sL S 37 := fr_gL hfr (by omega)
      have e38 : sA U 38 = sA S 38 := fr_gA hfr (by omega)
      have e44 : sA U (44 + 5 * q) k = sA S (44 + 5 * q) k := by rw [fr_gA hfr (by omega)]
      have e47 : sA U (47 + 5 * q) k = sA S (47 + 5 * q) k := by rw [fr_gA hfr (by omega)]
      refine w_iload rfl l6 rfl ?_
      refine w_aload_n rfl l3 rfl ?_
      refine w_getR rfl rfl (sh_arg hq) rfl rfl ?_
      refine w_iload rfl l5 rfl ?_
      refine w_iald (z := sA U (44 + 5 * q) k) rfl (sh_arg1 hq) (by omega) (by omega) (by decide) rfl rfl ?_
      refine w_ic_lt (pc2 := 93) (pc3 := 74) rfl (by decide) rfl ⟨by omega, by omega⟩ ⟨by omega, by omega⟩ (fun c71 => ?_) (fun c71 => ?_)
      · skip
        refine w_goto (pc2 := 136) rfl (by decide) ?_
        refine w_vret rfl rfl ?_
        have hnil : rs = [] := List.eq_nil_of_length_eq_zero (by omega)
        rw [hnil, List.append_nil] at he
        rw [← he]
        exact ⟨rfl, hfr, hz, hw⟩
      · skip
        cases rs with
        | nil => exact absurd hj (by simp; omega)
        | cons x rs2 =>
        have hx1 : sL U 34 j = x.1 := by rw [e34, show j = j + 1 - 1 by omega]; exact hb.1
        have hx2 : sA U 35 j = eo (nmT T) x := by rw [e35, show j = j + 1 - 1 by omega]; exact hb.2.1
        simp only [List.length_cons] at hl hj
        refine w_aload_n rfl l0 rfl ?_
        refine w_getR rfl rfl sh_3 rfl rfl ?_
        refine w_aload_n rfl l0 rfl ?_
        refine w_getR rfl rfl sh_3 rfl rfl ?_
        refine w_iload rfl l6 rfl ?_
        refine w_CV (as := [.ref 33, .int (iZ j)]) (r := []) rfl rfl rfl rfl sh_39 (Nat.le_of_ble_eq_true rfl) (Nat.le_of_ble_eq_true rfl) (by omega) rfl (c_adf (a := 39) (b := 40) (c := 41) (n := 480) (a2 := 33) (b2 := 34) (c2 := 35) (n2 := 1360) (i := j) ⟨sh_39, sh_40, sh_41⟩ (by omega) (by omega) (by decide) ⟨sh_33, sh_34, sh_35⟩ (by decide) (by omega) (by omega) (by omega) (by omega)) ?_
        rintro _ _ ⟨rfl, hS⟩
        rw [hS]
        show w_T _ _ 28 87 _ [] _ _
        refine w_iinc rfl l6 (by decide) rfl ?_
        refine w_goto (pc2 := 62) rfl (by decide) ?_
        exact ih.1 k (j + (-1)) ((l2 ++ [x])) rs2 _ _ (by exact l0) (by exact l3) (by exact (congrArg x_k2 l5)) (by exact rfl) (by exact (fr_v (fr_A (fr_L hfr (by omega)) (by omega)) (by omega))) (by simp (disch := omega) only [rv_self, rv_ne, rl_self, rl_ne, rA_self, rA_ne, rL_self, rL_ne, rR_self, rR_ne, xvl, xvA, xvL, xvR, xlv, xlA, xlL, xlR, xAv, xAl, xAL, xAR, xLv, xLl, xLA, xLR, xRv, xRl, xRA, xRL]; rw [hz, List.length_append]; rfl) (by simp (disch := omega) only [rv_self, rv_ne, rl_self, rl_ne, rA_self, rA_ne, rL_self, rL_ne, rR_self, rR_ne, xvl, xvA, xvL, xvR, xlv, xlA, xlL, xlR, xAv, xAl, xAL, xAR, xLv, xLl, xLA, xLR, xRv, xRl, xRA, xRL]; rw [hz]; have z := fw_snoc (e := x) hw; rw [Int.zero_add] at z; rw [hx1, hx2]; exact z) (by rw [← he, List.append_assoc]; rfl) (by rw [List.length_append]; simp only [List.length_cons, List.length_nil]; omega) (by omega) (by rw [show j + -1 + 1 = j + 1 - 1 by omega]; exact hb.2.2) (by omega) (by omega) (by omega)
    · skip
      intro k j l2 rs U lv l0 l3 l5 l6 hfr hz hw he hl k0 hb hj hj2 hm
      have eP : sv U 33 2 = sv S 33 2 := fr_gv hfr (by omega) 2
      have eD : sv U 36 2 = sv S 36 2 := fr_gv hfr (by omega) 2
      have e34 : sL U 34 = sL S 34 := fr_gL hfr (by omega)
      have e35 : sA U 35 = sA S 35 := fr_gA hfr (by omega)
      have e37 : sL U 37 = sL S 37 := fr_gL hfr (by omega)
      have e38 : sA U 38 = sA S 38 := fr_gA hfr (by omega)
      have e44 : sA U (44 + 5 * q) k = sA S (44 + 5 * q) k := by rw [fr_gA hfr (by omega)]
      have e47 : sA U (47 + 5 * q) k = sA S (47 + 5 * q) k := by rw [fr_gA hfr (by omega)]
      refine w_iload rfl l6 rfl ?_
      refine w_aload_n rfl l3 rfl ?_
      refine w_getR rfl rfl (sh_arg hq) rfl rfl ?_
      refine w_iload rfl l5 rfl ?_
      refine w_iald (z := sA U (47 + 5 * q) k) rfl (sh_arg4 hq) (by omega) (by omega) (by decide) rfl rfl ?_
      refine w_ic_ge (pc2 := 136) (pc3 := 117) rfl (by decide) rfl ⟨by omega, by omega⟩ ⟨by omega, by omega⟩ (fun c114 => ?_) (fun c114 => ?_)
      · skip
        refine w_vret rfl rfl ?_
        have hnil : rs = [] := List.eq_nil_of_length_eq_zero (by omega)
        rw [hnil, List.append_nil] at he
        rw [← he]
        exact ⟨rfl, hfr, hz, hw⟩
      · skip
        cases rs with
        | nil => exact absurd hj (by simp; omega)
        | cons x rs2 =>
        have hx1 : sL U 37 j = x.1 := by rw [e37]; exact hb.1
        have hx2 : sA U 38 j = eo (nmT T) x := by rw [e38]; exact hb.2.1
        simp only [List.length_cons] at hl hj
        refine w_aload_n rfl l0 rfl ?_
        refine w_getR rfl rfl sh_3 rfl rfl ?_
        refine w_aload_n rfl l0 rfl ?_
        refine w_getR rfl rfl sh_3 rfl rfl ?_
        refine w_iload rfl l6 rfl ?_
        refine w_CV (as := [.ref 36, .int (iZ j)]) (r := []) rfl rfl rfl rfl sh_39 (Nat.le_of_ble_eq_true rfl) (Nat.le_of_ble_eq_true rfl) (by omega) rfl (c_adf (a := 39) (b := 40) (c := 41) (n := 480) (a2 := 36) (b2 := 37) (c2 := 38) (n2 := 1360) (i := j) ⟨sh_39, sh_40, sh_41⟩ (by omega) (by omega) (by decide) ⟨sh_36, sh_37, sh_38⟩ (by decide) (by omega) (by omega) (by omega) (by omega)) ?_
        rintro _ _ ⟨rfl, hS⟩
        rw [hS]
        show w_T _ _ 28 130 _ [] _ _
        refine w_iinc rfl l6 (by decide) rfl ?_
        refine w_goto (pc2 := 105) rfl (by decide) ?_
        exact ih.2 k (j + 1) ((l2 ++ [x])) rs2 _ _ (by exact l0) (by exact l3) (by exact (congrArg x_k2 l5)) (by exact rfl) (by exact (fr_v (fr_A (fr_L hfr (by omega)) (by omega)) (by omega))) (by simp (disch := omega) only [rv_self, rv_ne, rl_self, rl_ne, rA_self, rA_ne, rL_self, rL_ne, rR_self, rR_ne, xvl, xvA, xvL, xvR, xlv, xlA, xlL, xlR, xAv, xAl, xAL, xAR, xLv, xLl, xLA, xLR, xRv, xRl, xRA, xRL]; rw [hz, List.length_append]; rfl) (by simp (disch := omega) only [rv_self, rv_ne, rl_self, rl_ne, rA_self, rA_ne, rL_self, rL_ne, rR_self, rR_ne, xvl, xvA, xvL, xvR, xlv, xlA, xlL, xlR, xAv, xAl, xAL, xAR, xLv, xLl, xLA, xLR, xRv, xRl, xRA, xRL]; rw [hz]; have z := fw_snoc (e := x) hw; rw [Int.zero_add] at z; rw [hx1, hx2]; exact z) (by rw [← he, List.append_assoc]; rfl) (by rw [List.length_append]; simp only [List.length_cons, List.length_nil]; omega) (by omega) (by exact hb.2.2) (by omega) (by omega) (by omega)
theorem c_arow {sc : x_S} {d : Nat} {S : w_S} {T : List Mac} {u q : Nat} {e : Mac} {base top pl : Int} {as os : List (List ETok)} {i : Int} {l : List ETok} (hq : q < 31) (hu : u < 8) (hk : cmac S u e) (ho : mok e) (har : argr (nmT T) (sL S 34) (sA S 35) (sA S (44 + 5 * q)) (sA S (45 + 5 * q)) base top as) (hag : argo (nmT T) (sL S 37) (sA S 38) (sA S (46 + 5 * q)) (sA S (47 + 5 * q)) (sv S 36 2) os) (hca : e.2.2.1.length ≤ as.length) (hco : e.2.2.1.length ≤ os.length) (ha4 : ∀ k, (as.getD k []).length ≤ 40) (ho4 : ∀ k, (os.getD k []).length ≤ 40) (b0 : 0 ≤ base) (tp : top ≤ sv S 33 2) (hP : sv S 33 2 ≤ 1360) (hD : sv S 36 2 ≤ 1360) (i0 : 0 ≤ i) (i1 : i < e.2.2.2.length) (hz : sv S 39 2 = l.length) (hw : fw (nmT T) (sL S 40) (sA S 41) 0 l) (hll : (l.length : Int) ≤ 440) (hd : 1 ≤ d) : w_T sc d 28 0 (x_en 0 [.ref 3, .ref (6 + 3 * u), .int (iZ i), .ref (43 + 5 * q), .int (iZ pl)]) [] S (fun v S2 => v = none ∧ fr (fun a => a = 39 ∨ a = 40 ∨ a = 41) S S2 ∧ sv S2 39 2 = (l ++ brow e as os pl i).length ∧ fw (nmT T) (sL S2 40) (sA S2 41) 0 (l ++ brow e as os pl i)) := by
  have h12 := ho.2.1
  have h3 := ho.1
  have hlr := lix_r e.2.2.1 (lg e.2.2.2 i)
  refine w_aload_n rfl rfl rfl ?_
  refine w_iload_n rfl rfl rfl ?_
  refine w_CV (as := [.int (iZ i)]) (r := []) rfl rfl rfl rfl (sh_mac hu) (Nat.le_of_ble_eq_true rfl) (Nat.le_of_ble_eq_true rfl) (by omega) rfl (c_par (u := u) (e := e) (i := i) hu hk ho (by omega) (by omega) (by omega)) ?_
  rintro _ _ ⟨rfl, hS⟩
  rw [hS]
  show w_T _ _ 28 5 _ [.int (iZ (lix e.2.2.1 (lg e.2.2.2 (i))))] _ _
  generalize hkp : (lix e.2.2.1 (lg e.2.2.2 (i))) = kp
  rw [hkp] at hlr
  refine w_istore rfl (by decide) rfl ?_
  refine w_iload rfl rfl rfl ?_
  refine w_if_ge (pc2 := 31) (pc3 := 12) rfl (by decide) rfl ⟨by omega, by omega⟩ (fun c9 => ?_) (fun c9 => ?_)
  · skip
    refine w_aload_n rfl rfl rfl ?_
    refine w_iload_n rfl rfl rfl ?_
    refine w_iconst rfl rfl ?_
    refine w_isub rfl rfl ?_
    refine w_CV (as := [.int (iZ (i - 1))]) (r := []) rfl rfl rfl rfl (sh_mac hu) (Nat.le_of_ble_eq_true rfl) (Nat.le_of_ble_eq_true rfl) (by omega) rfl (c_pas (u := u) (e := e) (i := i - 1) hu hk ho (by omega) (by omega) (by omega)) ?_
    rintro _ _ ⟨rfl, hS⟩
    rw [hS]
    show w_T _ _ 28 38 _ [.int (iZ (zB (pas e.2.2.2 (i - 1))))] _ _
    apply w_br (A := w_T _ _ 28 51 _ [] _ _) (B := w_T _ _ 28 96 _ [] _ _) ((pas e.2.2.2 (i - 1)) = true ∨ (pas e.2.2.2 (i + 1)) = true)
    · intro kT1 kT2
      refine w_b_ne (pc2 := 51) (pc3 := 41) rfl (by decide) rfl (fun q1 => ?_) (fun q1 => ?_)
      · skip
        exact kT1 (Or.inl q1)
      · skip
        refine w_aload_n rfl rfl rfl ?_
        refine w_iload_n rfl rfl rfl ?_
        refine w_iconst rfl rfl ?_
        refine w_iadd rfl rfl ?_
        refine w_CV (as := [.int (iZ (i + 1))]) (r := []) rfl rfl rfl rfl (sh_mac hu) (Nat.le_of_ble_eq_true rfl) (Nat.le_of_ble_eq_true rfl) (by omega) rfl (c_pas (u := u) (e := e) (i := i + 1) hu hk ho (by omega) (by omega) (by omega)) ?_
        rintro _ _ ⟨rfl, hS⟩
        rw [hS]
        show w_T _ _ 28 48 _ [.int (iZ (zB (pas e.2.2.2 (i + 1))))] _ _
        refine w_b_eq (pc2 := 96) (pc3 := 51) rfl (by decide) rfl (fun q2 => ?_) (fun q2 => ?_)
        · skip
          exact kT2 (not_or.mpr ⟨(Bool.eq_false_iff.mp q1), (Bool.eq_false_iff.mp q2)⟩)
        · skip
          exact kT1 (Or.inr q2)
    · intro c38
      have hak := har kp.toNat (by omega) (by omega)
      have hkk : ((kp.toNat : Nat) : Int) = kp := Int.toNat_of_nonneg (by omega)
      rw [hkk] at hak
      have hbr : brow e as os pl i = as.getD kp.toNat [] := by
        unfold brow
        rw [hkp, if_neg (by omega), if_pos c38]
      refine w_aload_n rfl rfl rfl ?_
      refine w_getR rfl rfl (sh_arg hq) rfl rfl ?_
      refine w_iload rfl rfl rfl ?_
      refine w_iald (z := sA S (45 + 5 * q) kp) rfl (sh_arg2 hq) (by omega) (by omega) (by decide) rfl rfl ?_
      refine w_iconst rfl rfl ?_
      refine w_isub rfl rfl ?_
      refine w_istore rfl (by decide) rfl ?_
      exact (c_arow_c hq hu hk ho har hag hca hco ha4 ho4 b0 tp hP hD i0 i1 hz hw hll hd _).1 kp ((sA S (45 + 5 * q) kp) - 1) l (as.getD kp.toNat []) _ _ rfl rfl rfl rfl (by exact (fr_refl _ _)) (by exact hz) (by exact hw) (by rw [hbr]) (by have := ha4 kp.toNat; omega) (by omega) (by rw [show sA S (45 + 5 * q) kp - 1 + 1 = sA S (45 + 5 * q) kp by omega]; exact hak.1) (by omega) (by omega) (Nat.lt_succ_self _)
    · intro c38
      have hok := hag kp.toNat (by omega) (by omega)
      have hkk : ((kp.toNat : Nat) : Int) = kp := Int.toNat_of_nonneg (by omega)
      rw [hkk] at hok
      have hbr : brow e as os pl i = os.getD kp.toNat [] := by
        unfold brow
        rw [hkp, if_neg (by omega), if_neg c38]
      refine w_aload_n rfl rfl rfl ?_
      refine w_getR rfl rfl (sh_arg hq) rfl rfl ?_
      refine w_iload rfl rfl rfl ?_
      refine w_iald (z := sA S (46 + 5 * q) kp) rfl (sh_arg3 hq) (by omega) (by omega) (by decide) rfl rfl ?_
      refine w_istore rfl (by decide) rfl ?_
      exact (c_arow_c hq hu hk ho har hag hca hco ha4 ho4 b0 tp hP hD i0 i1 hz hw hll hd _).2 kp (sA S (46 + 5 * q) kp) l (os.getD kp.toNat []) _ _ rfl rfl rfl rfl (by exact (fr_refl _ _)) (by exact hz) (by exact hw) (by rw [hbr]) (by have := ho4 kp.toNat; omega) (by omega) (by exact hok.1) (by omega) (by omega) (Nat.lt_succ_self _)
  · skip
    refine w_aload_n rfl rfl rfl ?_
    refine w_getR rfl rfl sh_3 rfl rfl ?_
    refine w_aload_n rfl rfl rfl ?_
    refine w_getR rfl rfl (sh_mac hu) rfl rfl ?_
    refine w_iload_n rfl rfl rfl ?_
    refine w_lald (z := sL S (8 + 3 * u) i) rfl (sh_mac2 hu) (by omega) (by omega) (by decide) rfl rfl ?_
    refine w_iload rfl rfl rfl ?_
    refine w_iconst rfl rfl ?_
    refine w_CV (as := [.long (sL S (8 + 3 * u) i), .int (iZ pl), .int (iZ 0)]) (r := []) rfl rfl rfl rfl sh_39 (Nat.le_of_ble_eq_true rfl) (Nat.le_of_ble_eq_true rfl) (by omega) rfl (c_add (a := 39) (b := 40) (c := 41) (n := 480) ⟨sh_39, sh_40, sh_41⟩ (by (try simp (disch := omega) only [rv_self, rv_ne, rl_self, rl_ne, rA_self, rA_ne, rL_self, rL_ne, rR_self, rR_ne, xvl, xvA, xvL, xvR, xlv, xlA, xlL, xlR, xAv, xAl, xAL, xAR, xLv, xLl, xLA, xLR, xRv, xRl, xRA, xRL]); omega) (by (try simp (disch := omega) only [rv_self, rv_ne, rl_self, rl_ne, rA_self, rA_ne, rL_self, rL_ne, rR_self, rR_ne, xvl, xvA, xvL, xvR, xlv, xlA, xlL, xlR, xAv, xAl, xAL, xAR, xLv, xLl, xLA, xLR, xRv, xRl, xRA, xRL]); omega) (by decide) (by omega)) ?_
    rintro _ _ ⟨rfl, hS⟩
    rw [hS]
    show w_T _ _ 28 28 _ [] _ _
    refine w_goto (pc2 := 136) rfl (by decide) ?_
    refine w_vret rfl rfl ?_
    have hbr : brow e as os pl i = [(lg e.2.2.2 i, pl, fun _ => false)] := by
      unfold brow
      rw [hkp, if_pos c9]
    rw [hbr]
    refine ⟨rfl, (fr_v (fr_A (fr_L (fr_refl _ _) (by omega)) (by omega)) (by omega)), ?_, ?_⟩
    · simp (disch := omega) only [rv_self, rv_ne, rl_self, rl_ne, rA_self, rA_ne, rL_self, rL_ne, rR_self, rR_ne, xvl, xvA, xvL, xvR, xlv, xlA, xlL, xlR, xAv, xAl, xAL, xAR, xLv, xLl, xLA, xLR, xRv, xRl, xRA, xRL]
      rw [hz, List.length_append]
      rfl
    · simp (disch := omega) only [rv_self, rv_ne, rl_self, rl_ne, rA_self, rA_ne, rL_self, rL_ne, rR_self, rR_ne, xvl, xvA, xvL, xvR, xlv, xlA, xlL, xlR, xAv, xAl, xAL, xAR, xLv, xLl, xLA, xLR, xRv, xRl, xRA, xRL]
      rw [hz]
      have z := fw_snoc (e := (lg e.2.2.2 i, pl, fun _ => false)) hw
      rw [Int.zero_add, eo_plain] at z
      rw [hk.2.2.2.2.2 i i0 i1]
      exact z
