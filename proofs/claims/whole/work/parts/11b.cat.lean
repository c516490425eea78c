/-! Letters of joined words; pasting (reference). -/
theorem wlN_cat : ∀ (k n : Nat) (a b : Int), 0 < a → 0 ≤ b → b < 128 ^ k → wlN (n + k) (a * 128 ^ k + b) = k + wlN n a
  | 0, n, a, b, ha, hb, hk => by
    rw [Int.pow_zero] at hk
    rw [show b = 0 by omega, Int.pow_zero, Int.mul_one, Int.add_zero, Nat.add_zero]
    omega
  | k + 1, n, a, b, ha, hb, hk => by
    have hp : (0 : Int) < 128 ^ k := Int.pow_pos (by decide)
    have h1 : 0 < a * 128 ^ k := Int.mul_pos ha hp
    have e : a * 128 ^ (k + 1) + b = (a * 128 ^ k) * 128 + b := by rw [Int.pow_succ, Int.mul_assoc]
    rw [e, show n + (k + 1) = (n + k) + 1 by omega, wlN_s _ (by omega)]
    have h2 : ((a * 128 ^ k) * 128 + b) / 128 = a * 128 ^ k + b / 128 := by omega
    rw [Int.pow_succ] at hk
    rw [h2, wlN_cat k n a (b / 128) ha (by omega) (by omega)]
    omega
theorem wlN_fuel : ∀ (n m : Nat) (a : Int), a < 128 ^ n → wlN (n + m) a = wlN n a
  | 0, m, a, h => by
    rw [Int.pow_zero] at h
    rw [wlN_0 _ (by omega), wlN_0 _ (by omega)]
  | n + 1, m, a, h => by
    by_cases h0 : 0 < a
    · rw [show n + 1 + m = (n + m) + 1 by omega, wlN_s _ h0, wlN_s _ h0]
      rw [Int.pow_succ] at h
      rw [wlN_fuel n m (a / 128) (by omega)]
    · rw [wlN_0 _ (by omega), wlN_0 _ (by omega)]
theorem pow_ge {a b : Nat} (h : a ≤ b) : (128 : Int) ^ a ≤ 128 ^ b := by
  obtain ⟨c, rfl⟩ : ∃ c, b = a + c := ⟨b - a, by omega⟩
  rw [Int.pow_add]
  have h1 : (0 : Int) < 128 ^ a := Int.pow_pos (by decide)
  have h2 : (0 : Int) < 128 ^ c := Int.pow_pos (by decide)
  have h3 := Int.mul_le_mul_of_nonneg_left (show (1 : Int) ≤ 128 ^ c by omega) (Int.le_of_lt h1)
  rw [Int.mul_one] at h3
  exact h3
theorem lshr_128 {x : Int64} {j : Int} (h0 : 0 ≤ j) (h1 : j ≤ 9) : (lshr x (7 * j)).toInt = x.toInt / 128 ^ j.toNat := by
  rw [lshr_toInt (by omega) (by omega), show (7 * j).toNat = 7 * j.toNat by omega, Int.pow_mul, show (2 : Int) ^ 7 = 128 from rfl]
section CAT
variable {a b y : Int64} (ha : 0 < a.toInt) (hb : 0 < b.toInt) (hl : wl a + wl b ≤ 9) (hy : y.toInt = a.toInt * 128 ^ (wl b).toNat + b.toInt)
theorem cat_wl (ha : 0 < a.toInt) (hb : 0 < b.toInt) (hl : wl a + wl b ≤ 9) (hy : y.toInt = a.toInt * 128 ^ (wl b).toNat + b.toInt) : wl y = wl a + wl b := by
  have a0 := wl_0 a
  have b0 := wl_0 b
  have h1 := wl_lt (x := a) (by omega)
  have h2 := wl_lt (x := b) (by omega)
  unfold wl at hl ⊢
  rw [hy]
  unfold wl at h2 h1 a0 b0
  have e := wlN_cat (wlN 10 b.toInt).toNat (10 - (wlN 10 b.toInt).toNat) a.toInt b.toInt ha (by omega) h2
  rw [show 10 - (wlN 10 b.toInt).toNat + (wlN 10 b.toInt).toNat = 10 by omega] at e
  unfold wl
  rw [e]
  have h3 : a.toInt < 128 ^ (10 - (wlN 10 b.toInt).toNat) := by
    have := pow_ge (a := (wlN 10 a.toInt).toNat) (b := 10 - (wlN 10 b.toInt).toNat) (by omega)
    omega
  have e2 := wlN_fuel (10 - (wlN 10 b.toInt).toNat) (wlN 10 b.toInt).toNat a.toInt h3
  rw [show 10 - (wlN 10 b.toInt).toNat + (wlN 10 b.toInt).toNat = 10 by omega] at e2
  rw [← e2]
  omega
theorem wc_div {x : Int64} {i : Int} (h0 : 0 ≤ i) (h1 : i < wl x) : wc x i = x.toInt / 128 ^ (wl x - 1 - i).toNat % 128 := by
  have := wl_9 x
  unfold wc
  rw [if_neg (by omega), lshr_128 (by omega) (by omega)]
theorem cat_wc1 (ha : 0 < a.toInt) (hb : 0 < b.toInt) (hl : wl a + wl b ≤ 9) (hy : y.toInt = a.toInt * 128 ^ (wl b).toNat + b.toInt) {i : Int} (h0 : 0 ≤ i) (h1 : i < wl a) : wc y i = wc a i := by
  have b0 := wl_0 b
  have h2 := wl_lt (x := b) (by omega)
  have hw := cat_wl ha hb hl hy
  have hp : (0 : Int) < 128 ^ (wl b).toNat := Int.pow_pos (by decide)
  rw [wc_div h0 (by omega), wc_div h0 h1, hw, hy, show (wl a + wl b - 1 - i).toNat = (wl b).toNat + (wl a - 1 - i).toNat by omega, Int.pow_add, Int.ediv_mul_of_nonneg (Int.le_of_lt hp), Int.add_comm, Int.add_mul_ediv_right _ _ (by omega), Int.ediv_eq_zero_of_lt (by omega) h2, Int.zero_add]
theorem cat_wc2 (ha : 0 < a.toInt) (hb : 0 < b.toInt) (hl : wl a + wl b ≤ 9) (hy : y.toInt = a.toInt * 128 ^ (wl b).toNat + b.toInt) {i : Int} (h0 : wl a ≤ i) (h1 : i < wl a + wl b) : wc y i = wc b (i - wl a) := by
  have a0 := wl_0 a
  have b0 := wl_0 b
  have hw := cat_wl ha hb hl hy
  have hp : (0 : Int) < 128 ^ (wl a + wl b - 1 - i).toNat := Int.pow_pos (by decide)
  rw [wc_div (by omega) (by omega), wc_div (by omega) (by omega), hw, hy, show (wl b - 1 - (i - wl a)).toNat = (wl a + wl b - 1 - i).toNat by omega]
  have e : a.toInt * 128 ^ (wl b).toNat = (a.toInt * 128 ^ (i - wl a).toNat * 128) * 128 ^ (wl a + wl b - 1 - i).toNat := by
    rw [Int.mul_assoc, Int.mul_assoc, show (wl b).toNat = (i - wl a).toNat + (1 + (wl a + wl b - 1 - i).toNat) by omega, Int.pow_add, Int.pow_add, show (128 : Int) ^ 1 = 128 from rfl]
  rw [e, Int.add_comm, Int.add_mul_ediv_right _ _ (by omega), Int.add_mul_emod_self_right]
end CAT
theorem last_wc {x : Int64} (h : 0 < x.toInt) : wc x (wl x - 1) = x.toInt % 128 := by
  have := wl_pos h
  rw [wc_div (by omega) (by omega), show (wl x - 1 - (wl x - 1)).toNat = 0 by omega, Int.pow_zero, Int.ediv_one]
def allw (x : Int64) : Prop := ∀ i : Int, 0 ≤ i → i < wl x → wdl (wc x i) = true
def gw (x : Int64) : Prop := 0 < x.toInt ∧ (allw x ∨ (x.toInt < 128 ∧ wdl x.toInt = false) ∨ x = 4515 ∨ x = 7869)
theorem gw_last {x : Int64} (h : gw x) : wdl (x.toInt % 128) = true ↔ allw x := by
  constructor
  · intro q
    rcases h.2 with z | z | z | z
    · exact z
    · have h0 := h.1
      rw [show x.toInt % 128 = x.toInt by omega, z.2] at q
      exact absurd q (by decide)
    · rw [z] at q
      exact absurd q (by decide)
    · rw [z] at q
      exact absurd q (by decide)
  · intro q
    have := wl_pos h.1
    rw [← last_wc h.1]
    exact q _ (by omega) (by omega)
theorem jto_iff {a b : Int64} (ga : gw a) (gb : gw b) (hl : wl a + wl b ≤ 9) : jto a b = true ↔ (allw (lshl a (7 * wl b) + b) ∨ lshl a (7 * wl b) + b = 4515 ∨ lshl a (7 * wl b) + b = 7869) := by
  have ha := ga.1
  have hb := gb.1
  have v := jt_val ha hb hl
  have a1 := wl_pos ha
  have b1 := wl_pos hb
  have hw := cat_wl ha hb hl v.1
  unfold jto
  rw [Bool.or_eq_true, Bool.and_eq_true, gw_last ga, gw_last gb, decide_eq_true_eq]
  constructor
  · rintro (⟨h1, h2⟩ | ⟨h1, h2⟩)
    · left
      intro i i0 i1
      rw [hw] at i1
      by_cases c : i < wl a
      · rw [cat_wc1 ha hb hl v.1 i0 c]
        exact h1 i i0 c
      · rw [cat_wc2 ha hb hl v.1 (by omega) i1]
        exact h2 _ (by omega) (by omega)
    · subst h1
      rcases h2 with z | z
      · subst z
        right; left
        decide
      · subst z
        right; right
        decide
  · have key : ∀ (c : Int64) (n : Int), lshl a (7 * wl b) + b = c → c.toInt = n → n < 16384 → 128 ≤ n → a.toInt = n / 128 ∧ b.toInt = n % 128 := fun c n h1 h2 h3 h4 => by
      have e := v.1
      rw [h1, h2] at e
      have hb2 : wl b = 1 := by
        have hy : wl (lshl a (7 * wl b) + b) ≤ 2 := by
          show wlN 10 (lshl a (7 * wl b) + b).toInt ≤ 2
          refine wlN_k 10 2 _ ?_
          rw [h1, h2]
          omega
        omega
      have hb3 := wl_lt (x := b) (by omega)
      rw [hb2] at e hb3
      have e : n = a.toInt * 128 + b.toInt := e
      have hb3 : b.toInt < 128 := hb3
      omega
    rintro (h | h | h)
    · left
      constructor
      · intro i i0 i1
        have := h i i0 (by omega)
        rw [cat_wc1 ha hb hl v.1 i0 i1] at this
        exact this
      · intro i i0 i1
        have := h (i + wl a) (by omega) (by omega)
        rw [cat_wc2 ha hb hl v.1 (by omega) (by omega), show i + wl a - wl a = i by omega] at this
        exact this
    · right
      have k := key 4515 4515 h rfl (by decide) (by decide)
      have e1 : a = 35 := i64_ext k.1
      have e2 : b = 35 := i64_ext k.2
      rw [e1, e2]
      decide
    · right
      have k := key 7869 7869 h rfl (by decide) (by decide)
      have e1 : a = 61 := i64_ext k.1
      have e2 : b = 61 := i64_ext k.2
      rw [e1, e2]
      decide
theorem jt_gw {a b x : Int64} (ga : gw a) (gb : gw b) (h : jt a b = some x) : gw x := by
  have hp := jt_pos ga.1 gb.1 h
  unfold jt at h
  split at h
  · rename_i q
    cases h
    rcases (jto_iff ga gb q.2).mp q.1 with z | z | z
    · exact ⟨hp, Or.inl z⟩
    · exact ⟨hp, Or.inr (Or.inr (Or.inl z))⟩
    · exact ⟨hp, Or.inr (Or.inr (Or.inr z))⟩
  · cases h
theorem jt_lor {a b : Int64} (ha : 0 < a.toInt) (hb : 0 < b.toInt) (hl : wl a + wl b ≤ 9) : (lshl a (7 * wl b) ||| b) = lshl a (7 * wl b) + b := by
  have v := jt_val ha hb hl
  have hp : (0 : Int) < 128 ^ (wl b).toNat := Int.pow_pos (by decide)
  have e2 : (2 : Int) ^ (7 * (wl b).toNat) = 128 ^ (wl b).toNat := by rw [Int.pow_mul, show (2 : Int) ^ 7 = 128 from rfl]
  apply i64_ext
  rw [v.1, lor_toInt (k := 7 * (wl b).toNat) (a := a.toInt) v.2.2.2.1 (by omega) (by omega) v.2.2.2.2 (by rw [v.2.2.2.1, e2]; exact v.2.2.1), v.2.2.2.1, e2]
theorem and255 {nm : Nat → Int64} {a b : ETok} (ha : 0 ≤ a.2.1) (ha1 : a.2.1 ≤ 4000) (hb : 0 ≤ b.2.1) (hb1 : b.2.1 ≤ 4000) : zand (zand (eo nm a) (eo nm b)) 255 = (hs nm (fun q => a.2.2 q && b.2.2 q) : Nat) := by
  have h1 := hs_lt nm a.2.2
  have h2 := hs_lt nm b.2.2
  have r1 := eo_R (nm := nm) ha ha1
  have r2 := eo_R (nm := nm) hb hb1
  rw [zand_nat (a := eo nm a) (by omega) (by omega) (by omega) (by omega)]
  have h3 : (eo nm a).toNat &&& (eo nm b).toNat ≤ (eo nm a).toNat := Nat.and_le_left
  rw [zand_nat (by omega) (by omega) (by decide) (by decide), Int.toNat_natCast, ← hs_and]
  have e : ((eo nm a).toNat &&& (eo nm b).toNat) &&& (255 : Int).toNat = ((eo nm a).toNat &&& (eo nm b).toNat) % 2 ^ 8 := Nat.and_two_pow_sub_one_eq_mod _ 8
  rw [e, Nat.and_mod_two_pow]
  have e1 : (eo nm a).toNat % 2 ^ 8 = hs nm a.2.2 := by unfold eo; omega
  have e2 : (eo nm b).toNat % 2 ^ 8 = hs nm b.2.2 := by unfold eo; omega
  rw [e1, e2]
theorem or_place {p : Int} {h : Nat} (p0 : 0 ≤ p) (p1 : p ≤ 4000) (hh : h < 256) : zor (p * 256) (h : Int) = p * 256 + h := by
  rw [zor_nat (by omega) (by omega) (by omega) (by omega), Int.toNat_natCast]
  have e : (p * 256).toNat = p.toNat <<< 8 := by rw [Nat.shiftLeft_eq]; omega
  rw [e, ← Nat.shiftLeft_add_eq_or_of_lt (by omega), Nat.shiftLeft_eq]
  omega
theorem sh_place {nm : Nat → Int64} {t : ETok} (h0 : 0 ≤ t.2.1) (h1 : t.2.1 ≤ 4000) : zshl (zshr (eo nm t) 8) 8 = t.2.1 * 256 := by
  have r := eo_R (nm := nm) h0 h1
  have e : zshr (eo nm t) 8 = t.2.1 := by
    rw [zshr_div ⟨by omega, by omega⟩ (by decide) (by decide)]
    show eo nm t / 256 = _
    exact eo_div nm t
  rw [e, zshl_nat h0 (by omega) (by decide) (by decide) (by rw [Nat.shiftLeft_eq]; show t.2.1.toNat * 256 < _; omega), Nat.shiftLeft_eq]
  show ((t.2.1.toNat * 256 : Nat) : Int) = _
  omega
theorem jt_n9 {a b : Int64} (h : 9 < wl a + wl b) : jt a b = none := by
  unfold jt
  rw [if_neg (by omega)]
theorem jt_no2 {a b : Int64} (ga : gw a) (gb : gw b) (hl : wl a + wl b ≤ 9) (h : ¬ (allw (lshl a (7 * wl b) + b) ∨ lshl a (7 * wl b) + b = 4515 ∨ lshl a (7 * wl b) + b = 7869)) : jt a b = none := by
  unfold jt
  rw [if_neg (fun z => h ((jto_iff ga gb hl).mp z.1))]
theorem jt_so {a b : Int64} (ga : gw a) (gb : gw b) (hl : wl a + wl b ≤ 9) (h : allw (lshl a (7 * wl b) + b) ∨ lshl a (7 * wl b) + b = 4515 ∨ lshl a (7 * wl b) + b = 7869) : jt a b = some (lshl a (7 * wl b) + b) := by
  unfold jt
  rw [if_pos ⟨(jto_iff ga gb hl).mpr h, hl⟩]
theorem r_paste_c {sc : x_S} {d : Nat} {S : w_S} {nm : Nat → Int64} {i k : Int} {a b t : ETok} (hi : sv S 249 46 = i) (i0 : 0 ≤ i) (i1 : i < 32) (k0 : 0 ≤ k) (k1 : k < 481) (hmd : sL S 275 k = a.1) (hma : sA S 276 k = eo nm a) (hf : sA S 280 i = eo nm t) (ga : gw a.1) (gb : gw b.1) (oa : eok a) (ob : eok b) (ot : eok t) (hd : 2 ≤ d) : ∀ n : Nat, (∀ (y : Int64) (g : Bool) (j : Int) (lv : x_L) (l0 : lv 0 = some (.ref 249)) (l1 : lv 1 = some (.int (iZ k))) (l2 : lv 2 = some (.long b.1)) (l4 : lv 4 = some (.int (iZ (eo nm b)))) (l5 : lv 5 = some (.int (iZ (wl a.1)))) (l6 : lv 6 = some (.int (iZ (wl b.1)))) (l7 : lv 7 = some (.long y)) (l9 : lv 9 = some (.int (iZ (zB g)))) (l10 : lv 10 = some (.int (iZ j))) (hl9 : wl a.1 + wl b.1 ≤ 9) (hy : lshl a.1 (7 * wl b.1) + b.1 = y) (j0 : 0 ≤ j) (j1 : j ≤ wl a.1 + wl b.1) (hg : g = true ↔ ∀ q : Int, 0 ≤ q → q < j → wdl (wc y q) = true) (hm : (9 - j).toNat < n), w_T sc d 144 51 lv [] S (fun v S2 => ∃ c, v = some (.int (iZ (zB c))) ∧ (c = false → jt a.1 b.1 = none ∧ S2 = S) ∧ (c = true → ∃ x, jt a.1 b.1 = some x ∧ S2 = w_A (w_L S 275 (w_u (sL S 275) k x)) 276 (w_u (sA S 276) k (eo nm (x, t.2.1, fun q => a.2.2 q && b.2.2 q)))))) := by
  intro n
  induction n with
  | zero => exact fun y g j lv l0 l1 l2 l4 l5 l6 l7 l9 l10 hl9 hy j0 j1 hg hm => absurd hm (Nat.not_lt_zero _)
  | succ n ih =>
    intro y g j lv l0 l1 l2 l4 l5 l6 l7 l9 l10 hl9 hy j0 j1 hg hm
    have ha1 := ga.1
    have hb1 := gb.1
    have wa0 := wl_0 a.1
    have wb0 := wl_0 b.1
    have ra := eo_R (nm := nm) oa.2.1 oa.2.2
    have rb := eo_R (nm := nm) ob.2.1 ob.2.2
    have rt := eo_R (nm := nm) ot.2.1 ot.2.2
    have yv := jt_val ha1 hb1 hl9
    rw [hy] at yv
    have yw := cat_wl ha1 hb1 hl9 yv.1
    have yp : 0 < y.toInt := by
      rw [yv.1]
      have : 0 ≤ a.1.toInt * 128 ^ (wl b.1).toNat := Int.mul_nonneg (by omega) (Int.le_of_lt (Int.pow_pos (by decide)))
      omega
    have wcr := wc_R y j
    refine w_iload rfl l10 rfl ?_
    refine w_iload rfl l5 rfl ?_
    refine w_iload rfl l6 rfl ?_
    refine w_iadd rfl rfl ?_
    refine w_ic_ge (pc2 := 92) (pc3 := 61) rfl (by decide) rfl ⟨by omega, by omega⟩ ⟨by omega, by omega⟩ (fun c58 => ?_) (fun c58 => ?_)
    · skip
      refine w_iload rfl l9 rfl ?_
      refine w_b_ne (pc2 := 117) (pc3 := 97) rfl (by decide) rfl (fun c94 => ?_) (fun c94 => ?_)
      · skip
        refine w_aload_n rfl l0 rfl ?_
        refine w_getR rfl rfl sh_249 rfl rfl ?_
        refine w_iload_n rfl l1 rfl ?_
        refine w_lload rfl l7 rfl ?_
        refine w_laS (f := sL S 275) rfl sh_275 (by omega) (by omega) (by decide) rfl rfl ?_
        refine w_aload_n rfl l0 rfl ?_
        refine w_getR rfl rfl sh_249 rfl rfl ?_
        refine w_iload_n rfl l1 rfl ?_
        refine w_aload_n rfl l0 rfl ?_
        refine w_getR rfl rfl sh_249 rfl rfl ?_
        refine w_aload_n rfl l0 rfl ?_
        refine w_getI (z := sv S 249 46) rfl rfl sh_249 rfl rfl rfl ?_
        refine w_iald (z := sA S 280 (sv S 249 46)) rfl sh_280 (by omega) (by omega) (by decide) rfl rfl ?_
        refine w_bipush rfl (by decide) rfl ?_
        refine w_zshr rfl rfl ?_
        refine w_bipush rfl (by decide) rfl ?_
        refine w_zshl rfl rfl ?_
        refine w_aload_n rfl l0 rfl ?_
        refine w_getR rfl rfl sh_249 rfl rfl ?_
        refine w_iload_n rfl l1 rfl ?_
        refine w_iald (z := sA S 276 k) rfl sh_276 (by omega) (by omega) (by decide) rfl rfl ?_
        refine w_iload rfl l4 rfl ?_
        refine w_zand rfl rfl ?_
        refine w_sipush rfl (by decide) rfl ?_
        refine w_zand rfl rfl ?_
        refine w_zor rfl rfl ?_
        refine w_iaS (f := sA S 276) rfl sh_276 (by omega) (by omega) (by decide) rfl rfl ?_
        refine w_iconst rfl rfl ?_
        refine w_zret rfl rfl (by decide) ?_
        have hz : zor (zshl (zshr (sA S 280 (sv S 249 46)) 8) 8) (zand (zand (sA S 276 k) (eo nm b)) 255) = eo nm (y, t.2.1, fun q => a.2.2 q && b.2.2 q) := by
          rw [hi, hf, hma, sh_place ot.2.1 ot.2.2, and255 oa.2.1 oa.2.2 ob.2.1 ob.2.2, or_place ot.2.1 ot.2.2 (hs_lt _ _)]
          rfl
        have hc : allw y ∨ y = 4515 ∨ y = 7869 := by
          first | exact Or.inl (fun q q0 q1 => hg.mp c94 q q0 (by omega)) | exact Or.inr (Or.inl c103) | exact Or.inr (Or.inr c112)
        refine ⟨true, rfl, fun z => absurd z (by decide), fun _ => ⟨y, by rw [jt_so ga gb hl9 (by rw [hy]; exact hc), hy], ?_⟩⟩
        rw [← hz]
      · skip
        refine w_lload rfl l7 rfl ?_
        refine w_ldc2 (v := 4515) rfl rfl rfl ?_
        refine w_l_eq (pc2 := 117) (pc3 := 106) rfl rfl (by decide) rfl (fun c103 => ?_) (fun c103 => ?_)
        · skip
          refine w_aload_n rfl l0 rfl ?_
          refine w_getR rfl rfl sh_249 rfl rfl ?_
          refine w_iload_n rfl l1 rfl ?_
          refine w_lload rfl l7 rfl ?_
          refine w_laS (f := sL S 275) rfl sh_275 (by omega) (by omega) (by decide) rfl rfl ?_
          refine w_aload_n rfl l0 rfl ?_
          refine w_getR rfl rfl sh_249 rfl rfl ?_
          refine w_iload_n rfl l1 rfl ?_
          refine w_aload_n rfl l0 rfl ?_
          refine w_getR rfl rfl sh_249 rfl rfl ?_
          refine w_aload_n rfl l0 rfl ?_
          refine w_getI (z := sv S 249 46) rfl rfl sh_249 rfl rfl rfl ?_
          refine w_iald (z := sA S 280 (sv S 249 46)) rfl sh_280 (by omega) (by omega) (by decide) rfl rfl ?_
          refine w_bipush rfl (by decide) rfl ?_
          refine w_zshr rfl rfl ?_
          refine w_bipush rfl (by decide) rfl ?_
          refine w_zshl rfl rfl ?_
          refine w_aload_n rfl l0 rfl ?_
          refine w_getR rfl rfl sh_249 rfl rfl ?_
          refine w_iload_n rfl l1 rfl ?_
          refine w_iald (z := sA S 276 k) rfl sh_276 (by omega) (by omega) (by decide) rfl rfl ?_
          refine w_iload rfl l4 rfl ?_
          refine w_zand rfl rfl ?_
          refine w_sipush rfl (by decide) rfl ?_
          refine w_zand rfl rfl ?_
          refine w_zor rfl rfl ?_
          refine w_iaS (f := sA S 276) rfl sh_276 (by omega) (by omega) (by decide) rfl rfl ?_
          refine w_iconst rfl rfl ?_
          refine w_zret rfl rfl (by decide) ?_
          have hz : zor (zshl (zshr (sA S 280 (sv S 249 46)) 8) 8) (zand (zand (sA S 276 k) (eo nm b)) 255) = eo nm (y, t.2.1, fun q => a.2.2 q && b.2.2 q) := by
            rw [hi, hf, hma, sh_place ot.2.1 ot.2.2, and255 oa.2.1 oa.2.2 ob.2.1 ob.2.2, or_place ot.2.1 ot.2.2 (hs_lt _ _)]
            rfl
          have hc : allw y ∨ y = 4515 ∨ y = 7869 := by
            first | exact Or.inl (fun q q0 q1 => hg.mp c94 q q0 (by omega)) | exact Or.inr (Or.inl c103) | exact Or.inr (Or.inr c112)
          refine ⟨true, rfl, fun z => absurd z (by decide), fun _ => ⟨y, by rw [jt_so ga gb hl9 (by rw [hy]; exact hc), hy], ?_⟩⟩
          rw [← hz]
        · skip
          refine w_lload rfl l7 rfl ?_
          refine w_ldc2 (v := 7869) rfl rfl rfl ?_
          refine w_l_eq (pc2 := 117) (pc3 := 115) rfl rfl (by decide) rfl (fun c112 => ?_) (fun c112 => ?_)
          · skip
            refine w_aload_n rfl l0 rfl ?_
            refine w_getR rfl rfl sh_249 rfl rfl ?_
            refine w_iload_n rfl l1 rfl ?_
            refine w_lload rfl l7 rfl ?_
            refine w_laS (f := sL S 275) rfl sh_275 (by omega) (by omega) (by decide) rfl rfl ?_
            refine w_aload_n rfl l0 rfl ?_
            refine w_getR rfl rfl sh_249 rfl rfl ?_
            refine w_iload_n rfl l1 rfl ?_
            refine w_aload_n rfl l0 rfl ?_
            refine w_getR rfl rfl sh_249 rfl rfl ?_
            refine w_aload_n rfl l0 rfl ?_
            refine w_getI (z := sv S 249 46) rfl rfl sh_249 rfl rfl rfl ?_
            refine w_iald (z := sA S 280 (sv S 249 46)) rfl sh_280 (by omega) (by omega) (by decide) rfl rfl ?_
            refine w_bipush rfl (by decide) rfl ?_
            refine w_zshr rfl rfl ?_
            refine w_bipush rfl (by decide) rfl ?_
            refine w_zshl rfl rfl ?_
            refine w_aload_n rfl l0 rfl ?_
            refine w_getR rfl rfl sh_249 rfl rfl ?_
            refine w_iload_n rfl l1 rfl ?_
            refine w_iald (z := sA S 276 k) rfl sh_276 (by omega) (by omega) (by decide) rfl rfl ?_
            refine w_iload rfl l4 rfl ?_
            refine w_zand rfl rfl ?_
            refine w_sipush rfl (by decide) rfl ?_
            refine w_zand rfl rfl ?_
            refine w_zor rfl rfl ?_
            refine w_iaS (f := sA S 276) rfl sh_276 (by omega) (by omega) (by decide) rfl rfl ?_
            refine w_iconst rfl rfl ?_
            refine w_zret rfl rfl (by decide) ?_
            have hz : zor (zshl (zshr (sA S 280 (sv S 249 46)) 8) 8) (zand (zand (sA S 276 k) (eo nm b)) 255) = eo nm (y, t.2.1, fun q => a.2.2 q && b.2.2 q) := by
              rw [hi, hf, hma, sh_place ot.2.1 ot.2.2, and255 oa.2.1 oa.2.2 ob.2.1 ob.2.2, or_place ot.2.1 ot.2.2 (hs_lt _ _)]
              rfl
            have hc : allw y ∨ y = 4515 ∨ y = 7869 := by
              first | exact Or.inl (fun q q0 q1 => hg.mp c94 q q0 (by omega)) | exact Or.inr (Or.inl c103) | exact Or.inr (Or.inr c112)
            refine ⟨true, rfl, fun z => absurd z (by decide), fun _ => ⟨y, by rw [jt_so ga gb hl9 (by rw [hy]; exact hc), hy], ?_⟩⟩
            rw [← hz]
          · skip
            refine w_iconst rfl rfl ?_
            refine w_zret rfl rfl (by decide) ?_
            exact ⟨false, rfl, fun _ => ⟨jt_no2 ga gb hl9 (by
              rw [hy]
              rintro (z | z | z)
              · exact absurd (hg.mpr (fun q a b => z q a (by omega))) (by rw [c94]; decide)
              · exact c103 z
              · exact c112 z), rfl⟩, fun z => absurd z (by decide)⟩
    · skip
      refine w_iload rfl l9 rfl ?_
      refine w_b_eq (pc2 := 83) (pc3 := 66) rfl (by decide) rfl (fun c63 => ?_) (fun c63 => ?_)
      · skip
        refine w_iconst rfl rfl ?_
        refine w_istore rfl (by decide) rfl ?_
        refine w_iinc rfl l10 (by decide) rfl ?_
        refine w_goto (pc2 := 51) rfl (by decide) ?_
        exact ih y false (j + 1) _ l0 l1 l2 l4 l5 l6 l7 rfl rfl (by omega) (by exact hy) (by omega) (by omega) (by first | exact ⟨fun z => absurd z (by decide), fun z => absurd (hg.mpr (fun q a b => z q a (by omega))) (by rw [c63]; decide)⟩ | exact ⟨fun z => absurd z (by decide), fun z => absurd (z j j0 (by omega)) (by rw [c76]; decide)⟩ | exact ⟨fun _ q a b => (by by_cases e : q = j; (rw [e]; exact c76); (exact hg.mp c63 q a (by omega))), fun _ => rfl⟩) (by omega)
      · skip
        refine w_lload rfl l7 rfl ?_
        refine w_iload rfl l10 rfl ?_
        refine w_CS (as := [.long y, .int (iZ j)]) (r := []) rfl rfl rfl rfl (Nat.le_of_ble_eq_true rfl) (Nat.le_of_ble_eq_true rfl) (by omega) rfl (r_let (x := y) (i := j) (by omega) ⟨by omega, by omega⟩ (by omega)) ?_
        rintro _ _ ⟨rfl, hS⟩
        rw [hS]
        show w_T _ _ 144 73 _ [.int (iZ (wc y j))] _ _
        refine w_CS (as := [.int (iZ (wc y j))]) (r := []) rfl rfl rfl rfl (Nat.le_of_ble_eq_true rfl) (Nat.le_of_ble_eq_true rfl) (by omega) rfl (r_wdl (c := wc y j) ⟨by omega, by omega⟩ (by omega)) ?_
        rintro _ _ ⟨rfl, hS⟩
        rw [hS]
        show w_T _ _ 144 76 _ [.int (iZ (zB (wdl (wc y j))))] _ _
        refine w_b_eq (pc2 := 83) (pc3 := 79) rfl (by decide) rfl (fun c76 => ?_) (fun c76 => ?_)
        · skip
          refine w_iconst rfl rfl ?_
          refine w_istore rfl (by decide) rfl ?_
          refine w_iinc rfl l10 (by decide) rfl ?_
          refine w_goto (pc2 := 51) rfl (by decide) ?_
          exact ih y false (j + 1) _ l0 l1 l2 l4 l5 l6 l7 rfl rfl (by omega) (by exact hy) (by omega) (by omega) (by first | exact ⟨fun z => absurd z (by decide), fun z => absurd (hg.mpr (fun q a b => z q a (by omega))) (by rw [c63]; decide)⟩ | exact ⟨fun z => absurd z (by decide), fun z => absurd (z j j0 (by omega)) (by rw [c76]; decide)⟩ | exact ⟨fun _ q a b => (by by_cases e : q = j; (rw [e]; exact c76); (exact hg.mp c63 q a (by omega))), fun _ => rfl⟩) (by omega)
        · skip
          refine w_iconst rfl rfl ?_
          refine w_goto (pc2 := 84) rfl (by decide) ?_
          refine w_istore rfl (by decide) rfl ?_
          refine w_iinc rfl l10 (by decide) rfl ?_
          refine w_goto (pc2 := 51) rfl (by decide) ?_
          exact ih y true (j + 1) _ l0 l1 l2 l4 l5 l6 l7 rfl rfl (by omega) (by exact hy) (by omega) (by omega) (by first | exact ⟨fun z => absurd z (by decide), fun z => absurd (hg.mpr (fun q a b => z q a (by omega))) (by rw [c63]; decide)⟩ | exact ⟨fun z => absurd z (by decide), fun z => absurd (z j j0 (by omega)) (by rw [c76]; decide)⟩ | exact ⟨fun _ q a b => (by by_cases e : q = j; (rw [e]; exact c76); (exact hg.mp c63 q a (by omega))), fun _ => rfl⟩) (by omega)
theorem r_paste {sc : x_S} {d : Nat} {S : w_S} {nm : Nat → Int64} {i k : Int} {a b t : ETok} (hi : sv S 249 46 = i) (i0 : 0 ≤ i) (i1 : i < 32) (k0 : 0 ≤ k) (k1 : k < 481) (hmd : sL S 275 k = a.1) (hma : sA S 276 k = eo nm a) (hf : sA S 280 i = eo nm t) (ga : gw a.1) (gb : gw b.1) (oa : eok a) (ob : eok b) (ot : eok t) (hd : 2 ≤ d) : w_T sc d 144 0 (x_en 0 [.ref 249, .int (iZ k), .long b.1, .int (iZ (eo nm b))]) [] S (fun v S2 => ∃ c, v = some (.int (iZ (zB c))) ∧ (c = false → jt a.1 b.1 = none ∧ S2 = S) ∧ (c = true → ∃ x, jt a.1 b.1 = some x ∧ S2 = w_A (w_L S 275 (w_u (sL S 275) k x)) 276 (w_u (sA S 276) k (eo nm (x, t.2.1, fun q => a.2.2 q && b.2.2 q))))) := by
  have ha1 := ga.1
  have hb1 := gb.1
  have wa := wl_9 a.1
  have wb := wl_9 b.1
  have wa0 := wl_0 a.1
  have wb0 := wl_0 b.1
  have ra := eo_R (nm := nm) oa.2.1 oa.2.2
  have rb := eo_R (nm := nm) ob.2.1 ob.2.2
  have rt := eo_R (nm := nm) ot.2.1 ot.2.2
  refine w_aload_n rfl rfl rfl ?_
  refine w_getR rfl rfl sh_249 rfl rfl ?_
  refine w_iload_n rfl rfl rfl ?_
  refine w_lald (z := sL S 275 k) rfl sh_275 (by omega) (by omega) (by decide) rfl rfl ?_
  rw [hmd]
  refine w_CS (as := [.long a.1]) (r := []) rfl rfl rfl rfl (Nat.le_of_ble_eq_true rfl) (Nat.le_of_ble_eq_true rfl) (by omega) rfl (r_len (x := a.1) (by omega) (by omega)) ?_
  rintro _ _ ⟨rfl, hS⟩
  rw [hS]
  show w_T _ _ 144 9 _ [.int (iZ (wl a.1))] _ _
  refine w_istore rfl (by decide) rfl ?_
  refine w_lload_n rfl rfl rfl ?_
  refine w_CS (as := [.long b.1]) (r := []) rfl rfl rfl rfl (Nat.le_of_ble_eq_true rfl) (Nat.le_of_ble_eq_true rfl) (by omega) rfl (r_len (x := b.1) (by omega) (by omega)) ?_
  rintro _ _ ⟨rfl, hS⟩
  rw [hS]
  show w_T _ _ 144 15 _ [.int (iZ (wl b.1))] _ _
  refine w_istore rfl (by decide) rfl ?_
  refine w_iload rfl rfl rfl ?_
  refine w_iload rfl rfl rfl ?_
  refine w_iadd rfl rfl ?_
  refine w_bipush rfl (by decide) rfl ?_
  refine w_ic_le (pc2 := 29) (pc3 := 27) rfl (by decide) rfl ⟨by omega, by omega⟩ ⟨by decide, by decide⟩ (fun c24 => ?_) (fun c24 => ?_)
  · skip
    refine w_aload_n rfl rfl rfl ?_
    refine w_getR rfl rfl sh_249 rfl rfl ?_
    refine w_iload_n rfl rfl rfl ?_
    refine w_lald (z := sL S 275 k) rfl sh_275 (by omega) (by omega) (by decide) rfl rfl ?_
    rw [hmd]
    refine w_bipush rfl (by decide) rfl ?_
    refine w_iload rfl rfl rfl ?_
    refine w_imul rfl rfl ?_
    refine w_zlshl rfl rfl ?_
    refine w_lload_n rfl rfl rfl ?_
    refine w_lor rfl rfl ?_
    generalize hy : ((lshl a.1 (7 * (wl b.1))) ||| b.1) = y
    rw [jt_lor ha1 hb1 (by omega)] at hy
    refine w_lstore rfl (by decide) rfl ?_
    refine w_iconst rfl rfl ?_
    refine w_istore rfl (by decide) rfl ?_
    refine w_iconst rfl rfl ?_
    refine w_istore rfl (by decide) rfl ?_
    exact (r_paste_c hi i0 i1 k0 k1 hmd hma hf ga gb oa ob ot hd _) y true 0 _ rfl rfl rfl rfl rfl rfl rfl rfl rfl (by omega) (by exact hy) (by omega) (by omega) (by exact ⟨fun _ q a b => by omega, fun _ => rfl⟩) (Nat.lt_succ_self _)
  · skip
    refine w_iconst rfl rfl ?_
    refine w_zret rfl rfl (by decide) ?_
    exact ⟨false, rfl, fun _ => ⟨jt_n9 (by omega), rfl⟩, fun z => absurd z (by decide)⟩
