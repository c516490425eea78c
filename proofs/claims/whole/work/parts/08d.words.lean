/-! Words: a spelling as one number, seven bits a letter. -/
def wlN : Nat → Int → Int
  | 0, _ => 0
  | n + 1, v => if 0 < v then 1 + wlN n (v / 128) else 0
def wl (x : Int64) : Int := wlN 10 x.toInt
def wc (x : Int64) (i : Int) : Int := if i < 0 ∨ wl x ≤ i then 0 else (lshr x (7 * (wl x - 1 - i))).toInt % 128
def wdl (c : Int) : Bool := decide (97 ≤ c ∧ c ≤ 122 ∨ 65 ≤ c ∧ c ≤ 90 ∨ 48 ≤ c ∧ c ≤ 57 ∨ c = 95)
def dgt (c : Int) : Bool := decide (48 ≤ c ∧ c ≤ 57)
def nam (x : Int64) : Bool := wdl (wc x 0) && !dgt (wc x 0)
theorem wlN_0 (n : Nat) {v : Int} (h : v ≤ 0) : wlN n v = 0 := by
  cases n with
  | zero => rfl
  | succ n =>
    show (if 0 < v then _ else _) = _
    rw [if_neg (by omega)]
theorem wlN_s (n : Nat) {v : Int} (h : 0 < v) : wlN (n + 1) v = 1 + wlN n (v / 128) := by
  show (if 0 < v then _ else _) = _
  rw [if_pos h]
theorem wlN_n : ∀ (n : Nat) (v : Int), 0 ≤ wlN n v
  | 0, _ => Int.le_refl _
  | n + 1, v => by
    by_cases h : 0 < v
    · rw [wlN_s n h]
      have := wlN_n n (v / 128)
      omega
    · rw [wlN_0 _ (by omega)]
      decide
theorem i64_lt (x : Int64) : x.toInt < 9223372036854775808 := Int64.toInt_lt x
theorem wlN_k : ∀ (n k : Nat) (v : Int), v < 128 ^ k → wlN n v ≤ k
  | 0, k, v, _ => by
    show (0 : Int) ≤ _
    omega
  | n + 1, 0, v, h => by
    rw [wlN_0 _ (by simpa using (by omega : v < 1 → v ≤ 0) (by simpa using h))]
    decide
  | n + 1, k + 1, v, h => by
    by_cases h0 : 0 < v
    · rw [wlN_s n h0]
      have h1 : v / 128 < 128 ^ k := by
        rw [Int.ediv_lt_iff_lt_mul (by decide)]
        rw [Int.pow_succ] at h
        exact h
      have := wlN_k n k (v / 128) h1
      omega
    · rw [wlN_0 _ (by omega)]
      omega
theorem wl_9 (x : Int64) : wl x ≤ 9 := wlN_k 10 9 x.toInt (by have := i64_lt x; omega)
theorem wl_0 (x : Int64) : 0 ≤ wl x := wlN_n _ _
theorem lshr_n {x : Int64} {k : Int} (h : 0 ≤ x.toInt) (h0 : 0 ≤ k) (h1 : k < 64) : 0 ≤ (lshr x k).toInt := by
  rw [lshr_toInt h0 h1]
  exact Int.ediv_nonneg h (Int.le_of_lt (Int.pow_pos (by decide)))
theorem lshr_s {x : Int64} {k : Int} (h0 : 0 ≤ k) (h1 : k + 7 < 64) : (lshr x (k + 7)).toInt = (lshr x k).toInt / 128 := by
  rw [lshr_toInt (by omega) h1, lshr_toInt h0 (by omega), show (k + 7).toNat = k.toNat + 7 by omega, Int.pow_add, Int.ediv_mul_of_nonneg (Int.le_of_lt (Int.pow_pos (by decide)))]
  rfl
theorem lshr_z (x : Int64) : (lshr x 0).toInt = x.toInt := by
  rw [lshr_toInt (by decide) (by decide)]
  simp
theorem lshr_63 {x : Int64} (h : 0 ≤ x.toInt) : (lshr x 63).toInt = 0 := by
  rw [lshr_toInt (by decide) (by decide)]
  have := i64_lt x
  exact Int.ediv_eq_zero_of_lt h (by simpa using this)
theorem lshr_56 {x : Int64} : (lshr x 56).toInt ≤ 127 := by
  rw [lshr_toInt (by decide) (by decide)]
  have := i64_lt x
  show x.toInt / 72057594037927936 ≤ 127
  omega
theorem wc_R (x : Int64) (i : Int) : 0 ≤ wc x i ∧ wc x i < 128 := by
  unfold wc
  split
  · decide
  · exact ⟨Int.emod_nonneg _ (by decide), Int.emod_lt_of_pos _ (by decide)⟩
theorem zand_127 (x : Int64) : zand (zl2i x) 127 = x.toInt % 128 := by
  unfold zand zl2i
  rw [iZ_back]
  have e : (x.toInt32 &&& iZ 127).toBitVec.toNat = x.toBitVec.toNat % 128 := by
    rw [Int32.toBitVec_and, BitVec.toNat_and]
    have e1 : x.toInt32.toBitVec.toNat = x.toBitVec.toNat % 4294967296 := by
      rw [Int64.toBitVec_toInt32, BitVec.signExtend_eq_setWidth_of_le _ (by decide), BitVec.toNat_setWidth]
    have e2 : (iZ 127).toBitVec.toNat = 2 ^ 7 - 1 := by decide
    rw [e1, e2, Nat.and_two_pow_sub_one_eq_mod]
    omega
  rw [i32_nat e (by omega)]
  have e3 : x.toInt = x.toBitVec.toInt := rfl
  rw [e3, BitVec.toInt_eq_toNat_cond]
  split <;> omega
theorem l64_0 (x : Int64) : x = 0 ↔ x.toInt = 0 := by
  constructor
  · intro h
    rw [h]
    rfl
  · intro h
    exact i64_ext (by rw [h]; rfl)
theorem c_len_c {sc : x_S} {d : Nat} {S : w_S} {x : Int64} (hx : 0 ≤ x.toInt) (hd : 0 ≤ d) : ∀ n : Nat, (∀ (i : Int) (lv : x_L) (l0 : lv 0 = some (.long x)) (l2 : lv 2 = some (.int (iZ i))) (i0 : 0 ≤ i) (i1 : i ≤ 9) (ie : wl x = i + wlN (10 - i.toNat) (lshr x (7 * i)).toInt) (hm : (9 - i).toNat < n), w_T sc d 101 2 lv [] S (fun v S2 => v = some (.int (iZ (wl x))) ∧ S2 = S)) := by
  intro n
  induction n with
  | zero => exact fun i lv l0 l2 i0 i1 ie hm => absurd hm (Nat.not_lt_zero _)
  | succ n ih =>
    intro i lv l0 l2 i0 i1 ie hm
    have hs : i < 9 → (lshr x (7 * (i + 1))).toInt = (lshr x (7 * i)).toInt / 128 := fun h => by
      rw [show 7 * (i + 1) = 7 * i + 7 by omega]
      exact lshr_s (by omega) (by omega)
    have hn := lshr_n (x := x) (k := 7 * i) hx (by omega) (by omega)
    refine w_iload_n rfl l2 rfl ?_
    refine w_bipush rfl (by decide) rfl ?_
    refine w_ic_ge (pc2 := 25) (pc3 := 8) rfl (by decide) rfl ⟨by omega, by omega⟩ ⟨by decide, by decide⟩ (fun c5 => ?_) (fun c5 => ?_)
    · skip
      refine w_iload_n rfl l2 rfl ?_
      refine w_iret rfl rfl ?_
      refine q_i ?_
      rw [ie]
      first
        | rw [wlN_0 _ (by rw [(l64_0 _).mp c16]; exact Int.le_refl 0), Int.add_zero]
        | rw [show i = 9 by omega, show (7 : Int) * 9 = 63 by decide, lshr_63 hx, wlN_0 _ (Int.le_refl 0), Int.add_zero]
    · skip
      refine w_lload_n rfl l0 rfl ?_
      refine w_bipush rfl (by decide) rfl ?_
      refine w_iload_n rfl l2 rfl ?_
      refine w_imul rfl rfl ?_
      refine w_zlshr rfl rfl ?_
      refine w_lconst (v := 0) rfl (by decide) rfl ?_
      refine w_l_eq (pc2 := 25) (pc3 := 19) rfl rfl (by decide) rfl (fun c16 => ?_) (fun c16 => ?_)
      · skip
        refine w_iload_n rfl l2 rfl ?_
        refine w_iret rfl rfl ?_
        refine q_i ?_
        rw [ie]
        first
          | rw [wlN_0 _ (by rw [(l64_0 _).mp c16]; exact Int.le_refl 0), Int.add_zero]
          | rw [show i = 9 by omega, show (7 : Int) * 9 = 63 by decide, lshr_63 hx, wlN_0 _ (Int.le_refl 0), Int.add_zero]
      · skip
        refine w_iinc rfl l2 (by decide) rfl ?_
        refine w_goto (pc2 := 2) rfl (by decide) ?_
        exact ih (i + 1) _ l0 rfl (by omega) (by omega) (by rw [ie, hs c5, show 10 - i.toNat = (10 - (i + 1).toNat) + 1 by omega, wlN_s _ (by have := (not_congr (l64_0 _)).mp c16; omega)]; omega) (by omega)
theorem c_len {sc : x_S} {d : Nat} {S : w_S} {x : Int64} (hx : 0 ≤ x.toInt) (hd : 0 ≤ d) : w_T sc d 101 0 (x_en 0 [.long x]) [] S (fun v S2 => v = some (.int (iZ (wl x))) ∧ S2 = S) := by
  refine w_iconst rfl rfl ?_
  refine w_istore_n rfl (by decide) rfl ?_
  exact (c_len_c hx hd _) 0 _ rfl rfl (by omega) (by omega) (by rw [Int.mul_zero, lshr_z]; show wlN _ _ = 0 + wlN _ _; rw [Int.zero_add]; rfl) (Nat.lt_succ_self _)
theorem c_let {sc : x_S} {d : Nat} {S : w_S} {x : Int64} {i : Int} (hx : 0 ≤ x.toInt) (hi : iR i) (hd : 1 ≤ d) : w_T sc d 102 0 (x_en 0 [.long x, .int (iZ i)]) [] S (fun v S2 => v = some (.int (iZ (wc x i))) ∧ S2 = S) := by
  have h9 := wl_9 x
  have h0 := wl_0 x
  refine w_lload_n rfl rfl rfl ?_
  refine w_CS (as := [.long x]) (r := []) rfl rfl rfl rfl (Nat.le_of_ble_eq_true rfl) (Nat.le_of_ble_eq_true rfl) (by omega) rfl (c_len (x := x) hx (by omega)) ?_
  rintro _ _ ⟨rfl, hS⟩
  rw [hS]
  show w_T _ _ 102 4 _ [.int (iZ (wl x))] _ _
  refine w_istore_n rfl (by decide) rfl ?_
  refine w_iload_n rfl rfl rfl ?_
  apply w_br (A := w_T _ _ 102 14 _ [] _ _) (B := w_T _ _ 102 16 _ [] _ _) (i < 0 ∨ wl x ≤ i)
  · intro kT1 kT2
    refine w_if_lt (pc2 := 14) (pc3 := 9) rfl (by decide) rfl ⟨by have := hi.1; have := hi.2; omega, by have := hi.1; have := hi.2; omega⟩ (fun q1 => ?_) (fun q1 => ?_)
    · skip
      exact kT1 (Or.inl q1)
    · skip
      refine w_iload_n rfl rfl rfl ?_
      refine w_iload_n rfl rfl rfl ?_
      refine w_ic_lt (pc2 := 16) (pc3 := 14) rfl (by decide) rfl ⟨by have := hi.1; have := hi.2; omega, by have := hi.1; have := hi.2; omega⟩ ⟨by have := hi.1; have := hi.2; omega, by have := hi.1; have := hi.2; omega⟩ (fun q2 => ?_) (fun q2 => ?_)
      · skip
        exact kT2 (not_or.mpr ⟨(Int.not_lt.mpr q1), (Int.not_le.mpr q2)⟩)
      · skip
        exact kT1 (Or.inr q2)
  · intro c6
    refine w_iconst rfl rfl ?_
    refine w_iret rfl rfl ?_
    exact q_i (by unfold wc; rw [if_pos (by omega)])
  · intro c6
    refine w_lload_n rfl rfl rfl ?_
    refine w_bipush rfl (by decide) rfl ?_
    refine w_iload_n rfl rfl rfl ?_
    refine w_iconst rfl rfl ?_
    refine w_isub rfl rfl ?_
    refine w_iload_n rfl rfl rfl ?_
    refine w_isub rfl rfl ?_
    refine w_imul rfl rfl ?_
    refine w_zlshr rfl rfl ?_
    refine w_zl2i rfl rfl ?_
    refine w_bipush rfl (by decide) rfl ?_
    refine w_zand rfl rfl ?_
    refine w_iret rfl rfl ?_
    exact q_i (by unfold wc; rw [if_neg (by omega), zand_127])
theorem c_isw {sc : x_S} {d : Nat} {S : w_S} {x : Int64}  (hd : 0 ≤ d) : w_T sc d 104 0 (x_en 0 [.long x]) [] S (fun v S2 => v = some (.int (iZ (zB (wdl (x.toInt % 128))))) ∧ S2 = S) := by
  refine w_lload_n rfl rfl rfl ?_
  refine w_zl2i rfl rfl ?_
  refine w_bipush rfl (by decide) rfl ?_
  refine w_zand rfl rfl ?_
  refine w_istore_n rfl (by decide) rfl ?_
  refine w_iload_n rfl rfl rfl ?_
  refine w_bipush rfl (by decide) rfl ?_
  apply w_jn (A := w_T _ _ 104 53 _ [.int (iZ (zB (decide (((zand (zl2i x) 127) < 97 ∧ (((zand (zl2i x) 127) < 65 ∧ (((zand (zl2i x) 127) < 48 ∧ (zand (zl2i x) 127) = 95) ∨ (48 ≤ (zand (zl2i x) 127) ∧ ((zand (zl2i x) 127) ≤ 57 ∨ (zand (zl2i x) 127) = 95)))) ∨ (65 ≤ (zand (zl2i x) 127) ∧ ((zand (zl2i x) 127) ≤ 90 ∨ (((zand (zl2i x) 127) < 48 ∧ (zand (zl2i x) 127) = 95) ∨ (48 ≤ (zand (zl2i x) 127) ∧ ((zand (zl2i x) 127) ≤ 57 ∨ (zand (zl2i x) 127) = 95))))))) ∨ (97 ≤ (zand (zl2i x) 127) ∧ ((zand (zl2i x) 127) ≤ 122 ∨ (((zand (zl2i x) 127) < 65 ∧ (((zand (zl2i x) 127) < 48 ∧ (zand (zl2i x) 127) = 95) ∨ (48 ≤ (zand (zl2i x) 127) ∧ ((zand (zl2i x) 127) ≤ 57 ∨ (zand (zl2i x) 127) = 95)))) ∨ (65 ≤ (zand (zl2i x) 127) ∧ ((zand (zl2i x) 127) ≤ 90 ∨ (((zand (zl2i x) 127) < 48 ∧ (zand (zl2i x) 127) = 95) ∨ (48 ≤ (zand (zl2i x) 127) ∧ ((zand (zl2i x) 127) ≤ 57 ∨ (zand (zl2i x) 127) = 95))))))))))))] _ _)
  · intro kT
    refine w_ic_lt (pc2 := 18) (pc3 := 12) rfl (by decide) rfl (zand_R _ _) ⟨by decide, by decide⟩ (fun q1 => ?_) (fun q1 => ?_)
    · skip
      refine w_iload_n rfl rfl rfl ?_
      refine w_bipush rfl (by decide) rfl ?_
      refine w_ic_lt (pc2 := 30) (pc3 := 24) rfl (by decide) rfl (zand_R _ _) ⟨by decide, by decide⟩ (fun q2 => ?_) (fun q2 => ?_)
      · skip
        refine w_iload_n rfl rfl rfl ?_
        refine w_bipush rfl (by decide) rfl ?_
        refine w_ic_lt (pc2 := 42) (pc3 := 36) rfl (by decide) rfl (zand_R _ _) ⟨by decide, by decide⟩ (fun q3 => ?_) (fun q3 => ?_)
        · skip
          refine w_iload_n rfl rfl rfl ?_
          refine w_bipush rfl (by decide) rfl ?_
          refine w_ic_ne (pc2 := 52) (pc3 := 48) rfl (by decide) rfl (zand_R _ _) ⟨by decide, by decide⟩ (fun q4 => ?_) (fun q4 => ?_)
          · skip
            refine w_iconst rfl rfl ?_
            exact w_j0 (p := ((zand (zl2i x) 127) < 97 ∧ (((zand (zl2i x) 127) < 65 ∧ (((zand (zl2i x) 127) < 48 ∧ (zand (zl2i x) 127) = 95) ∨ (48 ≤ (zand (zl2i x) 127) ∧ ((zand (zl2i x) 127) ≤ 57 ∨ (zand (zl2i x) 127) = 95)))) ∨ (65 ≤ (zand (zl2i x) 127) ∧ ((zand (zl2i x) 127) ≤ 90 ∨ (((zand (zl2i x) 127) < 48 ∧ (zand (zl2i x) 127) = 95) ∨ (48 ≤ (zand (zl2i x) 127) ∧ ((zand (zl2i x) 127) ≤ 57 ∨ (zand (zl2i x) 127) = 95))))))) ∨ (97 ≤ (zand (zl2i x) 127) ∧ ((zand (zl2i x) 127) ≤ 122 ∨ (((zand (zl2i x) 127) < 65 ∧ (((zand (zl2i x) 127) < 48 ∧ (zand (zl2i x) 127) = 95) ∨ (48 ≤ (zand (zl2i x) 127) ∧ ((zand (zl2i x) 127) ≤ 57 ∨ (zand (zl2i x) 127) = 95)))) ∨ (65 ≤ (zand (zl2i x) 127) ∧ ((zand (zl2i x) 127) ≤ 90 ∨ (((zand (zl2i x) 127) < 48 ∧ (zand (zl2i x) 127) = 95) ∨ (48 ≤ (zand (zl2i x) 127) ∧ ((zand (zl2i x) 127) ≤ 57 ∨ (zand (zl2i x) 127) = 95))))))))) (not_or.mpr ⟨fun q => (not_or.mpr ⟨fun q => (not_or.mpr ⟨fun q => q4 q.2, fun q => (Int.not_le.mpr q3) q.1⟩) q.2, fun q => (Int.not_le.mpr q2) q.1⟩) q.2, fun q => (Int.not_le.mpr q1) q.1⟩) kT
          · skip
            refine w_iconst rfl rfl ?_
            refine w_goto (pc2 := 53) rfl (by decide) ?_
            exact w_j1 (p := ((zand (zl2i x) 127) < 97 ∧ (((zand (zl2i x) 127) < 65 ∧ (((zand (zl2i x) 127) < 48 ∧ (zand (zl2i x) 127) = 95) ∨ (48 ≤ (zand (zl2i x) 127) ∧ ((zand (zl2i x) 127) ≤ 57 ∨ (zand (zl2i x) 127) = 95)))) ∨ (65 ≤ (zand (zl2i x) 127) ∧ ((zand (zl2i x) 127) ≤ 90 ∨ (((zand (zl2i x) 127) < 48 ∧ (zand (zl2i x) 127) = 95) ∨ (48 ≤ (zand (zl2i x) 127) ∧ ((zand (zl2i x) 127) ≤ 57 ∨ (zand (zl2i x) 127) = 95))))))) ∨ (97 ≤ (zand (zl2i x) 127) ∧ ((zand (zl2i x) 127) ≤ 122 ∨ (((zand (zl2i x) 127) < 65 ∧ (((zand (zl2i x) 127) < 48 ∧ (zand (zl2i x) 127) = 95) ∨ (48 ≤ (zand (zl2i x) 127) ∧ ((zand (zl2i x) 127) ≤ 57 ∨ (zand (zl2i x) 127) = 95)))) ∨ (65 ≤ (zand (zl2i x) 127) ∧ ((zand (zl2i x) 127) ≤ 90 ∨ (((zand (zl2i x) 127) < 48 ∧ (zand (zl2i x) 127) = 95) ∨ (48 ≤ (zand (zl2i x) 127) ∧ ((zand (zl2i x) 127) ≤ 57 ∨ (zand (zl2i x) 127) = 95))))))))) (Or.inl ⟨q1, (Or.inl ⟨q2, (Or.inl ⟨q3, q4⟩)⟩)⟩) kT
        · skip
          refine w_iload_n rfl rfl rfl ?_
          refine w_bipush rfl (by decide) rfl ?_
          refine w_ic_le (pc2 := 48) (pc3 := 42) rfl (by decide) rfl (zand_R _ _) ⟨by decide, by decide⟩ (fun q5 => ?_) (fun q5 => ?_)
          · skip
            refine w_iconst rfl rfl ?_
            refine w_goto (pc2 := 53) rfl (by decide) ?_
            exact w_j1 (p := ((zand (zl2i x) 127) < 97 ∧ (((zand (zl2i x) 127) < 65 ∧ (((zand (zl2i x) 127) < 48 ∧ (zand (zl2i x) 127) = 95) ∨ (48 ≤ (zand (zl2i x) 127) ∧ ((zand (zl2i x) 127) ≤ 57 ∨ (zand (zl2i x) 127) = 95)))) ∨ (65 ≤ (zand (zl2i x) 127) ∧ ((zand (zl2i x) 127) ≤ 90 ∨ (((zand (zl2i x) 127) < 48 ∧ (zand (zl2i x) 127) = 95) ∨ (48 ≤ (zand (zl2i x) 127) ∧ ((zand (zl2i x) 127) ≤ 57 ∨ (zand (zl2i x) 127) = 95))))))) ∨ (97 ≤ (zand (zl2i x) 127) ∧ ((zand (zl2i x) 127) ≤ 122 ∨ (((zand (zl2i x) 127) < 65 ∧ (((zand (zl2i x) 127) < 48 ∧ (zand (zl2i x) 127) = 95) ∨ (48 ≤ (zand (zl2i x) 127) ∧ ((zand (zl2i x) 127) ≤ 57 ∨ (zand (zl2i x) 127) = 95)))) ∨ (65 ≤ (zand (zl2i x) 127) ∧ ((zand (zl2i x) 127) ≤ 90 ∨ (((zand (zl2i x) 127) < 48 ∧ (zand (zl2i x) 127) = 95) ∨ (48 ≤ (zand (zl2i x) 127) ∧ ((zand (zl2i x) 127) ≤ 57 ∨ (zand (zl2i x) 127) = 95))))))))) (Or.inl ⟨q1, (Or.inl ⟨q2, (Or.inr ⟨q3, (Or.inl q5)⟩)⟩)⟩) kT
          · skip
            refine w_iload_n rfl rfl rfl ?_
            refine w_bipush rfl (by decide) rfl ?_
            refine w_ic_ne (pc2 := 52) (pc3 := 48) rfl (by decide) rfl (zand_R _ _) ⟨by decide, by decide⟩ (fun q6 => ?_) (fun q6 => ?_)
            · skip
              refine w_iconst rfl rfl ?_
              exact w_j0 (p := ((zand (zl2i x) 127) < 97 ∧ (((zand (zl2i x) 127) < 65 ∧ (((zand (zl2i x) 127) < 48 ∧ (zand (zl2i x) 127) = 95) ∨ (48 ≤ (zand (zl2i x) 127) ∧ ((zand (zl2i x) 127) ≤ 57 ∨ (zand (zl2i x) 127) = 95)))) ∨ (65 ≤ (zand (zl2i x) 127) ∧ ((zand (zl2i x) 127) ≤ 90 ∨ (((zand (zl2i x) 127) < 48 ∧ (zand (zl2i x) 127) = 95) ∨ (48 ≤ (zand (zl2i x) 127) ∧ ((zand (zl2i x) 127) ≤ 57 ∨ (zand (zl2i x) 127) = 95))))))) ∨ (97 ≤ (zand (zl2i x) 127) ∧ ((zand (zl2i x) 127) ≤ 122 ∨ (((zand (zl2i x) 127) < 65 ∧ (((zand (zl2i x) 127) < 48 ∧ (zand (zl2i x) 127) = 95) ∨ (48 ≤ (zand (zl2i x) 127) ∧ ((zand (zl2i x) 127) ≤ 57 ∨ (zand (zl2i x) 127) = 95)))) ∨ (65 ≤ (zand (zl2i x) 127) ∧ ((zand (zl2i x) 127) ≤ 90 ∨ (((zand (zl2i x) 127) < 48 ∧ (zand (zl2i x) 127) = 95) ∨ (48 ≤ (zand (zl2i x) 127) ∧ ((zand (zl2i x) 127) ≤ 57 ∨ (zand (zl2i x) 127) = 95))))))))) (not_or.mpr ⟨fun q => (not_or.mpr ⟨fun q => (not_or.mpr ⟨fun q => (Int.not_lt.mpr q3) q.1, fun q => (not_or.mpr ⟨(Int.not_le.mpr q5), q6⟩) q.2⟩) q.2, fun q => (Int.not_le.mpr q2) q.1⟩) q.2, fun q => (Int.not_le.mpr q1) q.1⟩) kT
            · skip
              refine w_iconst rfl rfl ?_
              refine w_goto (pc2 := 53) rfl (by decide) ?_
              exact w_j1 (p := ((zand (zl2i x) 127) < 97 ∧ (((zand (zl2i x) 127) < 65 ∧ (((zand (zl2i x) 127) < 48 ∧ (zand (zl2i x) 127) = 95) ∨ (48 ≤ (zand (zl2i x) 127) ∧ ((zand (zl2i x) 127) ≤ 57 ∨ (zand (zl2i x) 127) = 95)))) ∨ (65 ≤ (zand (zl2i x) 127) ∧ ((zand (zl2i x) 127) ≤ 90 ∨ (((zand (zl2i x) 127) < 48 ∧ (zand (zl2i x) 127) = 95) ∨ (48 ≤ (zand (zl2i x) 127) ∧ ((zand (zl2i x) 127) ≤ 57 ∨ (zand (zl2i x) 127) = 95))))))) ∨ (97 ≤ (zand (zl2i x) 127) ∧ ((zand (zl2i x) 127) ≤ 122 ∨ (((zand (zl2i x) 127) < 65 ∧ (((zand (zl2i x) 127) < 48 ∧ (zand (zl2i x) 127) = 95) ∨ (48 ≤ (zand (zl2i x) 127) ∧ ((zand (zl2i x) 127) ≤ 57 ∨ (zand (zl2i x) 127) = 95)))) ∨ (65 ≤ (zand (zl2i x) 127) ∧ ((zand (zl2i x) 127) ≤ 90 ∨ (((zand (zl2i x) 127) < 48 ∧ (zand (zl2i x) 127) = 95) ∨ (48 ≤ (zand (zl2i x) 127) ∧ ((zand (zl2i x) 127) ≤ 57 ∨ (zand (zl2i x) 127) = 95))))))))) (Or.inl ⟨q1, (Or.inl ⟨q2, (Or.inr ⟨q3, (Or.inr q6)⟩)⟩)⟩) kT
      · skip
        refine w_iload_n rfl rfl rfl ?_
        refine w_bipush rfl (by decide) rfl ?_
        refine w_ic_le (pc2 := 48) (pc3 := 30) rfl (by decide) rfl (zand_R _ _) ⟨by decide, by decide⟩ (fun q7 => ?_) (fun q7 => ?_)
        · skip
          refine w_iconst rfl rfl ?_
          refine w_goto (pc2 := 53) rfl (by decide) ?_
          exact w_j1 (p := ((zand (zl2i x) 127) < 97 ∧ (((zand (zl2i x) 127) < 65 ∧ (((zand (zl2i x) 127) < 48 ∧ (zand (zl2i x) 127) = 95) ∨ (48 ≤ (zand (zl2i x) 127) ∧ ((zand (zl2i x) 127) ≤ 57 ∨ (zand (zl2i x) 127) = 95)))) ∨ (65 ≤ (zand (zl2i x) 127) ∧ ((zand (zl2i x) 127) ≤ 90 ∨ (((zand (zl2i x) 127) < 48 ∧ (zand (zl2i x) 127) = 95) ∨ (48 ≤ (zand (zl2i x) 127) ∧ ((zand (zl2i x) 127) ≤ 57 ∨ (zand (zl2i x) 127) = 95))))))) ∨ (97 ≤ (zand (zl2i x) 127) ∧ ((zand (zl2i x) 127) ≤ 122 ∨ (((zand (zl2i x) 127) < 65 ∧ (((zand (zl2i x) 127) < 48 ∧ (zand (zl2i x) 127) = 95) ∨ (48 ≤ (zand (zl2i x) 127) ∧ ((zand (zl2i x) 127) ≤ 57 ∨ (zand (zl2i x) 127) = 95)))) ∨ (65 ≤ (zand (zl2i x) 127) ∧ ((zand (zl2i x) 127) ≤ 90 ∨ (((zand (zl2i x) 127) < 48 ∧ (zand (zl2i x) 127) = 95) ∨ (48 ≤ (zand (zl2i x) 127) ∧ ((zand (zl2i x) 127) ≤ 57 ∨ (zand (zl2i x) 127) = 95))))))))) (Or.inl ⟨q1, (Or.inr ⟨q2, (Or.inl q7)⟩)⟩) kT
        · skip
          refine w_iload_n rfl rfl rfl ?_
          refine w_bipush rfl (by decide) rfl ?_
          refine w_ic_lt (pc2 := 42) (pc3 := 36) rfl (by decide) rfl (zand_R _ _) ⟨by decide, by decide⟩ (fun q8 => ?_) (fun q8 => ?_)
          · skip
            refine w_iload_n rfl rfl rfl ?_
            refine w_bipush rfl (by decide) rfl ?_
            refine w_ic_ne (pc2 := 52) (pc3 := 48) rfl (by decide) rfl (zand_R _ _) ⟨by decide, by decide⟩ (fun q9 => ?_) (fun q9 => ?_)
            · skip
              refine w_iconst rfl rfl ?_
              exact w_j0 (p := ((zand (zl2i x) 127) < 97 ∧ (((zand (zl2i x) 127) < 65 ∧ (((zand (zl2i x) 127) < 48 ∧ (zand (zl2i x) 127) = 95) ∨ (48 ≤ (zand (zl2i x) 127) ∧ ((zand (zl2i x) 127) ≤ 57 ∨ (zand (zl2i x) 127) = 95)))) ∨ (65 ≤ (zand (zl2i x) 127) ∧ ((zand (zl2i x) 127) ≤ 90 ∨ (((zand (zl2i x) 127) < 48 ∧ (zand (zl2i x) 127) = 95) ∨ (48 ≤ (zand (zl2i x) 127) ∧ ((zand (zl2i x) 127) ≤ 57 ∨ (zand (zl2i x) 127) = 95))))))) ∨ (97 ≤ (zand (zl2i x) 127) ∧ ((zand (zl2i x) 127) ≤ 122 ∨ (((zand (zl2i x) 127) < 65 ∧ (((zand (zl2i x) 127) < 48 ∧ (zand (zl2i x) 127) = 95) ∨ (48 ≤ (zand (zl2i x) 127) ∧ ((zand (zl2i x) 127) ≤ 57 ∨ (zand (zl2i x) 127) = 95)))) ∨ (65 ≤ (zand (zl2i x) 127) ∧ ((zand (zl2i x) 127) ≤ 90 ∨ (((zand (zl2i x) 127) < 48 ∧ (zand (zl2i x) 127) = 95) ∨ (48 ≤ (zand (zl2i x) 127) ∧ ((zand (zl2i x) 127) ≤ 57 ∨ (zand (zl2i x) 127) = 95))))))))) (not_or.mpr ⟨fun q => (not_or.mpr ⟨fun q => (Int.not_lt.mpr q2) q.1, fun q => (not_or.mpr ⟨(Int.not_le.mpr q7), (not_or.mpr ⟨fun q => q9 q.2, fun q => (Int.not_le.mpr q8) q.1⟩)⟩) q.2⟩) q.2, fun q => (Int.not_le.mpr q1) q.1⟩) kT
            · skip
              refine w_iconst rfl rfl ?_
              refine w_goto (pc2 := 53) rfl (by decide) ?_
              exact w_j1 (p := ((zand (zl2i x) 127) < 97 ∧ (((zand (zl2i x) 127) < 65 ∧ (((zand (zl2i x) 127) < 48 ∧ (zand (zl2i x) 127) = 95) ∨ (48 ≤ (zand (zl2i x) 127) ∧ ((zand (zl2i x) 127) ≤ 57 ∨ (zand (zl2i x) 127) = 95)))) ∨ (65 ≤ (zand (zl2i x) 127) ∧ ((zand (zl2i x) 127) ≤ 90 ∨ (((zand (zl2i x) 127) < 48 ∧ (zand (zl2i x) 127) = 95) ∨ (48 ≤ (zand (zl2i x) 127) ∧ ((zand (zl2i x) 127) ≤ 57 ∨ (zand (zl2i x) 127) = 95))))))) ∨ (97 ≤ (zand (zl2i x) 127) ∧ ((zand (zl2i x) 127) ≤ 122 ∨ (((zand (zl2i x) 127) < 65 ∧ (((zand (zl2i x) 127) < 48 ∧ (zand (zl2i x) 127) = 95) ∨ (48 ≤ (zand (zl2i x) 127) ∧ ((zand (zl2i x) 127) ≤ 57 ∨ (zand (zl2i x) 127) = 95)))) ∨ (65 ≤ (zand (zl2i x) 127) ∧ ((zand (zl2i x) 127) ≤ 90 ∨ (((zand (zl2i x) 127) < 48 ∧ (zand (zl2i x) 127) = 95) ∨ (48 ≤ (zand (zl2i x) 127) ∧ ((zand (zl2i x) 127) ≤ 57 ∨ (zand (zl2i x) 127) = 95))))))))) (Or.inl ⟨q1, (Or.inr ⟨q2, (Or.inr (Or.inl ⟨q8, q9⟩))⟩)⟩) kT
          · skip
            refine w_iload_n rfl rfl rfl ?_
            refine w_bipush rfl (by decide) rfl ?_
            refine w_ic_le (pc2 := 48) (pc3 := 42) rfl (by decide) rfl (zand_R _ _) ⟨by decide, by decide⟩ (fun q10 => ?_) (fun q10 => ?_)
            · skip
              refine w_iconst rfl rfl ?_
              refine w_goto (pc2 := 53) rfl (by decide) ?_
              exact w_j1 (p := ((zand (zl2i x) 127) < 97 ∧ (((zand (zl2i x) 127) < 65 ∧ (((zand (zl2i x) 127) < 48 ∧ (zand (zl2i x) 127) = 95) ∨ (48 ≤ (zand (zl2i x) 127) ∧ ((zand (zl2i x) 127) ≤ 57 ∨ (zand (zl2i x) 127) = 95)))) ∨ (65 ≤ (zand (zl2i x) 127) ∧ ((zand (zl2i x) 127) ≤ 90 ∨ (((zand (zl2i x) 127) < 48 ∧ (zand (zl2i x) 127) = 95) ∨ (48 ≤ (zand (zl2i x) 127) ∧ ((zand (zl2i x) 127) ≤ 57 ∨ (zand (zl2i x) 127) = 95))))))) ∨ (97 ≤ (zand (zl2i x) 127) ∧ ((zand (zl2i x) 127) ≤ 122 ∨ (((zand (zl2i x) 127) < 65 ∧ (((zand (zl2i x) 127) < 48 ∧ (zand (zl2i x) 127) = 95) ∨ (48 ≤ (zand (zl2i x) 127) ∧ ((zand (zl2i x) 127) ≤ 57 ∨ (zand (zl2i x) 127) = 95)))) ∨ (65 ≤ (zand (zl2i x) 127) ∧ ((zand (zl2i x) 127) ≤ 90 ∨ (((zand (zl2i x) 127) < 48 ∧ (zand (zl2i x) 127) = 95) ∨ (48 ≤ (zand (zl2i x) 127) ∧ ((zand (zl2i x) 127) ≤ 57 ∨ (zand (zl2i x) 127) = 95))))))))) (Or.inl ⟨q1, (Or.inr ⟨q2, (Or.inr (Or.inr ⟨q8, (Or.inl q10)⟩))⟩)⟩) kT
            · skip
              refine w_iload_n rfl rfl rfl ?_
              refine w_bipush rfl (by decide) rfl ?_
              refine w_ic_ne (pc2 := 52) (pc3 := 48) rfl (by decide) rfl (zand_R _ _) ⟨by decide, by decide⟩ (fun q11 => ?_) (fun q11 => ?_)
              · skip
                refine w_iconst rfl rfl ?_
                exact w_j0 (p := ((zand (zl2i x) 127) < 97 ∧ (((zand (zl2i x) 127) < 65 ∧ (((zand (zl2i x) 127) < 48 ∧ (zand (zl2i x) 127) = 95) ∨ (48 ≤ (zand (zl2i x) 127) ∧ ((zand (zl2i x) 127) ≤ 57 ∨ (zand (zl2i x) 127) = 95)))) ∨ (65 ≤ (zand (zl2i x) 127) ∧ ((zand (zl2i x) 127) ≤ 90 ∨ (((zand (zl2i x) 127) < 48 ∧ (zand (zl2i x) 127) = 95) ∨ (48 ≤ (zand (zl2i x) 127) ∧ ((zand (zl2i x) 127) ≤ 57 ∨ (zand (zl2i x) 127) = 95))))))) ∨ (97 ≤ (zand (zl2i x) 127) ∧ ((zand (zl2i x) 127) ≤ 122 ∨ (((zand (zl2i x) 127) < 65 ∧ (((zand (zl2i x) 127) < 48 ∧ (zand (zl2i x) 127) = 95) ∨ (48 ≤ (zand (zl2i x) 127) ∧ ((zand (zl2i x) 127) ≤ 57 ∨ (zand (zl2i x) 127) = 95)))) ∨ (65 ≤ (zand (zl2i x) 127) ∧ ((zand (zl2i x) 127) ≤ 90 ∨ (((zand (zl2i x) 127) < 48 ∧ (zand (zl2i x) 127) = 95) ∨ (48 ≤ (zand (zl2i x) 127) ∧ ((zand (zl2i x) 127) ≤ 57 ∨ (zand (zl2i x) 127) = 95))))))))) (not_or.mpr ⟨fun q => (not_or.mpr ⟨fun q => (Int.not_lt.mpr q2) q.1, fun q => (not_or.mpr ⟨(Int.not_le.mpr q7), (not_or.mpr ⟨fun q => (Int.not_lt.mpr q8) q.1, fun q => (not_or.mpr ⟨(Int.not_le.mpr q10), q11⟩) q.2⟩)⟩) q.2⟩) q.2, fun q => (Int.not_le.mpr q1) q.1⟩) kT
              · skip
                refine w_iconst rfl rfl ?_
                refine w_goto (pc2 := 53) rfl (by decide) ?_
                exact w_j1 (p := ((zand (zl2i x) 127) < 97 ∧ (((zand (zl2i x) 127) < 65 ∧ (((zand (zl2i x) 127) < 48 ∧ (zand (zl2i x) 127) = 95) ∨ (48 ≤ (zand (zl2i x) 127) ∧ ((zand (zl2i x) 127) ≤ 57 ∨ (zand (zl2i x) 127) = 95)))) ∨ (65 ≤ (zand (zl2i x) 127) ∧ ((zand (zl2i x) 127) ≤ 90 ∨ (((zand (zl2i x) 127) < 48 ∧ (zand (zl2i x) 127) = 95) ∨ (48 ≤ (zand (zl2i x) 127) ∧ ((zand (zl2i x) 127) ≤ 57 ∨ (zand (zl2i x) 127) = 95))))))) ∨ (97 ≤ (zand (zl2i x) 127) ∧ ((zand (zl2i x) 127) ≤ 122 ∨ (((zand (zl2i x) 127) < 65 ∧ (((zand (zl2i x) 127) < 48 ∧ (zand (zl2i x) 127) = 95) ∨ (48 ≤ (zand (zl2i x) 127) ∧ ((zand (zl2i x) 127) ≤ 57 ∨ (zand (zl2i x) 127) = 95)))) ∨ (65 ≤ (zand (zl2i x) 127) ∧ ((zand (zl2i x) 127) ≤ 90 ∨ (((zand (zl2i x) 127) < 48 ∧ (zand (zl2i x) 127) = 95) ∨ (48 ≤ (zand (zl2i x) 127) ∧ ((zand (zl2i x) 127) ≤ 57 ∨ (zand (zl2i x) 127) = 95))))))))) (Or.inl ⟨q1, (Or.inr ⟨q2, (Or.inr (Or.inr ⟨q8, (Or.inr q11)⟩))⟩)⟩) kT
    · skip
      refine w_iload_n rfl rfl rfl ?_
      refine w_bipush rfl (by decide) rfl ?_
      refine w_ic_le (pc2 := 48) (pc3 := 18) rfl (by decide) rfl (zand_R _ _) ⟨by decide, by decide⟩ (fun q12 => ?_) (fun q12 => ?_)
      · skip
        refine w_iconst rfl rfl ?_
        refine w_goto (pc2 := 53) rfl (by decide) ?_
        exact w_j1 (p := ((zand (zl2i x) 127) < 97 ∧ (((zand (zl2i x) 127) < 65 ∧ (((zand (zl2i x) 127) < 48 ∧ (zand (zl2i x) 127) = 95) ∨ (48 ≤ (zand (zl2i x) 127) ∧ ((zand (zl2i x) 127) ≤ 57 ∨ (zand (zl2i x) 127) = 95)))) ∨ (65 ≤ (zand (zl2i x) 127) ∧ ((zand (zl2i x) 127) ≤ 90 ∨ (((zand (zl2i x) 127) < 48 ∧ (zand (zl2i x) 127) = 95) ∨ (48 ≤ (zand (zl2i x) 127) ∧ ((zand (zl2i x) 127) ≤ 57 ∨ (zand (zl2i x) 127) = 95))))))) ∨ (97 ≤ (zand (zl2i x) 127) ∧ ((zand (zl2i x) 127) ≤ 122 ∨ (((zand (zl2i x) 127) < 65 ∧ (((zand (zl2i x) 127) < 48 ∧ (zand (zl2i x) 127) = 95) ∨ (48 ≤ (zand (zl2i x) 127) ∧ ((zand (zl2i x) 127) ≤ 57 ∨ (zand (zl2i x) 127) = 95)))) ∨ (65 ≤ (zand (zl2i x) 127) ∧ ((zand (zl2i x) 127) ≤ 90 ∨ (((zand (zl2i x) 127) < 48 ∧ (zand (zl2i x) 127) = 95) ∨ (48 ≤ (zand (zl2i x) 127) ∧ ((zand (zl2i x) 127) ≤ 57 ∨ (zand (zl2i x) 127) = 95))))))))) (Or.inr ⟨q1, (Or.inl q12)⟩) kT
      · skip
        refine w_iload_n rfl rfl rfl ?_
        refine w_bipush rfl (by decide) rfl ?_
        refine w_ic_lt (pc2 := 30) (pc3 := 24) rfl (by decide) rfl (zand_R _ _) ⟨by decide, by decide⟩ (fun q13 => ?_) (fun q13 => ?_)
        · skip
          refine w_iload_n rfl rfl rfl ?_
          refine w_bipush rfl (by decide) rfl ?_
          refine w_ic_lt (pc2 := 42) (pc3 := 36) rfl (by decide) rfl (zand_R _ _) ⟨by decide, by decide⟩ (fun q14 => ?_) (fun q14 => ?_)
          · skip
            refine w_iload_n rfl rfl rfl ?_
            refine w_bipush rfl (by decide) rfl ?_
            refine w_ic_ne (pc2 := 52) (pc3 := 48) rfl (by decide) rfl (zand_R _ _) ⟨by decide, by decide⟩ (fun q15 => ?_) (fun q15 => ?_)
            · skip
              refine w_iconst rfl rfl ?_
              exact w_j0 (p := ((zand (zl2i x) 127) < 97 ∧ (((zand (zl2i x) 127) < 65 ∧ (((zand (zl2i x) 127) < 48 ∧ (zand (zl2i x) 127) = 95) ∨ (48 ≤ (zand (zl2i x) 127) ∧ ((zand (zl2i x) 127) ≤ 57 ∨ (zand (zl2i x) 127) = 95)))) ∨ (65 ≤ (zand (zl2i x) 127) ∧ ((zand (zl2i x) 127) ≤ 90 ∨ (((zand (zl2i x) 127) < 48 ∧ (zand (zl2i x) 127) = 95) ∨ (48 ≤ (zand (zl2i x) 127) ∧ ((zand (zl2i x) 127) ≤ 57 ∨ (zand (zl2i x) 127) = 95))))))) ∨ (97 ≤ (zand (zl2i x) 127) ∧ ((zand (zl2i x) 127) ≤ 122 ∨ (((zand (zl2i x) 127) < 65 ∧ (((zand (zl2i x) 127) < 48 ∧ (zand (zl2i x) 127) = 95) ∨ (48 ≤ (zand (zl2i x) 127) ∧ ((zand (zl2i x) 127) ≤ 57 ∨ (zand (zl2i x) 127) = 95)))) ∨ (65 ≤ (zand (zl2i x) 127) ∧ ((zand (zl2i x) 127) ≤ 90 ∨ (((zand (zl2i x) 127) < 48 ∧ (zand (zl2i x) 127) = 95) ∨ (48 ≤ (zand (zl2i x) 127) ∧ ((zand (zl2i x) 127) ≤ 57 ∨ (zand (zl2i x) 127) = 95))))))))) (not_or.mpr ⟨fun q => (Int.not_lt.mpr q1) q.1, fun q => (not_or.mpr ⟨(Int.not_le.mpr q12), (not_or.mpr ⟨fun q => (not_or.mpr ⟨fun q => q15 q.2, fun q => (Int.not_le.mpr q14) q.1⟩) q.2, fun q => (Int.not_le.mpr q13) q.1⟩)⟩) q.2⟩) kT
            · skip
              refine w_iconst rfl rfl ?_
              refine w_goto (pc2 := 53) rfl (by decide) ?_
              exact w_j1 (p := ((zand (zl2i x) 127) < 97 ∧ (((zand (zl2i x) 127) < 65 ∧ (((zand (zl2i x) 127) < 48 ∧ (zand (zl2i x) 127) = 95) ∨ (48 ≤ (zand (zl2i x) 127) ∧ ((zand (zl2i x) 127) ≤ 57 ∨ (zand (zl2i x) 127) = 95)))) ∨ (65 ≤ (zand (zl2i x) 127) ∧ ((zand (zl2i x) 127) ≤ 90 ∨ (((zand (zl2i x) 127) < 48 ∧ (zand (zl2i x) 127) = 95) ∨ (48 ≤ (zand (zl2i x) 127) ∧ ((zand (zl2i x) 127) ≤ 57 ∨ (zand (zl2i x) 127) = 95))))))) ∨ (97 ≤ (zand (zl2i x) 127) ∧ ((zand (zl2i x) 127) ≤ 122 ∨ (((zand (zl2i x) 127) < 65 ∧ (((zand (zl2i x) 127) < 48 ∧ (zand (zl2i x) 127) = 95) ∨ (48 ≤ (zand (zl2i x) 127) ∧ ((zand (zl2i x) 127) ≤ 57 ∨ (zand (zl2i x) 127) = 95)))) ∨ (65 ≤ (zand (zl2i x) 127) ∧ ((zand (zl2i x) 127) ≤ 90 ∨ (((zand (zl2i x) 127) < 48 ∧ (zand (zl2i x) 127) = 95) ∨ (48 ≤ (zand (zl2i x) 127) ∧ ((zand (zl2i x) 127) ≤ 57 ∨ (zand (zl2i x) 127) = 95))))))))) (Or.inr ⟨q1, (Or.inr (Or.inl ⟨q13, (Or.inl ⟨q14, q15⟩)⟩))⟩) kT
          · skip
            refine w_iload_n rfl rfl rfl ?_
            refine w_bipush rfl (by decide) rfl ?_
            refine w_ic_le (pc2 := 48) (pc3 := 42) rfl (by decide) rfl (zand_R _ _) ⟨by decide, by decide⟩ (fun q16 => ?_) (fun q16 => ?_)
            · skip
              refine w_iconst rfl rfl ?_
              refine w_goto (pc2 := 53) rfl (by decide) ?_
              exact w_j1 (p := ((zand (zl2i x) 127) < 97 ∧ (((zand (zl2i x) 127) < 65 ∧ (((zand (zl2i x) 127) < 48 ∧ (zand (zl2i x) 127) = 95) ∨ (48 ≤ (zand (zl2i x) 127) ∧ ((zand (zl2i x) 127) ≤ 57 ∨ (zand (zl2i x) 127) = 95)))) ∨ (65 ≤ (zand (zl2i x) 127) ∧ ((zand (zl2i x) 127) ≤ 90 ∨ (((zand (zl2i x) 127) < 48 ∧ (zand (zl2i x) 127) = 95) ∨ (48 ≤ (zand (zl2i x) 127) ∧ ((zand (zl2i x) 127) ≤ 57 ∨ (zand (zl2i x) 127) = 95))))))) ∨ (97 ≤ (zand (zl2i x) 127) ∧ ((zand (zl2i x) 127) ≤ 122 ∨ (((zand (zl2i x) 127) < 65 ∧ (((zand (zl2i x) 127) < 48 ∧ (zand (zl2i x) 127) = 95) ∨ (48 ≤ (zand (zl2i x) 127) ∧ ((zand (zl2i x) 127) ≤ 57 ∨ (zand (zl2i x) 127) = 95)))) ∨ (65 ≤ (zand (zl2i x) 127) ∧ ((zand (zl2i x) 127) ≤ 90 ∨ (((zand (zl2i x) 127) < 48 ∧ (zand (zl2i x) 127) = 95) ∨ (48 ≤ (zand (zl2i x) 127) ∧ ((zand (zl2i x) 127) ≤ 57 ∨ (zand (zl2i x) 127) = 95))))))))) (Or.inr ⟨q1, (Or.inr (Or.inl ⟨q13, (Or.inr ⟨q14, (Or.inl q16)⟩)⟩))⟩) kT
            · skip
              refine w_iload_n rfl rfl rfl ?_
              refine w_bipush rfl (by decide) rfl ?_
              refine w_ic_ne (pc2 := 52) (pc3 := 48) rfl (by decide) rfl (zand_R _ _) ⟨by decide, by decide⟩ (fun q17 => ?_) (fun q17 => ?_)
              · skip
                refine w_iconst rfl rfl ?_
                exact w_j0 (p := ((zand (zl2i x) 127) < 97 ∧ (((zand (zl2i x) 127) < 65 ∧ (((zand (zl2i x) 127) < 48 ∧ (zand (zl2i x) 127) = 95) ∨ (48 ≤ (zand (zl2i x) 127) ∧ ((zand (zl2i x) 127) ≤ 57 ∨ (zand (zl2i x) 127) = 95)))) ∨ (65 ≤ (zand (zl2i x) 127) ∧ ((zand (zl2i x) 127) ≤ 90 ∨ (((zand (zl2i x) 127) < 48 ∧ (zand (zl2i x) 127) = 95) ∨ (48 ≤ (zand (zl2i x) 127) ∧ ((zand (zl2i x) 127) ≤ 57 ∨ (zand (zl2i x) 127) = 95))))))) ∨ (97 ≤ (zand (zl2i x) 127) ∧ ((zand (zl2i x) 127) ≤ 122 ∨ (((zand (zl2i x) 127) < 65 ∧ (((zand (zl2i x) 127) < 48 ∧ (zand (zl2i x) 127) = 95) ∨ (48 ≤ (zand (zl2i x) 127) ∧ ((zand (zl2i x) 127) ≤ 57 ∨ (zand (zl2i x) 127) = 95)))) ∨ (65 ≤ (zand (zl2i x) 127) ∧ ((zand (zl2i x) 127) ≤ 90 ∨ (((zand (zl2i x) 127) < 48 ∧ (zand (zl2i x) 127) = 95) ∨ (48 ≤ (zand (zl2i x) 127) ∧ ((zand (zl2i x) 127) ≤ 57 ∨ (zand (zl2i x) 127) = 95))))))))) (not_or.mpr ⟨fun q => (Int.not_lt.mpr q1) q.1, fun q => (not_or.mpr ⟨(Int.not_le.mpr q12), (not_or.mpr ⟨fun q => (not_or.mpr ⟨fun q => (Int.not_lt.mpr q14) q.1, fun q => (not_or.mpr ⟨(Int.not_le.mpr q16), q17⟩) q.2⟩) q.2, fun q => (Int.not_le.mpr q13) q.1⟩)⟩) q.2⟩) kT
              · skip
                refine w_iconst rfl rfl ?_
                refine w_goto (pc2 := 53) rfl (by decide) ?_
                exact w_j1 (p := ((zand (zl2i x) 127) < 97 ∧ (((zand (zl2i x) 127) < 65 ∧ (((zand (zl2i x) 127) < 48 ∧ (zand (zl2i x) 127) = 95) ∨ (48 ≤ (zand (zl2i x) 127) ∧ ((zand (zl2i x) 127) ≤ 57 ∨ (zand (zl2i x) 127) = 95)))) ∨ (65 ≤ (zand (zl2i x) 127) ∧ ((zand (zl2i x) 127) ≤ 90 ∨ (((zand (zl2i x) 127) < 48 ∧ (zand (zl2i x) 127) = 95) ∨ (48 ≤ (zand (zl2i x) 127) ∧ ((zand (zl2i x) 127) ≤ 57 ∨ (zand (zl2i x) 127) = 95))))))) ∨ (97 ≤ (zand (zl2i x) 127) ∧ ((zand (zl2i x) 127) ≤ 122 ∨ (((zand (zl2i x) 127) < 65 ∧ (((zand (zl2i x) 127) < 48 ∧ (zand (zl2i x) 127) = 95) ∨ (48 ≤ (zand (zl2i x) 127) ∧ ((zand (zl2i x) 127) ≤ 57 ∨ (zand (zl2i x) 127) = 95)))) ∨ (65 ≤ (zand (zl2i x) 127) ∧ ((zand (zl2i x) 127) ≤ 90 ∨ (((zand (zl2i x) 127) < 48 ∧ (zand (zl2i x) 127) = 95) ∨ (48 ≤ (zand (zl2i x) 127) ∧ ((zand (zl2i x) 127) ≤ 57 ∨ (zand (zl2i x) 127) = 95))))))))) (Or.inr ⟨q1, (Or.inr (Or.inl ⟨q13, (Or.inr ⟨q14, (Or.inr q17)⟩)⟩))⟩) kT
        · skip
          refine w_iload_n rfl rfl rfl ?_
          refine w_bipush rfl (by decide) rfl ?_
          refine w_ic_le (pc2 := 48) (pc3 := 30) rfl (by decide) rfl (zand_R _ _) ⟨by decide, by decide⟩ (fun q18 => ?_) (fun q18 => ?_)
          · skip
            refine w_iconst rfl rfl ?_
            refine w_goto (pc2 := 53) rfl (by decide) ?_
            exact w_j1 (p := ((zand (zl2i x) 127) < 97 ∧ (((zand (zl2i x) 127) < 65 ∧ (((zand (zl2i x) 127) < 48 ∧ (zand (zl2i x) 127) = 95) ∨ (48 ≤ (zand (zl2i x) 127) ∧ ((zand (zl2i x) 127) ≤ 57 ∨ (zand (zl2i x) 127) = 95)))) ∨ (65 ≤ (zand (zl2i x) 127) ∧ ((zand (zl2i x) 127) ≤ 90 ∨ (((zand (zl2i x) 127) < 48 ∧ (zand (zl2i x) 127) = 95) ∨ (48 ≤ (zand (zl2i x) 127) ∧ ((zand (zl2i x) 127) ≤ 57 ∨ (zand (zl2i x) 127) = 95))))))) ∨ (97 ≤ (zand (zl2i x) 127) ∧ ((zand (zl2i x) 127) ≤ 122 ∨ (((zand (zl2i x) 127) < 65 ∧ (((zand (zl2i x) 127) < 48 ∧ (zand (zl2i x) 127) = 95) ∨ (48 ≤ (zand (zl2i x) 127) ∧ ((zand (zl2i x) 127) ≤ 57 ∨ (zand (zl2i x) 127) = 95)))) ∨ (65 ≤ (zand (zl2i x) 127) ∧ ((zand (zl2i x) 127) ≤ 90 ∨ (((zand (zl2i x) 127) < 48 ∧ (zand (zl2i x) 127) = 95) ∨ (48 ≤ (zand (zl2i x) 127) ∧ ((zand (zl2i x) 127) ≤ 57 ∨ (zand (zl2i x) 127) = 95))))))))) (Or.inr ⟨q1, (Or.inr (Or.inr ⟨q13, (Or.inl q18)⟩))⟩) kT
          · skip
            refine w_iload_n rfl rfl rfl ?_
            refine w_bipush rfl (by decide) rfl ?_
            refine w_ic_lt (pc2 := 42) (pc3 := 36) rfl (by decide) rfl (zand_R _ _) ⟨by decide, by decide⟩ (fun q19 => ?_) (fun q19 => ?_)
            · skip
              refine w_iload_n rfl rfl rfl ?_
              refine w_bipush rfl (by decide) rfl ?_
              refine w_ic_ne (pc2 := 52) (pc3 := 48) rfl (by decide) rfl (zand_R _ _) ⟨by decide, by decide⟩ (fun q20 => ?_) (fun q20 => ?_)
              · skip
                refine w_iconst rfl rfl ?_
                exact w_j0 (p := ((zand (zl2i x) 127) < 97 ∧ (((zand (zl2i x) 127) < 65 ∧ (((zand (zl2i x) 127) < 48 ∧ (zand (zl2i x) 127) = 95) ∨ (48 ≤ (zand (zl2i x) 127) ∧ ((zand (zl2i x) 127) ≤ 57 ∨ (zand (zl2i x) 127) = 95)))) ∨ (65 ≤ (zand (zl2i x) 127) ∧ ((zand (zl2i x) 127) ≤ 90 ∨ (((zand (zl2i x) 127) < 48 ∧ (zand (zl2i x) 127) = 95) ∨ (48 ≤ (zand (zl2i x) 127) ∧ ((zand (zl2i x) 127) ≤ 57 ∨ (zand (zl2i x) 127) = 95))))))) ∨ (97 ≤ (zand (zl2i x) 127) ∧ ((zand (zl2i x) 127) ≤ 122 ∨ (((zand (zl2i x) 127) < 65 ∧ (((zand (zl2i x) 127) < 48 ∧ (zand (zl2i x) 127) = 95) ∨ (48 ≤ (zand (zl2i x) 127) ∧ ((zand (zl2i x) 127) ≤ 57 ∨ (zand (zl2i x) 127) = 95)))) ∨ (65 ≤ (zand (zl2i x) 127) ∧ ((zand (zl2i x) 127) ≤ 90 ∨ (((zand (zl2i x) 127) < 48 ∧ (zand (zl2i x) 127) = 95) ∨ (48 ≤ (zand (zl2i x) 127) ∧ ((zand (zl2i x) 127) ≤ 57 ∨ (zand (zl2i x) 127) = 95))))))))) (not_or.mpr ⟨fun q => (Int.not_lt.mpr q1) q.1, fun q => (not_or.mpr ⟨(Int.not_le.mpr q12), (not_or.mpr ⟨fun q => (Int.not_lt.mpr q13) q.1, fun q => (not_or.mpr ⟨(Int.not_le.mpr q18), (not_or.mpr ⟨fun q => q20 q.2, fun q => (Int.not_le.mpr q19) q.1⟩)⟩) q.2⟩)⟩) q.2⟩) kT
              · skip
                refine w_iconst rfl rfl ?_
                refine w_goto (pc2 := 53) rfl (by decide) ?_
                exact w_j1 (p := ((zand (zl2i x) 127) < 97 ∧ (((zand (zl2i x) 127) < 65 ∧ (((zand (zl2i x) 127) < 48 ∧ (zand (zl2i x) 127) = 95) ∨ (48 ≤ (zand (zl2i x) 127) ∧ ((zand (zl2i x) 127) ≤ 57 ∨ (zand (zl2i x) 127) = 95)))) ∨ (65 ≤ (zand (zl2i x) 127) ∧ ((zand (zl2i x) 127) ≤ 90 ∨ (((zand (zl2i x) 127) < 48 ∧ (zand (zl2i x) 127) = 95) ∨ (48 ≤ (zand (zl2i x) 127) ∧ ((zand (zl2i x) 127) ≤ 57 ∨ (zand (zl2i x) 127) = 95))))))) ∨ (97 ≤ (zand (zl2i x) 127) ∧ ((zand (zl2i x) 127) ≤ 122 ∨ (((zand (zl2i x) 127) < 65 ∧ (((zand (zl2i x) 127) < 48 ∧ (zand (zl2i x) 127) = 95) ∨ (48 ≤ (zand (zl2i x) 127) ∧ ((zand (zl2i x) 127) ≤ 57 ∨ (zand (zl2i x) 127) = 95)))) ∨ (65 ≤ (zand (zl2i x) 127) ∧ ((zand (zl2i x) 127) ≤ 90 ∨ (((zand (zl2i x) 127) < 48 ∧ (zand (zl2i x) 127) = 95) ∨ (48 ≤ (zand (zl2i x) 127) ∧ ((zand (zl2i x) 127) ≤ 57 ∨ (zand (zl2i x) 127) = 95))))))))) (Or.inr ⟨q1, (Or.inr (Or.inr ⟨q13, (Or.inr (Or.inl ⟨q19, q20⟩))⟩))⟩) kT
            · skip
              refine w_iload_n rfl rfl rfl ?_
              refine w_bipush rfl (by decide) rfl ?_
              refine w_ic_le (pc2 := 48) (pc3 := 42) rfl (by decide) rfl (zand_R _ _) ⟨by decide, by decide⟩ (fun q21 => ?_) (fun q21 => ?_)
              · skip
                refine w_iconst rfl rfl ?_
                refine w_goto (pc2 := 53) rfl (by decide) ?_
                exact w_j1 (p := ((zand (zl2i x) 127) < 97 ∧ (((zand (zl2i x) 127) < 65 ∧ (((zand (zl2i x) 127) < 48 ∧ (zand (zl2i x) 127) = 95) ∨ (48 ≤ (zand (zl2i x) 127) ∧ ((zand (zl2i x) 127) ≤ 57 ∨ (zand (zl2i x) 127) = 95)))) ∨ (65 ≤ (zand (zl2i x) 127) ∧ ((zand (zl2i x) 127) ≤ 90 ∨ (((zand (zl2i x) 127) < 48 ∧ (zand (zl2i x) 127) = 95) ∨ (48 ≤ (zand (zl2i x) 127) ∧ ((zand (zl2i x) 127) ≤ 57 ∨ (zand (zl2i x) 127) = 95))))))) ∨ (97 ≤ (zand (zl2i x) 127) ∧ ((zand (zl2i x) 127) ≤ 122 ∨ (((zand (zl2i x) 127) < 65 ∧ (((zand (zl2i x) 127) < 48 ∧ (zand (zl2i x) 127) = 95) ∨ (48 ≤ (zand (zl2i x) 127) ∧ ((zand (zl2i x) 127) ≤ 57 ∨ (zand (zl2i x) 127) = 95)))) ∨ (65 ≤ (zand (zl2i x) 127) ∧ ((zand (zl2i x) 127) ≤ 90 ∨ (((zand (zl2i x) 127) < 48 ∧ (zand (zl2i x) 127) = 95) ∨ (48 ≤ (zand (zl2i x) 127) ∧ ((zand (zl2i x) 127) ≤ 57 ∨ (zand (zl2i x) 127) = 95))))))))) (Or.inr ⟨q1, (Or.inr (Or.inr ⟨q13, (Or.inr (Or.inr ⟨q19, (Or.inl q21)⟩))⟩))⟩) kT
              · skip
                refine w_iload_n rfl rfl rfl ?_
                refine w_bipush rfl (by decide) rfl ?_
                refine w_ic_ne (pc2 := 52) (pc3 := 48) rfl (by decide) rfl (zand_R _ _) ⟨by decide, by decide⟩ (fun q22 => ?_) (fun q22 => ?_)
                · skip
                  refine w_iconst rfl rfl ?_
                  exact w_j0 (p := ((zand (zl2i x) 127) < 97 ∧ (((zand (zl2i x) 127) < 65 ∧ (((zand (zl2i x) 127) < 48 ∧ (zand (zl2i x) 127) = 95) ∨ (48 ≤ (zand (zl2i x) 127) ∧ ((zand (zl2i x) 127) ≤ 57 ∨ (zand (zl2i x) 127) = 95)))) ∨ (65 ≤ (zand (zl2i x) 127) ∧ ((zand (zl2i x) 127) ≤ 90 ∨ (((zand (zl2i x) 127) < 48 ∧ (zand (zl2i x) 127) = 95) ∨ (48 ≤ (zand (zl2i x) 127) ∧ ((zand (zl2i x) 127) ≤ 57 ∨ (zand (zl2i x) 127) = 95))))))) ∨ (97 ≤ (zand (zl2i x) 127) ∧ ((zand (zl2i x) 127) ≤ 122 ∨ (((zand (zl2i x) 127) < 65 ∧ (((zand (zl2i x) 127) < 48 ∧ (zand (zl2i x) 127) = 95) ∨ (48 ≤ (zand (zl2i x) 127) ∧ ((zand (zl2i x) 127) ≤ 57 ∨ (zand (zl2i x) 127) = 95)))) ∨ (65 ≤ (zand (zl2i x) 127) ∧ ((zand (zl2i x) 127) ≤ 90 ∨ (((zand (zl2i x) 127) < 48 ∧ (zand (zl2i x) 127) = 95) ∨ (48 ≤ (zand (zl2i x) 127) ∧ ((zand (zl2i x) 127) ≤ 57 ∨ (zand (zl2i x) 127) = 95))))))))) (not_or.mpr ⟨fun q => (Int.not_lt.mpr q1) q.1, fun q => (not_or.mpr ⟨(Int.not_le.mpr q12), (not_or.mpr ⟨fun q => (Int.not_lt.mpr q13) q.1, fun q => (not_or.mpr ⟨(Int.not_le.mpr q18), (not_or.mpr ⟨fun q => (Int.not_lt.mpr q19) q.1, fun q => (not_or.mpr ⟨(Int.not_le.mpr q21), q22⟩) q.2⟩)⟩) q.2⟩)⟩) q.2⟩) kT
                · skip
                  refine w_iconst rfl rfl ?_
                  refine w_goto (pc2 := 53) rfl (by decide) ?_
                  exact w_j1 (p := ((zand (zl2i x) 127) < 97 ∧ (((zand (zl2i x) 127) < 65 ∧ (((zand (zl2i x) 127) < 48 ∧ (zand (zl2i x) 127) = 95) ∨ (48 ≤ (zand (zl2i x) 127) ∧ ((zand (zl2i x) 127) ≤ 57 ∨ (zand (zl2i x) 127) = 95)))) ∨ (65 ≤ (zand (zl2i x) 127) ∧ ((zand (zl2i x) 127) ≤ 90 ∨ (((zand (zl2i x) 127) < 48 ∧ (zand (zl2i x) 127) = 95) ∨ (48 ≤ (zand (zl2i x) 127) ∧ ((zand (zl2i x) 127) ≤ 57 ∨ (zand (zl2i x) 127) = 95))))))) ∨ (97 ≤ (zand (zl2i x) 127) ∧ ((zand (zl2i x) 127) ≤ 122 ∨ (((zand (zl2i x) 127) < 65 ∧ (((zand (zl2i x) 127) < 48 ∧ (zand (zl2i x) 127) = 95) ∨ (48 ≤ (zand (zl2i x) 127) ∧ ((zand (zl2i x) 127) ≤ 57 ∨ (zand (zl2i x) 127) = 95)))) ∨ (65 ≤ (zand (zl2i x) 127) ∧ ((zand (zl2i x) 127) ≤ 90 ∨ (((zand (zl2i x) 127) < 48 ∧ (zand (zl2i x) 127) = 95) ∨ (48 ≤ (zand (zl2i x) 127) ∧ ((zand (zl2i x) 127) ≤ 57 ∨ (zand (zl2i x) 127) = 95))))))))) (Or.inr ⟨q1, (Or.inr (Or.inr ⟨q13, (Or.inr (Or.inr ⟨q19, (Or.inr q22)⟩))⟩))⟩) kT
  · show w_T _ _ 104 53 _ [.int (iZ (zB (decide (((zand (zl2i x) 127) < 97 ∧ (((zand (zl2i x) 127) < 65 ∧ (((zand (zl2i x) 127) < 48 ∧ (zand (zl2i x) 127) = 95) ∨ (48 ≤ (zand (zl2i x) 127) ∧ ((zand (zl2i x) 127) ≤ 57 ∨ (zand (zl2i x) 127) = 95)))) ∨ (65 ≤ (zand (zl2i x) 127) ∧ ((zand (zl2i x) 127) ≤ 90 ∨ (((zand (zl2i x) 127) < 48 ∧ (zand (zl2i x) 127) = 95) ∨ (48 ≤ (zand (zl2i x) 127) ∧ ((zand (zl2i x) 127) ≤ 57 ∨ (zand (zl2i x) 127) = 95))))))) ∨ (97 ≤ (zand (zl2i x) 127) ∧ ((zand (zl2i x) 127) ≤ 122 ∨ (((zand (zl2i x) 127) < 65 ∧ (((zand (zl2i x) 127) < 48 ∧ (zand (zl2i x) 127) = 95) ∨ (48 ≤ (zand (zl2i x) 127) ∧ ((zand (zl2i x) 127) ≤ 57 ∨ (zand (zl2i x) 127) = 95)))) ∨ (65 ≤ (zand (zl2i x) 127) ∧ ((zand (zl2i x) 127) ≤ 90 ∨ (((zand (zl2i x) 127) < 48 ∧ (zand (zl2i x) 127) = 95) ∨ (48 ≤ (zand (zl2i x) 127) ∧ ((zand (zl2i x) 127) ≤ 57 ∨ (zand (zl2i x) 127) = 95))))))))))))] _ _
    refine w_bret rfl rfl ?_
    exact q_b (decide_eq_decide.mpr (by rw [zand_127]; omega))
theorem c_fst_c {sc : x_S} {d : Nat} {S : w_S} {x : Int64} (hx : 0 < x.toInt) (hd : 0 ≤ d) : ∀ n : Nat, (∀ (v : Int64) (i : Int) (lv : x_L) (l2 : lv 2 = some (.long v)) (l4 : lv 4 = some (.int (iZ i))) (i0 : 1 ≤ i) (i1 : i ≤ 9) (ip : 0 < v.toInt) (iv : v.toInt = (lshr x (7 * (i - 1))).toInt) (ie : wl x = i - 1 + wlN (11 - i.toNat) v.toInt) (hm : (9 - i).toNat < n), w_T sc d 107 5 lv [] S (fun v S2 => v = some (.long (Int64.ofInt (wc x 0))) ∧ S2 = S)) := by
  intro n
  induction n with
  | zero => exact fun v i lv l2 l4 i0 i1 ip iv ie hm => absurd hm (Nat.not_lt_zero _)
  | succ n ih =>
    intro v i lv l2 l4 i0 i1 ip iv ie hm
    have hs : (lshr v 7).toInt = v.toInt / 128 := by
      have := lshr_s (x := v) (k := 0) (by decide) (by decide)
      rw [lshr_z] at this
      exact this
    have hw : v.toInt ≤ 127 → v = Int64.ofInt (wc x 0) := fun h => by
      apply i64_ext
      have hr := wc_R x 0
      rw [i64_of hr.1 (by omega)]
      have ie2 := ie
      rw [show 11 - i.toNat = (10 - i.toNat) + 1 by omega, wlN_s _ ip, show v.toInt / 128 = 0 by omega, wlN_0 _ (Int.le_refl 0)] at ie2
      unfold wc
      rw [if_neg (by omega), show 7 * (wl x - 1 - 0) = 7 * (i - 1) by omega, ← iv]
      omega
    have h127 : (127 : Int64).toInt = 127 := rfl
    refine w_iload rfl l4 rfl ?_
    refine w_bipush rfl (by decide) rfl ?_
    refine w_ic_ge (pc2 := 31) (pc3 := 12) rfl (by decide) rfl ⟨by omega, by omega⟩ ⟨by decide, by decide⟩ (fun c9 => ?_) (fun c9 => ?_)
    · skip
      refine w_lload_n rfl l2 rfl ?_
      refine w_lret rfl rfl ?_
      refine q_l (hw ?_)
      first
        | (have := mt (Int64.lt_iff_toInt_lt).mpr c17; omega)
        | (rw [iv, show i = 9 by omega]; exact lshr_56)
    · skip
      refine w_lload_n rfl l2 rfl ?_
      refine w_ldc2 (v := 127) rfl rfl rfl ?_
      refine w_l_le (pc2 := 31) (pc3 := 20) rfl rfl (by decide) rfl (fun c17 => ?_) (fun c17 => ?_)
      · skip
        refine w_lload_n rfl l2 rfl ?_
        refine w_lret rfl rfl ?_
        refine q_l (hw ?_)
        first
          | (have := mt (Int64.lt_iff_toInt_lt).mpr c17; omega)
          | (rw [iv, show i = 9 by omega]; exact lshr_56)
      · skip
        refine w_lload_n rfl l2 rfl ?_
        refine w_bipush rfl (by decide) rfl ?_
        refine w_zlshr rfl rfl ?_
        refine w_lstore_n rfl (by decide) rfl ?_
        refine w_iinc rfl l4 (by decide) rfl ?_
        refine w_goto (pc2 := 5) rfl (by decide) ?_
        exact ih (lshr v 7) (i + 1) _ rfl rfl (by omega) (by omega) (by rw [hs]; have := (Int64.lt_iff_toInt_lt).mp c17; omega) (by rw [hs, iv, show i + 1 - 1 = i - 1 + 1 by omega, show 7 * (i - 1 + 1) = 7 * (i - 1) + 7 by omega, lshr_s (by omega) (by omega)]) (by rw [ie, hs, show 11 - i.toNat = (11 - (i + 1).toNat) + 1 by omega, wlN_s _ ip]; omega) (by omega)
theorem c_fst {sc : x_S} {d : Nat} {S : w_S} {x : Int64} (hx : 0 < x.toInt) (hd : 0 ≤ d) : w_T sc d 107 0 (x_en 0 [.long x]) [] S (fun v S2 => v = some (.long (Int64.ofInt (wc x 0))) ∧ S2 = S) := by
  refine w_lload_n rfl rfl rfl ?_
  refine w_lstore_n rfl (by decide) rfl ?_
  refine w_iconst rfl rfl ?_
  refine w_istore rfl (by decide) rfl ?_
  exact (c_fst_c hx hd _) x 1 _ rfl rfl (by omega) (by omega) (by exact hx) (by rw [show (1 : Int) - 1 = 0 by decide, Int.mul_zero, lshr_z]) (by show wlN _ _ = _; rw [show (1 : Int) - 1 = 0 by decide, Int.zero_add]; rfl) (Nat.lt_succ_self _)
theorem c_isn {sc : x_S} {d : Nat} {S : w_S} {x : Int64} (hx : 0 < x.toInt) (hd : 1 ≤ d) : w_T sc d 105 0 (x_en 0 [.long x]) [] S (fun v S2 => v = some (.int (iZ (zB (dgt (wc x 0))))) ∧ S2 = S) := by
  refine w_lload_n rfl rfl rfl ?_
  refine w_CS (as := [.long x]) (r := []) rfl rfl rfl rfl (Nat.le_of_ble_eq_true rfl) (Nat.le_of_ble_eq_true rfl) (by omega) rfl (c_fst (x := x) hx (by omega)) ?_
  rintro _ _ ⟨rfl, hS⟩
  rw [hS]
  show w_T _ _ 105 4 _ [.long (Int64.ofInt (wc x 0))] _ _
  refine w_lstore_n rfl (by decide) rfl ?_
  refine w_lload_n rfl rfl rfl ?_
  refine w_ldc2 (v := 48) rfl rfl rfl ?_
  apply w_jn (A := w_T _ _ 105 26 _ [.int (iZ (zB (decide ((¬ (Int64.ofInt (wc x 0)) < 48) ∧ (¬ 57 < (Int64.ofInt (wc x 0)))))))] _ _)
  · intro kT
    refine w_l_lt (pc2 := 25) (pc3 := 13) rfl rfl (by decide) rfl (fun q1 => ?_) (fun q1 => ?_)
    · skip
      refine w_iconst rfl rfl ?_
      exact w_j0 (p := (¬ (Int64.ofInt (wc x 0)) < 48) ∧ (¬ 57 < (Int64.ofInt (wc x 0)))) (fun q => (not_not_intro q1) q.1) kT
    · skip
      refine w_lload_n rfl rfl rfl ?_
      refine w_ldc2 (v := 57) rfl rfl rfl ?_
      refine w_l_gt (pc2 := 25) (pc3 := 21) rfl rfl (by decide) rfl (fun q2 => ?_) (fun q2 => ?_)
      · skip
        refine w_iconst rfl rfl ?_
        exact w_j0 (p := (¬ (Int64.ofInt (wc x 0)) < 48) ∧ (¬ 57 < (Int64.ofInt (wc x 0)))) (fun q => (not_not_intro q2) q.2) kT
      · skip
        refine w_iconst rfl rfl ?_
        refine w_goto (pc2 := 26) rfl (by decide) ?_
        exact w_j1 (p := (¬ (Int64.ofInt (wc x 0)) < 48) ∧ (¬ 57 < (Int64.ofInt (wc x 0)))) ⟨q1, q2⟩ kT
  · show w_T _ _ 105 26 _ [.int (iZ (zB (decide ((¬ (Int64.ofInt (wc x 0)) < 48) ∧ (¬ 57 < (Int64.ofInt (wc x 0)))))))] _ _
    refine w_bret rfl rfl ?_
    have e1 := i64_of (n := wc x 0) (wc_R x 0).1 (by have := wc_R x 0; omega)
    have e2 : (48 : Int64).toInt = 48 := rfl
    have e3 : (57 : Int64).toInt = 57 := rfl
    exact q_b (decide_eq_decide.mpr (by rw [Int64.lt_iff_toInt_lt, Int64.lt_iff_toInt_lt, e1, e2, e3]; omega))
theorem c_nam {sc : x_S} {d : Nat} {S : w_S} {x : Int64} (hx : 0 < x.toInt) (hd : 1 ≤ d) : w_T sc d 106 0 (x_en 0 [.long x]) [] S (fun v S2 => v = some (.int (iZ (zB (nam x)))) ∧ S2 = S) := by
  refine w_lload_n rfl rfl rfl ?_
  refine w_CS (as := [.long x]) (r := []) rfl rfl rfl rfl (Nat.le_of_ble_eq_true rfl) (Nat.le_of_ble_eq_true rfl) (by omega) rfl (c_fst (x := x) hx (by omega)) ?_
  rintro _ _ ⟨rfl, hS⟩
  rw [hS]
  show w_T _ _ 106 4 _ [.long (Int64.ofInt (wc x 0))] _ _
  refine w_lstore_n rfl (by decide) rfl ?_
  refine w_lload_n rfl rfl rfl ?_
  refine w_CS (as := [.long (Int64.ofInt (wc x 0))]) (r := []) rfl rfl rfl rfl (Nat.le_of_ble_eq_true rfl) (Nat.le_of_ble_eq_true rfl) (by omega) rfl (c_isw (x := Int64.ofInt (wc x 0)) (by omega)) ?_
  rintro _ _ ⟨rfl, hS⟩
  rw [hS]
  show w_T _ _ 106 9 _ [.int (iZ (zB (wdl ((Int64.ofInt (wc x 0)).toInt % 128))))] _ _
  apply w_jn (A := w_T _ _ 106 33 _ [.int (iZ (zB (decide ((wdl ((Int64.ofInt (wc x 0)).toInt % 128)) = true ∧ ((Int64.ofInt (wc x 0)) < 48 ∨ 57 < (Int64.ofInt (wc x 0)))))))] _ _)
  · intro kT
    refine w_b_eq (pc2 := 32) (pc3 := 12) rfl (by decide) rfl (fun q1 => ?_) (fun q1 => ?_)
    · skip
      refine w_iconst rfl rfl ?_
      exact w_j0 (p := (wdl ((Int64.ofInt (wc x 0)).toInt % 128)) = true ∧ ((Int64.ofInt (wc x 0)) < 48 ∨ 57 < (Int64.ofInt (wc x 0)))) (fun q => (Bool.eq_false_iff.mp q1) q.1) kT
    · skip
      refine w_lload_n rfl rfl rfl ?_
      refine w_ldc2 (v := 48) rfl rfl rfl ?_
      refine w_l_lt (pc2 := 28) (pc3 := 20) rfl rfl (by decide) rfl (fun q2 => ?_) (fun q2 => ?_)
      · skip
        refine w_iconst rfl rfl ?_
        refine w_goto (pc2 := 33) rfl (by decide) ?_
        exact w_j1 (p := (wdl ((Int64.ofInt (wc x 0)).toInt % 128)) = true ∧ ((Int64.ofInt (wc x 0)) < 48 ∨ 57 < (Int64.ofInt (wc x 0)))) ⟨q1, (Or.inl q2)⟩ kT
      · skip
        refine w_lload_n rfl rfl rfl ?_
        refine w_ldc2 (v := 57) rfl rfl rfl ?_
        refine w_l_le (pc2 := 32) (pc3 := 28) rfl rfl (by decide) rfl (fun q3 => ?_) (fun q3 => ?_)
        · skip
          refine w_iconst rfl rfl ?_
          exact w_j0 (p := (wdl ((Int64.ofInt (wc x 0)).toInt % 128)) = true ∧ ((Int64.ofInt (wc x 0)) < 48 ∨ 57 < (Int64.ofInt (wc x 0)))) (fun q => (not_or.mpr ⟨q2, q3⟩) q.2) kT
        · skip
          refine w_iconst rfl rfl ?_
          refine w_goto (pc2 := 33) rfl (by decide) ?_
          exact w_j1 (p := (wdl ((Int64.ofInt (wc x 0)).toInt % 128)) = true ∧ ((Int64.ofInt (wc x 0)) < 48 ∨ 57 < (Int64.ofInt (wc x 0)))) ⟨q1, (Or.inr q3)⟩ kT
  · show w_T _ _ 106 33 _ [.int (iZ (zB (decide ((wdl ((Int64.ofInt (wc x 0)).toInt % 128)) = true ∧ ((Int64.ofInt (wc x 0)) < 48 ∨ 57 < (Int64.ofInt (wc x 0)))))))] _ _
    refine w_bret rfl rfl ?_
    have e1 := i64_of (n := wc x 0) (wc_R x 0).1 (by have := wc_R x 0; omega)
    have e2 : (48 : Int64).toInt = 48 := rfl
    have e3 : (57 : Int64).toInt = 57 := rfl
    have e4 := wc_R x 0
    exact q_b (by
      rw [Bool.eq_iff_iff]
      unfold nam dgt
      simp only [decide_eq_true_eq, Bool.and_eq_true, Bool.not_eq_true', decide_eq_false_iff_not]
      rw [Int64.lt_iff_toInt_lt, Int64.lt_iff_toInt_lt, e1, e2, e3, show wc x 0 % 128 = wc x 0 by omega]
      exact and_congr_right (fun _ => by omega))
def spk (q : Nat) : Nat → Int → Int64 → Int64
  | 0, _, p => p
  | n + 1, i, p => if i < sgl q then spk q n (i + 1) (lshl p 7 + li2l (sgb q i)) else p
theorem c_spl_c {sc : x_S} {d : Nat} {S : w_S} {x c : Int64} {q : Nat} (hq : 1 ≤ q ∧ q < 1 + x_gn) (hc : spk q 20 0 0 = c) (hd : 4 ≤ d) : ∀ n : Nat, (∀ (p : Int64) (i : Int) (lv : x_L) (l0 : lv 0 = some (.long x)) (l2 : lv 2 = some (.retAddr q)) (l3 : lv 3 = some (.long p)) (l5 : lv 5 = some (.int (iZ i))) (i0 : 0 ≤ i) (i1 : i ≤ 17) (ie : spk q (20 - i.toNat) i p = c) (hm : (17 - i).toNat < n), w_T sc d 103 5 lv [] S (fun v S2 => v = some (.int (iZ (zB (decide (x = c))))) ∧ S2 = S)) := by
  intro n
  induction n with
  | zero => exact fun p i lv l0 l2 l3 l5 i0 i1 ie hm => absurd hm (Nat.not_lt_zero _)
  | succ n ih =>
    intro p i lv l0 l2 l3 l5 i0 i1 ie hm
    have hq2 : q < 20 := hq.2
    have hl := sgl_R q
    have hs : spk q (20 - i.toNat) i p = if i < sgl q then spk q (19 - i.toNat) (i + 1) (lshl p 7 + li2l (sgb q i)) else p := by
      rw [show 20 - i.toNat = (19 - i.toNat) + 1 by omega]
      rfl
    refine w_iload rfl l5 rfl ?_
    refine w_aloadk_n rfl l2 (by omega) rfl ?_
    refine w_C7 (as := []) (r := [.int (iZ i)]) rfl rfl rfl rfl hq (Nat.le_of_ble_eq_true rfl) (Nat.le_of_ble_eq_true rfl) (by omega) rfl (c_slen (q := q) hq (by omega)) ?_
    rintro _ _ ⟨rfl, hS⟩
    rw [hS]
    show w_T _ _ 103 11 _ [.int (iZ (sgl q)), .int (iZ i)] _ _
    refine w_ic_ge (pc2 := 33) (pc3 := 14) rfl (by decide) rfl ⟨by omega, by omega⟩ ⟨by omega, by omega⟩ (fun c11 => ?_) (fun c11 => ?_)
    · skip
      refine w_lload_n rfl l0 rfl ?_
      refine w_lload_n rfl l3 rfl ?_
      apply w_jn (A := w_T _ _ 103 44 _ [.int (iZ (zB (decide (x = p))))] _ _)
      · intro kT
        refine w_l_ne (pc2 := 43) (pc3 := 39) rfl rfl (by decide) rfl (fun q1 => ?_) (fun q1 => ?_)
        · skip
          refine w_iconst rfl rfl ?_
          exact w_j0 (p := x = p) q1 kT
        · skip
          refine w_iconst rfl rfl ?_
          refine w_goto (pc2 := 44) rfl (by decide) ?_
          exact w_j1 (p := x = p) q1 kT
      · show w_T _ _ 103 44 _ [.int (iZ (zB (decide (x = p))))] _ _
        refine w_bret rfl rfl ?_
        have e := ie
        rw [hs, if_neg (by omega)] at e
        exact q_b (by rw [e])
    · skip
      refine w_lload_n rfl l3 rfl ?_
      refine w_bipush rfl (by decide) rfl ?_
      refine w_zlshl rfl rfl ?_
      refine w_aloadk_n rfl l2 (by omega) rfl ?_
      refine w_iload rfl l5 rfl ?_
      refine w_C7 (as := [.int (iZ i)]) (r := [.long (lshl p 7)]) rfl rfl rfl rfl hq (Nat.le_of_ble_eq_true rfl) (Nat.le_of_ble_eq_true rfl) (by omega) rfl (c_cha (q := q) (i := i) hq (by omega) (by omega) (by omega)) ?_
      rintro _ _ ⟨rfl, hS⟩
      rw [hS]
      show w_T _ _ 103 24 _ [.int (iZ (sgb q i)), .long (lshl p 7)] _ _
      refine w_zi2l rfl rfl ?_
      refine w_ladd rfl rfl ?_
      refine w_lstore_n rfl (by decide) rfl ?_
      refine w_iinc rfl l5 (by decide) rfl ?_
      refine w_goto (pc2 := 5) rfl (by decide) ?_
      exact ih ((lshl p 7) + (li2l (sgb q i))) (i + 1) _ (by exact l0) (by exact (congrArg x_k2 l2)) (by exact rfl) (by exact rfl) (by omega) (by omega) (by rw [← ie, hs, if_pos c11, show 20 - (i + 1).toNat = 19 - i.toNat by omega]) (by omega)
theorem c_spl {sc : x_S} {d : Nat} {S : w_S} {x c : Int64} {q : Nat} (hq : 1 ≤ q ∧ q < 1 + x_gn) (hc : spk q 20 0 0 = c) (hd : 4 ≤ d) : w_T sc d 103 0 (x_en 0 [.long x, .retAddr q]) [] S (fun v S2 => v = some (.int (iZ (zB (decide (x = c))))) ∧ S2 = S) := by
  have hq2 : q < 20 := hq.2
  have hl := sgl_R q
  refine w_lconst (v := 0) rfl (by decide) rfl ?_
  refine w_lstore_n rfl (by decide) rfl ?_
  refine w_iconst rfl rfl ?_
  refine w_istore rfl (by decide) rfl ?_
  exact (c_spl_c hq hc hd _) 0 0 _ rfl rfl rfl rfl (by omega) (by omega) (by exact hc) (Nat.lt_succ_self _)
theorem spk_4 : spk 4 20 0 0 = 27344319718 := by decide +kernel
theorem spk_5 : spk 5 20 0 0 = 28401283814 := by decide +kernel
theorem spk_6 : spk 6 20 0 0 = 3635385283302 := by decide +kernel
theorem spk_7 : spk 7 20 0 0 = 213596645 := by decide +kernel
theorem spk_8 : spk 8 20 0 0 = 3463301461861 := by decide +kernel
theorem spk_9 : spk 9 20 0 0 = 465601258418789 := by decide +kernel
theorem spk_10 : spk 10 20 0 0 = 213596645 := by decide +kernel
theorem spk_11 : spk 11 20 0 0 = 27344319718 := by decide +kernel
theorem spk_12 : spk 12 20 0 0 = 31639286502 := by decide +kernel
theorem spk_13 : spk 13 20 0 0 = 28401283814 := by decide +kernel
theorem spk_14 : spk 14 20 0 0 = 3635385283302 := by decide +kernel
theorem spk_15 : spk 15 20 0 0 = 1734516 := by decide +kernel
theorem spk_16 : spk 16 20 0 0 = 209334514 := by decide +kernel
theorem spk_17 : spk 17 20 0 0 = 514361201865446 := by decide +kernel
theorem spk_18 : spk 18 20 0 0 = 3944367356270 := by decide +kernel
theorem spk_19 : spk 19 20 0 0 = 7869 := by decide +kernel
theorem r_len_c {sc : x_S} {d : Nat} {S : w_S} {x : Int64} (hx : 0 ≤ x.toInt) (hd : 0 ≤ d) : ∀ n : Nat, (∀ (i : Int) (v : Int64) (lv : x_L) (l2 : lv 2 = some (.int (iZ i))) (l3 : lv 3 = some (.long v)) (i0 : 0 ≤ i) (i1 : i ≤ 9) (iv : v.toInt = (lshr x (7 * i)).toInt) (ie : wl x = i + wlN (10 - i.toNat) v.toInt) (hm : (9 - i).toNat < n), w_T sc d 120 4 lv [] S (fun v S2 => v = some (.int (iZ (wl x))) ∧ S2 = S)) := by
  intro n
  induction n with
  | zero => exact fun i v lv l2 l3 i0 i1 iv ie hm => absurd hm (Nat.not_lt_zero _)
  | succ n ih =>
    intro i v lv l2 l3 i0 i1 iv ie hm
    have hs : (lshr v 7).toInt = v.toInt / 128 := by
      have := lshr_s (x := v) (k := 0) (by decide) (by decide)
      rw [lshr_z] at this
      exact this
    have h00 : (0 : Int64).toInt = 0 := rfl
    have h9 : 0 < v.toInt → i < 9 := fun h => by
      by_cases e : i = 9
      · rw [iv, e, show (7 : Int) * 9 = 63 by decide, lshr_63 hx] at h
        omega
      · omega
    refine w_lload_n rfl l3 rfl ?_
    refine w_lconst (v := 0) rfl (by decide) rfl ?_
    refine w_l_le (pc2 := 21) (pc3 := 10) rfl rfl (by decide) rfl (fun c7 => ?_) (fun c7 => ?_)
    · skip
      refine w_iload_n rfl l2 rfl ?_
      refine w_iret rfl rfl ?_
      refine q_i ?_
      rw [ie, wlN_0 _ (by have := mt (Int64.lt_iff_toInt_lt).mpr c7; omega), Int.add_zero]
    · skip
      refine w_iinc rfl l2 (by decide) rfl ?_
      refine w_lload_n rfl l3 rfl ?_
      refine w_bipush rfl (by decide) rfl ?_
      refine w_zlshr rfl rfl ?_
      refine w_lstore_n rfl (by decide) rfl ?_
      refine w_goto (pc2 := 4) rfl (by decide) ?_
      exact ih (i + 1) (lshr v 7) _ rfl rfl (by omega) (by have := h9 (by have := (Int64.lt_iff_toInt_lt).mp c7; omega); omega) (by have := h9 (by have := (Int64.lt_iff_toInt_lt).mp c7; omega); rw [hs, iv, show 7 * (i + 1) = 7 * i + 7 by omega, lshr_s (by omega) (by omega)]) (by have h8 : 0 < v.toInt := (by have := (Int64.lt_iff_toInt_lt).mp c7; omega); have := h9 h8; rw [ie, hs, show 10 - i.toNat = (10 - (i + 1).toNat) + 1 by omega, wlN_s _ h8]; omega) (by have := h9 (by have := (Int64.lt_iff_toInt_lt).mp c7; omega); omega)
theorem r_len {sc : x_S} {d : Nat} {S : w_S} {x : Int64} (hx : 0 ≤ x.toInt) (hd : 0 ≤ d) : w_T sc d 120 0 (x_en 0 [.long x]) [] S (fun v S2 => v = some (.int (iZ (wl x))) ∧ S2 = S) := by
  refine w_iconst rfl rfl ?_
  refine w_istore_n rfl (by decide) rfl ?_
  refine w_lload_n rfl rfl rfl ?_
  refine w_lstore_n rfl (by decide) rfl ?_
  exact (r_len_c hx hd _) 0 x _ rfl rfl (by omega) (by decide) (by rw [Int.mul_zero, lshr_z]) (by show wlN _ _ = _; rw [Int.zero_add]; rfl) (Nat.lt_succ_self _)
theorem r_let {sc : x_S} {d : Nat} {S : w_S} {x : Int64} {i : Int} (hx : 0 ≤ x.toInt) (hi : iR i) (hd : 1 ≤ d) : w_T sc d 121 0 (x_en 0 [.long x, .int (iZ i)]) [] S (fun v S2 => v = some (.int (iZ (wc x i))) ∧ S2 = S) := by
  have h9 := wl_9 x
  have h0 := wl_0 x
  refine w_lload_n rfl rfl rfl ?_
  refine w_CS (as := [.long x]) (r := []) rfl rfl rfl rfl (Nat.le_of_ble_eq_true rfl) (Nat.le_of_ble_eq_true rfl) (by omega) rfl (r_len (x := x) hx (by omega)) ?_
  rintro _ _ ⟨rfl, hS⟩
  rw [hS]
  show w_T _ _ 121 4 _ [.int (iZ (wl x))] _ _
  refine w_istore_n rfl (by decide) rfl ?_
  refine w_iload_n rfl rfl rfl ?_
  refine w_if_lt (pc2 := 14) (pc3 := 9) rfl (by decide) rfl ⟨by have := hi.1; have := hi.2; omega, by have := hi.1; have := hi.2; omega⟩ (fun c6 => ?_) (fun c6 => ?_)
  · skip
    refine w_iconst rfl rfl ?_
    refine w_goto (pc2 := 33) rfl (by decide) ?_
    refine w_iret rfl rfl ?_
    exact q_i (by unfold wc; rw [if_pos (by omega)])
  · skip
    refine w_iload_n rfl rfl rfl ?_
    refine w_iload_n rfl rfl rfl ?_
    refine w_ic_lt (pc2 := 18) (pc3 := 14) rfl (by decide) rfl ⟨by have := hi.1; have := hi.2; omega, by have := hi.1; have := hi.2; omega⟩ ⟨by have := hi.1; have := hi.2; omega, by have := hi.1; have := hi.2; omega⟩ (fun c11 => ?_) (fun c11 => ?_)
    · skip
      refine w_lload_n rfl rfl rfl ?_
      refine w_bipush rfl (by decide) rfl ?_
      refine w_iload_n rfl rfl rfl ?_
      refine w_iconst rfl rfl ?_
      refine w_isub rfl rfl ?_
      refine w_iload_n rfl rfl rfl ?_
      refine w_isub rfl rfl ?_
      refine w_imul rfl rfl ?_
      refine w_zlshr rfl rfl ?_
      refine w_ldc2 (v := 127) rfl rfl rfl ?_
      refine w_land rfl rfl ?_
      refine w_zl2i rfl rfl ?_
      refine w_iret rfl rfl ?_
      exact q_i (by
  have hn := lshr_n (x := x) (k := 7 * (wl x - 1 - i)) hx (by omega) (by omega)
  have hl := land_toInt hn
  unfold wc
  rw [if_neg (by omega), zl2i_toInt (by omega) (by omega), hl])
    · skip
      refine w_iconst rfl rfl ?_
      refine w_goto (pc2 := 33) rfl (by decide) ?_
      refine w_iret rfl rfl ?_
      exact q_i (by unfold wc; rw [if_pos (by omega)])
theorem r_wdl {sc : x_S} {d : Nat} {S : w_S} {c : Int} (hc : iR c) (hd : 0 ≤ d) : w_T sc d 117 0 (x_en 0 [.int (iZ c)]) [] S (fun v S2 => v = some (.int (iZ (zB (wdl c)))) ∧ S2 = S) := by
  refine w_iload_n rfl rfl rfl ?_
  refine w_bipush rfl (by decide) rfl ?_
  apply w_jn (A := w_T _ _ 117 47 _ [.int (iZ (zB (decide ((c < 65 ∧ ((c < 97 ∧ (c = 95 ∨ (48 ≤ c ∧ c ≤ 57))) ∨ (97 ≤ c ∧ (c ≤ 122 ∨ (c = 95 ∨ (48 ≤ c ∧ c ≤ 57)))))) ∨ (65 ≤ c ∧ (c ≤ 90 ∨ ((c < 97 ∧ (c = 95 ∨ (48 ≤ c ∧ c ≤ 57))) ∨ (97 ≤ c ∧ (c ≤ 122 ∨ (c = 95 ∨ (48 ≤ c ∧ c ≤ 57)))))))))))] _ _)
  · intro kT
    refine w_ic_lt (pc2 := 12) (pc3 := 6) rfl (by decide) rfl hc ⟨by decide, by decide⟩ (fun q1 => ?_) (fun q1 => ?_)
    · skip
      refine w_iload_n rfl rfl rfl ?_
      refine w_bipush rfl (by decide) rfl ?_
      refine w_ic_lt (pc2 := 24) (pc3 := 18) rfl (by decide) rfl hc ⟨by decide, by decide⟩ (fun q2 => ?_) (fun q2 => ?_)
      · skip
        refine w_iload_n rfl rfl rfl ?_
        refine w_bipush rfl (by decide) rfl ?_
        refine w_ic_eq (pc2 := 42) (pc3 := 30) rfl (by decide) rfl hc ⟨by decide, by decide⟩ (fun q3 => ?_) (fun q3 => ?_)
        · skip
          refine w_iconst rfl rfl ?_
          refine w_goto (pc2 := 47) rfl (by decide) ?_
          exact w_j1 (p := (c < 65 ∧ ((c < 97 ∧ (c = 95 ∨ (48 ≤ c ∧ c ≤ 57))) ∨ (97 ≤ c ∧ (c ≤ 122 ∨ (c = 95 ∨ (48 ≤ c ∧ c ≤ 57)))))) ∨ (65 ≤ c ∧ (c ≤ 90 ∨ ((c < 97 ∧ (c = 95 ∨ (48 ≤ c ∧ c ≤ 57))) ∨ (97 ≤ c ∧ (c ≤ 122 ∨ (c = 95 ∨ (48 ≤ c ∧ c ≤ 57)))))))) (Or.inl ⟨q1, (Or.inl ⟨q2, (Or.inl q3)⟩)⟩) kT
        · skip
          refine w_iload_n rfl rfl rfl ?_
          refine w_bipush rfl (by decide) rfl ?_
          refine w_ic_lt (pc2 := 46) (pc3 := 36) rfl (by decide) rfl hc ⟨by decide, by decide⟩ (fun q4 => ?_) (fun q4 => ?_)
          · skip
            refine w_iconst rfl rfl ?_
            exact w_j0 (p := (c < 65 ∧ ((c < 97 ∧ (c = 95 ∨ (48 ≤ c ∧ c ≤ 57))) ∨ (97 ≤ c ∧ (c ≤ 122 ∨ (c = 95 ∨ (48 ≤ c ∧ c ≤ 57)))))) ∨ (65 ≤ c ∧ (c ≤ 90 ∨ ((c < 97 ∧ (c = 95 ∨ (48 ≤ c ∧ c ≤ 57))) ∨ (97 ≤ c ∧ (c ≤ 122 ∨ (c = 95 ∨ (48 ≤ c ∧ c ≤ 57)))))))) (not_or.mpr ⟨fun q => (not_or.mpr ⟨fun q => (not_or.mpr ⟨q3, (fun q => (Int.not_le.mpr q4) q.1)⟩) q.2, fun q => (Int.not_le.mpr q2) q.1⟩) q.2, fun q => (Int.not_le.mpr q1) q.1⟩) kT
          · skip
            refine w_iload_n rfl rfl rfl ?_
            refine w_bipush rfl (by decide) rfl ?_
            refine w_ic_gt (pc2 := 46) (pc3 := 42) rfl (by decide) rfl hc ⟨by decide, by decide⟩ (fun q5 => ?_) (fun q5 => ?_)
            · skip
              refine w_iconst rfl rfl ?_
              exact w_j0 (p := (c < 65 ∧ ((c < 97 ∧ (c = 95 ∨ (48 ≤ c ∧ c ≤ 57))) ∨ (97 ≤ c ∧ (c ≤ 122 ∨ (c = 95 ∨ (48 ≤ c ∧ c ≤ 57)))))) ∨ (65 ≤ c ∧ (c ≤ 90 ∨ ((c < 97 ∧ (c = 95 ∨ (48 ≤ c ∧ c ≤ 57))) ∨ (97 ≤ c ∧ (c ≤ 122 ∨ (c = 95 ∨ (48 ≤ c ∧ c ≤ 57)))))))) (not_or.mpr ⟨fun q => (not_or.mpr ⟨fun q => (not_or.mpr ⟨q3, (fun q => (Int.not_le.mpr q5) q.2)⟩) q.2, fun q => (Int.not_le.mpr q2) q.1⟩) q.2, fun q => (Int.not_le.mpr q1) q.1⟩) kT
            · skip
              refine w_iconst rfl rfl ?_
              refine w_goto (pc2 := 47) rfl (by decide) ?_
              exact w_j1 (p := (c < 65 ∧ ((c < 97 ∧ (c = 95 ∨ (48 ≤ c ∧ c ≤ 57))) ∨ (97 ≤ c ∧ (c ≤ 122 ∨ (c = 95 ∨ (48 ≤ c ∧ c ≤ 57)))))) ∨ (65 ≤ c ∧ (c ≤ 90 ∨ ((c < 97 ∧ (c = 95 ∨ (48 ≤ c ∧ c ≤ 57))) ∨ (97 ≤ c ∧ (c ≤ 122 ∨ (c = 95 ∨ (48 ≤ c ∧ c ≤ 57)))))))) (Or.inl ⟨q1, (Or.inl ⟨q2, (Or.inr ⟨q4, q5⟩)⟩)⟩) kT
      · skip
        refine w_iload_n rfl rfl rfl ?_
        refine w_bipush rfl (by decide) rfl ?_
        refine w_ic_le (pc2 := 42) (pc3 := 24) rfl (by decide) rfl hc ⟨by decide, by decide⟩ (fun q6 => ?_) (fun q6 => ?_)
        · skip
          refine w_iconst rfl rfl ?_
          refine w_goto (pc2 := 47) rfl (by decide) ?_
          exact w_j1 (p := (c < 65 ∧ ((c < 97 ∧ (c = 95 ∨ (48 ≤ c ∧ c ≤ 57))) ∨ (97 ≤ c ∧ (c ≤ 122 ∨ (c = 95 ∨ (48 ≤ c ∧ c ≤ 57)))))) ∨ (65 ≤ c ∧ (c ≤ 90 ∨ ((c < 97 ∧ (c = 95 ∨ (48 ≤ c ∧ c ≤ 57))) ∨ (97 ≤ c ∧ (c ≤ 122 ∨ (c = 95 ∨ (48 ≤ c ∧ c ≤ 57)))))))) (Or.inl ⟨q1, (Or.inr ⟨q2, (Or.inl q6)⟩)⟩) kT
        · skip
          refine w_iload_n rfl rfl rfl ?_
          refine w_bipush rfl (by decide) rfl ?_
          refine w_ic_eq (pc2 := 42) (pc3 := 30) rfl (by decide) rfl hc ⟨by decide, by decide⟩ (fun q7 => ?_) (fun q7 => ?_)
          · skip
            refine w_iconst rfl rfl ?_
            refine w_goto (pc2 := 47) rfl (by decide) ?_
            exact w_j1 (p := (c < 65 ∧ ((c < 97 ∧ (c = 95 ∨ (48 ≤ c ∧ c ≤ 57))) ∨ (97 ≤ c ∧ (c ≤ 122 ∨ (c = 95 ∨ (48 ≤ c ∧ c ≤ 57)))))) ∨ (65 ≤ c ∧ (c ≤ 90 ∨ ((c < 97 ∧ (c = 95 ∨ (48 ≤ c ∧ c ≤ 57))) ∨ (97 ≤ c ∧ (c ≤ 122 ∨ (c = 95 ∨ (48 ≤ c ∧ c ≤ 57)))))))) (Or.inl ⟨q1, (Or.inr ⟨q2, (Or.inr (Or.inl q7))⟩)⟩) kT
          · skip
            refine w_iload_n rfl rfl rfl ?_
            refine w_bipush rfl (by decide) rfl ?_
            refine w_ic_lt (pc2 := 46) (pc3 := 36) rfl (by decide) rfl hc ⟨by decide, by decide⟩ (fun q8 => ?_) (fun q8 => ?_)
            · skip
              refine w_iconst rfl rfl ?_
              exact w_j0 (p := (c < 65 ∧ ((c < 97 ∧ (c = 95 ∨ (48 ≤ c ∧ c ≤ 57))) ∨ (97 ≤ c ∧ (c ≤ 122 ∨ (c = 95 ∨ (48 ≤ c ∧ c ≤ 57)))))) ∨ (65 ≤ c ∧ (c ≤ 90 ∨ ((c < 97 ∧ (c = 95 ∨ (48 ≤ c ∧ c ≤ 57))) ∨ (97 ≤ c ∧ (c ≤ 122 ∨ (c = 95 ∨ (48 ≤ c ∧ c ≤ 57)))))))) (not_or.mpr ⟨fun q => (not_or.mpr ⟨fun q => (Int.not_lt.mpr q2) q.1, fun q => (not_or.mpr ⟨(Int.not_le.mpr q6), (not_or.mpr ⟨q7, (fun q => (Int.not_le.mpr q8) q.1)⟩)⟩) q.2⟩) q.2, fun q => (Int.not_le.mpr q1) q.1⟩) kT
            · skip
              refine w_iload_n rfl rfl rfl ?_
              refine w_bipush rfl (by decide) rfl ?_
              refine w_ic_gt (pc2 := 46) (pc3 := 42) rfl (by decide) rfl hc ⟨by decide, by decide⟩ (fun q9 => ?_) (fun q9 => ?_)
              · skip
                refine w_iconst rfl rfl ?_
                exact w_j0 (p := (c < 65 ∧ ((c < 97 ∧ (c = 95 ∨ (48 ≤ c ∧ c ≤ 57))) ∨ (97 ≤ c ∧ (c ≤ 122 ∨ (c = 95 ∨ (48 ≤ c ∧ c ≤ 57)))))) ∨ (65 ≤ c ∧ (c ≤ 90 ∨ ((c < 97 ∧ (c = 95 ∨ (48 ≤ c ∧ c ≤ 57))) ∨ (97 ≤ c ∧ (c ≤ 122 ∨ (c = 95 ∨ (48 ≤ c ∧ c ≤ 57)))))))) (not_or.mpr ⟨fun q => (not_or.mpr ⟨fun q => (Int.not_lt.mpr q2) q.1, fun q => (not_or.mpr ⟨(Int.not_le.mpr q6), (not_or.mpr ⟨q7, (fun q => (Int.not_le.mpr q9) q.2)⟩)⟩) q.2⟩) q.2, fun q => (Int.not_le.mpr q1) q.1⟩) kT
              · skip
                refine w_iconst rfl rfl ?_
                refine w_goto (pc2 := 47) rfl (by decide) ?_
                exact w_j1 (p := (c < 65 ∧ ((c < 97 ∧ (c = 95 ∨ (48 ≤ c ∧ c ≤ 57))) ∨ (97 ≤ c ∧ (c ≤ 122 ∨ (c = 95 ∨ (48 ≤ c ∧ c ≤ 57)))))) ∨ (65 ≤ c ∧ (c ≤ 90 ∨ ((c < 97 ∧ (c = 95 ∨ (48 ≤ c ∧ c ≤ 57))) ∨ (97 ≤ c ∧ (c ≤ 122 ∨ (c = 95 ∨ (48 ≤ c ∧ c ≤ 57)))))))) (Or.inl ⟨q1, (Or.inr ⟨q2, (Or.inr (Or.inr ⟨q8, q9⟩))⟩)⟩) kT
    · skip
      refine w_iload_n rfl rfl rfl ?_
      refine w_bipush rfl (by decide) rfl ?_
      refine w_ic_le (pc2 := 42) (pc3 := 12) rfl (by decide) rfl hc ⟨by decide, by decide⟩ (fun q10 => ?_) (fun q10 => ?_)
      · skip
        refine w_iconst rfl rfl ?_
        refine w_goto (pc2 := 47) rfl (by decide) ?_
        exact w_j1 (p := (c < 65 ∧ ((c < 97 ∧ (c = 95 ∨ (48 ≤ c ∧ c ≤ 57))) ∨ (97 ≤ c ∧ (c ≤ 122 ∨ (c = 95 ∨ (48 ≤ c ∧ c ≤ 57)))))) ∨ (65 ≤ c ∧ (c ≤ 90 ∨ ((c < 97 ∧ (c = 95 ∨ (48 ≤ c ∧ c ≤ 57))) ∨ (97 ≤ c ∧ (c ≤ 122 ∨ (c = 95 ∨ (48 ≤ c ∧ c ≤ 57)))))))) (Or.inr ⟨q1, (Or.inl q10)⟩) kT
      · skip
        refine w_iload_n rfl rfl rfl ?_
        refine w_bipush rfl (by decide) rfl ?_
        refine w_ic_lt (pc2 := 24) (pc3 := 18) rfl (by decide) rfl hc ⟨by decide, by decide⟩ (fun q11 => ?_) (fun q11 => ?_)
        · skip
          refine w_iload_n rfl rfl rfl ?_
          refine w_bipush rfl (by decide) rfl ?_
          refine w_ic_eq (pc2 := 42) (pc3 := 30) rfl (by decide) rfl hc ⟨by decide, by decide⟩ (fun q12 => ?_) (fun q12 => ?_)
          · skip
            refine w_iconst rfl rfl ?_
            refine w_goto (pc2 := 47) rfl (by decide) ?_
            exact w_j1 (p := (c < 65 ∧ ((c < 97 ∧ (c = 95 ∨ (48 ≤ c ∧ c ≤ 57))) ∨ (97 ≤ c ∧ (c ≤ 122 ∨ (c = 95 ∨ (48 ≤ c ∧ c ≤ 57)))))) ∨ (65 ≤ c ∧ (c ≤ 90 ∨ ((c < 97 ∧ (c = 95 ∨ (48 ≤ c ∧ c ≤ 57))) ∨ (97 ≤ c ∧ (c ≤ 122 ∨ (c = 95 ∨ (48 ≤ c ∧ c ≤ 57)))))))) (Or.inr ⟨q1, (Or.inr (Or.inl ⟨q11, (Or.inl q12)⟩))⟩) kT
          · skip
            refine w_iload_n rfl rfl rfl ?_
            refine w_bipush rfl (by decide) rfl ?_
            refine w_ic_lt (pc2 := 46) (pc3 := 36) rfl (by decide) rfl hc ⟨by decide, by decide⟩ (fun q13 => ?_) (fun q13 => ?_)
            · skip
              refine w_iconst rfl rfl ?_
              exact w_j0 (p := (c < 65 ∧ ((c < 97 ∧ (c = 95 ∨ (48 ≤ c ∧ c ≤ 57))) ∨ (97 ≤ c ∧ (c ≤ 122 ∨ (c = 95 ∨ (48 ≤ c ∧ c ≤ 57)))))) ∨ (65 ≤ c ∧ (c ≤ 90 ∨ ((c < 97 ∧ (c = 95 ∨ (48 ≤ c ∧ c ≤ 57))) ∨ (97 ≤ c ∧ (c ≤ 122 ∨ (c = 95 ∨ (48 ≤ c ∧ c ≤ 57)))))))) (not_or.mpr ⟨fun q => (Int.not_lt.mpr q1) q.1, fun q => (not_or.mpr ⟨(Int.not_le.mpr q10), (not_or.mpr ⟨fun q => (not_or.mpr ⟨q12, (fun q => (Int.not_le.mpr q13) q.1)⟩) q.2, fun q => (Int.not_le.mpr q11) q.1⟩)⟩) q.2⟩) kT
            · skip
              refine w_iload_n rfl rfl rfl ?_
              refine w_bipush rfl (by decide) rfl ?_
              refine w_ic_gt (pc2 := 46) (pc3 := 42) rfl (by decide) rfl hc ⟨by decide, by decide⟩ (fun q14 => ?_) (fun q14 => ?_)
              · skip
                refine w_iconst rfl rfl ?_
                exact w_j0 (p := (c < 65 ∧ ((c < 97 ∧ (c = 95 ∨ (48 ≤ c ∧ c ≤ 57))) ∨ (97 ≤ c ∧ (c ≤ 122 ∨ (c = 95 ∨ (48 ≤ c ∧ c ≤ 57)))))) ∨ (65 ≤ c ∧ (c ≤ 90 ∨ ((c < 97 ∧ (c = 95 ∨ (48 ≤ c ∧ c ≤ 57))) ∨ (97 ≤ c ∧ (c ≤ 122 ∨ (c = 95 ∨ (48 ≤ c ∧ c ≤ 57)))))))) (not_or.mpr ⟨fun q => (Int.not_lt.mpr q1) q.1, fun q => (not_or.mpr ⟨(Int.not_le.mpr q10), (not_or.mpr ⟨fun q => (not_or.mpr ⟨q12, (fun q => (Int.not_le.mpr q14) q.2)⟩) q.2, fun q => (Int.not_le.mpr q11) q.1⟩)⟩) q.2⟩) kT
              · skip
                refine w_iconst rfl rfl ?_
                refine w_goto (pc2 := 47) rfl (by decide) ?_
                exact w_j1 (p := (c < 65 ∧ ((c < 97 ∧ (c = 95 ∨ (48 ≤ c ∧ c ≤ 57))) ∨ (97 ≤ c ∧ (c ≤ 122 ∨ (c = 95 ∨ (48 ≤ c ∧ c ≤ 57)))))) ∨ (65 ≤ c ∧ (c ≤ 90 ∨ ((c < 97 ∧ (c = 95 ∨ (48 ≤ c ∧ c ≤ 57))) ∨ (97 ≤ c ∧ (c ≤ 122 ∨ (c = 95 ∨ (48 ≤ c ∧ c ≤ 57)))))))) (Or.inr ⟨q1, (Or.inr (Or.inl ⟨q11, (Or.inr ⟨q13, q14⟩)⟩))⟩) kT
        · skip
          refine w_iload_n rfl rfl rfl ?_
          refine w_bipush rfl (by decide) rfl ?_
          refine w_ic_le (pc2 := 42) (pc3 := 24) rfl (by decide) rfl hc ⟨by decide, by decide⟩ (fun q15 => ?_) (fun q15 => ?_)
          · skip
            refine w_iconst rfl rfl ?_
            refine w_goto (pc2 := 47) rfl (by decide) ?_
            exact w_j1 (p := (c < 65 ∧ ((c < 97 ∧ (c = 95 ∨ (48 ≤ c ∧ c ≤ 57))) ∨ (97 ≤ c ∧ (c ≤ 122 ∨ (c = 95 ∨ (48 ≤ c ∧ c ≤ 57)))))) ∨ (65 ≤ c ∧ (c ≤ 90 ∨ ((c < 97 ∧ (c = 95 ∨ (48 ≤ c ∧ c ≤ 57))) ∨ (97 ≤ c ∧ (c ≤ 122 ∨ (c = 95 ∨ (48 ≤ c ∧ c ≤ 57)))))))) (Or.inr ⟨q1, (Or.inr (Or.inr ⟨q11, (Or.inl q15)⟩))⟩) kT
          · skip
            refine w_iload_n rfl rfl rfl ?_
            refine w_bipush rfl (by decide) rfl ?_
            refine w_ic_eq (pc2 := 42) (pc3 := 30) rfl (by decide) rfl hc ⟨by decide, by decide⟩ (fun q16 => ?_) (fun q16 => ?_)
            · skip
              refine w_iconst rfl rfl ?_
              refine w_goto (pc2 := 47) rfl (by decide) ?_
              exact w_j1 (p := (c < 65 ∧ ((c < 97 ∧ (c = 95 ∨ (48 ≤ c ∧ c ≤ 57))) ∨ (97 ≤ c ∧ (c ≤ 122 ∨ (c = 95 ∨ (48 ≤ c ∧ c ≤ 57)))))) ∨ (65 ≤ c ∧ (c ≤ 90 ∨ ((c < 97 ∧ (c = 95 ∨ (48 ≤ c ∧ c ≤ 57))) ∨ (97 ≤ c ∧ (c ≤ 122 ∨ (c = 95 ∨ (48 ≤ c ∧ c ≤ 57)))))))) (Or.inr ⟨q1, (Or.inr (Or.inr ⟨q11, (Or.inr (Or.inl q16))⟩))⟩) kT
            · skip
              refine w_iload_n rfl rfl rfl ?_
              refine w_bipush rfl (by decide) rfl ?_
              refine w_ic_lt (pc2 := 46) (pc3 := 36) rfl (by decide) rfl hc ⟨by decide, by decide⟩ (fun q17 => ?_) (fun q17 => ?_)
              · skip
                refine w_iconst rfl rfl ?_
                exact w_j0 (p := (c < 65 ∧ ((c < 97 ∧ (c = 95 ∨ (48 ≤ c ∧ c ≤ 57))) ∨ (97 ≤ c ∧ (c ≤ 122 ∨ (c = 95 ∨ (48 ≤ c ∧ c ≤ 57)))))) ∨ (65 ≤ c ∧ (c ≤ 90 ∨ ((c < 97 ∧ (c = 95 ∨ (48 ≤ c ∧ c ≤ 57))) ∨ (97 ≤ c ∧ (c ≤ 122 ∨ (c = 95 ∨ (48 ≤ c ∧ c ≤ 57)))))))) (not_or.mpr ⟨fun q => (Int.not_lt.mpr q1) q.1, fun q => (not_or.mpr ⟨(Int.not_le.mpr q10), (not_or.mpr ⟨fun q => (Int.not_lt.mpr q11) q.1, fun q => (not_or.mpr ⟨(Int.not_le.mpr q15), (not_or.mpr ⟨q16, (fun q => (Int.not_le.mpr q17) q.1)⟩)⟩) q.2⟩)⟩) q.2⟩) kT
              · skip
                refine w_iload_n rfl rfl rfl ?_
                refine w_bipush rfl (by decide) rfl ?_
                refine w_ic_gt (pc2 := 46) (pc3 := 42) rfl (by decide) rfl hc ⟨by decide, by decide⟩ (fun q18 => ?_) (fun q18 => ?_)
                · skip
                  refine w_iconst rfl rfl ?_
                  exact w_j0 (p := (c < 65 ∧ ((c < 97 ∧ (c = 95 ∨ (48 ≤ c ∧ c ≤ 57))) ∨ (97 ≤ c ∧ (c ≤ 122 ∨ (c = 95 ∨ (48 ≤ c ∧ c ≤ 57)))))) ∨ (65 ≤ c ∧ (c ≤ 90 ∨ ((c < 97 ∧ (c = 95 ∨ (48 ≤ c ∧ c ≤ 57))) ∨ (97 ≤ c ∧ (c ≤ 122 ∨ (c = 95 ∨ (48 ≤ c ∧ c ≤ 57)))))))) (not_or.mpr ⟨fun q => (Int.not_lt.mpr q1) q.1, fun q => (not_or.mpr ⟨(Int.not_le.mpr q10), (not_or.mpr ⟨fun q => (Int.not_lt.mpr q11) q.1, fun q => (not_or.mpr ⟨(Int.not_le.mpr q15), (not_or.mpr ⟨q16, (fun q => (Int.not_le.mpr q18) q.2)⟩)⟩) q.2⟩)⟩) q.2⟩) kT
                · skip
                  refine w_iconst rfl rfl ?_
                  refine w_goto (pc2 := 47) rfl (by decide) ?_
                  exact w_j1 (p := (c < 65 ∧ ((c < 97 ∧ (c = 95 ∨ (48 ≤ c ∧ c ≤ 57))) ∨ (97 ≤ c ∧ (c ≤ 122 ∨ (c = 95 ∨ (48 ≤ c ∧ c ≤ 57)))))) ∨ (65 ≤ c ∧ (c ≤ 90 ∨ ((c < 97 ∧ (c = 95 ∨ (48 ≤ c ∧ c ≤ 57))) ∨ (97 ≤ c ∧ (c ≤ 122 ∨ (c = 95 ∨ (48 ≤ c ∧ c ≤ 57)))))))) (Or.inr ⟨q1, (Or.inr (Or.inr ⟨q11, (Or.inr (Or.inr ⟨q17, q18⟩))⟩))⟩) kT
  · show w_T _ _ 117 47 _ [.int (iZ (zB (decide ((c < 65 ∧ ((c < 97 ∧ (c = 95 ∨ (48 ≤ c ∧ c ≤ 57))) ∨ (97 ≤ c ∧ (c ≤ 122 ∨ (c = 95 ∨ (48 ≤ c ∧ c ≤ 57)))))) ∨ (65 ≤ c ∧ (c ≤ 90 ∨ ((c < 97 ∧ (c = 95 ∨ (48 ≤ c ∧ c ≤ 57))) ∨ (97 ≤ c ∧ (c ≤ 122 ∨ (c = 95 ∨ (48 ≤ c ∧ c ≤ 57)))))))))))] _ _
    refine w_bret rfl rfl ?_
    exact q_b (decide_eq_decide.mpr (by omega))
theorem r_dgt {sc : x_S} {d : Nat} {S : w_S} {c : Int} (hc : iR c) (hd : 0 ≤ d) : w_T sc d 118 0 (x_en 0 [.int (iZ c)]) [] S (fun v S2 => v = some (.int (iZ (zB (dgt c)))) ∧ S2 = S) := by
  refine w_iload_n rfl rfl rfl ?_
  refine w_bipush rfl (by decide) rfl ?_
  apply w_jn (A := w_T _ _ 118 17 _ [.int (iZ (zB (decide (48 ≤ c ∧ c ≤ 57))))] _ _)
  · intro kT
    refine w_ic_lt (pc2 := 16) (pc3 := 6) rfl (by decide) rfl hc ⟨by decide, by decide⟩ (fun q1 => ?_) (fun q1 => ?_)
    · skip
      refine w_iconst rfl rfl ?_
      exact w_j0 (p := 48 ≤ c ∧ c ≤ 57) (fun q => (Int.not_le.mpr q1) q.1) kT
    · skip
      refine w_iload_n rfl rfl rfl ?_
      refine w_bipush rfl (by decide) rfl ?_
      refine w_ic_gt (pc2 := 16) (pc3 := 12) rfl (by decide) rfl hc ⟨by decide, by decide⟩ (fun q2 => ?_) (fun q2 => ?_)
      · skip
        refine w_iconst rfl rfl ?_
        exact w_j0 (p := 48 ≤ c ∧ c ≤ 57) (fun q => (Int.not_le.mpr q2) q.2) kT
      · skip
        refine w_iconst rfl rfl ?_
        refine w_goto (pc2 := 17) rfl (by decide) ?_
        exact w_j1 (p := 48 ≤ c ∧ c ≤ 57) ⟨q1, q2⟩ kT
  · show w_T _ _ 118 17 _ [.int (iZ (zB (decide (48 ≤ c ∧ c ≤ 57))))] _ _
    refine w_bret rfl rfl ?_
    exact q_b (decide_eq_decide.mpr (by omega))
theorem r_isn {sc : x_S} {d : Nat} {S : w_S} {x : Int64} (hx : 0 ≤ x.toInt) (hd : 2 ≤ d) : w_T sc d 122 0 (x_en 0 [.long x]) [] S (fun v S2 => v = some (.int (iZ (zB (dgt (wc x 0))))) ∧ S2 = S) := by
  have hr := wc_R x 0
  refine w_lload_n rfl rfl rfl ?_
  refine w_iconst rfl rfl ?_
  refine w_CS (as := [.long x, .int (iZ 0)]) (r := []) rfl rfl rfl rfl (Nat.le_of_ble_eq_true rfl) (Nat.le_of_ble_eq_true rfl) (by omega) rfl (r_let (x := x) (i := 0) hx ⟨by decide, by decide⟩ (by omega)) ?_
  rintro _ _ ⟨rfl, hS⟩
  rw [hS]
  show w_T _ _ 122 5 _ [.int (iZ (wc x 0))] _ _
  refine w_CS (as := [.int (iZ (wc x 0))]) (r := []) rfl rfl rfl rfl (Nat.le_of_ble_eq_true rfl) (Nat.le_of_ble_eq_true rfl) (by omega) rfl (r_dgt (c := wc x 0) ⟨by omega, by omega⟩ (by omega)) ?_
  rintro _ _ ⟨rfl, hS⟩
  rw [hS]
  show w_T _ _ 122 8 _ [.int (iZ (zB (dgt (wc x 0))))] _ _
  refine w_bret rfl rfl ?_
  exact ⟨rfl, rfl⟩
theorem r_nam {sc : x_S} {d : Nat} {S : w_S} {x : Int64} (hx : 0 ≤ x.toInt) (hd : 2 ≤ d) : w_T sc d 123 0 (x_en 0 [.long x]) [] S (fun v S2 => v = some (.int (iZ (zB (nam x)))) ∧ S2 = S) := by
  have hr := wc_R x 0
  refine w_lload_n rfl rfl rfl ?_
  refine w_iconst rfl rfl ?_
  refine w_CS (as := [.long x, .int (iZ 0)]) (r := []) rfl rfl rfl rfl (Nat.le_of_ble_eq_true rfl) (Nat.le_of_ble_eq_true rfl) (by omega) rfl (r_let (x := x) (i := 0) hx ⟨by decide, by decide⟩ (by omega)) ?_
  rintro _ _ ⟨rfl, hS⟩
  rw [hS]
  show w_T _ _ 123 5 _ [.int (iZ (wc x 0))] _ _
  refine w_CS (as := [.int (iZ (wc x 0))]) (r := []) rfl rfl rfl rfl (Nat.le_of_ble_eq_true rfl) (Nat.le_of_ble_eq_true rfl) (by omega) rfl (r_wdl (c := wc x 0) ⟨by omega, by omega⟩ (by omega)) ?_
  rintro _ _ ⟨rfl, hS⟩
  rw [hS]
  show w_T _ _ 123 8 _ [.int (iZ (zB (wdl (wc x 0))))] _ _
  apply w_jn (A := w_T _ _ 123 27 _ [.int (iZ (zB (decide ((wdl (wc x 0)) = true ∧ (dgt (wc x 0)) = false))))] _ _)
  · intro kT
    refine w_b_eq (pc2 := 26) (pc3 := 11) rfl (by decide) rfl (fun q1 => ?_) (fun q1 => ?_)
    · skip
      refine w_iconst rfl rfl ?_
      exact w_j0 (p := (wdl (wc x 0)) = true ∧ (dgt (wc x 0)) = false) (fun q => (Bool.eq_false_iff.mp q1) q.1) kT
    · skip
      refine w_lload_n rfl rfl rfl ?_
      refine w_iconst rfl rfl ?_
      refine w_CS (as := [.long x, .int (iZ 0)]) (r := []) rfl rfl rfl rfl (Nat.le_of_ble_eq_true rfl) (Nat.le_of_ble_eq_true rfl) (by omega) rfl (r_let (x := x) (i := 0) hx ⟨by decide, by decide⟩ (by omega)) ?_
      rintro _ _ ⟨rfl, hS⟩
      rw [hS]
      show w_T _ _ 123 16 _ [.int (iZ (wc x 0))] _ _
      refine w_CS (as := [.int (iZ (wc x 0))]) (r := []) rfl rfl rfl rfl (Nat.le_of_ble_eq_true rfl) (Nat.le_of_ble_eq_true rfl) (by omega) rfl (r_dgt (c := wc x 0) ⟨by omega, by omega⟩ (by omega)) ?_
      rintro _ _ ⟨rfl, hS⟩
      rw [hS]
      show w_T _ _ 123 19 _ [.int (iZ (zB (dgt (wc x 0))))] _ _
      refine w_b_ne (pc2 := 26) (pc3 := 22) rfl (by decide) rfl (fun q2 => ?_) (fun q2 => ?_)
      · skip
        refine w_iconst rfl rfl ?_
        exact w_j0 (p := (wdl (wc x 0)) = true ∧ (dgt (wc x 0)) = false) (fun q => (fun q => Bool.noConfusion ((q2).symm.trans q)) q.2) kT
      · skip
        refine w_iconst rfl rfl ?_
        refine w_goto (pc2 := 27) rfl (by decide) ?_
        exact w_j1 (p := (wdl (wc x 0)) = true ∧ (dgt (wc x 0)) = false) ⟨q1, q2⟩ kT
  · show w_T _ _ 123 27 _ [.int (iZ (zB (decide ((wdl (wc x 0)) = true ∧ (dgt (wc x 0)) = false))))] _ _
    refine w_bret rfl rfl ?_
    exact q_b (by unfold nam; cases wdl (wc x 0) <;> cases dgt (wc x 0) <;> rfl)
