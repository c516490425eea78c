/-! Numbers once more: narrowing, bits, shifts of longs; ends of JDK methods. -/
theorem nar_c {z : Int} (h0 : 0 ≤ z) (h1 : z < 65536) : vp_nar .char (iZ z) = iZ z := by
  have hR : iR z := ⟨by omega, by omega⟩
  rw [vp_nar_char]
  apply Int32.toBitVec_inj.mp
  apply BitVec.eq_of_toNat_eq
  have e : (iZ z).toBitVec.toNat = z.toNat := by
    unfold iZ
    rw [Int32.toBitVec_ofInt, BitVec.toNat_ofInt]
    omega
  have e2 : ((iZ z).toUInt32.toUInt16.toUInt32.toInt32).toBitVec.toNat = (iZ z).toUInt32.toUInt16.toUInt32.toNat := rfl
  rw [e2, e, UInt16.toNat_toUInt32, UInt32.toNat_toUInt16]
  have e3 : (iZ z).toUInt32.toNat = (iZ z).toBitVec.toNat := rfl
  rw [e3, e]
  omega
theorem iZ_bn {z : Int} (h0 : 0 ≤ z) (h1 : z < 4294967296) : (iZ z).toBitVec.toNat = z.toNat := by
  unfold iZ
  rw [Int32.toBitVec_ofInt, BitVec.toNat_ofInt]
  omega
theorem i32_nat {x : Int32} {n : Nat} (h : x.toBitVec.toNat = n) (hn : n < 2147483648) : x.toInt = n := by
  have e : x.toInt = x.toBitVec.toInt := rfl
  rw [e, BitVec.toInt_eq_toNat_of_lt (by omega), h]
theorem zi2c_id {z : Int} (h0 : 0 ≤ z) (h1 : z < 65536) : zi2c z = z := by
  unfold zi2c
  have e : (((iZ z).toUInt32 % 65536).toInt32).toBitVec.toNat = z.toNat := by
    have e2 : (((iZ z).toUInt32 % 65536).toInt32).toBitVec.toNat = ((iZ z).toUInt32 % 65536).toNat := rfl
    have e3 : (iZ z).toUInt32.toNat = (iZ z).toBitVec.toNat := rfl
    rw [e2, UInt32.toNat_mod, e3, iZ_bn h0 (by omega)]
    have : UInt32.toNat 65536 = 65536 := rfl
    rw [this]
    omega
  rw [i32_nat e (by omega)]
  omega
theorem zand_nat {a b : Int} (a0 : 0 ≤ a) (a1 : a < 2147483648) (b0 : 0 ≤ b) (b1 : b < 2147483648) : zand a b = ((a.toNat &&& b.toNat : Nat) : Int) := by
  unfold zand
  have e : (iZ a &&& iZ b).toBitVec.toNat = a.toNat &&& b.toNat := by
    rw [Int32.toBitVec_and, BitVec.toNat_and, iZ_bn a0 (by omega), iZ_bn b0 (by omega)]
  refine i32_nat e ?_
  have : a.toNat &&& b.toNat ≤ a.toNat := Nat.and_le_left
  omega
theorem zor_nat {a b : Int} (a0 : 0 ≤ a) (a1 : a < 2147483648) (b0 : 0 ≤ b) (b1 : b < 2147483648) : zor a b = ((a.toNat ||| b.toNat : Nat) : Int) := by
  unfold zor
  have e : (iZ a ||| iZ b).toBitVec.toNat = a.toNat ||| b.toNat := by
    rw [Int32.toBitVec_or, BitVec.toNat_or, iZ_bn a0 (by omega), iZ_bn b0 (by omega)]
  refine i32_nat e ?_
  exact Nat.or_lt_two_pow (n := 31) (by omega) (by omega)
theorem sh32 {k : Int} (h0 : 0 ≤ k) (h1 : k < 32) : ((iZ k &&& 31).toBitVec.smod 32).toNat = k.toNat := by
  have h : (List.range 32).all (fun k => decide (((iZ (k : Int) &&& 31).toBitVec.smod 32).toNat = k)) = true := by decide +kernel
  have h2 := of_decide_eq_true (List.all_eq_true.mp h k.toNat (List.mem_range.mpr (by omega)))
  rw [Int.toNat_of_nonneg h0] at h2
  exact h2
theorem sh64 {k : Int} (h0 : 0 ≤ k) (h1 : k < 64) : (((iZ k).toInt64 &&& 63).toBitVec.smod 64).toNat = k.toNat := by
  have h : (List.range 64).all (fun k => decide ((((iZ (k : Int)).toInt64 &&& 63).toBitVec.smod 64).toNat = k)) = true := by decide +kernel
  have h2 := of_decide_eq_true (List.all_eq_true.mp h k.toNat (List.mem_range.mpr (by omega)))
  rw [Int.toNat_of_nonneg h0] at h2
  exact h2
theorem zshr_div {a k : Int} (hR : iR a) (h0 : 0 ≤ k) (h1 : k < 32) : zshr a k = a / 2 ^ k.toNat := by
  unfold zshr
  have e : (iZ a >>> (iZ k &&& 31)).toInt = (iZ a >>> (iZ k &&& 31)).toBitVec.toInt := rfl
  rw [e, Int32.toBitVec_shiftRight]
  show (BitVec.sshiftRight _ _).toInt = _
  rw [BitVec.toInt_sshiftRight, sh32 h0 h1, Int.shiftRight_eq_div_pow]
  have e2 : (iZ a).toBitVec.toInt = (iZ a).toInt := rfl
  rw [e2, iZ_toInt hR]
  simp
theorem zshl_nat {a k : Int} (a0 : 0 ≤ a) (a1 : a < 2147483648) (h0 : 0 ≤ k) (h1 : k < 32) (h2 : a.toNat <<< k.toNat < 2147483648) : zshl a k = ((a.toNat <<< k.toNat : Nat) : Int) := by
  unfold zshl
  refine i32_nat ?_ h2
  rw [Int32.toBitVec_shiftLeft, BitVec.shiftLeft_eq', BitVec.toNat_shiftLeft, sh32 h0 h1, iZ_bn a0 (by omega)]
  exact Nat.mod_eq_of_lt (by omega)
theorem lshr_toInt {x : Int64} {k : Int} (h0 : 0 ≤ k) (h1 : k < 64) : (lshr x k).toInt = x.toInt / 2 ^ k.toNat := by
  unfold lshr
  have e : (x >>> ((iZ k).toInt64 &&& 63)).toInt = (x >>> ((iZ k).toInt64 &&& 63)).toBitVec.toInt := rfl
  rw [e, Int64.toBitVec_shiftRight]
  show (BitVec.sshiftRight _ _).toInt = _
  rw [BitVec.toInt_sshiftRight, sh64 h0 h1, Int.shiftRight_eq_div_pow]
  have e2 : x.toBitVec.toInt = x.toInt := rfl
  rw [e2]
  simp
theorem i64_bn {x : Int64} (h0 : 0 ≤ x.toInt) : x.toBitVec.toNat = x.toInt.toNat := by
  have e : x.toInt = x.toBitVec.toInt := rfl
  rw [e] at h0 ⊢
  rw [BitVec.toInt_eq_toNat_cond] at h0 ⊢
  have := x.toBitVec.isLt
  split at h0 <;> rename_i hc
  · rw [if_pos hc]
    omega
  · omega
theorem i64_nat {x : Int64} {n : Nat} (h : x.toBitVec.toNat = n) (hn : n < 9223372036854775808) : x.toInt = n := by
  have e : x.toInt = x.toBitVec.toInt := rfl
  rw [e, BitVec.toInt_eq_toNat_of_lt (by omega), h]
theorem lshl_toInt {x : Int64} {k : Int} (h0 : 0 ≤ k) (h1 : k < 64) (hx : 0 ≤ x.toInt) (h2 : x.toInt * 2 ^ k.toNat < 9223372036854775808) : (lshl x k).toInt = x.toInt * 2 ^ k.toNat := by
  have e3 : ((x.toInt.toNat * 2 ^ k.toNat : Nat) : Int) = x.toInt * 2 ^ k.toNat := by
    rw [Int.natCast_mul, Int.toNat_of_nonneg hx]
    simp
  have h3 : x.toInt.toNat * 2 ^ k.toNat < 9223372036854775808 := by
    have : ((x.toInt.toNat * 2 ^ k.toNat : Nat) : Int) < 9223372036854775808 := by rw [e3]; exact h2
    omega
  unfold lshl
  rw [← e3]
  refine i64_nat ?_ h3
  rw [Int64.toBitVec_shiftLeft, BitVec.shiftLeft_eq', BitVec.toNat_shiftLeft, sh64 h0 h1, i64_bn hx, Nat.shiftLeft_eq]
  exact Nat.mod_eq_of_lt (by omega)
theorem land_toInt {x : Int64} (hx : 0 ≤ x.toInt) : (x &&& 127).toInt = x.toInt % 128 := by
  have e : (x &&& 127).toBitVec.toNat = x.toInt.toNat % 128 := by
    rw [Int64.toBitVec_and, BitVec.toNat_and, i64_bn hx]
    exact Nat.and_two_pow_sub_one_eq_mod _ 7
  rw [i64_nat e (by omega)]
  omega
theorem ladd_toInt {x y : Int64} (h0 : 0 ≤ x.toInt) (h1 : 0 ≤ y.toInt) (h2 : x.toInt + y.toInt < 9223372036854775808) : (x + y).toInt = x.toInt + y.toInt := by
  rw [Int64.toInt_add]
  exact Int.bmod_eq_of_le (by omega) (by omega)
theorem lor_toInt {x y : Int64} {k : Nat} {a : Int} (hx : x.toInt = a * 2 ^ k) (ha : 0 ≤ a) (hy : 0 ≤ y.toInt) (hk : y.toInt < 2 ^ k) (h2 : x.toInt + y.toInt < 9223372036854775808) : (x ||| y).toInt = x.toInt + y.toInt := by
  have e0 : ((a.toNat * 2 ^ k : Nat) : Int) = a * 2 ^ k := by
    rw [Int.natCast_mul, Int.toNat_of_nonneg ha]
    simp
  have hx0 : 0 ≤ x.toInt := by rw [hx, ← e0]; omega
  have e1 : x.toInt.toNat = a.toNat <<< k := by
    rw [Nat.shiftLeft_eq, hx, ← e0]
    omega
  have e2 : y.toInt.toNat < 2 ^ k := by
    have : ((2 ^ k : Nat) : Int) = 2 ^ k := by simp
    omega
  have e : (x ||| y).toBitVec.toNat = x.toInt.toNat + y.toInt.toNat := by
    rw [Int64.toBitVec_or, BitVec.toNat_or, i64_bn hx0, i64_bn hy, e1, ← Nat.shiftLeft_add_eq_or_of_lt e2]
  rw [i64_nat e (by omega)]
  omega
theorem li2l_toInt {a : Int} (hR : iR a) : (li2l a).toInt = a := by
  unfold li2l
  rw [Int32.toInt_toInt64, iZ_toInt hR]
theorem zl2i_toInt {x : Int64} (h0 : -2147483648 ≤ x.toInt) (h1 : x.toInt < 2147483648) : zl2i x = x.toInt := by
  unfold zl2i
  rw [Int64.toInt_toInt32]
  exact Int.bmod_eq_of_le (by omega) (by omega)
theorem i64_ext {x y : Int64} (h : x.toInt = y.toInt) : x = y := Int64.toInt_inj.mp h
theorem i64_of {n : Int} (h0 : 0 ≤ n) (h1 : n < 9223372036854775808) : (Int64.ofInt n).toInt = n := Int64.toInt_ofInt_of_le (by omega) (by omega)
theorem zdiv_id {a b : Int} (a0 : 0 ≤ a) (a1 : a < 2147483648) (b0 : 0 < b) (b1 : b < 2147483648) : zdiv a b = a / b := by
  unfold zdiv
  rw [Int32.toInt_div, iZ_toInt ⟨by omega, by omega⟩, iZ_toInt ⟨by omega, by omega⟩, Int.tdiv_eq_ediv_of_nonneg a0]
  have h0 : 0 ≤ a / b := Int.ediv_nonneg a0 (by omega)
  have h1 : a / b ≤ a := Int.ediv_le_self b a0
  exact Int.bmod_eq_of_le (by omega) (by omega)
theorem zrem_id {a b : Int} (a0 : 0 ≤ a) (a1 : a < 2147483648) (b0 : 0 < b) (b1 : b < 2147483648) : zrem a b = a % b := by
  unfold zrem
  have e : iZ a / iZ b = iZ (a / b) := by
    have := zdiv_id a0 a1 b0 b1
    unfold zdiv at this
    rw [← this, iZ_back]
  have h0 : 0 ≤ a % b := Int.emod_nonneg a (by omega)
  have h1 : a % b < b := Int.emod_lt_of_pos a b0
  have h2 := Int.emod_add_mul_ediv a b
  rw [e, iZ_mul, iZ_sub, iZ_toInt]
  · rw [Int.mul_comm]
    omega
  · have : a / b * b = b * (a / b) := Int.mul_comm _ _
    exact ⟨by omega, by omega⟩
def zi2b (a : Int) : Int := (iZ a).toInt8.toInt32.toInt
theorem zi2b_R (a : Int) : iR (zi2b a) := iR_of _
section WG
variable {sc : x_S} {d k pc : Nat} {lv : x_L} {st : List Value} {S : w_S} {Q : Option Value → w_S → Prop} {pc2 pc3 : Nat}
theorem w_cret {x : Int32} (hi : x_ins k pc = some .ireturn) (hr : x_rt k = some .char) (hx : vp_nar .char x = x) (hq : Q (some (.int x)) S) : w_T sc d k pc lv [.int x] S Q := fun h hW => x_T_end hi (by simp [x_end, x_ri, hr, hx]) ⟨S, hW, hq⟩
theorem w_byret {x : Int32} (hi : x_ins k pc = some .ireturn) (hr : x_rt k = some .byte) (hx : vp_nar .byte x = x) (hq : Q (some (.int x)) S) : w_T sc d k pc lv [.int x] S Q := fun h hW => x_T_end hi (by simp [x_end, x_ri, hr, hx]) ⟨S, hW, hq⟩
theorem w_zi2b {a : Int} (hi : x_ins k pc = some .i2b) (hn : pc + 1 = pc2) (t : w_T sc d k pc2 lv (.int (iZ (zi2b a)) :: st) S Q) : w_T sc d k pc lv (.int (iZ a) :: st) S Q := by
  subst hn
  intro h hW
  refine x_T_step hi ?_ (t h hW)
  have e : iZ (zi2b a) = (iZ a).toInt8.toInt32 := iZ_back _
  rw [e]
  rfl
theorem w_max {a b : Int} {idx qq nn : Nat} (hi : x_ins k pc = some (.invokestatic idx)) (hm : x_mth k idx = some (qq, 6, nn)) (ha : iR a) (hb : iR b) (hd : ¬ d = 0) (hr : x_cs st ≤ 8) (hn : pc + 3 = pc2) (t : w_T sc d k pc2 lv (.int (iZ (if a < b then b else a)) :: st) S Q) : w_T sc d k pc lv (.int (iZ b) :: .int (iZ a) :: st) S Q := by
  subst hn
  intro h hW
  refine x_T_step hi ?_ (t h hW)
  have e : (if iZ a < iZ b then iZ b else iZ a) = iZ (if a < b then b else a) := by
    by_cases hc : a < b
    · rw [if_pos hc, if_pos ((iZ_lt ha hb).mpr hc)]
    · rw [if_neg hc, if_neg (fun z => hc ((iZ_lt ha hb).mp z))]
  simp [x_one, x_pop, x_lod, x_sto, x_jmp, x_rd, x_wr, x_or, x_aci_no hm (by decide), x_acl_no hm (by decide), x_mm_no hm (by decide), x_mk, x_now, x_mx, hm, hd, hr, e]
theorem w_iaS {a n : Nat} {i z : Int} {f : Int → Int} {fs : List (Nat × Nat)} (hi : x_ins k pc = some .iastore) (hs : w_sh[a]? = some (1, 0, n, fs)) (h0 : 0 ≤ i) (h1 : i < n) (h2 : (n : Int) ≤ 2147483648) (hf : sA S a = f) (hn : pc + 1 = pc2) (t : w_T sc d k pc2 lv st (w_A S a (w_u f i z)) Q) : w_T sc d k pc lv (.int (iZ z) :: .int (iZ i) :: .ref a :: st) S Q := w_iast hi hs h0 h1 h2 hn (by rw [hf]; exact t)
theorem w_caS {a n : Nat} {i z : Int} {f : Int → Int} {fs : List (Nat × Nat)} (hi : x_ins k pc = some .castore) (hs : w_sh[a]? = some (1, 2, n, fs)) (h0 : 0 ≤ i) (h1 : i < n) (h2 : (n : Int) ≤ 2147483648) (hz : vp_nar .char (iZ z) = iZ z) (hf : sA S a = f) (hn : pc + 1 = pc2) (t : w_T sc d k pc2 lv st (w_A S a (w_u f i z)) Q) : w_T sc d k pc lv (.int (iZ z) :: .int (iZ i) :: .ref a :: st) S Q := w_cast hi hs h0 h1 h2 hz hn (by rw [hf]; exact t)
theorem w_baS {a n : Nat} {i z : Int} {f : Int → Int} {fs : List (Nat × Nat)} (hi : x_ins k pc = some .bastore) (hs : w_sh[a]? = some (1, 3, n, fs)) (h0 : 0 ≤ i) (h1 : i < n) (h2 : (n : Int) ≤ 2147483648) (hz : vp_nar .boolean (iZ z) = iZ z) (hf : sA S a = f) (hn : pc + 1 = pc2) (t : w_T sc d k pc2 lv st (w_A S a (w_u f i z)) Q) : w_T sc d k pc lv (.int (iZ z) :: .int (iZ i) :: .ref a :: st) S Q := w_bast hi hs h0 h1 h2 hz hn (by rw [hf]; exact t)
theorem w_laS {a n : Nat} {i : Int} {z : Int64} {f : Int → Int64} {fs : List (Nat × Nat)} (hi : x_ins k pc = some .lastore) (hs : w_sh[a]? = some (2, 1, n, fs)) (h0 : 0 ≤ i) (h1 : i < n) (h2 : (n : Int) ≤ 2147483648) (hf : sL S a = f) (hn : pc + 1 = pc2) (t : w_T sc d k pc2 lv st (w_L S a (w_u f i z)) Q) : w_T sc d k pc lv (.long z :: .int (iZ i) :: .ref a :: st) S Q := w_last hi hs h0 h1 h2 hn (by rw [hf]; exact t)
theorem w_raS {a n t0 ci y nn : Nat} {i : Int} {f : Int → Option Nat} {fs gs : List (Nat × Nat)} (hi : x_ins k pc = some .aastore) (hs : w_sh[a]? = some (3, t0, n, fs)) (hs2 : w_sh[y]? = some (0, ci, nn, gs)) (hc : x_cp t0 = some ci) (h0 : 0 ≤ i) (h1 : i < n) (h2 : (n : Int) ≤ 2147483648) (hf : sR S a = f) (hn : pc + 1 = pc2) (t : w_T sc d k pc2 lv st (w_R S a (w_u f i (some y))) Q) : w_T sc d k pc lv (.ref y :: .int (iZ i) :: .ref a :: st) S Q := w_aast hi hs hs2 hc h0 h1 h2 hn (by rw [hf]; exact t)
theorem w_cpi {idx a0 a1 n0 n1 qq mm : Nat} {sp dp n : Int} {f g : Int → Int} {f0 f1 : List (Nat × Nat)} (hi : x_ins k pc = some (.invokestatic idx)) (hm : x_mth k idx = some (qq, 8, mm)) (hs0 : w_sh[a0]? = some (1, 0, n0, f0)) (hs1 : w_sh[a1]? = some (1, 0, n1, f1)) (h0 : 0 ≤ sp) (h1 : 0 ≤ dp) (h2 : 0 ≤ n) (h3 : sp + n ≤ n0) (h4 : dp + n ≤ n1) (h5 : (n0 : Int) < 2147483648) (h6 : (n1 : Int) < 2147483648) (hd : ¬ d = 0) (hr : x_cs st ≤ 8) (hf : sA S a0 = f) (hg : sA S a1 = g) (hn : pc + 3 = pc2) (t : w_T sc d k pc2 lv st (w_A S a1 (w_cp f g sp dp n)) Q) : w_T sc d k pc lv (.int (iZ n) :: .int (iZ dp) :: .ref a1 :: .int (iZ sp) :: .ref a0 :: st) S Q := w_acpi hi hm hs0 hs1 h0 h1 h2 h3 h4 h5 h6 hd hr hn (by rw [hf, hg]; exact t)
theorem w_cpl {idx a0 a1 n0 n1 qq mm : Nat} {sp dp n : Int} {f g : Int → Int64} {f0 f1 : List (Nat × Nat)} (hi : x_ins k pc = some (.invokestatic idx)) (hm : x_mth k idx = some (qq, 8, mm)) (hs0 : w_sh[a0]? = some (2, 1, n0, f0)) (hs1 : w_sh[a1]? = some (2, 1, n1, f1)) (h0 : 0 ≤ sp) (h1 : 0 ≤ dp) (h2 : 0 ≤ n) (h3 : sp + n ≤ n0) (h4 : dp + n ≤ n1) (h5 : (n0 : Int) < 2147483648) (h6 : (n1 : Int) < 2147483648) (hd : ¬ d = 0) (hr : x_cs st ≤ 8) (hf : sL S a0 = f) (hg : sL S a1 = g) (hn : pc + 3 = pc2) (t : w_T sc d k pc2 lv st (w_L S a1 (w_cp f g sp dp n)) Q) : w_T sc d k pc lv (.int (iZ n) :: .int (iZ dp) :: .ref a1 :: .int (iZ sp) :: .ref a0 :: st) S Q := w_acpl hi hm hs0 hs1 h0 h1 h2 h3 h4 h5 h6 hd hr hn (by rw [hf, hg]; exact t)
end WG
