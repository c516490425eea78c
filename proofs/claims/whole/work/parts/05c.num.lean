/-! Numbers: an int as 'iZ z', z a whole number; sums and differences need no side goal, compares and indices are linear. -/
def iZ (z : Int) : Int32 := Int32.ofInt z
def iR (z : Int) : Prop := -2147483648 ≤ z ∧ z < 2147483648
theorem iZ_toInt {z : Int} (h : iR z) : (iZ z).toInt = z := by
  unfold iZ
  rw [Int32.toInt_ofInt_of_le (by have := h.1; omega) (by have := h.2; omega)]
theorem iZ_of (x : Int32) : x = iZ x.toInt := by
  unfold iZ
  exact (Int32.ofInt_toInt x).symm
theorem iR_of (x : Int32) : iR x.toInt := ⟨Int32.le_toInt x, Int32.toInt_lt x⟩
theorem iZ_add (a b : Int) : iZ a + iZ b = iZ (a + b) := by
  unfold iZ
  exact (Int32.ofInt_add a b).symm
theorem iZ_sub (a b : Int) : iZ a - iZ b = iZ (a - b) := by
  unfold iZ
  exact (Int32.ofInt_sub a b).symm
theorem iZ_mul (a b : Int) : iZ a * iZ b = iZ (a * b) := by
  unfold iZ
  exact (Int32.ofInt_mul a b).symm
theorem iZ_lt {a b : Int} (ha : iR a) (hb : iR b) : iZ a < iZ b ↔ a < b := by
  rw [Int32.lt_iff_toInt_lt, iZ_toInt ha, iZ_toInt hb]
theorem iZ_le {a b : Int} (ha : iR a) (hb : iR b) : iZ a ≤ iZ b ↔ a ≤ b := by
  rw [Int32.le_iff_toInt_le, iZ_toInt ha, iZ_toInt hb]
theorem iZ_eq {a b : Int} (ha : iR a) (hb : iR b) : iZ a = iZ b ↔ a = b := by
  constructor
  · intro h
    have h1 := congrArg Int32.toInt h
    rw [iZ_toInt ha, iZ_toInt hb] at h1
    exact h1
  · intro h
    rw [h]
theorem iZ_clamp {a : Int} (ha : iR a) : (iZ a).toNatClampNeg = a.toNat := by
  unfold Int32.toNatClampNeg
  rw [iZ_toInt ha]
theorem iZ_in {a : Int} {n : Nat} (h0 : 0 ≤ a) (h1 : a < n) (hn : (n : Int) ≤ 2147483648) : x_in (iZ a) n = true := by
  have ha : iR a := ⟨by omega, by omega⟩
  unfold x_in
  rw [iZ_clamp ha]
  have e0 : ¬ iZ a < 0 := by
    have : (0 : Int32) = iZ 0 := by decide
    rw [this, iZ_lt ha ⟨by decide, by decide⟩]
    omega
  simp only [Bool.and_eq_true, Bool.not_eq_true', decide_eq_false_iff_not, decide_eq_true_eq]
  exact ⟨e0, by omega⟩
section XZ
variable {sc : x_S} {d k pc : Nat} {lv : x_L} {h : x_H} {Q : Option Value → x_H → Prop} {a b : Int} {st : List Value} {pc2 pc3 : Nat}
theorem z_iconst {n : Int} {st : List Value} (hi : x_ins k pc = some (.iconst n)) (hn : pc + 1 = pc2) (t : x_T sc d k pc2 lv (.int (iZ n) :: st) h Q) : x_T sc d k pc lv st h Q := x_T_iconst hi rfl hn t
theorem z_bipush {n : Int} (hi : x_ins k pc = some (.bipush n)) (hv : (Int8.ofInt n).toInt32 = iZ n) (hn : pc + 2 = pc2) (t : x_T sc d k pc2 lv (.int (iZ n) :: st) h Q) : x_T sc d k pc lv st h Q := x_T_bipush hi hv hn t
theorem z_sipush {n : Int} (hi : x_ins k pc = some (.sipush n)) (hv : (Int16.ofInt n).toInt32 = iZ n) (hn : pc + 3 = pc2) (t : x_T sc d k pc2 lv (.int (iZ n) :: st) h Q) : x_T sc d k pc lv st h Q := x_T_sipush hi hv hn t
theorem z_iadd (hi : x_ins k pc = some .iadd) (hn : pc + 1 = pc2) (t : x_T sc d k pc2 lv (.int (iZ (a + b)) :: st) h Q) : x_T sc d k pc lv (.int (iZ b) :: .int (iZ a) :: st) h Q := x_T_iadd hi hn (by rw [iZ_add]; exact t)
theorem z_isub (hi : x_ins k pc = some .isub) (hn : pc + 1 = pc2) (t : x_T sc d k pc2 lv (.int (iZ (a - b)) :: st) h Q) : x_T sc d k pc lv (.int (iZ b) :: .int (iZ a) :: st) h Q := x_T_isub hi hn (by rw [iZ_sub]; exact t)
theorem z_imul (hi : x_ins k pc = some .imul) (hn : pc + 1 = pc2) (t : x_T sc d k pc2 lv (.int (iZ (a * b)) :: st) h Q) : x_T sc d k pc lv (.int (iZ b) :: .int (iZ a) :: st) h Q := x_T_imul hi hn (by rw [iZ_mul]; exact t)
theorem z_iinc {j : Nat} {n : Int} (hi : x_ins k pc = some (.iinc j n)) (hl : lv j = some (.int (iZ a))) (hb : j < x_nL k) (hn : pc + 3 = pc2) (t : x_T sc d k pc2 (x_s1 lv j (.int (iZ (a + n)))) st h Q) : x_T sc d k pc lv st h Q := x_T_iinc hi hl hb rfl hn (by
  have e : iZ a + Int32.ofInt n = iZ (a + n) := iZ_add a n
  rw [e]
  exact t)
theorem z_goto {off : Int} {st : List Value} (hi : x_ins k pc = some (.goto off)) (hn : (pc : Int) + off = (pc2 : Int)) (t : x_T sc d k pc2 lv st h Q) : x_T sc d k pc lv st h Q := x_T_goto hi hn t
theorem z_ic_lt {off : Int} (hi : x_ins k pc = some (.if_icmp .lt off)) (hn : (pc : Int) + off = (pc2 : Int)) (hm : pc + 3 = pc3) (ha : iR a) (hb : iR b) (t : a < b → x_T sc d k pc2 lv st h Q) (f : b ≤ a → x_T sc d k pc3 lv st h Q) : x_T sc d k pc lv (.int (iZ b) :: .int (iZ a) :: st) h Q :=
  x_T_ic hi hn hm (fun q => t ((iZ_lt ha hb).mp (by simpa only [x_cc, decide_eq_true_eq] using q))) (fun q => f (by
    have q2 : ¬ iZ a < iZ b := by simpa only [x_cc, decide_eq_true_eq] using q
    rw [iZ_lt ha hb] at q2
    omega))
theorem z_ic_ge {off : Int} (hi : x_ins k pc = some (.if_icmp .ge off)) (hn : (pc : Int) + off = (pc2 : Int)) (hm : pc + 3 = pc3) (ha : iR a) (hb : iR b) (t : b ≤ a → x_T sc d k pc2 lv st h Q) (f : a < b → x_T sc d k pc3 lv st h Q) : x_T sc d k pc lv (.int (iZ b) :: .int (iZ a) :: st) h Q :=
  x_T_ic hi hn hm (fun q => t ((iZ_le hb ha).mp (by simpa only [x_cc, decide_eq_true_eq] using q))) (fun q => f (by
    have q2 : ¬ iZ b ≤ iZ a := by simpa only [x_cc, decide_eq_true_eq] using q
    rw [iZ_le hb ha] at q2
    omega))
theorem z_ic_gt {off : Int} (hi : x_ins k pc = some (.if_icmp .gt off)) (hn : (pc : Int) + off = (pc2 : Int)) (hm : pc + 3 = pc3) (ha : iR a) (hb : iR b) (t : b < a → x_T sc d k pc2 lv st h Q) (f : a ≤ b → x_T sc d k pc3 lv st h Q) : x_T sc d k pc lv (.int (iZ b) :: .int (iZ a) :: st) h Q :=
  x_T_ic hi hn hm (fun q => t ((iZ_lt hb ha).mp (by simpa only [x_cc, decide_eq_true_eq] using q))) (fun q => f (by
    have q2 : ¬ iZ b < iZ a := by simpa only [x_cc, decide_eq_true_eq] using q
    rw [iZ_lt hb ha] at q2
    omega))
theorem z_ic_le {off : Int} (hi : x_ins k pc = some (.if_icmp .le off)) (hn : (pc : Int) + off = (pc2 : Int)) (hm : pc + 3 = pc3) (ha : iR a) (hb : iR b) (t : a ≤ b → x_T sc d k pc2 lv st h Q) (f : b < a → x_T sc d k pc3 lv st h Q) : x_T sc d k pc lv (.int (iZ b) :: .int (iZ a) :: st) h Q :=
  x_T_ic hi hn hm (fun q => t ((iZ_le ha hb).mp (by simpa only [x_cc, decide_eq_true_eq] using q))) (fun q => f (by
    have q2 : ¬ iZ a ≤ iZ b := by simpa only [x_cc, decide_eq_true_eq] using q
    rw [iZ_le ha hb] at q2
    omega))
theorem z_ic_eq {off : Int} (hi : x_ins k pc = some (.if_icmp .eq off)) (hn : (pc : Int) + off = (pc2 : Int)) (hm : pc + 3 = pc3) (ha : iR a) (hb : iR b) (t : a = b → x_T sc d k pc2 lv st h Q) (f : ¬ a = b → x_T sc d k pc3 lv st h Q) : x_T sc d k pc lv (.int (iZ b) :: .int (iZ a) :: st) h Q :=
  x_T_ic hi hn hm (fun q => t ((iZ_eq ha hb).mp (by simpa only [x_cc, decide_eq_true_eq] using q))) (fun q => f (fun z => q (by simpa only [x_cc, decide_eq_true_eq] using (iZ_eq ha hb).mpr z)))
theorem z_ic_ne {off : Int} (hi : x_ins k pc = some (.if_icmp .ne off)) (hn : (pc : Int) + off = (pc2 : Int)) (hm : pc + 3 = pc3) (ha : iR a) (hb : iR b) (t : ¬ a = b → x_T sc d k pc2 lv st h Q) (f : a = b → x_T sc d k pc3 lv st h Q) : x_T sc d k pc lv (.int (iZ b) :: .int (iZ a) :: st) h Q :=
  x_T_ic hi hn hm (fun q => t (fun z => by
    have q2 : ¬ iZ a = iZ b := by simpa only [x_cc, decide_eq_true_eq] using q
    exact q2 ((iZ_eq ha hb).mpr z))) (fun q => f (by
    have q2 : ¬ ¬ iZ a = iZ b := by simpa only [x_cc, decide_eq_true_eq] using q
    exact (iZ_eq ha hb).mp (Decidable.byContradiction q2)))
theorem iR_0 : iR 0 := ⟨by decide, by decide⟩
theorem z_if0 {cd : Jvm.ClassFile.Cond} {x : Int32} : x_cc cd x 0 = x_cc cd x (iZ 0) := rfl
theorem z_if_lt {off : Int} (hi : x_ins k pc = some (.ifCond .lt off)) (hn : (pc : Int) + off = (pc2 : Int)) (hm : pc + 3 = pc3) (ha : iR a) (t : a < 0 → x_T sc d k pc2 lv st h Q) (f : 0 ≤ a → x_T sc d k pc3 lv st h Q) : x_T sc d k pc lv (.int (iZ a) :: st) h Q :=
  x_T_if hi hn hm (fun q => t ((iZ_lt ha iR_0).mp (by rw [z_if0] at q; simpa only [x_cc, decide_eq_true_eq] using q))) (fun q => f (by
    rw [z_if0] at q
    have q2 : ¬ iZ a < iZ 0 := by simpa only [x_cc, decide_eq_true_eq] using q
    rw [iZ_lt ha iR_0] at q2
    omega))
theorem z_if_ge {off : Int} (hi : x_ins k pc = some (.ifCond .ge off)) (hn : (pc : Int) + off = (pc2 : Int)) (hm : pc + 3 = pc3) (ha : iR a) (t : 0 ≤ a → x_T sc d k pc2 lv st h Q) (f : a < 0 → x_T sc d k pc3 lv st h Q) : x_T sc d k pc lv (.int (iZ a) :: st) h Q :=
  x_T_if hi hn hm (fun q => t ((iZ_le iR_0 ha).mp (by rw [z_if0] at q; simpa only [x_cc, decide_eq_true_eq] using q))) (fun q => f (by
    rw [z_if0] at q
    have q2 : ¬ iZ 0 ≤ iZ a := by simpa only [x_cc, decide_eq_true_eq] using q
    rw [iZ_le iR_0 ha] at q2
    omega))
theorem z_if_gt {off : Int} (hi : x_ins k pc = some (.ifCond .gt off)) (hn : (pc : Int) + off = (pc2 : Int)) (hm : pc + 3 = pc3) (ha : iR a) (t : 0 < a → x_T sc d k pc2 lv st h Q) (f : a ≤ 0 → x_T sc d k pc3 lv st h Q) : x_T sc d k pc lv (.int (iZ a) :: st) h Q :=
  x_T_if hi hn hm (fun q => t ((iZ_lt iR_0 ha).mp (by rw [z_if0] at q; simpa only [x_cc, decide_eq_true_eq] using q))) (fun q => f (by
    rw [z_if0] at q
    have q2 : ¬ iZ 0 < iZ a := by simpa only [x_cc, decide_eq_true_eq] using q
    rw [iZ_lt iR_0 ha] at q2
    omega))
theorem z_if_le {off : Int} (hi : x_ins k pc = some (.ifCond .le off)) (hn : (pc : Int) + off = (pc2 : Int)) (hm : pc + 3 = pc3) (ha : iR a) (t : a ≤ 0 → x_T sc d k pc2 lv st h Q) (f : 0 < a → x_T sc d k pc3 lv st h Q) : x_T sc d k pc lv (.int (iZ a) :: st) h Q :=
  x_T_if hi hn hm (fun q => t ((iZ_le ha iR_0).mp (by rw [z_if0] at q; simpa only [x_cc, decide_eq_true_eq] using q))) (fun q => f (by
    rw [z_if0] at q
    have q2 : ¬ iZ a ≤ iZ 0 := by simpa only [x_cc, decide_eq_true_eq] using q
    rw [iZ_le ha iR_0] at q2
    omega))
theorem z_if_eq {off : Int} (hi : x_ins k pc = some (.ifCond .eq off)) (hn : (pc : Int) + off = (pc2 : Int)) (hm : pc + 3 = pc3) (ha : iR a) (t : a = 0 → x_T sc d k pc2 lv st h Q) (f : ¬ a = 0 → x_T sc d k pc3 lv st h Q) : x_T sc d k pc lv (.int (iZ a) :: st) h Q :=
  x_T_if hi hn hm (fun q => t ((iZ_eq ha iR_0).mp (by rw [z_if0] at q; simpa only [x_cc, decide_eq_true_eq] using q))) (fun q => f (fun z => q (by rw [z_if0]; simpa only [x_cc, decide_eq_true_eq] using (iZ_eq ha iR_0).mpr z)))
theorem z_if_ne {off : Int} (hi : x_ins k pc = some (.ifCond .ne off)) (hn : (pc : Int) + off = (pc2 : Int)) (hm : pc + 3 = pc3) (ha : iR a) (t : ¬ a = 0 → x_T sc d k pc2 lv st h Q) (f : a = 0 → x_T sc d k pc3 lv st h Q) : x_T sc d k pc lv (.int (iZ a) :: st) h Q :=
  x_T_if hi hn hm (fun q => t (fun z => by
    rw [z_if0] at q
    have q2 : ¬ iZ a = iZ 0 := by simpa only [x_cc, decide_eq_true_eq] using q
    exact q2 ((iZ_eq ha iR_0).mpr z))) (fun q => f (by
    rw [z_if0] at q
    have q2 : ¬ ¬ iZ a = iZ 0 := by simpa only [x_cc, decide_eq_true_eq] using q
    exact (iZ_eq ha iR_0).mp (Decidable.byContradiction q2)))
end XZ
/-- a compare of two longs, then a jump on it -/
theorem lg_ne0 {x y : Int64} : x_cc .ne (lg_cmp x y) 0 = true ↔ ¬ x = y := by
  unfold lg_cmp
  by_cases h1 : y < x
  · have h2 : ¬ x = y := fun z => by rw [z] at h1; exact Int64.lt_irrefl h1
    simp [x_cc, h1, h2]
  · by_cases h2 : x = y
    · simp [x_cc, h2]
    · simp [x_cc, h1, h2]
theorem lg_eq0 {x y : Int64} : x_cc .eq (lg_cmp x y) 0 = true ↔ x = y := by
  have h := lg_ne0 (x := x) (y := y)
  have e : x_cc .eq (lg_cmp x y) 0 = !x_cc .ne (lg_cmp x y) 0 := by
    simp [x_cc]
  rw [e]
  by_cases hx : x = y
  · have : ¬ x_cc .ne (lg_cmp x y) 0 = true := fun z => h.mp z hx
    simp only [Bool.not_eq_true] at this
    rw [this]
    simp [hx]
  · rw [h.mpr hx]
    simp [hx]
section XL
variable {sc : x_S} {d k pc : Nat} {lv : x_L} {h : x_H} {Q : Option Value → x_H → Prop} {st : List Value} {pc2 pc3 : Nat}
theorem z_l_ne {x y : Int64} {off : Int} (hi0 : x_ins k pc = some .lcmp) (hi : x_ins k (pc + 1) = some (.ifCond .ne off)) (hn : ((pc + 1 : Nat) : Int) + off = (pc2 : Int)) (hm : pc + 1 + 3 = pc3) (t : ¬ x = y → x_T sc d k pc2 lv st h Q) (f : x = y → x_T sc d k pc3 lv st h Q) : x_T sc d k pc lv (.long y :: .long x :: st) h Q :=
  x_T_lcmp hi0 rfl (x_T_if hi hn hm (fun q => t (lg_ne0.mp q)) (fun q => f (Decidable.byContradiction (fun z => q (lg_ne0.mpr z)))))
theorem z_l_eq {x y : Int64} {off : Int} (hi0 : x_ins k pc = some .lcmp) (hi : x_ins k (pc + 1) = some (.ifCond .eq off)) (hn : ((pc + 1 : Nat) : Int) + off = (pc2 : Int)) (hm : pc + 1 + 3 = pc3) (t : x = y → x_T sc d k pc2 lv st h Q) (f : ¬ x = y → x_T sc d k pc3 lv st h Q) : x_T sc d k pc lv (.long y :: .long x :: st) h Q :=
  x_T_lcmp hi0 rfl (x_T_if hi hn hm (fun q => t (lg_eq0.mp q)) (fun q => f (fun z => q (lg_eq0.mpr z))))
end XL
