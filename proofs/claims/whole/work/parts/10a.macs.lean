/-! Tokens with hide sets, rows of them; macros (class). -/
abbrev ETok : Type := Int64 × Int × (Int64 → Bool)
abbrev Mac : Type := Int64 × Bool × List Int64 × List Int64
def m0 : Mac := (0, false, [], [])
def mg (T : List Mac) (k : Int) : Mac := T.getD k.toNat m0
def lg (l : List Int64) (j : Int) : Int64 := l.getD j.toNat 0
def hbN (f : Nat → Bool) : Nat := (f 0).toNat + 2 * (f 1).toNat + 4 * (f 2).toNat + 8 * (f 3).toNat + 16 * (f 4).toNat + 32 * (f 5).toNat + 64 * (f 6).toNat + 128 * (f 7).toNat
theorem hbN_lt (f : Nat → Bool) : hbN f < 256 := by
  unfold hbN
  have h : ∀ b : Bool, b.toNat ≤ 1 := by decide
  have := h (f 0); have := h (f 1); have := h (f 2); have := h (f 3); have := h (f 4); have := h (f 5); have := h (f 6); have := h (f 7)
  omega
theorem hbN_bit (f : Nat → Bool) (q : Nat) : (hbN f).testBit q = (decide (q < 8) && f q) := by
  by_cases hq : q < 8
  · rw [decide_eq_true hq, Bool.true_and]
    have h : ∀ b0 b1 b2 b3 b4 b5 b6 b7 : Bool, (∀ q : Fin 8, (b0.toNat + 2 * b1.toNat + 4 * b2.toNat + 8 * b3.toNat + 16 * b4.toNat + 32 * b5.toNat + 64 * b6.toNat + 128 * b7.toNat).testBit q.val = (match q.val with | 0 => b0 | 1 => b1 | 2 => b2 | 3 => b3 | 4 => b4 | 5 => b5 | 6 => b6 | _ => b7)) := by decide +kernel
    have h2 := h (f 0) (f 1) (f 2) (f 3) (f 4) (f 5) (f 6) (f 7) ⟨q, hq⟩
    unfold hbN
    rw [h2]
    have : q = 0 ∨ q = 1 ∨ q = 2 ∨ q = 3 ∨ q = 4 ∨ q = 5 ∨ q = 6 ∨ q = 7 := by omega
    rcases this with e | e | e | e | e | e | e | e <;> subst e <;> rfl
  · rw [decide_eq_false hq, Bool.false_and]
    exact Nat.testBit_lt_two_pow (Nat.lt_of_lt_of_le (hbN_lt f) (Nat.pow_le_pow_right (n := 2) (by decide) (by omega : 8 ≤ q)))
theorem hbN_and (f g : Nat → Bool) : hbN f &&& hbN g = hbN (fun q => f q && g q) := by
  apply Nat.eq_of_testBit_eq
  intro q
  rw [Nat.testBit_and, hbN_bit, hbN_bit, hbN_bit]
  cases decide (q < 8) <;> simp
theorem hbN_or (f g : Nat → Bool) : hbN f ||| hbN g = hbN (fun q => f q || g q) := by
  apply Nat.eq_of_testBit_eq
  intro q
  rw [Nat.testBit_or, hbN_bit, hbN_bit, hbN_bit]
  cases decide (q < 8) <;> simp
theorem hbN_one {k : Nat} (h : k < 8) : 1 <<< k = hbN (fun q => decide (q = k)) := by
  have : k = 0 ∨ k = 1 ∨ k = 2 ∨ k = 3 ∨ k = 4 ∨ k = 5 ∨ k = 6 ∨ k = 7 := by omega
  rcases this with e | e | e | e | e | e | e | e <;> subst e <;> decide
theorem hbN_ext {f g : Nat → Bool} (h : ∀ q, q < 8 → f q = g q) : hbN f = hbN g := by
  unfold hbN
  rw [h 0 (by decide), h 1 (by decide), h 2 (by decide), h 3 (by decide), h 4 (by decide), h 5 (by decide), h 6 (by decide), h 7 (by decide)]
/-- the bits of a hide set; a token's origin -/
def hs (nm : Nat → Int64) (H : Int64 → Bool) : Nat := hbN (fun q => decide (¬ nm q = 0) && H (nm q))
def eo (nm : Nat → Int64) (e : ETok) : Int := e.2.1 * 256 + (hs nm e.2.2 : Nat)
theorem hs_lt (nm : Nat → Int64) (H : Int64 → Bool) : hs nm H < 256 := hbN_lt _
theorem eo_div (nm : Nat → Int64) (e : ETok) : eo nm e / 256 = e.2.1 := by
  unfold eo
  have := hs_lt nm e.2.2
  omega
theorem eo_mod (nm : Nat → Int64) (e : ETok) : eo nm e % 256 = (hs nm e.2.2 : Nat) := by
  unfold eo
  have := hs_lt nm e.2.2
  omega
theorem hs_and (nm : Nat → Int64) (H K : Int64 → Bool) : hs nm H &&& hs nm K = hs nm (fun x => H x && K x) := by
  unfold hs
  rw [hbN_and]
  exact hbN_ext (fun q _ => by cases decide (¬ nm q = 0) <;> simp)
theorem hs_or (nm : Nat → Int64) (H K : Int64 → Bool) : hs nm H ||| hs nm K = hs nm (fun x => H x || K x) := by
  unfold hs
  rw [hbN_or]
  exact hbN_ext (fun q _ => by cases decide (¬ nm q = 0) <;> simp)
theorem hs_none (nm : Nat → Int64) : hs nm (fun _ => false) = 0 := by
  unfold hs
  rw [hbN_ext (g := fun _ => false) (fun q _ => by simp)]
  decide
theorem hs_bit {nm : Nat → Int64} {H : Int64 → Bool} {k : Nat} (hk : k < 8) (h0 : ¬ nm k = 0) : (hs nm H).testBit k = H (nm k) := by
  unfold hs
  rw [hbN_bit, decide_eq_true hk, decide_eq_true h0]
  simp
theorem hs_one {nm : Nat → Int64} {k : Nat} (hk : k < 8) (h0 : ¬ nm k = 0) (hi : ∀ q, q < 8 → nm q = nm k → q = k) : 1 <<< k = hs nm (fun x => decide (x = nm k)) := by
  unfold hs
  rw [hbN_one hk]
  refine hbN_ext (fun q hq => ?_)
  by_cases e : q = k
  · rw [e]
    simp [h0]
  · have : ¬ nm q = nm k := fun z => e (hi q hq z)
    simp [e, this]
/-- rows: forward, and as a stack -/
def fw (nm : Nat → Int64) (X : Int → Int64) (O : Int → Int) : Int → List ETok → Prop
  | _, [] => True
  | i, e :: l => X i = e.1 ∧ O i = eo nm e ∧ fw nm X O (i + 1) l
def bw (nm : Nat → Int64) (X : Int → Int64) (O : Int → Int) : Int → List ETok → Prop
  | _, [] => True
  | i, e :: l => X (i - 1) = e.1 ∧ O (i - 1) = eo nm e ∧ bw nm X O (i - 1) l
theorem fw_app {nm : Nat → Int64} {X : Int → Int64} {O : Int → Int} : ∀ (l k : List ETok) (i : Int), fw nm X O i (l ++ k) ↔ fw nm X O i l ∧ fw nm X O (i + l.length) k
  | [], k, i => by
    rw [List.nil_append, List.length_nil]
    show _ ↔ True ∧ fw nm X O (i + ((0 : Nat) : Int)) k
    rw [show i + ((0 : Nat) : Int) = i by omega]
    exact ⟨fun h => ⟨trivial, h⟩, fun h => h.2⟩
  | e :: l, k, i => by
    have h := fw_app (nm := nm) (X := X) (O := O) l k (i + 1)
    rw [show i + 1 + (l.length : Int) = i + ((e :: l).length : Int) by rw [List.length_cons]; omega] at h
    show (X i = e.1 ∧ O i = eo nm e ∧ fw nm X O (i + 1) (l ++ k)) ↔ (X i = e.1 ∧ O i = eo nm e ∧ fw nm X O (i + 1) l) ∧ _
    rw [h]
    exact ⟨fun q => ⟨⟨q.1, q.2.1, q.2.2.1⟩, q.2.2.2⟩, fun q => ⟨q.1.1, q.1.2.1, q.1.2.2, q.2⟩⟩
theorem bw_app {nm : Nat → Int64} {X : Int → Int64} {O : Int → Int} : ∀ (l k : List ETok) (i : Int), bw nm X O i (l ++ k) ↔ bw nm X O i l ∧ bw nm X O (i - l.length) k
  | [], k, i => by
    rw [List.nil_append, List.length_nil]
    show _ ↔ True ∧ bw nm X O (i - ((0 : Nat) : Int)) k
    rw [show i - ((0 : Nat) : Int) = i by omega]
    exact ⟨fun h => ⟨trivial, h⟩, fun h => h.2⟩
  | e :: l, k, i => by
    have h := bw_app (nm := nm) (X := X) (O := O) l k (i - 1)
    rw [show i - 1 - (l.length : Int) = i - ((e :: l).length : Int) by rw [List.length_cons]; omega] at h
    show (X (i - 1) = e.1 ∧ O (i - 1) = eo nm e ∧ bw nm X O (i - 1) (l ++ k)) ↔ (X (i - 1) = e.1 ∧ O (i - 1) = eo nm e ∧ bw nm X O (i - 1) l) ∧ _
    rw [h]
    exact ⟨fun q => ⟨⟨q.1, q.2.1, q.2.2.1⟩, q.2.2.2⟩, fun q => ⟨q.1.1, q.1.2.1, q.1.2.2, q.2⟩⟩
theorem fw_fr {nm : Nat → Int64} {X Y : Int → Int64} {O Q : Int → Int} : ∀ (l : List ETok) (i : Int), (∀ j, i ≤ j → j < i + l.length → Y j = X j ∧ Q j = O j) → fw nm X O i l → fw nm Y Q i l
  | [], _, _, _ => trivial
  | e :: l, i, h, a => by
    have h0 := h i (Int.le_refl _) (by rw [List.length_cons]; omega)
    exact ⟨h0.1.trans a.1, h0.2.trans a.2.1, fw_fr l (i + 1) (fun j p q => h j (by omega) (by rw [List.length_cons]; omega)) a.2.2⟩
theorem bw_fr {nm : Nat → Int64} {X Y : Int → Int64} {O Q : Int → Int} : ∀ (l : List ETok) (i : Int), (∀ j, i - l.length ≤ j → j < i → Y j = X j ∧ Q j = O j) → bw nm X O i l → bw nm Y Q i l
  | [], _, _, _ => trivial
  | e :: l, i, h, a => by
    have h0 := h (i - 1) (by rw [List.length_cons]; omega) (by omega)
    exact ⟨h0.1.trans a.1, h0.2.trans a.2.1, bw_fr l (i - 1) (fun j p q => h j (by rw [List.length_cons]; omega) (by omega)) a.2.2⟩
/-- the table of the class: pi is the order of its macros -/
def cmac (S : w_S) (i : Nat) (e : Mac) : Prop := sl S (6 + 3 * i) 0 = e.1 ∧ sv S (6 + 3 * i) 1 = zB e.2.1 ∧ sv S (6 + 3 * i) 2 = e.2.2.1.length ∧ sv S (6 + 3 * i) 4 = e.2.2.2.length ∧ (∀ j : Int, 0 ≤ j → j < e.2.2.1.length → sL S (7 + 3 * i) j = lg e.2.2.1 j) ∧ (∀ j : Int, 0 ≤ j → j < e.2.2.2.length → sL S (8 + 3 * i) j = lg e.2.2.2 j)
def mok (e : Mac) : Prop := e.2.2.1.length ≤ 3 ∧ e.2.2.2.length ≤ 12 ∧ (e.2.1 = false → e.2.2.1 = []) ∧ 0 < e.1.toInt ∧ ∀ j : Int, 0 ≤ j → j < e.2.2.2.length → 0 < (lg e.2.2.2 j).toInt
def ctab (S : w_S) (pi : Nat → Nat) (T : List Mac) : Prop := sv S 4 1 = T.length ∧ T.length ≤ 8 ∧ (∀ k, k < 8 → pi k < 8) ∧ (∀ j k, j < 8 → k < 8 → pi j = pi k → j = k) ∧ (∀ k : Int, 0 ≤ k → k < 8 → sR S 5 k = some (6 + 3 * pi k.toNat)) ∧ (∀ k : Int, 0 ≤ k → k < T.length → cmac S (pi k.toNat) (mg T k) ∧ mok (mg T k))
def fnx (T : List Mac) (x : Int64) : Int := fi (fun k => decide ((mg T k).1 = x)) T.length 0
def fnd (T : List Mac) (x : Int64) : Int := if fnx T x < T.length then fnx T x else -1
theorem fnx_r (T : List Mac) (x : Int64) : 0 ≤ fnx T x ∧ fnx T x ≤ T.length := fi_r (by omega)
theorem fnd_r (T : List Mac) (x : Int64) : fnd T x = -1 ∨ (0 ≤ fnd T x ∧ fnd T x < T.length) := by
  unfold fnd
  have := fnx_r T x
  split
  · right; omega
  · exact Or.inl rfl
theorem fi_at {p : Int → Bool} {n : Int} : ∀ (m : Nat) (i : Int), (n - i).toNat = m → fi p n i < n → p (fi p n i) = true
  | 0, i, hm, h => by
    rw [fi_end (by omega)] at h
    omega
  | m + 1, i, hm, h => by
    by_cases hp : p i = true
    · rw [fi_stop (by omega) hp]
      exact hp
    · have e := fi_next (p := p) (n := n) (i := i) (by omega) (by simpa using hp)
      rw [e] at h ⊢
      exact fi_at m (i + 1) (by omega) h
theorem fnd_at {T : List Mac} {x : Int64} (h : 0 ≤ fnd T x) : (mg T (fnd T x)).1 = x := by
  unfold fnd at h ⊢
  split at h
  · rename_i q
    rw [if_pos q]
    have := fi_at _ 0 rfl q
    exact of_decide_eq_true this
  · omega
theorem c_find_c {sc : x_S} {d : Nat} {S : w_S} {pi : Nat → Nat} {T : List Mac} {x : Int64} (ht : ctab S pi T) (hd : 0 ≤ d) : ∀ n : Nat, (∀ (i : Int) (lv : x_L) (l0 : lv 0 = some (.ref 4)) (l1 : lv 1 = some (.long x)) (l3 : lv 3 = some (.int (iZ i))) (i0 : 0 ≤ i) (i1 : i ≤ T.length) (ie : fnx T x = fi (fun k => decide ((mg T k).1 = x)) T.length i) (hm : (T.length - i).toNat < n), w_T sc d 34 2 lv [] S (fun v S2 => v = some (.int (iZ (fnd T x))) ∧ S2 = S)) := by
  intro n
  induction n with
  | zero => exact fun i lv l0 l1 l3 i0 i1 ie hm => absurd hm (Nat.not_lt_zero _)
  | succ n ih =>
    intro i lv l0 l1 l3 i0 i1 ie hm
    have hz := ht.1
    have h8 := ht.2.1
    refine w_iload_n rfl l3 rfl ?_
    refine w_aload_n rfl l0 rfl ?_
    refine w_getI (z := sv S 4 1) rfl rfl sh_4 rfl rfl rfl ?_
    refine w_ic_ge (pc2 := 32) (pc3 := 10) rfl (by decide) rfl ⟨by omega, by omega⟩ ⟨by omega, by omega⟩ (fun c7 => ?_) (fun c7 => ?_)
    · skip
      refine w_iconst rfl rfl ?_
      refine w_iret rfl rfl ?_
      have e : fnx T x = i := by rw [ie]; exact fi_end (by omega)
      exact q_i (by unfold fnd; rw [if_neg (by omega)])
    · skip
      refine w_aload_n rfl l0 rfl ?_
      refine w_getR rfl rfl sh_4 rfl rfl ?_
      refine w_iload_n rfl l3 rfl ?_
      refine w_aald rfl sh_5 rfl (by omega) (by omega) (by decide) (ht.2.2.2.2.1 i (by omega) (by omega)) rfl ?_
      refine w_getL (z := sl S (6 + 3 * pi i.toNat) 0) rfl rfl (sh_mac (ht.2.2.1 i.toNat (by omega))) rfl rfl rfl ?_
      refine w_lload_n rfl l1 rfl ?_
      refine w_l_ne (pc2 := 26) (pc3 := 24) rfl rfl (by decide) rfl (fun c21 => ?_) (fun c21 => ?_)
      · skip
        refine w_iinc rfl l3 (by decide) rfl ?_
        refine w_goto (pc2 := 2) rfl (by decide) ?_
        exact ih (i + 1) _ l0 l1 rfl (by omega) (by omega) (by rw [ie]; exact fi_next (by omega) (decide_eq_false (fun z => c21 (by rw [(ht.2.2.2.2.2 i i0 (by omega)).1.1]; exact z)))) (by omega)
      · skip
        refine w_iload_n rfl l3 rfl ?_
        refine w_iret rfl rfl ?_
        have e : fnx T x = i := by rw [ie]; exact fi_stop (by omega) (decide_eq_true (by rw [← (ht.2.2.2.2.2 i i0 (by omega)).1.1]; exact c21))
        exact q_i (by unfold fnd; rw [if_pos (by omega), e])
theorem c_find {sc : x_S} {d : Nat} {S : w_S} {pi : Nat → Nat} {T : List Mac} {x : Int64} (ht : ctab S pi T) (hd : 0 ≤ d) : w_T sc d 34 0 (x_en 0 [.ref 4, .long x]) [] S (fun v S2 => v = some (.int (iZ (fnd T x))) ∧ S2 = S) := by
  refine w_iconst rfl rfl ?_
  refine w_istore_n rfl (by decide) rfl ?_
  exact (c_find_c ht hd _) 0 _ rfl rfl rfl (by omega) (by omega) (by rfl) (Nat.lt_succ_self _)
