/-! Lines, parameters and bodies: what they are, and the class on them. -/
def tx (t : List Tok) (j : Int) : Int64 := (tkg t j).1
def tln (t : List Tok) (j : Int) : Int := (tkg t j).2.2.1
def tgl (t : List Tok) (j : Int) : Bool := (tkg t j).2.2.2
/-- the end of a line -/
def lnE (t : List Tok) (i : Int) : Int := fi (fun j => decide (¬ tln t j = tln t i)) t.length i
/-- does the word at i stand at a, a + 2 .. before it -/
def rpN (X : Int → Int64) (i : Int) : Nat → Int → Bool
  | 0, _ => false
  | m + 1, q => if q < i then decide (X q = X i) || rpN X i m (q + 2) else false
def rp (X : Int → Int64) (a i : Int) : Bool := rpN X i (i - a).toNat a
def peN (X : Int → Int64) (a e : Int) : Nat → Int → Int
  | 0, _ => -1
  | m + 1, i => if i + 1 < e then (if nam (X i) = false ∨ rp X a i = true then -1 else if X (i + 1) = 41 then i + 2 else if X (i + 1) = 44 then peN X a e m (i + 2) else -1) else -1
def pe (X : Int → Int64) (a e : Int) : Int := if a < e ∧ X a = 41 then a + 1 else peN X a e (e - a).toNat a
/-- the first wrong place of a body, or its end -/
def bdx (X : Int → Int64) (q e : Int) : Int := fi (fun k => decide (X k = 4515 ∧ (k = q ∨ k = e - 1 ∨ X (k + 1) = 4515))) e q
def bdy (X : Int → Int64) (q e : Int) : Bool := decide (e ≤ bdx X q e)
theorem rpN_0 {X : Int → Int64} {i q : Int} (m : Nat) (h : i ≤ q) : rpN X i m q = false := by
  cases m with
  | zero => rfl
  | succ m =>
    show (if q < i then _ else _) = _
    rw [if_neg (by omega)]
theorem rpN_s {X : Int → Int64} {i q : Int} (m : Nat) (h : q < i) : rpN X i (m + 1) q = (decide (X q = X i) || rpN X i m (q + 2)) := by
  show (if q < i then _ else _) = _
  rw [if_pos h]
theorem rpN_m {X : Int → Int64} {i : Int} : ∀ (m n : Nat) (q : Int), (i - q).toNat ≤ m → (i - q).toNat ≤ n → rpN X i m q = rpN X i n q
  | 0, n, q, h1, h2 => by rw [rpN_0 0 (by omega), rpN_0 n (by omega)]
  | m + 1, 0, q, h1, h2 => by rw [rpN_0 0 (by omega), rpN_0 (m + 1) (by omega)]
  | m + 1, n + 1, q, h1, h2 => by
    by_cases h : q < i
    · rw [rpN_s m h, rpN_s n h, rpN_m m n (q + 2) (by omega) (by omega)]
    · rw [rpN_0 _ (by omega), rpN_0 _ (by omega)]
theorem peN_0 {X : Int → Int64} {a e i : Int} (m : Nat) (h : e ≤ i + 1) : peN X a e m i = -1 := by
  cases m with
  | zero => rfl
  | succ m =>
    show (if i + 1 < e then _ else _) = _
    rw [if_neg (by omega)]
theorem peN_s {X : Int → Int64} {a e i : Int} (m : Nat) (h : i + 1 < e) : peN X a e (m + 1) i = (if nam (X i) = false ∨ rp X a i = true then -1 else if X (i + 1) = 41 then i + 2 else if X (i + 1) = 44 then peN X a e m (i + 2) else -1) := by
  show (if i + 1 < e then _ else _) = _
  rw [if_pos h]
theorem peN_m {X : Int → Int64} {a e : Int} : ∀ (m n : Nat) (i : Int), (e - i).toNat ≤ m → (e - i).toNat ≤ n → peN X a e m i = peN X a e n i
  | 0, n, q, h1, h2 => by rw [peN_0 0 (by omega), peN_0 n (by omega)]
  | m + 1, 0, q, h1, h2 => by rw [peN_0 0 (by omega), peN_0 (m + 1) (by omega)]
  | m + 1, n + 1, q, h1, h2 => by
    by_cases h : q + 1 < e
    · rw [peN_s m h, peN_s n h, peN_m m n (q + 2) (by omega) (by omega)]
    · rw [peN_0 _ (by omega), peN_0 _ (by omega)]
theorem peN_r {X : Int → Int64} {a e : Int} : ∀ (m : Nat) (i : Int), a ≤ i → (peN X a e m i = -1 ∨ (i + 2 ≤ peN X a e m i ∧ peN X a e m i ≤ e ∧ (peN X a e m i - i) % 2 = 0))
  | 0, i, h => Or.inl rfl
  | m + 1, i, h => by
    by_cases h1 : i + 1 < e
    · rw [peN_s m h1]
      split
      · exact Or.inl rfl
      · split
        · exact Or.inr ⟨by omega, by omega, by omega⟩
        · split
          · rcases peN_r (X := X) (a := a) (e := e) m (i + 2) (by omega) with z | z
            · exact Or.inl z
            · exact Or.inr ⟨by omega, by omega, by omega⟩
          · exact Or.inl rfl
    · exact Or.inl (peN_0 _ (by omega))
theorem pe_r {X : Int → Int64} {a e : Int} : pe X a e = -1 ∨ (a + 1 ≤ pe X a e ∧ pe X a e ≤ e) := by
  unfold pe
  split
  · exact Or.inr ⟨by omega, by omega⟩
  · rcases peN_r (X := X) (a := a) (e := e) (e - a).toNat a (Int.le_refl _) with z | z
    · exact Or.inl z
    · exact Or.inr ⟨by omega, by omega⟩
theorem lnE_r {t : List Tok} {i : Int} (h0 : 0 ≤ i) (h : i < t.length) : i + 1 ≤ lnE t i ∧ lnE t i ≤ t.length := by
  unfold lnE
  rw [fi_next (by omega) (by simp)]
  exact fi_r (by omega)
theorem c_lend_c {sc : x_S} {d : Nat} {S : w_S} {l : Nat} {t : List Tok} {a : Int} (hl : l < 4) (hs : srep S l t) (hto : tkok t) (ht6 : t.length ≤ 160) (hln : ∀ j : Int, 0 ≤ j → j < t.length → 0 ≤ tln t j ∧ tln t j ≤ 4000) (a0 : 0 ≤ a) (a1 : a < t.length) (hd : 0 ≤ d) : ∀ n : Nat, (∀ (i : Int) (lv : x_L) (l0 : lv 0 = some (.ref (202 + 8 * l))) (l1 : lv 1 = some (.int (iZ a))) (l2 : lv 2 = some (.int (iZ i))) (i0 : a ≤ i) (i1 : i ≤ t.length) (ie : lnE t a = fi (fun j => decide (¬ tln t j = tln t a)) t.length i) (hm : (t.length - i).toNat < n), w_T sc d 88 2 lv [] S (fun v S2 => v = some (.int (iZ (lnE t a))) ∧ S2 = S)) := by
  intro n
  induction n with
  | zero => exact fun i lv l0 l1 l2 i0 i1 ie hm => absurd hm (Nat.not_lt_zero _)
  | succ n ih =>
    intro i lv l0 l1 l2 i0 i1 ie hm
    refine w_iload_n rfl l2 rfl ?_
    refine w_aload_n rfl l0 rfl ?_
    refine w_getR rfl rfl (sh_src hl) rfl rfl ?_
    refine w_getI (z := (t.length : Int)) rfl rfl (sh_srow hl).1 rfl hs.1 rfl ?_
    refine w_ic_ge (pc2 := 34) (pc3 := 13) rfl (by decide) rfl ⟨by omega, by omega⟩ ⟨by omega, by omega⟩ (fun c10 => ?_) (fun c10 => ?_)
    · skip
      refine w_iload_n rfl l2 rfl ?_
      refine w_iret rfl rfl ?_
      refine q_i ?_
      rw [ie]
      first
        | rw [fi_end (by omega)]
        | rw [fi_stop (by omega) (by simpa using c25)]
    · skip
      refine w_aload_n rfl l0 rfl ?_
      refine w_getR rfl rfl (sh_src hl) rfl rfl ?_
      refine w_iload_n rfl l2 rfl ?_
      refine w_iald (z := tln t i) rfl (sh_src4 hl) (by omega) (by omega) (by decide) (hs.2 _ (by omega) (by omega)).2.2.1 rfl ?_
      refine w_aload_n rfl l0 rfl ?_
      refine w_getR rfl rfl (sh_src hl) rfl rfl ?_
      refine w_iload_n rfl l1 rfl ?_
      refine w_iald (z := tln t a) rfl (sh_src4 hl) (by omega) (by omega) (by decide) (hs.2 _ (by omega) (by omega)).2.2.1 rfl ?_
      have hn1 := hln i (by omega) (by omega)
      have hn2 := hln a (by omega) (by omega)
      refine w_ic_ne (pc2 := 34) (pc3 := 28) rfl (by decide) rfl ⟨by omega, by omega⟩ ⟨by omega, by omega⟩ (fun c25 => ?_) (fun c25 => ?_)
      · skip
        refine w_iload_n rfl l2 rfl ?_
        refine w_iret rfl rfl ?_
        refine q_i ?_
        rw [ie]
        first
          | rw [fi_end (by omega)]
          | rw [fi_stop (by omega) (by simpa using c25)]
      · skip
        refine w_iinc rfl l2 (by decide) rfl ?_
        refine w_goto (pc2 := 2) rfl (by decide) ?_
        exact ih (i + 1) _ (by exact l0) (by exact (congrArg x_k2 l1)) (by exact rfl) (by omega) (by omega) (by rw [ie, fi_next (by omega) (by simpa using c25)]) (by omega)
theorem c_lend {sc : x_S} {d : Nat} {S : w_S} {l : Nat} {t : List Tok} {a : Int} (hl : l < 4) (hs : srep S l t) (hto : tkok t) (ht6 : t.length ≤ 160) (hln : ∀ j : Int, 0 ≤ j → j < t.length → 0 ≤ tln t j ∧ tln t j ≤ 4000) (a0 : 0 ≤ a) (a1 : a < t.length) (hd : 0 ≤ d) : w_T sc d 88 0 (x_en 0 [.ref (202 + 8 * l), .int (iZ a)]) [] S (fun v S2 => v = some (.int (iZ (lnE t a))) ∧ S2 = S) := by
  refine w_iload_n rfl rfl rfl ?_
  refine w_istore_n rfl (by decide) rfl ?_
  exact (c_lend_c hl hs hto ht6 hln a0 a1 hd _) a _ rfl rfl rfl (by omega) (by omega) (by rfl) (Nat.lt_succ_self _)
theorem c_rep_c {sc : x_S} {d : Nat} {S : w_S} {l : Nat} {t : List Tok} {a b : Int} (hl : l < 4) (hs : srep S l t) (hto : tkok t) (ht6 : t.length ≤ 160) (a0 : 0 ≤ a) (a2 : a ≤ 200) (b0 : 0 ≤ b) (b1 : b < t.length) (hd : 0 ≤ d) : ∀ n : Nat, (∀ (i : Int) (lv : x_L) (l0 : lv 0 = some (.ref (203 + 8 * l))) (l1 : lv 1 = some (.int (iZ a))) (l2 : lv 2 = some (.int (iZ b))) (l3 : lv 3 = some (.int (iZ i))) (i0 : a ≤ i) (i1 : i ≤ 400) (i2 : i ≤ 200 ∨ i ≤ b + 2) (ie : rp (tx t) a b = rpN (tx t) b (b - i).toNat i) (hm : (b - i).toNat < n), w_T sc d 72 2 lv [] S (fun v S2 => v = some (.int (iZ (zB (rp (tx t) a b)))) ∧ S2 = S)) := by
  intro n
  induction n with
  | zero => exact fun i lv l0 l1 l2 l3 i0 i1 i2 ie hm => absurd hm (Nat.not_lt_zero _)
  | succ n ih =>
    intro i lv l0 l1 l2 l3 i0 i1 i2 ie hm
    refine w_iload_n rfl l3 rfl ?_
    refine w_iload_n rfl l2 rfl ?_
    refine w_ic_ge (pc2 := 31) (pc3 := 7) rfl (by decide) rfl ⟨by omega, by omega⟩ ⟨by omega, by omega⟩ (fun c4 => ?_) (fun c4 => ?_)
    · skip
      refine w_iconst rfl rfl ?_
      refine w_zret rfl rfl (by decide) ?_
      refine q_i ?_
      rw [ie, rpN_0 _ (by omega)]
      rfl
    · skip
      refine w_aload_n rfl l0 rfl ?_
      refine w_getR rfl rfl (sh_srow hl).1 rfl rfl ?_
      refine w_iload_n rfl l3 rfl ?_
      refine w_lald (z := tx t i) rfl (sh_srow hl).2.1 (by omega) (by omega) (by decide) (hs.2 _ (by omega) (by omega)).1 rfl ?_
      refine w_aload_n rfl l0 rfl ?_
      refine w_getR rfl rfl (sh_srow hl).1 rfl rfl ?_
      refine w_iload_n rfl l2 rfl ?_
      refine w_lald (z := tx t b) rfl (sh_srow hl).2.1 (by omega) (by omega) (by decide) (hs.2 _ (by omega) (by omega)).1 rfl ?_
      refine w_l_ne (pc2 := 25) (pc3 := 23) rfl rfl (by decide) rfl (fun c20 => ?_) (fun c20 => ?_)
      · skip
        refine w_iinc rfl l3 (by decide) rfl ?_
        refine w_goto (pc2 := 2) rfl (by decide) ?_
        exact ih (i + 2) _ (by exact l0) (by exact l1) (by exact (congrArg x_k2 l2)) (by exact rfl) (by omega) (by omega) (by omega) (by rw [ie, show (b - i).toNat = ((b - i).toNat - 1) + 1 by omega, rpN_s _ (by omega), decide_eq_false c20, Bool.false_or]; exact rpN_m _ _ _ (by omega) (by omega)) (by omega)
      · skip
        refine w_iconst rfl rfl ?_
        refine w_zret rfl rfl (by decide) ?_
        refine q_i ?_
        rw [ie, show (b - i).toNat = ((b - i).toNat - 1) + 1 by omega, rpN_s _ (by omega), decide_eq_true c20, Bool.true_or]
        rfl
theorem c_rep {sc : x_S} {d : Nat} {S : w_S} {l : Nat} {t : List Tok} {a b : Int} (hl : l < 4) (hs : srep S l t) (hto : tkok t) (ht6 : t.length ≤ 160) (a0 : 0 ≤ a) (a2 : a ≤ 200) (b0 : 0 ≤ b) (b1 : b < t.length) (hd : 0 ≤ d) : w_T sc d 72 0 (x_en 0 [.ref (203 + 8 * l), .int (iZ a), .int (iZ b)]) [] S (fun v S2 => v = some (.int (iZ (zB (rp (tx t) a b)))) ∧ S2 = S) := by
  refine w_iload_n rfl rfl rfl ?_
  refine w_istore_n rfl (by decide) rfl ?_
  exact (c_rep_c hl hs hto ht6 a0 a2 b0 b1 hd _) a _ rfl rfl rfl rfl (by omega) (by omega) (by omega) (by rfl) (Nat.lt_succ_self _)
theorem c_pe_c {sc : x_S} {d : Nat} {S : w_S} {l : Nat} {t : List Tok} {a b : Int} (hl : l < 4) (hs : srep S l t) (hto : tkok t) (ht6 : t.length ≤ 160) (a0 : 0 ≤ a) (a2 : a ≤ 200) (b0 : 0 ≤ b) (b1 : b ≤ t.length) (hd : 2 ≤ d) : ∀ n : Nat, (∀ (i : Int) (lv : x_L) (l0 : lv 0 = some (.ref (203 + 8 * l))) (l1 : lv 1 = some (.int (iZ a))) (l2 : lv 2 = some (.int (iZ b))) (l3 : lv 3 = some (.int (iZ i))) (i0 : a ≤ i) (i1 : i ≤ 400) (i2 : i ≤ 200 ∨ i ≤ b + 2) (ie : pe (tx t) a b = peN (tx t) a b (b - i).toNat i) (hm : (b - i).toNat < n), w_T sc d 71 24 lv [] S (fun v S2 => v = some (.int (iZ (pe (tx t) a b))) ∧ S2 = S)) := by
  intro n
  induction n with
  | zero => exact fun i lv l0 l1 l2 l3 i0 i1 i2 ie hm => absurd hm (Nat.not_lt_zero _)
  | succ n ih =>
    intro i lv l0 l1 l2 l3 i0 i1 i2 ie hm
    refine w_iload_n rfl l3 rfl ?_
    refine w_iconst rfl rfl ?_
    refine w_iadd rfl rfl ?_
    refine w_iload_n rfl l2 rfl ?_
    refine w_ic_ge (pc2 := 96) (pc3 := 31) rfl (by decide) rfl ⟨by omega, by omega⟩ ⟨by omega, by omega⟩ (fun c28 => ?_) (fun c28 => ?_)
    · skip
      refine w_iconst rfl rfl ?_
      refine w_iret rfl rfl ?_
      refine q_i ?_
      rw [ie, peN_0 _ (by omega)]
    · skip
      refine w_aload_n rfl l0 rfl ?_
      refine w_getR rfl rfl (sh_srow hl).1 rfl rfl ?_
      refine w_iload_n rfl l3 rfl ?_
      refine w_lald (z := tx t i) rfl (sh_srow hl).2.1 (by omega) (by omega) (by decide) (hs.2 _ (by omega) (by omega)).1 rfl ?_
      refine w_CS (as := [.long (tx t i)]) (r := []) rfl rfl rfl rfl (Nat.le_of_ble_eq_true rfl) (Nat.le_of_ble_eq_true rfl) (by omega) rfl (c_nam (x := tx t i) (hto _ (by omega) (by omega)).1 (by omega)) ?_
      rintro _ _ ⟨rfl, hS⟩
      rw [hS]
      show w_T _ _ 71 40 _ [.int (iZ (zB (nam (tx t i))))] _ _
      refine w_b_eq (pc2 := 52) (pc3 := 43) rfl (by decide) rfl (fun c40 => ?_) (fun c40 => ?_)
      · skip
        refine w_iconst rfl rfl ?_
        refine w_iret rfl rfl ?_
        refine q_i ?_
        rw [ie, show (b - i).toNat = ((b - i).toNat - 1) + 1 by omega, peN_s _ (by omega), if_pos (by first | exact Or.inl c40 | exact Or.inr c49)]
      · skip
        refine w_aload_n rfl l0 rfl ?_
        refine w_iload_n rfl l1 rfl ?_
        refine w_iload_n rfl l3 rfl ?_
        refine w_CS (as := [.ref (203 + 8 * l), .int (iZ a), .int (iZ i)]) (r := []) rfl rfl rfl rfl (Nat.le_of_ble_eq_true rfl) (Nat.le_of_ble_eq_true rfl) (by omega) rfl (c_rep (l := l) (t := t) (a := a) (b := i) hl hs hto ht6 (by omega) (by omega) (by omega) (by omega) (by omega)) ?_
        rintro _ _ ⟨rfl, hS⟩
        rw [hS]
        show w_T _ _ 71 49 _ [.int (iZ (zB (rp (tx t) a i)))] _ _
        refine w_b_eq (pc2 := 54) (pc3 := 52) rfl (by decide) rfl (fun c49 => ?_) (fun c49 => ?_)
        · skip
          refine w_aload_n rfl l0 rfl ?_
          refine w_getR rfl rfl (sh_srow hl).1 rfl rfl ?_
          refine w_iload_n rfl l3 rfl ?_
          refine w_iconst rfl rfl ?_
          refine w_iadd rfl rfl ?_
          refine w_lald (z := tx t (i + 1)) rfl (sh_srow hl).2.1 (by omega) (by omega) (by decide) (hs.2 _ (by omega) (by omega)).1 rfl ?_
          refine w_ldc2 (v := 41) rfl rfl rfl ?_
          refine w_l_ne (pc2 := 73) (pc3 := 69) rfl rfl (by decide) rfl (fun c66 => ?_) (fun c66 => ?_)
          · skip
            refine w_aload_n rfl l0 rfl ?_
            refine w_getR rfl rfl (sh_srow hl).1 rfl rfl ?_
            refine w_iload_n rfl l3 rfl ?_
            refine w_iconst rfl rfl ?_
            refine w_iadd rfl rfl ?_
            refine w_lald (z := tx t (i + 1)) rfl (sh_srow hl).2.1 (by omega) (by omega) (by decide) (hs.2 _ (by omega) (by omega)).1 rfl ?_
            refine w_ldc2 (v := 44) rfl rfl rfl ?_
            refine w_l_eq (pc2 := 90) (pc3 := 88) rfl rfl (by decide) rfl (fun c85 => ?_) (fun c85 => ?_)
            · skip
              refine w_iinc rfl l3 (by decide) rfl ?_
              refine w_goto (pc2 := 24) rfl (by decide) ?_
              exact ih (i + 2) _ (by exact l0) (by exact l1) (by exact (congrArg x_k2 l2)) (by exact rfl) (by omega) (by omega) (by omega) (by rw [ie, show (b - i).toNat = ((b - i).toNat - 1) + 1 by omega, peN_s _ (by omega), if_neg (by rw [c40, c49]; decide), if_neg c66, if_pos c85]; exact peN_m _ _ _ (by omega) (by omega)) (by omega)
            · skip
              refine w_iconst rfl rfl ?_
              refine w_iret rfl rfl ?_
              refine q_i ?_
              rw [ie, show (b - i).toNat = ((b - i).toNat - 1) + 1 by omega, peN_s _ (by omega), if_neg (by rw [c40, c49]; decide), if_neg c66, if_neg c85]
          · skip
            refine w_iload_n rfl l3 rfl ?_
            refine w_iconst rfl rfl ?_
            refine w_iadd rfl rfl ?_
            refine w_iret rfl rfl ?_
            refine q_i ?_
            rw [ie, show (b - i).toNat = ((b - i).toNat - 1) + 1 by omega, peN_s _ (by omega), if_neg (by rw [c40, c49]; decide), if_pos c66]
        · skip
          refine w_iconst rfl rfl ?_
          refine w_iret rfl rfl ?_
          refine q_i ?_
          rw [ie, show (b - i).toNat = ((b - i).toNat - 1) + 1 by omega, peN_s _ (by omega), if_pos (by first | exact Or.inl c40 | exact Or.inr c49)]
theorem c_pe {sc : x_S} {d : Nat} {S : w_S} {l : Nat} {t : List Tok} {a b : Int} (hl : l < 4) (hs : srep S l t) (hto : tkok t) (ht6 : t.length ≤ 160) (a0 : 0 ≤ a) (a2 : a ≤ 200) (b0 : 0 ≤ b) (b1 : b ≤ t.length) (hd : 2 ≤ d) : w_T sc d 71 0 (x_en 0 [.ref (203 + 8 * l), .int (iZ a), .int (iZ b)]) [] S (fun v S2 => v = some (.int (iZ (pe (tx t) a b))) ∧ S2 = S) := by
  refine w_iload_n rfl rfl rfl ?_
  refine w_iload_n rfl rfl rfl ?_
  refine w_ic_ge (pc2 := 22) (pc3 := 5) rfl (by decide) rfl ⟨by omega, by omega⟩ ⟨by omega, by omega⟩ (fun c2 => ?_) (fun c2 => ?_)
  · skip
    refine w_iload_n rfl rfl rfl ?_
    refine w_istore_n rfl (by decide) rfl ?_
    exact (c_pe_c hl hs hto ht6 a0 a2 b0 b1 hd _) a _ rfl rfl rfl rfl (by omega) (by omega) (by omega) (by unfold pe; rw [if_neg (by first | omega | exact fun q => c15 q.2)]) (Nat.lt_succ_self _)
  · skip
    refine w_aload_n rfl rfl rfl ?_
    refine w_getR rfl rfl (sh_srow hl).1 rfl rfl ?_
    refine w_iload_n rfl rfl rfl ?_
    refine w_lald (z := tx t a) rfl (sh_srow hl).2.1 (by omega) (by omega) (by decide) (hs.2 _ (by omega) (by omega)).1 rfl ?_
    refine w_ldc2 (v := 41) rfl rfl rfl ?_
    refine w_l_ne (pc2 := 22) (pc3 := 18) rfl rfl (by decide) rfl (fun c15 => ?_) (fun c15 => ?_)
    · skip
      refine w_iload_n rfl rfl rfl ?_
      refine w_istore_n rfl (by decide) rfl ?_
      exact (c_pe_c hl hs hto ht6 a0 a2 b0 b1 hd _) a _ rfl rfl rfl rfl (by omega) (by omega) (by omega) (by unfold pe; rw [if_neg (by first | omega | exact fun q => c15 q.2)]) (Nat.lt_succ_self _)
    · skip
      refine w_iload_n rfl rfl rfl ?_
      refine w_iconst rfl rfl ?_
      refine w_iadd rfl rfl ?_
      refine w_iret rfl rfl ?_
      refine q_i ?_
      unfold pe
      rw [if_pos ⟨by omega, c15⟩]
theorem c_bdy_c {sc : x_S} {d : Nat} {S : w_S} {l : Nat} {t : List Tok} {a b : Int} (hl : l < 4) (hs : srep S l t) (hto : tkok t) (ht6 : t.length ≤ 160) (a0 : 0 ≤ a) (b1 : b ≤ t.length) (ab : a ≤ b) (hd : 0 ≤ d) : ∀ n : Nat, (∀ (i : Int) (lv : x_L) (l0 : lv 0 = some (.ref (203 + 8 * l))) (l1 : lv 1 = some (.int (iZ a))) (l2 : lv 2 = some (.int (iZ b))) (l3 : lv 3 = some (.int (iZ i))) (i0 : a ≤ i) (i1 : i ≤ b) (ie : bdx (tx t) a b = fi (fun k => decide (tx t k = 4515 ∧ (k = a ∨ k = b - 1 ∨ tx t (k + 1) = 4515))) b i) (hm : (b - i).toNat < n), w_T sc d 73 2 lv [] S (fun v S2 => v = some (.int (iZ (zB (bdy (tx t) a b)))) ∧ S2 = S)) := by
  intro n
  induction n with
  | zero => exact fun i lv l0 l1 l2 l3 i0 i1 ie hm => absurd hm (Nat.not_lt_zero _)
  | succ n ih =>
    intro i lv l0 l1 l2 l3 i0 i1 ie hm
    refine w_iload_n rfl l3 rfl ?_
    refine w_iload_n rfl l2 rfl ?_
    refine w_ic_ge (pc2 := 79) (pc3 := 7) rfl (by decide) rfl ⟨by omega, by omega⟩ ⟨by omega, by omega⟩ (fun c4 => ?_) (fun c4 => ?_)
    · skip
      refine w_iconst rfl rfl ?_
      refine w_zret rfl rfl (by decide) ?_
      refine q_i ?_
      unfold bdy
      rw [ie, fi_end (by omega), decide_eq_true (by omega)]
      rfl
    · skip
      refine w_iload_n rfl l3 rfl ?_
      refine w_iload_n rfl l1 rfl ?_
      refine w_ic_eq (pc2 := 19) (pc3 := 12) rfl (by decide) rfl ⟨by omega, by omega⟩ ⟨by omega, by omega⟩ (fun c9 => ?_) (fun c9 => ?_)
      · skip
        refine w_iconst rfl rfl ?_
        refine w_goto (pc2 := 24) rfl (by decide) ?_
        refine w_istore rfl (by decide) rfl ?_
        refine w_aload_n rfl l0 rfl ?_
        refine w_getR rfl rfl (sh_srow hl).1 rfl rfl ?_
        refine w_iload_n rfl (congrArg x_k2 l3) rfl ?_
        refine w_lald (z := tx t i) rfl (sh_srow hl).2.1 (by omega) (by omega) (by decide) (hs.2 _ (by omega) (by omega)).1 rfl ?_
        refine w_ldc2 (v := 4515) rfl rfl rfl ?_
        refine w_l_ne (pc2 := 43) (pc3 := 39) rfl rfl (by decide) rfl (fun c36 => ?_) (fun c36 => ?_)
        · skip
          refine w_iconst rfl rfl ?_
          refine w_istore rfl (by decide) rfl ?_
          refine w_iload rfl rfl rfl ?_
          refine w_if_eq (pc2 := 73) (pc3 := 51) rfl (by decide) rfl ⟨by decide, by decide⟩ (fun _ => ?_) (fun hc => absurd hc (by decide))
          refine w_iinc rfl (congrArg x_k2 l3) (by decide) rfl ?_
          refine w_goto (pc2 := 2) rfl (by decide) ?_
          exact ih (i + 1) _ (by exact l0) (by exact l1) (by exact (congrArg x_k2 l2)) (by exact rfl) (by omega) (by omega) (by rw [ie, fi_next (by omega) (by first | exact decide_eq_false (fun q => c36 q.1) | exact decide_eq_false (fun q => by rcases q.2 with z | z | z <;> first | omega | exact c68 z))]) (by omega)
        · skip
          refine w_iconst rfl rfl ?_
          refine w_goto (pc2 := 44) rfl (by decide) ?_
          refine w_istore rfl (by decide) rfl ?_
          refine w_iload rfl rfl rfl ?_
          refine w_if_eq (pc2 := 73) (pc3 := 51) rfl (by decide) rfl ⟨by decide, by decide⟩ (fun hc => absurd hc (by decide)) (fun _ => ?_)
          refine w_iload rfl rfl rfl ?_
          refine w_if_ne (pc2 := 71) (pc3 := 56) rfl (by decide) rfl ⟨by decide, by decide⟩ (fun _ => ?_) (fun hc => absurd hc (by decide))
          refine w_iconst rfl rfl ?_
          refine w_zret rfl rfl (by decide) ?_
          refine q_i ?_
          unfold bdy
          rw [ie, fi_stop (by omega) (by first | exact decide_eq_true ⟨c36, by omega⟩ | exact decide_eq_true ⟨c36, Or.inr (Or.inr c68)⟩), decide_eq_false (by omega)]
          rfl
      · skip
        refine w_iload_n rfl l3 rfl ?_
        refine w_iload_n rfl l2 rfl ?_
        refine w_iconst rfl rfl ?_
        refine w_isub rfl rfl ?_
        refine w_ic_ne (pc2 := 23) (pc3 := 19) rfl (by decide) rfl ⟨by omega, by omega⟩ ⟨by omega, by omega⟩ (fun c16 => ?_) (fun c16 => ?_)
        · skip
          refine w_iconst rfl rfl ?_
          refine w_istore rfl (by decide) rfl ?_
          refine w_aload_n rfl l0 rfl ?_
          refine w_getR rfl rfl (sh_srow hl).1 rfl rfl ?_
          refine w_iload_n rfl (congrArg x_k2 l3) rfl ?_
          refine w_lald (z := tx t i) rfl (sh_srow hl).2.1 (by omega) (by omega) (by decide) (hs.2 _ (by omega) (by omega)).1 rfl ?_
          refine w_ldc2 (v := 4515) rfl rfl rfl ?_
          refine w_l_ne (pc2 := 43) (pc3 := 39) rfl rfl (by decide) rfl (fun c36 => ?_) (fun c36 => ?_)
          · skip
            refine w_iconst rfl rfl ?_
            refine w_istore rfl (by decide) rfl ?_
            refine w_iload rfl rfl rfl ?_
            refine w_if_eq (pc2 := 73) (pc3 := 51) rfl (by decide) rfl ⟨by decide, by decide⟩ (fun _ => ?_) (fun hc => absurd hc (by decide))
            refine w_iinc rfl (congrArg x_k2 l3) (by decide) rfl ?_
            refine w_goto (pc2 := 2) rfl (by decide) ?_
            exact ih (i + 1) _ (by exact l0) (by exact l1) (by exact (congrArg x_k2 l2)) (by exact rfl) (by omega) (by omega) (by rw [ie, fi_next (by omega) (by first | exact decide_eq_false (fun q => c36 q.1) | exact decide_eq_false (fun q => by rcases q.2 with z | z | z <;> first | omega | exact c68 z))]) (by omega)
          · skip
            refine w_iconst rfl rfl ?_
            refine w_goto (pc2 := 44) rfl (by decide) ?_
            refine w_istore rfl (by decide) rfl ?_
            refine w_iload rfl rfl rfl ?_
            refine w_if_eq (pc2 := 73) (pc3 := 51) rfl (by decide) rfl ⟨by decide, by decide⟩ (fun hc => absurd hc (by decide)) (fun _ => ?_)
            refine w_iload rfl rfl rfl ?_
            refine w_if_ne (pc2 := 71) (pc3 := 56) rfl (by decide) rfl ⟨by decide, by decide⟩ (fun hc => absurd hc (by decide)) (fun _ => ?_)
            refine w_aload_n rfl l0 rfl ?_
            refine w_getR rfl rfl (sh_srow hl).1 rfl rfl ?_
            refine w_iload_n rfl (congrArg x_k2 l3) rfl ?_
            refine w_iconst rfl rfl ?_
            refine w_iadd rfl rfl ?_
            refine w_lald (z := tx t (i + 1)) rfl (sh_srow hl).2.1 (by omega) (by omega) (by decide) (hs.2 _ (by omega) (by omega)).1 rfl ?_
            refine w_ldc2 (v := 4515) rfl rfl rfl ?_
            refine w_l_ne (pc2 := 73) (pc3 := 71) rfl rfl (by decide) rfl (fun c68 => ?_) (fun c68 => ?_)
            · skip
              refine w_iinc rfl (congrArg x_k2 l3) (by decide) rfl ?_
              refine w_goto (pc2 := 2) rfl (by decide) ?_
              exact ih (i + 1) _ (by exact l0) (by exact l1) (by exact (congrArg x_k2 l2)) (by exact rfl) (by omega) (by omega) (by rw [ie, fi_next (by omega) (by first | exact decide_eq_false (fun q => c36 q.1) | exact decide_eq_false (fun q => by rcases q.2 with z | z | z <;> first | omega | exact c68 z))]) (by omega)
            · skip
              refine w_iconst rfl rfl ?_
              refine w_zret rfl rfl (by decide) ?_
              refine q_i ?_
              unfold bdy
              rw [ie, fi_stop (by omega) (by first | exact decide_eq_true ⟨c36, by omega⟩ | exact decide_eq_true ⟨c36, Or.inr (Or.inr c68)⟩), decide_eq_false (by omega)]
              rfl
        · skip
          refine w_iconst rfl rfl ?_
          refine w_goto (pc2 := 24) rfl (by decide) ?_
          refine w_istore rfl (by decide) rfl ?_
          refine w_aload_n rfl l0 rfl ?_
          refine w_getR rfl rfl (sh_srow hl).1 rfl rfl ?_
          refine w_iload_n rfl (congrArg x_k2 l3) rfl ?_
          refine w_lald (z := tx t i) rfl (sh_srow hl).2.1 (by omega) (by omega) (by decide) (hs.2 _ (by omega) (by omega)).1 rfl ?_
          refine w_ldc2 (v := 4515) rfl rfl rfl ?_
          refine w_l_ne (pc2 := 43) (pc3 := 39) rfl rfl (by decide) rfl (fun c36 => ?_) (fun c36 => ?_)
          · skip
            refine w_iconst rfl rfl ?_
            refine w_istore rfl (by decide) rfl ?_
            refine w_iload rfl rfl rfl ?_
            refine w_if_eq (pc2 := 73) (pc3 := 51) rfl (by decide) rfl ⟨by decide, by decide⟩ (fun _ => ?_) (fun hc => absurd hc (by decide))
            refine w_iinc rfl (congrArg x_k2 l3) (by decide) rfl ?_
            refine w_goto (pc2 := 2) rfl (by decide) ?_
            exact ih (i + 1) _ (by exact l0) (by exact l1) (by exact (congrArg x_k2 l2)) (by exact rfl) (by omega) (by omega) (by rw [ie, fi_next (by omega) (by first | exact decide_eq_false (fun q => c36 q.1) | exact decide_eq_false (fun q => by rcases q.2 with z | z | z <;> first | omega | exact c68 z))]) (by omega)
          · skip
            refine w_iconst rfl rfl ?_
            refine w_goto (pc2 := 44) rfl (by decide) ?_
            refine w_istore rfl (by decide) rfl ?_
            refine w_iload rfl rfl rfl ?_
            refine w_if_eq (pc2 := 73) (pc3 := 51) rfl (by decide) rfl ⟨by decide, by decide⟩ (fun hc => absurd hc (by decide)) (fun _ => ?_)
            refine w_iload rfl rfl rfl ?_
            refine w_if_ne (pc2 := 71) (pc3 := 56) rfl (by decide) rfl ⟨by decide, by decide⟩ (fun _ => ?_) (fun hc => absurd hc (by decide))
            refine w_iconst rfl rfl ?_
            refine w_zret rfl rfl (by decide) ?_
            refine q_i ?_
            unfold bdy
            rw [ie, fi_stop (by omega) (by first | exact decide_eq_true ⟨c36, by omega⟩ | exact decide_eq_true ⟨c36, Or.inr (Or.inr c68)⟩), decide_eq_false (by omega)]
            rfl
theorem c_bdy {sc : x_S} {d : Nat} {S : w_S} {l : Nat} {t : List Tok} {a b : Int} (hl : l < 4) (hs : srep S l t) (hto : tkok t) (ht6 : t.length ≤ 160) (a0 : 0 ≤ a) (b1 : b ≤ t.length) (ab : a ≤ b) (hd : 0 ≤ d) : w_T sc d 73 0 (x_en 0 [.ref (203 + 8 * l), .int (iZ a), .int (iZ b)]) [] S (fun v S2 => v = some (.int (iZ (zB (bdy (tx t) a b)))) ∧ S2 = S) := by
  refine w_iload_n rfl rfl rfl ?_
  refine w_istore_n rfl (by decide) rfl ?_
  exact (c_bdy_c hl hs hto ht6 a0 b1 ab hd _) a _ rfl rfl rfl rfl (by omega) (by omega) (by rfl) (Nat.lt_succ_self _)
