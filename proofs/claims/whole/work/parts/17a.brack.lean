/-! Brackets. -/
def opn (y : Int64) : Bool := decide (y = 40 ∨ y = 91 ∨ y = 123)
def clo (y : Int64) : Bool := decide (y = 41 ∨ y = 93 ∨ y = 125)
def prb (o c : Int64) : Bool := decide ((o = 40 ∧ c = 41) ∨ (o = 91 ∧ c = 93) ∨ (o = 123 ∧ c = 125))
def skS (Y : Int → Int64) (k : Int) (st : List Int) : Option (List Int) := if opn (Y k) = true then some (k :: st) else if clo (Y k) = true then (match st with
  | [] => none
  | j :: r => if prb (Y j) (Y k) = true then some r else none) else some st
def sk (Y : Int → Int64) : Nat → Int → List Int → Option (List Int)
  | 0, _, st => some st
  | m + 1, k, st => (skS Y k st).bind (sk Y m (k + 1))
theorem sk_cat (Y : Int → Int64) : ∀ (m1 m2 : Nat) (k : Int) (st : List Int), sk Y (m1 + m2) k st = (sk Y m1 k st).bind (sk Y m2 (k + m1))
  | 0, m2, k, st => by
    rw [Nat.zero_add, show k + ((0 : Nat) : Int) = k by omega]
    rfl
  | m1 + 1, m2, k, st => by
    rw [show m1 + 1 + m2 = (m1 + m2) + 1 by omega]
    show (skS Y k st).bind (sk Y (m1 + m2) (k + 1)) = ((skS Y k st).bind (sk Y m1 (k + 1))).bind _
    cases skS Y k st with
    | none => rfl
    | some s =>
      show sk Y (m1 + m2) (k + 1) s = (sk Y m1 (k + 1) s).bind _
      rw [sk_cat Y m1 m2 (k + 1) s, show k + 1 + (m1 : Int) = k + ((m1 + 1 : Nat) : Int) by omega]
theorem skS_app {Y : Int → Int64} {k : Int} {st s t : List Int} (h : skS Y k st = some s) : skS Y k (st ++ t) = some (s ++ t) := by
  unfold skS at h ⊢
  by_cases c : opn (Y k) = true
  · rw [if_pos c] at h ⊢
    cases h
    rfl
  · rw [if_neg c] at h ⊢
    by_cases c2 : clo (Y k) = true
    · rw [if_pos c2] at h ⊢
      cases st with
      | nil => exact nns h
      | cons j r =>
        have h : (if prb (Y j) (Y k) = true then some r else none) = some s := h
        show (if prb (Y j) (Y k) = true then some (r ++ t) else none) = some (s ++ t)
        by_cases c3 : prb (Y j) (Y k) = true
        · rw [if_pos c3] at h ⊢
          cases h
          rfl
        · rw [if_neg c3] at h
          exact nns h
    · rw [if_neg c2] at h ⊢
      cases h
      rfl
theorem sk_app {Y : Int → Int64} : ∀ (m : Nat) (k : Int) (st s t : List Int), sk Y m k st = some s → sk Y m k (st ++ t) = some (s ++ t)
  | 0, k, st, s, t, h => by
    cases h
    rfl
  | m + 1, k, st, s, t, h => by
    obtain ⟨q, hq, h2⟩ := bind_some h
    show (skS Y k (st ++ t)).bind _ = _
    rw [skS_app hq]
    exact sk_app m (k + 1) q s t h2
def bal (Y : Int → Int64) (x y : Int) : Prop := x ≤ y ∧ sk Y (y - x).toNat x [] = some []
theorem bal_sk {Y : Int → Int64} {x y : Int} (h : bal Y x y) (t : List Int) : sk Y (y - x).toNat x t = some t := sk_app _ x [] [] t h.2
theorem bal_0 (Y : Int → Int64) (x : Int) : bal Y x x := ⟨Int.le_refl _, by rw [Int.sub_self]; rfl⟩
theorem bal_cat {Y : Int → Int64} {x y z : Int} (h1 : bal Y x y) (h2 : bal Y y z) : bal Y x z := by
  have a1 := h1.1
  have a2 := h2.1
  refine ⟨by omega, ?_⟩
  rw [show (z - x).toNat = (y - x).toNat + (z - y).toNat by omega, sk_cat, h1.2]
  show sk Y (z - y).toNat (x + ((y - x).toNat : Int)) [] = some []
  rw [show x + ((y - x).toNat : Int) = y by omega]
  exact h2.2
theorem skS_pl {Y : Int → Int64} {k : Int} {st : List Int} (h1 : opn (Y k) = false) (h2 : clo (Y k) = false) : skS Y k st = some st := by
  unfold skS
  rw [if_neg (by rw [h1]; decide), if_neg (by rw [h2]; decide)]
theorem bal_1 {Y : Int → Int64} {k : Int} (h1 : opn (Y k) = false) (h2 : clo (Y k) = false) : bal Y k (k + 1) := by
  refine ⟨by omega, ?_⟩
  rw [show (k + 1 - k).toNat = 1 by omega]
  show (skS Y k []).bind _ = _
  rw [skS_pl h1 h2]
  rfl
theorem prb_o {o c : Int64} (h : prb o c = true) : opn o = true ∧ clo c = true ∧ opn c = false := by
  have := of_decide_eq_true h
  rcases this with ⟨z1, z2⟩ | ⟨z1, z2⟩ | ⟨z1, z2⟩ <;> rw [z1, z2] <;> exact ⟨by decide, by decide, by decide⟩
theorem bal_br {Y : Int → Int64} {k j : Int} (h : bal Y (k + 1) j) (hp : prb (Y k) (Y j) = true) : bal Y k (j + 1) := by
  have p := prb_o hp
  have a := h.1
  refine ⟨by omega, ?_⟩
  rw [show (j + 1 - k).toNat = ((j - (k + 1)).toNat + 1) + 1 by omega]
  show (skS Y k []).bind _ = _
  have e1 : skS Y k [] = some [k] := by
    unfold skS
    rw [if_pos p.1]
  rw [e1]
  show sk Y ((j - (k + 1)).toNat + 1) (k + 1) [k] = some []
  rw [sk_cat, bal_sk h [k]]
  show sk Y 1 (k + 1 + ((j - (k + 1)).toNat : Int)) [k] = some []
  rw [show k + 1 + ((j - (k + 1)).toNat : Int) = j by omega]
  show (skS Y j [k]).bind _ = _
  have e2 : skS Y j [k] = some [] := by
    unfold skS
    rw [if_neg (by rw [p.2.2]; decide), if_pos p.2.1]
    show (if prb (Y k) (Y j) = true then _ else _) = _
    rw [if_pos hp]
  rw [e2]
  rfl
/-- a range that is balanced, from its beginning: no closing bracket stands there without its own -/
theorem bal_nc {Y : Int → Int64} {x y z : Int} (h1 : bal Y x y) (h2 : bal Y x z) (hy : clo (Y y) = true) : z ≤ y := by
  by_cases c : z ≤ y
  · exact c
  · exfalso
    have a1 := h1.1
    have h := h2.2
    rw [show (z - x).toNat = (y - x).toNat + ((z - y - 1).toNat + 1) by omega, sk_cat, h1.2] at h
    have h : sk Y ((z - y - 1).toNat + 1) (x + ((y - x).toNat : Int)) [] = some [] := h
    rw [show x + ((y - x).toNat : Int) = y by omega] at h
    have e : skS Y y [] = none := by
      have no : opn (Y y) = false := by
        have := of_decide_eq_true hy
        rcases this with q | q | q <;> rw [q] <;> decide
      unfold skS
      rw [if_neg (by rw [no]; decide), if_pos hy]
    have h : (skS Y y []).bind _ = some [] := h
    rw [e] at h
    exact nns h
def MTP (Y : Int → Int64) (n : Int) (mt : Int → Int) : Prop := ∀ k : Int, 0 ≤ k → k < n → opn (Y k) = true → k < mt k ∧ mt k < n ∧ prb (Y k) (Y (mt k)) = true ∧ bal Y (k + 1) (mt k) ∧ mt (mt k) = k
theorem mt_u {Y : Int → Int64} {n : Int} {mt : Int → Int} (h : MTP Y n mt) {k j : Int} (k0 : 0 ≤ k) (k1 : k < n) (hb : bal Y (k + 1) j) (hp : prb (Y k) (Y j) = true) : mt k = j := by
  have q := h k k0 k1 (prb_o hp).1
  have a := bal_nc hb q.2.2.2.1 (prb_o hp).2.1
  have b := bal_nc q.2.2.2.1 hb (prb_o q.2.2.1).2.1
  omega
/-- how many brackets stand before -/
theorem bc_sk {Y : Int → Int64} : ∀ (m : Nat) (k : Int) (st s : List Int), 0 ≤ k → sk Y m k st = some s → (st.length : Int) ≤ bc Y k.toNat → bc Y (k + m).toNat = bc Y k.toNat + s.length - st.length
  | 0, k, st, s, k0, h, hl => by
    cases h
    rw [show k + ((0 : Nat) : Int) = k by omega]
    omega
  | m + 1, k, st, s, k0, h, hl => by
    obtain ⟨q, hq, h2⟩ := bind_some h
    have e := bc_s (Y := Y) k0
    have hq2 : bc Y (k + 1).toNat = bc Y k.toNat + q.length - st.length ∧ (q.length : Int) ≤ bc Y (k + 1).toNat := by
      rw [e]
      unfold skS at hq
      unfold brs
      by_cases c : opn (Y k) = true
      · rw [if_pos c] at hq
        cases hq
        have c' := of_decide_eq_true c
        rw [if_pos c', List.length_cons]
        omega
      · have c' : ¬ (Y k = 40 ∨ Y k = 91 ∨ Y k = 123) := fun z => c (decide_eq_true z)
        rw [if_neg c] at hq
        rw [if_neg c']
        by_cases c2 : clo (Y k) = true
        · rw [if_pos c2] at hq
          have c2' := of_decide_eq_true c2
          cases st with
          | nil => exact nns hq
          | cons j r =>
            have hq : (if prb (Y j) (Y k) = true then some r else none) = some q := hq
            rw [List.length_cons] at hl ⊢
            by_cases c3 : prb (Y j) (Y k) = true
            · rw [if_pos c3] at hq
              cases hq
              rw [if_pos ⟨by omega, c2'⟩]
              omega
            · rw [if_neg c3] at hq
              exact nns hq
        · rw [if_neg c2] at hq
          cases hq
          have c2' : ¬ (Y k = 41 ∨ Y k = 93 ∨ Y k = 125) := fun z => c2 (decide_eq_true z)
          rw [if_neg (fun z => c2' z.2)]
          omega
    have i := bc_sk m (k + 1) q s (by omega) h2 hq2.2
    rw [show k + ((m + 1 : Nat) : Int) = k + 1 + m by omega, i, hq2.1]
    omega
theorem bc_n (Y : Int → Int64) : ∀ m : Nat, 0 ≤ bc Y m
  | 0 => Int.le_refl _
  | m + 1 => by
    have := bc_n Y m
    show 0 ≤ brs (bc Y m) (Y m)
    unfold brs
    split
    · omega
    · split <;> omega
theorem bc_bal {Y : Int → Int64} {x y : Int} (x0 : 0 ≤ x) (h : bal Y x y) : bc Y y.toNat = bc Y x.toNat := by
  have := bc_sk (y - x).toNat x [] [] x0 h.2 (bc_n Y _)
  rw [show x + ((y - x).toNat : Int) = y by have := h.1; omega] at this
  rw [this]
  show _ + ((0 : Nat) : Int) - ((0 : Nat) : Int) = _
  omega
theorem bc_o {Y : Int → Int64} {k : Int} (k0 : 0 ≤ k) (h : opn (Y k) = true) : bc Y (k + 1).toNat = bc Y k.toNat + 1 := by
  rw [bc_s k0]
  unfold brs
  rw [if_pos (of_decide_eq_true h)]
theorem dpp_6 {Y : Int → Int64} {n : Int} (h : dpp Y n = false) : ∀ k : Int, 0 ≤ k → k < n → bc Y (k + 1).toNat ≤ 6 := fun k k0 k1 => by
  have h1 : ¬ fi (fun k => decide (6 < bc Y (k + 1).toNat)) n 0 < n := of_decide_eq_false h
  have h2 := fi_all (p := fun k => decide (6 < bc Y (k + 1).toNat)) _ 0 rfl (by omega) k k0 k1
  have := of_decide_eq_false h2
  omega
