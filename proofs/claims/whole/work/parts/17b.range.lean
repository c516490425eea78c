/-! Expressions by ranges: the weakest operator first. -/
def stq (y : Int64) : Int := if y = 61 then 0 else if y = 7869 then 1 else if y = 60 ∨ y = 62 then 2 else if y = 43 ∨ y = 45 then 3 else if y = 42 ∨ y = 47 then 4 else -1
def pickN (Y : Int → Int64) : List Int → Int → Int → Int
  | [], b, _ => b
  | k :: r, b, w => pickN Y r (if stq (Y k) < w ∨ (stq (Y k) = w ∧ 0 < stq (Y k)) then k else b) (if stq (Y k) < w then stq (Y k) else w)
section RG
variable (Y : Int → Int64) (D : List Dcl) (mt : Int → Int)
def cok (k : Int) : Bool := decide (mt k ≤ fi (fun s => decide (¬ Y s = 42)) (mt k) (k + 2))
def cs : Nat → Int → Int → Bool → Option (List Int)
  | 0, _, _, _ => none
  | m + 1, k, b, w => if b ≤ k then (if w = true then none else some [])
    else if w = true then
      (if Y k = 40 ∧ isT D (Y (k + 1)) = true then (if cok Y mt k = true then cs m (mt k + 1) b true else none)
       else if prf (Y k) = true then cs m (k + 1) b true
       else if Y k = 40 then cs m (mt k + 1) b false
       else if wk (Y k) = 5 ∨ (wk (Y k) = 4 ∧ isT D (Y k) = false) then cs m (k + 1) b false else none)
    else if Y k = 40 ∨ Y k = 91 then cs m (mt k + 1) b false
    else if stq (Y k) < 0 then none else (cs m (k + 1) b true).bind (fun L => some (k :: L))
/-- the first place at the top level that p asks for -/
def wlk (p : Int64 → Bool) : Nat → Int → Int → Int
  | 0, k, _ => k
  | m + 1, k, e => if e ≤ k then k else if p (Y k) = true then k else wlk p m (if Y k = 40 ∨ Y k = 91 then mt k + 1 else k + 1) e
def see (x e : Int) (w : Int64) : Int := if wlk Y mt (fun y => decide (y = w)) 200 x e < e then wlk Y mt (fun y => decide (y = w)) 200 x e else e
def VA (f : Int → Int → Option (List Nd)) : Nat → Int → Int → Option (List Nd × Int)
  | 0, _, _ => none
  | m + 1, x, y => (f x (see Y mt x y 44)).bind (fun N => if see Y mt x y 44 < y then (VA f m (see Y mt x y 44 + 1) y).bind (fun r => some (N ++ r.1, 1 + r.2)) else some (N, 1))
def VE : Nat → Int → Int → Option (List Nd)
  | 0, _, _ => none
  | m + 1, a, b => (cs Y D mt 200 a b true).bind (fun L => if L = [] then
      (if prf (Y a) = true then (VE m (a + 1) b).bind (fun N => some ((13, a, 1) :: N))
       else if Y a = 40 ∧ isT D (Y (a + 1)) = true then (VE m (mt a + 1) b).bind (fun N => some ((14, a, 2 + (mt a - (a + 2))) :: (3, a + 1, 0) :: stF (mt a - (a + 2)).toNat (a + 2) ++ N))
       else if a = b - 1 then some [(if wk (Y a) = 5 then 18 else 17, a, 0)]
       else if mt (b - 1) = a then VE m (a + 1) (b - 1)
       else if Y (mt (b - 1)) = 91 then (VE m a (mt (b - 1))).bind (fun N => (VE m (mt (b - 1) + 1) (b - 1)).bind (fun N2 => some ((15, mt (b - 1), 2) :: N ++ N2)))
       else (VE m a (mt (b - 1))).bind (fun N => (if b - 1 ≤ mt (b - 1) + 1 then some ([], 0) else VA Y mt (VE m) 200 (mt (b - 1) + 1) (b - 1)).bind (fun r => some ((16, mt (b - 1), 1 + r.2) :: N ++ r.1))))
      else (VE m a (pickN Y L (-1) 9)).bind (fun N => (VE m (pickN Y L (-1) 9 + 1) b).bind (fun N2 => some ((12, pickN Y L (-1) 9, 2) :: N ++ N2))))
end RG
theorem stq_sto (y : Int64) : (sto y = 0 → y = 61 ∨ stq y = -1) ∧ (0 < sto y → stq y = sto y) ∧ (stq y = 0 ↔ y = 61) ∧ stq y ≤ 4 ∧ -1 ≤ stq y := by
  unfold sto stq
  by_cases c1 : y = 61
  · rw [c1]
    decide
  · rw [if_neg c1]
    by_cases c2 : y = 7869
    · rw [c2]
      decide
    · rw [if_neg c2, if_neg c2]
      by_cases c3 : y = 60 ∨ y = 62
      · rcases c3 with c3 | c3 <;> rw [c3] <;> decide
      · rw [if_neg c3, if_neg c3]
        by_cases c4 : y = 43 ∨ y = 45
        · rcases c4 with c4 | c4 <;> rw [c4] <;> decide
        · rw [if_neg c4, if_neg c4]
          by_cases c5 : y = 42 ∨ y = 47
          · rw [if_pos c5, if_pos c5]
            exact ⟨fun z => absurd z (by decide), fun _ => rfl, ⟨fun z => absurd z (by decide), fun z => absurd z c1⟩, by decide, by decide⟩
          · rw [if_neg c5, if_neg c5]
            exact ⟨fun _ => Or.inr rfl, fun z => absurd z (by decide), ⟨fun z => absurd z (by decide), fun z => absurd z c1⟩, by decide, by decide⟩
theorem pick_gt {Y : Int → Int64} {t : Int} : ∀ (L : List Int) (b : Int), (∀ x, x ∈ L → t < stq (Y x)) → pickN Y L b t = b
  | [], b, _ => rfl
  | k :: r, b, h => by
    have hk := h k (by simp)
    show pickN Y r (if stq (Y k) < t ∨ (stq (Y k) = t ∧ 0 < stq (Y k)) then k else b) (if stq (Y k) < t then stq (Y k) else t) = b
    rw [if_neg (by omega), if_neg (by omega)]
    exact pick_gt r b (fun x hx => h x (by simp [hx]))
theorem pick_0 {Y : Int → Int64} : ∀ (L : List Int) (b : Int), (∀ x, x ∈ L → 0 ≤ stq (Y x)) → pickN Y L b 0 = b
  | [], b, _ => rfl
  | k :: r, b, h => by
    have hk := h k (by simp)
    show pickN Y r (if stq (Y k) < 0 ∨ (stq (Y k) = 0 ∧ 0 < stq (Y k)) then k else b) (if stq (Y k) < 0 then stq (Y k) else 0) = b
    rw [if_neg (by omega), if_neg (by omega)]
    exact pick_0 r b (fun x hx => h x (by simp [hx]))
theorem pick_mid {Y : Int → Int64} {t : Int} {k : Int} {L2 : List Int} (hk : stq (Y k) = t) (h2 : 0 < t ∧ (∀ x, x ∈ L2 → t < stq (Y x)) ∨ t = 0 ∧ (∀ x, x ∈ L2 → 0 ≤ stq (Y x))) : ∀ (L1 : List Int) (b w : Int), (∀ x, x ∈ L1 → t ≤ stq (Y x) ∧ (t = 0 → 0 < stq (Y x))) → t ≤ w → (t = 0 → 0 < w) → pickN Y (L1 ++ k :: L2) b w = k
  | [], b, w, h, hw, hw0 => by
    show pickN Y L2 (if stq (Y k) < w ∨ (stq (Y k) = w ∧ 0 < stq (Y k)) then k else b) (if stq (Y k) < w then stq (Y k) else w) = k
    rw [hk]
    rcases h2 with ⟨z1, z2⟩ | ⟨z1, z2⟩
    · rw [if_pos (by omega)]
      have e : (if t < w then t else w) = t := by split <;> omega
      rw [e]
      exact pick_gt L2 k z2
    · have := hw0 z1
      rw [if_pos (by omega), if_pos (by omega), z1]
      exact pick_0 L2 k z2
  | j :: r, b, w, h, hw, hw0 => by
    have hj := h j (by simp)
    show pickN Y (r ++ k :: L2) _ (if stq (Y j) < w then stq (Y j) else w) = k
    refine pick_mid hk h2 r _ _ (fun x hx => h x (by simp [hx])) ?_ (fun z => ?_)
    · split <;> omega
    · have := hj.2 z
      have := hw0 z
      split <;> omega
