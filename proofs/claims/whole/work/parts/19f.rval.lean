/-! The reference takes an expression apart. -/
def spv (Y : Int → Int64) (mt : Int → Int) : Nat → Int → Int → List (Int × Int)
  | 0, _, _ => []
  | f + 1, x, y => (x, see Y mt x y 44) :: if see Y mt x y 44 < y then spv Y mt f (see Y mt x y 44 + 1) y else []
def vtk (p : Int) (l : List (Int × Int)) : List Tk := l.map (fun q => (5, q.1, q.2, p, 0))
theorem vtk_len (p : Int) (l : List (Int × Int)) : (vtk p l).length = l.length := by unfold vtk; rw [List.length_map]
def Wc (Y : Int → Int64) (mt : Int → Int) (a k : Int) : Prop := ∃ c : Nat, (c : Int) ≤ k - a ∧ ∀ (f : Nat) (e : Int), k ≤ e → wlk Y mt (fun y => decide (y = 44)) (c + f) a e = wlk Y mt (fun y => decide (y = 44)) f k e
section VV
variable {Y : Int → Int64} {D : List Dcl} {mt : Int → Int} {n : Int}
theorem Wc_0 (a : Int) : Wc Y mt a a := ⟨0, by omega, fun f e _ => by rw [Nat.zero_add]⟩
theorem Wc_1 {k h : Int} (hh : Wc Y mt (k + 1) h) (kh : k < h) (h1 : ¬ Y k = 44) (h2 : ¬ (Y k = 40 ∨ Y k = 91)) : Wc Y mt k h := by
  obtain ⟨c, hc, e⟩ := hh
  refine ⟨c + 1, by omega, fun f y hy => ?_⟩
  rw [show c + 1 + f = (c + f) + 1 by omega, wlk_1 (by omega) (decide_eq_false h1) h2, e f y hy]
theorem Wc_b {k j h : Int} (hh : Wc Y mt (k + 1) h) (kh : k < h) (jk : j ≤ k) (hj : Y j = 40 ∨ Y j = 91) (hm : mt j = k) : Wc Y mt j h := by
  obtain ⟨c, hc, e⟩ := hh
  refine ⟨c + 1, by omega, fun f y hy => ?_⟩
  rw [show c + 1 + f = (c + f) + 1 by omega, wlk_b (by omega) (decide_eq_false (by rcases hj with z | z <;> rw [z] <;> decide)) hj, hm, e f y hy]
theorem Rch_pred (hM : MTP Y n mt) : ∀ (c : Nat) (x k : Int), rch Y mt c x (k + 1) = true → 0 ≤ x → x ≤ k → k < n → (Rch Y mt x k ∧ ¬ (Y k = 40 ∨ Y k = 91)) ∨ ∃ j, x ≤ j ∧ j ≤ k ∧ Rch Y mt x j ∧ (Y j = 40 ∨ Y j = 91) ∧ mt j = k
  | 0, x, k, h, _, _, _ => Bool.noConfusion (show false = true from h)
  | c + 1, x, k, h, x0, xk, kn => by
    rw [rch, if_neg (by omega), if_pos (by omega)] at h
    have hle := Rch_le ⟨c, h⟩
    have g := (nxt_gt hM x0 (by omega : x < n)).1
    by_cases e : nxt Y mt x = k + 1
    · by_cases hb : Y x = 40 ∨ Y x = 91
      · rw [nx_b hb] at e
        exact Or.inr ⟨x, Int.le_refl _, xk, Rch_0 x, hb, by omega⟩
      · rw [nx_p hb] at e
        have e2 : x = k := by omega
        rw [← e2]
        exact Or.inl ⟨Rch_0 x, hb⟩
    · rcases Rch_pred hM c (nxt Y mt x) k h (by omega) (by omega) kn with ⟨z1, z2⟩ | ⟨j, z0, z1, z2, z3⟩
      · exact Or.inl ⟨Rch_s (by have := Rch_le z1; omega) z1, z2⟩
      · exact Or.inr ⟨j, by omega, z1, Rch_s (by omega) z2, z3⟩
theorem Rch_jump (hM : MTP Y n mt) {j : Int} (j0 : 0 ≤ j) (jn : j < n) (hj : Y j = 40 ∨ Y j = 91) : ∀ (c : Nat) (x k : Int), rch Y mt c x k = true → 0 ≤ x → x ≤ j → j < k → mt j < k
  | 0, x, k, h, _, _, _ => Bool.noConfusion (show false = true from h)
  | c + 1, x, k, h, x0, xj, jk => by
    rw [rch, if_neg (by omega), if_pos (by omega)] at h
    by_cases e : x = j
    · rw [e, nx_b hj] at h
      have := Rch_le ⟨c, h⟩
      omega
    · by_cases hb : Y x = 40 ∨ Y x = 91
      · rw [nx_b hb] at h
        have hle := Rch_le ⟨c, h⟩
        have q := hM x x0 (by omega) (opb hb)
        by_cases g : mt x < j
        · exact Rch_jump hM j0 jn hj c _ k h (by omega) (by omega) jk
        · have : ¬ mt x = j := fun z => by
            have := (prb_o q.2.2.1).2.2
            rw [z, opb hj] at this
            exact Bool.noConfusion this
          have := bal_in hM q.2.2.2.1 (by omega) (by omega) (by omega) (by omega) (opb hj)
          omega
      · rw [nx_p hb] at h
        exact Rch_jump hM j0 jn hj c _ k h (by omega) (by omega) jk
theorem in_cl (hM : MTP Y n mt) (hcm : ∀ k, 0 ≤ k → k < n → clo (Y k) = true → 0 ≤ mt k ∧ mt k < k ∧ opn (Y (mt k)) = true ∧ mt (mt k) = k) {m k : Int} (m0 : 0 ≤ m) (mn : m < n) (hm : opn (Y m) = true) (mk : m < k) (km : k < mt m) (hk : clo (Y k) = true) : m < mt k := by
  have q := hM m m0 mn hm
  have p := hcm k (by omega) (by omega) hk
  by_cases g : m < mt k
  · exact g
  · exfalso
    by_cases e : mt k = m
    · rw [e] at p; omega
    · have r := hM (mt k) p.1 (by omega) p.2.2.1
      have := bal_in hM r.2.2.2.1 (by omega) (by omega) (show mt k + 1 ≤ m by omega) (by omega) hm
      omega
/-- from a place inside round brackets to the one before it -/
theorem lft (hM : MTP Y n mt) (hcm : ∀ k, 0 ≤ k → k < n → clo (Y k) = true → 0 ≤ mt k ∧ mt k < k ∧ opn (Y (mt k)) = true ∧ mt (mt k) = k) {m k : Int} (m0 : 0 ≤ m) (mn : m < n) (hm : opn (Y m) = true) (mk : m < k) (km : k < mt m) (hr : Rch Y mt (m + 1) (k + 1)) : (Y k = 41 ∨ Y k = 93 → m < mt k ∧ mt k < k ∧ (Y (mt k) = 40 ∨ Y (mt k) = 91) ∧ mt (mt k) = k ∧ Rch Y mt (m + 1) (mt k)) ∧ (¬ (Y k = 41 ∨ Y k = 93) → ¬ (Y k = 40 ∨ Y k = 91) ∧ Rch Y mt (m + 1) k) := by
  have q := hM m m0 mn hm
  obtain ⟨c, hc⟩ := hr
  have pr := Rch_pred hM c (m + 1) k hc (by omega) (by omega) (by omega)
  refine ⟨fun h => ?_, fun h => ?_⟩
  · have hk : clo (Y k) = true := decide_eq_true (by rcases h with z | z; exact Or.inl z; exact Or.inr (Or.inl z))
    have p := hcm k (by omega) (by omega) hk
    have g := in_cl hM hcm m0 mn hm mk km hk
    have r := hM (mt k) p.1 (by omega) p.2.2.1
    have hj : Y (mt k) = 40 ∨ Y (mt k) = 91 := by
      have z := of_decide_eq_true r.2.2.1
      rw [p.2.2.2] at z
      rcases z with z | z | z
      · exact Or.inl z.1
      · exact Or.inr z.1
      · exfalso
        rcases h with y | y <;> rw [y] at z <;> exact absurd z.2 (by decide)
    refine ⟨g, p.2.1, hj, p.2.2.2, ?_⟩
    rcases pr with ⟨⟨c2, z1⟩, z2⟩ | ⟨j, z1, z0, z2, z3, z4⟩
    · exfalso
      have := Rch_jump hM p.1 (by omega) hj c2 (m + 1) k z1 (by omega) (by omega) p.2.1
      rw [p.2.2.2] at this
      omega
    · have r2 := hM j (by omega) (by omega) (opb z3)
      have e : mt k = j := by rw [← z4]; exact r2.2.2.2.2
      rw [e]
      exact z2
  · rcases pr with ⟨z1, z2⟩ | ⟨j, z1, z0, z2, z3, z4⟩
    · exact ⟨z2, z1⟩
    · exfalso
      have r2 := hM j (by omega) (by omega) (opb z3)
      rw [z4] at r2
      have z := of_decide_eq_true r2.2.2.1
      rcases z with z | z | z
      · exact h (Or.inl z.2)
      · exact h (Or.inr z.2)
      · rcases z3 with y | y <;> rw [y] at z <;> exact absurd z.1 (by decide)
end VV
