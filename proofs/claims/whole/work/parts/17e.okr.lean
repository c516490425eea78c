/-! A range that gives an expression is right at every place. -/
section OK
variable (Y : Int → Int64) (D : List Dcl) (mt : Int → Int)
def oka (f : Int → Int → Bool) : Nat → Int → Int → Bool
  | 0, _, _ => false
  | m + 1, x, y => f x (see Y mt x y 44) && (if see Y mt x y 44 < y then oka f m (see Y mt x y 44 + 1) y else true)
def ok : Nat → Int → Int → Bool → Bool
  | 0, _, _, _ => false
  | m + 1, k, b, w => if b ≤ k then !w
    else if w = true then
      (if Y k = 40 ∧ isT D (Y (k + 1)) = true then cok Y mt k && (decide (mt k < b) && ok m (mt k + 1) b true)
       else if prf (Y k) = true then ok m (k + 1) b true
       else if Y k = 40 then ok m (k + 1) (mt k) true && (decide (mt k < b) && ok m (mt k + 1) b false)
       else if wk (Y k) = 5 ∨ (wk (Y k) = 4 ∧ isT D (Y k) = false) then ok m (k + 1) b false else false)
    else if Y k = 91 then ok m (k + 1) (mt k) true && (decide (mt k < b) && ok m (mt k + 1) b false)
    else if Y k = 40 then (if mt k = k + 1 then true else oka Y mt (fun x y => ok m x y true) 200 (k + 1) (mt k)) && (decide (mt k < b) && ok m (mt k + 1) b false)
    else if stq (Y k) < 0 then false else ok m (k + 1) b true
def nxt (k : Int) : Int := if Y k = 40 ∨ Y k = 91 then mt k + 1 else k + 1
def rch : Nat → Int → Int → Bool
  | 0, _, _ => false
  | c + 1, k, b => if k = b then true else if k < b then rch c (nxt Y mt k) b else false
def Rch (a b : Int) : Prop := ∃ c : Nat, rch Y mt c a b = true
end OK
section OK2
variable {Y : Int → Int64} {D : List Dcl} {mt : Int → Int} {n : Int}
theorem Rch_0 (a : Int) : Rch Y mt a a := ⟨1, by rw [rch, if_pos rfl]⟩
theorem Rch_le {a b : Int} (h : Rch Y mt a b) : a ≤ b := by
  obtain ⟨c, h⟩ := h
  cases c with
  | zero => exact Bool.noConfusion (show false = true from h)
  | succ c =>
    rw [rch] at h
    split at h
    · omega
    · split at h
      · omega
      · exact Bool.noConfusion h
theorem Rch_nx {a b : Int} (h : Rch Y mt a b) (hab : a < b) : Rch Y mt (nxt Y mt a) b := by
  obtain ⟨c, h⟩ := h
  cases c with
  | zero => exact Bool.noConfusion (show false = true from h)
  | succ c =>
    rw [rch, if_neg (by omega), if_pos hab] at h
    exact ⟨c, h⟩
theorem Rch_s {a b : Int} (hab : a < b) (h : Rch Y mt (nxt Y mt a) b) : Rch Y mt a b := by
  obtain ⟨c, h⟩ := h
  exact ⟨c + 1, by rw [rch, if_neg (by omega), if_pos hab]; exact h⟩
theorem nx_p {k : Int} (h : ¬ (Y k = 40 ∨ Y k = 91)) : nxt Y mt k = k + 1 := by unfold nxt; rw [if_neg h]
theorem nx_b {k : Int} (h : Y k = 40 ∨ Y k = 91) : nxt Y mt k = mt k + 1 := by unfold nxt; rw [if_pos h]
theorem opb {y : Int64} (h : y = 40 ∨ y = 91) : opn y = true := decide_eq_true (by rcases h with z | z; exact Or.inl z; exact Or.inr (Or.inl z))
theorem nxt_gt (hM : MTP Y n mt) {k : Int} (k0 : 0 ≤ k) (k1 : k < n) : k < nxt Y mt k ∧ nxt Y mt k ≤ n := by
  unfold nxt
  split
  · rename_i c
    have := hM k k0 k1 (opb c)
    omega
  · omega
/-- the way is one -/
theorem Rch_sp (hM : MTP Y n mt) : ∀ (c : Nat) (x s e : Int), rch Y mt c x s = true → Rch Y mt x e → s ≤ e → 0 ≤ x → e ≤ n → Rch Y mt s e
  | 0, x, s, e, h, _, _, _, _ => Bool.noConfusion (show false = true from h)
  | c + 1, x, s, e, h, h2, hse, x0, en => by
    rw [rch] at h
    split at h
    · rename_i z
      rw [← z]
      exact h2
    · split at h
      · have g := nxt_gt hM x0 (by omega)
        exact Rch_sp hM c _ s e h (Rch_nx h2 (by omega)) hse (by omega) en
      · exact Bool.noConfusion h
theorem Rch_tr (hM : MTP Y n mt) : ∀ (c : Nat) (x s e : Int), rch Y mt c x s = true → Rch Y mt s e → 0 ≤ x → s ≤ n → Rch Y mt x e
  | 0, x, s, e, h, _, _, _ => Bool.noConfusion (show false = true from h)
  | c + 1, x, s, e, h, h2, x0, en => by
    rw [rch] at h
    split at h
    · rename_i z
      rw [z]
      exact h2
    · split at h
      · rename_i z
        have g := nxt_gt hM x0 (by omega)
        have := Rch_le h2
        exact Rch_s (by omega) (Rch_tr hM c _ s e h h2 (by omega) en)
      · exact Bool.noConfusion h
theorem wlk_rch (hM : MTP Y n mt) {p : Int64 → Bool} : ∀ (m : Nat) (k e : Int), 0 ≤ k → e ≤ n → Rch Y mt k (wlk Y mt p m k e)
  | 0, k, e, k0, en => Rch_0 k
  | m + 1, k, e, k0, en => by
    rw [wlk]
    split
    · exact Rch_0 k
    · split
      · exact Rch_0 k
      · have g := nxt_gt hM k0 (by omega : k < n)
        have i := wlk_rch hM (p := p) m (nxt Y mt k) e (by omega) en
        have := Rch_le i
        exact Rch_s (by show k < wlk Y mt p m (nxt Y mt k) e; omega) i
theorem see_rch (hM : MTP Y n mt) {x e : Int} {w : Int64} (x0 : 0 ≤ x) (en : e ≤ n) (h : Rch Y mt x e) : Rch Y mt x (see Y mt x e w) ∧ see Y mt x e w ≤ e ∧ x ≤ see Y mt x e w := by
  have i := wlk_rch hM (p := fun y => decide (y = w)) 200 x e x0 en
  have l := Rch_le h
  have l2 := Rch_le i
  unfold see
  split
  · exact ⟨i, by omega, l2⟩
  · exact ⟨h, Int.le_refl _, l⟩
theorem bal_in (hM : MTP Y n mt) {x y j : Int} (h : bal Y x y) (x0 : 0 ≤ x) (yn : y ≤ n) (xj : x ≤ j) (jy : j < y) (hj : opn (Y j) = true) : mt j < y := by
  by_cases c : mt j < y
  · exact c
  · exfalso
    have q := hM j (by omega) (by omega) hj
    have h1 := h.2
    rw [show (y - x).toNat = (j - x).toNat + ((y - j - 1).toNat + 1) by omega, sk_cat] at h1
    obtain ⟨s1, e1, h2⟩ := bind_some h1
    rw [show x + ((j - x).toNat : Int) = j by omega] at h2
    have h2 : (skS Y j s1).bind (sk Y (y - j - 1).toNat (j + 1)) = some [] := h2
    have e2 : skS Y j s1 = some (j :: s1) := by unfold skS; rw [if_pos hj]
    rw [e2] at h2
    have h2 : sk Y (y - j - 1).toNat (j + 1) (j :: s1) = some [] := h2
    have h3 := q.2.2.2.1.2
    rw [show (mt j - (j + 1)).toNat = (y - j - 1).toNat + (mt j - y).toNat by omega, sk_cat] at h3
    obtain ⟨s2, e3, _⟩ := bind_some h3
    have e4 := sk_app _ _ _ _ (j :: s1) e3
    rw [List.nil_append, h2] at e4
    have := congrArg List.length (Option.some.inj e4)
    rw [List.length_append, List.length_cons, List.length_nil] at this
    omega
theorem Rch_cn (hM : MTP Y n mt) {y : Int} (yn : y ≤ n) : ∀ (m : Nat) (x : Int), (y - x).toNat ≤ m → 0 ≤ x → x ≤ y → (∀ j, x ≤ j → j < y → opn (Y j) = true → mt j < y) → Rch Y mt x y
  | 0, x, hm, x0, xy, h => by
    rw [show x = y by omega]
    exact Rch_0 y
  | m + 1, x, hm, x0, xy, h => by
    by_cases c : x = y
    · rw [c]
      exact Rch_0 y
    · have g := nxt_gt hM x0 (by omega : x < n)
      refine Rch_s (by omega) (Rch_cn hM yn m _ (by omega) (by omega) ?_ (fun j j0 j1 hj => h j (by omega) j1 hj))
      unfold nxt
      split
      · rename_i z
        have := h x (Int.le_refl _) (by omega) (opb z)
        omega
      · omega
theorem bal_rch (hM : MTP Y n mt) {x y : Int} (h : bal Y x y) (x0 : 0 ≤ x) (yn : y ≤ n) : Rch Y mt x y := Rch_cn hM yn _ x (Nat.le_refl _) x0 h.1 (fun j j0 j1 hj => bal_in hM h x0 yn j0 j1 hj)
theorem ok_t {m : Nat} {k b : Int} (h : k < b) : ok Y D mt (m + 1) k b true = (if Y k = 40 ∧ isT D (Y (k + 1)) = true then cok Y mt k && (decide (mt k < b) && ok Y D mt m (mt k + 1) b true) else if prf (Y k) = true then ok Y D mt m (k + 1) b true else if Y k = 40 then ok Y D mt m (k + 1) (mt k) true && (decide (mt k < b) && ok Y D mt m (mt k + 1) b false) else if wk (Y k) = 5 ∨ (wk (Y k) = 4 ∧ isT D (Y k) = false) then ok Y D mt m (k + 1) b false else false) := by
  rw [ok, if_neg (by omega), if_pos rfl]
theorem ok_f {m : Nat} {k b : Int} (h : k < b) : ok Y D mt (m + 1) k b false = (if Y k = 91 then ok Y D mt m (k + 1) (mt k) true && (decide (mt k < b) && ok Y D mt m (mt k + 1) b false) else if Y k = 40 then (if mt k = k + 1 then true else oka Y mt (fun x y => ok Y D mt m x y true) 200 (k + 1) (mt k)) && (decide (mt k < b) && ok Y D mt m (mt k + 1) b false) else if stq (Y k) < 0 then false else ok Y D mt m (k + 1) b true) := by
  rw [ok, if_neg (by omega), if_neg (by decide)]
theorem ok_e {m : Nat} {k b : Int} {w : Bool} (h : b ≤ k) : ok Y D mt (m + 1) k b w = !w := by
  rw [ok, if_pos h]
theorem wlk_p {p : Int64 → Bool} : ∀ (m : Nat) (k e : Int), e - k < m → (∀ j, k ≤ j → j < e → j < nxt Y mt j) → wlk Y mt p m k e < e → p (Y (wlk Y mt p m k e)) = true
  | 0, k, e, hm, hj, h => by
    have h : k < e := h
    omega
  | m + 1, k, e, hm, hj, h => by
    rw [wlk] at h ⊢
    by_cases c : e ≤ k
    · rw [if_pos c] at h
      omega
    · rw [if_neg c] at h ⊢
      by_cases c2 : p (Y k) = true
      · rw [if_pos c2]
        exact c2
      · rw [if_neg c2] at h ⊢
        have g := hj k (Int.le_refl _) (by omega)
        exact wlk_p m _ e (by show e - nxt Y mt k < m; omega) (fun j j0 j1 => hj j (by have : nxt Y mt k ≤ j := j0; omega) j1) h
theorem see_44 (hM : MTP Y n mt) {x e : Int} {w : Int64} (x0 : 0 ≤ x) (en : e ≤ n) (hn : n ≤ 100) (c : see Y mt x e w < e) : Y (see Y mt x e w) = w := by
  unfold see at c ⊢
  by_cases z : wlk Y mt (fun y => decide (y = w)) 200 x e < e
  · rw [if_pos z] at c ⊢
    exact of_decide_eq_true (wlk_p (p := fun y => decide (y = w)) 200 x e (by omega) (fun j j0 j1 => (nxt_gt hM (by omega) (by omega)).1) z)
  · rw [if_neg z] at c
    omega
theorem oka_mono (hM : MTP Y n mt) (hn : n ≤ 100) {f g : Int → Int → Bool} {lo hi : Int} (hin : hi ≤ n) (hlo : 0 ≤ lo) (h : ∀ x y, lo ≤ x → y ≤ hi → f x y = true → g x y = true) : ∀ (m : Nat) (x y : Int), lo ≤ x → y ≤ hi → Rch Y mt x y → oka Y mt f m x y = true → oka Y mt g m x y = true
  | 0, x, y, _, _, _, hk => Bool.noConfusion (show false = true from hk)
  | m + 1, x, y, hx, hy, hr, hk => by
    rw [oka] at hk ⊢
    have s := see_rch (w := 44) hM (by omega) (by omega : y ≤ n) hr
    rw [Bool.and_eq_true] at hk ⊢
    refine ⟨h _ _ hx (by omega) hk.1, ?_⟩
    have hk2 := hk.2
    by_cases c : see Y mt x y 44 < y
    · rw [if_pos c] at hk2 ⊢
      obtain ⟨cc, hc⟩ := s.1
      have r2 := Rch_sp hM cc x _ y hc hr s.2.1 (by omega) (by omega)
      have hy44 : ¬ (Y (see Y mt x y 44) = 40 ∨ Y (see Y mt x y 44) = 91) := by
        have h44 : Y (see Y mt x y 44) = 44 := see_44 hM (by omega) (by omega) hn c
        rw [h44]
        decide
      have r3 := Rch_nx r2 c
      rw [nx_p hy44] at r3
      exact oka_mono hM hn hin hlo h m _ y (by omega) hy r3 hk2
    · rw [if_neg c]
end OK2
