/-! Frames; the first index that stops; trigraphs and joined lines (class). -/
theorem xvl (S : w_S) (a k : Nat) (z : Int64) (b j : Nat) : sv (w_l S a k z) b j = sv S b j := rfl
theorem xvA (S : w_S) (a : Nat) (f : Int → Int) (b j : Nat) : sv (w_A S a f) b j = sv S b j := rfl
theorem xvL (S : w_S) (a : Nat) (f : Int → Int64) (b j : Nat) : sv (w_L S a f) b j = sv S b j := rfl
theorem xvR (S : w_S) (a : Nat) (f : Int → Option Nat) (b j : Nat) : sv (w_R S a f) b j = sv S b j := rfl
theorem xlv (S : w_S) (a k : Nat) (z : Int) (b j : Nat) : sl (w_v S a k z) b j = sl S b j := rfl
theorem xlA (S : w_S) (a : Nat) (f : Int → Int) (b j : Nat) : sl (w_A S a f) b j = sl S b j := rfl
theorem xlL (S : w_S) (a : Nat) (f : Int → Int64) (b j : Nat) : sl (w_L S a f) b j = sl S b j := rfl
theorem xlR (S : w_S) (a : Nat) (f : Int → Option Nat) (b j : Nat) : sl (w_R S a f) b j = sl S b j := rfl
theorem xAv (S : w_S) (a k : Nat) (z : Int) (b : Nat) : sA (w_v S a k z) b = sA S b := rfl
theorem xAl (S : w_S) (a k : Nat) (z : Int64) (b : Nat) : sA (w_l S a k z) b = sA S b := rfl
theorem xAL (S : w_S) (a : Nat) (f : Int → Int64) (b : Nat) : sA (w_L S a f) b = sA S b := rfl
theorem xAR (S : w_S) (a : Nat) (f : Int → Option Nat) (b : Nat) : sA (w_R S a f) b = sA S b := rfl
theorem xLv (S : w_S) (a k : Nat) (z : Int) (b : Nat) : sL (w_v S a k z) b = sL S b := rfl
theorem xLl (S : w_S) (a k : Nat) (z : Int64) (b : Nat) : sL (w_l S a k z) b = sL S b := rfl
theorem xLA (S : w_S) (a : Nat) (f : Int → Int) (b : Nat) : sL (w_A S a f) b = sL S b := rfl
theorem xLR (S : w_S) (a : Nat) (f : Int → Option Nat) (b : Nat) : sL (w_R S a f) b = sL S b := rfl
theorem xRv (S : w_S) (a k : Nat) (z : Int) (b : Nat) : sR (w_v S a k z) b = sR S b := rfl
theorem xRl (S : w_S) (a k : Nat) (z : Int64) (b : Nat) : sR (w_l S a k z) b = sR S b := rfl
theorem xRA (S : w_S) (a : Nat) (f : Int → Int) (b : Nat) : sR (w_A S a f) b = sR S b := rfl
theorem xRL (S : w_S) (a : Nat) (f : Int → Int64) (b : Nat) : sR (w_L S a f) b = sR S b := rfl
def fr (c : Nat → Prop) (S S2 : w_S) : Prop := ∀ a, ¬ c a → (∀ k, sv S2 a k = sv S a k) ∧ (∀ k, sl S2 a k = sl S a k) ∧ sA S2 a = sA S a ∧ sL S2 a = sL S a ∧ sR S2 a = sR S a
theorem fr_refl (c : Nat → Prop) (S : w_S) : fr c S S := fun _ _ => ⟨fun _ => rfl, fun _ => rfl, rfl, rfl, rfl⟩
theorem fr_trans {c : Nat → Prop} {S S1 S2 : w_S} (h1 : fr c S S1) (h2 : fr c S1 S2) : fr c S S2 := fun a ha => ⟨fun k => ((h2 a ha).1 k).trans ((h1 a ha).1 k), fun k => ((h2 a ha).2.1 k).trans ((h1 a ha).2.1 k), (h2 a ha).2.2.1.trans (h1 a ha).2.2.1, (h2 a ha).2.2.2.1.trans (h1 a ha).2.2.2.1, (h2 a ha).2.2.2.2.trans (h1 a ha).2.2.2.2⟩
theorem fr_mono {c c2 : Nat → Prop} {S S2 : w_S} (h : fr c S S2) (hc : ∀ a, c a → c2 a) : fr c2 S S2 := fun a ha => h a (fun z => ha (hc a z))
theorem fr_v {c : Nat → Prop} {S S2 : w_S} {a k : Nat} {z : Int} (h : fr c S S2) (ha : c a) : fr c S (w_v S2 a k z) := fun b hb => ⟨fun j => (rv_ne (a := a) (b := b) (fun q => hb (by rw [q.1]; exact ha))).trans ((h b hb).1 j), (h b hb).2⟩
theorem fr_l {c : Nat → Prop} {S S2 : w_S} {a k : Nat} {z : Int64} (h : fr c S S2) (ha : c a) : fr c S (w_l S2 a k z) := fun b hb => ⟨(h b hb).1, fun j => (rl_ne (a := a) (b := b) (fun q => hb (by rw [q.1]; exact ha))).trans ((h b hb).2.1 j), (h b hb).2.2⟩
theorem fr_A {c : Nat → Prop} {S S2 : w_S} {a : Nat} {f : Int → Int} (h : fr c S S2) (ha : c a) : fr c S (w_A S2 a f) := fun b hb => ⟨(h b hb).1, (h b hb).2.1, (rA_ne (a := a) (b := b) (fun q => hb (by rw [q]; exact ha))).trans (h b hb).2.2.1, (h b hb).2.2.2⟩
theorem fr_L {c : Nat → Prop} {S S2 : w_S} {a : Nat} {f : Int → Int64} (h : fr c S S2) (ha : c a) : fr c S (w_L S2 a f) := fun b hb => ⟨(h b hb).1, (h b hb).2.1, (h b hb).2.2.1, (rL_ne (a := a) (b := b) (fun q => hb (by rw [q]; exact ha))).trans (h b hb).2.2.2.1, (h b hb).2.2.2.2⟩
theorem fr_R {c : Nat → Prop} {S S2 : w_S} {a : Nat} {f : Int → Option Nat} (h : fr c S S2) (ha : c a) : fr c S (w_R S2 a f) := fun b hb => ⟨(h b hb).1, (h b hb).2.1, (h b hb).2.2.1, (h b hb).2.2.2.1, (rR_ne (a := a) (b := b) (fun q => hb (by rw [q]; exact ha))).trans (h b hb).2.2.2.2⟩
section FR
variable {c : Nat → Prop} {S S2 : w_S} {a : Nat}
theorem fr_gv (h : fr c S S2) (ha : ¬ c a) (k : Nat) : sv S2 a k = sv S a k := (h a ha).1 k
theorem fr_gl (h : fr c S S2) (ha : ¬ c a) (k : Nat) : sl S2 a k = sl S a k := (h a ha).2.1 k
theorem fr_gA (h : fr c S S2) (ha : ¬ c a) : sA S2 a = sA S a := (h a ha).2.2.1
theorem fr_gL (h : fr c S S2) (ha : ¬ c a) : sL S2 a = sL S a := (h a ha).2.2.2.1
theorem fr_gR (h : fr c S S2) (ha : ¬ c a) : sR S2 a = sR S a := (h a ha).2.2.2.2
end FR
/-- the first index from i on, below n, at which p holds; n (or i) where there is none -/
def fiN (p : Int → Bool) : Nat → Int → Int
  | 0, i => i
  | m + 1, i => if p i = true then i else fiN p m (i + 1)
def fi (p : Int → Bool) (n i : Int) : Int := fiN p (n - i).toNat i
theorem fi_end {p : Int → Bool} {n i : Int} (h : n ≤ i) : fi p n i = i := by
  unfold fi
  rw [show (n - i).toNat = 0 by omega]
  rfl
theorem fi_stop {p : Int → Bool} {n i : Int} (h : i < n) (hp : p i = true) : fi p n i = i := by
  unfold fi
  rw [show (n - i).toNat = (n - i - 1).toNat + 1 by omega]
  show (if p i = true then i else _) = _
  rw [if_pos hp]
theorem fi_next {p : Int → Bool} {n i : Int} (h : i < n) (hp : p i = false) : fi p n i = fi p n (i + 1) := by
  unfold fi
  rw [show (n - i).toNat = (n - (i + 1)).toNat + 1 by omega]
  show (if p i = true then i else _) = _
  rw [if_neg (by rw [hp]; decide)]
theorem fi_R (p : Int → Bool) (n : Int) : ∀ (m : Nat) (i : Int), (n - i).toNat = m → i ≤ n → i ≤ fi p n i ∧ fi p n i ≤ n
  | 0, i, hm, h => by
    rw [fi_end (by omega)]
    omega
  | m + 1, i, hm, h => by
    by_cases hp : p i = true
    · rw [fi_stop (by omega) hp]
      omega
    · rw [fi_next (by omega) (by simpa using hp)]
      have := fi_R p n m (i + 1) (by omega) (by omega)
      omega
theorem fi_r {p : Int → Bool} {n i : Int} (h : i ≤ n) : i ≤ fi p n i ∧ fi p n i ≤ n := fi_R p n _ i rfl h
theorem fi_cong {p q : Int → Bool} {n : Int} : ∀ (m : Nat) (i : Int), (n - i).toNat = m → (∀ j, i ≤ j → j < n → p j = q j) → fi p n i = fi q n i
  | 0, i, hm, h => by rw [fi_end (by omega), fi_end (by omega)]
  | m + 1, i, hm, h => by
    have e := h i (by omega) (by omega)
    by_cases hp : p i = true
    · rw [fi_stop (by omega) hp, fi_stop (by omega) (e ▸ hp)]
    · have hp : p i = false := by simpa using hp
      rw [fi_next (p := p) (by omega) hp, fi_next (p := q) (by omega) (e ▸ hp)]
      exact fi_cong m (i + 1) (by omega) (fun j a b => h j (by omega) b)
/-- trigraphs -/
def tv (c : Int) : Int := if c = 61 then 35 else if c = 47 then 92 else if c = 39 then 94 else if c = 40 then 91 else if c = 41 then 93 else if c = 33 then 124 else if c = 60 then 123 else if c = 62 then 125 else if c = 45 then 126 else 0
def tq (g : Int → Int) (n i : Int) : Int := if i + 2 < n ∧ g i = 63 ∧ g (i + 1) = 63 then tv (g (i + 2)) else 0
theorem tv_R (c : Int) : 0 ≤ tv c ∧ tv c < 128 := by
  unfold tv
  repeat' split
  all_goals decide
theorem tq_R (g : Int → Int) (n i : Int) : 0 ≤ tq g n i ∧ tq g n i < 128 := by
  unfold tq
  split
  · exact tv_R _
  · decide
theorem tq_lt {g : Int → Int} {n i : Int} (h : ¬ tq g n i = 0) : i + 2 < n := by
  unfold tq at h
  split at h
  · rename_i q
    exact q.1
  · exact absurd rfl h
theorem sio1 {c : Int} (h0 : 0 ≤ c) (h1 : c < 128) : (sio 1 c 20 0 < 0 ↔ tv c = 0) ∧ (0 ≤ sio 1 c 20 0 → sgb 2 (sio 1 c 20 0) = tv c) ∧ -1 ≤ sio 1 c 20 0 ∧ sio 1 c 20 0 < 9 := by
  have h : (List.range 128).all (fun k => decide ((sio 1 (k : Int) 20 0 < 0 ↔ tv (k : Int) = 0) ∧ (0 ≤ sio 1 (k : Int) 20 0 → sgb 2 (sio 1 (k : Int) 20 0) = tv (k : Int)) ∧ -1 ≤ sio 1 (k : Int) 20 0 ∧ sio 1 (k : Int) 20 0 < 9)) = true := by decide +kernel
  have h2 := of_decide_eq_true (List.all_eq_true.mp h c.toNat (List.mem_range.mpr (by omega)))
  rw [Int.toNat_of_nonneg h0] at h2
  exact h2
def tri (g : Int → Int) (n : Int) : Nat → Int → Int → (Int → Int) → (Int → Int) → Int → (Int → Int) × (Int → Int) × Int
  | 0, _, _, A, N, z => (A, N, z)
  | m + 1, i, b, A, N, z => if i < n then tri g n m (i + (if tq g n i = 0 then 0 else 2) + 1) (b + zB (decide (g i = 10))) (w_u A z (if tq g n i = 0 then g i else tq g n i)) (w_u N z b) (z + 1) else (A, N, z)
theorem tri_in {g : Int → Int} {n : Int} {m : Nat} {i b z : Int} {A N : Int → Int} (h : i < n) : tri g n (m + 1) i b A N z = tri g n m (i + (if tq g n i = 0 then 0 else 2) + 1) (b + zB (decide (g i = 10))) (w_u A z (if tq g n i = 0 then g i else tq g n i)) (w_u N z b) (z + 1) := by
  show (if i < n then _ else _) = _
  rw [if_pos h]
theorem tri_out {g : Int → Int} {n : Int} {m : Nat} {i b z : Int} {A N : Int → Int} (h : n ≤ i) : tri g n m i b A N z = (A, N, z) := by
  cases m with
  | zero => rfl
  | succ m =>
    show (if i < n then _ else _) = _
    rw [if_neg (by omega)]

theorem c_tga {sc : x_S} {d : Nat} {S : w_S} {f : Nat} {i : Int} (hf : f < 3) (h0 : 0 ≤ sv S (243 + 2 * f) 1) (h1 : sv S (243 + 2 * f) 1 ≤ 160) (hg : ∀ i, 0 ≤ i → i < sv S (243 + 2 * f) 1 → 0 ≤ sA S (244 + 2 * f) i ∧ sA S (244 + 2 * f) i < 128) (i0 : 0 ≤ i) (i1 : i < sv S (243 + 2 * f) 1) (hd : 4 ≤ d) : w_T sc d 77 0 (x_en 0 [.ref (243 + 2 * f), .int (iZ i)]) [] S (fun v S2 => (∃ e, v = some (.int (iZ e)) ∧ -1 ≤ e ∧ e < 9 ∧ (e < 0 ↔ tq (sA S (244 + 2 * f)) (sv S (243 + 2 * f) 1) i = 0) ∧ (0 ≤ e → sgb 2 e = tq (sA S (244 + 2 * f)) (sv S (243 + 2 * f) 1) i)) ∧ S2 = S) := by
  refine w_iload_n rfl rfl rfl ?_
  refine w_iconst rfl rfl ?_
  refine w_iadd rfl rfl ?_
  refine w_aload_n rfl rfl rfl ?_
  refine w_getI (z := sv S (243 + 2 * f) 1) rfl rfl (sh_txt hf) rfl rfl rfl ?_
  refine w_ic_ge (pc2 := 34) (pc3 := 10) rfl (by decide) rfl ⟨by omega, by omega⟩ ⟨by omega, by omega⟩ (fun c7 => ?_) (fun c7 => ?_)
  · skip
    refine w_iconst rfl rfl ?_
    refine w_iret rfl rfl ?_
    exact ⟨⟨-1, rfl, by decide, by decide, by unfold tq; rw [if_neg (by omega)]; decide, fun z => absurd z (by decide)⟩, rfl⟩
  · skip
    refine w_aload_n rfl rfl rfl ?_
    refine w_getR rfl rfl (sh_txt hf) rfl rfl ?_
    refine w_iload_n rfl rfl rfl ?_
    refine w_cald (z := sA S (244 + 2 * f) i) rfl (sh_txt1 hf) (by omega) (by omega) (by decide) rfl rfl ?_
    have g1 := hg (i) (by omega) (by omega)
    refine w_bipush rfl (by decide) rfl ?_
    refine w_ic_ne (pc2 := 34) (pc3 := 21) rfl (by decide) rfl ⟨by omega, by omega⟩ ⟨by decide, by decide⟩ (fun c18 => ?_) (fun c18 => ?_)
    · skip
      refine w_iconst rfl rfl ?_
      refine w_iret rfl rfl ?_
      exact ⟨⟨-1, rfl, by decide, by decide, by unfold tq; rw [if_neg (by omega)]; decide, fun z => absurd z (by decide)⟩, rfl⟩
    · skip
      refine w_aload_n rfl rfl rfl ?_
      refine w_getR rfl rfl (sh_txt hf) rfl rfl ?_
      refine w_iload_n rfl rfl rfl ?_
      refine w_iconst rfl rfl ?_
      refine w_iadd rfl rfl ?_
      refine w_cald (z := sA S (244 + 2 * f) (i + 1)) rfl (sh_txt1 hf) (by omega) (by omega) (by decide) rfl rfl ?_
      have g2 := hg (i + 1) (by omega) (by omega)
      refine w_bipush rfl (by decide) rfl ?_
      refine w_ic_eq (pc2 := 36) (pc3 := 34) rfl (by decide) rfl ⟨by omega, by omega⟩ ⟨by decide, by decide⟩ (fun c31 => ?_) (fun c31 => ?_)
      · skip
        refine w_ldcs (q := 1) rfl rfl rfl ?_
        refine w_aload_n rfl rfl rfl ?_
        refine w_getR rfl rfl (sh_txt hf) rfl rfl ?_
        refine w_iload_n rfl rfl rfl ?_
        refine w_iconst rfl rfl ?_
        refine w_iadd rfl rfl ?_
        refine w_cald (z := sA S (244 + 2 * f) (i + 2)) rfl (sh_txt1 hf) (by omega) (by omega) (by decide) rfl rfl ?_
        have g3 := hg (i + 2) (by omega) (by omega)
        refine w_C7 (as := [.int (iZ (sA S (244 + 2 * f) (i + 2)))]) (r := []) rfl rfl rfl rfl ⟨by decide, by decide⟩ (Nat.le_of_ble_eq_true rfl) (Nat.le_of_ble_eq_true rfl) (by omega) rfl (c_io (q := 1) (c := sA S (244 + 2 * f) (i + 2)) ⟨by decide, by decide⟩ (by omega) (by omega) (by omega)) ?_
        rintro _ _ ⟨rfl, hS⟩
        rw [hS]
        show w_T _ _ 77 49 _ [.int (iZ (sio 1 (sA S (244 + 2 * f) (i + 2)) 20 0))] _ _
        refine w_iret rfl rfl ?_
        have hs := sio1 (c := sA S (244 + 2 * f) (i + 2)) (by omega) (by omega)
        have ht : tq (sA S (244 + 2 * f)) (sv S (243 + 2 * f) 1) i = tv (sA S (244 + 2 * f) (i + 2)) := by unfold tq; rw [if_pos ⟨by omega, by omega, by omega⟩]
        exact ⟨⟨_, rfl, hs.2.2.1, hs.2.2.2, by rw [ht]; exact hs.1, by rw [ht]; exact hs.2.1⟩, rfl⟩
      · skip
        refine w_iconst rfl rfl ?_
        refine w_iret rfl rfl ?_
        exact ⟨⟨-1, rfl, by decide, by decide, by unfold tq; rw [if_neg (by omega)]; decide, fun z => absurd z (by decide)⟩, rfl⟩
theorem c_rtg_c {sc : x_S} {d : Nat} {S : w_S} {f : Nat} (hf : f < 3) (h0 : 0 ≤ sv S (243 + 2 * f) 1) (h1 : sv S (243 + 2 * f) 1 ≤ 160) (hg : ∀ i, 0 ≤ i → i < sv S (243 + 2 * f) 1 → 0 ≤ sA S (244 + 2 * f) i ∧ sA S (244 + 2 * f) i < 128) (hd : 5 ≤ d) : ∀ n : Nat, (∀ (b : Int) (i : Int) (m : Nat) (T : w_S) (lv : x_L) (l0 : lv 0 = some (.ref 198)) (l1 : lv 1 = some (.ref (243 + 2 * f))) (l2 : lv 2 = some (.int (iZ b))) (l3 : lv 3 = some (.int (iZ i))) (hfr : fr (fun a => a = 198 ∨ a = 199 ∨ a = 200) S T) (i0 : 0 ≤ i) (i1 : i ≤ sv S (243 + 2 * f) 1) (z0 : 0 ≤ sv T 198 2) (z1 : sv T 198 2 ≤ i) (hmm : sv S (243 + 2 * f) 1 - i ≤ m) (hr : ∀ j, 0 ≤ j → j < sv T 198 2 → 0 ≤ sA T 199 j ∧ sA T 199 j < 128) (he : tri (sA S (244 + 2 * f)) (sv S (243 + 2 * f) 1) m i b (sA T 199) (sA T 200) (sv T 198 2) = tri (sA S (244 + 2 * f)) (sv S (243 + 2 * f) 1) 161 0 0 (sA S 199) (sA S 200) 0) (hm : (sv S (243 + 2 * f) 1 - i).toNat < n), w_T sc d 76 9 lv [] T (fun v S2 => v = none ∧ fr (fun a => a = 198 ∨ a = 199 ∨ a = 200) S S2 ∧ (sA S2 199, sA S2 200, sv S2 198 2) = tri (sA S (244 + 2 * f)) (sv S (243 + 2 * f) 1) 161 0 0 (sA S 199) (sA S 200) 0 ∧ 0 ≤ sv S2 198 2 ∧ sv S2 198 2 ≤ 160 ∧ ∀ j, 0 ≤ j → j < sv S2 198 2 → 0 ≤ sA S2 199 j ∧ sA S2 199 j < 128)) := by
  intro n
  induction n with
  | zero => exact fun b i m T lv l0 l1 l2 l3 hfr i0 i1 z0 z1 hmm hr he hm => absurd hm (Nat.not_lt_zero _)
  | succ n ih =>
    intro b i m T lv l0 l1 l2 l3 hfr i0 i1 z0 z1 hmm hr he hm
    have eT : sv T (243 + 2 * f) 1 = sv S (243 + 2 * f) 1 := fr_gv hfr (by omega) 1
    have eA : sA T (244 + 2 * f) = sA S (244 + 2 * f) := fr_gA hfr (by omega)
    have lz2 : sgl 2 = 9 := by decide
    refine w_iload_n rfl l3 rfl ?_
    refine w_aload_n rfl l1 rfl ?_
    refine w_getI (z := sv T (243 + 2 * f) 1) rfl rfl (sh_txt hf) rfl rfl rfl ?_
    refine w_ic_ge (pc2 := 112) (pc3 := 17) rfl (by decide) rfl ⟨by omega, by omega⟩ ⟨by omega, by omega⟩ (fun c14 => ?_) (fun c14 => ?_)
    · skip
      refine w_vret rfl rfl ?_
      exact ⟨rfl, hfr, by rw [← he, tri_out (by omega)], z0, by omega, hr⟩
    · skip
      obtain ⟨mm, rfl⟩ : ∃ mm, m = mm + 1 := ⟨m - 1, by omega⟩
      refine w_aload_n rfl l1 rfl ?_
      refine w_iload_n rfl l3 rfl ?_
      refine w_CS (as := [.ref (243 + 2 * f), .int (iZ i)]) (r := []) rfl rfl rfl rfl (Nat.le_of_ble_eq_true rfl) (Nat.le_of_ble_eq_true rfl) (by omega) rfl (c_tga (S := T) (f := f) (i := i) hf (by omega) (by omega) (by rw [eA, eT]; exact hg) (by omega) (by omega) (by omega)) ?_
      rintro _ _ ⟨⟨e, rfl, e0, e9, ez, em⟩, hS⟩
      rw [hS]
      show w_T _ _ 76 22 _ [.int (iZ e)] _ _
      rw [eA, eT] at ez em
      have hb := sgb_R 2 e
      have et := tq_lt (g := sA S (244 + 2 * f)) (n := sv S (243 + 2 * f) 1) (i := i)
      have hif : ∀ x y : Int, (if 0 ≤ e then x else y) = if tq (sA S (244 + 2 * f)) (sv S (243 + 2 * f) 1) i = 0 then y else x := fun x y => by
        by_cases q : 0 ≤ e
        · rw [if_pos q, if_neg (by omega)]
        · rw [if_neg q, if_pos (by omega)]
      have hch : (if 0 ≤ e then sgb 2 e else sA S (244 + 2 * f) i) = if tq (sA S (244 + 2 * f)) (sv S (243 + 2 * f) 1) i = 0 then sA S (244 + 2 * f) i else tq (sA S (244 + 2 * f)) (sv S (243 + 2 * f) 1) i := by
        by_cases q : 0 ≤ e
        · rw [if_pos q, if_neg (by omega), em q]
        · rw [if_neg q, if_pos (by omega)]
      refine w_istore rfl (by decide) rfl ?_
      refine w_aload_n rfl l1 rfl ?_
      refine w_getR rfl rfl (sh_txt hf) rfl rfl ?_
      refine w_iload_n rfl (congrArg x_k2 l3) rfl ?_
      refine w_cald (z := sA T (244 + 2 * f) i) rfl (sh_txt1 hf) (by omega) (by omega) (by decide) rfl rfl ?_
      have g1 := hg (i) (by omega) (by omega)
      rw [← eA] at g1
      refine w_istore rfl (by decide) rfl ?_
      refine w_aload_n rfl l0 rfl ?_
      refine w_getR rfl rfl sh_198 rfl rfl ?_
      refine w_aload_n rfl l0 rfl ?_
      refine w_getI (z := sv T 198 2) rfl rfl sh_198 rfl rfl rfl ?_
      refine w_iload rfl rfl rfl ?_
      apply w_jn (A := w_T _ _ 76 57 _ [.int (iZ (if 0 ≤ e then sgb 2 e else sA T (244 + 2 * f) i)), .int (iZ (sv T 198 2)), .ref 199] _ _)
      · intro kT
        refine w_if_ge (pc2 := 50) (pc3 := 45) rfl (by decide) rfl ⟨by omega, by omega⟩ (fun q1 => ?_) (fun q1 => ?_)
        · skip
          refine w_ldcs (q := 2) rfl rfl rfl ?_
          refine w_iload rfl rfl rfl ?_
          refine w_C7 (as := [.int (iZ e)]) (r := [.int (iZ (sv T 198 2)), .ref 199]) rfl rfl rfl rfl ⟨by decide, by decide⟩ (Nat.le_of_ble_eq_true rfl) (Nat.le_of_ble_eq_true rfl) (by omega) rfl (c_cha (q := 2) (i := e) ⟨by decide, by decide⟩ (by omega) (by omega) (by omega)) ?_
          rintro _ _ ⟨rfl, hS⟩
          rw [hS]
          show w_T _ _ 76 57 _ [.int (iZ (sgb 2 e)), .int (iZ (sv T 198 2)), .ref 199] _ _
          exact w_ji1 (p := 0 ≤ e) (a := sgb 2 e) (b := sA T (244 + 2 * f) i) q1 kT
        · skip
          refine w_iload rfl rfl rfl ?_
          refine w_goto (pc2 := 57) rfl (by decide) ?_
          exact w_ji0 (p := 0 ≤ e) (a := sgb 2 e) (b := sA T (244 + 2 * f) i) (Int.not_le.mpr q1) kT
      · show w_T _ _ 76 57 _ [.int (iZ (if 0 ≤ e then sgb 2 e else sA T (244 + 2 * f) i)), .int (iZ (sv T 198 2)), .ref 199] _ _
        refine w_caS (f := sA T 199) rfl sh_199 (by omega) (by omega) (by decide) (nar_c (by split <;> omega) (by split <;> omega)) rfl rfl ?_
        refine w_aload_n rfl l0 rfl ?_
        refine w_getR rfl rfl sh_198 rfl rfl ?_
        refine w_aload_n rfl l0 rfl ?_
        refine w_getI (z := sv T 198 2) rfl rfl sh_198 rfl rfl rfl ?_
        refine w_iload_n rfl l2 rfl ?_
        refine w_iaS (f := sA T 200) rfl sh_200 (by omega) (by omega) (by decide) (rA_ne (by decide)) rfl ?_
        refine w_aload_n rfl l0 rfl ?_
        refine w_dup rfl rfl rfl ?_
        refine w_getI (z := sv T 198 2) rfl rfl sh_198 rfl rfl rfl ?_
        refine w_iconst rfl rfl ?_
        refine w_iadd rfl rfl ?_
        refine w_putf rfl rfl sh_198 rfl rfl (by decide) rfl ?_
        refine w_iload_n rfl l2 rfl ?_
        refine w_iload rfl rfl rfl ?_
        refine w_bipush rfl (by decide) rfl ?_
        apply w_jn (A := w_T _ _ 76 91 _ [.int (iZ (zB (decide ((sA T (244 + 2 * f) i) = 10)))), .int (iZ b)] _ _)
        · intro kT
          refine w_ic_ne (pc2 := 90) (pc3 := 86) rfl (by decide) rfl ⟨by omega, by omega⟩ ⟨by decide, by decide⟩ (fun q2 => ?_) (fun q2 => ?_)
          · skip
            refine w_iconst rfl rfl ?_
            exact w_j0 (p := (sA T (244 + 2 * f) i) = 10) q2 kT
          · skip
            refine w_iconst rfl rfl ?_
            refine w_goto (pc2 := 91) rfl (by decide) ?_
            exact w_j1 (p := (sA T (244 + 2 * f) i) = 10) q2 kT
        · show w_T _ _ 76 91 _ [.int (iZ (zB (decide ((sA T (244 + 2 * f) i) = 10)))), .int (iZ b)] _ _
          refine w_iadd rfl rfl ?_
          refine w_istore_n rfl (by decide) rfl ?_
          refine w_iload_n rfl (congrArg x_k2 l3) rfl ?_
          refine w_iload rfl rfl rfl ?_
          apply w_jn (A := w_T _ _ 76 104 _ [.int (iZ (if 0 ≤ e then 2 else 0)), .int (iZ i)] _ _)
          · intro kT
            refine w_if_ge (pc2 := 103) (pc3 := 99) rfl (by decide) rfl ⟨by omega, by omega⟩ (fun q3 => ?_) (fun q3 => ?_)
            · skip
              refine w_iconst rfl rfl ?_
              exact w_ji1 (p := 0 ≤ e) (a := 2) (b := 0) q3 kT
            · skip
              refine w_iconst rfl rfl ?_
              refine w_goto (pc2 := 104) rfl (by decide) ?_
              exact w_ji0 (p := 0 ≤ e) (a := 2) (b := 0) (Int.not_le.mpr q3) kT
          · show w_T _ _ 76 104 _ [.int (iZ (if 0 ≤ e then 2 else 0)), .int (iZ i)] _ _
            refine w_iadd rfl rfl ?_
            refine w_istore_n rfl (by decide) rfl ?_
            refine w_iinc rfl rfl (by decide) rfl ?_
            refine w_goto (pc2 := 9) rfl (by decide) ?_
            exact ih (b + (zB (decide ((sA T (244 + 2 * f) i) = 10)))) ((i + (if 0 ≤ e then 2 else 0)) + 1) mm _ _ (by exact l0) (by exact (congrArg x_k2 l1)) (by exact rfl) (by exact rfl) (by exact (fr_v (fr_A (fr_A hfr (by decide)) (by decide)) (by decide))) (by omega) (by omega) (by show 0 ≤ (sv T 198 2 + 1); omega) (by show (sv T 198 2 + 1) ≤ _; omega) (by omega) (by intro j q1 q2; replace q2 : j < (sv T 198 2 + 1) := q2; show 0 ≤ (w_u (sA T 199) (sv T 198 2) (if 0 ≤ e then sgb 2 e else sA T (244 + 2 * f) i)) j ∧ (w_u (sA T 199) (sv T 198 2) (if 0 ≤ e then sgb 2 e else sA T (244 + 2 * f) i)) j < 128; by_cases hj : j = sv T 198 2; (rw [hj, w_u_self]; split <;> omega); (rw [w_u_ne _ _ hj]; exact hr j q1 (by omega))) (by rw [tri_in (by omega)] at he; refine Eq.trans ?_ he; show tri _ _ _ ((i + (if 0 ≤ e then 2 else 0)) + 1) (b + (zB (decide ((sA T (244 + 2 * f) i) = 10)))) (w_u (sA T 199) (sv T 198 2) (if 0 ≤ e then sgb 2 e else sA T (244 + 2 * f) i)) (w_u (sA T 200) (sv T 198 2) b) (sv T 198 2 + 1) = _; rw [eA, hif, hch]) (by omega)
theorem c_rtg {sc : x_S} {d : Nat} {S : w_S} {f : Nat} (hf : f < 3) (h0 : 0 ≤ sv S (243 + 2 * f) 1) (h1 : sv S (243 + 2 * f) 1 ≤ 160) (hg : ∀ i, 0 ≤ i → i < sv S (243 + 2 * f) 1 → 0 ≤ sA S (244 + 2 * f) i ∧ sA S (244 + 2 * f) i < 128) (hd : 5 ≤ d) : w_T sc d 76 0 (x_en 0 [.ref 198, .ref (243 + 2 * f)]) [] S (fun v S2 => v = none ∧ fr (fun a => a = 198 ∨ a = 199 ∨ a = 200) S S2 ∧ (sA S2 199, sA S2 200, sv S2 198 2) = tri (sA S (244 + 2 * f)) (sv S (243 + 2 * f) 1) 161 0 0 (sA S 199) (sA S 200) 0 ∧ 0 ≤ sv S2 198 2 ∧ sv S2 198 2 ≤ 160 ∧ ∀ j, 0 ≤ j → j < sv S2 198 2 → 0 ≤ sA S2 199 j ∧ sA S2 199 j < 128) := by
  refine w_aload_n rfl rfl rfl ?_
  refine w_iconst rfl rfl ?_
  refine w_putf rfl rfl sh_198 rfl rfl (by decide) rfl ?_
  refine w_iconst rfl rfl ?_
  refine w_istore_n rfl (by decide) rfl ?_
  refine w_iconst rfl rfl ?_
  refine w_istore_n rfl (by decide) rfl ?_
  exact (c_rtg_c hf h0 h1 hg hd _) 0 0 161 _ _ rfl rfl rfl rfl (by exact (fr_v (fr_refl _ _) (by decide))) (by omega) (by omega) (by rw [rv_self]; omega) (by rw [rv_self]; omega) (by omega) (by intro j q1 q2; rw [rv_self] at q2; omega) (by rw [rv_self]; rfl) (Nat.lt_succ_self _)
def jnl (n : Int) : Nat → Int → Int → (Int → Int) → (Int → Int) → (Int → Int) × (Int → Int) × Int
  | 0, _, z, A, N => (A, N, z)
  | m + 1, i, z, A, N => if i < n then (if A i = 92 ∧ i + 1 < n ∧ A (i + 1) = 10 then jnl n m (i + 2) z A N else jnl n m (i + 1) (z + 1) (w_u A z (A i)) (w_u N z (N i))) else (A, N, z)
theorem jnl_2 {n : Int} {m : Nat} {i z : Int} {A N : Int → Int} (h : i < n) (h2 : A i = 92 ∧ i + 1 < n ∧ A (i + 1) = 10) : jnl n (m + 1) i z A N = jnl n m (i + 2) z A N := by
  show (if i < n then (if A i = 92 ∧ i + 1 < n ∧ A (i + 1) = 10 then _ else _) else _) = _
  rw [if_pos h, if_pos h2]
theorem jnl_1 {n : Int} {m : Nat} {i z : Int} {A N : Int → Int} (h : i < n) (h2 : ¬ (A i = 92 ∧ i + 1 < n ∧ A (i + 1) = 10)) : jnl n (m + 1) i z A N = jnl n m (i + 1) (z + 1) (w_u A z (A i)) (w_u N z (N i)) := by
  show (if i < n then (if A i = 92 ∧ i + 1 < n ∧ A (i + 1) = 10 then _ else _) else _) = _
  rw [if_pos h, if_neg h2]
theorem jnl_0 {n : Int} {m : Nat} {i z : Int} {A N : Int → Int} (h : n ≤ i) : jnl n m i z A N = (A, N, z) := by
  cases m with
  | zero => rfl
  | succ m =>
    show (if i < n then _ else _) = _
    rw [if_neg (by omega)]
def jfn (q : (Int → Int) × (Int → Int) × Int) : (Int → Int) × Int := if 0 < q.2.2 ∧ ¬ q.1 (q.2.2 - 1) = 10 then (w_u q.1 q.2.2 10, q.2.2 + 1) else (q.1, q.2.2)
theorem c_jnl_c {sc : x_S} {d : Nat} {S : w_S} (h0 : 0 ≤ sv S 198 2) (h1 : sv S 198 2 ≤ 160) (hg : ∀ j, 0 ≤ j → j < sv S 198 2 → 0 ≤ sA S 199 j ∧ sA S 199 j < 128) (hd : 0 ≤ d) : ∀ n : Nat, (∀ (z : Int) (i : Int) (m : Nat) (T : w_S) (lv : x_L) (l0 : lv 0 = some (.ref 198)) (l1 : lv 1 = some (.int (iZ z))) (l2 : lv 2 = some (.int (iZ i))) (hfr : fr (fun a => a = 199 ∨ a = 200) S T) (i0 : 0 ≤ z) (i1 : z ≤ i) (i2 : i ≤ sv S 198 2) (hmm : sv S 198 2 - i ≤ m) (hr : ∀ j, 0 ≤ j → j < sv S 198 2 → 0 ≤ sA T 199 j ∧ sA T 199 j < 128) (he : jnl (sv S 198 2) m i z (sA T 199) (sA T 200) = jnl (sv S 198 2) 161 0 0 (sA S 199) (sA S 200)) (hm : (sv S 198 2 - i).toNat < n), w_T sc d 78 4 lv [] T (fun v S2 => v = none ∧ fr (fun a => a = 198 ∨ a = 199 ∨ a = 200) S S2 ∧ (sA S2 199, sv S2 198 2) = jfn (jnl (sv S 198 2) 161 0 0 (sA S 199) (sA S 200)) ∧ sA S2 200 = (jnl (sv S 198 2) 161 0 0 (sA S 199) (sA S 200)).2.1 ∧ 0 ≤ sv S2 198 2 ∧ sv S2 198 2 ≤ 161 ∧ ∀ j, 0 ≤ j → j < sv S2 198 2 → 0 ≤ sA S2 199 j ∧ sA S2 199 j < 128)) := by
  intro n
  induction n with
  | zero => exact fun z i m T lv l0 l1 l2 hfr i0 i1 i2 hmm hr he hm => absurd hm (Nat.not_lt_zero _)
  | succ n ih =>
    intro z i m T lv l0 l1 l2 hfr i0 i1 i2 hmm hr he hm
    have eT : sv T 198 2 = sv S 198 2 := fr_gv hfr (by decide) 2
    refine w_iload_n rfl l2 rfl ?_
    refine w_aload_n rfl l0 rfl ?_
    refine w_getI (z := sv T 198 2) rfl rfl sh_198 rfl rfl rfl ?_
    refine w_ic_ge (pc2 := 85) (pc3 := 12) rfl (by decide) rfl ⟨by omega, by omega⟩ ⟨by omega, by omega⟩ (fun c9 => ?_) (fun c9 => ?_)
    · skip
      rw [jnl_0 (by omega)] at he
      have hz : ∀ j, 0 ≤ j → j < z → 0 ≤ sA T 199 j ∧ sA T 199 j < 128 := fun j a b => hr j a (by omega)
      refine w_aload_n rfl l0 rfl ?_
      refine w_iload_n rfl l1 rfl ?_
      refine w_putf rfl rfl sh_198 rfl rfl (by decide) rfl ?_
      refine w_aload_n rfl l0 rfl ?_
      refine w_getI (z := z) rfl rfl sh_198 rfl (rv_self _ _ _ _) rfl ?_
      apply w_br (A := w_T _ _ 78 113 _ [] _ _) (B := w_T _ _ 78 134 _ [] _ _) (0 < z ∧ (¬ (sA T 199 (z - 1)) = 10))
      · intro kT1 kT2
        refine w_if_le (pc2 := 134) (pc3 := 97) rfl (by decide) rfl ⟨by omega, by omega⟩ (fun q1 => ?_) (fun q1 => ?_)
        · skip
          exact kT2 (fun q => (Int.not_lt.mpr q1) q.1)
        · skip
          refine w_aload_n rfl l0 rfl ?_
          refine w_getR rfl rfl sh_198 rfl rfl ?_
          refine w_aload_n rfl l0 rfl ?_
          refine w_getI (z := z) rfl rfl sh_198 rfl (rv_self _ _ _ _) rfl ?_
          refine w_iconst rfl rfl ?_
          refine w_isub rfl rfl ?_
          refine w_cald (z := sA T 199 (z - 1)) rfl sh_199 (by omega) (by omega) (by decide) rfl rfl ?_
          have g2 := hr (z - 1) (by omega) (by omega)
          refine w_bipush rfl (by decide) rfl ?_
          refine w_ic_eq (pc2 := 134) (pc3 := 113) rfl (by decide) rfl ⟨by omega, by omega⟩ ⟨by decide, by decide⟩ (fun q2 => ?_) (fun q2 => ?_)
          · skip
            exact kT2 (fun q => (not_not_intro q2) q.2)
          · skip
            exact kT1 ⟨q1, q2⟩
      · intro c94
        refine w_aload_n rfl l0 rfl ?_
        refine w_getR rfl rfl sh_198 rfl rfl ?_
        refine w_aload_n rfl l0 rfl ?_
        refine w_getI (z := z) rfl rfl sh_198 rfl (rv_self _ _ _ _) rfl ?_
        refine w_bipush rfl (by decide) rfl ?_
        refine w_caS (f := sA T 199) rfl sh_199 (by omega) (by omega) (by decide) (nar_c (by omega) (by omega)) rfl rfl ?_
        refine w_aload_n rfl l0 rfl ?_
        refine w_dup rfl rfl rfl ?_
        refine w_getI (z := z) rfl rfl sh_198 rfl (rv_self T 198 2 z) rfl ?_
        refine w_iconst rfl rfl ?_
        refine w_iadd rfl rfl ?_
        refine w_putf rfl rfl sh_198 rfl rfl (by decide) rfl ?_
        refine w_vret rfl rfl ?_
        have hj : jfn (sA T 199, sA T 200, z) = (w_u (sA T 199) z 10, z + 1) := by unfold jfn; rw [if_pos c94]
        refine ⟨rfl, (fr_v (fr_A (fr_v (fr_mono hfr (by omega)) (by decide)) (by decide)) (by decide)), by rw [← he, hj]; rfl, by rw [← he]; rfl, (by show 0 ≤ (z + 1); omega), (by show (z + 1) ≤ 161; omega), ?_⟩
        intro j q1 q2
        replace q2 : j < (z + 1) := q2
        show 0 ≤ (w_u (sA T 199) z 10) j ∧ (w_u (sA T 199) z 10) j < 128
        by_cases hj2 : j = z
        · rw [hj2, w_u_self]; decide
        · rw [w_u_ne _ _ hj2]; exact hz j q1 (by omega)
      · intro c94
        refine w_vret rfl rfl ?_
        have hj : jfn (sA T 199, sA T 200, z) = (sA T 199, z) := by unfold jfn; rw [if_neg c94]
        refine ⟨rfl, (fr_v (fr_mono hfr (by omega)) (by decide)), by rw [← he, hj]; rfl, by rw [← he]; rfl, (by show 0 ≤ z; omega), (by show z ≤ 161; omega), ?_⟩
        exact hz
    · skip
      obtain ⟨mm, rfl⟩ : ∃ mm, m = mm + 1 := ⟨m - 1, by omega⟩
      refine w_aload_n rfl l0 rfl ?_
      refine w_getR rfl rfl sh_198 rfl rfl ?_
      refine w_iload_n rfl l2 rfl ?_
      refine w_cald (z := sA T 199 i) rfl sh_199 (by omega) (by omega) (by decide) rfl rfl ?_
      have g3 := hr (i) (by omega) (by omega)
      refine w_bipush rfl (by decide) rfl ?_
      apply w_br (A := w_T _ _ 78 46 _ [] _ _) (B := w_T _ _ 78 52 _ [] _ _) (sA T 199 i = 92 ∧ (i + 1 < sv T 198 2 ∧ (sA T 199 (i + 1)) = 10))
      · intro kT1 kT2
        refine w_ic_ne (pc2 := 52) (pc3 := 23) rfl (by decide) rfl ⟨by omega, by omega⟩ ⟨by decide, by decide⟩ (fun q3 => ?_) (fun q3 => ?_)
        · skip
          exact kT2 (fun q => q3 q.1)
        · skip
          refine w_iload_n rfl l2 rfl ?_
          refine w_iconst rfl rfl ?_
          refine w_iadd rfl rfl ?_
          refine w_aload_n rfl l0 rfl ?_
          refine w_getI (z := sv T 198 2) rfl rfl sh_198 rfl rfl rfl ?_
          refine w_ic_ge (pc2 := 52) (pc3 := 33) rfl (by decide) rfl ⟨by omega, by omega⟩ ⟨by omega, by omega⟩ (fun q4 => ?_) (fun q4 => ?_)
          · skip
            exact kT2 (fun q => (fun q => (Int.not_lt.mpr q4) q.1) q.2)
          · skip
            refine w_aload_n rfl l0 rfl ?_
            refine w_getR rfl rfl sh_198 rfl rfl ?_
            refine w_iload_n rfl l2 rfl ?_
            refine w_iconst rfl rfl ?_
            refine w_iadd rfl rfl ?_
            refine w_cald (z := sA T 199 (i + 1)) rfl sh_199 (by omega) (by omega) (by decide) rfl rfl ?_
            have g5 := hr (i + 1) (by omega) (by omega)
            refine w_bipush rfl (by decide) rfl ?_
            refine w_ic_ne (pc2 := 52) (pc3 := 46) rfl (by decide) rfl ⟨by omega, by omega⟩ ⟨by decide, by decide⟩ (fun q5 => ?_) (fun q5 => ?_)
            · skip
              exact kT2 (fun q => (fun q => q5 q.2) q.2)
            · skip
              exact kT1 ⟨q3, ⟨q4, q5⟩⟩
      · intro c20
        refine w_iinc rfl l2 (by decide) rfl ?_
        refine w_goto (pc2 := 79) rfl (by decide) ?_
        refine w_iinc rfl rfl (by decide) rfl ?_
        refine w_goto (pc2 := 4) rfl (by decide) ?_
        exact ih z (i + 1 + 1) mm _ _ (by exact l0) (by exact (congrArg x_k2 (congrArg x_k2 l1))) (by exact rfl) (by exact hfr) (by omega) (by omega) (by omega) (by omega) (by exact hr) (by rw [jnl_2 (by omega) (by rw [eT] at *; omega)] at he; refine Eq.trans ?_ he; show jnl _ _ (i + 1 + 1) (z) (sA T 199) (sA T 200) = _; first | rfl | (congr 1; omega)) (by omega)
      · intro c20
        refine w_aload_n rfl l0 rfl ?_
        refine w_getR rfl rfl sh_198 rfl rfl ?_
        refine w_iload_n rfl l1 rfl ?_
        refine w_aload_n rfl l0 rfl ?_
        refine w_getR rfl rfl sh_198 rfl rfl ?_
        refine w_iload_n rfl l2 rfl ?_
        refine w_cald (z := sA T 199 i) rfl sh_199 (by omega) (by omega) (by decide) rfl rfl ?_
        have g6 := hr (i) (by omega) (by omega)
        refine w_caS (f := sA T 199) rfl sh_199 (by omega) (by omega) (by decide) (nar_c (by omega) (by omega)) rfl rfl ?_
        refine w_aload_n rfl l0 rfl ?_
        refine w_getR rfl rfl sh_198 rfl rfl ?_
        refine w_iload_n rfl l1 rfl ?_
        refine w_aload_n rfl l0 rfl ?_
        refine w_getR rfl rfl sh_198 rfl rfl ?_
        refine w_iload_n rfl l2 rfl ?_
        refine w_iald (z := sA T 200 i) rfl sh_200 (by omega) (by omega) (by decide) (congrFun (rA_ne (by decide)) _) rfl ?_
        refine w_iaS (f := sA T 200) rfl sh_200 (by omega) (by omega) (by decide) (rA_ne (by decide)) rfl ?_
        refine w_iinc rfl l1 (by decide) rfl ?_
        refine w_iinc rfl l2 (by decide) rfl ?_
        refine w_goto (pc2 := 4) rfl (by decide) ?_
        exact ih (z + 1) (i + 1) mm _ _ (by exact (congrArg x_k2 l0)) (by exact rfl) (by exact rfl) (by exact (fr_A (fr_A hfr (by decide)) (by decide))) (by omega) (by omega) (by omega) (by omega) (by intro j q1 q2; show 0 ≤ (w_u (sA T 199) z (sA T 199 i)) j ∧ (w_u (sA T 199) z (sA T 199 i)) j < 128; by_cases hj : j = z; (rw [hj, w_u_self]; omega); (rw [w_u_ne _ _ hj]; exact hr j q1 q2)) (by rw [jnl_1 (by omega) (by rw [eT] at *; omega)] at he; refine Eq.trans ?_ he; show jnl _ _ (i + 1) (z + 1) (w_u (sA T 199) z (sA T 199 i)) (w_u (sA T 200) z (sA T 200 i)) = _; first | rfl | (congr 1; omega)) (by omega)
theorem c_jnl {sc : x_S} {d : Nat} {S : w_S} (h0 : 0 ≤ sv S 198 2) (h1 : sv S 198 2 ≤ 160) (hg : ∀ j, 0 ≤ j → j < sv S 198 2 → 0 ≤ sA S 199 j ∧ sA S 199 j < 128) (hd : 0 ≤ d) : w_T sc d 78 0 (x_en 0 [.ref 198]) [] S (fun v S2 => v = none ∧ fr (fun a => a = 198 ∨ a = 199 ∨ a = 200) S S2 ∧ (sA S2 199, sv S2 198 2) = jfn (jnl (sv S 198 2) 161 0 0 (sA S 199) (sA S 200)) ∧ sA S2 200 = (jnl (sv S 198 2) 161 0 0 (sA S 199) (sA S 200)).2.1 ∧ 0 ≤ sv S2 198 2 ∧ sv S2 198 2 ≤ 161 ∧ ∀ j, 0 ≤ j → j < sv S2 198 2 → 0 ≤ sA S2 199 j ∧ sA S2 199 j < 128) := by
  refine w_iconst rfl rfl ?_
  refine w_istore_n rfl (by decide) rfl ?_
  refine w_iconst rfl rfl ?_
  refine w_istore_n rfl (by decide) rfl ?_
  exact (c_jnl_c h0 h1 hg hd _) 0 0 161 _ _ rfl rfl rfl (by exact (fr_refl _ _)) (by omega) (by omega) (by omega) (by omega) (by exact hg) (by rfl) (Nat.lt_succ_self _)
