/-! What is taken from the left to the right is what the ranges give. -/
def stp (p : Int64 → Bool) : Prop := ∀ y, p y = true → y = 44 ∨ y = 59 ∨ y = 123 ∨ y = 125
def Tr (Y : Int → Int64) (D : List Dcl) (mt : Int → Int) (a k : Int) (L : List Int) : Prop := ∃ c : Nat, (c : Int) ≤ k - a ∧ ∀ (f : Nat) (b : Int), k ≤ b → cs Y D mt (c + f) a b true = (cs Y D mt f k b false).bind (fun R => some (L ++ R))
def Wt (Y : Int → Int64) (mt : Int → Int) (a k : Int) : Prop := ∀ p, stp p → ∃ c : Nat, (c : Int) ≤ k - a ∧ ∀ (f : Nat) (e : Int), k ≤ e → wlk Y mt p (c + f) a e = wlk Y mt p f k e
def XC (Y : Int → Int64) (D : List Dcl) (mt : Int → Int) (n a k : Int) (N : List Nd) (L : List Int) : Prop := a < k ∧ k ≤ n ∧ bal Y a k ∧ Tr Y D mt a k L ∧ Wt Y mt a k ∧ ∀ f : Nat, k - a < f → VE Y D mt f a k = some N
section XCS
variable {Y : Int → Int64} {D : List Dcl} {mt : Int → Int} {n : Int}
theorem cs_t {m : Nat} {k b : Int} (h : k < b) : cs Y D mt (m + 1) k b true = (if Y k = 40 ∧ isT D (Y (k + 1)) = true then (if cok Y mt k = true then cs Y D mt m (mt k + 1) b true else none) else if prf (Y k) = true then cs Y D mt m (k + 1) b true else if Y k = 40 then cs Y D mt m (mt k + 1) b false else if wk (Y k) = 5 ∨ (wk (Y k) = 4 ∧ isT D (Y k) = false) then cs Y D mt m (k + 1) b false else none) := by
  rw [cs, if_neg (by omega), if_pos rfl]
theorem cs_f {m : Nat} {k b : Int} (h : k < b) : cs Y D mt (m + 1) k b false = if Y k = 40 ∨ Y k = 91 then cs Y D mt m (mt k + 1) b false else if stq (Y k) < 0 then none else (cs Y D mt m (k + 1) b true).bind (fun L => some (k :: L)) := by
  rw [cs, if_neg (by omega), if_neg (by decide)]
theorem cs_e {m : Nat} {k b : Int} (h : b ≤ k) : cs Y D mt (m + 1) k b false = some [] := by
  rw [cs, if_pos h, if_neg (by decide)]
theorem wlk_s {p : Int64 → Bool} {m : Nat} {k e : Int} (h : k < e) (hp : p (Y k) = false) : wlk Y mt p (m + 1) k e = wlk Y mt p m (if Y k = 40 ∨ Y k = 91 then mt k + 1 else k + 1) e := by
  rw [wlk, if_neg (by omega), if_neg (by rw [hp]; decide)]
theorem stp_f {p : Int64 → Bool} (h : stp p) {y : Int64} (h1 : ¬ (y = 44 ∨ y = 59 ∨ y = 123 ∨ y = 125)) : p y = false := by
  cases q : p y
  · rfl
  · exact absurd (h y q) h1
theorem wk_nb {y : Int64} (h : wk y = 4 ∨ wk y = 5) : opn y = false ∧ clo y = false ∧ ¬ (y = 44 ∨ y = 59 ∨ y = 123 ∨ y = 125) ∧ prf y = false ∧ ¬ y = 40 ∧ ¬ y = 91 := by
  have key : ∀ c : Int64, wk c = 0 → ¬ y = c := fun c hc z => by rw [z, hc] at h; omega
  refine ⟨?_, ?_, ?_, ?_, key 40 (by decide), key 91 (by decide)⟩
  · exact decide_eq_false (by rintro (z | z | z); exact key 40 (by decide) z; exact key 91 (by decide) z; exact key 123 (by decide) z)
  · exact decide_eq_false (by rintro (z | z | z); exact key 41 (by decide) z; exact key 93 (by decide) z; exact key 125 (by decide) z)
  · rintro (z | z | z | z)
    · exact key 44 (by decide) z
    · exact key 59 (by decide) z
    · exact key 123 (by decide) z
    · exact key 125 (by decide) z
  · exact decide_eq_false (by rintro (z | z | z); exact key 45 (by decide) z; exact key 42 (by decide) z; exact key 38 (by decide) z)
theorem prf_nb {y : Int64} (h : prf y = true) : opn y = false ∧ clo y = false ∧ ¬ (y = 44 ∨ y = 59 ∨ y = 123 ∨ y = 125) ∧ ¬ y = 40 ∧ ¬ y = 91 := by
  have := of_decide_eq_true h
  rcases this with z | z | z <;> rw [z] <;> exact ⟨by decide, by decide, by decide, by decide, by decide⟩
theorem stq_nb {y : Int64} (h : 0 ≤ stq y) : opn y = false ∧ clo y = false ∧ ¬ (y = 44 ∨ y = 59 ∨ y = 123 ∨ y = 125) ∧ ¬ y = 40 ∧ ¬ y = 91 := by
  have key : ∀ c : Int64, stq c = -1 → ¬ y = c := fun c hc z => by rw [z, hc] at h; omega
  refine ⟨decide_eq_false (by rintro (z | z | z); exact key 40 (by decide) z; exact key 91 (by decide) z; exact key 123 (by decide) z), decide_eq_false (by rintro (z | z | z); exact key 41 (by decide) z; exact key 93 (by decide) z; exact key 125 (by decide) z), ?_, key 40 (by decide), key 91 (by decide)⟩
  rintro (z | z | z | z)
  · exact key 44 (by decide) z
  · exact key 59 (by decide) z
  · exact key 123 (by decide) z
  · exact key 125 (by decide) z
theorem Tr_cs {a k : Int} {L : List Int} (h : Tr Y D mt a k L) (a0 : 0 ≤ a) (k1 : k ≤ 100) : cs Y D mt 200 a k true = some L := by
  obtain ⟨c, hc, h⟩ := h
  have e := h (200 - c) k (Int.le_refl _)
  rw [show c + (200 - c) = 200 by omega, show 200 - c = (199 - c) + 1 by omega, cs_e (Int.le_refl _)] at e
  rw [e]
  show some (L ++ []) = some L
  rw [List.append_nil]
theorem VE_1 {m : Nat} {a b : Int} (h : cs Y D mt 200 a b true = some []) : VE Y D mt (m + 1) a b = (if prf (Y a) = true then (VE Y D mt m (a + 1) b).bind (fun N => some ((13, a, 1) :: N))
       else if Y a = 40 ∧ isT D (Y (a + 1)) = true then (VE Y D mt m (mt a + 1) b).bind (fun N => some ((14, a, 2 + (mt a - (a + 2))) :: (3, a + 1, 0) :: stF (mt a - (a + 2)).toNat (a + 2) ++ N))
       else if a = b - 1 then some [(if wk (Y a) = 5 then 18 else 17, a, 0)]
       else if mt (b - 1) = a then VE Y D mt m (a + 1) (b - 1)
       else if Y (mt (b - 1)) = 91 then (VE Y D mt m a (mt (b - 1))).bind (fun N => (VE Y D mt m (mt (b - 1) + 1) (b - 1)).bind (fun N2 => some ((15, mt (b - 1), 2) :: N ++ N2)))
       else (VE Y D mt m a (mt (b - 1))).bind (fun N => (if b - 1 ≤ mt (b - 1) + 1 then some ([], 0) else VA Y mt (VE Y D mt m) 200 (mt (b - 1) + 1) (b - 1)).bind (fun r => some ((16, mt (b - 1), 1 + r.2) :: N ++ r.1)))) := by
  rw [VE, h, Option.bind_some]
  first
    | exact if_pos rfl
    | rfl
    | simp only [if_true]
theorem VE_2 {m : Nat} {a b : Int} {L : List Int} (h : cs Y D mt 200 a b true = some L) (hL : ¬ L = []) : VE Y D mt (m + 1) a b = (VE Y D mt m a (pickN Y L (-1) 9)).bind (fun N => (VE Y D mt m (pickN Y L (-1) 9 + 1) b).bind (fun N2 => some ((12, pickN Y L (-1) 9, 2) :: N ++ N2))) := by
  rw [VE, h]
  exact if_neg hL
theorem fpos {f : Nat} {z : Int} (h : z < f) (h0 : 0 ≤ z) : ∃ g : Nat, f = g + 1 := ⟨f - 1, by omega⟩
theorem XC_leaf {a : Int} (a0 : 0 ≤ a) (a1 : a < n) (hn : n ≤ 100) (h : wk (Y a) = 5 ∨ (wk (Y a) = 4 ∧ isT D (Y a) = false)) : XC Y D mt n a (a + 1) [(if wk (Y a) = 5 then 18 else 17, a, 0)] [] := by
  have hb := wk_nb (y := Y a) (by rcases h with z | z; exact Or.inr z; exact Or.inl z.1)
  have ht : Tr Y D mt a (a + 1) [] := by
    refine ⟨1, by omega, fun f b hb2 => ?_⟩
    rw [show 1 + f = f + 1 by omega, cs_t (by omega), if_neg (fun z => hb.2.2.2.2.1 z.1), if_neg (by rw [hb.2.2.2.1]; decide), if_neg hb.2.2.2.2.1, if_pos h]
    cases cs Y D mt f (a + 1) b false with
    | none => rfl
    | some R => rfl
  refine ⟨by omega, by omega, bal_1 hb.1 hb.2.1, ht, fun p hp => ⟨1, by omega, fun f e he => ?_⟩, fun f hf => ?_⟩
  · rw [show 1 + f = f + 1 by omega, wlk_s (by omega) (stp_f hp hb.2.2.1), if_neg (by rintro (z | z); exact hb.2.2.2.2.1 z; exact hb.2.2.2.2.2 z)]
  · obtain ⟨g, rfl⟩ := fpos hf (by omega)
    rw [VE_1 (Tr_cs ht a0 (by omega)), if_neg (by rw [hb.2.2.2.1]; decide), if_neg (fun z => hb.2.2.2.2.1 z.1), if_pos (by omega)]
theorem XC_par (hM : MTP Y n mt) {a q : Int} {N : List Nd} {L : List Int} (a0 : 0 ≤ a) (hn : n ≤ 100) (h : XC Y D mt n (a + 1) q N L) (h40 : Y a = 40) (hnt : ¬ isT D (Y (a + 1)) = true) (h41 : Y q = 41) (hq : q < n) : XC Y D mt n a (q + 1) N [] := by
  have hp : prb (Y a) (Y q) = true := by rw [h40, h41]; decide
  have hm : mt a = q := mt_u hM a0 (by have := h.1; omega) h.2.2.1 hp
  have hm2 : mt q = a := by rw [← hm]; exact (hM a a0 (by have := h.1; omega) (by rw [h40]; decide)).2.2.2.2
  have aq := h.1
  have ht : Tr Y D mt a (q + 1) [] := by
    refine ⟨1, by omega, fun f b hb2 => ?_⟩
    rw [show 1 + f = f + 1 by omega, cs_t (by omega), if_neg (fun z => hnt z.2), if_neg (by rw [h40]; decide), if_pos h40, hm]
    cases cs Y D mt f (q + 1) b false with
    | none => rfl
    | some R => rfl
  refine ⟨by omega, by omega, bal_br h.2.2.1 hp, ht, fun p hp2 => ⟨1, by omega, fun f e he => ?_⟩, fun f hf => ?_⟩
  · rw [show 1 + f = f + 1 by omega, wlk_s (by omega) (stp_f hp2 (by rw [h40]; decide)), if_pos (Or.inl h40), hm]
  · obtain ⟨g, rfl⟩ := fpos hf (by omega)
    rw [VE_1 (Tr_cs ht a0 (by omega)), if_neg (by rw [h40]; decide), if_neg (fun z => hnt z.2), if_neg (by omega), show q + 1 - 1 = q by omega, if_pos hm2]
    exact h.2.2.2.2.2 g (by omega)
theorem XC_pre {a k : Int} {N : List Nd} {L : List Int} (a0 : 0 ≤ a) (hn : n ≤ 100) (h : XC Y D mt n (a + 1) k N L) (hL : L = []) (hp : prf (Y a) = true) : XC Y D mt n a k ((13, a, 1) :: N) L := by
  have hb := prf_nb hp
  have ak := h.1
  have ht : Tr Y D mt a k L := by
    obtain ⟨c, hc, hh⟩ := h.2.2.2.1
    refine ⟨c + 1, by omega, fun f b hb2 => ?_⟩
    rw [show c + 1 + f = (c + f) + 1 by omega, cs_t (by omega), if_neg (fun z => hb.2.2.2.1 z.1), if_pos hp]
    exact hh f b hb2
  refine ⟨by omega, h.2.1, bal_cat (bal_1 hb.1 hb.2.1) h.2.2.1, ht, fun p hp2 => ?_, fun f hf => ?_⟩
  · obtain ⟨c, hc, hh⟩ := h.2.2.2.2.1 p hp2
    refine ⟨c + 1, by omega, fun f e he => ?_⟩
    rw [show c + 1 + f = (c + f) + 1 by omega, wlk_s (by omega) (stp_f hp2 hb.2.2.1), if_neg (by rintro (z | z); exact hb.2.2.2.1 z; exact hb.2.2.2.2 z)]
    exact hh f e he
  · obtain ⟨g, rfl⟩ := fpos hf (by omega)
    subst hL
    rw [VE_1 (Tr_cs ht a0 (by have := h.2.1; omega)), if_pos hp, h.2.2.2.2.2 g (by omega)]
    rfl
theorem stN_all {a : Int} : ∀ s, a ≤ s → s < stN Y n a → s < n → Y s = 42 := fun s s0 s1 s2 => by
  have := fi_bef (p := fun j => decide (¬ Y j = 42)) (n := n) _ a rfl s s0 s1 s2
  exact Decidable.not_not.1 (of_decide_eq_false this)
theorem bal_stars : ∀ (m : Nat) (a : Int), (∀ s, a ≤ s → s < a + m → Y s = 42) → bal Y a (a + m)
  | 0, a, _ => by
    rw [show a + ((0 : Nat) : Int) = a by omega]
    exact bal_0 Y a
  | m + 1, a, h => by
    have h0 := h a (Int.le_refl _) (by omega)
    have i := bal_stars m (a + 1) (fun s s0 s1 => h s (by omega) (by omega))
    rw [show a + 1 + (m : Int) = a + ((m + 1 : Nat) : Int) by omega] at i
    exact bal_cat (bal_1 (by rw [h0]; decide) (by rw [h0]; decide)) i
theorem isT_nb {y : Int64} (h : isT D y = true) : opn y = false ∧ clo y = false := by
  have hw : wk y = 4 ∨ wk y = 1 := by
    unfold isT at h
    split at h
    · exact Or.inl (by assumption)
    · exact Or.inr (of_decide_eq_true h)
  have key : ∀ c : Int64, wk c = 0 → ¬ y = c := fun c hc z => by rw [z, hc] at hw; omega
  exact ⟨decide_eq_false (by rintro (z | z | z); exact key 40 (by decide) z; exact key 91 (by decide) z; exact key 123 (by decide) z), decide_eq_false (by rintro (z | z | z); exact key 41 (by decide) z; exact key 93 (by decide) z; exact key 125 (by decide) z)⟩
theorem cast_mt (hM : MTP Y n mt) {a : Int} (a0 : 0 ≤ a) (h40 : Y a = 40) (ht : isT D (Y (a + 1)) = true) (ha : a + 1 < n) (h41 : Y (stN Y n (a + 2)) = 41) (hs : stN Y n (a + 2) < n) : mt a = stN Y n (a + 2) ∧ bal Y a (stN Y n (a + 2) + 1) ∧ cok Y mt a = true := by
  have sr := stN_r (Y := Y) (n := n) (a := a + 2) (by omega)
  have hp : prb (Y a) (Y (stN Y n (a + 2))) = true := by rw [h40, h41]; decide
  have hb : bal Y (a + 1) (stN Y n (a + 2)) := by
    have b2 := bal_stars (Y := Y) (stN Y n (a + 2) - (a + 2)).toNat (a + 2) (fun s s0 s1 => stN_all (n := n) s s0 (by omega) (by omega))
    rw [show a + 2 + ((stN Y n (a + 2) - (a + 2)).toNat : Int) = stN Y n (a + 2) by omega] at b2
    have b1 := bal_1 (isT_nb ht).1 (isT_nb ht).2
    rw [show a + 1 + 1 = a + 2 by omega] at b1
    exact bal_cat b1 b2
  have hm := mt_u hM a0 (by omega) hb hp
  refine ⟨hm, bal_br hb hp, decide_eq_true ?_⟩
  rw [hm]
  exact fi_any _ (a + 2) rfl (fun s s0 s1 => decide_eq_false (not_not_intro (stN_all (n := n) s s0 s1 (by omega))))
theorem XC_cst (hM : MTP Y n mt) {a k : Int} {N : List Nd} (a0 : 0 ≤ a) (hn : n ≤ 100) (h40 : Y a = 40) (hty : isT D (Y (a + 1)) = true) (ha : a + 1 < n) (h41 : Y (stN Y n (a + 2)) = 41) (hs : stN Y n (a + 2) < n) (h : XC Y D mt n (stN Y n (a + 2) + 1) k N []) : XC Y D mt n a k ((14, a, 2 + (stN Y n (a + 2) - (a + 2))) :: (3, a + 1, 0) :: stF (stN Y n (a + 2) - (a + 2)).toNat (a + 2) ++ N) [] := by
  have c := cast_mt hM a0 h40 hty ha h41 hs
  have sr := stN_r (Y := Y) (n := n) (a := a + 2) (by omega)
  have ak := h.1
  have ht : Tr Y D mt a k [] := by
    obtain ⟨c1, hc, hh⟩ := h.2.2.2.1
    refine ⟨c1 + 1, by omega, fun f b hb2 => ?_⟩
    rw [show c1 + 1 + f = (c1 + f) + 1 by omega, cs_t (by omega), if_pos ⟨h40, hty⟩, if_pos c.2.2, c.1]
    exact hh f b hb2
  refine ⟨by omega, h.2.1, bal_cat c.2.1 h.2.2.1, ht, fun p hp2 => ?_, fun f hf => ?_⟩
  · obtain ⟨c1, hc, hh⟩ := h.2.2.2.2.1 p hp2
    refine ⟨c1 + 1, by omega, fun f e he => ?_⟩
    rw [show c1 + 1 + f = (c1 + f) + 1 by omega, wlk_s (by omega) (stp_f hp2 (by rw [h40]; decide)), if_pos (Or.inl h40), c.1]
    exact hh f e he
  · obtain ⟨g, rfl⟩ := fpos hf (by omega)
    rw [VE_1 (Tr_cs ht a0 (by have := h.2.1; omega)), if_neg (by rw [h40]; decide), if_pos ⟨h40, hty⟩, c.1, h.2.2.2.2.2 g (by omega)]
    rfl
theorem XC_bin {a k b : Int} {N N2 : List Nd} {L L2 : List Int} (a0 : 0 ≤ a) (hn : n ≤ 100) (h1 : XC Y D mt n a k N L) (h2 : XC Y D mt n (k + 1) b N2 L2) (hk : 0 ≤ stq (Y k)) (hpk : pickN Y (L ++ k :: L2) (-1) 9 = k) : XC Y D mt n a b ((12, k, 2) :: N ++ N2) (L ++ k :: L2) := by
  have hb := stq_nb hk
  have a1 := h1.1
  have a2 := h2.1
  have ht : Tr Y D mt a b (L ++ k :: L2) := by
    obtain ⟨c1, hc1, hh1⟩ := h1.2.2.2.1
    obtain ⟨c2, hc2, hh2⟩ := h2.2.2.2.1
    refine ⟨c1 + (c2 + 1), by omega, fun f b2 hb2 => ?_⟩
    rw [show c1 + (c2 + 1) + f = c1 + ((c2 + f) + 1) by omega, hh1 _ b2 (by omega), cs_f (by omega), if_neg (by rintro (z | z); exact hb.2.2.2.1 z; exact hb.2.2.2.2 z), if_neg (by omega), hh2 f b2 hb2]
    cases cs Y D mt f b b2 false with
    | none => rfl
    | some R =>
      show some (L ++ (k :: (L2 ++ R))) = some (L ++ k :: L2 ++ R)
      rw [List.append_assoc]
      rfl
  refine ⟨by omega, h2.2.1, bal_cat h1.2.2.1 (bal_cat (bal_1 hb.1 hb.2.1) h2.2.2.1), ht, fun p hp2 => ?_, fun f hf => ?_⟩
  · obtain ⟨c1, hc1, hh1⟩ := h1.2.2.2.2.1 p hp2
    obtain ⟨c2, hc2, hh2⟩ := h2.2.2.2.2.1 p hp2
    refine ⟨c1 + (c2 + 1), by omega, fun f e he => ?_⟩
    rw [show c1 + (c2 + 1) + f = c1 + ((c2 + f) + 1) by omega, hh1 _ e (by omega), wlk_s (by omega) (stp_f hp2 hb.2.2.1), if_neg (by rintro (z | z); exact hb.2.2.2.1 z; exact hb.2.2.2.2 z)]
    exact hh2 f e he
  · obtain ⟨g, rfl⟩ := fpos hf (by omega)
    rw [VE_2 (Tr_cs ht a0 (by have := h2.2.1; omega)) (by intro z; exact absurd (congrArg List.length z) (by rw [List.length_append, List.length_cons, List.length_nil]; omega)), hpk, h1.2.2.2.2.2 g (by omega)]
    show (VE Y D mt g (k + 1) b).bind _ = _
    rw [h2.2.2.2.2.2 g (by omega)]
    rfl
end XCS
