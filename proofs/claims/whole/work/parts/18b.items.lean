/-! Items by ranges. -/
def p3 (y : Int64) : Bool := decide (y = 59 ∨ y = 123 ∨ y = 125)
def stp3 (p : Int64 → Bool) : Prop := ∀ y, p y = true → y = 59 ∨ y = 123 ∨ y = 125
abbrev RI : Type := Option (List Nd × Int × List Dcl)
section RS
variable (Y : Int → Int64) (mt : Int → Int)
def spp (x e : Int) : Int := if wlk Y mt p3 200 x e < e ∧ ¬ Y (wlk Y mt p3 200 x e) = 125 then wlk Y mt p3 200 x e else -1
def rs : Nat → Nat → Bool → Bool → Int → Int → List Dcl → RI
  | 0, _, _, _, _, _, _ => none
  | m + 1, md, ins, td, i, e, D =>
    if md = 0 then
      (if e ≤ i then some ([], 0, D)
       else if ins = true ∧ sdc D (Y i) = false then
         (if Y i = 123 then (rs m 0 true false (i + 1) (mt i) D).bind (fun B => (rs m 0 ins false (mt i + 1) e D).bind (fun R => some ((9, i, B.2.1) :: B.1 ++ R.1, 1 + R.2.1, R.2.2)))
          else if spp Y mt (if wk (Y i) = 3 then i + 1 else i) e < 0 ∨ ¬ Y (spp Y mt (if wk (Y i) = 3 then i + 1 else i) e) = 59 then none
          else (if spp Y mt (if wk (Y i) = 3 then i + 1 else i) e = (if wk (Y i) = 3 then i + 1 else i) then some [] else VE Y D mt 200 (if wk (Y i) = 3 then i + 1 else i) (spp Y mt (if wk (Y i) = 3 then i + 1 else i) e)).bind (fun N => (rs m 0 ins false (spp Y mt (if wk (Y i) = 3 then i + 1 else i) e + 1) e D).bind (fun R => some ((if wk (Y i) = 3 then 11 else 10, if wk (Y i) = 3 then i else spp Y mt (if wk (Y i) = 3 then i + 1 else i) e, if spp Y mt (if wk (Y i) = 3 then i + 1 else i) e = (if wk (Y i) = 3 then i + 1 else i) then 0 else 1) :: N ++ R.1, 1 + R.2.1, R.2.2))))
       else if sdc D (Y i) = false ∨ ¬ ((if wk (Y i) = 2 then i + 1 else i) < e ∧ isT D (Y (if wk (Y i) = 2 then i + 1 else i)) = true) then none
       else if spp Y mt ((if wk (Y i) = 2 then i + 1 else i) + 1) e < 0 then none
       else if Y (spp Y mt ((if wk (Y i) = 2 then i + 1 else i) + 1) e) = 123 then
         (if ins = true ∨ wk (Y i) = 2 then none else (rs m 1 true false ((if wk (Y i) = 2 then i + 1 else i) + 1) (spp Y mt ((if wk (Y i) = 2 then i + 1 else i) + 1) e) D).bind (fun L => (rs m 0 true false (spp Y mt ((if wk (Y i) = 2 then i + 1 else i) + 1) e + 1) (mt (spp Y mt ((if wk (Y i) = 2 then i + 1 else i) + 1) e)) L.2.2).bind (fun B => (rs m 0 ins false (mt (spp Y mt ((if wk (Y i) = 2 then i + 1 else i) + 1) e) + 1) e L.2.2).bind (fun R => some ((8, i, 1 + (L.2.1 + 1)) :: (3, if wk (Y i) = 2 then i + 1 else i, 0) :: (L.1 ++ ((9, spp Y mt ((if wk (Y i) = 2 then i + 1 else i) + 1) e, B.2.1) :: B.1)) ++ R.1, 1 + R.2.1, R.2.2)))))
       else (rs m 1 false (decide (wk (Y i) = 2)) ((if wk (Y i) = 2 then i + 1 else i) + 1) (spp Y mt ((if wk (Y i) = 2 then i + 1 else i) + 1) e) D).bind (fun L => (rs m 0 ins false (spp Y mt ((if wk (Y i) = 2 then i + 1 else i) + 1) e + 1) e L.2.2).bind (fun R => some ((if wk (Y i) = 2 then 2 else 1, i, 1 + L.2.1) :: (3, if wk (Y i) = 2 then i + 1 else i, 0) :: L.1 ++ R.1, 1 + R.2.1, R.2.2))))
    else
      (if ((td = true ∨ ins = true) ∧ see Y mt i (see Y mt i e 44) 61 < see Y mt i e 44) ∨ (ins = true ∧ see Y mt i e 44 < e) then none
       else (rdr Y mt 200 i (see Y mt i (see Y mt i e 44) 61)).bind (fun N => if ins = true ∧ isF N = false then none
         else (if see Y mt i (see Y mt i e 44) 61 = see Y mt i e 44 then some [] else VE Y ((Y (ndg N 0).2.1, td) :: D) mt 200 (see Y mt i (see Y mt i e 44) 61 + 1) (see Y mt i e 44)).bind (fun V => (if see Y mt i e 44 < e then rs m 1 ins td (see Y mt i e 44 + 1) e ((Y (ndg N 0).2.1, td) :: D) else some ([], 0, (Y (ndg N 0).2.1, td) :: D)).bind (fun R => some (dnd N (if see Y mt i (see Y mt i e 44) 61 = see Y mt i e 44 then 0 else 1) ++ V ++ R.1, 1 + R.2.1, R.2.2)))))
end RS
def Wz (Y : Int → Int64) (mt : Int → Int) (a k : Int) : Prop := ∀ p, stp3 p → ∃ c : Nat, (c : Int) ≤ k - a ∧ ∀ (f : Nat) (e : Int), k ≤ e → wlk Y mt p (c + f) a e = wlk Y mt p f k e
section RS2
variable {Y : Int → Int64} {mt : Int → Int} {n : Int}
theorem Wz_t {a k : Int} (h : Wt Y mt a k) : Wz Y mt a k := fun p hp => h p (fun y hy => by rcases hp y hy with z | z | z; exact Or.inr (Or.inl z); exact Or.inr (Or.inr (Or.inl z)); exact Or.inr (Or.inr (Or.inr z)))
theorem Wz_q {a k : Int} (h : Wq Y mt a k) : Wz Y mt a k := fun p hp => h p (fun y hy => by rcases hp y hy with z | z | z; exact Or.inr (Or.inl z); exact Or.inr (Or.inr (Or.inl z)); exact Or.inr (Or.inr (Or.inr (Or.inl z))))
theorem Wz_0 (a : Int) : Wz Y mt a a := fun p _ => ⟨0, by omega, fun f e _ => by rw [Nat.zero_add]⟩
theorem Wz_cat {a k b : Int} (h1 : Wz Y mt a k) (h2 : Wz Y mt k b) (ab : k ≤ b) : Wz Y mt a b := fun p hp => by
  obtain ⟨c1, l1, e1⟩ := h1 p hp
  obtain ⟨c2, l2, e2⟩ := h2 p hp
  refine ⟨c1 + c2, by omega, fun f e he => ?_⟩
  rw [show c1 + c2 + f = c1 + (c2 + f) by omega, e1 _ e (by omega), e2 f e he]
theorem Wz_1 {k : Int} (h : ¬ (Y k = 59 ∨ Y k = 123 ∨ Y k = 125)) (h2 : ¬ (Y k = 40 ∨ Y k = 91)) : Wz Y mt k (k + 1) := fun p hp => by
  refine ⟨1, by omega, fun f e he => ?_⟩
  have hf : p (Y k) = false := by
    cases q : p (Y k)
    · rfl
    · exact absurd (hp _ q) h
  rw [show 1 + f = f + 1 by omega, wlk_s (by omega) hf, if_neg h2]
theorem spp_at {a q e : Int} (hn : n ≤ 100) (a0 : 0 ≤ a) (qn : q ≤ n) (h : Wz Y mt a q) (he : q < e) (hq : Y q = 59 ∨ Y q = 123) : spp Y mt a e = q := by
  obtain ⟨c, hc, hh⟩ := h p3 (fun y hy => of_decide_eq_true hy)
  have h2 := hh (200 - c) e (by omega)
  rw [show c + (200 - c) = 200 by omega, show 200 - c = (199 - c) + 1 by omega] at h2
  have e2 : wlk Y mt p3 (199 - c + 1) q e = q := by
    have h9 : p3 (Y q) = true := decide_eq_true (by rcases hq with z | z; exact Or.inl z; exact Or.inr (Or.inl z))
    rw [wlk, if_neg (by omega), if_pos h9]
  unfold spp
  rw [h2, e2, if_pos ⟨he, by rcases hq with z | z <;> rw [z] <;> decide⟩]
theorem see_q {a q e : Int} {w : Int64} (hn : n ≤ 100) (a0 : 0 ≤ a) (qn : q ≤ n) (h : ∃ c : Nat, (c : Int) ≤ q - a ∧ ∀ (f : Nat) (e : Int), q ≤ e → wlk Y mt (fun y => decide (y = w)) (c + f) a e = wlk Y mt (fun y => decide (y = w)) f q e) (he : q ≤ e) (hq : q < e → Y q = w) : see Y mt a e w = q := by
  obtain ⟨c, hc, hh⟩ := h
  have h2 := hh (200 - c) e he
  rw [show c + (200 - c) = 200 by omega, show 200 - c = (199 - c) + 1 by omega] at h2
  unfold see
  have e2 : wlk Y mt (fun y => decide (y = w)) (199 - c + 1) q e = q := by
    rw [wlk]
    by_cases z : e ≤ q
    · rw [if_pos z]
    · rw [if_neg z, if_pos (decide_eq_true (hq (by omega)))]
  rw [h2, e2]
  split <;> omega
theorem rs_1 {m : Nat} {ins td : Bool} {i e q r : Int} {D : List Dcl} (hq : see Y mt i e 44 = q) (hr : see Y mt i q 61 = r) : rs Y mt (m + 1) 1 ins td i e D = if ((td = true ∨ ins = true) ∧ r < q) ∨ (ins = true ∧ q < e) then none else (rdr Y mt 200 i r).bind (fun N => if ins = true ∧ isF N = false then none else (if r = q then some [] else VE Y ((Y (ndg N 0).2.1, td) :: D) mt 200 (r + 1) q).bind (fun V => (if q < e then rs Y mt m 1 ins td (q + 1) e ((Y (ndg N 0).2.1, td) :: D) else some ([], 0, (Y (ndg N 0).2.1, td) :: D)).bind (fun R => some (dnd N (if r = q then 0 else 1) ++ V ++ R.1, 1 + R.2.1, R.2.2)))) := by
  rw [rs, if_neg (by decide), hq, hr]
theorem rs_e {m : Nat} {ins : Bool} {i e : Int} {D : List Dcl} (h : e ≤ i) : rs Y mt (m + 1) 0 ins false i e D = some ([], 0, D) := by
  rw [rs, if_pos rfl, if_pos h]
theorem rs_blk {m : Nat} {i e : Int} {D : List Dcl} (h : i < e) (hs : sdc D (Y i) = false) (h123 : Y i = 123) : rs Y mt (m + 1) 0 true false i e D = (rs Y mt m 0 true false (i + 1) (mt i) D).bind (fun B => (rs Y mt m 0 true false (mt i + 1) e D).bind (fun R => some ((9, i, B.2.1) :: B.1 ++ R.1, 1 + R.2.1, R.2.2))) := by
  rw [rs, if_pos rfl, if_neg (by omega), if_pos ⟨rfl, hs⟩, if_pos h123]
theorem rs_stm {m : Nat} {i e p q : Int} {D : List Dcl} (h : i < e) (hs : sdc D (Y i) = false) (h123 : ¬ Y i = 123) (hp : (if wk (Y i) = 3 then i + 1 else i) = p) (hq : spp Y mt p e = q) : rs Y mt (m + 1) 0 true false i e D = if q < 0 ∨ ¬ Y q = 59 then none else (if q = p then some [] else VE Y D mt 200 p q).bind (fun N => (rs Y mt m 0 true false (q + 1) e D).bind (fun R => some ((if wk (Y i) = 3 then 11 else 10, if wk (Y i) = 3 then i else q, if q = p then 0 else 1) :: N ++ R.1, 1 + R.2.1, R.2.2))) := by
  rw [rs, if_pos rfl, if_neg (by omega), if_pos ⟨rfl, hs⟩, if_neg h123, hp, hq]
theorem rs_dec {m : Nat} {ins : Bool} {i e t q : Int} {D : List Dcl} (h : i < e) (hs : sdc D (Y i) = true) (ht : (if wk (Y i) = 2 then i + 1 else i) = t) (hq : spp Y mt (t + 1) e = q) : rs Y mt (m + 1) 0 ins false i e D = if ¬ (t < e ∧ isT D (Y t) = true) then none else if q < 0 then none
       else if Y q = 123 then
         (if ins = true ∨ wk (Y i) = 2 then none else (rs Y mt m 1 true false (t + 1) q D).bind (fun L => (rs Y mt m 0 true false (q + 1) (mt q) L.2.2).bind (fun B => (rs Y mt m 0 ins false (mt q + 1) e L.2.2).bind (fun R => some ((8, i, 1 + (L.2.1 + 1)) :: (3, t, 0) :: (L.1 ++ ((9, q, B.2.1) :: B.1)) ++ R.1, 1 + R.2.1, R.2.2)))))
       else (rs Y mt m 1 false (decide (wk (Y i) = 2)) (t + 1) q D).bind (fun L => (rs Y mt m 0 ins false (q + 1) e L.2.2).bind (fun R => some ((if wk (Y i) = 2 then 2 else 1, i, 1 + L.2.1) :: (3, t, 0) :: L.1 ++ R.1, 1 + R.2.1, R.2.2))) := by
  rw [rs, if_pos rfl, if_neg (by omega), if_neg (fun z => by rw [hs] at z; exact Bool.noConfusion z.2), ht, hq]
  by_cases c : t < e ∧ isT D (Y t) = true
  · rw [if_neg (by rintro (z | z); (rw [hs] at z; exact Bool.noConfusion z); exact z c), if_neg (not_not_intro c)]
  · rw [if_pos (Or.inr c), if_pos c]
theorem rs_no {m : Nat} {i e : Int} {D : List Dcl} (h : i < e) (hs : sdc D (Y i) = false) : rs Y mt (m + 1) 0 false false i e D = none := by
  rw [rs, if_pos rfl, if_neg (by omega), if_neg (fun z => Bool.noConfusion z.1), if_pos (Or.inl hs)]
end RS2
