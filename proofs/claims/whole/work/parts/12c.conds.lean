/-! Conditionals, and what a directive asks: the class. -/
abbrev Cnd : Type := Bool × Bool
def skp : List Cnd → Bool
  | [] => false
  | c :: _ => c.1
def csr (A B : Int → Int) : List Cnd → Prop
  | [] => True
  | c :: r => A r.length = zB (c.1 == c.2) ∧ B r.length = zB c.2 ∧ csr A B r
def crep (S : w_S) (l : Nat) (cs : List Cnd) : Prop := sv S (202 + 8 * l) 9 = cs.length ∧ csr (sA S (208 + 8 * l)) (sA S (209 + 8 * l)) cs ∧ sv S (202 + 8 * l) 10 = zB (skp cs)
def csok (cs : List Cnd) : Prop := ∀ c, c ∈ cs.tail → c.1 = false
def tels : List Cnd → Int × List Cnd
  | [] => (4, [])
  | c :: r => if c.2 = true then (4, c :: r) else (0, (!c.1, true) :: r)
def tcls : List Cnd → Int × List Cnd
  | [] => (4, [])
  | _ :: r => (0, r)
/-- a line that is skipped: does it end the skipping, and how many wholes are begun behind it -/
def lvs (X : Int → Int64) (a e dp : Int) : Bool × Int := if ¬ X a = 35 ∨ e ≤ a + 1 then (false, dp) else if X (a + 1) = 28401283814 ∨ X (a + 1) = 3635385283302 then (false, dp + 1) else if 0 < dp then (false, dp - (if X (a + 1) = 27344319718 then 1 else 0)) else (decide (X (a + 1) = 27344319718 ∨ X (a + 1) = 213596645), dp)
def dfn (T : List Mac) (t : List Tok) (a e : Int) : Int × List Mac := if e ≤ a ∨ nam (tx t a) = false then (3, T) else if a + 1 < e ∧ tx t (a + 1) = 40 ∧ tgl t (a + 1) = true then (if pe (tx t) (a + 2) e < 0 ∨ bdy (tx t) (pe (tx t) (a + 2) e) e = false then (3, T) else dft T (tx t) a (a + 2) (pe (tx t) (a + 2) e) e) else if bdy (tx t) (a + 1) e = false then (3, T) else dft T (tx t) a (-1) (a + 1) e
def icd (X : Int → Int64) (a e lv ic : Int) : Int := if ¬ (a + 3 = e ∧ X a = 60 ∧ X (a + 2) = 62) ∨ X (a + 1) < 48 ∨ ¬ X (a + 1) < 51 then 3 else if 3 ≤ lv ∨ 10 ≤ ic then 5 else 0
def obn (T : List Mac) (cs : List Cnd) (x y : Int64) : Int × List Mac × List Cnd × Int :=
  if x = 31639286502 then (0, und T y, cs, -1)
  else if x = 28401283814 then (0, T, (decide (fnd T y < 0), false) :: cs, -1)
  else if x = 3635385283302 then (0, T, (!decide (fnd T y < 0), false) :: cs, -1)
  else (3, T, cs, -1)
def ob (T : List Mac) (t : List Tok) (cs : List Cnd) (a e lv ic : Int) : Int × List Mac × List Cnd × Int :=
  if e ≤ a then (0, T, cs, -1)
  else if tx t a = 3463301461861 then ((dfn T t (a + 1) e).1, (dfn T t (a + 1) e).2, cs, -1)
  else if tx t a = 465601258418789 then (icd (tx t) (a + 1) e lv ic, T, cs, if icd (tx t) (a + 1) e lv ic = 0 then (tx t (a + 2)).toInt - 48 else -1)
  else if tx t a = 213596645 then (if a + 1 = e then ((tels cs).1, T, (tels cs).2, -1) else (3, T, cs, -1))
  else if tx t a = 27344319718 then (if a + 1 = e then ((tcls cs).1, T, (tcls cs).2, -1) else (3, T, cs, -1))
  else if ¬ (a + 2 = e ∧ nam (tx t (a + 1)) = true) then (3, T, cs, -1)
  else obn T cs (tx t a) (tx t (a + 1))
theorem csr_fr {A B A2 B2 : Int → Int} : ∀ cs : List Cnd, csr A B cs → (∀ j : Int, j < cs.length → A2 j = A j ∧ B2 j = B j) → csr A2 B2 cs
  | [], _, _ => trivial
  | c :: r, h, f => by
    have f0 := f r.length (by rw [List.length_cons]; omega)
    exact ⟨by rw [f0.1]; exact h.1, by rw [f0.2]; exact h.2.1, csr_fr r h.2.2 (fun j hj => f j (by rw [List.length_cons]; omega))⟩
def RST (S : w_S) (k : Nat) (f : Int) : Prop := sv S (202 + 8 * k) 0 = f ∧ sv S (202 + 8 * k) 1 = 0 ∧ sv S (202 + 8 * k) 7 = 0 ∧ sv S (202 + 8 * k) 8 = 0 ∧ sv S (202 + 8 * k) 9 = 0 ∧ sv S (202 + 8 * k) 10 = 0 ∧ sv S (202 + 8 * k) 11 = 0 ∧ sv S (203 + 8 * k) 2 = 0
def OBp (S S2 : w_S) (l : Nat) (ic : Int) (q : Int × List Mac × List Cnd × Int) (v : Option Value) : Prop := v = some (.int (iZ q.1)) ∧ fr (fun a => a = 2 ∨ (4 ≤ a ∧ a < 30) ∨ a = 202 + 8 * l ∨ a = 208 + 8 * l ∨ a = 209 + 8 * l ∨ (0 ≤ q.2.2.2 ∧ (a = 210 + 8 * l ∨ a = 211 + 8 * l))) S S2 ∧ (∀ k, ¬ (k = 9 ∨ k = 10) → sv S2 (202 + 8 * l) k = sv S (202 + 8 * l) k) ∧ (∃ p2, ctab S2 p2 q.2.1) ∧ crep S2 l q.2.2.1 ∧ (q.2.2.2 = -1 → sv S2 2 3 = l ∧ sv S2 2 4 = ic) ∧ (0 ≤ q.2.2.2 → sv S2 2 3 = l + 1 ∧ sv S2 2 4 = ic + 1 ∧ RST S2 (l + 1) q.2.2.2)
theorem c_opn {sc : x_S} {d : Nat} {S : w_S} {l : Nat} {cs : List Cnd} {b : Bool} (hl : l < 4) (hc : crep S l cs) (h18 : cs.length < 18) (hd : 0 ≤ d) : w_T sc d 90 0 (x_en 0 [.ref (202 + 8 * l), .int (iZ (zB b))]) [] S (fun v S2 => v = some (.int (iZ 0)) ∧ fr (fun a => a = 202 + 8 * l ∨ a = 208 + 8 * l ∨ a = 209 + 8 * l) S S2 ∧ (∀ k, ¬ (k = 9 ∨ k = 10) → sv S2 (202 + 8 * l) k = sv S (202 + 8 * l) k) ∧ crep S2 l ((!b, false) :: cs)) := by
  refine w_aload_n rfl rfl rfl ?_
  refine w_getI (z := (cs.length : Int)) rfl rfl (sh_src hl) rfl hc.1 rfl ?_
  refine w_bipush rfl (by decide) rfl ?_
  refine w_ic_lt (pc2 := 11) (pc3 := 9) rfl (by decide) rfl ⟨by omega, by omega⟩ ⟨by decide, by decide⟩ (fun c6 => ?_) (fun c6 => ?_)
  · skip
    refine w_aload_n rfl rfl rfl ?_
    refine w_getR rfl rfl (sh_src hl) rfl rfl ?_
    refine w_aload_n rfl rfl rfl ?_
    refine w_getI (z := (cs.length : Int)) rfl rfl (sh_src hl) rfl hc.1 rfl ?_
    refine w_iload_n rfl rfl rfl ?_
    refine w_baS (f := sA S (208 + 8 * l)) rfl (sh_src6 hl) (by omega) (by omega) (by decide) (zB_nar _) rfl rfl ?_
    refine w_aload_n rfl rfl rfl ?_
    refine w_getR rfl rfl (sh_src hl) rfl rfl ?_
    refine w_aload_n rfl rfl rfl ?_
    refine w_getI (z := (cs.length : Int)) rfl rfl (sh_src hl) rfl hc.1 rfl ?_
    refine w_iconst rfl rfl ?_
    refine w_baS (f := sA S (209 + 8 * l)) rfl (sh_src7 hl) (by omega) (by omega) (by decide) (by decide) (rA_ne (by omega)) rfl ?_
    refine w_aload_n rfl rfl rfl ?_
    refine w_dup rfl rfl rfl ?_
    refine w_getI (z := (cs.length : Int)) rfl rfl (sh_src hl) rfl hc.1 rfl ?_
    refine w_iconst rfl rfl ?_
    refine w_iadd rfl rfl ?_
    refine w_putf rfl rfl (sh_src hl) rfl rfl (by decide) rfl ?_
    refine w_aload_n rfl rfl rfl ?_
    refine w_iload_n rfl rfl rfl ?_
    refine w_b_ne (pc2 := 50) (pc3 := 46) rfl (by decide) rfl (fun c43 => ?_) (fun c43 => ?_)
    · skip
      refine w_iconst rfl rfl ?_
      refine w_putf rfl rfl (sh_src hl) rfl (by decide) (by decide) rfl ?_
      refine w_iconst rfl rfl ?_
      refine w_iret rfl rfl ?_
      refine ⟨rfl, (fr_v (fr_v (fr_A (fr_A (fr_refl _ _) (by omega)) (by omega)) (by omega)) (by omega)), fun k hk => ?_, ?_, ⟨?_, ?_, ?_⟩, ?_⟩
      · simp (disch := omega) only [rv_self, rv_ne, rl_self, rl_ne, rA_self, rA_ne, rL_self, rL_ne, rR_self, rR_ne, xvl, xvA, xvL, xvR, xlv, xlA, xlL, xlR, xAv, xAl, xAL, xAR, xLv, xLl, xLA, xLR, xRv, xRl, xRA, xRL]
      · simp (disch := omega) only [rv_self, rv_ne, rl_self, rl_ne, rA_self, rA_ne, rL_self, rL_ne, rR_self, rR_ne, xvl, xvA, xvL, xvR, xlv, xlA, xlL, xlR, xAv, xAl, xAL, xAR, xLv, xLl, xLA, xLR, xRv, xRl, xRA, xRL]; rfl
      · simp (disch := omega) only [rv_self, rv_ne, rl_self, rl_ne, rA_self, rA_ne, rL_self, rL_ne, rR_self, rR_ne, xvl, xvA, xvL, xvR, xlv, xlA, xlL, xlR, xAv, xAl, xAL, xAR, xLv, xLl, xLA, xLR, xRv, xRl, xRA, xRL]; rw [w_u_self]; cases b <;> rfl
      · simp (disch := omega) only [rv_self, rv_ne, rl_self, rl_ne, rA_self, rA_ne, rL_self, rL_ne, rR_self, rR_ne, xvl, xvA, xvL, xvR, xlv, xlA, xlL, xlR, xAv, xAl, xAL, xAR, xLv, xLl, xLA, xLR, xRv, xRl, xRA, xRL]; rw [w_u_self]; rfl
      · simp (disch := omega) only [rv_self, rv_ne, rl_self, rl_ne, rA_self, rA_ne, rL_self, rL_ne, rR_self, rR_ne, xvl, xvA, xvL, xvR, xlv, xlA, xlL, xlR, xAv, xAl, xAL, xAR, xLv, xLl, xLA, xLR, xRv, xRl, xRA, xRL]; exact csr_fr cs hc.2.1 (fun j hj => ⟨w_u_ne _ _ (by omega), w_u_ne _ _ (by omega)⟩)
      · simp (disch := omega) only [rv_self, rv_ne, rl_self, rl_ne, rA_self, rA_ne, rL_self, rL_ne, rR_self, rR_ne, xvl, xvA, xvL, xvR, xlv, xlA, xlL, xlR, xAv, xAl, xAL, xAR, xLv, xLl, xLA, xLR, xRv, xRl, xRA, xRL]; rw [c43]; rfl
    · skip
      refine w_iconst rfl rfl ?_
      refine w_goto (pc2 := 51) rfl (by decide) ?_
      refine w_putf rfl rfl (sh_src hl) rfl (by decide) (by decide) rfl ?_
      refine w_iconst rfl rfl ?_
      refine w_iret rfl rfl ?_
      refine ⟨rfl, (fr_v (fr_v (fr_A (fr_A (fr_refl _ _) (by omega)) (by omega)) (by omega)) (by omega)), fun k hk => ?_, ?_, ⟨?_, ?_, ?_⟩, ?_⟩
      · simp (disch := omega) only [rv_self, rv_ne, rl_self, rl_ne, rA_self, rA_ne, rL_self, rL_ne, rR_self, rR_ne, xvl, xvA, xvL, xvR, xlv, xlA, xlL, xlR, xAv, xAl, xAL, xAR, xLv, xLl, xLA, xLR, xRv, xRl, xRA, xRL]
      · simp (disch := omega) only [rv_self, rv_ne, rl_self, rl_ne, rA_self, rA_ne, rL_self, rL_ne, rR_self, rR_ne, xvl, xvA, xvL, xvR, xlv, xlA, xlL, xlR, xAv, xAl, xAL, xAR, xLv, xLl, xLA, xLR, xRv, xRl, xRA, xRL]; rfl
      · simp (disch := omega) only [rv_self, rv_ne, rl_self, rl_ne, rA_self, rA_ne, rL_self, rL_ne, rR_self, rR_ne, xvl, xvA, xvL, xvR, xlv, xlA, xlL, xlR, xAv, xAl, xAL, xAR, xLv, xLl, xLA, xLR, xRv, xRl, xRA, xRL]; rw [w_u_self]; cases b <;> rfl
      · simp (disch := omega) only [rv_self, rv_ne, rl_self, rl_ne, rA_self, rA_ne, rL_self, rL_ne, rR_self, rR_ne, xvl, xvA, xvL, xvR, xlv, xlA, xlL, xlR, xAv, xAl, xAL, xAR, xLv, xLl, xLA, xLR, xRv, xRl, xRA, xRL]; rw [w_u_self]; rfl
      · simp (disch := omega) only [rv_self, rv_ne, rl_self, rl_ne, rA_self, rA_ne, rL_self, rL_ne, rR_self, rR_ne, xvl, xvA, xvL, xvR, xlv, xlA, xlL, xlR, xAv, xAl, xAL, xAR, xLv, xLl, xLA, xLR, xRv, xRl, xRA, xRL]; exact csr_fr cs hc.2.1 (fun j hj => ⟨w_u_ne _ _ (by omega), w_u_ne _ _ (by omega)⟩)
      · simp (disch := omega) only [rv_self, rv_ne, rl_self, rl_ne, rA_self, rA_ne, rL_self, rL_ne, rR_self, rR_ne, xvl, xvA, xvL, xvR, xlv, xlA, xlL, xlR, xAv, xAl, xAL, xAR, xLv, xLl, xLA, xLR, xRv, xRl, xRA, xRL]; rw [c43]; rfl
  · omega
theorem c_els1 {sc : x_S} {d : Nat} {S : w_S} {l : Nat} {c : Cnd} {r : List Cnd} (hl : l < 4) (hz : sv S (202 + 8 * l) 9 = (r.length : Int) + 1) (hk : csr (sA S (208 + 8 * l)) (sA S (209 + 8 * l)) (c :: r)) (h18 : r.length < 18) (hc : crep S l (c :: r)) (hd : 0 ≤ d) : w_T sc d 91 0 (x_en 0 [.ref (202 + 8 * l)]) [] S (fun v S2 => v = some (.int (iZ (tels (c :: r)).1)) ∧ fr (fun a => a = 202 + 8 * l ∨ a = 208 + 8 * l ∨ a = 209 + 8 * l) S S2 ∧ (∀ k, ¬ (k = 9 ∨ k = 10) → sv S2 (202 + 8 * l) k = sv S (202 + 8 * l) k) ∧ crep S2 l (tels (c :: r)).2) := by
  refine w_aload_n rfl rfl rfl ?_
  refine w_getI (z := (r.length : Int) + 1) rfl rfl (sh_src hl) rfl hz rfl ?_
  refine w_if_eq (pc2 := 21) (pc3 := 7) rfl (by decide) rfl ⟨by omega, by omega⟩ (fun c4 => ?_) (fun c4 => ?_)
  · omega
  · skip
    refine w_aload_n rfl rfl rfl ?_
    refine w_getR rfl rfl (sh_src hl) rfl rfl ?_
    refine w_aload_n rfl rfl rfl ?_
    refine w_getI (z := (r.length : Int) + 1) rfl rfl (sh_src hl) rfl hz rfl ?_
    refine w_iconst rfl rfl ?_
    refine w_isub rfl rfl ?_
    refine w_bald (z := zB c.2) rfl (sh_src7 hl) (by omega) (by omega) (by decide) (by rw [show ((r.length : Int) + 1) - 1 = (r.length : Int) by omega]; exact hk.2.1) rfl ?_
    refine w_b_eq (pc2 := 23) (pc3 := 21) rfl (by decide) rfl (fun c18 => ?_) (fun c18 => ?_)
    · skip
      refine w_aload_n rfl rfl rfl ?_
      refine w_getR rfl rfl (sh_src hl) rfl rfl ?_
      refine w_aload_n rfl rfl rfl ?_
      refine w_getI (z := (r.length : Int) + 1) rfl rfl (sh_src hl) rfl hz rfl ?_
      refine w_iconst rfl rfl ?_
      refine w_isub rfl rfl ?_
      refine w_iconst rfl rfl ?_
      refine w_baS (f := sA S (209 + 8 * l)) rfl (sh_src7 hl) (by omega) (by omega) (by decide) (by decide) rfl rfl ?_
      refine w_aload_n rfl rfl rfl ?_
      refine w_aload_n rfl rfl rfl ?_
      refine w_getR rfl rfl (sh_src hl) rfl rfl ?_
      refine w_aload_n rfl rfl rfl ?_
      refine w_getI (z := (r.length : Int) + 1) rfl rfl (sh_src hl) rfl hz rfl ?_
      refine w_iconst rfl rfl ?_
      refine w_isub rfl rfl ?_
      refine w_bald (z := zB (c.1 == c.2)) rfl (sh_src6 hl) (by omega) (by omega) (by decide) ((congrFun (rA_ne (by omega)) _).trans (by rw [show ((r.length : Int) + 1) - 1 = (r.length : Int) by omega]; exact hk.1)) rfl ?_
      refine w_putf rfl rfl (sh_src hl) rfl (zB_fit _) (by decide) rfl ?_
      refine w_iconst rfl rfl ?_
      refine w_iret rfl rfl ?_
      have e : tels (c :: r) = (0, (!c.1, true) :: r) := by show (if c.2 = true then _ else _) = _; rw [if_neg (by rw [c18]; decide)]
      rw [e]
      refine ⟨rfl, (fr_v (fr_A (fr_refl _ _) (by omega)) (by omega)), fun k hk => ?_, ?_, ⟨?_, ?_, ?_⟩, ?_⟩
      · simp (disch := omega) only [rv_self, rv_ne, rl_self, rl_ne, rA_self, rA_ne, rL_self, rL_ne, rR_self, rR_ne, xvl, xvA, xvL, xvR, xlv, xlA, xlL, xlR, xAv, xAl, xAL, xAR, xLv, xLl, xLA, xLR, xRv, xRl, xRA, xRL]
      · simp (disch := omega) only [rv_self, rv_ne, rl_self, rl_ne, rA_self, rA_ne, rL_self, rL_ne, rR_self, rR_ne, xvl, xvA, xvL, xvR, xlv, xlA, xlL, xlR, xAv, xAl, xAL, xAR, xLv, xLl, xLA, xLR, xRv, xRl, xRA, xRL]; exact hz
      · simp (disch := omega) only [rv_self, rv_ne, rl_self, rl_ne, rA_self, rA_ne, rL_self, rL_ne, rR_self, rR_ne, xvl, xvA, xvL, xvR, xlv, xlA, xlL, xlR, xAv, xAl, xAL, xAR, xLv, xLl, xLA, xLR, xRv, xRl, xRA, xRL]; rw [hk.1, c18]; cases c.1 <;> rfl
      · simp (disch := omega) only [rv_self, rv_ne, rl_self, rl_ne, rA_self, rA_ne, rL_self, rL_ne, rR_self, rR_ne, xvl, xvA, xvL, xvR, xlv, xlA, xlL, xlR, xAv, xAl, xAL, xAR, xLv, xLl, xLA, xLR, xRv, xRl, xRA, xRL]; rw [show (r.length : Int) + 1 - 1 = r.length by omega, w_u_self]; rfl
      · simp (disch := omega) only [rv_self, rv_ne, rl_self, rl_ne, rA_self, rA_ne, rL_self, rL_ne, rR_self, rR_ne, xvl, xvA, xvL, xvR, xlv, xlA, xlL, xlR, xAv, xAl, xAL, xAR, xLv, xLl, xLA, xLR, xRv, xRl, xRA, xRL]; exact csr_fr r hk.2.2 (fun j hj => ⟨rfl, w_u_ne _ _ (by omega)⟩)
      · simp (disch := omega) only [rv_self, rv_ne, rl_self, rl_ne, rA_self, rA_ne, rL_self, rL_ne, rR_self, rR_ne, xvl, xvA, xvL, xvR, xlv, xlA, xlL, xlR, xAv, xAl, xAL, xAR, xLv, xLl, xLA, xLR, xRv, xRl, xRA, xRL]; rw [c18]; cases c.1 <;> rfl
    · skip
      refine w_iconst rfl rfl ?_
      refine w_iret rfl rfl ?_
      have e : tels (c :: r) = (4, c :: r) := by show (if c.2 = true then _ else _) = _; rw [if_pos c18]
      rw [e]
      exact ⟨rfl, fr_refl _ _, fun _ _ => rfl, hc⟩
theorem c_els0 {sc : x_S} {d : Nat} {S : w_S} {l : Nat} (hl : l < 4) (hc : crep S l []) (hd : 0 ≤ d) : w_T sc d 91 0 (x_en 0 [.ref (202 + 8 * l)]) [] S (fun v S2 => v = some (.int (iZ (tels []).1)) ∧ fr (fun a => a = 202 + 8 * l ∨ a = 208 + 8 * l ∨ a = 209 + 8 * l) S S2 ∧ (∀ k, ¬ (k = 9 ∨ k = 10) → sv S2 (202 + 8 * l) k = sv S (202 + 8 * l) k) ∧ crep S2 l (tels []).2) := by
  refine w_aload_n rfl rfl rfl ?_
  refine w_getI (z := 0) rfl rfl (sh_src hl) rfl hc.1 rfl ?_
  refine w_if_eq (pc2 := 21) (pc3 := 7) rfl (by decide) rfl ⟨by decide, by decide⟩ (fun _ => ?_) (fun hc => absurd hc (by decide))
  refine w_iconst rfl rfl ?_
  refine w_iret rfl rfl ?_
  exact ⟨rfl, fr_refl _ _, fun _ _ => rfl, hc⟩
theorem c_els {sc : x_S} {d : Nat} {S : w_S} {l : Nat} {cs : List Cnd} (hl : l < 4) (hc : crep S l cs) (h18 : cs.length ≤ 18) (hd : 0 ≤ d) : w_T sc d 91 0 (x_en 0 [.ref (202 + 8 * l)]) [] S (fun v S2 => v = some (.int (iZ (tels cs).1)) ∧ fr (fun a => a = 202 + 8 * l ∨ a = 208 + 8 * l ∨ a = 209 + 8 * l) S S2 ∧ (∀ k, ¬ (k = 9 ∨ k = 10) → sv S2 (202 + 8 * l) k = sv S (202 + 8 * l) k) ∧ crep S2 l (tels cs).2) := by
  cases cs with
  | nil => exact c_els0 hl hc hd
  | cons c r =>
    rw [List.length_cons] at h18
    exact c_els1 hl (by rw [hc.1, List.length_cons]; rfl) hc.2.1 (by omega) hc hd
theorem c_cls1 {sc : x_S} {d : Nat} {S : w_S} {l : Nat} {c : Cnd} {r : List Cnd} (hl : l < 4) (hz : sv S (202 + 8 * l) 9 = (r.length : Int) + 1) (hk : csr (sA S (208 + 8 * l)) (sA S (209 + 8 * l)) (c :: r)) (h18 : r.length < 18) (hq : csok (c :: r)) (hd : 0 ≤ d) : w_T sc d 92 0 (x_en 0 [.ref (202 + 8 * l)]) [] S (fun v S2 => v = some (.int (iZ (tcls (c :: r)).1)) ∧ fr (fun a => a = 202 + 8 * l ∨ a = 208 + 8 * l ∨ a = 209 + 8 * l) S S2 ∧ (∀ k, ¬ (k = 9 ∨ k = 10) → sv S2 (202 + 8 * l) k = sv S (202 + 8 * l) k) ∧ crep S2 l (tcls (c :: r)).2) := by
  refine w_aload_n rfl rfl rfl ?_
  refine w_getI (z := (r.length : Int) + 1) rfl rfl (sh_src hl) rfl hz rfl ?_
  refine w_if_ne (pc2 := 9) (pc3 := 7) rfl (by decide) rfl ⟨by omega, by omega⟩ (fun c4 => ?_) (fun c4 => ?_)
  · skip
    refine w_aload_n rfl rfl rfl ?_
    refine w_dup rfl rfl rfl ?_
    refine w_getI (z := (r.length : Int) + 1) rfl rfl (sh_src hl) rfl hz rfl ?_
    refine w_iconst rfl rfl ?_
    refine w_isub rfl rfl ?_
    refine w_putf rfl rfl (sh_src hl) rfl rfl (by decide) rfl ?_
    refine w_aload_n rfl rfl rfl ?_
    refine w_iconst rfl rfl ?_
    refine w_putf rfl rfl (sh_src hl) rfl (by decide) (by decide) rfl ?_
    refine w_iconst rfl rfl ?_
    refine w_iret rfl rfl ?_
    have hs : skp r = false := by
      cases r with
      | nil => rfl
      | cons c2 r2 => exact hq c2 (by show c2 ∈ c2 :: r2; simp)
    refine ⟨rfl, (fr_v (fr_v (fr_refl _ _) (by omega)) (by omega)), fun k hk => ?_, ?_, ?_, ?_⟩
    · simp (disch := omega) only [rv_self, rv_ne, rl_self, rl_ne, rA_self, rA_ne, rL_self, rL_ne, rR_self, rR_ne, xvl, xvA, xvL, xvR, xlv, xlA, xlL, xlR, xAv, xAl, xAL, xAR, xLv, xLl, xLA, xLR, xRv, xRl, xRA, xRL]
    · simp (disch := omega) only [rv_self, rv_ne, rl_self, rl_ne, rA_self, rA_ne, rL_self, rL_ne, rR_self, rR_ne, xvl, xvA, xvL, xvR, xlv, xlA, xlL, xlR, xAv, xAl, xAL, xAR, xLv, xLl, xLA, xLR, xRv, xRl, xRA, xRL]; show (r.length : Int) + 1 - 1 = r.length; omega
    · simp (disch := omega) only [rv_self, rv_ne, rl_self, rl_ne, rA_self, rA_ne, rL_self, rL_ne, rR_self, rR_ne, xvl, xvA, xvL, xvR, xlv, xlA, xlL, xlR, xAv, xAl, xAL, xAR, xLv, xLl, xLA, xLR, xRv, xRl, xRA, xRL]; exact hk.2.2
    · simp (disch := omega) only [rv_self, rv_ne, rl_self, rl_ne, rA_self, rA_ne, rL_self, rL_ne, rR_self, rR_ne, xvl, xvA, xvL, xvR, xlv, xlA, xlL, xlR, xAv, xAl, xAL, xAR, xLv, xLl, xLA, xLR, xRv, xRl, xRA, xRL]; show (0 : Int) = zB (skp r); rw [hs]; rfl
  · omega
theorem c_cls0 {sc : x_S} {d : Nat} {S : w_S} {l : Nat} (hl : l < 4) (hc : crep S l []) (hd : 0 ≤ d) : w_T sc d 92 0 (x_en 0 [.ref (202 + 8 * l)]) [] S (fun v S2 => v = some (.int (iZ (tcls []).1)) ∧ fr (fun a => a = 202 + 8 * l ∨ a = 208 + 8 * l ∨ a = 209 + 8 * l) S S2 ∧ (∀ k, ¬ (k = 9 ∨ k = 10) → sv S2 (202 + 8 * l) k = sv S (202 + 8 * l) k) ∧ crep S2 l (tcls []).2) := by
  refine w_aload_n rfl rfl rfl ?_
  refine w_getI (z := 0) rfl rfl (sh_src hl) rfl hc.1 rfl ?_
  refine w_if_ne (pc2 := 9) (pc3 := 7) rfl (by decide) rfl ⟨by decide, by decide⟩ (fun hc => absurd hc (by decide)) (fun _ => ?_)
  refine w_iconst rfl rfl ?_
  refine w_iret rfl rfl ?_
  exact ⟨rfl, fr_refl _ _, fun _ _ => rfl, hc⟩
theorem c_cls {sc : x_S} {d : Nat} {S : w_S} {l : Nat} {cs : List Cnd} (hl : l < 4) (hc : crep S l cs) (hq : csok cs) (h18 : cs.length ≤ 18) (hd : 0 ≤ d) : w_T sc d 92 0 (x_en 0 [.ref (202 + 8 * l)]) [] S (fun v S2 => v = some (.int (iZ (tcls cs).1)) ∧ fr (fun a => a = 202 + 8 * l ∨ a = 208 + 8 * l ∨ a = 209 + 8 * l) S S2 ∧ (∀ k, ¬ (k = 9 ∨ k = 10) → sv S2 (202 + 8 * l) k = sv S (202 + 8 * l) k) ∧ crep S2 l (tcls cs).2) := by
  cases cs with
  | nil => exact c_cls0 hl hc hd
  | cons c r =>
    rw [List.length_cons] at h18
    exact c_cls1 hl (by rw [hc.1, List.length_cons]; rfl) hc.2.1 (by omega) hq hd
theorem c_rst {sc : x_S} {d : Nat} {S : w_S} {l : Nat} {f : Int} (hl : l < 4) (hd : 0 ≤ d) : w_T sc d 86 0 (x_en 0 [.ref (202 + 8 * l), .int (iZ f)]) [] S (fun v S2 => v = none ∧ fr (fun a => a = 202 + 8 * l ∨ a = 203 + 8 * l) S S2 ∧ RST S2 l f) := by
  refine w_aload_n rfl rfl rfl ?_
  refine w_iload_n rfl rfl rfl ?_
  refine w_putf rfl rfl (sh_src hl) rfl rfl (by decide) rfl ?_
  refine w_aload_n rfl rfl rfl ?_
  refine w_iconst rfl rfl ?_
  refine w_putf rfl rfl (sh_src hl) rfl (by decide) (by decide) rfl ?_
  refine w_aload_n rfl rfl rfl ?_
  refine w_getR rfl rfl (sh_src hl) rfl rfl ?_
  refine w_iconst rfl rfl ?_
  refine w_putf rfl rfl (sh_srow hl).1 rfl rfl (by decide) rfl ?_
  refine w_aload_n rfl rfl rfl ?_
  refine w_iconst rfl rfl ?_
  refine w_putf rfl rfl (sh_src hl) rfl rfl (by decide) rfl ?_
  refine w_aload_n rfl rfl rfl ?_
  refine w_iconst rfl rfl ?_
  refine w_putf rfl rfl (sh_src hl) rfl rfl (by decide) rfl ?_
  refine w_aload_n rfl rfl rfl ?_
  refine w_iconst rfl rfl ?_
  refine w_putf rfl rfl (sh_src hl) rfl rfl (by decide) rfl ?_
  refine w_aload_n rfl rfl rfl ?_
  refine w_iconst rfl rfl ?_
  refine w_putf rfl rfl (sh_src hl) rfl (by decide) (by decide) rfl ?_
  refine w_aload_n rfl rfl rfl ?_
  refine w_iconst rfl rfl ?_
  refine w_putf rfl rfl (sh_src hl) rfl rfl (by decide) rfl ?_
  refine w_vret rfl rfl ?_
  exact ⟨rfl, (fr_v (fr_v (fr_v (fr_v (fr_v (fr_v (fr_v (fr_v (fr_refl _ _) (by omega)) (by omega)) (by omega)) (by omega)) (by omega)) (by omega)) (by omega)) (by omega)), by simp (disch := omega) only [rv_self, rv_ne, rl_self, rl_ne, rA_self, rA_ne, rL_self, rL_ne, rR_self, rR_ne, xvl, xvA, xvL, xvR, xlv, xlA, xlL, xlR, xAv, xAl, xAL, xAR, xLv, xLl, xLA, xLR, xRv, xRl, xRA, xRL], by simp (disch := omega) only [rv_self, rv_ne, rl_self, rl_ne, rA_self, rA_ne, rL_self, rL_ne, rR_self, rR_ne, xvl, xvA, xvL, xvR, xlv, xlA, xlL, xlR, xAv, xAl, xAL, xAR, xLv, xLl, xLA, xLR, xRv, xRl, xRA, xRL], by simp (disch := omega) only [rv_self, rv_ne, rl_self, rl_ne, rA_self, rA_ne, rL_self, rL_ne, rR_self, rR_ne, xvl, xvA, xvL, xvR, xlv, xlA, xlL, xlR, xAv, xAl, xAL, xAR, xLv, xLl, xLA, xLR, xRv, xRl, xRA, xRL], by simp (disch := omega) only [rv_self, rv_ne, rl_self, rl_ne, rA_self, rA_ne, rL_self, rL_ne, rR_self, rR_ne, xvl, xvA, xvL, xvR, xlv, xlA, xlL, xlR, xAv, xAl, xAL, xAR, xLv, xLl, xLA, xLR, xRv, xRl, xRA, xRL], by simp (disch := omega) only [rv_self, rv_ne, rl_self, rl_ne, rA_self, rA_ne, rL_self, rL_ne, rR_self, rR_ne, xvl, xvA, xvL, xvR, xlv, xlA, xlL, xlR, xAv, xAl, xAL, xAR, xLv, xLl, xLA, xLR, xRv, xRl, xRA, xRL], by simp (disch := omega) only [rv_self, rv_ne, rl_self, rl_ne, rA_self, rA_ne, rL_self, rL_ne, rR_self, rR_ne, xvl, xvA, xvL, xvR, xlv, xlA, xlL, xlR, xAv, xAl, xAL, xAR, xLv, xLl, xLA, xLR, xRv, xRl, xRA, xRL], by simp (disch := omega) only [rv_self, rv_ne, rl_self, rl_ne, rA_self, rA_ne, rL_self, rL_ne, rR_self, rR_ne, xvl, xvA, xvL, xvR, xlv, xlA, xlL, xlR, xAv, xAl, xAL, xAR, xLv, xLl, xLA, xLR, xRv, xRl, xRA, xRL], by simp (disch := omega) only [rv_self, rv_ne, rl_self, rl_ne, rA_self, rA_ne, rL_self, rL_ne, rR_self, rR_ne, xvl, xvA, xvL, xvR, xlv, xlA, xlL, xlR, xAv, xAl, xAL, xAR, xLv, xLl, xLA, xLR, xRv, xRl, xRA, xRL]⟩
theorem c_lvs {sc : x_S} {d : Nat} {S : w_S} {l : Nat} {t : List Tok} {a b dp : Int} (hl : l < 4) (hs : srep S l t) (hto : tkok t) (ht6 : t.length ≤ 160) (a0 : 0 ≤ a) (a1 : a < b) (b1 : b ≤ t.length) (h11 : sv S (202 + 8 * l) 11 = dp) (d0 : 0 ≤ dp) (d1 : dp ≤ 200) (hd : 6 ≤ d) : w_T sc d 89 0 (x_en 0 [.ref (202 + 8 * l), .int (iZ a), .int (iZ b)]) [] S (fun v S2 => v = some (.int (iZ (zB (lvs (tx t) a b dp).1))) ∧ fr (fun a => a = 202 + 8 * l) S S2 ∧ (∀ k, ¬ k = 11 → sv S2 (202 + 8 * l) k = sv S (202 + 8 * l) k) ∧ sv S2 (202 + 8 * l) 11 = (lvs (tx t) a b dp).2) := by
  refine w_aload_n rfl rfl rfl ?_
  refine w_getR rfl rfl (sh_src hl) rfl rfl ?_
  refine w_getR rfl rfl (sh_srow hl).1 rfl rfl ?_
  refine w_iload_n rfl rfl rfl ?_
  refine w_lald (z := tx t a) rfl (sh_srow hl).2.1 (by omega) (by omega) (by decide) (hs.2 _ (by omega) (by omega)).1 rfl ?_
  refine w_ldc2 (v := 35) rfl rfl rfl ?_
  refine w_l_ne (pc2 := 23) (pc3 := 16) rfl rfl (by decide) rfl (fun c13 => ?_) (fun c13 => ?_)
  · skip
    refine w_iconst rfl rfl ?_
    refine w_zret rfl rfl (by decide) ?_
    have e : (lvs (tx t) a b dp) = (false, dp) := by
      unfold lvs
      first
        | rw [if_pos (by omega)]
        | rw [if_pos (Or.inl c13)]
        | (rw [if_neg (by first | exact fun z => z.elim (fun y => y c13) (by omega)), if_pos (by first | exact Or.inl c51 | exact Or.inr c60)])
        | (rw [if_neg (fun z => z.elim (fun y => y c13) (by omega)), if_neg (not_or.mpr ⟨c51, c60⟩), if_pos (by omega)]; first | rw [if_pos c89] | rw [if_neg c89])
        | (rw [if_neg (fun z => z.elim (fun y => y c13) (by omega)), if_neg (not_or.mpr ⟨c51, c60⟩), if_neg (by omega)]; first | rw [decide_eq_true (Or.inl c105)] | rw [decide_eq_true (Or.inr c114)] | rw [decide_eq_false (not_or.mpr ⟨c105, c114⟩)])
    rw [e]
    exact ⟨rfl, (fr_refl _ _), by intro k hk; rfl, by exact h11⟩
  · skip
    refine w_iload_n rfl rfl rfl ?_
    refine w_iconst rfl rfl ?_
    refine w_iadd rfl rfl ?_
    refine w_iload_n rfl rfl rfl ?_
    refine w_ic_lt (pc2 := 25) (pc3 := 23) rfl (by decide) rfl ⟨by omega, by omega⟩ ⟨by omega, by omega⟩ (fun c20 => ?_) (fun c20 => ?_)
    · skip
      refine w_aload_n rfl rfl rfl ?_
      refine w_getR rfl rfl (sh_src hl) rfl rfl ?_
      refine w_getR rfl rfl (sh_srow hl).1 rfl rfl ?_
      refine w_iload_n rfl rfl rfl ?_
      refine w_iconst rfl rfl ?_
      refine w_iadd rfl rfl ?_
      refine w_lald (z := tx t (a + 1)) rfl (sh_srow hl).2.1 (by omega) (by omega) (by decide) (hs.2 _ (by omega) (by omega)).1 rfl ?_
      refine w_lstore_n rfl (by decide) rfl ?_
      refine w_lload_n rfl rfl rfl ?_
      refine w_ldcs (q := 4) rfl rfl rfl ?_
      refine w_CS (as := [.long (tx t (a + 1)), .retAddr 4]) (r := []) rfl rfl rfl rfl (Nat.le_of_ble_eq_true rfl) (Nat.le_of_ble_eq_true rfl) (by omega) rfl (c_spl (x := tx t (a + 1)) (q := 4) ⟨by decide, by decide⟩ spk_4 (by omega)) ?_
      rintro _ _ ⟨rfl, hS⟩
      rw [hS]
      show w_T _ _ 89 43 _ [.int (iZ (zB (decide ((tx t (a + 1)) = 27344319718))))] _ _
      refine w_istore rfl (by decide) rfl ?_
      refine w_lload_n rfl rfl rfl ?_
      refine w_ldcs (q := 5) rfl rfl rfl ?_
      refine w_CS (as := [.long (tx t (a + 1)), .retAddr 5]) (r := []) rfl rfl rfl rfl (Nat.le_of_ble_eq_true rfl) (Nat.le_of_ble_eq_true rfl) (by omega) rfl (c_spl (x := tx t (a + 1)) (q := 5) ⟨by decide, by decide⟩ spk_5 (by omega)) ?_
      rintro _ _ ⟨rfl, hS⟩
      rw [hS]
      show w_T _ _ 89 51 _ [.int (iZ (zB (decide ((tx t (a + 1)) = 28401283814))))] _ _
      refine w_p_ne (pc2 := 63) (pc3 := 54) rfl (by decide) rfl (fun c51 => ?_) (fun c51 => ?_)
      · skip
        refine w_aload_n rfl rfl rfl ?_
        refine w_dup rfl rfl rfl ?_
        refine w_getI (z := dp) rfl rfl (sh_src hl) rfl h11 rfl ?_
        refine w_iconst rfl rfl ?_
        refine w_iadd rfl rfl ?_
        refine w_putf rfl rfl (sh_src hl) rfl rfl (by decide) rfl ?_
        refine w_iconst rfl rfl ?_
        refine w_zret rfl rfl (by decide) ?_
        have e : (lvs (tx t) a b dp) = (false, dp + 1) := by
          unfold lvs
          first
            | rw [if_pos (by omega)]
            | rw [if_pos (Or.inl c13)]
            | (rw [if_neg (by first | exact fun z => z.elim (fun y => y c13) (by omega)), if_pos (by first | exact Or.inl c51 | exact Or.inr c60)])
            | (rw [if_neg (fun z => z.elim (fun y => y c13) (by omega)), if_neg (not_or.mpr ⟨c51, c60⟩), if_pos (by omega)]; first | rw [if_pos c89] | rw [if_neg c89])
            | (rw [if_neg (fun z => z.elim (fun y => y c13) (by omega)), if_neg (not_or.mpr ⟨c51, c60⟩), if_neg (by omega)]; first | rw [decide_eq_true (Or.inl c105)] | rw [decide_eq_true (Or.inr c114)] | rw [decide_eq_false (not_or.mpr ⟨c105, c114⟩)])
        rw [e]
        exact ⟨rfl, (fr_v (fr_refl _ _) (by omega)), by intro k hk; simp (disch := omega) only [rv_self, rv_ne, rl_self, rl_ne, rA_self, rA_ne, rL_self, rL_ne, rR_self, rR_ne, xvl, xvA, xvL, xvR, xlv, xlA, xlL, xlR, xAv, xAl, xAL, xAR, xLv, xLl, xLA, xLR, xRv, xRl, xRA, xRL], by simp (disch := omega) only [rv_self, rv_ne, rl_self, rl_ne, rA_self, rA_ne, rL_self, rL_ne, rR_self, rR_ne, xvl, xvA, xvL, xvR, xlv, xlA, xlL, xlR, xAv, xAl, xAL, xAR, xLv, xLl, xLA, xLR, xRv, xRl, xRA, xRL]; try omega⟩
      · skip
        refine w_lload_n rfl rfl rfl ?_
        refine w_ldcs (q := 6) rfl rfl rfl ?_
        refine w_CS (as := [.long (tx t (a + 1)), .retAddr 6]) (r := []) rfl rfl rfl rfl (Nat.le_of_ble_eq_true rfl) (Nat.le_of_ble_eq_true rfl) (by omega) rfl (c_spl (x := tx t (a + 1)) (q := 6) ⟨by decide, by decide⟩ spk_6 (by omega)) ?_
        rintro _ _ ⟨rfl, hS⟩
        rw [hS]
        show w_T _ _ 89 60 _ [.int (iZ (zB (decide ((tx t (a + 1)) = 3635385283302))))] _ _
        refine w_p_eq (pc2 := 75) (pc3 := 63) rfl (by decide) rfl (fun c60 => ?_) (fun c60 => ?_)
        · skip
          refine w_aload_n rfl rfl rfl ?_
          refine w_getI (z := dp) rfl rfl (sh_src hl) rfl h11 rfl ?_
          refine w_if_le (pc2 := 103) (pc3 := 82) rfl (by decide) rfl ⟨by omega, by omega⟩ (fun c79 => ?_) (fun c79 => ?_)
          · skip
            refine w_iload rfl rfl rfl ?_
            refine w_p_ne (pc2 := 117) (pc3 := 108) rfl (by decide) rfl (fun c105 => ?_) (fun c105 => ?_)
            · skip
              refine w_iconst rfl rfl ?_
              refine w_goto (pc2 := 122) rfl (by decide) ?_
              refine w_zret rfl rfl (by decide) ?_
              have e : (lvs (tx t) a b dp) = (true, dp) := by
                unfold lvs
                first
                  | rw [if_pos (by omega)]
                  | rw [if_pos (Or.inl c13)]
                  | (rw [if_neg (by first | exact fun z => z.elim (fun y => y c13) (by omega)), if_pos (by first | exact Or.inl c51 | exact Or.inr c60)])
                  | (rw [if_neg (fun z => z.elim (fun y => y c13) (by omega)), if_neg (not_or.mpr ⟨c51, c60⟩), if_pos (by omega)]; first | rw [if_pos c89] | rw [if_neg c89])
                  | (rw [if_neg (fun z => z.elim (fun y => y c13) (by omega)), if_neg (not_or.mpr ⟨c51, c60⟩), if_neg (by omega)]; first | rw [decide_eq_true (Or.inl c105)] | rw [decide_eq_true (Or.inr c114)] | rw [decide_eq_false (not_or.mpr ⟨c105, c114⟩)])
              rw [e]
              exact ⟨rfl, (fr_refl _ _), by intro k hk; rfl, by exact h11⟩
            · skip
              refine w_lload_n rfl rfl rfl ?_
              refine w_ldcs (q := 7) rfl rfl rfl ?_
              refine w_CS (as := [.long (tx t (a + 1)), .retAddr 7]) (r := []) rfl rfl rfl rfl (Nat.le_of_ble_eq_true rfl) (Nat.le_of_ble_eq_true rfl) (by omega) rfl (c_spl (x := tx t (a + 1)) (q := 7) ⟨by decide, by decide⟩ spk_7 (by omega)) ?_
              rintro _ _ ⟨rfl, hS⟩
              rw [hS]
              show w_T _ _ 89 114 _ [.int (iZ (zB (decide ((tx t (a + 1)) = 213596645))))] _ _
              refine w_p_eq (pc2 := 121) (pc3 := 117) rfl (by decide) rfl (fun c114 => ?_) (fun c114 => ?_)
              · skip
                refine w_iconst rfl rfl ?_
                refine w_zret rfl rfl (by decide) ?_
                have e : (lvs (tx t) a b dp) = (false, dp) := by
                  unfold lvs
                  first
                    | rw [if_pos (by omega)]
                    | rw [if_pos (Or.inl c13)]
                    | (rw [if_neg (by first | exact fun z => z.elim (fun y => y c13) (by omega)), if_pos (by first | exact Or.inl c51 | exact Or.inr c60)])
                    | (rw [if_neg (fun z => z.elim (fun y => y c13) (by omega)), if_neg (not_or.mpr ⟨c51, c60⟩), if_pos (by omega)]; first | rw [if_pos c89] | rw [if_neg c89])
                    | (rw [if_neg (fun z => z.elim (fun y => y c13) (by omega)), if_neg (not_or.mpr ⟨c51, c60⟩), if_neg (by omega)]; first | rw [decide_eq_true (Or.inl c105)] | rw [decide_eq_true (Or.inr c114)] | rw [decide_eq_false (not_or.mpr ⟨c105, c114⟩)])
                rw [e]
                exact ⟨rfl, (fr_refl _ _), by intro k hk; rfl, by exact h11⟩
              · skip
                refine w_iconst rfl rfl ?_
                refine w_goto (pc2 := 122) rfl (by decide) ?_
                refine w_zret rfl rfl (by decide) ?_
                have e : (lvs (tx t) a b dp) = (true, dp) := by
                  unfold lvs
                  first
                    | rw [if_pos (by omega)]
                    | rw [if_pos (Or.inl c13)]
                    | (rw [if_neg (by first | exact fun z => z.elim (fun y => y c13) (by omega)), if_pos (by first | exact Or.inl c51 | exact Or.inr c60)])
                    | (rw [if_neg (fun z => z.elim (fun y => y c13) (by omega)), if_neg (not_or.mpr ⟨c51, c60⟩), if_pos (by omega)]; first | rw [if_pos c89] | rw [if_neg c89])
                    | (rw [if_neg (fun z => z.elim (fun y => y c13) (by omega)), if_neg (not_or.mpr ⟨c51, c60⟩), if_neg (by omega)]; first | rw [decide_eq_true (Or.inl c105)] | rw [decide_eq_true (Or.inr c114)] | rw [decide_eq_false (not_or.mpr ⟨c105, c114⟩)])
                rw [e]
                exact ⟨rfl, (fr_refl _ _), by intro k hk; rfl, by exact h11⟩
          · skip
            refine w_aload_n rfl rfl rfl ?_
            refine w_dup rfl rfl rfl ?_
            refine w_getI (z := dp) rfl rfl (sh_src hl) rfl h11 rfl ?_
            refine w_iload rfl rfl rfl ?_
            refine w_p_eq (pc2 := 96) (pc3 := 92) rfl (by decide) rfl (fun c89 => ?_) (fun c89 => ?_)
            · skip
              refine w_iconst rfl rfl ?_
              refine w_isub rfl rfl ?_
              refine w_putf rfl rfl (sh_src hl) rfl rfl (by decide) rfl ?_
              refine w_iconst rfl rfl ?_
              refine w_zret rfl rfl (by decide) ?_
              have e : (lvs (tx t) a b dp) = (false, dp - 0) := by
                unfold lvs
                first
                  | rw [if_pos (by omega)]
                  | rw [if_pos (Or.inl c13)]
                  | (rw [if_neg (by first | exact fun z => z.elim (fun y => y c13) (by omega)), if_pos (by first | exact Or.inl c51 | exact Or.inr c60)])
                  | (rw [if_neg (fun z => z.elim (fun y => y c13) (by omega)), if_neg (not_or.mpr ⟨c51, c60⟩), if_pos (by omega)]; first | rw [if_pos c89] | rw [if_neg c89])
                  | (rw [if_neg (fun z => z.elim (fun y => y c13) (by omega)), if_neg (not_or.mpr ⟨c51, c60⟩), if_neg (by omega)]; first | rw [decide_eq_true (Or.inl c105)] | rw [decide_eq_true (Or.inr c114)] | rw [decide_eq_false (not_or.mpr ⟨c105, c114⟩)])
              rw [e]
              exact ⟨rfl, (fr_v (fr_refl _ _) (by omega)), by intro k hk; simp (disch := omega) only [rv_self, rv_ne, rl_self, rl_ne, rA_self, rA_ne, rL_self, rL_ne, rR_self, rR_ne, xvl, xvA, xvL, xvR, xlv, xlA, xlL, xlR, xAv, xAl, xAL, xAR, xLv, xLl, xLA, xLR, xRv, xRl, xRA, xRL], by simp (disch := omega) only [rv_self, rv_ne, rl_self, rl_ne, rA_self, rA_ne, rL_self, rL_ne, rR_self, rR_ne, xvl, xvA, xvL, xvR, xlv, xlA, xlL, xlR, xAv, xAl, xAL, xAR, xLv, xLl, xLA, xLR, xRv, xRl, xRA, xRL]; try omega⟩
            · skip
              refine w_iconst rfl rfl ?_
              refine w_goto (pc2 := 97) rfl (by decide) ?_
              refine w_isub rfl rfl ?_
              refine w_putf rfl rfl (sh_src hl) rfl rfl (by decide) rfl ?_
              refine w_iconst rfl rfl ?_
              refine w_zret rfl rfl (by decide) ?_
              have e : (lvs (tx t) a b dp) = (false, dp - 1) := by
                unfold lvs
                first
                  | rw [if_pos (by omega)]
                  | rw [if_pos (Or.inl c13)]
                  | (rw [if_neg (by first | exact fun z => z.elim (fun y => y c13) (by omega)), if_pos (by first | exact Or.inl c51 | exact Or.inr c60)])
                  | (rw [if_neg (fun z => z.elim (fun y => y c13) (by omega)), if_neg (not_or.mpr ⟨c51, c60⟩), if_pos (by omega)]; first | rw [if_pos c89] | rw [if_neg c89])
                  | (rw [if_neg (fun z => z.elim (fun y => y c13) (by omega)), if_neg (not_or.mpr ⟨c51, c60⟩), if_neg (by omega)]; first | rw [decide_eq_true (Or.inl c105)] | rw [decide_eq_true (Or.inr c114)] | rw [decide_eq_false (not_or.mpr ⟨c105, c114⟩)])
              rw [e]
              exact ⟨rfl, (fr_v (fr_refl _ _) (by omega)), by intro k hk; simp (disch := omega) only [rv_self, rv_ne, rl_self, rl_ne, rA_self, rA_ne, rL_self, rL_ne, rR_self, rR_ne, xvl, xvA, xvL, xvR, xlv, xlA, xlL, xlR, xAv, xAl, xAL, xAR, xLv, xLl, xLA, xLR, xRv, xRl, xRA, xRL], by simp (disch := omega) only [rv_self, rv_ne, rl_self, rl_ne, rA_self, rA_ne, rL_self, rL_ne, rR_self, rR_ne, xvl, xvA, xvL, xvR, xlv, xlA, xlL, xlR, xAv, xAl, xAL, xAR, xLv, xLl, xLA, xLR, xRv, xRl, xRA, xRL]; try omega⟩
        · skip
          refine w_aload_n rfl rfl rfl ?_
          refine w_dup rfl rfl rfl ?_
          refine w_getI (z := dp) rfl rfl (sh_src hl) rfl h11 rfl ?_
          refine w_iconst rfl rfl ?_
          refine w_iadd rfl rfl ?_
          refine w_putf rfl rfl (sh_src hl) rfl rfl (by decide) rfl ?_
          refine w_iconst rfl rfl ?_
          refine w_zret rfl rfl (by decide) ?_
          have e : (lvs (tx t) a b dp) = (false, dp + 1) := by
            unfold lvs
            first
              | rw [if_pos (by omega)]
              | rw [if_pos (Or.inl c13)]
              | (rw [if_neg (by first | exact fun z => z.elim (fun y => y c13) (by omega)), if_pos (by first | exact Or.inl c51 | exact Or.inr c60)])
              | (rw [if_neg (fun z => z.elim (fun y => y c13) (by omega)), if_neg (not_or.mpr ⟨c51, c60⟩), if_pos (by omega)]; first | rw [if_pos c89] | rw [if_neg c89])
              | (rw [if_neg (fun z => z.elim (fun y => y c13) (by omega)), if_neg (not_or.mpr ⟨c51, c60⟩), if_neg (by omega)]; first | rw [decide_eq_true (Or.inl c105)] | rw [decide_eq_true (Or.inr c114)] | rw [decide_eq_false (not_or.mpr ⟨c105, c114⟩)])
          rw [e]
          exact ⟨rfl, (fr_v (fr_refl _ _) (by omega)), by intro k hk; simp (disch := omega) only [rv_self, rv_ne, rl_self, rl_ne, rA_self, rA_ne, rL_self, rL_ne, rR_self, rR_ne, xvl, xvA, xvL, xvR, xlv, xlA, xlL, xlR, xAv, xAl, xAL, xAR, xLv, xLl, xLA, xLR, xRv, xRl, xRA, xRL], by simp (disch := omega) only [rv_self, rv_ne, rl_self, rl_ne, rA_self, rA_ne, rL_self, rL_ne, rR_self, rR_ne, xvl, xvA, xvL, xvR, xlv, xlA, xlL, xlR, xAv, xAl, xAL, xAR, xLv, xLl, xLA, xLR, xRv, xRl, xRA, xRL]; try omega⟩
    · skip
      refine w_iconst rfl rfl ?_
      refine w_zret rfl rfl (by decide) ?_
      have e : (lvs (tx t) a b dp) = (false, dp) := by
        unfold lvs
        first
          | rw [if_pos (by omega)]
          | rw [if_pos (Or.inl c13)]
          | (rw [if_neg (by first | exact fun z => z.elim (fun y => y c13) (by omega)), if_pos (by first | exact Or.inl c51 | exact Or.inr c60)])
          | (rw [if_neg (fun z => z.elim (fun y => y c13) (by omega)), if_neg (not_or.mpr ⟨c51, c60⟩), if_pos (by omega)]; first | rw [if_pos c89] | rw [if_neg c89])
          | (rw [if_neg (fun z => z.elim (fun y => y c13) (by omega)), if_neg (not_or.mpr ⟨c51, c60⟩), if_neg (by omega)]; first | rw [decide_eq_true (Or.inl c105)] | rw [decide_eq_true (Or.inr c114)] | rw [decide_eq_false (not_or.mpr ⟨c105, c114⟩)])
      rw [e]
      exact ⟨rfl, (fr_refl _ _), by intro k hk; rfl, by exact h11⟩
