/-! The ends of blanks and tokens; packing (class). -/
def nlf (A : Int → Int) (n i : Int) : Int := fi (fun j => decide (A j = 10)) n i
def lcf (A : Int → Int) (n i : Int) : Int := fi (fun j => decide (A j = 42 ∧ A (j + 1) = 47)) (n - 1) i
def lce (A : Int → Int) (n i : Int) : Int := if lcf A n i + 1 < n then lcf A n i + 2 else -1
def bl (A : Int → Int) (n p : Int) : Int := if A p = 32 ∨ A p = 10 then p + 1 else if A p = 47 ∧ p + 1 < n ∧ A (p + 1) = 42 then lce A n (p + 2) else if A p = 47 ∧ p + 1 < n ∧ A (p + 1) = 47 then nlf A n p else p
def pun (c : Int) : Bool := decide (c = 40 ∨ c = 41 ∨ c = 91 ∨ c = 93 ∨ c = 123 ∨ c = 125 ∨ c = 59 ∨ c = 44 ∨ c = 61 ∨ c = 43 ∨ c = 45 ∨ c = 42 ∨ c = 47 ∨ c = 38 ∨ c = 60 ∨ c = 62 ∨ c = 35)
def wnd (A : Int → Int) (n p : Int) : Int := fi (fun j => !wdl (A j)) n p
def te (A : Int → Int) (n p : Int) : Int := if pun (A p) = true then (if p + 1 < n ∧ A (p + 1) = A p ∧ (A p = 35 ∨ A p = 61) then p + 2 else p + 1) else wnd A n p
def pkN (A : Int → Int) : Nat → Int → Int64 → Int64
  | 0, _, x => x
  | m + 1, i, x => pkN A m (i + 1) (lshl x 7 + li2l (A i))
def pk (A : Int → Int) (p e : Int) : Int64 := pkN A (e - p).toNat p 0
theorem sio3 {c : Int} (h0 : 0 ≤ c) (h1 : c < 128) : 0 ≤ sio 3 c 20 0 ↔ pun c = true := by
  have h : (List.range 128).all (fun k => decide (0 ≤ sio 3 (k : Int) 20 0 ↔ pun (k : Int) = true)) = true := by decide +kernel
  have h2 := of_decide_eq_true (List.all_eq_true.mp h c.toNat (List.mem_range.mpr (by omega)))
  rw [Int.toNat_of_nonneg h0] at h2
  exact h2
theorem sio_R (q : Nat) (c : Int) : ∀ (n : Nat) (i : Int), 0 ≤ i → -1 ≤ sio q c n i ∧ sio q c n i ≤ 17
  | 0, i, _ => ⟨Int.le_refl _, by show (-1 : Int) ≤ 17; decide⟩
  | n + 1, i, h => by
    have hl := sgl_R q
    show -1 ≤ (if i < sgl q then (if sgb q i = c then i else sio q c n (i + 1)) else -1) ∧ (if i < sgl q then (if sgb q i = c then i else sio q c n (i + 1)) else -1) ≤ 17
    have := sio_R q c n (i + 1) (by omega)
    split
    · split
      · omega
      · exact this
    · decide
theorem nlf_r {A : Int → Int} {n i : Int} (h : i ≤ n) : i ≤ nlf A n i ∧ nlf A n i ≤ n := fi_r h
theorem wnd_r {A : Int → Int} {n i : Int} (h : i ≤ n) : i ≤ wnd A n i ∧ wnd A n i ≤ n := fi_r h
theorem lce_r {A : Int → Int} {n i : Int} : lce A n i = -1 ∨ (i + 2 ≤ lce A n i ∧ lce A n i ≤ n) := by
  unfold lce
  split
  · rename_i h
    right
    by_cases hi : i ≤ n - 1
    · have h2 : i ≤ lcf A n i ∧ lcf A n i ≤ n - 1 := fi_r hi
      omega
    · unfold lcf at h
      rw [fi_end (by omega)] at h
      omega
  · exact Or.inl rfl
theorem bl_r {A : Int → Int} {n p : Int} (h : p < n) : bl A n p = -1 ∨ (p ≤ bl A n p ∧ bl A n p ≤ n) := by
  unfold bl
  split
  · right; omega
  · split
    · rename_i q
      rcases lce_r (A := A) (n := n) (i := p + 2) with e | e
      · exact Or.inl e
      · right; omega
    · split
      · right; exact nlf_r (by omega)
      · right; omega
theorem te_r {A : Int → Int} {n p : Int} (h : p < n) : p ≤ te A n p ∧ te A n p ≤ n := by
  unfold te
  split
  · split <;> omega
  · exact wnd_r (by omega)
theorem c_lce_c {sc : x_S} {d : Nat} {S : w_S} {p : Int} (h0 : 0 ≤ sv S 198 2) (h1 : sv S 198 2 ≤ 161) (hg : ∀ j, 0 ≤ j → j < sv S 198 2 → 0 ≤ sA S 199 j ∧ sA S 199 j < 128) (p0 : 0 ≤ p) (p1 : p ≤ 200) (hd : 0 ≤ d) : ∀ n : Nat, (∀ (i : Int) (lv : x_L) (l0 : lv 0 = some (.ref 198)) (l2 : lv 2 = some (.int (iZ i))) (i0 : p ≤ i) (i1 : i ≤ 200) (ie : lcf (sA S 199) (sv S 198 2) p = lcf (sA S 199) (sv S 198 2) i) (il : i = p ∨ i + 1 ≤ sv S 198 2) (hm : (200 - i).toNat < n), w_T sc d 81 2 lv [] S (fun v S2 => v = some (.int (iZ (lce (sA S 199) (sv S 198 2) p))) ∧ S2 = S)) := by
  intro n
  induction n with
  | zero => exact fun i lv l0 l2 i0 i1 ie il hm => absurd hm (Nat.not_lt_zero _)
  | succ n ih =>
    intro i lv l0 l2 i0 i1 ie il hm
    refine w_iload_n rfl l2 rfl ?_
    refine w_iconst rfl rfl ?_
    refine w_iadd rfl rfl ?_
    refine w_aload_n rfl l0 rfl ?_
    refine w_getI (z := sv S 198 2) rfl rfl sh_198 rfl rfl rfl ?_
    refine w_ic_ge (pc2 := 46) (pc3 := 12) rfl (by decide) rfl ⟨by omega, by omega⟩ ⟨by omega, by omega⟩ (fun c9 => ?_) (fun c9 => ?_)
    · skip
      refine w_iconst rfl rfl ?_
      refine w_iret rfl rfl ?_
      exact q_i (by
        have e : lcf (sA S 199) (sv S 198 2) i = i := fi_end (by omega)
        unfold lce
        rw [ie, e, if_neg (by omega)])
    · skip
      refine w_aload_n rfl l0 rfl ?_
      refine w_getR rfl rfl sh_198 rfl rfl ?_
      refine w_iload_n rfl l2 rfl ?_
      refine w_cald (z := sA S 199 i) rfl sh_199 (by omega) (by omega) (by decide) rfl rfl ?_
      have g1 := hg (i) (by omega) (by omega)
      refine w_bipush rfl (by decide) rfl ?_
      apply w_br (A := w_T _ _ 81 36 _ [] _ _) (B := w_T _ _ 81 40 _ [] _ _) (sA S 199 i = 42 ∧ (sA S 199 (i + 1)) = 47)
      · intro kT1 kT2
        refine w_ic_ne (pc2 := 40) (pc3 := 23) rfl (by decide) rfl ⟨by omega, by omega⟩ ⟨by decide, by decide⟩ (fun q1 => ?_) (fun q1 => ?_)
        · skip
          exact kT2 (fun q => q1 q.1)
        · skip
          refine w_aload_n rfl l0 rfl ?_
          refine w_getR rfl rfl sh_198 rfl rfl ?_
          refine w_iload_n rfl l2 rfl ?_
          refine w_iconst rfl rfl ?_
          refine w_iadd rfl rfl ?_
          refine w_cald (z := sA S 199 (i + 1)) rfl sh_199 (by omega) (by omega) (by decide) rfl rfl ?_
          have g3 := hg (i + 1) (by omega) (by omega)
          refine w_bipush rfl (by decide) rfl ?_
          refine w_ic_ne (pc2 := 40) (pc3 := 36) rfl (by decide) rfl ⟨by omega, by omega⟩ ⟨by decide, by decide⟩ (fun q2 => ?_) (fun q2 => ?_)
          · skip
            exact kT2 (fun q => q2 q.2)
          · skip
            exact kT1 ⟨q1, q2⟩
      · intro c20
        refine w_iload_n rfl l2 rfl ?_
        refine w_iconst rfl rfl ?_
        refine w_iadd rfl rfl ?_
        refine w_iret rfl rfl ?_
        exact q_i (by
          have e : lcf (sA S 199) (sv S 198 2) i = i := fi_stop (by omega) (by simp only [decide_eq_true_eq]; omega)
          unfold lce
          rw [ie, e, if_pos (by omega)])
      · intro c20
        refine w_iinc rfl l2 (by decide) rfl ?_
        refine w_goto (pc2 := 2) rfl (by decide) ?_
        exact ih (i + 1) _ l0 rfl (by omega) (by omega) (by rw [ie]; exact fi_next (by omega) (by simp only [decide_eq_false_iff_not]; omega)) (by omega) (by omega)
theorem c_lce {sc : x_S} {d : Nat} {S : w_S} {p : Int} (h0 : 0 ≤ sv S 198 2) (h1 : sv S 198 2 ≤ 161) (hg : ∀ j, 0 ≤ j → j < sv S 198 2 → 0 ≤ sA S 199 j ∧ sA S 199 j < 128) (p0 : 0 ≤ p) (p1 : p ≤ 200) (hd : 0 ≤ d) : w_T sc d 81 0 (x_en 0 [.ref 198, .int (iZ p)]) [] S (fun v S2 => v = some (.int (iZ (lce (sA S 199) (sv S 198 2) p))) ∧ S2 = S) := by
  refine w_iload_n rfl rfl rfl ?_
  refine w_istore_n rfl (by decide) rfl ?_
  exact (c_lce_c h0 h1 hg p0 p1 hd _) p _ rfl rfl (by omega) (by omega) (by rfl) (by omega) (Nat.lt_succ_self _)
theorem c_nlf_c {sc : x_S} {d : Nat} {S : w_S} {p : Int} (h0 : 0 ≤ sv S 198 2) (h1 : sv S 198 2 ≤ 161) (hg : ∀ j, 0 ≤ j → j < sv S 198 2 → 0 ≤ sA S 199 j ∧ sA S 199 j < 128) (p0 : 0 ≤ p) (p1 : p ≤ 200) (hd : 0 ≤ d) : ∀ n : Nat, (∀ (i : Int) (lv : x_L) (l0 : lv 0 = some (.ref 198)) (l2 : lv 2 = some (.int (iZ i))) (i0 : p ≤ i) (i1 : i ≤ 200) (ie : nlf (sA S 199) (sv S 198 2) p = nlf (sA S 199) (sv S 198 2) i) (hm : (200 - i).toNat < n), w_T sc d 82 2 lv [] S (fun v S2 => v = some (.int (iZ (nlf (sA S 199) (sv S 198 2) p))) ∧ S2 = S)) := by
  intro n
  induction n with
  | zero => exact fun i lv l0 l2 i0 i1 ie hm => absurd hm (Nat.not_lt_zero _)
  | succ n ih =>
    intro i lv l0 l2 i0 i1 ie hm
    refine w_iload_n rfl l2 rfl ?_
    refine w_aload_n rfl l0 rfl ?_
    refine w_getI (z := sv S 198 2) rfl rfl sh_198 rfl rfl rfl ?_
    apply w_br (A := w_T _ _ 82 21 _ [] _ _) (B := w_T _ _ 82 27 _ [] _ _) (i < sv S 198 2 ∧ (¬ sA S 199 i = 10))
    · intro kT1 kT2
      refine w_ic_ge (pc2 := 27) (pc3 := 10) rfl (by decide) rfl ⟨by omega, by omega⟩ ⟨by omega, by omega⟩ (fun q1 => ?_) (fun q1 => ?_)
      · skip
        exact kT2 (fun q => (Int.not_lt.mpr q1) q.1)
      · skip
        refine w_aload_n rfl l0 rfl ?_
        refine w_getR rfl rfl sh_198 rfl rfl ?_
        refine w_iload_n rfl l2 rfl ?_
        refine w_cald (z := sA S 199 i) rfl sh_199 (by omega) (by omega) (by decide) rfl rfl ?_
        have g2 := hg (i) (by omega) (by omega)
        refine w_bipush rfl (by decide) rfl ?_
        refine w_ic_eq (pc2 := 27) (pc3 := 21) rfl (by decide) rfl ⟨by omega, by omega⟩ ⟨by decide, by decide⟩ (fun q2 => ?_) (fun q2 => ?_)
        · skip
          exact kT2 (fun q => (not_not_intro q2) q.2)
        · skip
          exact kT1 ⟨q1, q2⟩
    · intro c7
      refine w_iinc rfl l2 (by decide) rfl ?_
      refine w_goto (pc2 := 2) rfl (by decide) ?_
      exact ih (i + 1) _ l0 rfl (by omega) (by omega) (by rw [ie]; exact fi_next (by omega) (by simp only [decide_eq_false_iff_not]; omega)) (by omega)
    · intro c7
      refine w_iload_n rfl l2 rfl ?_
      refine w_iret rfl rfl ?_
      exact q_i (by
        rw [ie]
        by_cases e : i < sv S 198 2
        · exact (fi_stop e (by simp only [decide_eq_true_eq]; omega)).symm
        · exact (fi_end (by omega)).symm)
theorem c_nlf {sc : x_S} {d : Nat} {S : w_S} {p : Int} (h0 : 0 ≤ sv S 198 2) (h1 : sv S 198 2 ≤ 161) (hg : ∀ j, 0 ≤ j → j < sv S 198 2 → 0 ≤ sA S 199 j ∧ sA S 199 j < 128) (p0 : 0 ≤ p) (p1 : p ≤ 200) (hd : 0 ≤ d) : w_T sc d 82 0 (x_en 0 [.ref 198, .int (iZ p)]) [] S (fun v S2 => v = some (.int (iZ (nlf (sA S 199) (sv S 198 2) p))) ∧ S2 = S) := by
  refine w_iload_n rfl rfl rfl ?_
  refine w_istore_n rfl (by decide) rfl ?_
  exact (c_nlf_c h0 h1 hg p0 p1 hd _) p _ rfl rfl (by omega) (by omega) (by rfl) (Nat.lt_succ_self _)
theorem c_bl {sc : x_S} {d : Nat} {S : w_S} {p : Int} (h0 : 0 ≤ sv S 198 2) (h1 : sv S 198 2 ≤ 161) (hg : ∀ j, 0 ≤ j → j < sv S 198 2 → 0 ≤ sA S 199 j ∧ sA S 199 j < 128) (p0 : 0 ≤ p) (p1 : p < sv S 198 2) (hd : 1 ≤ d) : w_T sc d 80 0 (x_en 0 [.ref 198, .int (iZ p)]) [] S (fun v S2 => v = some (.int (iZ (bl (sA S 199) (sv S 198 2) p))) ∧ S2 = S) := by
  refine w_aload_n rfl rfl rfl ?_
  refine w_getR rfl rfl sh_198 rfl rfl ?_
  refine w_iload_n rfl rfl rfl ?_
  refine w_cald (z := sA S 199 p) rfl sh_199 (by omega) (by omega) (by decide) rfl rfl ?_
  have g1 := hg (p) (by omega) (by omega)
  refine w_istore_n rfl (by decide) rfl ?_
  refine w_iload_n rfl rfl rfl ?_
  refine w_bipush rfl (by decide) rfl ?_
  refine w_ic_eq (pc2 := 19) (pc3 := 13) rfl (by decide) rfl ⟨by omega, by omega⟩ ⟨by decide, by decide⟩ (fun c10 => ?_) (fun c10 => ?_)
  · skip
    refine w_iload_n rfl rfl rfl ?_
    refine w_iconst rfl rfl ?_
    refine w_iadd rfl rfl ?_
    refine w_iret rfl rfl ?_
    refine q_i ?_
    unfold bl
    rw [if_pos (by omega)]
  · skip
    refine w_iload_n rfl rfl rfl ?_
    refine w_bipush rfl (by decide) rfl ?_
    refine w_ic_ne (pc2 := 23) (pc3 := 19) rfl (by decide) rfl ⟨by omega, by omega⟩ ⟨by decide, by decide⟩ (fun c16 => ?_) (fun c16 => ?_)
    · skip
      refine w_iload_n rfl rfl rfl ?_
      refine w_iconst rfl rfl ?_
      refine w_iadd rfl rfl ?_
      refine w_aload_n rfl rfl rfl ?_
      refine w_getI (z := sv S 198 2) rfl rfl sh_198 rfl rfl rfl ?_
      refine w_ic_ge (pc2 := 44) (pc3 := 33) rfl (by decide) rfl ⟨by omega, by omega⟩ ⟨by omega, by omega⟩ (fun c30 => ?_) (fun c30 => ?_)
      · skip
        refine w_bipush rfl (by decide) rfl ?_
        refine w_istore_n rfl (by decide) rfl ?_
        refine w_iload_n rfl rfl rfl ?_
        refine w_bipush rfl (by decide) rfl ?_
        refine w_ic_ne (pc2 := 67) (pc3 := 53) rfl (by decide) rfl ⟨by omega, by omega⟩ ⟨by decide, by decide⟩ (fun c50 => ?_) (fun c50 => ?_)
        · skip
          refine w_iload_n rfl rfl rfl ?_
          refine w_bipush rfl (by decide) rfl ?_
          refine w_ic_ne (pc2 := 87) (pc3 := 73) rfl (by decide) rfl ⟨by omega, by omega⟩ ⟨by decide, by decide⟩ (fun c70 => ?_) (fun c70 => ?_)
          · skip
            refine w_iload_n rfl rfl rfl ?_
            refine w_iret rfl rfl ?_
            refine q_i ?_
            unfold bl
            rw [if_neg (by omega), if_neg (by omega), if_neg (by omega)]
          · skip
            refine w_iload_n rfl rfl rfl ?_
            refine w_bipush rfl (by decide) rfl ?_
            refine w_ic_ne (pc2 := 87) (pc3 := 79) rfl (by decide) rfl ⟨by decide, by decide⟩ ⟨by decide, by decide⟩ (fun _ => ?_) (fun hc => absurd hc (by decide))
            refine w_iload_n rfl rfl rfl ?_
            refine w_iret rfl rfl ?_
            refine q_i ?_
            unfold bl
            rw [if_neg (by omega), if_neg (by omega), if_neg (by omega)]
        · skip
          refine w_iload_n rfl rfl rfl ?_
          refine w_bipush rfl (by decide) rfl ?_
          refine w_ic_ne (pc2 := 67) (pc3 := 59) rfl (by decide) rfl ⟨by decide, by decide⟩ ⟨by decide, by decide⟩ (fun _ => ?_) (fun hc => absurd hc (by decide))
          refine w_iload_n rfl rfl rfl ?_
          refine w_bipush rfl (by decide) rfl ?_
          refine w_ic_ne (pc2 := 87) (pc3 := 73) rfl (by decide) rfl ⟨by omega, by omega⟩ ⟨by decide, by decide⟩ (fun c70 => ?_) (fun c70 => ?_)
          · skip
            refine w_iload_n rfl rfl rfl ?_
            refine w_iret rfl rfl ?_
            refine q_i ?_
            unfold bl
            rw [if_neg (by omega), if_neg (by omega), if_neg (by omega)]
          · skip
            refine w_iload_n rfl rfl rfl ?_
            refine w_bipush rfl (by decide) rfl ?_
            refine w_ic_ne (pc2 := 87) (pc3 := 79) rfl (by decide) rfl ⟨by decide, by decide⟩ ⟨by decide, by decide⟩ (fun _ => ?_) (fun hc => absurd hc (by decide))
            refine w_iload_n rfl rfl rfl ?_
            refine w_iret rfl rfl ?_
            refine q_i ?_
            unfold bl
            rw [if_neg (by omega), if_neg (by omega), if_neg (by omega)]
      · skip
        refine w_aload_n rfl rfl rfl ?_
        refine w_getR rfl rfl sh_198 rfl rfl ?_
        refine w_iload_n rfl rfl rfl ?_
        refine w_iconst rfl rfl ?_
        refine w_iadd rfl rfl ?_
        refine w_cald (z := sA S 199 (p + 1)) rfl sh_199 (by omega) (by omega) (by decide) rfl rfl ?_
        have g2 := hg (p + 1) (by omega) (by omega)
        refine w_goto (pc2 := 46) rfl (by decide) ?_
        refine w_istore_n rfl (by decide) rfl ?_
        refine w_iload_n rfl rfl rfl ?_
        refine w_bipush rfl (by decide) rfl ?_
        refine w_ic_ne (pc2 := 67) (pc3 := 53) rfl (by decide) rfl ⟨by omega, by omega⟩ ⟨by decide, by decide⟩ (fun c50 => ?_) (fun c50 => ?_)
        · skip
          refine w_iload_n rfl rfl rfl ?_
          refine w_bipush rfl (by decide) rfl ?_
          refine w_ic_ne (pc2 := 87) (pc3 := 73) rfl (by decide) rfl ⟨by omega, by omega⟩ ⟨by decide, by decide⟩ (fun c70 => ?_) (fun c70 => ?_)
          · skip
            refine w_iload_n rfl rfl rfl ?_
            refine w_iret rfl rfl ?_
            refine q_i ?_
            unfold bl
            rw [if_neg (by omega), if_neg (by omega), if_neg (by omega)]
          · skip
            refine w_iload_n rfl rfl rfl ?_
            refine w_bipush rfl (by decide) rfl ?_
            refine w_ic_ne (pc2 := 87) (pc3 := 79) rfl (by decide) rfl ⟨by omega, by omega⟩ ⟨by decide, by decide⟩ (fun c76 => ?_) (fun c76 => ?_)
            · skip
              refine w_iload_n rfl rfl rfl ?_
              refine w_iret rfl rfl ?_
              refine q_i ?_
              unfold bl
              rw [if_neg (by omega), if_neg (by omega), if_neg (by omega)]
            · skip
              refine w_aload_n rfl rfl rfl ?_
              refine w_iload_n rfl rfl rfl ?_
              refine w_CV (as := [.int (iZ p)]) (r := []) rfl rfl rfl rfl sh_198 (Nat.le_of_ble_eq_true rfl) (Nat.le_of_ble_eq_true rfl) (by omega) rfl (c_nlf (S := S) h0 h1 hg (by omega) (by omega) (by omega)) ?_
              rintro _ _ ⟨rfl, hS⟩
              rw [hS]
              show w_T _ _ 80 84 _ [.int (iZ (nlf (sA S 199) (sv S 198 2) p))] _ _
              refine w_goto (pc2 := 88) rfl (by decide) ?_
              refine w_iret rfl rfl ?_
              refine q_i ?_
              unfold bl
              rw [if_neg (by omega), if_neg (by omega), if_pos (by omega)]
        · skip
          refine w_iload_n rfl rfl rfl ?_
          refine w_bipush rfl (by decide) rfl ?_
          refine w_ic_ne (pc2 := 67) (pc3 := 59) rfl (by decide) rfl ⟨by omega, by omega⟩ ⟨by decide, by decide⟩ (fun c56 => ?_) (fun c56 => ?_)
          · skip
            refine w_iload_n rfl rfl rfl ?_
            refine w_bipush rfl (by decide) rfl ?_
            refine w_ic_ne (pc2 := 87) (pc3 := 73) rfl (by decide) rfl ⟨by omega, by omega⟩ ⟨by decide, by decide⟩ (fun c70 => ?_) (fun c70 => ?_)
            · skip
              refine w_iload_n rfl rfl rfl ?_
              refine w_iret rfl rfl ?_
              refine q_i ?_
              unfold bl
              rw [if_neg (by omega), if_neg (by omega), if_neg (by omega)]
            · skip
              refine w_iload_n rfl rfl rfl ?_
              refine w_bipush rfl (by decide) rfl ?_
              refine w_ic_ne (pc2 := 87) (pc3 := 79) rfl (by decide) rfl ⟨by omega, by omega⟩ ⟨by decide, by decide⟩ (fun c76 => ?_) (fun c76 => ?_)
              · skip
                refine w_iload_n rfl rfl rfl ?_
                refine w_iret rfl rfl ?_
                refine q_i ?_
                unfold bl
                rw [if_neg (by omega), if_neg (by omega), if_neg (by omega)]
              · skip
                refine w_aload_n rfl rfl rfl ?_
                refine w_iload_n rfl rfl rfl ?_
                refine w_CV (as := [.int (iZ p)]) (r := []) rfl rfl rfl rfl sh_198 (Nat.le_of_ble_eq_true rfl) (Nat.le_of_ble_eq_true rfl) (by omega) rfl (c_nlf (S := S) h0 h1 hg (by omega) (by omega) (by omega)) ?_
                rintro _ _ ⟨rfl, hS⟩
                rw [hS]
                show w_T _ _ 80 84 _ [.int (iZ (nlf (sA S 199) (sv S 198 2) p))] _ _
                refine w_goto (pc2 := 88) rfl (by decide) ?_
                refine w_iret rfl rfl ?_
                refine q_i ?_
                unfold bl
                rw [if_neg (by omega), if_neg (by omega), if_pos (by omega)]
          · skip
            refine w_aload_n rfl rfl rfl ?_
            refine w_iload_n rfl rfl rfl ?_
            refine w_iconst rfl rfl ?_
            refine w_iadd rfl rfl ?_
            refine w_CV (as := [.int (iZ (p + 2))]) (r := []) rfl rfl rfl rfl sh_198 (Nat.le_of_ble_eq_true rfl) (Nat.le_of_ble_eq_true rfl) (by omega) rfl (c_lce (S := S) h0 h1 hg (by omega) (by omega) (by omega)) ?_
            rintro _ _ ⟨rfl, hS⟩
            rw [hS]
            show w_T _ _ 80 66 _ [.int (iZ (lce (sA S 199) (sv S 198 2) (p + 2)))] _ _
            refine w_iret rfl rfl ?_
            refine q_i ?_
            unfold bl
            rw [if_neg (by omega), if_pos (by omega)]
    · skip
      refine w_iload_n rfl rfl rfl ?_
      refine w_iconst rfl rfl ?_
      refine w_iadd rfl rfl ?_
      refine w_iret rfl rfl ?_
      refine q_i ?_
      unfold bl
      rw [if_pos (by omega)]
theorem c_te_c {sc : x_S} {d : Nat} {S : w_S} {p : Int} (h0 : 0 ≤ sv S 198 2) (h1 : sv S 198 2 ≤ 161) (hg : ∀ j, 0 ≤ j → j < sv S 198 2 → 0 ≤ sA S 199 j ∧ sA S 199 j < 128) (p0 : 0 ≤ p) (p1 : p < sv S 198 2) (hd : 4 ≤ d) : ∀ n : Nat, (∀ (i : Int) (lv : x_L) (l0 : lv 0 = some (.ref 198)) (l3 : lv 3 = some (.int (iZ i))) (i0 : p ≤ i) (i1 : i ≤ sv S 198 2) (ie : te (sA S 199) (sv S 198 2) p = wnd (sA S 199) (sv S 198 2) i) (hm : (200 - i).toNat < n), w_T sc d 83 72 lv [] S (fun v S2 => v = some (.int (iZ (te (sA S 199) (sv S 198 2) p))) ∧ S2 = S)) := by
  intro n
  induction n with
  | zero => exact fun i lv l0 l3 i0 i1 ie hm => absurd hm (Nat.not_lt_zero _)
  | succ n ih =>
    intro i lv l0 l3 i0 i1 ie hm
    have hw : i < sv S 198 2 → wdl ((li2l (sA S 199 i)).toInt % 128) = wdl (sA S 199 i) := fun q => by
      have := hg i (by omega) q
      rw [li2l_toInt ⟨by omega, by omega⟩, show sA S 199 i % 128 = sA S 199 i by omega]
    refine w_iload_n rfl l3 rfl ?_
    refine w_aload_n rfl l0 rfl ?_
    refine w_getI (z := sv S 198 2) rfl rfl sh_198 rfl rfl rfl ?_
    apply w_br (A := w_T _ _ 83 93 _ [] _ _) (B := w_T _ _ 83 99 _ [] _ _) (i < sv S 198 2 ∧ (wdl ((li2l (sA S 199 i)).toInt % 128)) = true)
    · intro kT1 kT2
      refine w_ic_ge (pc2 := 99) (pc3 := 80) rfl (by decide) rfl ⟨by omega, by omega⟩ ⟨by omega, by omega⟩ (fun q1 => ?_) (fun q1 => ?_)
      · skip
        exact kT2 (fun q => (Int.not_lt.mpr q1) q.1)
      · skip
        refine w_aload_n rfl l0 rfl ?_
        refine w_getR rfl rfl sh_198 rfl rfl ?_
        refine w_iload_n rfl l3 rfl ?_
        refine w_cald (z := sA S 199 i) rfl sh_199 (by omega) (by omega) (by decide) rfl rfl ?_
        have g2 := hg (i) (by omega) (by omega)
        refine w_zi2l rfl rfl ?_
        refine w_CS (as := [.long (li2l (sA S 199 i))]) (r := []) rfl rfl rfl rfl (Nat.le_of_ble_eq_true rfl) (Nat.le_of_ble_eq_true rfl) (by omega) rfl (c_isw (x := li2l (sA S 199 i)) (by omega)) ?_
        rintro _ _ ⟨rfl, hS⟩
        rw [hS]
        show w_T _ _ 83 90 _ [.int (iZ (zB (wdl ((li2l (sA S 199 i)).toInt % 128))))] _ _
        refine w_b_eq (pc2 := 99) (pc3 := 93) rfl (by decide) rfl (fun q2 => ?_) (fun q2 => ?_)
        · skip
          exact kT2 (fun q => (Bool.eq_false_iff.mp q2) q.2)
        · skip
          exact kT1 ⟨q1, q2⟩
    · intro c77
      refine w_iinc rfl l3 (by decide) rfl ?_
      refine w_goto (pc2 := 72) rfl (by decide) ?_
      exact ih (i + 1) _ l0 rfl (by omega) (by omega) (by rw [ie]; exact fi_next c77.1 (by rw [← hw c77.1, c77.2]; rfl)) (by omega)
    · intro c77
      refine w_iload_n rfl l3 rfl ?_
      refine w_iret rfl rfl ?_
      exact q_i (by
        rw [ie]
        by_cases e : i < sv S 198 2
        · refine (fi_stop e ?_).symm
          rw [← hw e]
          simpa using fun z => c77 ⟨e, z⟩
        · exact (fi_end (by omega)).symm)
theorem c_te {sc : x_S} {d : Nat} {S : w_S} {p : Int} (h0 : 0 ≤ sv S 198 2) (h1 : sv S 198 2 ≤ 161) (hg : ∀ j, 0 ≤ j → j < sv S 198 2 → 0 ≤ sA S 199 j ∧ sA S 199 j < 128) (p0 : 0 ≤ p) (p1 : p < sv S 198 2) (hd : 4 ≤ d) : w_T sc d 83 0 (x_en 0 [.ref 198, .int (iZ p)]) [] S (fun v S2 => v = some (.int (iZ (te (sA S 199) (sv S 198 2) p))) ∧ S2 = S) := by
  have hsr := sio_R 3 (sA S 199 p) 20 0 (by decide)
  have hp := sio3 (c := sA S 199 p) (hg p p0 p1).1 (hg p p0 p1).2
  refine w_aload_n rfl rfl rfl ?_
  refine w_getR rfl rfl sh_198 rfl rfl ?_
  refine w_iload_n rfl rfl rfl ?_
  refine w_cald (z := sA S 199 p) rfl sh_199 (by omega) (by omega) (by decide) rfl rfl ?_
  have g3 := hg (p) (by omega) (by omega)
  refine w_istore_n rfl (by decide) rfl ?_
  refine w_ldcs (q := 3) rfl rfl rfl ?_
  refine w_iload_n rfl rfl rfl ?_
  refine w_C7 (as := [.int (iZ (sA S 199 p))]) (r := []) rfl rfl rfl rfl ⟨by decide, by decide⟩ (Nat.le_of_ble_eq_true rfl) (Nat.le_of_ble_eq_true rfl) (by omega) rfl (c_io (q := 3) (c := sA S 199 p) ⟨by decide, by decide⟩ (by omega) (by omega) (by omega)) ?_
  rintro _ _ ⟨rfl, hS⟩
  rw [hS]
  show w_T _ _ 83 13 _ [.int (iZ (sio 3 (sA S 199 p) 20 0))] _ _
  refine w_if_lt (pc2 := 70) (pc3 := 16) rfl (by decide) rfl ⟨by omega, by omega⟩ (fun c13 => ?_) (fun c13 => ?_)
  · skip
    refine w_iload_n rfl rfl rfl ?_
    refine w_istore_n rfl (by decide) rfl ?_
    exact (c_te_c h0 h1 hg p0 p1 hd _) p _ rfl rfl (by omega) (by omega) (by unfold te; rw [if_neg (fun z => absurd (hp.mpr z) (by omega))]) (Nat.lt_succ_self _)
  · skip
    refine w_iload_n rfl rfl rfl ?_
    refine w_iconst rfl rfl ?_
    refine w_iadd rfl rfl ?_
    refine w_aload_n rfl rfl rfl ?_
    refine w_getI (z := sv S 198 2) rfl rfl sh_198 rfl rfl rfl ?_
    apply w_jn (A := w_T _ _ 83 55 _ [.int (iZ (zB (decide (p + 1 < sv S 198 2 ∧ ((sA S 199 (p + 1)) = sA S 199 p ∧ (sA S 199 p = 35 ∨ sA S 199 p = 61))))))] _ _)
    · intro kT
      refine w_ic_ge (pc2 := 54) (pc3 := 26) rfl (by decide) rfl ⟨by omega, by omega⟩ ⟨by omega, by omega⟩ (fun q3 => ?_) (fun q3 => ?_)
      · skip
        refine w_iconst rfl rfl ?_
        exact w_j0 (p := p + 1 < sv S 198 2 ∧ ((sA S 199 (p + 1)) = sA S 199 p ∧ (sA S 199 p = 35 ∨ sA S 199 p = 61))) (fun q => (Int.not_lt.mpr q3) q.1) kT
      · skip
        refine w_aload_n rfl rfl rfl ?_
        refine w_getR rfl rfl sh_198 rfl rfl ?_
        refine w_iload_n rfl rfl rfl ?_
        refine w_iconst rfl rfl ?_
        refine w_iadd rfl rfl ?_
        refine w_cald (z := sA S 199 (p + 1)) rfl sh_199 (by omega) (by omega) (by decide) rfl rfl ?_
        have g5 := hg (p + 1) (by omega) (by omega)
        refine w_iload_n rfl rfl rfl ?_
        refine w_ic_ne (pc2 := 54) (pc3 := 38) rfl (by decide) rfl ⟨by omega, by omega⟩ ⟨by omega, by omega⟩ (fun q4 => ?_) (fun q4 => ?_)
        · skip
          refine w_iconst rfl rfl ?_
          exact w_j0 (p := p + 1 < sv S 198 2 ∧ ((sA S 199 (p + 1)) = sA S 199 p ∧ (sA S 199 p = 35 ∨ sA S 199 p = 61))) (fun q => (fun q => q4 q.1) q.2) kT
        · skip
          refine w_iload_n rfl rfl rfl ?_
          refine w_bipush rfl (by decide) rfl ?_
          refine w_ic_eq (pc2 := 50) (pc3 := 44) rfl (by decide) rfl ⟨by omega, by omega⟩ ⟨by decide, by decide⟩ (fun q5 => ?_) (fun q5 => ?_)
          · skip
            refine w_iconst rfl rfl ?_
            refine w_goto (pc2 := 55) rfl (by decide) ?_
            exact w_j1 (p := p + 1 < sv S 198 2 ∧ ((sA S 199 (p + 1)) = sA S 199 p ∧ (sA S 199 p = 35 ∨ sA S 199 p = 61))) ⟨q3, ⟨q4, (Or.inl q5)⟩⟩ kT
          · skip
            refine w_iload_n rfl rfl rfl ?_
            refine w_bipush rfl (by decide) rfl ?_
            refine w_ic_ne (pc2 := 54) (pc3 := 50) rfl (by decide) rfl ⟨by omega, by omega⟩ ⟨by decide, by decide⟩ (fun q6 => ?_) (fun q6 => ?_)
            · skip
              refine w_iconst rfl rfl ?_
              exact w_j0 (p := p + 1 < sv S 198 2 ∧ ((sA S 199 (p + 1)) = sA S 199 p ∧ (sA S 199 p = 35 ∨ sA S 199 p = 61))) (fun q => (fun q => (not_or.mpr ⟨q5, q6⟩) q.2) q.2) kT
            · skip
              refine w_iconst rfl rfl ?_
              refine w_goto (pc2 := 55) rfl (by decide) ?_
              exact w_j1 (p := p + 1 < sv S 198 2 ∧ ((sA S 199 (p + 1)) = sA S 199 p ∧ (sA S 199 p = 35 ∨ sA S 199 p = 61))) ⟨q3, ⟨q4, (Or.inr q6)⟩⟩ kT
    · show w_T _ _ 83 55 _ [.int (iZ (zB (decide (p + 1 < sv S 198 2 ∧ ((sA S 199 (p + 1)) = sA S 199 p ∧ (sA S 199 p = 35 ∨ sA S 199 p = 61))))))] _ _
      refine w_istore_n rfl (by decide) rfl ?_
      refine w_iload_n rfl rfl rfl ?_
      apply w_jn (A := w_T _ _ 83 69 _ [.int (iZ (if ¬ (p + 1 < sv S 198 2 ∧ ((sA S 199 (p + 1)) = sA S 199 p ∧ (sA S 199 p = 35 ∨ sA S 199 p = 61))) then p + 1 else p + 2))] _ _)
      · intro kT
        refine w_p_eq (pc2 := 66) (pc3 := 60) rfl (by decide) rfl (fun q7 => ?_) (fun q7 => ?_)
        · skip
          refine w_iload_n rfl rfl rfl ?_
          refine w_iconst rfl rfl ?_
          refine w_iadd rfl rfl ?_
          exact w_ji1 (p := ¬ (p + 1 < sv S 198 2 ∧ ((sA S 199 (p + 1)) = sA S 199 p ∧ (sA S 199 p = 35 ∨ sA S 199 p = 61)))) (a := p + 1) (b := p + 2) q7 kT
        · skip
          refine w_iload_n rfl rfl rfl ?_
          refine w_iconst rfl rfl ?_
          refine w_iadd rfl rfl ?_
          refine w_goto (pc2 := 69) rfl (by decide) ?_
          exact w_ji0 (p := ¬ (p + 1 < sv S 198 2 ∧ ((sA S 199 (p + 1)) = sA S 199 p ∧ (sA S 199 p = 35 ∨ sA S 199 p = 61)))) (a := p + 1) (b := p + 2) (not_not_intro q7) kT
      · show w_T _ _ 83 69 _ [.int (iZ (if ¬ (p + 1 < sv S 198 2 ∧ ((sA S 199 (p + 1)) = sA S 199 p ∧ (sA S 199 p = 35 ∨ sA S 199 p = 61))) then p + 1 else p + 2))] _ _
        refine w_iret rfl rfl ?_
        refine q_i ?_
        unfold te
        rw [if_pos (hp.mp (by omega))]
        split <;> first | rfl | (split <;> first | rfl | omega)
theorem c_pk_c {sc : x_S} {d : Nat} {S : w_S} {p q : Int} (h0 : 0 ≤ sv S 198 2) (h1 : sv S 198 2 ≤ 161) (hg : ∀ j, 0 ≤ j → j < sv S 198 2 → 0 ≤ sA S 199 j ∧ sA S 199 j < 128) (p0 : 0 ≤ p) (p1 : p ≤ q) (p2 : q ≤ sv S 198 2) (hd : 0 ≤ d) : ∀ n : Nat, (∀ (x : Int64) (i : Int) (lv : x_L) (l0 : lv 0 = some (.ref 198)) (l2 : lv 2 = some (.int (iZ q))) (l3 : lv 3 = some (.long x)) (l5 : lv 5 = some (.int (iZ i))) (i0 : p ≤ i) (i1 : i ≤ q) (ie : pkN (sA S 199) (q - i).toNat i x = pk (sA S 199) p q) (hm : (200 - i).toNat < n), w_T sc d 84 5 lv [] S (fun v S2 => v = some (.long (pk (sA S 199) p q)) ∧ S2 = S)) := by
  intro n
  induction n with
  | zero => exact fun x i lv l0 l2 l3 l5 i0 i1 ie hm => absurd hm (Nat.not_lt_zero _)
  | succ n ih =>
    intro x i lv l0 l2 l3 l5 i0 i1 ie hm
    refine w_iload rfl l5 rfl ?_
    refine w_iload_n rfl l2 rfl ?_
    refine w_ic_ge (pc2 := 31) (pc3 := 11) rfl (by decide) rfl ⟨by omega, by omega⟩ ⟨by omega, by omega⟩ (fun c8 => ?_) (fun c8 => ?_)
    · skip
      refine w_lload_n rfl l3 rfl ?_
      refine w_lret rfl rfl ?_
      exact q_l (by rw [← ie, show (q - i).toNat = 0 by omega]; rfl)
    · skip
      refine w_lload_n rfl l3 rfl ?_
      refine w_bipush rfl (by decide) rfl ?_
      refine w_zlshl rfl rfl ?_
      refine w_aload_n rfl l0 rfl ?_
      refine w_getR rfl rfl sh_198 rfl rfl ?_
      refine w_iload rfl l5 rfl ?_
      refine w_cald (z := sA S 199 i) rfl sh_199 (by omega) (by omega) (by decide) rfl rfl ?_
      have g1 := hg (i) (by omega) (by omega)
      refine w_zi2l rfl rfl ?_
      refine w_ladd rfl rfl ?_
      refine w_lstore_n rfl (by decide) rfl ?_
      refine w_iinc rfl l5 (by decide) rfl ?_
      refine w_goto (pc2 := 5) rfl (by decide) ?_
      exact ih ((lshl x 7) + (li2l (sA S 199 i))) (i + 1) _ (by exact l0) (by exact (congrArg x_k2 l2)) (by exact rfl) (by exact rfl) (by omega) (by omega) (by rw [← ie, show (q - i).toNat = (q - (i + 1)).toNat + 1 by omega]; rfl) (by omega)
theorem c_pk {sc : x_S} {d : Nat} {S : w_S} {p q : Int} (h0 : 0 ≤ sv S 198 2) (h1 : sv S 198 2 ≤ 161) (hg : ∀ j, 0 ≤ j → j < sv S 198 2 → 0 ≤ sA S 199 j ∧ sA S 199 j < 128) (p0 : 0 ≤ p) (p1 : p ≤ q) (p2 : q ≤ sv S 198 2) (hd : 0 ≤ d) : w_T sc d 84 0 (x_en 0 [.ref 198, .int (iZ p), .int (iZ q)]) [] S (fun v S2 => v = some (.long (pk (sA S 199) p q)) ∧ S2 = S) := by
  refine w_lconst (v := 0) rfl (by decide) rfl ?_
  refine w_lstore_n rfl (by decide) rfl ?_
  refine w_iload_n rfl rfl rfl ?_
  refine w_istore rfl (by decide) rfl ?_
  exact (c_pk_c h0 h1 hg p0 p1 p2 hd _) 0 p _ rfl rfl rfl rfl (by omega) (by omega) (by rfl) (Nat.lt_succ_self _)
