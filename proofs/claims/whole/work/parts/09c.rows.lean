/-! Rows of tokens; what a file gives: its tokens (class). -/
def w_r3 (a b c n : Nat) : Prop := w_sh[a]? = some (0, 10, 0, [(0, b), (0, c), (1, 0)]) ∧ w_sh[b]? = some (2, 1, n, []) ∧ w_sh[c]? = some (1, 0, n, [])
abbrev Tok : Type := Int64 × Int × Int × Bool
def tk0 : Tok := (0, 0, 0, false)
def tkg (t : List Tok) (j : Int) : Tok := t.getD j.toNat tk0
theorem tkg_old {t : List Tok} {x : Tok} {j : Int} (h0 : 0 ≤ j) (h1 : j < t.length) : tkg (t ++ [x]) j = tkg t j := by
  unfold tkg
  rw [List.getD_eq_getElem?_getD, List.getD_eq_getElem?_getD, List.getElem?_append_left (by omega)]
theorem tkg_new {t : List Tok} {x : Tok} : tkg (t ++ [x]) t.length = x := by
  unfold tkg
  rw [List.getD_eq_getElem?_getD, List.getElem?_append_right (by omega)]
  simp
def spl (A N : Int → Int) (n fl : Int) : Nat → Int → Int → Bool → List Tok → Int × List Tok
  | 0, _, _, _, t => (0, t)
  | m + 1, p, ln, g, t => if p < n then (if bl A n p < 0 then (1, t) else if p < bl A n p then spl A N n fl m (bl A n p) (ln + zB (decide (A p = 10))) false t else if te A n p = p ∨ 9 < te A n p - p then (2, t) else spl A N n fl m (te A n p) ln true (t ++ [(pk A p (te A n p), 1000 * fl + 1 + N p, ln, g)])) else (0, t)
section SPL
variable {A N : Int → Int} {n fl : Int} {m : Nat} {p ln : Int} {g : Bool} {t : List Tok}
theorem spl_0 (h : n ≤ p) : spl A N n fl m p ln g t = (0, t) := by
  cases m with
  | zero => rfl
  | succ m =>
    show (if p < n then _ else _) = _
    rw [if_neg (by omega)]
theorem spl_1 (h : p < n) (h1 : bl A n p < 0) : spl A N n fl (m + 1) p ln g t = (1, t) := by
  show (if p < n then (if bl A n p < 0 then _ else _) else _) = _
  rw [if_pos h, if_pos h1]
theorem spl_b (h : p < n) (h1 : p < bl A n p) (h2 : 0 ≤ bl A n p) : spl A N n fl (m + 1) p ln g t = spl A N n fl m (bl A n p) (ln + zB (decide (A p = 10))) false t := by
  show (if p < n then (if bl A n p < 0 then _ else if p < bl A n p then _ else _) else _) = _
  rw [if_pos h, if_neg (by omega), if_pos h1]
theorem spl_2 (h : p < n) (h1 : bl A n p ≤ p) (h2 : 0 ≤ bl A n p) (h3 : te A n p = p ∨ 9 < te A n p - p) : spl A N n fl (m + 1) p ln g t = (2, t) := by
  show (if p < n then (if bl A n p < 0 then _ else if p < bl A n p then _ else if te A n p = p ∨ 9 < te A n p - p then _ else _) else _) = _
  rw [if_pos h, if_neg (by omega), if_neg (by omega), if_pos h3]
theorem spl_t (h : p < n) (h1 : bl A n p ≤ p) (h2 : 0 ≤ bl A n p) (h3 : ¬ (te A n p = p ∨ 9 < te A n p - p)) : spl A N n fl (m + 1) p ln g t = spl A N n fl m (te A n p) ln true (t ++ [(pk A p (te A n p), 1000 * fl + 1 + N p, ln, g)]) := by
  show (if p < n then (if bl A n p < 0 then _ else if p < bl A n p then _ else if te A n p = p ∨ 9 < te A n p - p then _ else _) else _) = _
  rw [if_pos h, if_neg (by omega), if_neg (by omega), if_neg h3]
end SPL
theorem bl_10 {A : Int → Int} {n p : Int} (h : A p = 10) : bl A n p = p + 1 := by
  unfold bl
  rw [if_pos (Or.inr h)]
def srep (S : w_S) (l : Nat) (t : List Tok) : Prop := sv S (203 + 8 * l) 2 = t.length ∧ ∀ j : Int, 0 ≤ j → j < t.length → sL S (204 + 8 * l) j = (tkg t j).1 ∧ sA S (205 + 8 * l) j = (tkg t j).2.1 * 256 ∧ sA S (206 + 8 * l) j = (tkg t j).2.2.1 ∧ sA S (207 + 8 * l) j = zB (tkg t j).2.2.2
theorem c_add {sc : x_S} {d : Nat} {S : w_S} {a b c n : Nat} {x : Int64} {p t : Int} (hr : w_r3 a b c n) (h0 : 0 ≤ sv S a 2) (h1 : sv S a 2 < n) (hn : (n : Int) ≤ 2147483647) (hd : 0 ≤ d) : w_T sc d 96 0 (x_en 0 [.ref a, .long x, .int (iZ p), .int (iZ t)]) [] S (fun v S2 => v = none ∧ S2 = w_v (w_A (w_L S b (w_u (sL S b) (sv S a 2) x)) c (w_u (sA S c) (sv S a 2) (p * 256 + t))) a 2 (sv S a 2 + 1)) := by
  refine w_aload_n rfl rfl rfl ?_
  refine w_getI (z := sv S a 2) rfl rfl hr.1 rfl rfl rfl ?_
  refine w_aload_n rfl rfl rfl ?_
  refine w_getR rfl rfl hr.1 rfl rfl ?_
  refine w_alen rfl hr.2.1 (by decide) (by decide) rfl ?_
  refine w_ic_ge (pc2 := 49) (pc3 := 12) rfl (by decide) rfl ⟨by omega, by omega⟩ ⟨by omega, by omega⟩ (fun c9 => ?_) (fun c9 => ?_)
  · omega
  · skip
    refine w_aload_n rfl rfl rfl ?_
    refine w_getR rfl rfl hr.1 rfl rfl ?_
    refine w_aload_n rfl rfl rfl ?_
    refine w_getI (z := sv S a 2) rfl rfl hr.1 rfl rfl rfl ?_
    refine w_lload_n rfl rfl rfl ?_
    refine w_laS (f := sL S b) rfl hr.2.1 (by omega) (by omega) (by omega) rfl rfl ?_
    refine w_aload_n rfl rfl rfl ?_
    refine w_getR rfl rfl hr.1 rfl rfl ?_
    refine w_aload_n rfl rfl rfl ?_
    refine w_getI (z := sv S a 2) rfl rfl hr.1 rfl rfl rfl ?_
    refine w_iload_n rfl rfl rfl ?_
    refine w_sipush rfl (by decide) rfl ?_
    refine w_imul rfl rfl ?_
    refine w_iload rfl rfl rfl ?_
    refine w_iadd rfl rfl ?_
    refine w_iaS (f := sA S c) rfl hr.2.2 (by omega) (by omega) (by omega) rfl rfl ?_
    refine w_aload_n rfl rfl rfl ?_
    refine w_dup rfl rfl rfl ?_
    refine w_getI (z := sv S a 2) rfl rfl hr.1 rfl rfl rfl ?_
    refine w_iconst rfl rfl ?_
    refine w_iadd rfl rfl ?_
    refine w_putf rfl rfl hr.1 rfl rfl (by decide) rfl ?_
    refine w_vret rfl rfl ?_
    exact ⟨rfl, rfl⟩
theorem c_adf {sc : x_S} {d : Nat} {S : w_S} {a b c n a2 b2 c2 n2 : Nat} {i : Int} (hr : w_r3 a b c n) (h0 : 0 ≤ sv S a 2) (h1 : sv S a 2 < n) (hn : (n : Int) ≤ 2147483647) (hr2 : w_r3 a2 b2 c2 n2) (hn2 : (n2 : Int) ≤ 2147483647) (i0 : 0 ≤ i) (i1 : i < sv S a2 2) (i2 : sv S a2 2 ≤ n2) (hd : 0 ≤ d) : w_T sc d 99 0 (x_en 0 [.ref a, .ref a2, .int (iZ i)]) [] S (fun v S2 => v = none ∧ S2 = w_v (w_A (w_L S b (w_u (sL S b) (sv S a 2) (sL S b2 i))) c (w_u (sA S c) (sv S a 2) (sA S c2 i))) a 2 (sv S a 2 + 1)) := by
  refine w_iload_n rfl rfl rfl ?_
  refine w_if_lt (pc2 := 64) (pc3 := 4) rfl (by decide) rfl ⟨by omega, by omega⟩ (fun c1 => ?_) (fun c1 => ?_)
  · omega
  · skip
    refine w_iload_n rfl rfl rfl ?_
    refine w_aload_n rfl rfl rfl ?_
    refine w_getI (z := sv S a2 2) rfl rfl hr2.1 rfl rfl rfl ?_
    refine w_ic_ge (pc2 := 64) (pc3 := 12) rfl (by decide) rfl ⟨by omega, by omega⟩ ⟨by omega, by omega⟩ (fun c9 => ?_) (fun c9 => ?_)
    · omega
    · skip
      refine w_aload_n rfl rfl rfl ?_
      refine w_getI (z := sv S a 2) rfl rfl hr.1 rfl rfl rfl ?_
      refine w_aload_n rfl rfl rfl ?_
      refine w_getR rfl rfl hr.1 rfl rfl ?_
      refine w_alen rfl hr.2.1 (by decide) (by decide) rfl ?_
      refine w_ic_ge (pc2 := 64) (pc3 := 24) rfl (by decide) rfl ⟨by omega, by omega⟩ ⟨by omega, by omega⟩ (fun c21 => ?_) (fun c21 => ?_)
      · omega
      · skip
        refine w_aload_n rfl rfl rfl ?_
        refine w_getR rfl rfl hr.1 rfl rfl ?_
        refine w_aload_n rfl rfl rfl ?_
        refine w_getI (z := sv S a 2) rfl rfl hr.1 rfl rfl rfl ?_
        refine w_aload_n rfl rfl rfl ?_
        refine w_getR rfl rfl hr2.1 rfl rfl ?_
        refine w_iload_n rfl rfl rfl ?_
        refine w_lald (z := sL S b2 i) rfl hr2.2.1 (by omega) (by omega) (by omega) rfl rfl ?_
        refine w_laS (f := sL S b) rfl hr.2.1 (by omega) (by omega) (by omega) rfl rfl ?_
        refine w_aload_n rfl rfl rfl ?_
        refine w_getR rfl rfl hr.1 rfl rfl ?_
        refine w_aload_n rfl rfl rfl ?_
        refine w_getI (z := sv S a 2) rfl rfl hr.1 rfl rfl rfl ?_
        refine w_aload_n rfl rfl rfl ?_
        refine w_getR rfl rfl hr2.1 rfl rfl ?_
        refine w_iload_n rfl rfl rfl ?_
        refine w_iald (z := sA S c2 i) rfl hr2.2.2 (by omega) (by omega) (by omega) rfl rfl ?_
        refine w_iaS (f := sA S c) rfl hr.2.2 (by omega) (by omega) (by omega) rfl rfl ?_
        refine w_aload_n rfl rfl rfl ?_
        refine w_dup rfl rfl rfl ?_
        refine w_getI (z := sv S a 2) rfl rfl hr.1 rfl rfl rfl ?_
        refine w_iconst rfl rfl ?_
        refine w_iadd rfl rfl ?_
        refine w_putf rfl rfl hr.1 rfl rfl (by decide) rfl ?_
        refine w_vret rfl rfl ?_
        exact ⟨rfl, rfl⟩
theorem c_plc {sc : x_S} {d : Nat} {S : w_S} {a b c n : Nat} {i : Int} (hr : w_r3 a b c n) (hn : (n : Int) ≤ 2147483647) (i0 : 0 ≤ i) (i1 : i < n) (z0 : 0 ≤ sA S c i) (z1 : sA S c i < 2147483648) (hd : 0 ≤ d) : w_T sc d 97 0 (x_en 0 [.ref a, .int (iZ i)]) [] S (fun v S2 => v = some (.int (iZ (sA S c i / 256))) ∧ S2 = S) := by
  refine w_aload_n rfl rfl rfl ?_
  refine w_getR rfl rfl hr.1 rfl rfl ?_
  refine w_iload_n rfl rfl rfl ?_
  refine w_iald (z := sA S c i) rfl hr.2.2 (by omega) (by omega) (by omega) rfl rfl ?_
  refine w_sipush rfl (by decide) rfl ?_
  refine w_zdiv rfl (by decide) rfl ?_
  refine w_iret rfl rfl ?_
  exact q_i (zdiv_id z0 z1 (by decide) (by decide))
theorem c_hid {sc : x_S} {d : Nat} {S : w_S} {a b c n : Nat} {i : Int} (hr : w_r3 a b c n) (hn : (n : Int) ≤ 2147483647) (i0 : 0 ≤ i) (i1 : i < n) (z0 : 0 ≤ sA S c i) (z1 : sA S c i < 2147483648) (hd : 0 ≤ d) : w_T sc d 98 0 (x_en 0 [.ref a, .int (iZ i)]) [] S (fun v S2 => v = some (.int (iZ (sA S c i % 256))) ∧ S2 = S) := by
  refine w_aload_n rfl rfl rfl ?_
  refine w_getR rfl rfl hr.1 rfl rfl ?_
  refine w_iload_n rfl rfl rfl ?_
  refine w_iald (z := sA S c i) rfl hr.2.2 (by omega) (by omega) (by omega) rfl rfl ?_
  refine w_sipush rfl (by decide) rfl ?_
  refine w_zrem rfl (by decide) rfl ?_
  refine w_iret rfl rfl ?_
  exact q_i (zrem_id z0 z1 (by decide) (by decide))
theorem c_sad {sc : x_S} {d : Nat} {S : w_S} {l : Nat} {x : Int64} {p ln : Int} {g : Bool} {t : List Tok} (hl : l < 4) (hs : srep S l t) (ht : t.length < 160) (hd : 1 ≤ d) : w_T sc d 87 0 (x_en 0 [.ref (202 + 8 * l), .long x, .int (iZ p), .int (iZ ln), .int (iZ (zB g))]) [] S (fun v S2 => v = none ∧ fr (fun a => a = 203 + 8 * l ∨ a = 204 + 8 * l ∨ a = 205 + 8 * l ∨ a = 206 + 8 * l ∨ a = 207 + 8 * l) S S2 ∧ srep S2 l (t ++ [(x, p, ln, g)])) := by
  have hz := hs.1
  refine w_aload_n rfl rfl rfl ?_
  refine w_getR rfl rfl (sh_src hl) rfl rfl ?_
  refine w_getI (z := sv S (203 + 8 * l) 2) rfl rfl (sh_srow hl).1 rfl rfl rfl ?_
  refine w_istore rfl (by decide) rfl ?_
  refine w_iload rfl rfl rfl ?_
  refine w_sipush rfl (by decide) rfl ?_
  refine w_ic_ge (pc2 := 45) (pc3 := 17) rfl (by decide) rfl ⟨by omega, by omega⟩ ⟨by decide, by decide⟩ (fun c14 => ?_) (fun c14 => ?_)
  · omega
  · skip
    refine w_aload_n rfl rfl rfl ?_
    refine w_getR rfl rfl (sh_src hl) rfl rfl ?_
    refine w_iload rfl rfl rfl ?_
    refine w_iload rfl rfl rfl ?_
    refine w_iaS (f := sA S (206 + 8 * l)) rfl (sh_src4 hl) (by omega) (by omega) (by decide) rfl rfl ?_
    refine w_aload_n rfl rfl rfl ?_
    refine w_getR rfl rfl (sh_src hl) rfl rfl ?_
    refine w_iload rfl rfl rfl ?_
    refine w_iload rfl rfl rfl ?_
    refine w_baS (f := sA S (207 + 8 * l)) rfl (sh_src5 hl) (by omega) (by omega) (by decide) (zB_nar _) (rA_ne (by omega)) rfl ?_
    refine w_aload_n rfl rfl rfl ?_
    refine w_getR rfl rfl (sh_src hl) rfl rfl ?_
    refine w_lload_n rfl rfl rfl ?_
    refine w_iload_n rfl rfl rfl ?_
    refine w_iconst rfl rfl ?_
    refine w_CV (as := [.long x, .int (iZ p), .int (iZ 0)]) (r := []) rfl rfl rfl rfl (sh_srow hl).1 (Nat.le_of_ble_eq_true rfl) (Nat.le_of_ble_eq_true rfl) (by omega) rfl (c_add (a := 203 + 8 * l) (b := 204 + 8 * l) (c := 205 + 8 * l) (n := 160) ⟨(sh_srow hl).1, (sh_srow hl).2.1, (sh_srow hl).2.2⟩ (by (try simp (disch := omega) only [rv_self, rv_ne, rl_self, rl_ne, rA_self, rA_ne, rL_self, rL_ne, rR_self, rR_ne, xvl, xvA, xvL, xvR, xlv, xlA, xlL, xlR, xAv, xAl, xAL, xAR, xLv, xLl, xLA, xLR, xRv, xRl, xRA, xRL]); omega) (by (try simp (disch := omega) only [rv_self, rv_ne, rl_self, rl_ne, rA_self, rA_ne, rL_self, rL_ne, rR_self, rR_ne, xvl, xvA, xvL, xvR, xlv, xlA, xlL, xlR, xAv, xAl, xAL, xAR, xLv, xLl, xLA, xLR, xRv, xRl, xRA, xRL]); omega) (by decide) (by omega)) ?_
    rintro _ _ ⟨rfl, hS⟩
    rw [hS]
    show w_T _ _ 87 45 _ [] _ _
    refine w_vret rfl rfl ?_
    refine ⟨rfl, (fr_v (fr_A (fr_L (fr_A (fr_A (fr_refl _ _) (by omega)) (by omega)) (by omega)) (by omega)) (by omega)), ?_, ?_⟩
    · simp (disch := omega) only [rv_self, rv_ne, rl_self, rl_ne, rA_self, rA_ne, rL_self, rL_ne, rR_self, rR_ne, xvl, xvA, xvL, xvR, xlv, xlA, xlL, xlR, xAv, xAl, xAL, xAR, xLv, xLl, xLA, xLR, xRv, xRl, xRA, xRL]
      rw [hz, List.length_append]
      rfl
    · intro j q1 q2
      simp (disch := omega) only [rv_self, rv_ne, rl_self, rl_ne, rA_self, rA_ne, rL_self, rL_ne, rR_self, rR_ne, xvl, xvA, xvL, xvR, xlv, xlA, xlL, xlR, xAv, xAl, xAL, xAR, xLv, xLl, xLA, xLR, xRv, xRl, xRA, xRL]
      rw [hz]
      rw [List.length_append] at q2
      by_cases hj : j = t.length
      · rw [hj, w_u_self, w_u_self, w_u_self, w_u_self, tkg_new]
        exact ⟨rfl, Int.add_zero _, rfl, rfl⟩
      · rw [w_u_ne _ _ hj, w_u_ne _ _ hj, w_u_ne _ _ hj, w_u_ne _ _ hj, tkg_old q1 (by simp at q2; omega)]
        exact hs.2 j q1 (by simp at q2; omega)
theorem c_spl2_c {sc : x_S} {d : Nat} {S : w_S} {l : Nat} (hl : l < 4) (h0 : 0 ≤ sv S 198 2) (h1 : sv S 198 2 ≤ 161) (hg : ∀ j, 0 ≤ j → j < sv S 198 2 → 0 ≤ sA S 199 j ∧ sA S 199 j < 128) (h6 : sv S 198 2 = 161 → sA S 199 160 = 10) (hz : srep S l []) (hd : 6 ≤ d) : ∀ n : Nat, (∀ (ln : Int) (g : Bool) (p : Int) (tn : Int) (m : Nat) (t : List Tok) (T : w_S) (lv : x_L) (l0 : lv 0 = some (.ref 198)) (l1 : lv 1 = some (.ref (202 + 8 * l))) (l2 : lv 2 = some (.int (iZ ln))) (l3 : lv 3 = some (.int (iZ (zB g)))) (l4 : lv 4 = some (.int (iZ p))) (l5 : lv 5 = some (.int (iZ tn))) (hfr : fr (fun a => a = 203 + 8 * l ∨ a = 204 + 8 * l ∨ a = 205 + 8 * l ∨ a = 206 + 8 * l ∨ a = 207 + 8 * l) S T) (p0 : 0 ≤ p) (p1 : p ≤ sv S 198 2) (n0 : 0 ≤ tn) (n1 : tn ≤ p) (hmm : sv S 198 2 - p ≤ m) (hs : srep T l t) (tl : t.length ≤ p) (he : spl (sA S 199) (sA S 200) (sv S 198 2) (sv S (202 + 8 * l) 0) m p ln g t = spl (sA S 199) (sA S 200) (sv S 198 2) (sv S (202 + 8 * l) 0) 161 0 0 false []) (hm : (sv S 198 2 - p).toNat < n), w_T sc d 79 10 lv [] T (fun v S2 => v = some (.int (iZ (spl (sA S 199) (sA S 200) (sv S 198 2) (sv S (202 + 8 * l) 0) 161 0 0 false []).1)) ∧ fr (fun a => a = 203 + 8 * l ∨ a = 204 + 8 * l ∨ a = 205 + 8 * l ∨ a = 206 + 8 * l ∨ a = 207 + 8 * l) S S2 ∧ srep S2 l (spl (sA S 199) (sA S 200) (sv S 198 2) (sv S (202 + 8 * l) 0) 161 0 0 false []).2)) := by
  intro n
  induction n with
  | zero => exact fun ln g p tn m t T lv l0 l1 l2 l3 l4 l5 hfr p0 p1 n0 n1 hmm hs tl he hm => absurd hm (Nat.not_lt_zero _)
  | succ n ih =>
    intro ln g p tn m t T lv l0 l1 l2 l3 l4 l5 hfr p0 p1 n0 n1 hmm hs tl he hm
    have e8 : sv T 198 2 = sv S 198 2 := fr_gv hfr (by omega) 2
    have e9 : sA T 199 = sA S 199 := fr_gA hfr (by omega)
    have e0 : sA T 200 = sA S 200 := fr_gA hfr (by omega)
    have ef : sv T (202 + 8 * l) 0 = sv S (202 + 8 * l) 0 := fr_gv hfr (by omega) 0
    have k0 : 0 ≤ sv T 198 2 := by omega
    have k1 : sv T 198 2 ≤ 161 := by omega
    have kg : ∀ j, 0 ≤ j → j < sv T 198 2 → 0 ≤ sA T 199 j ∧ sA T 199 j < 128 := by
      rw [e8, e9]
      exact hg
    have he2 : spl (sA T 199) (sA T 200) (sv T 198 2) (sv T (202 + 8 * l) 0) m p ln g t = spl (sA S 199) (sA S 200) (sv S 198 2) (sv S (202 + 8 * l) 0) 161 0 0 false [] := by
      rw [e8, e9, e0, ef]
      exact he
    refine w_iload rfl l5 rfl ?_
    refine w_sipush rfl (by decide) rfl ?_
    refine w_ic_gt (pc2 := 168) (pc3 := 18) rfl (by decide) rfl ⟨by omega, by omega⟩ ⟨by decide, by decide⟩ (fun c15 => ?_) (fun c15 => ?_)
    · skip
      refine w_iconst rfl rfl ?_
      refine w_iret rfl rfl ?_
      rw [spl_0 (by omega)] at he2
      rw [← he2]
      exact ⟨rfl, hfr, hs⟩
    · skip
      refine w_iload rfl l4 rfl ?_
      refine w_aload_n rfl l0 rfl ?_
      refine w_getI (z := sv T 198 2) rfl rfl sh_198 rfl rfl rfl ?_
      refine w_ic_ge (pc2 := 168) (pc3 := 27) rfl (by decide) rfl ⟨by omega, by omega⟩ ⟨by omega, by omega⟩ (fun c24 => ?_) (fun c24 => ?_)
      · skip
        refine w_iconst rfl rfl ?_
        refine w_iret rfl rfl ?_
        rw [spl_0 (by omega)] at he2
        rw [← he2]
        exact ⟨rfl, hfr, hs⟩
      · skip
        obtain ⟨mm, rfl⟩ : ∃ mm, m = mm + 1 := ⟨m - 1, by omega⟩
        have hb := bl_r (A := sA T 199) c24
        have htr := te_r (A := sA T 199) c24
        refine w_aload_n rfl l0 rfl ?_
        refine w_iload rfl l4 rfl ?_
        refine w_CV (as := [.int (iZ p)]) (r := []) rfl rfl rfl rfl sh_198 (Nat.le_of_ble_eq_true rfl) (Nat.le_of_ble_eq_true rfl) (by omega) rfl (c_bl (S := T) k0 k1 kg (by omega) (by omega) (by omega)) ?_
        rintro _ _ ⟨rfl, hS⟩
        rw [hS]
        show w_T _ _ 79 33 _ [.int (iZ (bl (sA T 199) (sv T 198 2) p))] _ _
        refine w_istore rfl (by decide) rfl ?_
        refine w_iload rfl rfl rfl ?_
        refine w_if_ge (pc2 := 42) (pc3 := 40) rfl (by decide) rfl ⟨by omega, by omega⟩ (fun c37 => ?_) (fun c37 => ?_)
        · skip
          refine w_iload rfl rfl rfl ?_
          refine w_iload rfl l4 rfl ?_
          refine w_ic_le (pc2 := 53) (pc3 := 49) rfl (by decide) rfl ⟨by omega, by omega⟩ ⟨by omega, by omega⟩ (fun c46 => ?_) (fun c46 => ?_)
          · skip
            refine w_iconst rfl rfl ?_
            refine w_istore rfl (by decide) rfl ?_
            refine w_iload rfl rfl rfl ?_
            refine w_if_eq (pc2 := 84) (pc3 := 61) rfl (by decide) rfl ⟨by decide, by decide⟩ (fun _ => ?_) (fun hc => absurd hc (by decide))
            refine w_aload_n rfl l0 rfl ?_
            refine w_iload rfl l4 rfl ?_
            refine w_CV (as := [.int (iZ p)]) (r := []) rfl rfl rfl rfl sh_198 (Nat.le_of_ble_eq_true rfl) (Nat.le_of_ble_eq_true rfl) (by omega) rfl (c_te (S := T) k0 k1 kg (by omega) (by omega) (by omega)) ?_
            rintro _ _ ⟨rfl, hS⟩
            rw [hS]
            show w_T _ _ 79 90 _ [.int (iZ (te (sA T 199) (sv T 198 2) p))] _ _
            refine w_istore rfl (by decide) rfl ?_
            refine w_iload rfl rfl rfl ?_
            refine w_iload rfl l4 rfl ?_
            refine w_ic_eq (pc2 := 109) (pc3 := 99) rfl (by decide) rfl ⟨by omega, by omega⟩ ⟨by omega, by omega⟩ (fun c96 => ?_) (fun c96 => ?_)
            · skip
              refine w_iconst rfl rfl ?_
              refine w_iret rfl rfl ?_
              rw [spl_2 c24 (by omega) (by omega) (by omega)] at he2
              rw [← he2]
              exact ⟨rfl, hfr, hs⟩
            · skip
              refine w_iload rfl rfl rfl ?_
              refine w_iload rfl l4 rfl ?_
              refine w_isub rfl rfl ?_
              refine w_bipush rfl (by decide) rfl ?_
              refine w_ic_le (pc2 := 111) (pc3 := 109) rfl (by decide) rfl ⟨by omega, by omega⟩ ⟨by decide, by decide⟩ (fun c106 => ?_) (fun c106 => ?_)
              · skip
                have h15 : p < 160 := by
                  by_cases q : p = 160
                  · have q1 := h6 (by omega)
                    have q2 := bl_10 (A := sA T 199) (n := sv T 198 2) (p := p) (by rw [e9, q]; exact q1)
                    omega
                  · omega
                refine w_sipush rfl (by decide) rfl ?_
                refine w_aload_n rfl l1 rfl ?_
                refine w_getI (z := sv T (202 + 8 * l) 0) rfl rfl (sh_src hl) rfl rfl rfl ?_
                refine w_imul rfl rfl ?_
                refine w_iconst rfl rfl ?_
                refine w_iadd rfl rfl ?_
                refine w_aload_n rfl l0 rfl ?_
                refine w_getR rfl rfl sh_198 rfl rfl ?_
                refine w_iload rfl l4 rfl ?_
                refine w_iald (z := sA T 200 p) rfl sh_200 (by omega) (by omega) (by decide) rfl rfl ?_
                refine w_iadd rfl rfl ?_
                refine w_istore rfl (by decide) rfl ?_
                refine w_aload_n rfl l1 rfl ?_
                refine w_aload_n rfl l0 rfl ?_
                refine w_iload rfl l4 rfl ?_
                refine w_iload rfl rfl rfl ?_
                refine w_CV (as := [.int (iZ p), .int (iZ (te (sA T 199) (sv T 198 2) p))]) (r := [.ref (202 + 8 * l)]) rfl rfl rfl rfl sh_198 (Nat.le_of_ble_eq_true rfl) (Nat.le_of_ble_eq_true rfl) (by omega) rfl (c_pk (S := T) k0 k1 kg (by omega) (by omega) (by omega) (by omega)) ?_
                rintro _ _ ⟨rfl, hS⟩
                rw [hS]
                show w_T _ _ 79 140 _ [.long (pk (sA T 199) p (te (sA T 199) (sv T 198 2) p)), .ref (202 + 8 * l)] _ _
                refine w_iload rfl rfl rfl ?_
                refine w_iload_n rfl l2 rfl ?_
                refine w_iload_n rfl l3 rfl ?_
                refine w_CV (as := [.long (pk (sA T 199) p (te (sA T 199) (sv T 198 2) p)), .int (iZ (((1000 * (sv T (202 + 8 * l) 0)) + 1) + (sA T 200 p))), .int (iZ ln), .int (iZ (zB g))]) (r := []) rfl rfl rfl rfl (sh_src hl) (Nat.le_of_ble_eq_true rfl) (Nat.le_of_ble_eq_true rfl) (by omega) rfl (c_sad (S := T) (l := l) (t := t) hl hs (by omega) (by omega)) ?_
                rintro _ T1 ⟨rfl, f1, hs1⟩
                show w_T _ _ 79 147 _ [] _ _
                refine w_iload rfl rfl rfl ?_
                refine w_if_ne (pc2 := 156) (pc3 := 152) rfl (by decide) rfl ⟨by decide, by decide⟩ (fun hc => absurd hc (by decide)) (fun _ => ?_)
                refine w_iconst rfl rfl ?_
                refine w_goto (pc2 := 157) rfl (by decide) ?_
                refine w_istore_n rfl (by decide) rfl ?_
                refine w_iload rfl rfl rfl ?_
                refine w_istore rfl (by decide) rfl ?_
                refine w_iinc rfl (congrArg x_k2 (congrArg x_k2 l5)) (by decide) rfl ?_
                refine w_goto (pc2 := 10) rfl (by decide) ?_
                exact ih ln true (te (sA T 199) (sv T 198 2) p) (tn + 1) mm ((t ++ [(pk (sA T 199) p (te (sA T 199) (sv T 198 2) p), 1000 * sv T (202 + 8 * l) 0 + 1 + sA T 200 p, ln, g)])) _ _ (by exact l0) (by exact l1) (by exact (congrArg x_k2 l2)) (by exact rfl) (by exact rfl) (by exact rfl) (by exact fr_trans hfr f1) (by omega) (by omega) (by omega) (by omega) (by omega) (by exact hs1) (by rw [List.length_append]; simp; omega) (by rw [spl_t c24 (by omega) (by omega) (by omega)] at he2; refine Eq.trans ?_ he2; rw [e8, e9, e0, ef]) (by omega)
              · skip
                refine w_iconst rfl rfl ?_
                refine w_iret rfl rfl ?_
                rw [spl_2 c24 (by omega) (by omega) (by omega)] at he2
                rw [← he2]
                exact ⟨rfl, hfr, hs⟩
          · skip
            refine w_iconst rfl rfl ?_
            refine w_goto (pc2 := 54) rfl (by decide) ?_
            refine w_istore rfl (by decide) rfl ?_
            refine w_iload rfl rfl rfl ?_
            refine w_if_eq (pc2 := 84) (pc3 := 61) rfl (by decide) rfl ⟨by decide, by decide⟩ (fun hc => absurd hc (by decide)) (fun _ => ?_)
            refine w_iload_n rfl l2 rfl ?_
            refine w_aload_n rfl l0 rfl ?_
            refine w_getR rfl rfl sh_198 rfl rfl ?_
            refine w_iload rfl l4 rfl ?_
            refine w_cald (z := sA T 199 p) rfl sh_199 (by omega) (by omega) (by decide) rfl rfl ?_
            have g1 := kg (p) (by omega) (by omega)
            refine w_bipush rfl (by decide) rfl ?_
            refine w_ic_ne (pc2 := 78) (pc3 := 74) rfl (by decide) rfl ⟨by omega, by omega⟩ ⟨by decide, by decide⟩ (fun c71 => ?_) (fun c71 => ?_)
            · skip
              refine w_iconst rfl rfl ?_
              refine w_iadd rfl rfl ?_
              refine w_istore_n rfl (by decide) rfl ?_
              refine w_goto (pc2 := 147) rfl (by decide) ?_
              refine w_iload rfl rfl rfl ?_
              refine w_if_ne (pc2 := 156) (pc3 := 152) rfl (by decide) rfl ⟨by decide, by decide⟩ (fun _ => ?_) (fun hc => absurd hc (by decide))
              refine w_iconst rfl rfl ?_
              refine w_istore_n rfl (by decide) rfl ?_
              refine w_iload rfl rfl rfl ?_
              refine w_istore rfl (by decide) rfl ?_
              refine w_iinc rfl (congrArg x_k2 l5) (by decide) rfl ?_
              refine w_goto (pc2 := 10) rfl (by decide) ?_
              exact ih (ln + 0) false (bl (sA T 199) (sv T 198 2) p) (tn + 1) mm t _ _ (by exact l0) (by exact (congrArg x_k2 l1)) (by exact rfl) (by exact rfl) (by exact rfl) (by exact rfl) (by exact hfr) (by omega) (by omega) (by omega) (by omega) (by omega) (by exact hs) (by omega) (by rw [spl_b c24 (by omega) (by omega), zB_f (decide_eq_false c71)] at he2; refine Eq.trans ?_ he2; rw [e8, e9, e0, ef]) (by omega)
            · skip
              refine w_iconst rfl rfl ?_
              refine w_goto (pc2 := 79) rfl (by decide) ?_
              refine w_iadd rfl rfl ?_
              refine w_istore_n rfl (by decide) rfl ?_
              refine w_goto (pc2 := 147) rfl (by decide) ?_
              refine w_iload rfl rfl rfl ?_
              refine w_if_ne (pc2 := 156) (pc3 := 152) rfl (by decide) rfl ⟨by decide, by decide⟩ (fun _ => ?_) (fun hc => absurd hc (by decide))
              refine w_iconst rfl rfl ?_
              refine w_istore_n rfl (by decide) rfl ?_
              refine w_iload rfl rfl rfl ?_
              refine w_istore rfl (by decide) rfl ?_
              refine w_iinc rfl (congrArg x_k2 l5) (by decide) rfl ?_
              refine w_goto (pc2 := 10) rfl (by decide) ?_
              exact ih (ln + 1) false (bl (sA T 199) (sv T 198 2) p) (tn + 1) mm t _ _ (by exact l0) (by exact (congrArg x_k2 l1)) (by exact rfl) (by exact rfl) (by exact rfl) (by exact rfl) (by exact hfr) (by omega) (by omega) (by omega) (by omega) (by omega) (by exact hs) (by omega) (by rw [spl_b c24 (by omega) (by omega), zB_t (decide_eq_true c71)] at he2; refine Eq.trans ?_ he2; rw [e8, e9, e0, ef]) (by omega)
        · skip
          refine w_iconst rfl rfl ?_
          refine w_iret rfl rfl ?_
          rw [spl_1 c24 (by omega)] at he2
          rw [← he2]
          exact ⟨rfl, hfr, hs⟩
theorem c_spl2 {sc : x_S} {d : Nat} {S : w_S} {l : Nat} (hl : l < 4) (h0 : 0 ≤ sv S 198 2) (h1 : sv S 198 2 ≤ 161) (hg : ∀ j, 0 ≤ j → j < sv S 198 2 → 0 ≤ sA S 199 j ∧ sA S 199 j < 128) (h6 : sv S 198 2 = 161 → sA S 199 160 = 10) (hz : srep S l []) (hd : 6 ≤ d) : w_T sc d 79 0 (x_en 0 [.ref 198, .ref (202 + 8 * l)]) [] S (fun v S2 => v = some (.int (iZ (spl (sA S 199) (sA S 200) (sv S 198 2) (sv S (202 + 8 * l) 0) 161 0 0 false []).1)) ∧ fr (fun a => a = 203 + 8 * l ∨ a = 204 + 8 * l ∨ a = 205 + 8 * l ∨ a = 206 + 8 * l ∨ a = 207 + 8 * l) S S2 ∧ srep S2 l (spl (sA S 199) (sA S 200) (sv S 198 2) (sv S (202 + 8 * l) 0) 161 0 0 false []).2) := by
  refine w_iconst rfl rfl ?_
  refine w_istore_n rfl (by decide) rfl ?_
  refine w_iconst rfl rfl ?_
  refine w_istore_n rfl (by decide) rfl ?_
  refine w_iconst rfl rfl ?_
  refine w_istore rfl (by decide) rfl ?_
  refine w_iconst rfl rfl ?_
  refine w_istore rfl (by decide) rfl ?_
  exact (c_spl2_c hl h0 h1 hg h6 hz hd _) 0 false 0 0 161 ([]) _ _ rfl rfl rfl rfl rfl rfl (by exact fr_refl _ _) (by omega) (by omega) (by omega) (by omega) (by omega) (by exact hz) (by exact Int.le_refl 0) (by rfl) (Nat.lt_succ_self _)
