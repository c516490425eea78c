/-! The reference begins an argument or a replacement. -/
def PUSHp (nm : Nat → Int64) (S : w_S) (i : Int) (A : List ETok) (v : Option Value) (S2 : w_S) : Prop := v = some (.int (iZ 0)) ∧ fr (fun a => a = 249 ∨ a = 269 ∨ a = 270 ∨ a = 277 ∨ a = 278) S S2 ∧ (∀ k, ¬ (k = 29 ∨ k = 46) → sv S2 249 k = sv S 249 k) ∧ sv S2 249 46 = i + 1 ∧ sv S2 249 29 = sv S 249 29 + A.length ∧ bw nm (sL S2 269) (sA S2 270) (sv S 249 29 + A.length) A ∧ (∀ j, j < sv S 249 29 → sL S2 269 j = sL S 269 j ∧ sA S2 270 j = sA S 270 j) ∧ sA S2 277 = w_u (sA S 277) (i + 1) (sv S 249 29) ∧ sA S2 278 = w_u (sA S 278) (i + 1) (sv S 249 32)
def RPp (nm : Nat → Int64) (S : w_S) (i : Int) (e : Mac) (t c : ETok) (as os : List (List ETok)) (v : Option Value) (S2 : w_S) : Prop := v = some (.int (iZ (mrep e as os t.2.1).1)) ∧ fr (fun a => a = 249 ∨ a = 269 ∨ a = 270 ∨ a = 275 ∨ a = 276) S S2 ∧ (∀ k, ¬ (k = 29 ∨ k = 32 ∨ k = 35) → sv S2 249 k = sv S 249 k) ∧ ((mrep e as os t.2.1).1 = 0 → sv S2 249 29 = sv S 249 29 + (mrep e as os t.2.1).2.length ∧ bw nm (sL S2 269) (sA S2 270) (sv S 249 29 + (mrep e as os t.2.1).2.length) ((mrep e as os t.2.1).2.map (addE (xhid e t c))) ∧ (∀ j, j < sv S 249 29 → sL S2 269 j = sL S 269 j ∧ sA S2 270 j = sA S 270 j) ∧ sv S2 249 35 = sA S 283 (4 * i) ∧ sv S2 249 32 = sA S 284 (4 * i))
/-- the call that a level is at -/
def LRp (nm : Nat → Int64) (S : w_S) (i m : Int) (e : Mac) (t c : ETok) (as os : List (List ETok)) : Prop := sA S 279 i = m ∧ rmac S m e ∧ sA S 280 i = eo nm t ∧ zand (zand (eo nm t) (sA S 281 i)) 255 = (hs nm (fun y => t.2.2 y && c.2.2 y) : Nat) ∧ seg nm (sL S 273) (sA S 274) (sA S 283) (4 * i) as ∧ seg nm (sL S 271) (sA S 272) (sA S 284) (4 * i) os ∧ 0 ≤ sA S 283 (4 * i) ∧ sA S 283 (4 * i + as.length) ≤ 1201 ∧ 0 ≤ sA S 284 (4 * i) ∧ sA S 284 (4 * i + os.length) ≤ 2561 ∧ sA S 282 i = os.length
/-- what does not change at a call -/
def LSp (nm : Nat → Int64) (m : Int) (e : Mac) (t : ETok) (as : List (List ETok)) : Prop := 0 ≤ m ∧ m < 8 ∧ mok e ∧ bg e ∧ eok t ∧ nm m.toNat = e.1 ∧ (∀ q, q < 8 → nm q = nm m.toNat → q = m.toNat) ∧ ¬ e.1 = 0 ∧ e.2.2.1.length = as.length ∧ (∀ k, (as.getD k []).length ≤ 40) ∧ lall as ∧ (∀ a, a ∈ as → lgw a)
theorem lgw_get {as : List (List ETok)} (h : ∀ a, a ∈ as → lgw a) (k : Nat) : lgw (as.getD k []) := by
  rw [List.getD_eq_getElem?_getD]
  cases e : as[k]? with
  | none => exact fun x hx => absurd hx (by simp)
  | some a => exact h a (List.mem_of_getElem? e)
theorem r_beg_c {sc : x_S} {d : Nat} {S : w_S} {nm : Nat → Int64} {i m : Int} {e : Mac} {t c : ETok} {as os : List (List ETok)} (hi : sv S 249 46 = i) (i0 : 0 ≤ i) (i1 : i < 31) (hL : LRp nm S i m e t c as os) (hS0 : LSp nm m e t as) (hol : os.length ≤ e.2.2.1.length) (ho4 : ∀ k, (os.getD k []).length ≤ 40) (hlo : lall os) (hgo : ∀ a, a ∈ os → lgw a) (c0 : 0 ≤ sv S 249 29) (c1 : sv S 249 29 ≤ 1321) (hd : 4 ≤ d) : ∀ n : Nat, (∀ (k : Int) (ka : List ETok) (kb : List ETok) (U : w_S) (lv : x_L) (l0 : lv 0 = some (.ref 249)) (l2 : lv 2 = some (.int (iZ (sA S 283 (4 * i + os.length))))) (l4 : lv 4 = some (.int (iZ k))) (hpu : (os.length : Int) < rtk e) (hfr : fr (fun a => a = 249 ∨ a = 269 ∨ a = 270 ∨ a = 277 ∨ a = 278) S U) (h9 : ∀ k, ¬ (k = 29 ∨ k = 46) → sv U 249 k = sv S 249 k) (h46 : sv U 249 46 = i + 1) (hsp : (as.getD os.length []) = ka ++ kb) (hfa : fw nm (sL S 273) (sA S 274) (sA S 283 (4 * i + os.length)) (as.getD os.length [])) (hb0 : 0 ≤ sA S 283 (4 * i + os.length) ∧ sA S 283 (4 * i + os.length) + (as.getD os.length []).length ≤ 1201) (h40 : (as.getD os.length []).length ≤ 40) (hka : (ka.length : Int) = k + 1 - sA S 283 (4 * i + os.length)) (hzz : sv U 249 29 = sv S 249 29 + kb.length) (hb : bw nm (sL U 269) (sA U 270) (sv U 249 29) kb) (hlow : ∀ j, j < sv S 249 29 → sL U 269 j = sL S 269 j ∧ sA U 270 j = sA S 270 j) (h77 : sA U 277 = w_u (sA S 277) (i + 1) (sv S 249 29)) (h78 : sA U 278 = w_u (sA S 278) (i + 1) (sv S 249 32)) (hm : (k + 1).toNat < n), w_T sc d 140 104 lv [] U (fun v S2 => ((os.length : Int) < rtk e → PUSHp nm S i (as.getD os.length []) v S2) ∧ (rtk e ≤ os.length → RPp nm S i e t c as os v S2))) := by
  intro n
  induction n with
  | zero => exact fun k ka kb U lv l0 l2 l4 hpu hfr h9 h46 hsp hfa hb0 h40 hka hzz hb hlow h77 h78 hm => absurd hm (Nat.not_lt_zero _)
  | succ n ih =>
    intro k ka kb U lv l0 l2 l4 hpu hfr h9 h46 hsp hfa hb0 h40 hka hzz hb hlow h77 h78 hm
    have hll : ((as.getD os.length []).length : Int) = ka.length + kb.length := by rw [hsp, List.length_append]; omega
    refine w_iload rfl l4 rfl ?_
    refine w_iload_n rfl l2 rfl ?_
    refine w_ic_lt (pc2 := 134) (pc3 := 110) rfl (by decide) rfl ⟨by omega, by omega⟩ ⟨by omega, by omega⟩ (fun c107 => ?_) (fun c107 => ?_)
    · skip
      refine w_iconst rfl rfl ?_
      refine w_iret rfl rfl ?_
      have hn : ka = [] := List.eq_nil_of_length_eq_zero (by omega)
      rw [hn, List.nil_append] at hsp
      rw [← hsp] at hzz hb
      exact ⟨fun _ => ⟨rfl, hfr, h9, h46, hzz, by rw [← hzz]; exact hb, hlow, h77, h78⟩, fun z => by omega⟩
    · skip
      obtain ⟨k1, x, rfl⟩ := list_snoc (l := ka) (by omega)
      have hka2 : (k1.length : Int) = k - sA S 283 (4 * i + os.length) := by rw [List.length_append] at hka; simp only [List.length_cons, List.length_nil] at hka; omega
      have hx1 : sL U 273 k = x.1 ∧ sA U 274 k = eo nm x := by
        have q := hfa
        rw [hsp, List.append_assoc] at q
        have q2 := fw_at (d3 := kb) q
        rw [show sA S 283 (4 * i + (os.length : Int)) + (k1.length : Int) = k by omega] at q2
        rw [fr_gL hfr (by omega), fr_gA hfr (by omega)]
        exact q2
      have hll3 : ((as.getD os.length []).length : Int) = k1.length + 1 + kb.length := by rw [hsp]; simp only [List.length_append, List.length_cons, List.length_nil]; omega
      refine w_aload_n rfl l0 rfl ?_
      refine w_aload_n rfl l0 rfl ?_
      refine w_getR rfl rfl sh_249 rfl rfl ?_
      refine w_iload rfl l4 rfl ?_
      refine w_lald (z := sL U 273 k) rfl sh_273 (by omega) (by omega) (by decide) rfl rfl ?_
      refine w_aload_n rfl l0 rfl ?_
      refine w_getR rfl rfl sh_249 rfl rfl ?_
      refine w_iload rfl l4 rfl ?_
      refine w_iald (z := sA U 274 k) rfl sh_274 (by omega) (by omega) (by decide) rfl rfl ?_
      refine w_CV (as := [.long (sL U 273 k), .int (iZ (sA U 274 k))]) (r := []) rfl rfl rfl rfl sh_249 (Nat.le_of_ble_eq_true rfl) (Nat.le_of_ble_eq_true rfl) (by omega) rfl (r_lay (x := sL U 273 k) (z := sA U 274 k) (by (try simp (disch := omega) only [rv_self, rv_ne, rl_self, rl_ne, rA_self, rA_ne, rL_self, rL_ne, rR_self, rR_ne, xvl, xvA, xvL, xvR, xlv, xlA, xlL, xlR, xAv, xAl, xAL, xAR, xLv, xLl, xLA, xLR, xRv, xRl, xRA, xRL]); omega) (by (try simp (disch := omega) only [rv_self, rv_ne, rl_self, rl_ne, rA_self, rA_ne, rL_self, rL_ne, rR_self, rR_ne, xvl, xvA, xvL, xvR, xlv, xlA, xlL, xlR, xAv, xAl, xAL, xAR, xLv, xLl, xLA, xLR, xRv, xRl, xRA, xRL]); omega) (by omega)) ?_
      rintro _ _ ⟨rfl, hS⟩
      rw [hS]
      show w_T _ _ 140 128 _ [] _ _
      refine w_iinc rfl l4 (by decide) rfl ?_
      refine w_goto (pc2 := 104) rfl (by decide) ?_
      exact ih (k + (-1)) k1 ((x :: kb)) _ _ l0 l2 rfl (by exact hpu) (by exact (fr_v (fr_A (fr_L hfr (by omega)) (by omega)) (by omega))) (by intro k hk; simp (disch := omega) only [rv_self, rv_ne, rl_self, rl_ne, rA_self, rA_ne, rL_self, rL_ne, rR_self, rR_ne, xvl, xvA, xvL, xvR, xlv, xlA, xlL, xlR, xAv, xAl, xAL, xAR, xLv, xLl, xLA, xLR, xRv, xRl, xRA, xRL]; exact h9 k hk) (by simp (disch := omega) only [rv_self, rv_ne, rl_self, rl_ne, rA_self, rA_ne, rL_self, rL_ne, rR_self, rR_ne, xvl, xvA, xvL, xvR, xlv, xlA, xlL, xlR, xAv, xAl, xAL, xAR, xLv, xLl, xLA, xLR, xRv, xRl, xRA, xRL]; exact h46) (by rw [hsp, List.append_assoc]; rfl) (by exact hfa) (by exact hb0) (by exact h40) (by omega) (by simp (disch := omega) only [rv_self, rv_ne, rl_self, rl_ne, rA_self, rA_ne, rL_self, rL_ne, rR_self, rR_ne, xvl, xvA, xvL, xvR, xlv, xlA, xlL, xlR, xAv, xAl, xAL, xAR, xLv, xLl, xLA, xLR, xRv, xRl, xRA, xRL]; rw [hzz, List.length_cons]; omega) (by simp (disch := omega) only [rv_self, rv_ne, rl_self, rl_ne, rA_self, rA_ne, rL_self, rL_ne, rR_self, rR_ne, xvl, xvA, xvL, xvR, xlv, xlA, xlL, xlR, xAv, xAl, xAL, xAR, xLv, xLl, xLA, xLR, xRv, xRl, xRA, xRL]; rw [hx1.1, hx1.2]; exact bw_push (e := x) hb) (by intro j hj; simp (disch := omega) only [rv_self, rv_ne, rl_self, rl_ne, rA_self, rA_ne, rL_self, rL_ne, rR_self, rR_ne, xvl, xvA, xvL, xvR, xlv, xlA, xlL, xlR, xAv, xAl, xAL, xAR, xLv, xLl, xLA, xLR, xRv, xRl, xRA, xRL]; rw [w_u_ne _ _ (by omega), w_u_ne _ _ (by omega)]; exact hlow j hj) (by simp (disch := omega) only [rv_self, rv_ne, rl_self, rl_ne, rA_self, rA_ne, rL_self, rL_ne, rR_self, rR_ne, xvl, xvA, xvL, xvR, xlv, xlA, xlL, xlR, xAv, xAl, xAL, xAR, xLv, xLl, xLA, xLR, xRv, xRl, xRA, xRL]; exact h77) (by simp (disch := omega) only [rv_self, rv_ne, rl_self, rl_ne, rA_self, rA_ne, rL_self, rL_ne, rR_self, rR_ne, xvl, xvA, xvL, xvR, xlv, xlA, xlL, xlR, xAv, xAl, xAL, xAR, xLv, xLl, xLA, xLR, xRv, xRl, xRA, xRL]; exact h78) (by omega)
theorem r_beg {sc : x_S} {d : Nat} {S : w_S} {nm : Nat → Int64} {i m : Int} {e : Mac} {t c : ETok} {as os : List (List ETok)} (hi : sv S 249 46 = i) (i0 : 0 ≤ i) (i1 : i < 31) (hL : LRp nm S i m e t c as os) (hS0 : LSp nm m e t as) (hol : os.length ≤ e.2.2.1.length) (ho4 : ∀ k, (os.getD k []).length ≤ 40) (hlo : lall os) (hgo : ∀ a, a ∈ os → lgw a) (c0 : 0 ≤ sv S 249 29) (c1 : sv S 249 29 ≤ 1321) (hd : 4 ≤ d) : w_T sc d 140 0 (x_en 0 [.ref 249]) [] S (fun v S2 => ((os.length : Int) < rtk e → PUSHp nm S i (as.getD os.length []) v S2) ∧ (rtk e ≤ os.length → RPp nm S i e t c as os v S2)) := by
  have m0 := hS0.1
  have m8 := hS0.2.1
  have e282 := hL.2.2.2.2.2.2.2.2.2.2
  have hm1 : sA S 279 i = m := hL.1
  have e263 : sA S 263 m = rtk e := hL.2.1.2.1
  have h3 := hS0.2.2.1.1
  have hrk : rtk e = e.2.2.1.length ∨ (rtk e = -1 ∧ e.2.2.1.length = 0) := by
    unfold rtk
    split
    · exact Or.inl rfl
    · rename_i q
      exact Or.inr ⟨rfl, by rw [hS0.2.2.1.2.2.1 (by simpa using q)]; rfl⟩
  have hca := hS0.2.2.2.2.2.2.2.2.1
  refine w_aload_n rfl rfl rfl ?_
  refine w_getR rfl rfl sh_249 rfl rfl ?_
  refine w_aload_n rfl rfl rfl ?_
  refine w_getI (z := sv S 249 46) rfl rfl sh_249 rfl rfl rfl ?_
  refine w_iald (z := sA S 282 (sv S 249 46)) rfl sh_282 (by omega) (by omega) (by decide) rfl rfl ?_
  rw [hi, e282]
  refine w_istore_n rfl (by decide) rfl ?_
  refine w_iload_n rfl rfl rfl ?_
  refine w_aload_n rfl rfl rfl ?_
  refine w_getR rfl rfl sh_249 rfl rfl ?_
  refine w_aload_n rfl rfl rfl ?_
  refine w_getR rfl rfl sh_249 rfl rfl ?_
  refine w_aload_n rfl rfl rfl ?_
  refine w_getI (z := sv S 249 46) rfl rfl sh_249 rfl rfl rfl ?_
  refine w_iald (z := sA S 279 (sv S 249 46)) rfl sh_279 (by omega) (by omega) (by decide) rfl rfl ?_
  rw [hi, hm1]
  refine w_iald (z := sA S 263 m) rfl sh_263 (by omega) (by omega) (by decide) rfl rfl ?_
  rw [e263]
  refine w_ic_lt (pc2 := 33) (pc3 := 28) rfl (by decide) rfl ⟨by omega, by omega⟩ ⟨by omega, by omega⟩ (fun c25 => ?_) (fun c25 => ?_)
  · skip
    have hsg := seg_get as (4 * i) os.length hL.2.2.2.2.1 (by omega)
    have hsn := seg_n as (4 * i) os.length hL.2.2.2.2.1 (by omega)
    have hsm := seg_m hL.2.2.2.2.1 (k := os.length) (by omega)
    have hr0 := hL.2.2.2.2.2.2.1
    have hr1 := hL.2.2.2.2.2.2.2.1
    have ha40 := hS0.2.2.2.2.2.2.2.2.2.1 os.length
    have hlA : loks (as.getD os.length []) := lall_get hS0.2.2.2.2.2.2.2.2.2.2.1 _
    refine w_aload_n rfl rfl rfl ?_
    refine w_getR rfl rfl sh_249 rfl rfl ?_
    refine w_iconst rfl rfl ?_
    refine w_aload_n rfl rfl rfl ?_
    refine w_getI (z := sv S 249 46) rfl rfl sh_249 rfl rfl rfl ?_
    refine w_imul rfl rfl ?_
    refine w_iload_n rfl rfl rfl ?_
    refine w_iadd rfl rfl ?_
    refine w_iald (z := sA S 283 ((4 * (sv S 249 46)) + os.length)) rfl sh_283 (by omega) (by omega) (by decide) rfl rfl ?_
    rw [hi]
    refine w_istore_n rfl (by decide) rfl ?_
    refine w_aload_n rfl rfl rfl ?_
    refine w_getR rfl rfl sh_249 rfl rfl ?_
    refine w_iconst rfl rfl ?_
    refine w_aload_n rfl rfl rfl ?_
    refine w_getI (z := sv S 249 46) rfl rfl sh_249 rfl rfl rfl ?_
    refine w_imul rfl rfl ?_
    refine w_iload_n rfl rfl rfl ?_
    refine w_iadd rfl rfl ?_
    refine w_iconst rfl rfl ?_
    refine w_iadd rfl rfl ?_
    refine w_iald (z := sA S 283 (((4 * (sv S 249 46)) + os.length) + 1)) rfl sh_283 (by omega) (by omega) (by decide) rfl rfl ?_
    rw [hi]
    refine w_istore_n rfl (by decide) rfl ?_
    refine w_aload_n rfl rfl rfl ?_
    refine w_dup rfl rfl rfl ?_
    refine w_getI (z := sv S 249 46) rfl rfl sh_249 rfl rfl rfl ?_
    refine w_iconst rfl rfl ?_
    refine w_iadd rfl rfl ?_
    refine w_putf rfl rfl sh_249 rfl rfl (by decide) rfl ?_
    refine w_aload_n rfl rfl rfl ?_
    refine w_getR rfl rfl sh_249 rfl rfl ?_
    refine w_aload_n rfl rfl rfl ?_
    refine w_getI (z := sv S 249 46 + 1) rfl rfl sh_249 rfl (rv_self _ _ _ _) rfl ?_
    refine w_aload_n rfl rfl rfl ?_
    refine w_getI (z := sv S 249 29) rfl rfl sh_249 rfl (rv_ne (by decide)) rfl ?_
    refine w_iaS (f := sA S 277) rfl sh_277 (by omega) (by omega) (by decide) rfl rfl ?_
    refine w_aload_n rfl rfl rfl ?_
    refine w_getR rfl rfl sh_249 rfl rfl ?_
    refine w_aload_n rfl rfl rfl ?_
    refine w_getI (z := sv S 249 46 + 1) rfl rfl sh_249 rfl (rv_self S 249 46 (sv S 249 46 + 1)) rfl ?_
    refine w_aload_n rfl rfl rfl ?_
    refine w_getI (z := sv S 249 32) rfl rfl sh_249 rfl (rv_ne (S := S) (a := 249) (k := 46) (z := sv S 249 46 + 1) (b := 249) (j := 32) (by decide)) rfl ?_
    refine w_iaS (f := sA S 278) rfl sh_278 (by omega) (by omega) (by decide) (rA_ne (by decide)) rfl ?_
    refine w_iload_n rfl rfl rfl ?_
    refine w_iconst rfl rfl ?_
    refine w_isub rfl rfl ?_
    refine w_istore rfl (by decide) rfl ?_
    exact (r_beg_c hi i0 i1 hL hS0 hol ho4 hlo hgo c0 c1 hd _) ((sA S 283 (4 * i + os.length + 1)) - 1) ((as.getD os.length [])) ([]) _ _ rfl rfl rfl (by exact c25) (by exact (fr_A (fr_A (fr_v (fr_refl _ _) (by omega)) (by omega)) (by omega))) (by intro k hk; simp (disch := omega) only [rv_self, rv_ne, rl_self, rl_ne, rA_self, rA_ne, rL_self, rL_ne, rR_self, rR_ne, xvl, xvA, xvL, xvR, xlv, xlA, xlL, xlR, xAv, xAl, xAL, xAR, xLv, xLl, xLA, xLR, xRv, xRl, xRA, xRL]) (by simp (disch := omega) only [rv_self, rv_ne, rl_self, rl_ne, rA_self, rA_ne, rL_self, rL_ne, rR_self, rR_ne, xvl, xvA, xvL, xvR, xlv, xlA, xlL, xlR, xAv, xAl, xAL, xAR, xLv, xLl, xLA, xLR, xRv, xRl, xRA, xRL]; omega) (by rw [List.append_nil]) (by exact hsg.1) (by omega) (by exact ha40) (by omega) (by simp (disch := omega) only [rv_self, rv_ne, rl_self, rl_ne, rA_self, rA_ne, rL_self, rL_ne, rR_self, rR_ne, xvl, xvA, xvL, xvR, xlv, xlA, xlL, xlR, xAv, xAl, xAL, xAR, xLv, xLl, xLA, xLR, xRv, xRl, xRA, xRL]; rw [List.length_nil]; simp) (by exact trivial) (by intro j hj; exact ⟨by simp (disch := omega) only [rv_self, rv_ne, rl_self, rl_ne, rA_self, rA_ne, rL_self, rL_ne, rR_self, rR_ne, xvl, xvA, xvL, xvR, xlv, xlA, xlL, xlR, xAv, xAl, xAL, xAR, xLv, xLl, xLA, xLR, xRv, xRl, xRA, xRL], by simp (disch := omega) only [rv_self, rv_ne, rl_self, rl_ne, rA_self, rA_ne, rL_self, rL_ne, rR_self, rR_ne, xvl, xvA, xvL, xvR, xlv, xlA, xlL, xlR, xAv, xAl, xAL, xAR, xLv, xLl, xLA, xLR, xRv, xRl, xRA, xRL]⟩) (by simp (disch := omega) only [rv_self, rv_ne, rl_self, rl_ne, rA_self, rA_ne, rL_self, rL_ne, rR_self, rR_ne, xvl, xvA, xvL, xvR, xlv, xlA, xlL, xlR, xAv, xAl, xAL, xAR, xLv, xLl, xLA, xLR, xRv, xRl, xRA, xRL]; rw [hi]) (by simp (disch := omega) only [rv_self, rv_ne, rl_self, rl_ne, rA_self, rA_ne, rL_self, rL_ne, rR_self, rR_ne, xvl, xvA, xvL, xvR, xlv, xlA, xlL, xlR, xAv, xAl, xAL, xAR, xLv, xLl, xLA, xLR, xRv, xRl, xRA, xRL]; rw [hi]) (Nat.lt_succ_self _)
  · skip
    have hcoo : e.2.2.1.length = os.length := by omega
    refine w_aload_n rfl rfl rfl ?_
    refine w_CV (as := []) (r := []) rfl rfl rfl rfl sh_249 (Nat.le_of_ble_eq_true rfl) (Nat.le_of_ble_eq_true rfl) (by omega) rfl (r_repl (S := S) (nm := nm) (i := i) (m := m) (e := e) (t := t) (c := c) (as := as) (os := os) hi i0 i1 hL.1 hS0.1 hS0.2.1 hL.2.1 hS0.2.2.1 hS0.2.2.2.1 hL.2.2.1 hS0.2.2.2.2.1 hL.2.2.2.1 hS0.2.2.2.2.2.1 hS0.2.2.2.2.2.2.1 hS0.2.2.2.2.2.2.2.1 hL.2.2.2.2.1 hL.2.2.2.2.2.1 hS0.2.2.2.2.2.2.2.2.1 hcoo hL.2.2.2.2.2.2.1 hL.2.2.2.2.2.2.2.1 hL.2.2.2.2.2.2.2.2.1 hL.2.2.2.2.2.2.2.2.2.1 hS0.2.2.2.2.2.2.2.2.2.1 ho4 (lall_get hS0.2.2.2.2.2.2.2.2.2.2.1) (lall_get hlo) (lgw_get hS0.2.2.2.2.2.2.2.2.2.2.2) (lgw_get hgo) c0 c1 (by omega)) ?_
    rintro _ V ⟨rfl, w1, w2, w3⟩
    show w_T _ _ 140 32 _ [.int (iZ ((mrep e as os t.2.1).1))] _ _
    refine w_iret rfl rfl ?_
    exact ⟨fun z => by omega, fun _ => ⟨rfl, w1, w2, w3⟩⟩
