/-! Words as the parser sees them: the class. -/
def yw (ol : List OTok) (k : Int) : Int64 := if 0 ≤ k then (ol.getD k.toNat (0, 0)).1 else 0
def wk (y : Int64) : Int := if wdl (y.toInt % 128) = false then 0 else if dgt (wc y 0) = true then 5 else if y = 1734516 ∨ y = 209334514 then 1 else if y = 514361201865446 then 2 else if y = 3944367356270 then 3 else 4
theorem wk_r (y : Int64) : 0 ≤ wk y ∧ wk y ≤ 5 := by
  unfold wk
  repeat' split
  all_goals decide
theorem wk_0 : wk 0 = 0 := by decide
theorem ofn_get {X : Int → Int64} {O : Int → Int} {n : Int} : ∀ (l : List OTok) (i : Int), ofn X O n i l → ∀ k : Nat, k < l.length → X (i + k) = (l.getD k (0, 0)).1 ∧ O (i + k) / n = (l.getD k (0, 0)).2 ∧ 0 ≤ O (i + k) ∧ O (i + k) < 2147483648
  | [], _, _, k, hk => absurd hk (by simp)
  | e :: l, i, h, 0, hk => by
    rw [show i + ((0 : Nat) : Int) = i by omega]
    exact ⟨h.1, h.2.1, h.2.2.1, h.2.2.2.1⟩
  | e :: l, i, h, k + 1, hk => by
    have := ofn_get l (i + 1) h.2.2.2.2 k (by simpa using hk)
    rw [show i + 1 + (k : Int) = i + ((k + 1 : Nat) : Int) by omega] at this
    exact this
theorem ofn_yw {X : Int → Int64} {O : Int → Int} {n : Int} {l : List OTok} (h : ofn X O n 0 l) {k : Int} (k0 : 0 ≤ k) (k1 : k < l.length) : X k = yw l k ∧ O k / n = (l.getD k.toNat (0, 0)).2 := by
  have q := ofn_get l 0 h k.toNat (by omega)
  rw [Int.zero_add, Int.toNat_of_nonneg k0] at q
  unfold yw
  rw [if_pos k0]
  exact ⟨q.1, q.2.1⟩
theorem yw_out {l : List OTok} {k : Int} (h : (l.length : Int) ≤ k) : yw l k = 0 := by
  unfold yw
  rw [if_pos (by omega), List.getD_eq_getElem?_getD, List.getElem?_eq_none (by omega)]
  rfl
theorem yw_gw {l : List OTok} (h : ogw l) {k : Int} (k0 : 0 ≤ k) (k1 : k < l.length) : gw (yw l k) := by
  unfold yw
  rw [if_pos k0]
  rw [List.getD_eq_getElem?_getD, List.getElem?_eq_getElem (by omega)]
  exact (h _ (List.getElem_mem _)).1
/-- the words of a parse: n of them, behind them nothing -/
def PS (S : w_S) (n : Int) (Y : Int → Int64) : Prop := 0 ≤ n ∧ n ≤ 100 ∧ sv S 234 3 = n ∧ (∀ k : Int, 0 ≤ k → k ≤ n → sL S 239 k = Y k ∧ sA S 240 k = wk (Y k)) ∧ (∀ k : Int, 0 ≤ k → k < n → gw (Y k)) ∧ ∀ k : Int, n ≤ k → Y k = 0
abbrev Dcl : Type := Int64 × Bool
def drep (A : Int → Int64) (B : Int → Int) : List Dcl → Prop
  | [] => True
  | c :: r => A r.length = c.1 ∧ B r.length = zB c.2 ∧ drep A B r
def dlk : List Dcl → Int64 → Bool
  | [], _ => false
  | c :: r, x => if c.1 = x then c.2 else dlk r x
def isT (D : List Dcl) (y : Int64) : Bool := if wk y = 4 then dlk D y else decide (wk y = 1)
def sdc (D : List Dcl) (y : Int64) : Bool := decide (wk y = 2) || isT D y
theorem drep_fr {A A2 : Int → Int64} {B B2 : Int → Int} : ∀ D : List Dcl, drep A B D → (∀ j : Int, j < D.length → A2 j = A j ∧ B2 j = B j) → drep A2 B2 D
  | [], _, _ => trivial
  | c :: r, h, f => by
    have f0 := f r.length (by rw [List.length_cons]; omega)
    exact ⟨by rw [f0.1]; exact h.1, by rw [f0.2]; exact h.2.1, drep_fr r h.2.2 (fun j hj => f j (by rw [List.length_cons]; omega))⟩
def DR (S : w_S) (D : List Dcl) : Prop := sv S 234 7 = D.length ∧ D.length ≤ 100 ∧ drep (sL S 241) (sA S 242) D
theorem c_wof {sc : x_S} {d : Nat} {S : w_S} {x : Int64} (hx : 0 < x.toInt) (hd : 30 ≤ d) : w_T sc d 40 0 (x_en 0 [.long x]) [] S (fun v S2 => v = some (.int (iZ (wk x))) ∧ S2 = S) := by
  refine w_lload_n rfl rfl rfl ?_
  refine w_CS (as := [.long x]) (r := []) rfl rfl rfl rfl (Nat.le_of_ble_eq_true rfl) (Nat.le_of_ble_eq_true rfl) (by omega) rfl (c_isw (x := x) (by omega)) ?_
  rintro _ _ ⟨rfl, hS⟩
  rw [hS]
  show w_T _ _ 40 4 _ [.int (iZ (zB (wdl (x.toInt % 128))))] _ _
  refine w_b_ne (pc2 := 9) (pc3 := 7) rfl (by decide) rfl (fun c4 => ?_) (fun c4 => ?_)
  · skip
    refine w_lload_n rfl rfl rfl ?_
    refine w_CS (as := [.long x]) (r := []) rfl rfl rfl rfl (Nat.le_of_ble_eq_true rfl) (Nat.le_of_ble_eq_true rfl) (by omega) rfl (c_isn (x := x) hx (by omega)) ?_
    rintro _ _ ⟨rfl, hS⟩
    rw [hS]
    show w_T _ _ 40 13 _ [.int (iZ (zB (dgt (wc x 0))))] _ _
    refine w_b_eq (pc2 := 18) (pc3 := 16) rfl (by decide) rfl (fun c13 => ?_) (fun c13 => ?_)
    · skip
      refine w_lload_n rfl rfl rfl ?_
      refine w_ldcs (q := 15) rfl rfl rfl ?_
      refine w_CS (as := [.long x, .retAddr 15]) (r := []) rfl rfl rfl rfl (Nat.le_of_ble_eq_true rfl) (Nat.le_of_ble_eq_true rfl) (by omega) rfl (c_spl (x := x) (q := 15) ⟨by decide, by decide⟩ spk_15 (by omega)) ?_
      rintro _ _ ⟨rfl, hS⟩
      rw [hS]
      show w_T _ _ 40 24 _ [.int (iZ (zB (decide (x = 1734516))))] _ _
      refine w_p_ne (pc2 := 36) (pc3 := 27) rfl (by decide) rfl (fun c24 => ?_) (fun c24 => ?_)
      · skip
        refine w_iconst rfl rfl ?_
        refine w_iret rfl rfl ?_
        refine q_i ?_
        unfold wk
        first
          | rw [if_pos c4]
          | rw [if_neg (by rw [c4]; decide), if_pos c13]
          | rw [if_neg (by rw [c4]; decide), if_neg (by rw [c13]; decide), if_pos (Or.inl c24)]
          | rw [if_neg (by rw [c4]; decide), if_neg (by rw [c13]; decide), if_pos (Or.inr c33)]
          | rw [if_neg (by rw [c4]; decide), if_neg (by rw [c13]; decide), if_neg (fun z => z.elim c24 c33), if_pos c44]
          | rw [if_neg (by rw [c4]; decide), if_neg (by rw [c13]; decide), if_neg (fun z => z.elim c24 c33), if_neg c44, if_pos c55]
          | rw [if_neg (by rw [c4]; decide), if_neg (by rw [c13]; decide), if_neg (fun z => z.elim c24 c33), if_neg c44, if_neg c55]
      · skip
        refine w_lload_n rfl rfl rfl ?_
        refine w_ldcs (q := 16) rfl rfl rfl ?_
        refine w_CS (as := [.long x, .retAddr 16]) (r := []) rfl rfl rfl rfl (Nat.le_of_ble_eq_true rfl) (Nat.le_of_ble_eq_true rfl) (by omega) rfl (c_spl (x := x) (q := 16) ⟨by decide, by decide⟩ spk_16 (by omega)) ?_
        rintro _ _ ⟨rfl, hS⟩
        rw [hS]
        show w_T _ _ 40 33 _ [.int (iZ (zB (decide (x = 209334514))))] _ _
        refine w_p_eq (pc2 := 38) (pc3 := 36) rfl (by decide) rfl (fun c33 => ?_) (fun c33 => ?_)
        · skip
          refine w_lload_n rfl rfl rfl ?_
          refine w_ldcs (q := 17) rfl rfl rfl ?_
          refine w_CS (as := [.long x, .retAddr 17]) (r := []) rfl rfl rfl rfl (Nat.le_of_ble_eq_true rfl) (Nat.le_of_ble_eq_true rfl) (by omega) rfl (c_spl (x := x) (q := 17) ⟨by decide, by decide⟩ spk_17 (by omega)) ?_
          rintro _ _ ⟨rfl, hS⟩
          rw [hS]
          show w_T _ _ 40 44 _ [.int (iZ (zB (decide (x = 514361201865446))))] _ _
          refine w_p_eq (pc2 := 49) (pc3 := 47) rfl (by decide) rfl (fun c44 => ?_) (fun c44 => ?_)
          · skip
            refine w_lload_n rfl rfl rfl ?_
            refine w_ldcs (q := 18) rfl rfl rfl ?_
            refine w_CS (as := [.long x, .retAddr 18]) (r := []) rfl rfl rfl rfl (Nat.le_of_ble_eq_true rfl) (Nat.le_of_ble_eq_true rfl) (by omega) rfl (c_spl (x := x) (q := 18) ⟨by decide, by decide⟩ spk_18 (by omega)) ?_
            rintro _ _ ⟨rfl, hS⟩
            rw [hS]
            show w_T _ _ 40 55 _ [.int (iZ (zB (decide (x = 3944367356270))))] _ _
            refine w_p_eq (pc2 := 62) (pc3 := 58) rfl (by decide) rfl (fun c55 => ?_) (fun c55 => ?_)
            · skip
              refine w_iconst rfl rfl ?_
              refine w_iret rfl rfl ?_
              refine q_i ?_
              unfold wk
              first
                | rw [if_pos c4]
                | rw [if_neg (by rw [c4]; decide), if_pos c13]
                | rw [if_neg (by rw [c4]; decide), if_neg (by rw [c13]; decide), if_pos (Or.inl c24)]
                | rw [if_neg (by rw [c4]; decide), if_neg (by rw [c13]; decide), if_pos (Or.inr c33)]
                | rw [if_neg (by rw [c4]; decide), if_neg (by rw [c13]; decide), if_neg (fun z => z.elim c24 c33), if_pos c44]
                | rw [if_neg (by rw [c4]; decide), if_neg (by rw [c13]; decide), if_neg (fun z => z.elim c24 c33), if_neg c44, if_pos c55]
                | rw [if_neg (by rw [c4]; decide), if_neg (by rw [c13]; decide), if_neg (fun z => z.elim c24 c33), if_neg c44, if_neg c55]
            · skip
              refine w_iconst rfl rfl ?_
              refine w_goto (pc2 := 63) rfl (by decide) ?_
              refine w_iret rfl rfl ?_
              refine q_i ?_
              unfold wk
              first
                | rw [if_pos c4]
                | rw [if_neg (by rw [c4]; decide), if_pos c13]
                | rw [if_neg (by rw [c4]; decide), if_neg (by rw [c13]; decide), if_pos (Or.inl c24)]
                | rw [if_neg (by rw [c4]; decide), if_neg (by rw [c13]; decide), if_pos (Or.inr c33)]
                | rw [if_neg (by rw [c4]; decide), if_neg (by rw [c13]; decide), if_neg (fun z => z.elim c24 c33), if_pos c44]
                | rw [if_neg (by rw [c4]; decide), if_neg (by rw [c13]; decide), if_neg (fun z => z.elim c24 c33), if_neg c44, if_pos c55]
                | rw [if_neg (by rw [c4]; decide), if_neg (by rw [c13]; decide), if_neg (fun z => z.elim c24 c33), if_neg c44, if_neg c55]
          · skip
            refine w_iconst rfl rfl ?_
            refine w_iret rfl rfl ?_
            refine q_i ?_
            unfold wk
            first
              | rw [if_pos c4]
              | rw [if_neg (by rw [c4]; decide), if_pos c13]
              | rw [if_neg (by rw [c4]; decide), if_neg (by rw [c13]; decide), if_pos (Or.inl c24)]
              | rw [if_neg (by rw [c4]; decide), if_neg (by rw [c13]; decide), if_pos (Or.inr c33)]
              | rw [if_neg (by rw [c4]; decide), if_neg (by rw [c13]; decide), if_neg (fun z => z.elim c24 c33), if_pos c44]
              | rw [if_neg (by rw [c4]; decide), if_neg (by rw [c13]; decide), if_neg (fun z => z.elim c24 c33), if_neg c44, if_pos c55]
              | rw [if_neg (by rw [c4]; decide), if_neg (by rw [c13]; decide), if_neg (fun z => z.elim c24 c33), if_neg c44, if_neg c55]
        · skip
          refine w_iconst rfl rfl ?_
          refine w_iret rfl rfl ?_
          refine q_i ?_
          unfold wk
          first
            | rw [if_pos c4]
            | rw [if_neg (by rw [c4]; decide), if_pos c13]
            | rw [if_neg (by rw [c4]; decide), if_neg (by rw [c13]; decide), if_pos (Or.inl c24)]
            | rw [if_neg (by rw [c4]; decide), if_neg (by rw [c13]; decide), if_pos (Or.inr c33)]
            | rw [if_neg (by rw [c4]; decide), if_neg (by rw [c13]; decide), if_neg (fun z => z.elim c24 c33), if_pos c44]
            | rw [if_neg (by rw [c4]; decide), if_neg (by rw [c13]; decide), if_neg (fun z => z.elim c24 c33), if_neg c44, if_pos c55]
            | rw [if_neg (by rw [c4]; decide), if_neg (by rw [c13]; decide), if_neg (fun z => z.elim c24 c33), if_neg c44, if_neg c55]
    · skip
      refine w_iconst rfl rfl ?_
      refine w_iret rfl rfl ?_
      refine q_i ?_
      unfold wk
      first
        | rw [if_pos c4]
        | rw [if_neg (by rw [c4]; decide), if_pos c13]
        | rw [if_neg (by rw [c4]; decide), if_neg (by rw [c13]; decide), if_pos (Or.inl c24)]
        | rw [if_neg (by rw [c4]; decide), if_neg (by rw [c13]; decide), if_pos (Or.inr c33)]
        | rw [if_neg (by rw [c4]; decide), if_neg (by rw [c13]; decide), if_neg (fun z => z.elim c24 c33), if_pos c44]
        | rw [if_neg (by rw [c4]; decide), if_neg (by rw [c13]; decide), if_neg (fun z => z.elim c24 c33), if_neg c44, if_pos c55]
        | rw [if_neg (by rw [c4]; decide), if_neg (by rw [c13]; decide), if_neg (fun z => z.elim c24 c33), if_neg c44, if_neg c55]
  · skip
    refine w_iconst rfl rfl ?_
    refine w_iret rfl rfl ?_
    refine q_i ?_
    unfold wk
    first
      | rw [if_pos c4]
      | rw [if_neg (by rw [c4]; decide), if_pos c13]
      | rw [if_neg (by rw [c4]; decide), if_neg (by rw [c13]; decide), if_pos (Or.inl c24)]
      | rw [if_neg (by rw [c4]; decide), if_neg (by rw [c13]; decide), if_pos (Or.inr c33)]
      | rw [if_neg (by rw [c4]; decide), if_neg (by rw [c13]; decide), if_neg (fun z => z.elim c24 c33), if_pos c44]
      | rw [if_neg (by rw [c4]; decide), if_neg (by rw [c13]; decide), if_neg (fun z => z.elim c24 c33), if_neg c44, if_pos c55]
      | rw [if_neg (by rw [c4]; decide), if_neg (by rw [c13]; decide), if_neg (fun z => z.elim c24 c33), if_neg c44, if_neg c55]
theorem c_load_c {sc : x_S} {d : Nat} {S : w_S} {ol : List OTok} (hz : sv S 30 2 = ol.length) (h1 : ol.length ≤ 100) (hg : ogw ol) (ho : ofn (sL S 31) (sA S 32) 256 0 ol) (hd : 40 ≤ d) : ∀ n : Nat, (∀ (i : Int) (U : w_S) (lv : x_L) (l0 : lv 0 = some (.ref 234)) (l1 : lv 1 = some (.ref 30)) (l2 : lv 2 = some (.int (iZ i))) (i0 : 0 ≤ i) (i1 : i ≤ ol.length) (hfr : fr (fun a => a = 234 ∨ a = 239 ∨ a = 240) S U) (u3 : sv U 234 3 = ol.length) (ht : ∀ k : Int, 0 ≤ k → k < i → sL U 239 k = yw ol k ∧ sA U 240 k = wk (yw ol k)) (hm : (ol.length - i).toNat < n), w_T sc d 39 15 lv [] U (fun v S2 => v = none ∧ fr (fun a => a = 234 ∨ a = 239 ∨ a = 240) S S2 ∧ PS S2 ol.length (yw ol) ∧ sv S2 234 4 = 0 ∧ sv S2 234 7 = 0)) := by
  intro n
  induction n with
  | zero => exact fun i U lv l0 l1 l2 i0 i1 hfr u3 ht hm => absurd hm (Nat.not_lt_zero _)
  | succ n ih =>
    intro i U lv l0 l1 l2 i0 i1 hfr u3 ht hm
    have u31 : sL U 31 = sL S 31 := fr_gL hfr (by omega)
    have hzU : sv U 30 2 = ol.length := by rw [fr_gv hfr (by omega)]; exact hz
    refine w_iload_n rfl l2 rfl ?_
    refine w_aload_n rfl l0 rfl ?_
    refine w_getI (z := (ol.length : Int)) rfl rfl sh_234 rfl u3 rfl ?_
    refine w_ic_ge (pc2 := 56) (pc3 := 23) rfl (by decide) rfl ⟨by omega, by omega⟩ ⟨by omega, by omega⟩ (fun c20 => ?_) (fun c20 => ?_)
    · skip
      refine w_aload_n rfl l0 rfl ?_
      refine w_getR rfl rfl sh_234 rfl rfl ?_
      refine w_aload_n rfl l0 rfl ?_
      refine w_getI (z := (ol.length : Int)) rfl rfl sh_234 rfl u3 rfl ?_
      refine w_lconst (v := 0) rfl (by decide) rfl ?_
      refine w_laS (f := sL U 239) rfl sh_239 (by omega) (by omega) (by decide) rfl rfl ?_
      refine w_aload_n rfl l0 rfl ?_
      refine w_getR rfl rfl sh_234 rfl rfl ?_
      refine w_aload_n rfl l0 rfl ?_
      refine w_getI (z := (ol.length : Int)) rfl rfl sh_234 rfl u3 rfl ?_
      refine w_iconst rfl rfl ?_
      refine w_iaS (f := sA U 240) rfl sh_240 (by omega) (by omega) (by decide) rfl rfl ?_
      refine w_aload_n rfl l0 rfl ?_
      refine w_iconst rfl rfl ?_
      refine w_putf rfl rfl sh_234 rfl rfl (by decide) rfl ?_
      refine w_aload_n rfl l0 rfl ?_
      refine w_iconst rfl rfl ?_
      refine w_putf rfl rfl sh_234 rfl rfl (by decide) rfl ?_
      refine w_vret rfl rfl ?_
      refine ⟨rfl, (fr_v (fr_v (fr_A (fr_L hfr (by omega)) (by omega)) (by omega)) (by omega)), ⟨by omega, by omega, ?_, fun k k0 k1 => ?_, fun k k0 k1 => yw_gw hg k0 k1, fun k k0 => yw_out k0⟩, ?_, ?_⟩
      · (simp (disch := omega) only [rv_self, rv_ne, rl_self, rl_ne, rA_self, rA_ne, rL_self, rL_ne, rR_self, rR_ne, xvl, xvA, xvL, xvR, xlv, xlA, xlL, xlR, xAv, xAl, xAL, xAR, xLv, xLl, xLA, xLR, xRv, xRl, xRA, xRL]); exact u3
      · simp (disch := omega) only [rv_self, rv_ne, rl_self, rl_ne, rA_self, rA_ne, rL_self, rL_ne, rR_self, rR_ne, xvl, xvA, xvL, xvR, xlv, xlA, xlL, xlR, xAv, xAl, xAL, xAR, xLv, xLl, xLA, xLR, xRv, xRl, xRA, xRL]
        by_cases hj : k = ol.length
        · rw [hj, w_u_self, w_u_self, yw_out (Int.le_refl _), wk_0]
          exact ⟨rfl, rfl⟩
        · rw [w_u_ne _ _ hj, w_u_ne _ _ hj]
          exact ht k k0 (by omega)
      · rfl
      · rfl
    · skip
      refine w_aload_n rfl l0 rfl ?_
      refine w_getR rfl rfl sh_234 rfl rfl ?_
      refine w_iload_n rfl l2 rfl ?_
      refine w_aload_n rfl l1 rfl ?_
      refine w_getR rfl rfl sh_30 rfl rfl ?_
      refine w_iload_n rfl l2 rfl ?_
      refine w_lald (z := yw ol i) rfl sh_31 (by omega) (by omega) (by decide) (by rw [u31]; exact (ofn_yw ho i0 (by omega)).1) rfl ?_
      refine w_laS (f := sL U 239) rfl sh_239 (by omega) (by omega) (by decide) rfl rfl ?_
      refine w_aload_n rfl l0 rfl ?_
      refine w_getR rfl rfl sh_234 rfl rfl ?_
      refine w_iload_n rfl l2 rfl ?_
      refine w_aload_n rfl l1 rfl ?_
      refine w_getR rfl rfl sh_30 rfl rfl ?_
      refine w_iload_n rfl l2 rfl ?_
      refine w_lald (z := yw ol i) rfl sh_31 (by omega) (by omega) (by decide) ((congrFun (rL_ne (by decide)) _).trans (by rw [u31]; exact (ofn_yw ho i0 (by omega)).1)) rfl ?_
      refine w_CS (as := [.long (yw ol i)]) (r := [.int (iZ i), .ref 240]) rfl rfl rfl rfl (Nat.le_of_ble_eq_true rfl) (Nat.le_of_ble_eq_true rfl) (by omega) rfl (c_wof (x := yw ol i) (yw_gw hg i0 (by omega)).1 (by omega)) ?_
      rintro _ _ ⟨rfl, hS⟩
      rw [hS]
      show w_T _ _ 39 49 _ [.int (iZ (wk (yw ol i))), .int (iZ i), .ref 240] _ _
      refine w_iaS (f := sA U 240) rfl sh_240 (by omega) (by omega) (by decide) rfl rfl ?_
      refine w_iinc rfl l2 (by decide) rfl ?_
      refine w_goto (pc2 := 15) rfl (by decide) ?_
      exact ih (i + 1) _ _ (by exact l0) (by exact (congrArg x_k2 l1)) (by exact rfl) (by omega) (by omega) (by exact (fr_A (fr_L hfr (by omega)) (by omega))) (by exact u3) (by (simp (disch := omega) only [rv_self, rv_ne, rl_self, rl_ne, rA_self, rA_ne, rL_self, rL_ne, rR_self, rR_ne, xvl, xvA, xvL, xvR, xlv, xlA, xlL, xlR, xAv, xAl, xAL, xAR, xLv, xLl, xLA, xLR, xRv, xRl, xRA, xRL]); intro k k0 k1; by_cases hj : k = i; (rw [hj, w_u_self, w_u_self]; exact ⟨rfl, rfl⟩); (rw [w_u_ne _ _ hj, w_u_ne _ _ hj]; exact ht k k0 (by omega))) (by omega)
theorem c_load {sc : x_S} {d : Nat} {S : w_S} {ol : List OTok} (hz : sv S 30 2 = ol.length) (h1 : ol.length ≤ 100) (hg : ogw ol) (ho : ofn (sL S 31) (sA S 32) 256 0 ol) (hd : 40 ≤ d) : w_T sc d 39 0 (x_en 0 [.ref 234, .ref 30]) [] S (fun v S2 => v = none ∧ fr (fun a => a = 234 ∨ a = 239 ∨ a = 240) S S2 ∧ PS S2 ol.length (yw ol) ∧ sv S2 234 4 = 0 ∧ sv S2 234 7 = 0) := by
  refine w_aload_n rfl rfl rfl ?_
  refine w_aload_n rfl rfl rfl ?_
  refine w_getI (z := (ol.length : Int)) rfl rfl sh_30 rfl hz rfl ?_
  refine w_bipush rfl (by decide) rfl ?_
  refine w_min rfl rfl ⟨by omega, by omega⟩ ⟨by decide, by decide⟩ (by omega) (Nat.le_of_ble_eq_true rfl) rfl ?_
  rw [if_neg (show ¬ (100 : Int) < (ol.length : Int) by omega)]
  refine w_putf rfl rfl sh_234 rfl rfl (by decide) rfl ?_
  refine w_iconst rfl rfl ?_
  refine w_istore_n rfl (by decide) rfl ?_
  exact (c_load_c hz h1 hg ho hd _) 0 _ _ rfl rfl rfl (by omega) (by omega) (by exact (fr_v (fr_refl _ S) (by omega))) (by exact rv_self _ _ _ _) (by intro k k0 k1; omega) (Nat.lt_succ_self _)
def odw (y : Int64) : Bool := decide (wk y = 5) && decide (fi (fun i => decide (57 < wc y i)) (wl y) 0 < wl y)
def odd (Y : Int → Int64) (n : Int) : Bool := decide (fi (fun k => odw (Y k)) n 0 < n)
def brs (c : Int) (y : Int64) : Int := if y = 40 ∨ y = 91 ∨ y = 123 then c + 1 else if 0 < c ∧ (y = 41 ∨ y = 93 ∨ y = 125) then c - 1 else c
def bc (Y : Int → Int64) : Nat → Int
  | 0 => 0
  | k + 1 => brs (bc Y k) (Y k)
def dpp (Y : Int → Int64) (n : Int) : Bool := decide (fi (fun k => decide (6 < bc Y (k + 1).toNat)) n 0 < n)
theorem bc_s {Y : Int → Int64} {k : Int} (h : 0 ≤ k) : bc Y (k + 1).toNat = brs (bc Y k.toNat) (Y k) := by
  rw [show (k + 1).toNat = k.toNat + 1 by omega]
  show brs (bc Y k.toNat) (Y (k.toNat : Nat)) = _
  rw [Int.toNat_of_nonneg h]
theorem fi_lt_of {p : Int → Bool} {n i k : Int} (h0 : i ≤ k) (h1 : k < n) (hp : p k = true) : fi p n i < n := by
  have := fi_le h1 hp (n - i).toNat i rfl h0
  omega
theorem c_odd_c {sc : x_S} {d : Nat} {S : w_S} {nn : Int} {Y : Int → Int64} (hP : PS S nn Y) (hd : 10 ≤ d) : ∀ n : Nat, (∀ (i : Int) (lv : x_L) (l0 : lv 0 = some (.ref 234)) (l1 : lv 1 = some (.int (iZ i))) (i0 : 0 ≤ i) (i1 : i ≤ nn) (ie : fi (fun k => odw (Y k)) nn 0 = fi (fun k => odw (Y k)) nn i) (hm : 1000 * (nn - i).toNat + 500 < n), w_T sc d 41 2 lv [] S (fun v S2 => v = some (.int (iZ (zB (odd Y nn)))) ∧ S2 = S)) ∧ (∀ (i : Int) (z : Int) (j : Int) (lv : x_L) (l0 : lv 0 = some (.ref 234)) (l1 : lv 1 = some (.int (iZ i))) (l2 : lv 2 = some (.int (iZ z))) (l3 : lv 3 = some (.int (iZ j))) (i0 : 0 ≤ i) (i1 : i < nn) (ie : fi (fun k => odw (Y k)) nn 0 = fi (fun k => odw (Y k)) nn i) (jz : (¬ wk (Y i) = 5 ∧ z = 0) ∨ (wk (Y i) = 5 ∧ z = wl (Y i))) (z0 : 0 ≤ z) (z9 : z ≤ 9) (j0 : 0 ≤ j) (j1 : j ≤ z) (je : fi (fun q => decide (57 < wc (Y i) q)) (wl (Y i)) 0 = fi (fun q => decide (57 < wc (Y i) q)) (wl (Y i)) j) (hm : 1000 * (nn - i).toNat + (z - j).toNat < n), w_T sc d 41 36 lv [] S (fun v S2 => v = some (.int (iZ (zB (odd Y nn)))) ∧ S2 = S)) := by
  intro n
  induction n with
  | zero => exact ⟨fun i lv l0 l1 i0 i1 ie hm => absurd hm (Nat.not_lt_zero _), fun i z j lv l0 l1 l2 l3 i0 i1 ie jz z0 z9 j0 j1 je hm => absurd hm (Nat.not_lt_zero _)⟩
  | succ n ih =>
    refine ⟨?_, ?_⟩
    · skip
      intro i lv l0 l1 i0 i1 ie hm
      have n0 := hP.1
      have n1 := hP.2.1
      refine w_iload_n rfl l1 rfl ?_
      refine w_aload_n rfl l0 rfl ?_
      refine w_getI (z := nn) rfl rfl sh_234 rfl hP.2.2.1 rfl ?_
      refine w_ic_ge (pc2 := 70) (pc3 := 10) rfl (by decide) rfl ⟨by omega, by omega⟩ ⟨by omega, by omega⟩ (fun c7 => ?_) (fun c7 => ?_)
      · skip
        refine w_iconst rfl rfl ?_
        refine w_zret rfl rfl (by decide) ?_
        refine q_i ?_
        unfold odd
        rw [ie, fi_end (by omega), decide_eq_false (by omega)]
        rfl
      · skip
        refine w_aload_n rfl l0 rfl ?_
        refine w_getR rfl rfl sh_234 rfl rfl ?_
        refine w_iload_n rfl l1 rfl ?_
        refine w_iald (z := wk (Y i)) rfl sh_240 (by omega) (by omega) (by decide) (hP.2.2.2.1 _ (by omega) (by omega)).2 rfl ?_
        refine w_iconst rfl rfl ?_
        have hwr := wk_r (Y i)
        have hw9 := wl_9 (Y i)
        have hw0 := wl_0 (Y i)
        refine w_ic_ne (pc2 := 32) (pc3 := 20) rfl (by decide) rfl ⟨by omega, by omega⟩ ⟨by decide, by decide⟩ (fun c17 => ?_) (fun c17 => ?_)
        · skip
          refine w_iconst rfl rfl ?_
          refine w_istore_n rfl (by decide) rfl ?_
          refine w_iconst rfl rfl ?_
          refine w_istore_n rfl (by decide) rfl ?_
          exact ih.2 i 0 0 _ (by exact l0) (by exact (congrArg x_k2 l1)) (by exact rfl) (by exact rfl) (by omega) (by omega) (by exact ie) (by first | exact Or.inr ⟨c17, rfl⟩ | exact Or.inl ⟨c17, rfl⟩) (by omega) (by omega) (by omega) (by omega) (by rfl) (by omega)
        · skip
          refine w_aload_n rfl l0 rfl ?_
          refine w_getR rfl rfl sh_234 rfl rfl ?_
          refine w_iload_n rfl l1 rfl ?_
          refine w_lald (z := Y i) rfl sh_239 (by omega) (by omega) (by decide) (hP.2.2.2.1 _ (by omega) (by omega)).1 rfl ?_
          refine w_CS (as := [.long (Y i)]) (r := []) rfl rfl rfl rfl (Nat.le_of_ble_eq_true rfl) (Nat.le_of_ble_eq_true rfl) (by omega) rfl (c_len (x := Y i) (Int.le_of_lt (hP.2.2.2.2.1 _ (by omega) (by omega)).1) (by omega)) ?_
          rintro _ _ ⟨rfl, hS⟩
          rw [hS]
          show w_T _ _ 41 29 _ [.int (iZ (wl (Y i)))] _ _
          refine w_goto (pc2 := 33) rfl (by decide) ?_
          refine w_istore_n rfl (by decide) rfl ?_
          refine w_iconst rfl rfl ?_
          refine w_istore_n rfl (by decide) rfl ?_
          exact ih.2 i (wl (Y i)) 0 _ (by exact l0) (by exact (congrArg x_k2 l1)) (by exact rfl) (by exact rfl) (by omega) (by omega) (by exact ie) (by first | exact Or.inr ⟨c17, rfl⟩ | exact Or.inl ⟨c17, rfl⟩) (by omega) (by omega) (by omega) (by omega) (by rfl) (by omega)
    · skip
      intro i z j lv l0 l1 l2 l3 i0 i1 ie jz z0 z9 j0 j1 je hm
      have n0 := hP.1
      have n1 := hP.2.1
      have hw9 := wl_9 (Y i)
      have hw0 := wl_0 (Y i)
      refine w_iload_n rfl l3 rfl ?_
      refine w_iload_n rfl l2 rfl ?_
      refine w_ic_ge (pc2 := 64) (pc3 := 41) rfl (by decide) rfl ⟨by omega, by omega⟩ ⟨by omega, by omega⟩ (fun c38 => ?_) (fun c38 => ?_)
      · skip
        refine w_iinc rfl l1 (by decide) rfl ?_
        refine w_goto (pc2 := 2) rfl (by decide) ?_
        exact ih.1 (i + 1) _ (by exact (congrArg x_k2 l0)) (by exact rfl) (by omega) (by omega) (by rw [ie, fi_next (by omega) (by unfold odw; rcases jz with z | z; (rw [decide_eq_false z.1, Bool.false_and]); (rw [decide_eq_true z.1, Bool.true_and, je, fi_end (by omega)]; exact decide_eq_false (by omega)))]) (by omega)
      · skip
        refine w_aload_n rfl l0 rfl ?_
        refine w_getR rfl rfl sh_234 rfl rfl ?_
        refine w_iload_n rfl l1 rfl ?_
        refine w_lald (z := Y i) rfl sh_239 (by omega) (by omega) (by decide) (hP.2.2.2.1 _ (by omega) (by omega)).1 rfl ?_
        refine w_iload_n rfl l3 rfl ?_
        refine w_CS (as := [.long (Y i), .int (iZ j)]) (r := []) rfl rfl rfl rfl (Nat.le_of_ble_eq_true rfl) (Nat.le_of_ble_eq_true rfl) (by omega) rfl (c_let (x := Y i) (i := j) (Int.le_of_lt (hP.2.2.2.2.1 _ (by omega) (by omega)).1) ⟨by omega, by omega⟩ (by omega)) ?_
        rintro _ _ ⟨rfl, hS⟩
        rw [hS]
        show w_T _ _ 41 51 _ [.int (iZ (wc (Y i) j))] _ _
        refine w_bipush rfl (by decide) rfl ?_
        have hcr := wc_R (Y i) j
        refine w_ic_le (pc2 := 58) (pc3 := 56) rfl (by decide) rfl ⟨by omega, by omega⟩ ⟨by decide, by decide⟩ (fun c53 => ?_) (fun c53 => ?_)
        · skip
          refine w_iinc rfl l3 (by decide) rfl ?_
          refine w_goto (pc2 := 36) rfl (by decide) ?_
          exact ih.2 i z (j + 1) _ (by exact l0) (by exact l1) (by exact (congrArg x_k2 l2)) (by exact rfl) (by omega) (by omega) (by exact ie) (by exact jz) (by omega) (by omega) (by omega) (by omega) (by rcases jz with q | q; (omega); (rw [je, fi_next (by omega) (decide_eq_false (by omega))])) (by omega)
        · skip
          refine w_iconst rfl rfl ?_
          refine w_zret rfl rfl (by decide) ?_
          refine q_i ?_
          rcases jz with q | q
          · omega
          · have e : odw (Y i) = true := by
              unfold odw
              rw [decide_eq_true q.1, Bool.true_and]
              exact decide_eq_true (fi_lt_of (k := j) j0 (by omega) (decide_eq_true (by omega)))
            unfold odd
            rw [ie, fi_stop (by omega) e, decide_eq_true (by omega)]
            rfl
theorem c_odd {sc : x_S} {d : Nat} {S : w_S} {nn : Int} {Y : Int → Int64} (hP : PS S nn Y) (hd : 10 ≤ d) : w_T sc d 41 0 (x_en 0 [.ref 234]) [] S (fun v S2 => v = some (.int (iZ (zB (odd Y nn)))) ∧ S2 = S) := by
  have n0 := hP.1
  have n1 := hP.2.1
  refine w_iconst rfl rfl ?_
  refine w_istore_n rfl (by decide) rfl ?_
  exact (c_odd_c hP hd _).1 0 _ rfl rfl (by omega) (by omega) (by rfl) (Nat.lt_succ_self _)
theorem c_dpp_c {sc : x_S} {d : Nat} {S : w_S} {nn : Int} {Y : Int → Int64} (hP : PS S nn Y) (hd : 0 ≤ d) : ∀ n : Nat, (∀ (b : Int) (i : Int) (lv : x_L) (l0 : lv 0 = some (.ref 234)) (l1 : lv 1 = some (.int (iZ b))) (l2 : lv 2 = some (.int (iZ i))) (i0 : 0 ≤ i) (i1 : i ≤ nn) (b0 : 0 ≤ b) (b6 : b ≤ 6) (hb : b = bc Y i.toNat) (ie : fi (fun k => decide (6 < bc Y (k + 1).toNat)) nn 0 = fi (fun k => decide (6 < bc Y (k + 1).toNat)) nn i) (hm : 2 * (nn - i).toNat + 1 < n), w_T sc d 42 4 lv [] S (fun v S2 => v = some (.int (iZ (zB (dpp Y nn)))) ∧ S2 = S)) ∧ (∀ (c : Int) (i : Int) (lv : x_L) (l0 : lv 0 = some (.ref 234)) (l1 : lv 1 = some (.int (iZ c))) (l2 : lv 2 = some (.int (iZ i))) (i0 : 0 ≤ i) (i1 : i < nn) (c0 : 0 ≤ c) (c7 : c ≤ 7) (hc : c = bc Y (i + 1).toNat) (ie : fi (fun k => decide (6 < bc Y (k + 1).toNat)) nn 0 = fi (fun k => decide (6 < bc Y (k + 1).toNat)) nn i) (hm : 2 * (nn - i).toNat < n), w_T sc d 42 80 lv [] S (fun v S2 => v = some (.int (iZ (zB (dpp Y nn)))) ∧ S2 = S)) := by
  intro n
  induction n with
  | zero => exact ⟨fun b i lv l0 l1 l2 i0 i1 b0 b6 hb ie hm => absurd hm (Nat.not_lt_zero _), fun c i lv l0 l1 l2 i0 i1 c0 c7 hc ie hm => absurd hm (Nat.not_lt_zero _)⟩
  | succ n ih =>
    refine ⟨?_, ?_⟩
    · skip
      intro b i lv l0 l1 l2 i0 i1 b0 b6 hb ie hm
      have n0 := hP.1
      have n1 := hP.2.1
      refine w_iload_n rfl l2 rfl ?_
      refine w_aload_n rfl l0 rfl ?_
      refine w_getI (z := nn) rfl rfl sh_234 rfl hP.2.2.1 rfl ?_
      refine w_ic_ge (pc2 := 94) (pc3 := 12) rfl (by decide) rfl ⟨by omega, by omega⟩ ⟨by omega, by omega⟩ (fun c9 => ?_) (fun c9 => ?_)
      · skip
        refine w_iconst rfl rfl ?_
        refine w_zret rfl rfl (by decide) ?_
        refine q_i ?_
        unfold dpp
        rw [ie, fi_end (by omega), decide_eq_false (by omega)]
        rfl
      · skip
        refine w_aload_n rfl l0 rfl ?_
        refine w_getR rfl rfl sh_234 rfl rfl ?_
        refine w_iload_n rfl l2 rfl ?_
        refine w_lald (z := Y i) rfl sh_239 (by omega) (by omega) (by decide) (hP.2.2.2.1 _ (by omega) (by omega)).1 rfl ?_
        refine w_lstore_n rfl (by decide) rfl ?_
        refine w_lload_n rfl rfl rfl ?_
        refine w_ldc2 (v := 40) rfl rfl rfl ?_
        refine w_l_eq (pc2 := 43) (pc3 := 27) rfl rfl (by decide) rfl (fun c24 => ?_) (fun c24 => ?_)
        · skip
          refine w_iinc rfl l1 (by decide) rfl ?_
          refine w_goto (pc2 := 80) rfl (by decide) ?_
          exact ih.2 (b + 1) i _ (by exact (congrArg x_k2 l0)) (by exact rfl) (by exact (congrArg x_k2 l2)) (by omega) (by omega) (by omega) (by omega) (by rw [bc_s i0, ← hb]; unfold brs; first | (rw [if_pos (Or.inl c24)]; first | done | omega) | (rw [if_pos (Or.inr (Or.inl c32))]; first | done | omega) | (rw [if_pos (Or.inr (Or.inr c40))]; first | done | omega) | (rw [if_neg (by rintro (z | z | z); exact c24 z; exact c32 z; exact c40 z), if_neg (fun z => by omega)]; first | done | omega) | (rw [if_neg (by rintro (z | z | z); exact c24 z; exact c32 z; exact c40 z), if_pos ⟨by omega, (by first | exact Or.inl c58 | exact Or.inr (Or.inl c66) | exact Or.inr (Or.inr c74))⟩]; first | done | omega) | (rw [if_neg (by rintro (z | z | z); exact c24 z; exact c32 z; exact c40 z), if_pos ⟨by omega, Or.inr (Or.inl c66)⟩]; first | done | omega) | (rw [if_neg (by rintro (z | z | z); exact c24 z; exact c32 z; exact c40 z), if_pos ⟨by omega, Or.inr (Or.inr c74)⟩]; first | done | omega) | (rw [if_neg (by rintro (z | z | z); exact c24 z; exact c32 z; exact c40 z), if_neg (by rintro ⟨_, z | z | z⟩; exact c58 z; exact c66 z; exact c74 z)]; first | done | omega)) (by exact ie) (by omega)
        · skip
          refine w_lload_n rfl rfl rfl ?_
          refine w_ldc2 (v := 91) rfl rfl rfl ?_
          refine w_l_eq (pc2 := 43) (pc3 := 35) rfl rfl (by decide) rfl (fun c32 => ?_) (fun c32 => ?_)
          · skip
            refine w_iinc rfl l1 (by decide) rfl ?_
            refine w_goto (pc2 := 80) rfl (by decide) ?_
            exact ih.2 (b + 1) i _ (by exact (congrArg x_k2 l0)) (by exact rfl) (by exact (congrArg x_k2 l2)) (by omega) (by omega) (by omega) (by omega) (by rw [bc_s i0, ← hb]; unfold brs; first | (rw [if_pos (Or.inl c24)]; first | done | omega) | (rw [if_pos (Or.inr (Or.inl c32))]; first | done | omega) | (rw [if_pos (Or.inr (Or.inr c40))]; first | done | omega) | (rw [if_neg (by rintro (z | z | z); exact c24 z; exact c32 z; exact c40 z), if_neg (fun z => by omega)]; first | done | omega) | (rw [if_neg (by rintro (z | z | z); exact c24 z; exact c32 z; exact c40 z), if_pos ⟨by omega, (by first | exact Or.inl c58 | exact Or.inr (Or.inl c66) | exact Or.inr (Or.inr c74))⟩]; first | done | omega) | (rw [if_neg (by rintro (z | z | z); exact c24 z; exact c32 z; exact c40 z), if_pos ⟨by omega, Or.inr (Or.inl c66)⟩]; first | done | omega) | (rw [if_neg (by rintro (z | z | z); exact c24 z; exact c32 z; exact c40 z), if_pos ⟨by omega, Or.inr (Or.inr c74)⟩]; first | done | omega) | (rw [if_neg (by rintro (z | z | z); exact c24 z; exact c32 z; exact c40 z), if_neg (by rintro ⟨_, z | z | z⟩; exact c58 z; exact c66 z; exact c74 z)]; first | done | omega)) (by exact ie) (by omega)
          · skip
            refine w_lload_n rfl rfl rfl ?_
            refine w_ldc2 (v := 123) rfl rfl rfl ?_
            refine w_l_ne (pc2 := 49) (pc3 := 43) rfl rfl (by decide) rfl (fun c40 => ?_) (fun c40 => ?_)
            · skip
              refine w_iload_n rfl l1 rfl ?_
              refine w_if_le (pc2 := 80) (pc3 := 53) rfl (by decide) rfl ⟨by omega, by omega⟩ (fun c50 => ?_) (fun c50 => ?_)
              · skip
                exact ih.2 b i _ (by exact l0) (by exact l1) (by exact (congrArg x_k2 l2)) (by omega) (by omega) (by omega) (by omega) (by rw [bc_s i0, ← hb]; unfold brs; first | (rw [if_pos (Or.inl c24)]; first | done | omega) | (rw [if_pos (Or.inr (Or.inl c32))]; first | done | omega) | (rw [if_pos (Or.inr (Or.inr c40))]; first | done | omega) | (rw [if_neg (by rintro (z | z | z); exact c24 z; exact c32 z; exact c40 z), if_neg (fun z => by omega)]; first | done | omega) | (rw [if_neg (by rintro (z | z | z); exact c24 z; exact c32 z; exact c40 z), if_pos ⟨by omega, (by first | exact Or.inl c58 | exact Or.inr (Or.inl c66) | exact Or.inr (Or.inr c74))⟩]; first | done | omega) | (rw [if_neg (by rintro (z | z | z); exact c24 z; exact c32 z; exact c40 z), if_pos ⟨by omega, Or.inr (Or.inl c66)⟩]; first | done | omega) | (rw [if_neg (by rintro (z | z | z); exact c24 z; exact c32 z; exact c40 z), if_pos ⟨by omega, Or.inr (Or.inr c74)⟩]; first | done | omega) | (rw [if_neg (by rintro (z | z | z); exact c24 z; exact c32 z; exact c40 z), if_neg (by rintro ⟨_, z | z | z⟩; exact c58 z; exact c66 z; exact c74 z)]; first | done | omega)) (by exact ie) (by omega)
              · skip
                refine w_lload_n rfl rfl rfl ?_
                refine w_ldc2 (v := 41) rfl rfl rfl ?_
                refine w_l_eq (pc2 := 77) (pc3 := 61) rfl rfl (by decide) rfl (fun c58 => ?_) (fun c58 => ?_)
                · skip
                  refine w_iinc rfl l1 (by decide) rfl ?_
                  exact ih.2 (b + (-1)) i _ (by exact (congrArg x_k2 l0)) (by exact rfl) (by exact (congrArg x_k2 l2)) (by omega) (by omega) (by omega) (by omega) (by rw [bc_s i0, ← hb]; unfold brs; first | (rw [if_pos (Or.inl c24)]; first | done | omega) | (rw [if_pos (Or.inr (Or.inl c32))]; first | done | omega) | (rw [if_pos (Or.inr (Or.inr c40))]; first | done | omega) | (rw [if_neg (by rintro (z | z | z); exact c24 z; exact c32 z; exact c40 z), if_neg (fun z => by omega)]; first | done | omega) | (rw [if_neg (by rintro (z | z | z); exact c24 z; exact c32 z; exact c40 z), if_pos ⟨by omega, (by first | exact Or.inl c58 | exact Or.inr (Or.inl c66) | exact Or.inr (Or.inr c74))⟩]; first | done | omega) | (rw [if_neg (by rintro (z | z | z); exact c24 z; exact c32 z; exact c40 z), if_pos ⟨by omega, Or.inr (Or.inl c66)⟩]; first | done | omega) | (rw [if_neg (by rintro (z | z | z); exact c24 z; exact c32 z; exact c40 z), if_pos ⟨by omega, Or.inr (Or.inr c74)⟩]; first | done | omega) | (rw [if_neg (by rintro (z | z | z); exact c24 z; exact c32 z; exact c40 z), if_neg (by rintro ⟨_, z | z | z⟩; exact c58 z; exact c66 z; exact c74 z)]; first | done | omega)) (by exact ie) (by omega)
                · skip
                  refine w_lload_n rfl rfl rfl ?_
                  refine w_ldc2 (v := 93) rfl rfl rfl ?_
                  refine w_l_eq (pc2 := 77) (pc3 := 69) rfl rfl (by decide) rfl (fun c66 => ?_) (fun c66 => ?_)
                  · skip
                    refine w_iinc rfl l1 (by decide) rfl ?_
                    exact ih.2 (b + (-1)) i _ (by exact (congrArg x_k2 l0)) (by exact rfl) (by exact (congrArg x_k2 l2)) (by omega) (by omega) (by omega) (by omega) (by rw [bc_s i0, ← hb]; unfold brs; first | (rw [if_pos (Or.inl c24)]; first | done | omega) | (rw [if_pos (Or.inr (Or.inl c32))]; first | done | omega) | (rw [if_pos (Or.inr (Or.inr c40))]; first | done | omega) | (rw [if_neg (by rintro (z | z | z); exact c24 z; exact c32 z; exact c40 z), if_neg (fun z => by omega)]; first | done | omega) | (rw [if_neg (by rintro (z | z | z); exact c24 z; exact c32 z; exact c40 z), if_pos ⟨by omega, (by first | exact Or.inl c58 | exact Or.inr (Or.inl c66) | exact Or.inr (Or.inr c74))⟩]; first | done | omega) | (rw [if_neg (by rintro (z | z | z); exact c24 z; exact c32 z; exact c40 z), if_pos ⟨by omega, Or.inr (Or.inl c66)⟩]; first | done | omega) | (rw [if_neg (by rintro (z | z | z); exact c24 z; exact c32 z; exact c40 z), if_pos ⟨by omega, Or.inr (Or.inr c74)⟩]; first | done | omega) | (rw [if_neg (by rintro (z | z | z); exact c24 z; exact c32 z; exact c40 z), if_neg (by rintro ⟨_, z | z | z⟩; exact c58 z; exact c66 z; exact c74 z)]; first | done | omega)) (by exact ie) (by omega)
                  · skip
                    refine w_lload_n rfl rfl rfl ?_
                    refine w_ldc2 (v := 125) rfl rfl rfl ?_
                    refine w_l_ne (pc2 := 80) (pc3 := 77) rfl rfl (by decide) rfl (fun c74 => ?_) (fun c74 => ?_)
                    · skip
                      exact ih.2 b i _ (by exact l0) (by exact l1) (by exact (congrArg x_k2 l2)) (by omega) (by omega) (by omega) (by omega) (by rw [bc_s i0, ← hb]; unfold brs; first | (rw [if_pos (Or.inl c24)]; first | done | omega) | (rw [if_pos (Or.inr (Or.inl c32))]; first | done | omega) | (rw [if_pos (Or.inr (Or.inr c40))]; first | done | omega) | (rw [if_neg (by rintro (z | z | z); exact c24 z; exact c32 z; exact c40 z), if_neg (fun z => by omega)]; first | done | omega) | (rw [if_neg (by rintro (z | z | z); exact c24 z; exact c32 z; exact c40 z), if_pos ⟨by omega, (by first | exact Or.inl c58 | exact Or.inr (Or.inl c66) | exact Or.inr (Or.inr c74))⟩]; first | done | omega) | (rw [if_neg (by rintro (z | z | z); exact c24 z; exact c32 z; exact c40 z), if_pos ⟨by omega, Or.inr (Or.inl c66)⟩]; first | done | omega) | (rw [if_neg (by rintro (z | z | z); exact c24 z; exact c32 z; exact c40 z), if_pos ⟨by omega, Or.inr (Or.inr c74)⟩]; first | done | omega) | (rw [if_neg (by rintro (z | z | z); exact c24 z; exact c32 z; exact c40 z), if_neg (by rintro ⟨_, z | z | z⟩; exact c58 z; exact c66 z; exact c74 z)]; first | done | omega)) (by exact ie) (by omega)
                    · skip
                      refine w_iinc rfl l1 (by decide) rfl ?_
                      exact ih.2 (b + (-1)) i _ (by exact (congrArg x_k2 l0)) (by exact rfl) (by exact (congrArg x_k2 l2)) (by omega) (by omega) (by omega) (by omega) (by rw [bc_s i0, ← hb]; unfold brs; first | (rw [if_pos (Or.inl c24)]; first | done | omega) | (rw [if_pos (Or.inr (Or.inl c32))]; first | done | omega) | (rw [if_pos (Or.inr (Or.inr c40))]; first | done | omega) | (rw [if_neg (by rintro (z | z | z); exact c24 z; exact c32 z; exact c40 z), if_neg (fun z => by omega)]; first | done | omega) | (rw [if_neg (by rintro (z | z | z); exact c24 z; exact c32 z; exact c40 z), if_pos ⟨by omega, (by first | exact Or.inl c58 | exact Or.inr (Or.inl c66) | exact Or.inr (Or.inr c74))⟩]; first | done | omega) | (rw [if_neg (by rintro (z | z | z); exact c24 z; exact c32 z; exact c40 z), if_pos ⟨by omega, Or.inr (Or.inl c66)⟩]; first | done | omega) | (rw [if_neg (by rintro (z | z | z); exact c24 z; exact c32 z; exact c40 z), if_pos ⟨by omega, Or.inr (Or.inr c74)⟩]; first | done | omega) | (rw [if_neg (by rintro (z | z | z); exact c24 z; exact c32 z; exact c40 z), if_neg (by rintro ⟨_, z | z | z⟩; exact c58 z; exact c66 z; exact c74 z)]; first | done | omega)) (by exact ie) (by omega)
            · skip
              refine w_iinc rfl l1 (by decide) rfl ?_
              refine w_goto (pc2 := 80) rfl (by decide) ?_
              exact ih.2 (b + 1) i _ (by exact (congrArg x_k2 l0)) (by exact rfl) (by exact (congrArg x_k2 l2)) (by omega) (by omega) (by omega) (by omega) (by rw [bc_s i0, ← hb]; unfold brs; first | (rw [if_pos (Or.inl c24)]; first | done | omega) | (rw [if_pos (Or.inr (Or.inl c32))]; first | done | omega) | (rw [if_pos (Or.inr (Or.inr c40))]; first | done | omega) | (rw [if_neg (by rintro (z | z | z); exact c24 z; exact c32 z; exact c40 z), if_neg (fun z => by omega)]; first | done | omega) | (rw [if_neg (by rintro (z | z | z); exact c24 z; exact c32 z; exact c40 z), if_pos ⟨by omega, (by first | exact Or.inl c58 | exact Or.inr (Or.inl c66) | exact Or.inr (Or.inr c74))⟩]; first | done | omega) | (rw [if_neg (by rintro (z | z | z); exact c24 z; exact c32 z; exact c40 z), if_pos ⟨by omega, Or.inr (Or.inl c66)⟩]; first | done | omega) | (rw [if_neg (by rintro (z | z | z); exact c24 z; exact c32 z; exact c40 z), if_pos ⟨by omega, Or.inr (Or.inr c74)⟩]; first | done | omega) | (rw [if_neg (by rintro (z | z | z); exact c24 z; exact c32 z; exact c40 z), if_neg (by rintro ⟨_, z | z | z⟩; exact c58 z; exact c66 z; exact c74 z)]; first | done | omega)) (by exact ie) (by omega)
    · skip
      intro c i lv l0 l1 l2 i0 i1 c0 c7 hc ie hm
      have n0 := hP.1
      have n1 := hP.2.1
      refine w_iload_n rfl l1 rfl ?_
      refine w_bipush rfl (by decide) rfl ?_
      refine w_ic_le (pc2 := 88) (pc3 := 86) rfl (by decide) rfl ⟨by omega, by omega⟩ ⟨by decide, by decide⟩ (fun c83 => ?_) (fun c83 => ?_)
      · skip
        refine w_iinc rfl l2 (by decide) rfl ?_
        refine w_goto (pc2 := 4) rfl (by decide) ?_
        exact ih.1 c (i + 1) _ (by exact l0) (by exact (congrArg x_k2 l1)) (by exact rfl) (by omega) (by omega) (by omega) (by omega) (by exact hc) (by rw [ie, fi_next (by omega) (decide_eq_false (by rw [← hc]; omega))]) (by omega)
      · skip
        refine w_iconst rfl rfl ?_
        refine w_zret rfl rfl (by decide) ?_
        refine q_i ?_
        unfold dpp
        rw [ie, fi_stop (by omega) (decide_eq_true (by rw [← hc]; omega)), decide_eq_true (by omega)]
        rfl
theorem c_dpp {sc : x_S} {d : Nat} {S : w_S} {nn : Int} {Y : Int → Int64} (hP : PS S nn Y) (hd : 0 ≤ d) : w_T sc d 42 0 (x_en 0 [.ref 234]) [] S (fun v S2 => v = some (.int (iZ (zB (dpp Y nn)))) ∧ S2 = S) := by
  have n0 := hP.1
  have n1 := hP.2.1
  refine w_iconst rfl rfl ?_
  refine w_istore_n rfl (by decide) rfl ?_
  refine w_iconst rfl rfl ?_
  refine w_istore_n rfl (by decide) rfl ?_
  exact (c_dpp_c hP hd _).1 0 0 _ rfl rfl rfl (by omega) (by omega) (by omega) (by omega) (by rfl) (by rfl) (Nat.lt_succ_self _)
