/-! The reference goes through its tasks. -/
def HG (sc : x_S) (d : Nat) (S : w_S) (n : Int) (Y : Int → Int64) (mt : Int → Int) (Q : Option Value → w_S → Prop) (T : List Tk) (N : List Nd) (E : List Ed) : Prop := ∀ (U : w_S) (lv : x_L) (k : Int), lv 0 = some (.ref 249) → lv 1 = some (.int (iZ 1)) → lv 2 = some (.int (iZ k)) → 0 ≤ k → k + muT mt T ≤ 500 → PQ U n Y mt E N T → pfr S U → w_T sc d 152 44 lv [] U Q
def K0p (sc : x_S) (d : Nat) (S : w_S) (Q : Option Value → w_S → Prop) : Prop := ∀ (U : w_S) (lv : x_L) (k : Int), lv 0 = some (.ref 249) → lv 1 = some (.int (iZ 0)) → lv 2 = some (.int (iZ k)) → 0 ≤ k → k ≤ 1000 → pfr S U → w_T sc d 152 216 lv [] U Q
def K1p (sc : x_S) (d : Nat) (U : w_S) (Q : Option Value → w_S → Prop) (k : Int) : Prop := ∀ lv : x_L, lv 0 = some (.ref 249) → lv 1 = some (.int (iZ 1)) → lv 2 = some (.int (iZ k)) → w_T sc d 152 216 lv [] U Q
theorem PQ_pop {U : w_S} {n : Int} {Y : Int → Int64} {mt : Int → Int} {E : List Ed} {N : List Nd} {t : Tk} {T : List Tk} (h : PQ U n Y mt E N (t :: T)) : pfr U (w_v U 249 67 T.length) ∧ PQ (w_v U 249 67 T.length) n Y mt E N T := by
  have f : fr (fun a => a = 249 ∨ (296 ≤ a ∧ a ≤ 300)) U (w_v U 249 67 T.length) := fr_v (fr_refl _ _) (Or.inl rfl)
  have hl := h.2.2.2.2.1
  rw [List.length_cons] at hl
  exact PQ_t h f (fun k hk => rv_ne (by omega)) ⟨rv_self _ _ _ _, by omega, h.2.2.2.2.2.2.2.2.2.2⟩
theorem r_k0_c {sc : x_S} {d : Nat} {S : w_S} {Q : Option Value → w_S → Prop} (hF : ∀ U, pfr S U → Q (some (.int (iZ 0))) U) (hd : 40 ≤ d) : ∀ n : Nat, (∀ (k : Int) (U : w_S) (lv : x_L) (l0 : lv 0 = some (.ref 249)) (l1 : lv 1 = some (.int (iZ 0))) (l2 : lv 2 = some (.int (iZ k))) (k0 : 0 ≤ k) (k1 : k ≤ 1000) (hfU : pfr S U) (hm : 0 < n), w_T sc d 152 216 lv [] U Q) := by
  intro n
  induction n with
  | zero => exact fun k U lv l0 l1 l2 k0 k1 hfU hm => absurd hm (Nat.not_lt_zero _)
  | succ n ih =>
    intro k U lv l0 l1 l2 k0 k1 hfU hm
    refine w_iinc rfl l2 (by decide) rfl ?_
    refine w_goto (pc2 := 44) rfl (by decide) ?_
    refine w_iload_n rfl rfl rfl ?_
    refine w_sipush rfl (by decide) rfl ?_
    refine w_ic_ge (pc2 := 222) (pc3 := 51) rfl (by decide) rfl ⟨by omega, by omega⟩ ⟨by decide, by decide⟩ (fun c48 => ?_) (fun c48 => ?_)
    · skip
      refine w_iload_n rfl (congrArg x_k2 l1) rfl ?_
      refine w_zret rfl rfl (by decide) ?_
      exact hF U hfU
    · skip
      refine w_iload_n rfl (congrArg x_k2 l1) rfl ?_
      refine w_if_eq (pc2 := 222) (pc3 := 55) rfl (by decide) rfl ⟨by decide, by decide⟩ (fun _ => ?_) (fun hc => absurd hc (by decide))
      refine w_iload_n rfl (congrArg x_k2 l1) rfl ?_
      refine w_zret rfl rfl (by decide) ?_
      exact hF U hfU
theorem r_k1_c {sc : x_S} {d : Nat} {S : w_S} {Q : Option Value → w_S → Prop} {nn : Int} {Y : Int → Int64} {mt : Int → Int} {E : List Ed} {N : List Nd} {T : List Tk} (hG : HG sc d S nn Y mt Q T N E) (hd : 40 ≤ d) : ∀ n : Nat, (∀ (k : Int) (U : w_S) (lv : x_L) (l0 : lv 0 = some (.ref 249)) (l1 : lv 1 = some (.int (iZ 1))) (l2 : lv 2 = some (.int (iZ k))) (k0 : 0 ≤ k) (hmu : k + 1 + muT mt T ≤ 500) (hqU : PQ U nn Y mt E N T) (hfU : pfr S U) (hm : 0 < n), w_T sc d 152 216 lv [] U Q) := by
  intro n
  induction n with
  | zero => exact fun k U lv l0 l1 l2 k0 hmu hqU hfU hm => absurd hm (Nat.not_lt_zero _)
  | succ n ih =>
    intro k U lv l0 l1 l2 k0 hmu hqU hfU hm
    refine w_iinc rfl l2 (by decide) rfl ?_
    refine w_goto (pc2 := 44) rfl (by decide) ?_
    exact hG U _ (k + 1) (by exact l0) (by exact (congrArg x_k2 l1)) (by exact rfl) (by omega) hmu hqU hfU
theorem r_gi_c {sc : x_S} {d : Nat} {S : w_S} {Q : Option Value → w_S → Prop} {nn : Int} {Y : Int → Int64} {mt : Int → Int} {E : List Ed} {N : List Nd} {T : List Tk} {Fl : Prop} {D : List Dcl} {i e p j : Int} (hF : Fl → ∀ U, pfr S U → Q (some (.int (iZ 0))) U) (i0 : 0 ≤ i) (ie : i ≤ e) (en : e ≤ nn) (hT : TV Y mt nn E D i e) (p0 : 0 ≤ p) (p1 : p < N.length) (j1 : -1 ≤ j) (j2 : j < nn) (hb : bdT mt N E ((0, i, e, p, j) :: T)) (hN : ist Y D mt i e p j N = none → Fl) (hs : ∀ q, ist Y D mt i e p j N = some q → muT mt (q.1 ++ T) < muT mt ((0, i, e, p, j) :: T) ∧ HG sc d S nn Y mt Q (q.1 ++ T) q.2 E) (hd : 40 ≤ d) : ∀ n : Nat, (∀ (k : Int) (U : w_S) (lv : x_L) (l0 : lv 0 = some (.ref 249)) (l1 : lv 1 = some (.int (iZ 1))) (l2 : lv 2 = some (.int (iZ k))) (k0 : 0 ≤ k) (hmu : k + muT mt ((0, i, e, p, j) :: T) ≤ 500) (hw9 : 0 ≤ wt mt T) (hqU : PQ U nn Y mt E N ((0, i, e, p, j) :: T)) (hfU : pfr S U) (hm : 0 < n), w_T sc d 152 44 lv [] U Q) := by
  intro n
  induction n with
  | zero => exact fun k U lv l0 l1 l2 k0 hmu hw9 hqU hfU hm => absurd hm (Nat.not_lt_zero _)
  | succ n ih =>
    intro k U lv l0 l1 l2 k0 hmu hw9 hqU hfU hm
    have n0 := hqU.1.1.2.1
    have n1 := hqU.1.1.2.2.1
    have hg := hqU.1.1.2.2.2.2.1
    have hM := hqU.1.2.1
    have hlE := hqU.2.1.2.1
    have hlN := hqU.2.2.1.2.1
    have hlT := hqU.2.2.2.2.1
    have hY0 := hqU.1.1.2.2.2.2.2
    have hcm := hqU.1.2.2.2
    have htl : sv U 249 67 = (T.length : Int) + 1 := by rw [hqU.2.2.2.1, List.length_cons]; omega
    have htk := hqU.2.2.2.2.2
    have hb0 := (bd_w (show ¬ (0 : Int) = 1 by decide)).1 hb
    have hmu9 : muT mt ((0, i, e, p, j) :: T) = 2 * wt mt ((0, i, e, p, j) :: T) + ((T.length + 1 : Nat) : Int) := rfl
    rw [wt_w (show ¬ (0 : Int) = 1 by decide)] at hmu9
    refine w_iload_n rfl l2 rfl ?_
    refine w_sipush rfl (by decide) rfl ?_
    refine w_ic_ge (pc2 := 222) (pc3 := 51) rfl (by decide) rfl ⟨by omega, by omega⟩ ⟨by decide, by decide⟩ (fun c48 => ?_) (fun c48 => ?_)
    · exfalso; omega
    · skip
      refine w_iload_n rfl l1 rfl ?_
      refine w_if_eq (pc2 := 222) (pc3 := 55) rfl (by decide) rfl ⟨by decide, by decide⟩ (fun hc => absurd hc (by decide)) (fun _ => ?_)
      refine w_aload_n rfl l0 rfl ?_
      refine w_getI (z := (T.length : Int) + 1) rfl rfl sh_249 rfl htl rfl ?_
      refine w_if_le (pc2 := 222) (pc3 := 62) rfl (by decide) rfl ⟨by omega, by omega⟩ (fun c59 => ?_) (fun c59 => ?_)
      · exfalso; omega
      · skip
        refine w_aload_n rfl l0 rfl ?_
        refine w_dup rfl rfl rfl ?_
        refine w_getI (z := (T.length : Int) + 1) rfl rfl sh_249 rfl htl rfl ?_
        refine w_iconst rfl rfl ?_
        refine w_isub rfl rfl ?_
        rw [show (T.length : Int) + 1 - 1 = (T.length : Int) by omega]
        refine w_putf rfl rfl sh_249 rfl rfl (by decide) rfl ?_
        refine w_aload_n rfl l0 rfl ?_
        refine w_getR rfl rfl sh_249 rfl rfl ?_
        refine w_aload_n rfl l0 rfl ?_
        refine w_getI (z := (T.length : Int)) rfl rfl sh_249 rfl (rv_self _ _ _ _) rfl ?_
        refine w_iald (z := 0) rfl sh_296 (by omega) (by omega) (by decide) htk.1 rfl ?_
        refine w_istore_n rfl (by decide) rfl ?_
        refine w_aload_n rfl l0 rfl ?_
        refine w_getR rfl rfl sh_249 rfl rfl ?_
        refine w_aload_n rfl l0 rfl ?_
        refine w_getI (z := (T.length : Int)) rfl rfl sh_249 rfl (rv_self _ _ _ _) rfl ?_
        refine w_iald (z := i) rfl sh_297 (by omega) (by omega) (by decide) htk.2.1 rfl ?_
        refine w_istore rfl (by decide) rfl ?_
        refine w_aload_n rfl l0 rfl ?_
        refine w_getR rfl rfl sh_249 rfl rfl ?_
        refine w_aload_n rfl l0 rfl ?_
        refine w_getI (z := (T.length : Int)) rfl rfl sh_249 rfl (rv_self _ _ _ _) rfl ?_
        refine w_iald (z := e) rfl sh_298 (by omega) (by omega) (by decide) htk.2.2.1 rfl ?_
        refine w_istore rfl (by decide) rfl ?_
        refine w_aload_n rfl l0 rfl ?_
        refine w_getR rfl rfl sh_249 rfl rfl ?_
        refine w_aload_n rfl l0 rfl ?_
        refine w_getI (z := (T.length : Int)) rfl rfl sh_249 rfl (rv_self _ _ _ _) rfl ?_
        refine w_iald (z := p) rfl sh_299 (by omega) (by omega) (by decide) htk.2.2.2.1 rfl ?_
        refine w_istore rfl (by decide) rfl ?_
        refine w_aload_n rfl l0 rfl ?_
        refine w_getR rfl rfl sh_249 rfl rfl ?_
        refine w_aload_n rfl l0 rfl ?_
        refine w_getI (z := (T.length : Int)) rfl rfl sh_249 rfl (rv_self _ _ _ _) rfl ?_
        refine w_iald (z := j) rfl sh_300 (by omega) (by omega) (by decide) htk.2.2.2.2.1 rfl ?_
        refine w_istore rfl (by decide) rfl ?_
        have hpp := PQ_pop hqU
        have hq1 := hpp.2
        have f1 := pfr_trans hfU hpp.1
        clear hpp
        generalize (w_v U 249 67 ((T.length : Int))) = Z1 at hq1 f1 ⊢
        refine w_iload_n rfl rfl rfl ?_
        refine w_if_ne (pc2 := 146) (pc3 := 130) rfl (by decide) rfl ⟨by decide, by decide⟩ (fun hc => absurd hc (by decide)) (fun _ => ?_)
        refine w_aload_n rfl l0 rfl ?_
        refine w_iload rfl rfl rfl ?_
        refine w_iload rfl rfl rfl ?_
        refine w_iload rfl rfl rfl ?_
        refine w_iload rfl rfl rfl ?_
        rcases e139 : ist Y D mt i e p j N with _ | q139
        · skip
          refine w_CV (as := [.int (iZ i), .int (iZ e), .int (iZ p), .int (iZ j)]) (r := []) rfl rfl rfl rfl sh_249 (Nat.le_of_ble_eq_true rfl) (Nat.le_of_ble_eq_true rfl) (by omega) rfl (w_mono (r_item (D := D) (i := i) (e := e) (p := p) (j := j) hq1 i0 ie en p0 p1 j1 j2 (by omega) (by omega) hT (by omega)) (fun v S2 h => (⟨h.2.1 e139, h.1⟩ : v = some (.int (iZ 0)) ∧ pfr _ S2))) ?_
          rintro _ Z2 ⟨rfl, g2⟩
          show w_T _ _ 152 142 _ [.int (iZ 0)] _ _
          have f2 := pfr_trans f1 g2
          refine w_istore_n rfl (by decide) rfl ?_
          refine w_goto (pc2 := 216) rfl (by decide) ?_
          exact r_k0_c (hF (hN e139)) (by omega) 1 k _ _ (by exact (congrArg x_k2 l0)) (by exact rfl) (by exact (congrArg x_k2 l2)) k0 (by omega) f2 (by omega)
        · skip
          refine w_CV (as := [.int (iZ i), .int (iZ e), .int (iZ p), .int (iZ j)]) (r := []) rfl rfl rfl rfl sh_249 (Nat.le_of_ble_eq_true rfl) (Nat.le_of_ble_eq_true rfl) (by omega) rfl (w_mono (r_item (D := D) (i := i) (e := e) (p := p) (j := j) hq1 i0 ie en p0 p1 j1 j2 (by omega) (by omega) hT (by omega)) (fun v S2 h => (⟨(h.2.2 _ e139).1, h.1, (h.2.2 _ e139).2⟩ : v = some (.int (iZ 1)) ∧ pfr _ S2 ∧ PQ S2 nn Y mt E q139.2 (q139.1 ++ T)))) ?_
          rintro _ Z3 ⟨rfl, g3, hq3⟩
          show w_T _ _ 152 142 _ [.int (iZ 1)] _ _
          have f3 := pfr_trans f1 g3
          refine w_istore_n rfl (by decide) rfl ?_
          refine w_goto (pc2 := 216) rfl (by decide) ?_
          have h9 := hs q139 e139
          exact r_k1_c h9.2 (by omega) 1 k _ _ (by exact (congrArg x_k2 l0)) (by exact rfl) (by exact (congrArg x_k2 l2)) k0 (by omega) (by exact hq3) f3 (by omega)
theorem r_gv_c {sc : x_S} {d : Nat} {S : w_S} {Q : Option Value → w_S → Prop} {nn : Int} {Y : Int → Int64} {mt : Int → Int} {E : List Ed} {N : List Nd} {T : List Tk} {Fl : Prop} {D : List Dcl} {a b p j : Int} (hF : Fl → ∀ U, pfr S U → Q (some (.int (iZ 0))) U) (a0 : 0 ≤ a) (ab : a ≤ b) (bn : b ≤ nn) (hra : Rch Y mt a b) (hT : TV Y mt nn E D a b) (p0 : 0 ≤ p) (p1 : p < N.length) (hb : bdT mt N E ((5, a, b, p, j) :: T)) (hN : vst Y D mt a b p N = none → Fl) (hs : ∀ q, vst Y D mt a b p N = some q → muT mt (q.1 ++ T) < muT mt ((5, a, b, p, j) :: T) ∧ HG sc d S nn Y mt Q (q.1 ++ T) q.2 E) (hd : 40 ≤ d) : ∀ n : Nat, (∀ (k : Int) (U : w_S) (lv : x_L) (l0 : lv 0 = some (.ref 249)) (l1 : lv 1 = some (.int (iZ 1))) (l2 : lv 2 = some (.int (iZ k))) (k0 : 0 ≤ k) (hmu : k + muT mt ((5, a, b, p, j) :: T) ≤ 500) (hw9 : 0 ≤ wt mt T) (hqU : PQ U nn Y mt E N ((5, a, b, p, j) :: T)) (hfU : pfr S U) (hm : 0 < n), w_T sc d 152 44 lv [] U Q) := by
  intro n
  induction n with
  | zero => exact fun k U lv l0 l1 l2 k0 hmu hw9 hqU hfU hm => absurd hm (Nat.not_lt_zero _)
  | succ n ih =>
    intro k U lv l0 l1 l2 k0 hmu hw9 hqU hfU hm
    have n0 := hqU.1.1.2.1
    have n1 := hqU.1.1.2.2.1
    have hg := hqU.1.1.2.2.2.2.1
    have hM := hqU.1.2.1
    have hlE := hqU.2.1.2.1
    have hlN := hqU.2.2.1.2.1
    have hlT := hqU.2.2.2.2.1
    have hY0 := hqU.1.1.2.2.2.2.2
    have hcm := hqU.1.2.2.2
    have htl : sv U 249 67 = (T.length : Int) + 1 := by rw [hqU.2.2.2.1, List.length_cons]; omega
    have htk := hqU.2.2.2.2.2
    have hb0 := (bd_w (show ¬ (5 : Int) = 1 by decide)).1 hb
    have hmu9 : muT mt ((5, a, b, p, j) :: T) = 2 * wt mt ((5, a, b, p, j) :: T) + ((T.length + 1 : Nat) : Int) := rfl
    rw [wt_w (show ¬ (5 : Int) = 1 by decide)] at hmu9
    refine w_iload_n rfl l2 rfl ?_
    refine w_sipush rfl (by decide) rfl ?_
    refine w_ic_ge (pc2 := 222) (pc3 := 51) rfl (by decide) rfl ⟨by omega, by omega⟩ ⟨by decide, by decide⟩ (fun c48 => ?_) (fun c48 => ?_)
    · exfalso; omega
    · skip
      refine w_iload_n rfl l1 rfl ?_
      refine w_if_eq (pc2 := 222) (pc3 := 55) rfl (by decide) rfl ⟨by decide, by decide⟩ (fun hc => absurd hc (by decide)) (fun _ => ?_)
      refine w_aload_n rfl l0 rfl ?_
      refine w_getI (z := (T.length : Int) + 1) rfl rfl sh_249 rfl htl rfl ?_
      refine w_if_le (pc2 := 222) (pc3 := 62) rfl (by decide) rfl ⟨by omega, by omega⟩ (fun c59 => ?_) (fun c59 => ?_)
      · exfalso; omega
      · skip
        refine w_aload_n rfl l0 rfl ?_
        refine w_dup rfl rfl rfl ?_
        refine w_getI (z := (T.length : Int) + 1) rfl rfl sh_249 rfl htl rfl ?_
        refine w_iconst rfl rfl ?_
        refine w_isub rfl rfl ?_
        rw [show (T.length : Int) + 1 - 1 = (T.length : Int) by omega]
        refine w_putf rfl rfl sh_249 rfl rfl (by decide) rfl ?_
        refine w_aload_n rfl l0 rfl ?_
        refine w_getR rfl rfl sh_249 rfl rfl ?_
        refine w_aload_n rfl l0 rfl ?_
        refine w_getI (z := (T.length : Int)) rfl rfl sh_249 rfl (rv_self _ _ _ _) rfl ?_
        refine w_iald (z := 5) rfl sh_296 (by omega) (by omega) (by decide) htk.1 rfl ?_
        refine w_istore_n rfl (by decide) rfl ?_
        refine w_aload_n rfl l0 rfl ?_
        refine w_getR rfl rfl sh_249 rfl rfl ?_
        refine w_aload_n rfl l0 rfl ?_
        refine w_getI (z := (T.length : Int)) rfl rfl sh_249 rfl (rv_self _ _ _ _) rfl ?_
        refine w_iald (z := a) rfl sh_297 (by omega) (by omega) (by decide) htk.2.1 rfl ?_
        refine w_istore rfl (by decide) rfl ?_
        refine w_aload_n rfl l0 rfl ?_
        refine w_getR rfl rfl sh_249 rfl rfl ?_
        refine w_aload_n rfl l0 rfl ?_
        refine w_getI (z := (T.length : Int)) rfl rfl sh_249 rfl (rv_self _ _ _ _) rfl ?_
        refine w_iald (z := b) rfl sh_298 (by omega) (by omega) (by decide) htk.2.2.1 rfl ?_
        refine w_istore rfl (by decide) rfl ?_
        refine w_aload_n rfl l0 rfl ?_
        refine w_getR rfl rfl sh_249 rfl rfl ?_
        refine w_aload_n rfl l0 rfl ?_
        refine w_getI (z := (T.length : Int)) rfl rfl sh_249 rfl (rv_self _ _ _ _) rfl ?_
        refine w_iald (z := p) rfl sh_299 (by omega) (by omega) (by decide) htk.2.2.2.1 rfl ?_
        refine w_istore rfl (by decide) rfl ?_
        refine w_aload_n rfl l0 rfl ?_
        refine w_getR rfl rfl sh_249 rfl rfl ?_
        refine w_aload_n rfl l0 rfl ?_
        refine w_getI (z := (T.length : Int)) rfl rfl sh_249 rfl (rv_self _ _ _ _) rfl ?_
        refine w_iald (z := j) rfl sh_300 (by omega) (by omega) (by decide) htk.2.2.2.2.1 rfl ?_
        refine w_istore rfl (by decide) rfl ?_
        have hpp := PQ_pop hqU
        have hq1 := hpp.2
        have f1 := pfr_trans hfU hpp.1
        clear hpp
        generalize (w_v U 249 67 ((T.length : Int))) = Z1 at hq1 f1 ⊢
        refine w_iload_n rfl rfl rfl ?_
        refine w_if_ne (pc2 := 146) (pc3 := 130) rfl (by decide) rfl ⟨by decide, by decide⟩ (fun _ => ?_) (fun hc => absurd hc (by decide))
        refine w_iload_n rfl rfl rfl ?_
        refine w_iconst rfl rfl ?_
        refine w_ic_ne (pc2 := 183) (pc3 := 151) rfl (by decide) rfl ⟨by decide, by decide⟩ ⟨by decide, by decide⟩ (fun _ => ?_) (fun hc => absurd hc (by decide))
        refine w_iload_n rfl rfl rfl ?_
        refine w_iconst rfl rfl ?_
        refine w_ic_ne (pc2 := 202) (pc3 := 188) rfl (by decide) rfl ⟨by decide, by decide⟩ ⟨by decide, by decide⟩ (fun hc => absurd hc (by decide)) (fun _ => ?_)
        refine w_aload_n rfl l0 rfl ?_
        refine w_iload rfl rfl rfl ?_
        refine w_iload rfl rfl rfl ?_
        refine w_iload rfl rfl rfl ?_
        rcases e195 : vst Y D mt a b p N with _ | q195
        · skip
          refine w_CV (as := [.int (iZ a), .int (iZ b), .int (iZ p)]) (r := []) rfl rfl rfl rfl sh_249 (Nat.le_of_ble_eq_true rfl) (Nat.le_of_ble_eq_true rfl) (by omega) rfl (w_mono (r_valu (D := D) (a := a) (b := b) (p := p) hq1 a0 ab bn hra hT p0 p1 (by omega) (by omega) (by omega)) (fun v S2 h => (⟨h.2.1 e195, h.1⟩ : v = some (.int (iZ 0)) ∧ pfr _ S2))) ?_
          rintro _ Z2 ⟨rfl, g2⟩
          show w_T _ _ 152 198 _ [.int (iZ 0)] _ _
          have f2 := pfr_trans f1 g2
          refine w_istore_n rfl (by decide) rfl ?_
          refine w_goto (pc2 := 216) rfl (by decide) ?_
          exact r_k0_c (hF (hN e195)) (by omega) 1 k _ _ (by exact (congrArg x_k2 l0)) (by exact rfl) (by exact (congrArg x_k2 l2)) k0 (by omega) f2 (by omega)
        · skip
          refine w_CV (as := [.int (iZ a), .int (iZ b), .int (iZ p)]) (r := []) rfl rfl rfl rfl sh_249 (Nat.le_of_ble_eq_true rfl) (Nat.le_of_ble_eq_true rfl) (by omega) rfl (w_mono (r_valu (D := D) (a := a) (b := b) (p := p) hq1 a0 ab bn hra hT p0 p1 (by omega) (by omega) (by omega)) (fun v S2 h => (⟨(h.2.2 _ e195).1, h.1, (h.2.2 _ e195).2⟩ : v = some (.int (iZ 1)) ∧ pfr _ S2 ∧ PQ S2 nn Y mt E q195.2 (q195.1 ++ T)))) ?_
          rintro _ Z3 ⟨rfl, g3, hq3⟩
          show w_T _ _ 152 198 _ [.int (iZ 1)] _ _
          have f3 := pfr_trans f1 g3
          refine w_istore_n rfl (by decide) rfl ?_
          refine w_goto (pc2 := 216) rfl (by decide) ?_
          have h9 := hs q195 e195
          exact r_k1_c h9.2 (by omega) 1 k _ _ (by exact (congrArg x_k2 l0)) (by exact rfl) (by exact (congrArg x_k2 l2)) k0 (by omega) (by exact hq3) f3 (by omega)
theorem r_gb_c {sc : x_S} {d : Nat} {S : w_S} {Q : Option Value → w_S → Prop} {nn : Int} {Y : Int → Int64} {mt : Int → Int} {E : List Ed} {N : List Nd} {T : List Tk} {Fl : Prop} {a b p j : Int} (hF : Fl → ∀ U, pfr S U → Q (some (.int (iZ 0))) U) (a0 : 0 ≤ a) (an : a < nn) (h123 : Y a = 123) (p0 : 0 ≤ p) (p1 : p < N.length) (hb : bdT mt N E ((1, a, b, p, j) :: T)) (hs : HG sc d S nn Y mt Q ((0, a + 1, mt a, (N.length : Int), a) :: T) (gr N 9 a p) E) (hd : 40 ≤ d) : ∀ n : Nat, (∀ (k : Int) (U : w_S) (lv : x_L) (l0 : lv 0 = some (.ref 249)) (l1 : lv 1 = some (.int (iZ 1))) (l2 : lv 2 = some (.int (iZ k))) (k0 : 0 ≤ k) (hmu : k + muT mt ((1, a, b, p, j) :: T) ≤ 500) (hw9 : 0 ≤ wt mt T) (hqU : PQ U nn Y mt E N ((1, a, b, p, j) :: T)) (hfU : pfr S U) (hm : 0 < n), w_T sc d 152 44 lv [] U Q) := by
  intro n
  induction n with
  | zero => exact fun k U lv l0 l1 l2 k0 hmu hw9 hqU hfU hm => absurd hm (Nat.not_lt_zero _)
  | succ n ih =>
    intro k U lv l0 l1 l2 k0 hmu hw9 hqU hfU hm
    have n0 := hqU.1.1.2.1
    have n1 := hqU.1.1.2.2.1
    have hg := hqU.1.1.2.2.2.2.1
    have hM := hqU.1.2.1
    have hlE := hqU.2.1.2.1
    have hlN := hqU.2.2.1.2.1
    have hlT := hqU.2.2.2.2.1
    have hY0 := hqU.1.1.2.2.2.2.2
    have hcm := hqU.1.2.2.2
    have htl : sv U 249 67 = (T.length : Int) + 1 := by rw [hqU.2.2.2.1, List.length_cons]; omega
    have htk := hqU.2.2.2.2.2
    have hb0 := bd_1.1 hb
    have hmu9 : muT mt ((1, a, b, p, j) :: T) = 2 * wt mt ((1, a, b, p, j) :: T) + ((T.length + 1 : Nat) : Int) := rfl
    rw [wt_1] at hmu9
    have hmk := hM a a0 an (by rw [h123]; decide)
    have hmk1 := hmk.1
    have hmk2 := hmk.2.1
    have hmu8 : muT mt ((0, a + 1, mt a, (N.length : Int), a) :: T) = 2 * wt mt ((0, a + 1, mt a, (N.length : Int), a) :: T) + ((T.length + 1 : Nat) : Int) := rfl
    rw [wt_w (show ¬ (0 : Int) = 1 by decide)] at hmu8
    refine w_iload_n rfl l2 rfl ?_
    refine w_sipush rfl (by decide) rfl ?_
    refine w_ic_ge (pc2 := 222) (pc3 := 51) rfl (by decide) rfl ⟨by omega, by omega⟩ ⟨by decide, by decide⟩ (fun c48 => ?_) (fun c48 => ?_)
    · exfalso; omega
    · skip
      refine w_iload_n rfl l1 rfl ?_
      refine w_if_eq (pc2 := 222) (pc3 := 55) rfl (by decide) rfl ⟨by decide, by decide⟩ (fun hc => absurd hc (by decide)) (fun _ => ?_)
      refine w_aload_n rfl l0 rfl ?_
      refine w_getI (z := (T.length : Int) + 1) rfl rfl sh_249 rfl htl rfl ?_
      refine w_if_le (pc2 := 222) (pc3 := 62) rfl (by decide) rfl ⟨by omega, by omega⟩ (fun c59 => ?_) (fun c59 => ?_)
      · exfalso; omega
      · skip
        refine w_aload_n rfl l0 rfl ?_
        refine w_dup rfl rfl rfl ?_
        refine w_getI (z := (T.length : Int) + 1) rfl rfl sh_249 rfl htl rfl ?_
        refine w_iconst rfl rfl ?_
        refine w_isub rfl rfl ?_
        rw [show (T.length : Int) + 1 - 1 = (T.length : Int) by omega]
        refine w_putf rfl rfl sh_249 rfl rfl (by decide) rfl ?_
        refine w_aload_n rfl l0 rfl ?_
        refine w_getR rfl rfl sh_249 rfl rfl ?_
        refine w_aload_n rfl l0 rfl ?_
        refine w_getI (z := (T.length : Int)) rfl rfl sh_249 rfl (rv_self _ _ _ _) rfl ?_
        refine w_iald (z := 1) rfl sh_296 (by omega) (by omega) (by decide) htk.1 rfl ?_
        refine w_istore_n rfl (by decide) rfl ?_
        refine w_aload_n rfl l0 rfl ?_
        refine w_getR rfl rfl sh_249 rfl rfl ?_
        refine w_aload_n rfl l0 rfl ?_
        refine w_getI (z := (T.length : Int)) rfl rfl sh_249 rfl (rv_self _ _ _ _) rfl ?_
        refine w_iald (z := a) rfl sh_297 (by omega) (by omega) (by decide) htk.2.1 rfl ?_
        refine w_istore rfl (by decide) rfl ?_
        refine w_aload_n rfl l0 rfl ?_
        refine w_getR rfl rfl sh_249 rfl rfl ?_
        refine w_aload_n rfl l0 rfl ?_
        refine w_getI (z := (T.length : Int)) rfl rfl sh_249 rfl (rv_self _ _ _ _) rfl ?_
        refine w_iald (z := b) rfl sh_298 (by omega) (by omega) (by decide) htk.2.2.1 rfl ?_
        refine w_istore rfl (by decide) rfl ?_
        refine w_aload_n rfl l0 rfl ?_
        refine w_getR rfl rfl sh_249 rfl rfl ?_
        refine w_aload_n rfl l0 rfl ?_
        refine w_getI (z := (T.length : Int)) rfl rfl sh_249 rfl (rv_self _ _ _ _) rfl ?_
        refine w_iald (z := p) rfl sh_299 (by omega) (by omega) (by decide) htk.2.2.2.1 rfl ?_
        refine w_istore rfl (by decide) rfl ?_
        refine w_aload_n rfl l0 rfl ?_
        refine w_getR rfl rfl sh_249 rfl rfl ?_
        refine w_aload_n rfl l0 rfl ?_
        refine w_getI (z := (T.length : Int)) rfl rfl sh_249 rfl (rv_self _ _ _ _) rfl ?_
        refine w_iald (z := j) rfl sh_300 (by omega) (by omega) (by decide) htk.2.2.2.2.1 rfl ?_
        refine w_istore rfl (by decide) rfl ?_
        have hpp := PQ_pop hqU
        have hq1 := hpp.2
        have f1 := pfr_trans hfU hpp.1
        clear hpp
        generalize (w_v U 249 67 ((T.length : Int))) = Z1 at hq1 f1 ⊢
        refine w_iload_n rfl rfl rfl ?_
        refine w_if_ne (pc2 := 146) (pc3 := 130) rfl (by decide) rfl ⟨by decide, by decide⟩ (fun _ => ?_) (fun hc => absurd hc (by decide))
        refine w_iload_n rfl rfl rfl ?_
        refine w_iconst rfl rfl ?_
        refine w_ic_ne (pc2 := 183) (pc3 := 151) rfl (by decide) rfl ⟨by decide, by decide⟩ ⟨by decide, by decide⟩ (fun hc => absurd hc (by decide)) (fun _ => ?_)
        refine w_aload_n rfl l0 rfl ?_
        refine w_iconst rfl rfl ?_
        refine w_iload rfl rfl rfl ?_
        refine w_iconst rfl rfl ?_
        refine w_iadd rfl rfl ?_
        refine w_aload_n rfl l0 rfl ?_
        refine w_getR rfl rfl sh_249 rfl rfl ?_
        refine w_iload rfl rfl rfl ?_
        refine w_iald (z := mt a) rfl sh_287 (by omega) (by omega) (by decide) (hq1.1.2.2.1 a (by omega) (by omega)) rfl ?_
        refine w_aload_n rfl l0 rfl ?_
        refine w_bipush rfl (by decide) rfl ?_
        refine w_iload rfl rfl rfl ?_
        refine w_iload rfl rfl rfl ?_
        refine w_CV (as := [.int (iZ 9), .int (iZ a), .int (iZ p)]) (r := [.int (iZ (mt a)), .int (iZ (a + 1)), .int (iZ 0), .ref 249]) rfl rfl rfl rfl sh_249 (Nat.le_of_ble_eq_true rfl) (Nat.le_of_ble_eq_true rfl) (by omega) rfl (r_grow (k := 9) (t := a) (p := p) hq1 (by (try rw [gr_len]); omega) (by omega) (by (try rw [gr_len]); omega) (by omega)) ?_
        rintro _ Z2 ⟨rfl, g2, hq2⟩
        show w_T _ _ 152 174 _ [.int (iZ ((N.length : Int))), .int (iZ (mt a)), .int (iZ (a + 1)), .int (iZ 0), .ref 249] _ _
        have f2 := pfr_trans f1 g2
        refine w_iload rfl rfl rfl ?_
        refine w_CV (as := [.int (iZ 0), .int (iZ (a + 1)), .int (iZ (mt a)), .int (iZ ((N.length : Int))), .int (iZ a)]) (r := []) rfl rfl rfl rfl sh_249 (Nat.le_of_ble_eq_true rfl) (Nat.le_of_ble_eq_true rfl) (by omega) rfl (r_push (w := 0) (a := a + 1) (b := mt a) (p := (N.length : Int)) (j := a) hq2 (by (try simp only [List.length_cons]); omega) (by omega)) ?_
        rintro _ Z3 ⟨rfl, g3, hq3⟩
        show w_T _ _ 152 179 _ [.int (iZ 1)] _ _
        have f3 := pfr_trans f2 g3
        refine w_istore_n rfl (by decide) rfl ?_
        refine w_goto (pc2 := 216) rfl (by decide) ?_
        have h9 := (⟨trivial, hs⟩ : True ∧ _)
        exact r_k1_c h9.2 (by omega) 1 k _ _ (by exact (congrArg x_k2 l0)) (by exact rfl) (by exact (congrArg x_k2 l2)) k0 (by omega) (by exact hq3) f3 (by omega)
theorem r_gd_c {sc : x_S} {d : Nat} {S : w_S} {Q : Option Value → w_S → Prop} {nn : Int} {Y : Int → Int64} {mt : Int → Int} {E : List Ed} {N : List Nd} {T : List Tk} {Fl : Prop} {w a e p j : Int} (hF : Fl → ∀ U, pfr S U → Q (some (.int (iZ 0))) U) (hB : ∀ k : Int, 0 ≤ k → k < nn → bc Y (k + 1).toNat ≤ 6) (w2 : 2 ≤ w) (w4 : w ≤ 4) (a0 : 0 ≤ a) (ae : a ≤ e) (en : e ≤ nn) (hra : Rch Y mt a e) (p0 : 0 ≤ p) (p1 : p < N.length) (j1 : -1 ≤ j) (j2 : j < nn) (jo : 0 ≤ j → opn (Y j) = true) (hb : bdT mt N E ((w, a, e, p, j) :: T)) (hE9 : E.length ≤ 99) (hN : dst Y mt w a e p j N E = none → Fl) (hs : ∀ q, dst Y mt w a e p j N E = some q → muT mt (q.1 ++ T) < muT mt ((w, a, e, p, j) :: T) ∧ HG sc d S nn Y mt Q (q.1 ++ T) q.2.1 q.2.2) (hd : 40 ≤ d) : ∀ n : Nat, (∀ (k : Int) (U : w_S) (lv : x_L) (l0 : lv 0 = some (.ref 249)) (l1 : lv 1 = some (.int (iZ 1))) (l2 : lv 2 = some (.int (iZ k))) (k0 : 0 ≤ k) (hmu : k + muT mt ((w, a, e, p, j) :: T) ≤ 500) (hw9 : 0 ≤ wt mt T) (hqU : PQ U nn Y mt E N ((w, a, e, p, j) :: T)) (hfU : pfr S U) (hm : 0 < n), w_T sc d 152 44 lv [] U Q) := by
  intro n
  induction n with
  | zero => exact fun k U lv l0 l1 l2 k0 hmu hw9 hqU hfU hm => absurd hm (Nat.not_lt_zero _)
  | succ n ih =>
    intro k U lv l0 l1 l2 k0 hmu hw9 hqU hfU hm
    have n0 := hqU.1.1.2.1
    have n1 := hqU.1.1.2.2.1
    have hg := hqU.1.1.2.2.2.2.1
    have hM := hqU.1.2.1
    have hlE := hqU.2.1.2.1
    have hlN := hqU.2.2.1.2.1
    have hlT := hqU.2.2.2.2.1
    have hY0 := hqU.1.1.2.2.2.2.2
    have hcm := hqU.1.2.2.2
    have htl : sv U 249 67 = (T.length : Int) + 1 := by rw [hqU.2.2.2.1, List.length_cons]; omega
    have htk := hqU.2.2.2.2.2
    have hb0 := (bd_w (show ¬ w = 1 by omega)).1 hb
    have hmu9 : muT mt ((w, a, e, p, j) :: T) = 2 * wt mt ((w, a, e, p, j) :: T) + ((T.length + 1 : Nat) : Int) := rfl
    rw [wt_w (show ¬ w = 1 by omega)] at hmu9
    refine w_iload_n rfl l2 rfl ?_
    refine w_sipush rfl (by decide) rfl ?_
    refine w_ic_ge (pc2 := 222) (pc3 := 51) rfl (by decide) rfl ⟨by omega, by omega⟩ ⟨by decide, by decide⟩ (fun c48 => ?_) (fun c48 => ?_)
    · exfalso; omega
    · skip
      refine w_iload_n rfl l1 rfl ?_
      refine w_if_eq (pc2 := 222) (pc3 := 55) rfl (by decide) rfl ⟨by decide, by decide⟩ (fun hc => absurd hc (by decide)) (fun _ => ?_)
      refine w_aload_n rfl l0 rfl ?_
      refine w_getI (z := (T.length : Int) + 1) rfl rfl sh_249 rfl htl rfl ?_
      refine w_if_le (pc2 := 222) (pc3 := 62) rfl (by decide) rfl ⟨by omega, by omega⟩ (fun c59 => ?_) (fun c59 => ?_)
      · exfalso; omega
      · skip
        refine w_aload_n rfl l0 rfl ?_
        refine w_dup rfl rfl rfl ?_
        refine w_getI (z := (T.length : Int) + 1) rfl rfl sh_249 rfl htl rfl ?_
        refine w_iconst rfl rfl ?_
        refine w_isub rfl rfl ?_
        rw [show (T.length : Int) + 1 - 1 = (T.length : Int) by omega]
        refine w_putf rfl rfl sh_249 rfl rfl (by decide) rfl ?_
        refine w_aload_n rfl l0 rfl ?_
        refine w_getR rfl rfl sh_249 rfl rfl ?_
        refine w_aload_n rfl l0 rfl ?_
        refine w_getI (z := (T.length : Int)) rfl rfl sh_249 rfl (rv_self _ _ _ _) rfl ?_
        refine w_iald (z := w) rfl sh_296 (by omega) (by omega) (by decide) htk.1 rfl ?_
        refine w_istore_n rfl (by decide) rfl ?_
        refine w_aload_n rfl l0 rfl ?_
        refine w_getR rfl rfl sh_249 rfl rfl ?_
        refine w_aload_n rfl l0 rfl ?_
        refine w_getI (z := (T.length : Int)) rfl rfl sh_249 rfl (rv_self _ _ _ _) rfl ?_
        refine w_iald (z := a) rfl sh_297 (by omega) (by omega) (by decide) htk.2.1 rfl ?_
        refine w_istore rfl (by decide) rfl ?_
        refine w_aload_n rfl l0 rfl ?_
        refine w_getR rfl rfl sh_249 rfl rfl ?_
        refine w_aload_n rfl l0 rfl ?_
        refine w_getI (z := (T.length : Int)) rfl rfl sh_249 rfl (rv_self _ _ _ _) rfl ?_
        refine w_iald (z := e) rfl sh_298 (by omega) (by omega) (by decide) htk.2.2.1 rfl ?_
        refine w_istore rfl (by decide) rfl ?_
        refine w_aload_n rfl l0 rfl ?_
        refine w_getR rfl rfl sh_249 rfl rfl ?_
        refine w_aload_n rfl l0 rfl ?_
        refine w_getI (z := (T.length : Int)) rfl rfl sh_249 rfl (rv_self _ _ _ _) rfl ?_
        refine w_iald (z := p) rfl sh_299 (by omega) (by omega) (by decide) htk.2.2.2.1 rfl ?_
        refine w_istore rfl (by decide) rfl ?_
        refine w_aload_n rfl l0 rfl ?_
        refine w_getR rfl rfl sh_249 rfl rfl ?_
        refine w_aload_n rfl l0 rfl ?_
        refine w_getI (z := (T.length : Int)) rfl rfl sh_249 rfl (rv_self _ _ _ _) rfl ?_
        refine w_iald (z := j) rfl sh_300 (by omega) (by omega) (by decide) htk.2.2.2.2.1 rfl ?_
        refine w_istore rfl (by decide) rfl ?_
        have hpp := PQ_pop hqU
        have hq1 := hpp.2
        have f1 := pfr_trans hfU hpp.1
        clear hpp
        generalize (w_v U 249 67 ((T.length : Int))) = Z1 at hq1 f1 ⊢
        refine w_iload_n rfl rfl rfl ?_
        refine w_if_ne (pc2 := 146) (pc3 := 130) rfl (by decide) rfl ⟨by omega, by omega⟩ (fun c127 => ?_) (fun c127 => ?_)
        · skip
          refine w_iload_n rfl rfl rfl ?_
          refine w_iconst rfl rfl ?_
          refine w_ic_ne (pc2 := 183) (pc3 := 151) rfl (by decide) rfl ⟨by omega, by omega⟩ ⟨by decide, by decide⟩ (fun c148 => ?_) (fun c148 => ?_)
          · skip
            refine w_iload_n rfl rfl rfl ?_
            refine w_iconst rfl rfl ?_
            refine w_ic_ne (pc2 := 202) (pc3 := 188) rfl (by decide) rfl ⟨by omega, by omega⟩ ⟨by decide, by decide⟩ (fun c185 => ?_) (fun c185 => ?_)
            · skip
              refine w_aload_n rfl l0 rfl ?_
              refine w_iload_n rfl rfl rfl ?_
              refine w_iload rfl rfl rfl ?_
              refine w_iload rfl rfl rfl ?_
              refine w_iload rfl rfl rfl ?_
              refine w_iload rfl rfl rfl ?_
              rcases e212 : dst Y mt w a e p j N E with _ | q212
              · skip
                refine w_CV (as := [.int (iZ w), .int (iZ a), .int (iZ e), .int (iZ p), .int (iZ j)]) (r := []) rfl rfl rfl rfl sh_249 (Nat.le_of_ble_eq_true rfl) (Nat.le_of_ble_eq_true rfl) (by omega) rfl (w_mono (r_decl (w := w) (a := a) (e := e) (p := p) (j := j) hq1 hB w2 w4 a0 ae en hra p0 p1 j1 j2 jo (by omega) (by omega) hE9 rfl rfl (by omega)) (fun v S2 h => (⟨h.2.1 e212, h.1⟩ : v = some (.int (iZ 0)) ∧ pfr _ S2))) ?_
                rintro _ Z2 ⟨rfl, g2⟩
                show w_T _ _ 152 215 _ [.int (iZ 0)] _ _
                have f2 := pfr_trans f1 g2
                refine w_istore_n rfl (by decide) rfl ?_
                exact r_k0_c (hF (hN e212)) (by omega) 1 k _ _ (by exact (congrArg x_k2 l0)) (by exact rfl) (by exact (congrArg x_k2 l2)) k0 (by omega) f2 (by omega)
              · skip
                refine w_CV (as := [.int (iZ w), .int (iZ a), .int (iZ e), .int (iZ p), .int (iZ j)]) (r := []) rfl rfl rfl rfl sh_249 (Nat.le_of_ble_eq_true rfl) (Nat.le_of_ble_eq_true rfl) (by omega) rfl (w_mono (r_decl (w := w) (a := a) (e := e) (p := p) (j := j) hq1 hB w2 w4 a0 ae en hra p0 p1 j1 j2 jo (by omega) (by omega) hE9 rfl rfl (by omega)) (fun v S2 h => (⟨(h.2.2 _ e212).1, h.1, (h.2.2 _ e212).2⟩ : v = some (.int (iZ 1)) ∧ pfr _ S2 ∧ PQ S2 nn Y mt q212.2.2 q212.2.1 (q212.1 ++ T)))) ?_
                rintro _ Z3 ⟨rfl, g3, hq3⟩
                show w_T _ _ 152 215 _ [.int (iZ 1)] _ _
                have f3 := pfr_trans f1 g3
                refine w_istore_n rfl (by decide) rfl ?_
                have h9 := hs q212 e212
                exact r_k1_c h9.2 (by omega) 1 k _ _ (by exact (congrArg x_k2 l0)) (by exact rfl) (by exact (congrArg x_k2 l2)) k0 (by omega) (by exact hq3) f3 (by omega)
            · exfalso; omega
          · exfalso; omega
        · exfalso; omega
