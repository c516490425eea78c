/-! The reference takes a directive, skipping or not. -/
theorem grp_len {t : List Tok} {a b : Int} (h : a ≤ b) : ((grp t a b).length : Int) = b - a := by
  unfold grp
  rw [grN_len]
  omega
theorem grN_gw {t : List Tok} (h : ∀ j : Int, 0 ≤ j → j < t.length → gw (tx t j)) : ∀ (n : Nat) (i : Int), 0 ≤ i → i + n ≤ t.length → lgw (grN t n i)
  | 0, _, _, _ => fun x hx => absurd hx (by show ¬ x ∈ ([] : List ETok); simp)
  | n + 1, i, h0, h1 => fun x hx => by
    rcases List.mem_cons.mp hx with z | z
    · rw [z]
      exact h i h0 (by omega)
    · exact grN_gw h n (i + 1) (by omega) (by omega) x z
def kR (F : Int → (Int → Int) × Int) (K : Tlr) : Int := if ¬ K.1 = 0 then K.1 else if K.2.2.2.2.2 < 0 then 0 else (psc F K.2.2.2.2.2).1
def kF (F : Int → (Int → Int) × Int) (K : Tlr) (rest : List Frm) : List Frm := if K.2.2.2.2.2 < 0 then K.2.1 :: rest else newf (psc F K.2.2.2.2.2).2 :: K.2.1 :: rest
def D4q (S : w_S) (F : Int → (Int → Int) × Int) (ic : Int) (rest : List Frm) (G : List ETok) (K : Tlr) (v : Option Value) (S2 : w_S) : Prop := v = some (.int (iZ (kR F K))) ∧ rfr S S2 ∧ (∃ sg, rtab S2 sg K.2.2.1) ∧ sv S2 249 23 = K.2.2.2.1 ∧ (kR F K = 0 → RQ S2 F K.2.2.1 K.2.2.2.1 K.2.2.2.2.1 (if K.2.2.2.2.2 < 0 then ic else ic + 1) G K.2.1.2.2.2.2 (kF F K rest))
theorem kR_e {F : Int → (Int → Int) × Int} {c : Int} {f : Frm} {T : List Mac} {r : Int} {ol : List OTok} : kR F (c, f, T, r, ol, -1) = c := by
  unfold kR
  by_cases h : c = 0
  · rw [if_neg (not_not_intro h), if_pos (show ((-1 : Int)) < 0 by decide), h]
  · rw [if_pos h]
section DIR
variable {S V : w_S} {F : Int → (Int → Int) × Int} {T : List Mac} {r ic dp e y : Int} {ol : List OTok} {t : List Tok} {cs : List Cnd} {rest : List Frm} {G : List ETok}
theorem XP_fr (h : RQ S F T r ol ic G dp ((t, e, y, cs, dp) :: rest)) {v : Option Value} (hx : XPp S T r G ol v V) : rfr S V ∧ (∃ sg, rtab V sg T) ∧ sv V 249 23 = (xg T r ol G).2.1 := by
  obtain ⟨q1, q2, q3, q4, q5, q6, q7, q8, q9, ⟨sg, q10⟩, q11⟩ := h
  obtain ⟨x1, x2, x3, x4, x5, x6⟩ := hx
  exact ⟨⟨fr_mono x2 (fun a h => by unfold RFN; omega), fun k hk => x3 k (fun z => hk (by unfold RSL; omega))⟩, ⟨sg, rtab_fr q10 x2 (fun a a0 a1 => by omega)⟩, x5⟩
theorem RQ_xp (h6 : t.length ≤ 160) (h6r : foks rest) (h : RQ S F T r ol ic G dp ((t, e, y, cs, dp) :: rest)) {v : Option Value} (hx : XPp S T r G ol v V) (hz : (xg T r ol G).1 = 0) : RQ V F T (xg T r ol G).2.1 (xg T r ol G).2.2 ic [] dp ((t, e, y, cs, dp) :: rest) := by
  have h66 : ∀ f, f ∈ ((t, e, y, cs, dp) :: rest) → f.1.length ≤ 160 := fun f hf => by
    rcases List.mem_cons.1 hf with z | z
    · rw [z]; exact h6
    · exact foks_6 h6r f z
  have h2 := XP_fr h hx
  obtain ⟨q1, q2, q3, q4, q5, q6, q7, q8, q9, ⟨sg, q10⟩, q11⟩ := h
  obtain ⟨x1, x2, x3, x4, x5, x6⟩ := hx
  have x7 := x6 hz
  exact ⟨rfs_fr h66 q1 x2 (fun a a0 a1 => by omega), by rw [x3 12 (by omega)]; exact q2, by rw [x3 13 (by omega)]; exact q3, by rw [x3 16 (by omega)]; exact q4, by rw [x3 17 (by omega)]; exact q5, ⟨trivial, x4⟩, x5, x7.1, x7.2, h2.2.1, RT_fr q11 x2 (by omega)⟩
theorem d4_of {K : Tlr} {O : Obr} {v : Option Value} {S2 : w_S} {r2 : Int} {ol2 : List OTok} (hSV : rfr S V) (hK : K = (O.1, (t, e, e, O.2.2.1, dp), O.2.1, r2, ol2, O.2.2.2)) (h : D3q V F r2 ol2 ic dp t e rest O v S2) : D4q S F ic rest [] K v S2 := by
  subst hK
  exact ⟨h.1, rfr_trans hSV h.2.1, h.2.2.1, h.2.2.2.1, h.2.2.2.2⟩
end DIR
theorem r_dir2_c {sc : x_S} {d : Nat} {S : w_S} {F : Int → (Int → Int) × Int} {T : List Mac} {r ic dp e y nx gr b : Int} {ol : List OTok} {t : List Tok} {cs : List Cnd} {rest : List Frm} {x : Int64} {op tu : Bool} (hF : Fok F) (hT : TOK T) (hg : tgd t) (hrs : foks rest) (h4 : rest.length < 4) (h18 : cs.length < 18) (i0 : 0 ≤ ic) (i10 : ic ≤ 10) (r0 : 0 ≤ r) (r1 : r ≤ 30) (o1 : ol.length ≤ 100) (hq : RQ S F T r ol ic (grp t gr nx) dp ((t, e, y, cs, dp) :: rest)) (hb : b = 161 * (rest.length : Int)) (g0 : 0 ≤ gr) (g1 : gr ≤ nx) (hnx : nx < t.length) (he : e = lnE t nx) (h35 : tx t nx = 35) (hsg : skp cs = true → gr = nx) (hxa : nx + 1 < e → x = tx t (nx + 1)) (hop : op = decide (x = 28401283814 ∨ x = 3635385283302)) (htu : tu = decide (x = 213596645 ∨ x = 27344319718)) (hks : ¬ (skp cs = true ∧ (lvs (tx t) nx e dp).1 = false)) (hd : 30 ≤ d) : ∀ n : Nat, (∀  (lv : x_L) (l0 : lv 0 = some (.ref 249)) (l1 : lv 1 = some (.int (iZ (b + (nx + 1))))) (l2 : lv 2 = some (.int (iZ (b + e)))) (l3 : lv 3 = some (.long x)) (l5 : lv 5 = some (.int (iZ (zB op)))) (l6 : lv 6 = some (.int (iZ (zB tu))))  (hm : 0 < n), w_T sc d 130 129 lv [] S (D4q S F ic rest [] (tkl T r ol t nx gr cs dp rest.length ic))) := by
  intro n
  induction n with
  | zero => exact fun lv l0 l1 l2 l3 l5 l6 hm => absurd hm (Nat.not_lt_zero _)
  | succ n ih =>
    intro lv l0 l1 l2 l3 l5 l6 hm
    have hle := lnE_r (t := t) (i := nx) (by omega) hnx
    have hnl : nx < e := by omega
    have het : e ≤ t.length := by omega
    have h160 : t.length ≤ 160 := hg.2.1
    obtain ⟨sg, hsgt⟩ := hq.2.2.2.2.2.2.2.2.2.1
    have hb3 : 0 ≤ b ∧ b ≤ 483 := by omega
    have eK : (tkl T r ol t nx gr cs dp rest.length ic) = if ¬ (xg T r ol (grp t gr nx)).1 = 0 then ((xg T r ol (grp t gr nx)).1, (t, e, e, cs, dp), T, (xg T r ol (grp t gr nx)).2.1, ol, -1) else ((ob T t cs (nx + 1) e rest.length ic).1, (t, e, e, (ob T t cs (nx + 1) e rest.length ic).2.2.1, dp), (ob T t cs (nx + 1) e rest.length ic).2.1, (xg T r ol (grp t gr nx)).2.1, (xg T r ol (grp t gr nx)).2.2, (ob T t cs (nx + 1) e rest.length ic).2.2.2) := by
      unfold tkl
      rw [← he, if_neg hks, if_neg (not_not_intro h35)]
    refine w_aload_n rfl l0 rfl ?_
    refine w_CV (as := []) (r := []) rfl rfl rfl rfl sh_249 (Nat.le_of_ble_eq_true rfl) (Nat.le_of_ble_eq_true rfl) (by omega) rfl (w_mono (r_xp (S := S) (sg := sg) (T := T) (r := r) (G := grp t gr nx) (ol := ol) hT.1 hsgt (fun k k0 k1 => (hT.2.2 k k0 k1).2) hq.2.2.2.2.2.1.1 hq.2.2.2.2.2.1.2 (by have := grp_len (t := t) g1; omega) (grN_ok hg.1 _ _ g0 (by omega)) (grN_gw hg.2.2.2 _ _ g0 (by omega)) hq.2.2.2.2.2.2.1 r0 r1 hq.2.2.2.2.2.2.2.1 o1 hq.2.2.2.2.2.2.2.2.1 (by omega)) (fun v S2 h => (⟨h.1, h⟩ : v = some (.int (iZ (xg T r ol (grp t gr nx)).1)) ∧ XPp S T r (grp t gr nx) ol v S2))) ?_
    rintro _ V ⟨rfl, hrd⟩
    show w_T _ _ 130 133 _ [.int (iZ ((xg T r ol (grp t gr nx)).1))] _ _
    refine w_istore rfl (by decide) rfl ?_
    refine w_iload rfl rfl rfl ?_
    have hxr := xg_R hT r (grp t gr nx) ol r1
    refine w_if_ne (pc2 := 145) (pc3 := 140) rfl (by decide) rfl ⟨by omega, by omega⟩ (fun c137 => ?_) (fun c137 => ?_)
    · skip
      refine w_iload rfl rfl rfl ?_
      refine w_iret rfl rfl ?_
      have hxf := XP_fr hq hrd
      rw [eK]
      by_cases cz : (xg T r ol (grp t gr nx)).1 = 0
      · rw [if_neg (not_not_intro cz), cz]
        have hrq := RQ_xp h160 hrs hq hrd cz
        have e9 : ob T t cs (nx + 1) e rest.length ic = (0, T, cs, -1) := by
          unfold ob
          rw [if_pos (by omega)]
        rw [e9]
        refine ⟨by rw [kR_e], hxf.1, hxf.2.1, hxf.2.2, fun _ => ?_⟩
        unfold kF
        rw [if_pos (show ((-1 : Int)) < 0 by decide), if_pos (show ((-1 : Int)) < 0 by decide)]
        exact hrq
      · rw [if_pos cz]
        refine ⟨by rw [kR_e], hxf.1, hxf.2.1, hxf.2.2, fun z => ?_⟩
        rw [kR_e] at z
        exact absurd z cz
    · skip
      refine w_iload_n rfl l1 rfl ?_
      refine w_iload_n rfl l2 rfl ?_
      refine w_ic_ne (pc2 := 148) (pc3 := 145) rfl (by decide) rfl ⟨by omega, by omega⟩ ⟨by omega, by omega⟩ (fun c142 => ?_) (fun c142 => ?_)
      · skip
        have hrq := RQ_xp h160 hrs hq hrd c137
        refine w_mono ((r_dir3_c (T := T) (r := (xg T r ol (grp t gr nx)).2.1) (ol := (xg T r ol (grp t gr nx)).2.2) (a := nx + 1) (e := e) (b := b) (x := x) hF hT hg hrs h4 h18 i0 i10 hrq hb (by omega) (by omega) het (hxa (by omega)) hop htu (by omega) 3).1 _ (by exact l0) (by exact l1) (by exact l2) (by exact l3) (by exact l5) (by exact (congrArg x_k2 l6)) (by decide)) (fun v S2 hv => ?_)
        rw [eK, if_neg (not_not_intro c137)]
        exact d4_of (XP_fr hq hrd).1 rfl hv
      · skip
        refine w_iload rfl rfl rfl ?_
        refine w_iret rfl rfl ?_
        have hxf := XP_fr hq hrd
        rw [eK]
        by_cases cz : (xg T r ol (grp t gr nx)).1 = 0
        · rw [if_neg (not_not_intro cz), cz]
          have hrq := RQ_xp h160 hrs hq hrd cz
          have e9 : ob T t cs (nx + 1) e rest.length ic = (0, T, cs, -1) := by
            unfold ob
            rw [if_pos (by omega)]
          rw [e9]
          refine ⟨by rw [kR_e], hxf.1, hxf.2.1, hxf.2.2, fun _ => ?_⟩
          unfold kF
          rw [if_pos (show ((-1 : Int)) < 0 by decide), if_pos (show ((-1 : Int)) < 0 by decide)]
          exact hrq
        · rw [if_pos cz]
          refine ⟨by rw [kR_e], hxf.1, hxf.2.1, hxf.2.2, fun z => ?_⟩
          rw [kR_e] at z
          exact absurd z cz
theorem d4_skip {S V : w_S} {F : Int → (Int → Int) × Int} {T : List Mac} {r ic dp e y nx gr D : Int} {ol : List OTok} {t : List Tok} {cs : List Cnd} {rest : List Frm} (hg : tgd t) (hrs : foks rest) (hq : RQ S F T r ol ic (grp t gr nx) dp ((t, e, y, cs, dp) :: rest)) (g1 : gr ≤ nx) (he : e = lnE t nx) (hgn : gr = nx) (hk : skp cs = true) (k1 : lvs (tx t) nx e dp = (false, D)) (k2 : sv V 249 17 = D) (k3 : fr (fun a => a = 249) S V) (k4 : ∀ k, ¬ k = 17 → sv V 249 k = sv S 249 k) : D4q S F ic rest [] (tkl T r ol t nx gr cs dp rest.length ic) (some (.int (iZ 0))) V := by
  have h66 : ∀ f, f ∈ ((t, e, y, cs, dp) :: rest) → f.1.length ≤ 160 := fun f hf => by
    rcases List.mem_cons.1 hf with z | z
    · rw [z]; exact hg.2.1
    · exact foks_6 hrs f z
  have eK : tkl T r ol t nx gr cs dp rest.length ic = (0, (t, e, e, cs, D), T, r, ol, -1) := by
    unfold tkl
    rw [← he, if_pos ⟨hk, by rw [k1]⟩, k1]
  rw [eK]
  obtain ⟨q1, q2, q3, q4, q5, q6, q7, q8, q9, ⟨sg, q10⟩, q11⟩ := hq
  have ht : ∃ sg, rtab V sg T := ⟨sg, rtab_fr q10 k3 (fun a a0 a1 => by omega)⟩
  refine ⟨by rw [kR_e], ⟨fr_mono k3 (fun a h => Or.inl h), fun k hk => k4 k (fun z => hk (by unfold RSL; omega))⟩, ht, by rw [k4 23 (by decide)]; exact q7, fun _ => ?_⟩
  unfold kF
  rw [if_pos (show ((-1 : Int)) < 0 by decide), if_pos (show ((-1 : Int)) < 0 by decide)]
  have e26 : ((grp t gr nx).length : Int) = 0 := by rw [grp_len g1]; omega
  have q1' := rfs_fr h66 q1 k3 (fun a a0 a1 => by omega)
  exact ⟨q1', by rw [k4 12 (by decide)]; exact q2, by rw [k4 13 (by decide)]; exact q3, by rw [k4 16 (by decide)]; exact q4, k2, ⟨trivial, by rw [k4 26 (by decide), q6.2]; exact e26⟩, by rw [k4 23 (by decide)]; exact q7, by rw [k4 49 (by decide)]; exact q8, by rw [fr_gL k3 (by decide), fr_gA k3 (by decide)]; exact q9, ht, RT_fr q11 k3 (by decide)⟩
theorem r_dir_c {sc : x_S} {d : Nat} {S : w_S} {F : Int → (Int → Int) × Int} {T : List Mac} {r ic dp e y nx gr b : Int} {ol : List OTok} {t : List Tok} {cs : List Cnd} {rest : List Frm} (hF : Fok F) (hT : TOK T) (hg : tgd t) (hrs : foks rest) (h4 : rest.length < 4) (h18 : cs.length < 18) (i0 : 0 ≤ ic) (i10 : ic ≤ 10) (r0 : 0 ≤ r) (r1 : r ≤ 30) (o1 : ol.length ≤ 100) (hq : RQ S F T r ol ic (grp t gr nx) dp ((t, e, y, cs, dp) :: rest)) (hb : b = 161 * (rest.length : Int)) (g0 : 0 ≤ gr) (g1 : gr ≤ nx) (hnx : nx < t.length) (he : e = lnE t nx) (h35 : tx t nx = 35) (hsg : skp cs = true → gr = nx) (d0 : 0 ≤ dp) (d1 : dp ≤ 180) (hd : 40 ≤ d) : ∀ n : Nat, (∀ (x : Int64) (lv : x_L) (l0 : lv 0 = some (.ref 249)) (l1 : lv 1 = some (.int (iZ (b + (nx + 1))))) (l2 : lv 2 = some (.int (iZ (b + e)))) (l3 : lv 3 = some (.long x)) (hx : (nx + 1 < e ∧ x = tx t (nx + 1)) ∨ (e = nx + 1 ∧ x = 0)) (hm : 2 < n), w_T sc d 130 16 lv [] S (D4q S F ic rest [] (tkl T r ol t nx gr cs dp rest.length ic))) ∧ (∀ (x : Int64) (op : Bool) (tu : Bool) (lv : x_L) (l0 : lv 0 = some (.ref 249)) (l1 : lv 1 = some (.int (iZ (b + (nx + 1))))) (l2 : lv 2 = some (.int (iZ (b + e)))) (l3 : lv 3 = some (.long x)) (l5 : lv 5 = some (.int (iZ (zB op)))) (l6 : lv 6 = some (.int (iZ (zB tu)))) (hx : (nx + 1 < e ∧ x = tx t (nx + 1)) ∨ (e = nx + 1 ∧ x = 0)) (hop : op = decide (x = 28401283814 ∨ x = 3635385283302)) (htu : tu = decide (x = 213596645 ∨ x = 27344319718)) (hm : 1 < n), w_T sc d 130 62 lv [] S (D4q S F ic rest [] (tkl T r ol t nx gr cs dp rest.length ic))) := by
  intro n
  induction n with
  | zero => exact ⟨fun x lv l0 l1 l2 l3 hx hm => absurd hm (Nat.not_lt_zero _), fun x op tu lv l0 l1 l2 l3 l5 l6 hx hop htu hm => absurd hm (Nat.not_lt_zero _)⟩
  | succ n ih =>
    refine ⟨?_, ?_⟩
    · skip
      intro x lv l0 l1 l2 l3 hx hm
      have hle := lnE_r (t := t) (i := nx) (by omega) hnx
      have hnl : nx < e := by omega
      have het : e ≤ t.length := by omega
      have h160 : t.length ≤ 160 := hg.2.1
      refine w_lload_n rfl l3 rfl ?_
      refine w_ldc2 (v := 28401283814) rfl rfl rfl ?_
      refine w_l_eq (pc2 := 32) (pc3 := 24) rfl rfl (by decide) rfl (fun c21 => ?_) (fun c21 => ?_)
      · skip
        refine w_iconst rfl rfl ?_
        refine w_goto (pc2 := 37) rfl (by decide) ?_
        refine w_istore rfl (by decide) rfl ?_
        refine w_lload_n rfl l3 rfl ?_
        refine w_ldc2 (v := 213596645) rfl rfl rfl ?_
        refine w_l_eq (pc2 := 55) (pc3 := 47) rfl rfl (by decide) rfl (fun c44 => ?_) (fun c44 => ?_)
        · skip
          refine w_iconst rfl rfl ?_
          refine w_goto (pc2 := 60) rfl (by decide) ?_
          refine w_istore rfl (by decide) rfl ?_
          exact ih.2 x true true _ l0 l1 l2 l3 rfl rfl (by exact hx) (by symm; first | exact decide_eq_true (Or.inl c21) | exact decide_eq_true (Or.inr c29) | exact decide_eq_false (fun z => z.elim c21 c29)) (by symm; first | exact decide_eq_true (Or.inl c44) | exact decide_eq_true (Or.inr c52) | exact decide_eq_false (fun z => z.elim c44 c52)) (by omega)
        · skip
          refine w_lload_n rfl l3 rfl ?_
          refine w_ldc2 (v := 27344319718) rfl rfl rfl ?_
          refine w_l_ne (pc2 := 59) (pc3 := 55) rfl rfl (by decide) rfl (fun c52 => ?_) (fun c52 => ?_)
          · skip
            refine w_iconst rfl rfl ?_
            refine w_istore rfl (by decide) rfl ?_
            exact ih.2 x true false _ l0 l1 l2 l3 rfl rfl (by exact hx) (by symm; first | exact decide_eq_true (Or.inl c21) | exact decide_eq_true (Or.inr c29) | exact decide_eq_false (fun z => z.elim c21 c29)) (by symm; first | exact decide_eq_true (Or.inl c44) | exact decide_eq_true (Or.inr c52) | exact decide_eq_false (fun z => z.elim c44 c52)) (by omega)
          · skip
            refine w_iconst rfl rfl ?_
            refine w_goto (pc2 := 60) rfl (by decide) ?_
            refine w_istore rfl (by decide) rfl ?_
            exact ih.2 x true true _ l0 l1 l2 l3 rfl rfl (by exact hx) (by symm; first | exact decide_eq_true (Or.inl c21) | exact decide_eq_true (Or.inr c29) | exact decide_eq_false (fun z => z.elim c21 c29)) (by symm; first | exact decide_eq_true (Or.inl c44) | exact decide_eq_true (Or.inr c52) | exact decide_eq_false (fun z => z.elim c44 c52)) (by omega)
      · skip
        refine w_lload_n rfl l3 rfl ?_
        refine w_ldc2 (v := 3635385283302) rfl rfl rfl ?_
        refine w_l_ne (pc2 := 36) (pc3 := 32) rfl rfl (by decide) rfl (fun c29 => ?_) (fun c29 => ?_)
        · skip
          refine w_iconst rfl rfl ?_
          refine w_istore rfl (by decide) rfl ?_
          refine w_lload_n rfl l3 rfl ?_
          refine w_ldc2 (v := 213596645) rfl rfl rfl ?_
          refine w_l_eq (pc2 := 55) (pc3 := 47) rfl rfl (by decide) rfl (fun c44 => ?_) (fun c44 => ?_)
          · skip
            refine w_iconst rfl rfl ?_
            refine w_goto (pc2 := 60) rfl (by decide) ?_
            refine w_istore rfl (by decide) rfl ?_
            exact ih.2 x false true _ l0 l1 l2 l3 rfl rfl (by exact hx) (by symm; first | exact decide_eq_true (Or.inl c21) | exact decide_eq_true (Or.inr c29) | exact decide_eq_false (fun z => z.elim c21 c29)) (by symm; first | exact decide_eq_true (Or.inl c44) | exact decide_eq_true (Or.inr c52) | exact decide_eq_false (fun z => z.elim c44 c52)) (by omega)
          · skip
            refine w_lload_n rfl l3 rfl ?_
            refine w_ldc2 (v := 27344319718) rfl rfl rfl ?_
            refine w_l_ne (pc2 := 59) (pc3 := 55) rfl rfl (by decide) rfl (fun c52 => ?_) (fun c52 => ?_)
            · skip
              refine w_iconst rfl rfl ?_
              refine w_istore rfl (by decide) rfl ?_
              exact ih.2 x false false _ l0 l1 l2 l3 rfl rfl (by exact hx) (by symm; first | exact decide_eq_true (Or.inl c21) | exact decide_eq_true (Or.inr c29) | exact decide_eq_false (fun z => z.elim c21 c29)) (by symm; first | exact decide_eq_true (Or.inl c44) | exact decide_eq_true (Or.inr c52) | exact decide_eq_false (fun z => z.elim c44 c52)) (by omega)
            · skip
              refine w_iconst rfl rfl ?_
              refine w_goto (pc2 := 60) rfl (by decide) ?_
              refine w_istore rfl (by decide) rfl ?_
              exact ih.2 x false true _ l0 l1 l2 l3 rfl rfl (by exact hx) (by symm; first | exact decide_eq_true (Or.inl c21) | exact decide_eq_true (Or.inr c29) | exact decide_eq_false (fun z => z.elim c21 c29)) (by symm; first | exact decide_eq_true (Or.inl c44) | exact decide_eq_true (Or.inr c52) | exact decide_eq_false (fun z => z.elim c44 c52)) (by omega)
        · skip
          refine w_iconst rfl rfl ?_
          refine w_goto (pc2 := 37) rfl (by decide) ?_
          refine w_istore rfl (by decide) rfl ?_
          refine w_lload_n rfl l3 rfl ?_
          refine w_ldc2 (v := 213596645) rfl rfl rfl ?_
          refine w_l_eq (pc2 := 55) (pc3 := 47) rfl rfl (by decide) rfl (fun c44 => ?_) (fun c44 => ?_)
          · skip
            refine w_iconst rfl rfl ?_
            refine w_goto (pc2 := 60) rfl (by decide) ?_
            refine w_istore rfl (by decide) rfl ?_
            exact ih.2 x true true _ l0 l1 l2 l3 rfl rfl (by exact hx) (by symm; first | exact decide_eq_true (Or.inl c21) | exact decide_eq_true (Or.inr c29) | exact decide_eq_false (fun z => z.elim c21 c29)) (by symm; first | exact decide_eq_true (Or.inl c44) | exact decide_eq_true (Or.inr c52) | exact decide_eq_false (fun z => z.elim c44 c52)) (by omega)
          · skip
            refine w_lload_n rfl l3 rfl ?_
            refine w_ldc2 (v := 27344319718) rfl rfl rfl ?_
            refine w_l_ne (pc2 := 59) (pc3 := 55) rfl rfl (by decide) rfl (fun c52 => ?_) (fun c52 => ?_)
            · skip
              refine w_iconst rfl rfl ?_
              refine w_istore rfl (by decide) rfl ?_
              exact ih.2 x true false _ l0 l1 l2 l3 rfl rfl (by exact hx) (by symm; first | exact decide_eq_true (Or.inl c21) | exact decide_eq_true (Or.inr c29) | exact decide_eq_false (fun z => z.elim c21 c29)) (by symm; first | exact decide_eq_true (Or.inl c44) | exact decide_eq_true (Or.inr c52) | exact decide_eq_false (fun z => z.elim c44 c52)) (by omega)
            · skip
              refine w_iconst rfl rfl ?_
              refine w_goto (pc2 := 60) rfl (by decide) ?_
              refine w_istore rfl (by decide) rfl ?_
              exact ih.2 x true true _ l0 l1 l2 l3 rfl rfl (by exact hx) (by symm; first | exact decide_eq_true (Or.inl c21) | exact decide_eq_true (Or.inr c29) | exact decide_eq_false (fun z => z.elim c21 c29)) (by symm; first | exact decide_eq_true (Or.inl c44) | exact decide_eq_true (Or.inr c52) | exact decide_eq_false (fun z => z.elim c44 c52)) (by omega)
    · skip
      intro x op tu lv l0 l1 l2 l3 l5 l6 hx hop htu hm
      have hle := lnE_r (t := t) (i := nx) (by omega) hnx
      have hnl : nx < e := by omega
      have het : e ≤ t.length := by omega
      have h160 : t.length ≤ 160 := hg.2.1
      have h12 : sv S 249 12 = rest.length := by
        have := hq.2.1
        rw [List.length_cons] at this
        omega
      have hlv : lvs (tx t) nx e dp = if nx + 1 = e then (false, dp) else if x = 28401283814 ∨ x = 3635385283302 then (false, dp + 1) else if 0 < dp then (false, dp - (if x = 27344319718 then 1 else 0)) else (decide (x = 27344319718 ∨ x = 213596645), dp) := by
        unfold lvs
        rcases hx with hx | hx
        · rw [if_neg (by rintro (z | z); exact z h35; omega), if_neg (show ¬ nx + 1 = e by omega), hx.2]
        · rw [if_pos (Or.inr (by omega)), if_pos (by omega)]
      refine w_aload_n rfl l0 rfl ?_
      refine w_CV (as := []) (r := []) rfl rfl rfl rfl sh_249 (Nat.le_of_ble_eq_true rfl) (Nat.le_of_ble_eq_true rfl) (by omega) rfl (r_skp (lv := rest.length) (o := osum rest) (cs := cs) (by omega) (by omega) (osum_n rest) (by have := osum_17 rest hrs; omega) h12 hq.1.1.2.2.2.1 hq.2.2.2.1 hq.1.1.2.2.2.2 (by omega)) ?_
      rintro _ _ ⟨rfl, hS⟩
      rw [hS]
      show w_T _ _ 130 66 _ [.int (iZ (zB (skp cs)))] _ _
      refine w_b_eq (pc2 := 129) (pc3 := 69) rfl (by decide) rfl (fun c66 => ?_) (fun c66 => ?_)
      · skip
        refine r_dir2_c (b := b) (x := x) hF hT hg hrs h4 h18 i0 i10 r0 r1 o1 hq hb g0 g1 hnx he h35 hsg (fun z => by rcases hx with hx | hx; exact hx.2; omega) hop htu ?_ (by omega) 1 _ (by exact l0) (by exact l1) (by exact l2) (by exact l3) (by exact l5) (by exact l6) (by decide)
        rintro ⟨k1, k2⟩
        first
          | (rw [k1] at c66; exact Bool.noConfusion c66)
          | (rw [htu] at c78
             have k3 := of_decide_eq_true c78
             rw [hlv] at k2
             rw [if_neg (by rcases hx with hx | hx; (omega); (rw [hx.2] at k3; exact absurd k3 (by decide))), if_neg (by rcases k3 with z | z <;> rw [z] <;> decide), if_neg (by omega)] at k2
             rw [decide_eq_true k3.symm] at k2
             exact Bool.noConfusion (show true = false from k2))
      · skip
        refine w_aload_n rfl l0 rfl ?_
        refine w_getI (z := dp) rfl rfl sh_249 rfl hq.2.2.2.2.1 rfl ?_
        refine w_if_gt (pc2 := 81) (pc3 := 76) rfl (by decide) rfl ⟨by omega, by omega⟩ (fun c73 => ?_) (fun c73 => ?_)
        · skip
          refine w_aload_n rfl l0 rfl ?_
          refine w_iload rfl l5 rfl ?_
          refine w_b_eq (pc2 := 96) (pc3 := 87) rfl (by decide) rfl (fun c84 => ?_) (fun c84 => ?_)
          · skip
            refine w_lload_n rfl l3 rfl ?_
            refine w_ldc2 (v := 27344319718) rfl rfl rfl ?_
            refine w_l_ne (pc2 := 120) (pc3 := 104) rfl rfl (by decide) rfl (fun c101 => ?_) (fun c101 => ?_)
            · skip
              refine w_aload_n rfl l0 rfl ?_
              refine w_getI (z := dp) rfl rfl sh_249 rfl hq.2.2.2.2.1 rfl ?_
              refine w_putf rfl rfl sh_249 rfl rfl (by decide) rfl ?_
              refine w_iconst rfl rfl ?_
              refine w_iret rfl rfl ?_
              have hst : ∀ D : Int, (lvs (tx t) nx e dp) = (false, D) → sv (w_v S 249 17 dp) 249 17 = D → fr (fun a => a = 249) S (w_v S 249 17 dp) → (∀ k, ¬ k = 17 → sv (w_v S 249 17 dp) 249 k = sv S 249 k) → D4q S F ic rest [] (tkl T r ol t nx gr cs dp rest.length ic) (some (.int (iZ 0))) (w_v S 249 17 dp) := fun D k1 k2 k3 k4 => d4_skip hg hrs hq g1 he (hsg c66) c66 k1 k2 k3 k4
              refine hst (dp) ?_ (rv_self _ _ _ _) (fr_v (fr_refl _ S) (by rfl)) (fun k hk => by simp (disch := omega) only [rv_self, rv_ne, rl_self, rl_ne, rA_self, rA_ne, rL_self, rL_ne, rR_self, rR_ne, xvl, xvA, xvL, xvR, xlv, xlA, xlL, xlR, xAv, xAl, xAL, xAR, xLv, xLl, xLA, xLR, xRv, xRl, xRA, xRL])
              rw [hlv]
              first
                | (rw [hop] at c84; have k3 := of_decide_eq_true c84; rw [if_neg (by rcases hx with hx | hx; (omega); (rw [hx.2] at k3; exact absurd k3 (by decide))), if_pos k3])
                | (rw [hop] at c84; have k3 := of_decide_eq_false c84; by_cases k4 : nx + 1 = e; (rw [if_pos k4]; rcases hx with hx | hx; (omega); (rw [hx.2] at c101; exact absurd c101 (by decide))); (rw [if_neg k4, if_neg k3, if_pos c108, if_pos c101]))
                | (rw [hop] at c84; have k3 := of_decide_eq_false c84; by_cases k4 : nx + 1 = e; (rw [if_pos k4]); (rw [if_neg k4, if_neg k3, if_pos c73, if_neg c101, Int.sub_zero]))
                | (rw [hop] at c84; have k3 := of_decide_eq_false c84; by_cases k4 : nx + 1 = e; (rw [if_pos k4]); (rw [htu] at c78; have k5 := of_decide_eq_false c78; rw [if_neg k4, if_neg k3, if_neg (by omega), decide_eq_false (fun z => k5 z.symm)]))
                | omega
            · skip
              refine w_aload_n rfl l0 rfl ?_
              refine w_getI (z := dp) rfl rfl sh_249 rfl hq.2.2.2.2.1 rfl ?_
              refine w_if_le (pc2 := 120) (pc3 := 111) rfl (by decide) rfl ⟨by omega, by omega⟩ (fun c108 => ?_) (fun c108 => ?_)
              · skip
                refine w_aload_n rfl l0 rfl ?_
                refine w_getI (z := dp) rfl rfl sh_249 rfl hq.2.2.2.2.1 rfl ?_
                refine w_putf rfl rfl sh_249 rfl rfl (by decide) rfl ?_
                refine w_iconst rfl rfl ?_
                refine w_iret rfl rfl ?_
                have hst : ∀ D : Int, (lvs (tx t) nx e dp) = (false, D) → sv (w_v S 249 17 dp) 249 17 = D → fr (fun a => a = 249) S (w_v S 249 17 dp) → (∀ k, ¬ k = 17 → sv (w_v S 249 17 dp) 249 k = sv S 249 k) → D4q S F ic rest [] (tkl T r ol t nx gr cs dp rest.length ic) (some (.int (iZ 0))) (w_v S 249 17 dp) := fun D k1 k2 k3 k4 => d4_skip hg hrs hq g1 he (hsg c66) c66 k1 k2 k3 k4
                refine hst (dp) ?_ (rv_self _ _ _ _) (fr_v (fr_refl _ S) (by rfl)) (fun k hk => by simp (disch := omega) only [rv_self, rv_ne, rl_self, rl_ne, rA_self, rA_ne, rL_self, rL_ne, rR_self, rR_ne, xvl, xvA, xvL, xvR, xlv, xlA, xlL, xlR, xAv, xAl, xAL, xAR, xLv, xLl, xLA, xLR, xRv, xRl, xRA, xRL])
                rw [hlv]
                first
                  | (rw [hop] at c84; have k3 := of_decide_eq_true c84; rw [if_neg (by rcases hx with hx | hx; (omega); (rw [hx.2] at k3; exact absurd k3 (by decide))), if_pos k3])
                  | (rw [hop] at c84; have k3 := of_decide_eq_false c84; by_cases k4 : nx + 1 = e; (rw [if_pos k4]; rcases hx with hx | hx; (omega); (rw [hx.2] at c101; exact absurd c101 (by decide))); (rw [if_neg k4, if_neg k3, if_pos c108, if_pos c101]))
                  | (rw [hop] at c84; have k3 := of_decide_eq_false c84; by_cases k4 : nx + 1 = e; (rw [if_pos k4]); (rw [if_neg k4, if_neg k3, if_pos c73, if_neg c101, Int.sub_zero]))
                  | (rw [hop] at c84; have k3 := of_decide_eq_false c84; by_cases k4 : nx + 1 = e; (rw [if_pos k4]); (rw [htu] at c78; have k5 := of_decide_eq_false c78; rw [if_neg k4, if_neg k3, if_neg (by omega), decide_eq_false (fun z => k5 z.symm)]))
                  | omega
              · skip
                refine w_aload_n rfl l0 rfl ?_
                refine w_getI (z := dp) rfl rfl sh_249 rfl hq.2.2.2.2.1 rfl ?_
                refine w_iconst rfl rfl ?_
                refine w_isub rfl rfl ?_
                refine w_goto (pc2 := 124) rfl (by decide) ?_
                refine w_putf rfl rfl sh_249 rfl rfl (by decide) rfl ?_
                refine w_iconst rfl rfl ?_
                refine w_iret rfl rfl ?_
                have hst : ∀ D : Int, (lvs (tx t) nx e dp) = (false, D) → sv (w_v S 249 17 (dp - 1)) 249 17 = D → fr (fun a => a = 249) S (w_v S 249 17 (dp - 1)) → (∀ k, ¬ k = 17 → sv (w_v S 249 17 (dp - 1)) 249 k = sv S 249 k) → D4q S F ic rest [] (tkl T r ol t nx gr cs dp rest.length ic) (some (.int (iZ 0))) (w_v S 249 17 (dp - 1)) := fun D k1 k2 k3 k4 => d4_skip hg hrs hq g1 he (hsg c66) c66 k1 k2 k3 k4
                refine hst (dp - 1) ?_ (rv_self _ _ _ _) (fr_v (fr_refl _ S) (by rfl)) (fun k hk => by simp (disch := omega) only [rv_self, rv_ne, rl_self, rl_ne, rA_self, rA_ne, rL_self, rL_ne, rR_self, rR_ne, xvl, xvA, xvL, xvR, xlv, xlA, xlL, xlR, xAv, xAl, xAL, xAR, xLv, xLl, xLA, xLR, xRv, xRl, xRA, xRL])
                rw [hlv]
                first
                  | (rw [hop] at c84; have k3 := of_decide_eq_true c84; rw [if_neg (by rcases hx with hx | hx; (omega); (rw [hx.2] at k3; exact absurd k3 (by decide))), if_pos k3])
                  | (rw [hop] at c84; have k3 := of_decide_eq_false c84; by_cases k4 : nx + 1 = e; (rw [if_pos k4]; rcases hx with hx | hx; (omega); (rw [hx.2] at c101; exact absurd c101 (by decide))); (rw [if_neg k4, if_neg k3, if_pos c108, if_pos c101]))
                  | (rw [hop] at c84; have k3 := of_decide_eq_false c84; by_cases k4 : nx + 1 = e; (rw [if_pos k4]); (rw [if_neg k4, if_neg k3, if_pos c73, if_neg c101, Int.sub_zero]))
                  | (rw [hop] at c84; have k3 := of_decide_eq_false c84; by_cases k4 : nx + 1 = e; (rw [if_pos k4]); (rw [htu] at c78; have k5 := of_decide_eq_false c78; rw [if_neg k4, if_neg k3, if_neg (by omega), decide_eq_false (fun z => k5 z.symm)]))
                  | omega
          · skip
            refine w_aload_n rfl l0 rfl ?_
            refine w_getI (z := dp) rfl rfl sh_249 rfl hq.2.2.2.2.1 rfl ?_
            refine w_iconst rfl rfl ?_
            refine w_iadd rfl rfl ?_
            refine w_goto (pc2 := 124) rfl (by decide) ?_
            refine w_putf rfl rfl sh_249 rfl rfl (by decide) rfl ?_
            refine w_iconst rfl rfl ?_
            refine w_iret rfl rfl ?_
            have hst : ∀ D : Int, (lvs (tx t) nx e dp) = (false, D) → sv (w_v S 249 17 (dp + 1)) 249 17 = D → fr (fun a => a = 249) S (w_v S 249 17 (dp + 1)) → (∀ k, ¬ k = 17 → sv (w_v S 249 17 (dp + 1)) 249 k = sv S 249 k) → D4q S F ic rest [] (tkl T r ol t nx gr cs dp rest.length ic) (some (.int (iZ 0))) (w_v S 249 17 (dp + 1)) := fun D k1 k2 k3 k4 => d4_skip hg hrs hq g1 he (hsg c66) c66 k1 k2 k3 k4
            refine hst (dp + 1) ?_ (rv_self _ _ _ _) (fr_v (fr_refl _ S) (by rfl)) (fun k hk => by simp (disch := omega) only [rv_self, rv_ne, rl_self, rl_ne, rA_self, rA_ne, rL_self, rL_ne, rR_self, rR_ne, xvl, xvA, xvL, xvR, xlv, xlA, xlL, xlR, xAv, xAl, xAL, xAR, xLv, xLl, xLA, xLR, xRv, xRl, xRA, xRL])
            rw [hlv]
            first
              | (rw [hop] at c84; have k3 := of_decide_eq_true c84; rw [if_neg (by rcases hx with hx | hx; (omega); (rw [hx.2] at k3; exact absurd k3 (by decide))), if_pos k3])
              | (rw [hop] at c84; have k3 := of_decide_eq_false c84; by_cases k4 : nx + 1 = e; (rw [if_pos k4]; rcases hx with hx | hx; (omega); (rw [hx.2] at c101; exact absurd c101 (by decide))); (rw [if_neg k4, if_neg k3, if_pos c108, if_pos c101]))
              | (rw [hop] at c84; have k3 := of_decide_eq_false c84; by_cases k4 : nx + 1 = e; (rw [if_pos k4]); (rw [if_neg k4, if_neg k3, if_pos c73, if_neg c101, Int.sub_zero]))
              | (rw [hop] at c84; have k3 := of_decide_eq_false c84; by_cases k4 : nx + 1 = e; (rw [if_pos k4]); (rw [htu] at c78; have k5 := of_decide_eq_false c78; rw [if_neg k4, if_neg k3, if_neg (by omega), decide_eq_false (fun z => k5 z.symm)]))
              | omega
        · skip
          refine w_iload rfl l6 rfl ?_
          refine w_b_ne (pc2 := 129) (pc3 := 81) rfl (by decide) rfl (fun c78 => ?_) (fun c78 => ?_)
          · skip
            refine r_dir2_c (b := b) (x := x) hF hT hg hrs h4 h18 i0 i10 r0 r1 o1 hq hb g0 g1 hnx he h35 hsg (fun z => by rcases hx with hx | hx; exact hx.2; omega) hop htu ?_ (by omega) 1 _ (by exact l0) (by exact l1) (by exact l2) (by exact l3) (by exact l5) (by exact l6) (by decide)
            rintro ⟨k1, k2⟩
            first
              | (rw [k1] at c66; exact Bool.noConfusion c66)
              | (rw [htu] at c78
                 have k3 := of_decide_eq_true c78
                 rw [hlv] at k2
                 rw [if_neg (by rcases hx with hx | hx; (omega); (rw [hx.2] at k3; exact absurd k3 (by decide))), if_neg (by rcases k3 with z | z <;> rw [z] <;> decide), if_neg (by omega)] at k2
                 rw [decide_eq_true k3.symm] at k2
                 exact Bool.noConfusion (show true = false from k2))
          · skip
            refine w_aload_n rfl l0 rfl ?_
            refine w_iload rfl l5 rfl ?_
            refine w_b_eq (pc2 := 96) (pc3 := 87) rfl (by decide) rfl (fun c84 => ?_) (fun c84 => ?_)
            · skip
              refine w_lload_n rfl l3 rfl ?_
              refine w_ldc2 (v := 27344319718) rfl rfl rfl ?_
              refine w_l_ne (pc2 := 120) (pc3 := 104) rfl rfl (by decide) rfl (fun c101 => ?_) (fun c101 => ?_)
              · skip
                refine w_aload_n rfl l0 rfl ?_
                refine w_getI (z := dp) rfl rfl sh_249 rfl hq.2.2.2.2.1 rfl ?_
                refine w_putf rfl rfl sh_249 rfl rfl (by decide) rfl ?_
                refine w_iconst rfl rfl ?_
                refine w_iret rfl rfl ?_
                have hst : ∀ D : Int, (lvs (tx t) nx e dp) = (false, D) → sv (w_v S 249 17 dp) 249 17 = D → fr (fun a => a = 249) S (w_v S 249 17 dp) → (∀ k, ¬ k = 17 → sv (w_v S 249 17 dp) 249 k = sv S 249 k) → D4q S F ic rest [] (tkl T r ol t nx gr cs dp rest.length ic) (some (.int (iZ 0))) (w_v S 249 17 dp) := fun D k1 k2 k3 k4 => d4_skip hg hrs hq g1 he (hsg c66) c66 k1 k2 k3 k4
                refine hst (dp) ?_ (rv_self _ _ _ _) (fr_v (fr_refl _ S) (by rfl)) (fun k hk => by simp (disch := omega) only [rv_self, rv_ne, rl_self, rl_ne, rA_self, rA_ne, rL_self, rL_ne, rR_self, rR_ne, xvl, xvA, xvL, xvR, xlv, xlA, xlL, xlR, xAv, xAl, xAL, xAR, xLv, xLl, xLA, xLR, xRv, xRl, xRA, xRL])
                rw [hlv]
                first
                  | (rw [hop] at c84; have k3 := of_decide_eq_true c84; rw [if_neg (by rcases hx with hx | hx; (omega); (rw [hx.2] at k3; exact absurd k3 (by decide))), if_pos k3])
                  | (rw [hop] at c84; have k3 := of_decide_eq_false c84; by_cases k4 : nx + 1 = e; (rw [if_pos k4]; rcases hx with hx | hx; (omega); (rw [hx.2] at c101; exact absurd c101 (by decide))); (rw [if_neg k4, if_neg k3, if_pos c108, if_pos c101]))
                  | (rw [hop] at c84; have k3 := of_decide_eq_false c84; by_cases k4 : nx + 1 = e; (rw [if_pos k4]); (rw [if_neg k4, if_neg k3, if_pos c73, if_neg c101, Int.sub_zero]))
                  | (rw [hop] at c84; have k3 := of_decide_eq_false c84; by_cases k4 : nx + 1 = e; (rw [if_pos k4]); (rw [htu] at c78; have k5 := of_decide_eq_false c78; rw [if_neg k4, if_neg k3, if_neg (by omega), decide_eq_false (fun z => k5 z.symm)]))
                  | omega
              · skip
                refine w_aload_n rfl l0 rfl ?_
                refine w_getI (z := dp) rfl rfl sh_249 rfl hq.2.2.2.2.1 rfl ?_
                refine w_if_le (pc2 := 120) (pc3 := 111) rfl (by decide) rfl ⟨by omega, by omega⟩ (fun c108 => ?_) (fun c108 => ?_)
                · skip
                  refine w_aload_n rfl l0 rfl ?_
                  refine w_getI (z := dp) rfl rfl sh_249 rfl hq.2.2.2.2.1 rfl ?_
                  refine w_putf rfl rfl sh_249 rfl rfl (by decide) rfl ?_
                  refine w_iconst rfl rfl ?_
                  refine w_iret rfl rfl ?_
                  have hst : ∀ D : Int, (lvs (tx t) nx e dp) = (false, D) → sv (w_v S 249 17 dp) 249 17 = D → fr (fun a => a = 249) S (w_v S 249 17 dp) → (∀ k, ¬ k = 17 → sv (w_v S 249 17 dp) 249 k = sv S 249 k) → D4q S F ic rest [] (tkl T r ol t nx gr cs dp rest.length ic) (some (.int (iZ 0))) (w_v S 249 17 dp) := fun D k1 k2 k3 k4 => d4_skip hg hrs hq g1 he (hsg c66) c66 k1 k2 k3 k4
                  refine hst (dp) ?_ (rv_self _ _ _ _) (fr_v (fr_refl _ S) (by rfl)) (fun k hk => by simp (disch := omega) only [rv_self, rv_ne, rl_self, rl_ne, rA_self, rA_ne, rL_self, rL_ne, rR_self, rR_ne, xvl, xvA, xvL, xvR, xlv, xlA, xlL, xlR, xAv, xAl, xAL, xAR, xLv, xLl, xLA, xLR, xRv, xRl, xRA, xRL])
                  rw [hlv]
                  first
                    | (rw [hop] at c84; have k3 := of_decide_eq_true c84; rw [if_neg (by rcases hx with hx | hx; (omega); (rw [hx.2] at k3; exact absurd k3 (by decide))), if_pos k3])
                    | (rw [hop] at c84; have k3 := of_decide_eq_false c84; by_cases k4 : nx + 1 = e; (rw [if_pos k4]; rcases hx with hx | hx; (omega); (rw [hx.2] at c101; exact absurd c101 (by decide))); (rw [if_neg k4, if_neg k3, if_pos c108, if_pos c101]))
                    | (rw [hop] at c84; have k3 := of_decide_eq_false c84; by_cases k4 : nx + 1 = e; (rw [if_pos k4]); (rw [if_neg k4, if_neg k3, if_pos c73, if_neg c101, Int.sub_zero]))
                    | (rw [hop] at c84; have k3 := of_decide_eq_false c84; by_cases k4 : nx + 1 = e; (rw [if_pos k4]); (rw [htu] at c78; have k5 := of_decide_eq_false c78; rw [if_neg k4, if_neg k3, if_neg (by omega), decide_eq_false (fun z => k5 z.symm)]))
                    | omega
                · skip
                  refine w_aload_n rfl l0 rfl ?_
                  refine w_getI (z := dp) rfl rfl sh_249 rfl hq.2.2.2.2.1 rfl ?_
                  refine w_iconst rfl rfl ?_
                  refine w_isub rfl rfl ?_
                  refine w_goto (pc2 := 124) rfl (by decide) ?_
                  refine w_putf rfl rfl sh_249 rfl rfl (by decide) rfl ?_
                  refine w_iconst rfl rfl ?_
                  refine w_iret rfl rfl ?_
                  have hst : ∀ D : Int, (lvs (tx t) nx e dp) = (false, D) → sv (w_v S 249 17 (dp - 1)) 249 17 = D → fr (fun a => a = 249) S (w_v S 249 17 (dp - 1)) → (∀ k, ¬ k = 17 → sv (w_v S 249 17 (dp - 1)) 249 k = sv S 249 k) → D4q S F ic rest [] (tkl T r ol t nx gr cs dp rest.length ic) (some (.int (iZ 0))) (w_v S 249 17 (dp - 1)) := fun D k1 k2 k3 k4 => d4_skip hg hrs hq g1 he (hsg c66) c66 k1 k2 k3 k4
                  refine hst (dp - 1) ?_ (rv_self _ _ _ _) (fr_v (fr_refl _ S) (by rfl)) (fun k hk => by simp (disch := omega) only [rv_self, rv_ne, rl_self, rl_ne, rA_self, rA_ne, rL_self, rL_ne, rR_self, rR_ne, xvl, xvA, xvL, xvR, xlv, xlA, xlL, xlR, xAv, xAl, xAL, xAR, xLv, xLl, xLA, xLR, xRv, xRl, xRA, xRL])
                  rw [hlv]
                  first
                    | (rw [hop] at c84; have k3 := of_decide_eq_true c84; rw [if_neg (by rcases hx with hx | hx; (omega); (rw [hx.2] at k3; exact absurd k3 (by decide))), if_pos k3])
                    | (rw [hop] at c84; have k3 := of_decide_eq_false c84; by_cases k4 : nx + 1 = e; (rw [if_pos k4]; rcases hx with hx | hx; (omega); (rw [hx.2] at c101; exact absurd c101 (by decide))); (rw [if_neg k4, if_neg k3, if_pos c108, if_pos c101]))
                    | (rw [hop] at c84; have k3 := of_decide_eq_false c84; by_cases k4 : nx + 1 = e; (rw [if_pos k4]); (rw [if_neg k4, if_neg k3, if_pos c73, if_neg c101, Int.sub_zero]))
                    | (rw [hop] at c84; have k3 := of_decide_eq_false c84; by_cases k4 : nx + 1 = e; (rw [if_pos k4]); (rw [htu] at c78; have k5 := of_decide_eq_false c78; rw [if_neg k4, if_neg k3, if_neg (by omega), decide_eq_false (fun z => k5 z.symm)]))
                    | omega
            · skip
              refine w_aload_n rfl l0 rfl ?_
              refine w_getI (z := dp) rfl rfl sh_249 rfl hq.2.2.2.2.1 rfl ?_
              refine w_iconst rfl rfl ?_
              refine w_iadd rfl rfl ?_
              refine w_goto (pc2 := 124) rfl (by decide) ?_
              refine w_putf rfl rfl sh_249 rfl rfl (by decide) rfl ?_
              refine w_iconst rfl rfl ?_
              refine w_iret rfl rfl ?_
              have hst : ∀ D : Int, (lvs (tx t) nx e dp) = (false, D) → sv (w_v S 249 17 (dp + 1)) 249 17 = D → fr (fun a => a = 249) S (w_v S 249 17 (dp + 1)) → (∀ k, ¬ k = 17 → sv (w_v S 249 17 (dp + 1)) 249 k = sv S 249 k) → D4q S F ic rest [] (tkl T r ol t nx gr cs dp rest.length ic) (some (.int (iZ 0))) (w_v S 249 17 (dp + 1)) := fun D k1 k2 k3 k4 => d4_skip hg hrs hq g1 he (hsg c66) c66 k1 k2 k3 k4
              refine hst (dp + 1) ?_ (rv_self _ _ _ _) (fr_v (fr_refl _ S) (by rfl)) (fun k hk => by simp (disch := omega) only [rv_self, rv_ne, rl_self, rl_ne, rA_self, rA_ne, rL_self, rL_ne, rR_self, rR_ne, xvl, xvA, xvL, xvR, xlv, xlA, xlL, xlR, xAv, xAl, xAL, xAR, xLv, xLl, xLA, xLR, xRv, xRl, xRA, xRL])
              rw [hlv]
              first
                | (rw [hop] at c84; have k3 := of_decide_eq_true c84; rw [if_neg (by rcases hx with hx | hx; (omega); (rw [hx.2] at k3; exact absurd k3 (by decide))), if_pos k3])
                | (rw [hop] at c84; have k3 := of_decide_eq_false c84; by_cases k4 : nx + 1 = e; (rw [if_pos k4]; rcases hx with hx | hx; (omega); (rw [hx.2] at c101; exact absurd c101 (by decide))); (rw [if_neg k4, if_neg k3, if_pos c108, if_pos c101]))
                | (rw [hop] at c84; have k3 := of_decide_eq_false c84; by_cases k4 : nx + 1 = e; (rw [if_pos k4]); (rw [if_neg k4, if_neg k3, if_pos c73, if_neg c101, Int.sub_zero]))
                | (rw [hop] at c84; have k3 := of_decide_eq_false c84; by_cases k4 : nx + 1 = e; (rw [if_pos k4]); (rw [htu] at c78; have k5 := of_decide_eq_false c78; rw [if_neg k4, if_neg k3, if_neg (by omega), decide_eq_false (fun z => k5 z.symm)]))
                | omega
theorem r_dir {sc : x_S} {d : Nat} {S : w_S} {F : Int → (Int → Int) × Int} {T : List Mac} {r ic dp e y nx gr b : Int} {ol : List OTok} {t : List Tok} {cs : List Cnd} {rest : List Frm} (hF : Fok F) (hT : TOK T) (hg : tgd t) (hrs : foks rest) (h4 : rest.length < 4) (h18 : cs.length < 18) (i0 : 0 ≤ ic) (i10 : ic ≤ 10) (r0 : 0 ≤ r) (r1 : r ≤ 30) (o1 : ol.length ≤ 100) (hq : RQ S F T r ol ic (grp t gr nx) dp ((t, e, y, cs, dp) :: rest)) (hb : b = 161 * (rest.length : Int)) (g0 : 0 ≤ gr) (g1 : gr ≤ nx) (hnx : nx < t.length) (he : e = lnE t nx) (h35 : tx t nx = 35) (hsg : skp cs = true → gr = nx) (d0 : 0 ≤ dp) (d1 : dp ≤ 180) (hd : 40 ≤ d) : w_T sc d 130 0 (x_en 0 [.ref 249, .int (iZ (b + (nx + 1))), .int (iZ (b + e))]) [] S (D4q S F ic rest [] (tkl T r ol t nx gr cs dp rest.length ic)) := by
  have hle := lnE_r (t := t) (i := nx) (by omega) hnx
  have hnl : nx < e := by omega
  have het : e ≤ t.length := by omega
  have h160 : t.length ≤ 160 := hg.2.1
  have hb3 : 0 ≤ b ∧ b ≤ 483 := by omega
  have hw : ∀ j : Int, 0 ≤ j → j < t.length → sL S 254 (b + j) = tx t j := fun j j0 j1 => by rw [hb]; exact (hq.1.1.1 j j0 j1).1
  refine w_iload_n rfl rfl rfl ?_
  refine w_iload_n rfl rfl rfl ?_
  refine w_ic_ge (pc2 := 14) (pc3 := 5) rfl (by decide) rfl ⟨by omega, by omega⟩ ⟨by omega, by omega⟩ (fun c2 => ?_) (fun c2 => ?_)
  · skip
    refine w_lconst (v := 0) rfl (by decide) rfl ?_
    refine w_lstore_n rfl (by decide) rfl ?_
    exact (r_dir_c hF hT hg hrs h4 h18 i0 i10 r0 r1 o1 hq hb g0 g1 hnx he h35 hsg d0 d1 hd _).1 0 _ rfl rfl rfl rfl (by first | exact Or.inl ⟨by omega, rfl⟩ | exact Or.inr ⟨by omega, rfl⟩) (Nat.lt_succ_self _)
  · skip
    refine w_aload_n rfl rfl rfl ?_
    refine w_getR rfl rfl sh_249 rfl rfl ?_
    refine w_iload_n rfl rfl rfl ?_
    refine w_lald (z := tx t ((nx + 1))) rfl sh_254 (by omega) (by omega) (by decide) (by have q := hw ((nx + 1)) (by omega) (by omega); rw [show b + ((nx + 1)) = b + (nx + 1) by omega] at q; exact q) rfl ?_
    refine w_goto (pc2 := 15) rfl (by decide) ?_
    refine w_lstore_n rfl (by decide) rfl ?_
    exact (r_dir_c hF hT hg hrs h4 h18 i0 i10 r0 r1 o1 hq hb g0 g1 hnx he h35 hsg d0 d1 hd _).1 (tx t ((nx + 1))) _ rfl rfl rfl rfl (by first | exact Or.inl ⟨by omega, rfl⟩ | exact Or.inr ⟨by omega, rfl⟩) (Nat.lt_succ_self _)
