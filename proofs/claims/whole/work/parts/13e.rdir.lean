/-! The reference obeys a directive. -/
def incv (S : w_S) (a e lv ic : Int) : Int := if ¬ icd (sL S 254) a e lv ic = 0 then icd (sL S 254) a e lv ic else (scan (fun k => sA S 250 (160 * ((sL S 254 (a + 1)).toInt - 48) + k)) (sA S 251 ((sL S 254 (a + 1)).toInt - 48)) ((sL S 254 (a + 1)).toInt - 48)).1
theorem r_inc2 {sc : x_S} {d : Nat} {S : w_S} {lv ic a e : Int} (a0 : 0 ≤ a) (a1 : a ≤ 650) (e0 : 0 ≤ e) (e1 : e ≤ 644) (l0 : 0 ≤ lv) (l3 : lv ≤ 3) (i0 : 0 ≤ ic) (i10 : ic ≤ 10) (hlv : sv S 249 12 = lv) (hic : sv S 249 13 = ic) (ht : ∀ f : Int, 0 ≤ f → f ≤ 2 → 0 ≤ sA S 251 f ∧ sA S 251 f ≤ 160 ∧ ∀ i, 0 ≤ i → i < sA S 251 f → 0 ≤ sA S 250 (160 * f + i) ∧ sA S 250 (160 * f + i) < 128) (hd : 5 ≤ d) : w_T sc d 132 0 (x_en 0 [.ref 249, .int (iZ a), .int (iZ e)]) [] S (fun v S2 => v = some (.int (iZ (incv S a e lv ic))) ∧ ((¬ icd (sL S 254) a e lv ic = 0 ∧ v = some (.int (iZ (icd (sL S 254) a e lv ic))) ∧ S2 = S) ∨ (icd (sL S 254) a e lv ic = 0 ∧ RDp (w_v (w_v S 249 13 (ic + 1)) 249 12 (lv + 1)) ((sL S 254 (a + 1)).toInt - 48) v S2))) := by
  refine w_mono (r_inc a0 a1 e0 e1 l0 l3 i0 i10 hlv hic ht hd) (fun v S2 h => ⟨?_, h⟩)
  unfold incv
  rcases h with h | h
  · rw [if_pos h.1]
    exact h.2.1
  · rw [if_neg (not_not_intro h.1)]
    exact h.2.1
section LEAF2
variable {S V : w_S} {F : Int → (Int → Int) × Int} {T : List Mac} {r ic dp e y a : Int} {ol : List OTok} {t : List Tok} {cs : List Cnd} {rest : List Frm} {x : Int64} {sg : Nat → Nat}
theorem ob_n (hx : x = tx t a) (ae : a < e) (n1 : ¬ x = 3463301461861) (n2 : ¬ x = 465601258418789) (kn : a + 2 = e ∧ nam (tx t (a + 1)) = true) (n3 : ¬ x = 213596645) (n4 : ¬ x = 27344319718) : ob T t cs a e rest.length ic = obn T cs x (tx t (a + 1)) := by
  unfold ob
  rw [← hx, if_neg (by omega), if_neg n1, if_neg n2, if_neg n3, if_neg n4, if_neg (not_not_intro kn)]
theorem d3_opn {z : Int} (h6 : t.length ≤ 160) (h6r : foks rest) (h : RQ S F T r ol ic [] dp ((t, e, y, cs, dp) :: rest)) (hx : x = tx t a) (hrf : rfn T sg (tx t (a + 1)) < 0 ↔ fnd T (tx t (a + 1)) < 0) (ae : a < e) (n1 : ¬ x = 3463301461861) (n2 : ¬ x = 465601258418789) (kn : a + 2 = e ∧ nam (tx t (a + 1)) = true) (hop : x = 28401283814 ∨ x = 3635385283302) (hz : z = zB (decide (rfn T sg (tx t (a + 1)) < 0) == decide (x = 28401283814))) (g : fr (fun a => a = 249 ∨ a = 260 ∨ a = 261) S V) (hv : ∀ k, ¬ k = 16 → sv V 249 k = sv S 249 k) (h16 : sv V 249 16 = osum rest + cs.length + 1) (w0 : sA V 260 = w_u (sA S 260) (osum rest + cs.length) z) (w1 : sA V 261 = w_u (sA S 261) (osum rest + cs.length) 0) : D3q S F r ol ic dp t e rest (ob T t cs a e rest.length ic) (some (.int (iZ 0))) V := by
  have hd : decide (rfn T sg (tx t (a + 1)) < 0) = decide (fnd T (tx t (a + 1)) < 0) := by
    by_cases q : fnd T (tx t (a + 1)) < 0
    · rw [decide_eq_true q, decide_eq_true (hrf.2 q)]
    · rw [decide_eq_false q, decide_eq_false (fun z => q (hrf.1 z))]
  rw [hd] at hz
  have key : ∀ bv : Bool, z = zB bv → D3q S F r ol ic dp t e rest (0, T, (bv, false) :: cs, -1) (some (.int (iZ 0))) V := fun bv hbv => by
    refine d3_cs (cs2 := (bv, false) :: cs) h6 h6r h g hv (by rw [h16, List.length_cons]; omega) ⟨?_, ?_, rcs_fr cs h.1.1.2.2.2.2 (fun j a b => ?_)⟩ (fun j hj => ?_)
    · rw [w0, w_u_self]; exact hbv
    · rw [w1, w_u_self]; rfl
    · rw [w0, w1]; exact ⟨w_u_ne _ _ (by omega), w_u_ne _ _ (by omega)⟩
    · rw [w0, w1]; exact ⟨w_u_ne _ _ (by omega), w_u_ne _ _ (by omega)⟩
  rcases hop with q | q
  · rw [ob_n hx ae n1 n2 kn (by rw [q]; decide) (by rw [q]; decide)]
    unfold obn
    rw [if_neg (by rw [q]; decide), if_pos q]
    refine key _ ?_
    rw [hz, decide_eq_true q]
    cases decide (fnd T (tx t (a + 1)) < 0) <;> rfl
  · rw [ob_n hx ae n1 n2 kn (by rw [q]; decide) (by rw [q]; decide)]
    unfold obn
    rw [if_neg (by rw [q]; decide), if_neg (by rw [q]; decide), if_pos q]
    refine key _ ?_
    rw [hz, decide_eq_false (show ¬ x = 28401283814 by rw [q]; decide)]
    cases decide (fnd T (tx t (a + 1)) < 0) <;> rfl
theorem d3_und (h6 : t.length ≤ 160) (h6r : foks rest) (h : RQ S F T r ol ic [] dp ((t, e, y, cs, dp) :: rest)) (hx : x = tx t a) (hsg : rtab S sg T) (hrf : rfn T sg (tx t (a + 1)) < 0 ↔ fnd T (tx t (a + 1)) < 0) (ae : a < e) (n1 : ¬ x = 3463301461861) (n2 : ¬ x = 465601258418789) (kn : a + 2 = e ∧ nam (tx t (a + 1)) = true) (hu : x = 31639286502) (hV : (rfn T sg (tx t (a + 1)) < 0 ∧ V = S) ∨ (¬ rfn T sg (tx t (a + 1)) < 0 ∧ fr (fun a => a = 262) S V ∧ sL V 262 = w_u (sL S 262) (rfn T sg (tx t (a + 1))) 0)) : D3q S F r ol ic dp t e rest (ob T t cs a e rest.length ic) (some (.int (iZ 0))) V := by
  rw [ob_n hx ae n1 n2 kn (by rw [hu]; decide) (by rw [hu]; decide)]
  unfold obn
  rw [if_pos hu]
  rcases hV with ⟨q1, q2⟩ | ⟨q1, q2, q3⟩
  · rw [q2]
    have e : und T (tx t (a + 1)) = T := by
      unfold und
      rw [if_pos (hrf.1 q1)]
    rw [e]
    exact d3_tab h6 h6r h (fr_refl _ _) ⟨sg, hsg⟩
  · exact d3_tab h6 h6r h (fr_mono q2 (fun a ha => by omega)) ⟨_, rtab_und hsg (fun z => q1 (hrf.2 z)) q2 q3⟩
end LEAF2
theorem r_dir3_c {sc : x_S} {d : Nat} {S : w_S} {F : Int → (Int → Int) × Int} {T : List Mac} {r ic dp e y a b : Int} {ol : List OTok} {t : List Tok} {cs : List Cnd} {rest : List Frm} {x : Int64} {op tu : Bool} (hF : Fok F) (hT : TOK T) (hg : tgd t) (hrs : foks rest) (h4 : rest.length < 4) (h18 : cs.length < 18) (i0 : 0 ≤ ic) (i10 : ic ≤ 10) (hq : RQ S F T r ol ic [] dp ((t, e, y, cs, dp) :: rest)) (hb : b = 161 * (rest.length : Int)) (a0 : 0 ≤ a) (ae : a < e) (e1 : e ≤ t.length) (hx : x = tx t a) (hop : op = decide (x = 28401283814 ∨ x = 3635385283302)) (htu : tu = decide (x = 213596645 ∨ x = 27344319718)) (hd : 20 ≤ d) : ∀ n : Nat, (∀  (lv : x_L) (l0 : lv 0 = some (.ref 249)) (l1 : lv 1 = some (.int (iZ (b + a)))) (l2 : lv 2 = some (.int (iZ (b + e)))) (l3 : lv 3 = some (.long x)) (l5 : lv 5 = some (.int (iZ (zB op)))) (l6 : lv 6 = some (.int (iZ (zB tu))))  (hm : 2 < n), w_T sc d 130 148 lv [] S (D3q S F r ol ic dp t e rest (ob T t cs a e rest.length ic))) ∧ (∀ (nm : Bool) (lv : x_L) (l0 : lv 0 = some (.ref 249)) (l1 : lv 1 = some (.int (iZ (b + a)))) (l2 : lv 2 = some (.int (iZ (b + e)))) (l3 : lv 3 = some (.long x)) (l5 : lv 5 = some (.int (iZ (zB op)))) (l6 : lv 6 = some (.int (iZ (zB tu)))) (l8 : lv 8 = some (.int (iZ (zB nm)))) (n1 : ¬ x = 3463301461861) (n2 : ¬ x = 465601258418789) (hnm : nm = decide (a + 2 = e ∧ nam (tx t (a + 1)) = true)) (hm : 1 < n), w_T sc d 130 210 lv [] S (D3q S F r ol ic dp t e rest (ob T t cs a e rest.length ic))) ∧ (∀  (lv : x_L) (l0 : lv 0 = some (.ref 249)) (l1 : lv 1 = some (.int (iZ (b + a)))) (l2 : lv 2 = some (.int (iZ (b + e)))) (l3 : lv 3 = some (.long x)) (l5 : lv 5 = some (.int (iZ (zB op)))) (n1 : ¬ x = 3463301461861) (n2 : ¬ x = 465601258418789) (kn : a + 2 = e ∧ nam (tx t (a + 1)) = true) (kou : op = true ∨ (op = false ∧ x = 31639286502)) (hm : 0 < n), w_T sc d 130 260 lv [] S (D3q S F r ol ic dp t e rest (ob T t cs a e rest.length ic))) := by
  intro n
  induction n with
  | zero => exact ⟨fun lv l0 l1 l2 l3 l5 l6 hm => absurd hm (Nat.not_lt_zero _), fun nm lv l0 l1 l2 l3 l5 l6 l8 n1 n2 hnm hm => absurd hm (Nat.not_lt_zero _), fun lv l0 l1 l2 l3 l5 n1 n2 kn kou hm => absurd hm (Nat.not_lt_zero _)⟩
  | succ n ih =>
    refine ⟨?_, ?_, ?_⟩
    · skip
      intro lv l0 l1 l2 l3 l5 l6 hm
      obtain ⟨sg, hsg⟩ := hq.2.2.2.2.2.2.2.2.2.1
      have hw : ∀ j : Int, 0 ≤ j → j < t.length → sL S 254 (b + j) = tx t j := fun j j0 j1 => by rw [hb]; exact (hq.1.1.1 j j0 j1).1
      have hwl : ∀ j : Int, 0 ≤ j → j < t.length → sA S 256 (b + j) = 2 * tln t j + zB (tgl t j) := fun j j0 j1 => by rw [hb]; exact (hq.1.1.1 j j0 j1).2.2
      have h160 : t.length ≤ 160 := hg.2.1
      have h12 : sv S 249 12 = rest.length := by
        have := hq.2.1
        rw [List.length_cons] at this
        omega
      have h13 : sv S 249 13 = ic := hq.2.2.1
      have h16 : sv S 249 16 = osum rest + cs.length := hq.2.2.2.1
      have h59 : sA S 259 rest.length = osum rest := hq.1.1.2.2.2.1
      have hcs : rcs (sA S 260) (sA S 261) (osum rest) cs := hq.1.1.2.2.2.2
      have ho0 := osum_n rest
      have ho1 := osum_17 rest hrs
      have hpos : ∀ j, b ≤ j → j < b + t.length → 0 < (sL S 254 j).toInt := fun j j0 j1 => by
        have q := hw (j - b) (by omega) (by omega)
        rw [show b + (j - b) = j by omega] at q
        rw [q]
        exact (hg.1 _ (by omega) (by omega)).1
      have hgl : ∀ j, b ≤ j → j < b + t.length → 0 ≤ sA S 256 j ∧ sA S 256 j < 100000 := fun j j0 j1 => by
        have q := hwl (j - b) (by omega) (by omega)
        rw [show b + (j - b) = j by omega] at q
        rw [q]
        have := hg.2.2.1 (j - b) (by omega) (by omega)
        have z : 0 ≤ zB (tgl t (j - b)) ∧ zB (tgl t (j - b)) ≤ 1 := by cases tgl t (j - b) <;> decide
        omega
      have htx : ∀ f : Int, 0 ≤ f → f ≤ 2 → 0 ≤ sA S 251 f ∧ sA S 251 f ≤ 160 ∧ ∀ i, 0 ≤ i → i < sA S 251 f → 0 ≤ sA S 250 (160 * f + i) ∧ sA S 250 (160 * f + i) < 128 := fun f f0 f2 => by
        have q := hq.2.2.2.2.2.2.2.2.2.2 f f0 f2
        have q2 := hF f f0 f2
        rw [q.1]
        exact ⟨q2.1, q2.2.1, fun i i0 i1 => by rw [q.2 i i0 i1]; exact q2.2.2.1 i i0 i1⟩
      refine w_lload_n rfl l3 rfl ?_
      refine w_ldc2 (v := 3463301461861) rfl rfl rfl ?_
      refine w_l_ne (pc2 := 165) (pc3 := 156) rfl rfl (by decide) rfl (fun c153 => ?_) (fun c153 => ?_)
      · skip
        refine w_lload_n rfl l3 rfl ?_
        refine w_ldc2 (v := 465601258418789) rfl rfl rfl ?_
        refine w_l_ne (pc2 := 182) (pc3 := 173) rfl rfl (by decide) rfl (fun c170 => ?_) (fun c170 => ?_)
        · skip
          refine w_iload_n rfl l2 rfl ?_
          refine w_iload_n rfl l1 rfl ?_
          refine w_iconst rfl rfl ?_
          refine w_iadd rfl rfl ?_
          refine w_ic_ne (pc2 := 207) (pc3 := 189) rfl (by decide) rfl ⟨by omega, by omega⟩ ⟨by omega, by omega⟩ (fun c186 => ?_) (fun c186 => ?_)
          · skip
            refine w_iconst rfl rfl ?_
            refine w_istore rfl (by decide) rfl ?_
            exact ih.2.1 false _ l0 l1 l2 l3 l5 l6 rfl (by exact c153) (by exact c170) (by first | (rw [decide_eq_true ⟨by omega, c200⟩]; done) | (rw [decide_eq_false (fun z => by omega)]; done) | (rw [decide_eq_false (fun z => by rw [z.2] at c200; exact Bool.noConfusion c200)])) (by omega)
          · skip
            refine w_aload_n rfl l0 rfl ?_
            refine w_getR rfl rfl sh_249 rfl rfl ?_
            refine w_iload_n rfl l1 rfl ?_
            refine w_iconst rfl rfl ?_
            refine w_iadd rfl rfl ?_
            refine w_lald (z := tx t (a + 1)) rfl sh_254 (by omega) (by omega) (by decide) (by have q := hw (a + 1) (by omega) (by omega); rw [show b + (a + 1) = b + a + 1 by omega] at q; exact q) rfl ?_
            refine w_CS (as := [.long (tx t (a + 1))]) (r := []) rfl rfl rfl rfl (Nat.le_of_ble_eq_true rfl) (Nat.le_of_ble_eq_true rfl) (by omega) rfl (r_nam (x := tx t (a + 1)) (Int.le_of_lt (hg.1 _ (by omega) (by omega)).1) (by omega)) ?_
            rintro _ _ ⟨rfl, hS⟩
            rw [hS]
            show w_T _ _ 130 200 _ [.int (iZ (zB (nam (tx t (a + 1)))))] _ _
            refine w_b_eq (pc2 := 207) (pc3 := 203) rfl (by decide) rfl (fun c200 => ?_) (fun c200 => ?_)
            · skip
              refine w_iconst rfl rfl ?_
              refine w_istore rfl (by decide) rfl ?_
              exact ih.2.1 false _ l0 l1 l2 l3 l5 l6 rfl (by exact c153) (by exact c170) (by first | (rw [decide_eq_true ⟨by omega, c200⟩]; done) | (rw [decide_eq_false (fun z => by omega)]; done) | (rw [decide_eq_false (fun z => by rw [z.2] at c200; exact Bool.noConfusion c200)])) (by omega)
            · skip
              refine w_iconst rfl rfl ?_
              refine w_goto (pc2 := 208) rfl (by decide) ?_
              refine w_istore rfl (by decide) rfl ?_
              exact ih.2.1 true _ l0 l1 l2 l3 l5 l6 rfl (by exact c153) (by exact c170) (by first | (rw [decide_eq_true ⟨by omega, c200⟩]; done) | (rw [decide_eq_false (fun z => by omega)]; done) | (rw [decide_eq_false (fun z => by rw [z.2] at c200; exact Bool.noConfusion c200)])) (by omega)
        · skip
          refine w_aload_n rfl l0 rfl ?_
          refine w_iload_n rfl l1 rfl ?_
          refine w_iconst rfl rfl ?_
          refine w_iadd rfl rfl ?_
          refine w_iload_n rfl l2 rfl ?_
          refine w_CV (as := [.int (iZ (b + a + 1)), .int (iZ (b + e))]) (r := []) rfl rfl rfl rfl sh_249 (Nat.le_of_ble_eq_true rfl) (Nat.le_of_ble_eq_true rfl) (by omega) rfl (r_inc2 (S := S) (lv := rest.length) (ic := ic) (a := b + a + 1) (e := b + e) (by omega) (by omega) (by omega) (by omega) (by omega) (by omega) i0 i10 h12 h13 htx (by omega)) ?_
          rintro _ V ⟨rfl, hrd⟩
          show w_T _ _ 130 181 _ [.int (iZ (incv S (b + a + 1) (b + e) rest.length ic))] _ _
          refine w_iret rfl rfl ?_
          have his := icd_sft (Y := sL S 254) (X := tx t) (b := b) (n := t.length) (a := a + 1) (e := e) (lv := rest.length) (ic := ic) hw (by omega) e1
          rw [show b + (a + 1) = b + a + 1 by omega] at his
          rw [his] at hrd
          have e9 : (ob T t cs a e rest.length ic) = (icd (tx t) (a + 1) e rest.length ic, T, cs, if icd (tx t) (a + 1) e rest.length ic = 0 then (tx t (a + 2)).toInt - 48 else -1) := by
            unfold ob
            rw [if_neg (show ¬ e ≤ a by omega), if_neg (by rw [← hx]; exact c153), if_pos (by rw [← hx]; exact c170)]
          rw [e9]
          rcases hrd with ⟨k1, k2, k3⟩ | ⟨k1, k2⟩
          · rw [if_neg k1, k2, k3]
            exact d3_err hq k1
          · have hir := icd_r (tx t) (a + 1) e rest.length ic
            have hir2 := hir.2.2 k1
            have ewx : sL S 254 (b + a + 1 + 1) = tx t (a + 2) := by
              have hn : a + 1 + 3 = e := by
                by_cases q : a + 1 + 3 = e
                · exact q
                · exfalso
                  unfold icd at k1
                  rw [if_pos (Or.inl (fun z => q z.1))] at k1
                  exact absurd k1 (by decide)
              have q := hw (a + 2) (by omega) (by omega)
              rw [show b + (a + 2) = b + a + 1 + 1 by omega] at q
              exact q
            rw [show a + 1 + 1 = a + 2 by omega] at hir2
            rw [k1, if_pos rfl]
            rw [ewx] at k2
            exact d3_inc hF h160 hrs (by omega) hir2.2.2.1 hir2.2.2.2 hq k2
      · skip
        refine w_aload_n rfl l0 rfl ?_
        refine w_iload_n rfl l1 rfl ?_
        refine w_iconst rfl rfl ?_
        refine w_iadd rfl rfl ?_
        refine w_iload_n rfl l2 rfl ?_
        refine w_CV (as := [.int (iZ (b + a + 1)), .int (iZ (b + e))]) (r := []) rfl rfl rfl rfl sh_249 (Nat.le_of_ble_eq_true rfl) (Nat.le_of_ble_eq_true rfl) (by omega) rfl (r_def (S := S) (sg := sg) (T := T) (a := b + a + 1) (e := b + e) hT.1 hsg (by omega) (by omega) (by omega) (by omega) (fun j j0 j1 => hpos j (by omega) (by omega)) (fun j j0 j1 => hgl j (by omega) (by omega)) (by omega)) ?_
        rintro _ V ⟨rfl, hrd⟩
        show w_T _ _ 130 164 _ [.int (iZ ((dfa T (sL S 254) (sA S 256) (b + a + 1) (b + e)).1))] _ _
        refine w_iret rfl rfl ?_
        have hds := dfa_sft (T := T) (Y := sL S 254) (g := sA S 256) (b := b) (a := a + 1) (e := e) hw hwl (by omega) (by omega) e1
        rw [show b + (a + 1) = b + a + 1 by omega] at hds
        rw [hds] at hrd ⊢
        have e9 : (ob T t cs a e rest.length ic) = ((dfn T t (a + 1) e).1, (dfn T t (a + 1) e).2, cs, -1) := by
          unfold ob
          rw [if_neg (show ¬ e ≤ a by omega), if_pos (by rw [← hx]; exact c153)]
        rw [e9]
        exact d3_tab h160 hrs hq hrd.1 hrd.2
    · skip
      intro nm lv l0 l1 l2 l3 l5 l6 l8 n1 n2 hnm hm
      obtain ⟨sg, hsg⟩ := hq.2.2.2.2.2.2.2.2.2.1
      have hw : ∀ j : Int, 0 ≤ j → j < t.length → sL S 254 (b + j) = tx t j := fun j j0 j1 => by rw [hb]; exact (hq.1.1.1 j j0 j1).1
      have hwl : ∀ j : Int, 0 ≤ j → j < t.length → sA S 256 (b + j) = 2 * tln t j + zB (tgl t j) := fun j j0 j1 => by rw [hb]; exact (hq.1.1.1 j j0 j1).2.2
      have h160 : t.length ≤ 160 := hg.2.1
      have h12 : sv S 249 12 = rest.length := by
        have := hq.2.1
        rw [List.length_cons] at this
        omega
      have h13 : sv S 249 13 = ic := hq.2.2.1
      have h16 : sv S 249 16 = osum rest + cs.length := hq.2.2.2.1
      have h59 : sA S 259 rest.length = osum rest := hq.1.1.2.2.2.1
      have hcs : rcs (sA S 260) (sA S 261) (osum rest) cs := hq.1.1.2.2.2.2
      have ho0 := osum_n rest
      have ho1 := osum_17 rest hrs
      have hpos : ∀ j, b ≤ j → j < b + t.length → 0 < (sL S 254 j).toInt := fun j j0 j1 => by
        have q := hw (j - b) (by omega) (by omega)
        rw [show b + (j - b) = j by omega] at q
        rw [q]
        exact (hg.1 _ (by omega) (by omega)).1
      have hgl : ∀ j, b ≤ j → j < b + t.length → 0 ≤ sA S 256 j ∧ sA S 256 j < 100000 := fun j j0 j1 => by
        have q := hwl (j - b) (by omega) (by omega)
        rw [show b + (j - b) = j by omega] at q
        rw [q]
        have := hg.2.2.1 (j - b) (by omega) (by omega)
        have z : 0 ≤ zB (tgl t (j - b)) ∧ zB (tgl t (j - b)) ≤ 1 := by cases tgl t (j - b) <;> decide
        omega
      have htx : ∀ f : Int, 0 ≤ f → f ≤ 2 → 0 ≤ sA S 251 f ∧ sA S 251 f ≤ 160 ∧ ∀ i, 0 ≤ i → i < sA S 251 f → 0 ≤ sA S 250 (160 * f + i) ∧ sA S 250 (160 * f + i) < 128 := fun f f0 f2 => by
        have q := hq.2.2.2.2.2.2.2.2.2.2 f f0 f2
        have q2 := hF f f0 f2
        rw [q.1]
        exact ⟨q2.1, q2.2.1, fun i i0 i1 => by rw [q.2 i i0 i1]; exact q2.2.2.1 i i0 i1⟩
      refine w_iload rfl l6 rfl ?_
      refine w_b_eq (pc2 := 240) (pc3 := 215) rfl (by decide) rfl (fun c212 => ?_) (fun c212 => ?_)
      · skip
        refine w_iload rfl l8 rfl ?_
        refine w_b_eq (pc2 := 258) (pc3 := 245) rfl (by decide) rfl (fun c242 => ?_) (fun c242 => ?_)
        · skip
          refine w_iconst rfl rfl ?_
          refine w_iret rfl rfl ?_
          have e9 : (ob T t cs a e rest.length ic) = (3, T, cs, -1) := by
            unfold ob
            rw [if_neg (show ¬ e ≤ a by omega), if_neg (by rw [← hx]; exact n1), if_neg (by rw [← hx]; exact n2)]
            by_cases k1 : x = 213596645
            · rw [if_pos (by rw [← hx]; exact k1)]
              by_cases k2 : a + 1 = e
              · exfalso
                rw [htu, decide_eq_true (Or.inl k1)] at c212
                first
                  | exact Bool.noConfusion c212
                  | omega
              · rw [if_neg k2]
            · rw [if_neg (by rw [← hx]; exact k1)]
              by_cases k3 : x = 27344319718
              · rw [if_pos (by rw [← hx]; exact k3)]
                by_cases k2 : a + 1 = e
                · exfalso
                  rw [htu, decide_eq_true (Or.inr k3)] at c212
                  first
                    | exact Bool.noConfusion c212
                    | omega
                · rw [if_neg k2]
              · rw [if_neg (by rw [← hx]; exact k3)]
                first
                  | (rw [hnm] at c242; rw [if_pos (fun z => of_decide_eq_false c242 z)])
                  | (rw [hop] at c247
                     have ko := of_decide_eq_false c247
                     by_cases k4 : a + 2 = e ∧ nam (tx t (a + 1)) = true
                     · rw [if_neg (not_not_intro k4)]
                       unfold obn
                       rw [if_neg (by rw [← hx]; exact c255), if_neg (by rw [← hx]; exact fun z => ko (Or.inl z)), if_neg (by rw [← hx]; exact fun z => ko (Or.inr z))]
                     · rw [if_pos k4])
          rw [e9]
          exact d3_err hq (by decide)
        · skip
          refine w_iload rfl l5 rfl ?_
          refine w_b_ne (pc2 := 260) (pc3 := 250) rfl (by decide) rfl (fun c247 => ?_) (fun c247 => ?_)
          · skip
            exact ih.2.2 _ l0 l1 l2 l3 l5 (by exact n1) (by exact n2) (by rw [hnm] at c242; exact of_decide_eq_true c242) (by first | exact Or.inl c247 | exact Or.inr ⟨c247, c255⟩) (by omega)
          · skip
            refine w_lload_n rfl l3 rfl ?_
            refine w_ldc2 (v := 31639286502) rfl rfl rfl ?_
            refine w_l_eq (pc2 := 260) (pc3 := 258) rfl rfl (by decide) rfl (fun c255 => ?_) (fun c255 => ?_)
            · skip
              exact ih.2.2 _ l0 l1 l2 l3 l5 (by exact n1) (by exact n2) (by rw [hnm] at c242; exact of_decide_eq_true c242) (by first | exact Or.inl c247 | exact Or.inr ⟨c247, c255⟩) (by omega)
            · skip
              refine w_iconst rfl rfl ?_
              refine w_iret rfl rfl ?_
              have e9 : (ob T t cs a e rest.length ic) = (3, T, cs, -1) := by
                unfold ob
                rw [if_neg (show ¬ e ≤ a by omega), if_neg (by rw [← hx]; exact n1), if_neg (by rw [← hx]; exact n2)]
                by_cases k1 : x = 213596645
                · rw [if_pos (by rw [← hx]; exact k1)]
                  by_cases k2 : a + 1 = e
                  · exfalso
                    rw [htu, decide_eq_true (Or.inl k1)] at c212
                    first
                      | exact Bool.noConfusion c212
                      | omega
                  · rw [if_neg k2]
                · rw [if_neg (by rw [← hx]; exact k1)]
                  by_cases k3 : x = 27344319718
                  · rw [if_pos (by rw [← hx]; exact k3)]
                    by_cases k2 : a + 1 = e
                    · exfalso
                      rw [htu, decide_eq_true (Or.inr k3)] at c212
                      first
                        | exact Bool.noConfusion c212
                        | omega
                    · rw [if_neg k2]
                  · rw [if_neg (by rw [← hx]; exact k3)]
                    first
                      | (rw [hnm] at c242; rw [if_pos (fun z => of_decide_eq_false c242 z)])
                      | (rw [hop] at c247
                         have ko := of_decide_eq_false c247
                         by_cases k4 : a + 2 = e ∧ nam (tx t (a + 1)) = true
                         · rw [if_neg (not_not_intro k4)]
                           unfold obn
                           rw [if_neg (by rw [← hx]; exact c255), if_neg (by rw [← hx]; exact fun z => ko (Or.inl z)), if_neg (by rw [← hx]; exact fun z => ko (Or.inr z))]
                         · rw [if_pos k4])
              rw [e9]
              exact d3_err hq (by decide)
      · skip
        refine w_iload_n rfl l2 rfl ?_
        refine w_iload_n rfl l1 rfl ?_
        refine w_iconst rfl rfl ?_
        refine w_iadd rfl rfl ?_
        refine w_ic_ne (pc2 := 240) (pc3 := 222) rfl (by decide) rfl ⟨by omega, by omega⟩ ⟨by omega, by omega⟩ (fun c219 => ?_) (fun c219 => ?_)
        · skip
          refine w_iload rfl l8 rfl ?_
          refine w_b_eq (pc2 := 258) (pc3 := 245) rfl (by decide) rfl (fun c242 => ?_) (fun c242 => ?_)
          · skip
            refine w_iconst rfl rfl ?_
            refine w_iret rfl rfl ?_
            have e9 : (ob T t cs a e rest.length ic) = (3, T, cs, -1) := by
              unfold ob
              rw [if_neg (show ¬ e ≤ a by omega), if_neg (by rw [← hx]; exact n1), if_neg (by rw [← hx]; exact n2)]
              by_cases k1 : x = 213596645
              · rw [if_pos (by rw [← hx]; exact k1)]
                by_cases k2 : a + 1 = e
                · exfalso
                  rw [htu, decide_eq_true (Or.inl k1)] at c212
                  first
                    | exact Bool.noConfusion c212
                    | omega
                · rw [if_neg k2]
              · rw [if_neg (by rw [← hx]; exact k1)]
                by_cases k3 : x = 27344319718
                · rw [if_pos (by rw [← hx]; exact k3)]
                  by_cases k2 : a + 1 = e
                  · exfalso
                    rw [htu, decide_eq_true (Or.inr k3)] at c212
                    first
                      | exact Bool.noConfusion c212
                      | omega
                  · rw [if_neg k2]
                · rw [if_neg (by rw [← hx]; exact k3)]
                  first
                    | (rw [hnm] at c242; rw [if_pos (fun z => of_decide_eq_false c242 z)])
                    | (rw [hop] at c247
                       have ko := of_decide_eq_false c247
                       by_cases k4 : a + 2 = e ∧ nam (tx t (a + 1)) = true
                       · rw [if_neg (not_not_intro k4)]
                         unfold obn
                         rw [if_neg (by rw [← hx]; exact c255), if_neg (by rw [← hx]; exact fun z => ko (Or.inl z)), if_neg (by rw [← hx]; exact fun z => ko (Or.inr z))]
                       · rw [if_pos k4])
            rw [e9]
            exact d3_err hq (by decide)
          · skip
            refine w_iload rfl l5 rfl ?_
            refine w_b_ne (pc2 := 260) (pc3 := 250) rfl (by decide) rfl (fun c247 => ?_) (fun c247 => ?_)
            · skip
              exact ih.2.2 _ l0 l1 l2 l3 l5 (by exact n1) (by exact n2) (by rw [hnm] at c242; exact of_decide_eq_true c242) (by first | exact Or.inl c247 | exact Or.inr ⟨c247, c255⟩) (by omega)
            · skip
              refine w_lload_n rfl l3 rfl ?_
              refine w_ldc2 (v := 31639286502) rfl rfl rfl ?_
              refine w_l_eq (pc2 := 260) (pc3 := 258) rfl rfl (by decide) rfl (fun c255 => ?_) (fun c255 => ?_)
              · skip
                exact ih.2.2 _ l0 l1 l2 l3 l5 (by exact n1) (by exact n2) (by rw [hnm] at c242; exact of_decide_eq_true c242) (by first | exact Or.inl c247 | exact Or.inr ⟨c247, c255⟩) (by omega)
              · skip
                refine w_iconst rfl rfl ?_
                refine w_iret rfl rfl ?_
                have e9 : (ob T t cs a e rest.length ic) = (3, T, cs, -1) := by
                  unfold ob
                  rw [if_neg (show ¬ e ≤ a by omega), if_neg (by rw [← hx]; exact n1), if_neg (by rw [← hx]; exact n2)]
                  by_cases k1 : x = 213596645
                  · rw [if_pos (by rw [← hx]; exact k1)]
                    by_cases k2 : a + 1 = e
                    · exfalso
                      rw [htu, decide_eq_true (Or.inl k1)] at c212
                      first
                        | exact Bool.noConfusion c212
                        | omega
                    · rw [if_neg k2]
                  · rw [if_neg (by rw [← hx]; exact k1)]
                    by_cases k3 : x = 27344319718
                    · rw [if_pos (by rw [← hx]; exact k3)]
                      by_cases k2 : a + 1 = e
                      · exfalso
                        rw [htu, decide_eq_true (Or.inr k3)] at c212
                        first
                          | exact Bool.noConfusion c212
                          | omega
                      · rw [if_neg k2]
                    · rw [if_neg (by rw [← hx]; exact k3)]
                      first
                        | (rw [hnm] at c242; rw [if_pos (fun z => of_decide_eq_false c242 z)])
                        | (rw [hop] at c247
                           have ko := of_decide_eq_false c247
                           by_cases k4 : a + 2 = e ∧ nam (tx t (a + 1)) = true
                           · rw [if_neg (not_not_intro k4)]
                             unfold obn
                             rw [if_neg (by rw [← hx]; exact c255), if_neg (by rw [← hx]; exact fun z => ko (Or.inl z)), if_neg (by rw [← hx]; exact fun z => ko (Or.inr z))]
                           · rw [if_pos k4])
                rw [e9]
                exact d3_err hq (by decide)
        · skip
          refine w_aload_n rfl l0 rfl ?_
          refine w_lload_n rfl l3 rfl ?_
          refine w_ldc2 (v := 213596645) rfl rfl rfl ?_
          refine w_l_ne (pc2 := 235) (pc3 := 231) rfl rfl (by decide) rfl (fun c228 => ?_) (fun c228 => ?_)
          · skip
            refine w_iconst rfl rfl ?_
            refine w_CV (as := [.int (iZ 0)]) (r := []) rfl rfl rfl rfl sh_249 (Nat.le_of_ble_eq_true rfl) (Nat.le_of_ble_eq_true rfl) (by omega) rfl (r_trn (lv := rest.length) (o := osum rest) (cs := cs) (b := false) (by omega) (by omega) (by omega) (by omega) h12 h59 h16 hcs (by omega)) ?_
            rintro _ V ⟨rfl, hrd⟩
            show w_T _ _ 130 239 _ [.int (iZ ((trn false cs).1))] _ _
            refine w_iret rfl rfl ?_
            have hxx : x = 213596645 ∨ x = 27344319718 := by
              rw [htu] at c212
              exact of_decide_eq_true c212
            have e9 : (ob T t cs a e rest.length ic) = ((trn false cs).1, T, (trn false cs).2, -1) := by
              unfold ob
              rw [if_neg (show ¬ e ≤ a by omega), if_neg (by rw [← hx]; exact n1), if_neg (by rw [← hx]; exact n2)]
              first
                | (rw [if_pos (by rw [← hx]; exact c228), if_pos (by omega)]; rfl)
                | (rw [if_neg (by rw [← hx]; exact c228), if_pos (by rw [← hx]; exact hxx.resolve_left c228), if_pos (by omega)]; rfl)
            rw [e9]
            exact d3_cs h160 hrs hq hrd.1 hrd.2.1 hrd.2.2.1 hrd.2.2.2.1 hrd.2.2.2.2
          · skip
            refine w_iconst rfl rfl ?_
            refine w_goto (pc2 := 236) rfl (by decide) ?_
            refine w_CV (as := [.int (iZ 1)]) (r := []) rfl rfl rfl rfl sh_249 (Nat.le_of_ble_eq_true rfl) (Nat.le_of_ble_eq_true rfl) (by omega) rfl (r_trn (lv := rest.length) (o := osum rest) (cs := cs) (b := true) (by omega) (by omega) (by omega) (by omega) h12 h59 h16 hcs (by omega)) ?_
            rintro _ V ⟨rfl, hrd⟩
            show w_T _ _ 130 239 _ [.int (iZ ((trn true cs).1))] _ _
            refine w_iret rfl rfl ?_
            have hxx : x = 213596645 ∨ x = 27344319718 := by
              rw [htu] at c212
              exact of_decide_eq_true c212
            have e9 : (ob T t cs a e rest.length ic) = ((trn true cs).1, T, (trn true cs).2, -1) := by
              unfold ob
              rw [if_neg (show ¬ e ≤ a by omega), if_neg (by rw [← hx]; exact n1), if_neg (by rw [← hx]; exact n2)]
              first
                | (rw [if_pos (by rw [← hx]; exact c228), if_pos (by omega)]; rfl)
                | (rw [if_neg (by rw [← hx]; exact c228), if_pos (by rw [← hx]; exact hxx.resolve_left c228), if_pos (by omega)]; rfl)
            rw [e9]
            exact d3_cs h160 hrs hq hrd.1 hrd.2.1 hrd.2.2.1 hrd.2.2.2.1 hrd.2.2.2.2
    · skip
      intro lv l0 l1 l2 l3 l5 n1 n2 kn kou hm
      obtain ⟨sg, hsg⟩ := hq.2.2.2.2.2.2.2.2.2.1
      have hw : ∀ j : Int, 0 ≤ j → j < t.length → sL S 254 (b + j) = tx t j := fun j j0 j1 => by rw [hb]; exact (hq.1.1.1 j j0 j1).1
      have hwl : ∀ j : Int, 0 ≤ j → j < t.length → sA S 256 (b + j) = 2 * tln t j + zB (tgl t j) := fun j j0 j1 => by rw [hb]; exact (hq.1.1.1 j j0 j1).2.2
      have h160 : t.length ≤ 160 := hg.2.1
      have h12 : sv S 249 12 = rest.length := by
        have := hq.2.1
        rw [List.length_cons] at this
        omega
      have h13 : sv S 249 13 = ic := hq.2.2.1
      have h16 : sv S 249 16 = osum rest + cs.length := hq.2.2.2.1
      have h59 : sA S 259 rest.length = osum rest := hq.1.1.2.2.2.1
      have hcs : rcs (sA S 260) (sA S 261) (osum rest) cs := hq.1.1.2.2.2.2
      have ho0 := osum_n rest
      have ho1 := osum_17 rest hrs
      have hpos : ∀ j, b ≤ j → j < b + t.length → 0 < (sL S 254 j).toInt := fun j j0 j1 => by
        have q := hw (j - b) (by omega) (by omega)
        rw [show b + (j - b) = j by omega] at q
        rw [q]
        exact (hg.1 _ (by omega) (by omega)).1
      have hgl : ∀ j, b ≤ j → j < b + t.length → 0 ≤ sA S 256 j ∧ sA S 256 j < 100000 := fun j j0 j1 => by
        have q := hwl (j - b) (by omega) (by omega)
        rw [show b + (j - b) = j by omega] at q
        rw [q]
        have := hg.2.2.1 (j - b) (by omega) (by omega)
        have z : 0 ≤ zB (tgl t (j - b)) ∧ zB (tgl t (j - b)) ≤ 1 := by cases tgl t (j - b) <;> decide
        omega
      have htx : ∀ f : Int, 0 ≤ f → f ≤ 2 → 0 ≤ sA S 251 f ∧ sA S 251 f ≤ 160 ∧ ∀ i, 0 ≤ i → i < sA S 251 f → 0 ≤ sA S 250 (160 * f + i) ∧ sA S 250 (160 * f + i) < 128 := fun f f0 f2 => by
        have q := hq.2.2.2.2.2.2.2.2.2.2 f f0 f2
        have q2 := hF f f0 f2
        rw [q.1]
        exact ⟨q2.1, q2.2.1, fun i i0 i1 => by rw [q.2 i i0 i1]; exact q2.2.2.1 i i0 i1⟩
      have hf := fnd_r T (tx t (a + 1))
      have hrr := rfn_r hsg (tx t (a + 1))
      have hrf : rfn T sg (tx t (a + 1)) < 0 ↔ fnd T (tx t (a + 1)) < 0 := by
        unfold rfn
        split
        · exact ⟨fun _ => by assumption, fun _ => by decide⟩
        · exact ⟨fun z => by omega, fun z => by contradiction⟩
      refine w_aload_n rfl l0 rfl ?_
      refine w_aload_n rfl l0 rfl ?_
      refine w_getR rfl rfl sh_249 rfl rfl ?_
      refine w_iload_n rfl l1 rfl ?_
      refine w_iconst rfl rfl ?_
      refine w_iadd rfl rfl ?_
      refine w_lald (z := tx t (a + 1)) rfl sh_254 (by omega) (by omega) (by decide) (by have q := hw (a + 1) (by omega) (by omega); rw [show b + (a + 1) = b + a + 1 by omega] at q; exact q) rfl ?_
      refine w_CV (as := [.long (tx t (a + 1))]) (r := []) rfl rfl rfl rfl sh_249 (Nat.le_of_ble_eq_true rfl) (Nat.le_of_ble_eq_true rfl) (by omega) rfl (r_find (x := tx t (a + 1)) hT.1 hsg (fun z => by have := (hg.1 (a + 1) (by omega) (by omega)).1; unfold tx at z; rw [z] at this; exact absurd this (by decide)) (by omega)) ?_
      rintro _ _ ⟨rfl, hS⟩
      rw [hS]
      show w_T _ _ 130 272 _ [.int (iZ (rfn T sg (tx t (a + 1))))] _ _
      refine w_istore rfl (by decide) rfl ?_
      refine w_iload rfl l5 rfl ?_
      refine w_b_eq (pc2 := 342) (pc3 := 279) rfl (by decide) rfl (fun c276 => ?_) (fun c276 => ?_)
      · skip
        refine w_iload rfl rfl rfl ?_
        refine w_if_lt (pc2 := 355) (pc3 := 347) rfl (by decide) rfl ⟨by omega, by omega⟩ (fun c344 => ?_) (fun c344 => ?_)
        · skip
          refine w_iconst rfl rfl ?_
          refine w_iret rfl rfl ?_
          exact d3_und h160 hrs hq hx hsg hrf ae n1 n2 kn (by rcases kou with z | z; (exfalso; rw [z] at c276; exact Bool.noConfusion c276); exact z.2) (by first | exact Or.inl ⟨by omega, rfl⟩ | exact Or.inr ⟨by omega, (fr_refl _ S), rfl⟩)
        · skip
          refine w_aload_n rfl l0 rfl ?_
          refine w_getR rfl rfl sh_249 rfl rfl ?_
          refine w_iload rfl rfl rfl ?_
          refine w_lconst (v := 0) rfl (by decide) rfl ?_
          refine w_laS (f := sL S 262) rfl sh_262 (by omega) (by omega) (by decide) rfl rfl ?_
          refine w_iconst rfl rfl ?_
          refine w_iret rfl rfl ?_
          exact d3_und h160 hrs hq hx hsg hrf ae n1 n2 kn (by rcases kou with z | z; (exfalso; rw [z] at c276; exact Bool.noConfusion c276); exact z.2) (by first | exact Or.inl ⟨by omega, rfl⟩ | exact Or.inr ⟨by omega, (fr_L (fr_refl _ S) (by omega)), rfl⟩)
      · skip
        refine w_aload_n rfl l0 rfl ?_
        refine w_getR rfl rfl sh_249 rfl rfl ?_
        refine w_aload_n rfl l0 rfl ?_
        refine w_getI (z := (osum rest + cs.length)) rfl rfl sh_249 rfl h16 rfl ?_
        refine w_iload rfl rfl rfl ?_
        refine w_if_ge (pc2 := 296) (pc3 := 292) rfl (by decide) rfl ⟨by omega, by omega⟩ (fun c289 => ?_) (fun c289 => ?_)
        · skip
          refine w_iconst rfl rfl ?_
          refine w_lload_n rfl l3 rfl ?_
          refine w_ldc2 (v := 28401283814) rfl rfl rfl ?_
          refine w_l_ne (pc2 := 309) (pc3 := 305) rfl rfl (by decide) rfl (fun c302 => ?_) (fun c302 => ?_)
          · skip
            refine w_iconst rfl rfl ?_
            refine w_ic_ne (pc2 := 317) (pc3 := 313) rfl (by decide) rfl ⟨by decide, by decide⟩ ⟨by decide, by decide⟩ (fun hc => absurd hc (by decide)) (fun _ => ?_)
            refine w_iconst rfl rfl ?_
            refine w_goto (pc2 := 318) rfl (by decide) ?_
            refine w_baS (f := sA S 260) rfl sh_260 (by omega) (by omega) (by decide) (by decide) rfl rfl ?_
            refine w_aload_n rfl l0 rfl ?_
            refine w_getR rfl rfl sh_249 rfl rfl ?_
            refine w_aload_n rfl l0 rfl ?_
            refine w_getI (z := (osum rest + cs.length)) rfl rfl sh_249 rfl h16 rfl ?_
            refine w_iconst rfl rfl ?_
            refine w_baS (f := sA S 261) rfl sh_261 (by omega) (by omega) (by decide) (by decide) (rA_ne (by decide)) rfl ?_
            refine w_aload_n rfl l0 rfl ?_
            refine w_dup rfl rfl rfl ?_
            refine w_getI (z := (osum rest + cs.length)) rfl rfl sh_249 rfl h16 rfl ?_
            refine w_iconst rfl rfl ?_
            refine w_iadd rfl rfl ?_
            refine w_putf rfl rfl sh_249 rfl rfl (by decide) rfl ?_
            refine w_goto (pc2 := 355) rfl (by decide) ?_
            refine w_iconst rfl rfl ?_
            refine w_iret rfl rfl ?_
            have hop2 : x = 28401283814 ∨ x = 3635385283302 := by
              rw [hop] at c276
              exact of_decide_eq_true c276
            exact d3_opn (z := 1) h160 hrs hq hx hrf ae n1 n2 kn hop2 (by first | (rw [decide_eq_true (show rfn T sg (tx t (a + 1)) < 0 by omega), decide_eq_true c302]; rfl) | (rw [decide_eq_true (show rfn T sg (tx t (a + 1)) < 0 by omega), decide_eq_false c302]; rfl) | (rw [decide_eq_false (show ¬ rfn T sg (tx t (a + 1)) < 0 by omega), decide_eq_true c302]; rfl) | (rw [decide_eq_false (show ¬ rfn T sg (tx t (a + 1)) < 0 by omega), decide_eq_false c302]; rfl)) (fr_v (fr_A (fr_A (fr_refl _ S) (by omega)) (by omega)) (by omega)) (fun k hk => by simp (disch := omega) only [rv_self, rv_ne, rl_self, rl_ne, rA_self, rA_ne, rL_self, rL_ne, rR_self, rR_ne, xvl, xvA, xvL, xvR, xlv, xlA, xlL, xlR, xAv, xAl, xAL, xAR, xLv, xLl, xLA, xLR, xRv, xRl, xRA, xRL]) (by simp (disch := omega) only [rv_self, rv_ne, rl_self, rl_ne, rA_self, rA_ne, rL_self, rL_ne, rR_self, rR_ne, xvl, xvA, xvL, xvR, xlv, xlA, xlL, xlR, xAv, xAl, xAL, xAR, xLv, xLl, xLA, xLR, xRv, xRl, xRA, xRL]) (by first | rfl | (simp (disch := omega) only [rv_self, rv_ne, rl_self, rl_ne, rA_self, rA_ne, rL_self, rL_ne, rR_self, rR_ne, xvl, xvA, xvL, xvR, xlv, xlA, xlL, xlR, xAv, xAl, xAL, xAR, xLv, xLl, xLA, xLR, xRv, xRl, xRA, xRL]; done)) (by first | rfl | (simp (disch := omega) only [rv_self, rv_ne, rl_self, rl_ne, rA_self, rA_ne, rL_self, rL_ne, rR_self, rR_ne, xvl, xvA, xvL, xvR, xlv, xlA, xlL, xlR, xAv, xAl, xAL, xAR, xLv, xLl, xLA, xLR, xRv, xRl, xRA, xRL]; done))
          · skip
            refine w_iconst rfl rfl ?_
            refine w_goto (pc2 := 310) rfl (by decide) ?_
            refine w_ic_ne (pc2 := 317) (pc3 := 313) rfl (by decide) rfl ⟨by decide, by decide⟩ ⟨by decide, by decide⟩ (fun _ => ?_) (fun hc => absurd hc (by decide))
            refine w_iconst rfl rfl ?_
            refine w_baS (f := sA S 260) rfl sh_260 (by omega) (by omega) (by decide) (by decide) rfl rfl ?_
            refine w_aload_n rfl l0 rfl ?_
            refine w_getR rfl rfl sh_249 rfl rfl ?_
            refine w_aload_n rfl l0 rfl ?_
            refine w_getI (z := (osum rest + cs.length)) rfl rfl sh_249 rfl h16 rfl ?_
            refine w_iconst rfl rfl ?_
            refine w_baS (f := sA S 261) rfl sh_261 (by omega) (by omega) (by decide) (by decide) (rA_ne (by decide)) rfl ?_
            refine w_aload_n rfl l0 rfl ?_
            refine w_dup rfl rfl rfl ?_
            refine w_getI (z := (osum rest + cs.length)) rfl rfl sh_249 rfl h16 rfl ?_
            refine w_iconst rfl rfl ?_
            refine w_iadd rfl rfl ?_
            refine w_putf rfl rfl sh_249 rfl rfl (by decide) rfl ?_
            refine w_goto (pc2 := 355) rfl (by decide) ?_
            refine w_iconst rfl rfl ?_
            refine w_iret rfl rfl ?_
            have hop2 : x = 28401283814 ∨ x = 3635385283302 := by
              rw [hop] at c276
              exact of_decide_eq_true c276
            exact d3_opn (z := 0) h160 hrs hq hx hrf ae n1 n2 kn hop2 (by first | (rw [decide_eq_true (show rfn T sg (tx t (a + 1)) < 0 by omega), decide_eq_true c302]; rfl) | (rw [decide_eq_true (show rfn T sg (tx t (a + 1)) < 0 by omega), decide_eq_false c302]; rfl) | (rw [decide_eq_false (show ¬ rfn T sg (tx t (a + 1)) < 0 by omega), decide_eq_true c302]; rfl) | (rw [decide_eq_false (show ¬ rfn T sg (tx t (a + 1)) < 0 by omega), decide_eq_false c302]; rfl)) (fr_v (fr_A (fr_A (fr_refl _ S) (by omega)) (by omega)) (by omega)) (fun k hk => by simp (disch := omega) only [rv_self, rv_ne, rl_self, rl_ne, rA_self, rA_ne, rL_self, rL_ne, rR_self, rR_ne, xvl, xvA, xvL, xvR, xlv, xlA, xlL, xlR, xAv, xAl, xAL, xAR, xLv, xLl, xLA, xLR, xRv, xRl, xRA, xRL]) (by simp (disch := omega) only [rv_self, rv_ne, rl_self, rl_ne, rA_self, rA_ne, rL_self, rL_ne, rR_self, rR_ne, xvl, xvA, xvL, xvR, xlv, xlA, xlL, xlR, xAv, xAl, xAL, xAR, xLv, xLl, xLA, xLR, xRv, xRl, xRA, xRL]) (by first | rfl | (simp (disch := omega) only [rv_self, rv_ne, rl_self, rl_ne, rA_self, rA_ne, rL_self, rL_ne, rR_self, rR_ne, xvl, xvA, xvL, xvR, xlv, xlA, xlL, xlR, xAv, xAl, xAL, xAR, xLv, xLl, xLA, xLR, xRv, xRl, xRA, xRL]; done)) (by first | rfl | (simp (disch := omega) only [rv_self, rv_ne, rl_self, rl_ne, rA_self, rA_ne, rL_self, rL_ne, rR_self, rR_ne, xvl, xvA, xvL, xvR, xlv, xlA, xlL, xlR, xAv, xAl, xAL, xAR, xLv, xLl, xLA, xLR, xRv, xRl, xRA, xRL]; done))
        · skip
          refine w_iconst rfl rfl ?_
          refine w_goto (pc2 := 297) rfl (by decide) ?_
          refine w_lload_n rfl l3 rfl ?_
          refine w_ldc2 (v := 28401283814) rfl rfl rfl ?_
          refine w_l_ne (pc2 := 309) (pc3 := 305) rfl rfl (by decide) rfl (fun c302 => ?_) (fun c302 => ?_)
          · skip
            refine w_iconst rfl rfl ?_
            refine w_ic_ne (pc2 := 317) (pc3 := 313) rfl (by decide) rfl ⟨by decide, by decide⟩ ⟨by decide, by decide⟩ (fun _ => ?_) (fun hc => absurd hc (by decide))
            refine w_iconst rfl rfl ?_
            refine w_baS (f := sA S 260) rfl sh_260 (by omega) (by omega) (by decide) (by decide) rfl rfl ?_
            refine w_aload_n rfl l0 rfl ?_
            refine w_getR rfl rfl sh_249 rfl rfl ?_
            refine w_aload_n rfl l0 rfl ?_
            refine w_getI (z := (osum rest + cs.length)) rfl rfl sh_249 rfl h16 rfl ?_
            refine w_iconst rfl rfl ?_
            refine w_baS (f := sA S 261) rfl sh_261 (by omega) (by omega) (by decide) (by decide) (rA_ne (by decide)) rfl ?_
            refine w_aload_n rfl l0 rfl ?_
            refine w_dup rfl rfl rfl ?_
            refine w_getI (z := (osum rest + cs.length)) rfl rfl sh_249 rfl h16 rfl ?_
            refine w_iconst rfl rfl ?_
            refine w_iadd rfl rfl ?_
            refine w_putf rfl rfl sh_249 rfl rfl (by decide) rfl ?_
            refine w_goto (pc2 := 355) rfl (by decide) ?_
            refine w_iconst rfl rfl ?_
            refine w_iret rfl rfl ?_
            have hop2 : x = 28401283814 ∨ x = 3635385283302 := by
              rw [hop] at c276
              exact of_decide_eq_true c276
            exact d3_opn (z := 0) h160 hrs hq hx hrf ae n1 n2 kn hop2 (by first | (rw [decide_eq_true (show rfn T sg (tx t (a + 1)) < 0 by omega), decide_eq_true c302]; rfl) | (rw [decide_eq_true (show rfn T sg (tx t (a + 1)) < 0 by omega), decide_eq_false c302]; rfl) | (rw [decide_eq_false (show ¬ rfn T sg (tx t (a + 1)) < 0 by omega), decide_eq_true c302]; rfl) | (rw [decide_eq_false (show ¬ rfn T sg (tx t (a + 1)) < 0 by omega), decide_eq_false c302]; rfl)) (fr_v (fr_A (fr_A (fr_refl _ S) (by omega)) (by omega)) (by omega)) (fun k hk => by simp (disch := omega) only [rv_self, rv_ne, rl_self, rl_ne, rA_self, rA_ne, rL_self, rL_ne, rR_self, rR_ne, xvl, xvA, xvL, xvR, xlv, xlA, xlL, xlR, xAv, xAl, xAL, xAR, xLv, xLl, xLA, xLR, xRv, xRl, xRA, xRL]) (by simp (disch := omega) only [rv_self, rv_ne, rl_self, rl_ne, rA_self, rA_ne, rL_self, rL_ne, rR_self, rR_ne, xvl, xvA, xvL, xvR, xlv, xlA, xlL, xlR, xAv, xAl, xAL, xAR, xLv, xLl, xLA, xLR, xRv, xRl, xRA, xRL]) (by first | rfl | (simp (disch := omega) only [rv_self, rv_ne, rl_self, rl_ne, rA_self, rA_ne, rL_self, rL_ne, rR_self, rR_ne, xvl, xvA, xvL, xvR, xlv, xlA, xlL, xlR, xAv, xAl, xAL, xAR, xLv, xLl, xLA, xLR, xRv, xRl, xRA, xRL]; done)) (by first | rfl | (simp (disch := omega) only [rv_self, rv_ne, rl_self, rl_ne, rA_self, rA_ne, rL_self, rL_ne, rR_self, rR_ne, xvl, xvA, xvL, xvR, xlv, xlA, xlL, xlR, xAv, xAl, xAL, xAR, xLv, xLl, xLA, xLR, xRv, xRl, xRA, xRL]; done))
          · skip
            refine w_iconst rfl rfl ?_
            refine w_goto (pc2 := 310) rfl (by decide) ?_
            refine w_ic_ne (pc2 := 317) (pc3 := 313) rfl (by decide) rfl ⟨by decide, by decide⟩ ⟨by decide, by decide⟩ (fun hc => absurd hc (by decide)) (fun _ => ?_)
            refine w_iconst rfl rfl ?_
            refine w_goto (pc2 := 318) rfl (by decide) ?_
            refine w_baS (f := sA S 260) rfl sh_260 (by omega) (by omega) (by decide) (by decide) rfl rfl ?_
            refine w_aload_n rfl l0 rfl ?_
            refine w_getR rfl rfl sh_249 rfl rfl ?_
            refine w_aload_n rfl l0 rfl ?_
            refine w_getI (z := (osum rest + cs.length)) rfl rfl sh_249 rfl h16 rfl ?_
            refine w_iconst rfl rfl ?_
            refine w_baS (f := sA S 261) rfl sh_261 (by omega) (by omega) (by decide) (by decide) (rA_ne (by decide)) rfl ?_
            refine w_aload_n rfl l0 rfl ?_
            refine w_dup rfl rfl rfl ?_
            refine w_getI (z := (osum rest + cs.length)) rfl rfl sh_249 rfl h16 rfl ?_
            refine w_iconst rfl rfl ?_
            refine w_iadd rfl rfl ?_
            refine w_putf rfl rfl sh_249 rfl rfl (by decide) rfl ?_
            refine w_goto (pc2 := 355) rfl (by decide) ?_
            refine w_iconst rfl rfl ?_
            refine w_iret rfl rfl ?_
            have hop2 : x = 28401283814 ∨ x = 3635385283302 := by
              rw [hop] at c276
              exact of_decide_eq_true c276
            exact d3_opn (z := 1) h160 hrs hq hx hrf ae n1 n2 kn hop2 (by first | (rw [decide_eq_true (show rfn T sg (tx t (a + 1)) < 0 by omega), decide_eq_true c302]; rfl) | (rw [decide_eq_true (show rfn T sg (tx t (a + 1)) < 0 by omega), decide_eq_false c302]; rfl) | (rw [decide_eq_false (show ¬ rfn T sg (tx t (a + 1)) < 0 by omega), decide_eq_true c302]; rfl) | (rw [decide_eq_false (show ¬ rfn T sg (tx t (a + 1)) < 0 by omega), decide_eq_false c302]; rfl)) (fr_v (fr_A (fr_A (fr_refl _ S) (by omega)) (by omega)) (by omega)) (fun k hk => by simp (disch := omega) only [rv_self, rv_ne, rl_self, rl_ne, rA_self, rA_ne, rL_self, rL_ne, rR_self, rR_ne, xvl, xvA, xvL, xvR, xlv, xlA, xlL, xlR, xAv, xAl, xAL, xAR, xLv, xLl, xLA, xLR, xRv, xRl, xRA, xRL]) (by simp (disch := omega) only [rv_self, rv_ne, rl_self, rl_ne, rA_self, rA_ne, rL_self, rL_ne, rR_self, rR_ne, xvl, xvA, xvL, xvR, xlv, xlA, xlL, xlR, xAv, xAl, xAL, xAR, xLv, xLl, xLA, xLR, xRv, xRl, xRA, xRL]) (by first | rfl | (simp (disch := omega) only [rv_self, rv_ne, rl_self, rl_ne, rA_self, rA_ne, rL_self, rL_ne, rR_self, rR_ne, xvl, xvA, xvL, xvR, xlv, xlA, xlL, xlR, xAv, xAl, xAL, xAR, xLv, xLl, xLA, xLR, xRv, xRl, xRA, xRL]; done)) (by first | rfl | (simp (disch := omega) only [rv_self, rv_ne, rl_self, rl_ne, rA_self, rA_ne, rL_self, rL_ne, rR_self, rR_ne, xvl, xvA, xvL, xvR, xlv, xlA, xlL, xlR, xAv, xAl, xAL, xAR, xLv, xLl, xLA, xLR, xRv, xRl, xRA, xRL]; done))
