/-! The class takes operands, and what stands between them. -/
section P5
variable {Y : Int → Int64} {D : List Dcl} {n : Int} {m : Nat} {dp a : Int} {acc : List Nd}
def prm (Y : Int → Int64) (D : List Dcl) (n : Int) (m : Nat) (dp a : Int) : PR := if Y a = 40 then (px Y D n m 0 (dp + 1) (a + 1) []).bind (fun q => if Y q.1 = 41 then some (q.1 + 1, q.2.1, 0) else none) else if wk (Y a) = 5 then some (a + 1, [(18, a, 0)], 0) else if wk (Y a) = 4 ∧ isT D (Y a) = false then some (a + 1, [(17, a, 0)], 0) else none
theorem bind_none {α β : Type} {o : Option α} {f : α → Option β} (h : o = none) : o.bind f = none := by rw [h]; rfl
theorem bind_eq {α β : Type} {o : Option α} {f : α → Option β} {q : α} (h : o = some q) : o.bind f = f q := by rw [h]; rfl
theorem px_5a (h : prf (Y a) = true) : px Y D n (m + 1) 5 dp a acc = (px Y D n m 5 dp (a + 1) []).bind (fun r => some (r.1, (13, a, 1) :: r.2.1, 0)) := by
  rw [px_5, if_pos h]
theorem px_5c (h : prf (Y a) = false) (h2 : Y a = 40 ∧ isT D (Y (a + 1)) = true) : px Y D n (m + 1) 5 dp a acc = (cst Y n a).bind (fun q => (px Y D n m 5 dp q.1 []).bind (fun r => some (r.1, q.2.1 ++ r.2.1, 0))) := by
  rw [px_5, if_neg (by rw [h]; decide), if_pos h2]
  unfold cst
  by_cases c : Y (stN Y n (a + 2)) = 41
  · rw [if_pos c, if_pos c]
    rfl
  · rw [if_neg c, if_neg c]
    rfl
theorem px_5p (h : prf (Y a) = false) (h2 : ¬ (Y a = 40 ∧ isT D (Y (a + 1)) = true)) : px Y D n (m + 1) 5 dp a acc = (prm Y D n m dp a).bind (fun q => px Y D n m 6 dp q.1 q.2.1) := by
  rw [px_5, if_neg (by rw [h]; decide), if_neg h2]
  unfold prm
  by_cases c : Y a = 40
  · rw [if_pos c, if_pos c]
    cases px Y D n m 0 (dp + 1) (a + 1) [] with
    | none => rfl
    | some q =>
      show (if Y q.1 = 41 then _ else none) = ((if Y q.1 = 41 then some (q.1 + 1, q.2.1, 0) else none : PR)).bind _
      by_cases c2 : Y q.1 = 41
      · rw [if_pos c2, if_pos c2]
        rfl
      · rw [if_neg c2, if_neg c2]
        rfl
  · rw [if_neg c, if_neg c]
    by_cases c2 : wk (Y a) = 5
    · rw [if_pos c2, if_pos c2]
      rfl
    · rw [if_neg c2, if_neg c2]
      by_cases c3 : wk (Y a) = 4 ∧ isT D (Y a) = false
      · rw [if_pos c3, if_pos c3]
        rfl
      · rw [if_neg c3, if_neg c3]
        rfl
end P5
theorem c_prm {sc : x_S} {d : Nat} {S : w_S} {nn : Int} {Y : Int → Int64} {D : List Dcl} {a : Int} {M : List Nd} {dp : Int} {m : Nat} (H : CE sc m) (hw : PW S nn Y D a M) (hn0 : 0 < nn) (hdp : 0 ≤ dp) (hdp2 : dp ≤ 12) (hfu : 20 * (nn - a) + 12 ≤ (m : Int)) (hrm : (M.length : Int) + (nn - a) ≤ 156) (hdd : 16 * (13 - dp) + 33 ≤ (d : Int)) (hd : 0 ≤ d) : w_T sc d 60 0 (x_en 0 [.ref 234, .int (iZ dp)]) [] S (XR S nn Y D M (prm Y D nn m dp a)) := by
  have hnn := hw.1.1
  have hn1 := hw.1.2.1
  have ha0 := hw.2.2.2.2.1
  have ha1 := hw.2.2.2.2.2
  have f0 : fr (fun a => 234 ≤ a ∧ a ≤ 242) S S := fr_refl _ _
  have hY : ∀ k : Int, nn ≤ k → Y k = 0 := hw.1.2.2.2.2.2
  refine w_aload_n rfl rfl rfl ?_
  refine w_bipush rfl (by decide) rfl ?_
  by_cases k3 : Y a = 40
  · skip
    refine w_CV (as := [.int (iZ 40)]) (r := []) rfl rfl rfl rfl sh_234 (Nat.le_of_ble_eq_true rfl) (Nat.le_of_ble_eq_true rfl) (by omega) rfl (c_tk1 (c := 40) (x := 40) hw (by decide) (by decide) (by decide) (by decide) k3 (by omega)) ?_
    rintro _ V1 ⟨rfl, g1, hw1⟩
    show w_T _ _ 60 6 _ [.int (iZ 1)] _ _
    have f1 := fr_trans f0 g1
    have kl3 := Y_lt hw (by decide) k3
    refine w_if_eq (pc2 := 34) (pc3 := 9) rfl (by decide) rfl ⟨by decide, by decide⟩ (fun hc => absurd hc (by decide)) (fun _ => ?_)
    refine w_aload_n rfl rfl rfl ?_
    refine w_iload_n rfl rfl rfl ?_
    refine w_iconst rfl rfl ?_
    refine w_iadd rfl rfl ?_
    rcases e13 : px Y D nn m 0 (dp + 1) (a + 1) [] with _ | q13
    · skip
      refine w_CV (as := [.int (iZ (dp + 1))]) (r := []) rfl rfl rfl rfl sh_234 (Nat.le_of_ble_eq_true rfl) (Nat.le_of_ble_eq_true rfl) (by omega) rfl (w_mono (H _ _ nn Y D (a + 1) (M) (dp + 1) hw1 hn0 (by omega) (by omega) (by omega) (by (try simp only [List.length_append, List.length_cons, List.length_nil, stF_len]); omega) (by omega)) (fun v S2 h => h.1 e13)) ?_
      rintro _ V3 ⟨rfl, g3⟩
      show w_T _ _ 60 16 _ [.int (iZ 0)] _ _
      have f3 := fr_trans f1 g3
      refine w_if_eq (pc2 := 32) (pc3 := 19) rfl (by decide) rfl ⟨by decide, by decide⟩ (fun _ => ?_) (fun hc => absurd hc (by decide))
      refine w_iconst rfl rfl ?_
      refine w_zret rfl rfl (by decide) ?_
      have hres : (prm Y D nn m dp a) = none := by
        unfold prm
        rw [if_pos k3, e13]
        first
          | rfl
          | (show (if Y q13.1 = 41 then _ else none) = _; rw [if_neg k22])
      exact XR_n hres f3
    · skip
      refine w_CV (as := [.int (iZ (dp + 1))]) (r := []) rfl rfl rfl rfl sh_234 (Nat.le_of_ble_eq_true rfl) (Nat.le_of_ble_eq_true rfl) (by omega) rfl (w_mono (H _ _ nn Y D (a + 1) (M) (dp + 1) hw1 hn0 (by omega) (by omega) (by omega) (by (try simp only [List.length_append, List.length_cons, List.length_nil, stF_len]); omega) (by omega)) (fun v S2 h => h.2 _ e13)) ?_
      rintro _ V4 ⟨rfl, g4, hw4⟩
      show w_T _ _ 60 16 _ [.int (iZ 1)] _ _
      have f4 := fr_trans f1 g4
      have r13 := px_r hY m 0 (dp + 1) (a + 1) [] q13 (by omega) (by omega) e13
      rw [if_neg (by decide)] at r13
      have r13b := r13.2.2.2.1.resolve_left (by decide)
      refine w_if_eq (pc2 := 32) (pc3 := 19) rfl (by decide) rfl ⟨by decide, by decide⟩ (fun hc => absurd hc (by decide)) (fun _ => ?_)
      refine w_aload_n rfl rfl rfl ?_
      refine w_bipush rfl (by decide) rfl ?_
      by_cases k22 : Y q13.1 = 41
      · skip
        refine w_CV (as := [.int (iZ 41)]) (r := []) rfl rfl rfl rfl sh_234 (Nat.le_of_ble_eq_true rfl) (Nat.le_of_ble_eq_true rfl) (by omega) rfl (c_tk1 (c := 41) (x := 41) hw4 (by decide) (by decide) (by decide) (by decide) k22 (by omega)) ?_
        rintro _ V5 ⟨rfl, g5, hw5⟩
        show w_T _ _ 60 25 _ [.int (iZ 1)] _ _
        have f5 := fr_trans f4 g5
        have kl22 := Y_lt hw4 (by decide) k22
        refine w_if_eq (pc2 := 32) (pc3 := 28) rfl (by decide) rfl ⟨by decide, by decide⟩ (fun hc => absurd hc (by decide)) (fun _ => ?_)
        refine w_iconst rfl rfl ?_
        refine w_goto (pc2 := 33) rfl (by decide) ?_
        refine w_zret rfl rfl (by decide) ?_
        have hres : (prm Y D nn m dp a) = some (q13.1 + 1, q13.2.1, 0) := by
          unfold prm
          rw [if_pos k3, e13]
          show (if Y q13.1 = 41 then _ else none) = _
          rw [if_pos k22]
        exact XR_s hres f5 hw5
      · skip
        refine w_CV (as := [.int (iZ 41)]) (r := []) rfl rfl rfl rfl sh_234 (Nat.le_of_ble_eq_true rfl) (Nat.le_of_ble_eq_true rfl) (by omega) rfl (c_tk0 (c := 41) (x := 41) hw4 (by decide) (by decide) (by decide) (by decide) k22 (by omega)) ?_
        rintro _ V6 ⟨rfl, g6, hw6⟩
        show w_T _ _ 60 25 _ [.int (iZ 0)] _ _
        have f6 := fr_trans f4 g6
        refine w_if_eq (pc2 := 32) (pc3 := 28) rfl (by decide) rfl ⟨by decide, by decide⟩ (fun _ => ?_) (fun hc => absurd hc (by decide))
        refine w_iconst rfl rfl ?_
        refine w_zret rfl rfl (by decide) ?_
        have hres : (prm Y D nn m dp a) = none := by
          unfold prm
          rw [if_pos k3, e13]
          first
            | rfl
            | (show (if Y q13.1 = 41 then _ else none) = _; rw [if_neg k22])
        exact XR_n hres f6
  · skip
    refine w_CV (as := [.int (iZ 40)]) (r := []) rfl rfl rfl rfl sh_234 (Nat.le_of_ble_eq_true rfl) (Nat.le_of_ble_eq_true rfl) (by omega) rfl (c_tk0 (c := 40) (x := 40) hw (by decide) (by decide) (by decide) (by decide) k3 (by omega)) ?_
    rintro _ V2 ⟨rfl, g2, hw2⟩
    show w_T _ _ 60 6 _ [.int (iZ 0)] _ _
    have f2 := fr_trans f0 g2
    refine w_if_eq (pc2 := 34) (pc3 := 9) rfl (by decide) rfl ⟨by decide, by decide⟩ (fun _ => ?_) (fun hc => absurd hc (by decide))
    refine w_aload_n rfl rfl rfl ?_
    refine w_getR rfl rfl sh_234 rfl rfl ?_
    refine w_aload_n rfl rfl rfl ?_
    refine w_getI (z := a) rfl rfl sh_234 rfl hw2.2.2.1 rfl ?_
    refine w_iald (z := wk (Y a)) rfl sh_240 (by omega) (by omega) (by decide) (hw2.1.2.2.2.1 _ (by omega) (by omega)).2 rfl ?_
    have hwk := wk_r (Y a)
    refine w_iconst rfl rfl ?_
    refine w_ic_ne (pc2 := 51) (pc3 := 47) rfl (by decide) rfl ⟨by omega, by omega⟩ ⟨by decide, by decide⟩ (fun c44 => ?_) (fun c44 => ?_)
    · skip
      refine w_iconst rfl rfl ?_
      refine w_istore_n rfl (by decide) rfl ?_
      refine w_aload_n rfl rfl rfl ?_
      refine w_getR rfl rfl sh_234 rfl rfl ?_
      refine w_aload_n rfl rfl rfl ?_
      refine w_getI (z := a) rfl rfl sh_234 rfl hw2.2.2.1 rfl ?_
      refine w_iald (z := wk (Y a)) rfl sh_240 (by omega) (by omega) (by decide) (hw2.1.2.2.2.1 _ (by omega) (by omega)).2 rfl ?_
      refine w_iconst rfl rfl ?_
      refine w_ic_ne (pc2 := 81) (pc3 := 66) rfl (by decide) rfl ⟨by omega, by omega⟩ ⟨by decide, by decide⟩ (fun c63 => ?_) (fun c63 => ?_)
      · skip
        refine w_iconst rfl rfl ?_
        refine w_istore_n rfl (by decide) rfl ?_
        refine w_aload_n rfl rfl rfl ?_
        refine w_getR rfl rfl sh_234 rfl rfl ?_
        refine w_iload_n rfl rfl rfl ?_
        refine w_if_eq (pc2 := 96) (pc3 := 91) rfl (by decide) rfl ⟨by decide, by decide⟩ (fun _ => ?_) (fun hc => absurd hc (by decide))
        refine w_bipush rfl (by decide) rfl ?_
        refine w_aload_n rfl rfl rfl ?_
        refine w_getI (z := a) rfl rfl sh_234 rfl hw2.2.2.1 rfl ?_
        refine w_iconst rfl rfl ?_
        refine w_CV (as := [.int (iZ 17), .int (iZ a), .int (iZ 0)]) (r := []) rfl rfl rfl rfl sh_235 (Nat.le_of_ble_eq_true rfl) (Nat.le_of_ble_eq_true rfl) (by omega) rfl (c_tadd (M := M) hw2.2.2.2.1 (by (try simp only [List.length_append, List.length_cons, List.length_nil, stF_len]); omega) (by omega)) ?_
        rintro _ V7 ⟨rfl, g7, ht7⟩
        show w_T _ _ 60 106 _ [.int (iZ ((M.length : Int)))] _ _
        have hw7 := PW_tree hw2 g7 ht7
        have f7 := fr_trans f2 (fr_mono g7 (fun a h => by omega))
        refine w_pop rfl rfl rfl ?_
        refine w_aload_n rfl rfl rfl ?_
        refine w_dup rfl rfl rfl ?_
        refine w_getI (z := a) rfl rfl sh_234 rfl hw7.2.2.1 rfl ?_
        refine w_iload_n rfl rfl rfl ?_
        refine w_if_ne (pc2 := 120) (pc3 := 116) rfl (by decide) rfl ⟨by decide, by decide⟩ (fun hc => absurd hc (by decide)) (fun _ => ?_)
        refine w_iload_n rfl rfl rfl ?_
        refine w_if_eq (pc2 := 124) (pc3 := 120) rfl (by decide) rfl ⟨by decide, by decide⟩ (fun _ => ?_) (fun hc => absurd hc (by decide))
        refine w_iconst rfl rfl ?_
        refine w_iadd rfl rfl ?_
        refine w_putf rfl rfl sh_234 rfl rfl (by decide) rfl ?_
        refine w_iload_n rfl rfl rfl ?_
        refine w_if_ne (pc2 := 137) (pc3 := 133) rfl (by decide) rfl ⟨by decide, by decide⟩ (fun hc => absurd hc (by decide)) (fun _ => ?_)
        refine w_iload_n rfl rfl rfl ?_
        refine w_if_eq (pc2 := 141) (pc3 := 137) rfl (by decide) rfl ⟨by decide, by decide⟩ (fun _ => ?_) (fun hc => absurd hc (by decide))
        refine w_iconst rfl rfl ?_
        refine w_zret rfl rfl (by decide) ?_
        have hres : (prm Y D nn m dp a) = none := by
          unfold prm
          rw [if_neg k3, if_neg c44]
          first
            | (rw [if_neg (fun z => c63 z.1)]; done)
            | (rw [if_neg (fun z => by rw [c74] at z; exact Bool.noConfusion z.2)]; done)
        exact XR_n hres (fr_v f7 (by omega))
      · skip
        refine w_aload_n rfl rfl rfl ?_
        refine w_aload_n rfl rfl rfl ?_
        refine w_getI (z := a) rfl rfl sh_234 rfl hw2.2.2.1 rfl ?_
        refine w_CV (as := [.int (iZ a)]) (r := []) rfl rfl rfl rfl sh_234 (Nat.le_of_ble_eq_true rfl) (Nat.le_of_ble_eq_true rfl) (by omega) rfl (c_ist (i := a) hw2 (by omega) (by omega) (by omega)) ?_
        rintro _ _ ⟨rfl, hS⟩
        rw [hS]
        show w_T _ _ 60 74 _ [.int (iZ (zB (isT D (Y a))))] _ _
        refine w_b_ne (pc2 := 81) (pc3 := 77) rfl (by decide) rfl (fun c74 => ?_) (fun c74 => ?_)
        · skip
          refine w_iconst rfl rfl ?_
          refine w_istore_n rfl (by decide) rfl ?_
          refine w_aload_n rfl rfl rfl ?_
          refine w_getR rfl rfl sh_234 rfl rfl ?_
          refine w_iload_n rfl rfl rfl ?_
          refine w_if_eq (pc2 := 96) (pc3 := 91) rfl (by decide) rfl ⟨by decide, by decide⟩ (fun _ => ?_) (fun hc => absurd hc (by decide))
          refine w_bipush rfl (by decide) rfl ?_
          refine w_aload_n rfl rfl rfl ?_
          refine w_getI (z := a) rfl rfl sh_234 rfl hw2.2.2.1 rfl ?_
          refine w_iconst rfl rfl ?_
          refine w_CV (as := [.int (iZ 17), .int (iZ a), .int (iZ 0)]) (r := []) rfl rfl rfl rfl sh_235 (Nat.le_of_ble_eq_true rfl) (Nat.le_of_ble_eq_true rfl) (by omega) rfl (c_tadd (M := M) hw2.2.2.2.1 (by (try simp only [List.length_append, List.length_cons, List.length_nil, stF_len]); omega) (by omega)) ?_
          rintro _ V8 ⟨rfl, g8, ht8⟩
          show w_T _ _ 60 106 _ [.int (iZ ((M.length : Int)))] _ _
          have hw8 := PW_tree hw2 g8 ht8
          have f8 := fr_trans f2 (fr_mono g8 (fun a h => by omega))
          refine w_pop rfl rfl rfl ?_
          refine w_aload_n rfl rfl rfl ?_
          refine w_dup rfl rfl rfl ?_
          refine w_getI (z := a) rfl rfl sh_234 rfl hw8.2.2.1 rfl ?_
          refine w_iload_n rfl rfl rfl ?_
          refine w_if_ne (pc2 := 120) (pc3 := 116) rfl (by decide) rfl ⟨by decide, by decide⟩ (fun hc => absurd hc (by decide)) (fun _ => ?_)
          refine w_iload_n rfl rfl rfl ?_
          refine w_if_eq (pc2 := 124) (pc3 := 120) rfl (by decide) rfl ⟨by decide, by decide⟩ (fun _ => ?_) (fun hc => absurd hc (by decide))
          refine w_iconst rfl rfl ?_
          refine w_iadd rfl rfl ?_
          refine w_putf rfl rfl sh_234 rfl rfl (by decide) rfl ?_
          refine w_iload_n rfl rfl rfl ?_
          refine w_if_ne (pc2 := 137) (pc3 := 133) rfl (by decide) rfl ⟨by decide, by decide⟩ (fun hc => absurd hc (by decide)) (fun _ => ?_)
          refine w_iload_n rfl rfl rfl ?_
          refine w_if_eq (pc2 := 141) (pc3 := 137) rfl (by decide) rfl ⟨by decide, by decide⟩ (fun _ => ?_) (fun hc => absurd hc (by decide))
          refine w_iconst rfl rfl ?_
          refine w_zret rfl rfl (by decide) ?_
          have hres : (prm Y D nn m dp a) = none := by
            unfold prm
            rw [if_neg k3, if_neg c44]
            first
              | (rw [if_neg (fun z => c63 z.1)]; done)
              | (rw [if_neg (fun z => by rw [c74] at z; exact Bool.noConfusion z.2)]; done)
          exact XR_n hres (fr_v f8 (by omega))
        · skip
          refine w_iconst rfl rfl ?_
          refine w_goto (pc2 := 82) rfl (by decide) ?_
          refine w_istore_n rfl (by decide) rfl ?_
          refine w_aload_n rfl rfl rfl ?_
          refine w_getR rfl rfl sh_234 rfl rfl ?_
          refine w_iload_n rfl rfl rfl ?_
          refine w_if_eq (pc2 := 96) (pc3 := 91) rfl (by decide) rfl ⟨by decide, by decide⟩ (fun _ => ?_) (fun hc => absurd hc (by decide))
          refine w_bipush rfl (by decide) rfl ?_
          refine w_aload_n rfl rfl rfl ?_
          refine w_getI (z := a) rfl rfl sh_234 rfl hw2.2.2.1 rfl ?_
          refine w_iconst rfl rfl ?_
          refine w_CV (as := [.int (iZ 17), .int (iZ a), .int (iZ 0)]) (r := []) rfl rfl rfl rfl sh_235 (Nat.le_of_ble_eq_true rfl) (Nat.le_of_ble_eq_true rfl) (by omega) rfl (c_tadd (M := M) hw2.2.2.2.1 (by (try simp only [List.length_append, List.length_cons, List.length_nil, stF_len]); omega) (by omega)) ?_
          rintro _ V9 ⟨rfl, g9, ht9⟩
          show w_T _ _ 60 106 _ [.int (iZ ((M.length : Int)))] _ _
          have hw9 := PW_tree hw2 g9 ht9
          have f9 := fr_trans f2 (fr_mono g9 (fun a h => by omega))
          refine w_pop rfl rfl rfl ?_
          refine w_aload_n rfl rfl rfl ?_
          refine w_dup rfl rfl rfl ?_
          refine w_getI (z := a) rfl rfl sh_234 rfl hw9.2.2.1 rfl ?_
          refine w_iload_n rfl rfl rfl ?_
          refine w_if_ne (pc2 := 120) (pc3 := 116) rfl (by decide) rfl ⟨by decide, by decide⟩ (fun hc => absurd hc (by decide)) (fun _ => ?_)
          refine w_iload_n rfl rfl rfl ?_
          refine w_if_eq (pc2 := 124) (pc3 := 120) rfl (by decide) rfl ⟨by decide, by decide⟩ (fun hc => absurd hc (by decide)) (fun _ => ?_)
          refine w_iconst rfl rfl ?_
          refine w_goto (pc2 := 125) rfl (by decide) ?_
          refine w_iadd rfl rfl ?_
          refine w_putf rfl rfl sh_234 rfl rfl (by decide) rfl ?_
          refine w_iload_n rfl rfl rfl ?_
          refine w_if_ne (pc2 := 137) (pc3 := 133) rfl (by decide) rfl ⟨by decide, by decide⟩ (fun hc => absurd hc (by decide)) (fun _ => ?_)
          refine w_iload_n rfl rfl rfl ?_
          refine w_if_eq (pc2 := 141) (pc3 := 137) rfl (by decide) rfl ⟨by decide, by decide⟩ (fun hc => absurd hc (by decide)) (fun _ => ?_)
          refine w_iconst rfl rfl ?_
          refine w_goto (pc2 := 142) rfl (by decide) ?_
          refine w_zret rfl rfl (by decide) ?_
          have hal : a < nn := by
            by_cases z : a < nn
            · exact z
            · rw [hY a (by omega), wk_0] at *
              omega
          have hw9 := PW_at hw9 (b := a + 1) (by omega) (by omega)
          have hres : (prm Y D nn m dp a) = some (a + 1, [(17, a, 0)], 0) := by
            unfold prm
            rw [if_neg k3]
            first
              | (rw [if_pos c44]; done)
              | (rw [if_neg c44, if_pos ⟨c63, c74⟩]; done)
          exact XR_s hres (fr_v f9 (by omega)) hw9
    · skip
      refine w_iconst rfl rfl ?_
      refine w_goto (pc2 := 52) rfl (by decide) ?_
      refine w_istore_n rfl (by decide) rfl ?_
      refine w_aload_n rfl rfl rfl ?_
      refine w_getR rfl rfl sh_234 rfl rfl ?_
      refine w_aload_n rfl rfl rfl ?_
      refine w_getI (z := a) rfl rfl sh_234 rfl hw2.2.2.1 rfl ?_
      refine w_iald (z := wk (Y a)) rfl sh_240 (by omega) (by omega) (by decide) (hw2.1.2.2.2.1 _ (by omega) (by omega)).2 rfl ?_
      refine w_iconst rfl rfl ?_
      refine w_ic_ne (pc2 := 81) (pc3 := 66) rfl (by decide) rfl ⟨by omega, by omega⟩ ⟨by decide, by decide⟩ (fun c63 => ?_) (fun c63 => ?_)
      · skip
        refine w_iconst rfl rfl ?_
        refine w_istore_n rfl (by decide) rfl ?_
        refine w_aload_n rfl rfl rfl ?_
        refine w_getR rfl rfl sh_234 rfl rfl ?_
        refine w_iload_n rfl rfl rfl ?_
        refine w_if_eq (pc2 := 96) (pc3 := 91) rfl (by decide) rfl ⟨by decide, by decide⟩ (fun hc => absurd hc (by decide)) (fun _ => ?_)
        refine w_bipush rfl (by decide) rfl ?_
        refine w_goto (pc2 := 98) rfl (by decide) ?_
        refine w_aload_n rfl rfl rfl ?_
        refine w_getI (z := a) rfl rfl sh_234 rfl hw2.2.2.1 rfl ?_
        refine w_iconst rfl rfl ?_
        refine w_CV (as := [.int (iZ 18), .int (iZ a), .int (iZ 0)]) (r := []) rfl rfl rfl rfl sh_235 (Nat.le_of_ble_eq_true rfl) (Nat.le_of_ble_eq_true rfl) (by omega) rfl (c_tadd (M := M) hw2.2.2.2.1 (by (try simp only [List.length_append, List.length_cons, List.length_nil, stF_len]); omega) (by omega)) ?_
        rintro _ V10 ⟨rfl, g10, ht10⟩
        show w_T _ _ 60 106 _ [.int (iZ ((M.length : Int)))] _ _
        have hw10 := PW_tree hw2 g10 ht10
        have f10 := fr_trans f2 (fr_mono g10 (fun a h => by omega))
        refine w_pop rfl rfl rfl ?_
        refine w_aload_n rfl rfl rfl ?_
        refine w_dup rfl rfl rfl ?_
        refine w_getI (z := a) rfl rfl sh_234 rfl hw10.2.2.1 rfl ?_
        refine w_iload_n rfl rfl rfl ?_
        refine w_if_ne (pc2 := 120) (pc3 := 116) rfl (by decide) rfl ⟨by decide, by decide⟩ (fun _ => ?_) (fun hc => absurd hc (by decide))
        refine w_iconst rfl rfl ?_
        refine w_goto (pc2 := 125) rfl (by decide) ?_
        refine w_iadd rfl rfl ?_
        refine w_putf rfl rfl sh_234 rfl rfl (by decide) rfl ?_
        refine w_iload_n rfl rfl rfl ?_
        refine w_if_ne (pc2 := 137) (pc3 := 133) rfl (by decide) rfl ⟨by decide, by decide⟩ (fun _ => ?_) (fun hc => absurd hc (by decide))
        refine w_iconst rfl rfl ?_
        refine w_goto (pc2 := 142) rfl (by decide) ?_
        refine w_zret rfl rfl (by decide) ?_
        have hal : a < nn := by
          by_cases z : a < nn
          · exact z
          · rw [hY a (by omega), wk_0] at *
            omega
        have hw9 := PW_at hw10 (b := a + 1) (by omega) (by omega)
        have hres : (prm Y D nn m dp a) = some (a + 1, [(18, a, 0)], 0) := by
          unfold prm
          rw [if_neg k3]
          first
            | (rw [if_pos c44]; done)
            | (rw [if_neg c44, if_pos ⟨c63, c74⟩]; done)
        exact XR_s hres (fr_v f10 (by omega)) hw9
      · skip
        refine w_aload_n rfl rfl rfl ?_
        refine w_aload_n rfl rfl rfl ?_
        refine w_getI (z := a) rfl rfl sh_234 rfl hw2.2.2.1 rfl ?_
        refine w_CV (as := [.int (iZ a)]) (r := []) rfl rfl rfl rfl sh_234 (Nat.le_of_ble_eq_true rfl) (Nat.le_of_ble_eq_true rfl) (by omega) rfl (c_ist (i := a) hw2 (by omega) (by omega) (by omega)) ?_
        rintro _ _ ⟨rfl, hS⟩
        rw [hS]
        show w_T _ _ 60 74 _ [.int (iZ (zB (isT D (Y a))))] _ _
        refine w_b_ne (pc2 := 81) (pc3 := 77) rfl (by decide) rfl (fun c74 => ?_) (fun c74 => ?_)
        · skip
          refine w_iconst rfl rfl ?_
          refine w_istore_n rfl (by decide) rfl ?_
          refine w_aload_n rfl rfl rfl ?_
          refine w_getR rfl rfl sh_234 rfl rfl ?_
          refine w_iload_n rfl rfl rfl ?_
          refine w_if_eq (pc2 := 96) (pc3 := 91) rfl (by decide) rfl ⟨by decide, by decide⟩ (fun hc => absurd hc (by decide)) (fun _ => ?_)
          refine w_bipush rfl (by decide) rfl ?_
          refine w_goto (pc2 := 98) rfl (by decide) ?_
          refine w_aload_n rfl rfl rfl ?_
          refine w_getI (z := a) rfl rfl sh_234 rfl hw2.2.2.1 rfl ?_
          refine w_iconst rfl rfl ?_
          refine w_CV (as := [.int (iZ 18), .int (iZ a), .int (iZ 0)]) (r := []) rfl rfl rfl rfl sh_235 (Nat.le_of_ble_eq_true rfl) (Nat.le_of_ble_eq_true rfl) (by omega) rfl (c_tadd (M := M) hw2.2.2.2.1 (by (try simp only [List.length_append, List.length_cons, List.length_nil, stF_len]); omega) (by omega)) ?_
          rintro _ V11 ⟨rfl, g11, ht11⟩
          show w_T _ _ 60 106 _ [.int (iZ ((M.length : Int)))] _ _
          have hw11 := PW_tree hw2 g11 ht11
          have f11 := fr_trans f2 (fr_mono g11 (fun a h => by omega))
          refine w_pop rfl rfl rfl ?_
          refine w_aload_n rfl rfl rfl ?_
          refine w_dup rfl rfl rfl ?_
          refine w_getI (z := a) rfl rfl sh_234 rfl hw11.2.2.1 rfl ?_
          refine w_iload_n rfl rfl rfl ?_
          refine w_if_ne (pc2 := 120) (pc3 := 116) rfl (by decide) rfl ⟨by decide, by decide⟩ (fun _ => ?_) (fun hc => absurd hc (by decide))
          refine w_iconst rfl rfl ?_
          refine w_goto (pc2 := 125) rfl (by decide) ?_
          refine w_iadd rfl rfl ?_
          refine w_putf rfl rfl sh_234 rfl rfl (by decide) rfl ?_
          refine w_iload_n rfl rfl rfl ?_
          refine w_if_ne (pc2 := 137) (pc3 := 133) rfl (by decide) rfl ⟨by decide, by decide⟩ (fun _ => ?_) (fun hc => absurd hc (by decide))
          refine w_iconst rfl rfl ?_
          refine w_goto (pc2 := 142) rfl (by decide) ?_
          refine w_zret rfl rfl (by decide) ?_
          have hal : a < nn := by
            by_cases z : a < nn
            · exact z
            · rw [hY a (by omega), wk_0] at *
              omega
          have hw9 := PW_at hw11 (b := a + 1) (by omega) (by omega)
          have hres : (prm Y D nn m dp a) = some (a + 1, [(18, a, 0)], 0) := by
            unfold prm
            rw [if_neg k3]
            first
              | (rw [if_pos c44]; done)
              | (rw [if_neg c44, if_pos ⟨c63, c74⟩]; done)
          exact XR_s hres (fr_v f11 (by omega)) hw9
        · skip
          refine w_iconst rfl rfl ?_
          refine w_goto (pc2 := 82) rfl (by decide) ?_
          refine w_istore_n rfl (by decide) rfl ?_
          refine w_aload_n rfl rfl rfl ?_
          refine w_getR rfl rfl sh_234 rfl rfl ?_
          refine w_iload_n rfl rfl rfl ?_
          refine w_if_eq (pc2 := 96) (pc3 := 91) rfl (by decide) rfl ⟨by decide, by decide⟩ (fun hc => absurd hc (by decide)) (fun _ => ?_)
          refine w_bipush rfl (by decide) rfl ?_
          refine w_goto (pc2 := 98) rfl (by decide) ?_
          refine w_aload_n rfl rfl rfl ?_
          refine w_getI (z := a) rfl rfl sh_234 rfl hw2.2.2.1 rfl ?_
          refine w_iconst rfl rfl ?_
          refine w_CV (as := [.int (iZ 18), .int (iZ a), .int (iZ 0)]) (r := []) rfl rfl rfl rfl sh_235 (Nat.le_of_ble_eq_true rfl) (Nat.le_of_ble_eq_true rfl) (by omega) rfl (c_tadd (M := M) hw2.2.2.2.1 (by (try simp only [List.length_append, List.length_cons, List.length_nil, stF_len]); omega) (by omega)) ?_
          rintro _ V12 ⟨rfl, g12, ht12⟩
          show w_T _ _ 60 106 _ [.int (iZ ((M.length : Int)))] _ _
          have hw12 := PW_tree hw2 g12 ht12
          have f12 := fr_trans f2 (fr_mono g12 (fun a h => by omega))
          refine w_pop rfl rfl rfl ?_
          refine w_aload_n rfl rfl rfl ?_
          refine w_dup rfl rfl rfl ?_
          refine w_getI (z := a) rfl rfl sh_234 rfl hw12.2.2.1 rfl ?_
          refine w_iload_n rfl rfl rfl ?_
          refine w_if_ne (pc2 := 120) (pc3 := 116) rfl (by decide) rfl ⟨by decide, by decide⟩ (fun _ => ?_) (fun hc => absurd hc (by decide))
          refine w_iconst rfl rfl ?_
          refine w_goto (pc2 := 125) rfl (by decide) ?_
          refine w_iadd rfl rfl ?_
          refine w_putf rfl rfl sh_234 rfl rfl (by decide) rfl ?_
          refine w_iload_n rfl rfl rfl ?_
          refine w_if_ne (pc2 := 137) (pc3 := 133) rfl (by decide) rfl ⟨by decide, by decide⟩ (fun _ => ?_) (fun hc => absurd hc (by decide))
          refine w_iconst rfl rfl ?_
          refine w_goto (pc2 := 142) rfl (by decide) ?_
          refine w_zret rfl rfl (by decide) ?_
          have hal : a < nn := by
            by_cases z : a < nn
            · exact z
            · rw [hY a (by omega), wk_0] at *
              omega
          have hw9 := PW_at hw12 (b := a + 1) (by omega) (by omega)
          have hres : (prm Y D nn m dp a) = some (a + 1, [(18, a, 0)], 0) := by
            unfold prm
            rw [if_neg k3]
            first
              | (rw [if_pos c44]; done)
              | (rw [if_neg c44, if_pos ⟨c63, c74⟩]; done)
          exact XR_s hres (fr_v f12 (by omega)) hw9
