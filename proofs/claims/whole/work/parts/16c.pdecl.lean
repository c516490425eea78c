/-! The class takes declarators. -/
theorem pf_z {Y : Int → Int64} : ∀ (m : Nat) (a : Int) (r : Int × List Nd × Int), pf Y m a = some r → r.2.2 = 0
  | 0, a, r, hp => nns hp
  | m + 1, a, r, hp => by
    rw [pf] at hp
    split at hp
    · split at hp
      · obtain ⟨s, hs, h3⟩ := bind_some hp
        cases h3
        rfl
      · exact nns hp
    · split at hp
      · split at hp
        · obtain ⟨s, hs, h3⟩ := bind_some hp
          cases h3
          rfl
        · exact nns hp
      · cases hp
        rfl
theorem c_frm_c {sc : x_S} {d : Nat} {S : w_S} {nn : Int} {Y : Int → Int64} {D : List Dcl} {a : Int} {M : List Nd} {m : Nat} (hw : PW S nn Y D a M) (hn0 : 0 < nn) (hfu : nn + 2 - a ≤ (m : Int)) (hrm : (M.length : Int) + (nn - a) ≤ 160) (hd : 10 ≤ d) : ∀ n : Nat, (∀ (t : Int) (a2 : Int) (N : List Nd) (mm : Nat) (U : w_S) (lv : x_L) (l0 : lv 0 = some (.ref 234)) (l1 : lv 1 = some (.int (iZ t))) (hfr : fr (fun a => 234 ≤ a ∧ a ≤ 242) S U) (hwU : PW U nn Y D a2 (M ++ N)) (hres : (pf Y m a) = (pf Y mm a2).bind (fun r => some (r.1, N ++ r.2.1, 0))) (t0 : 0 ≤ t) (t2 : 2 * t ≤ a2 - a) (hmm : mm ≤ m) (hfu2 : nn + 2 - a2 ≤ (mm : Int)) (hN : (N.length : Int) ≤ a2 - a) (hm : (nn - a2).toNat < n), w_T sc d 52 2 lv [] U (XR S nn Y D M (pf Y m a))) := by
  intro n
  induction n with
  | zero => exact fun t a2 N mm U lv l0 l1 hfr hwU hres t0 t2 hmm hfu2 hN hm => absurd hm (Nat.not_lt_zero _)
  | succ n ih =>
    intro t a2 N mm U lv l0 l1 hfr hwU hres t0 t2 hmm hfu2 hN hm
    have hnn := hw.1.1
    have hn1 := hw.1.2.1
    have ha0 := hw.2.2.2.2.1
    have ha1 := hw.2.2.2.2.2
    have hY : ∀ k : Int, nn ≤ k → Y k = 0 := hw.1.2.2.2.2.2
    have ha0U := hwU.2.2.2.2.1
    have ha1U := hwU.2.2.2.2.2
    refine w_iload_n rfl l1 rfl ?_
    refine w_aload_n rfl l0 rfl ?_
    refine w_getI (z := nn) rfl rfl sh_234 rfl hwU.1.2.2.1 rfl ?_
    refine w_ic_ge (pc2 := 133) (pc3 := 10) rfl (by decide) rfl ⟨by omega, by omega⟩ ⟨by omega, by omega⟩ (fun c7 => ?_) (fun c7 => ?_)
    · omega
    · skip
      obtain ⟨mm2, rfl⟩ := fuel1 hfu2 (by omega)
      refine w_aload_n rfl l0 rfl ?_
      refine w_getI (z := a2) rfl rfl sh_234 rfl hwU.2.2.1 rfl ?_
      refine w_istore_n rfl (by decide) rfl ?_
      refine w_aload_n rfl l0 rfl ?_
      refine w_bipush rfl (by decide) rfl ?_
      by_cases k18 : Y a2 = 40
      · skip
        refine w_CV (as := [.int (iZ 40)]) (r := []) rfl rfl rfl rfl sh_234 (Nat.le_of_ble_eq_true rfl) (Nat.le_of_ble_eq_true rfl) (by omega) rfl (c_tk1 (c := 40) (x := 40) hwU (by decide) (by decide) (by decide) (by decide) k18 (by omega)) ?_
        rintro _ V1 ⟨rfl, g1, hw1⟩
        show w_T _ _ 52 21 _ [.int (iZ 1)] _ _
        have f1 := fr_trans hfr g1
        have kl18 := Y_lt hwU (by decide) k18
        refine w_if_eq (pc2 := 47) (pc3 := 24) rfl (by decide) rfl ⟨by decide, by decide⟩ (fun hc => absurd hc (by decide)) (fun _ => ?_)
        refine w_aload_n rfl l0 rfl ?_
        refine w_getR rfl rfl sh_234 rfl rfl ?_
        refine w_bipush rfl (by decide) rfl ?_
        refine w_iload_n rfl rfl rfl ?_
        refine w_iconst rfl rfl ?_
        refine w_CV (as := [.int (iZ 6), .int (iZ a2), .int (iZ 0)]) (r := []) rfl rfl rfl rfl sh_235 (Nat.le_of_ble_eq_true rfl) (Nat.le_of_ble_eq_true rfl) (by omega) rfl (c_tadd (M := M ++ N) hw1.2.2.2.1 (by (try simp only [List.length_append, List.length_cons, List.length_nil, stF_len, stR_len]); omega) (by omega)) ?_
        rintro _ V3 ⟨rfl, g3, ht3⟩
        show w_T _ _ 52 35 _ [.int (iZ (((M ++ N).length : Int)))] _ _
        have hw3 := PW_tree hw1 g3 ht3
        have f3 := fr_trans f1 (fr_mono g3 (fun a h => by omega))
        refine w_pop rfl rfl rfl ?_
        refine w_aload_n rfl l0 rfl ?_
        refine w_bipush rfl (by decide) rfl ?_
        by_cases k39 : Y (a2 + 1) = 41
        · skip
          refine w_CV (as := [.int (iZ 41)]) (r := []) rfl rfl rfl rfl sh_234 (Nat.le_of_ble_eq_true rfl) (Nat.le_of_ble_eq_true rfl) (by omega) rfl (c_tk1 (c := 41) (x := 41) hw3 (by decide) (by decide) (by decide) (by decide) k39 (by omega)) ?_
          rintro _ V4 ⟨rfl, g4, hw4⟩
          show w_T _ _ 52 42 _ [.int (iZ 1)] _ _
          have f4 := fr_trans f3 g4
          have kl39 := Y_lt hw3 (by decide) k39
          refine w_if_ne (pc2 := 127) (pc3 := 45) rfl (by decide) rfl ⟨by decide, by decide⟩ (fun _ => ?_) (fun hc => absurd hc (by decide))
          refine w_iinc rfl (congrArg x_k2 l1) (by decide) rfl ?_
          refine w_goto (pc2 := 2) rfl (by decide) ?_
          exact ih (t + 1) ((a2 + 1 + 1)) ((N ++ [(6, a2, 0)])) mm2 _ _ (by exact (congrArg x_k2 l0)) (by exact rfl) (by exact f4) (by have q := hw4; simpa [List.append_assoc] using q) (by rw [hres, pf, if_pos k18, if_pos k39, show a2 + 1 + 1 = a2 + 2 by omega]; cases pf Y mm2 (a2 + 2) with | none => rfl | some r => (show some (r.1, N ++ ((6, a2, 0) :: r.2.1), (0 : Int)) = some (r.1, N ++ [(6, a2, 0)] ++ r.2.1, 0); rw [List.append_assoc]; rfl)) (by omega) (by omega) (by omega) (by omega) (by (try simp only [List.length_append, List.length_cons, List.length_nil, stF_len, stR_len]); omega) (by omega)
        · skip
          refine w_CV (as := [.int (iZ 41)]) (r := []) rfl rfl rfl rfl sh_234 (Nat.le_of_ble_eq_true rfl) (Nat.le_of_ble_eq_true rfl) (by omega) rfl (c_tk0 (c := 41) (x := 41) hw3 (by decide) (by decide) (by decide) (by decide) k39 (by omega)) ?_
          rintro _ V5 ⟨rfl, g5, hw5⟩
          show w_T _ _ 52 42 _ [.int (iZ 0)] _ _
          have f5 := fr_trans f3 g5
          refine w_if_ne (pc2 := 127) (pc3 := 45) rfl (by decide) rfl ⟨by decide, by decide⟩ (fun hc => absurd hc (by decide)) (fun _ => ?_)
          refine w_iconst rfl rfl ?_
          refine w_zret rfl rfl (by decide) ?_
          refine XR_n ?_ f5
          rw [hres, pf, if_pos k18, if_neg k39]
          rfl
      · skip
        refine w_CV (as := [.int (iZ 40)]) (r := []) rfl rfl rfl rfl sh_234 (Nat.le_of_ble_eq_true rfl) (Nat.le_of_ble_eq_true rfl) (by omega) rfl (c_tk0 (c := 40) (x := 40) hwU (by decide) (by decide) (by decide) (by decide) k18 (by omega)) ?_
        rintro _ V2 ⟨rfl, g2, hw2⟩
        show w_T _ _ 52 21 _ [.int (iZ 0)] _ _
        have f2 := fr_trans hfr g2
        refine w_if_eq (pc2 := 47) (pc3 := 24) rfl (by decide) rfl ⟨by decide, by decide⟩ (fun _ => ?_) (fun hc => absurd hc (by decide))
        refine w_aload_n rfl l0 rfl ?_
        refine w_bipush rfl (by decide) rfl ?_
        by_cases k50 : Y a2 = 91
        · skip
          refine w_CV (as := [.int (iZ 91)]) (r := []) rfl rfl rfl rfl sh_234 (Nat.le_of_ble_eq_true rfl) (Nat.le_of_ble_eq_true rfl) (by omega) rfl (c_tk1 (c := 91) (x := 91) hw2 (by decide) (by decide) (by decide) (by decide) k50 (by omega)) ?_
          rintro _ V6 ⟨rfl, g6, hw6⟩
          show w_T _ _ 52 53 _ [.int (iZ 1)] _ _
          have f6 := fr_trans f2 g6
          have kl50 := Y_lt hw2 (by decide) k50
          refine w_if_eq (pc2 := 125) (pc3 := 56) rfl (by decide) rfl ⟨by decide, by decide⟩ (fun hc => absurd hc (by decide)) (fun _ => ?_)
          refine w_aload_n rfl l0 rfl ?_
          refine w_getR rfl rfl sh_234 rfl rfl ?_
          refine w_iconst rfl rfl ?_
          refine w_aload_n rfl l0 rfl ?_
          refine w_getI (z := a2 + 1) rfl rfl sh_234 rfl hw6.2.2.1 rfl ?_
          refine w_iconst rfl rfl ?_
          refine w_CV (as := [.int (iZ 5), .int (iZ (a2 + 1)), .int (iZ 0)]) (r := []) rfl rfl rfl rfl sh_235 (Nat.le_of_ble_eq_true rfl) (Nat.le_of_ble_eq_true rfl) (by omega) rfl (c_tadd (M := M ++ N) hw6.2.2.2.1 (by (try simp only [List.length_append, List.length_cons, List.length_nil, stF_len, stR_len]); omega) (by omega)) ?_
          rintro _ V8 ⟨rfl, g8, ht8⟩
          show w_T _ _ 52 69 _ [.int (iZ (((M ++ N).length : Int)))] _ _
          have hw8 := PW_tree hw6 g8 ht8
          have f8 := fr_trans f6 (fr_mono g8 (fun a h => by omega))
          refine w_pop rfl rfl rfl ?_
          refine w_aload_n rfl l0 rfl ?_
          refine w_getR rfl rfl sh_234 rfl rfl ?_
          refine w_aload_n rfl l0 rfl ?_
          refine w_getI (z := a2 + 1) rfl rfl sh_234 rfl hw8.2.2.1 rfl ?_
          refine w_iald (z := wk (Y (a2 + 1))) rfl sh_240 (by omega) (by omega) (by decide) (hw8.1.2.2.2.1 _ (by omega) (by omega)).2 rfl ?_
          have hwkr := wk_r (Y (a2 + 1))
          refine w_iconst rfl rfl ?_
          refine w_ic_ne (pc2 := 87) (pc3 := 83) rfl (by decide) rfl ⟨by omega, by omega⟩ ⟨by decide, by decide⟩ (fun c80 => ?_) (fun c80 => ?_)
          · skip
            refine w_iconst rfl rfl ?_
            refine w_istore_n rfl (by decide) rfl ?_
            refine w_aload_n rfl l0 rfl ?_
            refine w_dup rfl rfl rfl ?_
            refine w_getI (z := a2 + 1) rfl rfl sh_234 rfl hw8.2.2.1 rfl ?_
            refine w_iload_n rfl rfl rfl ?_
            refine w_if_eq (pc2 := 102) (pc3 := 98) rfl (by decide) rfl ⟨by decide, by decide⟩ (fun _ => ?_) (fun hc => absurd hc (by decide))
            refine w_iconst rfl rfl ?_
            refine w_iadd rfl rfl ?_
            refine w_putf rfl rfl sh_234 rfl rfl (by decide) rfl ?_
            refine w_iload_n rfl rfl rfl ?_
            refine w_if_eq (pc2 := 120) (pc3 := 111) rfl (by decide) rfl ⟨by decide, by decide⟩ (fun _ => ?_) (fun hc => absurd hc (by decide))
            refine w_iconst rfl rfl ?_
            refine w_zret rfl rfl (by decide) ?_
            refine XR_n ?_ (fr_v f8 (by omega))
            rw [hres, pf, if_neg k18, if_pos k50]
            first
              | (rw [if_neg (fun z => c80 z.1)]; rfl)
              | (rw [if_neg (fun z => k114 (by rw [show a2 + 1 + 1 = a2 + 2 by omega]; exact z.2))]; rfl)
          · skip
            have hal2 := wk_ne hY (by decide) c80
            refine w_iconst rfl rfl ?_
            refine w_goto (pc2 := 88) rfl (by decide) ?_
            refine w_istore_n rfl (by decide) rfl ?_
            refine w_aload_n rfl l0 rfl ?_
            refine w_dup rfl rfl rfl ?_
            refine w_getI (z := a2 + 1) rfl rfl sh_234 rfl hw8.2.2.1 rfl ?_
            refine w_iload_n rfl rfl rfl ?_
            refine w_if_eq (pc2 := 102) (pc3 := 98) rfl (by decide) rfl ⟨by decide, by decide⟩ (fun hc => absurd hc (by decide)) (fun _ => ?_)
            refine w_iconst rfl rfl ?_
            refine w_goto (pc2 := 103) rfl (by decide) ?_
            refine w_iadd rfl rfl ?_
            refine w_putf rfl rfl sh_234 rfl rfl (by decide) rfl ?_
            refine w_iload_n rfl rfl rfl ?_
            refine w_if_eq (pc2 := 120) (pc3 := 111) rfl (by decide) rfl ⟨by decide, by decide⟩ (fun hc => absurd hc (by decide)) (fun _ => ?_)
            refine w_aload_n rfl l0 rfl ?_
            refine w_bipush rfl (by decide) rfl ?_
            by_cases k114 : Y (a2 + 1 + 1) = 93
            · skip
              refine w_CV (as := [.int (iZ 93)]) (r := []) rfl rfl rfl rfl sh_234 (Nat.le_of_ble_eq_true rfl) (Nat.le_of_ble_eq_true rfl) (by omega) rfl (c_tk1 (c := 93) (x := 93) (PW_at hw8 (b := a2 + 1 + 1) (by omega) (by omega)) (by decide) (by decide) (by decide) (by decide) k114 (by omega)) ?_
              rintro _ V9 ⟨rfl, g9, hw9⟩
              show w_T _ _ 52 117 _ [.int (iZ 1)] _ _
              have f9 := fr_trans (fr_v f8 (by omega)) g9
              have kl114 := Y_lt (PW_at hw8 (b := a2 + 1 + 1) (by omega) (by omega)) (by decide) k114
              refine w_if_ne (pc2 := 122) (pc3 := 120) rfl (by decide) rfl ⟨by decide, by decide⟩ (fun _ => ?_) (fun hc => absurd hc (by decide))
              refine w_goto (pc2 := 127) rfl (by decide) ?_
              refine w_iinc rfl (congrArg x_k2 l1) (by decide) rfl ?_
              refine w_goto (pc2 := 2) rfl (by decide) ?_
              exact ih (t + 1) ((a2 + 1 + 1 + 1)) ((N ++ [(5, a2 + 1, 0)])) mm2 _ _ (by exact (congrArg x_k2 l0)) (by exact rfl) (by exact f9) (by have q := hw9; simpa [List.append_assoc] using q) (by rw [hres, pf, if_neg k18, if_pos k50, if_pos ⟨c80, by rw [show a2 + 2 = a2 + 1 + 1 by omega]; exact k114⟩, show a2 + 1 + 1 + 1 = a2 + 3 by omega]; cases pf Y mm2 (a2 + 3) with | none => rfl | some r => (show some (r.1, N ++ ((5, a2 + 1, 0) :: r.2.1), (0 : Int)) = some (r.1, N ++ [(5, a2 + 1, 0)] ++ r.2.1, 0); rw [List.append_assoc]; rfl)) (by omega) (by omega) (by omega) (by omega) (by (try simp only [List.length_append, List.length_cons, List.length_nil, stF_len, stR_len]); omega) (by omega)
            · skip
              refine w_CV (as := [.int (iZ 93)]) (r := []) rfl rfl rfl rfl sh_234 (Nat.le_of_ble_eq_true rfl) (Nat.le_of_ble_eq_true rfl) (by omega) rfl (c_tk0 (c := 93) (x := 93) (PW_at hw8 (b := a2 + 1 + 1) (by omega) (by omega)) (by decide) (by decide) (by decide) (by decide) k114 (by omega)) ?_
              rintro _ V10 ⟨rfl, g10, hw10⟩
              show w_T _ _ 52 117 _ [.int (iZ 0)] _ _
              have f10 := fr_trans (fr_v f8 (by omega)) g10
              refine w_if_ne (pc2 := 122) (pc3 := 120) rfl (by decide) rfl ⟨by decide, by decide⟩ (fun hc => absurd hc (by decide)) (fun _ => ?_)
              refine w_iconst rfl rfl ?_
              refine w_zret rfl rfl (by decide) ?_
              refine XR_n ?_ f10
              rw [hres, pf, if_neg k18, if_pos k50]
              first
                | (rw [if_neg (fun z => c80 z.1)]; rfl)
                | (rw [if_neg (fun z => k114 (by rw [show a2 + 1 + 1 = a2 + 2 by omega]; exact z.2))]; rfl)
        · skip
          refine w_CV (as := [.int (iZ 91)]) (r := []) rfl rfl rfl rfl sh_234 (Nat.le_of_ble_eq_true rfl) (Nat.le_of_ble_eq_true rfl) (by omega) rfl (c_tk0 (c := 91) (x := 91) hw2 (by decide) (by decide) (by decide) (by decide) k50 (by omega)) ?_
          rintro _ V7 ⟨rfl, g7, hw7⟩
          show w_T _ _ 52 53 _ [.int (iZ 0)] _ _
          have f7 := fr_trans f2 g7
          refine w_if_eq (pc2 := 125) (pc3 := 56) rfl (by decide) rfl ⟨by decide, by decide⟩ (fun _ => ?_) (fun hc => absurd hc (by decide))
          refine w_iconst rfl rfl ?_
          refine w_zret rfl rfl (by decide) ?_
          refine XR_s (q := (a2, N, 0)) ?_ f7 hw7
          rw [hres, pf, if_neg k18, if_neg k50]
          show some (a2, N ++ [], (0 : Int)) = _
          rw [List.append_nil]
theorem c_frm {sc : x_S} {d : Nat} {S : w_S} {nn : Int} {Y : Int → Int64} {D : List Dcl} {a : Int} {M : List Nd} {m : Nat} (hw : PW S nn Y D a M) (hn0 : 0 < nn) (hfu : nn + 2 - a ≤ (m : Int)) (hrm : (M.length : Int) + (nn - a) ≤ 160) (hd : 10 ≤ d) : w_T sc d 52 0 (x_en 0 [.ref 234]) [] S (XR S nn Y D M (pf Y m a)) := by
  have hnn := hw.1.1
  have hn1 := hw.1.2.1
  have ha0 := hw.2.2.2.2.1
  have ha1 := hw.2.2.2.2.2
  have f0 : fr (fun a => 234 ≤ a ∧ a ≤ 242) S S := fr_refl _ _
  have hY : ∀ k : Int, nn ≤ k → Y k = 0 := hw.1.2.2.2.2.2
  refine w_iconst rfl rfl ?_
  refine w_istore_n rfl (by decide) rfl ?_
  exact (c_frm_c hw hn0 hfu hrm hd _) 0 a ([]) m _ _ rfl rfl (by exact f0) (by rw [List.append_nil]; exact hw) (by exact bind_id (fun r hr => pf_z m a r hr)) (by omega) (by omega) (by omega) (by omega) (by (try simp only [List.length_append, List.length_cons, List.length_nil, stF_len, stR_len]); omega) (Nat.lt_succ_self _)
def pdb (Y : Int → Int64) (n : Int) (m : Nat) (dp s : Int) : PR := if wk (Y s) = 4 then some (s + 1, [(4, s, 0)], 0) else if 12 ≤ dp then none else if Y s = 40 then (pd Y n m (dp + 1) (s + 1)).bind (fun q => if Y q.1 = 41 then some (q.1 + 1, q.2.1, 0) else none) else none
theorem pd_s {Y : Int → Int64} {n : Int} {m : Nat} {dp a : Int} : pd Y n (m + 1) dp a = (pdb Y n m dp (stN Y n a)).bind (fun q => (pf Y 110 q.1).bind (fun r => some (r.1, q.2.1 ++ r.2.1 ++ stR (stN Y n a - a).toNat a, 0))) := rfl
def CD (sc : x_S) (m : Nat) : Prop := ∀ (d : Nat) (S : w_S) (nn : Int) (Y : Int → Int64) (D : List Dcl) (a : Int) (M : List Nd) (dp : Int), PW S nn Y D a M → 0 < nn → 0 ≤ dp → dp ≤ 12 → 13 - dp ≤ m → (M.length : Int) + (nn - a) ≤ 160 → 13 - dp + 15 ≤ d → w_T sc d 51 0 (x_en 0 [.ref 234, .int (iZ dp)]) [] S (XR S nn Y D M (pd Y nn m dp a))
theorem c_dcr_c {sc : x_S} {d : Nat} {S : w_S} {nn : Int} {Y : Int → Int64} {D : List Dcl} {a : Int} {M : List Nd} {dp : Int} {m : Nat} (H : CD sc m) (hw : PW S nn Y D a M) (hn0 : 0 < nn) (hdp : 0 ≤ dp) (hdp2 : dp ≤ 12) (hfu : 12 - dp ≤ (m : Int)) (hrm : (M.length : Int) + (nn - a) ≤ 160) (hdd : 13 - dp + 15 ≤ (d : Int)) (hd9 : 15 ≤ d) (hd : 0 ≤ d) : ∀ n : Nat, (∀ (a2 : Int) (U : w_S) (lv : x_L) (l0 : lv 0 = some (.ref 234)) (l1 : lv 1 = some (.int (iZ dp))) (l2 : lv 2 = some (.int (iZ a))) (hfr : fr (fun a => 234 ≤ a ∧ a ≤ 242) S U) (hwU : PW U nn Y D a2 M) (haa : a ≤ a2) (hs : stN Y nn a = fi (fun j => decide (¬ Y j = 42)) nn a2) (hm : 10000 + (nn - a2).toNat < n), w_T sc d 51 5 lv [] U (XR S nn Y D M (pd Y nn (m + 1) dp a))) ∧ (∀ (s : Int) (k : Int) (N : List Nd) (U : w_S) (lv : x_L) (l0 : lv 0 = some (.ref 234)) (l1 : lv 1 = some (.int (iZ dp))) (l2 : lv 2 = some (.int (iZ a))) (l3 : lv 3 = some (.int (iZ s))) (hfr : fr (fun a => 234 ≤ a ∧ a ≤ 242) S U) (hse : stN Y nn a = s) (has : a ≤ s) (hsk : s < k) (hwU : PW U nn Y D k (M ++ N)) (hN : (N.length : Int) ≤ k - s) (hba : pdb Y nn m dp s = some (k, N, 0)) (hm : 5000 < n), w_T sc d 51 126 lv [] U (XR S nn Y D M (pd Y nn (m + 1) dp a))) ∧ (∀ (s : Int) (k : Int) (N : List Nd) (f : Int × List Nd × Int) (i : Int) (L : List Nd) (U : w_S) (lv : x_L) (l0 : lv 0 = some (.ref 234)) (l1 : lv 1 = some (.int (iZ dp))) (l2 : lv 2 = some (.int (iZ a))) (l3 : lv 3 = some (.int (iZ s))) (l4 : lv 4 = some (.int (iZ i))) (hfr : fr (fun a => 234 ≤ a ∧ a ≤ 242) S U) (hse : stN Y nn a = s) (has : a ≤ s) (hsk : s < k) (hfk : k ≤ f.1) (hwU : PW U nn Y D f.1 (M ++ N ++ f.2.1 ++ L)) (hN : (N.length : Int) ≤ k - s) (hF : 2 * (f.2.1.length : Int) ≤ f.1 - k) (hba : pdb Y nn m dp s = some (k, N, 0)) (hpf : pf Y 110 k = some f) (hi : a - 1 ≤ i) (hi2 : i < s) (hL : (L.length : Int) = s - 1 - i) (hLL : L ++ stR (i + 1 - a).toNat a = stR (s - a).toNat a) (hm : (i + 1 - a).toNat < n), w_T sc d 51 140 lv [] U (XR S nn Y D M (pd Y nn (m + 1) dp a))) := by
  intro n
  induction n with
  | zero => exact ⟨fun a2 U lv l0 l1 l2 hfr hwU haa hs hm => absurd hm (Nat.not_lt_zero _), fun s k N U lv l0 l1 l2 l3 hfr hse has hsk hwU hN hba hm => absurd hm (Nat.not_lt_zero _), fun s k N f i L U lv l0 l1 l2 l3 l4 hfr hse has hsk hfk hwU hN hF hba hpf hi hi2 hL hLL hm => absurd hm (Nat.not_lt_zero _)⟩
  | succ n ih =>
    refine ⟨?_, ?_, ?_⟩
    · skip
      intro a2 U lv l0 l1 l2 hfr hwU haa hs hm
      have hnn := hw.1.1
      have hn1 := hw.1.2.1
      have ha0 := hw.2.2.2.2.1
      have ha1 := hw.2.2.2.2.2
      have hY : ∀ k : Int, nn ≤ k → Y k = 0 := hw.1.2.2.2.2.2
      have ha0U := hwU.2.2.2.2.1
      have ha1U := hwU.2.2.2.2.2
      refine w_aload_n rfl l0 rfl ?_
      refine w_getI (z := a2) rfl rfl sh_234 rfl hwU.2.2.1 rfl ?_
      refine w_aload_n rfl l0 rfl ?_
      refine w_getI (z := nn) rfl rfl sh_234 rfl hwU.1.2.2.1 rfl ?_
      refine w_ic_ge (pc2 := 45) (pc3 := 16) rfl (by decide) rfl ⟨by omega, by omega⟩ ⟨by omega, by omega⟩ (fun c13 => ?_) (fun c13 => ?_)
      · skip
        refine w_aload_n rfl l0 rfl ?_
        refine w_getI (z := a2) rfl rfl sh_234 rfl hwU.2.2.1 rfl ?_
        refine w_istore_n rfl (by decide) rfl ?_
        refine w_aload_n rfl l0 rfl ?_
        refine w_getR rfl rfl sh_234 rfl rfl ?_
        refine w_aload_n rfl l0 rfl ?_
        refine w_getI (z := a2) rfl rfl sh_234 rfl hwU.2.2.1 rfl ?_
        refine w_iald (z := wk (Y a2)) rfl sh_240 (by omega) (by omega) (by decide) (hwU.1.2.2.2.1 _ (by omega) (by omega)).2 rfl ?_
        have hwkr := wk_r (Y a2)
        have hse : stN Y nn a = a2 := by
          rw [hs]
          first
            | rw [fi_end (by omega)]
            | rw [fi_stop (by omega) (decide_eq_true c29)]
        refine w_iconst rfl rfl ?_
        refine w_ic_ne (pc2 := 90) (pc3 := 63) rfl (by decide) rfl ⟨by omega, by omega⟩ ⟨by decide, by decide⟩ (fun c60 => ?_) (fun c60 => ?_)
        · skip
          refine w_iload_n rfl l1 rfl ?_
          refine w_bipush rfl (by decide) rfl ?_
          refine w_ic_ge (pc2 := 124) (pc3 := 96) rfl (by decide) rfl ⟨by omega, by omega⟩ ⟨by decide, by decide⟩ (fun c93 => ?_) (fun c93 => ?_)
          · skip
            refine w_iconst rfl rfl ?_
            refine w_zret rfl rfl (by decide) ?_
            refine XR_n ?_ hfr
            rw [pd_s, hse]
            have hb : pdb Y nn m dp a2 = none := by
              unfold pdb
              rw [if_neg c60]
              first
                | (rw [if_pos (by omega)]; done)
                | (rw [if_neg (by omega), if_neg k99]; done)
                | (rw [if_neg (by omega), if_pos k99, e109]; rfl)
                | (rw [if_neg (by omega), if_pos k99, e109]; show (if Y q109.1 = 41 then _ else none : PR) = _; rw [if_neg k118])
            rw [hb]
            rfl
          · skip
            refine w_aload_n rfl l0 rfl ?_
            refine w_bipush rfl (by decide) rfl ?_
            by_cases k99 : Y a2 = 40
            · skip
              refine w_CV (as := [.int (iZ 40)]) (r := []) rfl rfl rfl rfl sh_234 (Nat.le_of_ble_eq_true rfl) (Nat.le_of_ble_eq_true rfl) (by omega) rfl (c_tk1 (c := 40) (x := 40) hwU (by decide) (by decide) (by decide) (by decide) k99 (by omega)) ?_
              rintro _ V1 ⟨rfl, g1, hw1⟩
              show w_T _ _ 51 102 _ [.int (iZ 1)] _ _
              have f1 := fr_trans hfr g1
              have kl99 := Y_lt hwU (by decide) k99
              refine w_if_eq (pc2 := 124) (pc3 := 105) rfl (by decide) rfl ⟨by decide, by decide⟩ (fun hc => absurd hc (by decide)) (fun _ => ?_)
              refine w_aload_n rfl l0 rfl ?_
              refine w_iload_n rfl l1 rfl ?_
              refine w_iconst rfl rfl ?_
              refine w_iadd rfl rfl ?_
              rcases e109 : pd Y nn m (dp + 1) (a2 + 1) with _ | q109
              · skip
                refine w_CV (as := [.int (iZ (dp + 1))]) (r := []) rfl rfl rfl rfl sh_234 (Nat.le_of_ble_eq_true rfl) (Nat.le_of_ble_eq_true rfl) (by omega) rfl (w_mono (H _ _ nn Y D (a2 + 1) M (dp + 1) hw1 hn0 (by omega) (by omega) (by omega) (by omega) (by omega)) (fun v S2 h => h.1 e109)) ?_
                rintro _ V3 ⟨rfl, g3⟩
                show w_T _ _ 51 112 _ [.int (iZ 0)] _ _
                have f3 := fr_trans f1 g3
                refine w_if_eq (pc2 := 124) (pc3 := 115) rfl (by decide) rfl ⟨by decide, by decide⟩ (fun _ => ?_) (fun hc => absurd hc (by decide))
                refine w_iconst rfl rfl ?_
                refine w_zret rfl rfl (by decide) ?_
                refine XR_n ?_ f3
                rw [pd_s, hse]
                have hb : pdb Y nn m dp a2 = none := by
                  unfold pdb
                  rw [if_neg c60]
                  first
                    | (rw [if_pos (by omega)]; done)
                    | (rw [if_neg (by omega), if_neg k99]; done)
                    | (rw [if_neg (by omega), if_pos k99, e109]; rfl)
                    | (rw [if_neg (by omega), if_pos k99, e109]; show (if Y q109.1 = 41 then _ else none : PR) = _; rw [if_neg k118])
                rw [hb]
                rfl
              · skip
                refine w_CV (as := [.int (iZ (dp + 1))]) (r := []) rfl rfl rfl rfl sh_234 (Nat.le_of_ble_eq_true rfl) (Nat.le_of_ble_eq_true rfl) (by omega) rfl (w_mono (H _ _ nn Y D (a2 + 1) M (dp + 1) hw1 hn0 (by omega) (by omega) (by omega) (by omega) (by omega)) (fun v S2 h => h.2 _ e109)) ?_
                rintro _ V4 ⟨rfl, g4, hw4⟩
                show w_T _ _ 51 112 _ [.int (iZ 1)] _ _
                have f4 := fr_trans f1 g4
                have r109 := pd_r hY m (dp + 1) _ q109 (by omega) e109
                refine w_if_eq (pc2 := 124) (pc3 := 115) rfl (by decide) rfl ⟨by decide, by decide⟩ (fun hc => absurd hc (by decide)) (fun _ => ?_)
                refine w_aload_n rfl l0 rfl ?_
                refine w_bipush rfl (by decide) rfl ?_
                by_cases k118 : Y q109.1 = 41
                · skip
                  refine w_CV (as := [.int (iZ 41)]) (r := []) rfl rfl rfl rfl sh_234 (Nat.le_of_ble_eq_true rfl) (Nat.le_of_ble_eq_true rfl) (by omega) rfl (c_tk1 (c := 41) (x := 41) hw4 (by decide) (by decide) (by decide) (by decide) k118 (by omega)) ?_
                  rintro _ V5 ⟨rfl, g5, hw5⟩
                  show w_T _ _ 51 121 _ [.int (iZ 1)] _ _
                  have f5 := fr_trans f4 g5
                  have kl118 := Y_lt hw4 (by decide) k118
                  refine w_if_ne (pc2 := 126) (pc3 := 124) rfl (by decide) rfl ⟨by decide, by decide⟩ (fun _ => ?_) (fun hc => absurd hc (by decide))
                  exact ih.2.1 a2 ((q109.1 + 1)) q109.2.1 _ _ (by exact l0) (by exact l1) (by exact (congrArg x_k2 l2)) (by exact rfl) (by exact f5) (by exact hse) (by omega) (by first | omega | (show a2 < a2 + 1; omega)) (by exact hw5) (by omega) (by unfold pdb; rw [if_neg c60, if_neg (by omega), if_pos k99, e109]; show (if Y q109.1 = 41 then _ else none : PR) = _; rw [if_pos k118]) (by omega)
                · skip
                  refine w_CV (as := [.int (iZ 41)]) (r := []) rfl rfl rfl rfl sh_234 (Nat.le_of_ble_eq_true rfl) (Nat.le_of_ble_eq_true rfl) (by omega) rfl (c_tk0 (c := 41) (x := 41) hw4 (by decide) (by decide) (by decide) (by decide) k118 (by omega)) ?_
                  rintro _ V6 ⟨rfl, g6, hw6⟩
                  show w_T _ _ 51 121 _ [.int (iZ 0)] _ _
                  have f6 := fr_trans f4 g6
                  refine w_if_ne (pc2 := 126) (pc3 := 124) rfl (by decide) rfl ⟨by decide, by decide⟩ (fun hc => absurd hc (by decide)) (fun _ => ?_)
                  refine w_iconst rfl rfl ?_
                  refine w_zret rfl rfl (by decide) ?_
                  refine XR_n ?_ f6
                  rw [pd_s, hse]
                  have hb : pdb Y nn m dp a2 = none := by
                    unfold pdb
                    rw [if_neg c60]
                    first
                      | (rw [if_pos (by omega)]; done)
                      | (rw [if_neg (by omega), if_neg k99]; done)
                      | (rw [if_neg (by omega), if_pos k99, e109]; rfl)
                      | (rw [if_neg (by omega), if_pos k99, e109]; show (if Y q109.1 = 41 then _ else none : PR) = _; rw [if_neg k118])
                  rw [hb]
                  rfl
            · skip
              refine w_CV (as := [.int (iZ 40)]) (r := []) rfl rfl rfl rfl sh_234 (Nat.le_of_ble_eq_true rfl) (Nat.le_of_ble_eq_true rfl) (by omega) rfl (c_tk0 (c := 40) (x := 40) hwU (by decide) (by decide) (by decide) (by decide) k99 (by omega)) ?_
              rintro _ V2 ⟨rfl, g2, hw2⟩
              show w_T _ _ 51 102 _ [.int (iZ 0)] _ _
              have f2 := fr_trans hfr g2
              refine w_if_eq (pc2 := 124) (pc3 := 105) rfl (by decide) rfl ⟨by decide, by decide⟩ (fun _ => ?_) (fun hc => absurd hc (by decide))
              refine w_iconst rfl rfl ?_
              refine w_zret rfl rfl (by decide) ?_
              refine XR_n ?_ f2
              rw [pd_s, hse]
              have hb : pdb Y nn m dp a2 = none := by
                unfold pdb
                rw [if_neg c60]
                first
                  | (rw [if_pos (by omega)]; done)
                  | (rw [if_neg (by omega), if_neg k99]; done)
                  | (rw [if_neg (by omega), if_pos k99, e109]; rfl)
                  | (rw [if_neg (by omega), if_pos k99, e109]; show (if Y q109.1 = 41 then _ else none : PR) = _; rw [if_neg k118])
              rw [hb]
              rfl
        · skip
          have hal := wk_ne hY (by decide) c60
          refine w_aload_n rfl l0 rfl ?_
          refine w_getR rfl rfl sh_234 rfl rfl ?_
          refine w_iconst rfl rfl ?_
          refine w_aload_n rfl l0 rfl ?_
          refine w_getI (z := a2) rfl rfl sh_234 rfl hwU.2.2.1 rfl ?_
          refine w_iconst rfl rfl ?_
          refine w_CV (as := [.int (iZ 4), .int (iZ a2), .int (iZ 0)]) (r := []) rfl rfl rfl rfl sh_235 (Nat.le_of_ble_eq_true rfl) (Nat.le_of_ble_eq_true rfl) (by omega) rfl (c_tadd (M := M) hwU.2.2.2.1 (by (try simp only [List.length_append, List.length_cons, List.length_nil, stF_len, stR_len]); omega) (by omega)) ?_
          rintro _ V7 ⟨rfl, g7, ht7⟩
          show w_T _ _ 51 76 _ [.int (iZ ((M.length : Int)))] _ _
          have hw7 := PW_tree hwU g7 ht7
          have f7 := fr_trans hfr (fr_mono g7 (fun a h => by omega))
          refine w_pop rfl rfl rfl ?_
          refine w_aload_n rfl l0 rfl ?_
          refine w_dup rfl rfl rfl ?_
          refine w_getI (z := a2) rfl rfl sh_234 rfl hw7.2.2.1 rfl ?_
          refine w_iconst rfl rfl ?_
          refine w_iadd rfl rfl ?_
          refine w_putf rfl rfl sh_234 rfl rfl (by decide) rfl ?_
          refine w_goto (pc2 := 126) rfl (by decide) ?_
          exact ih.2.1 a2 ((a2 + 1)) ([(4, a2, 0)]) _ _ (by exact l0) (by exact l1) (by exact (congrArg x_k2 l2)) (by exact rfl) (by exact (fr_v f7 (by omega))) (by exact hse) (by omega) (by first | omega | (show a2 < a2 + 1; omega)) (by exact (PW_at hw7 (b := a2 + 1) (by omega) (by omega))) (by show ((1 : Nat) : Int) ≤ a2 + 1 - a2; omega) (by unfold pdb; rw [if_pos c60]) (by omega)
      · skip
        refine w_aload_n rfl l0 rfl ?_
        refine w_getR rfl rfl sh_234 rfl rfl ?_
        refine w_aload_n rfl l0 rfl ?_
        refine w_getI (z := a2) rfl rfl sh_234 rfl hwU.2.2.1 rfl ?_
        refine w_lald (z := Y a2) rfl sh_239 (by omega) (by omega) (by decide) (hwU.1.2.2.2.1 _ (by omega) (by omega)).1 rfl ?_
        refine w_ldc2 (v := 42) rfl rfl rfl ?_
        refine w_l_ne (pc2 := 45) (pc3 := 32) rfl rfl (by decide) rfl (fun c29 => ?_) (fun c29 => ?_)
        · skip
          refine w_aload_n rfl l0 rfl ?_
          refine w_getI (z := a2) rfl rfl sh_234 rfl hwU.2.2.1 rfl ?_
          refine w_istore_n rfl (by decide) rfl ?_
          refine w_aload_n rfl l0 rfl ?_
          refine w_getR rfl rfl sh_234 rfl rfl ?_
          refine w_aload_n rfl l0 rfl ?_
          refine w_getI (z := a2) rfl rfl sh_234 rfl hwU.2.2.1 rfl ?_
          refine w_iald (z := wk (Y a2)) rfl sh_240 (by omega) (by omega) (by decide) (hwU.1.2.2.2.1 _ (by omega) (by omega)).2 rfl ?_
          have hwkr := wk_r (Y a2)
          have hse : stN Y nn a = a2 := by
            rw [hs]
            first
              | rw [fi_end (by omega)]
              | rw [fi_stop (by omega) (decide_eq_true c29)]
          refine w_iconst rfl rfl ?_
          refine w_ic_ne (pc2 := 90) (pc3 := 63) rfl (by decide) rfl ⟨by omega, by omega⟩ ⟨by decide, by decide⟩ (fun c60 => ?_) (fun c60 => ?_)
          · skip
            refine w_iload_n rfl l1 rfl ?_
            refine w_bipush rfl (by decide) rfl ?_
            refine w_ic_ge (pc2 := 124) (pc3 := 96) rfl (by decide) rfl ⟨by omega, by omega⟩ ⟨by decide, by decide⟩ (fun c93 => ?_) (fun c93 => ?_)
            · skip
              refine w_iconst rfl rfl ?_
              refine w_zret rfl rfl (by decide) ?_
              refine XR_n ?_ hfr
              rw [pd_s, hse]
              have hb : pdb Y nn m dp a2 = none := by
                unfold pdb
                rw [if_neg c60]
                first
                  | (rw [if_pos (by omega)]; done)
                  | (rw [if_neg (by omega), if_neg k99]; done)
                  | (rw [if_neg (by omega), if_pos k99, e109]; rfl)
                  | (rw [if_neg (by omega), if_pos k99, e109]; show (if Y q109.1 = 41 then _ else none : PR) = _; rw [if_neg k118])
              rw [hb]
              rfl
            · skip
              refine w_aload_n rfl l0 rfl ?_
              refine w_bipush rfl (by decide) rfl ?_
              by_cases k99 : Y a2 = 40
              · skip
                refine w_CV (as := [.int (iZ 40)]) (r := []) rfl rfl rfl rfl sh_234 (Nat.le_of_ble_eq_true rfl) (Nat.le_of_ble_eq_true rfl) (by omega) rfl (c_tk1 (c := 40) (x := 40) hwU (by decide) (by decide) (by decide) (by decide) k99 (by omega)) ?_
                rintro _ V8 ⟨rfl, g8, hw8⟩
                show w_T _ _ 51 102 _ [.int (iZ 1)] _ _
                have f8 := fr_trans hfr g8
                have kl99 := Y_lt hwU (by decide) k99
                refine w_if_eq (pc2 := 124) (pc3 := 105) rfl (by decide) rfl ⟨by decide, by decide⟩ (fun hc => absurd hc (by decide)) (fun _ => ?_)
                refine w_aload_n rfl l0 rfl ?_
                refine w_iload_n rfl l1 rfl ?_
                refine w_iconst rfl rfl ?_
                refine w_iadd rfl rfl ?_
                rcases e109 : pd Y nn m (dp + 1) (a2 + 1) with _ | q109
                · skip
                  refine w_CV (as := [.int (iZ (dp + 1))]) (r := []) rfl rfl rfl rfl sh_234 (Nat.le_of_ble_eq_true rfl) (Nat.le_of_ble_eq_true rfl) (by omega) rfl (w_mono (H _ _ nn Y D (a2 + 1) M (dp + 1) hw8 hn0 (by omega) (by omega) (by omega) (by omega) (by omega)) (fun v S2 h => h.1 e109)) ?_
                  rintro _ V10 ⟨rfl, g10⟩
                  show w_T _ _ 51 112 _ [.int (iZ 0)] _ _
                  have f10 := fr_trans f8 g10
                  refine w_if_eq (pc2 := 124) (pc3 := 115) rfl (by decide) rfl ⟨by decide, by decide⟩ (fun _ => ?_) (fun hc => absurd hc (by decide))
                  refine w_iconst rfl rfl ?_
                  refine w_zret rfl rfl (by decide) ?_
                  refine XR_n ?_ f10
                  rw [pd_s, hse]
                  have hb : pdb Y nn m dp a2 = none := by
                    unfold pdb
                    rw [if_neg c60]
                    first
                      | (rw [if_pos (by omega)]; done)
                      | (rw [if_neg (by omega), if_neg k99]; done)
                      | (rw [if_neg (by omega), if_pos k99, e109]; rfl)
                      | (rw [if_neg (by omega), if_pos k99, e109]; show (if Y q109.1 = 41 then _ else none : PR) = _; rw [if_neg k118])
                  rw [hb]
                  rfl
                · skip
                  refine w_CV (as := [.int (iZ (dp + 1))]) (r := []) rfl rfl rfl rfl sh_234 (Nat.le_of_ble_eq_true rfl) (Nat.le_of_ble_eq_true rfl) (by omega) rfl (w_mono (H _ _ nn Y D (a2 + 1) M (dp + 1) hw8 hn0 (by omega) (by omega) (by omega) (by omega) (by omega)) (fun v S2 h => h.2 _ e109)) ?_
                  rintro _ V11 ⟨rfl, g11, hw11⟩
                  show w_T _ _ 51 112 _ [.int (iZ 1)] _ _
                  have f11 := fr_trans f8 g11
                  have r109 := pd_r hY m (dp + 1) _ q109 (by omega) e109
                  refine w_if_eq (pc2 := 124) (pc3 := 115) rfl (by decide) rfl ⟨by decide, by decide⟩ (fun hc => absurd hc (by decide)) (fun _ => ?_)
                  refine w_aload_n rfl l0 rfl ?_
                  refine w_bipush rfl (by decide) rfl ?_
                  by_cases k118 : Y q109.1 = 41
                  · skip
                    refine w_CV (as := [.int (iZ 41)]) (r := []) rfl rfl rfl rfl sh_234 (Nat.le_of_ble_eq_true rfl) (Nat.le_of_ble_eq_true rfl) (by omega) rfl (c_tk1 (c := 41) (x := 41) hw11 (by decide) (by decide) (by decide) (by decide) k118 (by omega)) ?_
                    rintro _ V12 ⟨rfl, g12, hw12⟩
                    show w_T _ _ 51 121 _ [.int (iZ 1)] _ _
                    have f12 := fr_trans f11 g12
                    have kl118 := Y_lt hw11 (by decide) k118
                    refine w_if_ne (pc2 := 126) (pc3 := 124) rfl (by decide) rfl ⟨by decide, by decide⟩ (fun _ => ?_) (fun hc => absurd hc (by decide))
                    exact ih.2.1 a2 ((q109.1 + 1)) q109.2.1 _ _ (by exact l0) (by exact l1) (by exact (congrArg x_k2 l2)) (by exact rfl) (by exact f12) (by exact hse) (by omega) (by first | omega | (show a2 < a2 + 1; omega)) (by exact hw12) (by omega) (by unfold pdb; rw [if_neg c60, if_neg (by omega), if_pos k99, e109]; show (if Y q109.1 = 41 then _ else none : PR) = _; rw [if_pos k118]) (by omega)
                  · skip
                    refine w_CV (as := [.int (iZ 41)]) (r := []) rfl rfl rfl rfl sh_234 (Nat.le_of_ble_eq_true rfl) (Nat.le_of_ble_eq_true rfl) (by omega) rfl (c_tk0 (c := 41) (x := 41) hw11 (by decide) (by decide) (by decide) (by decide) k118 (by omega)) ?_
                    rintro _ V13 ⟨rfl, g13, hw13⟩
                    show w_T _ _ 51 121 _ [.int (iZ 0)] _ _
                    have f13 := fr_trans f11 g13
                    refine w_if_ne (pc2 := 126) (pc3 := 124) rfl (by decide) rfl ⟨by decide, by decide⟩ (fun hc => absurd hc (by decide)) (fun _ => ?_)
                    refine w_iconst rfl rfl ?_
                    refine w_zret rfl rfl (by decide) ?_
                    refine XR_n ?_ f13
                    rw [pd_s, hse]
                    have hb : pdb Y nn m dp a2 = none := by
                      unfold pdb
                      rw [if_neg c60]
                      first
                        | (rw [if_pos (by omega)]; done)
                        | (rw [if_neg (by omega), if_neg k99]; done)
                        | (rw [if_neg (by omega), if_pos k99, e109]; rfl)
                        | (rw [if_neg (by omega), if_pos k99, e109]; show (if Y q109.1 = 41 then _ else none : PR) = _; rw [if_neg k118])
                    rw [hb]
                    rfl
              · skip
                refine w_CV (as := [.int (iZ 40)]) (r := []) rfl rfl rfl rfl sh_234 (Nat.le_of_ble_eq_true rfl) (Nat.le_of_ble_eq_true rfl) (by omega) rfl (c_tk0 (c := 40) (x := 40) hwU (by decide) (by decide) (by decide) (by decide) k99 (by omega)) ?_
                rintro _ V9 ⟨rfl, g9, hw9⟩
                show w_T _ _ 51 102 _ [.int (iZ 0)] _ _
                have f9 := fr_trans hfr g9
                refine w_if_eq (pc2 := 124) (pc3 := 105) rfl (by decide) rfl ⟨by decide, by decide⟩ (fun _ => ?_) (fun hc => absurd hc (by decide))
                refine w_iconst rfl rfl ?_
                refine w_zret rfl rfl (by decide) ?_
                refine XR_n ?_ f9
                rw [pd_s, hse]
                have hb : pdb Y nn m dp a2 = none := by
                  unfold pdb
                  rw [if_neg c60]
                  first
                    | (rw [if_pos (by omega)]; done)
                    | (rw [if_neg (by omega), if_neg k99]; done)
                    | (rw [if_neg (by omega), if_pos k99, e109]; rfl)
                    | (rw [if_neg (by omega), if_pos k99, e109]; show (if Y q109.1 = 41 then _ else none : PR) = _; rw [if_neg k118])
                rw [hb]
                rfl
          · skip
            have hal := wk_ne hY (by decide) c60
            refine w_aload_n rfl l0 rfl ?_
            refine w_getR rfl rfl sh_234 rfl rfl ?_
            refine w_iconst rfl rfl ?_
            refine w_aload_n rfl l0 rfl ?_
            refine w_getI (z := a2) rfl rfl sh_234 rfl hwU.2.2.1 rfl ?_
            refine w_iconst rfl rfl ?_
            refine w_CV (as := [.int (iZ 4), .int (iZ a2), .int (iZ 0)]) (r := []) rfl rfl rfl rfl sh_235 (Nat.le_of_ble_eq_true rfl) (Nat.le_of_ble_eq_true rfl) (by omega) rfl (c_tadd (M := M) hwU.2.2.2.1 (by (try simp only [List.length_append, List.length_cons, List.length_nil, stF_len, stR_len]); omega) (by omega)) ?_
            rintro _ V14 ⟨rfl, g14, ht14⟩
            show w_T _ _ 51 76 _ [.int (iZ ((M.length : Int)))] _ _
            have hw14 := PW_tree hwU g14 ht14
            have f14 := fr_trans hfr (fr_mono g14 (fun a h => by omega))
            refine w_pop rfl rfl rfl ?_
            refine w_aload_n rfl l0 rfl ?_
            refine w_dup rfl rfl rfl ?_
            refine w_getI (z := a2) rfl rfl sh_234 rfl hw14.2.2.1 rfl ?_
            refine w_iconst rfl rfl ?_
            refine w_iadd rfl rfl ?_
            refine w_putf rfl rfl sh_234 rfl rfl (by decide) rfl ?_
            refine w_goto (pc2 := 126) rfl (by decide) ?_
            exact ih.2.1 a2 ((a2 + 1)) ([(4, a2, 0)]) _ _ (by exact l0) (by exact l1) (by exact (congrArg x_k2 l2)) (by exact rfl) (by exact (fr_v f14 (by omega))) (by exact hse) (by omega) (by first | omega | (show a2 < a2 + 1; omega)) (by exact (PW_at hw14 (b := a2 + 1) (by omega) (by omega))) (by show ((1 : Nat) : Int) ≤ a2 + 1 - a2; omega) (by unfold pdb; rw [if_pos c60]) (by omega)
        · skip
          refine w_aload_n rfl l0 rfl ?_
          refine w_dup rfl rfl rfl ?_
          refine w_getI (z := a2) rfl rfl sh_234 rfl hwU.2.2.1 rfl ?_
          refine w_iconst rfl rfl ?_
          refine w_iadd rfl rfl ?_
          refine w_putf rfl rfl sh_234 rfl rfl (by decide) rfl ?_
          refine w_goto (pc2 := 5) rfl (by decide) ?_
          exact ih.1 ((a2 + 1)) _ _ l0 l1 l2 (by exact (fr_v hfr (by omega))) (by exact (PW_at hwU (b := a2 + 1) (by omega) (by omega))) (by omega) (by rw [hs, fi_next (by omega) (decide_eq_false (not_not_intro c29))]) (by omega)
    · skip
      intro s k N U lv l0 l1 l2 l3 hfr hse has hsk hwU hN hba hm
      have hnn := hw.1.1
      have hn1 := hw.1.2.1
      have ha0 := hw.2.2.2.2.1
      have ha1 := hw.2.2.2.2.2
      have hY : ∀ k : Int, nn ≤ k → Y k = 0 := hw.1.2.2.2.2.2
      have ha0U := hwU.2.2.2.2.1
      have ha1U := hwU.2.2.2.2.2
      refine w_aload_n rfl l0 rfl ?_
      rcases e127 : pf Y 110 k with _ | q127
      · skip
        refine w_CV (as := []) (r := []) rfl rfl rfl rfl sh_234 (Nat.le_of_ble_eq_true rfl) (Nat.le_of_ble_eq_true rfl) (by omega) rfl (w_mono (c_frm (m := 110) hwU hn0 (by omega) (by (try simp only [List.length_append, List.length_cons, List.length_nil, stF_len, stR_len]); omega) (by omega)) (fun v S2 h => h.1 e127)) ?_
        rintro _ V15 ⟨rfl, g15⟩
        show w_T _ _ 51 130 _ [.int (iZ 0)] _ _
        have f15 := fr_trans hfr g15
        refine w_if_ne (pc2 := 135) (pc3 := 133) rfl (by decide) rfl ⟨by decide, by decide⟩ (fun hc => absurd hc (by decide)) (fun _ => ?_)
        refine w_iconst rfl rfl ?_
        refine w_zret rfl rfl (by decide) ?_
        refine XR_n ?_ f15
        rw [pd_s, hse, hba]
        show (pf Y 110 k).bind _ = _
        rw [e127]
        rfl
      · skip
        refine w_CV (as := []) (r := []) rfl rfl rfl rfl sh_234 (Nat.le_of_ble_eq_true rfl) (Nat.le_of_ble_eq_true rfl) (by omega) rfl (w_mono (c_frm (m := 110) hwU hn0 (by omega) (by (try simp only [List.length_append, List.length_cons, List.length_nil, stF_len, stR_len]); omega) (by omega)) (fun v S2 h => h.2 _ e127)) ?_
        rintro _ V16 ⟨rfl, g16, hw16⟩
        show w_T _ _ 51 130 _ [.int (iZ 1)] _ _
        have f16 := fr_trans hfr g16
        have r127 := pf_r hY 110 k q127 (by omega) e127
        refine w_if_ne (pc2 := 135) (pc3 := 133) rfl (by decide) rfl ⟨by decide, by decide⟩ (fun _ => ?_) (fun hc => absurd hc (by decide))
        refine w_iload_n rfl l3 rfl ?_
        refine w_iconst rfl rfl ?_
        refine w_isub rfl rfl ?_
        refine w_istore rfl (by decide) rfl ?_
        exact ih.2.2 s k N q127 (s - 1) ([]) _ _ (by exact l0) (by exact l1) (by exact l2) (by exact (congrArg x_k2 l3)) (by exact rfl) (by exact f16) (by exact hse) (by omega) (by omega) (by omega) (by rw [List.append_nil]; exact hw16) (by exact hN) (by omega) (by exact hba) (by exact e127) (by omega) (by omega) (by show ((0 : Nat) : Int) = _; omega) (by rw [List.nil_append, show s - 1 + 1 - a = s - a by omega]) (by omega)
    · skip
      intro s k N f i L U lv l0 l1 l2 l3 l4 hfr hse has hsk hfk hwU hN hF hba hpf hi hi2 hL hLL hm
      have hnn := hw.1.1
      have hn1 := hw.1.2.1
      have ha0 := hw.2.2.2.2.1
      have ha1 := hw.2.2.2.2.2
      have hY : ∀ k : Int, nn ≤ k → Y k = 0 := hw.1.2.2.2.2.2
      have ha0U := hwU.2.2.2.2.1
      have ha1U := hwU.2.2.2.2.2
      refine w_iload rfl l4 rfl ?_
      refine w_iload_n rfl l2 rfl ?_
      refine w_ic_lt (pc2 := 165) (pc3 := 146) rfl (by decide) rfl ⟨by omega, by omega⟩ ⟨by omega, by omega⟩ (fun c143 => ?_) (fun c143 => ?_)
      · skip
        refine w_iconst rfl rfl ?_
        refine w_zret rfl rfl (by decide) ?_
        have hL2 : L = stR (s - a).toNat a := by
          rw [← hLL, show (i + 1 - a).toNat = 0 by omega]
          show L = L ++ []
          rw [List.append_nil]
        refine XR_s (q := (f.1, N ++ f.2.1 ++ stR (s - a).toNat a, 0)) ?_ hfr ?_
        · rw [pd_s, hse, hba]
          show (pf Y 110 k).bind _ = _
          rw [hpf]
          rfl
        · have q := hwU
          rw [hL2] at q
          simpa [List.append_assoc] using q
      · skip
        refine w_aload_n rfl l0 rfl ?_
        refine w_getR rfl rfl sh_234 rfl rfl ?_
        refine w_bipush rfl (by decide) rfl ?_
        refine w_iload rfl l4 rfl ?_
        refine w_iconst rfl rfl ?_
        refine w_CV (as := [.int (iZ 7), .int (iZ i), .int (iZ 0)]) (r := []) rfl rfl rfl rfl sh_235 (Nat.le_of_ble_eq_true rfl) (Nat.le_of_ble_eq_true rfl) (by omega) rfl (c_tadd (M := M ++ N ++ f.2.1 ++ L) hwU.2.2.2.1 (by (try simp only [List.length_append, List.length_cons, List.length_nil, stF_len, stR_len]); omega) (by omega)) ?_
        rintro _ V17 ⟨rfl, g17, ht17⟩
        show w_T _ _ 51 158 _ [.int (iZ (((M ++ N ++ f.2.1 ++ L).length : Int)))] _ _
        have hw17 := PW_tree hwU g17 ht17
        have f17 := fr_trans hfr (fr_mono g17 (fun a h => by omega))
        refine w_pop rfl rfl rfl ?_
        refine w_iinc rfl l4 (by decide) rfl ?_
        refine w_goto (pc2 := 140) rfl (by decide) ?_
        exact ih.2.2 s k N f (i + (-1)) ((L ++ [(7, i, 0)])) _ _ (by exact l0) (by exact l1) (by exact l2) (by exact (congrArg x_k2 l3)) (by exact rfl) (by exact f17) (by exact hse) (by omega) (by omega) (by omega) (by have q := hw17; simpa [List.append_assoc] using q) (by exact hN) (by exact hF) (by exact hba) (by exact hpf) (by omega) (by omega) (by (try simp only [List.length_append, List.length_cons, List.length_nil, stF_len, stR_len]); omega) (by rw [← hLL, List.append_assoc, show (i + 1 - a).toNat = (i + -1 + 1 - a).toNat + 1 by omega]; show _ = L ++ ((7, a + (((i + -1 + 1 - a).toNat : Nat) : Int), 0) :: stR (i + -1 + 1 - a).toNat a); rw [show a + (((i + -1 + 1 - a).toNat : Nat) : Int) = i by omega]; rfl) (by omega)
theorem c_dcr {sc : x_S} {d : Nat} {S : w_S} {nn : Int} {Y : Int → Int64} {D : List Dcl} {a : Int} {M : List Nd} {dp : Int} {m : Nat} (H : CD sc m) (hw : PW S nn Y D a M) (hn0 : 0 < nn) (hdp : 0 ≤ dp) (hdp2 : dp ≤ 12) (hfu : 12 - dp ≤ (m : Int)) (hrm : (M.length : Int) + (nn - a) ≤ 160) (hdd : 13 - dp + 15 ≤ (d : Int)) (hd9 : 15 ≤ d) (hd : 0 ≤ d) : w_T sc d 51 0 (x_en 0 [.ref 234, .int (iZ dp)]) [] S (XR S nn Y D M (pd Y nn (m + 1) dp a)) := by
  have hnn := hw.1.1
  have hn1 := hw.1.2.1
  have ha0 := hw.2.2.2.2.1
  have ha1 := hw.2.2.2.2.2
  have f0 : fr (fun a => 234 ≤ a ∧ a ≤ 242) S S := fr_refl _ _
  have hY : ∀ k : Int, nn ≤ k → Y k = 0 := hw.1.2.2.2.2.2
  refine w_aload_n rfl rfl rfl ?_
  refine w_getI (z := a) rfl rfl sh_234 rfl hw.2.2.1 rfl ?_
  refine w_istore_n rfl (by decide) rfl ?_
  exact (c_dcr_c H hw hn0 hdp hdp2 hfu hrm hdd hd9 hd _).1 a _ _ rfl rfl rfl (by exact f0) (by exact hw) (by omega) (by rfl) (Nat.lt_succ_self _)
theorem CD_all (sc : x_S) : ∀ m : Nat, CD sc m
  | 0 => fun d S nn Y D a M dp hw hn0 hdp hdp2 hfu hrm hdd => by omega
  | m + 1 => fun d S nn Y D a M dp hw hn0 hdp hdp2 hfu hrm hdd => c_dcr (CD_all sc m) hw hn0 hdp hdp2 (by omega) hrm hdd (by omega) (Nat.zero_le _)
