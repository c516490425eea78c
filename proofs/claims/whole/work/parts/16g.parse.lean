/-! The class parses what has come out. -/
def SXU (S : w_S) (n : Int) (Y : Int → Int64) (res : SR) (v : Option Value) (S2 : w_S) : Prop := (res = none → v = some (.int (iZ 0)) ∧ fr (fun a => 234 ≤ a ∧ a ≤ 242) S S2) ∧ (∀ q, res = some q → v = some (.int (iZ 1)) ∧ fr (fun a => 234 ≤ a ∧ a ≤ 242) S S2 ∧ trep S2 ((0, -1, q.2.2.1) :: q.2.1))
theorem bind_idu {o : SR} (h : ∀ r, o = some r → r.2.2.2.2 = false) : o = o.bind (fun r => some (r.1, [] ++ r.2.1, 0 + r.2.2.1, r.2.2.2.1, false)) := by
  cases o with
  | none => rfl
  | some r =>
    show some r = some (r.1, [] ++ r.2.1, 0 + r.2.2.1, r.2.2.2.1, false)
    rw [List.nil_append, Int.zero_add, ← h r rfl]
theorem pu_z {Y : Int → Int64} {n : Int} : ∀ (m : Nat) (a : Int) (D : List Dcl) (r : Int × List Nd × Int × List Dcl × Bool), pu Y n m a D = some r → r.2.2.2.2 = false
  | 0, a, D, r, hp => nns hp
  | m + 1, a, D, r, hp => by
    rw [pu] at hp
    split at hp
    · cases hp
      rfl
    · split at hp
      · obtain ⟨q, hq, h2⟩ := bind_some hp
        obtain ⟨s, hs, h3⟩ := bind_some h2
        cases h3
        rfl
      · exact nns hp
theorem c_unt_c {sc : x_S} {d : Nat} {S : w_S} {nn : Int} {Y : Int → Int64} {m : Nat} (hw : PW S nn Y [] 0 []) (hfu : nn + 2 ≤ (m : Int)) (hd : 300 ≤ d) : ∀ n : Nat, (∀ (t : Int) (a2 : Int) (N : List Nd) (c : Int) (D2 : List Dcl) (mm : Nat) (U : w_S) (lv : x_L) (l0 : lv 0 = some (.ref 234)) (l1 : lv 1 = some (.int (iZ t))) (hfr : fr (fun a => 234 ≤ a ∧ a ≤ 242) S U) (hwU : PW U nn Y D2 a2 ((0, -1, c) :: N)) (hD2 : (D2.length : Int) ≤ a2) (hres : (pu Y nn m 0 []) = (pu Y nn mm a2 D2).bind (fun r => some (r.1, N ++ r.2.1, c + r.2.2.1, r.2.2.2.1, false))) (t0 : 0 ≤ t) (t2 : t ≤ a2) (hfu2 : nn + 2 - a2 ≤ (mm : Int)) (hN : (N.length : Int) ≤ a2) (hm : (nn - a2).toNat < n), w_T sc d 46 13 lv [] U (SXU S nn Y (pu Y nn m 0 []))) := by
  intro n
  induction n with
  | zero => exact fun t a2 N c D2 mm U lv l0 l1 hfr hwU hD2 hres t0 t2 hfu2 hN hm => absurd hm (Nat.not_lt_zero _)
  | succ n ih =>
    intro t a2 N c D2 mm U lv l0 l1 hfr hwU hD2 hres t0 t2 hfu2 hN hm
    have hnn := hw.1.1
    have hn1 := hw.1.2.1
    have ha0 := hw.2.2.2.2.1
    have ha1 := hw.2.2.2.2.2
    have hY : ∀ k : Int, nn ≤ k → Y k = 0 := hw.1.2.2.2.2.2
    have ha0U := hwU.2.2.2.2.1
    have ha1U := hwU.2.2.2.2.2
    refine w_iload_n rfl l1 rfl ?_
    refine w_aload_n rfl l0 rfl ?_
    refine w_getI (z := nn) rfl rfl sh_234 rfl hwU.1.2.2.1 rfl ?_
    refine w_ic_ge (pc2 := 69) (pc3 := 21) rfl (by decide) rfl ⟨by omega, by omega⟩ ⟨by omega, by omega⟩ (fun c18 => ?_) (fun c18 => ?_)
    · skip
      refine w_aload_n rfl l0 rfl ?_
      refine w_getI (z := a2) rfl rfl sh_234 rfl hwU.2.2.1 rfl ?_
      refine w_aload_n rfl l0 rfl ?_
      refine w_getI (z := nn) rfl rfl sh_234 rfl hwU.1.2.2.1 rfl ?_
      refine w_ic_lt (pc2 := 84) (pc3 := 80) rfl (by decide) rfl ⟨by omega, by omega⟩ ⟨by omega, by omega⟩ (fun c77 => ?_) (fun c77 => ?_)
      · skip
        refine w_iconst rfl rfl ?_
        refine w_zret rfl rfl (by decide) ?_
        omega
      · skip
        refine w_iconst rfl rfl ?_
        refine w_goto (pc2 := 85) rfl (by decide) ?_
        refine w_zret rfl rfl (by decide) ?_
        have hle : nn ≤ a2 := by omega
        obtain ⟨mm2, rfl⟩ := fuel1 hfu2 (by omega)
        have hn : (pu Y nn m 0 []) = some (a2, N, c, D2, false) := by
          rw [hres, pu, if_pos hle]
          show some (a2, N ++ [], c + 0, D2, false) = _
          rw [List.append_nil, Int.add_zero]
        refine ⟨fun z => nns (z.symm.trans hn), fun q hq => ?_⟩
        have e : (a2, N, c, D2, false) = q := Option.some.inj (hn.symm.trans hq)
        rw [← e]
        exact ⟨rfl, hfr, hwU.2.2.2.1⟩
    · skip
      refine w_aload_n rfl l0 rfl ?_
      refine w_getI (z := a2) rfl rfl sh_234 rfl hwU.2.2.1 rfl ?_
      refine w_aload_n rfl l0 rfl ?_
      refine w_getI (z := nn) rfl rfl sh_234 rfl hwU.1.2.2.1 rfl ?_
      refine w_ic_ge (pc2 := 69) (pc3 := 32) rfl (by decide) rfl ⟨by omega, by omega⟩ ⟨by omega, by omega⟩ (fun c29 => ?_) (fun c29 => ?_)
      · skip
        refine w_aload_n rfl l0 rfl ?_
        refine w_getI (z := a2) rfl rfl sh_234 rfl hwU.2.2.1 rfl ?_
        refine w_aload_n rfl l0 rfl ?_
        refine w_getI (z := nn) rfl rfl sh_234 rfl hwU.1.2.2.1 rfl ?_
        refine w_ic_lt (pc2 := 84) (pc3 := 80) rfl (by decide) rfl ⟨by omega, by omega⟩ ⟨by omega, by omega⟩ (fun c77 => ?_) (fun c77 => ?_)
        · skip
          refine w_iconst rfl rfl ?_
          refine w_zret rfl rfl (by decide) ?_
          omega
        · skip
          refine w_iconst rfl rfl ?_
          refine w_goto (pc2 := 85) rfl (by decide) ?_
          refine w_zret rfl rfl (by decide) ?_
          have hle : nn ≤ a2 := by omega
          obtain ⟨mm2, rfl⟩ := fuel1 hfu2 (by omega)
          have hn : (pu Y nn m 0 []) = some (a2, N, c, D2, false) := by
            rw [hres, pu, if_pos hle]
            show some (a2, N ++ [], c + 0, D2, false) = _
            rw [List.append_nil, Int.add_zero]
          refine ⟨fun z => nns (z.symm.trans hn), fun q hq => ?_⟩
          have e : (a2, N, c, D2, false) = q := Option.some.inj (hn.symm.trans hq)
          rw [← e]
          exact ⟨rfl, hfr, hwU.2.2.2.1⟩
      · skip
        obtain ⟨mm2, rfl⟩ := fuel1 hfu2 (by omega)
        refine w_aload_n rfl l0 rfl ?_
        refine w_CV (as := []) (r := []) rfl rfl rfl rfl sh_234 (Nat.le_of_ble_eq_true rfl) (Nat.le_of_ble_eq_true rfl) (by omega) rfl (c_sdc hwU (by omega)) ?_
        rintro _ _ ⟨rfl, hS⟩
        rw [hS]
        show w_T _ _ 46 36 _ [.int (iZ (zB (sdc D2 (Y a2))))] _ _
        refine w_b_eq (pc2 := 48) (pc3 := 39) rfl (by decide) rfl (fun c36 => ?_) (fun c36 => ?_)
        · skip
          refine w_iconst rfl rfl ?_
          refine w_zret rfl rfl (by decide) ?_
          refine ⟨fun _ => ⟨rfl, hfr⟩, fun q hq => ?_⟩
          have hn : (pu Y nn m 0 []) = none := by
            rw [hres, pu, if_neg (by omega)]
            first
              | (rw [if_neg (by rw [c36]; decide)]; rfl)
              | (rw [if_pos c36, e42]; rfl)
          exact nns (hn.symm.trans hq)
        · skip
          refine w_aload_n rfl l0 rfl ?_
          refine w_iconst rfl rfl ?_
          refine w_iconst rfl rfl ?_
          rcases e42 : ps Y nn 1100 3 true false false 0 (a2) D2 with _ | q42
          · skip
            refine w_CV (as := [.int (iZ 1), .int (iZ 0)]) (r := []) rfl rfl rfl rfl sh_234 (Nat.le_of_ble_eq_true rfl) (Nat.le_of_ble_eq_true rfl) (by omega) rfl (w_mono ((CKC_all sc 1100).2 _ _ nn Y D2 (a2) ((0, -1, c) :: N) 0 true hwU (by omega) (by decide) (by decide) (by omega) (by show (_ : Int) + 1 ≤ _; (try simp only [List.length_append, List.length_cons, List.length_nil, stF_len, stR_len]); omega) (by omega) (by omega)) (fun v S2 h => h.1 e42)) ?_
            rintro _ V1 ⟨rfl, g1⟩
            show w_T _ _ 46 45 _ [.int (iZ 0)] _ _
            have f1 := fr_trans hfr g1
            refine w_if_ne (pc2 := 50) (pc3 := 48) rfl (by decide) rfl ⟨by decide, by decide⟩ (fun hc => absurd hc (by decide)) (fun _ => ?_)
            refine w_iconst rfl rfl ?_
            refine w_zret rfl rfl (by decide) ?_
            refine ⟨fun _ => ⟨rfl, f1⟩, fun q hq => ?_⟩
            have hn : (pu Y nn m 0 []) = none := by
              rw [hres, pu, if_neg (by omega)]
              first
                | (rw [if_neg (by rw [c36]; decide)]; rfl)
                | (rw [if_pos c36, e42]; rfl)
            exact nns (hn.symm.trans hq)
          · skip
            refine w_CV (as := [.int (iZ 1), .int (iZ 0)]) (r := []) rfl rfl rfl rfl sh_234 (Nat.le_of_ble_eq_true rfl) (Nat.le_of_ble_eq_true rfl) (by omega) rfl (w_mono ((CKC_all sc 1100).2 _ _ nn Y D2 (a2) ((0, -1, c) :: N) 0 true hwU (by omega) (by decide) (by decide) (by omega) (by show (_ : Int) + 1 ≤ _; (try simp only [List.length_append, List.length_cons, List.length_nil, stF_len, stR_len]); omega) (by omega) (by omega)) (fun v S2 h => h.2 _ e42)) ?_
            rintro _ V2 ⟨rfl, g2, hw2⟩
            show w_T _ _ 46 45 _ [.int (iZ 1)] _ _
            have f2 := fr_trans hfr g2
            have r42 := ps_r hY 1100 3 true false false 0 _ D2 q42 (by decide) (by omega) e42
            have r42l := r42.2.2.1
            rw [if_neg (by decide)] at r42l
            have r421 := r42.1
            have r422 := r42.2.1
            have r425 := r42.2.2.2.2.1
            refine w_if_ne (pc2 := 50) (pc3 := 48) rfl (by decide) rfl ⟨by decide, by decide⟩ (fun _ => ?_) (fun hc => absurd hc (by decide))
            have hw3 : PW V2 nn Y q42.2.2.2.1 q42.1 ([] ++ (0, -1, c) :: (N ++ q42.2.1)) := by
              have q := hw2
              simpa [List.append_assoc] using q
            refine w_aload_n rfl l0 rfl ?_
            refine w_getR rfl rfl sh_234 rfl rfl ?_
            refine w_getR rfl rfl sh_235 rfl rfl ?_
            refine w_iconst rfl rfl ?_
            refine w_dup2 rfl rfl rfl rfl ?_
            refine w_iald (z := c) rfl sh_238 (by omega) (by omega) (by decide) (trep_g (M := []) hw3.2.2.2.1).2.2 rfl ?_
            refine w_iconst rfl rfl ?_
            refine w_iadd rfl rfl ?_
            refine w_iaS (f := sA V2 238) rfl sh_238 (by omega) (by omega) (by decide) rfl rfl ?_
            have hw4 : PW ((w_A V2 238 (w_u (sA V2 238) 0 (c + 1)))) nn Y q42.2.2.2.1 q42.1 ((0, -1, c + 1) :: (N ++ q42.2.1)) := PW_kid (M := []) hw3
            have f4 : fr (fun a => 234 ≤ a ∧ a ≤ 242) S ((w_A V2 238 (w_u (sA V2 238) 0 (c + 1)))) := fr_A f2 (by omega)
            generalize (w_A V2 238 (w_u (sA V2 238) 0 (c + 1))) = V4 at hw4 f4 ⊢
            refine w_iinc rfl l1 (by decide) rfl ?_
            refine w_goto (pc2 := 13) rfl (by decide) ?_
            exact ih (t + 1) q42.1 ((N ++ q42.2.1)) ((c + 1)) q42.2.2.2.1 mm2 _ _ (by exact (congrArg x_k2 l0)) (by exact rfl) (by exact f4) (by exact hw4) (by omega) (by rw [hres, pu, if_neg (by omega), if_pos c36, e42]; show ((pu Y nn mm2 q42.1 q42.2.2.2.1).bind _).bind _ = _; cases pu Y nn mm2 q42.1 q42.2.2.2.1 with | none => rfl | some r => (show some (r.1, N ++ (q42.2.1 ++ r.2.1), c + (1 + r.2.2.1), r.2.2.2.1, false) = some (r.1, N ++ q42.2.1 ++ r.2.1, c + 1 + r.2.2.1, r.2.2.2.1, false); rw [List.append_assoc, Int.add_assoc])) (by omega) (by omega) (by omega) (by (try simp only [List.length_append, List.length_cons, List.length_nil, stF_len, stR_len]); omega) (by omega)
theorem c_unt {sc : x_S} {d : Nat} {S : w_S} {nn : Int} {Y : Int → Int64} {m : Nat} (hw : PW S nn Y [] 0 []) (hfu : nn + 2 ≤ (m : Int)) (hd : 300 ≤ d) : w_T sc d 46 0 (x_en 0 [.ref 234]) [] S (SXU S nn Y (pu Y nn m 0 [])) := by
  have hnn := hw.1.1
  have hn1 := hw.1.2.1
  have ha0 := hw.2.2.2.2.1
  have ha1 := hw.2.2.2.2.2
  have f0 : fr (fun a => 234 ≤ a ∧ a ≤ 242) S S := fr_refl _ _
  have hY : ∀ k : Int, nn ≤ k → Y k = 0 := hw.1.2.2.2.2.2
  refine w_aload_n rfl rfl rfl ?_
  refine w_getR rfl rfl sh_234 rfl rfl ?_
  refine w_iconst rfl rfl ?_
  refine w_iconst rfl rfl ?_
  refine w_iconst rfl rfl ?_
  refine w_CV (as := [.int (iZ 0), .int (iZ ((-1))), .int (iZ 0)]) (r := []) rfl rfl rfl rfl sh_235 (Nat.le_of_ble_eq_true rfl) (Nat.le_of_ble_eq_true rfl) (by omega) rfl (c_tadd (M := []) hw.2.2.2.1 (by (try simp only [List.length_append, List.length_cons, List.length_nil, stF_len, stR_len]); omega) (by omega)) ?_
  rintro _ V5 ⟨rfl, g5, ht5⟩
  show w_T _ _ 46 10 _ [.int (iZ ((([]).length : Int)))] _ _
  have hw5 := PW_tree hw g5 ht5
  have f5 := fr_trans f0 (fr_mono g5 (fun a h => by omega))
  refine w_pop rfl rfl rfl ?_
  refine w_iconst rfl rfl ?_
  refine w_istore_n rfl (by decide) rfl ?_
  exact (c_unt_c hw hfu hd _) 0 0 ([]) 0 ([]) m _ _ rfl rfl (by exact f5) (by exact hw5) (by exact Int.le_refl 0) (by exact bind_idu (fun r hr => pu_z m 0 [] r hr)) (by omega) (by omega) (by omega) (by exact Int.le_refl 0) (Nat.lt_succ_self _)
def prc (Y : Int → Int64) (n : Int) : Int := if odd Y n = true then 10 else if dpp Y n = true then 7 else if pu Y n 110 0 [] = none then 11 else 0
def Pnd (Y : Int → Int64) (n : Int) : List Nd := match pu Y n 110 0 [] with
  | none => []
  | some q => (0, -1, q.2.2.1) :: q.2.1
theorem c_prs {sc : x_S} {d : Nat} {S : w_S} {ol : List OTok} (hz : sv S 30 2 = ol.length) (h1 : ol.length ≤ 100) (hg : ogw ol) (ho : ofn (sL S 31) (sA S 32) 256 0 ol) (hd : 320 ≤ d) : w_T sc d 38 0 (x_en 0 [.ref 234, .ref 30]) [] S (fun v S2 => v = some (.int (iZ (prc (yw ol) ol.length))) ∧ fr (fun a => 234 ≤ a ∧ a ≤ 242) S S2 ∧ (¬ prc (yw ol) ol.length = 0 → sv S2 235 3 = 0) ∧ (prc (yw ol) ol.length = 0 → trep S2 (Pnd (yw ol) ol.length))) := by
  refine w_aload_n rfl rfl rfl ?_
  refine w_aload_n rfl rfl rfl ?_
  refine w_CV (as := [.ref 30]) (r := []) rfl rfl rfl rfl sh_234 (Nat.le_of_ble_eq_true rfl) (Nat.le_of_ble_eq_true rfl) (by omega) rfl (c_load (S := S) hz h1 hg ho (by omega)) ?_
  rintro _ V ⟨rfl, hl1, hl2, hl3, hl4⟩
  show w_T _ _ 38 5 _ [] _ _
  refine w_aload_n rfl rfl rfl ?_
  refine w_getR rfl rfl sh_234 rfl rfl ?_
  refine w_iconst rfl rfl ?_
  refine w_putf rfl rfl sh_235 rfl rfl (by decide) rfl ?_
  have hgv : fr (fun a => a = 235) V (w_v V 235 3 0) := fr_v (fr_refl _ _) rfl
  have hP0 : PS (w_v V 235 3 0) ol.length (yw ol) := PS_fr hl2 hgv (rv_ne (by decide)) (by decide)
  have hf0 : fr (fun a => 234 ≤ a ∧ a ≤ 242) S (w_v V 235 3 0) := fr_v (fr_mono hl1 (fun a h => by omega)) (by omega)
  have hw0 : PW (w_v V 235 3 0) ol.length (yw ol) [] 0 [] := ⟨hP0, ⟨(rv_ne (by decide)).trans hl4, by decide, trivial⟩, (rv_ne (by decide)).trans hl3, ⟨rv_self _ _ _ _, fun j j0 j1 => absurd j1 (by rw [List.length_nil]; omega)⟩, Int.le_refl _, by omega⟩
  refine w_aload_n rfl rfl rfl ?_
  refine w_CV (as := []) (r := []) rfl rfl rfl rfl sh_234 (Nat.le_of_ble_eq_true rfl) (Nat.le_of_ble_eq_true rfl) (by omega) rfl (c_odd hP0 (by omega)) ?_
  rintro _ _ ⟨rfl, hS⟩
  rw [hS]
  show w_T _ _ 38 17 _ [.int (iZ (zB (odd (yw ol) ol.length)))] _ _
  refine w_b_eq (pc2 := 23) (pc3 := 20) rfl (by decide) rfl (fun c17 => ?_) (fun c17 => ?_)
  · skip
    refine w_aload_n rfl rfl rfl ?_
    refine w_CV (as := []) (r := []) rfl rfl rfl rfl sh_234 (Nat.le_of_ble_eq_true rfl) (Nat.le_of_ble_eq_true rfl) (by omega) rfl (c_dpp hP0 (by omega)) ?_
    rintro _ _ ⟨rfl, hS⟩
    rw [hS]
    show w_T _ _ 38 27 _ [.int (iZ (zB (dpp (yw ol) ol.length)))] _ _
    refine w_b_eq (pc2 := 33) (pc3 := 30) rfl (by decide) rfl (fun c27 => ?_) (fun c27 => ?_)
    · skip
      refine w_aload_n rfl rfl rfl ?_
      rcases e34 : pu (yw ol) ol.length 110 0 [] with _ | q34
      · skip
        refine w_CV (as := []) (r := []) rfl rfl rfl rfl sh_234 (Nat.le_of_ble_eq_true rfl) (Nat.le_of_ble_eq_true rfl) (by omega) rfl (w_mono (c_unt (m := 110) hw0 (by omega) (by omega)) (fun v S2 h => h.1 e34)) ?_
        rintro _ V2 ⟨rfl, g2⟩
        show w_T _ _ 38 37 _ [.int (iZ 0)] _ _
        refine w_if_ne (pc2 := 51) (pc3 := 40) rfl (by decide) rfl ⟨by decide, by decide⟩ (fun hc => absurd hc (by decide)) (fun _ => ?_)
        refine w_aload_n rfl rfl rfl ?_
        refine w_getR rfl rfl sh_234 rfl rfl ?_
        refine w_iconst rfl rfl ?_
        refine w_putf rfl rfl sh_235 rfl rfl (by decide) rfl ?_
        refine w_bipush rfl (by decide) rfl ?_
        refine w_iret rfl rfl ?_
        have e : prc (yw ol) ol.length = 11 := by
          unfold prc
          rw [if_neg (by rw [c17]; decide), if_neg (by rw [c27]; decide), if_pos e34]
        rw [e]
        exact ⟨rfl, fr_v (fr_trans hf0 g2) (by omega), fun _ => rv_self _ _ _ _, fun z => absurd z (by decide)⟩
      · skip
        refine w_CV (as := []) (r := []) rfl rfl rfl rfl sh_234 (Nat.le_of_ble_eq_true rfl) (Nat.le_of_ble_eq_true rfl) (by omega) rfl (w_mono (c_unt (m := 110) hw0 (by omega) (by omega)) (fun v S2 h => h.2 _ e34)) ?_
        rintro _ V3 ⟨rfl, g3, ht3⟩
        show w_T _ _ 38 37 _ [.int (iZ 1)] _ _
        refine w_if_ne (pc2 := 51) (pc3 := 40) rfl (by decide) rfl ⟨by decide, by decide⟩ (fun _ => ?_) (fun hc => absurd hc (by decide))
        refine w_iconst rfl rfl ?_
        refine w_iret rfl rfl ?_
        have e : prc (yw ol) ol.length = 0 := by
          unfold prc
          rw [if_neg (by rw [c17]; decide), if_neg (by rw [c27]; decide), if_neg (by rw [e34]; exact fun z => nns z.symm)]
        rw [e]
        refine ⟨rfl, fr_trans hf0 g3, fun z => absurd rfl z, fun _ => ?_⟩
        have e2 : Pnd (yw ol) ol.length = (0, -1, q34.2.2.1) :: q34.2.1 := by
          unfold Pnd
          rw [e34]
        rw [e2]
        exact ht3
    · skip
      refine w_bipush rfl (by decide) rfl ?_
      refine w_iret rfl rfl ?_
      have e : prc (yw ol) ol.length = 7 := by
        unfold prc
        rw [if_neg (by rw [c17]; decide), if_pos c27]
      rw [e]
      exact ⟨rfl, hf0, fun _ => rv_self _ _ _ _, fun z => absurd z (by decide)⟩
  · skip
    refine w_bipush rfl (by decide) rfl ?_
    refine w_iret rfl rfl ?_
    have e : prc (yw ol) ol.length = 10 := by
      unfold prc
      rw [if_pos c17]
    rw [e]
    exact ⟨rfl, hf0, fun _ => rv_self _ _ _ _, fun z => absurd z (by decide)⟩
