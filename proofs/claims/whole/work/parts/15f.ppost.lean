/-! The class takes arguments, postfixes, operands, and operators between them. -/
def XR7 (S : w_S) (n : Int) (Y : Int → Int64) (D : List Dcl) (M : List Nd) (x y c0 : Int) (L : List Nd) (res : PR) (v : Option Value) (S2 : w_S) : Prop := (res = none → v = some (.int (iZ 0)) ∧ fr (fun a => 234 ≤ a ∧ a ≤ 242) S S2) ∧ (∀ q, res = some q → v = some (.int (iZ 1)) ∧ fr (fun a => 234 ≤ a ∧ a ≤ 242) S S2 ∧ PW S2 n Y D q.1 (M ++ (x, y, c0 + q.2.2) :: (L ++ q.2.1)))
theorem XR7_n {S S2 : w_S} {n : Int} {Y : Int → Int64} {D : List Dcl} {M : List Nd} {x y c0 : Int} {L : List Nd} {res : PR} (h : res = none) (f : fr (fun a => 234 ≤ a ∧ a ≤ 242) S S2) : XR7 S n Y D M x y c0 L res (some (.int (iZ 0))) S2 := ⟨fun _ => ⟨rfl, f⟩, fun q hq => nns (h.symm.trans hq)⟩
theorem XR7_s {S S2 : w_S} {n : Int} {Y : Int → Int64} {D : List Dcl} {M : List Nd} {x y c0 : Int} {L : List Nd} {res : PR} {q : Int × List Nd × Int} (h : res = some q) (f : fr (fun a => 234 ≤ a ∧ a ≤ 242) S S2) (hw : PW S2 n Y D q.1 (M ++ (x, y, c0 + q.2.2) :: (L ++ q.2.1))) : XR7 S n Y D M x y c0 L res (some (.int (iZ 1))) S2 := ⟨fun z => nns (z.symm.trans h), fun r hr => by
  have e : q = r := Option.some.inj (h.symm.trans hr)
  rw [← e]
  exact ⟨rfl, f, hw⟩⟩
theorem bind_id3 {o : PR} : o = o.bind (fun r => some (r.1, [] ++ r.2.1, 0 + r.2.2)) := by
  cases o with
  | none => rfl
  | some r =>
    show some r = some (r.1, [] ++ r.2.1, 0 + r.2.2)
    rw [List.nil_append, Int.zero_add]
theorem fuel1 {m : Nat} {z : Int} (h : z ≤ m) (hz : 1 ≤ z) : ∃ k : Nat, m = k + 1 := ⟨m - 1, by omega⟩
theorem c_arg_c {sc : x_S} {d : Nat} {S : w_S} {nn : Int} {Y : Int → Int64} {D : List Dcl} {a : Int} {M L : List Nd} {x y c0 dp : Int} {m : Nat} (H : ∀ m2, m2 < m → CE sc m2) (hw : PW S nn Y D a (M ++ (x, y, c0) :: L)) (hn0 : 0 < nn) (hdp : 0 ≤ dp) (hdp2 : dp ≤ 12) (hfu : 20 * (nn + 1 - a) + 13 ≤ (m : Int)) (hrm : (M.length : Int) + L.length + (nn - a) ≤ 155) (hdd : 16 * (13 - dp) + 32 ≤ (d : Int)) (hd : 0 ≤ d) : ∀ n : Nat, (∀ (t : Int) (a2 : Int) (N : List Nd) (c : Int) (mm : Nat) (U : w_S) (lv : x_L) (l0 : lv 0 = some (.ref 234)) (l1 : lv 1 = some (.int (iZ ((M.length : Int))))) (l2 : lv 2 = some (.int (iZ dp))) (l3 : lv 3 = some (.int (iZ t))) (hfr : fr (fun a => 234 ≤ a ∧ a ≤ 242) S U) (hwU : PW U nn Y D a2 (M ++ (x, y, c0 + c) :: (L ++ N))) (hres : (px Y D nn m 7 dp a []) = (px Y D nn mm 7 dp a2 []).bind (fun r => some (r.1, N ++ r.2.1, c + r.2.2))) (t0 : 0 ≤ t) (t2 : 2 * t ≤ a2 - a) (hmm : mm ≤ m) (hfu2 : 20 * (nn + 1 - a2) + 13 ≤ (mm : Int)) (hN : (N.length : Int) ≤ a2 - a) (hm : (nn - a2).toNat < n), w_T sc d 62 2 lv [] U (XR7 S nn Y D M x y c0 L (px Y D nn m 7 dp a []))) := by
  intro n
  induction n with
  | zero => exact fun t a2 N c mm U lv l0 l1 l2 l3 hfr hwU hres t0 t2 hmm hfu2 hN hm => absurd hm (Nat.not_lt_zero _)
  | succ n ih =>
    intro t a2 N c mm U lv l0 l1 l2 l3 hfr hwU hres t0 t2 hmm hfu2 hN hm
    have hnn := hw.1.1
    have hn1 := hw.1.2.1
    have ha0 := hw.2.2.2.2.1
    have ha1 := hw.2.2.2.2.2
    have hY : ∀ k : Int, nn ≤ k → Y k = 0 := hw.1.2.2.2.2.2
    have ha0U := hwU.2.2.2.2.1
    have ha1U := hwU.2.2.2.2.2
    refine w_iload_n rfl l3 rfl ?_
    refine w_aload_n rfl l0 rfl ?_
    refine w_getI (z := nn) rfl rfl sh_234 rfl hwU.1.2.2.1 rfl ?_
    refine w_ic_ge (pc2 := 57) (pc3 := 10) rfl (by decide) rfl ⟨by omega, by omega⟩ ⟨by omega, by omega⟩ (fun c7 => ?_) (fun c7 => ?_)
    · omega
    · skip
      obtain ⟨mm2, rfl⟩ := fuel1 hfu2 (by omega)
      refine w_aload_n rfl l0 rfl ?_
      refine w_iload_n rfl l2 rfl ?_
      refine w_iconst rfl rfl ?_
      refine w_iadd rfl rfl ?_
      rcases e14 : px Y D nn mm2 0 (dp + 1) (a2) [] with _ | q14
      · skip
        refine w_CV (as := [.int (iZ (dp + 1))]) (r := []) rfl rfl rfl rfl sh_234 (Nat.le_of_ble_eq_true rfl) (Nat.le_of_ble_eq_true rfl) (by omega) rfl (w_mono ((H mm2 (by omega)) _ _ nn Y D (a2) (M ++ (x, y, c0 + c) :: (L ++ N)) (dp + 1) hwU hn0 (by omega) (by omega) (by omega) (by (try simp only [List.length_append, List.length_cons, List.length_nil, stF_len]); omega) (by omega)) (fun v S2 h => h.1 e14)) ?_
        rintro _ V1 ⟨rfl, g1⟩
        show w_T _ _ 62 17 _ [.int (iZ 0)] _ _
        have f1 := fr_trans hfr g1
        refine w_if_ne (pc2 := 22) (pc3 := 20) rfl (by decide) rfl ⟨by decide, by decide⟩ (fun hc => absurd hc (by decide)) (fun _ => ?_)
        refine w_iconst rfl rfl ?_
        refine w_zret rfl rfl (by decide) ?_
        refine XR7_n ?_ f1
        rw [hres, px_7, e14]
        rfl
      · skip
        refine w_CV (as := [.int (iZ (dp + 1))]) (r := []) rfl rfl rfl rfl sh_234 (Nat.le_of_ble_eq_true rfl) (Nat.le_of_ble_eq_true rfl) (by omega) rfl (w_mono ((H mm2 (by omega)) _ _ nn Y D (a2) (M ++ (x, y, c0 + c) :: (L ++ N)) (dp + 1) hwU hn0 (by omega) (by omega) (by omega) (by (try simp only [List.length_append, List.length_cons, List.length_nil, stF_len]); omega) (by omega)) (fun v S2 h => h.2 _ e14)) ?_
        rintro _ V2 ⟨rfl, g2, hw2⟩
        show w_T _ _ 62 17 _ [.int (iZ 1)] _ _
        have f2 := fr_trans hfr g2
        have r14 := px_r hY mm2 0 (dp + 1) (a2) [] q14 (by omega) (by omega) e14
        rw [if_neg (by decide)] at r14
        have r14b := r14.2.2.2.1.resolve_left (by decide)
        refine w_if_ne (pc2 := 22) (pc3 := 20) rfl (by decide) rfl ⟨by decide, by decide⟩ (fun _ => ?_) (fun hc => absurd hc (by decide))
        have hw3 : PW V2 nn Y D q14.1 (M ++ (x, y, c0 + c) :: (L ++ (N ++ q14.2.1))) := by
          have q := hw2
          simpa [List.append_assoc] using q
        have f3 : fr (fun a => 234 ≤ a ∧ a ≤ 242) S V2 := f2
        generalize V2 = V3 at hw3 f3 ⊢
        refine w_aload_n rfl l0 rfl ?_
        refine w_getR rfl rfl sh_234 rfl rfl ?_
        refine w_getR rfl rfl sh_235 rfl rfl ?_
        refine w_iload_n rfl l1 rfl ?_
        refine w_dup2 rfl rfl rfl rfl ?_
        refine w_iald (z := c0 + c) rfl sh_238 (by omega) (by omega) (by decide) (trep_g hw3.2.2.2.1).2.2 rfl ?_
        refine w_iconst rfl rfl ?_
        refine w_iadd rfl rfl ?_
        rw [show c0 + c + 1 = c0 + (c + 1) by omega]
        refine w_iaS (f := sA V3 238) rfl sh_238 (by omega) (by omega) (by decide) rfl rfl ?_
        have hw4 : PW ((w_A V3 238 (w_u (sA V3 238) ((M.length : Int)) (c0 + (c + 1))))) nn Y D q14.1 (M ++ (x, y, c0 + (c + 1)) :: (L ++ (N ++ q14.2.1))) := PW_kid hw3
        have f4 : fr (fun a => 234 ≤ a ∧ a ≤ 242) S ((w_A V3 238 (w_u (sA V3 238) ((M.length : Int)) (c0 + (c + 1))))) := fr_A f3 (by omega)
        generalize (w_A V3 238 (w_u (sA V3 238) ((M.length : Int)) (c0 + (c + 1)))) = V4 at hw4 f4 ⊢
        refine w_aload_n rfl l0 rfl ?_
        refine w_bipush rfl (by decide) rfl ?_
        by_cases k38 : Y q14.1 = 44
        · skip
          refine w_CV (as := [.int (iZ 44)]) (r := []) rfl rfl rfl rfl sh_234 (Nat.le_of_ble_eq_true rfl) (Nat.le_of_ble_eq_true rfl) (by omega) rfl (c_tk1 (c := 44) (x := 44) hw4 (by decide) (by decide) (by decide) (by decide) k38 (by omega)) ?_
          rintro _ V5 ⟨rfl, g5, hw5⟩
          show w_T _ _ 62 41 _ [.int (iZ 1)] _ _
          have f5 := fr_trans f4 g5
          have kl38 := Y_lt hw4 (by decide) k38
          refine w_if_ne (pc2 := 51) (pc3 := 44) rfl (by decide) rfl ⟨by decide, by decide⟩ (fun _ => ?_) (fun hc => absurd hc (by decide))
          refine w_iinc rfl l3 (by decide) rfl ?_
          refine w_goto (pc2 := 2) rfl (by decide) ?_
          exact ih (t + 1) ((q14.1 + 1)) ((N ++ q14.2.1)) ((c + 1)) mm2 _ _ (by exact l0) (by exact l1) (by exact (congrArg x_k2 l2)) (by exact rfl) (by exact f5) (by exact hw5) (by rw [hres, px_7, e14]; show (if Y q14.1 = 44 then _ else _ : PR).bind _ = _; rw [if_pos k38]; cases px Y D nn mm2 7 dp (q14.1 + 1) [] with | none => rfl | some r => (show some (r.1, N ++ (q14.2.1 ++ r.2.1), c + (1 + r.2.2)) = some (r.1, N ++ q14.2.1 ++ r.2.1, c + 1 + r.2.2); rw [List.append_assoc, Int.add_assoc])) (by omega) (by omega) (by omega) (by omega) (by (try simp only [List.length_append, List.length_cons, List.length_nil, stF_len]); omega) (by omega)
        · skip
          refine w_CV (as := [.int (iZ 44)]) (r := []) rfl rfl rfl rfl sh_234 (Nat.le_of_ble_eq_true rfl) (Nat.le_of_ble_eq_true rfl) (by omega) rfl (c_tk0 (c := 44) (x := 44) hw4 (by decide) (by decide) (by decide) (by decide) k38 (by omega)) ?_
          rintro _ V6 ⟨rfl, g6, hw6⟩
          show w_T _ _ 62 41 _ [.int (iZ 0)] _ _
          have f6 := fr_trans f4 g6
          refine w_if_ne (pc2 := 51) (pc3 := 44) rfl (by decide) rfl ⟨by decide, by decide⟩ (fun hc => absurd hc (by decide)) (fun _ => ?_)
          refine w_aload_n rfl l0 rfl ?_
          refine w_bipush rfl (by decide) rfl ?_
          by_cases k47 : Y q14.1 = 41
          · skip
            refine w_CV (as := [.int (iZ 41)]) (r := []) rfl rfl rfl rfl sh_234 (Nat.le_of_ble_eq_true rfl) (Nat.le_of_ble_eq_true rfl) (by omega) rfl (c_tk1 (c := 41) (x := 41) hw6 (by decide) (by decide) (by decide) (by decide) k47 (by omega)) ?_
            rintro _ V7 ⟨rfl, g7, hw7⟩
            show w_T _ _ 62 50 _ [.int (iZ 1)] _ _
            have f7 := fr_trans f6 g7
            have kl47 := Y_lt hw6 (by decide) k47
            refine w_zret rfl rfl (by decide) ?_
            refine XR7_s (q := (q14.1 + 1, N ++ q14.2.1, c + 1)) ?_ f7 hw7
            rw [hres, px_7, e14]
            show (if Y q14.1 = 44 then _ else if Y q14.1 = 41 then some (q14.1 + 1, q14.2.1, 1) else none : PR).bind _ = _
            rw [if_neg k38, if_pos k47]
            rfl
          · skip
            refine w_CV (as := [.int (iZ 41)]) (r := []) rfl rfl rfl rfl sh_234 (Nat.le_of_ble_eq_true rfl) (Nat.le_of_ble_eq_true rfl) (by omega) rfl (c_tk0 (c := 41) (x := 41) hw6 (by decide) (by decide) (by decide) (by decide) k47 (by omega)) ?_
            rintro _ V8 ⟨rfl, g8, hw8⟩
            show w_T _ _ 62 50 _ [.int (iZ 0)] _ _
            have f8 := fr_trans f6 g8
            refine w_zret rfl rfl (by decide) ?_
            refine XR7_n ?_ f8
            rw [hres, px_7, e14]
            show (if Y q14.1 = 44 then _ else if Y q14.1 = 41 then some (q14.1 + 1, q14.2.1, 1) else none : PR).bind _ = _
            rw [if_neg k38, if_neg k47]
            rfl
theorem c_arg {sc : x_S} {d : Nat} {S : w_S} {nn : Int} {Y : Int → Int64} {D : List Dcl} {a : Int} {M L : List Nd} {x y c0 dp : Int} {m : Nat} (H : ∀ m2, m2 < m → CE sc m2) (hw : PW S nn Y D a (M ++ (x, y, c0) :: L)) (hn0 : 0 < nn) (hdp : 0 ≤ dp) (hdp2 : dp ≤ 12) (hfu : 20 * (nn + 1 - a) + 13 ≤ (m : Int)) (hrm : (M.length : Int) + L.length + (nn - a) ≤ 155) (hdd : 16 * (13 - dp) + 32 ≤ (d : Int)) (hd : 0 ≤ d) : w_T sc d 62 0 (x_en 0 [.ref 234, .int (iZ ((M.length : Int))), .int (iZ dp)]) [] S (XR7 S nn Y D M x y c0 L (px Y D nn m 7 dp a [])) := by
  have hnn := hw.1.1
  have hn1 := hw.1.2.1
  have ha0 := hw.2.2.2.2.1
  have ha1 := hw.2.2.2.2.2
  have f0 : fr (fun a => 234 ≤ a ∧ a ≤ 242) S S := fr_refl _ _
  have hY : ∀ k : Int, nn ≤ k → Y k = 0 := hw.1.2.2.2.2.2
  refine w_iconst rfl rfl ?_
  refine w_istore_n rfl (by decide) rfl ?_
  exact (c_arg_c H hw hn0 hdp hdp2 hfu hrm hdd hd _) 0 a ([]) 0 m _ _ rfl rfl rfl rfl (by exact f0) (by rw [Int.add_zero, List.append_nil]; exact hw) (by exact bind_id3) (by omega) (by omega) (by omega) (by omega) (by (try simp only [List.length_append, List.length_cons, List.length_nil, stF_len]); omega) (Nat.lt_succ_self _)
theorem c_pfx_c {sc : x_S} {d : Nat} {S : w_S} {nn : Int} {Y : Int → Int64} {D : List Dcl} {a : Int} {M : List Nd} {acc : List Nd} {dp : Int} {m : Nat} (H : ∀ m2, m2 < m → CE sc m2) (hw : PW S nn Y D a (M ++ acc)) (hn0 : 0 < nn) (hdp : 0 ≤ dp) (hdp2 : dp ≤ 12) (hfu : 20 * (nn + 1 - a) + 3 ≤ (m : Int)) (hrm : (M.length : Int) + acc.length + (nn - a) ≤ 156) (hdd : 16 * (13 - dp) + 33 ≤ (d : Int)) (hd : 0 ≤ d) : ∀ n : Nat, (∀ (t : Int) (a2 : Int) (acc2 : List Nd) (mm : Nat) (U : w_S) (lv : x_L) (l0 : lv 0 = some (.ref 234)) (l1 : lv 1 = some (.int (iZ ((M.length : Int))))) (l2 : lv 2 = some (.int (iZ dp))) (l3 : lv 3 = some (.int (iZ t))) (hfr : fr (fun a => 234 ≤ a ∧ a ≤ 242) S U) (hwU : PW U nn Y D a2 (M ++ acc2)) (hres : (px Y D nn m 6 dp a acc) = px Y D nn mm 6 dp a2 acc2) (t0 : 0 ≤ t) (t2 : 2 * t ≤ a2 - a) (hmm : mm ≤ m) (hfu2 : 20 * (nn + 1 - a2) + 3 ≤ (mm : Int)) (hN : (acc2.length : Int) ≤ acc.length + (a2 - a)) (hm : (nn - a2).toNat < n), w_T sc d 61 2 lv [] U (XR S nn Y D M (px Y D nn m 6 dp a acc))) := by
  intro n
  induction n with
  | zero => exact fun t a2 acc2 mm U lv l0 l1 l2 l3 hfr hwU hres t0 t2 hmm hfu2 hN hm => absurd hm (Nat.not_lt_zero _)
  | succ n ih =>
    intro t a2 acc2 mm U lv l0 l1 l2 l3 hfr hwU hres t0 t2 hmm hfu2 hN hm
    have hnn := hw.1.1
    have hn1 := hw.1.2.1
    have ha0 := hw.2.2.2.2.1
    have ha1 := hw.2.2.2.2.2
    have hY : ∀ k : Int, nn ≤ k → Y k = 0 := hw.1.2.2.2.2.2
    have ha0U := hwU.2.2.2.2.1
    have ha1U := hwU.2.2.2.2.2
    refine w_iload_n rfl l3 rfl ?_
    refine w_aload_n rfl l0 rfl ?_
    refine w_getI (z := nn) rfl rfl sh_234 rfl hwU.1.2.2.1 rfl ?_
    refine w_ic_ge (pc2 := 109) (pc3 := 10) rfl (by decide) rfl ⟨by omega, by omega⟩ ⟨by omega, by omega⟩ (fun c7 => ?_) (fun c7 => ?_)
    · omega
    · skip
      obtain ⟨mm2, rfl⟩ := fuel1 hfu2 (by omega)
      refine w_aload_n rfl l0 rfl ?_
      refine w_getI (z := a2) rfl rfl sh_234 rfl hwU.2.2.1 rfl ?_
      refine w_istore rfl (by decide) rfl ?_
      refine w_aload_n rfl l0 rfl ?_
      refine w_bipush rfl (by decide) rfl ?_
      by_cases k19 : Y a2 = 91
      · skip
        refine w_CV (as := [.int (iZ 91)]) (r := []) rfl rfl rfl rfl sh_234 (Nat.le_of_ble_eq_true rfl) (Nat.le_of_ble_eq_true rfl) (by omega) rfl (c_tk1 (c := 91) (x := 91) hwU (by decide) (by decide) (by decide) (by decide) k19 (by omega)) ?_
        rintro _ V1 ⟨rfl, g1, hw1⟩
        show w_T _ _ 61 22 _ [.int (iZ 1)] _ _
        have f1 := fr_trans hfr g1
        have kl19 := Y_lt hwU (by decide) k19
        refine w_if_eq (pc2 := 59) (pc3 := 25) rfl (by decide) rfl ⟨by decide, by decide⟩ (fun hc => absurd hc (by decide)) (fun _ => ?_)
        refine w_aload_n rfl l0 rfl ?_
        refine w_getR rfl rfl sh_234 rfl rfl ?_
        refine w_iload_n rfl l1 rfl ?_
        refine w_bipush rfl (by decide) rfl ?_
        refine w_iload rfl rfl rfl ?_
        refine w_iconst rfl rfl ?_
        refine w_CV (as := [.int (iZ ((M.length : Int))), .int (iZ 15), .int (iZ a2), .int (iZ 2)]) (r := []) rfl rfl rfl rfl sh_235 (Nat.le_of_ble_eq_true rfl) (Nat.le_of_ble_eq_true rfl) (by omega) rfl (c_tins (M := M) (N := acc2) (by exact hw1.2.2.2.1) (by (try simp only [List.length_append, List.length_cons, List.length_nil, stF_len]); omega) (by omega)) ?_
        rintro _ V3 ⟨rfl, g3, ht3⟩
        show w_T _ _ 61 38 _ [] _ _
        have hw3 := PW_tree hw1 g3 ht3
        have f3 := fr_trans f1 (fr_mono g3 (fun a h => by omega))
        refine w_aload_n rfl l0 rfl ?_
        refine w_iload_n rfl l2 rfl ?_
        refine w_iconst rfl rfl ?_
        refine w_iadd rfl rfl ?_
        rcases e42 : px Y D nn mm2 0 (dp + 1) (a2 + 1) [] with _ | q42
        · skip
          refine w_CV (as := [.int (iZ (dp + 1))]) (r := []) rfl rfl rfl rfl sh_234 (Nat.le_of_ble_eq_true rfl) (Nat.le_of_ble_eq_true rfl) (by omega) rfl (w_mono ((H mm2 (by omega)) _ _ nn Y D (a2 + 1) (M ++ (15, a2, 2) :: acc2) (dp + 1) hw3 hn0 (by omega) (by omega) (by omega) (by (try simp only [List.length_append, List.length_cons, List.length_nil, stF_len]); omega) (by omega)) (fun v S2 h => h.1 e42)) ?_
          rintro _ V4 ⟨rfl, g4⟩
          show w_T _ _ 61 45 _ [.int (iZ 0)] _ _
          have f4 := fr_trans f3 g4
          refine w_if_eq (pc2 := 57) (pc3 := 48) rfl (by decide) rfl ⟨by decide, by decide⟩ (fun _ => ?_) (fun hc => absurd hc (by decide))
          refine w_iconst rfl rfl ?_
          refine w_zret rfl rfl (by decide) ?_
          refine XR_n ?_ f4
          rw [hres, px_6, if_pos k19, e42]
          first
            | rfl
            | (show (if Y q42.1 = 93 then _ else _ : PR) = _; rw [if_neg k51])
        · skip
          refine w_CV (as := [.int (iZ (dp + 1))]) (r := []) rfl rfl rfl rfl sh_234 (Nat.le_of_ble_eq_true rfl) (Nat.le_of_ble_eq_true rfl) (by omega) rfl (w_mono ((H mm2 (by omega)) _ _ nn Y D (a2 + 1) (M ++ (15, a2, 2) :: acc2) (dp + 1) hw3 hn0 (by omega) (by omega) (by omega) (by (try simp only [List.length_append, List.length_cons, List.length_nil, stF_len]); omega) (by omega)) (fun v S2 h => h.2 _ e42)) ?_
          rintro _ V5 ⟨rfl, g5, hw5⟩
          show w_T _ _ 61 45 _ [.int (iZ 1)] _ _
          have f5 := fr_trans f3 g5
          have r42 := px_r hY mm2 0 (dp + 1) (a2 + 1) [] q42 (by omega) (by omega) e42
          rw [if_neg (by decide)] at r42
          have r42b := r42.2.2.2.1.resolve_left (by decide)
          refine w_if_eq (pc2 := 57) (pc3 := 48) rfl (by decide) rfl ⟨by decide, by decide⟩ (fun hc => absurd hc (by decide)) (fun _ => ?_)
          refine w_aload_n rfl l0 rfl ?_
          refine w_bipush rfl (by decide) rfl ?_
          by_cases k51 : Y q42.1 = 93
          · skip
            refine w_CV (as := [.int (iZ 93)]) (r := []) rfl rfl rfl rfl sh_234 (Nat.le_of_ble_eq_true rfl) (Nat.le_of_ble_eq_true rfl) (by omega) rfl (c_tk1 (c := 93) (x := 93) hw5 (by decide) (by decide) (by decide) (by decide) k51 (by omega)) ?_
            rintro _ V6 ⟨rfl, g6, hw6⟩
            show w_T _ _ 61 54 _ [.int (iZ 1)] _ _
            have f6 := fr_trans f5 g6
            have kl51 := Y_lt hw5 (by decide) k51
            refine w_if_ne (pc2 := 103) (pc3 := 57) rfl (by decide) rfl ⟨by decide, by decide⟩ (fun _ => ?_) (fun hc => absurd hc (by decide))
            refine w_iinc rfl (congrArg x_k2 l3) (by decide) rfl ?_
            refine w_goto (pc2 := 2) rfl (by decide) ?_
            exact ih (t + 1) ((q42.1 + 1)) (((15, a2, 2) :: acc2 ++ q42.2.1)) mm2 _ _ (by exact l0) (by exact l1) (by exact (congrArg x_k2 l2)) (by exact rfl) (by exact f6) (by have q := hw6; simpa [List.append_assoc] using q) (by rw [hres, px_6, if_pos k19, e42]; show (if Y q42.1 = 93 then _ else _ : PR) = _; rw [if_pos k51]; first | done | rfl) (by omega) (by omega) (by omega) (by omega) (by (try simp only [List.length_append, List.length_cons, List.length_nil, stF_len]); omega) (by omega)
          · skip
            refine w_CV (as := [.int (iZ 93)]) (r := []) rfl rfl rfl rfl sh_234 (Nat.le_of_ble_eq_true rfl) (Nat.le_of_ble_eq_true rfl) (by omega) rfl (c_tk0 (c := 93) (x := 93) hw5 (by decide) (by decide) (by decide) (by decide) k51 (by omega)) ?_
            rintro _ V7 ⟨rfl, g7, hw7⟩
            show w_T _ _ 61 54 _ [.int (iZ 0)] _ _
            have f7 := fr_trans f5 g7
            refine w_if_ne (pc2 := 103) (pc3 := 57) rfl (by decide) rfl ⟨by decide, by decide⟩ (fun hc => absurd hc (by decide)) (fun _ => ?_)
            refine w_iconst rfl rfl ?_
            refine w_zret rfl rfl (by decide) ?_
            refine XR_n ?_ f7
            rw [hres, px_6, if_pos k19, e42]
            first
              | rfl
              | (show (if Y q42.1 = 93 then _ else _ : PR) = _; rw [if_neg k51])
      · skip
        refine w_CV (as := [.int (iZ 91)]) (r := []) rfl rfl rfl rfl sh_234 (Nat.le_of_ble_eq_true rfl) (Nat.le_of_ble_eq_true rfl) (by omega) rfl (c_tk0 (c := 91) (x := 91) hwU (by decide) (by decide) (by decide) (by decide) k19 (by omega)) ?_
        rintro _ V2 ⟨rfl, g2, hw2⟩
        show w_T _ _ 61 22 _ [.int (iZ 0)] _ _
        have f2 := fr_trans hfr g2
        refine w_if_eq (pc2 := 59) (pc3 := 25) rfl (by decide) rfl ⟨by decide, by decide⟩ (fun _ => ?_) (fun hc => absurd hc (by decide))
        refine w_aload_n rfl l0 rfl ?_
        refine w_bipush rfl (by decide) rfl ?_
        by_cases k62 : Y a2 = 40
        · skip
          refine w_CV (as := [.int (iZ 40)]) (r := []) rfl rfl rfl rfl sh_234 (Nat.le_of_ble_eq_true rfl) (Nat.le_of_ble_eq_true rfl) (by omega) rfl (c_tk1 (c := 40) (x := 40) hw2 (by decide) (by decide) (by decide) (by decide) k62 (by omega)) ?_
          rintro _ V8 ⟨rfl, g8, hw8⟩
          show w_T _ _ 61 65 _ [.int (iZ 1)] _ _
          have f8 := fr_trans f2 g8
          have kl62 := Y_lt hw2 (by decide) k62
          refine w_if_eq (pc2 := 101) (pc3 := 68) rfl (by decide) rfl ⟨by decide, by decide⟩ (fun hc => absurd hc (by decide)) (fun _ => ?_)
          refine w_aload_n rfl l0 rfl ?_
          refine w_getR rfl rfl sh_234 rfl rfl ?_
          refine w_iload_n rfl l1 rfl ?_
          refine w_bipush rfl (by decide) rfl ?_
          refine w_iload rfl rfl rfl ?_
          refine w_iconst rfl rfl ?_
          refine w_CV (as := [.int (iZ ((M.length : Int))), .int (iZ 16), .int (iZ a2), .int (iZ 1)]) (r := []) rfl rfl rfl rfl sh_235 (Nat.le_of_ble_eq_true rfl) (Nat.le_of_ble_eq_true rfl) (by omega) rfl (c_tins (M := M) (N := acc2) (by exact hw8.2.2.2.1) (by (try simp only [List.length_append, List.length_cons, List.length_nil, stF_len]); omega) (by omega)) ?_
          rintro _ V10 ⟨rfl, g10, ht10⟩
          show w_T _ _ 61 81 _ [] _ _
          have hw10 := PW_tree hw8 g10 ht10
          have f10 := fr_trans f8 (fr_mono g10 (fun a h => by omega))
          refine w_aload_n rfl l0 rfl ?_
          refine w_bipush rfl (by decide) rfl ?_
          by_cases k84 : Y (a2 + 1) = 41
          · skip
            refine w_CV (as := [.int (iZ 41)]) (r := []) rfl rfl rfl rfl sh_234 (Nat.le_of_ble_eq_true rfl) (Nat.le_of_ble_eq_true rfl) (by omega) rfl (c_tk1 (c := 41) (x := 41) hw10 (by decide) (by decide) (by decide) (by decide) k84 (by omega)) ?_
            rintro _ V11 ⟨rfl, g11, hw11⟩
            show w_T _ _ 61 87 _ [.int (iZ 1)] _ _
            have f11 := fr_trans f10 g11
            have kl84 := Y_lt hw10 (by decide) k84
            refine w_if_ne (pc2 := 103) (pc3 := 90) rfl (by decide) rfl ⟨by decide, by decide⟩ (fun _ => ?_) (fun hc => absurd hc (by decide))
            refine w_iinc rfl (congrArg x_k2 l3) (by decide) rfl ?_
            refine w_goto (pc2 := 2) rfl (by decide) ?_
            exact ih (t + 1) ((a2 + 1 + 1)) (((16, a2, 1) :: acc2)) mm2 _ _ (by exact l0) (by exact l1) (by exact (congrArg x_k2 l2)) (by exact rfl) (by exact f11) (by have q := hw11; simpa [List.append_assoc] using q) (by rw [hres, px_6, if_neg k19, if_pos k62, if_pos k84, show a2 + 1 + 1 = a2 + 2 by omega]) (by omega) (by omega) (by omega) (by omega) (by (try simp only [List.length_append, List.length_cons, List.length_nil, stF_len]); omega) (by omega)
          · skip
            refine w_CV (as := [.int (iZ 41)]) (r := []) rfl rfl rfl rfl sh_234 (Nat.le_of_ble_eq_true rfl) (Nat.le_of_ble_eq_true rfl) (by omega) rfl (c_tk0 (c := 41) (x := 41) hw10 (by decide) (by decide) (by decide) (by decide) k84 (by omega)) ?_
            rintro _ V12 ⟨rfl, g12, hw12⟩
            show w_T _ _ 61 87 _ [.int (iZ 0)] _ _
            have f12 := fr_trans f10 g12
            refine w_if_ne (pc2 := 103) (pc3 := 90) rfl (by decide) rfl ⟨by decide, by decide⟩ (fun hc => absurd hc (by decide)) (fun _ => ?_)
            refine w_aload_n rfl l0 rfl ?_
            refine w_iload_n rfl l1 rfl ?_
            refine w_iload_n rfl l2 rfl ?_
            rcases e93 : px Y D nn mm2 7 dp (a2 + 1) [] with _ | q93
            · skip
              refine w_CV (as := [.int (iZ ((M.length : Int))), .int (iZ dp)]) (r := []) rfl rfl rfl rfl sh_234 (Nat.le_of_ble_eq_true rfl) (Nat.le_of_ble_eq_true rfl) (by omega) rfl (w_mono (c_arg (M := M) (L := acc2) (x := 16) (y := a2) (c0 := 1) (m := mm2) (fun m2 h2 => H m2 (by omega)) hw12 hn0 hdp hdp2 (by omega) (by omega) (by omega) (by omega)) (fun v S2 h => h.1 e93)) ?_
              rintro _ V13 ⟨rfl, g13⟩
              show w_T _ _ 61 96 _ [.int (iZ 0)] _ _
              have f13 := fr_trans f12 g13
              refine w_if_ne (pc2 := 103) (pc3 := 99) rfl (by decide) rfl ⟨by decide, by decide⟩ (fun hc => absurd hc (by decide)) (fun _ => ?_)
              refine w_iconst rfl rfl ?_
              refine w_zret rfl rfl (by decide) ?_
              refine XR_n ?_ f13
              rw [hres, px_6, if_neg k19, if_pos k62, if_neg k84, e93]
              rfl
            · skip
              refine w_CV (as := [.int (iZ ((M.length : Int))), .int (iZ dp)]) (r := []) rfl rfl rfl rfl sh_234 (Nat.le_of_ble_eq_true rfl) (Nat.le_of_ble_eq_true rfl) (by omega) rfl (w_mono (c_arg (M := M) (L := acc2) (x := 16) (y := a2) (c0 := 1) (m := mm2) (fun m2 h2 => H m2 (by omega)) hw12 hn0 hdp hdp2 (by omega) (by omega) (by omega) (by omega)) (fun v S2 h => h.2 _ e93)) ?_
              rintro _ V14 ⟨rfl, g14, hw14⟩
              show w_T _ _ 61 96 _ [.int (iZ 1)] _ _
              have f14 := fr_trans f12 g14
              have r93 := px_r hY mm2 7 dp (a2 + 1) [] q93 (by omega) (by omega) e93
              rw [if_neg (by decide)] at r93
              have r93b := r93.2.2.2.1.resolve_left (by decide)
              refine w_if_ne (pc2 := 103) (pc3 := 99) rfl (by decide) rfl ⟨by decide, by decide⟩ (fun _ => ?_) (fun hc => absurd hc (by decide))
              refine w_iinc rfl (congrArg x_k2 l3) (by decide) rfl ?_
              refine w_goto (pc2 := 2) rfl (by decide) ?_
              exact ih (t + 1) ((q93.1)) (((16, a2, 1 + q93.2.2) :: (acc2 ++ q93.2.1))) mm2 _ _ (by exact l0) (by exact l1) (by exact (congrArg x_k2 l2)) (by exact rfl) (by exact f14) (by have q := hw14; simpa [List.append_assoc] using q) (by rw [hres, px_6, if_neg k19, if_pos k62, if_neg k84, e93]; first | rfl | (show px _ _ _ _ _ _ _ _ = _; simp [List.append_assoc])) (by omega) (by omega) (by omega) (by omega) (by (try simp only [List.length_append, List.length_cons, List.length_nil, stF_len]); omega) (by omega)
        · skip
          refine w_CV (as := [.int (iZ 40)]) (r := []) rfl rfl rfl rfl sh_234 (Nat.le_of_ble_eq_true rfl) (Nat.le_of_ble_eq_true rfl) (by omega) rfl (c_tk0 (c := 40) (x := 40) hw2 (by decide) (by decide) (by decide) (by decide) k62 (by omega)) ?_
          rintro _ V9 ⟨rfl, g9, hw9⟩
          show w_T _ _ 61 65 _ [.int (iZ 0)] _ _
          have f9 := fr_trans f2 g9
          refine w_if_eq (pc2 := 101) (pc3 := 68) rfl (by decide) rfl ⟨by decide, by decide⟩ (fun _ => ?_) (fun hc => absurd hc (by decide))
          refine w_iconst rfl rfl ?_
          refine w_zret rfl rfl (by decide) ?_
          refine XR_s (q := (a2, acc2, 0)) ?_ f9 hw9
          rw [hres, px_6, if_neg k19, if_neg k62]
theorem c_pfx {sc : x_S} {d : Nat} {S : w_S} {nn : Int} {Y : Int → Int64} {D : List Dcl} {a : Int} {M : List Nd} {acc : List Nd} {dp : Int} {m : Nat} (H : ∀ m2, m2 < m → CE sc m2) (hw : PW S nn Y D a (M ++ acc)) (hn0 : 0 < nn) (hdp : 0 ≤ dp) (hdp2 : dp ≤ 12) (hfu : 20 * (nn + 1 - a) + 3 ≤ (m : Int)) (hrm : (M.length : Int) + acc.length + (nn - a) ≤ 156) (hdd : 16 * (13 - dp) + 33 ≤ (d : Int)) (hd : 0 ≤ d) : w_T sc d 61 0 (x_en 0 [.ref 234, .int (iZ ((M.length : Int))), .int (iZ dp)]) [] S (XR S nn Y D M (px Y D nn m 6 dp a acc)) := by
  have hnn := hw.1.1
  have hn1 := hw.1.2.1
  have ha0 := hw.2.2.2.2.1
  have ha1 := hw.2.2.2.2.2
  have f0 : fr (fun a => 234 ≤ a ∧ a ≤ 242) S S := fr_refl _ _
  have hY : ∀ k : Int, nn ≤ k → Y k = 0 := hw.1.2.2.2.2.2
  refine w_iconst rfl rfl ?_
  refine w_istore_n rfl (by decide) rfl ?_
  exact (c_pfx_c H hw hn0 hdp hdp2 hfu hrm hdd hd _) 0 a acc m _ _ rfl rfl rfl rfl (by exact f0) (by exact hw) (by rfl) (by omega) (by omega) (by omega) (by omega) (by (try simp only [List.length_append, List.length_cons, List.length_nil, stF_len]); omega) (Nat.lt_succ_self _)
