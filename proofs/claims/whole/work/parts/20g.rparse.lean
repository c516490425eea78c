/-! The reference parses; its translate whole. -/
theorem HG_v {sc : x_S} {d : Nat} {S : w_S} {Q : Option Value → w_S → Prop} {nn : Int} {Y : Int → Int64} {mt : Int → Int} {Fl : Prop} (hF : Fl → ∀ U, pfr S U → Q (some (.int (iZ 0))) U) (hd : 40 ≤ d) : GV Y mt nn (HG sc d S nn Y mt Q) Fl := fun a b p j T N E D a0 ab bn hr ht p0 p1 hb hW hN hs U lv k l0 l1 l2 k0 hmu hq hf => r_gv_c hF a0 ab bn hr ht p0 p1 hb hN hs hd 1 k U lv l0 l1 l2 k0 hmu hW hq hf (by omega)
theorem HG_i {sc : x_S} {d : Nat} {S : w_S} {Q : Option Value → w_S → Prop} {nn : Int} {Y : Int → Int64} {mt : Int → Int} {Fl : Prop} (hF : Fl → ∀ U, pfr S U → Q (some (.int (iZ 0))) U) (hd : 40 ≤ d) : GI Y mt nn (HG sc d S nn Y mt Q) Fl := fun i e p j T N E D i0 ie en ht p0 p1 j1 j2 hb hW hN hs U lv k l0 l1 l2 k0 hmu hq hf => r_gi_c hF i0 ie en ht p0 p1 j1 j2 hb hN hs hd 1 k U lv l0 l1 l2 k0 hmu hW hq hf (by omega)
theorem HG_d {sc : x_S} {d : Nat} {S : w_S} {Q : Option Value → w_S → Prop} {nn : Int} {Y : Int → Int64} {mt : Int → Int} {Fl : Prop} (hF : Fl → ∀ U, pfr S U → Q (some (.int (iZ 0))) U) (hB : ∀ k : Int, 0 ≤ k → k < nn → bc Y (k + 1).toNat ≤ 6) (hd : 40 ≤ d) : GD Y mt nn (HG sc d S nn Y mt Q) Fl := fun w a e p j T N E w2 w4 a0 ae en hr p0 p1 j1 j2 jo hb hE hW hN hs U lv k l0 l1 l2 k0 hmu hq hf => r_gd_c hF hB w2 w4 a0 ae en hr p0 p1 j1 j2 jo hb hE hN hs hd 1 k U lv l0 l1 l2 k0 hmu hW hq hf (by omega)
theorem HG_b {sc : x_S} {d : Nat} {S : w_S} {Q : Option Value → w_S → Prop} {nn : Int} {Y : Int → Int64} {mt : Int → Int} {Fl : Prop} (hF : Fl → ∀ U, pfr S U → Q (some (.int (iZ 0))) U) (hd : 40 ≤ d) : GB Y mt nn (HG sc d S nn Y mt Q) := fun a b p j T N E a0 an h123 p0 p1 hb hW hs U lv k l0 l1 l2 k0 hmu hq hf => r_gb_c hF a0 an h123 p0 p1 hb hs hd 1 k U lv l0 l1 l2 k0 hmu hW hq hf (by omega)
theorem r_hge_c {sc : x_S} {d : Nat} {S : w_S} {Q : Option Value → w_S → Prop} {nn : Int} {Y : Int → Int64} {mt : Int → Int} {E : List Ed} {N : List Nd} (hQ : ∀ U, PQ U nn Y mt E N [] → pfr S U → Q (some (.int (iZ 1))) U) (hd : 40 ≤ d) : ∀ n : Nat, (∀ (k : Int) (U : w_S) (lv : x_L) (l0 : lv 0 = some (.ref 249)) (l1 : lv 1 = some (.int (iZ 1))) (l2 : lv 2 = some (.int (iZ k))) (k0 : 0 ≤ k) (k1 : k ≤ 500) (hqU : PQ U nn Y mt E N []) (hfU : pfr S U) (hm : 0 < n), w_T sc d 152 44 lv [] U Q) := by
  intro n
  induction n with
  | zero => exact fun k U lv l0 l1 l2 k0 k1 hqU hfU hm => absurd hm (Nat.not_lt_zero _)
  | succ n ih =>
    intro k U lv l0 l1 l2 k0 k1 hqU hfU hm
    refine w_iload_n rfl l2 rfl ?_
    refine w_sipush rfl (by decide) rfl ?_
    refine w_ic_ge (pc2 := 222) (pc3 := 51) rfl (by decide) rfl ⟨by omega, by omega⟩ ⟨by decide, by decide⟩ (fun c48 => ?_) (fun c48 => ?_)
    · exfalso; omega
    · skip
      refine w_iload_n rfl l1 rfl ?_
      refine w_if_eq (pc2 := 222) (pc3 := 55) rfl (by decide) rfl ⟨by decide, by decide⟩ (fun hc => absurd hc (by decide)) (fun _ => ?_)
      refine w_aload_n rfl l0 rfl ?_
      refine w_getI (z := 0) rfl rfl sh_249 rfl hqU.2.2.2.1 rfl ?_
      refine w_if_le (pc2 := 222) (pc3 := 62) rfl (by decide) rfl ⟨by decide, by decide⟩ (fun _ => ?_) (fun hc => absurd hc (by decide))
      refine w_iload_n rfl l1 rfl ?_
      refine w_zret rfl rfl (by decide) ?_
      exact hQ U hqU hfU
def PPq (S : w_S) (n : Int) (Y : Int → Int64) (v : Option Value) (S2 : w_S) : Prop := pfr S S2 ∧ (pu Y n 110 0 [] = none → v = some (.int (iZ 0))) ∧ (¬ pu Y n 110 0 [] = none → v = some (.int (iZ 1)) ∧ nrep S2 (Pnd Y n))
theorem r_main {sc : x_S} {d : Nat} {S : w_S} {nn : Int} {Y : Int → Int64} {mt : Int → Int} (hY : ∀ k, nn ≤ k → Y k = 0) (n0 : 0 ≤ nn) (hn : nn ≤ 100) (hM : MTP Y nn mt) (hb : bal Y 0 nn) (hB : ∀ k : Int, 0 ≤ k → k < nn → bc Y (k + 1).toNat ≤ 6) (hd : 40 ≤ d) : HG sc d S nn Y mt (PPq S nn Y) [(0, 0, nn, 0, -1)] [(0, -1, 0)] [] := by
  have hF : pu Y nn 110 0 [] = none → ∀ U, pfr S U → PPq S nn Y (some (.int (iZ 0))) U := fun h U hU => ⟨hU, fun _ => rfl, fun z => absurd h z⟩
  obtain ⟨r, eo, ro⟩ := BI hM hn (HG_v (sc := sc) hF hd) (HG_d hF hB hd) (HG_i hF hd) (HG_b hF hd) 200 0 nn (-1) [] (by omega) (Int.le_refl _) n0 (Int.le_refl _) hb (by decide) (by decide) (fun z => absurd z (by decide)) rfl
  have w0 : wt mt [(0, 0, nn, 0, -1)] = nn - 0 + 0 := wt_w (T := []) (by decide)
  refine ro.2 [(0, -1, 0)] [] [] 0 ⟨fun d hd => absurd hd (by simp), [], fun x _ _ => rfl, List.Pairwise.nil, fun d hd => absurd hd (by simp), rfl⟩ (Int.le_refl _) (by decide) ?_ (Int.le_refl _) (fun R E2 hR hX => ?_) (fun z => ?_)
  · unfold bdT muT
    rw [w0]
    refine ⟨?_, ?_, ?_⟩
    · show ((1 : Nat) : Int) + _ ≤ _; omega
    · show ((0 : Nat) : Int) + _ ≤ _; omega
    · show _ + ((1 : Nat) : Int) ≤ _; omega
  · have e1 := pu_K hY hn hM hB 200 0 [] R (by have q := eo 200 (by omega); rw [hR] at q; exact q) (Int.le_refl _) hb 110 (by omega) (by decide)
    have e2 : bmp [(0, -1, 0)] 0 R.2.1 ++ R.1 = Pnd Y nn := by
      unfold Pnd
      rw [e1]
      show (0, -1, 0 + R.2.1) :: R.1 = (0, -1, R.2.1) :: R.1
      rw [Int.zero_add]
    rw [e2]
    exact fun U lv k l0 l1 l2 k0 hmu hq hf => r_hge_c (fun U hq hf => (⟨hf, fun z => nns (z.symm.trans e1), fun _ => ⟨rfl, hq.2.2.1⟩⟩ : PPq S nn Y (some (.int (iZ 1))) U)) hd 1 k U lv l0 l1 l2 k0 (by have : muT mt [] = 0 := rfl; omega) hq hf (by omega)
  · cases h : pu Y nn 110 0 [] with
    | none => rfl
    | some q =>
      have e1 := (pu_C hY hn hM 110 0 [] q (Int.le_refl _) n0 h).2 200 (by omega)
      have e2 := eo 200 (by omega)
      rw [z] at e2
      exact nns (e2.symm.trans e1)
theorem PQ_0 {S V : w_S} {n : Int} {Y : Int → Int64} {mt : Int → Int} (f : fr (fun a => a = 287 ∨ a = 288) S V) (h56 : sv S 249 56 = 0) (h : RM V n Y mt) : PQ (w_v (w_v V 249 61 0) 249 67 0) n Y mt [] [] [] ∧ pfr S (w_v (w_v V 249 61 0) 249 67 0) := by
  have g : fr (fun a => a = 249) V (w_v (w_v V 249 61 0) 249 67 0) := fr_v (fr_v (fr_refl _ _) rfl) rfl
  refine ⟨⟨RM_fr h g ?_ (by decide) (by decide), ⟨?_, by decide, trivial, fun e he => absurd he (by simp)⟩, ⟨?_, by decide, fun j j0 j1 => absurd j1 (by rw [List.length_nil]; omega)⟩, ⟨rv_self _ _ _ _, by decide, trivial⟩⟩, fr_trans (fr_mono f (fun a h => by omega)) (fr_mono g (fun a h => by omega)), fun k hk => ?_⟩
  · rw [rv_ne (by decide), rv_ne (by decide)]
  · rw [rv_ne (by decide)]
    exact rv_self _ _ _ _
  · rw [rv_ne (by decide), rv_ne (by decide), fr_gv f (by decide)]
    exact h56
  · rw [rv_ne (by omega), rv_ne (by omega), fr_gv f (by decide)]
theorem r_prsd {sc : x_S} {d : Nat} {S : w_S} {nn : Int} {Y : Int → Int64} (hP : PYW S nn Y) (h56 : sv S 249 56 = 0) (hB : ∀ k : Int, 0 ≤ k → k < nn → bc Y (k + 1).toNat ≤ 6) (hd : 50 ≤ d) : w_T sc d 152 0 (x_en 0 [.ref 249]) [] S (PPq S nn Y) := by
  refine w_aload_n rfl rfl rfl ?_
  by_cases hbal : bal Y 0 nn
  · skip
    refine w_CV (as := []) (r := []) rfl rfl rfl rfl sh_249 (Nat.le_of_ble_eq_true rfl) (Nat.le_of_ble_eq_true rfl) (by omega) rfl (w_mono (r_mat hP (by omega)) (fun v S2 h => (⟨(h.2.1 hbal).1, (h.2.1 hbal).2, h.1⟩ : v = some (.int (iZ 1)) ∧ (∃ mt, RM S2 nn Y mt) ∧ fr _ S S2))) ?_
    rintro _ Z8 ⟨rfl, ⟨mt, hR8⟩, hf8⟩
    show w_T _ _ 152 4 _ [.int (iZ 1)] _ _
    refine w_if_ne (pc2 := 9) (pc3 := 7) rfl (by decide) rfl ⟨by decide, by decide⟩ (fun _ => ?_) (fun hc => absurd hc (by decide))
    refine w_aload_n rfl rfl rfl ?_
    refine w_iconst rfl rfl ?_
    refine w_putf rfl rfl sh_249 rfl rfl (by decide) rfl ?_
    refine w_aload_n rfl rfl rfl ?_
    refine w_iconst rfl rfl ?_
    refine w_putf rfl rfl sh_249 rfl rfl (by decide) rfl ?_
    have h00 := PQ_0 hf8 h56 hR8
    have hq0 := h00.1
    have f0 := h00.2
    clear h00
    generalize (w_v (w_v Z8 249 61 0) 249 67 0) = Z0 at hq0 f0 ⊢
    have hl0 : ([] : List Nd).length = 0 := rfl
    have hl1 : ([] : List Tk).length = 0 := rfl
    have n0 := hP.2.1
    have n1 := hP.2.2.1
    refine w_aload_n rfl rfl rfl ?_
    refine w_iconst rfl rfl ?_
    refine w_iconst rfl rfl ?_
    refine w_iconst rfl rfl ?_
    refine w_CV (as := [.int (iZ 0), .int (iZ ((-1))), .int (iZ ((-1)))]) (r := []) rfl rfl rfl rfl sh_249 (Nat.le_of_ble_eq_true rfl) (Nat.le_of_ble_eq_true rfl) (by omega) rfl (r_grow (k := 0) (t := (-1)) (p := (-1)) hq0 (by (try rw [gr_len]); omega) (by omega) (by (try rw [gr_len]); omega) (by omega)) ?_
    rintro _ Z1 ⟨rfl, g1, hq1⟩
    show w_T _ _ 152 26 _ [.int (iZ (((([] : List Nd)).length : Int)))] _ _
    have f1 := pfr_trans f0 g1
    refine w_pop rfl rfl rfl ?_
    refine w_aload_n rfl rfl rfl ?_
    refine w_iconst rfl rfl ?_
    refine w_iconst rfl rfl ?_
    refine w_aload_n rfl rfl rfl ?_
    refine w_getI (z := nn) rfl rfl sh_249 rfl hq1.1.1.1 rfl ?_
    refine w_iconst rfl rfl ?_
    refine w_iconst rfl rfl ?_
    refine w_CV (as := [.int (iZ 0), .int (iZ 0), .int (iZ nn), .int (iZ 0), .int (iZ ((-1)))]) (r := []) rfl rfl rfl rfl sh_249 (Nat.le_of_ble_eq_true rfl) (Nat.le_of_ble_eq_true rfl) (by omega) rfl (r_push (w := 0) (a := 0) (b := nn) (p := 0) (j := (-1)) hq1 (by (try simp only [List.length_cons]); omega) (by omega)) ?_
    rintro _ Z2 ⟨rfl, g2, hq2⟩
    show w_T _ _ 152 39 _ [.int (iZ 1)] _ _
    have f2 := pfr_trans f1 g2
    refine w_pop rfl rfl rfl ?_
    refine w_iconst rfl rfl ?_
    refine w_istore_n rfl (by decide) rfl ?_
    refine w_iconst rfl rfl ?_
    refine w_istore_n rfl (by decide) rfl ?_
    have w0 : wt mt [(0, 0, nn, 0, -1)] = nn - 0 + 0 := wt_w (T := []) (by decide)
    have w1 : muT mt [(0, 0, nn, 0, -1)] = 2 * wt mt [(0, 0, nn, 0, -1)] + ((1 : Nat) : Int) := rfl
    exact r_main (d := d) hP.2.2.2.2.2 n0 n1 hR8.2.1 hbal hB (by omega) _ _ 0 rfl rfl rfl (by decide) (by omega) (by exact hq2) f2
  · skip
    refine w_CV (as := []) (r := []) rfl rfl rfl rfl sh_249 (Nat.le_of_ble_eq_true rfl) (Nat.le_of_ble_eq_true rfl) (by omega) rfl (w_mono (r_mat hP (by omega)) (fun v S2 h => (⟨h.2.2 hbal, h.1⟩ : v = some (.int (iZ 0)) ∧ fr _ S S2))) ?_
    rintro _ Z9 ⟨rfl, hf9⟩
    show w_T _ _ 152 4 _ [.int (iZ 0)] _ _
    refine w_if_ne (pc2 := 9) (pc3 := 7) rfl (by decide) rfl ⟨by decide, by decide⟩ (fun hc => absurd hc (by decide)) (fun _ => ?_)
    refine w_iconst rfl rfl ?_
    refine w_zret rfl rfl (by decide) ?_
    refine ⟨⟨fr_mono hf9 (fun a h => by omega), fun k _ => fr_gv hf9 (by decide) k⟩, fun _ => rfl, fun z => ?_⟩
    exfalso
    cases h : pu Y nn 110 0 [] with
    | none => exact z h
    | some q => exact hbal (pu_B hP.2.2.2.2.2 110 0 [] q hP.2.1 h)
