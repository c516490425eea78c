/-! The reference takes items and statements. -/
def rpi (Y : Int → Int64) (i : Int) : Int := if wk (Y i) = 3 then i + 1 else i
def tp (Y : Int → Int64) (i : Int) : Int := if wk (Y i) = 2 then i + 1 else i
def sst (Y : Int → Int64) (mt : Int → Int) (i e p j : Int) (N : List Nd) : Option (List Tk × List Nd) := if Y i = 123 then some ([(1, i, i, p, j), (0, mt i + 1, e, p, j)], N)
  else if spp Y mt (rpi Y i) e < 0 ∨ ¬ Y (spp Y mt (rpi Y i) e) = 59 then none
  else some ((if spp Y mt (rpi Y i) e = rpi Y i then [] else [(5, rpi Y i, spp Y mt (rpi Y i) e, (N.length : Int), j)]) ++ [(0, spp Y mt (rpi Y i) e + 1, e, p, j)], gr N (if wk (Y i) = 3 then 11 else 10) (if wk (Y i) = 3 then i else spp Y mt (rpi Y i) e) p)
def ist (Y : Int → Int64) (D : List Dcl) (mt : Int → Int) (i e p j : Int) (N : List Nd) : Option (List Tk × List Nd) := if i = e then some ([], N)
  else if 0 ≤ j ∧ sdc D (Y i) = false then sst Y mt i e p j N
  else if sdc D (Y i) = false ∨ ¬ (tp Y i < e ∧ isT D (Y (tp Y i)) = true) then none
  else if spp Y mt (tp Y i + 1) e < 0 then none
  else if Y (spp Y mt (tp Y i + 1) e) = 123 then (if 0 ≤ j ∨ wk (Y i) = 2 then none else some ([(4, tp Y i + 1, spp Y mt (tp Y i + 1) e, (N.length : Int), j), (1, spp Y mt (tp Y i + 1) e, spp Y mt (tp Y i + 1) e, (N.length : Int), j), (0, mt (spp Y mt (tp Y i + 1) e) + 1, e, p, j)], gr (gr N 8 i p) 3 (tp Y i) N.length))
  else some ([(if wk (Y i) = 2 then 3 else 2, tp Y i + 1, spp Y mt (tp Y i + 1) e, (N.length : Int), j), (0, spp Y mt (tp Y i + 1) e + 1, e, p, j)], gr (gr N (if wk (Y i) = 2 then 2 else 1) i p) 3 (tp Y i) N.length)
theorem spp_R {Y : Int → Int64} {mt : Int → Int} {n x e q : Int} (hM : MTP Y n mt) (x0 : 0 ≤ x) (en : e ≤ n) (hn : n ≤ 100) (h : spp Y mt x e = q) : q = -1 ∨ (0 ≤ q ∧ x ≤ q ∧ q < e ∧ Rch Y mt x q ∧ (Y q = 59 ∨ Y q = 123)) := by
  by_cases c : spp Y mt x e < 0
  · left
    rw [← h]
    unfold spp at c ⊢
    by_cases z : wlk Y mt p3 200 x e < e ∧ ¬ Y (wlk Y mt p3 200 x e) = 125
    · rw [if_pos z] at c
      have := Rch_le (wlk_rch (p := p3) hM 200 x e x0 en)
      omega
    · rw [if_neg z]
  · have q := spp_r hM x0 en hn c
    rw [h] at q c
    have := Rch_le q.1
    exact Or.inr ⟨by omega, this, q.2.1, q.1, q.2.2⟩
theorem sdc_ds {D : List Dcl} {y : Int64} {b t : Bool} (hb : decide (y = 514361201865446 ∨ t = true) = b) (ht : t = isT D y) : b = sdc D y := by
  rw [← hb, ht]
  unfold sdc
  by_cases c : y = 514361201865446
  · rw [decide_eq_true (Or.inl c), decide_eq_true (wk_2.1 c)]
    rfl
  · rw [decide_eq_false (p := wk y = 2) (fun z => c (wk_2.2 z))]
    cases isT D y
    · rw [decide_eq_false (by rintro (z | z); exact c z; exact Bool.noConfusion z)]
      rfl
    · rw [decide_eq_true (Or.inr rfl)]
      rfl
theorem r_stmt {sc : x_S} {d : Nat} {S : w_S} {nn : Int} {Y : Int → Int64} {mt : Int → Int} {E : List Ed} {N : List Nd} {T : List Tk} {i e p j : Int} (hq : PQ S nn Y mt E N T) (i0 : 0 ≤ i) (ie : i ≤ e) (en : e ≤ nn) (p0 : 0 ≤ p) (p1 : p < N.length) (j1 : -1 ≤ j) (j2 : j < nn) (hrN : (N.length : Int) + (e - i) ≤ 200) (hrT : (T.length : Int) + 2 * (e - i) ≤ 290) (hie : i < e) (hd : 6 ≤ d) : w_T sc d 155 0 (x_en 0 [.ref 249, .int (iZ i), .int (iZ e), .int (iZ p), .int (iZ j)]) [] S (VX S nn Y mt E T (sst Y mt i e p j N)) := by
  have n0 := hq.1.1.2.1
  have n1 := hq.1.1.2.2.1
  have hg := hq.1.1.2.2.2.2.1
  have hM := hq.1.2.1
  have hlE := hq.2.1.2.1
  have hlN := hq.2.2.1.2.1
  have hlT := hq.2.2.2.2.1
  have hY0 := hq.1.1.2.2.2.2.2
  have hcm := hq.1.2.2.2
  refine w_aload_n rfl rfl rfl ?_
  refine w_getR rfl rfl sh_249 rfl rfl ?_
  refine w_iload_n rfl rfl rfl ?_
  refine w_lald (z := Y i) rfl sh_285 (by omega) (by omega) (by decide) (hq.1.1.2.2.2.1 i (by omega) (by omega)) rfl ?_
  refine w_ldc2 (v := 123) rfl rfl rfl ?_
  refine w_l_ne (pc2 := 42) (pc3 := 13) rfl rfl (by decide) rfl (fun c10 => ?_) (fun c10 => ?_)
  · skip
    refine w_aload_n rfl rfl rfl ?_
    refine w_getR rfl rfl sh_249 rfl rfl ?_
    refine w_iload_n rfl rfl rfl ?_
    refine w_lald (z := Y i) rfl sh_285 (by omega) (by omega) (by decide) (hq.1.1.2.2.2.1 i (by omega) (by omega)) rfl ?_
    refine w_ldc2 (v := 3944367356270) rfl rfl rfl ?_
    refine w_l_ne (pc2 := 59) (pc3 := 55) rfl rfl (by decide) rfl (fun c52 => ?_) (fun c52 => ?_)
    · skip
      refine w_iconst rfl rfl ?_
      refine w_istore rfl (by decide) rfl ?_
      have hw3 : ¬ wk (Y i) = 3 := fun z => c52 (wk_3.2 z)
      have hrp : rpi Y i = i := by unfold rpi; rw [if_neg hw3]
      refine w_iload rfl rfl rfl ?_
      refine w_if_eq (pc2 := 73) (pc3 := 67) rfl (by decide) rfl ⟨by decide, by decide⟩ (fun _ => ?_) (fun hc => absurd hc (by decide))
      refine w_iload_n rfl rfl rfl ?_
      refine w_istore rfl (by decide) rfl ?_
      refine w_aload_n rfl rfl rfl ?_
      refine w_iload rfl rfl rfl ?_
      refine w_iload_n rfl rfl rfl ?_
      refine w_CV (as := [.int (iZ i), .int (iZ e)]) (r := []) rfl rfl rfl rfl sh_249 (Nat.le_of_ble_eq_true rfl) (Nat.le_of_ble_eq_true rfl) (by omega) rfl (r_stop (i := i) (e := e) hq (by omega) (by omega) (by omega) (by omega) (by omega)) ?_
      rintro _ _ ⟨rfl, hS⟩
      rw [hS]
      show w_T _ _ 155 83 _ [.int (iZ (spp Y mt i e))] _ _
      generalize hsq : spp Y mt i e = q
      have hqR := spp_R hM (by omega) en n1 hsq
      have hq9 : q = -1 ∨ (0 ≤ q ∧ i ≤ q ∧ q < e) := by rcases hqR with z | z; exact Or.inl z; exact Or.inr ⟨z.1, z.2.1, z.2.2.1⟩
      skip
      refine w_istore rfl (by decide) rfl ?_
      refine w_iload rfl rfl rfl ?_
      refine w_if_lt (pc2 := 104) (pc3 := 90) rfl (by decide) rfl ⟨by omega, by omega⟩ (fun c87 => ?_) (fun c87 => ?_)
      · skip
        refine w_iconst rfl rfl ?_
        refine w_zret rfl rfl (by decide) ?_
        refine VX_n ?_ (pfr_refl S)
        unfold sst
        rw [if_neg c10, hrp, hsq, if_pos (by first | exact Or.inl c87 | exact Or.inr c101)]
      · skip
        have hqe : 0 ≤ q := by omega
        have hqx := hq9.resolve_left (by omega)
        refine w_aload_n rfl rfl rfl ?_
        refine w_getR rfl rfl sh_249 rfl rfl ?_
        refine w_iload rfl rfl rfl ?_
        refine w_lald (z := Y q) rfl sh_285 (by omega) (by omega) (by decide) (hq.1.1.2.2.2.1 q (by omega) (by omega)) rfl ?_
        refine w_ldc2 (v := 59) rfl rfl rfl ?_
        refine w_l_eq (pc2 := 106) (pc3 := 104) rfl rfl (by decide) rfl (fun c101 => ?_) (fun c101 => ?_)
        · skip
          refine w_aload_n rfl rfl rfl ?_
          refine w_iconst rfl rfl ?_
          refine w_iload rfl rfl rfl ?_
          refine w_iconst rfl rfl ?_
          refine w_iadd rfl rfl ?_
          refine w_iload_n rfl rfl rfl ?_
          refine w_iload_n rfl rfl rfl ?_
          refine w_iload rfl rfl rfl ?_
          refine w_CV (as := [.int (iZ 0), .int (iZ (q + 1)), .int (iZ e), .int (iZ p), .int (iZ j)]) (r := []) rfl rfl rfl rfl sh_249 (Nat.le_of_ble_eq_true rfl) (Nat.le_of_ble_eq_true rfl) (by omega) rfl (r_push (w := 0) (a := q + 1) (b := e) (p := p) (j := j) hq (by (try simp only [List.length_cons]); omega) (by omega)) ?_
          rintro _ Z1 ⟨rfl, g1, hq1⟩
          show w_T _ _ 155 119 _ [.int (iZ 1)] _ _
          have f1 := pfr_trans (pfr_refl S) g1
          refine w_pop rfl rfl rfl ?_
          refine w_aload_n rfl rfl rfl ?_
          refine w_iload rfl rfl rfl ?_
          refine w_if_eq (pc2 := 131) (pc3 := 126) rfl (by decide) rfl ⟨by decide, by decide⟩ (fun _ => ?_) (fun hc => absurd hc (by decide))
          refine w_bipush rfl (by decide) rfl ?_
          refine w_iload rfl rfl rfl ?_
          refine w_if_eq (pc2 := 142) (pc3 := 138) rfl (by decide) rfl ⟨by decide, by decide⟩ (fun _ => ?_) (fun hc => absurd hc (by decide))
          refine w_iload rfl rfl rfl ?_
          refine w_iload_n rfl rfl rfl ?_
          refine w_CV (as := [.int (iZ 10), .int (iZ q), .int (iZ p)]) (r := []) rfl rfl rfl rfl sh_249 (Nat.le_of_ble_eq_true rfl) (Nat.le_of_ble_eq_true rfl) (by omega) rfl (r_grow (k := 10) (t := q) (p := p) hq1 (by (try rw [gr_len]); omega) (by omega) (by (try rw [gr_len]); omega) (by omega)) ?_
          rintro _ Z2 ⟨rfl, g2, hq2⟩
          show w_T _ _ 155 148 _ [.int (iZ ((N.length : Int)))] _ _
          have f2 := pfr_trans f1 g2
          refine w_istore rfl (by decide) rfl ?_
          refine w_iload rfl rfl rfl ?_
          refine w_iload rfl rfl rfl ?_
          refine w_ic_eq (pc2 := 173) (pc3 := 157) rfl (by decide) rfl ⟨by omega, by omega⟩ ⟨by omega, by omega⟩ (fun c154 => ?_) (fun c154 => ?_)
          · skip
            refine w_iconst rfl rfl ?_
            refine w_goto (pc2 := 178) rfl (by decide) ?_
            refine w_zret rfl rfl (by decide) ?_
            refine VX_s (q := ([(0, q + 1, e, p, j)], gr N 10 q p)) ?_ f2 (by exact hq2)
            unfold sst
            rw [if_neg c10, hrp, hsq, if_neg (by rintro (z | z); omega; exact z c101), if_pos c154, if_neg hw3, if_neg hw3]
            rfl
          · skip
            refine w_aload_n rfl rfl rfl ?_
            refine w_iconst rfl rfl ?_
            refine w_iload rfl rfl rfl ?_
            refine w_iload rfl rfl rfl ?_
            refine w_iload rfl rfl rfl ?_
            refine w_iload rfl rfl rfl ?_
            refine w_CV (as := [.int (iZ 5), .int (iZ i), .int (iZ q), .int (iZ ((N.length : Int))), .int (iZ j)]) (r := []) rfl rfl rfl rfl sh_249 (Nat.le_of_ble_eq_true rfl) (Nat.le_of_ble_eq_true rfl) (by omega) rfl (r_push (w := 5) (a := i) (b := q) (p := (N.length : Int)) (j := j) hq2 (by (try simp only [List.length_cons]); omega) (by omega)) ?_
            rintro _ Z3 ⟨rfl, g3, hq3⟩
            show w_T _ _ 155 170 _ [.int (iZ 1)] _ _
            have f3 := pfr_trans f2 g3
            refine w_if_eq (pc2 := 177) (pc3 := 173) rfl (by decide) rfl ⟨by decide, by decide⟩ (fun hc => absurd hc (by decide)) (fun _ => ?_)
            refine w_iconst rfl rfl ?_
            refine w_goto (pc2 := 178) rfl (by decide) ?_
            refine w_zret rfl rfl (by decide) ?_
            refine VX_s (q := ([(5, i, q, (N.length : Int), j), (0, q + 1, e, p, j)], gr N 10 q p)) ?_ f3 (by exact hq3)
            unfold sst
            rw [if_neg c10, hrp, hsq, if_neg (by rintro (z | z); omega; exact z c101), if_neg c154, if_neg hw3, if_neg hw3]
            rfl
        · skip
          refine w_iconst rfl rfl ?_
          refine w_zret rfl rfl (by decide) ?_
          refine VX_n ?_ (pfr_refl S)
          unfold sst
          rw [if_neg c10, hrp, hsq, if_pos (by first | exact Or.inl c87 | exact Or.inr c101)]
    · skip
      refine w_iconst rfl rfl ?_
      refine w_goto (pc2 := 60) rfl (by decide) ?_
      refine w_istore rfl (by decide) rfl ?_
      have hw3 : wk (Y i) = 3 := wk_3.1 c52
      have hrp : rpi Y i = i + 1 := by unfold rpi; rw [if_pos hw3]
      refine w_iload rfl rfl rfl ?_
      refine w_if_eq (pc2 := 73) (pc3 := 67) rfl (by decide) rfl ⟨by decide, by decide⟩ (fun hc => absurd hc (by decide)) (fun _ => ?_)
      refine w_iload_n rfl rfl rfl ?_
      refine w_iconst rfl rfl ?_
      refine w_iadd rfl rfl ?_
      refine w_goto (pc2 := 74) rfl (by decide) ?_
      refine w_istore rfl (by decide) rfl ?_
      refine w_aload_n rfl rfl rfl ?_
      refine w_iload rfl rfl rfl ?_
      refine w_iload_n rfl rfl rfl ?_
      refine w_CV (as := [.int (iZ (i + 1)), .int (iZ e)]) (r := []) rfl rfl rfl rfl sh_249 (Nat.le_of_ble_eq_true rfl) (Nat.le_of_ble_eq_true rfl) (by omega) rfl (r_stop (i := i + 1) (e := e) hq (by omega) (by omega) (by omega) (by omega) (by omega)) ?_
      rintro _ _ ⟨rfl, hS⟩
      rw [hS]
      show w_T _ _ 155 83 _ [.int (iZ (spp Y mt (i + 1) e))] _ _
      generalize hsq : spp Y mt (i + 1) e = q
      have hqR := spp_R hM (by omega) en n1 hsq
      have hq9 : q = -1 ∨ (0 ≤ q ∧ i + 1 ≤ q ∧ q < e) := by rcases hqR with z | z; exact Or.inl z; exact Or.inr ⟨z.1, z.2.1, z.2.2.1⟩
      skip
      refine w_istore rfl (by decide) rfl ?_
      refine w_iload rfl rfl rfl ?_
      refine w_if_lt (pc2 := 104) (pc3 := 90) rfl (by decide) rfl ⟨by omega, by omega⟩ (fun c87 => ?_) (fun c87 => ?_)
      · skip
        refine w_iconst rfl rfl ?_
        refine w_zret rfl rfl (by decide) ?_
        refine VX_n ?_ (pfr_refl S)
        unfold sst
        rw [if_neg c10, hrp, hsq, if_pos (by first | exact Or.inl c87 | exact Or.inr c101)]
      · skip
        have hqe : 0 ≤ q := by omega
        have hqx := hq9.resolve_left (by omega)
        refine w_aload_n rfl rfl rfl ?_
        refine w_getR rfl rfl sh_249 rfl rfl ?_
        refine w_iload rfl rfl rfl ?_
        refine w_lald (z := Y q) rfl sh_285 (by omega) (by omega) (by decide) (hq.1.1.2.2.2.1 q (by omega) (by omega)) rfl ?_
        refine w_ldc2 (v := 59) rfl rfl rfl ?_
        refine w_l_eq (pc2 := 106) (pc3 := 104) rfl rfl (by decide) rfl (fun c101 => ?_) (fun c101 => ?_)
        · skip
          refine w_aload_n rfl rfl rfl ?_
          refine w_iconst rfl rfl ?_
          refine w_iload rfl rfl rfl ?_
          refine w_iconst rfl rfl ?_
          refine w_iadd rfl rfl ?_
          refine w_iload_n rfl rfl rfl ?_
          refine w_iload_n rfl rfl rfl ?_
          refine w_iload rfl rfl rfl ?_
          refine w_CV (as := [.int (iZ 0), .int (iZ (q + 1)), .int (iZ e), .int (iZ p), .int (iZ j)]) (r := []) rfl rfl rfl rfl sh_249 (Nat.le_of_ble_eq_true rfl) (Nat.le_of_ble_eq_true rfl) (by omega) rfl (r_push (w := 0) (a := q + 1) (b := e) (p := p) (j := j) hq (by (try simp only [List.length_cons]); omega) (by omega)) ?_
          rintro _ Z4 ⟨rfl, g4, hq4⟩
          show w_T _ _ 155 119 _ [.int (iZ 1)] _ _
          have f4 := pfr_trans (pfr_refl S) g4
          refine w_pop rfl rfl rfl ?_
          refine w_aload_n rfl rfl rfl ?_
          refine w_iload rfl rfl rfl ?_
          refine w_if_eq (pc2 := 131) (pc3 := 126) rfl (by decide) rfl ⟨by decide, by decide⟩ (fun hc => absurd hc (by decide)) (fun _ => ?_)
          refine w_bipush rfl (by decide) rfl ?_
          refine w_goto (pc2 := 133) rfl (by decide) ?_
          refine w_iload rfl rfl rfl ?_
          refine w_if_eq (pc2 := 142) (pc3 := 138) rfl (by decide) rfl ⟨by decide, by decide⟩ (fun hc => absurd hc (by decide)) (fun _ => ?_)
          refine w_iload_n rfl rfl rfl ?_
          refine w_goto (pc2 := 144) rfl (by decide) ?_
          refine w_iload_n rfl rfl rfl ?_
          refine w_CV (as := [.int (iZ 11), .int (iZ i), .int (iZ p)]) (r := []) rfl rfl rfl rfl sh_249 (Nat.le_of_ble_eq_true rfl) (Nat.le_of_ble_eq_true rfl) (by omega) rfl (r_grow (k := 11) (t := i) (p := p) hq4 (by (try rw [gr_len]); omega) (by omega) (by (try rw [gr_len]); omega) (by omega)) ?_
          rintro _ Z5 ⟨rfl, g5, hq5⟩
          show w_T _ _ 155 148 _ [.int (iZ ((N.length : Int)))] _ _
          have f5 := pfr_trans f4 g5
          refine w_istore rfl (by decide) rfl ?_
          refine w_iload rfl rfl rfl ?_
          refine w_iload rfl rfl rfl ?_
          refine w_ic_eq (pc2 := 173) (pc3 := 157) rfl (by decide) rfl ⟨by omega, by omega⟩ ⟨by omega, by omega⟩ (fun c154 => ?_) (fun c154 => ?_)
          · skip
            refine w_iconst rfl rfl ?_
            refine w_goto (pc2 := 178) rfl (by decide) ?_
            refine w_zret rfl rfl (by decide) ?_
            refine VX_s (q := ([(0, q + 1, e, p, j)], gr N 11 i p)) ?_ f5 (by exact hq5)
            unfold sst
            rw [if_neg c10, hrp, hsq, if_neg (by rintro (z | z); omega; exact z c101), if_pos c154, if_pos hw3, if_pos hw3]
            rfl
          · skip
            refine w_aload_n rfl rfl rfl ?_
            refine w_iconst rfl rfl ?_
            refine w_iload rfl rfl rfl ?_
            refine w_iload rfl rfl rfl ?_
            refine w_iload rfl rfl rfl ?_
            refine w_iload rfl rfl rfl ?_
            refine w_CV (as := [.int (iZ 5), .int (iZ (i + 1)), .int (iZ q), .int (iZ ((N.length : Int))), .int (iZ j)]) (r := []) rfl rfl rfl rfl sh_249 (Nat.le_of_ble_eq_true rfl) (Nat.le_of_ble_eq_true rfl) (by omega) rfl (r_push (w := 5) (a := i + 1) (b := q) (p := (N.length : Int)) (j := j) hq5 (by (try simp only [List.length_cons]); omega) (by omega)) ?_
            rintro _ Z6 ⟨rfl, g6, hq6⟩
            show w_T _ _ 155 170 _ [.int (iZ 1)] _ _
            have f6 := pfr_trans f5 g6
            refine w_if_eq (pc2 := 177) (pc3 := 173) rfl (by decide) rfl ⟨by decide, by decide⟩ (fun hc => absurd hc (by decide)) (fun _ => ?_)
            refine w_iconst rfl rfl ?_
            refine w_goto (pc2 := 178) rfl (by decide) ?_
            refine w_zret rfl rfl (by decide) ?_
            refine VX_s (q := ([(5, i + 1, q, (N.length : Int), j), (0, q + 1, e, p, j)], gr N 11 i p)) ?_ f6 (by exact hq6)
            unfold sst
            rw [if_neg c10, hrp, hsq, if_neg (by rintro (z | z); omega; exact z c101), if_neg c154, if_pos hw3, if_pos hw3]
            rfl
        · skip
          refine w_iconst rfl rfl ?_
          refine w_zret rfl rfl (by decide) ?_
          refine VX_n ?_ (pfr_refl S)
          unfold sst
          rw [if_neg c10, hrp, hsq, if_pos (by first | exact Or.inl c87 | exact Or.inr c101)]
  · skip
    have hmk := hM i (by omega) (by omega) (by rw [c10]; decide)
    have hmk1 := hmk.1
    have hmk2 := hmk.2.1
    refine w_aload_n rfl rfl rfl ?_
    refine w_iconst rfl rfl ?_
    refine w_aload_n rfl rfl rfl ?_
    refine w_getR rfl rfl sh_249 rfl rfl ?_
    refine w_iload_n rfl rfl rfl ?_
    refine w_iald (z := mt i) rfl sh_287 (by omega) (by omega) (by decide) (hq.1.2.2.1 i (by omega) (by omega)) rfl ?_
    refine w_iconst rfl rfl ?_
    refine w_iadd rfl rfl ?_
    refine w_iload_n rfl rfl rfl ?_
    refine w_iload_n rfl rfl rfl ?_
    refine w_iload rfl rfl rfl ?_
    refine w_CV (as := [.int (iZ 0), .int (iZ (mt i + 1)), .int (iZ e), .int (iZ p), .int (iZ j)]) (r := []) rfl rfl rfl rfl sh_249 (Nat.le_of_ble_eq_true rfl) (Nat.le_of_ble_eq_true rfl) (by omega) rfl (r_push (w := 0) (a := mt i + 1) (b := e) (p := p) (j := j) hq (by (try simp only [List.length_cons]); omega) (by omega)) ?_
    rintro _ Z7 ⟨rfl, g7, hq7⟩
    show w_T _ _ 155 30 _ [.int (iZ 1)] _ _
    have f7 := pfr_trans (pfr_refl S) g7
    refine w_pop rfl rfl rfl ?_
    refine w_aload_n rfl rfl rfl ?_
    refine w_iconst rfl rfl ?_
    refine w_iload_n rfl rfl rfl ?_
    refine w_iload_n rfl rfl rfl ?_
    refine w_iload_n rfl rfl rfl ?_
    refine w_iload rfl rfl rfl ?_
    refine w_CV (as := [.int (iZ 1), .int (iZ i), .int (iZ i), .int (iZ p), .int (iZ j)]) (r := []) rfl rfl rfl rfl sh_249 (Nat.le_of_ble_eq_true rfl) (Nat.le_of_ble_eq_true rfl) (by omega) rfl (r_push (w := 1) (a := i) (b := i) (p := p) (j := j) hq7 (by (try simp only [List.length_cons]); omega) (by omega)) ?_
    rintro _ Z8 ⟨rfl, g8, hq8⟩
    show w_T _ _ 155 41 _ [.int (iZ 1)] _ _
    have f8 := pfr_trans f7 g8
    refine w_zret rfl rfl (by decide) ?_
    refine VX_s (q := ([(1, i, i, p, j), (0, mt i + 1, e, p, j)], N)) ?_ f8 (by exact hq8)
    unfold sst
    rw [if_pos c10]
theorem r_item {sc : x_S} {d : Nat} {S : w_S} {nn : Int} {Y : Int → Int64} {mt : Int → Int} {E : List Ed} {N : List Nd} {T : List Tk} {D : List Dcl} {i e p j : Int} (hq : PQ S nn Y mt E N T) (i0 : 0 ≤ i) (ie : i ≤ e) (en : e ≤ nn) (p0 : 0 ≤ p) (p1 : p < N.length) (j1 : -1 ≤ j) (j2 : j < nn) (hrN : (N.length : Int) + (e - i) ≤ 200) (hrT : (T.length : Int) + 2 * (e - i) ≤ 290) (hT : ∀ p, i ≤ p → p < e → tyE nn Y mt E p = isT D (Y p)) (hd : 10 ≤ d) : w_T sc d 154 0 (x_en 0 [.ref 249, .int (iZ i), .int (iZ e), .int (iZ p), .int (iZ j)]) [] S (VX S nn Y mt E T (ist Y D mt i e p j N)) := by
  have n0 := hq.1.1.2.1
  have n1 := hq.1.1.2.2.1
  have hg := hq.1.1.2.2.2.2.1
  have hM := hq.1.2.1
  have hlE := hq.2.1.2.1
  have hlN := hq.2.2.1.2.1
  have hlT := hq.2.2.2.2.1
  have hY0 := hq.1.1.2.2.2.2.2
  have hcm := hq.1.2.2.2
  refine w_iload_n rfl rfl rfl ?_
  refine w_iload_n rfl rfl rfl ?_
  refine w_ic_ne (pc2 := 7) (pc3 := 5) rfl (by decide) rfl ⟨by omega, by omega⟩ ⟨by omega, by omega⟩ (fun c2 => ?_) (fun c2 => ?_)
  · skip
    refine w_aload_n rfl rfl rfl ?_
    refine w_getR rfl rfl sh_249 rfl rfl ?_
    refine w_iload_n rfl rfl rfl ?_
    refine w_lald (z := Y i) rfl sh_285 (by omega) (by omega) (by decide) (hq.1.1.2.2.2.1 i (by omega) (by omega)) rfl ?_
    refine w_ldc2 (v := 514361201865446) rfl rfl rfl ?_
    apply w_jn (A := w_T _ _ 154 33 _ [.int (iZ (zB (decide ((Y i) = 514361201865446 ∨ (tyE nn Y mt E i) = true))))] _ _)
    · intro kT
      refine w_l_eq (pc2 := 28) (pc3 := 20) rfl rfl (by decide) rfl (fun q1 => ?_) (fun q1 => ?_)
      · skip
        refine w_iconst rfl rfl ?_
        refine w_goto (pc2 := 33) rfl (by decide) ?_
        exact w_j1 (p := (Y i) = 514361201865446 ∨ (tyE nn Y mt E i) = true) (Or.inl q1) kT
      · skip
        refine w_aload_n rfl rfl rfl ?_
        refine w_iload_n rfl rfl rfl ?_
        refine w_CV (as := [.int (iZ i)]) (r := []) rfl rfl rfl rfl sh_249 (Nat.le_of_ble_eq_true rfl) (Nat.le_of_ble_eq_true rfl) (by omega) rfl (r_typ (p := i) hq (by omega) (by omega) (by omega)) ?_
        rintro _ _ ⟨rfl, hS⟩
        rw [hS]
        show w_T _ _ 154 25 _ [.int (iZ (zB (tyE nn Y mt E i)))] _ _
        refine w_b_eq (pc2 := 32) (pc3 := 28) rfl (by decide) rfl (fun q2 => ?_) (fun q2 => ?_)
        · skip
          refine w_iconst rfl rfl ?_
          exact w_j0 (p := (Y i) = 514361201865446 ∨ (tyE nn Y mt E i) = true) (not_or.mpr ⟨q1, (Bool.eq_false_iff.mp q2)⟩) kT
        · skip
          refine w_iconst rfl rfl ?_
          refine w_goto (pc2 := 33) rfl (by decide) ?_
          exact w_j1 (p := (Y i) = 514361201865446 ∨ (tyE nn Y mt E i) = true) (Or.inr q2) kT
    · show w_T _ _ 154 33 _ [.int (iZ (zB (decide ((Y i) = 514361201865446 ∨ (tyE nn Y mt E i) = true))))] _ _
      generalize hds : (decide ((Y i) = 514361201865446 ∨ (tyE nn Y mt E i) = true)) = ds
      have hds2 := sdc_ds hds (hT i (by omega) (by omega))
      refine w_istore rfl (by decide) rfl ?_
      refine w_iload rfl rfl rfl ?_
      apply w_br (A := w_T _ _ 154 45 _ [] _ _) (B := w_T _ _ 154 55 _ [] _ _) (0 ≤ j ∧ ds = false)
      · intro kT1 kT2
        refine w_if_lt (pc2 := 55) (pc3 := 40) rfl (by decide) rfl ⟨by omega, by omega⟩ (fun q3 => ?_) (fun q3 => ?_)
        · skip
          exact kT2 (fun q => (Int.not_le.mpr q3) q.1)
        · skip
          refine w_iload rfl rfl rfl ?_
          refine w_b_ne (pc2 := 55) (pc3 := 45) rfl (by decide) rfl (fun q4 => ?_) (fun q4 => ?_)
          · skip
            exact kT2 (fun q => (fun q => Bool.noConfusion ((q4).symm.trans q)) q.2)
          · skip
            exact kT1 ⟨q3, q4⟩
      · intro c37
        refine w_aload_n rfl rfl rfl ?_
        refine w_iload_n rfl rfl rfl ?_
        refine w_iload_n rfl rfl rfl ?_
        refine w_iload_n rfl rfl rfl ?_
        refine w_iload rfl rfl rfl ?_
        rcases e51 : sst Y mt i e p j N with _ | q51
        · skip
          refine w_CV (as := [.int (iZ i), .int (iZ e), .int (iZ p), .int (iZ j)]) (r := []) rfl rfl rfl rfl sh_249 (Nat.le_of_ble_eq_true rfl) (Nat.le_of_ble_eq_true rfl) (by omega) rfl (w_mono (r_stmt (i := i) (e := e) (p := p) (j := j) hq i0 ie en p0 p1 j1 j2 hrN hrT (by omega) (by omega)) (fun v S2 h => (⟨h.2.1 e51, h.1⟩ : v = some (.int (iZ 0)) ∧ pfr _ S2))) ?_
          rintro _ Z1 ⟨rfl, g1⟩
          show w_T _ _ 154 54 _ [.int (iZ 0)] _ _
          have f1 := pfr_trans (pfr_refl S) g1
          refine w_zret rfl rfl (by decide) ?_
          refine VX_n ?_ f1
          unfold ist
          rw [if_neg c2, if_pos ⟨c37.1, hds2.symm.trans c37.2⟩, e51]
        · skip
          refine w_CV (as := [.int (iZ i), .int (iZ e), .int (iZ p), .int (iZ j)]) (r := []) rfl rfl rfl rfl sh_249 (Nat.le_of_ble_eq_true rfl) (Nat.le_of_ble_eq_true rfl) (by omega) rfl (w_mono (r_stmt (i := i) (e := e) (p := p) (j := j) hq i0 ie en p0 p1 j1 j2 hrN hrT (by omega) (by omega)) (fun v S2 h => (⟨(h.2.2 _ e51).1, h.1, (h.2.2 _ e51).2⟩ : v = some (.int (iZ 1)) ∧ pfr _ S2 ∧ PQ S2 nn Y mt E q51.2 (q51.1 ++ T)))) ?_
          rintro _ Z2 ⟨rfl, g2, hq2⟩
          show w_T _ _ 154 54 _ [.int (iZ 1)] _ _
          have f2 := pfr_trans (pfr_refl S) g2
          refine w_zret rfl rfl (by decide) ?_
          refine VX_s (q := q51) ?_ f2 hq2
          unfold ist
          rw [if_neg c2, if_pos ⟨c37.1, hds2.symm.trans c37.2⟩, e51]
      · intro c37
        refine w_aload_n rfl rfl rfl ?_
        refine w_getR rfl rfl sh_249 rfl rfl ?_
        refine w_iload_n rfl rfl rfl ?_
        refine w_lald (z := Y i) rfl sh_285 (by omega) (by omega) (by decide) (hq.1.1.2.2.2.1 i (by omega) (by omega)) rfl ?_
        refine w_ldc2 (v := 514361201865446) rfl rfl rfl ?_
        refine w_l_ne (pc2 := 72) (pc3 := 68) rfl rfl (by decide) rfl (fun c65 => ?_) (fun c65 => ?_)
        · skip
          refine w_iconst rfl rfl ?_
          refine w_istore rfl (by decide) rfl ?_
          have hw2 : ¬ wk (Y i) = 2 := fun z => c65 (wk_2.2 z)
          have htp : tp Y i = i := by unfold tp; rw [if_neg hw2]
          refine w_iload rfl rfl rfl ?_
          refine w_if_eq (pc2 := 86) (pc3 := 80) rfl (by decide) rfl ⟨by decide, by decide⟩ (fun _ => ?_) (fun hc => absurd hc (by decide))
          refine w_iload_n rfl rfl rfl ?_
          refine w_istore rfl (by decide) rfl ?_
          refine w_iload rfl rfl rfl ?_
          refine w_b_eq (pc2 := 121) (pc3 := 94) rfl (by decide) rfl (fun c91 => ?_) (fun c91 => ?_)
          · skip
            refine w_iconst rfl rfl ?_
            refine w_istore rfl (by decide) rfl ?_
            refine w_iload rfl rfl rfl ?_
            refine w_if_ge (pc2 := 131) (pc3 := 129) rfl (by decide) rfl ⟨by decide, by decide⟩ (fun hc => absurd hc (by decide)) (fun _ => ?_)
            refine w_iconst rfl rfl ?_
            refine w_zret rfl rfl (by decide) ?_
            refine VX_n ?_ (pfr_refl S)
            unfold ist
            rw [if_neg c2, if_neg (fun z => c37 ⟨z.1, (hds2.trans z.2)⟩), if_pos (Or.inl (hds2.symm.trans c91))]
          · skip
            refine w_iload rfl rfl rfl ?_
            refine w_iload_n rfl rfl rfl ?_
            refine w_ic_ge (pc2 := 121) (pc3 := 100) rfl (by decide) rfl ⟨by omega, by omega⟩ ⟨by omega, by omega⟩ (fun c97 => ?_) (fun c97 => ?_)
            · skip
              refine w_iconst rfl rfl ?_
              refine w_istore rfl (by decide) rfl ?_
              refine w_iload rfl rfl rfl ?_
              refine w_if_ge (pc2 := 131) (pc3 := 129) rfl (by decide) rfl ⟨by decide, by decide⟩ (fun hc => absurd hc (by decide)) (fun _ => ?_)
              refine w_iconst rfl rfl ?_
              refine w_zret rfl rfl (by decide) ?_
              refine VX_n ?_ (pfr_refl S)
              unfold ist
              rw [if_neg c2, if_neg (fun z => c37 ⟨z.1, (hds2.trans z.2)⟩), if_pos (Or.inr (fun z => by rw [htp] at z; omega))]
            · skip
              refine w_aload_n rfl rfl rfl ?_
              refine w_iload rfl rfl rfl ?_
              refine w_CV (as := [.int (iZ i)]) (r := []) rfl rfl rfl rfl sh_249 (Nat.le_of_ble_eq_true rfl) (Nat.le_of_ble_eq_true rfl) (by omega) rfl (r_typ (p := i) hq (by omega) (by omega) (by omega)) ?_
              rintro _ _ ⟨rfl, hS⟩
              rw [hS]
              show w_T _ _ 154 106 _ [.int (iZ (zB (tyE nn Y mt E i)))] _ _
              refine w_b_eq (pc2 := 121) (pc3 := 109) rfl (by decide) rfl (fun c106 => ?_) (fun c106 => ?_)
              · skip
                refine w_iconst rfl rfl ?_
                refine w_istore rfl (by decide) rfl ?_
                refine w_iload rfl rfl rfl ?_
                refine w_if_ge (pc2 := 131) (pc3 := 129) rfl (by decide) rfl ⟨by decide, by decide⟩ (fun hc => absurd hc (by decide)) (fun _ => ?_)
                refine w_iconst rfl rfl ?_
                refine w_zret rfl rfl (by decide) ?_
                refine VX_n ?_ (pfr_refl S)
                unfold ist
                rw [if_neg c2, if_neg (fun z => c37 ⟨z.1, (hds2.trans z.2)⟩), if_pos (Or.inr (fun z => by rw [htp, ← hT _ (by omega) (by omega), c106] at z; exact Bool.noConfusion z.2))]
              · skip
                have hok : ¬ (sdc D (Y i) = false ∨ ¬ (tp Y i < e ∧ isT D (Y (tp Y i)) = true)) := fun z => by
                  rcases z with z | z
                  · rw [← hds2, c91] at z; exact Bool.noConfusion z
                  · exact z (by rw [htp]; exact ⟨by omega, (hT _ (by omega) (by omega)).symm.trans c106⟩)
                refine w_aload_n rfl rfl rfl ?_
                refine w_iload rfl rfl rfl ?_
                refine w_iconst rfl rfl ?_
                refine w_iadd rfl rfl ?_
                refine w_iload_n rfl rfl rfl ?_
                refine w_CV (as := [.int (iZ (i + 1)), .int (iZ e)]) (r := []) rfl rfl rfl rfl sh_249 (Nat.le_of_ble_eq_true rfl) (Nat.le_of_ble_eq_true rfl) (by omega) rfl (r_stop (i := i + 1) (e := e) hq (by omega) (by omega) (by omega) (by omega) (by omega)) ?_
                rintro _ _ ⟨rfl, hS⟩
                rw [hS]
                show w_T _ _ 154 118 _ [.int (iZ (spp Y mt (i + 1) e))] _ _
                refine w_goto (pc2 := 122) rfl (by decide) ?_
                generalize hsq : spp Y mt (i + 1) e = q
                have hqR := spp_R hM (by omega) en n1 hsq
                have hq9 : q = -1 ∨ (0 ≤ q ∧ i + 1 ≤ q ∧ q < e) := by rcases hqR with z | z; exact Or.inl z; exact Or.inr ⟨z.1, z.2.1, z.2.2.1⟩
                skip
                refine w_istore rfl (by decide) rfl ?_
                refine w_iload rfl rfl rfl ?_
                refine w_if_ge (pc2 := 131) (pc3 := 129) rfl (by decide) rfl ⟨by omega, by omega⟩ (fun c126 => ?_) (fun c126 => ?_)
                · skip
                  have hqx := hq9.resolve_left (by omega)
                  have hqR2 := hqR.resolve_left (by omega)
                  refine w_aload_n rfl rfl rfl ?_
                  refine w_getR rfl rfl sh_249 rfl rfl ?_
                  refine w_iload rfl rfl rfl ?_
                  refine w_lald (z := Y q) rfl sh_285 (by omega) (by omega) (by decide) (hq.1.1.2.2.2.1 q (by omega) (by omega)) rfl ?_
                  refine w_ldc2 (v := 123) rfl rfl rfl ?_
                  refine w_l_ne (pc2 := 149) (pc3 := 145) rfl rfl (by decide) rfl (fun c142 => ?_) (fun c142 => ?_)
                  · skip
                    refine w_iconst rfl rfl ?_
                    refine w_istore rfl (by decide) rfl ?_
                    refine w_iload rfl rfl rfl ?_
                    refine w_if_eq (pc2 := 169) (pc3 := 157) rfl (by decide) rfl ⟨by decide, by decide⟩ (fun _ => ?_) (fun hc => absurd hc (by decide))
                    refine w_aload_n rfl rfl rfl ?_
                    refine w_iconst rfl rfl ?_
                    refine w_iload rfl rfl rfl ?_
                    refine w_if_eq (pc2 := 188) (pc3 := 176) rfl (by decide) rfl ⟨by decide, by decide⟩ (fun _ => ?_) (fun hc => absurd hc (by decide))
                    refine w_iload rfl rfl rfl ?_
                    refine w_iconst rfl rfl ?_
                    refine w_iadd rfl rfl ?_
                    refine w_iload_n rfl rfl rfl ?_
                    refine w_iload_n rfl rfl rfl ?_
                    refine w_iload rfl rfl rfl ?_
                    refine w_CV (as := [.int (iZ 0), .int (iZ (q + 1)), .int (iZ e), .int (iZ p), .int (iZ j)]) (r := []) rfl rfl rfl rfl sh_249 (Nat.le_of_ble_eq_true rfl) (Nat.le_of_ble_eq_true rfl) (by omega) rfl (r_push (w := 0) (a := q + 1) (b := e) (p := p) (j := j) hq (by (try simp only [List.length_cons]); omega) (by omega)) ?_
                    rintro _ Z3 ⟨rfl, g3, hq3⟩
                    show w_T _ _ 154 199 _ [.int (iZ 1)] _ _
                    have f3 := pfr_trans (pfr_refl S) g3
                    refine w_pop rfl rfl rfl ?_
                    have hl0 := gr_len N 1 i p
                    have hl1 := gr_len (gr N 1 i p) 3 i N.length
                    refine w_aload_n rfl rfl rfl ?_
                    refine w_iload rfl rfl rfl ?_
                    refine w_if_eq (pc2 := 211) (pc3 := 206) rfl (by decide) rfl ⟨by decide, by decide⟩ (fun _ => ?_) (fun hc => absurd hc (by decide))
                    refine w_iload rfl rfl rfl ?_
                    refine w_if_eq (pc2 := 220) (pc3 := 216) rfl (by decide) rfl ⟨by decide, by decide⟩ (fun _ => ?_) (fun hc => absurd hc (by decide))
                    refine w_iconst rfl rfl ?_
                    refine w_iload_n rfl rfl rfl ?_
                    refine w_iload_n rfl rfl rfl ?_
                    refine w_CV (as := [.int (iZ 1), .int (iZ i), .int (iZ p)]) (r := []) rfl rfl rfl rfl sh_249 (Nat.le_of_ble_eq_true rfl) (Nat.le_of_ble_eq_true rfl) (by omega) rfl (r_grow (k := 1) (t := i) (p := p) hq3 (by (try rw [gr_len]); omega) (by omega) (by (try rw [gr_len]); omega) (by omega)) ?_
                    rintro _ Z4 ⟨rfl, g4, hq4⟩
                    show w_T _ _ 154 226 _ [.int (iZ ((N.length : Int)))] _ _
                    have f4 := pfr_trans f3 g4
                    refine w_istore rfl (by decide) rfl ?_
                    refine w_aload_n rfl rfl rfl ?_
                    refine w_iconst rfl rfl ?_
                    refine w_iload rfl rfl rfl ?_
                    refine w_iload rfl rfl rfl ?_
                    refine w_CV (as := [.int (iZ 3), .int (iZ i), .int (iZ ((N.length : Int)))]) (r := []) rfl rfl rfl rfl sh_249 (Nat.le_of_ble_eq_true rfl) (Nat.le_of_ble_eq_true rfl) (by omega) rfl (r_grow (k := 3) (t := i) (p := (N.length : Int)) hq4 (by (try rw [gr_len]); omega) (by omega) (by (try rw [gr_len]); omega) (by omega)) ?_
                    rintro _ Z5 ⟨rfl, g5, hq5⟩
                    show w_T _ _ 154 237 _ [.int (iZ (((gr N 1 i p).length : Int)))] _ _
                    have f5 := pfr_trans f4 g5
                    refine w_pop rfl rfl rfl ?_
                    refine w_iload rfl rfl rfl ?_
                    refine w_if_eq (pc2 := 257) (pc3 := 243) rfl (by decide) rfl ⟨by decide, by decide⟩ (fun _ => ?_) (fun hc => absurd hc (by decide))
                    refine w_aload_n rfl rfl rfl ?_
                    refine w_iload rfl rfl rfl ?_
                    refine w_if_eq (pc2 := 267) (pc3 := 263) rfl (by decide) rfl ⟨by decide, by decide⟩ (fun _ => ?_) (fun hc => absurd hc (by decide))
                    refine w_iload rfl rfl rfl ?_
                    refine w_if_eq (pc2 := 276) (pc3 := 272) rfl (by decide) rfl ⟨by decide, by decide⟩ (fun _ => ?_) (fun hc => absurd hc (by decide))
                    refine w_iconst rfl rfl ?_
                    refine w_iload rfl rfl rfl ?_
                    refine w_iconst rfl rfl ?_
                    refine w_iadd rfl rfl ?_
                    refine w_iload rfl rfl rfl ?_
                    refine w_iload rfl rfl rfl ?_
                    refine w_iload rfl rfl rfl ?_
                    refine w_CV (as := [.int (iZ 2), .int (iZ (i + 1)), .int (iZ q), .int (iZ ((N.length : Int))), .int (iZ j)]) (r := []) rfl rfl rfl rfl sh_249 (Nat.le_of_ble_eq_true rfl) (Nat.le_of_ble_eq_true rfl) (by omega) rfl (r_push (w := 2) (a := i + 1) (b := q) (p := (N.length : Int)) (j := j) hq5 (by (try simp only [List.length_cons]); omega) (by omega)) ?_
                    rintro _ Z6 ⟨rfl, g6, hq6⟩
                    show w_T _ _ 154 290 _ [.int (iZ 1)] _ _
                    have f6 := pfr_trans f5 g6
                    refine w_zret rfl rfl (by decide) ?_
                    refine VX_s (q := ([(2, i + 1, q, (N.length : Int), j), (0, q + 1, e, p, j)], gr (gr N 1 i p) 3 i N.length)) ?_ f6 (by exact hq6)
                    unfold ist
                    rw [if_neg c2, if_neg (fun z => c37 ⟨z.1, (hds2.trans z.2)⟩), if_neg hok, htp, hsq, if_neg (by omega), if_neg c142, if_neg hw2, if_neg hw2]
                  · skip
                    refine w_iconst rfl rfl ?_
                    refine w_goto (pc2 := 150) rfl (by decide) ?_
                    refine w_istore rfl (by decide) rfl ?_
                    refine w_iload rfl rfl rfl ?_
                    refine w_if_eq (pc2 := 169) (pc3 := 157) rfl (by decide) rfl ⟨by decide, by decide⟩ (fun hc => absurd hc (by decide)) (fun _ => ?_)
                    refine w_iload rfl rfl rfl ?_
                    refine w_if_ge (pc2 := 167) (pc3 := 162) rfl (by decide) rfl ⟨by omega, by omega⟩ (fun c159 => ?_) (fun c159 => ?_)
                    · skip
                      refine w_iconst rfl rfl ?_
                      refine w_zret rfl rfl (by decide) ?_
                      refine VX_n ?_ (pfr_refl S)
                      unfold ist
                      rw [if_neg c2, if_neg (fun z => c37 ⟨z.1, (hds2.trans z.2)⟩), if_neg hok, htp, hsq, if_neg (by omega), if_pos c142, if_pos (by first | exact Or.inl c159 | exact Or.inr hw2)]
                    · skip
                      refine w_iload rfl rfl rfl ?_
                      refine w_if_eq (pc2 := 169) (pc3 := 167) rfl (by decide) rfl ⟨by decide, by decide⟩ (fun _ => ?_) (fun hc => absurd hc (by decide))
                      refine w_aload_n rfl rfl rfl ?_
                      refine w_iconst rfl rfl ?_
                      refine w_iload rfl rfl rfl ?_
                      refine w_if_eq (pc2 := 188) (pc3 := 176) rfl (by decide) rfl ⟨by decide, by decide⟩ (fun hc => absurd hc (by decide)) (fun _ => ?_)
                      have hmk := hM q (by omega) (by omega) (by rw [c142]; decide)
                      have hmk1 := hmk.1
                      have hmk2 := hmk.2.1
                      refine w_aload_n rfl rfl rfl ?_
                      refine w_getR rfl rfl sh_249 rfl rfl ?_
                      refine w_iload rfl rfl rfl ?_
                      refine w_iald (z := mt q) rfl sh_287 (by omega) (by omega) (by decide) (hq.1.2.2.1 q (by omega) (by omega)) rfl ?_
                      refine w_iconst rfl rfl ?_
                      refine w_iadd rfl rfl ?_
                      refine w_goto (pc2 := 192) rfl (by decide) ?_
                      refine w_iload_n rfl rfl rfl ?_
                      refine w_iload_n rfl rfl rfl ?_
                      refine w_iload rfl rfl rfl ?_
                      refine w_CV (as := [.int (iZ 0), .int (iZ (mt q + 1)), .int (iZ e), .int (iZ p), .int (iZ j)]) (r := []) rfl rfl rfl rfl sh_249 (Nat.le_of_ble_eq_true rfl) (Nat.le_of_ble_eq_true rfl) (by omega) rfl (r_push (w := 0) (a := mt q + 1) (b := e) (p := p) (j := j) hq (by (try simp only [List.length_cons]); omega) (by omega)) ?_
                      rintro _ Z7 ⟨rfl, g7, hq7⟩
                      show w_T _ _ 154 199 _ [.int (iZ 1)] _ _
                      have f7 := pfr_trans (pfr_refl S) g7
                      refine w_pop rfl rfl rfl ?_
                      have hl0 := gr_len N 8 i p
                      have hl1 := gr_len (gr N 8 i p) 3 i N.length
                      refine w_aload_n rfl rfl rfl ?_
                      refine w_iload rfl rfl rfl ?_
                      refine w_if_eq (pc2 := 211) (pc3 := 206) rfl (by decide) rfl ⟨by decide, by decide⟩ (fun hc => absurd hc (by decide)) (fun _ => ?_)
                      refine w_bipush rfl (by decide) rfl ?_
                      refine w_goto (pc2 := 221) rfl (by decide) ?_
                      refine w_iload_n rfl rfl rfl ?_
                      refine w_iload_n rfl rfl rfl ?_
                      refine w_CV (as := [.int (iZ 8), .int (iZ i), .int (iZ p)]) (r := []) rfl rfl rfl rfl sh_249 (Nat.le_of_ble_eq_true rfl) (Nat.le_of_ble_eq_true rfl) (by omega) rfl (r_grow (k := 8) (t := i) (p := p) hq7 (by (try rw [gr_len]); omega) (by omega) (by (try rw [gr_len]); omega) (by omega)) ?_
                      rintro _ Z8 ⟨rfl, g8, hq8⟩
                      show w_T _ _ 154 226 _ [.int (iZ ((N.length : Int)))] _ _
                      have f8 := pfr_trans f7 g8
                      refine w_istore rfl (by decide) rfl ?_
                      refine w_aload_n rfl rfl rfl ?_
                      refine w_iconst rfl rfl ?_
                      refine w_iload rfl rfl rfl ?_
                      refine w_iload rfl rfl rfl ?_
                      refine w_CV (as := [.int (iZ 3), .int (iZ i), .int (iZ ((N.length : Int)))]) (r := []) rfl rfl rfl rfl sh_249 (Nat.le_of_ble_eq_true rfl) (Nat.le_of_ble_eq_true rfl) (by omega) rfl (r_grow (k := 3) (t := i) (p := (N.length : Int)) hq8 (by (try rw [gr_len]); omega) (by omega) (by (try rw [gr_len]); omega) (by omega)) ?_
                      rintro _ Z9 ⟨rfl, g9, hq9⟩
                      show w_T _ _ 154 237 _ [.int (iZ (((gr N 8 i p).length : Int)))] _ _
                      have f9 := pfr_trans f8 g9
                      refine w_pop rfl rfl rfl ?_
                      refine w_iload rfl rfl rfl ?_
                      refine w_if_eq (pc2 := 257) (pc3 := 243) rfl (by decide) rfl ⟨by decide, by decide⟩ (fun hc => absurd hc (by decide)) (fun _ => ?_)
                      refine w_aload_n rfl rfl rfl ?_
                      refine w_iconst rfl rfl ?_
                      refine w_iload rfl rfl rfl ?_
                      refine w_iload rfl rfl rfl ?_
                      refine w_iload rfl rfl rfl ?_
                      refine w_iload rfl rfl rfl ?_
                      refine w_CV (as := [.int (iZ 1), .int (iZ q), .int (iZ q), .int (iZ ((N.length : Int))), .int (iZ j)]) (r := []) rfl rfl rfl rfl sh_249 (Nat.le_of_ble_eq_true rfl) (Nat.le_of_ble_eq_true rfl) (by omega) rfl (r_push (w := 1) (a := q) (b := q) (p := (N.length : Int)) (j := j) hq9 (by (try simp only [List.length_cons]); omega) (by omega)) ?_
                      rintro _ Z10 ⟨rfl, g10, hq10⟩
                      show w_T _ _ 154 256 _ [.int (iZ 1)] _ _
                      have f10 := pfr_trans f9 g10
                      refine w_pop rfl rfl rfl ?_
                      refine w_aload_n rfl rfl rfl ?_
                      refine w_iload rfl rfl rfl ?_
                      refine w_if_eq (pc2 := 267) (pc3 := 263) rfl (by decide) rfl ⟨by decide, by decide⟩ (fun hc => absurd hc (by decide)) (fun _ => ?_)
                      refine w_iconst rfl rfl ?_
                      refine w_goto (pc2 := 277) rfl (by decide) ?_
                      refine w_iload rfl rfl rfl ?_
                      refine w_iconst rfl rfl ?_
                      refine w_iadd rfl rfl ?_
                      refine w_iload rfl rfl rfl ?_
                      refine w_iload rfl rfl rfl ?_
                      refine w_iload rfl rfl rfl ?_
                      refine w_CV (as := [.int (iZ 4), .int (iZ (i + 1)), .int (iZ q), .int (iZ ((N.length : Int))), .int (iZ j)]) (r := []) rfl rfl rfl rfl sh_249 (Nat.le_of_ble_eq_true rfl) (Nat.le_of_ble_eq_true rfl) (by omega) rfl (r_push (w := 4) (a := i + 1) (b := q) (p := (N.length : Int)) (j := j) hq10 (by (try simp only [List.length_cons]); omega) (by omega)) ?_
                      rintro _ Z11 ⟨rfl, g11, hq11⟩
                      show w_T _ _ 154 290 _ [.int (iZ 1)] _ _
                      have f11 := pfr_trans f10 g11
                      refine w_zret rfl rfl (by decide) ?_
                      refine VX_s (q := ([(4, i + 1, q, (N.length : Int), j), (1, q, q, (N.length : Int), j), (0, mt q + 1, e, p, j)], gr (gr N 8 i p) 3 i N.length)) ?_ f11 (by exact hq11)
                      unfold ist
                      rw [if_neg c2, if_neg (fun z => c37 ⟨z.1, (hds2.trans z.2)⟩), if_neg hok, htp, hsq, if_neg (by omega), if_pos c142, if_neg (by rintro (z | z); omega; exact hw2 z)]
                · skip
                  refine w_iconst rfl rfl ?_
                  refine w_zret rfl rfl (by decide) ?_
                  refine VX_n ?_ (pfr_refl S)
                  unfold ist
                  rw [if_neg c2, if_neg (fun z => c37 ⟨z.1, (hds2.trans z.2)⟩), if_neg hok, htp, hsq, if_pos (by omega)]
        · skip
          refine w_iconst rfl rfl ?_
          refine w_goto (pc2 := 73) rfl (by decide) ?_
          refine w_istore rfl (by decide) rfl ?_
          have hw2 : wk (Y i) = 2 := wk_2.1 c65
          have htp : tp Y i = i + 1 := by unfold tp; rw [if_pos hw2]
          refine w_iload rfl rfl rfl ?_
          refine w_if_eq (pc2 := 86) (pc3 := 80) rfl (by decide) rfl ⟨by decide, by decide⟩ (fun hc => absurd hc (by decide)) (fun _ => ?_)
          refine w_iload_n rfl rfl rfl ?_
          refine w_iconst rfl rfl ?_
          refine w_iadd rfl rfl ?_
          refine w_goto (pc2 := 87) rfl (by decide) ?_
          refine w_istore rfl (by decide) rfl ?_
          refine w_iload rfl rfl rfl ?_
          refine w_b_eq (pc2 := 121) (pc3 := 94) rfl (by decide) rfl (fun c91 => ?_) (fun c91 => ?_)
          · skip
            refine w_iconst rfl rfl ?_
            refine w_istore rfl (by decide) rfl ?_
            refine w_iload rfl rfl rfl ?_
            refine w_if_ge (pc2 := 131) (pc3 := 129) rfl (by decide) rfl ⟨by decide, by decide⟩ (fun hc => absurd hc (by decide)) (fun _ => ?_)
            refine w_iconst rfl rfl ?_
            refine w_zret rfl rfl (by decide) ?_
            refine VX_n ?_ (pfr_refl S)
            unfold ist
            rw [if_neg c2, if_neg (fun z => c37 ⟨z.1, (hds2.trans z.2)⟩), if_pos (Or.inl (hds2.symm.trans c91))]
          · skip
            refine w_iload rfl rfl rfl ?_
            refine w_iload_n rfl rfl rfl ?_
            refine w_ic_ge (pc2 := 121) (pc3 := 100) rfl (by decide) rfl ⟨by omega, by omega⟩ ⟨by omega, by omega⟩ (fun c97 => ?_) (fun c97 => ?_)
            · skip
              refine w_iconst rfl rfl ?_
              refine w_istore rfl (by decide) rfl ?_
              refine w_iload rfl rfl rfl ?_
              refine w_if_ge (pc2 := 131) (pc3 := 129) rfl (by decide) rfl ⟨by decide, by decide⟩ (fun hc => absurd hc (by decide)) (fun _ => ?_)
              refine w_iconst rfl rfl ?_
              refine w_zret rfl rfl (by decide) ?_
              refine VX_n ?_ (pfr_refl S)
              unfold ist
              rw [if_neg c2, if_neg (fun z => c37 ⟨z.1, (hds2.trans z.2)⟩), if_pos (Or.inr (fun z => by rw [htp] at z; omega))]
            · skip
              refine w_aload_n rfl rfl rfl ?_
              refine w_iload rfl rfl rfl ?_
              refine w_CV (as := [.int (iZ (i + 1))]) (r := []) rfl rfl rfl rfl sh_249 (Nat.le_of_ble_eq_true rfl) (Nat.le_of_ble_eq_true rfl) (by omega) rfl (r_typ (p := i + 1) hq (by omega) (by omega) (by omega)) ?_
              rintro _ _ ⟨rfl, hS⟩
              rw [hS]
              show w_T _ _ 154 106 _ [.int (iZ (zB (tyE nn Y mt E (i + 1))))] _ _
              refine w_b_eq (pc2 := 121) (pc3 := 109) rfl (by decide) rfl (fun c106 => ?_) (fun c106 => ?_)
              · skip
                refine w_iconst rfl rfl ?_
                refine w_istore rfl (by decide) rfl ?_
                refine w_iload rfl rfl rfl ?_
                refine w_if_ge (pc2 := 131) (pc3 := 129) rfl (by decide) rfl ⟨by decide, by decide⟩ (fun hc => absurd hc (by decide)) (fun _ => ?_)
                refine w_iconst rfl rfl ?_
                refine w_zret rfl rfl (by decide) ?_
                refine VX_n ?_ (pfr_refl S)
                unfold ist
                rw [if_neg c2, if_neg (fun z => c37 ⟨z.1, (hds2.trans z.2)⟩), if_pos (Or.inr (fun z => by rw [htp, ← hT _ (by omega) (by omega), c106] at z; exact Bool.noConfusion z.2))]
              · skip
                have hok : ¬ (sdc D (Y i) = false ∨ ¬ (tp Y i < e ∧ isT D (Y (tp Y i)) = true)) := fun z => by
                  rcases z with z | z
                  · rw [← hds2, c91] at z; exact Bool.noConfusion z
                  · exact z (by rw [htp]; exact ⟨by omega, (hT _ (by omega) (by omega)).symm.trans c106⟩)
                refine w_aload_n rfl rfl rfl ?_
                refine w_iload rfl rfl rfl ?_
                refine w_iconst rfl rfl ?_
                refine w_iadd rfl rfl ?_
                refine w_iload_n rfl rfl rfl ?_
                refine w_CV (as := [.int (iZ (i + 1 + 1)), .int (iZ e)]) (r := []) rfl rfl rfl rfl sh_249 (Nat.le_of_ble_eq_true rfl) (Nat.le_of_ble_eq_true rfl) (by omega) rfl (r_stop (i := i + 1 + 1) (e := e) hq (by omega) (by omega) (by omega) (by omega) (by omega)) ?_
                rintro _ _ ⟨rfl, hS⟩
                rw [hS]
                show w_T _ _ 154 118 _ [.int (iZ (spp Y mt (i + 1 + 1) e))] _ _
                refine w_goto (pc2 := 122) rfl (by decide) ?_
                generalize hsq : spp Y mt (i + 1 + 1) e = q
                have hqR := spp_R hM (by omega) en n1 hsq
                have hq9 : q = -1 ∨ (0 ≤ q ∧ i + 1 + 1 ≤ q ∧ q < e) := by rcases hqR with z | z; exact Or.inl z; exact Or.inr ⟨z.1, z.2.1, z.2.2.1⟩
                skip
                refine w_istore rfl (by decide) rfl ?_
                refine w_iload rfl rfl rfl ?_
                refine w_if_ge (pc2 := 131) (pc3 := 129) rfl (by decide) rfl ⟨by omega, by omega⟩ (fun c126 => ?_) (fun c126 => ?_)
                · skip
                  have hqx := hq9.resolve_left (by omega)
                  have hqR2 := hqR.resolve_left (by omega)
                  refine w_aload_n rfl rfl rfl ?_
                  refine w_getR rfl rfl sh_249 rfl rfl ?_
                  refine w_iload rfl rfl rfl ?_
                  refine w_lald (z := Y q) rfl sh_285 (by omega) (by omega) (by decide) (hq.1.1.2.2.2.1 q (by omega) (by omega)) rfl ?_
                  refine w_ldc2 (v := 123) rfl rfl rfl ?_
                  refine w_l_ne (pc2 := 149) (pc3 := 145) rfl rfl (by decide) rfl (fun c142 => ?_) (fun c142 => ?_)
                  · skip
                    refine w_iconst rfl rfl ?_
                    refine w_istore rfl (by decide) rfl ?_
                    refine w_iload rfl rfl rfl ?_
                    refine w_if_eq (pc2 := 169) (pc3 := 157) rfl (by decide) rfl ⟨by decide, by decide⟩ (fun _ => ?_) (fun hc => absurd hc (by decide))
                    refine w_aload_n rfl rfl rfl ?_
                    refine w_iconst rfl rfl ?_
                    refine w_iload rfl rfl rfl ?_
                    refine w_if_eq (pc2 := 188) (pc3 := 176) rfl (by decide) rfl ⟨by decide, by decide⟩ (fun _ => ?_) (fun hc => absurd hc (by decide))
                    refine w_iload rfl rfl rfl ?_
                    refine w_iconst rfl rfl ?_
                    refine w_iadd rfl rfl ?_
                    refine w_iload_n rfl rfl rfl ?_
                    refine w_iload_n rfl rfl rfl ?_
                    refine w_iload rfl rfl rfl ?_
                    refine w_CV (as := [.int (iZ 0), .int (iZ (q + 1)), .int (iZ e), .int (iZ p), .int (iZ j)]) (r := []) rfl rfl rfl rfl sh_249 (Nat.le_of_ble_eq_true rfl) (Nat.le_of_ble_eq_true rfl) (by omega) rfl (r_push (w := 0) (a := q + 1) (b := e) (p := p) (j := j) hq (by (try simp only [List.length_cons]); omega) (by omega)) ?_
                    rintro _ Z12 ⟨rfl, g12, hq12⟩
                    show w_T _ _ 154 199 _ [.int (iZ 1)] _ _
                    have f12 := pfr_trans (pfr_refl S) g12
                    refine w_pop rfl rfl rfl ?_
                    have hl0 := gr_len N 2 i p
                    have hl1 := gr_len (gr N 2 i p) 3 (i + 1) N.length
                    refine w_aload_n rfl rfl rfl ?_
                    refine w_iload rfl rfl rfl ?_
                    refine w_if_eq (pc2 := 211) (pc3 := 206) rfl (by decide) rfl ⟨by decide, by decide⟩ (fun _ => ?_) (fun hc => absurd hc (by decide))
                    refine w_iload rfl rfl rfl ?_
                    refine w_if_eq (pc2 := 220) (pc3 := 216) rfl (by decide) rfl ⟨by decide, by decide⟩ (fun hc => absurd hc (by decide)) (fun _ => ?_)
                    refine w_iconst rfl rfl ?_
                    refine w_goto (pc2 := 221) rfl (by decide) ?_
                    refine w_iload_n rfl rfl rfl ?_
                    refine w_iload_n rfl rfl rfl ?_
                    refine w_CV (as := [.int (iZ 2), .int (iZ i), .int (iZ p)]) (r := []) rfl rfl rfl rfl sh_249 (Nat.le_of_ble_eq_true rfl) (Nat.le_of_ble_eq_true rfl) (by omega) rfl (r_grow (k := 2) (t := i) (p := p) hq12 (by (try rw [gr_len]); omega) (by omega) (by (try rw [gr_len]); omega) (by omega)) ?_
                    rintro _ Z13 ⟨rfl, g13, hq13⟩
                    show w_T _ _ 154 226 _ [.int (iZ ((N.length : Int)))] _ _
                    have f13 := pfr_trans f12 g13
                    refine w_istore rfl (by decide) rfl ?_
                    refine w_aload_n rfl rfl rfl ?_
                    refine w_iconst rfl rfl ?_
                    refine w_iload rfl rfl rfl ?_
                    refine w_iload rfl rfl rfl ?_
                    refine w_CV (as := [.int (iZ 3), .int (iZ (i + 1)), .int (iZ ((N.length : Int)))]) (r := []) rfl rfl rfl rfl sh_249 (Nat.le_of_ble_eq_true rfl) (Nat.le_of_ble_eq_true rfl) (by omega) rfl (r_grow (k := 3) (t := i + 1) (p := (N.length : Int)) hq13 (by (try rw [gr_len]); omega) (by omega) (by (try rw [gr_len]); omega) (by omega)) ?_
                    rintro _ Z14 ⟨rfl, g14, hq14⟩
                    show w_T _ _ 154 237 _ [.int (iZ (((gr N 2 i p).length : Int)))] _ _
                    have f14 := pfr_trans f13 g14
                    refine w_pop rfl rfl rfl ?_
                    refine w_iload rfl rfl rfl ?_
                    refine w_if_eq (pc2 := 257) (pc3 := 243) rfl (by decide) rfl ⟨by decide, by decide⟩ (fun _ => ?_) (fun hc => absurd hc (by decide))
                    refine w_aload_n rfl rfl rfl ?_
                    refine w_iload rfl rfl rfl ?_
                    refine w_if_eq (pc2 := 267) (pc3 := 263) rfl (by decide) rfl ⟨by decide, by decide⟩ (fun _ => ?_) (fun hc => absurd hc (by decide))
                    refine w_iload rfl rfl rfl ?_
                    refine w_if_eq (pc2 := 276) (pc3 := 272) rfl (by decide) rfl ⟨by decide, by decide⟩ (fun hc => absurd hc (by decide)) (fun _ => ?_)
                    refine w_iconst rfl rfl ?_
                    refine w_goto (pc2 := 277) rfl (by decide) ?_
                    refine w_iload rfl rfl rfl ?_
                    refine w_iconst rfl rfl ?_
                    refine w_iadd rfl rfl ?_
                    refine w_iload rfl rfl rfl ?_
                    refine w_iload rfl rfl rfl ?_
                    refine w_iload rfl rfl rfl ?_
                    refine w_CV (as := [.int (iZ 3), .int (iZ (i + 1 + 1)), .int (iZ q), .int (iZ ((N.length : Int))), .int (iZ j)]) (r := []) rfl rfl rfl rfl sh_249 (Nat.le_of_ble_eq_true rfl) (Nat.le_of_ble_eq_true rfl) (by omega) rfl (r_push (w := 3) (a := i + 1 + 1) (b := q) (p := (N.length : Int)) (j := j) hq14 (by (try simp only [List.length_cons]); omega) (by omega)) ?_
                    rintro _ Z15 ⟨rfl, g15, hq15⟩
                    show w_T _ _ 154 290 _ [.int (iZ 1)] _ _
                    have f15 := pfr_trans f14 g15
                    refine w_zret rfl rfl (by decide) ?_
                    refine VX_s (q := ([(3, i + 1 + 1, q, (N.length : Int), j), (0, q + 1, e, p, j)], gr (gr N 2 i p) 3 (i + 1) N.length)) ?_ f15 (by exact hq15)
                    unfold ist
                    rw [if_neg c2, if_neg (fun z => c37 ⟨z.1, (hds2.trans z.2)⟩), if_neg hok, htp, hsq, if_neg (by omega), if_neg c142, if_pos hw2, if_pos hw2]
                  · skip
                    refine w_iconst rfl rfl ?_
                    refine w_goto (pc2 := 150) rfl (by decide) ?_
                    refine w_istore rfl (by decide) rfl ?_
                    refine w_iload rfl rfl rfl ?_
                    refine w_if_eq (pc2 := 169) (pc3 := 157) rfl (by decide) rfl ⟨by decide, by decide⟩ (fun hc => absurd hc (by decide)) (fun _ => ?_)
                    refine w_iload rfl rfl rfl ?_
                    refine w_if_ge (pc2 := 167) (pc3 := 162) rfl (by decide) rfl ⟨by omega, by omega⟩ (fun c159 => ?_) (fun c159 => ?_)
                    · skip
                      refine w_iconst rfl rfl ?_
                      refine w_zret rfl rfl (by decide) ?_
                      refine VX_n ?_ (pfr_refl S)
                      unfold ist
                      rw [if_neg c2, if_neg (fun z => c37 ⟨z.1, (hds2.trans z.2)⟩), if_neg hok, htp, hsq, if_neg (by omega), if_pos c142, if_pos (by first | exact Or.inl c159 | exact Or.inr hw2)]
                    · skip
                      refine w_iload rfl rfl rfl ?_
                      refine w_if_eq (pc2 := 169) (pc3 := 167) rfl (by decide) rfl ⟨by decide, by decide⟩ (fun hc => absurd hc (by decide)) (fun _ => ?_)
                      refine w_iconst rfl rfl ?_
                      refine w_zret rfl rfl (by decide) ?_
                      refine VX_n ?_ (pfr_refl S)
                      unfold ist
                      rw [if_neg c2, if_neg (fun z => c37 ⟨z.1, (hds2.trans z.2)⟩), if_neg hok, htp, hsq, if_neg (by omega), if_pos c142, if_pos (by first | exact Or.inl c159 | exact Or.inr hw2)]
                · skip
                  refine w_iconst rfl rfl ?_
                  refine w_zret rfl rfl (by decide) ?_
                  refine VX_n ?_ (pfr_refl S)
                  unfold ist
                  rw [if_neg c2, if_neg (fun z => c37 ⟨z.1, (hds2.trans z.2)⟩), if_neg hok, htp, hsq, if_pos (by omega)]
  · skip
    refine w_iconst rfl rfl ?_
    refine w_zret rfl rfl (by decide) ?_
    refine VX_s (q := ([], N)) ?_ (pfr_refl S) hq
    unfold ist
    rw [if_pos c2]
