/-! The String constants: length, charAt, indexOf. -/
theorem sgl_R (q : Nat) : 0 ≤ sgl q ∧ sgl q ≤ 17 := by
  unfold sgl
  have h : x_gl.all (fun n => decide (n ≤ 17)) = true := by decide +kernel
  rw [List.getD_eq_getElem?_getD]
  cases e : x_gl[q - 1]? with
  | none => exact ⟨by decide, by decide⟩
  | some n =>
    have := of_decide_eq_true (List.all_eq_true.mp h n (List.mem_of_getElem? e))
    simp only [Option.getD_some]
    omega
theorem sgb_R (q : Nat) (i : Int) : 0 ≤ sgb q i ∧ sgb q i < 128 := by
  unfold sgb
  have h : x_gb.all (fun l => l.all (fun n => decide (0 ≤ n.toInt ∧ n.toInt < 128))) = true := by decide +kernel
  cases e : x_gb[q - 1]? with
  | none =>
    simp only [List.getD_eq_getElem?_getD, e, Option.getD_none]
    exact ⟨by simp, by simp⟩
  | some l =>
    simp only [List.getD_eq_getElem?_getD, e, Option.getD_some]
    cases e2 : l[i.toNat]? with
    | none => exact ⟨by simp, by simp⟩
    | some n => exact of_decide_eq_true (List.all_eq_true.mp (List.all_eq_true.mp h l (List.mem_of_getElem? e)) n (List.mem_of_getElem? e2))
theorem zi2b_id {z : Int} (h0 : 0 ≤ z) (h1 : z < 128) : zi2b z = z := by
  have h : (List.range 128).all (fun k => decide (zi2b (k : Int) = k)) = true := by decide +kernel
  have h2 := of_decide_eq_true (List.all_eq_true.mp h z.toNat (List.mem_range.mpr (by omega)))
  rw [Int.toNat_of_nonneg h0] at h2
  exact h2
theorem zshr_0 {a : Int} (h : iR a) : zshr a 0 = a := by
  rw [zshr_div h (by decide) (by decide)]
  simp
theorem zand_255 {z : Int} (h0 : 0 ≤ z) (h1 : z < 128) : zand z 255 = z := by
  have h : (List.range 128).all (fun k => decide (zand (k : Int) 255 = k)) = true := by decide +kernel
  have h2 := of_decide_eq_true (List.all_eq_true.mp h z.toNat (List.mem_range.mpr (by omega)))
  rw [Int.toNat_of_nonneg h0] at h2
  exact h2
/-- where a letter stands in a constant, from i on -/
def sio (q : Nat) (c : Int) : Nat → Int → Int
  | 0, _ => -1
  | n + 1, i => if i < sgl q then (if sgb q i = c then i else sio q c n (i + 1)) else -1
theorem c_coder {sc : x_S} {d : Nat} {S : w_S} {q : Nat} (hq : 1 ≤ q ∧ q < 1 + x_gn) (hd : 0 ≤ d) : w_T sc d 176 0 (x_en 0 [.retAddr q]) [] S (fun v S2 => v = some (.int (iZ 0)) ∧ S2 = S) := by
  have hq2 : q < 20 := hq.2
  have hl := sgl_R q
  refine w_sstat rfl rfl rfl ?_
  refine w_if_eq (pc2 := 13) (pc3 := 6) rfl (by decide) rfl ⟨by decide, by decide⟩ (fun hc => absurd hc (by decide)) (fun _ => ?_)
  refine w_aloadk_n rfl rfl (by omega) rfl ?_
  refine w_sgetc rfl rfl hq rfl ?_
  refine w_goto (pc2 := 14) rfl (by decide) ?_
  refine w_byret rfl rfl (by decide) ?_
  exact ⟨rfl, rfl⟩
theorem c_isl {sc : x_S} {d : Nat} {S : w_S} {q : Nat} (hq : 1 ≤ q ∧ q < 1 + x_gn) (hd : 0 ≤ d) : w_T sc d 177 0 (x_en 0 [.retAddr q]) [] S (fun v S2 => v = some (.int (iZ 1)) ∧ S2 = S) := by
  have hq2 : q < 20 := hq.2
  have hl := sgl_R q
  refine w_sstat rfl rfl rfl ?_
  refine w_if_eq (pc2 := 17) (pc3 := 6) rfl (by decide) rfl ⟨by decide, by decide⟩ (fun hc => absurd hc (by decide)) (fun _ => ?_)
  refine w_aloadk_n rfl rfl (by omega) rfl ?_
  refine w_sgetc rfl rfl hq rfl ?_
  refine w_if_ne (pc2 := 17) (pc3 := 13) rfl (by decide) rfl ⟨by decide, by decide⟩ (fun hc => absurd hc (by decide)) (fun _ => ?_)
  refine w_iconst rfl rfl ?_
  refine w_goto (pc2 := 18) rfl (by decide) ?_
  refine w_zret rfl rfl (by decide) ?_
  exact ⟨rfl, rfl⟩
theorem c_slen {sc : x_S} {d : Nat} {S : w_S} {q : Nat} (hq : 1 ≤ q ∧ q < 1 + x_gn) (hd : 1 ≤ d) : w_T sc d 172 0 (x_en 0 [.retAddr q]) [] S (fun v S2 => v = some (.int (iZ (sgl q))) ∧ S2 = S) := by
  have hq2 : q < 20 := hq.2
  have hl := sgl_R q
  refine w_aloadk_n rfl rfl (by omega) rfl ?_
  refine w_sgetv rfl rfl hq rfl ?_
  refine w_salen (q := q) rfl hq rfl ?_
  refine w_aloadk_n rfl rfl (by omega) rfl ?_
  refine w_C7 (as := []) (r := [.int (iZ (sgl q))]) rfl rfl rfl rfl hq (Nat.le_of_ble_eq_true rfl) (Nat.le_of_ble_eq_true rfl) (by omega) rfl (c_coder hq (by omega)) ?_
  rintro _ _ ⟨rfl, hS⟩
  rw [hS]
  show w_T _ _ 172 9 _ [.int (iZ 0), .int (iZ (sgl q))] _ _
  refine w_zshr rfl rfl ?_
  refine w_iret rfl rfl ?_
  exact q_i (zshr_0 ⟨by omega, by omega⟩)
theorem c_chk {sc : x_S} {d : Nat} {S : w_S} {q : Nat} {i n : Int} (hq : 1 ≤ q ∧ q < 1 + x_gn) (h0 : 0 ≤ i) (h1 : i < n) (h2 : n < 1000) (hd : 0 ≤ d) : w_T sc d 183 0 (x_en 0 [.int (iZ i), .int (iZ n), .retAddr 2000]) [] S (fun v S2 => v = some (.int (iZ i)) ∧ S2 = S) := by
  have hq2 : q < 20 := hq.2
  have hl := sgl_R q
  refine w_iload_n rfl rfl rfl ?_
  refine w_if_lt (pc2 := 9) (pc3 := 4) rfl (by decide) rfl ⟨by omega, by omega⟩ (fun c1 => ?_) (fun c1 => ?_)
  · omega
  · skip
    refine w_iload_n rfl rfl rfl ?_
    refine w_iload_n rfl rfl rfl ?_
    refine w_ic_lt (pc2 := 16) (pc3 := 9) rfl (by decide) rfl ⟨by omega, by omega⟩ ⟨by omega, by omega⟩ (fun c6 => ?_) (fun c6 => ?_)
    · skip
      refine w_iload_n rfl rfl rfl ?_
      refine w_iret rfl rfl ?_
      exact ⟨rfl, rfl⟩
    · omega
theorem c_chi {sc : x_S} {d : Nat} {S : w_S} {q : Nat} {i n : Int} (hq : 1 ≤ q ∧ q < 1 + x_gn) (h0 : 0 ≤ i) (h1 : i < n) (h2 : n < 1000) (hd : 1 ≤ d) : w_T sc d 178 0 (x_en 0 [.int (iZ i), .int (iZ n)]) [] S (fun v S2 => v = none ∧ S2 = S) := by
  have hq2 : q < 20 := hq.2
  have hl := sgl_R q
  refine w_iload_n rfl rfl rfl ?_
  refine w_iload_n rfl rfl rfl ?_
  refine w_sstat1 rfl rfl rfl ?_
  refine w_CS (as := [.int (iZ i), .int (iZ n), .retAddr 2000]) (r := []) rfl rfl rfl rfl (Nat.le_of_ble_eq_true rfl) (Nat.le_of_ble_eq_true rfl) (by omega) rfl (c_chk hq h0 h1 h2 (by omega)) ?_
  rintro _ _ ⟨rfl, hS⟩
  rw [hS]
  show w_T _ _ 178 8 _ [.int (iZ i)] _ _
  refine w_pop rfl rfl rfl ?_
  refine w_vret rfl rfl ?_
  exact ⟨rfl, rfl⟩
theorem c_lca {sc : x_S} {d : Nat} {S : w_S} {q : Nat} {i : Int} (hq : 1 ≤ q ∧ q < 1 + x_gn) (h0 : 0 ≤ i) (h1 : i < sgl q) (hd : 2 ≤ d) : w_T sc d 179 0 (x_en 0 [.retAddr (999 + q), .int (iZ i)]) [] S (fun v S2 => v = some (.int (iZ (sgb q i))) ∧ S2 = S) := by
  have hq2 : q < 20 := hq.2
  have hl := sgl_R q
  have hb := sgb_R q i
  refine w_iload_n rfl rfl rfl ?_
  refine w_aloadk_n rfl rfl (by omega) rfl ?_
  refine w_salen (q := q) rfl hq rfl ?_
  refine w_CS (as := [.int (iZ i), .int (iZ (sgl q))]) (r := []) rfl rfl rfl rfl (Nat.le_of_ble_eq_true rfl) (Nat.le_of_ble_eq_true rfl) (by omega) rfl (c_chi hq (i := i) (n := sgl q) h0 h1 (by omega) (by omega)) ?_
  rintro _ _ ⟨rfl, hS⟩
  rw [hS]
  show w_T _ _ 179 6 _ [] _ _
  refine w_aloadk_n rfl rfl (by omega) rfl ?_
  refine w_iload_n rfl rfl rfl ?_
  refine w_sbald (q := q) rfl hq (by omega) (by omega) (by omega) rfl ?_
  refine w_sipush rfl (by decide) rfl ?_
  refine w_zand rfl rfl ?_
  refine w_zi2c rfl rfl ?_
  refine w_cret rfl rfl (by rw [zand_255 hb.1 hb.2, zi2c_id hb.1 (by omega)]; exact nar_c hb.1 (by omega)) ?_
  exact q_i (by rw [zand_255 hb.1 hb.2, zi2c_id hb.1 (by omega)])
theorem c_cha {sc : x_S} {d : Nat} {S : w_S} {q : Nat} {i : Int} (hq : 1 ≤ q ∧ q < 1 + x_gn) (h0 : 0 ≤ i) (h1 : i < sgl q) (hd : 3 ≤ d) : w_T sc d 173 0 (x_en 0 [.retAddr q, .int (iZ i)]) [] S (fun v S2 => v = some (.int (iZ (sgb q i))) ∧ S2 = S) := by
  have hq2 : q < 20 := hq.2
  have hl := sgl_R q
  have hb := sgb_R q i
  refine w_aloadk_n rfl rfl (by omega) rfl ?_
  refine w_C7 (as := []) (r := []) rfl rfl rfl rfl hq (Nat.le_of_ble_eq_true rfl) (Nat.le_of_ble_eq_true rfl) (by omega) rfl (c_isl hq (by omega)) ?_
  rintro _ _ ⟨rfl, hS⟩
  rw [hS]
  show w_T _ _ 173 4 _ [.int (iZ 1)] _ _
  refine w_if_eq (pc2 := 16) (pc3 := 7) rfl (by decide) rfl ⟨by decide, by decide⟩ (fun hc => absurd hc (by decide)) (fun _ => ?_)
  refine w_aloadk_n rfl rfl (by omega) rfl ?_
  refine w_sgetv rfl rfl hq rfl ?_
  refine w_iload_n rfl rfl rfl ?_
  refine w_CS (as := [.retAddr (999 + q), .int (iZ i)]) (r := []) rfl rfl rfl rfl (Nat.le_of_ble_eq_true rfl) (Nat.le_of_ble_eq_true rfl) (by omega) rfl (c_lca hq h0 h1 (by omega)) ?_
  rintro _ _ ⟨rfl, hS⟩
  rw [hS]
  show w_T _ _ 173 15 _ [.int (iZ (sgb q i))] _ _
  refine w_cret rfl rfl (nar_c hb.1 (by omega)) ?_
  exact ⟨rfl, rfl⟩
theorem c_enc {sc : x_S} {d : Nat} {S : w_S} {q : Nat} {c : Int} (hq : 1 ≤ q ∧ q < 1 + x_gn) (h0 : 0 ≤ c) (h1 : c < 128) (hd : 0 ≤ d) : w_T sc d 180 0 (x_en 0 [.int (iZ c)]) [] S (fun v S2 => v = some (.int (iZ 1)) ∧ S2 = S) := by
  have hq2 : q < 20 := hq.2
  have hl := sgl_R q
  refine w_iload_n rfl rfl rfl ?_
  refine w_if_lt (pc2 := 15) (pc3 := 4) rfl (by decide) rfl ⟨by omega, by omega⟩ (fun c1 => ?_) (fun c1 => ?_)
  · omega
  · skip
    refine w_iload_n rfl rfl rfl ?_
    refine w_sipush rfl (by decide) rfl ?_
    refine w_ic_gt (pc2 := 15) (pc3 := 11) rfl (by decide) rfl ⟨by omega, by omega⟩ ⟨by decide, by decide⟩ (fun c8 => ?_) (fun c8 => ?_)
    · omega
    · skip
      refine w_iconst rfl rfl ?_
      refine w_goto (pc2 := 16) rfl (by decide) ?_
      refine w_zret rfl rfl (by decide) ?_
      exact ⟨rfl, rfl⟩
theorem c_ioc_c {sc : x_S} {d : Nat} {S : w_S} {q : Nat} {c : Int} (hq : 1 ≤ q ∧ q < 1 + x_gn) (h0 : 0 ≤ c) (h1 : c < 128) (hd : 0 ≤ d) : ∀ n : Nat, (∀ (i : Int) (lv : x_L) (l0 : lv 0 = some (.retAddr (999 + q))) (l3 : lv 3 = some (.int (iZ (sgl q)))) (l4 : lv 4 = some (.int (iZ (zi2b c)))) (l5 : lv 5 = some (.int (iZ i))) (i0 : 0 ≤ i) (i1 : i ≤ 17) (ie : sio q c 20 0 = sio q c (20 - i.toNat) i) (hm : (17 - i).toNat < n), w_T sc d 182 7 lv [] S (fun v S2 => v = some (.int (iZ (sio q c 20 0))) ∧ S2 = S)) := by
  intro n
  induction n with
  | zero => exact fun i lv l0 l3 l4 l5 i0 i1 ie hm => absurd hm (Nat.not_lt_zero _)
  | succ n ih =>
    intro i lv l0 l3 l4 l5 i0 i1 ie hm
    have hq2 : q < 20 := hq.2
    have hl := sgl_R q
    have hs : sio q c (20 - i.toNat) i = if i < sgl q then (if sgb q i = c then i else sio q c (19 - i.toNat) (i + 1)) else -1 := by
      rw [show 20 - i.toNat = (19 - i.toNat) + 1 by omega]
      rfl
    have hb := sgb_R q i
    refine w_iload rfl l5 rfl ?_
    refine w_iload_n rfl l3 rfl ?_
    refine w_ic_ge (pc2 := 31) (pc3 := 13) rfl (by decide) rfl ⟨by omega, by omega⟩ ⟨by omega, by omega⟩ (fun c10 => ?_) (fun c10 => ?_)
    · skip
      refine w_iconst rfl rfl ?_
      refine w_iret rfl rfl ?_
      exact q_i (by rw [ie, hs, if_neg (by omega)])
    · skip
      refine w_aloadk_n rfl l0 (by omega) rfl ?_
      refine w_iload rfl l5 rfl ?_
      refine w_sbald (q := q) rfl hq (by omega) (by omega) (by omega) rfl ?_
      refine w_iload rfl l4 rfl ?_
      refine w_ic_ne (pc2 := 25) (pc3 := 22) rfl (by decide) rfl ⟨by omega, by omega⟩ (zi2b_R _) (fun c19 => ?_) (fun c19 => ?_)
      · skip
        refine w_iinc rfl l5 (by decide) rfl ?_
        refine w_goto (pc2 := 7) rfl (by decide) ?_
        exact ih (i + 1) _ (by exact l0) (by exact l3) (by exact (congrArg x_k2 l4)) (by exact rfl) (by omega) (by omega) (by first | rfl | rw [ie, hs, if_pos c10, if_neg (fun z => c19 (z.trans (zi2b_id h0 h1).symm)), show 20 - (i + 1).toNat = 19 - i.toNat by omega]) (by omega)
      · skip
        refine w_iload rfl l5 rfl ?_
        refine w_iret rfl rfl ?_
        exact q_i (by rw [ie, hs, if_pos c10, if_pos (c19.trans (zi2b_id h0 h1))])
theorem c_ioc {sc : x_S} {d : Nat} {S : w_S} {q : Nat} {c : Int} (hq : 1 ≤ q ∧ q < 1 + x_gn) (h0 : 0 ≤ c) (h1 : c < 128) (hd : 0 ≤ d) : w_T sc d 182 0 (x_en 0 [.retAddr (999 + q), .int (iZ c), .int (iZ 0), .int (iZ (sgl q))]) [] S (fun v S2 => v = some (.int (iZ (sio q c 20 0))) ∧ S2 = S) := by
  have hq2 : q < 20 := hq.2
  have hl := sgl_R q
  refine w_iload_n rfl rfl rfl ?_
  refine w_zi2b rfl rfl ?_
  refine w_istore rfl (by decide) rfl ?_
  refine w_iload_n rfl rfl rfl ?_
  refine w_istore rfl (by decide) rfl ?_
  exact (c_ioc_c hq h0 h1 hd _) 0 _ rfl rfl rfl rfl (by omega) (by omega) (by first | rfl | rw [ie, hs, if_pos c10, if_neg (fun z => c19 (z.trans (zi2b_id h0 h1).symm)), show 20 - (i + 1).toNat = 19 - i.toNat by omega]) (Nat.lt_succ_self _)
theorem sio_out {q : Nat} {c : Int} : ∀ (n : Nat) (i : Int), sgl q ≤ i → sio q c n i = -1
  | 0, _, _ => rfl
  | n + 1, i, h => by
    show (if i < sgl q then _ else _) = _
    rw [if_neg (by omega)]
theorem c_lio {sc : x_S} {d : Nat} {S : w_S} {q : Nat} {c : Int} (hq : 1 ≤ q ∧ q < 1 + x_gn) (h0 : 0 ≤ c) (h1 : c < 128) (hd : 1 ≤ d) : w_T sc d 181 0 (x_en 0 [.retAddr (999 + q), .int (iZ c), .int (iZ 0), .int (iZ (sgl q))]) [] S (fun v S2 => v = some (.int (iZ (sio q c 20 0))) ∧ S2 = S) := by
  have hq2 : q < 20 := hq.2
  have hl := sgl_R q
  refine w_iload_n rfl rfl rfl ?_
  refine w_CS (as := [.int (iZ c)]) (r := []) rfl rfl rfl rfl (Nat.le_of_ble_eq_true rfl) (Nat.le_of_ble_eq_true rfl) (by omega) rfl (c_enc hq h0 h1 (by omega)) ?_
  rintro _ _ ⟨rfl, hS⟩
  rw [hS]
  show w_T _ _ 181 4 _ [.int (iZ 1)] _ _
  refine w_if_ne (pc2 := 9) (pc3 := 7) rfl (by decide) rfl ⟨by decide, by decide⟩ (fun _ => ?_) (fun hc => absurd hc (by decide))
  refine w_iload_n rfl rfl rfl ?_
  refine w_iconst rfl rfl ?_
  refine w_max rfl rfl ⟨by decide, by decide⟩ ⟨by decide, by decide⟩ (by omega) (Nat.le_of_ble_eq_true rfl) rfl ?_
  rw [if_neg (Int.lt_irrefl _)]
  refine w_istore_n rfl (by decide) rfl ?_
  refine w_iload_n rfl rfl rfl ?_
  refine w_aloadk_n rfl rfl (by omega) rfl ?_
  refine w_salen (q := q) rfl hq rfl ?_
  refine w_min rfl rfl ⟨by omega, by omega⟩ ⟨by omega, by omega⟩ (by omega) (Nat.le_of_ble_eq_true rfl) rfl ?_
  rw [if_neg (Int.lt_irrefl _)]
  refine w_istore_n rfl (by decide) rfl ?_
  refine w_iload_n rfl rfl rfl ?_
  refine w_iload_n rfl rfl rfl ?_
  refine w_ic_lt (pc2 := 29) (pc3 := 27) rfl (by decide) rfl ⟨by decide, by decide⟩ ⟨by omega, by omega⟩ (fun c24 => ?_) (fun c24 => ?_)
  · skip
    refine w_aloadk_n rfl rfl (by omega) rfl ?_
    refine w_iload_n rfl rfl rfl ?_
    refine w_iload_n rfl rfl rfl ?_
    refine w_iload_n rfl rfl rfl ?_
    refine w_CS (as := [.retAddr (999 + q), .int (iZ c), .int (iZ 0), .int (iZ (sgl q))]) (r := []) rfl rfl rfl rfl (Nat.le_of_ble_eq_true rfl) (Nat.le_of_ble_eq_true rfl) (by omega) rfl (c_ioc hq h0 h1 (by omega)) ?_
    rintro _ _ ⟨rfl, hS⟩
    rw [hS]
    show w_T _ _ 181 36 _ [.int (iZ (sio q c 20 0))] _ _
    refine w_iret rfl rfl ?_
    exact ⟨rfl, rfl⟩
  · skip
    refine w_iconst rfl rfl ?_
    refine w_iret rfl rfl ?_
    exact q_i (sio_out 20 0 (by omega)).symm
theorem c_io2 {sc : x_S} {d : Nat} {S : w_S} {q : Nat} {c : Int} (hq : 1 ≤ q ∧ q < 1 + x_gn) (h0 : 0 ≤ c) (h1 : c < 128) (hd : 2 ≤ d) : w_T sc d 175 0 (x_en 0 [.retAddr q, .int (iZ c), .int (iZ 0)]) [] S (fun v S2 => v = some (.int (iZ (sio q c 20 0))) ∧ S2 = S) := by
  have hq2 : q < 20 := hq.2
  have hl := sgl_R q
  refine w_aloadk_n rfl rfl (by omega) rfl ?_
  refine w_C7 (as := []) (r := []) rfl rfl rfl rfl hq (Nat.le_of_ble_eq_true rfl) (Nat.le_of_ble_eq_true rfl) (by omega) rfl (c_isl hq (by omega)) ?_
  rintro _ _ ⟨rfl, hS⟩
  rw [hS]
  show w_T _ _ 175 4 _ [.int (iZ 1)] _ _
  refine w_if_eq (pc2 := 23) (pc3 := 7) rfl (by decide) rfl ⟨by decide, by decide⟩ (fun hc => absurd hc (by decide)) (fun _ => ?_)
  refine w_aloadk_n rfl rfl (by omega) rfl ?_
  refine w_sgetv rfl rfl hq rfl ?_
  refine w_iload_n rfl rfl rfl ?_
  refine w_iload_n rfl rfl rfl ?_
  refine w_aloadk_n rfl rfl (by omega) rfl ?_
  refine w_C7 (as := []) (r := [.int (iZ 0), .int (iZ c), .retAddr (999 + q)]) rfl rfl rfl rfl hq (Nat.le_of_ble_eq_true rfl) (Nat.le_of_ble_eq_true rfl) (by omega) rfl (c_slen (q := q) hq (by omega)) ?_
  rintro _ _ ⟨rfl, hS⟩
  rw [hS]
  show w_T _ _ 175 17 _ [.int (iZ (sgl q)), .int (iZ 0), .int (iZ c), .retAddr (999 + q)] _ _
  refine w_CS (as := [.retAddr (999 + q), .int (iZ c), .int (iZ 0), .int (iZ (sgl q))]) (r := []) rfl rfl rfl rfl (Nat.le_of_ble_eq_true rfl) (Nat.le_of_ble_eq_true rfl) (by omega) rfl (c_lio hq h0 h1 (by omega)) ?_
  rintro _ _ ⟨rfl, hS⟩
  rw [hS]
  show w_T _ _ 175 20 _ [.int (iZ (sio q c 20 0))] _ _
  refine w_goto (pc2 := 36) rfl (by decide) ?_
  refine w_iret rfl rfl ?_
  exact ⟨rfl, rfl⟩
theorem c_io {sc : x_S} {d : Nat} {S : w_S} {q : Nat} {c : Int} (hq : 1 ≤ q ∧ q < 1 + x_gn) (h0 : 0 ≤ c) (h1 : c < 128) (hd : 3 ≤ d) : w_T sc d 174 0 (x_en 0 [.retAddr q, .int (iZ c)]) [] S (fun v S2 => v = some (.int (iZ (sio q c 20 0))) ∧ S2 = S) := by
  have hq2 : q < 20 := hq.2
  have hl := sgl_R q
  refine w_aloadk_n rfl rfl (by omega) rfl ?_
  refine w_iload_n rfl rfl rfl ?_
  refine w_iconst rfl rfl ?_
  refine w_C7 (as := [.int (iZ c), .int (iZ 0)]) (r := []) rfl rfl rfl rfl hq (Nat.le_of_ble_eq_true rfl) (Nat.le_of_ble_eq_true rfl) (by omega) rfl (c_io2 hq h0 h1 (by omega)) ?_
  rintro _ _ ⟨rfl, hS⟩
  rw [hS]
  show w_T _ _ 174 6 _ [.int (iZ (sio q c 20 0))] _ _
  refine w_iret rfl rfl ?_
  exact ⟨rfl, rfl⟩
