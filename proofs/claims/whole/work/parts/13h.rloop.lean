/-! The reference runs through its files. -/
theorem r_stp_c {sc : x_S} {d : Nat} {S : w_S} {Q : Option Value → w_S → Prop} {P : w_S → Prop} {c st : Int} (hrow : ∀ d2, 60 ≤ d2 → w_T sc d2 129 0 (x_en 0 [.ref 249]) [] S (fun v S2 => v = some (.int (iZ c)) ∧ P S2)) (K : ∀ S2, P S2 → ∀ lv : x_L, lv 0 = some (.ref 249) → lv 2 = some (.int (iZ (st + 1))) → w_T sc d 145 83 lv [] (w_v S2 249 50 c) Q) (hd : 70 ≤ d) : ∀ n : Nat, (∀  (lv : x_L) (l0 : lv 0 = some (.ref 249)) (l2 : lv 2 = some (.int (iZ st)))  (hm : 0 < n), w_T sc d 145 104 lv [] S Q) := by
  intro n
  induction n with
  | zero => exact fun lv l0 l2 hm => absurd hm (Nat.not_lt_zero _)
  | succ n ih =>
    intro lv l0 l2 hm
    refine w_aload_n rfl l0 rfl ?_
    refine w_aload_n rfl l0 rfl ?_
    refine w_CV (as := []) (r := [.ref 249]) rfl rfl rfl rfl sh_249 (Nat.le_of_ble_eq_true rfl) (Nat.le_of_ble_eq_true rfl) (by omega) rfl (hrow _ (by omega)) ?_
    rintro _ V ⟨rfl, hrd⟩
    show w_T _ _ 145 109 _ [.int (iZ c), .ref 249] _ _
    refine w_putf rfl rfl sh_249 rfl rfl (by decide) rfl ?_
    refine w_iinc rfl l2 (by decide) rfl ?_
    refine w_goto (pc2 := 83) rfl (by decide) ?_
    exact K V hrd _ (by exact l0) (by exact rfl)
def HR2 (sc : x_S) (d : Nat) (S : w_S) (Q : Option Value → w_S → Prop) (st : Int) : Prop := ∀ lv : x_L, lv 0 = some (.ref 249) → lv 2 = some (.int (iZ st)) → w_T sc d 145 83 lv [] S Q
def K118 (sc : x_S) (d : Nat) (S : w_S) (Q : Option Value → w_S → Prop) : Prop := ∀ lv : x_L, lv 0 = some (.ref 249) → w_T sc d 145 118 lv [] S Q
theorem r_hd0 {sc : x_S} {d : Nat} {S : w_S} {Q : Option Value → w_S → Prop} {st : Int} (s0 : 0 ≤ st) (s1 : st ≤ 4000) (w0 : 0 ≤ sv S 249 50) (w1 : sv S 249 50 ≤ 99) (h : ¬ sv S 249 50 = 0 ∨ sv S 249 12 = -1) (hQ : K118 sc d S Q) : HR2 sc d S Q st := by
  intro lv a0 a2
  have hend : w_T sc d 145 118 lv [] S Q := hQ lv a0
  refine w_iload_n rfl a2 rfl ?_
  refine w_sipush rfl (by decide) rfl ?_
  refine w_ic_ge (pc2 := 118) (pc3 := 90) rfl (by decide) rfl ⟨by omega, by omega⟩ ⟨by decide, by decide⟩ (fun c => ?_) (fun c => ?_)
  · exact hend
  · refine w_aload_n rfl a0 rfl ?_
    refine w_getI (z := sv S 249 50) rfl rfl sh_249 rfl rfl rfl ?_
    refine w_if_ne (pc2 := 118) (pc3 := 97) rfl (by decide) rfl ⟨by omega, by omega⟩ (fun c3 => ?_) (fun c3 => ?_)
    · exact hend
    · refine w_aload_n rfl a0 rfl ?_
      refine w_getI (z := sv S 249 12) rfl rfl sh_249 rfl rfl rfl ?_
      refine w_if_lt (pc2 := 118) (pc3 := 104) rfl (by decide) rfl ⟨by omega, by omega⟩ (fun c2 => ?_) (fun c2 => ?_)
      · exact hend
      · omega
theorem r_hd1 {sc : x_S} {d : Nat} {S : w_S} {Q : Option Value → w_S → Prop} {st : Int} (s0 : 0 ≤ st) (s1 : st < 4000) (w0 : sv S 249 50 = 0) (l0 : 0 ≤ sv S 249 12) (l1 : sv S 249 12 ≤ 4) (h : ∀ lv : x_L, lv 0 = some (.ref 249) → lv 2 = some (.int (iZ st)) → w_T sc d 145 104 lv [] S Q) : HR2 sc d S Q st := by
  intro lv a0 a2
  refine w_iload_n rfl a2 rfl ?_
  refine w_sipush rfl (by decide) rfl ?_
  refine w_ic_ge (pc2 := 118) (pc3 := 90) rfl (by decide) rfl ⟨by omega, by omega⟩ ⟨by decide, by decide⟩ (fun c => ?_) (fun c => ?_)
  · omega
  · refine w_aload_n rfl a0 rfl ?_
    refine w_getI (z := sv S 249 50) rfl rfl sh_249 rfl rfl rfl ?_
    refine w_if_ne (pc2 := 118) (pc3 := 97) rfl (by decide) rfl ⟨by omega, by omega⟩ (fun c3 => ?_) (fun c3 => ?_)
    · exact absurd w0 c3
    · refine w_aload_n rfl a0 rfl ?_
      refine w_getI (z := sv S 249 12) rfl rfl sh_249 rfl rfl rfl ?_
      refine w_if_lt (pc2 := 118) (pc3 := 104) rfl (by decide) rfl ⟨by omega, by omega⟩ (fun c2 => ?_) (fun c2 => ?_)
      · omega
      · exact h lv a0 a2
def rf2 (S S2 : w_S) : Prop := fr RFN S S2 ∧ ∀ k, ¬ (RSL k ∨ k = 50) → sv S2 249 k = sv S 249 k
theorem rf2_step {S0 S S2 : w_S} {c : Int} (h : rf2 S0 S) (g : rfr S S2) : rf2 S0 (w_v S2 249 50 c) := ⟨fr_v (fr_trans h.1 g.1) (Or.inl rfl), fun k hk => by rw [rv_ne (fun z => hk (Or.inr z.2)), g.2 k (fun z => hk (Or.inl z)), h.2 k hk]⟩
def PRr (S0 : w_S) (q : Prs) (S2 : w_S) : Prop := sv S2 249 50 = q.1 ∧ rf2 S0 S2 ∧ (∃ sg, rtab S2 sg q.2.1) ∧ sv S2 249 23 = q.2.2.1 ∧ (q.1 = 0 → sv S2 249 49 = q.2.2.2.length ∧ ofn (sL S2 285) (sA S2 286) 1 0 q.2.2.2)
theorem RQ_50 {S : w_S} {F : Int → (Int → Int) × Int} {T : List Mac} {r ic dp c : Int} {ol : List OTok} {G : List ETok} {fs : List Frm} (h6 : foks fs) (h : RQ S F T r ol ic G dp fs) : RQ (w_v S 249 50 c) F T r ol ic G dp fs := by
  have g : fr (fun a => a = 249) S (w_v S 249 50 c) := fr_v (fr_refl _ _) rfl
  have hv : ∀ k, ¬ k = 50 → sv (w_v S 249 50 c) 249 k = sv S 249 k := fun k hk => rv_ne (by omega)
  obtain ⟨q1, q2, q3, q4, q5, q6, q7, q8, q9, ⟨sg, q10⟩, q11⟩ := h
  exact ⟨rfs_fr (foks_6 h6) q1 g (fun a a0 a1 => by omega), by rw [hv 12 (by decide)]; exact q2, by rw [hv 13 (by decide)]; exact q3, by rw [hv 16 (by decide)]; exact q4, by rw [hv 17 (by decide)]; exact q5, ⟨q6.1, by rw [hv 26 (by decide)]; exact q6.2⟩, by rw [hv 23 (by decide)]; exact q7, by rw [hv 49 (by decide)]; exact q8, q9, ⟨sg, rtab_fr q10 g (fun a a0 a1 => by omega)⟩, RT_fr q11 g (by decide)⟩
theorem pr_k {F : Int → (Int → Int) × Int} {n : Nat} {f : Frm} {rest : List Frm} {T : List Mac} {r : Int} {ol : List OTok} {ic : Int} (h : f.2.1 < f.1.length) : prun F (n + 1) (f :: rest) T r ol ic = if ¬ kR F (tkf f rest.length T r ol ic) = 0 then (kR F (tkf f rest.length T r ol ic), (tkf f rest.length T r ol ic).2.2.1, (tkf f rest.length T r ol ic).2.2.2.1, []) else prun F n (kF F (tkf f rest.length T r ol ic) rest) (tkf f rest.length T r ol ic).2.2.1 (tkf f rest.length T r ol ic).2.2.2.1 (tkf f rest.length T r ol ic).2.2.2.2.1 (if (tkf f rest.length T r ol ic).2.2.2.2.2 < 0 then ic else ic + 1) := by
  by_cases c1 : (tkf f rest.length T r ol ic).1 = 0
  · by_cases c2 : (tkf f rest.length T r ol ic).2.2.2.2.2 < 0
    · have e : kR F (tkf f rest.length T r ol ic) = 0 := by unfold kR; rw [if_neg (not_not_intro c1), if_pos c2]
      have e2 : kF F (tkf f rest.length T r ol ic) rest = (tkf f rest.length T r ol ic).2.1 :: rest := by unfold kF; rw [if_pos c2]
      rw [pr_2 h c1 c2, e, if_neg (not_not_intro rfl), e2, if_pos c2]
    · have e : kR F (tkf f rest.length T r ol ic) = (psc F (tkf f rest.length T r ol ic).2.2.2.2.2).1 := by unfold kR; rw [if_neg (not_not_intro c1), if_neg c2]
      have e2 : kF F (tkf f rest.length T r ol ic) rest = newf (psc F (tkf f rest.length T r ol ic).2.2.2.2.2).2 :: (tkf f rest.length T r ol ic).2.1 :: rest := by unfold kF; rw [if_neg c2]
      rw [e, e2]
      by_cases c3 : (psc F (tkf f rest.length T r ol ic).2.2.2.2.2).1 = 0
      · rw [pr_4 h c1 c2 c3, if_neg (not_not_intro c3), if_neg c2]
      · rw [pr_3 h c1 c2 c3, if_pos c3]
  · have e : kR F (tkf f rest.length T r ol ic) = (tkf f rest.length T r ol ic).1 := by unfold kR; rw [if_pos c1]
    rw [pr_1 h c1, e, if_pos c1]
theorem kR_r {F : Int → (Int → Int) × Int} {K : Tlr} (hF : Fok F) (h0 : 0 ≤ K.1) (h1 : K.1 ≤ 99) (h2 : K.2.2.2.2.2 = -1 ∨ (0 ≤ K.2.2.2.2.2 ∧ K.2.2.2.2.2 ≤ 2)) : 0 ≤ kR F K ∧ kR F K ≤ 99 := by
  unfold kR
  split
  · exact ⟨h0, h1⟩
  · split
    · decide
    · have := hF K.2.2.2.2.2 (by omega) (by omega)
      exact ⟨this.2.2.2.1, by have := this.2.2.2.2.1; omega⟩
theorem r_loop {sc : x_S} {F : Int → (Int → Int) × Int} (hF : Fok F) {d : Nat} (hd : 70 ≤ d) {S0 : w_S} {Q : Option Value → w_S → Prop} : ∀ (n : Nat) (fs : List Frm) (S : w_S) (T : List Mac) (r : Int) (ol : List OTok) (ic st : Int), rf2 S0 S → foks fs → lows fs.tail → fs.length ≤ 4 → TOK T → RQ S F T r ol ic (topG fs) (topD fs) fs → sv S 249 50 = 0 → 0 ≤ ic → ic ≤ 10 → 0 ≤ r → r ≤ 30 → ol.length ≤ 100 → 0 ≤ st → st + mu fs + 162 * (10 - ic) ≤ 3990 → mu fs + 162 * (10 - ic) < n → (∀ S2, PRr S0 (prun F n fs T r ol ic) S2 → K118 sc d S2 Q) → HR2 sc d S Q st
  | 0, fs, S, T, r, ol, ic, st, g, hfs, hlo, h4, hT, hq, h50, i0, i10, r0, r1, ho, s0, s1, hn, hK => by
    have := mu_n fs hfs
    omega
  | n + 1, [], S, T, r, ol, ic, st, g, hfs, hlo, h4, hT, hq, h50, i0, i10, r0, r1, ho, s0, s1, hn, hK => by
    have s1' : st + 0 + 162 * (10 - ic) ≤ 3990 := s1
    have e : sv S 249 12 = -1 := hq.2.1
    refine r_hd0 s0 (by omega) (by omega) (by omega) (Or.inr (by omega)) ?_
    exact hK S (by rw [pr_0]; exact ⟨h50, g, hq.2.2.2.2.2.2.2.2.2.1, hq.2.2.2.2.2.2.1, fun _ => ⟨hq.2.2.2.2.2.2.2.1, hq.2.2.2.2.2.2.2.2.1⟩⟩)
  | n + 1, (t, nx, gr, cs, dp) :: rest, S, T, r, ol, ic, st, g, hfs, hlo, h4, hT, hq, h50, i0, i10, r0, r1, ho, s0, s1, hn, hK => by
    have hf : fok (t, nx, gr, cs, dp) := hfs _ (by simp)
    have hrest : foks rest := fun q hq => hfs q (by simp [hq])
    have hlo : lows rest := hlo
    have hmr := mu_n rest hrest
    rw [List.length_cons] at h4
    have emu : mu ((t, nx, gr, cs, dp) :: rest) = (t.length : Int) - nx + 1 + mu rest := rfl
    rw [emu] at s1 hn
    have hnx : nx ≤ t.length := hf.2.2.2.1
    have hgr : gr ≤ nx := hf.2.2.1
    have hgr0 : 0 ≤ gr := hf.2.1
    have h12 : sv S 249 12 = rest.length := by
      have := hq.2.1
      rw [List.length_cons] at this
      omega
    have hq : RQ S F T r ol ic (grp t gr nx) dp ((t, nx, gr, cs, dp) :: rest) := hq
    by_cases hx : nx < t.length
    · have kt : TOK (tkf (t, nx, gr, cs, dp) rest.length T r ol ic).2.2.1 ∧ fok (tkf (t, nx, gr, cs, dp) rest.length T r ol ic).2.1 ∧ 0 ≤ (tkf (t, nx, gr, cs, dp) rest.length T r ol ic).1 ∧ (tkf (t, nx, gr, cs, dp) rest.length T r ol ic).1 ≤ 99 ∧ r ≤ (tkf (t, nx, gr, cs, dp) rest.length T r ol ic).2.2.2.1 ∧ (tkf (t, nx, gr, cs, dp) rest.length T r ol ic).2.2.2.1 ≤ 30 ∧ ((tkf (t, nx, gr, cs, dp) rest.length T r ol ic).1 = 0 → (tkf (t, nx, gr, cs, dp) rest.length T r ol ic).2.2.2.2.1.length ≤ 100) ∧ (tkf (t, nx, gr, cs, dp) rest.length T r ol ic).2.1.1 = t ∧ (tkf (t, nx, gr, cs, dp) rest.length T r ol ic).2.1.2.1 = lnE t nx ∧ ((tkf (t, nx, gr, cs, dp) rest.length T r ol ic).2.2.2.2.2 = -1 ∨ (0 ≤ (tkf (t, nx, gr, cs, dp) rest.length T r ol ic).2.2.2.2.2 ∧ (tkf (t, nx, gr, cs, dp) rest.length T r ol ic).2.2.2.2.2 ≤ 2 ∧ (rest.length : Int) < 3 ∧ ic < 10 ∧ skp (tkf (t, nx, gr, cs, dp) rest.length T r ol ic).2.1.2.2.2.1 = false ∧ (tkf (t, nx, gr, cs, dp) rest.length T r ol ic).1 = 0)) := tkl_ok hT hf r1 ho hx
      have kgr : 0 ≤ (tkf (t, nx, gr, cs, dp) rest.length T r ol ic).2.2.2.2.2 → (tkf (t, nx, gr, cs, dp) rest.length T r ol ic).2.1.2.2.1 = (tkf (t, nx, gr, cs, dp) rest.length T r ol ic).2.1.2.1 := fun z => by
        by_cases c : tx t nx = 35
        · exact tkl_gr c hf.2.2.2.2.2.2.2.1
        · exfalso
          have e9 : tkf (t, nx, gr, cs, dp) rest.length T r ol ic = _ := tkl_np c
          rw [e9] at z
          exact absurd z (by show ¬ (0 : Int) ≤ -1; decide)
      have hrow : ∀ d2, 60 ≤ d2 → w_T sc d2 129 0 (x_en 0 [.ref 249]) [] S (D5q S F (kR F (tkf (t, nx, gr, cs, dp) rest.length T r ol ic)) (tkf (t, nx, gr, cs, dp) rest.length T r ol ic).2.2.1 (tkf (t, nx, gr, cs, dp) rest.length T r ol ic).2.2.2.1 (tkf (t, nx, gr, cs, dp) rest.length T r ol ic).2.2.2.2.1 (if (tkf (t, nx, gr, cs, dp) rest.length T r ol ic).2.2.2.2.2 < 0 then ic else ic + 1) (kF F (tkf (t, nx, gr, cs, dp) rest.length T r ol ic) rest)) := fun d2 h2 => r_rowL hF hT hf hrest hlo (by omega) i0 i10 r0 r1 ho hq rfl hx h2
      have hpr := pr_k (F := F) (n := n) (f := (t, nx, gr, cs, dp)) (rest := rest) (T := T) (r := r) (ol := ol) (ic := ic) hx
      have hlE := lnE_r (t := t) (i := nx) (by omega) hx
      refine r_hd1 s0 (by omega) h50 (by omega) (by omega) (fun lv a0 a2 => ?_)
      rw [hpr] at hK
      revert kt kgr hrow hK
      generalize tkf (t, nx, gr, cs, dp) rest.length T r ol ic = K
      intro hK kt kgr hrow
      obtain ⟨k1, k2, k3, k4, k5, k6, k7, k8, k9, k10⟩ := kt
      have hkr := kR_r (F := F) (K := K) hF k3 k4 (by omega)
      refine r_stp_c (P := fun S2 => D5q S F (kR F K) K.2.2.1 K.2.2.2.1 K.2.2.2.2.1 (if K.2.2.2.2.2 < 0 then ic else ic + 1) (kF F K rest) (some (.int (iZ (kR F K)))) S2) (c := kR F K) (st := st) (fun d2 h2 => w_mono (hrow d2 h2) (fun v S2 h => ⟨h.1, by rw [← h.1]; exact h⟩)) (fun S2 hS2 => ?_) hd 1 lv a0 a2 (by decide)
      have g2 := rf2_step (c := kR F K) g hS2.2.1
      have h5c : sv (w_v S2 249 50 (kR F K)) 249 50 = kR F K := rv_self _ _ _ _
      have h23 : sv (w_v S2 249 50 (kR F K)) 249 23 = K.2.2.2.1 := by rw [rv_ne (by decide)]; exact hS2.2.2.2.1
      have htt : ∃ sg, rtab (w_v S2 249 50 (kR F K)) sg K.2.2.1 := by
        obtain ⟨sg, h⟩ := hS2.2.2.1
        exact ⟨sg, rtab_fr h (fr_v (fr_refl (fun a => a = 249) _) rfl) (fun a a0 a1 => by omega)⟩
      by_cases hc : kR F K = 0
      · rw [if_neg (not_not_intro hc)] at hK
        have hK1 : K.1 = 0 := by
          unfold kR at hc
          by_cases z : K.1 = 0
          · exact z
          · rw [if_pos z] at hc
            exact hc
        have hrq := RQ_50 (c := kR F K) ?_ (hS2.2.2.2.2 hc)
        · rcases k10 with h | h
          · have hn2 : K.2.2.2.2.2 < 0 := by omega
            have e1 : kF F K rest = K.2.1 :: rest := by unfold kF; rw [if_pos hn2]
            rw [e1, if_pos hn2] at hrq hK
            have em : mu (K.2.1 :: rest) = (K.2.1.1.length : Int) - K.2.1.2.1 + 1 + mu rest := rfl
            exact r_loop hF hd n (K.2.1 :: rest) _ K.2.2.1 K.2.2.2.1 K.2.2.2.2.1 ic (st + 1) g2 (fun z hz => (List.mem_cons.1 hz).elim (fun e => by rw [e]; exact k2) (fun e => hrest z e)) hlo (by rw [List.length_cons]; omega) k1 hrq (by rw [h5c]; exact hc) i0 i10 (by omega) k6 (k7 hK1) (by omega) (by rw [em, k8, k9]; omega) (by rw [em, k8, k9]; omega) hK
          · have hn2 : ¬ K.2.2.2.2.2 < 0 := by omega
            have hFf := hF K.2.2.2.2.2 h.1 h.2.1
            have hs : (psc F K.2.2.2.2.2).1 = 0 := by
              unfold kR at hc
              rw [if_neg (not_not_intro hK1), if_neg hn2] at hc
              exact hc
            have hfn := hFf.2.2.2.2.2 hs
            have hn160 : (psc F K.2.2.2.2.2).2.length ≤ 160 := hfn.1.2.1
            have e1 : kF F K rest = newf (psc F K.2.2.2.2.2).2 :: K.2.1 :: rest := by unfold kF; rw [if_neg hn2]
            rw [e1, if_neg hn2] at hrq hK
            have em : mu (newf (psc F K.2.2.2.2.2).2 :: K.2.1 :: rest) = ((psc F K.2.2.2.2.2).2.length : Int) - 0 + 1 + ((K.2.1.1.length : Int) - K.2.1.2.1 + 1 + mu rest) := rfl
            exact r_loop hF hd n (newf (psc F K.2.2.2.2.2).2 :: K.2.1 :: rest) _ K.2.2.1 K.2.2.2.1 K.2.2.2.2.1 (ic + 1) (st + 1) g2 (fun z hz => (List.mem_cons.1 hz).elim (fun e => by rw [e]; exact hfn) (fun e => (List.mem_cons.1 e).elim (fun e => by rw [e]; exact k2) (fun e => hrest z e))) (fun z hz => (List.mem_cons.1 hz).elim (fun e => by rw [e]; exact ⟨kgr h.1, h.2.2.2.2.1⟩) (fun e => hlo z e)) (by rw [List.length_cons, List.length_cons]; omega) k1 hrq (by rw [h5c]; exact hc) (by omega) (by omega) (by omega) k6 (k7 hK1) (by omega) (by rw [em, k8, k9]; omega) (by rw [em, k8, k9]; omega) hK
        · intro z hz
          unfold kF at hz
          split at hz
          · exact (List.mem_cons.1 hz).elim (fun e => by rw [e]; exact k2) (fun e => hrest z e)
          · rename_i hn2
            have h := k10.resolve_left (by omega)
            have hFf := hF K.2.2.2.2.2 h.1 h.2.1
            have hs : (psc F K.2.2.2.2.2).1 = 0 := by
              unfold kR at hc
              rw [if_neg (not_not_intro hK1), if_neg hn2] at hc
              exact hc
            exact (List.mem_cons.1 hz).elim (fun e => by rw [e]; exact hFf.2.2.2.2.2 hs) (fun e => (List.mem_cons.1 e).elim (fun e => by rw [e]; exact k2) (fun e => hrest z e))
      · rw [if_pos hc] at hK
        refine r_hd0 (by omega) (by omega) (by rw [h5c]; exact hkr.1) (by rw [h5c]; exact hkr.2)  (Or.inl (by rw [h5c]; exact hc)) ?_
        exact hK _ ⟨h5c, g2, htt, h23, fun z => absurd z hc⟩
    · have hxe : nx = t.length := by omega
      have hrow : ∀ d2, 60 ≤ d2 → w_T sc d2 129 0 (x_en 0 [.ref 249]) [] S (D5q S F (pec (t, nx, gr, cs, dp) T r ol) T (xge (t, nx, gr, cs, dp) T r ol).2.1 (xge (t, nx, gr, cs, dp) T r ol).2.2 ic rest) := fun d2 h2 => r_rowE hF hT hf hrest hlo (by omega) i0 i10 r0 r1 ho hq rfl hxe h2
      have hxr : 0 ≤ (xge (t, nx, gr, cs, dp) T r ol).1 ∧ (xge (t, nx, gr, cs, dp) T r ol).1 ≤ 99 ∧ r ≤ (xge (t, nx, gr, cs, dp) T r ol).2.1 ∧ (xge (t, nx, gr, cs, dp) T r ol).2.1 ≤ 30 ∧ ((xge (t, nx, gr, cs, dp) T r ol).1 = 0 → (xge (t, nx, gr, cs, dp) T r ol).2.2.length ≤ 100) := xg_R hT r (grp t gr t.length) ol r1
      have hp2 : 0 ≤ pec (t, nx, gr, cs, dp) T r ol ∧ pec (t, nx, gr, cs, dp) T r ol ≤ 99 ∧ (pec (t, nx, gr, cs, dp) T r ol = 0 → (xge (t, nx, gr, cs, dp) T r ol).1 = 0) := by
        unfold pec
        split
        · rename_i z
          exact ⟨hxr.1, hxr.2.1, fun q => absurd q z⟩
        · rename_i z
          have z : (xge (t, nx, gr, cs, dp) T r ol).1 = 0 := by simpa using z
          split
          · exact ⟨by decide, by decide, fun _ => z⟩
          · exact ⟨by decide, by decide, fun _ => z⟩
      refine r_hd1 s0 (by omega) h50 (by omega) (by omega) (fun lv a0 a2 => ?_)
      refine r_stp_c (P := fun S2 => D5q S F (pec (t, nx, gr, cs, dp) T r ol) T (xge (t, nx, gr, cs, dp) T r ol).2.1 (xge (t, nx, gr, cs, dp) T r ol).2.2 ic rest (some (.int (iZ (pec (t, nx, gr, cs, dp) T r ol)))) S2) (c := pec (t, nx, gr, cs, dp) T r ol) (st := st) (fun d2 h2 => w_mono (hrow d2 h2) (fun v S2 h => ⟨h.1, by rw [← h.1]; exact h⟩)) (fun S2 hS2 => ?_) hd 1 lv a0 a2 (by decide)
      have g2 := rf2_step (c := pec (t, nx, gr, cs, dp) T r ol) g hS2.2.1
      have h5c : sv (w_v S2 249 50 (pec (t, nx, gr, cs, dp) T r ol)) 249 50 = pec (t, nx, gr, cs, dp) T r ol := rv_self _ _ _ _
      have h23 : sv (w_v S2 249 50 (pec (t, nx, gr, cs, dp) T r ol)) 249 23 = (xge (t, nx, gr, cs, dp) T r ol).2.1 := by rw [rv_ne (by decide)]; exact hS2.2.2.2.1
      have htt : ∃ sg, rtab (w_v S2 249 50 (pec (t, nx, gr, cs, dp) T r ol)) sg T := by
        obtain ⟨sg, h⟩ := hS2.2.2.1
        exact ⟨sg, rtab_fr h (fr_v (fr_refl (fun a => a = 249) _) rfl) (fun a a0 a1 => by omega)⟩
      by_cases hc : pec (t, nx, gr, cs, dp) T r ol = 0
      · rw [pr_6 hx hc] at hK
        refine r_loop hF hd n rest _ T _ _ ic (st + 1) g2 hrest (fun z hz => hlo z (List.mem_of_mem_tail hz)) (by omega) hT (RQ_50 hrest (hS2.2.2.2.2 hc)) (by rw [h5c]; exact hc) i0 i10 (Int.le_trans r0 hxr.2.2.1) hxr.2.2.2.1 (hxr.2.2.2.2 (hp2.2.2 hc)) (by omega) (by omega) (by omega) hK
      · rw [pr_5 hx hc] at hK
        refine r_hd0 (by omega) (by omega) (by rw [h5c]; exact hp2.1) (by rw [h5c]; exact hp2.2.1)  (Or.inl (by rw [h5c]; exact hc)) ?_
        exact hK _ ⟨h5c, g2, htt, h23, fun z => absurd z hc⟩
