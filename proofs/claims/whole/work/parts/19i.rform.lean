/-! Declarators of the reference: levels and forms. -/
abbrev Lv : Type := Int × Int × Int × Int
def lrp (A B C F : Int → Int) : List Lv → Prop
  | [] => True
  | v :: r => A r.length = v.1 ∧ B r.length = v.2.1 ∧ C r.length = v.2.2.1 ∧ F r.length = v.2.2.2 ∧ lrp A B C F r
theorem lrp_fr {A A2 B B2 C C2 F F2 : Int → Int} : ∀ L : List Lv, lrp A B C F L → (∀ j : Int, j < L.length → A2 j = A j ∧ B2 j = B j ∧ C2 j = C j ∧ F2 j = F j) → lrp A2 B2 C2 F2 L
  | [], _, _ => trivial
  | e :: r, h, g => by
    rw [List.length_cons] at g
    have q := g r.length (by omega)
    exact ⟨q.1.trans h.1, q.2.1.trans h.2.1, q.2.2.1.trans h.2.2.1, q.2.2.2.trans h.2.2.2.1, lrp_fr r h.2.2.2.2 (fun j hj => g j (by omega))⟩
theorem lrp_suf {A B C F : Int → Int} : ∀ (l r : List Lv), lrp A B C F (l ++ r) → lrp A B C F r
  | [], _, h => h
  | _ :: l, r, h => lrp_suf l r h.2.2.2.2
section LVL
variable (Y : Int → Int64) (mt : Int → Int)
def lvl : Nat → Int → Int → Option (Int × List Lv)
  | 0, _, _ => none
  | m + 1, l, h => if h ≤ stN Y h l then none else if Y (stN Y h l) = 40 then (lvl m (stN Y h l + 1) (mt (stN Y h l))).bind (fun q => some (q.1, q.2 ++ [(l, stN Y h l, mt (stN Y h l) + 1, h)])) else if wk (Y (stN Y h l)) = 4 then some (stN Y h l, [(l, stN Y h l, stN Y h l + 1, h)]) else none
def fml : List Lv → Option (List Nd)
  | [] => some []
  | v :: r => (rfm Y mt 200 v.2.2.1 v.2.2.2).bind (fun F => (fml r).bind (fun G => some (F ++ stR (v.2.1 - v.1).toNat v.1 ++ G)))
end LVL
theorem fml_app {Y : Int → Int64} {mt : Int → Int} {v : Lv} : ∀ L : List Lv, fml Y mt (L ++ [v]) = (fml Y mt L).bind (fun G => (rfm Y mt 200 v.2.2.1 v.2.2.2).bind (fun F => some (G ++ F ++ stR (v.2.1 - v.1).toNat v.1)))
  | [] => by
    show (rfm Y mt 200 v.2.2.1 v.2.2.2).bind (fun F => (some ([] : List Nd)).bind (fun G => some (F ++ stR (v.2.1 - v.1).toNat v.1 ++ G))) = _
    rw [show fml Y mt [] = some [] from rfl]
    cases rfm Y mt 200 v.2.2.1 v.2.2.2 with
    | none => rfl
    | some F =>
      show some (F ++ stR (v.2.1 - v.1).toNat v.1 ++ []) = some ([] ++ F ++ stR (v.2.1 - v.1).toNat v.1)
      rw [List.append_nil, List.nil_append]
  | u :: L => by
    show (rfm Y mt 200 u.2.2.1 u.2.2.2).bind (fun F => (fml Y mt (L ++ [v])).bind (fun G => some (F ++ stR (u.2.1 - u.1).toNat u.1 ++ G))) = ((rfm Y mt 200 u.2.2.1 u.2.2.2).bind (fun F => (fml Y mt L).bind (fun G => some (F ++ stR (u.2.1 - u.1).toNat u.1 ++ G)))).bind _
    rw [fml_app L]
    cases rfm Y mt 200 u.2.2.1 u.2.2.2 with
    | none => rfl
    | some F =>
      cases fml Y mt L with
      | none => rfl
      | some G =>
        cases rfm Y mt 200 v.2.2.1 v.2.2.2 with
        | none => rfl
        | some H =>
          show some (F ++ stR (u.2.1 - u.1).toNat u.1 ++ (G ++ H ++ stR (v.2.1 - v.1).toNat v.1)) = some (F ++ stR (u.2.1 - u.1).toNat u.1 ++ G ++ H ++ stR (v.2.1 - v.1).toNat v.1)
          simp only [List.append_assoc]
theorem rdr_lvl {Y : Int → Int64} {mt : Int → Int} : ∀ (m : Nat) (l h : Int), rdr Y mt m l h = (lvl Y mt m l h).bind (fun q => (fml Y mt q.2).bind (fun G => some ((4, q.1, 0) :: G)))
  | 0, _, _ => rfl
  | m + 1, l, h => by
    rw [rdr, lvl]
    by_cases c : h ≤ stN Y h l
    · rw [if_pos c, if_pos c]
      rfl
    · rw [if_neg c, if_neg c]
      by_cases c2 : Y (stN Y h l) = 40
      · rw [if_pos c2, if_pos c2, rdr_lvl m]
        cases lvl Y mt m (stN Y h l + 1) (mt (stN Y h l)) with
        | none => rfl
        | some q =>
          show ((fml Y mt q.2).bind (fun G => some ((4, q.1, 0) :: G))).bind _ = (fml Y mt (q.2 ++ [(l, stN Y h l, mt (stN Y h l) + 1, h)])).bind _
          rw [fml_app]
          cases fml Y mt q.2 with
          | none => rfl
          | some G =>
            show (rfm Y mt 200 (mt (stN Y h l) + 1) h).bind _ = ((rfm Y mt 200 (mt (stN Y h l) + 1) h).bind _).bind _
            cases rfm Y mt 200 (mt (stN Y h l) + 1) h with
            | none => rfl
            | some F => rfl
      · rw [if_neg c2, if_neg c2]
        by_cases c3 : wk (Y (stN Y h l)) = 4
        · rw [if_pos c3, if_pos c3]
          show (rfm Y mt 200 (stN Y h l + 1) h).bind _ = ((rfm Y mt 200 (stN Y h l + 1) h).bind _).bind _
          cases rfm Y mt 200 (stN Y h l + 1) h with
          | none => rfl
          | some F =>
            show some ([(4, stN Y h l, 0)] ++ F ++ stR (stN Y h l - l).toNat l) = some ((4, stN Y h l, 0) :: (F ++ stR (stN Y h l - l).toNat l ++ []))
            rw [List.append_nil]
            rfl
        · rw [if_neg c3, if_neg c3]
          rfl
theorem rfm_len {Y : Int → Int64} {mt : Int → Int} {n e : Int} (hM : MTP Y n mt) (en : e ≤ n) : ∀ (f : Nat) (k : Int) (F : List Nd), rfm Y mt f k e = some F → 0 ≤ k → Rch Y mt k e → 2 * (F.length : Int) ≤ e - k ∧ ∀ x, x ∈ F → x.1 = 5 ∨ x.1 = 6
  | 0, k, F, h, _, _ => nns h
  | f + 1, k, F, h, k0, hr => by
    have hle := Rch_le hr
    rw [rfm] at h
    by_cases c : e ≤ k
    · rw [if_pos c] at h
      cases h
      exact ⟨by rw [List.length_nil]; omega, fun x hx => absurd hx (by simp)⟩
    · rw [if_neg c] at h
      have nx := Rch_nx hr (by omega)
      by_cases c1 : Y k = 91 ∧ mt k = k + 2 ∧ wk (Y (k + 1)) = 5
      · rw [if_pos c1] at h
        obtain ⟨G, hG, h2⟩ := bind_some h
        cases h2
        rw [nx_b (Or.inr c1.1)] at nx
        have i := rfm_len hM en f (mt k + 1) G hG (by omega) nx
        refine ⟨by rw [List.length_cons]; omega, fun x hx => ?_⟩
        rcases List.mem_cons.1 hx with z | z
        · rw [z]; exact Or.inl rfl
        · exact i.2 x z
      · rw [if_neg c1] at h
        by_cases c2 : Y k = 40 ∧ mt k = k + 1
        · rw [if_pos c2] at h
          obtain ⟨G, hG, h2⟩ := bind_some h
          cases h2
          rw [nx_b (Or.inl c2.1)] at nx
          have i := rfm_len hM en f (mt k + 1) G hG (by omega) nx
          refine ⟨by rw [List.length_cons]; omega, fun x hx => ?_⟩
          rcases List.mem_cons.1 hx with z | z
          · rw [z]; exact Or.inr rfl
          · exact i.2 x z
        · rw [if_neg c2] at h
          exact nns h
def gfr (S S2 : w_S) : Prop := fr (fun a => a = 249 ∨ (289 ≤ a ∧ a ≤ 291)) S S2 ∧ ∀ k, ¬ k = 56 → sv S2 249 k = sv S 249 k
theorem gfr_refl (S : w_S) : gfr S S := ⟨fr_refl _ _, fun _ _ => rfl⟩
theorem gfr_trans {S S1 S2 : w_S} (h1 : gfr S S1) (h2 : gfr S1 S2) : gfr S S2 := ⟨fr_trans h1.1 h2.1, fun k hk => (h2.2 k hk).trans (h1.2 k hk)⟩
theorem gfr_p {S S2 : w_S} (h : gfr S S2) : pfr S S2 := ⟨fr_mono h.1 (fun a h => by omega), fun k hk => h.2 k (fun z => hk (Or.inl z))⟩
def FX (S : w_S) (n : Int) (Y : Int → Int64) (mt : Int → Int) (E : List Ed) (N : List Nd) (T : List Tk) (p : Int) (res : Option (List Nd)) (v : Option Value) (S2 : w_S) : Prop := gfr S S2 ∧ (res = none → v = some (.int (iZ 0))) ∧ ∀ q, res = some q → v = some (.int (iZ 1)) ∧ PQ S2 n Y mt E (bmp N p q.length ++ q) T
theorem gr_app {N F : List Nd} {k t p : Int} (hp : p < N.length) : gr (bmp N p F.length ++ F) k t p = bmp N p ((F ++ [(k, t, 0)]).length : Int) ++ (F ++ [(k, t, 0)]) := by
  unfold gr
  rw [bmp_l (by rw [bmp_len]; exact hp), bmp_2, List.append_assoc, List.length_append]
  rfl
theorem bF_len {N F : List Nd} {p : Int} : ((bmp N p F.length ++ F).length : Int) = N.length + F.length := by
  rw [List.length_append, bmp_len]
  omega
theorem r_grow2 {sc : x_S} {d : Nat} {S : w_S} {nn : Int} {Y : Int → Int64} {mt : Int → Int} {E : List Ed} {N : List Nd} {T : List Tk} {k t p : Int} (hq : PQ S nn Y mt E N T) (h1 : N.length ≤ 201) (p0 : -1 ≤ p) (p1 : p < N.length) (hd : 1 ≤ d) : w_T sc d 150 0 (x_en 0 [.ref 249, .int (iZ k), .int (iZ t), .int (iZ p)]) [] S (fun v S2 => v = some (.int (iZ (N.length : Int))) ∧ gfr S S2 ∧ PQ S2 nn Y mt E (gr N k t p) T) := by
  have n0 := hq.1.1.2.1
  have n1 := hq.1.1.2.2.1
  have hg := hq.1.1.2.2.2.2.1
  have hM := hq.1.2.1
  have hlE := hq.2.1.2.1
  have hlN := hq.2.2.1.2.1
  have hlT := hq.2.2.2.2.1
  have hY0 := hq.1.1.2.2.2.2.2
  have hcm := hq.1.2.2.2
  refine w_aload_n rfl rfl rfl ?_
  refine w_getR rfl rfl sh_249 rfl rfl ?_
  refine w_aload_n rfl rfl rfl ?_
  refine w_getI (z := (N.length : Int)) rfl rfl sh_249 rfl hq.2.2.1.1 rfl ?_
  refine w_iload_n rfl rfl rfl ?_
  refine w_iaS (f := sA S 289) rfl sh_289 (by omega) (by omega) (by decide) rfl rfl ?_
  refine w_aload_n rfl rfl rfl ?_
  refine w_getR rfl rfl sh_249 rfl rfl ?_
  refine w_aload_n rfl rfl rfl ?_
  refine w_getI (z := (N.length : Int)) rfl rfl sh_249 rfl hq.2.2.1.1 rfl ?_
  refine w_iload_n rfl rfl rfl ?_
  refine w_iaS (f := sA S 290) rfl sh_290 (by omega) (by omega) (by decide) (rA_ne (by decide)) rfl ?_
  refine w_aload_n rfl rfl rfl ?_
  refine w_getR rfl rfl sh_249 rfl rfl ?_
  refine w_aload_n rfl rfl rfl ?_
  refine w_getI (z := (N.length : Int)) rfl rfl sh_249 rfl hq.2.2.1.1 rfl ?_
  refine w_iconst rfl rfl ?_
  refine w_iaS (f := sA S 291) rfl sh_291 (by omega) (by omega) (by decide) ((rA_ne (by decide)).trans (rA_ne (by decide))) rfl ?_
  refine w_iload_n rfl rfl rfl ?_
  refine w_if_lt (pc2 := 44) (pc3 := 34) rfl (by decide) rfl ⟨by omega, by omega⟩ (fun c31 => ?_) (fun c31 => ?_)
  · skip
    refine w_aload_n rfl rfl rfl ?_
    refine w_dup rfl rfl rfl ?_
    refine w_getI (z := (N.length : Int)) rfl rfl sh_249 rfl hq.2.2.1.1 rfl ?_
    refine w_iconst rfl rfl ?_
    refine w_iadd rfl rfl ?_
    refine w_putf rfl rfl sh_249 rfl rfl (by decide) rfl ?_
    refine w_aload_n rfl rfl rfl ?_
    refine w_getI (z := ((N.length : Int)) + 1) rfl rfl sh_249 rfl (rv_self _ _ _ _) rfl ?_
    refine w_iconst rfl rfl ?_
    refine w_isub rfl rfl ?_
    rw [show (N.length : Int) + 1 - 1 = (N.length : Int) by omega]
    refine w_iret rfl rfl ?_
    have hf9 : gfr S ((w_v (w_A (w_A (w_A S 289 (w_u (sA S 289) ((N.length : Int)) k)) 290 (w_u (sA S 290) ((N.length : Int)) t)) 291 (w_u (sA S 291) ((N.length : Int)) 0)) 249 56 (((N.length : Int)) + 1))) := ⟨(fr_v (fr_A (fr_A (fr_A (fr_refl _ _) (by omega)) (by omega)) (by omega)) (by omega)), fun j hj => rv_ne (by omega)⟩
    refine ⟨rfl, hf9, (PQ_n hq hf9.1 hf9.2 (nrep_gr hq.2.2.1 h1 p0 p1 (rv_self _ _ _ _) rfl rfl ?_)).2⟩
    first
      | (rw [if_pos (by omega)]; rfl)
      | (rw [if_neg (by omega)]; rfl)
  · skip
    refine w_aload_n rfl rfl rfl ?_
    refine w_getR rfl rfl sh_249 rfl rfl ?_
    refine w_iload_n rfl rfl rfl ?_
    refine w_dup2 rfl rfl rfl rfl ?_
    refine w_iald (z := (w_u (sA S 291) ((N.length : Int)) 0) p) rfl sh_291 (by omega) (by omega) (by decide) (congrFun (rA_self _ _ _) _) rfl ?_
    refine w_iconst rfl rfl ?_
    refine w_iadd rfl rfl ?_
    refine w_iaS (f := w_u (sA S 291) ((N.length : Int)) 0) rfl sh_291 (by omega) (by omega) (by decide) (rA_self _ _ _) rfl ?_
    refine w_aload_n rfl rfl rfl ?_
    refine w_dup rfl rfl rfl ?_
    refine w_getI (z := (N.length : Int)) rfl rfl sh_249 rfl hq.2.2.1.1 rfl ?_
    refine w_iconst rfl rfl ?_
    refine w_iadd rfl rfl ?_
    refine w_putf rfl rfl sh_249 rfl rfl (by decide) rfl ?_
    refine w_aload_n rfl rfl rfl ?_
    refine w_getI (z := ((N.length : Int)) + 1) rfl rfl sh_249 rfl (rv_self _ _ _ _) rfl ?_
    refine w_iconst rfl rfl ?_
    refine w_isub rfl rfl ?_
    rw [show (N.length : Int) + 1 - 1 = (N.length : Int) by omega]
    refine w_iret rfl rfl ?_
    have hf9 : gfr S ((w_v (w_A (w_A (w_A (w_A S 289 (w_u (sA S 289) ((N.length : Int)) k)) 290 (w_u (sA S 290) ((N.length : Int)) t)) 291 (w_u (sA S 291) ((N.length : Int)) 0)) 291 (w_u (w_u (sA S 291) ((N.length : Int)) 0) p (((w_u (sA S 291) ((N.length : Int)) 0) p) + 1))) 249 56 (((N.length : Int)) + 1))) := ⟨(fr_v (fr_A (fr_A (fr_A (fr_A (fr_refl _ _) (by omega)) (by omega)) (by omega)) (by omega)) (by omega)), fun j hj => rv_ne (by omega)⟩
    refine ⟨rfl, hf9, (PQ_n hq hf9.1 hf9.2 (nrep_gr hq.2.2.1 h1 p0 p1 (rv_self _ _ _ _) rfl rfl ?_)).2⟩
    first
      | (rw [if_pos (by omega)]; rfl)
      | (rw [if_neg (by omega)]; rfl)
theorem r_form_c {sc : x_S} {d : Nat} {S : w_S} {nn : Int} {Y : Int → Int64} {mt : Int → Int} {E : List Ed} {N : List Nd} {T : List Tk} {dd p s1 s2 t1 t2 : Int} (hq : PQ S nn Y mt E N T) (d0 : 0 ≤ dd) (d7 : dd ≤ 7) (h301 : sA S 301 dd = s1) (h302 : sA S 302 dd = s2) (h303 : sA S 303 dd = t1) (h304 : sA S 304 dd = t2) (s10 : 0 ≤ s1) (s12 : s1 ≤ s2) (s2n : s2 ≤ nn) (t10 : 0 ≤ t1) (t12 : t1 ≤ t2) (t2n : t2 ≤ nn) (hrt : Rch Y mt t1 t2) (p0 : 0 ≤ p) (p1 : p < N.length) (hrN : (N.length : Int) + (t2 - t1) + (s2 - s1) ≤ 201) (hd : 8 ≤ d) : ∀ n : Nat, (∀ (k : Int) (F0 : List Nd) (f : Nat) (U : w_S) (lv : x_L) (l0 : lv 0 = some (.ref 249)) (l1 : lv 1 = some (.int (iZ dd))) (l2 : lv 2 = some (.int (iZ p))) (l3 : lv 3 = some (.int (iZ k))) (k0 : t1 ≤ k) (k1 : k ≤ t2) (hr : Rch Y mt k t2) (hf : nn - k < f) (hF0 : 2 * (F0.length : Int) ≤ k - t1) (hres : rfm Y mt 200 t1 t2 = (rfm Y mt f k t2).bind (fun F => some (F0 ++ F))) (hqU : PQ U nn Y mt E (bmp N p F0.length ++ F0) T) (hfU : gfr S U) (hm : 1000 + (nn - k).toNat < n), w_T sc d 158 7 lv [] U (FX S nn Y mt E N T p ((rfm Y mt 200 t1 t2).bind (fun F => some (F ++ stR (s2 - s1).toNat s1))))) ∧ (∀ (s : Int) (F0 : List Nd) (G : List Nd) (U : w_S) (lv : x_L) (l0 : lv 0 = some (.ref 249)) (l1 : lv 1 = some (.int (iZ dd))) (l2 : lv 2 = some (.int (iZ p))) (l4 : lv 4 = some (.int (iZ s))) (q0 : s1 - 1 ≤ s) (q1 : s < s2) (hF0 : 2 * (F0.length : Int) ≤ t2 - t1) (hG : (G.length : Int) = s2 - 1 - s) (hres2 : rfm Y mt 200 t1 t2 = some F0) (hst : stR (s2 - s1).toNat s1 = G ++ stR (s + 1 - s1).toNat s1) (hqU : PQ U nn Y mt E (bmp N p ((F0 ++ G).length : Int) ++ (F0 ++ G)) T) (hfU : gfr S U) (hm : (s - s1 + 1).toNat < n), w_T sc d 158 146 lv [] U (FX S nn Y mt E N T p ((rfm Y mt 200 t1 t2).bind (fun F => some (F ++ stR (s2 - s1).toNat s1))))) := by
  intro n
  induction n with
  | zero => exact ⟨fun k F0 f U lv l0 l1 l2 l3 k0 k1 hr hf hF0 hres hqU hfU hm => absurd hm (Nat.not_lt_zero _), fun s F0 G U lv l0 l1 l2 l4 q0 q1 hF0 hG hres2 hst hqU hfU hm => absurd hm (Nat.not_lt_zero _)⟩
  | succ n ih =>
    refine ⟨?_, ?_⟩
    · skip
      intro k F0 f U lv l0 l1 l2 l3 k0 k1 hr hf hF0 hres hqU hfU hm
      have n0 := hq.1.1.2.1
      have n1 := hq.1.1.2.2.1
      have hg := hq.1.1.2.2.2.2.1
      have hM := hq.1.2.1
      have hlE := hq.2.1.2.1
      have hlN := hq.2.2.1.2.1
      have hlT := hq.2.2.2.2.1
      have hY0 := hq.1.1.2.2.2.2.2
      have hcm := hq.1.2.2.2
      have hfl := bF_len (N := N) (F := F0) (p := p)
      obtain ⟨fu, rfl⟩ : ∃ fu, f = fu + 1 := ⟨f - 1, by omega⟩
      refine w_iload_n rfl l3 rfl ?_
      refine w_aload_n rfl l0 rfl ?_
      refine w_getR rfl rfl sh_249 rfl rfl ?_
      refine w_iload_n rfl l1 rfl ?_
      refine w_iald (z := t2) rfl sh_304 (by omega) (by omega) (by decide) ((congrFun (fr_gA hfU.1 (by decide)) _).trans h304) rfl ?_
      refine w_ic_ge (pc2 := 136) (pc3 := 17) rfl (by decide) rfl ⟨by omega, by omega⟩ ⟨by omega, by omega⟩ (fun c14 => ?_) (fun c14 => ?_)
      · skip
        have hk9 : rfm Y mt (fu + 1) k t2 = some [] := by rw [rfm, if_pos (by omega)]
        have hres2 : rfm Y mt 200 t1 t2 = some F0 := by rw [hres, hk9]; show some (F0 ++ []) = _; rw [List.append_nil]
        refine w_aload_n rfl l0 rfl ?_
        refine w_getR rfl rfl sh_249 rfl rfl ?_
        refine w_iload_n rfl l1 rfl ?_
        refine w_iald (z := s2) rfl sh_302 (by omega) (by omega) (by decide) ((congrFun (fr_gA hfU.1 (by decide)) _).trans h302) rfl ?_
        refine w_iconst rfl rfl ?_
        refine w_isub rfl rfl ?_
        refine w_istore rfl (by decide) rfl ?_
        exact ih.2 (s2 - 1) F0 ([]) _ _ l0 l1 l2 rfl (by omega) (by omega) (by omega) (by rw [List.length_nil]; show (0 : Int) = _; omega) (by exact hres2) (by rw [show s2 - 1 + 1 - s1 = s2 - s1 by omega]; rfl) (by rw [List.append_nil]; exact hqU) (by exact hfU) (by omega)
      · skip
        have hnxk := Rch_nx hr (by omega)
        refine w_aload_n rfl l0 rfl ?_
        refine w_getR rfl rfl sh_249 rfl rfl ?_
        refine w_iload_n rfl l3 rfl ?_
        refine w_lald (z := Y k) rfl sh_285 (by omega) (by omega) (by decide) (hqU.1.1.2.2.2.1 k (by omega) (by omega)) rfl ?_
        refine w_ldc2 (v := 91) rfl rfl rfl ?_
        refine w_l_ne (pc2 := 60) (pc3 := 30) rfl rfl (by decide) rfl (fun c27 => ?_) (fun c27 => ?_)
        · skip
          have hna : ¬ (Y k = 91 ∧ mt k = k + 2 ∧ wk (Y (k + 1)) = 5) := fun z => c27 z.1
          refine w_iconst rfl rfl ?_
          refine w_istore rfl (by decide) rfl ?_
          refine w_iload rfl rfl rfl ?_
          refine w_if_ne (pc2 := 95) (pc3 := 68) rfl (by decide) rfl ⟨by decide, by decide⟩ (fun hc => absurd hc (by decide)) (fun _ => ?_)
          refine w_aload_n rfl l0 rfl ?_
          refine w_getR rfl rfl sh_249 rfl rfl ?_
          refine w_iload_n rfl (congrArg x_k2 l3) rfl ?_
          refine w_lald (z := Y k) rfl sh_285 (by omega) (by omega) (by decide) (hqU.1.1.2.2.2.1 k (by omega) (by omega)) rfl ?_
          refine w_ldc2 (v := 40) rfl rfl rfl ?_
          refine w_l_ne (pc2 := 93) (pc3 := 81) rfl rfl (by decide) rfl (fun c78 => ?_) (fun c78 => ?_)
          · skip
            refine w_iconst rfl rfl ?_
            refine w_zret rfl rfl (by decide) ?_
            refine ⟨hfU, fun _ => rfl, fun q hq9 => ?_⟩
            exfalso
            have e9 : rfm Y mt (fu + 1) k t2 = none := by rw [rfm, if_neg (by omega), if_neg hna, if_neg (fun z => by first | exact c78 z.1 | exact c90 z.2)]
            rw [hres, e9] at hq9
            exact nns hq9
          · skip
            have hmk9 := hM k (by omega) (by omega) (opb (Or.inl c78))
            have hmk91 := hmk9.1
            have hmk92 := hmk9.2.1
            refine w_aload_n rfl l0 rfl ?_
            refine w_getR rfl rfl sh_249 rfl rfl ?_
            refine w_iload_n rfl (congrArg x_k2 l3) rfl ?_
            refine w_iald (z := mt k) rfl sh_287 (by omega) (by omega) (by decide) (hqU.1.2.2.1 k (by omega) (by omega)) rfl ?_
            refine w_iload_n rfl (congrArg x_k2 l3) rfl ?_
            refine w_iconst rfl rfl ?_
            refine w_iadd rfl rfl ?_
            refine w_ic_eq (pc2 := 95) (pc3 := 93) rfl (by decide) rfl ⟨by omega, by omega⟩ ⟨by omega, by omega⟩ (fun c90 => ?_) (fun c90 => ?_)
            · skip
              refine w_aload_n rfl l0 rfl ?_
              refine w_iload rfl rfl rfl ?_
              refine w_if_eq (pc2 := 105) (pc3 := 101) rfl (by decide) rfl ⟨by decide, by decide⟩ (fun _ => ?_) (fun hc => absurd hc (by decide))
              refine w_bipush rfl (by decide) rfl ?_
              refine w_iload rfl rfl rfl ?_
              refine w_if_eq (pc2 := 118) (pc3 := 112) rfl (by decide) rfl ⟨by decide, by decide⟩ (fun _ => ?_) (fun hc => absurd hc (by decide))
              refine w_iload_n rfl (congrArg x_k2 l3) rfl ?_
              refine w_iload_n rfl l2 rfl ?_
              have hnx9 : Rch Y mt (mt k + 1) t2 := by
                rw [nx_b (by first | exact Or.inr c27 | exact Or.inl c78)] at hnxk
                exact hnxk
              have hnx8 := Rch_le hnx9
              refine w_CV (as := [.int (iZ 6), .int (iZ k), .int (iZ p)]) (r := []) rfl rfl rfl rfl sh_249 (Nat.le_of_ble_eq_true rfl) (Nat.le_of_ble_eq_true rfl) (by omega) rfl (r_grow2 (k := 6) (t := k) (p := p) hqU (by omega) (by omega) (by omega) (by omega)) ?_
              rintro _ Z1 ⟨rfl, g1, hq1⟩
              show w_T _ _ 158 123 _ [.int (iZ (((bmp N p F0.length ++ F0).length : Int)))] _ _
              have f1 := gfr_trans hfU g1
              refine w_pop rfl rfl rfl ?_
              refine w_aload_n rfl l0 rfl ?_
              refine w_getR rfl rfl sh_249 rfl rfl ?_
              refine w_iload_n rfl (congrArg x_k2 l3) rfl ?_
              refine w_iald (z := mt k) rfl sh_287 (by omega) (by omega) (by decide) (hq1.1.2.2.1 k (by omega) (by omega)) rfl ?_
              refine w_iconst rfl rfl ?_
              refine w_iadd rfl rfl ?_
              refine w_istore_n rfl (by decide) rfl ?_
              refine w_goto (pc2 := 7) rfl (by decide) ?_
              exact ih.1 (mt k + 1) (F0 ++ [(6, k, 0)]) fu _ _ (by exact l0) (by exact l1) (by exact (congrArg x_k2 l2)) (by exact rfl) (by omega) (by omega) (by exact hnx9) (by omega) (by rw [List.length_append]; show 2 * ((F0.length + 1 : Nat) : Int) ≤ _; omega) (by rw [hres, rfm, if_neg (by omega), if_neg hna, if_pos ⟨c78, c90⟩]; cases rfm Y mt fu (mt k + 1) t2 with | none => rfl | some F => (show some (F0 ++ (6, k, 0) :: F) = some (F0 ++ [(6, k, 0)] ++ F); rw [List.append_assoc]; rfl)) (by rw [← gr_app p1]; exact hq1) (by exact f1) (by omega)
            · skip
              refine w_iconst rfl rfl ?_
              refine w_zret rfl rfl (by decide) ?_
              refine ⟨hfU, fun _ => rfl, fun q hq9 => ?_⟩
              exfalso
              have e9 : rfm Y mt (fu + 1) k t2 = none := by rw [rfm, if_neg (by omega), if_neg hna, if_neg (fun z => by first | exact c78 z.1 | exact c90 z.2)]
              rw [hres, e9] at hq9
              exact nns hq9
        · skip
          have hmk := hM k (by omega) (by omega) (opb (Or.inr c27))
          have hmk1 := hmk.1
          have hmk2 := hmk.2.1
          refine w_aload_n rfl l0 rfl ?_
          refine w_getR rfl rfl sh_249 rfl rfl ?_
          refine w_iload_n rfl l3 rfl ?_
          refine w_iald (z := mt k) rfl sh_287 (by omega) (by omega) (by decide) (hqU.1.2.2.1 k (by omega) (by omega)) rfl ?_
          refine w_iload_n rfl l3 rfl ?_
          refine w_iconst rfl rfl ?_
          refine w_iadd rfl rfl ?_
          refine w_ic_ne (pc2 := 60) (pc3 := 42) rfl (by decide) rfl ⟨by omega, by omega⟩ ⟨by omega, by omega⟩ (fun c39 => ?_) (fun c39 => ?_)
          · skip
            have hna : ¬ (Y k = 91 ∧ mt k = k + 2 ∧ wk (Y (k + 1)) = 5) := fun z => c39 z.2.1
            refine w_iconst rfl rfl ?_
            refine w_istore rfl (by decide) rfl ?_
            refine w_iload rfl rfl rfl ?_
            refine w_if_ne (pc2 := 95) (pc3 := 68) rfl (by decide) rfl ⟨by decide, by decide⟩ (fun hc => absurd hc (by decide)) (fun _ => ?_)
            refine w_aload_n rfl l0 rfl ?_
            refine w_getR rfl rfl sh_249 rfl rfl ?_
            refine w_iload_n rfl (congrArg x_k2 l3) rfl ?_
            refine w_lald (z := Y k) rfl sh_285 (by omega) (by omega) (by decide) (hqU.1.1.2.2.2.1 k (by omega) (by omega)) rfl ?_
            refine w_ldc2 (v := 40) rfl rfl rfl ?_
            refine w_l_ne (pc2 := 93) (pc3 := 81) rfl rfl (by decide) rfl (fun c78 => ?_) (fun c78 => ?_)
            · skip
              refine w_iconst rfl rfl ?_
              refine w_zret rfl rfl (by decide) ?_
              refine ⟨hfU, fun _ => rfl, fun q hq9 => ?_⟩
              exfalso
              have e9 : rfm Y mt (fu + 1) k t2 = none := by rw [rfm, if_neg (by omega), if_neg hna, if_neg (fun z => by first | exact c78 z.1 | exact c90 z.2)]
              rw [hres, e9] at hq9
              exact nns hq9
            · skip
              have hmk9 := hM k (by omega) (by omega) (opb (Or.inl c78))
              have hmk91 := hmk9.1
              have hmk92 := hmk9.2.1
              refine w_aload_n rfl l0 rfl ?_
              refine w_getR rfl rfl sh_249 rfl rfl ?_
              refine w_iload_n rfl (congrArg x_k2 l3) rfl ?_
              refine w_iald (z := mt k) rfl sh_287 (by omega) (by omega) (by decide) (hqU.1.2.2.1 k (by omega) (by omega)) rfl ?_
              refine w_iload_n rfl (congrArg x_k2 l3) rfl ?_
              refine w_iconst rfl rfl ?_
              refine w_iadd rfl rfl ?_
              refine w_ic_eq (pc2 := 95) (pc3 := 93) rfl (by decide) rfl ⟨by omega, by omega⟩ ⟨by omega, by omega⟩ (fun c90 => ?_) (fun c90 => ?_)
              · skip
                refine w_aload_n rfl l0 rfl ?_
                refine w_iload rfl rfl rfl ?_
                refine w_if_eq (pc2 := 105) (pc3 := 101) rfl (by decide) rfl ⟨by decide, by decide⟩ (fun _ => ?_) (fun hc => absurd hc (by decide))
                refine w_bipush rfl (by decide) rfl ?_
                refine w_iload rfl rfl rfl ?_
                refine w_if_eq (pc2 := 118) (pc3 := 112) rfl (by decide) rfl ⟨by decide, by decide⟩ (fun _ => ?_) (fun hc => absurd hc (by decide))
                refine w_iload_n rfl (congrArg x_k2 l3) rfl ?_
                refine w_iload_n rfl l2 rfl ?_
                have hnx9 : Rch Y mt (mt k + 1) t2 := by
                  rw [nx_b (by first | exact Or.inr c27 | exact Or.inl c78)] at hnxk
                  exact hnxk
                have hnx8 := Rch_le hnx9
                refine w_CV (as := [.int (iZ 6), .int (iZ k), .int (iZ p)]) (r := []) rfl rfl rfl rfl sh_249 (Nat.le_of_ble_eq_true rfl) (Nat.le_of_ble_eq_true rfl) (by omega) rfl (r_grow2 (k := 6) (t := k) (p := p) hqU (by omega) (by omega) (by omega) (by omega)) ?_
                rintro _ Z2 ⟨rfl, g2, hq2⟩
                show w_T _ _ 158 123 _ [.int (iZ (((bmp N p F0.length ++ F0).length : Int)))] _ _
                have f2 := gfr_trans hfU g2
                refine w_pop rfl rfl rfl ?_
                refine w_aload_n rfl l0 rfl ?_
                refine w_getR rfl rfl sh_249 rfl rfl ?_
                refine w_iload_n rfl (congrArg x_k2 l3) rfl ?_
                refine w_iald (z := mt k) rfl sh_287 (by omega) (by omega) (by decide) (hq2.1.2.2.1 k (by omega) (by omega)) rfl ?_
                refine w_iconst rfl rfl ?_
                refine w_iadd rfl rfl ?_
                refine w_istore_n rfl (by decide) rfl ?_
                refine w_goto (pc2 := 7) rfl (by decide) ?_
                exact ih.1 (mt k + 1) (F0 ++ [(6, k, 0)]) fu _ _ (by exact l0) (by exact l1) (by exact (congrArg x_k2 l2)) (by exact rfl) (by omega) (by omega) (by exact hnx9) (by omega) (by rw [List.length_append]; show 2 * ((F0.length + 1 : Nat) : Int) ≤ _; omega) (by rw [hres, rfm, if_neg (by omega), if_neg hna, if_pos ⟨c78, c90⟩]; cases rfm Y mt fu (mt k + 1) t2 with | none => rfl | some F => (show some (F0 ++ (6, k, 0) :: F) = some (F0 ++ [(6, k, 0)] ++ F); rw [List.append_assoc]; rfl)) (by rw [← gr_app p1]; exact hq2) (by exact f2) (by omega)
              · skip
                refine w_iconst rfl rfl ?_
                refine w_zret rfl rfl (by decide) ?_
                refine ⟨hfU, fun _ => rfl, fun q hq9 => ?_⟩
                exfalso
                have e9 : rfm Y mt (fu + 1) k t2 = none := by rw [rfm, if_neg (by omega), if_neg hna, if_neg (fun z => by first | exact c78 z.1 | exact c90 z.2)]
                rw [hres, e9] at hq9
                exact nns hq9
          · skip
            refine w_aload_n rfl l0 rfl ?_
            refine w_getR rfl rfl sh_249 rfl rfl ?_
            refine w_iload_n rfl l3 rfl ?_
            refine w_iconst rfl rfl ?_
            refine w_iadd rfl rfl ?_
            refine w_lald (z := Y (k + 1)) rfl sh_285 (by omega) (by omega) (by decide) (hqU.1.1.2.2.2.1 (k + 1) (by omega) (by omega)) rfl ?_
            refine w_CS (as := [.long (Y (k + 1))]) (r := []) rfl rfl rfl rfl (Nat.le_of_ble_eq_true rfl) (Nat.le_of_ble_eq_true rfl) (by omega) rfl (r_isn (x := Y (k + 1)) (Int.le_of_lt (hg _ (by omega) (by omega)).1) (by omega)) ?_
            rintro _ _ ⟨rfl, hS⟩
            rw [hS]
            show w_T _ _ 158 53 _ [.int (iZ (zB (dgt (wc (Y (k + 1)) 0))))] _ _
            refine w_b_eq (pc2 := 60) (pc3 := 56) rfl (by decide) rfl (fun c53 => ?_) (fun c53 => ?_)
            · skip
              have hna : ¬ (Y k = 91 ∧ mt k = k + 2 ∧ wk (Y (k + 1)) = 5) := fun z => of_decide_eq_false ((gw_5 (hg (k + 1) (by omega) (by omega))).symm.trans c53) z.2.2
              refine w_iconst rfl rfl ?_
              refine w_istore rfl (by decide) rfl ?_
              refine w_iload rfl rfl rfl ?_
              refine w_if_ne (pc2 := 95) (pc3 := 68) rfl (by decide) rfl ⟨by decide, by decide⟩ (fun hc => absurd hc (by decide)) (fun _ => ?_)
              refine w_aload_n rfl l0 rfl ?_
              refine w_getR rfl rfl sh_249 rfl rfl ?_
              refine w_iload_n rfl (congrArg x_k2 l3) rfl ?_
              refine w_lald (z := Y k) rfl sh_285 (by omega) (by omega) (by decide) (hqU.1.1.2.2.2.1 k (by omega) (by omega)) rfl ?_
              refine w_ldc2 (v := 40) rfl rfl rfl ?_
              refine w_l_ne (pc2 := 93) (pc3 := 81) rfl rfl (by decide) rfl (fun c78 => ?_) (fun c78 => ?_)
              · skip
                refine w_iconst rfl rfl ?_
                refine w_zret rfl rfl (by decide) ?_
                refine ⟨hfU, fun _ => rfl, fun q hq9 => ?_⟩
                exfalso
                have e9 : rfm Y mt (fu + 1) k t2 = none := by rw [rfm, if_neg (by omega), if_neg hna, if_neg (fun z => by first | exact c78 z.1 | exact c90 z.2)]
                rw [hres, e9] at hq9
                exact nns hq9
              · skip
                have hmk9 := hM k (by omega) (by omega) (opb (Or.inl c78))
                have hmk91 := hmk9.1
                have hmk92 := hmk9.2.1
                refine w_aload_n rfl l0 rfl ?_
                refine w_getR rfl rfl sh_249 rfl rfl ?_
                refine w_iload_n rfl (congrArg x_k2 l3) rfl ?_
                refine w_iald (z := mt k) rfl sh_287 (by omega) (by omega) (by decide) (hqU.1.2.2.1 k (by omega) (by omega)) rfl ?_
                refine w_iload_n rfl (congrArg x_k2 l3) rfl ?_
                refine w_iconst rfl rfl ?_
                refine w_iadd rfl rfl ?_
                refine w_ic_eq (pc2 := 95) (pc3 := 93) rfl (by decide) rfl ⟨by omega, by omega⟩ ⟨by omega, by omega⟩ (fun c90 => ?_) (fun c90 => ?_)
                · skip
                  refine w_aload_n rfl l0 rfl ?_
                  refine w_iload rfl rfl rfl ?_
                  refine w_if_eq (pc2 := 105) (pc3 := 101) rfl (by decide) rfl ⟨by decide, by decide⟩ (fun _ => ?_) (fun hc => absurd hc (by decide))
                  refine w_bipush rfl (by decide) rfl ?_
                  refine w_iload rfl rfl rfl ?_
                  refine w_if_eq (pc2 := 118) (pc3 := 112) rfl (by decide) rfl ⟨by decide, by decide⟩ (fun _ => ?_) (fun hc => absurd hc (by decide))
                  refine w_iload_n rfl (congrArg x_k2 l3) rfl ?_
                  refine w_iload_n rfl l2 rfl ?_
                  have hnx9 : Rch Y mt (mt k + 1) t2 := by
                    rw [nx_b (by first | exact Or.inr c27 | exact Or.inl c78)] at hnxk
                    exact hnxk
                  have hnx8 := Rch_le hnx9
                  refine w_CV (as := [.int (iZ 6), .int (iZ k), .int (iZ p)]) (r := []) rfl rfl rfl rfl sh_249 (Nat.le_of_ble_eq_true rfl) (Nat.le_of_ble_eq_true rfl) (by omega) rfl (r_grow2 (k := 6) (t := k) (p := p) hqU (by omega) (by omega) (by omega) (by omega)) ?_
                  rintro _ Z3 ⟨rfl, g3, hq3⟩
                  show w_T _ _ 158 123 _ [.int (iZ (((bmp N p F0.length ++ F0).length : Int)))] _ _
                  have f3 := gfr_trans hfU g3
                  refine w_pop rfl rfl rfl ?_
                  refine w_aload_n rfl l0 rfl ?_
                  refine w_getR rfl rfl sh_249 rfl rfl ?_
                  refine w_iload_n rfl (congrArg x_k2 l3) rfl ?_
                  refine w_iald (z := mt k) rfl sh_287 (by omega) (by omega) (by decide) (hq3.1.2.2.1 k (by omega) (by omega)) rfl ?_
                  refine w_iconst rfl rfl ?_
                  refine w_iadd rfl rfl ?_
                  refine w_istore_n rfl (by decide) rfl ?_
                  refine w_goto (pc2 := 7) rfl (by decide) ?_
                  exact ih.1 (mt k + 1) (F0 ++ [(6, k, 0)]) fu _ _ (by exact l0) (by exact l1) (by exact (congrArg x_k2 l2)) (by exact rfl) (by omega) (by omega) (by exact hnx9) (by omega) (by rw [List.length_append]; show 2 * ((F0.length + 1 : Nat) : Int) ≤ _; omega) (by rw [hres, rfm, if_neg (by omega), if_neg hna, if_pos ⟨c78, c90⟩]; cases rfm Y mt fu (mt k + 1) t2 with | none => rfl | some F => (show some (F0 ++ (6, k, 0) :: F) = some (F0 ++ [(6, k, 0)] ++ F); rw [List.append_assoc]; rfl)) (by rw [← gr_app p1]; exact hq3) (by exact f3) (by omega)
                · skip
                  refine w_iconst rfl rfl ?_
                  refine w_zret rfl rfl (by decide) ?_
                  refine ⟨hfU, fun _ => rfl, fun q hq9 => ?_⟩
                  exfalso
                  have e9 : rfm Y mt (fu + 1) k t2 = none := by rw [rfm, if_neg (by omega), if_neg hna, if_neg (fun z => by first | exact c78 z.1 | exact c90 z.2)]
                  rw [hres, e9] at hq9
                  exact nns hq9
            · skip
              refine w_iconst rfl rfl ?_
              refine w_goto (pc2 := 61) rfl (by decide) ?_
              refine w_istore rfl (by decide) rfl ?_
              refine w_iload rfl rfl rfl ?_
              refine w_if_ne (pc2 := 95) (pc3 := 68) rfl (by decide) rfl ⟨by decide, by decide⟩ (fun _ => ?_) (fun hc => absurd hc (by decide))
              refine w_aload_n rfl l0 rfl ?_
              refine w_iload rfl rfl rfl ?_
              refine w_if_eq (pc2 := 105) (pc3 := 101) rfl (by decide) rfl ⟨by decide, by decide⟩ (fun hc => absurd hc (by decide)) (fun _ => ?_)
              refine w_iconst rfl rfl ?_
              refine w_goto (pc2 := 107) rfl (by decide) ?_
              refine w_iload rfl rfl rfl ?_
              refine w_if_eq (pc2 := 118) (pc3 := 112) rfl (by decide) rfl ⟨by decide, by decide⟩ (fun hc => absurd hc (by decide)) (fun _ => ?_)
              refine w_iload_n rfl (congrArg x_k2 l3) rfl ?_
              refine w_iconst rfl rfl ?_
              refine w_iadd rfl rfl ?_
              refine w_goto (pc2 := 119) rfl (by decide) ?_
              refine w_iload_n rfl l2 rfl ?_
              have hnx9 : Rch Y mt (mt k + 1) t2 := by
                rw [nx_b (by first | exact Or.inr c27 | exact Or.inl c78)] at hnxk
                exact hnxk
              have hnx8 := Rch_le hnx9
              refine w_CV (as := [.int (iZ 5), .int (iZ (k + 1)), .int (iZ p)]) (r := []) rfl rfl rfl rfl sh_249 (Nat.le_of_ble_eq_true rfl) (Nat.le_of_ble_eq_true rfl) (by omega) rfl (r_grow2 (k := 5) (t := k + 1) (p := p) hqU (by omega) (by omega) (by omega) (by omega)) ?_
              rintro _ Z4 ⟨rfl, g4, hq4⟩
              show w_T _ _ 158 123 _ [.int (iZ (((bmp N p F0.length ++ F0).length : Int)))] _ _
              have f4 := gfr_trans hfU g4
              refine w_pop rfl rfl rfl ?_
              refine w_aload_n rfl l0 rfl ?_
              refine w_getR rfl rfl sh_249 rfl rfl ?_
              refine w_iload_n rfl (congrArg x_k2 l3) rfl ?_
              refine w_iald (z := mt k) rfl sh_287 (by omega) (by omega) (by decide) (hq4.1.2.2.1 k (by omega) (by omega)) rfl ?_
              refine w_iconst rfl rfl ?_
              refine w_iadd rfl rfl ?_
              refine w_istore_n rfl (by decide) rfl ?_
              refine w_goto (pc2 := 7) rfl (by decide) ?_
              exact ih.1 (mt k + 1) (F0 ++ [(5, k + 1, 0)]) fu _ _ (by exact l0) (by exact l1) (by exact (congrArg x_k2 l2)) (by exact rfl) (by omega) (by omega) (by exact hnx9) (by omega) (by rw [List.length_append]; show 2 * ((F0.length + 1 : Nat) : Int) ≤ _; omega) (by rw [hres, rfm, if_neg (by omega), if_pos ⟨c27, c39, of_decide_eq_true ((gw_5 (hg (k + 1) (by omega) (by omega))).symm.trans c53)⟩]; cases rfm Y mt fu (mt k + 1) t2 with | none => rfl | some F => (show some (F0 ++ (5, k + 1, 0) :: F) = some (F0 ++ [(5, k + 1, 0)] ++ F); rw [List.append_assoc]; rfl)) (by rw [← gr_app p1]; exact hq4) (by exact f4) (by omega)
    · skip
      intro s F0 G U lv l0 l1 l2 l4 q0 q1 hF0 hG hres2 hst hqU hfU hm
      have n0 := hq.1.1.2.1
      have n1 := hq.1.1.2.2.1
      have hg := hq.1.1.2.2.2.2.1
      have hM := hq.1.2.1
      have hlE := hq.2.1.2.1
      have hlN := hq.2.2.1.2.1
      have hlT := hq.2.2.2.2.1
      have hY0 := hq.1.1.2.2.2.2.2
      have hcm := hq.1.2.2.2
      have hfl := bF_len (N := N) (F := F0 ++ G) (p := p)
      have hfl2 : (F0 ++ G).length = F0.length + G.length := List.length_append
      refine w_iload rfl l4 rfl ?_
      refine w_aload_n rfl l0 rfl ?_
      refine w_getR rfl rfl sh_249 rfl rfl ?_
      refine w_iload_n rfl l1 rfl ?_
      refine w_iald (z := s1) rfl sh_301 (by omega) (by omega) (by decide) ((congrFun (fr_gA hfU.1 (by decide)) _).trans h301) rfl ?_
      refine w_ic_lt (pc2 := 173) (pc3 := 157) rfl (by decide) rfl ⟨by omega, by omega⟩ ⟨by omega, by omega⟩ (fun c154 => ?_) (fun c154 => ?_)
      · skip
        refine w_iconst rfl rfl ?_
        refine w_zret rfl rfl (by decide) ?_
        have e9 : (s + 1 - s1).toNat = 0 := by omega
        rw [e9] at hst
        have e8 : stR (s2 - s1).toNat s1 = G := by rw [hst]; exact List.append_nil G
        refine ⟨hfU, fun z => ?_, fun q hq9 => ?_⟩
        · rw [hres2] at z
          exact nns (show (none : Option (List Nd)) = some (F0 ++ stR (s2 - s1).toNat s1) from z.symm)
        · rw [hres2] at hq9
          have hq9 : some (F0 ++ stR (s2 - s1).toNat s1) = some q := hq9
          rw [← Option.some.inj hq9, e8]
          exact ⟨rfl, hqU⟩
      · skip
        refine w_aload_n rfl l0 rfl ?_
        refine w_bipush rfl (by decide) rfl ?_
        refine w_iload rfl l4 rfl ?_
        refine w_iload_n rfl l2 rfl ?_
        refine w_CV (as := [.int (iZ 7), .int (iZ s), .int (iZ p)]) (r := []) rfl rfl rfl rfl sh_249 (Nat.le_of_ble_eq_true rfl) (Nat.le_of_ble_eq_true rfl) (by omega) rfl (r_grow2 (k := 7) (t := s) (p := p) hqU (by omega) (by omega) (by omega) (by omega)) ?_
        rintro _ Z5 ⟨rfl, g5, hq5⟩
        show w_T _ _ 158 166 _ [.int (iZ (((bmp N p ((F0 ++ G).length : Int) ++ (F0 ++ G)).length : Int)))] _ _
        have f5 := gfr_trans hfU g5
        refine w_pop rfl rfl rfl ?_
        refine w_iinc rfl l4 (by decide) rfl ?_
        refine w_goto (pc2 := 146) rfl (by decide) ?_
        exact ih.2 (s + (-1)) F0 (G ++ [(7, s, 0)]) _ _ l0 l1 l2 rfl (by omega) (by omega) (by omega) (by rw [List.length_append]; show ((G.length + 1 : Nat) : Int) = _; omega) (by exact hres2) (by rw [hst, show (s + 1 - s1).toNat = (s + (-1) + 1 - s1).toNat + 1 by omega, stR, List.append_assoc, show s1 + ((s + (-1) + 1 - s1).toNat : Int) = s by omega]; rfl) (by rw [show F0 ++ (G ++ [(7, s, 0)]) = (F0 ++ G) ++ [(7, s, 0)] from (List.append_assoc _ _ _).symm, ← gr_app p1]; exact hq5) (by exact f5) (by omega)
theorem r_form {sc : x_S} {d : Nat} {S : w_S} {nn : Int} {Y : Int → Int64} {mt : Int → Int} {E : List Ed} {N : List Nd} {T : List Tk} {dd p s1 s2 t1 t2 : Int} (hq : PQ S nn Y mt E N T) (d0 : 0 ≤ dd) (d7 : dd ≤ 7) (h301 : sA S 301 dd = s1) (h302 : sA S 302 dd = s2) (h303 : sA S 303 dd = t1) (h304 : sA S 304 dd = t2) (s10 : 0 ≤ s1) (s12 : s1 ≤ s2) (s2n : s2 ≤ nn) (t10 : 0 ≤ t1) (t12 : t1 ≤ t2) (t2n : t2 ≤ nn) (hrt : Rch Y mt t1 t2) (p0 : 0 ≤ p) (p1 : p < N.length) (hrN : (N.length : Int) + (t2 - t1) + (s2 - s1) ≤ 201) (hd : 8 ≤ d) : w_T sc d 158 0 (x_en 0 [.ref 249, .int (iZ dd), .int (iZ p)]) [] S (FX S nn Y mt E N T p ((rfm Y mt 200 t1 t2).bind (fun F => some (F ++ stR (s2 - s1).toNat s1)))) := by
  have n0 := hq.1.1.2.1
  have n1 := hq.1.1.2.2.1
  have hg := hq.1.1.2.2.2.2.1
  have hM := hq.1.2.1
  have hlE := hq.2.1.2.1
  have hlN := hq.2.2.1.2.1
  have hlT := hq.2.2.2.2.1
  have hY0 := hq.1.1.2.2.2.2.2
  have hcm := hq.1.2.2.2
  refine w_aload_n rfl rfl rfl ?_
  refine w_getR rfl rfl sh_249 rfl rfl ?_
  refine w_iload_n rfl rfl rfl ?_
  refine w_iald (z := t1) rfl sh_303 (by omega) (by omega) (by decide) ((congrFun (fr_gA (gfr_refl S).1 (by decide)) _).trans h303) rfl ?_
  refine w_istore_n rfl (by decide) rfl ?_
  exact (r_form_c hq d0 d7 h301 h302 h303 h304 s10 s12 s2n t10 t12 t2n hrt p0 p1 hrN hd _).1 t1 ([]) 200 _ _ rfl rfl rfl rfl (by omega) (by omega) (by exact hrt) (by omega) (by rw [List.length_nil]; omega) (by cases (rfm Y mt 200 t1 t2) with | none => rfl | some F => rfl) (by rw [List.append_nil]; show PQ S nn Y mt E (bmp N p 0) T; rw [bmp_0]; exact hq) (by exact gfr_refl S) (Nat.lt_succ_self _)
