/-! The reference asks whether a word is a type; walks, casts. -/
def upb (n : Int) (mt : Int → Int) (j : Int) : Int := if j < 0 then n else mt j
def ctE (n : Int) (mt : Int → Int) (y : Int64) (p : Int) (e : Ed) : Bool := decide (e.1 = y ∧ e.2.1 ≤ p ∧ p < upb n mt e.2.2.1)
def bsE (c : Ed → Bool) : List Ed → Option (Int × Ed)
  | [] => none
  | e :: r => if c e = true ∧ (bsE c r).all (fun q => decide (q.2.2.2.1 ≤ e.2.2.1)) = true then some ((r.length : Int), e) else bsE c r
def bix : Option (Int × Ed) → Int
  | none => -1
  | some q => q.1
def tyE (n : Int) (Y : Int → Int64) (mt : Int → Int) (E : List Ed) (p : Int) : Bool := if n ≤ p then false else decide (Y p = 1734516 ∨ Y p = 209334514 ∨ (bsE (ctE n mt (Y p) p) E).any (fun q => q.2.2.2.2) = true)
theorem bsE_get {c : Ed → Bool} {A : Int → Int64} {B C F : Int → Int} : ∀ (r : List Ed) (q : Int × Ed), bsE c r = some q → erp A B C F r → 0 ≤ q.1 ∧ q.1 < r.length ∧ C q.1 = q.2.2.2.1 ∧ F q.1 = zB q.2.2.2.2 ∧ q.2 ∈ r ∧ c q.2 = true
  | [], q, h, _ => nns h
  | e :: r, q, h, he => by
    rw [bsE] at h
    by_cases z : c e = true ∧ (bsE c r).all (fun q => decide (q.2.2.2.1 ≤ e.2.2.1)) = true
    · rw [if_pos z] at h
      cases h
      rw [List.length_cons]
      exact ⟨by show (0 : Int) ≤ r.length; omega, by show (r.length : Int) < _; omega, he.2.2.1, he.2.2.2.1, by simp, z.1⟩
    · rw [if_neg z] at h
      have i := bsE_get r q h he.2.2.2.2
      rw [List.length_cons]
      exact ⟨i.1, by omega, i.2.2.1, i.2.2.2.1, by simp [i.2.2.2.2.1], i.2.2.2.2.2⟩
theorem bsE_f {c : Ed → Bool} {e : Ed} {r : List Ed} (h : c e = false) : bsE c (e :: r) = bsE c r := by
  rw [bsE, if_neg (fun z => by rw [h] at z; exact Bool.noConfusion z.1)]
theorem bsE_n {c : Ed → Bool} {e : Ed} {r : List Ed} {q : Int × Ed} (h : bsE c r = some q) (h1 : e.2.2.1 < q.2.2.2.1) : bsE c (e :: r) = bsE c r := by
  rw [bsE, if_neg (fun z => by have z2 := z.2; rw [h] at z2; have := of_decide_eq_true z2; omega)]
theorem bsE_t {c : Ed → Bool} {e : Ed} {r : List Ed} (h : c e = true) (h1 : ∀ q, bsE c r = some q → q.2.2.2.1 ≤ e.2.2.1) : bsE c (e :: r) = some ((r.length : Int), e) := by
  have e1 : (bsE c r).all (fun q => decide (q.2.2.2.1 ≤ e.2.2.1)) = true := by
    cases z : bsE c r with
    | none => rfl
    | some q => exact decide_eq_true (h1 q z)
  rw [bsE, if_pos ⟨h, e1⟩]
theorem bix_n {x : Option (Int × Ed)} {r : List Ed} {c : Ed → Bool} {A : Int → Int64} {B C F : Int → Int} (hx : bsE c r = x) (he : erp A B C F r) (h : bix x < 0) : x = none := by
  cases x with
  | none => rfl
  | some q =>
    have := (bsE_get r q hx he).1
    have h : q.1 < 0 := h
    omega
theorem r_typ_c {sc : x_S} {d : Nat} {S : w_S} {nn : Int} {Y : Int → Int64} {mt : Int → Int} {E : List Ed} {N : List Nd} {T : List Tk} {p : Int} (hq : PQ S nn Y mt E N T) (p0 : 0 ≤ p) (p9 : p ≤ 1000) (hd : 2 ≤ d) : ∀ n : Nat, (∀ (b : Int) (dd : Int) (l : List Ed) (r : List Ed) (lv : x_L) (l0 : lv 0 = some (.ref 249)) (l1 : lv 1 = some (.int (iZ p))) (l2 : lv 2 = some (.int (iZ b))) (l3 : lv 3 = some (.int (iZ dd))) (pn : p < nn) (hE : E = l.reverse ++ r) (hdd : dd = r.length) (hb : bix (bsE (ctE nn mt (Y p) p) r) = b) (b0 : -1 ≤ b) (b1 : b < E.length) (hm : l.length < n), w_T sc d 149 14 lv [] S (fun v S2 => v = some (.int (iZ (zB (tyE nn Y mt E p)))) ∧ S2 = S)) := by
  intro n
  induction n with
  | zero => exact fun b dd l r lv l0 l1 l2 l3 pn hE hdd hb b0 b1 hm => absurd hm (Nat.not_lt_zero _)
  | succ n ih =>
    intro b dd l r lv l0 l1 l2 l3 pn hE hdd hb b0 b1 hm
    have n0 := hq.1.1.2.1
    have n1 := hq.1.1.2.2.1
    have hg := hq.1.1.2.2.2.2.1
    have hM := hq.1.2.1
    have hlE := hq.2.1.2.1
    have hlN := hq.2.2.1.2.1
    have hlT := hq.2.2.2.2.1
    have hY0 := hq.1.1.2.2.2.2.2
    have hcm := hq.1.2.2.2
    have hlr9 : r.length ≤ E.length := by rw [hE, List.length_append]; omega
    refine w_iload_n rfl l3 rfl ?_
    refine w_aload_n rfl l0 rfl ?_
    refine w_getI (z := (E.length : Int)) rfl rfl sh_249 rfl hq.2.1.1 rfl ?_
    refine w_ic_ge (pc2 := 122) (pc3 := 22) rfl (by decide) rfl ⟨by omega, by omega⟩ ⟨by omega, by omega⟩ (fun c19 => ?_) (fun c19 => ?_)
    · skip
      have hlr0 : l = [] := by
        cases l with
        | nil => rfl
        | cons e lq => exfalso; rw [hE] at c19; rw [List.length_append, List.length_reverse, List.length_cons] at c19; omega
      have hEr : E = r := by rw [hE, hlr0, List.reverse_nil, List.nil_append]
      subst hEr
      refine w_aload_n rfl l0 rfl ?_
      refine w_getR rfl rfl sh_249 rfl rfl ?_
      refine w_iload_n rfl l1 rfl ?_
      refine w_lald (z := Y p) rfl sh_285 (by omega) (by omega) (by decide) (hq.1.1.2.2.2.1 p (by omega) (by omega)) rfl ?_
      refine w_ldc2 (v := 1734516) rfl rfl rfl ?_
      refine w_l_eq (pc2 := 161) (pc3 := 135) rfl rfl (by decide) rfl (fun c132 => ?_) (fun c132 => ?_)
      · skip
        refine w_iconst rfl rfl ?_
        refine w_goto (pc2 := 166) rfl (by decide) ?_
        refine w_zret rfl rfl (by decide) ?_
        refine q_i ?_
        unfold tyE
        rw [if_neg (by omega)]
        first
          | (rw [decide_eq_true (Or.inl c132)]; rfl)
          | (rw [decide_eq_true (Or.inr (Or.inl c145))]; rfl)
          | (rw [decide_eq_true (Or.inr (Or.inr (by rw [hqq]; exact c158)))]; rfl)
      · skip
        refine w_aload_n rfl l0 rfl ?_
        refine w_getR rfl rfl sh_249 rfl rfl ?_
        refine w_iload_n rfl l1 rfl ?_
        refine w_lald (z := Y p) rfl sh_285 (by omega) (by omega) (by decide) (hq.1.1.2.2.2.1 p (by omega) (by omega)) rfl ?_
        refine w_ldc2 (v := 209334514) rfl rfl rfl ?_
        refine w_l_eq (pc2 := 161) (pc3 := 148) rfl rfl (by decide) rfl (fun c145 => ?_) (fun c145 => ?_)
        · skip
          refine w_iconst rfl rfl ?_
          refine w_goto (pc2 := 166) rfl (by decide) ?_
          refine w_zret rfl rfl (by decide) ?_
          refine q_i ?_
          unfold tyE
          rw [if_neg (by omega)]
          first
            | (rw [decide_eq_true (Or.inl c132)]; rfl)
            | (rw [decide_eq_true (Or.inr (Or.inl c145))]; rfl)
            | (rw [decide_eq_true (Or.inr (Or.inr (by rw [hqq]; exact c158)))]; rfl)
        · skip
          refine w_iload_n rfl l2 rfl ?_
          refine w_if_lt (pc2 := 165) (pc3 := 152) rfl (by decide) rfl ⟨by omega, by omega⟩ (fun c149 => ?_) (fun c149 => ?_)
          · skip
            refine w_iconst rfl rfl ?_
            refine w_zret rfl rfl (by decide) ?_
            refine q_i ?_
            unfold tyE
            rw [if_neg (by omega)]
            have hno : ¬ (bsE (ctE nn mt (Y p) p) E).any (fun q => q.2.2.2.2) = true := fun z => by
              rw [bix_n rfl hq.2.1.2.2.1 (by rw [hb]; exact c149)] at z
              exact Bool.noConfusion z
            rw [decide_eq_false (fun z => by rcases z with z | z | z; exact c132 z; exact c145 z; exact hno z)]
            rfl
          · skip
            obtain ⟨q, hqq⟩ : ∃ q, bsE (ctE nn mt (Y p) p) E = some q := by
              cases z : bsE (ctE nn mt (Y p) p) E with
              | none => rw [z] at hb; have hb : (-1 : Int) = b := hb; omega
              | some q => exact ⟨q, rfl⟩
            have hqg := bsE_get E q hqq hq.2.1.2.2.1
            have hqi : q.1 = b := by rw [hqq] at hb; exact hb
            have hqt : sA S 295 b = zB q.2.2.2.2 := by rw [← hqi]; exact hqg.2.2.2.1
            refine w_aload_n rfl l0 rfl ?_
            refine w_getR rfl rfl sh_249 rfl rfl ?_
            refine w_iload_n rfl l2 rfl ?_
            refine w_bald (z := zB q.2.2.2.2) rfl sh_295 (by omega) (by omega) (by decide) hqt rfl ?_
            refine w_b_eq (pc2 := 165) (pc3 := 161) rfl (by decide) rfl (fun c158 => ?_) (fun c158 => ?_)
            · skip
              refine w_iconst rfl rfl ?_
              refine w_zret rfl rfl (by decide) ?_
              refine q_i ?_
              unfold tyE
              rw [if_neg (by omega)]
              have hno : ¬ (bsE (ctE nn mt (Y p) p) E).any (fun q => q.2.2.2.2) = true := fun z => by
                rw [hqq] at z
                have z : q.2.2.2.2 = true := z
                rw [c158] at z
                exact Bool.noConfusion z
              rw [decide_eq_false (fun z => by rcases z with z | z | z; exact c132 z; exact c145 z; exact hno z)]
              rfl
            · skip
              refine w_iconst rfl rfl ?_
              refine w_goto (pc2 := 166) rfl (by decide) ?_
              refine w_zret rfl rfl (by decide) ?_
              refine q_i ?_
              unfold tyE
              rw [if_neg (by omega)]
              first
                | (rw [decide_eq_true (Or.inl c132)]; rfl)
                | (rw [decide_eq_true (Or.inr (Or.inl c145))]; rfl)
                | (rw [decide_eq_true (Or.inr (Or.inr (by rw [hqq]; exact c158)))]; rfl)
    · skip
      obtain ⟨e, lq, rfl⟩ : ∃ e lq, l = e :: lq := by
        cases l with
        | nil => exfalso; rw [hE, List.reverse_nil, List.nil_append] at c19; omega
        | cons e lq => exact ⟨e, lq, rfl⟩
      have hE2 : E = lq.reverse ++ (e :: r) := by rw [hE]; simp
      have hs2 : erp (sL S 292) (sA S 293) (sA S 294) (sA S 295) (e :: r) := erp_suf lq.reverse _ (by rw [← hE2]; exact hq.2.1.2.2.1)
      have heo : edk nn Y e := hq.2.1.2.2.2 e (by rw [hE2]; simp)
      have he1 := heo.1
      have he2 := heo.2.1
      have he4 := heo.2.2.2.1
      have he5 := heo.2.2.2.2.1
      have hmb : 0 ≤ e.2.2.1 → e.2.2.1 < mt e.2.2.1 ∧ mt e.2.2.1 < nn := fun z => by
        have q := hM e.2.2.1 z he2 (heo.2.2.1 z)
        exact ⟨q.1, q.2.1⟩
      have hlr : r.length < E.length := by rw [hE2, List.length_append, List.length_cons]; omega
      refine w_aload_n rfl l0 rfl ?_
      refine w_getR rfl rfl sh_249 rfl rfl ?_
      refine w_iload_n rfl l3 rfl ?_
      refine w_iald (z := e.2.2.1) rfl sh_294 (by omega) (by omega) (by decide) (by rw [hdd]; exact hs2.2.2.1) rfl ?_
      apply w_jn (A := w_T _ _ 149 49 _ [.int (iZ (if 0 ≤ e.2.2.1 then mt e.2.2.1 else nn))] _ _)
      · intro kT
        refine w_if_ge (pc2 := 38) (pc3 := 31) rfl (by decide) rfl ⟨by omega, by omega⟩ (fun q1 => ?_) (fun q1 => ?_)
        · skip
          refine w_aload_n rfl l0 rfl ?_
          refine w_getR rfl rfl sh_249 rfl rfl ?_
          refine w_aload_n rfl l0 rfl ?_
          refine w_getR rfl rfl sh_249 rfl rfl ?_
          refine w_iload_n rfl l3 rfl ?_
          refine w_iald (z := e.2.2.1) rfl sh_294 (by omega) (by omega) (by decide) (by rw [hdd]; exact hs2.2.2.1) rfl ?_
          refine w_iald (z := mt e.2.2.1) rfl sh_287 (by omega) (by omega) (by decide) (hq.1.2.2.1 e.2.2.1 (by omega) (by omega)) rfl ?_
          exact w_ji1 (p := 0 ≤ e.2.2.1) (a := mt e.2.2.1) (b := nn) q1 kT
        · skip
          refine w_aload_n rfl l0 rfl ?_
          refine w_getI (z := nn) rfl rfl sh_249 rfl hq.1.1.1 rfl ?_
          refine w_goto (pc2 := 49) rfl (by decide) ?_
          exact w_ji0 (p := 0 ≤ e.2.2.1) (a := mt e.2.2.1) (b := nn) (Int.not_le.mpr q1) kT
      · show w_T _ _ 149 49 _ [.int (iZ (if 0 ≤ e.2.2.1 then mt e.2.2.1 else nn))] _ _
        generalize hu1 : (if 0 ≤ e.2.2.1 then mt e.2.2.1 else nn) = u1
        have hu : u1 = upb nn mt e.2.2.1 := by
          rw [← hu1]
          unfold upb
          by_cases z : e.2.2.1 < 0
          · rw [if_pos z]; first | rw [if_neg (by omega)] | rw [if_pos z]
          · rw [if_neg z]; first | rw [if_pos (by omega)] | rw [if_neg z]
        have hur : 0 ≤ u1 ∧ u1 ≤ nn := by
          rw [hu]
          unfold upb
          split
          · omega
          · have := hmb (by omega); omega
        refine w_istore rfl (by decide) rfl ?_
        refine w_aload_n rfl l0 rfl ?_
        refine w_getR rfl rfl sh_249 rfl rfl ?_
        refine w_iload_n rfl (congrArg x_k2 l3) rfl ?_
        refine w_lald (z := e.1) rfl sh_292 (by omega) (by omega) (by decide) (by rw [hdd]; exact hs2.1) rfl ?_
        refine w_aload_n rfl l0 rfl ?_
        refine w_getR rfl rfl sh_249 rfl rfl ?_
        refine w_iload_n rfl l1 rfl ?_
        refine w_lald (z := Y p) rfl sh_285 (by omega) (by omega) (by decide) (hq.1.1.2.2.2.1 p (by omega) (by omega)) rfl ?_
        apply w_jn (A := w_T _ _ 149 88 _ [.int (iZ (zB (decide (e.1 = (Y p) ∧ (e.2.1 ≤ p ∧ p < u1)))))] _ _)
        · intro kT
          refine w_l_ne (pc2 := 87) (pc3 := 67) rfl rfl (by decide) rfl (fun q2 => ?_) (fun q2 => ?_)
          · skip
            refine w_iconst rfl rfl ?_
            exact w_j0 (p := e.1 = (Y p) ∧ (e.2.1 ≤ p ∧ p < u1)) (fun q => q2 q.1) kT
          · skip
            refine w_aload_n rfl l0 rfl ?_
            refine w_getR rfl rfl sh_249 rfl rfl ?_
            refine w_iload_n rfl (congrArg x_k2 l3) rfl ?_
            refine w_iald (z := e.2.1) rfl sh_293 (by omega) (by omega) (by decide) (by rw [hdd]; exact hs2.2.1) rfl ?_
            refine w_iload_n rfl l1 rfl ?_
            refine w_ic_gt (pc2 := 87) (pc3 := 77) rfl (by decide) rfl ⟨by omega, by omega⟩ ⟨by omega, by omega⟩ (fun q3 => ?_) (fun q3 => ?_)
            · skip
              refine w_iconst rfl rfl ?_
              exact w_j0 (p := e.1 = (Y p) ∧ (e.2.1 ≤ p ∧ p < u1)) (fun q => (fun q => (Int.not_le.mpr q3) q.1) q.2) kT
            · skip
              refine w_iload_n rfl l1 rfl ?_
              refine w_iload rfl rfl rfl ?_
              refine w_ic_ge (pc2 := 87) (pc3 := 83) rfl (by decide) rfl ⟨by omega, by omega⟩ ⟨by omega, by omega⟩ (fun q4 => ?_) (fun q4 => ?_)
              · skip
                refine w_iconst rfl rfl ?_
                exact w_j0 (p := e.1 = (Y p) ∧ (e.2.1 ≤ p ∧ p < u1)) (fun q => (fun q => (Int.not_lt.mpr q4) q.2) q.2) kT
              · skip
                refine w_iconst rfl rfl ?_
                refine w_goto (pc2 := 88) rfl (by decide) ?_
                exact w_j1 (p := e.1 = (Y p) ∧ (e.2.1 ≤ p ∧ p < u1)) ⟨q2, ⟨q3, q4⟩⟩ kT
        · show w_T _ _ 149 88 _ [.int (iZ (zB (decide (e.1 = (Y p) ∧ (e.2.1 ≤ p ∧ p < u1)))))] _ _
          generalize hct : (decide (e.1 = (Y p) ∧ (e.2.1 ≤ p ∧ p < u1))) = ct
          have hct2 : ct = ctE nn mt (Y p) p e := by
            rw [← hct, hu]
            unfold ctE
            exact decide_eq_decide.2 (by constructor <;> (intro z; exact ⟨z.1, z.2.1, z.2.2⟩))
          refine w_istore rfl (by decide) rfl ?_
          refine w_iload rfl rfl rfl ?_
          refine w_b_eq (pc2 := 116) (pc3 := 95) rfl (by decide) rfl (fun c92 => ?_) (fun c92 => ?_)
          · skip
            refine w_iinc rfl (congrArg x_k2 l3) (by decide) rfl ?_
            refine w_goto (pc2 := 14) rfl (by decide) ?_
            exact ih b (dd + 1) lq ((e :: r)) _ (by exact l0) (by exact l1) (by exact (congrArg x_k2 l2)) (by exact rfl) (by omega) (by exact hE2) (by rw [List.length_cons]; omega) (by rw [bsE_f (hct2.symm.trans c92)]; exact hb) (by omega) (by omega) (by first | omega | (rw [List.length_cons] at hm; omega))
          · skip
            refine w_iload_n rfl l2 rfl ?_
            refine w_if_lt (pc2 := 114) (pc3 := 99) rfl (by decide) rfl ⟨by omega, by omega⟩ (fun c96 => ?_) (fun c96 => ?_)
            · skip
              refine w_iload_n rfl (congrArg x_k2 l3) rfl ?_
              refine w_istore_n rfl (by decide) rfl ?_
              refine w_iinc rfl (congrArg x_k2 l3) (by decide) rfl ?_
              refine w_goto (pc2 := 14) rfl (by decide) ?_
              exact ih dd (dd + 1) lq ((e :: r)) _ (by exact l0) (by exact (congrArg x_k2 l1)) (by exact rfl) (by exact rfl) (by omega) (by exact hE2) (by rw [List.length_cons]; omega) (by rw [bsE_t (hct2.symm.trans c92) (fun q2 h2 => nns ((bix_n rfl hs2.2.2.2.2 (by rw [hb]; exact c96)).symm.trans h2))]; exact hdd.symm) (by omega) (by omega) (by first | omega | (rw [List.length_cons] at hm; omega))
            · skip
              obtain ⟨q, hqq⟩ : ∃ q, bsE (ctE nn mt (Y p) p) r = some q := by
                cases z : bsE (ctE nn mt (Y p) p) r with
                | none => rw [z] at hb; have hb : (-1 : Int) = b := hb; omega
                | some q => exact ⟨q, rfl⟩
              have hqg := bsE_get r q hqq hs2.2.2.2.2
              have hqi : q.1 = b := by rw [hqq] at hb; exact hb
              have hqb : sA S 294 b = q.2.2.2.1 := by rw [← hqi]; exact hqg.2.2.1
              have hqo : edk nn Y q.2 := hq.2.1.2.2.2 q.2 (by rw [hE2]; simp [hqg.2.2.2.2.1])
              have hq1 := hqo.1
              have hq2 := hqo.2.1
              refine w_aload_n rfl l0 rfl ?_
              refine w_getR rfl rfl sh_249 rfl rfl ?_
              refine w_iload_n rfl (congrArg x_k2 l3) rfl ?_
              refine w_iald (z := e.2.2.1) rfl sh_294 (by omega) (by omega) (by decide) (by rw [hdd]; exact hs2.2.2.1) rfl ?_
              refine w_aload_n rfl l0 rfl ?_
              refine w_getR rfl rfl sh_249 rfl rfl ?_
              refine w_iload_n rfl l2 rfl ?_
              refine w_iald (z := q.2.2.2.1) rfl sh_294 (by omega) (by omega) (by decide) hqb rfl ?_
              refine w_ic_lt (pc2 := 116) (pc3 := 114) rfl (by decide) rfl ⟨by omega, by omega⟩ ⟨by omega, by omega⟩ (fun c111 => ?_) (fun c111 => ?_)
              · skip
                refine w_iinc rfl (congrArg x_k2 l3) (by decide) rfl ?_
                refine w_goto (pc2 := 14) rfl (by decide) ?_
                exact ih b (dd + 1) lq ((e :: r)) _ (by exact l0) (by exact l1) (by exact (congrArg x_k2 l2)) (by exact rfl) (by omega) (by exact hE2) (by rw [List.length_cons]; omega) (by rw [bsE_n hqq (by omega)]; exact hb) (by omega) (by omega) (by first | omega | (rw [List.length_cons] at hm; omega))
              · skip
                refine w_iload_n rfl (congrArg x_k2 l3) rfl ?_
                refine w_istore_n rfl (by decide) rfl ?_
                refine w_iinc rfl (congrArg x_k2 l3) (by decide) rfl ?_
                refine w_goto (pc2 := 14) rfl (by decide) ?_
                exact ih dd (dd + 1) lq ((e :: r)) _ (by exact l0) (by exact (congrArg x_k2 l1)) (by exact rfl) (by exact rfl) (by omega) (by exact hE2) (by rw [List.length_cons]; omega) (by rw [bsE_t (hct2.symm.trans c92) (fun q2 h2 => by rw [← Option.some.inj (hqq.symm.trans h2)]; exact c111)]; exact hdd.symm) (by omega) (by omega) (by first | omega | (rw [List.length_cons] at hm; omega))
theorem r_typ {sc : x_S} {d : Nat} {S : w_S} {nn : Int} {Y : Int → Int64} {mt : Int → Int} {E : List Ed} {N : List Nd} {T : List Tk} {p : Int} (hq : PQ S nn Y mt E N T) (p0 : 0 ≤ p) (p9 : p ≤ 1000) (hd : 2 ≤ d) : w_T sc d 149 0 (x_en 0 [.ref 249, .int (iZ p)]) [] S (fun v S2 => v = some (.int (iZ (zB (tyE nn Y mt E p)))) ∧ S2 = S) := by
  have n0 := hq.1.1.2.1
  have n1 := hq.1.1.2.2.1
  have hg := hq.1.1.2.2.2.2.1
  have hM := hq.1.2.1
  have hlE := hq.2.1.2.1
  have hlN := hq.2.2.1.2.1
  have hlT := hq.2.2.2.2.1
  have hY0 := hq.1.1.2.2.2.2.2
  have hcm := hq.1.2.2.2
  refine w_iload_n rfl rfl rfl ?_
  refine w_aload_n rfl rfl rfl ?_
  refine w_getI (z := nn) rfl rfl sh_249 rfl hq.1.1.1 rfl ?_
  refine w_ic_lt (pc2 := 10) (pc3 := 8) rfl (by decide) rfl ⟨by omega, by omega⟩ ⟨by omega, by omega⟩ (fun c5 => ?_) (fun c5 => ?_)
  · skip
    refine w_iconst rfl rfl ?_
    refine w_istore_n rfl (by decide) rfl ?_
    refine w_iconst rfl rfl ?_
    refine w_istore_n rfl (by decide) rfl ?_
    exact (r_typ_c hq p0 p9 hd _) ((-1)) 0 E.reverse ([]) _ rfl rfl rfl rfl (by omega) (by rw [List.reverse_reverse, List.append_nil]) (by rfl) (by rfl) (by omega) (by omega) (Nat.lt_succ_self _)
  · skip
    refine w_iconst rfl rfl ?_
    refine w_zret rfl rfl (by decide) ?_
    refine q_i ?_
    unfold tyE
    rw [if_pos (by omega)]
    rfl
theorem wlk_e {Y : Int → Int64} {mt : Int → Int} {p : Int64 → Bool} {m : Nat} {k e : Int} (h : e ≤ k) : wlk Y mt p (m + 1) k e = k := by rw [wlk, if_pos h]
theorem wlk_h {Y : Int → Int64} {mt : Int → Int} {p : Int64 → Bool} {m : Nat} {k e : Int} (h : k < e) (hp : p (Y k) = true) : wlk Y mt p (m + 1) k e = k := by rw [wlk, if_neg (by omega), if_pos hp]
theorem wlk_b {Y : Int → Int64} {mt : Int → Int} {p : Int64 → Bool} {m : Nat} {k e : Int} (h : k < e) (hp : p (Y k) = false) (hb : Y k = 40 ∨ Y k = 91) : wlk Y mt p (m + 1) k e = wlk Y mt p m (mt k + 1) e := by rw [wlk_s h hp, if_pos hb]
theorem wlk_1 {Y : Int → Int64} {mt : Int → Int} {p : Int64 → Bool} {m : Nat} {k e : Int} (h : k < e) (hp : p (Y k) = false) (hb : ¬ (Y k = 40 ∨ Y k = 91)) : wlk Y mt p (m + 1) k e = wlk Y mt p m (k + 1) e := by rw [wlk_s h hp, if_neg hb]
theorem r_stop_c {sc : x_S} {d : Nat} {S : w_S} {nn : Int} {Y : Int → Int64} {mt : Int → Int} {E : List Ed} {N : List Nd} {T : List Tk} {i e : Int} (hq : PQ S nn Y mt E N T) (i0 : 0 ≤ i) (i1 : i ≤ nn) (e0 : 0 ≤ e) (e1 : e ≤ nn) (hd : 1 ≤ d) : ∀ n : Nat, (∀ (k : Int) (f : Nat) (lv : x_L) (l0 : lv 0 = some (.ref 249)) (l1 : lv 1 = some (.int (iZ i))) (l2 : lv 2 = some (.int (iZ e))) (l3 : lv 3 = some (.int (iZ k))) (k0 : 0 ≤ k) (k1 : k ≤ nn) (hf : nn - k < f) (he : wlk Y mt p3 200 i e = wlk Y mt p3 f k e) (hm : (nn - k).toNat < n), w_T sc d 153 2 lv [] S (fun v S2 => v = some (.int (iZ (spp Y mt i e))) ∧ S2 = S)) := by
  intro n
  induction n with
  | zero => exact fun k f lv l0 l1 l2 l3 k0 k1 hf he hm => absurd hm (Nat.not_lt_zero _)
  | succ n ih =>
    intro k f lv l0 l1 l2 l3 k0 k1 hf he hm
    have n0 := hq.1.1.2.1
    have n1 := hq.1.1.2.2.1
    have hg := hq.1.1.2.2.2.2.1
    have hM := hq.1.2.1
    have hlE := hq.2.1.2.1
    have hlN := hq.2.2.1.2.1
    have hlT := hq.2.2.2.2.1
    have hY0 := hq.1.1.2.2.2.2.2
    have hcm := hq.1.2.2.2
    obtain ⟨f2, rfl⟩ : ∃ f2, f = f2 + 1 := ⟨f - 1, by omega⟩
    refine w_iload_n rfl l3 rfl ?_
    refine w_iload_n rfl l2 rfl ?_
    refine w_ic_ge (pc2 := 90) (pc3 := 7) rfl (by decide) rfl ⟨by omega, by omega⟩ ⟨by omega, by omega⟩ (fun c4 => ?_) (fun c4 => ?_)
    · skip
      refine w_iload_n rfl l3 rfl ?_
      refine w_iload_n rfl l2 rfl ?_
      refine w_ic_ge (pc2 := 112) (pc3 := 95) rfl (by decide) rfl ⟨by omega, by omega⟩ ⟨by omega, by omega⟩ (fun c92 => ?_) (fun c92 => ?_)
      · skip
        refine w_iconst rfl rfl ?_
        refine w_iret rfl rfl ?_
        refine q_i ?_
        unfold spp
        rw [he]
        rw [wlk_e (by omega), if_neg (by omega)]
      · skip
        refine w_aload_n rfl l0 rfl ?_
        refine w_getR rfl rfl sh_249 rfl rfl ?_
        refine w_iload_n rfl l3 rfl ?_
        refine w_lald (z := Y k) rfl sh_285 (by omega) (by omega) (by decide) (hq.1.1.2.2.2.1 k (by omega) (by omega)) rfl ?_
        refine w_ldc2 (v := 125) rfl rfl rfl ?_
        refine w_l_eq (pc2 := 112) (pc3 := 108) rfl rfl (by decide) rfl (fun c105 => ?_) (fun c105 => ?_)
        · skip
          refine w_iconst rfl rfl ?_
          refine w_iret rfl rfl ?_
          refine q_i ?_
          unfold spp
          rw [he]
          rw [wlk_e (by omega), if_neg (by omega)]
        · skip
          refine w_iload_n rfl l3 rfl ?_
          refine w_goto (pc2 := 113) rfl (by decide) ?_
          refine w_iret rfl rfl ?_
          refine q_i ?_
          unfold spp
          rw [he]
          exfalso
          omega
    · skip
      refine w_aload_n rfl l0 rfl ?_
      refine w_getR rfl rfl sh_249 rfl rfl ?_
      refine w_iload_n rfl l3 rfl ?_
      refine w_lald (z := Y k) rfl sh_285 (by omega) (by omega) (by decide) (hq.1.1.2.2.2.1 k (by omega) (by omega)) rfl ?_
      refine w_ldc2 (v := 59) rfl rfl rfl ?_
      apply w_br (A := w_T _ _ 153 46 _ [] _ _) (B := w_T _ _ 153 90 _ [] _ _) ((¬ (Y k) = 59) ∧ ((¬ (Y k) = 123) ∧ (¬ (Y k) = 125)))
      · intro kT1 kT2
        refine w_l_eq (pc2 := 90) (pc3 := 20) rfl rfl (by decide) rfl (fun q1 => ?_) (fun q1 => ?_)
        · skip
          exact kT2 (fun q => (not_not_intro q1) q.1)
        · skip
          refine w_aload_n rfl l0 rfl ?_
          refine w_getR rfl rfl sh_249 rfl rfl ?_
          refine w_iload_n rfl l3 rfl ?_
          refine w_lald (z := Y k) rfl sh_285 (by omega) (by omega) (by decide) (hq.1.1.2.2.2.1 k (by omega) (by omega)) rfl ?_
          refine w_ldc2 (v := 123) rfl rfl rfl ?_
          refine w_l_eq (pc2 := 90) (pc3 := 33) rfl rfl (by decide) rfl (fun q2 => ?_) (fun q2 => ?_)
          · skip
            exact kT2 (fun q => (fun q => (not_not_intro q2) q.1) q.2)
          · skip
            refine w_aload_n rfl l0 rfl ?_
            refine w_getR rfl rfl sh_249 rfl rfl ?_
            refine w_iload_n rfl l3 rfl ?_
            refine w_lald (z := Y k) rfl sh_285 (by omega) (by omega) (by decide) (hq.1.1.2.2.2.1 k (by omega) (by omega)) rfl ?_
            refine w_ldc2 (v := 125) rfl rfl rfl ?_
            refine w_l_eq (pc2 := 90) (pc3 := 46) rfl rfl (by decide) rfl (fun q3 => ?_) (fun q3 => ?_)
            · skip
              exact kT2 (fun q => (fun q => (not_not_intro q3) q.2) q.2)
            · skip
              exact kT1 ⟨q1, ⟨q2, q3⟩⟩
      · intro c17
        have hp3 : p3 (Y k) = false := decide_eq_false (fun z => by rcases z with z | z | z; exact c17.1 z; exact c17.2.1 z; exact c17.2.2 z)
        refine w_aload_n rfl l0 rfl ?_
        refine w_getR rfl rfl sh_249 rfl rfl ?_
        refine w_iload_n rfl l3 rfl ?_
        refine w_lald (z := Y k) rfl sh_285 (by omega) (by omega) (by decide) (hq.1.1.2.2.2.1 k (by omega) (by omega)) rfl ?_
        refine w_ldc2 (v := 40) rfl rfl rfl ?_
        refine w_l_eq (pc2 := 72) (pc3 := 59) rfl rfl (by decide) rfl (fun c56 => ?_) (fun c56 => ?_)
        · skip
          have hbk : Y k = 40 ∨ Y k = 91 := by first | exact Or.inl c56 | exact Or.inr c69
          have hmk := hM k (by omega) (by omega) (opb hbk)
          have hmk1 := hmk.1
          have hmk2 := hmk.2.1
          refine w_aload_n rfl l0 rfl ?_
          refine w_getR rfl rfl sh_249 rfl rfl ?_
          refine w_iload_n rfl l3 rfl ?_
          refine w_iald (z := mt k) rfl sh_287 (by omega) (by omega) (by decide) (hq.1.2.2.1 k (by omega) (by omega)) rfl ?_
          refine w_iconst rfl rfl ?_
          refine w_iadd rfl rfl ?_
          refine w_goto (pc2 := 86) rfl (by decide) ?_
          refine w_istore_n rfl (by decide) rfl ?_
          refine w_goto (pc2 := 2) rfl (by decide) ?_
          exact ih (mt k + 1) f2 _ (by exact l0) (by exact l1) (by exact (congrArg x_k2 l2)) (by exact rfl) (by omega) (by omega) (by omega) (by rw [he, wlk_b (by omega) hp3 hbk]) (by omega)
        · skip
          refine w_aload_n rfl l0 rfl ?_
          refine w_getR rfl rfl sh_249 rfl rfl ?_
          refine w_iload_n rfl l3 rfl ?_
          refine w_lald (z := Y k) rfl sh_285 (by omega) (by omega) (by decide) (hq.1.1.2.2.2.1 k (by omega) (by omega)) rfl ?_
          refine w_ldc2 (v := 91) rfl rfl rfl ?_
          refine w_l_ne (pc2 := 83) (pc3 := 72) rfl rfl (by decide) rfl (fun c69 => ?_) (fun c69 => ?_)
          · skip
            refine w_iload_n rfl l3 rfl ?_
            refine w_iconst rfl rfl ?_
            refine w_iadd rfl rfl ?_
            refine w_istore_n rfl (by decide) rfl ?_
            refine w_goto (pc2 := 2) rfl (by decide) ?_
            exact ih (k + 1) f2 _ (by exact l0) (by exact l1) (by exact (congrArg x_k2 l2)) (by exact rfl) (by omega) (by omega) (by omega) (by rw [he, wlk_1 (by omega) hp3 (fun z => by rcases z with z | z; exact c56 z; exact c69 z)]) (by omega)
          · skip
            have hbk : Y k = 40 ∨ Y k = 91 := by first | exact Or.inl c56 | exact Or.inr c69
            have hmk := hM k (by omega) (by omega) (opb hbk)
            have hmk1 := hmk.1
            have hmk2 := hmk.2.1
            refine w_aload_n rfl l0 rfl ?_
            refine w_getR rfl rfl sh_249 rfl rfl ?_
            refine w_iload_n rfl l3 rfl ?_
            refine w_iald (z := mt k) rfl sh_287 (by omega) (by omega) (by decide) (hq.1.2.2.1 k (by omega) (by omega)) rfl ?_
            refine w_iconst rfl rfl ?_
            refine w_iadd rfl rfl ?_
            refine w_goto (pc2 := 86) rfl (by decide) ?_
            refine w_istore_n rfl (by decide) rfl ?_
            refine w_goto (pc2 := 2) rfl (by decide) ?_
            exact ih (mt k + 1) f2 _ (by exact l0) (by exact l1) (by exact (congrArg x_k2 l2)) (by exact rfl) (by omega) (by omega) (by omega) (by rw [he, wlk_b (by omega) hp3 hbk]) (by omega)
      · intro c17
        have hp3 : p3 (Y k) = true := decide_eq_true (by
          by_cases z1 : Y k = 59
          · exact Or.inl z1
          · by_cases z2 : Y k = 123
            · exact Or.inr (Or.inl z2)
            · by_cases z3 : Y k = 125
              · exact Or.inr (Or.inr z3)
              · exact absurd ⟨z1, z2, z3⟩ c17)
        refine w_iload_n rfl l3 rfl ?_
        refine w_iload_n rfl l2 rfl ?_
        refine w_ic_ge (pc2 := 112) (pc3 := 95) rfl (by decide) rfl ⟨by omega, by omega⟩ ⟨by omega, by omega⟩ (fun c92 => ?_) (fun c92 => ?_)
        · skip
          refine w_iconst rfl rfl ?_
          refine w_iret rfl rfl ?_
          refine q_i ?_
          unfold spp
          rw [he]
          by_cases z : e ≤ k
          · exfalso; omega
          · rw [wlk_h (by omega) hp3, if_neg (fun z => z.2 (by first | exact c105 | (exfalso; omega)))]
        · skip
          refine w_aload_n rfl l0 rfl ?_
          refine w_getR rfl rfl sh_249 rfl rfl ?_
          refine w_iload_n rfl l3 rfl ?_
          refine w_lald (z := Y k) rfl sh_285 (by omega) (by omega) (by decide) (hq.1.1.2.2.2.1 k (by omega) (by omega)) rfl ?_
          refine w_ldc2 (v := 125) rfl rfl rfl ?_
          refine w_l_eq (pc2 := 112) (pc3 := 108) rfl rfl (by decide) rfl (fun c105 => ?_) (fun c105 => ?_)
          · skip
            refine w_iconst rfl rfl ?_
            refine w_iret rfl rfl ?_
            refine q_i ?_
            unfold spp
            rw [he]
            by_cases z : e ≤ k
            · exfalso; omega
            · rw [wlk_h (by omega) hp3, if_neg (fun z => z.2 (by first | exact c105 | (exfalso; omega)))]
          · skip
            refine w_iload_n rfl l3 rfl ?_
            refine w_goto (pc2 := 113) rfl (by decide) ?_
            refine w_iret rfl rfl ?_
            refine q_i ?_
            unfold spp
            rw [he]
            rw [wlk_h (by omega) hp3, if_pos ⟨by omega, c105⟩]
theorem r_stop {sc : x_S} {d : Nat} {S : w_S} {nn : Int} {Y : Int → Int64} {mt : Int → Int} {E : List Ed} {N : List Nd} {T : List Tk} {i e : Int} (hq : PQ S nn Y mt E N T) (i0 : 0 ≤ i) (i1 : i ≤ nn) (e0 : 0 ≤ e) (e1 : e ≤ nn) (hd : 1 ≤ d) : w_T sc d 153 0 (x_en 0 [.ref 249, .int (iZ i), .int (iZ e)]) [] S (fun v S2 => v = some (.int (iZ (spp Y mt i e))) ∧ S2 = S) := by
  have n0 := hq.1.1.2.1
  have n1 := hq.1.1.2.2.1
  have hg := hq.1.1.2.2.2.2.1
  have hM := hq.1.2.1
  have hlE := hq.2.1.2.1
  have hlN := hq.2.2.1.2.1
  have hlT := hq.2.2.2.2.1
  have hY0 := hq.1.1.2.2.2.2.2
  have hcm := hq.1.2.2.2
  refine w_iload_n rfl rfl rfl ?_
  refine w_istore_n rfl (by decide) rfl ?_
  exact (r_stop_c hq i0 i1 e0 e1 hd _) i 200 _ rfl rfl rfl rfl (by omega) (by omega) (by omega) (by rfl) (Nat.lt_succ_self _)
theorem r_seek_c {sc : x_S} {d : Nat} {S : w_S} {nn : Int} {Y : Int → Int64} {mt : Int → Int} {E : List Ed} {N : List Nd} {T : List Tk} {i e : Int} {x : Int64} (hq : PQ S nn Y mt E N T) (i0 : 0 ≤ i) (i1 : i ≤ nn) (e0 : 0 ≤ e) (e1 : e ≤ nn) (hd : 1 ≤ d) : ∀ n : Nat, (∀ (k : Int) (f : Nat) (lv : x_L) (l0 : lv 0 = some (.ref 249)) (l1 : lv 1 = some (.int (iZ i))) (l2 : lv 2 = some (.int (iZ e))) (l3 : lv 3 = some (.long x)) (l5 : lv 5 = some (.int (iZ k))) (k0 : 0 ≤ k) (k1 : k ≤ nn) (hf : nn - k < f) (he : wlk Y mt (fun y => decide (y = x)) 200 i e = wlk Y mt (fun y => decide (y = x)) f k e) (hm : (nn - k).toNat < n), w_T sc d 156 3 lv [] S (fun v S2 => v = some (.int (iZ (see Y mt i e x))) ∧ S2 = S)) := by
  intro n
  induction n with
  | zero => exact fun k f lv l0 l1 l2 l3 l5 k0 k1 hf he hm => absurd hm (Nat.not_lt_zero _)
  | succ n ih =>
    intro k f lv l0 l1 l2 l3 l5 k0 k1 hf he hm
    have n0 := hq.1.1.2.1
    have n1 := hq.1.1.2.2.1
    have hg := hq.1.1.2.2.2.2.1
    have hM := hq.1.2.1
    have hlE := hq.2.1.2.1
    have hlN := hq.2.2.1.2.1
    have hlT := hq.2.2.2.2.1
    have hY0 := hq.1.1.2.2.2.2.2
    have hcm := hq.1.2.2.2
    obtain ⟨f2, rfl⟩ : ∃ f2, f = f2 + 1 := ⟨f - 1, by omega⟩
    refine w_iload rfl l5 rfl ?_
    refine w_iload_n rfl l2 rfl ?_
    refine w_ic_ge (pc2 := 70) (pc3 := 9) rfl (by decide) rfl ⟨by omega, by omega⟩ ⟨by omega, by omega⟩ (fun c6 => ?_) (fun c6 => ?_)
    · skip
      refine w_iload rfl l5 rfl ?_
      refine w_iload_n rfl l2 rfl ?_
      refine w_ic_ge (pc2 := 81) (pc3 := 76) rfl (by decide) rfl ⟨by omega, by omega⟩ ⟨by omega, by omega⟩ (fun c73 => ?_) (fun c73 => ?_)
      · skip
        refine w_iload_n rfl l2 rfl ?_
        refine w_iret rfl rfl ?_
        refine q_i ?_
        unfold see
        rw [he]
        rw [wlk_e (by omega), if_neg (by omega)]
      · skip
        refine w_iload rfl l5 rfl ?_
        refine w_goto (pc2 := 82) rfl (by decide) ?_
        refine w_iret rfl rfl ?_
        refine q_i ?_
        unfold see
        rw [he]
        exfalso
        omega
    · skip
      refine w_aload_n rfl l0 rfl ?_
      refine w_getR rfl rfl sh_249 rfl rfl ?_
      refine w_iload rfl l5 rfl ?_
      refine w_lald (z := Y k) rfl sh_285 (by omega) (by omega) (by decide) (hq.1.1.2.2.2.1 k (by omega) (by omega)) rfl ?_
      refine w_lload_n rfl l3 rfl ?_
      refine w_l_eq (pc2 := 70) (pc3 := 21) rfl rfl (by decide) rfl (fun c18 => ?_) (fun c18 => ?_)
      · skip
        refine w_iload rfl l5 rfl ?_
        refine w_iload_n rfl l2 rfl ?_
        refine w_ic_ge (pc2 := 81) (pc3 := 76) rfl (by decide) rfl ⟨by omega, by omega⟩ ⟨by omega, by omega⟩ (fun c73 => ?_) (fun c73 => ?_)
        · skip
          refine w_iload_n rfl l2 rfl ?_
          refine w_iret rfl rfl ?_
          refine q_i ?_
          unfold see
          rw [he]
          exfalso
          omega
        · skip
          refine w_iload rfl l5 rfl ?_
          refine w_goto (pc2 := 82) rfl (by decide) ?_
          refine w_iret rfl rfl ?_
          refine q_i ?_
          unfold see
          rw [he]
          rw [wlk_h (by omega) (decide_eq_true c18), if_pos (by omega)]
      · skip
        refine w_aload_n rfl l0 rfl ?_
        refine w_getR rfl rfl sh_249 rfl rfl ?_
        refine w_iload rfl l5 rfl ?_
        refine w_lald (z := Y k) rfl sh_285 (by omega) (by omega) (by decide) (hq.1.1.2.2.2.1 k (by omega) (by omega)) rfl ?_
        refine w_ldc2 (v := 40) rfl rfl rfl ?_
        refine w_l_eq (pc2 := 49) (pc3 := 35) rfl rfl (by decide) rfl (fun c32 => ?_) (fun c32 => ?_)
        · skip
          have hbk : Y k = 40 ∨ Y k = 91 := by first | exact Or.inl c32 | exact Or.inr c46
          have hmk := hM k (by omega) (by omega) (opb hbk)
          have hmk1 := hmk.1
          have hmk2 := hmk.2.1
          refine w_aload_n rfl l0 rfl ?_
          refine w_getR rfl rfl sh_249 rfl rfl ?_
          refine w_iload rfl l5 rfl ?_
          refine w_iald (z := mt k) rfl sh_287 (by omega) (by omega) (by decide) (hq.1.2.2.1 k (by omega) (by omega)) rfl ?_
          refine w_iconst rfl rfl ?_
          refine w_iadd rfl rfl ?_
          refine w_goto (pc2 := 65) rfl (by decide) ?_
          refine w_istore rfl (by decide) rfl ?_
          refine w_goto (pc2 := 3) rfl (by decide) ?_
          exact ih (mt k + 1) f2 _ l0 l1 l2 l3 rfl (by omega) (by omega) (by omega) (by rw [he, wlk_b (by omega) (decide_eq_false c18) hbk]) (by omega)
        · skip
          refine w_aload_n rfl l0 rfl ?_
          refine w_getR rfl rfl sh_249 rfl rfl ?_
          refine w_iload rfl l5 rfl ?_
          refine w_lald (z := Y k) rfl sh_285 (by omega) (by omega) (by decide) (hq.1.1.2.2.2.1 k (by omega) (by omega)) rfl ?_
          refine w_ldc2 (v := 91) rfl rfl rfl ?_
          refine w_l_ne (pc2 := 61) (pc3 := 49) rfl rfl (by decide) rfl (fun c46 => ?_) (fun c46 => ?_)
          · skip
            refine w_iload rfl l5 rfl ?_
            refine w_iconst rfl rfl ?_
            refine w_iadd rfl rfl ?_
            refine w_istore rfl (by decide) rfl ?_
            refine w_goto (pc2 := 3) rfl (by decide) ?_
            exact ih (k + 1) f2 _ l0 l1 l2 l3 rfl (by omega) (by omega) (by omega) (by rw [he, wlk_1 (by omega) (decide_eq_false c18) (fun z => by rcases z with z | z; exact c32 z; exact c46 z)]) (by omega)
          · skip
            have hbk : Y k = 40 ∨ Y k = 91 := by first | exact Or.inl c32 | exact Or.inr c46
            have hmk := hM k (by omega) (by omega) (opb hbk)
            have hmk1 := hmk.1
            have hmk2 := hmk.2.1
            refine w_aload_n rfl l0 rfl ?_
            refine w_getR rfl rfl sh_249 rfl rfl ?_
            refine w_iload rfl l5 rfl ?_
            refine w_iald (z := mt k) rfl sh_287 (by omega) (by omega) (by decide) (hq.1.2.2.1 k (by omega) (by omega)) rfl ?_
            refine w_iconst rfl rfl ?_
            refine w_iadd rfl rfl ?_
            refine w_goto (pc2 := 65) rfl (by decide) ?_
            refine w_istore rfl (by decide) rfl ?_
            refine w_goto (pc2 := 3) rfl (by decide) ?_
            exact ih (mt k + 1) f2 _ l0 l1 l2 l3 rfl (by omega) (by omega) (by omega) (by rw [he, wlk_b (by omega) (decide_eq_false c18) hbk]) (by omega)
theorem r_seek {sc : x_S} {d : Nat} {S : w_S} {nn : Int} {Y : Int → Int64} {mt : Int → Int} {E : List Ed} {N : List Nd} {T : List Tk} {i e : Int} {x : Int64} (hq : PQ S nn Y mt E N T) (i0 : 0 ≤ i) (i1 : i ≤ nn) (e0 : 0 ≤ e) (e1 : e ≤ nn) (hd : 1 ≤ d) : w_T sc d 156 0 (x_en 0 [.ref 249, .int (iZ i), .int (iZ e), .long x]) [] S (fun v S2 => v = some (.int (iZ (see Y mt i e x))) ∧ S2 = S) := by
  have n0 := hq.1.1.2.1
  have n1 := hq.1.1.2.2.1
  have hg := hq.1.1.2.2.2.2.1
  have hM := hq.1.2.1
  have hlE := hq.2.1.2.1
  have hlN := hq.2.2.1.2.1
  have hlT := hq.2.2.2.2.1
  have hY0 := hq.1.1.2.2.2.2.2
  have hcm := hq.1.2.2.2
  refine w_iload_n rfl rfl rfl ?_
  refine w_istore rfl (by decide) rfl ?_
  exact (r_seek_c hq i0 i1 e0 e1 hd _) i 200 _ rfl rfl rfl rfl rfl (by omega) (by omega) (by omega) (by rfl) (Nat.lt_succ_self _)
theorem r_str {sc : x_S} {d : Nat} {S : w_S} {x : Int64}  (hd : 0 ≤ d) : w_T sc d 159 0 (x_en 0 [.long x]) [] S (fun v S2 => v = some (.int (iZ (stq x))) ∧ S2 = S) := by
  refine w_lload_n rfl rfl rfl ?_
  refine w_ldc2 (v := 61) rfl rfl rfl ?_
  apply w_jn (A := w_T _ _ 159 85 _ [.int (iZ (if ¬ x = 61 then (if ¬ x = 7869 then (if x = 60 then 2 else if ¬ x = 62 then (if x = 43 then 3 else if ¬ x = 45 then (if x = 42 ∨ x = 47 then 4 else (-1)) else 3) else 2) else 1) else 0))] _ _)
  · intro kT
    refine w_l_ne (pc2 := 12) (pc3 := 8) rfl rfl (by decide) rfl (fun q1 => ?_) (fun q1 => ?_)
    · skip
      refine w_lload_n rfl rfl rfl ?_
      refine w_ldc2 (v := 7869) rfl rfl rfl ?_
      refine w_l_ne (pc2 := 24) (pc3 := 20) rfl rfl (by decide) rfl (fun q2 => ?_) (fun q2 => ?_)
      · skip
        refine w_lload_n rfl rfl rfl ?_
        refine w_ldc2 (v := 60) rfl rfl rfl ?_
        refine w_l_eq (pc2 := 40) (pc3 := 32) rfl rfl (by decide) rfl (fun q3 => ?_) (fun q3 => ?_)
        · skip
          refine w_iconst rfl rfl ?_
          refine w_goto (pc2 := 85) rfl (by decide) ?_
          exact w_jri (a := if ¬ x = 61 then (if ¬ x = 7869 then (if x = 60 then 2 else if ¬ x = 62 then (if x = 43 then 3 else if ¬ x = 45 then (if x = 42 ∨ x = 47 then 4 else (-1)) else 3) else 2) else 1) else 0) (b := 2) (by rw [if_pos q1, if_pos q2, if_pos q3]) kT
        · skip
          refine w_lload_n rfl rfl rfl ?_
          refine w_ldc2 (v := 62) rfl rfl rfl ?_
          refine w_l_ne (pc2 := 44) (pc3 := 40) rfl rfl (by decide) rfl (fun q4 => ?_) (fun q4 => ?_)
          · skip
            refine w_lload_n rfl rfl rfl ?_
            refine w_ldc2 (v := 43) rfl rfl rfl ?_
            refine w_l_eq (pc2 := 60) (pc3 := 52) rfl rfl (by decide) rfl (fun q5 => ?_) (fun q5 => ?_)
            · skip
              refine w_iconst rfl rfl ?_
              refine w_goto (pc2 := 85) rfl (by decide) ?_
              exact w_jri (a := if ¬ x = 61 then (if ¬ x = 7869 then (if x = 60 then 2 else if ¬ x = 62 then (if x = 43 then 3 else if ¬ x = 45 then (if x = 42 ∨ x = 47 then 4 else (-1)) else 3) else 2) else 1) else 0) (b := 3) (by rw [if_pos q1, if_pos q2, if_neg q3, if_pos q4, if_pos q5]) kT
            · skip
              refine w_lload_n rfl rfl rfl ?_
              refine w_ldc2 (v := 45) rfl rfl rfl ?_
              refine w_l_ne (pc2 := 64) (pc3 := 60) rfl rfl (by decide) rfl (fun q6 => ?_) (fun q6 => ?_)
              · skip
                refine w_lload_n rfl rfl rfl ?_
                refine w_ldc2 (v := 42) rfl rfl rfl ?_
                refine w_l_eq (pc2 := 80) (pc3 := 72) rfl rfl (by decide) rfl (fun q7 => ?_) (fun q7 => ?_)
                · skip
                  refine w_iconst rfl rfl ?_
                  refine w_goto (pc2 := 85) rfl (by decide) ?_
                  exact w_jri (a := if ¬ x = 61 then (if ¬ x = 7869 then (if x = 60 then 2 else if ¬ x = 62 then (if x = 43 then 3 else if ¬ x = 45 then (if x = 42 ∨ x = 47 then 4 else (-1)) else 3) else 2) else 1) else 0) (b := 4) (by rw [if_pos q1, if_pos q2, if_neg q3, if_pos q4, if_neg q5, if_pos q6, if_pos (Or.inl q7)]) kT
                · skip
                  refine w_lload_n rfl rfl rfl ?_
                  refine w_ldc2 (v := 47) rfl rfl rfl ?_
                  refine w_l_ne (pc2 := 84) (pc3 := 80) rfl rfl (by decide) rfl (fun q8 => ?_) (fun q8 => ?_)
                  · skip
                    refine w_iconst rfl rfl ?_
                    exact w_jri (a := if ¬ x = 61 then (if ¬ x = 7869 then (if x = 60 then 2 else if ¬ x = 62 then (if x = 43 then 3 else if ¬ x = 45 then (if x = 42 ∨ x = 47 then 4 else (-1)) else 3) else 2) else 1) else 0) (b := (-1)) (by rw [if_pos q1, if_pos q2, if_neg q3, if_pos q4, if_neg q5, if_pos q6, if_neg (not_or.mpr ⟨q7, q8⟩)]) kT
                  · skip
                    refine w_iconst rfl rfl ?_
                    refine w_goto (pc2 := 85) rfl (by decide) ?_
                    exact w_jri (a := if ¬ x = 61 then (if ¬ x = 7869 then (if x = 60 then 2 else if ¬ x = 62 then (if x = 43 then 3 else if ¬ x = 45 then (if x = 42 ∨ x = 47 then 4 else (-1)) else 3) else 2) else 1) else 0) (b := 4) (by rw [if_pos q1, if_pos q2, if_neg q3, if_pos q4, if_neg q5, if_pos q6, if_pos (Or.inr q8)]) kT
              · skip
                refine w_iconst rfl rfl ?_
                refine w_goto (pc2 := 85) rfl (by decide) ?_
                exact w_jri (a := if ¬ x = 61 then (if ¬ x = 7869 then (if x = 60 then 2 else if ¬ x = 62 then (if x = 43 then 3 else if ¬ x = 45 then (if x = 42 ∨ x = 47 then 4 else (-1)) else 3) else 2) else 1) else 0) (b := 3) (by rw [if_pos q1, if_pos q2, if_neg q3, if_pos q4, if_neg q5, if_neg (not_not_intro q6)]) kT
          · skip
            refine w_iconst rfl rfl ?_
            refine w_goto (pc2 := 85) rfl (by decide) ?_
            exact w_jri (a := if ¬ x = 61 then (if ¬ x = 7869 then (if x = 60 then 2 else if ¬ x = 62 then (if x = 43 then 3 else if ¬ x = 45 then (if x = 42 ∨ x = 47 then 4 else (-1)) else 3) else 2) else 1) else 0) (b := 2) (by rw [if_pos q1, if_pos q2, if_neg q3, if_neg (not_not_intro q4)]) kT
      · skip
        refine w_iconst rfl rfl ?_
        refine w_goto (pc2 := 85) rfl (by decide) ?_
        exact w_jri (a := if ¬ x = 61 then (if ¬ x = 7869 then (if x = 60 then 2 else if ¬ x = 62 then (if x = 43 then 3 else if ¬ x = 45 then (if x = 42 ∨ x = 47 then 4 else (-1)) else 3) else 2) else 1) else 0) (b := 1) (by rw [if_pos q1, if_neg (not_not_intro q2)]) kT
    · skip
      refine w_iconst rfl rfl ?_
      refine w_goto (pc2 := 85) rfl (by decide) ?_
      exact w_jri (a := if ¬ x = 61 then (if ¬ x = 7869 then (if x = 60 then 2 else if ¬ x = 62 then (if x = 43 then 3 else if ¬ x = 45 then (if x = 42 ∨ x = 47 then 4 else (-1)) else 3) else 2) else 1) else 0) (b := 0) (by rw [if_neg (not_not_intro q1)]) kT
  · show w_T _ _ 159 85 _ [.int (iZ (if ¬ x = 61 then (if ¬ x = 7869 then (if x = 60 then 2 else if ¬ x = 62 then (if x = 43 then 3 else if ¬ x = 45 then (if x = 42 ∨ x = 47 then 4 else (-1)) else 3) else 2) else 1) else 0))] _ _
    refine w_iret rfl rfl ?_
    refine q_i ?_
    unfold stq
    repeat' split
    all_goals first | rfl | omega | (exfalso; simp_all; done)
theorem r_cst_c {sc : x_S} {d : Nat} {S : w_S} {nn : Int} {Y : Int → Int64} {mt : Int → Int} {E : List Ed} {N : List Nd} {T : List Tk} {k : Int} (hq : PQ S nn Y mt E N T) (k0 : 0 ≤ k) (k1 : k < nn) (h40 : Y k = 40) (hty : tyE nn Y mt E (k + 1) = true) (h2 : k + 2 ≤ mt k) (hd : 4 ≤ d) : ∀ n : Nat, (∀ (g : Bool) (s : Int) (lv : x_L) (l0 : lv 0 = some (.ref 249)) (l1 : lv 1 = some (.int (iZ k))) (l2 : lv 2 = some (.int (iZ (zB g)))) (l3 : lv 3 = some (.int (iZ s))) (s0 : k + 2 ≤ s) (hg2 : (g = true ∧ s ≤ mt k ∧ fi (fun s => decide (¬ Y s = 42)) (mt k) (k + 2) = fi (fun s => decide (¬ Y s = 42)) (mt k) s) ∨ (g = false ∧ s ≤ mt k ∧ fi (fun s => decide (¬ Y s = 42)) (mt k) (k + 2) < mt k)) (hm : (mt k - s).toNat < n), w_T sc d 160 33 lv [] S (fun v S2 => v = some (.int (iZ (zB (cok Y mt k)))) ∧ S2 = S)) := by
  intro n
  induction n with
  | zero => exact fun g s lv l0 l1 l2 l3 s0 hg2 hm => absurd hm (Nat.not_lt_zero _)
  | succ n ih =>
    intro g s lv l0 l1 l2 l3 s0 hg2 hm
    have n0 := hq.1.1.2.1
    have n1 := hq.1.1.2.2.1
    have hg := hq.1.1.2.2.2.2.1
    have hM := hq.1.2.1
    have hlE := hq.2.1.2.1
    have hlN := hq.2.2.1.2.1
    have hlT := hq.2.2.2.2.1
    have hY0 := hq.1.1.2.2.2.2.2
    have hcm := hq.1.2.2.2
    have hmk := hM k (by omega) (by omega) (opb (Or.inl h40))
    have hmk1 := hmk.1
    have hmk2 := hmk.2.1
    refine w_iload_n rfl l2 rfl ?_
    refine w_b_eq (pc2 := 72) (pc3 := 37) rfl (by decide) rfl (fun c34 => ?_) (fun c34 => ?_)
    · skip
      refine w_iload_n rfl l2 rfl ?_
      refine w_bret rfl rfl ?_
      refine q_b ?_
      unfold cok
      rcases hg2 with z | z
      · rw [z.1, z.2.2, fi_end (by first | omega | (rw [z.1] at c34; exact Bool.noConfusion c34))]
        exact (decide_eq_true (by first | omega | (rw [z.1] at c34; exact Bool.noConfusion c34))).symm
      · rw [z.1]
        exact (decide_eq_false (by omega)).symm
    · skip
      refine w_iload_n rfl l3 rfl ?_
      refine w_aload_n rfl l0 rfl ?_
      refine w_getR rfl rfl sh_249 rfl rfl ?_
      refine w_iload_n rfl l1 rfl ?_
      refine w_iald (z := mt k) rfl sh_287 (by omega) (by omega) (by decide) (hq.1.2.2.1 k (by omega) (by omega)) rfl ?_
      refine w_ic_ge (pc2 := 72) (pc3 := 47) rfl (by decide) rfl ⟨by omega, by omega⟩ ⟨by omega, by omega⟩ (fun c44 => ?_) (fun c44 => ?_)
      · skip
        refine w_iload_n rfl l2 rfl ?_
        refine w_bret rfl rfl ?_
        refine q_b ?_
        unfold cok
        rcases hg2 with z | z
        · rw [z.1, z.2.2, fi_end (by first | omega | (rw [z.1] at c34; exact Bool.noConfusion c34))]
          exact (decide_eq_true (by first | omega | (rw [z.1] at c34; exact Bool.noConfusion c34))).symm
        · rw [z.1]
          exact (decide_eq_false (by omega)).symm
      · skip
        refine w_aload_n rfl l0 rfl ?_
        refine w_getR rfl rfl sh_249 rfl rfl ?_
        refine w_iload_n rfl l3 rfl ?_
        refine w_lald (z := Y s) rfl sh_285 (by omega) (by omega) (by decide) (hq.1.1.2.2.2.1 s (by omega) (by omega)) rfl ?_
        refine w_ldc2 (v := 42) rfl rfl rfl ?_
        refine w_l_ne (pc2 := 64) (pc3 := 60) rfl rfl (by decide) rfl (fun c57 => ?_) (fun c57 => ?_)
        · skip
          refine w_iconst rfl rfl ?_
          refine w_istore_n rfl (by decide) rfl ?_
          refine w_iinc rfl l3 (by decide) rfl ?_
          refine w_goto (pc2 := 33) rfl (by decide) ?_
          exact ih false (s + 1) _ (by exact l0) (by exact (congrArg x_k2 l1)) (by exact (by exact rfl)) (by exact rfl) (by omega) (by rcases hg2 with z | z; (first | exact Or.inl ⟨rfl, by omega, by rw [z.2.2, fi_next (by omega) (decide_eq_false (not_not_intro c57))]⟩ | exact Or.inr ⟨rfl, by omega, by rw [z.2.2, fi_stop (by omega) (decide_eq_true c57)]; omega⟩); (rw [z.1] at c34; exact Bool.noConfusion c34)) (by omega)
        · skip
          refine w_iconst rfl rfl ?_
          refine w_goto (pc2 := 65) rfl (by decide) ?_
          refine w_istore_n rfl (by decide) rfl ?_
          refine w_iinc rfl l3 (by decide) rfl ?_
          refine w_goto (pc2 := 33) rfl (by decide) ?_
          exact ih true (s + 1) _ (by exact l0) (by exact (congrArg x_k2 l1)) (by exact (by exact rfl)) (by exact rfl) (by omega) (by rcases hg2 with z | z; (first | exact Or.inl ⟨rfl, by omega, by rw [z.2.2, fi_next (by omega) (decide_eq_false (not_not_intro c57))]⟩ | exact Or.inr ⟨rfl, by omega, by rw [z.2.2, fi_stop (by omega) (decide_eq_true c57)]; omega⟩); (rw [z.1] at c34; exact Bool.noConfusion c34)) (by omega)
theorem r_cst {sc : x_S} {d : Nat} {S : w_S} {nn : Int} {Y : Int → Int64} {mt : Int → Int} {E : List Ed} {N : List Nd} {T : List Tk} {k : Int} (hq : PQ S nn Y mt E N T) (k0 : 0 ≤ k) (k1 : k < nn) (h40 : Y k = 40) (hty : tyE nn Y mt E (k + 1) = true) (h2 : k + 2 ≤ mt k) (hd : 4 ≤ d) : w_T sc d 160 0 (x_en 0 [.ref 249, .int (iZ k)]) [] S (fun v S2 => v = some (.int (iZ (zB (cok Y mt k)))) ∧ S2 = S) := by
  have n0 := hq.1.1.2.1
  have n1 := hq.1.1.2.2.1
  have hg := hq.1.1.2.2.2.2.1
  have hM := hq.1.2.1
  have hlE := hq.2.1.2.1
  have hlN := hq.2.2.1.2.1
  have hlT := hq.2.2.2.2.1
  have hY0 := hq.1.1.2.2.2.2.2
  have hcm := hq.1.2.2.2
  have hmk := hM k (by omega) (by omega) (opb (Or.inl h40))
  have hmk1 := hmk.1
  have hmk2 := hmk.2.1
  refine w_aload_n rfl rfl rfl ?_
  refine w_getR rfl rfl sh_249 rfl rfl ?_
  refine w_iload_n rfl rfl rfl ?_
  refine w_lald (z := Y k) rfl sh_285 (by omega) (by omega) (by decide) (hq.1.1.2.2.2.1 k (by omega) (by omega)) rfl ?_
  refine w_ldc2 (v := 40) rfl rfl rfl ?_
  refine w_l_ne (pc2 := 27) (pc3 := 13) rfl rfl (by decide) rfl (fun c10 => ?_) (fun c10 => ?_)
  · exact absurd h40 c10
  · skip
    refine w_aload_n rfl rfl rfl ?_
    refine w_iload_n rfl rfl rfl ?_
    refine w_iconst rfl rfl ?_
    refine w_iadd rfl rfl ?_
    refine w_CV (as := [.int (iZ (k + 1))]) (r := []) rfl rfl rfl rfl sh_249 (Nat.le_of_ble_eq_true rfl) (Nat.le_of_ble_eq_true rfl) (by omega) rfl (r_typ (p := k + 1) hq (by omega) (by omega) (by omega)) ?_
    rintro _ _ ⟨rfl, hS⟩
    rw [hS]
    show w_T _ _ 160 20 _ [.int (iZ (zB (tyE nn Y mt E (k + 1))))] _ _
    refine w_b_eq (pc2 := 27) (pc3 := 23) rfl (by decide) rfl (fun c20 => ?_) (fun c20 => ?_)
    · rw [hty] at c20; exact Bool.noConfusion c20
    · skip
      refine w_iconst rfl rfl ?_
      refine w_goto (pc2 := 28) rfl (by decide) ?_
      refine w_istore_n rfl (by decide) rfl ?_
      refine w_iload_n rfl rfl rfl ?_
      refine w_iconst rfl rfl ?_
      refine w_iadd rfl rfl ?_
      refine w_istore_n rfl (by decide) rfl ?_
      exact (r_cst_c hq k0 k1 h40 hty h2 hd _) true (k + 2) _ rfl rfl (by exact rfl) rfl (by omega) (by exact Or.inl ⟨rfl, h2, rfl⟩) (Nat.lt_succ_self _)
