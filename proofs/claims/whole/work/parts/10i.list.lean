/-! Expanding a list, a group (class). -/
theorem mtx_R {T : List Mac} {t : ETok} {ts : List ETok} : -1 ≤ mtx T t ts ∧ mtx T t ts < T.length + 1 := by
  have hf := fnd_r T t.1
  unfold mtx
  split
  · omega
  · split <;> omega
theorem c_xl_c {sc : x_S} {d : Nat} {N : Nat} {S : w_S} {pi : Nat → Nat} {T : List Mac} {base r : Int} {q : Nat} {l : List ETok} (H : ∀ m, m < N → XLp sc T m) (hT : tabok T) (ht : ctab S pi T) (h42 : ∀ k : Int, 0 ≤ k → k < 31 → sR S 42 k = some (43 + 5 * k.toNat)) (b0 : 0 ≤ base) (hp : sv S 33 2 = base + l.length) (hb : bw (nmT T) (sL S 34) (sA S 35) (sv S 33 2) l) (hl : loks l) (hr : sv S 3 2 = r) (hq : (q : Int) ≤ r) (hr3 : r ≤ 30) (D0 : 0 ≤ sv S 36 2) (hcap : sv S 33 2 + sv S 36 2 ≤ 160 + 40 * r) (hfu : (l.length : Int) + 100 * (31 - r) ≤ N) (hd : 15 + 3 * (30 - q) ≤ d) : ∀ n : Nat, (∀ (tn : Int) (m : Nat) (rc : Int) (ls : List ETok) (dn : List ETok) (W : w_S) (lv : x_L) (l0 : lv 0 = some (.ref 3)) (l1 : lv 1 = some (.int (iZ base))) (l2 : lv 2 = some (.int (iZ q))) (l3 : lv 3 = some (.int (iZ 0))) (l4 : lv 4 = some (.int (iZ tn))) (hfr : fr (fun a => a = 3 ∨ (33 ≤ a ∧ a ≤ 41) ∨ (43 + 5 * q ≤ a ∧ a ≤ 197)) S W) (hz : sv W 33 2 = base + ls.length) (hb : bw (nmT T) (sL W 34) (sA W 35) (sv W 33 2) ls) (hls : loks ls) (hrc : sv W 3 2 = rc) (hr1 : r ≤ rc) (hr2 : rc ≤ 30) (hD : sv W 36 2 = sv S 36 2 + dn.length) (hcp : sv W 33 2 + sv W 36 2 ≤ 160 + 40 * rc) (hdn : fw (nmT T) (sL W 37) (sA W 38) (sv S 36 2) dn) (hlp : ∀ j, 0 ≤ j → j < base → sL W 34 j = sL S 34 j ∧ sA W 35 j = sA S 35 j) (hld : ∀ j, 0 ≤ j → j < sv S 36 2 → sL W 37 j = sL S 37 j ∧ sA W 38 j = sA S 38 j) (tn0 : 0 ≤ tn) (tn1 : tn + ls.length + 41 * (30 - rc) ≤ 2700) (fu : (ls.length : Int) + 100 * (31 - rc) ≤ m) (mN : m ≤ N) (hee : expL T m rc ls dn = (expL T N r l [])) (hne : 0 < ls.length) (hm : m < n), w_T sc d 22 39 lv [] W (xpost T N S base q r l)) ∧ (∀ (wr : Int) (W : w_S) (lv : x_L) (l3 : lv 3 = some (.int (iZ wr))) (hpo : xpost T N S base q r l (some (.int (iZ wr))) W) (hm : 0 < n), w_T sc d 22 102 lv [] W (xpost T N S base q r l)) := by
  intro n
  induction n with
  | zero => exact ⟨fun tn m rc ls dn W lv l0 l1 l2 l3 l4 hfr hz hb hls hrc hr1 hr2 hD hcp hdn hlp hld tn0 tn1 fu mN hee hne hm => absurd hm (Nat.not_lt_zero _), fun wr W lv l3 hpo hm => absurd hm (Nat.not_lt_zero _)⟩
  | succ n ih =>
    refine ⟨?_, ?_⟩
    · skip
      intro tn m rc ls dn W lv l0 l1 l2 l3 l4 hfr hz hb hls hrc hr1 hr2 hD hcp hdn hlp hld tn0 tn1 fu mN hee hne hm
      obtain ⟨mm, rfl⟩ : ∃ mm, m = mm + 1 := ⟨m - 1, by omega⟩
      obtain ⟨t, ts, rfl⟩ := list_cons hne
      simp only [List.length_cons] at tn1 fu
      have hzz : sv W 33 2 = base + ts.length + 1 := by rw [hz, List.length_cons]; omega
      have ktab : ctab W pi T := ctab_fr ht hfr (by omega)
      have k42 : ∀ k : Int, 0 ≤ k → k < 31 → sR W 42 k = some (43 + 5 * k.toNat) := by rw [fr_gR hfr (by omega)]; exact h42
      have h8 := ht.2.1
      refine w_aload_n rfl l0 rfl ?_
      refine w_iload_n rfl l1 rfl ?_
      refine w_CV (as := [.int (iZ base)]) (r := []) rfl rfl rfl rfl sh_3 (Nat.le_of_ble_eq_true rfl) (Nat.le_of_ble_eq_true rfl) (by omega) rfl (c_mot (S := W) (pi := pi) (T := T) (base := base) (t := t) (r := ts) ktab hT.1 (by rw [hz, List.length_cons]; omega) b0 (by omega) hb (hls t (by simp)).2.1 (hls t (by simp)).2.2 (by omega)) ?_
      rintro _ _ ⟨rfl, hS⟩
      rw [hS]
      show w_T _ _ 22 44 _ [.int (iZ (mtx T t ts))] _ _
      have mrg := mtx_R (T := T) (t := t) (ts := ts)
      refine w_istore rfl (by decide) rfl ?_
      refine w_iload rfl rfl rfl ?_
      refine w_if_ge (pc2 := 87) (pc3 := 51) rfl (by decide) rfl ⟨by omega, by omega⟩ (fun c48 => ?_) (fun c48 => ?_)
      · skip
        refine w_aload_n rfl l0 rfl ?_
        refine w_iload rfl rfl rfl ?_
        refine w_iload_n rfl l1 rfl ?_
        refine w_iload_n rfl l2 rfl ?_
        refine w_CV (as := [.int (iZ (mtx T t ts)), .int (iZ base), .int (iZ q)]) (r := []) rfl rfl rfl rfl sh_3 (Nat.le_of_ble_eq_true rfl) (Nat.le_of_ble_eq_true rfl) (by omega) rfl (c_rt (S := W) (pi := pi) (T := T) (q := q) (fu := mm) (k := mtx T t ts) (base := base) (r := rc) (e := mg T (mtx T t ts)) (t := t) (ts := ts) (H mm (by omega)) hT ktab k42 rfl (by omega) rfl b0 hz hb hls hrc (by omega) hr2 (by omega) hcp (by omega) (by omega)) ?_
        rintro _ V ⟨rfl, f1, hr1b, hpb, hx1⟩
        show w_T _ _ 22 95 _ [.int (iZ ((xstep (fun r a => expL T mm r a []) (mg T (mtx T t ts)) rc t ts).1))] _ _
        have mr := mtx_r (T := T) (t := t) (ts := ts) (by omega)
        have xr := xstep_r (f := fun r a => expL T mm r a []) (e := mg T (mtx T t ts)) (r := rc) (t := t) (ts := ts) (ht.2.2.2.2.2 _ (by omega) (by omega)).2 (fun z => mr.2.2.2.2.resolve_right (by rw [z]; decide)) hr2 (fun r a hr => ⟨(expL_r (T := T) (fun k k0 k1 => (ht.2.2.2.2.2 k k0 k1).2) mm r a [] hr).1, (expL_r (T := T) (fun k k0 k1 => (ht.2.2.2.2.2 k k0 k1).2) mm r a [] hr).2.1, (expL_r (T := T) (fun k k0 k1 => (ht.2.2.2.2.2 k k0 k1).2) mm r a [] hr).2.2.1, (expL_r (T := T) (fun k k0 k1 => (ht.2.2.2.2.2 k k0 k1).2) mm r a [] hr).2.2.2.1⟩)
        refine w_istore_n rfl (by decide) rfl ?_
        refine w_iinc rfl (congrArg x_k2 l4) (by decide) rfl ?_
        refine w_goto (pc2 := 16) rfl (by decide) ?_
        refine w_iload rfl rfl rfl ?_
        refine w_sipush rfl (by decide) rfl ?_
        refine w_ic_ge (pc2 := 102) (pc3 := 24) rfl (by decide) rfl ⟨by omega, by omega⟩ ⟨by decide, by decide⟩ (fun c21 => ?_) (fun c21 => ?_)
        · skip
          exact ih.2 ((xstep (fun r a => expL T mm r a []) (mg T (mtx T t ts)) rc t ts).1) _ _ rfl (by by_cases h0 : (xstep (fun r a => expL T mm r a []) (mg T (mtx T t ts)) rc t ts).1 = 0; (have hx2 := hx1 h0; have hx3 := hx2.1; have xr2 := xr.2.2.2.2 h0; first | (exfalso; omega) | (have hn : (xstep (fun r a => expL T mm r a []) (mg T (mtx T t ts)) rc t ts).2.2 = [] := List.eq_nil_of_length_eq_zero (by omega); obtain ⟨m2, hm2⟩ : ∃ m2, mm = m2 + 1 := ⟨mm - 1, by omega⟩; rw [expL_go (by omega) h0, hn] at hee; have h4 : expL T mm (xstep (fun r a => expL T mm r a []) (mg T (mtx T t ts)) rc t ts).2.1 [] dn = (0, (xstep (fun r a => expL T mm r a []) (mg T (mtx T t ts)) rc t ts).2.1, dn) := (by rw [hm2]; rfl); rw [h4] at hee; unfold xpost; rw [← hee, h0]; refine ⟨rfl, fr_trans hfr f1, hr1b, hpb, fun _ => ⟨by rw [hx3, hn, List.length_nil]; simp, by rw [hx2.2.2.1]; exact hD, fw_fr dn _ (fun j a b => hx2.2.2.2.2 j (by omega) (by omega)) hdn, ?_, ?_⟩⟩; (intro j j0 j1; have h9 := hx2.2.2.2.1 j j0 j1; have h8 := hlp j j0 j1; exact ⟨h9.1.trans h8.1, h9.2.trans h8.2⟩); (intro j j0 j1; have h9 := hx2.2.2.2.2 j j0 (by omega); have h8 := hld j j0 j1; exact ⟨h9.1.trans h8.1, h9.2.trans h8.2⟩))); (rw [expL_bad (by omega) h0] at hee; unfold xpost; rw [← hee]; exact ⟨rfl, fr_trans hfr f1, hr1b, hpb, fun z => absurd z h0⟩)) (by omega)
        · skip
          refine w_aload_n rfl l0 rfl ?_
          refine w_getR rfl rfl sh_3 rfl rfl ?_
          refine w_getI (z := sv V 33 2) rfl rfl sh_33 rfl rfl rfl ?_
          refine w_iload_n rfl l1 rfl ?_
          refine w_ic_le (pc2 := 102) (pc3 := 35) rfl (by decide) rfl ⟨by omega, by omega⟩ ⟨by omega, by omega⟩ (fun c32 => ?_) (fun c32 => ?_)
          · skip
            exact ih.2 ((xstep (fun r a => expL T mm r a []) (mg T (mtx T t ts)) rc t ts).1) _ _ rfl (by by_cases h0 : (xstep (fun r a => expL T mm r a []) (mg T (mtx T t ts)) rc t ts).1 = 0; (have hx2 := hx1 h0; have hx3 := hx2.1; have xr2 := xr.2.2.2.2 h0; first | (exfalso; omega) | (have hn : (xstep (fun r a => expL T mm r a []) (mg T (mtx T t ts)) rc t ts).2.2 = [] := List.eq_nil_of_length_eq_zero (by omega); obtain ⟨m2, hm2⟩ : ∃ m2, mm = m2 + 1 := ⟨mm - 1, by omega⟩; rw [expL_go (by omega) h0, hn] at hee; have h4 : expL T mm (xstep (fun r a => expL T mm r a []) (mg T (mtx T t ts)) rc t ts).2.1 [] dn = (0, (xstep (fun r a => expL T mm r a []) (mg T (mtx T t ts)) rc t ts).2.1, dn) := (by rw [hm2]; rfl); rw [h4] at hee; unfold xpost; rw [← hee, h0]; refine ⟨rfl, fr_trans hfr f1, hr1b, hpb, fun _ => ⟨by rw [hx3, hn, List.length_nil]; simp, by rw [hx2.2.2.1]; exact hD, fw_fr dn _ (fun j a b => hx2.2.2.2.2 j (by omega) (by omega)) hdn, ?_, ?_⟩⟩; (intro j j0 j1; have h9 := hx2.2.2.2.1 j j0 j1; have h8 := hlp j j0 j1; exact ⟨h9.1.trans h8.1, h9.2.trans h8.2⟩); (intro j j0 j1; have h9 := hx2.2.2.2.2 j j0 (by omega); have h8 := hld j j0 j1; exact ⟨h9.1.trans h8.1, h9.2.trans h8.2⟩))); (rw [expL_bad (by omega) h0] at hee; unfold xpost; rw [← hee]; exact ⟨rfl, fr_trans hfr f1, hr1b, hpb, fun z => absurd z h0⟩)) (by omega)
          · skip
            refine w_iload_n rfl rfl rfl ?_
            refine w_if_ne (pc2 := 102) (pc3 := 39) rfl (by decide) rfl ⟨by omega, by omega⟩ (fun c36 => ?_) (fun c36 => ?_)
            · skip
              exact ih.2 ((xstep (fun r a => expL T mm r a []) (mg T (mtx T t ts)) rc t ts).1) _ _ rfl (by by_cases h0 : (xstep (fun r a => expL T mm r a []) (mg T (mtx T t ts)) rc t ts).1 = 0; (have hx2 := hx1 h0; have hx3 := hx2.1; have xr2 := xr.2.2.2.2 h0; first | (exfalso; omega) | (have hn : (xstep (fun r a => expL T mm r a []) (mg T (mtx T t ts)) rc t ts).2.2 = [] := List.eq_nil_of_length_eq_zero (by omega); obtain ⟨m2, hm2⟩ : ∃ m2, mm = m2 + 1 := ⟨mm - 1, by omega⟩; rw [expL_go (by omega) h0, hn] at hee; have h4 : expL T mm (xstep (fun r a => expL T mm r a []) (mg T (mtx T t ts)) rc t ts).2.1 [] dn = (0, (xstep (fun r a => expL T mm r a []) (mg T (mtx T t ts)) rc t ts).2.1, dn) := (by rw [hm2]; rfl); rw [h4] at hee; unfold xpost; rw [← hee, h0]; refine ⟨rfl, fr_trans hfr f1, hr1b, hpb, fun _ => ⟨by rw [hx3, hn, List.length_nil]; simp, by rw [hx2.2.2.1]; exact hD, fw_fr dn _ (fun j a b => hx2.2.2.2.2 j (by omega) (by omega)) hdn, ?_, ?_⟩⟩; (intro j j0 j1; have h9 := hx2.2.2.2.1 j j0 j1; have h8 := hlp j j0 j1; exact ⟨h9.1.trans h8.1, h9.2.trans h8.2⟩); (intro j j0 j1; have h9 := hx2.2.2.2.2 j j0 (by omega); have h8 := hld j j0 j1; exact ⟨h9.1.trans h8.1, h9.2.trans h8.2⟩))); (rw [expL_bad (by omega) h0] at hee; unfold xpost; rw [← hee]; exact ⟨rfl, fr_trans hfr f1, hr1b, hpb, fun z => absurd z h0⟩)) (by omega)
            · skip
              have hx2 := hx1 c36
              have xr2 := xr.2.2.2.2 c36
              exact ih.1 (tn + 1) mm ((xstep (fun r a => expL T mm r a []) (mg T (mtx T t ts)) rc t ts).2.1) ((xstep (fun r a => expL T mm r a []) (mg T (mtx T t ts)) rc t ts).2.2) dn _ _ (by exact l0) (by exact l1) (by exact (congrArg x_k2 l2)) (by exact (congrArg (fun z => some (Value.int (iZ z))) c36)) (by exact rfl) (by exact fr_trans hfr f1) (by exact hx2.1) (by exact hx2.2.1) (by exact xr2.2.2 (fun r a hr hz ha => ((expL_r (T := T) (fun k k0 k1 => (ht.2.2.2.2.2 k k0 k1).2) mm r a [] hr).2.2.2.2 hz).2 ha (fun x hx => absurd hx (by simp))) (hls t (by simp)) (fun x hx => hls x (by simp [hx]))) (by exact hr1b) (by omega) (by omega) (by rw [hx2.2.2.1]; exact hD) (by omega) (by exact fw_fr _ _ (fun j a b => hx2.2.2.2.2 j (by omega) (by omega)) hdn) (by intro j j0 j1; have h9 := hx2.2.2.2.1 j j0 j1; have h8 := hlp j j0 j1; exact ⟨h9.1.trans h8.1, h9.2.trans h8.2⟩) (by intro j j0 j1; have h9 := hx2.2.2.2.2 j j0 (by omega); have h8 := hld j j0 j1; exact ⟨h9.1.trans h8.1, h9.2.trans h8.2⟩) (by omega) (by omega) (by omega) (by omega) (by rw [expL_go (by omega) c36] at hee; exact hee) (by have := hx2.1; omega) (by omega)
      · skip
        refine w_aload_n rfl l0 rfl ?_
        refine w_getR rfl rfl sh_3 rfl rfl ?_
        refine w_aload_n rfl l0 rfl ?_
        refine w_getR rfl rfl sh_3 rfl rfl ?_
        refine w_aload_n rfl l0 rfl ?_
        refine w_getR rfl rfl sh_3 rfl rfl ?_
        refine w_getI (z := sv W 33 2) rfl rfl sh_33 rfl rfl rfl ?_
        refine w_iconst rfl rfl ?_
        refine w_isub rfl rfl ?_
        refine w_CV (as := [.ref 33, .int (iZ (sv W 33 2 - 1))]) (r := []) rfl rfl rfl rfl sh_36 (Nat.le_of_ble_eq_true rfl) (Nat.le_of_ble_eq_true rfl) (by omega) rfl (c_adf (a := 36) (b := 37) (c := 38) (n := 1360) (a2 := 33) (b2 := 34) (c2 := 35) (n2 := 1360) (i := sv W 33 2 - 1) ⟨sh_36, sh_37, sh_38⟩ (by omega) (by omega) (by decide) ⟨sh_33, sh_34, sh_35⟩ (by decide) (by omega) (by omega) (by omega) (by omega)) ?_
        rintro _ _ ⟨rfl, hS⟩
        rw [hS]
        show w_T _ _ 22 71 _ [] _ _
        refine w_aload_n rfl l0 rfl ?_
        refine w_getR rfl rfl sh_3 rfl rfl ?_
        refine w_dup rfl rfl rfl ?_
        refine w_getI (z := sv W 33 2) rfl rfl sh_33 rfl (rv_ne (by decide)) rfl ?_
        refine w_iconst rfl rfl ?_
        refine w_isub rfl rfl ?_
        refine w_putf rfl rfl sh_33 rfl rfl (by decide) rfl ?_
        refine w_goto (pc2 := 96) rfl (by decide) ?_
        refine w_iinc rfl (congrArg x_k2 l4) (by decide) rfl ?_
        refine w_goto (pc2 := 16) rfl (by decide) ?_
        refine w_iload rfl rfl rfl ?_
        refine w_sipush rfl (by decide) rfl ?_
        refine w_ic_ge (pc2 := 102) (pc3 := 24) rfl (by decide) rfl ⟨by omega, by omega⟩ ⟨by decide, by decide⟩ (fun c21 => ?_) (fun c21 => ?_)
        · skip
          exact ih.2 0 _ _ (by exact (congrArg x_k2 l3)) (by first | (exfalso; omega) | (have hn : ts = [] := List.eq_nil_of_length_eq_zero (by omega); subst hn; obtain ⟨m2, rfl⟩ : ∃ m2, mm = m2 + 1 := ⟨mm - 1, by omega⟩; rw [expL_mv c48, expL_nil] at hee; unfold xpost; rw [← hee]; refine ⟨rfl, (fr_v (fr_v (fr_A (fr_L hfr (by omega)) (by omega)) (by omega)) (by omega)), by simp (disch := omega) only [rv_self, rv_ne, rl_self, rl_ne, rA_self, rA_ne, rL_self, rL_ne, rR_self, rR_ne, xvl, xvA, xvL, xvR, xlv, xlA, xlL, xlR, xAv, xAl, xAL, xAR, xLv, xLl, xLA, xLR, xRv, xRl, xRA, xRL]; exact hrc, by simp (disch := omega) only [rv_self, rv_ne, rl_self, rl_ne, rA_self, rA_ne, rL_self, rL_ne, rR_self, rR_ne, xvl, xvA, xvL, xvR, xlv, xlA, xlL, xlR, xAv, xAl, xAL, xAR, xLv, xLl, xLA, xLR, xRv, xRl, xRA, xRL]; omega, fun _ => ⟨by simp (disch := omega) only [rv_self, rv_ne, rl_self, rl_ne, rA_self, rA_ne, rL_self, rL_ne, rR_self, rR_ne, xvl, xvA, xvL, xvR, xlv, xlA, xlL, xlR, xAv, xAl, xAL, xAR, xLv, xLl, xLA, xLR, xRv, xRl, xRA, xRL]; omega, ?_, ?_, ?_, ?_⟩⟩; (simp (disch := omega) only [rv_self, rv_ne, rl_self, rl_ne, rA_self, rA_ne, rL_self, rL_ne, rR_self, rR_ne, xvl, xvA, xvL, xvR, xlv, xlA, xlL, xlR, xAv, xAl, xAL, xAR, xLv, xLl, xLA, xLR, xRv, xRl, xRA, xRL]; rw [hD, List.length_append]; simp only [List.length_cons, List.length_nil]; omega); (simp (disch := omega) only [rv_self, rv_ne, rl_self, rl_ne, rA_self, rA_ne, rL_self, rL_ne, rR_self, rR_ne, xvl, xvA, xvL, xvR, xlv, xlA, xlL, xlR, xAv, xAl, xAL, xAR, xLv, xLl, xLA, xLR, xRv, xRl, xRA, xRL]; rw [hD, hb.1, hb.2.1]; exact fw_snoc hdn); (intro j j0 j1; simp (disch := omega) only [rv_self, rv_ne, rl_self, rl_ne, rA_self, rA_ne, rL_self, rL_ne, rR_self, rR_ne, xvl, xvA, xvL, xvR, xlv, xlA, xlL, xlR, xAv, xAl, xAL, xAR, xLv, xLl, xLA, xLR, xRv, xRl, xRA, xRL]; exact hlp j j0 j1); (intro j j0 j1; simp (disch := omega) only [rv_self, rv_ne, rl_self, rl_ne, rA_self, rA_ne, rL_self, rL_ne, rR_self, rR_ne, xvl, xvA, xvL, xvR, xlv, xlA, xlL, xlR, xAv, xAl, xAL, xAR, xLv, xLl, xLA, xLR, xRv, xRl, xRA, xRL]; rw [w_u_ne _ _ (by omega), w_u_ne _ _ (by omega)]; exact hld j j0 j1))) (by omega)
        · skip
          refine w_aload_n rfl l0 rfl ?_
          refine w_getR rfl rfl sh_3 rfl rfl ?_
          refine w_getI (z := sv W 33 2 - 1) rfl rfl sh_33 rfl (rv_self _ _ _ _) rfl ?_
          refine w_iload_n rfl l1 rfl ?_
          refine w_ic_le (pc2 := 102) (pc3 := 35) rfl (by decide) rfl ⟨by omega, by omega⟩ ⟨by omega, by omega⟩ (fun c32 => ?_) (fun c32 => ?_)
          · skip
            exact ih.2 0 _ _ (by exact (congrArg x_k2 l3)) (by first | (exfalso; omega) | (have hn : ts = [] := List.eq_nil_of_length_eq_zero (by omega); subst hn; obtain ⟨m2, rfl⟩ : ∃ m2, mm = m2 + 1 := ⟨mm - 1, by omega⟩; rw [expL_mv c48, expL_nil] at hee; unfold xpost; rw [← hee]; refine ⟨rfl, (fr_v (fr_v (fr_A (fr_L hfr (by omega)) (by omega)) (by omega)) (by omega)), by simp (disch := omega) only [rv_self, rv_ne, rl_self, rl_ne, rA_self, rA_ne, rL_self, rL_ne, rR_self, rR_ne, xvl, xvA, xvL, xvR, xlv, xlA, xlL, xlR, xAv, xAl, xAL, xAR, xLv, xLl, xLA, xLR, xRv, xRl, xRA, xRL]; exact hrc, by simp (disch := omega) only [rv_self, rv_ne, rl_self, rl_ne, rA_self, rA_ne, rL_self, rL_ne, rR_self, rR_ne, xvl, xvA, xvL, xvR, xlv, xlA, xlL, xlR, xAv, xAl, xAL, xAR, xLv, xLl, xLA, xLR, xRv, xRl, xRA, xRL]; omega, fun _ => ⟨by simp (disch := omega) only [rv_self, rv_ne, rl_self, rl_ne, rA_self, rA_ne, rL_self, rL_ne, rR_self, rR_ne, xvl, xvA, xvL, xvR, xlv, xlA, xlL, xlR, xAv, xAl, xAL, xAR, xLv, xLl, xLA, xLR, xRv, xRl, xRA, xRL]; omega, ?_, ?_, ?_, ?_⟩⟩; (simp (disch := omega) only [rv_self, rv_ne, rl_self, rl_ne, rA_self, rA_ne, rL_self, rL_ne, rR_self, rR_ne, xvl, xvA, xvL, xvR, xlv, xlA, xlL, xlR, xAv, xAl, xAL, xAR, xLv, xLl, xLA, xLR, xRv, xRl, xRA, xRL]; rw [hD, List.length_append]; simp only [List.length_cons, List.length_nil]; omega); (simp (disch := omega) only [rv_self, rv_ne, rl_self, rl_ne, rA_self, rA_ne, rL_self, rL_ne, rR_self, rR_ne, xvl, xvA, xvL, xvR, xlv, xlA, xlL, xlR, xAv, xAl, xAL, xAR, xLv, xLl, xLA, xLR, xRv, xRl, xRA, xRL]; rw [hD, hb.1, hb.2.1]; exact fw_snoc hdn); (intro j j0 j1; simp (disch := omega) only [rv_self, rv_ne, rl_self, rl_ne, rA_self, rA_ne, rL_self, rL_ne, rR_self, rR_ne, xvl, xvA, xvL, xvR, xlv, xlA, xlL, xlR, xAv, xAl, xAL, xAR, xLv, xLl, xLA, xLR, xRv, xRl, xRA, xRL]; exact hlp j j0 j1); (intro j j0 j1; simp (disch := omega) only [rv_self, rv_ne, rl_self, rl_ne, rA_self, rA_ne, rL_self, rL_ne, rR_self, rR_ne, xvl, xvA, xvL, xvR, xlv, xlA, xlL, xlR, xAv, xAl, xAL, xAR, xLv, xLl, xLA, xLR, xRv, xRl, xRA, xRL]; rw [w_u_ne _ _ (by omega), w_u_ne _ _ (by omega)]; exact hld j j0 j1))) (by omega)
          · skip
            refine w_iload_n rfl (congrArg x_k2 l3) rfl ?_
            refine w_if_ne (pc2 := 102) (pc3 := 39) rfl (by decide) rfl ⟨by decide, by decide⟩ (fun hc => absurd hc (by decide)) (fun _ => ?_)
            exact ih.1 (tn + 1) mm rc ts ((dn ++ [t])) _ _ (by exact l0) (by exact l1) (by exact l2) (by exact (congrArg x_k2 l3)) (by exact rfl) (by exact (fr_v (fr_v (fr_A (fr_L hfr (by omega)) (by omega)) (by omega)) (by omega))) (by simp (disch := omega) only [rv_self, rv_ne, rl_self, rl_ne, rA_self, rA_ne, rL_self, rL_ne, rR_self, rR_ne, xvl, xvA, xvL, xvR, xlv, xlA, xlL, xlR, xAv, xAl, xAL, xAR, xLv, xLl, xLA, xLR, xRv, xRl, xRA, xRL]; rw [hz, List.length_cons]; omega) (by simp (disch := omega) only [rv_self, rv_ne, rl_self, rl_ne, rA_self, rA_ne, rL_self, rL_ne, rR_self, rR_ne, xvl, xvA, xvL, xvR, xlv, xlA, xlL, xlR, xAv, xAl, xAL, xAR, xLv, xLl, xLA, xLR, xRv, xRl, xRA, xRL]; exact hb.2.2) (by exact fun x hx => hls x (by simp [hx])) (by simp (disch := omega) only [rv_self, rv_ne, rl_self, rl_ne, rA_self, rA_ne, rL_self, rL_ne, rR_self, rR_ne, xvl, xvA, xvL, xvR, xlv, xlA, xlL, xlR, xAv, xAl, xAL, xAR, xLv, xLl, xLA, xLR, xRv, xRl, xRA, xRL]; exact hrc) (by omega) (by omega) (by simp (disch := omega) only [rv_self, rv_ne, rl_self, rl_ne, rA_self, rA_ne, rL_self, rL_ne, rR_self, rR_ne, xvl, xvA, xvL, xvR, xlv, xlA, xlL, xlR, xAv, xAl, xAL, xAR, xLv, xLl, xLA, xLR, xRv, xRl, xRA, xRL]; rw [hD, List.length_append]; simp only [List.length_cons, List.length_nil]; omega) (by simp (disch := omega) only [rv_self, rv_ne, rl_self, rl_ne, rA_self, rA_ne, rL_self, rL_ne, rR_self, rR_ne, xvl, xvA, xvL, xvR, xlv, xlA, xlL, xlR, xAv, xAl, xAL, xAR, xLv, xLl, xLA, xLR, xRv, xRl, xRA, xRL]; omega) (by simp (disch := omega) only [rv_self, rv_ne, rl_self, rl_ne, rA_self, rA_ne, rL_self, rL_ne, rR_self, rR_ne, xvl, xvA, xvL, xvR, xlv, xlA, xlL, xlR, xAv, xAl, xAL, xAR, xLv, xLl, xLA, xLR, xRv, xRl, xRA, xRL]; rw [hD, hb.1, hb.2.1]; exact fw_snoc hdn) (by intro j j0 j1; simp (disch := omega) only [rv_self, rv_ne, rl_self, rl_ne, rA_self, rA_ne, rL_self, rL_ne, rR_self, rR_ne, xvl, xvA, xvL, xvR, xlv, xlA, xlL, xlR, xAv, xAl, xAL, xAR, xLv, xLl, xLA, xLR, xRv, xRl, xRA, xRL]; exact hlp j j0 j1) (by intro j j0 j1; simp (disch := omega) only [rv_self, rv_ne, rl_self, rl_ne, rA_self, rA_ne, rL_self, rL_ne, rR_self, rR_ne, xvl, xvA, xvL, xvR, xlv, xlA, xlL, xlR, xAv, xAl, xAL, xAR, xLv, xLl, xLA, xLR, xRv, xRl, xRA, xRL]; rw [w_u_ne _ _ (by omega), w_u_ne _ _ (by omega)]; exact hld j j0 j1) (by omega) (by omega) (by omega) (by omega) (by rw [expL_mv c48] at hee; exact hee) (by omega) (by omega)
    · skip
      intro wr W lv l3 hpo hm
      refine w_iload_n rfl l3 rfl ?_
      refine w_iret rfl rfl ?_
      exact hpo
theorem c_xl {sc : x_S} {d : Nat} {N : Nat} {S : w_S} {pi : Nat → Nat} {T : List Mac} {base r : Int} {q : Nat} {l : List ETok} (H : ∀ m, m < N → XLp sc T m) (hT : tabok T) (ht : ctab S pi T) (h42 : ∀ k : Int, 0 ≤ k → k < 31 → sR S 42 k = some (43 + 5 * k.toNat)) (b0 : 0 ≤ base) (hp : sv S 33 2 = base + l.length) (hb : bw (nmT T) (sL S 34) (sA S 35) (sv S 33 2) l) (hl : loks l) (hr : sv S 3 2 = r) (hq : (q : Int) ≤ r) (hr3 : r ≤ 30) (D0 : 0 ≤ sv S 36 2) (hcap : sv S 33 2 + sv S 36 2 ≤ 160 + 40 * r) (hfu : (l.length : Int) + 100 * (31 - r) ≤ N) (hd : 15 + 3 * (30 - q) ≤ d) : w_T sc d 22 0 (x_en 0 [.ref 3, .int (iZ base), .int (iZ q)]) [] S (xpost T N S base q r l) := by
  refine w_iload_n rfl rfl rfl ?_
  refine w_bipush rfl (by decide) rfl ?_
  refine w_ic_le (pc2 := 11) (pc3 := 6) rfl (by decide) rfl ⟨by omega, by omega⟩ ⟨by decide, by decide⟩ (fun c3 => ?_) (fun c3 => ?_)
  · skip
    refine w_iconst rfl rfl ?_
    refine w_istore_n rfl (by decide) rfl ?_
    refine w_iconst rfl rfl ?_
    refine w_istore rfl (by decide) rfl ?_
    refine w_iload rfl rfl rfl ?_
    refine w_sipush rfl (by decide) rfl ?_
    refine w_ic_ge (pc2 := 102) (pc3 := 24) rfl (by decide) rfl ⟨by decide, by decide⟩ ⟨by decide, by decide⟩ (fun hc => absurd hc (by decide)) (fun _ => ?_)
    refine w_aload_n rfl rfl rfl ?_
    refine w_getR rfl rfl sh_3 rfl rfl ?_
    refine w_getI (z := sv S 33 2) rfl rfl sh_33 rfl rfl rfl ?_
    refine w_iload_n rfl rfl rfl ?_
    refine w_ic_le (pc2 := 102) (pc3 := 35) rfl (by decide) rfl ⟨by omega, by omega⟩ ⟨by omega, by omega⟩ (fun c32 => ?_) (fun c32 => ?_)
    · skip
      exact (c_xl_c H hT ht h42 b0 hp hb hl hr hq hr3 D0 hcap hfu hd _).2 0 _ _ rfl (by have hn : l = [] := List.eq_nil_of_length_eq_zero (by omega); subst hn; obtain ⟨mm, rfl⟩ : ∃ mm, N = mm + 1 := ⟨N - 1, by omega⟩; unfold xpost; rw [expL_nil]; exact ⟨rfl, fr_refl _ _, hr, by omega, fun _ => ⟨by rw [hp, List.length_nil]; simp, by rw [List.length_nil]; simp, trivial, fun j _ _ => ⟨rfl, rfl⟩, fun j _ _ => ⟨rfl, rfl⟩⟩⟩) (Nat.lt_succ_self _)
    · skip
      refine w_iload_n rfl rfl rfl ?_
      refine w_if_ne (pc2 := 102) (pc3 := 39) rfl (by decide) rfl ⟨by decide, by decide⟩ (fun hc => absurd hc (by decide)) (fun _ => ?_)
      exact (c_xl_c H hT ht h42 b0 hp hb hl hr hq hr3 D0 hcap hfu hd _).1 0 N r l ([]) _ _ rfl rfl rfl rfl rfl (by exact fr_refl _ _) (by exact hp) (by exact hb) (by exact hl) (by exact hr) (by omega) (by omega) (by rw [List.length_nil]; simp) (by omega) (by exact trivial) (by exact fun j _ _ => ⟨rfl, rfl⟩) (by exact fun j _ _ => ⟨rfl, rfl⟩) (by omega) (by omega) (by omega) (by omega) (by rfl) (by omega) (Nat.lt_succ_self _)
  · omega
theorem xl_all {sc : x_S} {T : List Mac} (hT : tabok T) : ∀ N, XLp sc T N := fun N => by
  induction N using Nat.strongRecOn with
  | ind N H => exact fun d S pi base r q l ht h42 b0 hp hb hl hr hq hr3 D0 hc hf hd => c_xl H hT ht h42 b0 hp hb hl hr hq hr3 D0 hc hf hd
def tke (k : Tok) : ETok := (k.1, k.2.1, fun _ => false)
def grN (t : List Tok) : Nat → Int → List ETok
  | 0, _ => []
  | n + 1, i => tke (tkg t i) :: grN t n (i + 1)
def grp (t : List Tok) (a b : Int) : List ETok := grN t (b - a).toNat a
theorem grN_len (t : List Tok) : ∀ (n : Nat) (i : Int), (grN t n i).length = n
  | 0, _ => rfl
  | n + 1, i => by
    show (grN t n (i + 1)).length + 1 = n + 1
    rw [grN_len t n (i + 1)]
def tkok (t : List Tok) : Prop := ∀ j : Int, 0 ≤ j → j < t.length → 0 < (tkg t j).1.toInt ∧ 0 ≤ (tkg t j).2.1 ∧ (tkg t j).2.1 ≤ 4000
theorem grN_ok {t : List Tok} (h : tkok t) : ∀ (n : Nat) (i : Int), 0 ≤ i → i + n ≤ t.length → loks (grN t n i)
  | 0, _, _, _ => fun x hx => absurd hx (by show ¬ x ∈ ([] : List ETok); simp)
  | n + 1, i, h0, h1 => fun x hx => by
    rcases List.mem_cons.mp hx with z | z
    · rw [z]
      exact h i h0 (by omega)
    · exact grN_ok h n (i + 1) (by omega) (by omega) x z
theorem eo_tke (nm : Nat → Int64) (k : Tok) : eo nm (tke k) = k.2.1 * 256 := by
  unfold tke
  rw [eo_plain, Int.add_zero]
/-- what has come out -/
abbrev OTok : Type := Int64 × Int
def eot (e : ETok) : OTok := (e.1, e.2.1)
def orep (S : w_S) (b c : Nat) (n : Int) : Int → List OTok → Prop
  | _, [] => True
  | i, e :: l => sL S b i = e.1 ∧ sA S c i / n = e.2 ∧ orep S b c n (i + 1) l
def ofn (X : Int → Int64) (O : Int → Int) (n : Int) : Int → List OTok → Prop
  | _, [] => True
  | i, e :: l => X i = e.1 ∧ O i / n = e.2 ∧ 0 ≤ O i ∧ O i < 2147483648 ∧ ofn X O n (i + 1) l
theorem ofn_app {X : Int → Int64} {O : Int → Int} {n : Int} : ∀ (l k : List OTok) (i : Int), ofn X O n i (l ++ k) ↔ ofn X O n i l ∧ ofn X O n (i + l.length) k
  | [], k, i => by
    rw [List.nil_append, List.length_nil]
    show _ ↔ True ∧ ofn X O n (i + ((0 : Nat) : Int)) k
    rw [show i + ((0 : Nat) : Int) = i by omega]
    exact ⟨fun h => ⟨trivial, h⟩, fun h => h.2⟩
  | e :: l, k, i => by
    have h := ofn_app (X := X) (O := O) (n := n) l k (i + 1)
    rw [show i + 1 + (l.length : Int) = i + ((e :: l).length : Int) by rw [List.length_cons]; omega] at h
    show (X i = e.1 ∧ O i / n = e.2 ∧ 0 ≤ O i ∧ O i < 2147483648 ∧ ofn X O n (i + 1) (l ++ k)) ↔ (X i = e.1 ∧ O i / n = e.2 ∧ 0 ≤ O i ∧ O i < 2147483648 ∧ ofn X O n (i + 1) l) ∧ _
    rw [h]
    exact ⟨fun q => ⟨⟨q.1, q.2.1, q.2.2.1, q.2.2.2.1, q.2.2.2.2.1⟩, q.2.2.2.2.2⟩, fun q => ⟨q.1.1, q.1.2.1, q.1.2.2.1, q.1.2.2.2.1, q.1.2.2.2.2, q.2⟩⟩
theorem ofn_fr {X Y : Int → Int64} {O Q : Int → Int} {n : Int} : ∀ (l : List OTok) (i : Int), (∀ j, i ≤ j → j < i + l.length → Y j = X j ∧ Q j = O j) → ofn X O n i l → ofn Y Q n i l
  | [], _, _, _ => trivial
  | e :: l, i, h, a => by
    have h0 := h i (Int.le_refl _) (by rw [List.length_cons]; omega)
    exact ⟨h0.1.trans a.1, by rw [h0.2]; exact a.2.1, by rw [h0.2]; exact a.2.2.1, by rw [h0.2]; exact a.2.2.2.1, ofn_fr l (i + 1) (fun j p q => h j (by omega) (by rw [List.length_cons]; omega)) a.2.2.2.2⟩
theorem ofn_snoc {X : Int → Int64} {O : Int → Int} {n i z : Int} {l : List OTok} {e : OTok} (h : ofn X O n i l) (h1 : z / n = e.2) (h2 : 0 ≤ z) (h3 : z < 2147483648) : ofn (w_u X (i + l.length) e.1) (w_u O (i + l.length) z) n i (l ++ [e]) :=
  (ofn_app l [e] i).mpr ⟨ofn_fr l i (fun j a b => ⟨w_u_ne _ _ (by omega), w_u_ne _ _ (by omega)⟩) h, w_u_self _ _ _, by rw [w_u_self]; exact h1, by rw [w_u_self]; exact h2, by rw [w_u_self]; exact h3, trivial⟩
theorem c_xg_c {sc : x_S} {d : Nat} {S : w_S} {pi : Nat → Nat} {T : List Mac} {l : Nat} {a b r : Int} {t : List Tok} {ol : List OTok} (hl : l < 4) (hT : tabok T) (ht : ctab S pi T) (h42 : ∀ k : Int, 0 ≤ k → k < 31 → sR S 42 k = some (43 + 5 * k.toNat)) (hs : srep S l t) (hto : tkok t) (ht6 : t.length ≤ 160) (a0 : 0 ≤ a) (ab : a ≤ b) (b1 : b ≤ t.length) (hr : sv S 3 2 = r) (r0 : 0 ≤ r) (hr3 : r ≤ 30) (hoz : sv S 30 2 = ol.length) (ho1 : ol.length ≤ 100) (hof : ofn (sL S 31) (sA S 32) 256 0 ol) (hd : 120 ≤ d) : ∀ n : Nat, (∀ (i : Int) (U : w_S) (lv : x_L) (l0 : lv 0 = some (.ref 3)) (l1 : lv 1 = some (.ref (203 + 8 * l))) (l2 : lv 2 = some (.int (iZ a))) (l3 : lv 3 = some (.int (iZ b))) (l4 : lv 4 = some (.int (iZ i))) (hfr : fr (fun a => a = 33 ∨ a = 34 ∨ a = 35 ∨ a = 36) S U) (i0 : a - 1 ≤ i) (i1 : i < b) (hU6 : sv U 36 2 = 0) (hz : sv U 33 2 = b - (i + 1)) (hb : bw (nmT T) (sL U 34) (sA U 35) (sv U 33 2) (grN t (b - (i + 1)).toNat (i + 1))) (hm : 200 + (i + 1).toNat < n), w_T sc d 21 21 lv [] U (fun v S2 => v = some (.int (iZ (if ¬ (expL T 4000 r (grp t a b) []).1 = 0 then (expL T 4000 r (grp t a b) []).1 else if 100 < (ol.length : Int) + (expL T 4000 r (grp t a b) []).2.2.length then 7 else 0))) ∧ fr (fun a => a = 3 ∨ (30 ≤ a ∧ a ≤ 41) ∨ (43 ≤ a ∧ a ≤ 197)) S S2 ∧ sv S2 3 2 = (expL T 4000 r (grp t a b) []).2.1 ∧ ((if ¬ (expL T 4000 r (grp t a b) []).1 = 0 then (expL T 4000 r (grp t a b) []).1 else if 100 < (ol.length : Int) + (expL T 4000 r (grp t a b) []).2.2.length then 7 else 0) = 0 → sv S2 30 2 = (ol ++ (expL T 4000 r (grp t a b) []).2.2.map eot).length ∧ ofn (sL S2 31) (sA S2 32) 256 0 (ol ++ (expL T 4000 r (grp t a b) []).2.2.map eot)))) ∧ (∀ (i : Int) (k1 : List ETok) (k2 : List ETok) (U : w_S) (lv : x_L) (l0 : lv 0 = some (.ref 3)) (l5 : lv 5 = some (.int (iZ i))) (hx0 : (expL T 4000 r (grp t a b) []).1 = 0) (h00 : (ol.length : Int) + (expL T 4000 r (grp t a b) []).2.2.length ≤ 100) (hfr : fr (fun a => a = 3 ∨ (30 ≤ a ∧ a ≤ 41) ∨ (43 ≤ a ∧ a ≤ 197)) S U) (h32 : sv U 3 2 = (expL T 4000 r (grp t a b) []).2.1) (hsp : (expL T 4000 r (grp t a b) []).2.2 = k1 ++ k2) (hi : i = k1.length) (h36 : sv U 36 2 = (expL T 4000 r (grp t a b) []).2.2.length) (hdw : fw (nmT T) (sL U 37) (sA U 38) 0 (expL T 4000 r (grp t a b) []).2.2) (hok : loks (expL T 4000 r (grp t a b) []).2.2) (hz : sv U 30 2 = (ol ++ k1.map eot).length) (hof2 : ofn (sL U 31) (sA U 32) 256 0 (ol ++ k1.map eot)) (hm : k2.length < n), w_T sc d 21 85 lv [] U (fun v S2 => v = some (.int (iZ (if ¬ (expL T 4000 r (grp t a b) []).1 = 0 then (expL T 4000 r (grp t a b) []).1 else if 100 < (ol.length : Int) + (expL T 4000 r (grp t a b) []).2.2.length then 7 else 0))) ∧ fr (fun a => a = 3 ∨ (30 ≤ a ∧ a ≤ 41) ∨ (43 ≤ a ∧ a ≤ 197)) S S2 ∧ sv S2 3 2 = (expL T 4000 r (grp t a b) []).2.1 ∧ ((if ¬ (expL T 4000 r (grp t a b) []).1 = 0 then (expL T 4000 r (grp t a b) []).1 else if 100 < (ol.length : Int) + (expL T 4000 r (grp t a b) []).2.2.length then 7 else 0) = 0 → sv S2 30 2 = (ol ++ (expL T 4000 r (grp t a b) []).2.2.map eot).length ∧ ofn (sL S2 31) (sA S2 32) 256 0 (ol ++ (expL T 4000 r (grp t a b) []).2.2.map eot)))) := by
  intro n
  induction n with
  | zero => exact ⟨fun i U lv l0 l1 l2 l3 l4 hfr i0 i1 hU6 hz hb hm => absurd hm (Nat.not_lt_zero _), fun i k1 k2 U lv l0 l5 hx0 h00 hfr h32 hsp hi h36 hdw hok hz hof2 hm => absurd hm (Nat.not_lt_zero _)⟩
  | succ n ih =>
    refine ⟨?_, ?_⟩
    · skip
      intro i U lv l0 l1 l2 l3 l4 hfr i0 i1 hU6 hz hb hm
      have eS : sv U (203 + 8 * l) 2 = sv S (203 + 8 * l) 2 := fr_gv hfr (by omega) 2
      have hs1 := hs.1
      refine w_iload rfl l4 rfl ?_
      refine w_iload_n rfl l2 rfl ?_
      refine w_ic_lt (pc2 := 43) (pc3 := 27) rfl (by decide) rfl ⟨by omega, by omega⟩ ⟨by omega, by omega⟩ (fun c24 => ?_) (fun c24 => ?_)
      · skip
        have hgl : grN t (b - (i + 1)).toNat (i + 1) = grp t a b := by unfold grp; rw [show i + 1 = a by omega]
        have hgo : loks (grp t a b) := grN_ok hto _ _ a0 (by omega)
        have hgn : ((grp t a b).length : Int) = b - a := by unfold grp; rw [grN_len]; omega
        have h36 : sv U 36 2 = 0 := hU6
        refine w_aload_n rfl l0 rfl ?_
        refine w_iconst rfl rfl ?_
        refine w_iconst rfl rfl ?_
        refine w_CV (as := [.int (iZ 0), .int (iZ 0)]) (r := []) rfl rfl rfl rfl sh_3 (Nat.le_of_ble_eq_true rfl) (Nat.le_of_ble_eq_true rfl) (by omega) rfl (xl_all hT 4000 (d - 1) U pi 0 r 0 (grp t a b) (ctab_fr ht hfr (by omega)) (by rw [fr_gR hfr (by omega)]; exact h42) (by omega) (by omega) (by rw [hgl] at hb; exact hb) hgo (by rw [fr_gv hfr (by omega)]; exact hr) (by omega) (by omega) (by omega) (by omega) (by omega) (by omega)) ?_
        rintro _ V ⟨rfl, f1, hr1, hpb, hx1⟩
        show w_T _ _ 21 49 _ [.int (iZ ((expL T 4000 r (grp t a b) []).1))] _ _
        have xr := expL_r (T := T) (fun k k0 k1 => (ht.2.2.2.2.2 k k0 k1).2) 4000 r (grp t a b) [] hr3
        rw [List.length_nil] at xr
        have eO : sv V 30 2 = sv S 30 2 := by rw [fr_gv f1 (by omega), fr_gv hfr (by omega)]
        refine w_istore rfl (by decide) rfl ?_
        refine w_iload rfl rfl rfl ?_
        refine w_if_eq (pc2 := 59) (pc3 := 56) rfl (by decide) rfl ⟨by omega, by omega⟩ (fun c53 => ?_) (fun c53 => ?_)
        · skip
          have hx2 := hx1 c53
          have hx22 := hx2.2.1
          have hx23 := hx2.2.2.1
          rw [h36] at hx22 hx23
          refine w_aload_n rfl l0 rfl ?_
          refine w_getR rfl rfl sh_3 rfl rfl ?_
          refine w_getI (z := sv V 30 2) rfl rfl sh_30 rfl rfl rfl ?_
          refine w_aload_n rfl l0 rfl ?_
          refine w_getR rfl rfl sh_3 rfl rfl ?_
          refine w_getI (z := sv V 36 2) rfl rfl sh_36 rfl rfl rfl ?_
          refine w_iadd rfl rfl ?_
          refine w_bipush rfl (by decide) rfl ?_
          refine w_ic_le (pc2 := 82) (pc3 := 79) rfl (by decide) rfl ⟨by omega, by omega⟩ ⟨by decide, by decide⟩ (fun c76 => ?_) (fun c76 => ?_)
          · skip
            refine w_iconst rfl rfl ?_
            refine w_istore rfl (by decide) rfl ?_
            exact ih.2 0 ([]) ((expL T 4000 r (grp t a b) []).2.2) _ _ l0 rfl (by exact c53) (by omega) (by exact (fr_trans (fr_mono hfr (by omega)) (fr_mono f1 (by omega)))) (by exact hr1) (by rfl) (by rfl) (by omega) (by exact hx23) (by exact (xr.2.2.2.2 c53).2 hgo (fun x hx => absurd hx (by simp))) (by rw [eO, hoz]; simp) (by show ofn _ _ _ _ (ol ++ []); rw [List.append_nil, fr_gL f1 (by omega), fr_gA f1 (by omega), fr_gL hfr (by omega), fr_gA hfr (by omega)]; exact hof) (by first | omega | (simp only [List.length_cons] at hm; omega))
          · skip
            refine w_bipush rfl (by decide) rfl ?_
            refine w_iret rfl rfl ?_
            have hv : (if ¬ (expL T 4000 r (grp t a b) []).1 = 0 then (expL T 4000 r (grp t a b) []).1 else if 100 < (ol.length : Int) + (expL T 4000 r (grp t a b) []).2.2.length then 7 else 0) = 7 := by rw [if_neg (not_not_intro c53), if_pos (by omega)]
            rw [hv]
            exact ⟨rfl, (fr_trans (fr_mono hfr (by omega)) (fr_mono f1 (by omega))), hr1, fun z => absurd z (by decide)⟩
        · skip
          refine w_iload rfl rfl rfl ?_
          refine w_iret rfl rfl ?_
          have hv : (if ¬ (expL T 4000 r (grp t a b) []).1 = 0 then (expL T 4000 r (grp t a b) []).1 else if 100 < (ol.length : Int) + (expL T 4000 r (grp t a b) []).2.2.length then 7 else 0) = (expL T 4000 r (grp t a b) []).1 := by rw [if_pos c53]
          rw [hv]
          exact ⟨rfl, (fr_trans (fr_mono hfr (by omega)) (fr_mono f1 (by omega))), hr1, fun z => absurd z c53⟩
      · skip
        have hsi := hs.2 i (by omega) (by omega)
        have e4 : sL U (204 + 8 * l) i = (tkg t i).1 := by rw [fr_gL hfr (by omega)]; exact hsi.1
        have e5 : sA U (205 + 8 * l) i = eo (nmT T) (tke (tkg t i)) := by rw [fr_gA hfr (by omega), eo_tke]; exact hsi.2.1
        refine w_aload_n rfl l0 rfl ?_
        refine w_getR rfl rfl sh_3 rfl rfl ?_
        refine w_aload_n rfl l1 rfl ?_
        refine w_iload rfl l4 rfl ?_
        refine w_CV (as := [.ref (203 + 8 * l), .int (iZ i)]) (r := []) rfl rfl rfl rfl sh_33 (Nat.le_of_ble_eq_true rfl) (Nat.le_of_ble_eq_true rfl) (by omega) rfl (c_adf (a := 33) (b := 34) (c := 35) (n := 1360) (a2 := 203 + 8 * l) (b2 := 204 + 8 * l) (c2 := 205 + 8 * l) (n2 := 160) (i := i) ⟨sh_33, sh_34, sh_35⟩ (by omega) (by omega) (by decide) ⟨(sh_srow hl).1, (sh_srow hl).2.1, (sh_srow hl).2.2⟩ (by decide) (by omega) (by omega) (by omega) (by omega)) ?_
        rintro _ _ ⟨rfl, hS⟩
        rw [hS]
        show w_T _ _ 21 37 _ [] _ _
        refine w_iinc rfl l4 (by decide) rfl ?_
        refine w_goto (pc2 := 21) rfl (by decide) ?_
        exact ih.1 (i + (-1)) _ _ (by exact l0) (by exact l1) (by exact l2) (by exact (congrArg x_k2 l3)) (by exact rfl) (by exact (fr_v (fr_A (fr_L hfr (by omega)) (by omega)) (by omega))) (by omega) (by omega) (by simp (disch := omega) only [rv_self, rv_ne, rl_self, rl_ne, rA_self, rA_ne, rL_self, rL_ne, rR_self, rR_ne, xvl, xvA, xvL, xvR, xlv, xlA, xlL, xlR, xAv, xAl, xAL, xAR, xLv, xLl, xLA, xLR, xRv, xRl, xRA, xRL]; exact hU6) (by simp (disch := omega) only [rv_self, rv_ne, rl_self, rl_ne, rA_self, rA_ne, rL_self, rL_ne, rR_self, rR_ne, xvl, xvA, xvL, xvR, xlv, xlA, xlL, xlR, xAv, xAl, xAL, xAR, xLv, xLl, xLA, xLR, xRv, xRl, xRA, xRL]; omega) (by simp (disch := omega) only [rv_self, rv_ne, rl_self, rl_ne, rA_self, rA_ne, rL_self, rL_ne, rR_self, rR_ne, xvl, xvA, xvL, xvR, xlv, xlA, xlL, xlR, xAv, xAl, xAL, xAR, xLv, xLl, xLA, xLR, xRv, xRl, xRA, xRL]; rw [show (b - (i + -1 + 1)).toNat = (b - (i + 1)).toNat + 1 by omega, show i + -1 + 1 = i by omega, e4, e5]; exact bw_push (e := tke (tkg t i)) hb) (by omega)
    · skip
      intro i k1 k2 U lv l0 l5 hx0 h00 hfr h32 hsp hi h36 hdw hok hz hof2 hm
      have hlk : ((expL T 4000 r (grp t a b) []).2.2.length : Int) = k1.length + k2.length := by rw [hsp, List.length_append]; omega
      have hlo : ((ol ++ k1.map eot).length : Int) = ol.length + k1.length := by rw [List.length_append, List.length_map]; omega
      refine w_iload rfl l5 rfl ?_
      refine w_aload_n rfl l0 rfl ?_
      refine w_getR rfl rfl sh_3 rfl rfl ?_
      refine w_getI (z := sv U 36 2) rfl rfl sh_36 rfl rfl rfl ?_
      refine w_ic_ge (pc2 := 116) (pc3 := 97) rfl (by decide) rfl ⟨by omega, by omega⟩ ⟨by omega, by omega⟩ (fun c94 => ?_) (fun c94 => ?_)
      · skip
        refine w_iconst rfl rfl ?_
        refine w_iret rfl rfl ?_
        have hn : k2 = [] := List.eq_nil_of_length_eq_zero (by omega)
        rw [hn, List.append_nil] at hsp
        have hv : (if ¬ (expL T 4000 r (grp t a b) []).1 = 0 then (expL T 4000 r (grp t a b) []).1 else if 100 < (ol.length : Int) + (expL T 4000 r (grp t a b) []).2.2.length then 7 else 0) = 0 := by rw [if_neg (not_not_intro hx0), if_neg (by omega)]
        rw [hv, hsp]
        exact ⟨rfl, hfr, h32, fun _ => ⟨hz, hof2⟩⟩
      · skip
        obtain ⟨x, k3, rfl⟩ := list_cons (l := k2) (by omega)
        have hxw : sL U 37 i = x.1 ∧ sA U 38 i = eo (nmT T) x := by
          rw [hsp] at hdw
          have := ((fw_app k1 _ 0).mp hdw).2
          rw [Int.zero_add, ← hi] at this
          exact ⟨this.1, this.2.1⟩
        have hxo : eok x := hok x (by rw [hsp]; simp)
        have hxr := eo_R (nm := nmT T) hxo.2.1 hxo.2.2
        simp only [List.length_cons] at hlk
        refine w_aload_n rfl l0 rfl ?_
        refine w_getR rfl rfl sh_3 rfl rfl ?_
        refine w_aload_n rfl l0 rfl ?_
        refine w_getR rfl rfl sh_3 rfl rfl ?_
        refine w_iload rfl l5 rfl ?_
        refine w_CV (as := [.ref 36, .int (iZ i)]) (r := []) rfl rfl rfl rfl sh_30 (Nat.le_of_ble_eq_true rfl) (Nat.le_of_ble_eq_true rfl) (by omega) rfl (c_adf (a := 30) (b := 31) (c := 32) (n := 100) (a2 := 36) (b2 := 37) (c2 := 38) (n2 := 1360) (i := i) ⟨sh_30, sh_31, sh_32⟩ (by omega) (by omega) (by decide) ⟨sh_36, sh_37, sh_38⟩ (by decide) (by omega) (by omega) (by omega) (by omega)) ?_
        rintro _ _ ⟨rfl, hS⟩
        rw [hS]
        show w_T _ _ 21 110 _ [] _ _
        refine w_iinc rfl l5 (by decide) rfl ?_
        refine w_goto (pc2 := 85) rfl (by decide) ?_
        exact ih.2 (i + 1) ((k1 ++ [x])) k3 _ _ l0 rfl (by exact hx0) (by exact h00) (by exact (fr_v (fr_A (fr_L hfr (by omega)) (by omega)) (by omega))) (by simp (disch := omega) only [rv_self, rv_ne, rl_self, rl_ne, rA_self, rA_ne, rL_self, rL_ne, rR_self, rR_ne, xvl, xvA, xvL, xvR, xlv, xlA, xlL, xlR, xAv, xAl, xAL, xAR, xLv, xLl, xLA, xLR, xRv, xRl, xRA, xRL]; exact h32) (by rw [hsp, List.append_assoc]; rfl) (by rw [List.length_append, hi]; rfl) (by simp (disch := omega) only [rv_self, rv_ne, rl_self, rl_ne, rA_self, rA_ne, rL_self, rL_ne, rR_self, rR_ne, xvl, xvA, xvL, xvR, xlv, xlA, xlL, xlR, xAv, xAl, xAL, xAR, xLv, xLl, xLA, xLR, xRv, xRl, xRA, xRL]; exact h36) (by simp (disch := omega) only [rv_self, rv_ne, rl_self, rl_ne, rA_self, rA_ne, rL_self, rL_ne, rR_self, rR_ne, xvl, xvA, xvL, xvR, xlv, xlA, xlL, xlR, xAv, xAl, xAL, xAR, xLv, xLl, xLA, xLR, xRv, xRl, xRA, xRL]; exact hdw) (by exact hok) (by simp (disch := omega) only [rv_self, rv_ne, rl_self, rl_ne, rA_self, rA_ne, rL_self, rL_ne, rR_self, rR_ne, xvl, xvA, xvL, xvR, xlv, xlA, xlL, xlR, xAv, xAl, xAL, xAR, xLv, xLl, xLA, xLR, xRv, xRl, xRA, xRL]; rw [hz, hlo, List.length_append, List.length_map, List.length_append]; simp only [List.length_cons, List.length_nil]; omega) (by simp (disch := omega) only [rv_self, rv_ne, rl_self, rl_ne, rA_self, rA_ne, rL_self, rL_ne, rR_self, rR_ne, xvl, xvA, xvL, xvR, xlv, xlA, xlL, xlR, xAv, xAl, xAL, xAR, xLv, xLl, xLA, xLR, xRv, xRl, xRA, xRL]; rw [List.map_append, ← List.append_assoc, hz]; have q := ofn_snoc (e := eot x) (z := sA U 38 i) hof2 (by rw [hxw.2, eo_div]; rfl) (by omega) (by omega); rw [Int.zero_add] at q; rw [hxw.1]; exact q) (by first | omega | (simp only [List.length_cons] at hm; omega))
theorem c_xg {sc : x_S} {d : Nat} {S : w_S} {pi : Nat → Nat} {T : List Mac} {l : Nat} {a b r : Int} {t : List Tok} {ol : List OTok} (hl : l < 4) (hT : tabok T) (ht : ctab S pi T) (h42 : ∀ k : Int, 0 ≤ k → k < 31 → sR S 42 k = some (43 + 5 * k.toNat)) (hs : srep S l t) (hto : tkok t) (ht6 : t.length ≤ 160) (a0 : 0 ≤ a) (ab : a ≤ b) (b1 : b ≤ t.length) (hr : sv S 3 2 = r) (r0 : 0 ≤ r) (hr3 : r ≤ 30) (hoz : sv S 30 2 = ol.length) (ho1 : ol.length ≤ 100) (hof : ofn (sL S 31) (sA S 32) 256 0 ol) (hd : 120 ≤ d) : w_T sc d 21 0 (x_en 0 [.ref 3, .ref (203 + 8 * l), .int (iZ a), .int (iZ b)]) [] S (fun v S2 => v = some (.int (iZ (if ¬ (expL T 4000 r (grp t a b) []).1 = 0 then (expL T 4000 r (grp t a b) []).1 else if 100 < (ol.length : Int) + (expL T 4000 r (grp t a b) []).2.2.length then 7 else 0))) ∧ fr (fun a => a = 3 ∨ (30 ≤ a ∧ a ≤ 41) ∨ (43 ≤ a ∧ a ≤ 197)) S S2 ∧ sv S2 3 2 = (expL T 4000 r (grp t a b) []).2.1 ∧ ((if ¬ (expL T 4000 r (grp t a b) []).1 = 0 then (expL T 4000 r (grp t a b) []).1 else if 100 < (ol.length : Int) + (expL T 4000 r (grp t a b) []).2.2.length then 7 else 0) = 0 → sv S2 30 2 = (ol ++ (expL T 4000 r (grp t a b) []).2.2.map eot).length ∧ ofn (sL S2 31) (sA S2 32) 256 0 (ol ++ (expL T 4000 r (grp t a b) []).2.2.map eot))) := by
  have hs1 := hs.1
  refine w_aload_n rfl rfl rfl ?_
  refine w_getR rfl rfl sh_3 rfl rfl ?_
  refine w_iconst rfl rfl ?_
  refine w_putf rfl rfl sh_33 rfl rfl (by decide) rfl ?_
  refine w_aload_n rfl rfl rfl ?_
  refine w_getR rfl rfl sh_3 rfl rfl ?_
  refine w_iconst rfl rfl ?_
  refine w_putf rfl rfl sh_36 rfl rfl (by decide) rfl ?_
  refine w_iload_n rfl rfl rfl ?_
  refine w_iconst rfl rfl ?_
  refine w_isub rfl rfl ?_
  refine w_istore rfl (by decide) rfl ?_
  exact (c_xg_c hl hT ht h42 hs hto ht6 a0 ab b1 hr r0 hr3 hoz ho1 hof hd _).1 (b - 1) _ _ rfl rfl rfl rfl rfl (by exact (fr_v (fr_v (fr_refl _ _) (by omega)) (by omega))) (by omega) (by omega) (by simp (disch := omega) only [rv_self, rv_ne, rl_self, rl_ne, rA_self, rA_ne, rL_self, rL_ne, rR_self, rR_ne, xvl, xvA, xvL, xvR, xlv, xlA, xlL, xlR, xAv, xAl, xAL, xAR, xLv, xLl, xLA, xLR, xRv, xRl, xRA, xRL]) (by simp (disch := omega) only [rv_self, rv_ne, rl_self, rl_ne, rA_self, rA_ne, rL_self, rL_ne, rR_self, rR_ne, xvl, xvA, xvL, xvR, xlv, xlA, xlL, xlR, xAv, xAl, xAL, xAR, xLv, xLl, xLA, xLR, xRv, xRl, xRA, xRL]; omega) (by rw [show (b - (b - 1 + 1)).toNat = 0 by omega]; exact trivial) (Nat.lt_succ_self _)
