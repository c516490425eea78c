/-! The reference: words, brackets. -/
theorem gw_1 {y : Int64} (h : 0 < y.toInt) (h1 : y.toInt < 128) : wc y 0 = y.toInt := by
  have p := wl_pos h
  have l : wl y = 1 := by
    have z := wlN_k 10 1 y.toInt (by omega)
    unfold wl at p ⊢
    omega
  have q := last_wc h
  rw [l] at q
  rw [show (1 : Int) - 1 = 0 by omega] at q
  rw [q]
  omega
theorem gw_5 {y : Int64} (h : gw y) : dgt (wc y 0) = decide (wk y = 5) := by
  by_cases c : wdl (y.toInt % 128) = true
  · unfold wk
    rw [if_neg (by rw [c]; decide)]
    by_cases c2 : dgt (wc y 0) = true
    · rw [if_pos c2, c2]
      rfl
    · rw [if_neg c2]
      have e : dgt (wc y 0) = false := by
        cases z : dgt (wc y 0)
        · rfl
        · exact absurd z c2
      rw [e]
      repeat' split
      all_goals rfl
  · have cf : wdl (y.toInt % 128) = false := by
      cases z : wdl (y.toInt % 128)
      · rfl
      · exact absurd z c
    have e : wk y = 0 := by
      unfold wk
      rw [if_pos cf]
    rw [e]
    rcases h.2 with z | z | z | z
    · exact absurd ((gw_last h).2 z) c
    · rw [gw_1 h.1 z.1]
      have z2 := z.2
      unfold wdl at z2
      have z2 := of_decide_eq_false z2
      exact decide_eq_false (by omega)
    · rw [z]; decide
    · rw [z]; decide
def kwd (y : Int64) : Prop := y = 1734516 ∨ y = 209334514 ∨ y = 514361201865446 ∨ y = 3944367356270
theorem wk_1 {y : Int64} : (y = 1734516 ∨ y = 209334514) ↔ wk y = 1 := by
  constructor
  · rintro (z | z) <;> (rw [z]; decide)
  · intro h
    unfold wk at h
    repeat' split at h
    all_goals first | assumption | exact absurd h (by decide)
theorem wk_2 {y : Int64} : y = 514361201865446 ↔ wk y = 2 := by
  constructor
  · intro z; rw [z]; decide
  · intro h
    unfold wk at h
    repeat' split at h
    all_goals first | assumption | exact absurd h (by decide)
theorem wk_3 {y : Int64} : y = 3944367356270 ↔ wk y = 3 := by
  constructor
  · intro z; rw [z]; decide
  · intro h
    unfold wk at h
    repeat' split at h
    all_goals first | assumption | exact absurd h (by decide)
theorem gw_4 {y : Int64} (h : gw y) : (nam y = true ∧ ¬ y = 1734516 ∧ ¬ y = 209334514 ∧ ¬ y = 514361201865446 ∧ ¬ y = 3944367356270) ↔ wk y = 4 := by
  have h5 := gw_5 h
  by_cases c : wdl (y.toInt % 128) = true
  · have ha := (gw_last h).1 c
    have hp := wl_pos h.1
    have hf := ha 0 (by omega) (by omega)
    have hn : nam y = !decide (wk y = 5) := by
      unfold nam
      rw [hf, h5]
      rfl
    constructor
    · intro q
      have n5 : ¬ wk y = 5 := fun z => by
        rw [hn, decide_eq_true z] at q
        exact Bool.noConfusion q.1
      unfold wk at n5 ⊢
      rw [if_neg (by rw [c]; decide)] at n5 ⊢
      by_cases c2 : dgt (wc y 0) = true
      · rw [if_pos c2] at n5
        exact absurd rfl n5
      · rw [if_neg c2, if_neg (by rintro (z | z); exact q.2.1 z; exact q.2.2.1 z), if_neg q.2.2.2.1, if_neg q.2.2.2.2]
    · intro q
      refine ⟨by rw [hn, q]; rfl, fun z => ?_, fun z => ?_, fun z => ?_, fun z => ?_⟩
      · rw [wk_1.1 (Or.inl z)] at q; exact absurd q (by decide)
      · rw [wk_1.1 (Or.inr z)] at q; exact absurd q (by decide)
      · rw [wk_2.1 z] at q; exact absurd q (by decide)
      · rw [wk_3.1 z] at q; exact absurd q (by decide)
  · have cf : wdl (y.toInt % 128) = false := by
      cases z : wdl (y.toInt % 128)
      · rfl
      · exact absurd z c
    have e : wk y = 0 := by
      unfold wk
      rw [if_pos cf]
    rw [e]
    constructor
    · intro q
      exfalso
      have q := q.1
      unfold nam at q
      rcases h.2 with z | z | z | z
      · exact absurd ((gw_last h).2 z) c
      · rw [gw_1 h.1 z.1, z.2] at q
        exact Bool.noConfusion q
      · rw [z] at q; exact absurd q (by decide)
      · rw [z] at q; exact absurd q (by decide)
    · intro q
      exact absurd q (by decide)
/-- the words that have come out, as the reference holds them -/
def PYW (S : w_S) (n : Int) (Y : Int → Int64) : Prop := sv S 249 49 = n ∧ 0 ≤ n ∧ n ≤ 100 ∧ (∀ k : Int, 0 ≤ k → k < n → sL S 285 k = Y k) ∧ (∀ k : Int, 0 ≤ k → k < n → gw (Y k)) ∧ ∀ k : Int, n ≤ k → Y k = 0
theorem PYW_fr {c : Nat → Prop} {S S2 : w_S} {n : Int} {Y : Int → Int64} (h : PYW S n Y) (f : fr c S S2) (h1 : sv S2 249 49 = sv S 249 49) (h2 : ¬ c 285) : PYW S2 n Y := ⟨h1.trans h.1, h.2.1, h.2.2.1, fun k k0 k1 => by rw [fr_gL f h2]; exact h.2.2.2.1 k k0 k1, h.2.2.2.2⟩
def chk (Y : Int → Int64) (n : Int) : Int := if odd Y n = true then 10 else if dpp Y n = true then 7 else 0
theorem r_iswd {sc : x_S} {d : Nat} {S : w_S} {nn p : Int} {Y : Int → Int64} (hP : PYW S nn Y) (p0 : 0 ≤ p) (p1 : p < nn) (hd : 3 ≤ d) : w_T sc d 148 0 (x_en 0 [.ref 249, .int (iZ p)]) [] S (fun v S2 => v = some (.int (iZ (zB (decide (wk (Y p) = 4))))) ∧ S2 = S) := by
  have n0 := hP.2.1
  have n1 := hP.2.2.1
  have hg := hP.2.2.2.2.1
  refine w_aload_n rfl rfl rfl ?_
  refine w_getR rfl rfl sh_249 rfl rfl ?_
  refine w_iload_n rfl rfl rfl ?_
  refine w_lald (z := Y p) rfl sh_285 (by omega) (by omega) (by decide) (hP.2.2.2.1 p (by omega) (by omega)) rfl ?_
  refine w_lstore_n rfl (by decide) rfl ?_
  refine w_lload_n rfl rfl rfl ?_
  refine w_CS (as := [.long (Y p)]) (r := []) rfl rfl rfl rfl (Nat.le_of_ble_eq_true rfl) (Nat.le_of_ble_eq_true rfl) (by omega) rfl (r_nam (x := Y p) (Int.le_of_lt (hg _ p0 p1).1) (by omega)) ?_
  rintro _ _ ⟨rfl, hS⟩
  rw [hS]
  show w_T _ _ 148 11 _ [.int (iZ (zB (nam (Y p))))] _ _
  refine w_b_eq (pc2 := 50) (pc3 := 14) rfl (by decide) rfl (fun c11 => ?_) (fun c11 => ?_)
  · skip
    refine w_iconst rfl rfl ?_
    refine w_zret rfl rfl (by decide) ?_
    refine q_i ?_
    have g4 := gw_4 (hg p p0 p1)
    first
      | (rw [decide_eq_true (g4.1 ⟨c11, c19, c27, c35, c43⟩)]; rfl)
      | (rw [decide_eq_false (fun z => absurd (g4.2 z).1 (by rw [c11]; decide))]; rfl)
      | (rw [decide_eq_false (fun z => (g4.2 z).2.1 c19)]; rfl)
      | (rw [decide_eq_false (fun z => (g4.2 z).2.2.1 c27)]; rfl)
      | (rw [decide_eq_false (fun z => (g4.2 z).2.2.2.1 c35)]; rfl)
      | (rw [decide_eq_false (fun z => (g4.2 z).2.2.2.2 c43)]; rfl)
  · skip
    refine w_lload_n rfl rfl rfl ?_
    refine w_ldc2 (v := 1734516) rfl rfl rfl ?_
    refine w_l_eq (pc2 := 50) (pc3 := 22) rfl rfl (by decide) rfl (fun c19 => ?_) (fun c19 => ?_)
    · skip
      refine w_iconst rfl rfl ?_
      refine w_zret rfl rfl (by decide) ?_
      refine q_i ?_
      have g4 := gw_4 (hg p p0 p1)
      first
        | (rw [decide_eq_true (g4.1 ⟨c11, c19, c27, c35, c43⟩)]; rfl)
        | (rw [decide_eq_false (fun z => absurd (g4.2 z).1 (by rw [c11]; decide))]; rfl)
        | (rw [decide_eq_false (fun z => (g4.2 z).2.1 c19)]; rfl)
        | (rw [decide_eq_false (fun z => (g4.2 z).2.2.1 c27)]; rfl)
        | (rw [decide_eq_false (fun z => (g4.2 z).2.2.2.1 c35)]; rfl)
        | (rw [decide_eq_false (fun z => (g4.2 z).2.2.2.2 c43)]; rfl)
    · skip
      refine w_lload_n rfl rfl rfl ?_
      refine w_ldc2 (v := 209334514) rfl rfl rfl ?_
      refine w_l_eq (pc2 := 50) (pc3 := 30) rfl rfl (by decide) rfl (fun c27 => ?_) (fun c27 => ?_)
      · skip
        refine w_iconst rfl rfl ?_
        refine w_zret rfl rfl (by decide) ?_
        refine q_i ?_
        have g4 := gw_4 (hg p p0 p1)
        first
          | (rw [decide_eq_true (g4.1 ⟨c11, c19, c27, c35, c43⟩)]; rfl)
          | (rw [decide_eq_false (fun z => absurd (g4.2 z).1 (by rw [c11]; decide))]; rfl)
          | (rw [decide_eq_false (fun z => (g4.2 z).2.1 c19)]; rfl)
          | (rw [decide_eq_false (fun z => (g4.2 z).2.2.1 c27)]; rfl)
          | (rw [decide_eq_false (fun z => (g4.2 z).2.2.2.1 c35)]; rfl)
          | (rw [decide_eq_false (fun z => (g4.2 z).2.2.2.2 c43)]; rfl)
      · skip
        refine w_lload_n rfl rfl rfl ?_
        refine w_ldc2 (v := 514361201865446) rfl rfl rfl ?_
        refine w_l_eq (pc2 := 50) (pc3 := 38) rfl rfl (by decide) rfl (fun c35 => ?_) (fun c35 => ?_)
        · skip
          refine w_iconst rfl rfl ?_
          refine w_zret rfl rfl (by decide) ?_
          refine q_i ?_
          have g4 := gw_4 (hg p p0 p1)
          first
            | (rw [decide_eq_true (g4.1 ⟨c11, c19, c27, c35, c43⟩)]; rfl)
            | (rw [decide_eq_false (fun z => absurd (g4.2 z).1 (by rw [c11]; decide))]; rfl)
            | (rw [decide_eq_false (fun z => (g4.2 z).2.1 c19)]; rfl)
            | (rw [decide_eq_false (fun z => (g4.2 z).2.2.1 c27)]; rfl)
            | (rw [decide_eq_false (fun z => (g4.2 z).2.2.2.1 c35)]; rfl)
            | (rw [decide_eq_false (fun z => (g4.2 z).2.2.2.2 c43)]; rfl)
        · skip
          refine w_lload_n rfl rfl rfl ?_
          refine w_ldc2 (v := 3944367356270) rfl rfl rfl ?_
          refine w_l_eq (pc2 := 50) (pc3 := 46) rfl rfl (by decide) rfl (fun c43 => ?_) (fun c43 => ?_)
          · skip
            refine w_iconst rfl rfl ?_
            refine w_zret rfl rfl (by decide) ?_
            refine q_i ?_
            have g4 := gw_4 (hg p p0 p1)
            first
              | (rw [decide_eq_true (g4.1 ⟨c11, c19, c27, c35, c43⟩)]; rfl)
              | (rw [decide_eq_false (fun z => absurd (g4.2 z).1 (by rw [c11]; decide))]; rfl)
              | (rw [decide_eq_false (fun z => (g4.2 z).2.1 c19)]; rfl)
              | (rw [decide_eq_false (fun z => (g4.2 z).2.2.1 c27)]; rfl)
              | (rw [decide_eq_false (fun z => (g4.2 z).2.2.2.1 c35)]; rfl)
              | (rw [decide_eq_false (fun z => (g4.2 z).2.2.2.2 c43)]; rfl)
          · skip
            refine w_iconst rfl rfl ?_
            refine w_goto (pc2 := 51) rfl (by decide) ?_
            refine w_zret rfl rfl (by decide) ?_
            refine q_i ?_
            have g4 := gw_4 (hg p p0 p1)
            first
              | (rw [decide_eq_true (g4.1 ⟨c11, c19, c27, c35, c43⟩)]; rfl)
              | (rw [decide_eq_false (fun z => absurd (g4.2 z).1 (by rw [c11]; decide))]; rfl)
              | (rw [decide_eq_false (fun z => (g4.2 z).2.1 c19)]; rfl)
              | (rw [decide_eq_false (fun z => (g4.2 z).2.2.1 c27)]; rfl)
              | (rw [decide_eq_false (fun z => (g4.2 z).2.2.2.1 c35)]; rfl)
              | (rw [decide_eq_false (fun z => (g4.2 z).2.2.2.2 c43)]; rfl)
theorem r_chk_c {sc : x_S} {d : Nat} {S : w_S} {nn : Int} {Y : Int → Int64} (hP : PYW S nn Y) (hd : 10 ≤ d) : ∀ n : Nat, (∀ (i : Int) (lv : x_L) (l0 : lv 0 = some (.ref 249)) (l1 : lv 1 = some (.int (iZ i))) (i0 : 0 ≤ i) (i1 : i ≤ nn) (ie : fi (fun k => odw (Y k)) nn 0 = fi (fun k => odw (Y k)) nn i) (hm : 1000 * (nn - i).toNat + 1500 < n), w_T sc d 146 2 lv [] S (fun v S2 => v = some (.int (iZ (chk Y nn))) ∧ S2 = S)) ∧ (∀ (i : Int) (z : Int) (j : Int) (lv : x_L) (l0 : lv 0 = some (.ref 249)) (l1 : lv 1 = some (.int (iZ i))) (l2 : lv 2 = some (.int (iZ z))) (l3 : lv 3 = some (.int (iZ j))) (i0 : 0 ≤ i) (i1 : i < nn) (ie : fi (fun k => odw (Y k)) nn 0 = fi (fun k => odw (Y k)) nn i) (jz : (¬ wk (Y i) = 5 ∧ z = 0) ∨ (wk (Y i) = 5 ∧ z = wl (Y i))) (z0 : 0 ≤ z) (z9 : z ≤ 9) (j0 : 0 ≤ j) (j1 : j ≤ z) (je : fi (fun q => decide (57 < wc (Y i) q)) (wl (Y i)) 0 = fi (fun q => decide (57 < wc (Y i) q)) (wl (Y i)) j) (hm : 1000 * (nn - i).toNat + (z - j).toNat + 1000 < n), w_T sc d 146 38 lv [] S (fun v S2 => v = some (.int (iZ (chk Y nn))) ∧ S2 = S)) ∧ (∀ (b : Int) (k : Int) (lv : x_L) (l0 : lv 0 = some (.ref 249)) (l1 : lv 1 = some (.int (iZ b))) (l2 : lv 2 = some (.int (iZ k))) (k0 : 0 ≤ k) (k1 : k ≤ nn) (b0 : 0 ≤ b) (b6 : b ≤ 6) (ho : odd Y nn = false) (hb : b = bc Y k.toNat) (ke : fi (fun k => decide (6 < bc Y (k + 1).toNat)) nn 0 = fi (fun k => decide (6 < bc Y (k + 1).toNat)) nn k) (hm : (nn - k).toNat < n), w_T sc d 146 78 lv [] S (fun v S2 => v = some (.int (iZ (chk Y nn))) ∧ S2 = S)) := by
  intro n
  induction n with
  | zero => exact ⟨fun i lv l0 l1 i0 i1 ie hm => absurd hm (Nat.not_lt_zero _), fun i z j lv l0 l1 l2 l3 i0 i1 ie jz z0 z9 j0 j1 je hm => absurd hm (Nat.not_lt_zero _), fun b k lv l0 l1 l2 k0 k1 b0 b6 ho hb ke hm => absurd hm (Nat.not_lt_zero _)⟩
  | succ n ih =>
    refine ⟨?_, ?_, ?_⟩
    · skip
      intro i lv l0 l1 i0 i1 ie hm
      have n0 := hP.2.1
      have n1 := hP.2.2.1
      have hg := hP.2.2.2.2.1
      refine w_iload_n rfl l1 rfl ?_
      refine w_aload_n rfl l0 rfl ?_
      refine w_getI (z := nn) rfl rfl sh_249 rfl hP.1 rfl ?_
      refine w_ic_ge (pc2 := 74) (pc3 := 10) rfl (by decide) rfl ⟨by omega, by omega⟩ ⟨by omega, by omega⟩ (fun c7 => ?_) (fun c7 => ?_)
      · skip
        refine w_iconst rfl rfl ?_
        refine w_istore_n rfl (by decide) rfl ?_
        refine w_iconst rfl rfl ?_
        refine w_istore_n rfl (by decide) rfl ?_
        exact ih.2.2 0 0 _ (by exact (congrArg x_k2 l0)) (by exact rfl) (by exact rfl) (by omega) (by omega) (by omega) (by omega) (by unfold odd; rw [ie, fi_end (by omega)]; exact decide_eq_false (by omega)) (by rfl) (by rfl) (by omega)
      · skip
        refine w_aload_n rfl l0 rfl ?_
        refine w_getR rfl rfl sh_249 rfl rfl ?_
        refine w_iload_n rfl l1 rfl ?_
        refine w_lald (z := Y i) rfl sh_285 (by omega) (by omega) (by decide) (hP.2.2.2.1 i (by omega) (by omega)) rfl ?_
        refine w_CS (as := [.long (Y i)]) (r := []) rfl rfl rfl rfl (Nat.le_of_ble_eq_true rfl) (Nat.le_of_ble_eq_true rfl) (by omega) rfl (r_isn (x := Y i) (Int.le_of_lt (hg _ (by omega) (by omega)).1) (by omega)) ?_
        rintro _ _ ⟨rfl, hS⟩
        rw [hS]
        show w_T _ _ 146 19 _ [.int (iZ (zB (dgt (wc (Y i) 0))))] _ _
        refine w_b_eq (pc2 := 34) (pc3 := 22) rfl (by decide) rfl (fun c19 => ?_) (fun c19 => ?_)
        · skip
          refine w_iconst rfl rfl ?_
          refine w_istore_n rfl (by decide) rfl ?_
          refine w_iconst rfl rfl ?_
          refine w_istore_n rfl (by decide) rfl ?_
          exact ih.2.1 i 0 0 _ (by exact l0) (by exact (congrArg x_k2 l1)) (by exact rfl) (by exact rfl) (by omega) (by omega) (by exact ie) (by first | exact Or.inr ⟨of_decide_eq_true ((gw_5 (hg i i0 (by omega))).symm.trans c19), rfl⟩ | exact Or.inl ⟨of_decide_eq_false ((gw_5 (hg i i0 (by omega))).symm.trans c19), rfl⟩) (by omega) (by omega) (by omega) (by omega) (by rfl) (by omega)
        · skip
          refine w_aload_n rfl l0 rfl ?_
          refine w_getR rfl rfl sh_249 rfl rfl ?_
          refine w_iload_n rfl l1 rfl ?_
          refine w_lald (z := Y i) rfl sh_285 (by omega) (by omega) (by decide) (hP.2.2.2.1 i (by omega) (by omega)) rfl ?_
          refine w_CS (as := [.long (Y i)]) (r := []) rfl rfl rfl rfl (Nat.le_of_ble_eq_true rfl) (Nat.le_of_ble_eq_true rfl) (by omega) rfl (r_len (x := Y i) (Int.le_of_lt (hg _ (by omega) (by omega)).1) (by omega)) ?_
          rintro _ _ ⟨rfl, hS⟩
          rw [hS]
          show w_T _ _ 146 31 _ [.int (iZ (wl (Y i)))] _ _
          have hw9 := wl_9 (Y i)
          have hw0 := wl_0 (Y i)
          refine w_goto (pc2 := 35) rfl (by decide) ?_
          refine w_istore_n rfl (by decide) rfl ?_
          refine w_iconst rfl rfl ?_
          refine w_istore_n rfl (by decide) rfl ?_
          exact ih.2.1 i (wl (Y i)) 0 _ (by exact l0) (by exact (congrArg x_k2 l1)) (by exact rfl) (by exact rfl) (by omega) (by omega) (by exact ie) (by first | exact Or.inr ⟨of_decide_eq_true ((gw_5 (hg i i0 (by omega))).symm.trans c19), rfl⟩ | exact Or.inl ⟨of_decide_eq_false ((gw_5 (hg i i0 (by omega))).symm.trans c19), rfl⟩) (by omega) (by omega) (by omega) (by omega) (by rfl) (by omega)
    · skip
      intro i z j lv l0 l1 l2 l3 i0 i1 ie jz z0 z9 j0 j1 je hm
      have n0 := hP.2.1
      have n1 := hP.2.2.1
      have hg := hP.2.2.2.2.1
      have hw9 := wl_9 (Y i)
      have hw0 := wl_0 (Y i)
      have h5 := gw_5 (hg i i0 i1)
      refine w_iload_n rfl l3 rfl ?_
      refine w_iload_n rfl l2 rfl ?_
      refine w_ic_ge (pc2 := 68) (pc3 := 43) rfl (by decide) rfl ⟨by omega, by omega⟩ ⟨by omega, by omega⟩ (fun c40 => ?_) (fun c40 => ?_)
      · skip
        refine w_iinc rfl l1 (by decide) rfl ?_
        refine w_goto (pc2 := 2) rfl (by decide) ?_
        exact ih.1 (i + 1) _ (by exact (congrArg x_k2 l0)) (by exact rfl) (by omega) (by omega) (by rw [ie, fi_next (by omega) (by unfold odw; rcases jz with z | z; (rw [decide_eq_false z.1, Bool.false_and]); (rw [decide_eq_true z.1, Bool.true_and, je, fi_end (by omega)]; exact decide_eq_false (by omega)))]) (by omega)
      · skip
        refine w_aload_n rfl l0 rfl ?_
        refine w_getR rfl rfl sh_249 rfl rfl ?_
        refine w_iload_n rfl l1 rfl ?_
        refine w_lald (z := Y i) rfl sh_285 (by omega) (by omega) (by decide) (hP.2.2.2.1 i (by omega) (by omega)) rfl ?_
        refine w_iload_n rfl l3 rfl ?_
        refine w_CS (as := [.long (Y i), .int (iZ j)]) (r := []) rfl rfl rfl rfl (Nat.le_of_ble_eq_true rfl) (Nat.le_of_ble_eq_true rfl) (by omega) rfl (r_let (x := Y i) (i := j) (Int.le_of_lt (hg _ (by omega) (by omega)).1) ⟨by omega, by omega⟩ (by omega)) ?_
        rintro _ _ ⟨rfl, hS⟩
        rw [hS]
        show w_T _ _ 146 53 _ [.int (iZ (wc (Y i) j))] _ _
        have hcr := wc_R (Y i) j
        refine w_CS (as := [.int (iZ (wc (Y i) j))]) (r := []) rfl rfl rfl rfl (Nat.le_of_ble_eq_true rfl) (Nat.le_of_ble_eq_true rfl) (by omega) rfl (r_dgt (c := wc (Y i) j) ⟨by omega, by omega⟩ (by omega)) ?_
        rintro _ _ ⟨rfl, hS⟩
        rw [hS]
        show w_T _ _ 146 56 _ [.int (iZ (zB (dgt (wc (Y i) j))))] _ _
        refine w_b_ne (pc2 := 62) (pc3 := 59) rfl (by decide) rfl (fun c56 => ?_) (fun c56 => ?_)
        · skip
          refine w_iinc rfl l3 (by decide) rfl ?_
          refine w_goto (pc2 := 38) rfl (by decide) ?_
          exact ih.2.1 i z (j + 1) _ (by exact l0) (by exact l1) (by exact (congrArg x_k2 l2)) (by exact rfl) (by omega) (by omega) (by exact ie) (by exact jz) (by omega) (by omega) (by omega) (by omega) (by rcases jz with q | q; (omega); (rw [je, fi_next (by omega) (decide_eq_false (by have q9 := of_decide_eq_true c56; omega))])) (by omega)
        · skip
          refine w_bipush rfl (by decide) rfl ?_
          refine w_iret rfl rfl ?_
          refine q_i ?_
          rcases jz with q | q
          · omega
          · have hal : allw (Y i) := by
              refine (gw_last (hg i i0 i1)).1 ?_
              cases z9 : wdl ((Y i).toInt % 128)
              · exfalso
                have e0 : wk (Y i) = 0 := by unfold wk; rw [if_pos z9]
                omega
              · rfl
            have h57 : 57 < wc (Y i) j := by
              have ha := of_decide_eq_true (hal j j0 (by omega))
              have hb := of_decide_eq_false c56
              omega
            have e : odw (Y i) = true := by
              unfold odw
              rw [decide_eq_true q.1, Bool.true_and]
              exact decide_eq_true (fi_lt_of (k := j) j0 (by omega) (decide_eq_true h57))
            unfold chk
            rw [if_pos (by unfold odd; rw [ie, fi_stop (by omega) e]; exact decide_eq_true (by omega))]
    · skip
      intro b k lv l0 l1 l2 k0 k1 b0 b6 ho hb ke hm
      have n0 := hP.2.1
      have n1 := hP.2.2.1
      have hg := hP.2.2.2.2.1
      refine w_iload_n rfl l2 rfl ?_
      refine w_aload_n rfl l0 rfl ?_
      refine w_getI (z := nn) rfl rfl sh_249 rfl hP.1 rfl ?_
      refine w_ic_ge (pc2 := 198) (pc3 := 86) rfl (by decide) rfl ⟨by omega, by omega⟩ ⟨by omega, by omega⟩ (fun c83 => ?_) (fun c83 => ?_)
      · skip
        refine w_iconst rfl rfl ?_
        refine w_iret rfl rfl ?_
        refine q_i ?_
        unfold chk
        rw [if_neg (by rw [ho]; decide), if_neg (by unfold dpp; rw [ke, fi_end (by omega)]; intro z; have := of_decide_eq_true z; omega)]
      · skip
        refine w_aload_n rfl l0 rfl ?_
        refine w_getR rfl rfl sh_249 rfl rfl ?_
        refine w_iload_n rfl l2 rfl ?_
        refine w_lald (z := Y k) rfl sh_285 (by omega) (by omega) (by decide) (hP.2.2.2.1 k (by omega) (by omega)) rfl ?_
        refine w_lstore_n rfl (by decide) rfl ?_
        refine w_lload_n rfl rfl rfl ?_
        refine w_ldc2 (v := 40) rfl rfl rfl ?_
        apply w_jn (A := w_T _ _ 146 122 _ [.int (iZ (zB (decide ((Y k) = 40 ∨ ((Y k) = 91 ∨ (Y k) = 123)))))] _ _)
        · intro kT
          refine w_l_eq (pc2 := 117) (pc3 := 101) rfl rfl (by decide) rfl (fun q1 => ?_) (fun q1 => ?_)
          · skip
            refine w_iconst rfl rfl ?_
            refine w_goto (pc2 := 122) rfl (by decide) ?_
            exact w_j1 (p := (Y k) = 40 ∨ ((Y k) = 91 ∨ (Y k) = 123)) (Or.inl q1) kT
          · skip
            refine w_lload_n rfl rfl rfl ?_
            refine w_ldc2 (v := 91) rfl rfl rfl ?_
            refine w_l_eq (pc2 := 117) (pc3 := 109) rfl rfl (by decide) rfl (fun q2 => ?_) (fun q2 => ?_)
            · skip
              refine w_iconst rfl rfl ?_
              refine w_goto (pc2 := 122) rfl (by decide) ?_
              exact w_j1 (p := (Y k) = 40 ∨ ((Y k) = 91 ∨ (Y k) = 123)) (Or.inr (Or.inl q2)) kT
            · skip
              refine w_lload_n rfl rfl rfl ?_
              refine w_ldc2 (v := 123) rfl rfl rfl ?_
              refine w_l_ne (pc2 := 121) (pc3 := 117) rfl rfl (by decide) rfl (fun q3 => ?_) (fun q3 => ?_)
              · skip
                refine w_iconst rfl rfl ?_
                exact w_j0 (p := (Y k) = 40 ∨ ((Y k) = 91 ∨ (Y k) = 123)) (not_or.mpr ⟨q1, (not_or.mpr ⟨q2, q3⟩)⟩) kT
              · skip
                refine w_iconst rfl rfl ?_
                refine w_goto (pc2 := 122) rfl (by decide) ?_
                exact w_j1 (p := (Y k) = 40 ∨ ((Y k) = 91 ∨ (Y k) = 123)) (Or.inr (Or.inr q3)) kT
        · show w_T _ _ 146 122 _ [.int (iZ (zB (decide ((Y k) = 40 ∨ ((Y k) = 91 ∨ (Y k) = 123)))))] _ _
          refine w_istore rfl (by decide) rfl ?_
          refine w_lload_n rfl rfl rfl ?_
          refine w_ldc2 (v := 41) rfl rfl rfl ?_
          apply w_jn (A := w_T _ _ 146 153 _ [.int (iZ (zB (decide ((Y k) = 41 ∨ ((Y k) = 93 ∨ (Y k) = 125)))))] _ _)
          · intro kT
            refine w_l_eq (pc2 := 148) (pc3 := 132) rfl rfl (by decide) rfl (fun q4 => ?_) (fun q4 => ?_)
            · skip
              refine w_iconst rfl rfl ?_
              refine w_goto (pc2 := 153) rfl (by decide) ?_
              exact w_j1 (p := (Y k) = 41 ∨ ((Y k) = 93 ∨ (Y k) = 125)) (Or.inl q4) kT
            · skip
              refine w_lload_n rfl rfl rfl ?_
              refine w_ldc2 (v := 93) rfl rfl rfl ?_
              refine w_l_eq (pc2 := 148) (pc3 := 140) rfl rfl (by decide) rfl (fun q5 => ?_) (fun q5 => ?_)
              · skip
                refine w_iconst rfl rfl ?_
                refine w_goto (pc2 := 153) rfl (by decide) ?_
                exact w_j1 (p := (Y k) = 41 ∨ ((Y k) = 93 ∨ (Y k) = 125)) (Or.inr (Or.inl q5)) kT
              · skip
                refine w_lload_n rfl rfl rfl ?_
                refine w_ldc2 (v := 125) rfl rfl rfl ?_
                refine w_l_ne (pc2 := 152) (pc3 := 148) rfl rfl (by decide) rfl (fun q6 => ?_) (fun q6 => ?_)
                · skip
                  refine w_iconst rfl rfl ?_
                  exact w_j0 (p := (Y k) = 41 ∨ ((Y k) = 93 ∨ (Y k) = 125)) (not_or.mpr ⟨q4, (not_or.mpr ⟨q5, q6⟩)⟩) kT
                · skip
                  refine w_iconst rfl rfl ?_
                  refine w_goto (pc2 := 153) rfl (by decide) ?_
                  exact w_j1 (p := (Y k) = 41 ∨ ((Y k) = 93 ∨ (Y k) = 125)) (Or.inr (Or.inr q6)) kT
          · show w_T _ _ 146 153 _ [.int (iZ (zB (decide ((Y k) = 41 ∨ ((Y k) = 93 ∨ (Y k) = 125)))))] _ _
            refine w_istore rfl (by decide) rfl ?_
            refine w_iload rfl rfl rfl ?_
            apply w_jn (A := w_T _ _ 146 182 _ [.int (iZ (if ¬ ((Y k) = 40 ∨ ((Y k) = 91 ∨ (Y k) = 123)) then (if (¬ ((Y k) = 41 ∨ ((Y k) = 93 ∨ (Y k) = 125))) ∨ b ≤ 0 then b else b - 1) else b + 1))] _ _)
            · intro kT
              refine w_p_eq (pc2 := 166) (pc3 := 160) rfl (by decide) rfl (fun q7 => ?_) (fun q7 => ?_)
              · skip
                refine w_iload rfl rfl rfl ?_
                refine w_p_eq (pc2 := 181) (pc3 := 171) rfl (by decide) rfl (fun q8 => ?_) (fun q8 => ?_)
                · skip
                  refine w_iload_n rfl l1 rfl ?_
                  exact w_jri (a := if ¬ ((Y k) = 40 ∨ ((Y k) = 91 ∨ (Y k) = 123)) then (if (¬ ((Y k) = 41 ∨ ((Y k) = 93 ∨ (Y k) = 125))) ∨ b ≤ 0 then b else b - 1) else b + 1) (b := b) (by rw [if_pos q7, if_pos (Or.inl q8)]) kT
                · skip
                  refine w_iload_n rfl l1 rfl ?_
                  refine w_if_le (pc2 := 181) (pc3 := 175) rfl (by decide) rfl ⟨by omega, by omega⟩ (fun q9 => ?_) (fun q9 => ?_)
                  · skip
                    refine w_iload_n rfl l1 rfl ?_
                    exact w_jri (a := if ¬ ((Y k) = 40 ∨ ((Y k) = 91 ∨ (Y k) = 123)) then (if (¬ ((Y k) = 41 ∨ ((Y k) = 93 ∨ (Y k) = 125))) ∨ b ≤ 0 then b else b - 1) else b + 1) (b := b) (by rw [if_pos q7, if_pos (Or.inr q9)]) kT
                  · skip
                    refine w_iload_n rfl l1 rfl ?_
                    refine w_iconst rfl rfl ?_
                    refine w_isub rfl rfl ?_
                    refine w_goto (pc2 := 182) rfl (by decide) ?_
                    exact w_jri (a := if ¬ ((Y k) = 40 ∨ ((Y k) = 91 ∨ (Y k) = 123)) then (if (¬ ((Y k) = 41 ∨ ((Y k) = 93 ∨ (Y k) = 125))) ∨ b ≤ 0 then b else b - 1) else b + 1) (b := b - 1) (by rw [if_pos q7, if_neg (not_or.mpr ⟨(not_not_intro q8), (Int.not_le.mpr q9)⟩)]) kT
              · skip
                refine w_iload_n rfl l1 rfl ?_
                refine w_iconst rfl rfl ?_
                refine w_iadd rfl rfl ?_
                refine w_goto (pc2 := 182) rfl (by decide) ?_
                exact w_jri (a := if ¬ ((Y k) = 40 ∨ ((Y k) = 91 ∨ (Y k) = 123)) then (if (¬ ((Y k) = 41 ∨ ((Y k) = 93 ∨ (Y k) = 125))) ∨ b ≤ 0 then b else b - 1) else b + 1) (b := b + 1) (by rw [if_neg (not_not_intro q7)]) kT
            · show w_T _ _ 146 182 _ [.int (iZ (if ¬ ((Y k) = 40 ∨ ((Y k) = 91 ∨ (Y k) = 123)) then (if (¬ ((Y k) = 41 ∨ ((Y k) = 93 ∨ (Y k) = 125))) ∨ b ≤ 0 then b else b - 1) else b + 1))] _ _
              generalize hb2 : (if ¬ ((Y k) = 40 ∨ ((Y k) = 91 ∨ (Y k) = 123)) then (if (¬ ((Y k) = 41 ∨ ((Y k) = 93 ∨ (Y k) = 125))) ∨ b ≤ 0 then b else b - 1) else b + 1) = b2
              have hbc : b2 = bc Y (k + 1).toNat := by
                rw [bc_s k0, ← hb, ← hb2]
                unfold brs
                by_cases q1 : Y k = 40 ∨ Y k = 91 ∨ Y k = 123
                · simp [q1]
                · by_cases q2 : Y k = 41 ∨ Y k = 93 ∨ Y k = 125
                  · by_cases q3 : 0 < b
                    · simp [q1, q2, q3]
                      try omega
                    · simp [q1, q2, q3]
                      try omega
                  · simp [q1, q2]
              have hb7 : 0 ≤ b2 ∧ b2 ≤ 7 := by
                rw [← hb2]
                repeat' split
                all_goals omega
              refine w_istore_n rfl (by decide) rfl ?_
              refine w_iload_n rfl rfl rfl ?_
              refine w_bipush rfl (by decide) rfl ?_
              refine w_ic_le (pc2 := 192) (pc3 := 189) rfl (by decide) rfl ⟨by omega, by omega⟩ ⟨by decide, by decide⟩ (fun c186 => ?_) (fun c186 => ?_)
              · skip
                refine w_iinc rfl (congrArg x_k2 l2) (by decide) rfl ?_
                refine w_goto (pc2 := 78) rfl (by decide) ?_
                exact ih.2.2 b2 (k + 1) _ (by exact (congrArg x_k2 l0)) (by exact rfl) (by exact rfl) (by omega) (by omega) (by omega) (by omega) (by exact ho) (by exact hbc) (by rw [ke, fi_next (by omega) (decide_eq_false (by rw [← hbc]; omega))]) (by omega)
              · skip
                refine w_bipush rfl (by decide) rfl ?_
                refine w_iret rfl rfl ?_
                refine q_i ?_
                unfold chk
                rw [if_neg (by rw [ho]; decide), if_pos (by unfold dpp; rw [ke, fi_stop (by omega) (decide_eq_true (by rw [← hbc]; omega))]; exact decide_eq_true (by omega))]
theorem r_chk {sc : x_S} {d : Nat} {S : w_S} {nn : Int} {Y : Int → Int64} (hP : PYW S nn Y) (hd : 10 ≤ d) : w_T sc d 146 0 (x_en 0 [.ref 249]) [] S (fun v S2 => v = some (.int (iZ (chk Y nn))) ∧ S2 = S) := by
  have n0 := hP.2.1
  have n1 := hP.2.2.1
  have hg := hP.2.2.2.2.1
  refine w_iconst rfl rfl ?_
  refine w_istore_n rfl (by decide) rfl ?_
  exact (r_chk_c hP hd _).1 0 _ rfl rfl (by omega) (by omega) (by rfl) (Nat.lt_succ_self _)
