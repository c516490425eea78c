/-! Which macro stands on top; the arguments of a call (class). -/
def nmT (T : List Mac) (q : Nat) : Int64 := (T.getD q m0).1
def hd40 : List ETok → Bool
  | [] => false
  | e :: _ => decide (e.1 = 40)
def mtx (T : List Mac) (t : ETok) (r : List ETok) : Int := if fnd T t.1 < 0 ∨ t.2.2 t.1 = true then -1 else if hd40 r = true ∨ (mg T (fnd T t.1)).2.1 = false then fnd T t.1 else -1
theorem bit_of {h k : Nat} (hh : h < 256) (hk : k < 8) : zand (zshr (h : Int) (k : Int)) 1 = zB (h.testBit k) := by
  have c : (List.range 256).all (fun h => (List.range 8).all (fun k => decide (zand (zshr (h : Int) (k : Int)) 1 = zB (h.testBit k)))) = true := by decide +kernel
  exact of_decide_eq_true (List.all_eq_true.mp (List.all_eq_true.mp c h (List.mem_range.mpr hh)) k (List.mem_range.mpr hk))
theorem nmT_at {T : List Mac} {k : Int} (h : 0 ≤ k) : nmT T k.toNat = (mg T k).1 := rfl
theorem eo_R {nm : Nat → Int64} {e : ETok} (h0 : 0 ≤ e.2.1) (h1 : e.2.1 ≤ 4000) : 0 ≤ eo nm e ∧ eo nm e < 1100000 := by
  unfold eo
  have := hs_lt nm e.2.2
  omega
theorem hd40_iff {nm : Nat → Int64} {X : Int → Int64} {O : Int → Int} {i : Int} {r : List ETok} (hb : bw nm X O i r) : hd40 r = true ↔ 0 < (r.length : Int) ∧ X (i - 1) = 40 := by
  cases r with
  | nil => simp [hd40]
  | cons e l =>
    have h1 : (0 : Int) < ((e :: l).length : Int) := by rw [List.length_cons]; omega
    rw [hb.1]
    simp only [hd40, decide_eq_true_eq]
    exact ⟨fun h => ⟨h1, h⟩, fun h => h.2⟩
theorem zB_1t {b : Bool} (h : zB b = 1) : b = true := by
  cases b
  · exact absurd h (by decide)
  · rfl
theorem zB_0f {b : Bool} (h : zB b = 0) : b = false := by
  cases b
  · rfl
  · exact absurd h (by decide)
theorem c_mot {sc : x_S} {d : Nat} {S : w_S} {pi : Nat → Nat} {T : List Mac} {base : Int} {t : ETok} {r : List ETok} (ht : ctab S pi T) (hnz : ∀ k : Int, 0 ≤ k → k < T.length → ¬ (mg T k).1 = 0) (hp : sv S 33 2 = base + r.length + 1) (b0 : 0 ≤ base) (hP : sv S 33 2 ≤ 1360) (hb : bw (nmT T) (sL S 34) (sA S 35) (sv S 33 2) (t :: r)) (o0 : 0 ≤ t.2.1) (o1 : t.2.1 ≤ 4000) (hd : 1 ≤ d) : w_T sc d 23 0 (x_en 0 [.ref 3, .int (iZ base)]) [] S (fun v S2 => v = some (.int (iZ (mtx T t r))) ∧ S2 = S) := by
  have hx := hb.1
  have h8 := ht.2.1
  have hoo := hb.2.1
  have hR := eo_R (nm := nmT T) o0 o1
  rw [← hoo] at hR
  have hh := hd40_iff hb.2.2
  refine w_aload_n rfl rfl rfl ?_
  refine w_getR rfl rfl sh_3 rfl rfl ?_
  refine w_getI (z := sv S 33 2) rfl rfl sh_33 rfl rfl rfl ?_
  refine w_iconst rfl rfl ?_
  refine w_isub rfl rfl ?_
  refine w_istore_n rfl (by decide) rfl ?_
  refine w_aload_n rfl rfl rfl ?_
  refine w_getR rfl rfl sh_3 rfl rfl ?_
  refine w_aload_n rfl rfl rfl ?_
  refine w_getR rfl rfl sh_3 rfl rfl ?_
  refine w_getR rfl rfl sh_33 rfl rfl ?_
  refine w_iload_n rfl rfl rfl ?_
  refine w_lald (z := sL S 34 (sv S 33 2 - 1)) rfl sh_34 (by omega) (by omega) (by decide) rfl rfl ?_
  refine w_CV (as := [.long (sL S 34 (sv S 33 2 - 1))]) (r := []) rfl rfl rfl rfl sh_4 (Nat.le_of_ble_eq_true rfl) (Nat.le_of_ble_eq_true rfl) (by omega) rfl (c_find (x := sL S 34 (sv S 33 2 - 1)) ht (by omega)) ?_
  rintro _ _ ⟨rfl, hS⟩
  rw [hS]
  show w_T _ _ 23 26 _ [.int (iZ (fnd T (sL S 34 (sv S 33 2 - 1))))] _ _
  generalize hf : (fnd T (sL S 34 (sv S 33 2 - 1))) = f
  rw [hx] at hf
  have hfr := fnd_r T t.1
  rw [hf] at hfr
  have kH : 0 ≤ f → zand (zshr (sA S 35 (sv S 33 2 - 1) % 256) f) 1 = zB (t.2.2 t.1) := fun z => by
    have q := bit_of (k := f.toNat) (hs_lt (nmT T) t.2.2) (by omega)
    have hat := fnd_at (T := T) (x := t.1) (by omega)
    rw [hf] at hat
    rw [Int.toNat_of_nonneg z, hs_bit (by omega) (by rw [nmT_at z]; exact hnz _ z (by omega)), nmT_at z, hat] at q
    rw [hoo, eo_mod]
    exact q
  have kC : 0 ≤ f → sv S (6 + 3 * pi f.toNat) 1 = zB (mg T f).2.1 := fun z => (ht.2.2.2.2.2 f z (by omega)).1.2.1
  have z1 := zB_0 (mg T f).2.1
  have z2 := zB_1 (mg T f).2.1
  have z3 := zB_0 (t.2.2 t.1)
  have z4 := zB_1 (t.2.2 t.1)
  refine w_istore_n rfl (by decide) rfl ?_
  refine w_iload_n rfl rfl rfl ?_
  refine w_if_lt (pc2 := 47) (pc3 := 31) rfl (by decide) rfl ⟨by omega, by omega⟩ (fun c28 => ?_) (fun c28 => ?_)
  · skip
    refine w_iconst rfl rfl ?_
    refine w_iret rfl rfl ?_
    refine q_i ?_
    unfold mtx
    rw [hf]
    first | rw [if_pos (Or.inl c28)] | rw [if_pos (Or.inr (zB_1t (by have := kH (by omega); omega)))]
  · skip
    refine w_aload_n rfl rfl rfl ?_
    refine w_getR rfl rfl sh_3 rfl rfl ?_
    refine w_iload_n rfl rfl rfl ?_
    refine w_CV (as := [.int (iZ (sv S 33 2 - 1))]) (r := []) rfl rfl rfl rfl sh_33 (Nat.le_of_ble_eq_true rfl) (Nat.le_of_ble_eq_true rfl) (by omega) rfl (c_hid (a := 33) (b := 34) (c := 35) (n := 1360) (i := sv S 33 2 - 1) ⟨sh_33, sh_34, sh_35⟩ (by decide) (by omega) (by omega) (by omega) (by omega) (by omega)) ?_
    rintro _ _ ⟨rfl, hS⟩
    rw [hS]
    show w_T _ _ 23 39 _ [.int (iZ (sA S 35 (sv S 33 2 - 1) % 256))] _ _
    refine w_iload_n rfl rfl rfl ?_
    refine w_zshr rfl rfl ?_
    refine w_iconst rfl rfl ?_
    refine w_zand rfl rfl ?_
    refine w_iconst rfl rfl ?_
    refine w_ic_ne (pc2 := 49) (pc3 := 47) rfl (by decide) rfl (zand_R _ _) ⟨by decide, by decide⟩ (fun c44 => ?_) (fun c44 => ?_)
    · skip
      refine w_iload_n rfl rfl rfl ?_
      refine w_iload_n rfl rfl rfl ?_
      refine w_ic_le (pc2 := 76) (pc3 := 54) rfl (by decide) rfl ⟨by omega, by omega⟩ ⟨by omega, by omega⟩ (fun c51 => ?_) (fun c51 => ?_)
      · skip
        refine w_iconst rfl rfl ?_
        refine w_istore rfl (by decide) rfl ?_
        refine w_iload rfl rfl rfl ?_
        refine w_if_ne (pc2 := 99) (pc3 := 84) rfl (by decide) rfl ⟨by decide, by decide⟩ (fun hc => absurd hc (by decide)) (fun _ => ?_)
        refine w_aload_n rfl rfl rfl ?_
        refine w_getR rfl rfl sh_3 rfl rfl ?_
        refine w_getR rfl rfl sh_4 rfl rfl ?_
        refine w_iload_n rfl rfl rfl ?_
        refine w_aald rfl sh_5 rfl (by omega) (by omega) (by decide) (ht.2.2.2.2.1 _ (by omega) (by omega)) rfl ?_
        refine w_getI (z := sv S (6 + 3 * pi f.toNat) 1) rfl rfl (sh_mac (ht.2.2.1 _ (by omega))) rfl rfl rfl ?_
        refine w_if_ne (pc2 := 103) (pc3 := 99) rfl (by decide) rfl ⟨by omega, by omega⟩ (fun c96 => ?_) (fun c96 => ?_)
        · skip
          refine w_iconst rfl rfl ?_
          refine w_iret rfl rfl ?_
          refine q_i ?_
          unfold mtx
          rw [hf, if_neg (fun z => z.elim (fun z => by omega) (fun z => by have q := kH (by omega); rw [z] at q; have e : zB true = 1 := rfl; omega))]
          have n1 : ¬ hd40 r = true := fun z => by
            have q := hh.mp z
            first | omega | (exact absurd q.2 (by assumption))
          have n2 : ¬ (mg T f).2.1 = false := fun z => by
            have q := kC (by omega)
            rw [z] at q
            have e : zB false = 0 := rfl
            omega
          rw [if_neg (fun z => z.elim n1 n2)]
        · skip
          refine w_iload_n rfl rfl rfl ?_
          refine w_goto (pc2 := 104) rfl (by decide) ?_
          refine w_iret rfl rfl ?_
          refine q_i ?_
          unfold mtx
          rw [hf, if_neg (fun z => z.elim (fun z => by omega) (fun z => by have q := kH (by omega); rw [z] at q; have e : zB true = 1 := rfl; omega))]
          first | rw [if_pos (Or.inl (hh.mpr ⟨by omega, by assumption⟩))] | rw [if_pos (Or.inr (zB_0f (by have := kC (by omega); omega)))]
      · skip
        refine w_aload_n rfl rfl rfl ?_
        refine w_getR rfl rfl sh_3 rfl rfl ?_
        refine w_getR rfl rfl sh_33 rfl rfl ?_
        refine w_iload_n rfl rfl rfl ?_
        refine w_iconst rfl rfl ?_
        refine w_isub rfl rfl ?_
        refine w_lald (z := sL S 34 (sv S 33 2 - 1 - 1)) rfl sh_34 (by omega) (by omega) (by decide) rfl rfl ?_
        refine w_ldc2 (v := 40) rfl rfl rfl ?_
        refine w_l_ne (pc2 := 76) (pc3 := 72) rfl rfl (by decide) rfl (fun c69 => ?_) (fun c69 => ?_)
        · skip
          refine w_iconst rfl rfl ?_
          refine w_istore rfl (by decide) rfl ?_
          refine w_iload rfl rfl rfl ?_
          refine w_if_ne (pc2 := 99) (pc3 := 84) rfl (by decide) rfl ⟨by decide, by decide⟩ (fun hc => absurd hc (by decide)) (fun _ => ?_)
          refine w_aload_n rfl rfl rfl ?_
          refine w_getR rfl rfl sh_3 rfl rfl ?_
          refine w_getR rfl rfl sh_4 rfl rfl ?_
          refine w_iload_n rfl rfl rfl ?_
          refine w_aald rfl sh_5 rfl (by omega) (by omega) (by decide) (ht.2.2.2.2.1 _ (by omega) (by omega)) rfl ?_
          refine w_getI (z := sv S (6 + 3 * pi f.toNat) 1) rfl rfl (sh_mac (ht.2.2.1 _ (by omega))) rfl rfl rfl ?_
          refine w_if_ne (pc2 := 103) (pc3 := 99) rfl (by decide) rfl ⟨by omega, by omega⟩ (fun c96 => ?_) (fun c96 => ?_)
          · skip
            refine w_iconst rfl rfl ?_
            refine w_iret rfl rfl ?_
            refine q_i ?_
            unfold mtx
            rw [hf, if_neg (fun z => z.elim (fun z => by omega) (fun z => by have q := kH (by omega); rw [z] at q; have e : zB true = 1 := rfl; omega))]
            have n1 : ¬ hd40 r = true := fun z => by
              have q := hh.mp z
              first | omega | (exact absurd q.2 (by assumption))
            have n2 : ¬ (mg T f).2.1 = false := fun z => by
              have q := kC (by omega)
              rw [z] at q
              have e : zB false = 0 := rfl
              omega
            rw [if_neg (fun z => z.elim n1 n2)]
          · skip
            refine w_iload_n rfl rfl rfl ?_
            refine w_goto (pc2 := 104) rfl (by decide) ?_
            refine w_iret rfl rfl ?_
            refine q_i ?_
            unfold mtx
            rw [hf, if_neg (fun z => z.elim (fun z => by omega) (fun z => by have q := kH (by omega); rw [z] at q; have e : zB true = 1 := rfl; omega))]
            first | rw [if_pos (Or.inl (hh.mpr ⟨by omega, by assumption⟩))] | rw [if_pos (Or.inr (zB_0f (by have := kC (by omega); omega)))]
        · skip
          refine w_iconst rfl rfl ?_
          refine w_goto (pc2 := 77) rfl (by decide) ?_
          refine w_istore rfl (by decide) rfl ?_
          refine w_iload rfl rfl rfl ?_
          refine w_if_ne (pc2 := 99) (pc3 := 84) rfl (by decide) rfl ⟨by decide, by decide⟩ (fun _ => ?_) (fun hc => absurd hc (by decide))
          refine w_iload_n rfl rfl rfl ?_
          refine w_goto (pc2 := 104) rfl (by decide) ?_
          refine w_iret rfl rfl ?_
          refine q_i ?_
          unfold mtx
          rw [hf, if_neg (fun z => z.elim (fun z => by omega) (fun z => by have q := kH (by omega); rw [z] at q; have e : zB true = 1 := rfl; omega))]
          first | rw [if_pos (Or.inl (hh.mpr ⟨by omega, by assumption⟩))] | rw [if_pos (Or.inr (zB_0f (by have := kC (by omega); omega)))]
    · skip
      refine w_iconst rfl rfl ?_
      refine w_iret rfl rfl ?_
      refine q_i ?_
      unfold mtx
      rw [hf]
      first | rw [if_pos (Or.inl c28)] | rw [if_pos (Or.inr (zB_1t (by have := kH (by omega); omega)))]
