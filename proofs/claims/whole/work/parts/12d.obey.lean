/-! What a directive asks: the class obeys. -/
theorem c_dfn {sc : x_S} {d : Nat} {S : w_S} {l : Nat} {t : List Tok} {pi : Nat → Nat} {T : List Mac} {a e : Int} (hl : l < 4) (hs : srep S l t) (hto : tkok t) (ht6 : t.length ≤ 160) (ht : ctab S pi T) (a0 : 0 ≤ a) (a2 : a ≤ 190) (e0 : 0 ≤ e) (e1 : e ≤ t.length) (hd : 5 ≤ d) : w_T sc d 70 0 (x_en 0 [.ref 2, .ref (202 + 8 * l), .int (iZ a), .int (iZ e)]) [] S (fun v S2 => v = some (.int (iZ (dfn T t a e).1)) ∧ fr (fun a => 4 ≤ a ∧ a < 30) S S2 ∧ ctab S2 pi (dfn T t a e).2) := by
  refine w_aload_n rfl rfl rfl ?_
  refine w_getR rfl rfl (sh_src hl) rfl rfl ?_
  refine w_astore rfl (by decide) rfl ?_
  refine w_iload_n rfl rfl rfl ?_
  refine w_iload_n rfl rfl rfl ?_
  refine w_ic_ge (pc2 := 24) (pc3 := 11) rfl (by decide) rfl ⟨by omega, by omega⟩ ⟨by omega, by omega⟩ (fun c8 => ?_) (fun c8 => ?_)
  · skip
    refine w_iconst rfl rfl ?_
    refine w_iret rfl rfl ?_
    have hz : (dfn T t a e) = (3, T) := by
      unfold dfn
      first
        | rw [if_pos (by first | exact Or.inl c8 | exact Or.inr c21)]
        | rw [if_neg (by rw [not_or]; exact ⟨by omega, by rw [c21]; decide⟩), if_pos ⟨c30, c46, c57⟩, if_pos (by first | exact Or.inl c104 | exact Or.inr c115)]
        | rw [if_neg (by rw [not_or]; exact ⟨by omega, by rw [c21]; decide⟩), if_neg (by first | exact fun z => c46 z.2.1 | (intro z; rw [c57] at z; exact absurd z.2.2 (by decide)) | omega), if_pos c115]
    rw [hz]
    exact ⟨rfl, fr_refl _ _, ht⟩
  · skip
    refine w_aload rfl rfl rfl ?_
    refine w_getR rfl rfl (sh_srow hl).1 rfl rfl ?_
    refine w_iload_n rfl rfl rfl ?_
    refine w_lald (z := tx t a) rfl (sh_srow hl).2.1 (by omega) (by omega) (by decide) (hs.2 _ (by omega) (by omega)).1 rfl ?_
    refine w_CS (as := [.long (tx t a)]) (r := []) rfl rfl rfl rfl (Nat.le_of_ble_eq_true rfl) (Nat.le_of_ble_eq_true rfl) (by omega) rfl (c_nam (x := tx t a) (hto _ (by omega) (by omega)).1 (by omega)) ?_
    rintro _ _ ⟨rfl, hS⟩
    rw [hS]
    show w_T _ _ 70 21 _ [.int (iZ (zB (nam (tx t a))))] _ _
    refine w_b_ne (pc2 := 26) (pc3 := 24) rfl (by decide) rfl (fun c21 => ?_) (fun c21 => ?_)
    · skip
      refine w_iload_n rfl rfl rfl ?_
      refine w_iconst rfl rfl ?_
      refine w_iadd rfl rfl ?_
      refine w_iload_n rfl rfl rfl ?_
      refine w_ic_ge (pc2 := 64) (pc3 := 33) rfl (by decide) rfl ⟨by omega, by omega⟩ ⟨by omega, by omega⟩ (fun c30 => ?_) (fun c30 => ?_)
      · skip
        refine w_iconst rfl rfl ?_
        refine w_istore rfl (by decide) rfl ?_
        refine w_iload rfl rfl rfl ?_
        refine w_if_eq (pc2 := 78) (pc3 := 72) rfl (by decide) rfl ⟨by decide, by decide⟩ (fun _ => ?_) (fun hc => absurd hc (by decide))
        refine w_iconst rfl rfl ?_
        refine w_istore rfl (by decide) rfl ?_
        refine w_iload rfl rfl rfl ?_
        refine w_if_eq (pc2 := 97) (pc3 := 86) rfl (by decide) rfl ⟨by decide, by decide⟩ (fun _ => ?_) (fun hc => absurd hc (by decide))
        refine w_iload_n rfl rfl rfl ?_
        refine w_iconst rfl rfl ?_
        refine w_iadd rfl rfl ?_
        have hpe := pe_r (X := tx t) (a := a + 2) (e := e)
        refine w_istore rfl (by decide) rfl ?_
        refine w_iload rfl rfl rfl ?_
        refine w_if_lt (pc2 := 118) (pc3 := 107) rfl (by decide) rfl ⟨by omega, by omega⟩ (fun c104 => ?_) (fun c104 => ?_)
        · omega
        · skip
          refine w_aload rfl rfl rfl ?_
          refine w_iload rfl rfl rfl ?_
          refine w_iload_n rfl rfl rfl ?_
          refine w_CS (as := [.ref (203 + 8 * l), .int (iZ (a + 1)), .int (iZ e)]) (r := []) rfl rfl rfl rfl (Nat.le_of_ble_eq_true rfl) (Nat.le_of_ble_eq_true rfl) (by omega) rfl (c_bdy (l := l) (t := t) (a := a + 1) (b := e) hl hs hto ht6 (by omega) (by omega) (by omega) (by omega)) ?_
          rintro _ _ ⟨rfl, hS⟩
          rw [hS]
          show w_T _ _ 70 115 _ [.int (iZ (zB (bdy (tx t) (a + 1) e)))] _ _
          refine w_b_ne (pc2 := 120) (pc3 := 118) rfl (by decide) rfl (fun c115 => ?_) (fun c115 => ?_)
          · skip
            refine w_aload_n rfl rfl rfl ?_
            refine w_getR rfl rfl sh_2 rfl rfl ?_
            refine w_getR rfl rfl sh_3 rfl rfl ?_
            refine w_aload rfl rfl rfl ?_
            refine w_iload_n rfl rfl rfl ?_
            refine w_iload rfl rfl rfl ?_
            refine w_iload rfl rfl rfl ?_
            refine w_iload_n rfl rfl rfl ?_
            refine w_CV (as := [.ref (203 + 8 * l), .int (iZ a), .int (iZ ((-1))), .int (iZ (a + 1)), .int (iZ e)]) (r := []) rfl rfl rfl rfl sh_4 (Nat.le_of_ble_eq_true rfl) (Nat.le_of_ble_eq_true rfl) (by omega) rfl (c_def (pi := pi) (T := T) (a := a) (p := (-1)) (q := a + 1) (e := e) hl hs hto ht6 ht (by omega) (by omega) (by omega) (by omega) (by omega) (by omega) (by omega) (by omega)) ?_
            rintro _ V ⟨rfl, f1, ht1⟩
            show w_T _ _ 70 138 _ [.int (iZ ((dft T (tx t) a ((-1)) (a + 1) e).1))] _ _
            refine w_iret rfl rfl ?_
            have hz : (dfn T t a e) = (dft T (tx t) a ((-1)) (a + 1) e) := by
              unfold dfn
              first
                | rw [if_neg (by rw [not_or]; exact ⟨by omega, by rw [c21]; decide⟩), if_pos ⟨c30, c46, c57⟩, if_neg (by rw [c115, not_or]; exact ⟨by omega, by decide⟩)]
                | rw [if_neg (by rw [not_or]; exact ⟨by omega, by rw [c21]; decide⟩), if_neg (by first | exact fun z => c46 z.2.1 | (intro z; rw [c57] at z; exact absurd z.2.2 (by decide)) | omega), if_neg (by rw [c115]; decide)]
            rw [hz]
            exact ⟨rfl, f1, ht1⟩
          · skip
            refine w_iconst rfl rfl ?_
            refine w_iret rfl rfl ?_
            have hz : (dfn T t a e) = (3, T) := by
              unfold dfn
              first
                | rw [if_pos (by first | exact Or.inl c8 | exact Or.inr c21)]
                | rw [if_neg (by rw [not_or]; exact ⟨by omega, by rw [c21]; decide⟩), if_pos ⟨c30, c46, c57⟩, if_pos (by first | exact Or.inl c104 | exact Or.inr c115)]
                | rw [if_neg (by rw [not_or]; exact ⟨by omega, by rw [c21]; decide⟩), if_neg (by first | exact fun z => c46 z.2.1 | (intro z; rw [c57] at z; exact absurd z.2.2 (by decide)) | omega), if_pos c115]
            rw [hz]
            exact ⟨rfl, fr_refl _ _, ht⟩
      · skip
        refine w_aload rfl rfl rfl ?_
        refine w_getR rfl rfl (sh_srow hl).1 rfl rfl ?_
        refine w_iload_n rfl rfl rfl ?_
        refine w_iconst rfl rfl ?_
        refine w_iadd rfl rfl ?_
        refine w_lald (z := tx t (a + 1)) rfl (sh_srow hl).2.1 (by omega) (by omega) (by decide) (hs.2 _ (by omega) (by omega)).1 rfl ?_
        refine w_ldc2 (v := 40) rfl rfl rfl ?_
        refine w_l_ne (pc2 := 64) (pc3 := 49) rfl rfl (by decide) rfl (fun c46 => ?_) (fun c46 => ?_)
        · skip
          refine w_iconst rfl rfl ?_
          refine w_istore rfl (by decide) rfl ?_
          refine w_iload rfl rfl rfl ?_
          refine w_if_eq (pc2 := 78) (pc3 := 72) rfl (by decide) rfl ⟨by decide, by decide⟩ (fun _ => ?_) (fun hc => absurd hc (by decide))
          refine w_iconst rfl rfl ?_
          refine w_istore rfl (by decide) rfl ?_
          refine w_iload rfl rfl rfl ?_
          refine w_if_eq (pc2 := 97) (pc3 := 86) rfl (by decide) rfl ⟨by decide, by decide⟩ (fun _ => ?_) (fun hc => absurd hc (by decide))
          refine w_iload_n rfl rfl rfl ?_
          refine w_iconst rfl rfl ?_
          refine w_iadd rfl rfl ?_
          have hpe := pe_r (X := tx t) (a := a + 2) (e := e)
          refine w_istore rfl (by decide) rfl ?_
          refine w_iload rfl rfl rfl ?_
          refine w_if_lt (pc2 := 118) (pc3 := 107) rfl (by decide) rfl ⟨by omega, by omega⟩ (fun c104 => ?_) (fun c104 => ?_)
          · omega
          · skip
            refine w_aload rfl rfl rfl ?_
            refine w_iload rfl rfl rfl ?_
            refine w_iload_n rfl rfl rfl ?_
            refine w_CS (as := [.ref (203 + 8 * l), .int (iZ (a + 1)), .int (iZ e)]) (r := []) rfl rfl rfl rfl (Nat.le_of_ble_eq_true rfl) (Nat.le_of_ble_eq_true rfl) (by omega) rfl (c_bdy (l := l) (t := t) (a := a + 1) (b := e) hl hs hto ht6 (by omega) (by omega) (by omega) (by omega)) ?_
            rintro _ _ ⟨rfl, hS⟩
            rw [hS]
            show w_T _ _ 70 115 _ [.int (iZ (zB (bdy (tx t) (a + 1) e)))] _ _
            refine w_b_ne (pc2 := 120) (pc3 := 118) rfl (by decide) rfl (fun c115 => ?_) (fun c115 => ?_)
            · skip
              refine w_aload_n rfl rfl rfl ?_
              refine w_getR rfl rfl sh_2 rfl rfl ?_
              refine w_getR rfl rfl sh_3 rfl rfl ?_
              refine w_aload rfl rfl rfl ?_
              refine w_iload_n rfl rfl rfl ?_
              refine w_iload rfl rfl rfl ?_
              refine w_iload rfl rfl rfl ?_
              refine w_iload_n rfl rfl rfl ?_
              refine w_CV (as := [.ref (203 + 8 * l), .int (iZ a), .int (iZ ((-1))), .int (iZ (a + 1)), .int (iZ e)]) (r := []) rfl rfl rfl rfl sh_4 (Nat.le_of_ble_eq_true rfl) (Nat.le_of_ble_eq_true rfl) (by omega) rfl (c_def (pi := pi) (T := T) (a := a) (p := (-1)) (q := a + 1) (e := e) hl hs hto ht6 ht (by omega) (by omega) (by omega) (by omega) (by omega) (by omega) (by omega) (by omega)) ?_
              rintro _ V ⟨rfl, f1, ht1⟩
              show w_T _ _ 70 138 _ [.int (iZ ((dft T (tx t) a ((-1)) (a + 1) e).1))] _ _
              refine w_iret rfl rfl ?_
              have hz : (dfn T t a e) = (dft T (tx t) a ((-1)) (a + 1) e) := by
                unfold dfn
                first
                  | rw [if_neg (by rw [not_or]; exact ⟨by omega, by rw [c21]; decide⟩), if_pos ⟨c30, c46, c57⟩, if_neg (by rw [c115, not_or]; exact ⟨by omega, by decide⟩)]
                  | rw [if_neg (by rw [not_or]; exact ⟨by omega, by rw [c21]; decide⟩), if_neg (by first | exact fun z => c46 z.2.1 | (intro z; rw [c57] at z; exact absurd z.2.2 (by decide)) | omega), if_neg (by rw [c115]; decide)]
              rw [hz]
              exact ⟨rfl, f1, ht1⟩
            · skip
              refine w_iconst rfl rfl ?_
              refine w_iret rfl rfl ?_
              have hz : (dfn T t a e) = (3, T) := by
                unfold dfn
                first
                  | rw [if_pos (by first | exact Or.inl c8 | exact Or.inr c21)]
                  | rw [if_neg (by rw [not_or]; exact ⟨by omega, by rw [c21]; decide⟩), if_pos ⟨c30, c46, c57⟩, if_pos (by first | exact Or.inl c104 | exact Or.inr c115)]
                  | rw [if_neg (by rw [not_or]; exact ⟨by omega, by rw [c21]; decide⟩), if_neg (by first | exact fun z => c46 z.2.1 | (intro z; rw [c57] at z; exact absurd z.2.2 (by decide)) | omega), if_pos c115]
              rw [hz]
              exact ⟨rfl, fr_refl _ _, ht⟩
        · skip
          refine w_aload_n rfl rfl rfl ?_
          refine w_getR rfl rfl (sh_src hl) rfl rfl ?_
          refine w_iload_n rfl rfl rfl ?_
          refine w_iconst rfl rfl ?_
          refine w_iadd rfl rfl ?_
          refine w_bald (z := zB (tgl t (a + 1))) rfl (sh_src5 hl) (by omega) (by omega) (by decide) (hs.2 _ (by omega) (by omega)).2.2.2 rfl ?_
          refine w_b_eq (pc2 := 64) (pc3 := 60) rfl (by decide) rfl (fun c57 => ?_) (fun c57 => ?_)
          · skip
            refine w_iconst rfl rfl ?_
            refine w_istore rfl (by decide) rfl ?_
            refine w_iload rfl rfl rfl ?_
            refine w_if_eq (pc2 := 78) (pc3 := 72) rfl (by decide) rfl ⟨by decide, by decide⟩ (fun _ => ?_) (fun hc => absurd hc (by decide))
            refine w_iconst rfl rfl ?_
            refine w_istore rfl (by decide) rfl ?_
            refine w_iload rfl rfl rfl ?_
            refine w_if_eq (pc2 := 97) (pc3 := 86) rfl (by decide) rfl ⟨by decide, by decide⟩ (fun _ => ?_) (fun hc => absurd hc (by decide))
            refine w_iload_n rfl rfl rfl ?_
            refine w_iconst rfl rfl ?_
            refine w_iadd rfl rfl ?_
            have hpe := pe_r (X := tx t) (a := a + 2) (e := e)
            refine w_istore rfl (by decide) rfl ?_
            refine w_iload rfl rfl rfl ?_
            refine w_if_lt (pc2 := 118) (pc3 := 107) rfl (by decide) rfl ⟨by omega, by omega⟩ (fun c104 => ?_) (fun c104 => ?_)
            · omega
            · skip
              refine w_aload rfl rfl rfl ?_
              refine w_iload rfl rfl rfl ?_
              refine w_iload_n rfl rfl rfl ?_
              refine w_CS (as := [.ref (203 + 8 * l), .int (iZ (a + 1)), .int (iZ e)]) (r := []) rfl rfl rfl rfl (Nat.le_of_ble_eq_true rfl) (Nat.le_of_ble_eq_true rfl) (by omega) rfl (c_bdy (l := l) (t := t) (a := a + 1) (b := e) hl hs hto ht6 (by omega) (by omega) (by omega) (by omega)) ?_
              rintro _ _ ⟨rfl, hS⟩
              rw [hS]
              show w_T _ _ 70 115 _ [.int (iZ (zB (bdy (tx t) (a + 1) e)))] _ _
              refine w_b_ne (pc2 := 120) (pc3 := 118) rfl (by decide) rfl (fun c115 => ?_) (fun c115 => ?_)
              · skip
                refine w_aload_n rfl rfl rfl ?_
                refine w_getR rfl rfl sh_2 rfl rfl ?_
                refine w_getR rfl rfl sh_3 rfl rfl ?_
                refine w_aload rfl rfl rfl ?_
                refine w_iload_n rfl rfl rfl ?_
                refine w_iload rfl rfl rfl ?_
                refine w_iload rfl rfl rfl ?_
                refine w_iload_n rfl rfl rfl ?_
                refine w_CV (as := [.ref (203 + 8 * l), .int (iZ a), .int (iZ ((-1))), .int (iZ (a + 1)), .int (iZ e)]) (r := []) rfl rfl rfl rfl sh_4 (Nat.le_of_ble_eq_true rfl) (Nat.le_of_ble_eq_true rfl) (by omega) rfl (c_def (pi := pi) (T := T) (a := a) (p := (-1)) (q := a + 1) (e := e) hl hs hto ht6 ht (by omega) (by omega) (by omega) (by omega) (by omega) (by omega) (by omega) (by omega)) ?_
                rintro _ V ⟨rfl, f1, ht1⟩
                show w_T _ _ 70 138 _ [.int (iZ ((dft T (tx t) a ((-1)) (a + 1) e).1))] _ _
                refine w_iret rfl rfl ?_
                have hz : (dfn T t a e) = (dft T (tx t) a ((-1)) (a + 1) e) := by
                  unfold dfn
                  first
                    | rw [if_neg (by rw [not_or]; exact ⟨by omega, by rw [c21]; decide⟩), if_pos ⟨c30, c46, c57⟩, if_neg (by rw [c115, not_or]; exact ⟨by omega, by decide⟩)]
                    | rw [if_neg (by rw [not_or]; exact ⟨by omega, by rw [c21]; decide⟩), if_neg (by first | exact fun z => c46 z.2.1 | (intro z; rw [c57] at z; exact absurd z.2.2 (by decide)) | omega), if_neg (by rw [c115]; decide)]
                rw [hz]
                exact ⟨rfl, f1, ht1⟩
              · skip
                refine w_iconst rfl rfl ?_
                refine w_iret rfl rfl ?_
                have hz : (dfn T t a e) = (3, T) := by
                  unfold dfn
                  first
                    | rw [if_pos (by first | exact Or.inl c8 | exact Or.inr c21)]
                    | rw [if_neg (by rw [not_or]; exact ⟨by omega, by rw [c21]; decide⟩), if_pos ⟨c30, c46, c57⟩, if_pos (by first | exact Or.inl c104 | exact Or.inr c115)]
                    | rw [if_neg (by rw [not_or]; exact ⟨by omega, by rw [c21]; decide⟩), if_neg (by first | exact fun z => c46 z.2.1 | (intro z; rw [c57] at z; exact absurd z.2.2 (by decide)) | omega), if_pos c115]
                rw [hz]
                exact ⟨rfl, fr_refl _ _, ht⟩
          · skip
            refine w_iconst rfl rfl ?_
            refine w_goto (pc2 := 65) rfl (by decide) ?_
            refine w_istore rfl (by decide) rfl ?_
            refine w_iload rfl rfl rfl ?_
            refine w_if_eq (pc2 := 78) (pc3 := 72) rfl (by decide) rfl ⟨by decide, by decide⟩ (fun hc => absurd hc (by decide)) (fun _ => ?_)
            refine w_iload_n rfl rfl rfl ?_
            refine w_iconst rfl rfl ?_
            refine w_iadd rfl rfl ?_
            refine w_goto (pc2 := 79) rfl (by decide) ?_
            refine w_istore rfl (by decide) rfl ?_
            refine w_iload rfl rfl rfl ?_
            refine w_if_eq (pc2 := 97) (pc3 := 86) rfl (by decide) rfl ⟨by decide, by decide⟩ (fun hc => absurd hc (by decide)) (fun _ => ?_)
            refine w_aload rfl rfl rfl ?_
            refine w_iload rfl rfl rfl ?_
            refine w_iload_n rfl rfl rfl ?_
            refine w_CS (as := [.ref (203 + 8 * l), .int (iZ (a + 2)), .int (iZ e)]) (r := []) rfl rfl rfl rfl (Nat.le_of_ble_eq_true rfl) (Nat.le_of_ble_eq_true rfl) (by omega) rfl (c_pe (l := l) (t := t) (a := a + 2) (b := e) hl hs hto ht6 (by omega) (by omega) (by omega) (by omega) (by omega)) ?_
            rintro _ _ ⟨rfl, hS⟩
            rw [hS]
            show w_T _ _ 70 94 _ [.int (iZ (pe (tx t) (a + 2) e))] _ _
            refine w_goto (pc2 := 100) rfl (by decide) ?_
            have hpe := pe_r (X := tx t) (a := a + 2) (e := e)
            refine w_istore rfl (by decide) rfl ?_
            refine w_iload rfl rfl rfl ?_
            refine w_if_lt (pc2 := 118) (pc3 := 107) rfl (by decide) rfl ⟨by omega, by omega⟩ (fun c104 => ?_) (fun c104 => ?_)
            · skip
              refine w_iconst rfl rfl ?_
              refine w_iret rfl rfl ?_
              have hz : (dfn T t a e) = (3, T) := by
                unfold dfn
                first
                  | rw [if_pos (by first | exact Or.inl c8 | exact Or.inr c21)]
                  | rw [if_neg (by rw [not_or]; exact ⟨by omega, by rw [c21]; decide⟩), if_pos ⟨c30, c46, c57⟩, if_pos (by first | exact Or.inl c104 | exact Or.inr c115)]
                  | rw [if_neg (by rw [not_or]; exact ⟨by omega, by rw [c21]; decide⟩), if_neg (by first | exact fun z => c46 z.2.1 | (intro z; rw [c57] at z; exact absurd z.2.2 (by decide)) | omega), if_pos c115]
              rw [hz]
              exact ⟨rfl, fr_refl _ _, ht⟩
            · skip
              refine w_aload rfl rfl rfl ?_
              refine w_iload rfl rfl rfl ?_
              refine w_iload_n rfl rfl rfl ?_
              refine w_CS (as := [.ref (203 + 8 * l), .int (iZ (pe (tx t) (a + 2) e)), .int (iZ e)]) (r := []) rfl rfl rfl rfl (Nat.le_of_ble_eq_true rfl) (Nat.le_of_ble_eq_true rfl) (by omega) rfl (c_bdy (l := l) (t := t) (a := pe (tx t) (a + 2) e) (b := e) hl hs hto ht6 (by omega) (by omega) (by omega) (by omega)) ?_
              rintro _ _ ⟨rfl, hS⟩
              rw [hS]
              show w_T _ _ 70 115 _ [.int (iZ (zB (bdy (tx t) (pe (tx t) (a + 2) e) e)))] _ _
              refine w_b_ne (pc2 := 120) (pc3 := 118) rfl (by decide) rfl (fun c115 => ?_) (fun c115 => ?_)
              · skip
                refine w_aload_n rfl rfl rfl ?_
                refine w_getR rfl rfl sh_2 rfl rfl ?_
                refine w_getR rfl rfl sh_3 rfl rfl ?_
                refine w_aload rfl rfl rfl ?_
                refine w_iload_n rfl rfl rfl ?_
                refine w_iload rfl rfl rfl ?_
                refine w_iload rfl rfl rfl ?_
                refine w_iload_n rfl rfl rfl ?_
                refine w_CV (as := [.ref (203 + 8 * l), .int (iZ a), .int (iZ (a + 2)), .int (iZ (pe (tx t) (a + 2) e)), .int (iZ e)]) (r := []) rfl rfl rfl rfl sh_4 (Nat.le_of_ble_eq_true rfl) (Nat.le_of_ble_eq_true rfl) (by omega) rfl (c_def (pi := pi) (T := T) (a := a) (p := a + 2) (q := pe (tx t) (a + 2) e) (e := e) hl hs hto ht6 ht (by omega) (by omega) (by omega) (by omega) (by omega) (by omega) (by omega) (by omega)) ?_
                rintro _ V ⟨rfl, f1, ht1⟩
                show w_T _ _ 70 138 _ [.int (iZ ((dft T (tx t) a (a + 2) (pe (tx t) (a + 2) e) e).1))] _ _
                refine w_iret rfl rfl ?_
                have hz : (dfn T t a e) = (dft T (tx t) a (a + 2) (pe (tx t) (a + 2) e) e) := by
                  unfold dfn
                  first
                    | rw [if_neg (by rw [not_or]; exact ⟨by omega, by rw [c21]; decide⟩), if_pos ⟨c30, c46, c57⟩, if_neg (by rw [c115, not_or]; exact ⟨by omega, by decide⟩)]
                    | rw [if_neg (by rw [not_or]; exact ⟨by omega, by rw [c21]; decide⟩), if_neg (by first | exact fun z => c46 z.2.1 | (intro z; rw [c57] at z; exact absurd z.2.2 (by decide)) | omega), if_neg (by rw [c115]; decide)]
                rw [hz]
                exact ⟨rfl, f1, ht1⟩
              · skip
                refine w_iconst rfl rfl ?_
                refine w_iret rfl rfl ?_
                have hz : (dfn T t a e) = (3, T) := by
                  unfold dfn
                  first
                    | rw [if_pos (by first | exact Or.inl c8 | exact Or.inr c21)]
                    | rw [if_neg (by rw [not_or]; exact ⟨by omega, by rw [c21]; decide⟩), if_pos ⟨c30, c46, c57⟩, if_pos (by first | exact Or.inl c104 | exact Or.inr c115)]
                    | rw [if_neg (by rw [not_or]; exact ⟨by omega, by rw [c21]; decide⟩), if_neg (by first | exact fun z => c46 z.2.1 | (intro z; rw [c57] at z; exact absurd z.2.2 (by decide)) | omega), if_pos c115]
                rw [hz]
                exact ⟨rfl, fr_refl _ _, ht⟩
    · skip
      refine w_iconst rfl rfl ?_
      refine w_iret rfl rfl ?_
      have hz : (dfn T t a e) = (3, T) := by
        unfold dfn
        first
          | rw [if_pos (by first | exact Or.inl c8 | exact Or.inr c21)]
          | rw [if_neg (by rw [not_or]; exact ⟨by omega, by rw [c21]; decide⟩), if_pos ⟨c30, c46, c57⟩, if_pos (by first | exact Or.inl c104 | exact Or.inr c115)]
          | rw [if_neg (by rw [not_or]; exact ⟨by omega, by rw [c21]; decide⟩), if_neg (by first | exact fun z => c46 z.2.1 | (intro z; rw [c57] at z; exact absurd z.2.2 (by decide)) | omega), if_pos c115]
      rw [hz]
      exact ⟨rfl, fr_refl _ _, ht⟩
theorem dig3 {x : Int64} (h1 : ¬ x < 48) (h2 : x < 51) : x = 48 ∨ x = 49 ∨ x = 50 := by
  have a1 : (48 : Int) ≤ x.toInt := by
    have := (not_congr Int64.lt_iff_toInt_lt).mp h1
    have e : (48 : Int64).toInt = 48 := rfl
    omega
  have a2 : x.toInt < 51 := by
    have := Int64.lt_iff_toInt_lt.mp h2
    have e : (51 : Int64).toInt = 51 := rfl
    omega
  have h : x.toInt = 48 ∨ x.toInt = 49 ∨ x.toInt = 50 := by omega
  rcases h with h | h | h
  · exact Or.inl (i64_ext (by rw [h]; rfl))
  · exact Or.inr (Or.inl (i64_ext (by rw [h]; rfl)))
  · exact Or.inr (Or.inr (i64_ext (by rw [h]; rfl)))
theorem dig3_z {x : Int64} (h1 : ¬ x < 48) (h2 : x < 51) : zl2i (x - 48) = x.toInt - 48 ∧ 0 ≤ x.toInt - 48 ∧ x.toInt - 48 ≤ 2 := by
  rcases dig3 h1 h2 with h | h | h <;> (rw [h]; decide)
theorem c_inc {sc : x_S} {d : Nat} {S : w_S} {l : Nat} {t : List Tok} {a e ic : Int} (hl : l < 4) (hs : srep S l t) (hto : tkok t) (ht6 : t.length ≤ 160) (h201 : ∀ k : Int, 0 ≤ k → k < 4 → sR S 201 k = some (202 + 8 * k.toNat)) (hlv : sv S 2 3 = l) (hic : sv S 2 4 = ic) (i0 : 0 ≤ ic) (i10 : ic ≤ 10) (a0 : 0 ≤ a) (a2 : a ≤ 190) (e0 : 0 ≤ e) (e1 : e ≤ t.length) (hd : 1 ≤ d) : w_T sc d 69 0 (x_en 0 [.ref 2, .ref (203 + 8 * l), .int (iZ a), .int (iZ e)]) [] S (fun v S2 => v = some (.int (iZ (icd (tx t) a e l ic))) ∧ (¬ (icd (tx t) a e l ic) = 0 → S2 = S) ∧ ((icd (tx t) a e l ic) = 0 → l + 1 < 4 ∧ fr (fun a => a = 2 ∨ a = 210 + 8 * l ∨ a = 211 + 8 * l) S S2 ∧ sv S2 2 3 = l + 1 ∧ sv S2 2 4 = ic + 1 ∧ RST S2 (l + 1) ((tx t (a + 1)).toInt - 48) ∧ 0 ≤ (tx t (a + 1)).toInt - 48 ∧ (tx t (a + 1)).toInt - 48 ≤ 2)) := by
  refine w_iload_n rfl rfl rfl ?_
  refine w_iconst rfl rfl ?_
  refine w_iadd rfl rfl ?_
  refine w_iload_n rfl rfl rfl ?_
  refine w_ic_ne (pc2 := 35) (pc3 := 7) rfl (by decide) rfl ⟨by omega, by omega⟩ ⟨by omega, by omega⟩ (fun c4 => ?_) (fun c4 => ?_)
  · skip
    refine w_iconst rfl rfl ?_
    refine w_iret rfl rfl ?_
    have hz : (icd (tx t) a e l ic) = 3 := by
      unfold icd
      rw [if_pos (by first | omega | exact Or.inl (fun z => c17 z.2.1) | exact Or.inl (fun z => c32 z.2.2) | exact Or.inr (Or.inl c53) | exact Or.inr (Or.inr c62))]
    rw [hz]
    exact ⟨rfl, fun _ => rfl, fun z => absurd z (by decide)⟩
  · skip
    refine w_aload_n rfl rfl rfl ?_
    refine w_getR rfl rfl (sh_srow hl).1 rfl rfl ?_
    refine w_iload_n rfl rfl rfl ?_
    refine w_lald (z := tx t a) rfl (sh_srow hl).2.1 (by omega) (by omega) (by decide) (hs.2 _ (by omega) (by omega)).1 rfl ?_
    refine w_ldc2 (v := 60) rfl rfl rfl ?_
    refine w_l_ne (pc2 := 35) (pc3 := 20) rfl rfl (by decide) rfl (fun c17 => ?_) (fun c17 => ?_)
    · skip
      refine w_iconst rfl rfl ?_
      refine w_iret rfl rfl ?_
      have hz : (icd (tx t) a e l ic) = 3 := by
        unfold icd
        rw [if_pos (by first | omega | exact Or.inl (fun z => c17 z.2.1) | exact Or.inl (fun z => c32 z.2.2) | exact Or.inr (Or.inl c53) | exact Or.inr (Or.inr c62))]
      rw [hz]
      exact ⟨rfl, fun _ => rfl, fun z => absurd z (by decide)⟩
    · skip
      refine w_aload_n rfl rfl rfl ?_
      refine w_getR rfl rfl (sh_srow hl).1 rfl rfl ?_
      refine w_iload_n rfl rfl rfl ?_
      refine w_iconst rfl rfl ?_
      refine w_iadd rfl rfl ?_
      refine w_lald (z := tx t (a + 2)) rfl (sh_srow hl).2.1 (by omega) (by omega) (by decide) (hs.2 _ (by omega) (by omega)).1 rfl ?_
      refine w_ldc2 (v := 62) rfl rfl rfl ?_
      refine w_l_eq (pc2 := 37) (pc3 := 35) rfl rfl (by decide) rfl (fun c32 => ?_) (fun c32 => ?_)
      · skip
        refine w_aload_n rfl rfl rfl ?_
        refine w_getR rfl rfl (sh_srow hl).1 rfl rfl ?_
        refine w_iload_n rfl rfl rfl ?_
        refine w_iconst rfl rfl ?_
        refine w_iadd rfl rfl ?_
        refine w_lald (z := tx t (a + 1)) rfl (sh_srow hl).2.1 (by omega) (by omega) (by decide) (hs.2 _ (by omega) (by omega)).1 rfl ?_
        refine w_lstore rfl (by decide) rfl ?_
        refine w_lload rfl rfl rfl ?_
        refine w_ldc2 (v := 48) rfl rfl rfl ?_
        refine w_l_lt (pc2 := 65) (pc3 := 56) rfl rfl (by decide) rfl (fun c53 => ?_) (fun c53 => ?_)
        · skip
          refine w_iconst rfl rfl ?_
          refine w_iret rfl rfl ?_
          have hz : (icd (tx t) a e l ic) = 3 := by
            unfold icd
            rw [if_pos (by first | omega | exact Or.inl (fun z => c17 z.2.1) | exact Or.inl (fun z => c32 z.2.2) | exact Or.inr (Or.inl c53) | exact Or.inr (Or.inr c62))]
          rw [hz]
          exact ⟨rfl, fun _ => rfl, fun z => absurd z (by decide)⟩
        · skip
          refine w_lload rfl rfl rfl ?_
          refine w_ldc2 (v := 51) rfl rfl rfl ?_
          refine w_l_lt (pc2 := 67) (pc3 := 65) rfl rfl (by decide) rfl (fun c62 => ?_) (fun c62 => ?_)
          · skip
            refine w_aload_n rfl rfl rfl ?_
            refine w_getI (z := (l : Int)) rfl rfl sh_2 rfl hlv rfl ?_
            refine w_iconst rfl rfl ?_
            refine w_iadd rfl rfl ?_
            refine w_iconst rfl rfl ?_
            refine w_ic_ge (pc2 := 86) (pc3 := 77) rfl (by decide) rfl ⟨by omega, by omega⟩ ⟨by decide, by decide⟩ (fun c74 => ?_) (fun c74 => ?_)
            · skip
              refine w_iconst rfl rfl ?_
              refine w_iret rfl rfl ?_
              have hz : (icd (tx t) a e l ic) = 5 := by
                unfold icd
                rw [if_neg (by rw [not_or, not_or]; exact ⟨not_not_intro ⟨by omega, c17, c32⟩, c53, not_not_intro c62⟩), if_pos (by omega)]
              rw [hz]
              exact ⟨rfl, fun _ => rfl, fun z => absurd z (by decide)⟩
            · skip
              refine w_aload_n rfl rfl rfl ?_
              refine w_getI (z := ic) rfl rfl sh_2 rfl hic rfl ?_
              refine w_bipush rfl (by decide) rfl ?_
              refine w_ic_lt (pc2 := 88) (pc3 := 86) rfl (by decide) rfl ⟨by omega, by omega⟩ ⟨by decide, by decide⟩ (fun c83 => ?_) (fun c83 => ?_)
              · skip
                have hl1 : l + 1 < 4 := by omega
                have hdz := dig3_z c53 c62
                refine w_aload_n rfl rfl rfl ?_
                refine w_dup rfl rfl rfl ?_
                refine w_getI (z := ic) rfl rfl sh_2 rfl hic rfl ?_
                refine w_iconst rfl rfl ?_
                refine w_iadd rfl rfl ?_
                refine w_putf rfl rfl sh_2 rfl rfl (by decide) rfl ?_
                refine w_aload_n rfl rfl rfl ?_
                refine w_dup rfl rfl rfl ?_
                refine w_getI (z := (l : Int)) rfl rfl sh_2 rfl ((rv_ne (by decide)).trans hlv) rfl ?_
                refine w_iconst rfl rfl ?_
                refine w_iadd rfl rfl ?_
                refine w_putf rfl rfl sh_2 rfl rfl (by decide) rfl ?_
                refine w_aload_n rfl rfl rfl ?_
                refine w_getR rfl rfl sh_2 rfl rfl ?_
                refine w_aload_n rfl rfl rfl ?_
                refine w_getI (z := ((l : Int)) + 1) rfl rfl sh_2 rfl (rv_self _ _ _ _) rfl ?_
                refine w_aald rfl sh_201 rfl (by omega) (by omega) (by decide) (by have q := h201 (l + 1) (by omega) (by omega); rw [show ((l : Int) + 1).toNat = l + 1 by omega] at q; exact q) rfl ?_
                refine w_lload rfl rfl rfl ?_
                refine w_ldc2 (v := 48) rfl rfl rfl ?_
                refine w_lsub rfl rfl ?_
                refine w_zl2i rfl rfl ?_
                refine w_CV (as := [.int (iZ (zl2i ((tx t (a + 1)) - 48)))]) (r := []) rfl rfl rfl rfl (sh_src hl1) (Nat.le_of_ble_eq_true rfl) (Nat.le_of_ble_eq_true rfl) (by omega) rfl (c_rst (l := l + 1) (f := zl2i ((tx t (a + 1)) - 48)) hl1 (by omega)) ?_
                rintro _ V ⟨rfl, f1, rs1⟩
                show w_T _ _ 69 127 _ [] _ _
                refine w_iconst rfl rfl ?_
                refine w_iret rfl rfl ?_
                have hz : (icd (tx t) a e l ic) = 0 := by
                  unfold icd
                  rw [if_neg (by rw [not_or, not_or]; exact ⟨not_not_intro ⟨by omega, c17, c32⟩, c53, not_not_intro c62⟩), if_neg (by omega)]
                rw [hz]
                have hfr : fr (fun a => a = 2 ∨ a = 210 + 8 * l ∨ a = 211 + 8 * l) S V := fr_trans (S1 := (w_v (w_v S 2 4 (ic + 1)) 2 3 (((l : Int)) + 1))) (fr_v (fr_v (fr_refl _ _) (by omega)) (by omega)) (fr_mono f1 (by omega))
                refine ⟨rfl, fun z => absurd rfl z, fun _ => ⟨hl1, hfr, ?_, ?_, ?_, hdz.2⟩⟩
                · rw [fr_gv f1 (by omega)]; simp (disch := omega) only [rv_self, rv_ne, rl_self, rl_ne, rA_self, rA_ne, rL_self, rL_ne, rR_self, rR_ne, xvl, xvA, xvL, xvR, xlv, xlA, xlL, xlR, xAv, xAl, xAL, xAR, xLv, xLl, xLA, xLR, xRv, xRl, xRA, xRL]
                · rw [fr_gv f1 (by omega)]; simp (disch := omega) only [rv_self, rv_ne, rl_self, rl_ne, rA_self, rA_ne, rL_self, rL_ne, rR_self, rR_ne, xvl, xvA, xvL, xvR, xlv, xlA, xlL, xlR, xAv, xAl, xAL, xAR, xLv, xLl, xLA, xLR, xRv, xRl, xRA, xRL]
                · rw [← hdz.1]; exact rs1
              · skip
                refine w_iconst rfl rfl ?_
                refine w_iret rfl rfl ?_
                have hz : (icd (tx t) a e l ic) = 5 := by
                  unfold icd
                  rw [if_neg (by rw [not_or, not_or]; exact ⟨not_not_intro ⟨by omega, c17, c32⟩, c53, not_not_intro c62⟩), if_pos (by omega)]
                rw [hz]
                exact ⟨rfl, fun _ => rfl, fun z => absurd z (by decide)⟩
          · skip
            refine w_iconst rfl rfl ?_
            refine w_iret rfl rfl ?_
            have hz : (icd (tx t) a e l ic) = 3 := by
              unfold icd
              rw [if_pos (by first | omega | exact Or.inl (fun z => c17 z.2.1) | exact Or.inl (fun z => c32 z.2.2) | exact Or.inr (Or.inl c53) | exact Or.inr (Or.inr c62))]
            rw [hz]
            exact ⟨rfl, fun _ => rfl, fun z => absurd z (by decide)⟩
      · skip
        refine w_iconst rfl rfl ?_
        refine w_iret rfl rfl ?_
        have hz : (icd (tx t) a e l ic) = 3 := by
          unfold icd
          rw [if_pos (by first | omega | exact Or.inl (fun z => c17 z.2.1) | exact Or.inl (fun z => c32 z.2.2) | exact Or.inr (Or.inl c53) | exact Or.inr (Or.inr c62))]
        rw [hz]
        exact ⟨rfl, fun _ => rfl, fun z => absurd z (by decide)⟩
theorem c_obn {sc : x_S} {d : Nat} {S : w_S} {l : Nat} {pi : Nat → Nat} {T : List Mac} {cs : List Cnd} {x y : Int64} {ic : Int} (hl : l < 4) (ht : ctab S pi T) (hc : crep S l cs) (h18 : cs.length < 18) (hlv : sv S 2 3 = l) (hic : sv S 2 4 = ic) (hd : 7 ≤ d) : w_T sc d 68 0 (x_en 0 [.ref 2, .ref (202 + 8 * l), .long x, .long y]) [] S (fun v S2 => OBp S S2 l ic (obn T cs x y) v) := by
  have hfr0 := fnd_r T y
  have h8 := ht.2.1
  refine w_lload_n rfl rfl rfl ?_
  refine w_ldcs (q := 12) rfl rfl rfl ?_
  refine w_CS (as := [.long x, .retAddr 12]) (r := []) rfl rfl rfl rfl (Nat.le_of_ble_eq_true rfl) (Nat.le_of_ble_eq_true rfl) (by omega) rfl (c_spl (x := x) (q := 12) ⟨by decide, by decide⟩ spk_12 (by omega)) ?_
  rintro _ _ ⟨rfl, hS⟩
  rw [hS]
  show w_T _ _ 68 6 _ [.int (iZ (zB (decide (x = 31639286502))))] _ _
  refine w_p_eq (pc2 := 23) (pc3 := 9) rfl (by decide) rfl (fun c6 => ?_) (fun c6 => ?_)
  · skip
    refine w_aload_n rfl rfl rfl ?_
    refine w_getR rfl rfl sh_2 rfl rfl ?_
    refine w_getR rfl rfl sh_3 rfl rfl ?_
    refine w_lload rfl rfl rfl ?_
    refine w_CV (as := [.long y]) (r := []) rfl rfl rfl rfl sh_4 (Nat.le_of_ble_eq_true rfl) (Nat.le_of_ble_eq_true rfl) (by omega) rfl (c_find (x := y) ht (by omega)) ?_
    rintro _ _ ⟨rfl, hS⟩
    rw [hS]
    show w_T _ _ 68 35 _ [.int (iZ (fnd T y))] _ _
    refine w_if_lt (pc2 := 42) (pc3 := 38) rfl (by decide) rfl ⟨by omega, by omega⟩ (fun c35 => ?_) (fun c35 => ?_)
    · skip
      refine w_iconst rfl rfl ?_
      refine w_istore rfl (by decide) rfl ?_
      refine w_lload_n rfl rfl rfl ?_
      refine w_ldcs (q := 13) rfl rfl rfl ?_
      refine w_CS (as := [.long x, .retAddr 13]) (r := []) rfl rfl rfl rfl (Nat.le_of_ble_eq_true rfl) (Nat.le_of_ble_eq_true rfl) (by omega) rfl (c_spl (x := x) (q := 13) ⟨by decide, by decide⟩ spk_13 (by omega)) ?_
      rintro _ _ ⟨rfl, hS⟩
      rw [hS]
      show w_T _ _ 68 51 _ [.int (iZ (zB (decide (x = 28401283814))))] _ _
      refine w_p_eq (pc2 := 61) (pc3 := 54) rfl (by decide) rfl (fun c51 => ?_) (fun c51 => ?_)
      · skip
        refine w_lload_n rfl rfl rfl ?_
        refine w_ldcs (q := 14) rfl rfl rfl ?_
        refine w_CS (as := [.long x, .retAddr 14]) (r := []) rfl rfl rfl rfl (Nat.le_of_ble_eq_true rfl) (Nat.le_of_ble_eq_true rfl) (by omega) rfl (c_spl (x := x) (q := 14) ⟨by decide, by decide⟩ spk_14 (by omega)) ?_
        rintro _ _ ⟨rfl, hS⟩
        rw [hS]
        show w_T _ _ 68 67 _ [.int (iZ (zB (decide (x = 3635385283302))))] _ _
        refine w_p_eq (pc2 := 85) (pc3 := 70) rfl (by decide) rfl (fun c67 => ?_) (fun c67 => ?_)
        · skip
          refine w_iconst rfl rfl ?_
          refine w_iret rfl rfl ?_
          have hz : (obn T cs x y) = (3, T, cs, -1) := by
            unfold obn
            rw [if_neg c6, if_neg c51, if_neg c67]
          rw [hz]
          exact ⟨rfl, fr_refl _ _, fun _ _ => rfl, ⟨pi, ht⟩, hc, fun _ => ⟨hlv, hic⟩, fun z => absurd (show (0 : Int) ≤ -1 from z) (by decide)⟩
        · skip
          refine w_aload_n rfl rfl rfl ?_
          refine w_iload rfl rfl rfl ?_
          refine w_if_ne (pc2 := 80) (pc3 := 76) rfl (by decide) rfl ⟨by decide, by decide⟩ (fun hc => absurd hc (by decide)) (fun _ => ?_)
          refine w_iconst rfl rfl ?_
          refine w_goto (pc2 := 81) rfl (by decide) ?_
          refine w_CV (as := [.int (iZ 1)]) (r := []) rfl rfl rfl rfl (sh_src hl) (Nat.le_of_ble_eq_true rfl) (Nat.le_of_ble_eq_true rfl) (by omega) rfl (c_opn (cs := cs) (b := true) hl hc h18 (by omega)) ?_
          rintro _ V ⟨rfl, f1, f2, f3⟩
          show w_T _ _ 68 84 _ [.int (iZ 0)] _ _
          refine w_iret rfl rfl ?_
          have hz : (obn T cs x y) = (0, T, (!decide (fnd T y < 0), false) :: cs, -1) := by
            unfold obn
            rw [if_neg c6, if_neg c51, if_pos c67]
          rw [hz]
          refine ⟨rfl, fr_mono f1 (by omega), f2, ⟨pi, ctab_fr ht f1 (by omega)⟩, ?_, fun _ => ⟨by rw [fr_gv f1 (by omega)]; exact hlv, by rw [fr_gv f1 (by omega)]; exact hic⟩, fun z => absurd (show (0 : Int) ≤ -1 from z) (by decide)⟩
          have e : (!true) = !decide (fnd T y < 0) := by
            first | (rw [decide_eq_true (by omega : fnd T y < 0)]; try rfl) | (rw [decide_eq_false (by omega : ¬ fnd T y < 0)]; try rfl)
          rw [e] at f3
          exact f3
      · skip
        refine w_aload_n rfl rfl rfl ?_
        refine w_iload rfl rfl rfl ?_
        refine w_CV (as := [.int (iZ 0)]) (r := []) rfl rfl rfl rfl (sh_src hl) (Nat.le_of_ble_eq_true rfl) (Nat.le_of_ble_eq_true rfl) (by omega) rfl (c_opn (cs := cs) (b := false) hl hc h18 (by omega)) ?_
        rintro _ V ⟨rfl, f1, f2, f3⟩
        show w_T _ _ 68 60 _ [.int (iZ 0)] _ _
        refine w_iret rfl rfl ?_
        have hz : (obn T cs x y) = (0, T, (decide (fnd T y < 0), false) :: cs, -1) := by
          unfold obn
          rw [if_neg c6, if_pos c51]
        rw [hz]
        refine ⟨rfl, fr_mono f1 (by omega), f2, ⟨pi, ctab_fr ht f1 (by omega)⟩, ?_, fun _ => ⟨by rw [fr_gv f1 (by omega)]; exact hlv, by rw [fr_gv f1 (by omega)]; exact hic⟩, fun z => absurd (show (0 : Int) ≤ -1 from z) (by decide)⟩
        have e : (!false) = decide (fnd T y < 0) := by
          first | (rw [decide_eq_true (by omega : fnd T y < 0)]; try rfl) | (rw [decide_eq_false (by omega : ¬ fnd T y < 0)]; try rfl)
        rw [e] at f3
        exact f3
    · skip
      refine w_iconst rfl rfl ?_
      refine w_goto (pc2 := 43) rfl (by decide) ?_
      refine w_istore rfl (by decide) rfl ?_
      refine w_lload_n rfl rfl rfl ?_
      refine w_ldcs (q := 13) rfl rfl rfl ?_
      refine w_CS (as := [.long x, .retAddr 13]) (r := []) rfl rfl rfl rfl (Nat.le_of_ble_eq_true rfl) (Nat.le_of_ble_eq_true rfl) (by omega) rfl (c_spl (x := x) (q := 13) ⟨by decide, by decide⟩ spk_13 (by omega)) ?_
      rintro _ _ ⟨rfl, hS⟩
      rw [hS]
      show w_T _ _ 68 51 _ [.int (iZ (zB (decide (x = 28401283814))))] _ _
      refine w_p_eq (pc2 := 61) (pc3 := 54) rfl (by decide) rfl (fun c51 => ?_) (fun c51 => ?_)
      · skip
        refine w_lload_n rfl rfl rfl ?_
        refine w_ldcs (q := 14) rfl rfl rfl ?_
        refine w_CS (as := [.long x, .retAddr 14]) (r := []) rfl rfl rfl rfl (Nat.le_of_ble_eq_true rfl) (Nat.le_of_ble_eq_true rfl) (by omega) rfl (c_spl (x := x) (q := 14) ⟨by decide, by decide⟩ spk_14 (by omega)) ?_
        rintro _ _ ⟨rfl, hS⟩
        rw [hS]
        show w_T _ _ 68 67 _ [.int (iZ (zB (decide (x = 3635385283302))))] _ _
        refine w_p_eq (pc2 := 85) (pc3 := 70) rfl (by decide) rfl (fun c67 => ?_) (fun c67 => ?_)
        · skip
          refine w_iconst rfl rfl ?_
          refine w_iret rfl rfl ?_
          have hz : (obn T cs x y) = (3, T, cs, -1) := by
            unfold obn
            rw [if_neg c6, if_neg c51, if_neg c67]
          rw [hz]
          exact ⟨rfl, fr_refl _ _, fun _ _ => rfl, ⟨pi, ht⟩, hc, fun _ => ⟨hlv, hic⟩, fun z => absurd (show (0 : Int) ≤ -1 from z) (by decide)⟩
        · skip
          refine w_aload_n rfl rfl rfl ?_
          refine w_iload rfl rfl rfl ?_
          refine w_if_ne (pc2 := 80) (pc3 := 76) rfl (by decide) rfl ⟨by decide, by decide⟩ (fun _ => ?_) (fun hc => absurd hc (by decide))
          refine w_iconst rfl rfl ?_
          refine w_CV (as := [.int (iZ 0)]) (r := []) rfl rfl rfl rfl (sh_src hl) (Nat.le_of_ble_eq_true rfl) (Nat.le_of_ble_eq_true rfl) (by omega) rfl (c_opn (cs := cs) (b := false) hl hc h18 (by omega)) ?_
          rintro _ V ⟨rfl, f1, f2, f3⟩
          show w_T _ _ 68 84 _ [.int (iZ 0)] _ _
          refine w_iret rfl rfl ?_
          have hz : (obn T cs x y) = (0, T, (!decide (fnd T y < 0), false) :: cs, -1) := by
            unfold obn
            rw [if_neg c6, if_neg c51, if_pos c67]
          rw [hz]
          refine ⟨rfl, fr_mono f1 (by omega), f2, ⟨pi, ctab_fr ht f1 (by omega)⟩, ?_, fun _ => ⟨by rw [fr_gv f1 (by omega)]; exact hlv, by rw [fr_gv f1 (by omega)]; exact hic⟩, fun z => absurd (show (0 : Int) ≤ -1 from z) (by decide)⟩
          have e : (!false) = !decide (fnd T y < 0) := by
            first | (rw [decide_eq_true (by omega : fnd T y < 0)]; try rfl) | (rw [decide_eq_false (by omega : ¬ fnd T y < 0)]; try rfl)
          rw [e] at f3
          exact f3
      · skip
        refine w_aload_n rfl rfl rfl ?_
        refine w_iload rfl rfl rfl ?_
        refine w_CV (as := [.int (iZ 1)]) (r := []) rfl rfl rfl rfl (sh_src hl) (Nat.le_of_ble_eq_true rfl) (Nat.le_of_ble_eq_true rfl) (by omega) rfl (c_opn (cs := cs) (b := true) hl hc h18 (by omega)) ?_
        rintro _ V ⟨rfl, f1, f2, f3⟩
        show w_T _ _ 68 60 _ [.int (iZ 0)] _ _
        refine w_iret rfl rfl ?_
        have hz : (obn T cs x y) = (0, T, (decide (fnd T y < 0), false) :: cs, -1) := by
          unfold obn
          rw [if_neg c6, if_pos c51]
        rw [hz]
        refine ⟨rfl, fr_mono f1 (by omega), f2, ⟨pi, ctab_fr ht f1 (by omega)⟩, ?_, fun _ => ⟨by rw [fr_gv f1 (by omega)]; exact hlv, by rw [fr_gv f1 (by omega)]; exact hic⟩, fun z => absurd (show (0 : Int) ≤ -1 from z) (by decide)⟩
        have e : (!true) = decide (fnd T y < 0) := by
          first | (rw [decide_eq_true (by omega : fnd T y < 0)]; try rfl) | (rw [decide_eq_false (by omega : ¬ fnd T y < 0)]; try rfl)
        rw [e] at f3
        exact f3
  · skip
    refine w_aload_n rfl rfl rfl ?_
    refine w_getR rfl rfl sh_2 rfl rfl ?_
    refine w_getR rfl rfl sh_3 rfl rfl ?_
    refine w_lload rfl rfl rfl ?_
    refine w_CV (as := [.long y]) (r := []) rfl rfl rfl rfl sh_4 (Nat.le_of_ble_eq_true rfl) (Nat.le_of_ble_eq_true rfl) (by omega) rfl (c_und (x := y) ht (by omega)) ?_
    rintro _ V ⟨rfl, f1, ht1⟩
    show w_T _ _ 68 21 _ [] _ _
    refine w_iconst rfl rfl ?_
    refine w_iret rfl rfl ?_
    have hz : (obn T cs x y) = (0, und T y, cs, -1) := by
      unfold obn
      rw [if_pos c6]
    rw [hz]
    exact ⟨rfl, fr_mono f1 (by omega), fun k _ => fr_gv f1 (by omega) k, ht1, ⟨by rw [fr_gv f1 (by omega)]; exact hc.1, by rw [fr_gA f1 (by omega), fr_gA f1 (by omega)]; exact hc.2.1, by rw [fr_gv f1 (by omega)]; exact hc.2.2⟩, fun _ => ⟨by rw [fr_gv f1 (by omega)]; exact hlv, by rw [fr_gv f1 (by omega)]; exact hic⟩, fun z => absurd (show (0 : Int) ≤ -1 from z) (by decide)⟩
theorem c_obe {sc : x_S} {d : Nat} {S : w_S} {l : Nat} {t : List Tok} {pi : Nat → Nat} {T : List Mac} {cs : List Cnd} {a e ic : Int} (hl : l < 4) (hs : srep S l t) (hto : tkok t) (ht6 : t.length ≤ 160) (ht : ctab S pi T) (hc : crep S l cs) (hq : csok cs) (h18 : cs.length < 18) (h201 : ∀ k : Int, 0 ≤ k → k < 4 → sR S 201 k = some (202 + 8 * k.toNat)) (hlv : sv S 2 3 = l) (hic : sv S 2 4 = ic) (i0 : 0 ≤ ic) (i10 : ic ≤ 10) (a0 : 0 ≤ a) (a2 : a ≤ 170) (e0 : 0 ≤ e) (e1 : e ≤ t.length) (hd : 9 ≤ d) : w_T sc d 67 0 (x_en 0 [.ref 2, .ref (202 + 8 * l), .int (iZ a), .int (iZ e)]) [] S (fun v S2 => OBp S S2 l ic (ob T t cs a e l ic) v) := by
  refine w_iload_n rfl rfl rfl ?_
  refine w_iload_n rfl rfl rfl ?_
  refine w_ic_lt (pc2 := 7) (pc3 := 5) rfl (by decide) rfl ⟨by omega, by omega⟩ ⟨by omega, by omega⟩ (fun c2 => ?_) (fun c2 => ?_)
  · skip
    refine w_aload_n rfl rfl rfl ?_
    refine w_getR rfl rfl (sh_src hl) rfl rfl ?_
    refine w_getR rfl rfl (sh_srow hl).1 rfl rfl ?_
    refine w_iload_n rfl rfl rfl ?_
    refine w_lald (z := tx t a) rfl (sh_srow hl).2.1 (by omega) (by omega) (by decide) (hs.2 _ (by omega) (by omega)).1 rfl ?_
    refine w_lstore rfl (by decide) rfl ?_
    refine w_iload_n rfl rfl rfl ?_
    refine w_iconst rfl rfl ?_
    refine w_iadd rfl rfl ?_
    refine w_iload_n rfl rfl rfl ?_
    refine w_ic_ne (pc2 := 29) (pc3 := 25) rfl (by decide) rfl ⟨by omega, by omega⟩ ⟨by omega, by omega⟩ (fun c22 => ?_) (fun c22 => ?_)
    · skip
      refine w_iconst rfl rfl ?_
      refine w_istore rfl (by decide) rfl ?_
      refine w_lload rfl rfl rfl ?_
      refine w_ldcs (q := 8) rfl rfl rfl ?_
      refine w_CS (as := [.long (tx t a), .retAddr 8]) (r := []) rfl rfl rfl rfl (Nat.le_of_ble_eq_true rfl) (Nat.le_of_ble_eq_true rfl) (by omega) rfl (c_spl (x := tx t a) (q := 8) ⟨by decide, by decide⟩ spk_8 (by omega)) ?_
      rintro _ _ ⟨rfl, hS⟩
      rw [hS]
      show w_T _ _ 67 39 _ [.int (iZ (zB (decide ((tx t a) = 3463301461861))))] _ _
      refine w_p_eq (pc2 := 52) (pc3 := 42) rfl (by decide) rfl (fun c39 => ?_) (fun c39 => ?_)
      · skip
        refine w_lload rfl rfl rfl ?_
        refine w_ldcs (q := 9) rfl rfl rfl ?_
        refine w_CS (as := [.long (tx t a), .retAddr 9]) (r := []) rfl rfl rfl rfl (Nat.le_of_ble_eq_true rfl) (Nat.le_of_ble_eq_true rfl) (by omega) rfl (c_spl (x := tx t a) (q := 9) ⟨by decide, by decide⟩ spk_9 (by omega)) ?_
        rintro _ _ ⟨rfl, hS⟩
        rw [hS]
        show w_T _ _ 67 59 _ [.int (iZ (zB (decide ((tx t a) = 465601258418789))))] _ _
        refine w_p_eq (pc2 := 75) (pc3 := 62) rfl (by decide) rfl (fun c59 => ?_) (fun c59 => ?_)
        · skip
          refine w_lload rfl rfl rfl ?_
          refine w_ldcs (q := 10) rfl rfl rfl ?_
          refine w_CS (as := [.long (tx t a), .retAddr 10]) (r := []) rfl rfl rfl rfl (Nat.le_of_ble_eq_true rfl) (Nat.le_of_ble_eq_true rfl) (by omega) rfl (c_spl (x := tx t a) (q := 10) ⟨by decide, by decide⟩ spk_10 (by omega)) ?_
          rintro _ _ ⟨rfl, hS⟩
          rw [hS]
          show w_T _ _ 67 82 _ [.int (iZ (zB (decide ((tx t a) = 213596645))))] _ _
          refine w_p_eq (pc2 := 99) (pc3 := 85) rfl (by decide) rfl (fun c82 => ?_) (fun c82 => ?_)
          · skip
            refine w_lload rfl rfl rfl ?_
            refine w_ldcs (q := 11) rfl rfl rfl ?_
            refine w_CS (as := [.long (tx t a), .retAddr 11]) (r := []) rfl rfl rfl rfl (Nat.le_of_ble_eq_true rfl) (Nat.le_of_ble_eq_true rfl) (by omega) rfl (c_spl (x := tx t a) (q := 11) ⟨by decide, by decide⟩ spk_11 (by omega)) ?_
            rintro _ _ ⟨rfl, hS⟩
            rw [hS]
            show w_T _ _ 67 106 _ [.int (iZ (zB (decide ((tx t a) = 27344319718))))] _ _
            refine w_p_eq (pc2 := 123) (pc3 := 109) rfl (by decide) rfl (fun c106 => ?_) (fun c106 => ?_)
            · skip
              refine w_iload_n rfl rfl rfl ?_
              refine w_iconst rfl rfl ?_
              refine w_iadd rfl rfl ?_
              refine w_iload_n rfl rfl rfl ?_
              refine w_ic_ne (pc2 := 147) (pc3 := 130) rfl (by decide) rfl ⟨by omega, by omega⟩ ⟨by omega, by omega⟩ (fun c127 => ?_) (fun c127 => ?_)
              · skip
                refine w_iconst rfl rfl ?_
                refine w_iret rfl rfl ?_
                have hz : (ob T t cs a e l ic) = (3, T, cs, -1) := by
                  unfold ob
                  rw [if_neg (by omega), if_neg c39, if_neg c59, if_neg c82, if_neg c106, if_pos (by first | (intro z; omega) | (intro z; rw [c144] at z; exact absurd z.2 (by decide)))]
                rw [hz]
                exact ⟨rfl, fr_refl _ _, fun _ _ => rfl, ⟨pi, ht⟩, hc, fun _ => ⟨hlv, hic⟩, fun z => absurd (show (0 : Int) ≤ -1 from z) (by decide)⟩
              · skip
                refine w_aload_n rfl rfl rfl ?_
                refine w_getR rfl rfl (sh_src hl) rfl rfl ?_
                refine w_getR rfl rfl (sh_srow hl).1 rfl rfl ?_
                refine w_iload_n rfl rfl rfl ?_
                refine w_iconst rfl rfl ?_
                refine w_iadd rfl rfl ?_
                refine w_lald (z := tx t (a + 1)) rfl (sh_srow hl).2.1 (by omega) (by omega) (by decide) (hs.2 _ (by omega) (by omega)).1 rfl ?_
                refine w_CS (as := [.long (tx t (a + 1))]) (r := []) rfl rfl rfl rfl (Nat.le_of_ble_eq_true rfl) (Nat.le_of_ble_eq_true rfl) (by omega) rfl (c_nam (x := tx t (a + 1)) (hto _ (by omega) (by omega)).1 (by omega)) ?_
                rintro _ _ ⟨rfl, hS⟩
                rw [hS]
                show w_T _ _ 67 144 _ [.int (iZ (zB (nam (tx t (a + 1)))))] _ _
                refine w_b_ne (pc2 := 149) (pc3 := 147) rfl (by decide) rfl (fun c144 => ?_) (fun c144 => ?_)
                · skip
                  refine w_aload_n rfl rfl rfl ?_
                  refine w_aload_n rfl rfl rfl ?_
                  refine w_lload rfl rfl rfl ?_
                  refine w_aload_n rfl rfl rfl ?_
                  refine w_getR rfl rfl (sh_src hl) rfl rfl ?_
                  refine w_getR rfl rfl (sh_srow hl).1 rfl rfl ?_
                  refine w_iload_n rfl rfl rfl ?_
                  refine w_iconst rfl rfl ?_
                  refine w_iadd rfl rfl ?_
                  refine w_lald (z := tx t (a + 1)) rfl (sh_srow hl).2.1 (by omega) (by omega) (by decide) (hs.2 _ (by omega) (by omega)).1 rfl ?_
                  refine w_CV (as := [.ref (202 + 8 * l), .long (tx t a), .long (tx t (a + 1))]) (r := []) rfl rfl rfl rfl sh_2 (Nat.le_of_ble_eq_true rfl) (Nat.le_of_ble_eq_true rfl) (by omega) rfl (c_obn (cs := cs) (x := tx t a) (y := tx t (a + 1)) hl ht hc h18 hlv hic (by omega)) ?_
                  intro v2 V hob
                  have hv := hob.1
                  rw [hv]
                  show w_T _ _ 67 167 _ [.int (iZ (obn T cs (tx t a) (tx t (a + 1))).1)] _ _
                  refine w_iret rfl rfl ?_
                  have hz : (ob T t cs a e l ic) = obn T cs (tx t a) (tx t (a + 1)) := by
                    unfold ob
                    rw [if_neg (by omega), if_neg c39, if_neg c59, if_neg c82, if_neg c106, if_neg (not_not_intro ⟨by omega, c144⟩)]
                  rw [hz, ← hv]
                  exact hob
                · skip
                  refine w_iconst rfl rfl ?_
                  refine w_iret rfl rfl ?_
                  have hz : (ob T t cs a e l ic) = (3, T, cs, -1) := by
                    unfold ob
                    rw [if_neg (by omega), if_neg c39, if_neg c59, if_neg c82, if_neg c106, if_pos (by first | (intro z; omega) | (intro z; rw [c144] at z; exact absurd z.2 (by decide)))]
                  rw [hz]
                  exact ⟨rfl, fr_refl _ _, fun _ _ => rfl, ⟨pi, ht⟩, hc, fun _ => ⟨hlv, hic⟩, fun z => absurd (show (0 : Int) ≤ -1 from z) (by decide)⟩
            · skip
              refine w_iload rfl rfl rfl ?_
              refine w_if_eq (pc2 := 121) (pc3 := 114) rfl (by decide) rfl ⟨by decide, by decide⟩ (fun _ => ?_) (fun hc => absurd hc (by decide))
              refine w_iconst rfl rfl ?_
              refine w_iret rfl rfl ?_
              have hz : (ob T t cs a e l ic) = (3, T, cs, -1) := by
                unfold ob
                rw [if_neg (by omega), if_neg c39, if_neg c59, if_neg c82, if_pos c106, if_neg (by omega)]
              rw [hz]
              exact ⟨rfl, fr_refl _ _, fun _ _ => rfl, ⟨pi, ht⟩, hc, fun _ => ⟨hlv, hic⟩, fun z => absurd (show (0 : Int) ≤ -1 from z) (by decide)⟩
          · skip
            refine w_iload rfl rfl rfl ?_
            refine w_if_eq (pc2 := 97) (pc3 := 90) rfl (by decide) rfl ⟨by decide, by decide⟩ (fun _ => ?_) (fun hc => absurd hc (by decide))
            refine w_iconst rfl rfl ?_
            refine w_iret rfl rfl ?_
            have hz : (ob T t cs a e l ic) = (3, T, cs, -1) := by
              unfold ob
              rw [if_neg (by omega), if_neg c39, if_neg c59, if_pos c82, if_neg (by omega)]
            rw [hz]
            exact ⟨rfl, fr_refl _ _, fun _ _ => rfl, ⟨pi, ht⟩, hc, fun _ => ⟨hlv, hic⟩, fun z => absurd (show (0 : Int) ≤ -1 from z) (by decide)⟩
        · skip
          refine w_aload_n rfl rfl rfl ?_
          refine w_aload_n rfl rfl rfl ?_
          refine w_getR rfl rfl (sh_src hl) rfl rfl ?_
          refine w_iload_n rfl rfl rfl ?_
          refine w_iconst rfl rfl ?_
          refine w_iadd rfl rfl ?_
          refine w_iload_n rfl rfl rfl ?_
          refine w_CV (as := [.ref (203 + 8 * l), .int (iZ (a + 1)), .int (iZ e)]) (r := []) rfl rfl rfl rfl sh_2 (Nat.le_of_ble_eq_true rfl) (Nat.le_of_ble_eq_true rfl) (by omega) rfl (c_inc (a := a + 1) (e := e) hl hs hto ht6 h201 hlv hic i0 i10 (by omega) (by omega) (by omega) (by omega) (by omega)) ?_
          rintro _ V ⟨rfl, f1, f2⟩
          show w_T _ _ 67 74 _ [.int (iZ (icd (tx t) (a + 1) e l ic))] _ _
          refine w_iret rfl rfl ?_
          have hz : (ob T t cs a e l ic) = (icd (tx t) (a + 1) e l ic, T, cs, if icd (tx t) (a + 1) e l ic = 0 then (tx t (a + 2)).toInt - 48 else -1) := by
            unfold ob
            rw [if_neg (by omega), if_neg c39, if_pos c59]
          rw [hz]
          by_cases hi : icd (tx t) (a + 1) e l ic = 0
          · have g := f2 hi
            have e2 : a + 1 + 1 = a + 2 := by omega
            rw [e2] at g
            rw [if_pos hi]
            have hfq : (0 : Int) ≤ (tx t (a + 2)).toInt - 48 := g.2.2.2.2.2.1
            exact ⟨rfl, fr_mono g.2.1 (fun b hb => hb.elim Or.inl (fun z => Or.inr (Or.inr (Or.inr (Or.inr (Or.inr ⟨hfq, z⟩)))))), fun k _ => fr_gv g.2.1 (by omega) k, ⟨pi, ctab_fr ht g.2.1 (by omega)⟩, ⟨by rw [fr_gv g.2.1 (by omega)]; exact hc.1, by rw [fr_gA g.2.1 (by omega), fr_gA g.2.1 (by omega)]; exact hc.2.1, by rw [fr_gv g.2.1 (by omega)]; exact hc.2.2⟩, fun z => by have z2 : (tx t (a + 2)).toInt - 48 = -1 := z; omega, fun _ => ⟨g.2.2.1, g.2.2.2.1, g.2.2.2.2.1⟩⟩
          · rw [f1 hi, if_neg hi]
            exact ⟨rfl, fr_refl _ _, fun _ _ => rfl, ⟨pi, ht⟩, hc, fun _ => ⟨hlv, hic⟩, fun z => absurd (show (0 : Int) ≤ -1 from z) (by decide)⟩
      · skip
        refine w_aload_n rfl rfl rfl ?_
        refine w_aload_n rfl rfl rfl ?_
        refine w_iload_n rfl rfl rfl ?_
        refine w_iconst rfl rfl ?_
        refine w_iadd rfl rfl ?_
        refine w_iload_n rfl rfl rfl ?_
        refine w_CV (as := [.ref (202 + 8 * l), .int (iZ (a + 1)), .int (iZ e)]) (r := []) rfl rfl rfl rfl sh_2 (Nat.le_of_ble_eq_true rfl) (Nat.le_of_ble_eq_true rfl) (by omega) rfl (c_dfn (pi := pi) (T := T) (a := a + 1) (e := e) hl hs hto ht6 ht (by omega) (by omega) (by omega) (by omega) (by omega)) ?_
        rintro _ V ⟨rfl, f1, ht1⟩
        show w_T _ _ 67 51 _ [.int (iZ ((dfn T t (a + 1) e).1))] _ _
        refine w_iret rfl rfl ?_
        have hz : (ob T t cs a e l ic) = ((dfn T t (a + 1) e).1, (dfn T t (a + 1) e).2, cs, -1) := by
          unfold ob
          rw [if_neg (by omega), if_pos c39]
        rw [hz]
        exact ⟨rfl, fr_mono f1 (by omega), fun k _ => fr_gv f1 (by omega) k, ⟨pi, ht1⟩, ⟨by rw [fr_gv f1 (by omega)]; exact hc.1, by rw [fr_gA f1 (by omega), fr_gA f1 (by omega)]; exact hc.2.1, by rw [fr_gv f1 (by omega)]; exact hc.2.2⟩, fun _ => ⟨by rw [fr_gv f1 (by omega)]; exact hlv, by rw [fr_gv f1 (by omega)]; exact hic⟩, fun z => absurd (show (0 : Int) ≤ -1 from z) (by decide)⟩
    · skip
      refine w_iconst rfl rfl ?_
      refine w_goto (pc2 := 30) rfl (by decide) ?_
      refine w_istore rfl (by decide) rfl ?_
      refine w_lload rfl rfl rfl ?_
      refine w_ldcs (q := 8) rfl rfl rfl ?_
      refine w_CS (as := [.long (tx t a), .retAddr 8]) (r := []) rfl rfl rfl rfl (Nat.le_of_ble_eq_true rfl) (Nat.le_of_ble_eq_true rfl) (by omega) rfl (c_spl (x := tx t a) (q := 8) ⟨by decide, by decide⟩ spk_8 (by omega)) ?_
      rintro _ _ ⟨rfl, hS⟩
      rw [hS]
      show w_T _ _ 67 39 _ [.int (iZ (zB (decide ((tx t a) = 3463301461861))))] _ _
      refine w_p_eq (pc2 := 52) (pc3 := 42) rfl (by decide) rfl (fun c39 => ?_) (fun c39 => ?_)
      · skip
        refine w_lload rfl rfl rfl ?_
        refine w_ldcs (q := 9) rfl rfl rfl ?_
        refine w_CS (as := [.long (tx t a), .retAddr 9]) (r := []) rfl rfl rfl rfl (Nat.le_of_ble_eq_true rfl) (Nat.le_of_ble_eq_true rfl) (by omega) rfl (c_spl (x := tx t a) (q := 9) ⟨by decide, by decide⟩ spk_9 (by omega)) ?_
        rintro _ _ ⟨rfl, hS⟩
        rw [hS]
        show w_T _ _ 67 59 _ [.int (iZ (zB (decide ((tx t a) = 465601258418789))))] _ _
        refine w_p_eq (pc2 := 75) (pc3 := 62) rfl (by decide) rfl (fun c59 => ?_) (fun c59 => ?_)
        · skip
          refine w_lload rfl rfl rfl ?_
          refine w_ldcs (q := 10) rfl rfl rfl ?_
          refine w_CS (as := [.long (tx t a), .retAddr 10]) (r := []) rfl rfl rfl rfl (Nat.le_of_ble_eq_true rfl) (Nat.le_of_ble_eq_true rfl) (by omega) rfl (c_spl (x := tx t a) (q := 10) ⟨by decide, by decide⟩ spk_10 (by omega)) ?_
          rintro _ _ ⟨rfl, hS⟩
          rw [hS]
          show w_T _ _ 67 82 _ [.int (iZ (zB (decide ((tx t a) = 213596645))))] _ _
          refine w_p_eq (pc2 := 99) (pc3 := 85) rfl (by decide) rfl (fun c82 => ?_) (fun c82 => ?_)
          · skip
            refine w_lload rfl rfl rfl ?_
            refine w_ldcs (q := 11) rfl rfl rfl ?_
            refine w_CS (as := [.long (tx t a), .retAddr 11]) (r := []) rfl rfl rfl rfl (Nat.le_of_ble_eq_true rfl) (Nat.le_of_ble_eq_true rfl) (by omega) rfl (c_spl (x := tx t a) (q := 11) ⟨by decide, by decide⟩ spk_11 (by omega)) ?_
            rintro _ _ ⟨rfl, hS⟩
            rw [hS]
            show w_T _ _ 67 106 _ [.int (iZ (zB (decide ((tx t a) = 27344319718))))] _ _
            refine w_p_eq (pc2 := 123) (pc3 := 109) rfl (by decide) rfl (fun c106 => ?_) (fun c106 => ?_)
            · skip
              refine w_iload_n rfl rfl rfl ?_
              refine w_iconst rfl rfl ?_
              refine w_iadd rfl rfl ?_
              refine w_iload_n rfl rfl rfl ?_
              refine w_ic_ne (pc2 := 147) (pc3 := 130) rfl (by decide) rfl ⟨by omega, by omega⟩ ⟨by omega, by omega⟩ (fun c127 => ?_) (fun c127 => ?_)
              · skip
                refine w_iconst rfl rfl ?_
                refine w_iret rfl rfl ?_
                have hz : (ob T t cs a e l ic) = (3, T, cs, -1) := by
                  unfold ob
                  rw [if_neg (by omega), if_neg c39, if_neg c59, if_neg c82, if_neg c106, if_pos (by first | (intro z; omega) | (intro z; rw [c144] at z; exact absurd z.2 (by decide)))]
                rw [hz]
                exact ⟨rfl, fr_refl _ _, fun _ _ => rfl, ⟨pi, ht⟩, hc, fun _ => ⟨hlv, hic⟩, fun z => absurd (show (0 : Int) ≤ -1 from z) (by decide)⟩
              · skip
                refine w_aload_n rfl rfl rfl ?_
                refine w_getR rfl rfl (sh_src hl) rfl rfl ?_
                refine w_getR rfl rfl (sh_srow hl).1 rfl rfl ?_
                refine w_iload_n rfl rfl rfl ?_
                refine w_iconst rfl rfl ?_
                refine w_iadd rfl rfl ?_
                refine w_lald (z := tx t (a + 1)) rfl (sh_srow hl).2.1 (by omega) (by omega) (by decide) (hs.2 _ (by omega) (by omega)).1 rfl ?_
                refine w_CS (as := [.long (tx t (a + 1))]) (r := []) rfl rfl rfl rfl (Nat.le_of_ble_eq_true rfl) (Nat.le_of_ble_eq_true rfl) (by omega) rfl (c_nam (x := tx t (a + 1)) (hto _ (by omega) (by omega)).1 (by omega)) ?_
                rintro _ _ ⟨rfl, hS⟩
                rw [hS]
                show w_T _ _ 67 144 _ [.int (iZ (zB (nam (tx t (a + 1)))))] _ _
                refine w_b_ne (pc2 := 149) (pc3 := 147) rfl (by decide) rfl (fun c144 => ?_) (fun c144 => ?_)
                · skip
                  refine w_aload_n rfl rfl rfl ?_
                  refine w_aload_n rfl rfl rfl ?_
                  refine w_lload rfl rfl rfl ?_
                  refine w_aload_n rfl rfl rfl ?_
                  refine w_getR rfl rfl (sh_src hl) rfl rfl ?_
                  refine w_getR rfl rfl (sh_srow hl).1 rfl rfl ?_
                  refine w_iload_n rfl rfl rfl ?_
                  refine w_iconst rfl rfl ?_
                  refine w_iadd rfl rfl ?_
                  refine w_lald (z := tx t (a + 1)) rfl (sh_srow hl).2.1 (by omega) (by omega) (by decide) (hs.2 _ (by omega) (by omega)).1 rfl ?_
                  refine w_CV (as := [.ref (202 + 8 * l), .long (tx t a), .long (tx t (a + 1))]) (r := []) rfl rfl rfl rfl sh_2 (Nat.le_of_ble_eq_true rfl) (Nat.le_of_ble_eq_true rfl) (by omega) rfl (c_obn (cs := cs) (x := tx t a) (y := tx t (a + 1)) hl ht hc h18 hlv hic (by omega)) ?_
                  intro v2 V hob
                  have hv := hob.1
                  rw [hv]
                  show w_T _ _ 67 167 _ [.int (iZ (obn T cs (tx t a) (tx t (a + 1))).1)] _ _
                  refine w_iret rfl rfl ?_
                  have hz : (ob T t cs a e l ic) = obn T cs (tx t a) (tx t (a + 1)) := by
                    unfold ob
                    rw [if_neg (by omega), if_neg c39, if_neg c59, if_neg c82, if_neg c106, if_neg (not_not_intro ⟨by omega, c144⟩)]
                  rw [hz, ← hv]
                  exact hob
                · skip
                  refine w_iconst rfl rfl ?_
                  refine w_iret rfl rfl ?_
                  have hz : (ob T t cs a e l ic) = (3, T, cs, -1) := by
                    unfold ob
                    rw [if_neg (by omega), if_neg c39, if_neg c59, if_neg c82, if_neg c106, if_pos (by first | (intro z; omega) | (intro z; rw [c144] at z; exact absurd z.2 (by decide)))]
                  rw [hz]
                  exact ⟨rfl, fr_refl _ _, fun _ _ => rfl, ⟨pi, ht⟩, hc, fun _ => ⟨hlv, hic⟩, fun z => absurd (show (0 : Int) ≤ -1 from z) (by decide)⟩
            · skip
              refine w_iload rfl rfl rfl ?_
              refine w_if_eq (pc2 := 121) (pc3 := 114) rfl (by decide) rfl ⟨by decide, by decide⟩ (fun hc => absurd hc (by decide)) (fun _ => ?_)
              refine w_aload_n rfl rfl rfl ?_
              refine w_CV (as := []) (r := []) rfl rfl rfl rfl (sh_src hl) (Nat.le_of_ble_eq_true rfl) (Nat.le_of_ble_eq_true rfl) (by omega) rfl (c_cls (cs := cs) hl hc hq (by omega) (by omega)) ?_
              rintro _ V ⟨rfl, f1, f2, f3⟩
              show w_T _ _ 67 118 _ [.int (iZ ((tcls cs).1))] _ _
              refine w_goto (pc2 := 122) rfl (by decide) ?_
              refine w_iret rfl rfl ?_
              have hz : (ob T t cs a e l ic) = ((tcls cs).1, T, (tcls cs).2, -1) := by
                unfold ob
                rw [if_neg (by omega), if_neg c39, if_neg c59, if_neg c82, if_pos c106, if_pos (by omega)]
              rw [hz]
              exact ⟨rfl, fr_mono f1 (by omega), f2, ⟨pi, ctab_fr ht f1 (by omega)⟩, f3, fun _ => ⟨by rw [fr_gv f1 (by omega)]; exact hlv, by rw [fr_gv f1 (by omega)]; exact hic⟩, fun z => absurd (show (0 : Int) ≤ -1 from z) (by decide)⟩
          · skip
            refine w_iload rfl rfl rfl ?_
            refine w_if_eq (pc2 := 97) (pc3 := 90) rfl (by decide) rfl ⟨by decide, by decide⟩ (fun hc => absurd hc (by decide)) (fun _ => ?_)
            refine w_aload_n rfl rfl rfl ?_
            refine w_CV (as := []) (r := []) rfl rfl rfl rfl (sh_src hl) (Nat.le_of_ble_eq_true rfl) (Nat.le_of_ble_eq_true rfl) (by omega) rfl (c_els (cs := cs) hl hc (by omega) (by omega)) ?_
            rintro _ V ⟨rfl, f1, f2, f3⟩
            show w_T _ _ 67 94 _ [.int (iZ ((tels cs).1))] _ _
            refine w_goto (pc2 := 98) rfl (by decide) ?_
            refine w_iret rfl rfl ?_
            have hz : (ob T t cs a e l ic) = ((tels cs).1, T, (tels cs).2, -1) := by
              unfold ob
              rw [if_neg (by omega), if_neg c39, if_neg c59, if_pos c82, if_pos (by omega)]
            rw [hz]
            exact ⟨rfl, fr_mono f1 (by omega), f2, ⟨pi, ctab_fr ht f1 (by omega)⟩, f3, fun _ => ⟨by rw [fr_gv f1 (by omega)]; exact hlv, by rw [fr_gv f1 (by omega)]; exact hic⟩, fun z => absurd (show (0 : Int) ≤ -1 from z) (by decide)⟩
        · skip
          refine w_aload_n rfl rfl rfl ?_
          refine w_aload_n rfl rfl rfl ?_
          refine w_getR rfl rfl (sh_src hl) rfl rfl ?_
          refine w_iload_n rfl rfl rfl ?_
          refine w_iconst rfl rfl ?_
          refine w_iadd rfl rfl ?_
          refine w_iload_n rfl rfl rfl ?_
          refine w_CV (as := [.ref (203 + 8 * l), .int (iZ (a + 1)), .int (iZ e)]) (r := []) rfl rfl rfl rfl sh_2 (Nat.le_of_ble_eq_true rfl) (Nat.le_of_ble_eq_true rfl) (by omega) rfl (c_inc (a := a + 1) (e := e) hl hs hto ht6 h201 hlv hic i0 i10 (by omega) (by omega) (by omega) (by omega) (by omega)) ?_
          rintro _ V ⟨rfl, f1, f2⟩
          show w_T _ _ 67 74 _ [.int (iZ (icd (tx t) (a + 1) e l ic))] _ _
          refine w_iret rfl rfl ?_
          have hz : (ob T t cs a e l ic) = (icd (tx t) (a + 1) e l ic, T, cs, if icd (tx t) (a + 1) e l ic = 0 then (tx t (a + 2)).toInt - 48 else -1) := by
            unfold ob
            rw [if_neg (by omega), if_neg c39, if_pos c59]
          rw [hz]
          by_cases hi : icd (tx t) (a + 1) e l ic = 0
          · have g := f2 hi
            have e2 : a + 1 + 1 = a + 2 := by omega
            rw [e2] at g
            rw [if_pos hi]
            have hfq : (0 : Int) ≤ (tx t (a + 2)).toInt - 48 := g.2.2.2.2.2.1
            exact ⟨rfl, fr_mono g.2.1 (fun b hb => hb.elim Or.inl (fun z => Or.inr (Or.inr (Or.inr (Or.inr (Or.inr ⟨hfq, z⟩)))))), fun k _ => fr_gv g.2.1 (by omega) k, ⟨pi, ctab_fr ht g.2.1 (by omega)⟩, ⟨by rw [fr_gv g.2.1 (by omega)]; exact hc.1, by rw [fr_gA g.2.1 (by omega), fr_gA g.2.1 (by omega)]; exact hc.2.1, by rw [fr_gv g.2.1 (by omega)]; exact hc.2.2⟩, fun z => by have z2 : (tx t (a + 2)).toInt - 48 = -1 := z; omega, fun _ => ⟨g.2.2.1, g.2.2.2.1, g.2.2.2.2.1⟩⟩
          · rw [f1 hi, if_neg hi]
            exact ⟨rfl, fr_refl _ _, fun _ _ => rfl, ⟨pi, ht⟩, hc, fun _ => ⟨hlv, hic⟩, fun z => absurd (show (0 : Int) ≤ -1 from z) (by decide)⟩
      · skip
        refine w_aload_n rfl rfl rfl ?_
        refine w_aload_n rfl rfl rfl ?_
        refine w_iload_n rfl rfl rfl ?_
        refine w_iconst rfl rfl ?_
        refine w_iadd rfl rfl ?_
        refine w_iload_n rfl rfl rfl ?_
        refine w_CV (as := [.ref (202 + 8 * l), .int (iZ (a + 1)), .int (iZ e)]) (r := []) rfl rfl rfl rfl sh_2 (Nat.le_of_ble_eq_true rfl) (Nat.le_of_ble_eq_true rfl) (by omega) rfl (c_dfn (pi := pi) (T := T) (a := a + 1) (e := e) hl hs hto ht6 ht (by omega) (by omega) (by omega) (by omega) (by omega)) ?_
        rintro _ V ⟨rfl, f1, ht1⟩
        show w_T _ _ 67 51 _ [.int (iZ ((dfn T t (a + 1) e).1))] _ _
        refine w_iret rfl rfl ?_
        have hz : (ob T t cs a e l ic) = ((dfn T t (a + 1) e).1, (dfn T t (a + 1) e).2, cs, -1) := by
          unfold ob
          rw [if_neg (by omega), if_pos c39]
        rw [hz]
        exact ⟨rfl, fr_mono f1 (by omega), fun k _ => fr_gv f1 (by omega) k, ⟨pi, ht1⟩, ⟨by rw [fr_gv f1 (by omega)]; exact hc.1, by rw [fr_gA f1 (by omega), fr_gA f1 (by omega)]; exact hc.2.1, by rw [fr_gv f1 (by omega)]; exact hc.2.2⟩, fun _ => ⟨by rw [fr_gv f1 (by omega)]; exact hlv, by rw [fr_gv f1 (by omega)]; exact hic⟩, fun z => absurd (show (0 : Int) ≤ -1 from z) (by decide)⟩
  · skip
    refine w_iconst rfl rfl ?_
    refine w_iret rfl rfl ?_
    have hz : (ob T t cs a e l ic) = (0, T, cs, -1) := by
      unfold ob
      rw [if_pos (by omega)]
    rw [hz]
    exact ⟨rfl, fr_refl _ _, fun _ _ => rfl, ⟨pi, ht⟩, hc, fun _ => ⟨hlv, hic⟩, fun z => absurd (show (0 : Int) ≤ -1 from z) (by decide)⟩
