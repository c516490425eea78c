/-! A line, and the end of a file: the class. -/
abbrev Frm : Type := List Tok × Int × Int × List Cnd × Int
abbrev Tlr : Type := Int × Frm × List Mac × Int × List OTok × Int
def xg (T : List Mac) (r : Int) (ol : List OTok) (G : List ETok) : Int × Int × List OTok := (if ¬ (expL T 4000 r G []).1 = 0 then (expL T 4000 r G []).1 else if 100 < (ol.length : Int) + (expL T 4000 r G []).2.2.length then 7 else 0, (expL T 4000 r G []).2.1, ol ++ (expL T 4000 r G []).2.2.map eot)
def tkl (T : List Mac) (r : Int) (ol : List OTok) (t : List Tok) (nx gr : Int) (cs : List Cnd) (dp lv ic : Int) : Tlr :=
  if skp cs = true ∧ (lvs (tx t) nx (lnE t nx) dp).1 = false then (0, (t, lnE t nx, lnE t nx, cs, (lvs (tx t) nx (lnE t nx) dp).2), T, r, ol, -1)
  else if ¬ tx t nx = 35 then (0, (t, lnE t nx, gr, cs, dp), T, r, ol, -1)
  else if ¬ (xg T r ol (grp t gr nx)).1 = 0 then ((xg T r ol (grp t gr nx)).1, (t, lnE t nx, lnE t nx, cs, dp), T, (xg T r ol (grp t gr nx)).2.1, ol, -1)
  else ((ob T t cs (nx + 1) (lnE t nx) lv ic).1, (t, lnE t nx, lnE t nx, (ob T t cs (nx + 1) (lnE t nx) lv ic).2.2.1, dp), (ob T t cs (nx + 1) (lnE t nx) lv ic).2.1, (xg T r ol (grp t gr nx)).2.1, (xg T r ol (grp t gr nx)).2.2, (ob T t cs (nx + 1) (lnE t nx) lv ic).2.2.2)
def frep (S : w_S) (l : Nat) (f : Frm) : Prop := srep S l f.1 ∧ sv S (202 + 8 * l) 1 = 1 ∧ sv S (202 + 8 * l) 7 = f.2.1 ∧ sv S (202 + 8 * l) 8 = f.2.2.1 ∧ crep S l f.2.2.2.1 ∧ sv S (202 + 8 * l) 11 = f.2.2.2.2
def FT (l : Nat) (f : Int) (a : Nat) : Prop := a = 2 ∨ a = 3 ∨ (4 ≤ a ∧ a < 42) ∨ (43 ≤ a ∧ a ≤ 197) ∨ a = 202 + 8 * l ∨ a = 208 + 8 * l ∨ a = 209 + 8 * l ∨ (0 ≤ f ∧ (a = 210 + 8 * l ∨ a = 211 + 8 * l))
def TLp (S S2 : w_S) (l : Nat) (ic : Int) (q : Tlr) (v : Option Value) : Prop := v = some (.int (iZ q.1)) ∧ fr (FT l q.2.2.2.2.2) S S2 ∧ frep S2 l q.2.1 ∧ (∃ p2, ctab S2 p2 q.2.2.1) ∧ sv S2 3 2 = q.2.2.2.1 ∧ (q.1 = 0 → sv S2 30 2 = q.2.2.2.2.1.length ∧ ofn (sL S2 31) (sA S2 32) 256 0 q.2.2.2.2.1) ∧ (q.2.2.2.2.2 = -1 → sv S2 2 3 = l ∧ sv S2 2 4 = ic) ∧ (0 ≤ q.2.2.2.2.2 → sv S2 2 3 = l + 1 ∧ sv S2 2 4 = ic + 1 ∧ RST S2 (l + 1) q.2.2.2.2.2)
theorem srep_fr {c : Nat → Prop} {S S2 : w_S} {l : Nat} {t : List Tok} (h : srep S l t) (f : fr c S S2) (hc : ∀ a, 203 + 8 * l ≤ a → a ≤ 207 + 8 * l → ¬ c a) : srep S2 l t := ⟨by rw [fr_gv f (hc _ (by omega) (by omega))]; exact h.1, fun j j0 j1 => by rw [fr_gL f (hc _ (by omega) (by omega)), fr_gA f (hc (205 + 8 * l) (by omega) (by omega)), fr_gA f (hc (206 + 8 * l) (by omega) (by omega)), fr_gA f (hc (207 + 8 * l) (by omega) (by omega))]; exact h.2 j j0 j1⟩
theorem crep_fr {c : Nat → Prop} {S S2 : w_S} {l : Nat} {cs : List Cnd} (h : crep S l cs) (f : fr c S S2) (h9 : sv S2 (202 + 8 * l) 9 = sv S (202 + 8 * l) 9) (h10 : sv S2 (202 + 8 * l) 10 = sv S (202 + 8 * l) 10) (hc1 : ¬ c (208 + 8 * l)) (hc2 : ¬ c (209 + 8 * l)) : crep S2 l cs := ⟨by rw [h9]; exact h.1, by rw [fr_gA f hc1, fr_gA f hc2]; exact h.2.1, by rw [h10]; exact h.2.2⟩
theorem lvs_t {X : Int → Int64} {a e dp : Int} (h : (lvs X a e dp).1 = true) : (lvs X a e dp).2 = dp := by
  unfold lvs at h ⊢
  split
  · rfl
  · rename_i h1
    rw [if_neg h1] at h
    split
    · rename_i h2
      rw [if_pos h2] at h
      exact Bool.noConfusion (show false = true from h)
    · rename_i h2
      rw [if_neg h2] at h
      split
      · rename_i h3
        rw [if_pos h3] at h
        exact Bool.noConfusion (show false = true from h)
      · rfl
theorem lvs_r {X : Int → Int64} {a e dp : Int} (h : 0 ≤ dp) : 0 ≤ (lvs X a e dp).2 ∧ (lvs X a e dp).2 ≤ dp + 1 := by
  unfold lvs
  split
  · exact ⟨h, by show dp ≤ dp + 1; omega⟩
  · split
    · exact ⟨by show 0 ≤ dp + 1; omega, Int.le_refl _⟩
    · split
      · show 0 ≤ dp - _ ∧ dp - _ ≤ dp + 1
        split <;> omega
      · exact ⟨h, by show dp ≤ dp + 1; omega⟩
theorem xg_r {S : w_S} {pi : Nat → Nat} {T : List Mac} (ht : ctab S pi T) (r : Int) (G : List ETok) (ol : List OTok) (hr : r ≤ 30) : 0 ≤ (xg T r ol G).1 ∧ (xg T r ol G).1 ≤ 99 ∧ r ≤ (xg T r ol G).2.1 ∧ (xg T r ol G).2.1 ≤ 30 ∧ ((xg T r ol G).1 = 0 → (xg T r ol G).2.2.length ≤ 100) := by
  have x := expL_r (T := T) (fun k k0 k1 => (ht.2.2.2.2.2 k k0 k1).2) 4000 r G [] hr
  unfold xg
  refine ⟨?_, ?_, x.2.2.1, x.2.2.2.1, fun z => ?_⟩
  · show 0 ≤ (if ¬ (expL T 4000 r G []).1 = 0 then (expL T 4000 r G []).1 else if 100 < (ol.length : Int) + (expL T 4000 r G []).2.2.length then 7 else 0)
    split
    · exact x.1
    · split <;> decide
  · show (if ¬ (expL T 4000 r G []).1 = 0 then (expL T 4000 r G []).1 else if 100 < (ol.length : Int) + (expL T 4000 r G []).2.2.length then 7 else 0) ≤ 99
    split
    · exact x.2.1
    · split <;> decide
  · have z2 : (if ¬ (expL T 4000 r G []).1 = 0 then (expL T 4000 r G []).1 else if 100 < (ol.length : Int) + (expL T 4000 r G []).2.2.length then 7 else 0) = 0 := z
    show (ol ++ (expL T 4000 r G []).2.2.map eot).length ≤ 100
    rw [List.length_append, List.length_map]
    split at z2
    · rename_i h
      exact absurd z2 h
    · split at z2
      · exact absurd z2 (by decide)
      · omega
theorem c_tkl_c {sc : x_S} {d : Nat} {S : w_S} {l : Nat} {t : List Tok} {pi : Nat → Nat} {T : List Mac} {cs : List Cnd} {nx gr dp ic r : Int} {ol : List OTok} (hl : l < 4) (hs : srep S l t) (hto : tkok t) (ht6 : t.length ≤ 160) (hln : ∀ j : Int, 0 ≤ j → j < t.length → 0 ≤ tln t j ∧ tln t j ≤ 4000) (hT : tabok T) (ht : ctab S pi T) (h42 : ∀ k : Int, 0 ≤ k → k < 31 → sR S 42 k = some (43 + 5 * k.toNat)) (h201 : ∀ k : Int, 0 ≤ k → k < 4 → sR S 201 k = some (202 + 8 * k.toNat)) (h1 : sv S (202 + 8 * l) 1 = 1) (h7 : sv S (202 + 8 * l) 7 = nx) (h8g : sv S (202 + 8 * l) 8 = gr) (hc : crep S l cs) (h11 : sv S (202 + 8 * l) 11 = dp) (hq : csok cs) (h18 : cs.length < 18) (d0 : 0 ≤ dp) (d1 : dp ≤ 180) (hlv : sv S 2 3 = l) (hic : sv S 2 4 = ic) (i0 : 0 ≤ ic) (i10 : ic ≤ 10) (hr : sv S 3 2 = r) (r0 : 0 ≤ r) (hr3 : r ≤ 30) (hoz : sv S 30 2 = ol.length) (ho1 : ol.length ≤ 100) (hof : ofn (sL S 31) (sA S 32) 256 0 ol) (g0 : 0 ≤ gr) (g1 : gr ≤ nx) (g2 : nx < t.length) (hd : 130 ≤ d) : ∀ n : Nat, (∀  (U : w_S) (lv : x_L) (l0 : lv 0 = some (.ref 2)) (l1 : lv 1 = some (.ref (202 + 8 * l))) (l2 : lv 2 = some (.int (iZ nx))) (l3 : lv 3 = some (.int (iZ (lnE t nx)))) (hsk : ¬ (skp cs = true ∧ (lvs (tx t) nx (lnE t nx) dp).1 = false)) (hfr : fr (fun a => a = 202 + 8 * l) S U) (u7 : sv U (202 + 8 * l) 7 = lnE t nx) (uk : ∀ k, ¬ k = 7 → sv U (202 + 8 * l) k = sv S (202 + 8 * l) k) (hm : 0 < n), w_T sc d 65 39 lv [] U (fun v S2 => TLp S S2 l ic (tkl T r ol t nx gr cs dp l ic) v)) := by
  intro n
  induction n with
  | zero => exact fun U lv l0 l1 l2 l3 hsk hfr u7 uk hm => absurd hm (Nat.not_lt_zero _)
  | succ n ih =>
    intro U lv l0 l1 l2 l3 hsk hfr u7 uk hm
    have hle := lnE_r (t := t) (i := nx) (by omega) g2
    have hsU := srep_fr hs hfr (by omega)
    refine w_aload_n rfl l1 rfl ?_
    refine w_getR rfl rfl (sh_src hl) rfl rfl ?_
    refine w_getR rfl rfl (sh_srow hl).1 rfl rfl ?_
    refine w_iload_n rfl l2 rfl ?_
    refine w_lald (z := tx t nx) rfl (sh_srow hl).2.1 (by omega) (by omega) (by decide) (hsU.2 _ (by omega) (by omega)).1 rfl ?_
    refine w_ldc2 (v := 35) rfl rfl rfl ?_
    refine w_l_eq (pc2 := 57) (pc3 := 55) rfl rfl (by decide) rfl (fun c52 => ?_) (fun c52 => ?_)
    · skip
      refine w_aload_n rfl l0 rfl ?_
      refine w_getR rfl rfl sh_2 rfl rfl ?_
      refine w_aload_n rfl l1 rfl ?_
      refine w_getR rfl rfl (sh_src hl) rfl rfl ?_
      refine w_aload_n rfl l1 rfl ?_
      refine w_getI (z := gr) rfl rfl (sh_src hl) rfl ((uk 8 (by decide)).trans h8g) rfl ?_
      refine w_iload_n rfl l2 rfl ?_
      refine w_CV (as := [.ref (203 + 8 * l), .int (iZ gr), .int (iZ nx)]) (r := []) rfl rfl rfl rfl sh_3 (Nat.le_of_ble_eq_true rfl) (Nat.le_of_ble_eq_true rfl) (by omega) rfl (c_xg (pi := pi) (T := T) (l := l) (a := gr) (b := nx) (r := r) (t := t) (ol := ol) hl hT (ctab_fr ht hfr (by omega)) (by rw [fr_gR hfr (by omega)]; exact h42) hsU hto ht6 g0 g1 (by omega) (by rw [fr_gv hfr (by omega)]; exact hr) r0 hr3 (by rw [fr_gv hfr (by omega)]; exact hoz) ho1 (by rw [fr_gL hfr (by omega), fr_gA hfr (by omega)]; exact hof) (by omega)) ?_
      rintro _ V ⟨rfl, f1, hr1, hx1⟩
      show w_T _ _ 65 73 _ [.int (iZ ((xg T r ol (grp t gr nx)).1))] _ _
      refine w_istore rfl (by decide) rfl ?_
      refine w_aload_n rfl l1 rfl ?_
      refine w_iload_n rfl (congrArg x_k2 l3) rfl ?_
      refine w_putf rfl rfl (sh_src hl) rfl rfl (by decide) rfl ?_
      refine w_iload rfl rfl rfl ?_
      have xr := xg_r ht r (grp t gr nx) ol hr3
      refine w_if_ne (pc2 := 97) (pc3 := 85) rfl (by decide) rfl ⟨by omega, by omega⟩ (fun c82 => ?_) (fun c82 => ?_)
      · skip
        refine w_iload rfl rfl rfl ?_
        refine w_iret rfl rfl ?_
        have hz : (tkl T r ol t nx gr cs dp l ic) = ((xg T r ol (grp t gr nx)).1, (t, lnE t nx, lnE t nx, cs, dp), T, (xg T r ol (grp t gr nx)).2.1, ol, -1) := by
          unfold tkl
          rw [if_neg hsk, if_neg (not_not_intro c52), if_pos c82]
        rw [hz]
        have hfW : fr (fun a => a = 3 ∨ (30 ≤ a ∧ a ≤ 41) ∨ (43 ≤ a ∧ a ≤ 197) ∨ a = 202 + 8 * l) S (w_v V (202 + 8 * l) 8 (lnE t nx)) := (fr_v (fr_trans (fr_mono hfr (by omega)) (fr_mono f1 (by omega))) (by omega))
        have hkW : ∀ k, ¬ (k = 7 ∨ k = 8) → sv (w_v V (202 + 8 * l) 8 (lnE t nx)) (202 + 8 * l) k = sv S (202 + 8 * l) k := fun k hk => by
          simp (disch := omega) only [rv_self, rv_ne, rl_self, rl_ne, rA_self, rA_ne, rL_self, rL_ne, rR_self, rR_ne, xvl, xvA, xvL, xvR, xlv, xlA, xlL, xlR, xAv, xAl, xAL, xAR, xLv, xLl, xLA, xLR, xRv, xRl, xRA, xRL]
          rw [fr_gv f1 (by omega)]
          exact uk k (by omega)
        refine ⟨rfl, fr_mono hfW (by unfold FT; omega), ⟨srep_fr hs hfW (by omega), by rw [hkW 1 (by decide)]; exact h1, ?_, ?_, crep_fr hc hfW (hkW 9 (by decide)) (hkW 10 (by decide)) (by omega) (by omega), by rw [hkW 11 (by decide)]; exact h11⟩, ⟨pi, ctab_fr ht hfW (by omega)⟩, ?_, fun z => absurd z c82, fun _ => ⟨by rw [fr_gv hfW (by omega)]; exact hlv, by rw [fr_gv hfW (by omega)]; exact hic⟩, fun z => absurd (show (0 : Int) ≤ -1 from z) (by decide)⟩
        · simp (disch := omega) only [rv_self, rv_ne, rl_self, rl_ne, rA_self, rA_ne, rL_self, rL_ne, rR_self, rR_ne, xvl, xvA, xvL, xvR, xlv, xlA, xlL, xlR, xAv, xAl, xAL, xAR, xLv, xLl, xLA, xLR, xRv, xRl, xRA, xRL]; rw [fr_gv f1 (by omega)]; exact u7
        · simp (disch := omega) only [rv_self, rv_ne, rl_self, rl_ne, rA_self, rA_ne, rL_self, rL_ne, rR_self, rR_ne, xvl, xvA, xvL, xvR, xlv, xlA, xlL, xlR, xAv, xAl, xAL, xAR, xLv, xLl, xLA, xLR, xRv, xRl, xRA, xRL]
        · simp (disch := omega) only [rv_self, rv_ne, rl_self, rl_ne, rA_self, rA_ne, rL_self, rL_ne, rR_self, rR_ne, xvl, xvA, xvL, xvR, xlv, xlA, xlL, xlR, xAv, xAl, xAL, xAR, xLv, xLl, xLA, xLR, xRv, xRl, xRA, xRL]; exact hr1
      · skip
        refine w_aload_n rfl l0 rfl ?_
        refine w_aload_n rfl l1 rfl ?_
        refine w_iload_n rfl l2 rfl ?_
        refine w_iconst rfl rfl ?_
        refine w_iadd rfl rfl ?_
        refine w_iload_n rfl (congrArg x_k2 l3) rfl ?_
        have hx2 := hx1 c82
        have hfW : fr (fun a => a = 3 ∨ (30 ≤ a ∧ a ≤ 41) ∨ (43 ≤ a ∧ a ≤ 197) ∨ a = 202 + 8 * l) S (w_v V (202 + 8 * l) 8 (lnE t nx)) := (fr_v (fr_trans (fr_mono hfr (by omega)) (fr_mono f1 (by omega))) (by omega))
        have hkW : ∀ k, ¬ (k = 7 ∨ k = 8) → sv (w_v V (202 + 8 * l) 8 (lnE t nx)) (202 + 8 * l) k = sv S (202 + 8 * l) k := fun k hk => by
          simp (disch := omega) only [rv_self, rv_ne, rl_self, rl_ne, rA_self, rA_ne, rL_self, rL_ne, rR_self, rR_ne, xvl, xvA, xvL, xvR, xlv, xlA, xlL, xlR, xAv, xAl, xAL, xAR, xLv, xLl, xLA, xLR, xRv, xRl, xRA, xRL]
          rw [fr_gv f1 (by omega)]
          exact uk k (by omega)
        have h7W : sv (w_v V (202 + 8 * l) 8 (lnE t nx)) (202 + 8 * l) 7 = lnE t nx := by
          simp (disch := omega) only [rv_self, rv_ne, rl_self, rl_ne, rA_self, rA_ne, rL_self, rL_ne, rR_self, rR_ne, xvl, xvA, xvL, xvR, xlv, xlA, xlL, xlR, xAv, xAl, xAL, xAR, xLv, xLl, xLA, xLR, xRv, xRl, xRA, xRL]
          rw [fr_gv f1 (by omega)]
          exact u7
        have h8W : sv (w_v V (202 + 8 * l) 8 (lnE t nx)) (202 + 8 * l) 8 = lnE t nx := by
          simp (disch := omega) only [rv_self, rv_ne, rl_self, rl_ne, rA_self, rA_ne, rL_self, rL_ne, rR_self, rR_ne, xvl, xvA, xvL, xvR, xlv, xlA, xlL, xlR, xAv, xAl, xAL, xAR, xLv, xLl, xLA, xLR, xRv, xRl, xRA, xRL]
        refine w_CV (as := [.ref (202 + 8 * l), .int (iZ (nx + 1)), .int (iZ (lnE t nx))]) (r := []) rfl rfl rfl rfl sh_2 (Nat.le_of_ble_eq_true rfl) (Nat.le_of_ble_eq_true rfl) (by omega) rfl (c_obe (S := (w_v V (202 + 8 * l) 8 (lnE t nx))) (pi := pi) (T := T) (cs := cs) (ic := ic) hl (srep_fr hs hfW (by omega)) hto ht6 (ctab_fr ht hfW (by omega)) (crep_fr hc hfW (hkW 9 (by decide)) (hkW 10 (by decide)) (by omega) (by omega)) hq h18 (by rw [fr_gR hfW (by omega)]; exact h201) (by rw [fr_gv hfW (by omega)]; exact hlv) (by rw [fr_gv hfW (by omega)]; exact hic) i0 i10 (by omega) (by omega) (by omega) (by omega) (by omega)) ?_
        intro v2 X hob
        have hv := hob.1
        rw [hv]
        show w_T _ _ 65 94 _ [.int (iZ (ob T t cs (nx + 1) (lnE t nx) l ic).1)] _ _
        refine w_goto (pc2 := 99) rfl (by decide) ?_
        refine w_iret rfl rfl ?_
        have hz : (tkl T r ol t nx gr cs dp l ic) = ((ob T t cs (nx + 1) (lnE t nx) l ic).1, (t, lnE t nx, lnE t nx, (ob T t cs (nx + 1) (lnE t nx) l ic).2.2.1, dp), (ob T t cs (nx + 1) (lnE t nx) l ic).2.1, (xg T r ol (grp t gr nx)).2.1, (xg T r ol (grp t gr nx)).2.2, (ob T t cs (nx + 1) (lnE t nx) l ic).2.2.2) := by
          unfold tkl
          rw [if_neg hsk, if_neg (not_not_intro c52), if_neg (not_not_intro c82)]
        rw [hz]
        obtain ⟨_, o2, o3, o4, o5, o6, o7⟩ := hob
        have hfX : fr (FT l (ob T t cs (nx + 1) (lnE t nx) l ic).2.2.2) S X := fr_trans (fr_mono hfW (by unfold FT; omega)) (fr_mono o2 (by unfold FT; omega))
        refine ⟨rfl, hfX, ⟨srep_fr hs hfX (by unfold FT; omega), ?_, ?_, ?_, o5, ?_⟩, o4, ?_, fun _ => ⟨?_, ?_⟩, o6, o7⟩
        · rw [o3 1 (by decide), hkW 1 (by decide)]; exact h1
        · rw [o3 7 (by decide)]; exact h7W
        · rw [o3 8 (by decide)]; exact h8W
        · rw [o3 11 (by decide), hkW 11 (by decide)]; exact h11
        · rw [fr_gv o2 (by omega)]; simp (disch := omega) only [rv_self, rv_ne, rl_self, rl_ne, rA_self, rA_ne, rL_self, rL_ne, rR_self, rR_ne, xvl, xvA, xvL, xvR, xlv, xlA, xlL, xlR, xAv, xAl, xAL, xAR, xLv, xLl, xLA, xLR, xRv, xRl, xRA, xRL]; exact hr1
        · rw [fr_gv o2 (by omega)]; simp (disch := omega) only [rv_self, rv_ne, rl_self, rl_ne, rA_self, rA_ne, rL_self, rL_ne, rR_self, rR_ne, xvl, xvA, xvL, xvR, xlv, xlA, xlL, xlR, xAv, xAl, xAL, xAR, xLv, xLl, xLA, xLR, xRv, xRl, xRA, xRL]; exact hx2.1
        · rw [fr_gL o2 (by omega), fr_gA o2 (by omega)]; simp (disch := omega) only [rv_self, rv_ne, rl_self, rl_ne, rA_self, rA_ne, rL_self, rL_ne, rR_self, rR_ne, xvl, xvA, xvL, xvR, xlv, xlA, xlL, xlR, xAv, xAl, xAL, xAR, xLv, xLl, xLA, xLR, xRv, xRl, xRA, xRL]; exact hx2.2
    · skip
      refine w_iconst rfl rfl ?_
      refine w_iret rfl rfl ?_
      have hz : (tkl T r ol t nx gr cs dp l ic) = (0, (t, lnE t nx, gr, cs, dp), T, r, ol, -1) := by
        unfold tkl
        rw [if_neg hsk, if_pos c52]
      rw [hz]
      exact ⟨rfl, fr_mono hfr (by unfold FT; omega), ⟨hsU, by rw [uk 1 (by decide)]; exact h1, u7, by rw [uk 8 (by decide)]; exact h8g, crep_fr hc hfr (uk 9 (by decide)) (uk 10 (by decide)) (by omega) (by omega), by rw [uk 11 (by decide)]; exact h11⟩, ⟨pi, ctab_fr ht hfr (by omega)⟩, by rw [fr_gv hfr (by omega)]; exact hr, fun _ => ⟨by rw [fr_gv hfr (by omega)]; exact hoz, by rw [fr_gL hfr (by omega), fr_gA hfr (by omega)]; exact hof⟩, fun _ => ⟨by rw [fr_gv hfr (by omega)]; exact hlv, by rw [fr_gv hfr (by omega)]; exact hic⟩, fun z => absurd (show (0 : Int) ≤ -1 from z) (by decide)⟩
theorem c_tkl {sc : x_S} {d : Nat} {S : w_S} {l : Nat} {t : List Tok} {pi : Nat → Nat} {T : List Mac} {cs : List Cnd} {nx gr dp ic r : Int} {ol : List OTok} (hl : l < 4) (hs : srep S l t) (hto : tkok t) (ht6 : t.length ≤ 160) (hln : ∀ j : Int, 0 ≤ j → j < t.length → 0 ≤ tln t j ∧ tln t j ≤ 4000) (hT : tabok T) (ht : ctab S pi T) (h42 : ∀ k : Int, 0 ≤ k → k < 31 → sR S 42 k = some (43 + 5 * k.toNat)) (h201 : ∀ k : Int, 0 ≤ k → k < 4 → sR S 201 k = some (202 + 8 * k.toNat)) (h1 : sv S (202 + 8 * l) 1 = 1) (h7 : sv S (202 + 8 * l) 7 = nx) (h8g : sv S (202 + 8 * l) 8 = gr) (hc : crep S l cs) (h11 : sv S (202 + 8 * l) 11 = dp) (hq : csok cs) (h18 : cs.length < 18) (d0 : 0 ≤ dp) (d1 : dp ≤ 180) (hlv : sv S 2 3 = l) (hic : sv S 2 4 = ic) (i0 : 0 ≤ ic) (i10 : ic ≤ 10) (hr : sv S 3 2 = r) (r0 : 0 ≤ r) (hr3 : r ≤ 30) (hoz : sv S 30 2 = ol.length) (ho1 : ol.length ≤ 100) (hof : ofn (sL S 31) (sA S 32) 256 0 ol) (g0 : 0 ≤ gr) (g1 : gr ≤ nx) (g2 : nx < t.length) (hd : 130 ≤ d) : w_T sc d 65 0 (x_en 0 [.ref 2, .ref (202 + 8 * l)]) [] S (fun v S2 => TLp S S2 l ic (tkl T r ol t nx gr cs dp l ic) v) := by
  have hle := lnE_r (t := t) (i := nx) (by omega) g2
  refine w_aload_n rfl rfl rfl ?_
  refine w_getI (z := nx) rfl rfl (sh_src hl) rfl h7 rfl ?_
  refine w_istore_n rfl (by decide) rfl ?_
  refine w_aload_n rfl rfl rfl ?_
  refine w_iload_n rfl rfl rfl ?_
  refine w_CV (as := [.int (iZ nx)]) (r := []) rfl rfl rfl rfl (sh_src hl) (Nat.le_of_ble_eq_true rfl) (Nat.le_of_ble_eq_true rfl) (by omega) rfl (c_lend (l := l) (t := t) (a := nx) hl hs hto ht6 hln (by omega) (by omega) (by omega)) ?_
  rintro _ _ ⟨rfl, hS⟩
  rw [hS]
  show w_T _ _ 65 10 _ [.int (iZ (lnE t nx))] _ _
  refine w_istore_n rfl (by decide) rfl ?_
  refine w_aload_n rfl rfl rfl ?_
  refine w_iload_n rfl rfl rfl ?_
  refine w_putf rfl rfl (sh_src hl) rfl rfl (by decide) rfl ?_
  refine w_aload_n rfl rfl rfl ?_
  refine w_getI (z := zB (skp cs)) rfl rfl (sh_src hl) rfl ((rv_ne (by omega)).trans hc.2.2) rfl ?_
  refine w_b_eq (pc2 := 39) (pc3 := 23) rfl (by decide) rfl (fun c20 => ?_) (fun c20 => ?_)
  · skip
    exact (c_tkl_c hl hs hto ht6 hln hT ht h42 h201 h1 h7 h8g hc h11 hq h18 d0 d1 hlv hic i0 i10 hr r0 hr3 hoz ho1 hof g0 g1 g2 hd _) _ _ rfl rfl rfl rfl (by (intro z; rw [c20] at z; exact absurd z.1 (by decide))) (by exact fr_v (fr_refl _ _) (by omega)) (by simp (disch := omega) only [rv_self, rv_ne, rl_self, rl_ne, rA_self, rA_ne, rL_self, rL_ne, rR_self, rR_ne, xvl, xvA, xvL, xvR, xlv, xlA, xlL, xlR, xAv, xAl, xAL, xAR, xLv, xLl, xLA, xLR, xRv, xRl, xRA, xRL]) (by intro k hk; simp (disch := omega) only [rv_self, rv_ne, rl_self, rl_ne, rA_self, rA_ne, rL_self, rL_ne, rR_self, rR_ne, xvl, xvA, xvL, xvR, xlv, xlA, xlL, xlR, xAv, xAl, xAL, xAR, xLv, xLl, xLA, xLR, xRv, xRl, xRA, xRL]) (Nat.lt_succ_self _)
  · skip
    refine w_aload_n rfl rfl rfl ?_
    refine w_iload_n rfl rfl rfl ?_
    refine w_iload_n rfl rfl rfl ?_
    refine w_CV (as := [.int (iZ nx), .int (iZ (lnE t nx))]) (r := []) rfl rfl rfl rfl (sh_src hl) (Nat.le_of_ble_eq_true rfl) (Nat.le_of_ble_eq_true rfl) (by omega) rfl (c_lvs (l := l) (t := t) (a := nx) (b := lnE t nx) (dp := dp) hl (srep_fr hs (fr_v (fr_refl (fun a => a = 202 + 8 * l) _) (by omega)) (by omega)) hto ht6 (by omega) (by omega) (by omega) (by simp (disch := omega) only [rv_self, rv_ne, rl_self, rl_ne, rA_self, rA_ne, rL_self, rL_ne, rR_self, rR_ne, xvl, xvA, xvL, xvR, xlv, xlA, xlL, xlR, xAv, xAl, xAL, xAR, xLv, xLl, xLA, xLR, xRv, xRl, xRA, xRL]; exact h11) d0 (by omega) (by omega)) ?_
    rintro _ V ⟨rfl, f1, f2, f3⟩
    show w_T _ _ 65 29 _ [.int (iZ (zB ((lvs (tx t) nx (lnE t nx) dp).1)))] _ _
    refine w_b_ne (pc2 := 39) (pc3 := 32) rfl (by decide) rfl (fun c29 => ?_) (fun c29 => ?_)
    · skip
      exact (c_tkl_c hl hs hto ht6 hln hT ht h42 h201 h1 h7 h8g hc h11 hq h18 d0 d1 hlv hic i0 i10 hr r0 hr3 hoz ho1 hof g0 g1 g2 hd _) _ _ rfl rfl rfl rfl (by (intro z; rw [c29] at z; exact absurd z.2 (by decide))) (by exact fr_trans (S1 := (w_v S (202 + 8 * l) 7 (lnE t nx))) (fr_v (fr_refl _ _) (by omega)) f1) (by rw [f2 7 (by decide)]; simp (disch := omega) only [rv_self, rv_ne, rl_self, rl_ne, rA_self, rA_ne, rL_self, rL_ne, rR_self, rR_ne, xvl, xvA, xvL, xvR, xlv, xlA, xlL, xlR, xAv, xAl, xAL, xAR, xLv, xLl, xLA, xLR, xRv, xRl, xRA, xRL]) (by exact fun k hk => if h : k = 11 then (by rw [h, f3, lvs_t c29]; exact h11.symm) else (by rw [f2 k h]; simp (disch := omega) only [rv_self, rv_ne, rl_self, rl_ne, rA_self, rA_ne, rL_self, rL_ne, rR_self, rR_ne, xvl, xvA, xvL, xvR, xlv, xlA, xlL, xlR, xAv, xAl, xAL, xAR, xLv, xLl, xLA, xLR, xRv, xRl, xRA, xRL])) (Nat.lt_succ_self _)
    · skip
      refine w_aload_n rfl rfl rfl ?_
      refine w_iload_n rfl rfl rfl ?_
      refine w_putf rfl rfl (sh_src hl) rfl rfl (by decide) rfl ?_
      refine w_iconst rfl rfl ?_
      refine w_iret rfl rfl ?_
      have hz : (tkl T r ol t nx gr cs dp l ic) = (0, (t, lnE t nx, lnE t nx, cs, (lvs (tx t) nx (lnE t nx) dp).2), T, r, ol, -1) := by
        unfold tkl
        rw [if_pos ⟨c20, c29⟩]
      rw [hz]
      have hfV : fr (fun a => a = 202 + 8 * l) S (w_v V (202 + 8 * l) 8 (lnE t nx)) := (fr_v (fr_trans (S1 := (w_v S (202 + 8 * l) 7 (lnE t nx))) (fr_v (fr_refl _ _) (by omega)) f1) (by omega))
      have hkV : ∀ k, ¬ (k = 7 ∨ k = 8 ∨ k = 11) → sv (w_v V (202 + 8 * l) 8 (lnE t nx)) (202 + 8 * l) k = sv S (202 + 8 * l) k := fun k hk => by
        simp (disch := omega) only [rv_self, rv_ne, rl_self, rl_ne, rA_self, rA_ne, rL_self, rL_ne, rR_self, rR_ne, xvl, xvA, xvL, xvR, xlv, xlA, xlL, xlR, xAv, xAl, xAL, xAR, xLv, xLl, xLA, xLR, xRv, xRl, xRA, xRL]
        rw [f2 k (by omega)]
        simp (disch := omega) only [rv_self, rv_ne, rl_self, rl_ne, rA_self, rA_ne, rL_self, rL_ne, rR_self, rR_ne, xvl, xvA, xvL, xvR, xlv, xlA, xlL, xlR, xAv, xAl, xAL, xAR, xLv, xLl, xLA, xLR, xRv, xRl, xRA, xRL]
      refine ⟨rfl, fr_mono hfV (by unfold FT; omega), ⟨srep_fr hs hfV (by omega), ?_, ?_, ?_, crep_fr hc hfV (hkV 9 (by decide)) (hkV 10 (by decide)) (by omega) (by omega), ?_⟩, ⟨pi, ctab_fr ht hfV (by omega)⟩, by rw [fr_gv hfV (by omega)]; exact hr, fun _ => ⟨by rw [fr_gv hfV (by omega)]; exact hoz, by rw [fr_gL hfV (by omega), fr_gA hfV (by omega)]; exact hof⟩, fun _ => ⟨by rw [fr_gv hfV (by omega)]; exact hlv, by rw [fr_gv hfV (by omega)]; exact hic⟩, fun z => absurd (show (0 : Int) ≤ -1 from z) (by decide)⟩
      · rw [hkV 1 (by decide)]; exact h1
      · simp (disch := omega) only [rv_self, rv_ne, rl_self, rl_ne, rA_self, rA_ne, rL_self, rL_ne, rR_self, rR_ne, xvl, xvA, xvL, xvR, xlv, xlA, xlL, xlR, xAv, xAl, xAL, xAR, xLv, xLl, xLA, xLR, xRv, xRl, xRA, xRL]; rw [f2 7 (by decide)]; simp (disch := omega) only [rv_self, rv_ne, rl_self, rl_ne, rA_self, rA_ne, rL_self, rL_ne, rR_self, rR_ne, xvl, xvA, xvL, xvR, xlv, xlA, xlL, xlR, xAv, xAl, xAL, xAR, xLv, xLl, xLA, xLR, xRv, xRl, xRA, xRL]
      · simp (disch := omega) only [rv_self, rv_ne, rl_self, rl_ne, rA_self, rA_ne, rL_self, rL_ne, rR_self, rR_ne, xvl, xvA, xvL, xvR, xlv, xlA, xlL, xlR, xAv, xAl, xAL, xAR, xLv, xLl, xLA, xLR, xRv, xRl, xRA, xRL]
      · simp (disch := omega) only [rv_self, rv_ne, rl_self, rl_ne, rA_self, rA_ne, rL_self, rL_ne, rR_self, rR_ne, xvl, xvA, xvL, xvR, xlv, xlA, xlL, xlR, xAv, xAl, xAL, xAR, xLv, xLl, xLA, xLR, xRv, xRl, xRA, xRL]; exact f3
theorem c_end {sc : x_S} {d : Nat} {S : w_S} {l : Nat} {t : List Tok} {pi : Nat → Nat} {T : List Mac} {cs : List Cnd} {nx gr dp ic r : Int} {ol : List OTok} (hl : l < 4) (hs : srep S l t) (hto : tkok t) (ht6 : t.length ≤ 160) (hln : ∀ j : Int, 0 ≤ j → j < t.length → 0 ≤ tln t j ∧ tln t j ≤ 4000) (hT : tabok T) (ht : ctab S pi T) (h42 : ∀ k : Int, 0 ≤ k → k < 31 → sR S 42 k = some (43 + 5 * k.toNat)) (h201 : ∀ k : Int, 0 ≤ k → k < 4 → sR S 201 k = some (202 + 8 * k.toNat)) (h1 : sv S (202 + 8 * l) 1 = 1) (h7 : sv S (202 + 8 * l) 7 = nx) (h8g : sv S (202 + 8 * l) 8 = gr) (hc : crep S l cs) (h11 : sv S (202 + 8 * l) 11 = dp) (hq : csok cs) (h18 : cs.length < 18) (d0 : 0 ≤ dp) (d1 : dp ≤ 180) (hlv : sv S 2 3 = l) (hic : sv S 2 4 = ic) (i0 : 0 ≤ ic) (i10 : ic ≤ 10) (hr : sv S 3 2 = r) (r0 : 0 ≤ r) (hr3 : r ≤ 30) (hoz : sv S 30 2 = ol.length) (ho1 : ol.length ≤ 100) (hof : ofn (sL S 31) (sA S 32) 256 0 ol) (g0 : 0 ≤ gr) (g1 : gr ≤ nx) (g2 : nx ≤ t.length) (hd : 130 ≤ d) : w_T sc d 66 0 (x_en 0 [.ref 2, .ref (202 + 8 * l)]) [] S (fun v S2 => v = some (.int (iZ (if ¬ (xg T r ol (grp t gr t.length)).1 = 0 then (xg T r ol (grp t gr t.length)).1 else if 0 < cs.length then 4 else 0))) ∧ fr (fun a => a = 2 ∨ a = 3 ∨ (30 ≤ a ∧ a ≤ 41) ∨ (43 ≤ a ∧ a ≤ 197)) S S2 ∧ sv S2 3 2 = (xg T r ol (grp t gr t.length)).2.1 ∧ ((xg T r ol (grp t gr t.length)).1 = 0 → sv S2 30 2 = (xg T r ol (grp t gr t.length)).2.2.length ∧ ofn (sL S2 31) (sA S2 32) 256 0 (xg T r ol (grp t gr t.length)).2.2) ∧ sv S2 2 3 = l - 1 ∧ sv S2 2 4 = ic) := by
  refine w_aload_n rfl rfl rfl ?_
  refine w_getR rfl rfl sh_2 rfl rfl ?_
  refine w_aload_n rfl rfl rfl ?_
  refine w_getR rfl rfl (sh_src hl) rfl rfl ?_
  refine w_aload_n rfl rfl rfl ?_
  refine w_getI (z := gr) rfl rfl (sh_src hl) rfl h8g rfl ?_
  refine w_aload_n rfl rfl rfl ?_
  refine w_getR rfl rfl (sh_src hl) rfl rfl ?_
  refine w_getI (z := (t.length : Int)) rfl rfl (sh_srow hl).1 rfl hs.1 rfl ?_
  refine w_CV (as := [.ref (203 + 8 * l), .int (iZ gr), .int (iZ ((t.length : Int)))]) (r := []) rfl rfl rfl rfl sh_3 (Nat.le_of_ble_eq_true rfl) (Nat.le_of_ble_eq_true rfl) (by omega) rfl (c_xg (pi := pi) (T := T) (l := l) (a := gr) (b := t.length) (r := r) (t := t) (ol := ol) hl hT ht h42 hs hto ht6 g0 (by omega) (by omega) hr r0 hr3 hoz ho1 hof (by omega)) ?_
  rintro _ V ⟨rfl, f1, hr1, hx1⟩
  show w_T _ _ 66 22 _ [.int (iZ ((xg T r ol (grp t gr t.length)).1))] _ _
  refine w_istore_n rfl (by decide) rfl ?_
  refine w_aload_n rfl rfl rfl ?_
  refine w_dup rfl rfl rfl ?_
  refine w_getI (z := (l : Int)) rfl rfl sh_2 rfl ((fr_gv f1 (by omega) 3).trans hlv) rfl ?_
  refine w_iconst rfl rfl ?_
  refine w_isub rfl rfl ?_
  refine w_putf rfl rfl sh_2 rfl rfl (by decide) rfl ?_
  refine w_iload_n rfl rfl rfl ?_
  have xr := xg_r ht r (grp t gr t.length) ol hr3
  refine w_if_ne (pc2 := 48) (pc3 := 37) rfl (by decide) rfl ⟨by omega, by omega⟩ (fun c34 => ?_) (fun c34 => ?_)
  · skip
    refine w_iload_n rfl rfl rfl ?_
    refine w_iret rfl rfl ?_
    have hv : (if ¬ (xg T r ol (grp t gr t.length)).1 = 0 then (xg T r ol (grp t gr t.length)).1 else if 0 < cs.length then 4 else 0) = (xg T r ol (grp t gr t.length)).1 := by
      first | rw [if_pos c34] | rw [if_neg (not_not_intro c34), if_pos (by omega)] | (rw [if_neg (not_not_intro c34), if_neg (by omega)]; exact c34.symm)
    rw [hv]
    exact ⟨rfl, (fr_v (fr_mono f1 (by omega)) (by omega)), by simp (disch := omega) only [rv_self, rv_ne, rl_self, rl_ne, rA_self, rA_ne, rL_self, rL_ne, rR_self, rR_ne, xvl, xvA, xvL, xvR, xlv, xlA, xlL, xlR, xAv, xAl, xAL, xAR, xLv, xLl, xLA, xLR, xRv, xRl, xRA, xRL]; exact hr1, fun z => ⟨by simp (disch := omega) only [rv_self, rv_ne, rl_self, rl_ne, rA_self, rA_ne, rL_self, rL_ne, rR_self, rR_ne, xvl, xvA, xvL, xvR, xlv, xlA, xlL, xlR, xAv, xAl, xAL, xAR, xLv, xLl, xLA, xLR, xRv, xRl, xRA, xRL]; exact (hx1 z).1, by simp (disch := omega) only [rv_self, rv_ne, rl_self, rl_ne, rA_self, rA_ne, rL_self, rL_ne, rR_self, rR_ne, xvl, xvA, xvL, xvR, xlv, xlA, xlL, xlR, xAv, xAl, xAL, xAR, xLv, xLl, xLA, xLR, xRv, xRl, xRA, xRL]; exact (hx1 z).2⟩, by simp (disch := omega) only [rv_self, rv_ne, rl_self, rl_ne, rA_self, rA_ne, rL_self, rL_ne, rR_self, rR_ne, xvl, xvA, xvL, xvR, xlv, xlA, xlL, xlR, xAv, xAl, xAL, xAR, xLv, xLl, xLA, xLR, xRv, xRl, xRA, xRL], by simp (disch := omega) only [rv_self, rv_ne, rl_self, rl_ne, rA_self, rA_ne, rL_self, rL_ne, rR_self, rR_ne, xvl, xvA, xvL, xvR, xlv, xlA, xlL, xlR, xAv, xAl, xAL, xAR, xLv, xLl, xLA, xLR, xRv, xRl, xRA, xRL]; rw [fr_gv f1 (by omega)]; exact hic⟩
  · skip
    refine w_aload_n rfl rfl rfl ?_
    refine w_getI (z := (cs.length : Int)) rfl rfl (sh_src hl) rfl ((rv_ne (by omega)).trans ((fr_gv f1 (by omega) 9).trans hc.1)) rfl ?_
    refine w_if_le (pc2 := 48) (pc3 := 44) rfl (by decide) rfl ⟨by omega, by omega⟩ (fun c41 => ?_) (fun c41 => ?_)
    · skip
      refine w_iload_n rfl rfl rfl ?_
      refine w_iret rfl rfl ?_
      have hv : (if ¬ (xg T r ol (grp t gr t.length)).1 = 0 then (xg T r ol (grp t gr t.length)).1 else if 0 < cs.length then 4 else 0) = (xg T r ol (grp t gr t.length)).1 := by
        first | rw [if_pos c34] | rw [if_neg (not_not_intro c34), if_pos (by omega)] | (rw [if_neg (not_not_intro c34), if_neg (by omega)]; exact c34.symm)
      rw [hv]
      exact ⟨rfl, (fr_v (fr_mono f1 (by omega)) (by omega)), by simp (disch := omega) only [rv_self, rv_ne, rl_self, rl_ne, rA_self, rA_ne, rL_self, rL_ne, rR_self, rR_ne, xvl, xvA, xvL, xvR, xlv, xlA, xlL, xlR, xAv, xAl, xAL, xAR, xLv, xLl, xLA, xLR, xRv, xRl, xRA, xRL]; exact hr1, fun z => ⟨by simp (disch := omega) only [rv_self, rv_ne, rl_self, rl_ne, rA_self, rA_ne, rL_self, rL_ne, rR_self, rR_ne, xvl, xvA, xvL, xvR, xlv, xlA, xlL, xlR, xAv, xAl, xAL, xAR, xLv, xLl, xLA, xLR, xRv, xRl, xRA, xRL]; exact (hx1 z).1, by simp (disch := omega) only [rv_self, rv_ne, rl_self, rl_ne, rA_self, rA_ne, rL_self, rL_ne, rR_self, rR_ne, xvl, xvA, xvL, xvR, xlv, xlA, xlL, xlR, xAv, xAl, xAL, xAR, xLv, xLl, xLA, xLR, xRv, xRl, xRA, xRL]; exact (hx1 z).2⟩, by simp (disch := omega) only [rv_self, rv_ne, rl_self, rl_ne, rA_self, rA_ne, rL_self, rL_ne, rR_self, rR_ne, xvl, xvA, xvL, xvR, xlv, xlA, xlL, xlR, xAv, xAl, xAL, xAR, xLv, xLl, xLA, xLR, xRv, xRl, xRA, xRL], by simp (disch := omega) only [rv_self, rv_ne, rl_self, rl_ne, rA_self, rA_ne, rL_self, rL_ne, rR_self, rR_ne, xvl, xvA, xvL, xvR, xlv, xlA, xlL, xlR, xAv, xAl, xAL, xAR, xLv, xLl, xLA, xLR, xRv, xRl, xRA, xRL]; rw [fr_gv f1 (by omega)]; exact hic⟩
    · skip
      refine w_iconst rfl rfl ?_
      refine w_goto (pc2 := 49) rfl (by decide) ?_
      refine w_iret rfl rfl ?_
      have hv : (if ¬ (xg T r ol (grp t gr t.length)).1 = 0 then (xg T r ol (grp t gr t.length)).1 else if 0 < cs.length then 4 else 0) = 4 := by
        first | rw [if_pos c34] | rw [if_neg (not_not_intro c34), if_pos (by omega)] | (rw [if_neg (not_not_intro c34), if_neg (by omega)]; exact c34.symm)
      rw [hv]
      exact ⟨rfl, (fr_v (fr_mono f1 (by omega)) (by omega)), by simp (disch := omega) only [rv_self, rv_ne, rl_self, rl_ne, rA_self, rA_ne, rL_self, rL_ne, rR_self, rR_ne, xvl, xvA, xvL, xvR, xlv, xlA, xlL, xlR, xAv, xAl, xAL, xAR, xLv, xLl, xLA, xLR, xRv, xRl, xRA, xRL]; exact hr1, fun z => ⟨by simp (disch := omega) only [rv_self, rv_ne, rl_self, rl_ne, rA_self, rA_ne, rL_self, rL_ne, rR_self, rR_ne, xvl, xvA, xvL, xvR, xlv, xlA, xlL, xlR, xAv, xAl, xAL, xAR, xLv, xLl, xLA, xLR, xRv, xRl, xRA, xRL]; exact (hx1 z).1, by simp (disch := omega) only [rv_self, rv_ne, rl_self, rl_ne, rA_self, rA_ne, rL_self, rL_ne, rR_self, rR_ne, xvl, xvA, xvL, xvR, xlv, xlA, xlL, xlR, xAv, xAl, xAL, xAR, xLv, xLl, xLA, xLR, xRv, xRl, xRA, xRL]; exact (hx1 z).2⟩, by simp (disch := omega) only [rv_self, rv_ne, rl_self, rl_ne, rA_self, rA_ne, rL_self, rL_ne, rR_self, rR_ne, xvl, xvA, xvL, xvR, xlv, xlA, xlL, xlR, xAv, xAl, xAL, xAR, xLv, xLl, xLA, xLR, xRv, xRl, xRA, xRL], by simp (disch := omega) only [rv_self, rv_ne, rl_self, rl_ne, rA_self, rA_ne, rL_self, rL_ne, rR_self, rR_ne, xvl, xvA, xvL, xvR, xlv, xlA, xlL, xlR, xAv, xAl, xAL, xAR, xLv, xLl, xLA, xLR, xRv, xRl, xRA, xRL]; rw [fr_gv f1 (by omega)]; exact hic⟩
