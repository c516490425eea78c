/-! The replacement of a macro (class). -/
theorem fw_shift {nm : Nat → Int64} {X Y : Int → Int64} {O Q : Int → Int} {k : Int} : ∀ (l : List ETok) (i : Int), (∀ j, i ≤ j → j < i + l.length → Y j = X (j + k) ∧ Q j = O (j + k)) → fw nm X O (i + k) l → fw nm Y Q i l
  | [], _, _, _ => trivial
  | e :: l, i, h, a => by
    have h0 := h i (Int.le_refl _) (by rw [List.length_cons]; omega)
    refine ⟨h0.1.trans a.1, h0.2.trans a.2.1, fw_shift l (i + 1) (fun j p q => h j (by omega) (by rw [List.length_cons]; omega)) ?_⟩
    rw [show i + 1 + k = i + k + 1 by omega]
    exact a.2.2
theorem fw_mid {nm : Nat → Int64} {X : Int → Int64} {O : Int → Int} {l1 rs : List ETok} {a b : ETok} (h : fw nm X O 0 (l1 ++ a :: b :: rs)) : X l1.length = a.1 ∧ O l1.length = eo nm a ∧ X (l1.length + 1) = b.1 ∧ O (l1.length + 1) = eo nm b ∧ fw nm X O 0 l1 ∧ fw nm X O (l1.length + 2) rs := by
  have h2 := (fw_app l1 (a :: b :: rs) 0).mp h
  rw [Int.zero_add] at h2
  refine ⟨h2.2.1, h2.2.2.1, h2.2.2.2.1, h2.2.2.2.2.1, h2.1, ?_⟩
  have := h2.2.2.2.2.2
  rw [show (l1.length : Int) + 1 + 1 = l1.length + 2 by omega] at this
  exact this
theorem fw_jn {nm : Nat → Int64} {X : Int → Int64} {O : Int → Int} {l1 rs : List ETok} {a b c : ETok} {m n z : Int} (h : fw nm X O 0 (l1 ++ a :: b :: rs)) (hm : m = l1.length) (hn : n = rs.length) (hz : z = eo nm c) : fw nm (w_cp (w_u X m c.1) (w_u X m c.1) (m + 1 + 1) (m + 1) n) (w_cp (w_u O m z) (w_u O m z) (m + 1 + 1) (m + 1) n) 0 (l1 ++ c :: rs) := by
  have f := fw_mid h
  subst hm hn hz
  refine (fw_app l1 (c :: rs) 0).mpr ⟨fw_fr l1 0 (fun j p q => ⟨?_, ?_⟩) f.2.2.2.2.1, ?_, ?_, ?_⟩
  · unfold w_cp
    rw [if_neg (by omega), w_u_ne _ _ (by omega)]
  · unfold w_cp
    rw [if_neg (by omega), w_u_ne _ _ (by omega)]
  · unfold w_cp
    rw [if_neg (by omega), Int.zero_add, w_u_self]
  · unfold w_cp
    rw [if_neg (by omega), Int.zero_add, w_u_self]
  · rw [Int.zero_add]
    refine fw_shift (k := 1) rs (l1.length + 1) (fun j p q => ⟨?_, ?_⟩) (by rw [show (l1.length : Int) + 1 + 1 = l1.length + 2 by omega]; exact f.2.2.2.2.2)
    · unfold w_cp
      rw [if_pos (by omega), w_u_ne _ _ (by omega)]
      congr 1
      omega
    · unfold w_cp
      rw [if_pos (by omega), w_u_ne _ _ (by omega)]
      congr 1
      omega
def jrow (pl : Int) (l row : List ETok) : Option (List ETok) := match l.getLast?, row with
  | some a, b :: rs => (match jt a.1 b.1 with
    | some x => some (l.dropLast ++ (x, pl, fun q => a.2.2 q && b.2.2 q) :: rs)
    | none => none)
  | _, _ => some (l ++ row)
theorem jrow_eq (pl : Int) (l1 rs : List ETok) (a b : ETok) : jrow pl (l1 ++ [a]) (b :: rs) = (match jt a.1 b.1 with | some x => some (l1 ++ (x, pl, fun q => a.2.2 q && b.2.2 q) :: rs) | none => none) := by
  unfold jrow
  simp
theorem and_eo {nm : Nat → Int64} {a b : ETok} {x : Int64} {p : Int} : p * 256 + zand (eo nm a % 256) (eo nm b % 256) = eo nm (x, p, fun q => a.2.2 q && b.2.2 q) := by
  have h1 := hs_lt nm a.2.2
  have h2 := hs_lt nm b.2.2
  rw [eo_mod, eo_mod, zand_nat (by omega) (by omega) (by omega) (by omega)]
  rw [Int.toNat_natCast, Int.toNat_natCast, hs_and]
  rfl
theorem c_jat3 {sc : x_S} {d : Nat} {S : w_S} {nm : Nat → Int64} {l1 rs : List ETok} {a b : ETok} {i p : Int} (hz : sv S 39 2 = (l1 ++ a :: b :: rs).length) (hw : fw nm (sL S 40) (sA S 41) 0 (l1 ++ a :: b :: rs)) (hi : i = l1.length + 1) (h1 : ((l1 ++ a :: b :: rs).length : Int) ≤ 480) (ha : eok a) (hb : eok b) (hd : 1 ≤ d) : w_T sc d 100 0 (x_en 0 [.ref 39, .int (iZ i), .int (iZ p)]) [] S (fun v S2 => ∃ c, v = some (.int (iZ (zB c))) ∧ fr (fun a => a = 39 ∨ a = 40 ∨ a = 41) S S2 ∧ (c = false → jt a.1 b.1 = none) ∧ (c = true → ∃ x, jt a.1 b.1 = some x ∧ sv S2 39 2 = (l1 ++ (x, p, fun q => a.2.2 q && b.2.2 q) :: rs).length ∧ fw nm (sL S2 40) (sA S2 41) 0 (l1 ++ (x, p, fun q => a.2.2 q && b.2.2 q) :: rs))) := by
  have f := fw_mid hw
  have hl : ((l1 ++ a :: b :: rs).length : Int) = l1.length + rs.length + 2 := by
    rw [List.length_append]
    simp only [List.length_cons]
    omega
  have e1 : sL S 40 (i - 1) = a.1 := by rw [show i - 1 = (l1.length : Int) by omega]; exact f.1
  have e2 : sA S 41 (i - 1) = eo nm a := by rw [show i - 1 = (l1.length : Int) by omega]; exact f.2.1
  have e3 : sL S 40 i = b.1 := by rw [hi]; exact f.2.2.1
  have e4 : sA S 41 i = eo nm b := by rw [hi]; exact f.2.2.2.1
  have ra := eo_R (nm := nm) ha.2.1 ha.2.2
  have rb := eo_R (nm := nm) hb.2.1 hb.2.2
  refine w_mono (c_jat (S := S) (i := i) (p := p) (by omega) (by omega) (by omega) (by rw [e1]; exact ha.1) (by rw [e3]; exact hb.1) (by omega) (by omega) (by omega) (by omega) hd) ?_
  intro v S2 q
  rw [e1, e2, e3, e4] at q
  cases hj : jt a.1 b.1 with
  | none =>
    rw [hj] at q
    exact ⟨false, q.1, by rw [q.2]; exact fr_refl _ _, fun _ => rfl, fun z => absurd z (by decide)⟩
  | some x =>
    rw [hj] at q
    obtain ⟨q1, q2, q3, q4, q5⟩ := q
    refine ⟨true, q1, q2, fun z => absurd z (by decide), fun _ => ⟨x, rfl, ?_, ?_⟩⟩
    · rw [q3, hz, hl, List.length_append]
      simp only [List.length_cons]
      omega
    · rw [q4, q5, show i + 1 = i - 1 + 1 + 1 by omega, show w_cp (w_u (sL S 40) (i - 1) x) (w_u (sL S 40) (i - 1) x) (i - 1 + 1 + 1) i (sv S 39 2 - i - 1) = w_cp (w_u (sL S 40) (i - 1) x) (w_u (sL S 40) (i - 1) x) (i - 1 + 1 + 1) (i - 1 + 1) (sv S 39 2 - i - 1) by rw [show i - 1 + 1 = i by omega], show ∀ F, w_cp (w_u (sA S 41) (i - 1) F) (w_u (sA S 41) (i - 1) F) (i - 1 + 1 + 1) i (sv S 39 2 - i - 1) = w_cp (w_u (sA S 41) (i - 1) F) (w_u (sA S 41) (i - 1) F) (i - 1 + 1 + 1) (i - 1 + 1) (sv S 39 2 - i - 1) from fun F => by rw [show i - 1 + 1 = i by omega]]
      exact fw_jn (c := (x, p, fun q => a.2.2 q && b.2.2 q)) hw (by omega) (by omega) and_eo
theorem cmac_fr {c : Nat → Prop} {S S2 : w_S} {u : Nat} {e : Mac} (h : cmac S u e) (f : fr c S S2) (h6 : ¬ c (6 + 3 * u)) (h7 : ¬ c (7 + 3 * u)) (h8 : ¬ c (8 + 3 * u)) : cmac S2 u e := ⟨by rw [fr_gl f h6]; exact h.1, by rw [fr_gv f h6]; exact h.2.1, by rw [fr_gv f h6]; exact h.2.2.1, by rw [fr_gv f h6]; exact h.2.2.2.1, by rw [fr_gL f h7]; exact h.2.2.2.2.1, by rw [fr_gL f h8]; exact h.2.2.2.2.2⟩
theorem list_snoc {α : Type} {l : List α} (h : 0 < l.length) : ∃ k a, l = k ++ [a] := by
  have hn : l ≠ [] := fun z => by rw [z] at h; exact absurd h (by simp)
  exact ⟨l.dropLast, l.getLast hn, (List.dropLast_concat_getLast hn).symm⟩
theorem list_cons {α : Type} {l : List α} (h : 0 < l.length) : ∃ b rs, l = b :: rs := by
  cases l with
  | nil => exact absurd h (by simp)
  | cons b rs => exact ⟨b, rs, rfl⟩
theorem pas_r {B : List Int64} {i : Int} (h : pas B i = true) : 0 ≤ i ∧ i < B.length := by
  have h := of_decide_eq_true h
  exact ⟨h.1, h.2.1⟩
def mst (e : Mac) (as os : List (List ETok)) (pl i : Int) (l : List ETok) (ch : Int) : Option (List ETok) := if pas e.2.2.2 (i - 1) = true ∧ ch < l.length ∧ 0 < (brow e as os pl i).length then jrow pl l (brow e as os pl i) else some (l ++ brow e as os pl i)
def mkr (e : Mac) (as os : List (List ETok)) (pl : Int) : Nat → Int → List ETok → Int → Option (List ETok)
  | 0, _, l, _ => some l
  | m + 1, i, l, ch => if i < e.2.2.2.length then (match mst e as os pl i l ch with
    | none => none
    | some l2 => mkr e as os pl m (i + zB (pas e.2.2.2 (i + 1)) + 1) l2 (if pas e.2.2.2 (i - 1) = true then ch else l.length)) else some l
theorem mkr_0 {e : Mac} {as os : List (List ETok)} {pl : Int} {m : Nat} {i : Int} {l : List ETok} {ch : Int} (h : e.2.2.2.length ≤ i) : mkr e as os pl m i l ch = some l := by
  cases m with
  | zero => rfl
  | succ m =>
    show (if i < e.2.2.2.length then _ else _) = _
    rw [if_neg (by omega)]
theorem mkr_n {e : Mac} {as os : List (List ETok)} {pl : Int} {m : Nat} {i : Int} {l : List ETok} {ch : Int} (h : i < e.2.2.2.length) (hs : mst e as os pl i l ch = none) : mkr e as os pl (m + 1) i l ch = none := by
  show (if i < e.2.2.2.length then (match mst e as os pl i l ch with | none => none | some l2 => _) else _) = _
  rw [if_pos h, hs]
theorem mkr_s {e : Mac} {as os : List (List ETok)} {pl : Int} {m : Nat} {i : Int} {l l2 : List ETok} {ch : Int} (h : i < e.2.2.2.length) (hs : mst e as os pl i l ch = some l2) : mkr e as os pl (m + 1) i l ch = mkr e as os pl m (i + zB (pas e.2.2.2 (i + 1)) + 1) l2 (if pas e.2.2.2 (i - 1) = true then ch else l.length) := by
  show (if i < e.2.2.2.length then (match mst e as os pl i l ch with | none => none | some l2 => mkr e as os pl m (i + zB (pas e.2.2.2 (i + 1)) + 1) l2 (if pas e.2.2.2 (i - 1) = true then ch else l.length)) else _) = _
  rw [if_pos h, hs]
def mrep (e : Mac) (as os : List (List ETok)) (pl : Int) : Int × List ETok := match mkr e as os pl 13 0 [] 0 with
  | none => (9, [])
  | some l => if 40 < (l.length : Int) then (7, []) else (0, l)
theorem brow_ok {e : Mac} {as os : List (List ETok)} {pl i : Int} (ho : mok e) (hla : ∀ k, loks (as.getD k [])) (hlo : ∀ k, loks (os.getD k [])) (p0 : 0 ≤ pl) (p1 : pl ≤ 4000) (i0 : 0 ≤ i) (i1 : i < e.2.2.2.length) : loks (brow e as os pl i) := by
  unfold brow
  split
  · intro x hx
    rw [List.mem_singleton.mp hx]
    exact ⟨ho.2.2.2.2 i i0 i1, p0, p1⟩
  · split
    · exact hla _
    · exact hlo _
theorem brow_40 {e : Mac} {as os : List (List ETok)} {pl i : Int} (ha4 : ∀ k, (as.getD k []).length ≤ 40) (ho4 : ∀ k, (os.getD k []).length ≤ 40) : (brow e as os pl i).length ≤ 40 := by
  unfold brow
  split
  · simp
  · split
    · exact ha4 _
    · exact ho4 _
theorem c_mkr_c {sc : x_S} {d : Nat} {S : w_S} {T : List Mac} {u q : Nat} {e : Mac} {base top pl : Int} {as os : List (List ETok)} (hq : q < 31) (hu : u < 8) (hk : cmac S u e) (ho : mok e) (har : argr (nmT T) (sL S 34) (sA S 35) (sA S (44 + 5 * q)) (sA S (45 + 5 * q)) base top as) (hag : argo (nmT T) (sL S 37) (sA S 38) (sA S (46 + 5 * q)) (sA S (47 + 5 * q)) (sv S 36 2) os) (hca : e.2.2.1.length ≤ as.length) (hco : e.2.2.1.length ≤ os.length) (ha4 : ∀ k, (as.getD k []).length ≤ 40) (ho4 : ∀ k, (os.getD k []).length ≤ 40) (b0 : 0 ≤ base) (tp : top ≤ sv S 33 2) (hP : sv S 33 2 ≤ 1360) (hD : sv S 36 2 ≤ 1360) (p0 : 0 ≤ pl) (p1 : pl ≤ 4000) (hla : ∀ k, loks (as.getD k [])) (hlo : ∀ k, loks (os.getD k [])) (hd : 2 ≤ d) : ∀ n : Nat, (∀ (ch : Int) (i : Int) (m : Nat) (l : List ETok) (U : w_S) (lv : x_L) (l0 : lv 0 = some (.ref 3)) (l1 : lv 1 = some (.ref (6 + 3 * u))) (l2 : lv 2 = some (.ref (43 + 5 * q))) (l3 : lv 3 = some (.int (iZ pl))) (l4 : lv 4 = some (.int (iZ ch))) (l5 : lv 5 = some (.int (iZ i))) (hfr : fr (fun a => a = 39 ∨ a = 40 ∨ a = 41) S U) (hz : sv U 39 2 = l.length) (hw : fw (nmT T) (sL U 40) (sA U 41) 0 l) (i0 : 0 ≤ i) (i1 : i ≤ e.2.2.2.length) (hl : (l.length : Int) ≤ 40 * i) (hlk : loks l) (c0 : 0 ≤ ch) (c1 : ch ≤ 480) (hmm : (e.2.2.2.length : Int) - i ≤ m) (he : mkr e as os pl m i l ch = mkr e as os pl 13 0 [] 0) (hm : (e.2.2.2.length - i).toNat < n), w_T sc d 27 14 lv [] U (fun v S2 => v = some (.int (iZ (mrep e as os pl).1)) ∧ fr (fun a => a = 39 ∨ a = 40 ∨ a = 41) S S2 ∧ ((mrep e as os pl).1 = 0 → sv S2 39 2 = (mrep e as os pl).2.length ∧ fw (nmT T) (sL S2 40) (sA S2 41) 0 (mrep e as os pl).2))) := by
  intro n
  induction n with
  | zero => exact fun ch i m l U lv l0 l1 l2 l3 l4 l5 hfr hz hw i0 i1 hl hlk c0 c1 hmm he hm => absurd hm (Nat.not_lt_zero _)
  | succ n ih =>
    intro ch i m l U lv l0 l1 l2 l3 l4 l5 hfr hz hw i0 i1 hl hlk c0 c1 hmm he hm
    have kk : cmac U u e := cmac_fr hk hfr (by omega) (by omega) (by omega)
    have kar : argr (nmT T) (sL U 34) (sA U 35) (sA U (44 + 5 * q)) (sA U (45 + 5 * q)) base top as := by rw [fr_gL hfr (by omega), fr_gA hfr (by omega), fr_gA hfr (by omega), fr_gA hfr (by omega)]; exact har
    have kag : argo (nmT T) (sL U 37) (sA U 38) (sA U (46 + 5 * q)) (sA U (47 + 5 * q)) (sv U 36 2) os := by rw [fr_gL hfr (by omega), fr_gA hfr (by omega), fr_gA hfr (by omega), fr_gA hfr (by omega), fr_gv hfr (by omega)]; exact hag
    have eP : sv U 33 2 = sv S 33 2 := fr_gv hfr (by omega) 2
    have eD : sv U 36 2 = sv S 36 2 := fr_gv hfr (by omega) 2
    have hbl := kk.2.2.2.1
    have h12 := ho.2.1
    refine w_iload rfl l5 rfl ?_
    refine w_aload_n rfl l1 rfl ?_
    refine w_getI (z := sv U (6 + 3 * u) 4) rfl rfl (sh_mac hu) rfl rfl rfl ?_
    refine w_ic_ge (pc2 := 144) (pc3 := 23) rfl (by decide) rfl ⟨by omega, by omega⟩ ⟨by omega, by omega⟩ (fun c20 => ?_) (fun c20 => ?_)
    · skip
      refine w_aload_n rfl l0 rfl ?_
      refine w_getR rfl rfl sh_3 rfl rfl ?_
      refine w_getI (z := sv U 39 2) rfl rfl sh_39 rfl rfl rfl ?_
      refine w_bipush rfl (by decide) rfl ?_
      refine w_ic_le (pc2 := 161) (pc3 := 156) rfl (by decide) rfl ⟨by omega, by omega⟩ ⟨by decide, by decide⟩ (fun c153 => ?_) (fun c153 => ?_)
      · skip
        refine w_iconst rfl rfl ?_
        refine w_iret rfl rfl ?_
        rw [mkr_0 (by omega)] at he
        have hr : mrep e as os pl = (0, l) := by
          unfold mrep
          rw [← he]
          show (if 40 < (l.length : Int) then _ else _) = _
          rw [if_neg (by omega)]
        rw [hr]
        exact ⟨rfl, hfr, fun _ => ⟨hz, hw⟩⟩
      · skip
        refine w_bipush rfl (by decide) rfl ?_
        refine w_goto (pc2 := 162) rfl (by decide) ?_
        refine w_iret rfl rfl ?_
        rw [mkr_0 (by omega)] at he
        have hr : mrep e as os pl = (7, []) := by
          unfold mrep
          rw [← he]
          show (if 40 < (l.length : Int) then _ else _) = _
          rw [if_pos (by omega)]
        rw [hr]
        exact ⟨rfl, hfr, fun z => absurd z (by show ¬ (7 : Int) = 0; decide)⟩
    · skip
      obtain ⟨mm, rfl⟩ : ∃ mm, m = mm + 1 := ⟨m - 1, by omega⟩
      refine w_aload_n rfl l0 rfl ?_
      refine w_getR rfl rfl sh_3 rfl rfl ?_
      refine w_getI (z := sv U 39 2) rfl rfl sh_39 rfl rfl rfl ?_
      refine w_istore rfl (by decide) rfl ?_
      refine w_aload_n rfl l1 rfl ?_
      refine w_iload rfl (congrArg x_k2 l5) rfl ?_
      refine w_iconst rfl rfl ?_
      refine w_isub rfl rfl ?_
      refine w_CV (as := [.int (iZ (i - 1))]) (r := []) rfl rfl rfl rfl (sh_mac hu) (Nat.le_of_ble_eq_true rfl) (Nat.le_of_ble_eq_true rfl) (by omega) rfl (c_pas (u := u) (e := e) (i := i - 1) hu kk ho (by omega) (by omega) (by omega)) ?_
      rintro _ _ ⟨rfl, hS⟩
      rw [hS]
      show w_T _ _ 27 40 _ [.int (iZ (zB (pas e.2.2.2 (i - 1))))] _ _
      refine w_istore rfl (by decide) rfl ?_
      refine w_iload rfl rfl rfl ?_
      refine w_b_eq (pc2 := 52) (pc3 := 47) rfl (by decide) rfl (fun c44 => ?_) (fun c44 => ?_)
      · skip
        refine w_iload rfl rfl rfl ?_
        refine w_istore rfl (by decide) rfl ?_
        refine w_aload_n rfl l0 rfl ?_
        refine w_aload_n rfl l1 rfl ?_
        refine w_iload rfl (congrArg x_k2 l5) rfl ?_
        refine w_aload_n rfl l2 rfl ?_
        refine w_iload_n rfl (congrArg x_k2 l3) rfl ?_
        refine w_CV (as := [.ref (6 + 3 * u), .int (iZ i), .ref (43 + 5 * q), .int (iZ pl)]) (r := []) rfl rfl rfl rfl sh_3 (Nat.le_of_ble_eq_true rfl) (Nat.le_of_ble_eq_true rfl) (by omega) rfl (c_arow (S := U) (u := u) (q := q) (e := e) (base := base) (top := top) (as := as) (os := os) (i := i) (pl := pl) (l := l) hq hu kk ho kar kag hca hco ha4 ho4 b0 (by omega) (by omega) (by omega) i0 (by omega) hz hw (by omega) (by omega)) ?_
        rintro _ W ⟨rfl, f1, hz1, hw1⟩
        show w_T _ _ 27 65 _ [] _ _
        have hlen : ((l ++ brow e as os pl i).length : Int) = l.length + (brow e as os pl i).length := by rw [List.length_append]; omega
        have hb40 := brow_40 (e := e) (pl := pl) (i := i) ha4 ho4
        have hbo := brow_ok (pl := pl) (i := i) ho hla hlo p0 p1 i0 (by omega)
        refine w_iload rfl rfl rfl ?_
        refine w_b_eq (pc2 := 93) (pc3 := 70) rfl (by decide) rfl (fun c67 => ?_) (fun c67 => ?_)
        · skip
          refine w_iconst rfl rfl ?_
          refine w_istore rfl (by decide) rfl ?_
          refine w_iload rfl rfl rfl ?_
          refine w_if_eq (pc2 := 117) (pc3 := 101) rfl (by decide) rfl ⟨by decide, by decide⟩ (fun _ => ?_) (fun hc => absurd hc (by decide))
          have kW : cmac W u e := cmac_fr kk f1 (by omega) (by omega) (by omega)
          have hm1 : mst e as os pl i l ch = some (l ++ brow e as os pl i) := by
            unfold mst
            rw [if_neg]
            rintro ⟨y1, y2, y3⟩
            first | omega | (exact absurd (c44.symm.trans c67) (by decide)) | (rw [c67] at y1; exact absurd y1 (by decide))
          refine w_iload rfl (congrArg x_k2 l5) rfl ?_
          refine w_aload_n rfl l1 rfl ?_
          refine w_iload rfl (congrArg x_k2 l5) rfl ?_
          refine w_iconst rfl rfl ?_
          refine w_iadd rfl rfl ?_
          refine w_CV (as := [.int (iZ (i + 1))]) (r := [.int (iZ i)]) rfl rfl rfl rfl (sh_mac hu) (Nat.le_of_ble_eq_true rfl) (Nat.le_of_ble_eq_true rfl) (by omega) rfl (c_pas (u := u) (e := e) (i := i + 1) hu kW ho (by omega) (by omega) (by omega)) ?_
          rintro _ _ ⟨rfl, hS⟩
          rw [hS]
          show w_T _ _ 27 127 _ [.int (iZ (zB (pas e.2.2.2 (i + 1)))), .int (iZ i)] _ _
          refine w_b_eq (pc2 := 134) (pc3 := 130) rfl (by decide) rfl (fun c127 => ?_) (fun c127 => ?_)
          · skip
            refine w_iconst rfl rfl ?_
            refine w_iadd rfl rfl ?_
            refine w_istore rfl (by decide) rfl ?_
            refine w_iinc rfl rfl (by decide) rfl ?_
            refine w_goto (pc2 := 14) rfl (by decide) ?_
            exact ih (sv U 39 2) (i + 0 + 1) mm ((l ++ brow e as os pl i)) _ _ (by exact l0) (by exact l1) (by exact l2) (by exact (congrArg x_k2 l3)) (by exact rfl) (by exact rfl) (by exact fr_trans hfr f1) (by exact hz1) (by exact hw1) (by omega) (by first | omega | (have := pas_r c127; omega)) (by omega) (by exact loks_app hlk hbo) (by omega) (by omega) (by omega) (by first | (exfalso; omega) | (exact absurd (c44.symm.trans c67) (by decide)) | (rw [mkr_s (by omega) hm1, c127, c44] at he; first | exact he | (rw [hz]; exact he))) (by omega)
          · skip
            refine w_iconst rfl rfl ?_
            refine w_goto (pc2 := 135) rfl (by decide) ?_
            refine w_iadd rfl rfl ?_
            refine w_istore rfl (by decide) rfl ?_
            refine w_iinc rfl rfl (by decide) rfl ?_
            refine w_goto (pc2 := 14) rfl (by decide) ?_
            exact ih (sv U 39 2) (i + 1 + 1) mm ((l ++ brow e as os pl i)) _ _ (by exact l0) (by exact l1) (by exact l2) (by exact (congrArg x_k2 l3)) (by exact rfl) (by exact rfl) (by exact fr_trans hfr f1) (by exact hz1) (by exact hw1) (by omega) (by first | omega | (have := pas_r c127; omega)) (by omega) (by exact loks_app hlk hbo) (by omega) (by omega) (by omega) (by first | (exfalso; omega) | (exact absurd (c44.symm.trans c67) (by decide)) | (rw [mkr_s (by omega) hm1, c127, c44] at he; first | exact he | (rw [hz]; exact he))) (by omega)
        · skip
          refine w_iload rfl rfl rfl ?_
          refine w_iload rfl rfl rfl ?_
          refine w_ic_le (pc2 := 93) (pc3 := 77) rfl (by decide) rfl ⟨by omega, by omega⟩ ⟨by omega, by omega⟩ (fun c74 => ?_) (fun c74 => ?_)
          · skip
            refine w_iconst rfl rfl ?_
            refine w_istore rfl (by decide) rfl ?_
            refine w_iload rfl rfl rfl ?_
            refine w_if_eq (pc2 := 117) (pc3 := 101) rfl (by decide) rfl ⟨by decide, by decide⟩ (fun _ => ?_) (fun hc => absurd hc (by decide))
            have kW : cmac W u e := cmac_fr kk f1 (by omega) (by omega) (by omega)
            have hm1 : mst e as os pl i l ch = some (l ++ brow e as os pl i) := by
              unfold mst
              rw [if_neg]
              rintro ⟨y1, y2, y3⟩
              first | omega | (exact absurd (c44.symm.trans c67) (by decide)) | (rw [c67] at y1; exact absurd y1 (by decide))
            refine w_iload rfl (congrArg x_k2 l5) rfl ?_
            refine w_aload_n rfl l1 rfl ?_
            refine w_iload rfl (congrArg x_k2 l5) rfl ?_
            refine w_iconst rfl rfl ?_
            refine w_iadd rfl rfl ?_
            refine w_CV (as := [.int (iZ (i + 1))]) (r := [.int (iZ i)]) rfl rfl rfl rfl (sh_mac hu) (Nat.le_of_ble_eq_true rfl) (Nat.le_of_ble_eq_true rfl) (by omega) rfl (c_pas (u := u) (e := e) (i := i + 1) hu kW ho (by omega) (by omega) (by omega)) ?_
            rintro _ _ ⟨rfl, hS⟩
            rw [hS]
            show w_T _ _ 27 127 _ [.int (iZ (zB (pas e.2.2.2 (i + 1)))), .int (iZ i)] _ _
            refine w_b_eq (pc2 := 134) (pc3 := 130) rfl (by decide) rfl (fun c127 => ?_) (fun c127 => ?_)
            · skip
              refine w_iconst rfl rfl ?_
              refine w_iadd rfl rfl ?_
              refine w_istore rfl (by decide) rfl ?_
              refine w_iinc rfl rfl (by decide) rfl ?_
              refine w_goto (pc2 := 14) rfl (by decide) ?_
              exact ih (sv U 39 2) (i + 0 + 1) mm ((l ++ brow e as os pl i)) _ _ (by exact l0) (by exact l1) (by exact l2) (by exact (congrArg x_k2 l3)) (by exact rfl) (by exact rfl) (by exact fr_trans hfr f1) (by exact hz1) (by exact hw1) (by omega) (by first | omega | (have := pas_r c127; omega)) (by omega) (by exact loks_app hlk hbo) (by omega) (by omega) (by omega) (by first | (exfalso; omega) | (exact absurd (c44.symm.trans c67) (by decide)) | (rw [mkr_s (by omega) hm1, c127, c44] at he; first | exact he | (rw [hz]; exact he))) (by omega)
            · skip
              refine w_iconst rfl rfl ?_
              refine w_goto (pc2 := 135) rfl (by decide) ?_
              refine w_iadd rfl rfl ?_
              refine w_istore rfl (by decide) rfl ?_
              refine w_iinc rfl rfl (by decide) rfl ?_
              refine w_goto (pc2 := 14) rfl (by decide) ?_
              exact ih (sv U 39 2) (i + 1 + 1) mm ((l ++ brow e as os pl i)) _ _ (by exact l0) (by exact l1) (by exact l2) (by exact (congrArg x_k2 l3)) (by exact rfl) (by exact rfl) (by exact fr_trans hfr f1) (by exact hz1) (by exact hw1) (by omega) (by first | omega | (have := pas_r c127; omega)) (by omega) (by exact loks_app hlk hbo) (by omega) (by omega) (by omega) (by first | (exfalso; omega) | (exact absurd (c44.symm.trans c67) (by decide)) | (rw [mkr_s (by omega) hm1, c127, c44] at he; first | exact he | (rw [hz]; exact he))) (by omega)
          · skip
            refine w_aload_n rfl l0 rfl ?_
            refine w_getR rfl rfl sh_3 rfl rfl ?_
            refine w_getI (z := sv W 39 2) rfl rfl sh_39 rfl rfl rfl ?_
            refine w_iload rfl rfl rfl ?_
            refine w_ic_le (pc2 := 93) (pc3 := 89) rfl (by decide) rfl ⟨by omega, by omega⟩ ⟨by omega, by omega⟩ (fun c86 => ?_) (fun c86 => ?_)
            · skip
              refine w_iconst rfl rfl ?_
              refine w_istore rfl (by decide) rfl ?_
              refine w_iload rfl rfl rfl ?_
              refine w_if_eq (pc2 := 117) (pc3 := 101) rfl (by decide) rfl ⟨by decide, by decide⟩ (fun _ => ?_) (fun hc => absurd hc (by decide))
              have kW : cmac W u e := cmac_fr kk f1 (by omega) (by omega) (by omega)
              have hm1 : mst e as os pl i l ch = some (l ++ brow e as os pl i) := by
                unfold mst
                rw [if_neg]
                rintro ⟨y1, y2, y3⟩
                first | omega | (exact absurd (c44.symm.trans c67) (by decide)) | (rw [c67] at y1; exact absurd y1 (by decide))
              refine w_iload rfl (congrArg x_k2 l5) rfl ?_
              refine w_aload_n rfl l1 rfl ?_
              refine w_iload rfl (congrArg x_k2 l5) rfl ?_
              refine w_iconst rfl rfl ?_
              refine w_iadd rfl rfl ?_
              refine w_CV (as := [.int (iZ (i + 1))]) (r := [.int (iZ i)]) rfl rfl rfl rfl (sh_mac hu) (Nat.le_of_ble_eq_true rfl) (Nat.le_of_ble_eq_true rfl) (by omega) rfl (c_pas (u := u) (e := e) (i := i + 1) hu kW ho (by omega) (by omega) (by omega)) ?_
              rintro _ _ ⟨rfl, hS⟩
              rw [hS]
              show w_T _ _ 27 127 _ [.int (iZ (zB (pas e.2.2.2 (i + 1)))), .int (iZ i)] _ _
              refine w_b_eq (pc2 := 134) (pc3 := 130) rfl (by decide) rfl (fun c127 => ?_) (fun c127 => ?_)
              · skip
                refine w_iconst rfl rfl ?_
                refine w_iadd rfl rfl ?_
                refine w_istore rfl (by decide) rfl ?_
                refine w_iinc rfl rfl (by decide) rfl ?_
                refine w_goto (pc2 := 14) rfl (by decide) ?_
                exact ih (sv U 39 2) (i + 0 + 1) mm ((l ++ brow e as os pl i)) _ _ (by exact l0) (by exact l1) (by exact l2) (by exact (congrArg x_k2 l3)) (by exact rfl) (by exact rfl) (by exact fr_trans hfr f1) (by exact hz1) (by exact hw1) (by omega) (by first | omega | (have := pas_r c127; omega)) (by omega) (by exact loks_app hlk hbo) (by omega) (by omega) (by omega) (by first | (exfalso; omega) | (exact absurd (c44.symm.trans c67) (by decide)) | (rw [mkr_s (by omega) hm1, c127, c44] at he; first | exact he | (rw [hz]; exact he))) (by omega)
              · skip
                refine w_iconst rfl rfl ?_
                refine w_goto (pc2 := 135) rfl (by decide) ?_
                refine w_iadd rfl rfl ?_
                refine w_istore rfl (by decide) rfl ?_
                refine w_iinc rfl rfl (by decide) rfl ?_
                refine w_goto (pc2 := 14) rfl (by decide) ?_
                exact ih (sv U 39 2) (i + 1 + 1) mm ((l ++ brow e as os pl i)) _ _ (by exact l0) (by exact l1) (by exact l2) (by exact (congrArg x_k2 l3)) (by exact rfl) (by exact rfl) (by exact fr_trans hfr f1) (by exact hz1) (by exact hw1) (by omega) (by first | omega | (have := pas_r c127; omega)) (by omega) (by exact loks_app hlk hbo) (by omega) (by omega) (by omega) (by first | (exfalso; omega) | (exact absurd (c44.symm.trans c67) (by decide)) | (rw [mkr_s (by omega) hm1, c127, c44] at he; first | exact he | (rw [hz]; exact he))) (by omega)
            · skip
              refine w_iconst rfl rfl ?_
              refine w_goto (pc2 := 94) rfl (by decide) ?_
              refine w_istore rfl (by decide) rfl ?_
              refine w_iload rfl rfl rfl ?_
              refine w_if_eq (pc2 := 117) (pc3 := 101) rfl (by decide) rfl ⟨by decide, by decide⟩ (fun hc => absurd hc (by decide)) (fun _ => ?_)
              obtain ⟨k1, xa, hl1⟩ := list_snoc (l := l) (by omega)
              obtain ⟨xb, rs, hbr⟩ := list_cons (l := brow e as os pl i) (by omega)
              have hcat : l ++ brow e as os pl i = k1 ++ xa :: xb :: rs := by rw [hl1, hbr, List.append_assoc]; rfl
              have hz2 := hz1
              have hw2 := hw1
              rw [hcat] at hz2 hw2
              have oka : eok xa := hlk xa (by rw [hl1]; simp)
              have okb : eok xb := hbo xb (by rw [hbr]; simp)
              have hm1 : mst e as os pl i l ch = (match jt xa.1 xb.1 with | some x => some (k1 ++ (x, pl, fun q => xa.2.2 q && xb.2.2 q) :: rs) | none => none) := by
                unfold mst
                rw [if_pos ⟨c67, by omega, by omega⟩, hbr, hl1, jrow_eq]
              refine w_aload_n rfl l0 rfl ?_
              refine w_getR rfl rfl sh_3 rfl rfl ?_
              refine w_iload rfl rfl rfl ?_
              refine w_iload_n rfl (congrArg x_k2 l3) rfl ?_
              refine w_CV (as := [.int (iZ (sv U 39 2)), .int (iZ pl)]) (r := []) rfl rfl rfl rfl sh_39 (Nat.le_of_ble_eq_true rfl) (Nat.le_of_ble_eq_true rfl) (by omega) rfl (c_jat3 (S := W) (nm := nmT T) (l1 := k1) (rs := rs) (a := xa) (b := xb) (i := sv U 39 2) (p := pl) hz2 hw2 (by rw [hz, hl1, List.length_append]; rfl) (by rw [← hcat]; omega) oka okb (by omega)) ?_
              rintro _ V ⟨c, rfl, f2, j0, j1⟩
              show w_T _ _ 27 111 _ [.int (iZ (zB c))] _ _
              refine w_b_ne (pc2 := 117) (pc3 := 114) rfl (by decide) rfl (fun c111 => ?_) (fun c111 => ?_)
              · skip
                obtain ⟨x, hx, hz3, hw3⟩ := j1 c111
                rw [hx] at hm1
                have kV : cmac V u e := cmac_fr (cmac_fr kk f1 (by omega) (by omega) (by omega)) f2 (by omega) (by omega) (by omega)
                have hl9 : ((k1 ++ (x, pl, fun q => xa.2.2 q && xb.2.2 q) :: rs).length : Int) + 1 = (l ++ brow e as os pl i).length := by rw [hcat, List.length_append, List.length_append]; simp only [List.length_cons]; omega
                refine w_iload rfl (congrArg x_k2 l5) rfl ?_
                refine w_aload_n rfl l1 rfl ?_
                refine w_iload rfl (congrArg x_k2 l5) rfl ?_
                refine w_iconst rfl rfl ?_
                refine w_iadd rfl rfl ?_
                refine w_CV (as := [.int (iZ (i + 1))]) (r := [.int (iZ i)]) rfl rfl rfl rfl (sh_mac hu) (Nat.le_of_ble_eq_true rfl) (Nat.le_of_ble_eq_true rfl) (by omega) rfl (c_pas (u := u) (e := e) (i := i + 1) hu kV ho (by omega) (by omega) (by omega)) ?_
                rintro _ _ ⟨rfl, hS⟩
                rw [hS]
                show w_T _ _ 27 127 _ [.int (iZ (zB (pas e.2.2.2 (i + 1)))), .int (iZ i)] _ _
                refine w_b_eq (pc2 := 134) (pc3 := 130) rfl (by decide) rfl (fun c127 => ?_) (fun c127 => ?_)
                · skip
                  refine w_iconst rfl rfl ?_
                  refine w_iadd rfl rfl ?_
                  refine w_istore rfl (by decide) rfl ?_
                  refine w_iinc rfl rfl (by decide) rfl ?_
                  refine w_goto (pc2 := 14) rfl (by decide) ?_
                  exact ih (sv U 39 2) (i + 0 + 1) mm ((k1 ++ (x, pl, fun q => xa.2.2 q && xb.2.2 q) :: rs)) _ _ (by exact l0) (by exact l1) (by exact l2) (by exact (congrArg x_k2 l3)) (by exact rfl) (by exact rfl) (by exact fr_trans (fr_trans hfr f1) f2) (by exact hz3) (by exact hw3) (by omega) (by first | omega | (have := pas_r c127; omega)) (by omega) (by intro y hy; rcases List.mem_append.mp hy with h9 | h9; (exact hlk y (by rw [hl1]; exact List.mem_append.mpr (Or.inl h9))); (rcases List.mem_cons.mp h9 with h8 | h8; (rw [h8]; exact ⟨jt_pos oka.1 okb.1 hx, p0, p1⟩); (exact hbo y (by rw [hbr]; exact List.mem_cons.mpr (Or.inr h8))))) (by omega) (by omega) (by omega) (by first | (exfalso; omega) | (exact absurd (c44.symm.trans c67) (by decide)) | (rw [mkr_s (by omega) hm1, c127, c44] at he; first | exact he | (rw [hz]; exact he))) (by omega)
                · skip
                  refine w_iconst rfl rfl ?_
                  refine w_goto (pc2 := 135) rfl (by decide) ?_
                  refine w_iadd rfl rfl ?_
                  refine w_istore rfl (by decide) rfl ?_
                  refine w_iinc rfl rfl (by decide) rfl ?_
                  refine w_goto (pc2 := 14) rfl (by decide) ?_
                  exact ih (sv U 39 2) (i + 1 + 1) mm ((k1 ++ (x, pl, fun q => xa.2.2 q && xb.2.2 q) :: rs)) _ _ (by exact l0) (by exact l1) (by exact l2) (by exact (congrArg x_k2 l3)) (by exact rfl) (by exact rfl) (by exact fr_trans (fr_trans hfr f1) f2) (by exact hz3) (by exact hw3) (by omega) (by first | omega | (have := pas_r c127; omega)) (by omega) (by intro y hy; rcases List.mem_append.mp hy with h9 | h9; (exact hlk y (by rw [hl1]; exact List.mem_append.mpr (Or.inl h9))); (rcases List.mem_cons.mp h9 with h8 | h8; (rw [h8]; exact ⟨jt_pos oka.1 okb.1 hx, p0, p1⟩); (exact hbo y (by rw [hbr]; exact List.mem_cons.mpr (Or.inr h8))))) (by omega) (by omega) (by omega) (by first | (exfalso; omega) | (exact absurd (c44.symm.trans c67) (by decide)) | (rw [mkr_s (by omega) hm1, c127, c44] at he; first | exact he | (rw [hz]; exact he))) (by omega)
              · skip
                refine w_bipush rfl (by decide) rfl ?_
                refine w_iret rfl rfl ?_
                have hn := j0 c111
                rw [hn] at hm1
                rw [mkr_n (by omega) hm1] at he
                have hr : mrep e as os pl = (9, []) := by unfold mrep; rw [← he]
                rw [hr]
                exact ⟨rfl, fr_trans (fr_trans hfr f1) f2, fun z => absurd z (by show ¬ (9 : Int) = 0; decide)⟩
      · skip
        refine w_iload rfl l4 rfl ?_
        refine w_goto (pc2 := 54) rfl (by decide) ?_
        refine w_istore rfl (by decide) rfl ?_
        refine w_aload_n rfl l0 rfl ?_
        refine w_aload_n rfl l1 rfl ?_
        refine w_iload rfl (congrArg x_k2 l5) rfl ?_
        refine w_aload_n rfl l2 rfl ?_
        refine w_iload_n rfl (congrArg x_k2 l3) rfl ?_
        refine w_CV (as := [.ref (6 + 3 * u), .int (iZ i), .ref (43 + 5 * q), .int (iZ pl)]) (r := []) rfl rfl rfl rfl sh_3 (Nat.le_of_ble_eq_true rfl) (Nat.le_of_ble_eq_true rfl) (by omega) rfl (c_arow (S := U) (u := u) (q := q) (e := e) (base := base) (top := top) (as := as) (os := os) (i := i) (pl := pl) (l := l) hq hu kk ho kar kag hca hco ha4 ho4 b0 (by omega) (by omega) (by omega) i0 (by omega) hz hw (by omega) (by omega)) ?_
        rintro _ W ⟨rfl, f1, hz1, hw1⟩
        show w_T _ _ 27 65 _ [] _ _
        have hlen : ((l ++ brow e as os pl i).length : Int) = l.length + (brow e as os pl i).length := by rw [List.length_append]; omega
        have hb40 := brow_40 (e := e) (pl := pl) (i := i) ha4 ho4
        have hbo := brow_ok (pl := pl) (i := i) ho hla hlo p0 p1 i0 (by omega)
        refine w_iload rfl rfl rfl ?_
        refine w_b_eq (pc2 := 93) (pc3 := 70) rfl (by decide) rfl (fun c67 => ?_) (fun c67 => ?_)
        · skip
          refine w_iconst rfl rfl ?_
          refine w_istore rfl (by decide) rfl ?_
          refine w_iload rfl rfl rfl ?_
          refine w_if_eq (pc2 := 117) (pc3 := 101) rfl (by decide) rfl ⟨by decide, by decide⟩ (fun _ => ?_) (fun hc => absurd hc (by decide))
          have kW : cmac W u e := cmac_fr kk f1 (by omega) (by omega) (by omega)
          have hm1 : mst e as os pl i l ch = some (l ++ brow e as os pl i) := by
            unfold mst
            rw [if_neg]
            rintro ⟨y1, y2, y3⟩
            first | omega | (exact absurd (c44.symm.trans c67) (by decide)) | (rw [c67] at y1; exact absurd y1 (by decide))
          refine w_iload rfl (congrArg x_k2 l5) rfl ?_
          refine w_aload_n rfl l1 rfl ?_
          refine w_iload rfl (congrArg x_k2 l5) rfl ?_
          refine w_iconst rfl rfl ?_
          refine w_iadd rfl rfl ?_
          refine w_CV (as := [.int (iZ (i + 1))]) (r := [.int (iZ i)]) rfl rfl rfl rfl (sh_mac hu) (Nat.le_of_ble_eq_true rfl) (Nat.le_of_ble_eq_true rfl) (by omega) rfl (c_pas (u := u) (e := e) (i := i + 1) hu kW ho (by omega) (by omega) (by omega)) ?_
          rintro _ _ ⟨rfl, hS⟩
          rw [hS]
          show w_T _ _ 27 127 _ [.int (iZ (zB (pas e.2.2.2 (i + 1)))), .int (iZ i)] _ _
          refine w_b_eq (pc2 := 134) (pc3 := 130) rfl (by decide) rfl (fun c127 => ?_) (fun c127 => ?_)
          · skip
            refine w_iconst rfl rfl ?_
            refine w_iadd rfl rfl ?_
            refine w_istore rfl (by decide) rfl ?_
            refine w_iinc rfl rfl (by decide) rfl ?_
            refine w_goto (pc2 := 14) rfl (by decide) ?_
            exact ih ch (i + 0 + 1) mm ((l ++ brow e as os pl i)) _ _ (by exact l0) (by exact l1) (by exact l2) (by exact (congrArg x_k2 l3)) (by exact rfl) (by exact rfl) (by exact fr_trans hfr f1) (by exact hz1) (by exact hw1) (by omega) (by first | omega | (have := pas_r c127; omega)) (by omega) (by exact loks_app hlk hbo) (by omega) (by omega) (by omega) (by first | (exfalso; omega) | (exact absurd (c44.symm.trans c67) (by decide)) | (rw [mkr_s (by omega) hm1, c127, c44] at he; first | exact he | (rw [hz]; exact he))) (by omega)
          · skip
            refine w_iconst rfl rfl ?_
            refine w_goto (pc2 := 135) rfl (by decide) ?_
            refine w_iadd rfl rfl ?_
            refine w_istore rfl (by decide) rfl ?_
            refine w_iinc rfl rfl (by decide) rfl ?_
            refine w_goto (pc2 := 14) rfl (by decide) ?_
            exact ih ch (i + 1 + 1) mm ((l ++ brow e as os pl i)) _ _ (by exact l0) (by exact l1) (by exact l2) (by exact (congrArg x_k2 l3)) (by exact rfl) (by exact rfl) (by exact fr_trans hfr f1) (by exact hz1) (by exact hw1) (by omega) (by first | omega | (have := pas_r c127; omega)) (by omega) (by exact loks_app hlk hbo) (by omega) (by omega) (by omega) (by first | (exfalso; omega) | (exact absurd (c44.symm.trans c67) (by decide)) | (rw [mkr_s (by omega) hm1, c127, c44] at he; first | exact he | (rw [hz]; exact he))) (by omega)
        · skip
          refine w_iload rfl rfl rfl ?_
          refine w_iload rfl rfl rfl ?_
          refine w_ic_le (pc2 := 93) (pc3 := 77) rfl (by decide) rfl ⟨by omega, by omega⟩ ⟨by omega, by omega⟩ (fun c74 => ?_) (fun c74 => ?_)
          · skip
            refine w_iconst rfl rfl ?_
            refine w_istore rfl (by decide) rfl ?_
            refine w_iload rfl rfl rfl ?_
            refine w_if_eq (pc2 := 117) (pc3 := 101) rfl (by decide) rfl ⟨by decide, by decide⟩ (fun _ => ?_) (fun hc => absurd hc (by decide))
            have kW : cmac W u e := cmac_fr kk f1 (by omega) (by omega) (by omega)
            have hm1 : mst e as os pl i l ch = some (l ++ brow e as os pl i) := by
              unfold mst
              rw [if_neg]
              rintro ⟨y1, y2, y3⟩
              first | omega | (exact absurd (c44.symm.trans c67) (by decide)) | (rw [c67] at y1; exact absurd y1 (by decide))
            refine w_iload rfl (congrArg x_k2 l5) rfl ?_
            refine w_aload_n rfl l1 rfl ?_
            refine w_iload rfl (congrArg x_k2 l5) rfl ?_
            refine w_iconst rfl rfl ?_
            refine w_iadd rfl rfl ?_
            refine w_CV (as := [.int (iZ (i + 1))]) (r := [.int (iZ i)]) rfl rfl rfl rfl (sh_mac hu) (Nat.le_of_ble_eq_true rfl) (Nat.le_of_ble_eq_true rfl) (by omega) rfl (c_pas (u := u) (e := e) (i := i + 1) hu kW ho (by omega) (by omega) (by omega)) ?_
            rintro _ _ ⟨rfl, hS⟩
            rw [hS]
            show w_T _ _ 27 127 _ [.int (iZ (zB (pas e.2.2.2 (i + 1)))), .int (iZ i)] _ _
            refine w_b_eq (pc2 := 134) (pc3 := 130) rfl (by decide) rfl (fun c127 => ?_) (fun c127 => ?_)
            · skip
              refine w_iconst rfl rfl ?_
              refine w_iadd rfl rfl ?_
              refine w_istore rfl (by decide) rfl ?_
              refine w_iinc rfl rfl (by decide) rfl ?_
              refine w_goto (pc2 := 14) rfl (by decide) ?_
              exact ih ch (i + 0 + 1) mm ((l ++ brow e as os pl i)) _ _ (by exact l0) (by exact l1) (by exact l2) (by exact (congrArg x_k2 l3)) (by exact rfl) (by exact rfl) (by exact fr_trans hfr f1) (by exact hz1) (by exact hw1) (by omega) (by first | omega | (have := pas_r c127; omega)) (by omega) (by exact loks_app hlk hbo) (by omega) (by omega) (by omega) (by first | (exfalso; omega) | (exact absurd (c44.symm.trans c67) (by decide)) | (rw [mkr_s (by omega) hm1, c127, c44] at he; first | exact he | (rw [hz]; exact he))) (by omega)
            · skip
              refine w_iconst rfl rfl ?_
              refine w_goto (pc2 := 135) rfl (by decide) ?_
              refine w_iadd rfl rfl ?_
              refine w_istore rfl (by decide) rfl ?_
              refine w_iinc rfl rfl (by decide) rfl ?_
              refine w_goto (pc2 := 14) rfl (by decide) ?_
              exact ih ch (i + 1 + 1) mm ((l ++ brow e as os pl i)) _ _ (by exact l0) (by exact l1) (by exact l2) (by exact (congrArg x_k2 l3)) (by exact rfl) (by exact rfl) (by exact fr_trans hfr f1) (by exact hz1) (by exact hw1) (by omega) (by first | omega | (have := pas_r c127; omega)) (by omega) (by exact loks_app hlk hbo) (by omega) (by omega) (by omega) (by first | (exfalso; omega) | (exact absurd (c44.symm.trans c67) (by decide)) | (rw [mkr_s (by omega) hm1, c127, c44] at he; first | exact he | (rw [hz]; exact he))) (by omega)
          · skip
            refine w_aload_n rfl l0 rfl ?_
            refine w_getR rfl rfl sh_3 rfl rfl ?_
            refine w_getI (z := sv W 39 2) rfl rfl sh_39 rfl rfl rfl ?_
            refine w_iload rfl rfl rfl ?_
            refine w_ic_le (pc2 := 93) (pc3 := 89) rfl (by decide) rfl ⟨by omega, by omega⟩ ⟨by omega, by omega⟩ (fun c86 => ?_) (fun c86 => ?_)
            · skip
              refine w_iconst rfl rfl ?_
              refine w_istore rfl (by decide) rfl ?_
              refine w_iload rfl rfl rfl ?_
              refine w_if_eq (pc2 := 117) (pc3 := 101) rfl (by decide) rfl ⟨by decide, by decide⟩ (fun _ => ?_) (fun hc => absurd hc (by decide))
              have kW : cmac W u e := cmac_fr kk f1 (by omega) (by omega) (by omega)
              have hm1 : mst e as os pl i l ch = some (l ++ brow e as os pl i) := by
                unfold mst
                rw [if_neg]
                rintro ⟨y1, y2, y3⟩
                first | omega | (exact absurd (c44.symm.trans c67) (by decide)) | (rw [c67] at y1; exact absurd y1 (by decide))
              refine w_iload rfl (congrArg x_k2 l5) rfl ?_
              refine w_aload_n rfl l1 rfl ?_
              refine w_iload rfl (congrArg x_k2 l5) rfl ?_
              refine w_iconst rfl rfl ?_
              refine w_iadd rfl rfl ?_
              refine w_CV (as := [.int (iZ (i + 1))]) (r := [.int (iZ i)]) rfl rfl rfl rfl (sh_mac hu) (Nat.le_of_ble_eq_true rfl) (Nat.le_of_ble_eq_true rfl) (by omega) rfl (c_pas (u := u) (e := e) (i := i + 1) hu kW ho (by omega) (by omega) (by omega)) ?_
              rintro _ _ ⟨rfl, hS⟩
              rw [hS]
              show w_T _ _ 27 127 _ [.int (iZ (zB (pas e.2.2.2 (i + 1)))), .int (iZ i)] _ _
              refine w_b_eq (pc2 := 134) (pc3 := 130) rfl (by decide) rfl (fun c127 => ?_) (fun c127 => ?_)
              · skip
                refine w_iconst rfl rfl ?_
                refine w_iadd rfl rfl ?_
                refine w_istore rfl (by decide) rfl ?_
                refine w_iinc rfl rfl (by decide) rfl ?_
                refine w_goto (pc2 := 14) rfl (by decide) ?_
                exact ih ch (i + 0 + 1) mm ((l ++ brow e as os pl i)) _ _ (by exact l0) (by exact l1) (by exact l2) (by exact (congrArg x_k2 l3)) (by exact rfl) (by exact rfl) (by exact fr_trans hfr f1) (by exact hz1) (by exact hw1) (by omega) (by first | omega | (have := pas_r c127; omega)) (by omega) (by exact loks_app hlk hbo) (by omega) (by omega) (by omega) (by first | (exfalso; omega) | (exact absurd (c44.symm.trans c67) (by decide)) | (rw [mkr_s (by omega) hm1, c127, c44] at he; first | exact he | (rw [hz]; exact he))) (by omega)
              · skip
                refine w_iconst rfl rfl ?_
                refine w_goto (pc2 := 135) rfl (by decide) ?_
                refine w_iadd rfl rfl ?_
                refine w_istore rfl (by decide) rfl ?_
                refine w_iinc rfl rfl (by decide) rfl ?_
                refine w_goto (pc2 := 14) rfl (by decide) ?_
                exact ih ch (i + 1 + 1) mm ((l ++ brow e as os pl i)) _ _ (by exact l0) (by exact l1) (by exact l2) (by exact (congrArg x_k2 l3)) (by exact rfl) (by exact rfl) (by exact fr_trans hfr f1) (by exact hz1) (by exact hw1) (by omega) (by first | omega | (have := pas_r c127; omega)) (by omega) (by exact loks_app hlk hbo) (by omega) (by omega) (by omega) (by first | (exfalso; omega) | (exact absurd (c44.symm.trans c67) (by decide)) | (rw [mkr_s (by omega) hm1, c127, c44] at he; first | exact he | (rw [hz]; exact he))) (by omega)
            · skip
              refine w_iconst rfl rfl ?_
              refine w_goto (pc2 := 94) rfl (by decide) ?_
              refine w_istore rfl (by decide) rfl ?_
              refine w_iload rfl rfl rfl ?_
              refine w_if_eq (pc2 := 117) (pc3 := 101) rfl (by decide) rfl ⟨by decide, by decide⟩ (fun hc => absurd hc (by decide)) (fun _ => ?_)
              obtain ⟨k1, xa, hl1⟩ := list_snoc (l := l) (by omega)
              obtain ⟨xb, rs, hbr⟩ := list_cons (l := brow e as os pl i) (by omega)
              have hcat : l ++ brow e as os pl i = k1 ++ xa :: xb :: rs := by rw [hl1, hbr, List.append_assoc]; rfl
              have hz2 := hz1
              have hw2 := hw1
              rw [hcat] at hz2 hw2
              have oka : eok xa := hlk xa (by rw [hl1]; simp)
              have okb : eok xb := hbo xb (by rw [hbr]; simp)
              have hm1 : mst e as os pl i l ch = (match jt xa.1 xb.1 with | some x => some (k1 ++ (x, pl, fun q => xa.2.2 q && xb.2.2 q) :: rs) | none => none) := by
                unfold mst
                rw [if_pos ⟨c67, by omega, by omega⟩, hbr, hl1, jrow_eq]
              refine w_aload_n rfl l0 rfl ?_
              refine w_getR rfl rfl sh_3 rfl rfl ?_
              refine w_iload rfl rfl rfl ?_
              refine w_iload_n rfl (congrArg x_k2 l3) rfl ?_
              refine w_CV (as := [.int (iZ (sv U 39 2)), .int (iZ pl)]) (r := []) rfl rfl rfl rfl sh_39 (Nat.le_of_ble_eq_true rfl) (Nat.le_of_ble_eq_true rfl) (by omega) rfl (c_jat3 (S := W) (nm := nmT T) (l1 := k1) (rs := rs) (a := xa) (b := xb) (i := sv U 39 2) (p := pl) hz2 hw2 (by rw [hz, hl1, List.length_append]; rfl) (by rw [← hcat]; omega) oka okb (by omega)) ?_
              rintro _ V ⟨c, rfl, f2, j0, j1⟩
              show w_T _ _ 27 111 _ [.int (iZ (zB c))] _ _
              refine w_b_ne (pc2 := 117) (pc3 := 114) rfl (by decide) rfl (fun c111 => ?_) (fun c111 => ?_)
              · skip
                obtain ⟨x, hx, hz3, hw3⟩ := j1 c111
                rw [hx] at hm1
                have kV : cmac V u e := cmac_fr (cmac_fr kk f1 (by omega) (by omega) (by omega)) f2 (by omega) (by omega) (by omega)
                have hl9 : ((k1 ++ (x, pl, fun q => xa.2.2 q && xb.2.2 q) :: rs).length : Int) + 1 = (l ++ brow e as os pl i).length := by rw [hcat, List.length_append, List.length_append]; simp only [List.length_cons]; omega
                refine w_iload rfl (congrArg x_k2 l5) rfl ?_
                refine w_aload_n rfl l1 rfl ?_
                refine w_iload rfl (congrArg x_k2 l5) rfl ?_
                refine w_iconst rfl rfl ?_
                refine w_iadd rfl rfl ?_
                refine w_CV (as := [.int (iZ (i + 1))]) (r := [.int (iZ i)]) rfl rfl rfl rfl (sh_mac hu) (Nat.le_of_ble_eq_true rfl) (Nat.le_of_ble_eq_true rfl) (by omega) rfl (c_pas (u := u) (e := e) (i := i + 1) hu kV ho (by omega) (by omega) (by omega)) ?_
                rintro _ _ ⟨rfl, hS⟩
                rw [hS]
                show w_T _ _ 27 127 _ [.int (iZ (zB (pas e.2.2.2 (i + 1)))), .int (iZ i)] _ _
                refine w_b_eq (pc2 := 134) (pc3 := 130) rfl (by decide) rfl (fun c127 => ?_) (fun c127 => ?_)
                · skip
                  refine w_iconst rfl rfl ?_
                  refine w_iadd rfl rfl ?_
                  refine w_istore rfl (by decide) rfl ?_
                  refine w_iinc rfl rfl (by decide) rfl ?_
                  refine w_goto (pc2 := 14) rfl (by decide) ?_
                  exact ih ch (i + 0 + 1) mm ((k1 ++ (x, pl, fun q => xa.2.2 q && xb.2.2 q) :: rs)) _ _ (by exact l0) (by exact l1) (by exact l2) (by exact (congrArg x_k2 l3)) (by exact rfl) (by exact rfl) (by exact fr_trans (fr_trans hfr f1) f2) (by exact hz3) (by exact hw3) (by omega) (by first | omega | (have := pas_r c127; omega)) (by omega) (by intro y hy; rcases List.mem_append.mp hy with h9 | h9; (exact hlk y (by rw [hl1]; exact List.mem_append.mpr (Or.inl h9))); (rcases List.mem_cons.mp h9 with h8 | h8; (rw [h8]; exact ⟨jt_pos oka.1 okb.1 hx, p0, p1⟩); (exact hbo y (by rw [hbr]; exact List.mem_cons.mpr (Or.inr h8))))) (by omega) (by omega) (by omega) (by first | (exfalso; omega) | (exact absurd (c44.symm.trans c67) (by decide)) | (rw [mkr_s (by omega) hm1, c127, c44] at he; first | exact he | (rw [hz]; exact he))) (by omega)
                · skip
                  refine w_iconst rfl rfl ?_
                  refine w_goto (pc2 := 135) rfl (by decide) ?_
                  refine w_iadd rfl rfl ?_
                  refine w_istore rfl (by decide) rfl ?_
                  refine w_iinc rfl rfl (by decide) rfl ?_
                  refine w_goto (pc2 := 14) rfl (by decide) ?_
                  exact ih ch (i + 1 + 1) mm ((k1 ++ (x, pl, fun q => xa.2.2 q && xb.2.2 q) :: rs)) _ _ (by exact l0) (by exact l1) (by exact l2) (by exact (congrArg x_k2 l3)) (by exact rfl) (by exact rfl) (by exact fr_trans (fr_trans hfr f1) f2) (by exact hz3) (by exact hw3) (by omega) (by first | omega | (have := pas_r c127; omega)) (by omega) (by intro y hy; rcases List.mem_append.mp hy with h9 | h9; (exact hlk y (by rw [hl1]; exact List.mem_append.mpr (Or.inl h9))); (rcases List.mem_cons.mp h9 with h8 | h8; (rw [h8]; exact ⟨jt_pos oka.1 okb.1 hx, p0, p1⟩); (exact hbo y (by rw [hbr]; exact List.mem_cons.mpr (Or.inr h8))))) (by omega) (by omega) (by omega) (by first | (exfalso; omega) | (exact absurd (c44.symm.trans c67) (by decide)) | (rw [mkr_s (by omega) hm1, c127, c44] at he; first | exact he | (rw [hz]; exact he))) (by omega)
              · skip
                refine w_bipush rfl (by decide) rfl ?_
                refine w_iret rfl rfl ?_
                have hn := j0 c111
                rw [hn] at hm1
                rw [mkr_n (by omega) hm1] at he
                have hr : mrep e as os pl = (9, []) := by unfold mrep; rw [← he]
                rw [hr]
                exact ⟨rfl, fr_trans (fr_trans hfr f1) f2, fun z => absurd z (by show ¬ (9 : Int) = 0; decide)⟩
theorem c_mkr {sc : x_S} {d : Nat} {S : w_S} {T : List Mac} {u q : Nat} {e : Mac} {base top pl : Int} {as os : List (List ETok)} (hq : q < 31) (hu : u < 8) (hk : cmac S u e) (ho : mok e) (har : argr (nmT T) (sL S 34) (sA S 35) (sA S (44 + 5 * q)) (sA S (45 + 5 * q)) base top as) (hag : argo (nmT T) (sL S 37) (sA S 38) (sA S (46 + 5 * q)) (sA S (47 + 5 * q)) (sv S 36 2) os) (hca : e.2.2.1.length ≤ as.length) (hco : e.2.2.1.length ≤ os.length) (ha4 : ∀ k, (as.getD k []).length ≤ 40) (ho4 : ∀ k, (os.getD k []).length ≤ 40) (b0 : 0 ≤ base) (tp : top ≤ sv S 33 2) (hP : sv S 33 2 ≤ 1360) (hD : sv S 36 2 ≤ 1360) (p0 : 0 ≤ pl) (p1 : pl ≤ 4000) (hla : ∀ k, loks (as.getD k [])) (hlo : ∀ k, loks (os.getD k [])) (hd : 2 ≤ d) : w_T sc d 27 0 (x_en 0 [.ref 3, .ref (6 + 3 * u), .ref (43 + 5 * q), .int (iZ pl)]) [] S (fun v S2 => v = some (.int (iZ (mrep e as os pl).1)) ∧ fr (fun a => a = 39 ∨ a = 40 ∨ a = 41) S S2 ∧ ((mrep e as os pl).1 = 0 → sv S2 39 2 = (mrep e as os pl).2.length ∧ fw (nmT T) (sL S2 40) (sA S2 41) 0 (mrep e as os pl).2)) := by
  have h12 := ho.2.1
  refine w_aload_n rfl rfl rfl ?_
  refine w_getR rfl rfl sh_3 rfl rfl ?_
  refine w_iconst rfl rfl ?_
  refine w_putf rfl rfl sh_39 rfl rfl (by decide) rfl ?_
  refine w_iconst rfl rfl ?_
  refine w_istore rfl (by decide) rfl ?_
  refine w_iconst rfl rfl ?_
  refine w_istore rfl (by decide) rfl ?_
  exact (c_mkr_c hq hu hk ho har hag hca hco ha4 ho4 b0 tp hP hD p0 p1 hla hlo hd _) 0 0 13 ([]) _ _ rfl rfl rfl rfl rfl rfl (by exact (fr_v (fr_refl _ _) (by omega))) (by simp (disch := omega) only [rv_self, rv_ne, rl_self, rl_ne, rA_self, rA_ne, rL_self, rL_ne, rR_self, rR_ne, xvl, xvA, xvL, xvR, xlv, xlA, xlL, xlR, xAv, xAl, xAL, xAR, xLv, xLl, xLA, xLR, xRv, xRl, xRA, xRL] <;> rfl) (by exact trivial) (by omega) (by omega) (by simp) (by exact fun x hx => absurd hx (by simp)) (by omega) (by omega) (by omega) (by rfl) (Nat.lt_succ_self _)
