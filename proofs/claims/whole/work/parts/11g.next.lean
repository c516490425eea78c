/-! The reference takes the next token. -/
theorem eo_toNat {nm : Nat → Int64} {t : ETok} (h0 : 0 ≤ t.2.1) : (eo nm t).toNat = t.2.1.toNat <<< 8 ||| hs nm t.2.2 := by
  have a1 := hs_lt nm t.2.2
  rw [← Nat.shiftLeft_add_eq_or_of_lt (by omega), Nat.shiftLeft_eq]
  unfold eo
  omega
theorem bit_eo {nm : Nat → Int64} {t : ETok} {m : Int} (h0 : 0 ≤ t.2.1) (h1 : t.2.1 ≤ 4000) (m0 : 0 ≤ m) (m8 : m < 8) : zand (zshr (eo nm t) m) 1 = zB ((hs nm t.2.2).testBit m.toNat) := by
  have r := eo_R (nm := nm) h0 h1
  have e1 : zshr (eo nm t) m = (((eo nm t).toNat >>> m.toNat : Nat) : Int) := by
    rw [zshr_div ⟨by omega, by omega⟩ m0 (by omega), Nat.shiftRight_eq_div_pow]
    rw [Int.natCast_ediv, Int.toNat_of_nonneg r.1]
    simp
  have hle : (eo nm t).toNat >>> m.toNat ≤ (eo nm t).toNat := by rw [Nat.shiftRight_eq_div_pow]; exact Nat.div_le_self _ _
  have hz : ∀ n : Nat, n ≤ (eo nm t).toNat → zand (n : Int) 1 = ((n &&& (1 : Int).toNat : Nat) : Int) := fun n hn => by rw [zand_nat (by omega) (by omega) (by decide) (by decide), Int.toNat_natCast]
  rw [e1, hz _ hle]
  have e2 : ((eo nm t).toNat >>> m.toNat) &&& (1 : Int).toNat = ((eo nm t).toNat.testBit m.toNat).toNat := by
    show ((eo nm t).toNat >>> m.toNat) &&& 1 = _
    rw [Nat.and_one_is_mod, Nat.toNat_testBit, Nat.shiftRight_eq_div_pow]
  have e3 : (eo nm t).toNat.testBit m.toNat = (hs nm t.2.2).testBit m.toNat := by
    rw [eo_toNat h0, Nat.testBit_or, Nat.testBit_shiftLeft, decide_eq_false (by omega : ¬ m.toNat ≥ 8)]
    simp
  rw [e2, e3]
  cases (hs nm t.2.2).testBit m.toNat <;> rfl
theorem hcs_call {nm : Nat → Int64} {t c : ETok} (ot : eok t) (oc : eok c) : zand (zand (eo nm t) (zand (eo nm c) 255)) 255 = (hs nm (fun y => t.2.2 y && c.2.2 y) : Nat) := by
  have rt := eo_R (nm := nm) ot.2.1 ot.2.2
  have rc := eo_R (nm := nm) oc.2.1 oc.2.2
  rw [← and255 (nm := nm) ot.2.1 ot.2.2 oc.2.1 oc.2.2]
  rw [zand_nat (a := eo nm c) (by omega) (by omega) (by decide) (by decide)]
  have h1 : (eo nm c).toNat &&& (255 : Int).toNat ≤ (eo nm c).toNat := Nat.and_le_left
  rw [zand_nat (a := eo nm t) (by omega) (by omega) (by omega) (by omega), zand_nat (a := eo nm t) (b := eo nm c) (by omega) (by omega) (by omega) (by omega)]
  have h2 : (eo nm t).toNat &&& ((((eo nm c).toNat &&& (255 : Int).toNat : Nat) : Int)).toNat ≤ (eo nm t).toNat := Nat.and_le_left
  have h3 : (eo nm t).toNat &&& (eo nm c).toNat ≤ (eo nm t).toNat := Nat.and_le_left
  rw [zand_nat (by omega) (by omega) (by decide) (by decide), zand_nat (by omega) (by omega) (by decide) (by decide), Int.toNat_natCast, Int.toNat_natCast, Int.toNat_natCast]
  congr 1
  rw [← Nat.and_assoc, Nat.and_assoc _ _ (255 : Int).toNat, Nat.and_self]
theorem hcs_plain {nm : Nat → Int64} {t : ETok} (ot : eok t) : zand (zand (eo nm t) 255) 255 = (hs nm (fun y => t.2.2 y && t.2.2 y) : Nat) := by
  have rt := eo_R (nm := nm) ot.2.1 ot.2.2
  have a1 := hs_lt nm t.2.2
  have e : zand (eo nm t) 255 = ((hs nm t.2.2 : Nat) : Int) := by
    rw [zand_nat (by omega) (by omega) (by decide) (by decide)]
    have e1 : (eo nm t).toNat &&& (255 : Int).toNat = (eo nm t).toNat % 2 ^ 8 := Nat.and_two_pow_sub_one_eq_mod _ 8
    rw [e1]
    have h0 := ot.2.1
    unfold eo
    omega
  have e2 : (fun y => t.2.2 y && t.2.2 y) = t.2.2 := by funext y; simp
  rw [e, e2, zand_nat (by omega) (by omega) (by decide) (by decide), Int.toNat_natCast]
  have e1 : hs nm t.2.2 &&& (255 : Int).toNat = hs nm t.2.2 % 2 ^ 8 := Nat.and_two_pow_sub_one_eq_mod _ 8
  rw [e1]
  omega
/-- the state as a call begins -/
def NXp (nm : Nat → Int64) (S S1 : w_S) (i b r m : Int) (e : Mac) (t : ETok) (ts : List ETok) : Prop := fr (fun a => a = 249 ∨ a = 273 ∨ a = 274 ∨ (279 ≤ a ∧ a ≤ 284)) S S1 ∧ (∀ k, ¬ (k = 29 ∨ k = 35 ∨ k = 23) → sv S1 249 k = sv S 249 k) ∧ sv S1 249 23 = r + 1 ∧ sv S1 249 29 = b + (xcall e t ts).2.2.2.length ∧ LRp nm S1 i m e t (xcall e t ts).2.2.1 ((xcall e t ts).2.1.take e.2.2.1.length) [] ∧ sv S1 249 35 = sA S1 283 (4 * i + ((xcall e t ts).2.1.take e.2.2.1.length).length) ∧ sv S1 249 35 ≤ sv S 249 35 + 40 ∧ sA S1 283 (4 * i) = sv S 249 35 ∧ sA S1 284 (4 * i) = sv S 249 32 ∧ (∀ j, j < sv S 249 35 → sL S1 273 j = sL S 273 j ∧ sA S1 274 j = sA S 274 j) ∧ (∀ j, ¬ j = i → sA S1 279 j = sA S 279 j ∧ sA S1 280 j = sA S 280 j ∧ sA S1 281 j = sA S 281 j ∧ sA S1 282 j = sA S 282 j) ∧ (∀ j, j < 4 * i → sA S1 283 j = sA S 283 j ∧ sA S1 284 j = sA S 284 j)
theorem rnm_inj {S : w_S} {sg : Nat → Nat} {T : List Mac} (ht : rtab S sg T) (hT : tabok T) {k : Nat} (hk : k < T.length) : ∀ q, q < 8 → nmR S q = nmR S (sg k) → q = sg k := fun q hq e => by
  have h1 := (ht.2.2.2.1 (k : Int) (by omega) (by omega)).1.1
  rw [Int.toNat_natCast] at h1
  have hz := hT.1 (k : Int) (by omega) (by omega)
  unfold nmR at e
  rw [h1] at e
  by_cases c : ∃ j, j < T.length ∧ sg j = q
  · obtain ⟨j, hj, rfl⟩ := c
    have h2 := (ht.2.2.2.1 (j : Int) (by omega) (by omega)).1.1
    rw [Int.toNat_natCast, e] at h2
    rw [hT.2 j k hj hk h2.symm]
  · have h3 := ht.2.2.2.2 q hq (fun j hj hs => c ⟨j, hj, hs⟩)
    rw [e] at h3
    exact absurd h3 hz
theorem fa_mem : ∀ (l : List ETok) (n : Int) (cur : List ETok) (as : List (List ETok)) (q : List (List ETok) × ETok × List ETok), fa l n cur as = some q → ∀ a, a ∈ q.1 → ∀ x, x ∈ a → x ∈ l ∨ x ∈ cur ∨ ∃ c, c ∈ as ∧ x ∈ c
  | [], n, cur, as, q, h => by cases h
  | t :: ts, n, cur, as, q, h => by
    intro a ha x hx
    by_cases h1 : n = 0 ∧ t.1 = 41
    · rw [fa_end h1] at h
      cases h
      rcases List.mem_append.mp ha with z | z
      · exact Or.inr (Or.inr ⟨a, z, hx⟩)
      · rw [List.mem_singleton.mp z] at hx
        exact Or.inr (Or.inl hx)
    · by_cases h2 : n = 0 ∧ t.1 = 44
      · rw [fa_comma h1 h2] at h
        rcases fa_mem ts _ _ _ q h a ha x hx with z | z | ⟨c, z, y⟩
        · exact Or.inl (List.mem_cons_of_mem _ z)
        · exact absurd z (by simp)
        · rcases List.mem_append.mp z with w | w
          · exact Or.inr (Or.inr ⟨c, w, y⟩)
          · rw [List.mem_singleton.mp w] at y
            exact Or.inr (Or.inl y)
      · rw [fa_in h1 h2] at h
        rcases fa_mem ts _ _ _ q h a ha x hx with z | z | z
        · exact Or.inl (List.mem_cons_of_mem _ z)
        · rcases List.mem_append.mp z with w | w
          · exact Or.inr (Or.inl w)
          · rw [List.mem_singleton.mp w]
            exact Or.inl (by simp)
        · exact Or.inr (Or.inr z)
theorem xcall_mem {e : Mac} {t : ETok} {ts : List ETok} (h : (xcall e t ts).1 = 0) : ∀ a, a ∈ (xcall e t ts).2.1 → ∀ x, x ∈ a → x ∈ ts := by
  intro a ha x hx
  unfold xcall at h ha
  by_cases c : e.2.1 = true
  · rw [if_pos c] at h ha
    have g := (fargs_r.2.2 h).1
    rcases fa_mem _ _ _ _ _ g a ha x hx with z | z | ⟨y, z, _⟩
    · exact List.mem_of_mem_tail z
    · exact absurd z (by simp)
    · exact absurd z (by simp)
  · rw [if_neg c] at ha
    replace ha : a ∈ ([] : List (List ETok)) := ha
    exact absurd ha (by simp)
theorem LS_of {nm : Nat → Int64} {m : Int} {e : Mac} {t : ETok} {ts : List ETok} (m0 : 0 ≤ m) (m8 : m < 8) (ho : mok e) (hb : bg e) (hl : loks (t :: ts)) (hg : lgw (t :: ts)) (hn : nm m.toNat = e.1) (hi : ∀ q, q < 8 → nm q = nm m.toNat → q = m.toNat) (hz : ¬ e.1 = 0) (hc : e.2.1 = true → hd40 ts = true) (hx : (xcall e t ts).1 = 0) : LSp nm m e t ((xcall e t ts).2.1.take e.2.2.1.length) := by
  have r := (xcall_r (t := t) ho hc).2.2 hx
  have rl := r.2.2.2 (hl t (by simp)) (fun x hx => hl x (by simp [hx]))
  refine ⟨m0, m8, ho, hb, hl t (by simp), hn, hi, hz, by rw [List.length_take]; omega, fun k => ?_, fun a ha => rl.1 a (List.mem_of_mem_take ha), fun a ha x hx2 => hg x (List.mem_cons_of_mem _ (xcall_mem hx a (List.mem_of_mem_take ha) x hx2))⟩
  have h1 := sumlen_take (xcall e t ts).2.1 e.2.2.1.length
  have h2 := sumlen_get ((xcall e t ts).2.1.take e.2.2.1.length) k
  omega
theorem mtx_no {T : List Mac} {t : ETok} {ts : List ETok} (h : (fnd T t.1 < 0 ∨ t.2.2 t.1 = true) ∨ ¬ (hd40 ts = true ∨ (mg T (fnd T t.1)).2.1 = false)) : mtx T t ts < 0 := by
  unfold mtx
  by_cases c : fnd T t.1 < 0 ∨ t.2.2 t.1 = true
  · rw [if_pos c]
    decide
  · rw [if_neg c, if_neg (h.resolve_left c)]
    decide
theorem mtx_so {T : List Mac} {t : ETok} {ts : List ETok} (h : ¬ (fnd T t.1 < 0 ∨ t.2.2 t.1 = true)) (h2 : hd40 ts = true ∨ (mg T (fnd T t.1)).2.1 = false) : mtx T t ts = fnd T t.1 := by
  unfold mtx
  rw [if_neg h, if_pos h2]
set_option maxRecDepth 4000 in
theorem r_nx1 {sc : x_S} {d : Nat} {S : w_S} {nm : Nat → Int64} {sg : Nat → Nat} {T : List Mac} {i b r : Int} {t : ETok} {ts : List ETok} (hi : sv S 249 46 = i) (i0 : 0 ≤ i) (i1 : i < 31) (hT : tabok T) (ht : rtab S sg T) (hbg : ∀ k : Int, 0 ≤ k → k < T.length → bg (mg T k)) (hnm : nm = nmR S) (hbt : sA S 277 i = b) (b0 : 0 ≤ b) (hcm : sv S 249 29 = b + ts.length + 1) (c1 : sv S 249 29 ≤ 1360) (c2 : r < 30 → sv S 249 29 ≤ 1320) (hbw : bw nm (sL S 269) (sA S 270) (sv S 249 29) (t :: ts)) (hlk : loks (t :: ts)) (hgw : lgw (t :: ts)) (hr : sv S 249 23 = r) (r0 : 0 ≤ r) (r30 : r ≤ 30) (w0 : 0 ≤ sv S 249 35) (w1 : r < 30 → sv S 249 35 ≤ 1160) (g0 : 0 ≤ sv S 249 32) (g1 : sv S 249 32 ≤ 2560) (hd : 6 ≤ d) : w_T sc d 138 0 (x_en 0 [.ref 249]) [] S (fun v S2 => (mtx T t ts < 0 → v = some (.int (iZ 0)) ∧ S2 = (w_v (w_A (w_L (w_v S 249 29 (sv S 249 29 - 1)) 271 (w_u (sL S 271) (sv S 249 32) t.1)) 272 (w_u (sA S 272) (sv S 249 32) (eo nm t))) 249 32 (sv S 249 32 + 1))) ∧ (¬ mtx T t ts < 0 → (¬ (xcall (mg T (mtx T t ts)) t ts).1 = 0 → v = some (.int (iZ (xcall (mg T (mtx T t ts)) t ts).1)) ∧ sv S2 249 23 = r ∧ fr (fun a => a = 249 ∨ (269 ≤ a ∧ a ≤ 284)) S S2 ∧ (∀ k, ¬ (k = 29 ∨ k = 35) → sv S2 249 k = sv S 249 k)) ∧ ((xcall (mg T (mtx T t ts)) t ts).1 = 0 → 30 ≤ r → v = some (.int (iZ 7)) ∧ sv S2 249 23 = r ∧ fr (fun a => a = 249 ∨ (269 ≤ a ∧ a ≤ 284)) S S2 ∧ (∀ k, ¬ (k = 29 ∨ k = 35) → sv S2 249 k = sv S 249 k)) ∧ ((xcall (mg T (mtx T t ts)) t ts).1 = 0 → ¬ 30 ≤ r → ∃ S1, NXp nm S S1 i b r ((sg (mtx T t ts).toNat : Nat) : Int) (mg T (mtx T t ts)) t ts ∧ (0 < rtk (mg T (mtx T t ts)) → PUSHp nm S1 i (((xcall (mg T (mtx T t ts)) t ts).2.1.take (mg T (mtx T t ts)).2.2.1.length).getD 0 []) v S2) ∧ (rtk (mg T (mtx T t ts)) ≤ 0 → RPp nm S1 i (mg T (mtx T t ts)) t (xcall (mg T (mtx T t ts)) t ts).2.2.1 ((xcall (mg T (mtx T t ts)) t ts).2.1.take (mg T (mtx T t ts)).2.2.1.length) [] v S2)))) := by
  have hbt2 : sA S 277 (sv S 249 46) = b := by rw [hi]; exact hbt
  have hx1 : sL S 269 (sv S 249 29 - 1) = t.1 := hbw.1
  have hx2 : sA S 270 (sv S 249 29 - 1) = eo nm t := hbw.2.1
  have ot := hlk t (by simp)
  have hx0 : ¬ t.1 = 0 := fun z => by
    have := ot.1
    rw [z] at this
    exact absurd this (by decide)
  have hRt := eo_R (nm := nm) ot.2.1 ot.2.2
  have h8 := ht.1
  have hh := hd40_iff hbw.2.2
  refine w_aload_n rfl rfl rfl ?_
  refine w_getI (z := sv S 249 29) rfl rfl sh_249 rfl rfl rfl ?_
  refine w_aload_n rfl rfl rfl ?_
  refine w_getR rfl rfl sh_249 rfl rfl ?_
  refine w_aload_n rfl rfl rfl ?_
  refine w_getI (z := sv S 249 46) rfl rfl sh_249 rfl rfl rfl ?_
  refine w_iald (z := sA S 277 (sv S 249 46)) rfl sh_277 (by omega) (by omega) (by decide) rfl rfl ?_
  refine w_ic_ne (pc2 := 33) (pc3 := 16) rfl (by decide) rfl ⟨by first | omega | (have := hm89 (by assumption); omega), by first | omega | (have := hm89 (by assumption); omega)⟩ ⟨by first | omega | (have := hm89 (by assumption); omega), by first | omega | (have := hm89 (by assumption); omega)⟩ (fun c13 => ?_) (fun c13 => ?_)
  · skip
    refine w_aload_n rfl rfl rfl ?_
    refine w_dup rfl rfl rfl ?_
    refine w_getI (z := sv S 249 29) rfl rfl sh_249 rfl rfl rfl ?_
    refine w_iconst rfl rfl ?_
    refine w_isub rfl rfl ?_
    refine w_putf rfl rfl sh_249 rfl rfl (by decide) rfl ?_
    refine w_aload_n rfl rfl rfl ?_
    refine w_getR rfl rfl sh_249 rfl rfl ?_
    refine w_aload_n rfl rfl rfl ?_
    refine w_getI (z := sv S 249 29 - 1) rfl rfl sh_249 rfl (rv_self _ _ _ _) rfl ?_
    refine w_lald (z := sL S 269 (sv S 249 29 - 1)) rfl sh_269 (by omega) (by omega) (by decide) rfl rfl ?_
    rw [hx1]
    refine w_lstore_n rfl (by decide) rfl ?_
    refine w_aload_n rfl rfl rfl ?_
    refine w_getR rfl rfl sh_249 rfl rfl ?_
    refine w_aload_n rfl rfl rfl ?_
    refine w_getI (z := sv S 249 29 - 1) rfl rfl sh_249 rfl (rv_self _ _ _ _) rfl ?_
    refine w_iald (z := sA S 270 (sv S 249 29 - 1)) rfl sh_270 (by omega) (by omega) (by decide) rfl rfl ?_
    rw [hx2]
    refine w_istore_n rfl (by decide) rfl ?_
    refine w_aload_n rfl rfl rfl ?_
    refine w_lload_n rfl rfl rfl ?_
    refine w_CV (as := [.long t.1]) (r := []) rfl rfl rfl rfl sh_249 (Nat.le_of_ble_eq_true rfl) (Nat.le_of_ble_eq_true rfl) (by omega) rfl (r_find (sg := sg) (T := T) (x := t.1) hT ht hx0 (by omega)) ?_
    rintro _ _ ⟨rfl, hS⟩
    rw [hS]
    show w_T _ _ 138 68 _ [.int (iZ (rfn T sg t.1))] _ _
    generalize hm : (rfn T sg t.1) = m
    have hf := fnd_r T t.1
    have hm2 : ((fnd T t.1) < 0 ∧ m = -1) ∨ (0 ≤ (fnd T t.1) ∧ m = sg (fnd T t.1).toNat ∧ 0 ≤ m ∧ m < 8) := by
      rw [← hm]
      unfold rfn
      by_cases q : (fnd T t.1) < 0
      · rw [if_pos q]
        exact Or.inl ⟨q, rfl⟩
      · rw [if_neg q]
        have := ht.2.1 (fnd T t.1).toNat (by omega)
        exact Or.inr ⟨by omega, rfl, by omega, by omega⟩
    have hrm : 0 ≤ m → rmac S m (mg T (fnd T t.1)) ∧ mok (mg T (fnd T t.1)) := fun z => by
      have q := hm2.resolve_left (fun y => by omega)
      rw [q.2.1]
      exact ht.2.2.2.1 (fnd T t.1) q.1 (by omega)
    have hnmm : 0 ≤ m → nm m.toNat = t.1 := fun z => by
      have q := (hrm z).1.1
      rw [hnm]
      unfold nmR
      rw [Int.toNat_of_nonneg z, q]
      exact fnd_at (by omega)
    have hbit : 0 ≤ m → zand (zshr (eo nm t) m) 1 = zB (t.2.2 t.1) := fun z => by
      rw [bit_eo ot.2.1 ot.2.2 z (by omega), hs_bit (by omega) (by rw [hnmm z]; exact hx0), hnmm z]
    have zb0 := zB_0 (t.2.2 t.1)
    have zb1 := zB_1 (t.2.2 t.1)
    have hRk : 0 ≤ m → sA S 263 m = rtk (mg T (fnd T t.1)) ∧ -1 ≤ rtk (mg T (fnd T t.1)) ∧ rtk (mg T (fnd T t.1)) ≤ 3 := fun z => by
      refine ⟨(hrm z).1.2.1, ?_⟩
      have := (hrm z).2.1
      unfold rtk
      split <;> omega
    refine w_istore rfl (by decide) rfl ?_
    refine w_iload rfl rfl rfl ?_
    apply w_jn (A := w_T _ _ 138 89 _ [.int (iZ (zB (decide (0 ≤ m ∧ (zand (zshr (eo nm t) m) 1) = 0))))] _ _)
    · intro kT
      refine w_if_lt (pc2 := 88) (pc3 := 75) rfl (by decide) rfl ⟨by first | omega | (have := hm89 (by assumption); omega), by first | omega | (have := hm89 (by assumption); omega)⟩ (fun q1 => ?_) (fun q1 => ?_)
      · skip
        refine w_iconst rfl rfl ?_
        exact w_j0 (p := 0 ≤ m ∧ (zand (zshr (eo nm t) m) 1) = 0) (fun q => (Int.not_le.mpr q1) q.1) kT
      · skip
        refine w_iload_n rfl rfl rfl ?_
        refine w_iload rfl rfl rfl ?_
        refine w_zshr rfl rfl ?_
        refine w_iconst rfl rfl ?_
        refine w_zand rfl rfl ?_
        refine w_if_ne (pc2 := 88) (pc3 := 84) rfl (by decide) rfl (zand_R _ _) (fun q2 => ?_) (fun q2 => ?_)
        · skip
          refine w_iconst rfl rfl ?_
          exact w_j0 (p := 0 ≤ m ∧ (zand (zshr (eo nm t) m) 1) = 0) (fun q => q2 q.2) kT
        · skip
          refine w_iconst rfl rfl ?_
          refine w_goto (pc2 := 89) rfl (by decide) ?_
          exact w_j1 (p := 0 ≤ m ∧ (zand (zshr (eo nm t) m) 1) = 0) ⟨q1, q2⟩ kT
    · show w_T _ _ 138 89 _ [.int (iZ (zB (decide (0 ≤ m ∧ (zand (zshr (eo nm t) m) 1) = 0))))] _ _
      generalize htk : (decide (0 ≤ m ∧ (zand (zshr (eo nm t) m) 1) = 0)) = tk
      have htk2 : tk = true ↔ ¬ ((fnd T t.1) < 0 ∨ t.2.2 t.1 = true) := by
        rw [← htk, decide_eq_true_eq]
        constructor
        · intro z y
          rcases y with y | y
          · omega
          · have q := hbit (by omega)
            rw [y] at q
            have e : zB true = 1 := rfl
            omega
        · intro z
          have z2 : ¬ (fnd T t.1) < 0 := fun y => z (Or.inl y)
          refine ⟨by omega, ?_⟩
          rw [hbit (by omega)]
          cases hq : t.2.2 t.1
          · rfl
          · exact absurd (Or.inr hq) z
      have hm89 : tk = true → 0 ≤ m ∧ m < 8 ∧ -1 ≤ sA S 263 m ∧ sA S 263 m ≤ 3 := fun z => by
        have z2 : ¬ (fnd T t.1) < 0 := fun y => htk2.mp z (Or.inl y)
        have q := hRk (by omega)
        omega
      refine w_istore rfl (by decide) rfl ?_
      refine w_iload rfl rfl rfl ?_
      apply w_jn (A := w_T _ _ 138 111 _ [.int (iZ (zB (decide (tk = true ∧ 0 ≤ sA S 263 m))))] _ _)
      · intro kT
        refine w_b_eq (pc2 := 110) (pc3 := 96) rfl (by decide) rfl (fun q3 => ?_) (fun q3 => ?_)
        · skip
          refine w_iconst rfl rfl ?_
          exact w_j0 (p := tk = true ∧ 0 ≤ sA S 263 m) (fun q => (Bool.eq_false_iff.mp q3) q.1) kT
        · skip
          refine w_aload_n rfl rfl rfl ?_
          refine w_getR rfl rfl sh_249 rfl rfl ?_
          refine w_iload rfl rfl rfl ?_
          refine w_iald (z := sA S 263 m) rfl sh_263 (by have := hm89 (by assumption); omega) (by have := hm89 (by assumption); omega) (by decide) rfl rfl ?_
          refine w_if_lt (pc2 := 110) (pc3 := 106) rfl (by decide) rfl ⟨by first | omega | (have := hm89 (by assumption); omega), by first | omega | (have := hm89 (by assumption); omega)⟩ (fun q4 => ?_) (fun q4 => ?_)
          · skip
            refine w_iconst rfl rfl ?_
            exact w_j0 (p := tk = true ∧ 0 ≤ sA S 263 m) (fun q => (Int.not_le.mpr q4) q.2) kT
          · skip
            refine w_iconst rfl rfl ?_
            refine w_goto (pc2 := 111) rfl (by decide) ?_
            exact w_j1 (p := tk = true ∧ 0 ≤ sA S 263 m) ⟨q3, q4⟩ kT
      · show w_T _ _ 138 111 _ [.int (iZ (zB (decide (tk = true ∧ 0 ≤ sA S 263 m))))] _ _
        generalize hcl : (decide (tk = true ∧ 0 ≤ sA S 263 m)) = cl
        have hcl2 : cl = true ↔ tk = true ∧ (mg T (fnd T t.1)).2.1 = true := by
          rw [← hcl, decide_eq_true_eq]
          refine and_congr_right (fun z => ?_)
          have z2 : ¬ (fnd T t.1) < 0 := fun y => htk2.mp z (Or.inl y)
          have q := hRk (by omega)
          rw [q.1]
          unfold rtk
          by_cases y : (mg T (fnd T t.1)).2.1 = true
          · rw [if_pos y]
            exact ⟨fun _ => y, fun _ => by omega⟩
          · rw [if_neg y]
            exact ⟨fun z => absurd z (by decide), fun z => absurd z y⟩
        refine w_istore rfl (by decide) rfl ?_
        refine w_iload rfl rfl rfl ?_
        refine w_b_eq (pc2 := 159) (pc3 := 118) rfl (by decide) rfl (fun c115 => ?_) (fun c115 => ?_)
        · skip
          refine w_iload rfl rfl rfl ?_
          refine w_b_ne (pc2 := 196) (pc3 := 164) rfl (by decide) rfl (fun c161 => ?_) (fun c161 => ?_)
          · skip
            have htt : tk = true := c161
            have hcf : (mg T (fnd T t.1)).2.1 = false := by
              cases hq : (mg T (fnd T t.1)).2.1
              · rfl
              · exact absurd (hcl2.mpr ⟨htt, hq⟩) (by rw [c115]; decide)
            have hme : mtx T t ts = (fnd T t.1) := mtx_so (htk2.mp htt) (Or.inr hcf)
            have hk0 : ¬ (fnd T t.1) < 0 := fun y => htk2.mp htt (Or.inl y)
            have hmm : m = ((sg (mtx T t ts).toNat : Nat) : Int) := by rw [hme]; omega
            have hm0 : 0 ≤ m ∧ m < 8 := by omega
            have hrE := hrm hm0.1
            rw [← hme] at hrE hcf
            have hbE := hbg (mtx T t ts) (by omega) (by omega)
            have hm3 := hrE.2.1
            have hxr := xcall_r (t := t) (ts := ts) hrE.2 (fun z => absurd (z.symm.trans hcf) (by decide))
            have hnE : nm m.toNat = (mg T (mtx T t ts)).1 := by rw [hnmm hm0.1, hme]; exact (fnd_at (by omega)).symm
            have hiE : ∀ q, q < 8 → nm q = nm m.toNat → q = m.toNat := by
              have q2 := rnm_inj ht hT (k := (mtx T t ts).toNat) (by omega)
              rw [hnm, show m.toNat = sg (mtx T t ts).toNat by omega]
              exact q2
            have hzE : ¬ (mg T (mtx T t ts)).1 = 0 := hT.1 _ (by omega) (by omega)
            refine w_aload_n rfl rfl rfl ?_
            refine w_getR rfl rfl sh_249 rfl rfl ?_
            refine w_aload_n rfl rfl rfl ?_
            refine w_getI (z := sv S 249 46) rfl rfl sh_249 rfl (rv_ne (by decide)) rfl ?_
            rw [hi]
            refine w_iload rfl rfl rfl ?_
            refine w_iaS (f := sA S 279) rfl sh_279 (by omega) (by omega) (by decide) rfl rfl ?_
            refine w_aload_n rfl rfl rfl ?_
            refine w_getR rfl rfl sh_249 rfl rfl ?_
            refine w_aload_n rfl rfl rfl ?_
            refine w_getI (z := sv S 249 46) rfl rfl sh_249 rfl (rv_ne (S := S) (a := 249) (k := 29) (z := sv S 249 29 - 1) (b := 249) (j := 46) (by decide)) rfl ?_
            rw [hi]
            refine w_iload_n rfl rfl rfl ?_
            refine w_iaS (f := sA S 280) rfl sh_280 (by omega) (by omega) (by decide) (rA_ne (by decide)) rfl ?_
            refine w_aload_n rfl rfl rfl ?_
            refine w_getR rfl rfl sh_249 rfl rfl ?_
            refine w_aload_n rfl rfl rfl ?_
            refine w_getI (z := sv S 249 46) rfl rfl sh_249 rfl (rv_ne (S := S) (a := 249) (k := 29) (z := sv S 249 29 - 1) (b := 249) (j := 46) (by decide)) rfl ?_
            rw [hi]
            refine w_sipush rfl (by decide) rfl ?_
            refine w_iaS (f := sA S 281) rfl sh_281 (by omega) (by omega) (by decide) ((rA_ne (by decide)).trans (rA_ne (by decide))) rfl ?_
            refine w_aload_n rfl rfl rfl ?_
            refine w_getR rfl rfl sh_249 rfl rfl ?_
            refine w_aload_n rfl rfl rfl ?_
            refine w_getI (z := sv S 249 46) rfl rfl sh_249 rfl (rv_ne (S := S) (a := 249) (k := 29) (z := sv S 249 29 - 1) (b := 249) (j := 46) (by decide)) rfl ?_
            rw [hi]
            refine w_iconst rfl rfl ?_
            refine w_iaS (f := sA S 282) rfl sh_282 (by omega) (by omega) (by decide) ((rA_ne (by decide)).trans ((rA_ne (by decide)).trans (rA_ne (by decide)))) rfl ?_
            refine w_aload_n rfl rfl rfl ?_
            refine w_getR rfl rfl sh_249 rfl rfl ?_
            refine w_iconst rfl rfl ?_
            refine w_aload_n rfl rfl rfl ?_
            refine w_getI (z := sv S 249 46) rfl rfl sh_249 rfl (rv_ne (S := S) (a := 249) (k := 29) (z := sv S 249 29 - 1) (b := 249) (j := 46) (by decide)) rfl ?_
            rw [hi]
            refine w_imul rfl rfl ?_
            refine w_aload_n rfl rfl rfl ?_
            refine w_getI (z := sv S 249 35) rfl rfl sh_249 rfl (rv_ne (S := S) (a := 249) (k := 29) (z := sv S 249 29 - 1) (b := 249) (j := 35) (by decide)) rfl ?_
            refine w_iaS (f := sA S 283) rfl sh_283 (by omega) (by omega) (by decide) ((rA_ne (by decide)).trans ((rA_ne (by decide)).trans ((rA_ne (by decide)).trans (rA_ne (by decide))))) rfl ?_
            refine w_aload_n rfl rfl rfl ?_
            refine w_getR rfl rfl sh_249 rfl rfl ?_
            refine w_iconst rfl rfl ?_
            refine w_aload_n rfl rfl rfl ?_
            refine w_getI (z := sv S 249 46) rfl rfl sh_249 rfl (rv_ne (S := S) (a := 249) (k := 29) (z := sv S 249 29 - 1) (b := 249) (j := 46) (by decide)) rfl ?_
            rw [hi]
            refine w_imul rfl rfl ?_
            refine w_aload_n rfl rfl rfl ?_
            refine w_getI (z := sv S 249 32) rfl rfl sh_249 rfl (rv_ne (S := S) (a := 249) (k := 29) (z := sv S 249 29 - 1) (b := 249) (j := 32) (by decide)) rfl ?_
            refine w_iaS (f := sA S 284) rfl sh_284 (by omega) (by omega) (by decide) ((rA_ne (by decide)).trans ((rA_ne (by decide)).trans ((rA_ne (by decide)).trans ((rA_ne (by decide)).trans (rA_ne (by decide)))))) rfl ?_
            refine w_iload rfl rfl rfl ?_
            refine w_b_eq (pc2 := 283) (pc3 := 274) rfl (by decide) rfl (fun c271 => ?_) (fun c271 => ?_)
            · skip
              have hxc : (xcall (mg T (mtx T t ts)) t ts) = (0, [], t, ts) := by unfold xcall; rw [if_neg (by rw [hcf]; decide)]
              refine w_aload_n rfl rfl rfl ?_
              refine w_getI (z := sv S 249 23) rfl rfl sh_249 rfl (rv_ne (S := S) (a := 249) (k := 29) (z := sv S 249 29 - 1) (b := 249) (j := 23) (by decide)) rfl ?_
              refine w_bipush rfl (by decide) rfl ?_
              apply w_jn (A := w_T _ _ 138 298 _ [.int (iZ (if ¬ sv S 249 23 = 30 then 0 else 7))] _ _)
              · intro kT
                refine w_ic_ne (pc2 := 297) (pc3 := 292) rfl (by decide) rfl ⟨by first | omega | (have := hm89 (by assumption); omega), by first | omega | (have := hm89 (by assumption); omega)⟩ ⟨by decide, by decide⟩ (fun q5 => ?_) (fun q5 => ?_)
                · skip
                  refine w_iconst rfl rfl ?_
                  exact w_ji1 (p := ¬ sv S 249 23 = 30) (a := 0) (b := 7) q5 kT
                · skip
                  refine w_bipush rfl (by decide) rfl ?_
                  refine w_goto (pc2 := 298) rfl (by decide) ?_
                  exact w_ji0 (p := ¬ sv S 249 23 = 30) (a := 0) (b := 7) (not_not_intro q5) kT
              · show w_T _ _ 138 298 _ [.int (iZ (if ¬ sv S 249 23 = 30 then 0 else 7))] _ _
                refine w_istore rfl (by decide) rfl ?_
                refine w_iload rfl rfl rfl ?_
                refine w_if_eq (pc2 := 308) (pc3 := 305) rfl (by decide) rfl ⟨by first | omega | (have := hm89 (by assumption); omega), by first | omega | (have := hm89 (by assumption); omega)⟩ (fun c302 => ?_) (fun c302 => ?_)
                · skip
                  refine w_aload_n rfl rfl rfl ?_
                  refine w_dup rfl rfl rfl ?_
                  refine w_getI (z := sv S 249 23) rfl rfl sh_249 rfl (rv_ne (S := S) (a := 249) (k := 29) (z := sv S 249 29 - 1) (b := 249) (j := 23) (by decide)) rfl ?_
                  refine w_iconst rfl rfl ?_
                  refine w_iadd rfl rfl ?_
                  refine w_putf rfl rfl sh_249 rfl rfl (by decide) rfl ?_
                  have hx00 : (xcall (mg T (mtx T t ts)) t ts).1 = 0 := by
                    rw [hxc]
                  have hrn : ¬ 30 ≤ r := by
                    intro z
                    rw [if_neg (by omega)] at c302
                    exact absurd c302 (by decide)
                  have hSL := LS_of (ts := ts) hm0.1 hm0.2 hrE.2 hbE hlk hgw hnE hiE hzE (fun z => absurd (z.symm.trans hcf) (by decide)) hx00
                  obtain ⟨S1, hS1⟩ : ∃ S1, S1 = (w_v (w_A (w_A (w_A (w_A (w_A (w_A (w_v S 249 29 (sv S 249 29 - 1)) 279 (w_u (sA S 279) i m)) 280 (w_u (sA S 280) i (eo nm t))) 281 (w_u (sA S 281) i 255)) 282 (w_u (sA S 282) i 0)) 283 (w_u (sA S 283) (4 * i) (sv S 249 35))) 284 (w_u (sA S 284) (4 * i) (sv S 249 32))) 249 23 (sv S 249 23 + 1)) := ⟨_, rfl⟩
                  rw [← hS1]
                  have hNX : NXp nm S S1 i b r m (mg T (mtx T t ts)) t ts := by
                    rw [hS1]
                    rw [NXp, hxc]
                    have hta : ([] : List (List ETok)).take (mg T (mtx T t ts)).2.2.1.length = [] := List.take_nil
                    refine ⟨(fr_v (fr_A (fr_A (fr_A (fr_A (fr_A (fr_A (fr_v (fr_refl _ _) (by omega)) (by omega)) (by omega)) (by omega)) (by omega)) (by omega)) (by omega)) (by omega)), fun k hk => ?_, ?_, ?_, ⟨?_, ?_, ?_, ?_, ?_, trivial, ?_, ?_, ?_, ?_, ?_⟩, ?_, ?_, ?_, ?_, ?_, ?_, ?_⟩
                    · simp (disch := omega) only [rv_self, rv_ne, rl_self, rl_ne, rA_self, rA_ne, rL_self, rL_ne, rR_self, rR_ne, xvl, xvA, xvL, xvR, xlv, xlA, xlL, xlR, xAv, xAl, xAL, xAR, xLv, xLl, xLA, xLR, xRv, xRl, xRA, xRL]
                    · simp (disch := omega) only [rv_self, rv_ne, rl_self, rl_ne, rA_self, rA_ne, rL_self, rL_ne, rR_self, rR_ne, xvl, xvA, xvL, xvR, xlv, xlA, xlL, xlR, xAv, xAl, xAL, xAR, xLv, xLl, xLA, xLR, xRv, xRl, xRA, xRL]
                      omega
                    · simp (disch := omega) only [rv_self, rv_ne, rl_self, rl_ne, rA_self, rA_ne, rL_self, rL_ne, rR_self, rR_ne, xvl, xvA, xvL, xvR, xlv, xlA, xlL, xlR, xAv, xAl, xAL, xAR, xLv, xLl, xLA, xLR, xRv, xRl, xRA, xRL]
                      show _ = b + (ts.length : Int)
                      omega
                    · simp (disch := omega) only [rv_self, rv_ne, rl_self, rl_ne, rA_self, rA_ne, rL_self, rL_ne, rR_self, rR_ne, xvl, xvA, xvL, xvR, xlv, xlA, xlL, xlR, xAv, xAl, xAL, xAR, xLv, xLl, xLA, xLR, xRv, xRl, xRA, xRL]
                      rw [w_u_self]
                    · exact rmac_fr hrE.1 (c := fun a => a = 249 ∨ (279 ≤ a ∧ a ≤ 284)) (fr_v (fr_A (fr_A (fr_A (fr_A (fr_A (fr_A (fr_v (fr_refl _ _) (by omega)) (by omega)) (by omega)) (by omega)) (by omega)) (by omega)) (by omega)) (by omega)) (by omega)
                    · simp (disch := omega) only [rv_self, rv_ne, rl_self, rl_ne, rA_self, rA_ne, rL_self, rL_ne, rR_self, rR_ne, xvl, xvA, xvL, xvR, xlv, xlA, xlL, xlR, xAv, xAl, xAL, xAR, xLv, xLl, xLA, xLR, xRv, xRl, xRA, xRL]
                      rw [w_u_self]
                    · simp (disch := omega) only [rv_self, rv_ne, rl_self, rl_ne, rA_self, rA_ne, rL_self, rL_ne, rR_self, rR_ne, xvl, xvA, xvL, xvR, xlv, xlA, xlL, xlR, xAv, xAl, xAL, xAR, xLv, xLl, xLA, xLR, xRv, xRl, xRA, xRL]
                      rw [w_u_self]
                      exact hcs_plain ot
                    · show seg _ _ _ _ _ (([] : List (List ETok)).take _)
                      rw [hta]
                      exact trivial
                    · simp (disch := omega) only [rv_self, rv_ne, rl_self, rl_ne, rA_self, rA_ne, rL_self, rL_ne, rR_self, rR_ne, xvl, xvA, xvL, xvR, xlv, xlA, xlL, xlR, xAv, xAl, xAL, xAR, xLv, xLl, xLA, xLR, xRv, xRl, xRA, xRL]
                      rw [w_u_self]
                      exact w0
                    · show sA _ 283 (4 * i + ((([] : List (List ETok)).take (mg T (mtx T t ts)).2.2.1.length).length : Int)) ≤ _
                      rw [hta]
                      simp (disch := omega) only [rv_self, rv_ne, rl_self, rl_ne, rA_self, rA_ne, rL_self, rL_ne, rR_self, rR_ne, xvl, xvA, xvL, xvR, xlv, xlA, xlL, xlR, xAv, xAl, xAL, xAR, xLv, xLl, xLA, xLR, xRv, xRl, xRA, xRL]
                      rw [List.length_nil, show 4 * i + ((0 : Nat) : Int) = 4 * i by omega, w_u_self]
                      have := w1 (by omega)
                      omega
                    · simp (disch := omega) only [rv_self, rv_ne, rl_self, rl_ne, rA_self, rA_ne, rL_self, rL_ne, rR_self, rR_ne, xvl, xvA, xvL, xvR, xlv, xlA, xlL, xlR, xAv, xAl, xAL, xAR, xLv, xLl, xLA, xLR, xRv, xRl, xRA, xRL]
                      rw [w_u_self]
                      exact g0
                    · simp (disch := omega) only [rv_self, rv_ne, rl_self, rl_ne, rA_self, rA_ne, rL_self, rL_ne, rR_self, rR_ne, xvl, xvA, xvL, xvR, xlv, xlA, xlL, xlR, xAv, xAl, xAL, xAR, xLv, xLl, xLA, xLR, xRv, xRl, xRA, xRL]
                      rw [List.length_nil, show 4 * i + ((0 : Nat) : Int) = 4 * i by omega, w_u_self]
                      omega
                    · simp (disch := omega) only [rv_self, rv_ne, rl_self, rl_ne, rA_self, rA_ne, rL_self, rL_ne, rR_self, rR_ne, xvl, xvA, xvL, xvR, xlv, xlA, xlL, xlR, xAv, xAl, xAL, xAR, xLv, xLl, xLA, xLR, xRv, xRl, xRA, xRL]
                      rw [w_u_self]
                      rfl
                    · show sv _ 249 35 = sA _ 283 (4 * i + ((([] : List (List ETok)).take (mg T (mtx T t ts)).2.2.1.length).length : Int))
                      rw [hta]
                      simp (disch := omega) only [rv_self, rv_ne, rl_self, rl_ne, rA_self, rA_ne, rL_self, rL_ne, rR_self, rR_ne, xvl, xvA, xvL, xvR, xlv, xlA, xlL, xlR, xAv, xAl, xAL, xAR, xLv, xLl, xLA, xLR, xRv, xRl, xRA, xRL]
                      rw [List.length_nil, show 4 * i + ((0 : Nat) : Int) = 4 * i by omega, w_u_self]
                    · simp (disch := omega) only [rv_self, rv_ne, rl_self, rl_ne, rA_self, rA_ne, rL_self, rL_ne, rR_self, rR_ne, xvl, xvA, xvL, xvR, xlv, xlA, xlL, xlR, xAv, xAl, xAL, xAR, xLv, xLl, xLA, xLR, xRv, xRl, xRA, xRL]
                      omega
                    · simp (disch := omega) only [rv_self, rv_ne, rl_self, rl_ne, rA_self, rA_ne, rL_self, rL_ne, rR_self, rR_ne, xvl, xvA, xvL, xvR, xlv, xlA, xlL, xlR, xAv, xAl, xAL, xAR, xLv, xLl, xLA, xLR, xRv, xRl, xRA, xRL]
                      rw [w_u_self]
                    · simp (disch := omega) only [rv_self, rv_ne, rl_self, rl_ne, rA_self, rA_ne, rL_self, rL_ne, rR_self, rR_ne, xvl, xvA, xvL, xvR, xlv, xlA, xlL, xlR, xAv, xAl, xAL, xAR, xLv, xLl, xLA, xLR, xRv, xRl, xRA, xRL]
                      rw [w_u_self]
                    · intro j hj
                      exact ⟨by simp (disch := omega) only [rv_self, rv_ne, rl_self, rl_ne, rA_self, rA_ne, rL_self, rL_ne, rR_self, rR_ne, xvl, xvA, xvL, xvR, xlv, xlA, xlL, xlR, xAv, xAl, xAL, xAR, xLv, xLl, xLA, xLR, xRv, xRl, xRA, xRL], by simp (disch := omega) only [rv_self, rv_ne, rl_self, rl_ne, rA_self, rA_ne, rL_self, rL_ne, rR_self, rR_ne, xvl, xvA, xvL, xvR, xlv, xlA, xlL, xlR, xAv, xAl, xAL, xAR, xLv, xLl, xLA, xLR, xRv, xRl, xRA, xRL]⟩
                    · intro j hj
                      simp (disch := omega) only [rv_self, rv_ne, rl_self, rl_ne, rA_self, rA_ne, rL_self, rL_ne, rR_self, rR_ne, xvl, xvA, xvL, xvR, xlv, xlA, xlL, xlR, xAv, xAl, xAL, xAR, xLv, xLl, xLA, xLR, xRv, xRl, xRA, xRL]
                      rw [w_u_ne _ _ hj, w_u_ne _ _ hj, w_u_ne _ _ hj, w_u_ne _ _ hj]
                      exact ⟨rfl, rfl, rfl, rfl⟩
                    · intro j hj
                      simp (disch := omega) only [rv_self, rv_ne, rl_self, rl_ne, rA_self, rA_ne, rL_self, rL_ne, rR_self, rR_ne, xvl, xvA, xvL, xvR, xlv, xlA, xlL, xlR, xAv, xAl, xAL, xAR, xLv, xLl, xLA, xLR, xRv, xRl, xRA, xRL]
                      rw [w_u_ne _ _ (by omega), w_u_ne _ _ (by omega)]
                      exact ⟨rfl, rfl⟩
                  have hst2 : w_T sc (d - 1) 140 0 (x_en 0 [.ref 249]) [] S1 (fun v S2 => (∃ z, v = some (.int (iZ z))) ∧ (0 < rtk (mg T (mtx T t ts)) → PUSHp nm S1 i (((xcall (mg T (mtx T t ts)) t ts).2.1.take (mg T (mtx T t ts)).2.2.1.length).getD 0 []) v S2) ∧ (rtk (mg T (mtx T t ts)) ≤ 0 → RPp nm S1 i (mg T (mtx T t ts)) t (xcall (mg T (mtx T t ts)) t ts).2.2.1 ((xcall (mg T (mtx T t ts)) t ts).2.1.take (mg T (mtx T t ts)).2.2.1.length) [] v S2)) := by
                    have hxl := (hxr.2.2 hx00).1
                    have n29 := hNX.2.2.2.1
                    refine w_mono (r_beg (S := S1) (nm := nm) (i := i) (m := m) (e := (mg T (mtx T t ts))) (t := t) (c := (xcall (mg T (mtx T t ts)) t ts).2.2.1) (as := ((xcall (mg T (mtx T t ts)) t ts).2.1.take (mg T (mtx T t ts)).2.2.1.length)) (os := []) (by rw [hNX.2.1 46 (by decide)]; exact hi) i0 i1 hNX.2.2.2.2.1 hSL (Nat.zero_le _) (fun k => by rw [List.getD_nil]; simp) (fun a ha => absurd ha (by simp)) (fun a ha => absurd ha (by simp)) (by omega) (by omega) (by omega)) (fun v S2 q => ⟨?_, ?_⟩)
                    · by_cases z : ((([] : List (List ETok)).length : Nat) : Int) < rtk (mg T (mtx T t ts))
                      · exact ⟨_, (q.1 z).1⟩
                      · exact ⟨_, (q.2 (by omega)).1⟩
                    · exact q
                  refine w_aload_n rfl rfl rfl ?_
                  refine w_CV (as := []) (r := []) rfl rfl rfl rfl sh_249 (Nat.le_of_ble_eq_true rfl) (Nat.le_of_ble_eq_true rfl) (by omega) rfl (hst2) ?_
                  rintro _ Z ⟨⟨zz, rfl⟩, hq⟩
                  show w_T _ _ 138 322 _ [.int (iZ zz)] _ _
                  refine w_iret rfl rfl ?_
                  rw [hmm] at hNX
                  exact ⟨fun z => absurd z (by omega), fun _ => ⟨fun z => absurd hx00 z, fun _ z => absurd z hrn, fun _ _ => ⟨S1, hNX, hq⟩⟩⟩
                · skip
                  refine w_iload rfl rfl rfl ?_
                  refine w_iret rfl rfl ?_
                  refine ⟨fun z => absurd z (by omega), fun _ => ⟨fun z => ?_, fun z z2 => ?_, fun z z2 => ?_⟩⟩
                  · rw [hxc] at z
                    exact absurd rfl z
                  · rw [if_neg (by omega)]
                    exact ⟨rfl, by simp (disch := omega) only [rv_self, rv_ne, rl_self, rl_ne, rA_self, rA_ne, rL_self, rL_ne, rR_self, rR_ne, xvl, xvA, xvL, xvR, xlv, xlA, xlL, xlR, xAv, xAl, xAL, xAR, xLv, xLl, xLA, xLR, xRv, xRl, xRA, xRL]; exact hr, (fr_A (fr_A (fr_A (fr_A (fr_A (fr_A (fr_v (fr_refl _ _) (by omega)) (by omega)) (by omega)) (by omega)) (by omega)) (by omega)) (by omega)), fun k hk => by simp (disch := omega) only [rv_self, rv_ne, rl_self, rl_ne, rA_self, rA_ne, rL_self, rL_ne, rR_self, rR_ne, xvl, xvA, xvL, xvR, xlv, xlA, xlL, xlR, xAv, xAl, xAL, xAR, xLv, xLl, xLA, xLR, xRv, xRl, xRA, xRL]⟩
                  · rw [if_pos (by omega)] at c302
                    exact absurd rfl c302
            · exact absurd (c115.symm.trans c271) (by decide)
          · skip
            have hmx : mtx T t ts < 0 := mtx_no (Or.inl (by
              by_cases q : (fnd T t.1) < 0 ∨ t.2.2 t.1 = true
              · exact q
              · exact absurd (htk2.mpr q) (by rw [c161]; decide)))
            refine w_aload_n rfl rfl rfl ?_
            refine w_getR rfl rfl sh_249 rfl rfl ?_
            refine w_aload_n rfl rfl rfl ?_
            refine w_getI (z := sv S 249 32) rfl rfl sh_249 rfl (rv_ne (by decide)) rfl ?_
            refine w_lload_n rfl rfl rfl ?_
            refine w_laS (f := sL S 271) rfl sh_271 (by omega) (by omega) (by decide) rfl rfl ?_
            refine w_aload_n rfl rfl rfl ?_
            refine w_getR rfl rfl sh_249 rfl rfl ?_
            refine w_aload_n rfl rfl rfl ?_
            refine w_getI (z := sv S 249 32) rfl rfl sh_249 rfl (rv_ne (S := S) (a := 249) (k := 29) (z := sv S 249 29 - 1) (b := 249) (j := 32) (by decide)) rfl ?_
            refine w_iload_n rfl rfl rfl ?_
            refine w_iaS (f := sA S 272) rfl sh_272 (by omega) (by omega) (by decide) rfl rfl ?_
            refine w_aload_n rfl rfl rfl ?_
            refine w_dup rfl rfl rfl ?_
            refine w_getI (z := sv S 249 32) rfl rfl sh_249 rfl (rv_ne (S := S) (a := 249) (k := 29) (z := sv S 249 29 - 1) (b := 249) (j := 32) (by decide)) rfl ?_
            refine w_iconst rfl rfl ?_
            refine w_iadd rfl rfl ?_
            refine w_putf rfl rfl sh_249 rfl rfl (by decide) rfl ?_
            refine w_iconst rfl rfl ?_
            refine w_iret rfl rfl ?_
            exact ⟨fun _ => ⟨rfl, rfl⟩, fun z => absurd hmx z⟩
        · skip
          refine w_aload_n rfl rfl rfl ?_
          refine w_getI (z := sv S 249 29 - 1) rfl rfl sh_249 rfl (rv_self _ _ _ _) rfl ?_
          refine w_aload_n rfl rfl rfl ?_
          refine w_getR rfl rfl sh_249 rfl rfl ?_
          refine w_aload_n rfl rfl rfl ?_
          refine w_getI (z := sv S 249 46) rfl rfl sh_249 rfl (rv_ne (by decide)) rfl ?_
          refine w_iald (z := sA S 277 (sv S 249 46)) rfl sh_277 (by omega) (by omega) (by decide) rfl rfl ?_
          apply w_jn (A := w_T _ _ 138 157 _ [.int (iZ (zB (decide ((sA S 277 (sv S 249 46)) < sv S 249 29 - 1 ∧ (sL S 269 (sv S 249 29 - 1 - 1)) = 40))))] _ _)
          · intro kT
            refine w_ic_le (pc2 := 156) (pc3 := 134) rfl (by decide) rfl ⟨by first | omega | (have := hm89 (by assumption); omega), by first | omega | (have := hm89 (by assumption); omega)⟩ ⟨by first | omega | (have := hm89 (by assumption); omega), by first | omega | (have := hm89 (by assumption); omega)⟩ (fun q6 => ?_) (fun q6 => ?_)
            · skip
              refine w_iconst rfl rfl ?_
              exact w_j0 (p := (sA S 277 (sv S 249 46)) < sv S 249 29 - 1 ∧ (sL S 269 (sv S 249 29 - 1 - 1)) = 40) (fun q => (Int.not_lt.mpr q6) q.1) kT
            · skip
              refine w_aload_n rfl rfl rfl ?_
              refine w_getR rfl rfl sh_249 rfl rfl ?_
              refine w_aload_n rfl rfl rfl ?_
              refine w_getI (z := sv S 249 29 - 1) rfl rfl sh_249 rfl (rv_self _ _ _ _) rfl ?_
              refine w_iconst rfl rfl ?_
              refine w_isub rfl rfl ?_
              refine w_lald (z := sL S 269 (sv S 249 29 - 1 - 1)) rfl sh_269 (by omega) (by omega) (by decide) rfl rfl ?_
              refine w_ldc2 (v := 40) rfl rfl rfl ?_
              refine w_l_ne (pc2 := 156) (pc3 := 152) rfl rfl (by decide) rfl (fun q7 => ?_) (fun q7 => ?_)
              · skip
                refine w_iconst rfl rfl ?_
                exact w_j0 (p := (sA S 277 (sv S 249 46)) < sv S 249 29 - 1 ∧ (sL S 269 (sv S 249 29 - 1 - 1)) = 40) (fun q => q7 q.2) kT
              · skip
                refine w_iconst rfl rfl ?_
                refine w_goto (pc2 := 157) rfl (by decide) ?_
                exact w_j1 (p := (sA S 277 (sv S 249 46)) < sv S 249 29 - 1 ∧ (sL S 269 (sv S 249 29 - 1 - 1)) = 40) ⟨q6, q7⟩ kT
          · show w_T _ _ 138 157 _ [.int (iZ (zB (decide ((sA S 277 (sv S 249 46)) < sv S 249 29 - 1 ∧ (sL S 269 (sv S 249 29 - 1 - 1)) = 40))))] _ _
            generalize htw : (decide ((sA S 277 (sv S 249 46)) < sv S 249 29 - 1 ∧ (sL S 269 (sv S 249 29 - 1 - 1)) = 40)) = tw
            have htk3 : tw = true ↔ hd40 ts = true := by
              rw [← htw, decide_eq_true_eq, hh]
              exact ⟨fun z => ⟨by omega, z.2⟩, fun z => ⟨by omega, z.2⟩⟩
            refine w_istore rfl (by decide) rfl ?_
            refine w_iload rfl rfl rfl ?_
            refine w_b_ne (pc2 := 196) (pc3 := 164) rfl (by decide) rfl (fun c161 => ?_) (fun c161 => ?_)
            · skip
              have htt : tk = true := (hcl2.mp c115).1
              have hcf : (mg T (fnd T t.1)).2.1 = true := (hcl2.mp c115).2
              have hd4 : hd40 ts = true := htk3.mp c161
              have hme : mtx T t ts = (fnd T t.1) := mtx_so (htk2.mp htt) (Or.inl hd4)
              have hk0 : ¬ (fnd T t.1) < 0 := fun y => htk2.mp htt (Or.inl y)
              have hmm : m = ((sg (mtx T t ts).toNat : Nat) : Int) := by rw [hme]; omega
              have hm0 : 0 ≤ m ∧ m < 8 := by omega
              have hrE := hrm hm0.1
              rw [← hme] at hrE hcf
              have hbE := hbg (mtx T t ts) (by omega) (by omega)
              have hm3 := hrE.2.1
              have hxr := xcall_r (t := t) (ts := ts) hrE.2 (fun _ => hd4)
              have hnE : nm m.toNat = (mg T (mtx T t ts)).1 := by rw [hnmm hm0.1, hme]; exact (fnd_at (by omega)).symm
              have hiE : ∀ q, q < 8 → nm q = nm m.toNat → q = m.toNat := by
                have q2 := rnm_inj ht hT (k := (mtx T t ts).toNat) (by omega)
                rw [hnm, show m.toNat = sg (mtx T t ts).toNat by omega]
                exact q2
              have hzE : ¬ (mg T (mtx T t ts)).1 = 0 := hT.1 _ (by omega) (by omega)
              refine w_aload_n rfl rfl rfl ?_
              refine w_getR rfl rfl sh_249 rfl rfl ?_
              refine w_aload_n rfl rfl rfl ?_
              refine w_getI (z := sv S 249 46) rfl rfl sh_249 rfl (rv_ne (by decide)) rfl ?_
              rw [hi]
              refine w_iload rfl rfl rfl ?_
              refine w_iaS (f := sA S 279) rfl sh_279 (by omega) (by omega) (by decide) rfl rfl ?_
              refine w_aload_n rfl rfl rfl ?_
              refine w_getR rfl rfl sh_249 rfl rfl ?_
              refine w_aload_n rfl rfl rfl ?_
              refine w_getI (z := sv S 249 46) rfl rfl sh_249 rfl (rv_ne (S := S) (a := 249) (k := 29) (z := sv S 249 29 - 1) (b := 249) (j := 46) (by decide)) rfl ?_
              rw [hi]
              refine w_iload_n rfl rfl rfl ?_
              refine w_iaS (f := sA S 280) rfl sh_280 (by omega) (by omega) (by decide) (rA_ne (by decide)) rfl ?_
              refine w_aload_n rfl rfl rfl ?_
              refine w_getR rfl rfl sh_249 rfl rfl ?_
              refine w_aload_n rfl rfl rfl ?_
              refine w_getI (z := sv S 249 46) rfl rfl sh_249 rfl (rv_ne (S := S) (a := 249) (k := 29) (z := sv S 249 29 - 1) (b := 249) (j := 46) (by decide)) rfl ?_
              rw [hi]
              refine w_sipush rfl (by decide) rfl ?_
              refine w_iaS (f := sA S 281) rfl sh_281 (by omega) (by omega) (by decide) ((rA_ne (by decide)).trans (rA_ne (by decide))) rfl ?_
              refine w_aload_n rfl rfl rfl ?_
              refine w_getR rfl rfl sh_249 rfl rfl ?_
              refine w_aload_n rfl rfl rfl ?_
              refine w_getI (z := sv S 249 46) rfl rfl sh_249 rfl (rv_ne (S := S) (a := 249) (k := 29) (z := sv S 249 29 - 1) (b := 249) (j := 46) (by decide)) rfl ?_
              rw [hi]
              refine w_iconst rfl rfl ?_
              refine w_iaS (f := sA S 282) rfl sh_282 (by omega) (by omega) (by decide) ((rA_ne (by decide)).trans ((rA_ne (by decide)).trans (rA_ne (by decide)))) rfl ?_
              refine w_aload_n rfl rfl rfl ?_
              refine w_getR rfl rfl sh_249 rfl rfl ?_
              refine w_iconst rfl rfl ?_
              refine w_aload_n rfl rfl rfl ?_
              refine w_getI (z := sv S 249 46) rfl rfl sh_249 rfl (rv_ne (S := S) (a := 249) (k := 29) (z := sv S 249 29 - 1) (b := 249) (j := 46) (by decide)) rfl ?_
              rw [hi]
              refine w_imul rfl rfl ?_
              refine w_aload_n rfl rfl rfl ?_
              refine w_getI (z := sv S 249 35) rfl rfl sh_249 rfl (rv_ne (S := S) (a := 249) (k := 29) (z := sv S 249 29 - 1) (b := 249) (j := 35) (by decide)) rfl ?_
              refine w_iaS (f := sA S 283) rfl sh_283 (by omega) (by omega) (by decide) ((rA_ne (by decide)).trans ((rA_ne (by decide)).trans ((rA_ne (by decide)).trans (rA_ne (by decide))))) rfl ?_
              refine w_aload_n rfl rfl rfl ?_
              refine w_getR rfl rfl sh_249 rfl rfl ?_
              refine w_iconst rfl rfl ?_
              refine w_aload_n rfl rfl rfl ?_
              refine w_getI (z := sv S 249 46) rfl rfl sh_249 rfl (rv_ne (S := S) (a := 249) (k := 29) (z := sv S 249 29 - 1) (b := 249) (j := 46) (by decide)) rfl ?_
              rw [hi]
              refine w_imul rfl rfl ?_
              refine w_aload_n rfl rfl rfl ?_
              refine w_getI (z := sv S 249 32) rfl rfl sh_249 rfl (rv_ne (S := S) (a := 249) (k := 29) (z := sv S 249 29 - 1) (b := 249) (j := 32) (by decide)) rfl ?_
              refine w_iaS (f := sA S 284) rfl sh_284 (by omega) (by omega) (by decide) ((rA_ne (by decide)).trans ((rA_ne (by decide)).trans ((rA_ne (by decide)).trans ((rA_ne (by decide)).trans (rA_ne (by decide)))))) rfl ?_
              refine w_iload rfl rfl rfl ?_
              refine w_b_eq (pc2 := 283) (pc3 := 274) rfl (by decide) rfl (fun c271 => ?_) (fun c271 => ?_)
              · exact absurd (c115.symm.trans c271) (by decide)
              · skip
                obtain ⟨p40, r1, hts⟩ := list_cons (l := ts) (by have := hh.mp hd4; omega)
                have hp4 : p40.1 = 40 := by rw [hts] at hd4; exact of_decide_eq_true hd4
                have hxc : (xcall (mg T (mtx T t ts)) t ts) = fargs (mg T (mtx T t ts)) r1 := by unfold xcall; rw [if_pos hcf, hts]; rfl
                have hlt : (ts.length : Int) = r1.length + 1 := by rw [hts, List.length_cons]; omega
                have hFX : fr (fun a => a = 249 ∨ (279 ≤ a ∧ a ≤ 284)) S (w_A (w_A (w_A (w_A (w_A (w_A (w_v S 249 29 (sv S 249 29 - 1)) 279 (w_u (sA S 279) i m)) 280 (w_u (sA S 280) i (eo nm t))) 281 (w_u (sA S 281) i 255)) 282 (w_u (sA S 282) i 0)) 283 (w_u (sA S 283) (4 * i) (sv S 249 35))) 284 (w_u (sA S 284) (4 * i) (sv S 249 32))) := (fr_A (fr_A (fr_A (fr_A (fr_A (fr_A (fr_v (fr_refl _ _) (by omega)) (by omega)) (by omega)) (by omega)) (by omega)) (by omega)) (by omega))
                refine w_aload_n rfl rfl rfl ?_
                refine w_iload rfl rfl rfl ?_
                refine w_CV (as := [.int (iZ m)]) (r := []) rfl rfl rfl rfl sh_249 (Nat.le_of_ble_eq_true rfl) (Nat.le_of_ble_eq_true rfl) (by omega) rfl (r_args (S := (w_A (w_A (w_A (w_A (w_A (w_A (w_v S 249 29 (sv S 249 29 - 1)) 279 (w_u (sA S 279) i m)) 280 (w_u (sA S 280) i (eo nm t))) 281 (w_u (sA S 281) i 255)) 282 (w_u (sA S 282) i 0)) 283 (w_u (sA S 283) (4 * i) (sv S 249 35))) 284 (w_u (sA S 284) (4 * i) (sv S 249 32)))) (nm := nm) (i := i) (m := m) (b := b) (r := r) (e := (mg T (mtx T t ts))) (p40 := p40) (r1 := r1) (by simp (disch := omega) only [rv_self, rv_ne, rl_self, rl_ne, rA_self, rA_ne, rL_self, rL_ne, rR_self, rR_ne, xvl, xvA, xvL, xvR, xlv, xlA, xlL, xlR, xAv, xAl, xAL, xAR, xLv, xLl, xLA, xLR, xRv, xRl, xRA, xRL]; exact hi) i0 i1 hm0.1 hm0.2 (rmac_fr hrE.1 hFX (by omega)) hrE.2 hcf (by simp (disch := omega) only [rv_self, rv_ne, rl_self, rl_ne, rA_self, rA_ne, rL_self, rL_ne, rR_self, rR_ne, xvl, xvA, xvL, xvR, xlv, xlA, xlL, xlR, xAv, xAl, xAL, xAR, xLv, xLl, xLA, xLR, xRv, xRl, xRA, xRL]; exact hbt) b0 (by simp (disch := omega) only [rv_self, rv_ne, rl_self, rl_ne, rA_self, rA_ne, rL_self, rL_ne, rR_self, rR_ne, xvl, xvA, xvL, xvR, xlv, xlA, xlL, xlR, xAv, xAl, xAL, xAR, xLv, xLl, xLA, xLR, xRv, xRl, xRA, xRL]; omega) (by simp (disch := omega) only [rv_self, rv_ne, rl_self, rl_ne, rA_self, rA_ne, rL_self, rL_ne, rR_self, rR_ne, xvl, xvA, xvL, xvR, xlv, xlA, xlL, xlR, xAv, xAl, xAL, xAR, xLv, xLl, xLA, xLR, xRv, xRl, xRA, xRL]; omega) (by simp (disch := omega) only [rv_self, rv_ne, rl_self, rl_ne, rA_self, rA_ne, rL_self, rL_ne, rR_self, rR_ne, xvl, xvA, xvL, xvR, xlv, xlA, xlL, xlR, xAv, xAl, xAL, xAR, xLv, xLl, xLA, xLR, xRv, xRl, xRA, xRL]; rw [← hts]; exact hbw.2.2) hp4 (fun x hx => hlk x (by rw [hts]; simp only [List.mem_cons] at hx ⊢; exact Or.inr hx)) (by simp (disch := omega) only [rv_self, rv_ne, rl_self, rl_ne, rA_self, rA_ne, rL_self, rL_ne, rR_self, rR_ne, xvl, xvA, xvL, xvR, xlv, xlA, xlL, xlR, xAv, xAl, xAL, xAR, xLv, xLl, xLA, xLR, xRv, xRl, xRA, xRL]; exact hr) r30 r0 (by simp (disch := omega) only [rv_self, rv_ne, rl_self, rl_ne, rA_self, rA_ne, rL_self, rL_ne, rR_self, rR_ne, xvl, xvA, xvL, xvR, xlv, xlA, xlL, xlR, xAv, xAl, xAL, xAR, xLv, xLl, xLA, xLR, xRv, xRl, xRA, xRL]; exact w0) (by simp (disch := omega) only [rv_self, rv_ne, rl_self, rl_ne, rA_self, rA_ne, rL_self, rL_ne, rR_self, rR_ne, xvl, xvA, xvL, xvR, xlv, xlA, xlL, xlR, xAv, xAl, xAL, xAR, xLv, xLl, xLA, xLR, xRv, xRl, xRA, xRL]; exact w1) (by simp (disch := omega) only [rv_self, rv_ne, rl_self, rl_ne, rA_self, rA_ne, rL_self, rL_ne, rR_self, rR_ne, xvl, xvA, xvL, xvR, xlv, xlA, xlL, xlR, xAv, xAl, xAL, xAR, xLv, xLl, xLA, xLR, xRv, xRl, xRA, xRL]; rw [w_u_self]) (by omega)) ?_
                rintro _ V ⟨rfl, f1, w2, w3⟩
                show w_T _ _ 138 280 _ [.int (iZ ((if ¬ (fargs (mg T (mtx T t ts)) r1).1 = 0 then (fargs (mg T (mtx T t ts)) r1).1 else if r = 30 then 7 else 0)))] _ _
                have far := fargs_r (e := (mg T (mtx T t ts))) (l := r1)
                have hcdr : 0 ≤ (if ¬ (fargs (mg T (mtx T t ts)) r1).1 = 0 then (fargs (mg T (mtx T t ts)) r1).1 else if r = 30 then 7 else 0) ∧ (if ¬ (fargs (mg T (mtx T t ts)) r1).1 = 0 then (fargs (mg T (mtx T t ts)) r1).1 else if r = 30 then 7 else 0) ≤ 8 := by
                  split
                  · omega
                  · split <;> omega
                simp (disch := omega) only [rv_self, rv_ne, rl_self, rl_ne, rA_self, rA_ne, rL_self, rL_ne, rR_self, rR_ne, xvl, xvA, xvL, xvR, xlv, xlA, xlL, xlR, xAv, xAl, xAL, xAR, xLv, xLl, xLA, xLR, xRv, xRl, xRA, xRL] at w2 w3
                have w2b : ∀ k, ¬ (k = 29 ∨ k = 35) → sv V 249 k = sv S 249 k := fun k hk => by rw [w2 k hk]; exact rv_ne (by omega)
                refine w_goto (pc2 := 298) rfl (by decide) ?_
                refine w_istore rfl (by decide) rfl ?_
                refine w_iload rfl rfl rfl ?_
                refine w_if_eq (pc2 := 308) (pc3 := 305) rfl (by decide) rfl ⟨by first | omega | (have := hm89 (by assumption); omega), by first | omega | (have := hm89 (by assumption); omega)⟩ (fun c302 => ?_) (fun c302 => ?_)
                · skip
                  refine w_aload_n rfl rfl rfl ?_
                  refine w_dup rfl rfl rfl ?_
                  refine w_getI (z := sv V 249 23) rfl rfl sh_249 rfl rfl rfl ?_
                  refine w_iconst rfl rfl ?_
                  refine w_iadd rfl rfl ?_
                  refine w_putf rfl rfl sh_249 rfl rfl (by decide) rfl ?_
                  have hx00 : (xcall (mg T (mtx T t ts)) t ts).1 = 0 := by
                    rw [hxc]
                    by_cases q : (fargs (mg T (mtx T t ts)) r1).1 = 0
                    · exact q
                    · rw [if_pos q] at c302
                      exact absurd c302 q
                  have hrn : ¬ 30 ≤ r := by
                    intro z
                    rw [hxc] at hx00
                    rw [if_neg (not_not_intro hx00), if_pos (by omega)] at c302
                    exact absurd c302 (by decide)
                  have hSL := LS_of (ts := ts) hm0.1 hm0.2 hrE.2 hbE hlk hgw hnE hiE hzE (fun _ => hd4) hx00
                  have w4 := w3 c302
                  rw [← hxc] at w4
                  have hfV : fr (fun a => a = 249 ∨ a = 273 ∨ a = 274 ∨ (279 ≤ a ∧ a ≤ 284)) S V := fr_trans (fr_mono hFX (by omega)) (fr_mono f1 (by omega))
                  obtain ⟨x1, x2, x3, x4, x5, x6, x7⟩ := w4
                  have okc := ((hxr.2.2 hx00).2.2.2 ot (fun x hx => hlk x (by simp [hx]))).2.1
                  obtain ⟨S1, hS1⟩ : ∃ S1, S1 = (w_v V 249 23 (sv V 249 23 + 1)) := ⟨_, rfl⟩
                  rw [← hS1]
                  have hNX : NXp nm S S1 i b r m (mg T (mtx T t ts)) t ts := by
                    rw [hS1]
                    refine ⟨fr_v hfV (by omega), fun k hk => ?_, ?_, ?_, ⟨?_, ?_, ?_, ?_, ?_, trivial, ?_, ?_, ?_, ?_, ?_⟩, ?_, ?_, ?_, ?_, ?_, ?_, ?_⟩
                    · simp (disch := omega) only [rv_self, rv_ne, rl_self, rl_ne, rA_self, rA_ne, rL_self, rL_ne, rR_self, rR_ne, xvl, xvA, xvL, xvR, xlv, xlA, xlL, xlR, xAv, xAl, xAL, xAR, xLv, xLl, xLA, xLR, xRv, xRl, xRA, xRL]
                      rw [w2b k (by omega)]
                      try simp (disch := omega) only [rv_self, rv_ne, rl_self, rl_ne, rA_self, rA_ne, rL_self, rL_ne, rR_self, rR_ne, xvl, xvA, xvL, xvR, xlv, xlA, xlL, xlR, xAv, xAl, xAL, xAR, xLv, xLl, xLA, xLR, xRv, xRl, xRA, xRL]
                    · simp (disch := omega) only [rv_self, rv_ne, rl_self, rl_ne, rA_self, rA_ne, rL_self, rL_ne, rR_self, rR_ne, xvl, xvA, xvL, xvR, xlv, xlA, xlL, xlR, xAv, xAl, xAL, xAR, xLv, xLl, xLA, xLR, xRv, xRl, xRA, xRL]
                      rw [w2b 23 (by decide)]
                      omega
                    · simp (disch := omega) only [rv_self, rv_ne, rl_self, rl_ne, rA_self, rA_ne, rL_self, rL_ne, rR_self, rR_ne, xvl, xvA, xvL, xvR, xlv, xlA, xlL, xlR, xAv, xAl, xAL, xAR, xLv, xLl, xLA, xLR, xRv, xRl, xRA, xRL]
                      exact x1
                    · simp (disch := omega) only [rv_self, rv_ne, rl_self, rl_ne, rA_self, rA_ne, rL_self, rL_ne, rR_self, rR_ne, xvl, xvA, xvL, xvR, xlv, xlA, xlL, xlR, xAv, xAl, xAL, xAR, xLv, xLl, xLA, xLR, xRv, xRl, xRA, xRL]
                      rw [fr_gA f1 (a := 279) (by omega)]
                      simp (disch := omega) only [rv_self, rv_ne, rl_self, rl_ne, rA_self, rA_ne, rL_self, rL_ne, rR_self, rR_ne, xvl, xvA, xvL, xvR, xlv, xlA, xlL, xlR, xAv, xAl, xAL, xAR, xLv, xLl, xLA, xLR, xRv, xRl, xRA, xRL]
                      rw [w_u_self]
                    · exact rmac_fr hrE.1 (fr_v hfV (by omega)) (by omega)
                    · simp (disch := omega) only [rv_self, rv_ne, rl_self, rl_ne, rA_self, rA_ne, rL_self, rL_ne, rR_self, rR_ne, xvl, xvA, xvL, xvR, xlv, xlA, xlL, xlR, xAv, xAl, xAL, xAR, xLv, xLl, xLA, xLR, xRv, xRl, xRA, xRL]
                      rw [fr_gA f1 (a := 280) (by omega)]
                      simp (disch := omega) only [rv_self, rv_ne, rl_self, rl_ne, rA_self, rA_ne, rL_self, rL_ne, rR_self, rR_ne, xvl, xvA, xvL, xvR, xlv, xlA, xlL, xlR, xAv, xAl, xAL, xAR, xLv, xLl, xLA, xLR, xRv, xRl, xRA, xRL]
                      rw [w_u_self]
                    · simp (disch := omega) only [rv_self, rv_ne, rl_self, rl_ne, rA_self, rA_ne, rL_self, rL_ne, rR_self, rR_ne, xvl, xvA, xvL, xvR, xlv, xlA, xlL, xlR, xAv, xAl, xAL, xAR, xLv, xLl, xLA, xLR, xRv, xRl, xRA, xRL]
                      rw [x2, w_u_self]
                      exact hcs_call ot okc
                    · simp (disch := omega) only [rv_self, rv_ne, rl_self, rl_ne, rA_self, rA_ne, rL_self, rL_ne, rR_self, rR_ne, xvl, xvA, xvL, xvR, xlv, xlA, xlL, xlR, xAv, xAl, xAL, xAR, xLv, xLl, xLA, xLR, xRv, xRl, xRA, xRL]
                      exact x3
                    · simp (disch := omega) only [rv_self, rv_ne, rl_self, rl_ne, rA_self, rA_ne, rL_self, rL_ne, rR_self, rR_ne, xvl, xvA, xvL, xvR, xlv, xlA, xlL, xlR, xAv, xAl, xAL, xAR, xLv, xLl, xLA, xLR, xRv, xRl, xRA, xRL]
                      rw [x7 (4 * i) (Int.le_refl _), w_u_self]
                      exact w0
                    · simp (disch := omega) only [rv_self, rv_ne, rl_self, rl_ne, rA_self, rA_ne, rL_self, rL_ne, rR_self, rR_ne, xvl, xvA, xvL, xvR, xlv, xlA, xlL, xlR, xAv, xAl, xAL, xAR, xLv, xLl, xLA, xLR, xRv, xRl, xRA, xRL]
                      rw [← x4]
                      have := w1 (by omega)
                      omega
                    · simp (disch := omega) only [rv_self, rv_ne, rl_self, rl_ne, rA_self, rA_ne, rL_self, rL_ne, rR_self, rR_ne, xvl, xvA, xvL, xvR, xlv, xlA, xlL, xlR, xAv, xAl, xAL, xAR, xLv, xLl, xLA, xLR, xRv, xRl, xRA, xRL]
                      rw [fr_gA f1 (a := 284) (by omega)]
                      simp (disch := omega) only [rv_self, rv_ne, rl_self, rl_ne, rA_self, rA_ne, rL_self, rL_ne, rR_self, rR_ne, xvl, xvA, xvL, xvR, xlv, xlA, xlL, xlR, xAv, xAl, xAL, xAR, xLv, xLl, xLA, xLR, xRv, xRl, xRA, xRL]
                      rw [w_u_self]
                      exact g0
                    · simp (disch := omega) only [rv_self, rv_ne, rl_self, rl_ne, rA_self, rA_ne, rL_self, rL_ne, rR_self, rR_ne, xvl, xvA, xvL, xvR, xlv, xlA, xlL, xlR, xAv, xAl, xAL, xAR, xLv, xLl, xLA, xLR, xRv, xRl, xRA, xRL]
                      rw [fr_gA f1 (a := 284) (by omega)]
                      simp (disch := omega) only [rv_self, rv_ne, rl_self, rl_ne, rA_self, rA_ne, rL_self, rL_ne, rR_self, rR_ne, xvl, xvA, xvL, xvR, xlv, xlA, xlL, xlR, xAv, xAl, xAL, xAR, xLv, xLl, xLA, xLR, xRv, xRl, xRA, xRL]
                      rw [List.length_nil, show 4 * i + ((0 : Nat) : Int) = 4 * i by omega, w_u_self]
                      omega
                    · simp (disch := omega) only [rv_self, rv_ne, rl_self, rl_ne, rA_self, rA_ne, rL_self, rL_ne, rR_self, rR_ne, xvl, xvA, xvL, xvR, xlv, xlA, xlL, xlR, xAv, xAl, xAL, xAR, xLv, xLl, xLA, xLR, xRv, xRl, xRA, xRL]
                      rw [fr_gA f1 (a := 282) (by omega)]
                      simp (disch := omega) only [rv_self, rv_ne, rl_self, rl_ne, rA_self, rA_ne, rL_self, rL_ne, rR_self, rR_ne, xvl, xvA, xvL, xvR, xlv, xlA, xlL, xlR, xAv, xAl, xAL, xAR, xLv, xLl, xLA, xLR, xRv, xRl, xRA, xRL]
                      rw [w_u_self]
                      rfl
                    · simp (disch := omega) only [rv_self, rv_ne, rl_self, rl_ne, rA_self, rA_ne, rL_self, rL_ne, rR_self, rR_ne, xvl, xvA, xvL, xvR, xlv, xlA, xlL, xlR, xAv, xAl, xAL, xAR, xLv, xLl, xLA, xLR, xRv, xRl, xRA, xRL]
                      exact x4
                    · simp (disch := omega) only [rv_self, rv_ne, rl_self, rl_ne, rA_self, rA_ne, rL_self, rL_ne, rR_self, rR_ne, xvl, xvA, xvL, xvR, xlv, xlA, xlL, xlR, xAv, xAl, xAL, xAR, xLv, xLl, xLA, xLR, xRv, xRl, xRA, xRL]
                      exact x5
                    · simp (disch := omega) only [rv_self, rv_ne, rl_self, rl_ne, rA_self, rA_ne, rL_self, rL_ne, rR_self, rR_ne, xvl, xvA, xvL, xvR, xlv, xlA, xlL, xlR, xAv, xAl, xAL, xAR, xLv, xLl, xLA, xLR, xRv, xRl, xRA, xRL]
                      rw [x7 (4 * i) (Int.le_refl _), w_u_self]
                    · simp (disch := omega) only [rv_self, rv_ne, rl_self, rl_ne, rA_self, rA_ne, rL_self, rL_ne, rR_self, rR_ne, xvl, xvA, xvL, xvR, xlv, xlA, xlL, xlR, xAv, xAl, xAL, xAR, xLv, xLl, xLA, xLR, xRv, xRl, xRA, xRL]
                      rw [fr_gA f1 (a := 284) (by omega)]
                      simp (disch := omega) only [rv_self, rv_ne, rl_self, rl_ne, rA_self, rA_ne, rL_self, rL_ne, rR_self, rR_ne, xvl, xvA, xvL, xvR, xlv, xlA, xlL, xlR, xAv, xAl, xAL, xAR, xLv, xLl, xLA, xLR, xRv, xRl, xRA, xRL]
                      rw [w_u_self]
                    · intro j hj
                      simp (disch := omega) only [rv_self, rv_ne, rl_self, rl_ne, rA_self, rA_ne, rL_self, rL_ne, rR_self, rR_ne, xvl, xvA, xvL, xvR, xlv, xlA, xlL, xlR, xAv, xAl, xAL, xAR, xLv, xLl, xLA, xLR, xRv, xRl, xRA, xRL]
                      exact x6 j hj
                    · intro j hj
                      simp (disch := omega) only [rv_self, rv_ne, rl_self, rl_ne, rA_self, rA_ne, rL_self, rL_ne, rR_self, rR_ne, xvl, xvA, xvL, xvR, xlv, xlA, xlL, xlR, xAv, xAl, xAL, xAR, xLv, xLl, xLA, xLR, xRv, xRl, xRA, xRL]
                      rw [x2, fr_gA f1 (a := 279) (by omega), fr_gA f1 (a := 280) (by omega), fr_gA f1 (a := 282) (by omega)]
                      simp (disch := omega) only [rv_self, rv_ne, rl_self, rl_ne, rA_self, rA_ne, rL_self, rL_ne, rR_self, rR_ne, xvl, xvA, xvL, xvR, xlv, xlA, xlL, xlR, xAv, xAl, xAL, xAR, xLv, xLl, xLA, xLR, xRv, xRl, xRA, xRL]
                      rw [w_u_ne _ _ hj, w_u_ne _ _ hj, w_u_ne _ _ hj, w_u_ne _ _ hj, w_u_ne _ _ hj]
                      exact ⟨rfl, rfl, rfl, rfl⟩
                    · intro j hj
                      simp (disch := omega) only [rv_self, rv_ne, rl_self, rl_ne, rA_self, rA_ne, rL_self, rL_ne, rR_self, rR_ne, xvl, xvA, xvL, xvR, xlv, xlA, xlL, xlR, xAv, xAl, xAL, xAR, xLv, xLl, xLA, xLR, xRv, xRl, xRA, xRL]
                      rw [x7 j (by omega), fr_gA f1 (a := 284) (by omega)]
                      simp (disch := omega) only [rv_self, rv_ne, rl_self, rl_ne, rA_self, rA_ne, rL_self, rL_ne, rR_self, rR_ne, xvl, xvA, xvL, xvR, xlv, xlA, xlL, xlR, xAv, xAl, xAL, xAR, xLv, xLl, xLA, xLR, xRv, xRl, xRA, xRL]
                      rw [w_u_ne _ _ (by omega), w_u_ne _ _ (by omega)]
                      exact ⟨rfl, rfl⟩
                  have hst2 : w_T sc (d - 1) 140 0 (x_en 0 [.ref 249]) [] S1 (fun v S2 => (∃ z, v = some (.int (iZ z))) ∧ (0 < rtk (mg T (mtx T t ts)) → PUSHp nm S1 i (((xcall (mg T (mtx T t ts)) t ts).2.1.take (mg T (mtx T t ts)).2.2.1.length).getD 0 []) v S2) ∧ (rtk (mg T (mtx T t ts)) ≤ 0 → RPp nm S1 i (mg T (mtx T t ts)) t (xcall (mg T (mtx T t ts)) t ts).2.2.1 ((xcall (mg T (mtx T t ts)) t ts).2.1.take (mg T (mtx T t ts)).2.2.1.length) [] v S2)) := by
                    have hxl := (hxr.2.2 hx00).1
                    have n29 := hNX.2.2.2.1
                    refine w_mono (r_beg (S := S1) (nm := nm) (i := i) (m := m) (e := (mg T (mtx T t ts))) (t := t) (c := (xcall (mg T (mtx T t ts)) t ts).2.2.1) (as := ((xcall (mg T (mtx T t ts)) t ts).2.1.take (mg T (mtx T t ts)).2.2.1.length)) (os := []) (by rw [hNX.2.1 46 (by decide)]; exact hi) i0 i1 hNX.2.2.2.2.1 hSL (Nat.zero_le _) (fun k => by rw [List.getD_nil]; simp) (fun a ha => absurd ha (by simp)) (fun a ha => absurd ha (by simp)) (by omega) (by omega) (by omega)) (fun v S2 q => ⟨?_, ?_⟩)
                    · by_cases z : ((([] : List (List ETok)).length : Nat) : Int) < rtk (mg T (mtx T t ts))
                      · exact ⟨_, (q.1 z).1⟩
                      · exact ⟨_, (q.2 (by omega)).1⟩
                    · exact q
                  refine w_aload_n rfl rfl rfl ?_
                  refine w_CV (as := []) (r := []) rfl rfl rfl rfl sh_249 (Nat.le_of_ble_eq_true rfl) (Nat.le_of_ble_eq_true rfl) (by omega) rfl (hst2) ?_
                  rintro _ Z ⟨⟨zz, rfl⟩, hq⟩
                  show w_T _ _ 138 322 _ [.int (iZ zz)] _ _
                  refine w_iret rfl rfl ?_
                  rw [hmm] at hNX
                  exact ⟨fun z => absurd z (by omega), fun _ => ⟨fun z => absurd hx00 z, fun _ z => absurd z hrn, fun _ _ => ⟨S1, hNX, hq⟩⟩⟩
                · skip
                  refine w_iload rfl rfl rfl ?_
                  refine w_iret rfl rfl ?_
                  have he3 : sv V 249 23 = r := by rw [w2b 23 (by decide)]; exact hr
                  have hfe : fr (fun a => a = 249 ∨ (269 ≤ a ∧ a ≤ 284)) S V := fr_trans (fr_mono hFX (by omega)) (fr_mono f1 (by omega))
                  refine ⟨fun z => absurd z (by omega), fun _ => ⟨fun z => ?_, fun z z2 => ?_, fun z z2 => ?_⟩⟩
                  · rw [hxc] at z ⊢
                    rw [if_pos z]
                    exact ⟨rfl, he3, hfe, w2b⟩
                  · rw [hxc] at z
                    rw [if_neg (not_not_intro z), if_pos (by omega)]
                    exact ⟨rfl, he3, hfe, w2b⟩
                  · rw [hxc] at z
                    rw [if_neg (not_not_intro z), if_neg (by omega)] at c302
                    exact absurd rfl c302
            · skip
              have hct := hcl2.mp c115
              have hmx : mtx T t ts < 0 := mtx_no (Or.inr (fun z => z.elim (fun y => absurd (htk3.mpr y) (by rw [c161]; decide)) (fun y => absurd (hct.2.symm.trans y) (by decide))))
              refine w_aload_n rfl rfl rfl ?_
              refine w_getR rfl rfl sh_249 rfl rfl ?_
              refine w_aload_n rfl rfl rfl ?_
              refine w_getI (z := sv S 249 32) rfl rfl sh_249 rfl (rv_ne (by decide)) rfl ?_
              refine w_lload_n rfl rfl rfl ?_
              refine w_laS (f := sL S 271) rfl sh_271 (by omega) (by omega) (by decide) rfl rfl ?_
              refine w_aload_n rfl rfl rfl ?_
              refine w_getR rfl rfl sh_249 rfl rfl ?_
              refine w_aload_n rfl rfl rfl ?_
              refine w_getI (z := sv S 249 32) rfl rfl sh_249 rfl (rv_ne (S := S) (a := 249) (k := 29) (z := sv S 249 29 - 1) (b := 249) (j := 32) (by decide)) rfl ?_
              refine w_iload_n rfl rfl rfl ?_
              refine w_iaS (f := sA S 272) rfl sh_272 (by omega) (by omega) (by decide) rfl rfl ?_
              refine w_aload_n rfl rfl rfl ?_
              refine w_dup rfl rfl rfl ?_
              refine w_getI (z := sv S 249 32) rfl rfl sh_249 rfl (rv_ne (S := S) (a := 249) (k := 29) (z := sv S 249 29 - 1) (b := 249) (j := 32) (by decide)) rfl ?_
              refine w_iconst rfl rfl ?_
              refine w_iadd rfl rfl ?_
              refine w_putf rfl rfl sh_249 rfl rfl (by decide) rfl ?_
              refine w_iconst rfl rfl ?_
              refine w_iret rfl rfl ?_
              exact ⟨fun _ => ⟨rfl, rfl⟩, fun z => absurd hmx z⟩
  · omega
