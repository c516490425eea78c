/-! The reference defines and forgets names. -/
theorem zand_1 {z : Int} (h0 : 0 ≤ z) (h1 : z < 2147483648) : zand z 1 = z % 2 := by
  rw [zand_nat h0 h1 (by decide) (by decide)]
  show ((z.toNat &&& 1 : Nat) : Int) = z % 2
  rw [Nat.and_one_is_mod]
  omega
def bd2 (X : Int → Int64) (e k : Int) : Bool := decide (e - 1 ≤ fi (fun j => decide (X j = 4515 ∧ X (j + 1) = 4515)) (e - 1) k)
theorem bd2_end {X : Int → Int64} {e k : Int} (h : e ≤ k + 1) : bd2 X e k = true := by
  unfold bd2
  rw [fi_end (by omega)]
  exact decide_eq_true (by omega)
theorem bd2_t {X : Int → Int64} {e k : Int} (h : k + 1 < e) (hp : X k = 4515 ∧ X (k + 1) = 4515) : bd2 X e k = false := by
  unfold bd2
  rw [fi_stop (by omega) (decide_eq_true hp)]
  exact decide_eq_false (by omega)
theorem bd2_n {X : Int → Int64} {e k : Int} (h : k + 1 < e) (hp : ¬ (X k = 4515 ∧ X (k + 1) = 4515)) : bd2 X e k = bd2 X e (k + 1) := by
  unfold bd2
  rw [fi_next (by omega) (decide_eq_false hp)]
theorem bd2_all {X : Int → Int64} {e q : Int} (h : bd2 X e q = true) : ∀ k, q ≤ k → k < e - 1 → ¬ (X k = 4515 ∧ X (k + 1) = 4515) := fun k k0 k1 z => by
  have h1 : e - 1 ≤ fi (fun j => decide (X j = 4515 ∧ X (j + 1) = 4515)) (e - 1) q := of_decide_eq_true h
  have := fi_all (p := fun j => decide (X j = 4515 ∧ X (j + 1) = 4515)) _ q rfl h1 k k0 k1
  exact of_decide_eq_false this z
theorem fi_any {p : Int → Bool} {n : Int} : ∀ (m : Nat) (i : Int), (n - i).toNat = m → (∀ k, i ≤ k → k < n → p k = false) → n ≤ fi p n i
  | 0, i, hm, h => by
    rw [fi_end (by omega)]
    omega
  | m + 1, i, hm, h => by
    rw [fi_next (by omega) (h i (Int.le_refl _) (by omega))]
    exact fi_any m (i + 1) (by omega) (fun k k0 k1 => h k (by omega) k1)
theorem bdy_2 {X : Int → Int64} {q e : Int} (h : q ≤ e) : bdy X q e = (decide (q = e ∨ (¬ X q = 4515 ∧ ¬ X (e - 1) = 4515)) && bd2 X e q) := by
  by_cases c : bdy X q e = true
  · have ha := bdy_all c
    rw [c]
    have h1 : q = e ∨ (¬ X q = 4515 ∧ ¬ X (e - 1) = 4515) := by
      by_cases z : q = e
      · exact Or.inl z
      · exact Or.inr ⟨fun z1 => (ha q (Int.le_refl _) (by omega) z1).1 rfl, fun z1 => (ha (e - 1) (by omega) (by omega) z1).2.1 rfl⟩
    have h2 : bd2 X e q = true := decide_eq_true (fi_any _ q rfl (fun k k0 k1 => decide_eq_false (fun z => (ha k k0 (by omega) z.1).2.2 z.2)))
    rw [decide_eq_true h1, h2]
    rfl
  · have c' : bdy X q e = false := by simpa using c
    rw [c']
    symm
    rw [Bool.and_eq_false_iff]
    by_cases h1 : q = e ∨ (¬ X q = 4515 ∧ ¬ X (e - 1) = 4515)
    · by_cases h2 : bd2 X e q = true
      · exfalso
        refine c (decide_eq_true (fi_any _ q rfl (fun k k0 k1 => decide_eq_false (fun z => ?_))))
        have h1 : ¬ X q = 4515 ∧ ¬ X (e - 1) = 4515 := h1.resolve_left (by omega)
        rcases z.2 with z2 | z2 | z2
        · exact h1.1 (by rw [← z2]; exact z.1)
        · exact h1.2 (by rw [← z2]; exact z.1)
        · by_cases c3 : k = e - 1
          · exact h1.2 (by rw [← c3]; exact z.1)
          · exact bd2_all h2 k k0 (by omega) ⟨z.1, z2⟩
      · exact Or.inr (by simpa using h2)
    · exact Or.inl (decide_eq_false h1)
theorem rtab_free {S : w_S} {sg : Nat → Nat} {T : List Mac} (hT : tabok T) (ht : rtab S sg T) (h8 : T.length < 8) (h : ∀ j : Int, 0 ≤ j → j < 7 → ¬ sL S 262 j = 0) : sL S 262 7 = 0 := by
  by_cases c : sL S 262 7 = 0
  · exact c
  · have h1 := rtab_cnt hT ht
    rw [cnt_all 8 (fun j hj => decide_eq_true (by
      by_cases q : j = 7
      · rw [q]; exact c
      · exact h j (by omega) (by omega)))] at h1
    omega
theorem mg_snoc_lt {T : List Mac} {e : Mac} {k : Int} (h0 : 0 ≤ k) (h1 : k < T.length) : mg (T ++ [e]) k = mg T k := by
  rw [mg_snoc h0 (by omega), if_pos h1]
theorem mg_snoc_eq {T : List Mac} {e : Mac} : mg (T ++ [e]) T.length = e := by
  rw [mg_snoc (by omega) (by omega), if_neg (by omega)]
theorem rtab_snoc {S W : w_S} {sg : Nat → Nat} {T : List Mac} {e : Mac} {m : Int} (h : rtab S sg T) (hT : tabok T) (h8 : T.length < 8) (m0 : 0 ≤ m) (m8 : m < 8) (hz : sL S 262 m = 0) (w2 : sL W 262 = w_u (sL S 262) m e.1) (w3 : sA W 263 = w_u (sA S 263) m (rtk e)) (w6 : sA W 266 = w_u (sA S 266) m e.2.2.2.length) (w4 : ∀ j, ¬ (3 * m ≤ j ∧ j < 3 * m + 3) → sL W 264 j = sL S 264 j) (w5 : ∀ j, ¬ (12 * m ≤ j ∧ j < 12 * m + 12) → sL W 265 j = sL S 265 j) (v4 : ∀ j : Int, 0 ≤ j → j < e.2.2.1.length → sL W 264 (3 * m + j) = lg e.2.2.1 j) (v5 : ∀ j : Int, 0 ≤ j → j < e.2.2.2.length → sL W 265 (12 * m + j) = lg e.2.2.2 j) (ho : mok e) : rtab W (fun k => if k = T.length then m.toNat else sg k) (T ++ [e]) := by
  have hfree : ∀ k, k < T.length → ¬ sg k = m.toNat := fun k hk z => by
    have q := (h.2.2.2.1 (k : Int) (by omega) (by omega)).1.1
    rw [Int.toNat_natCast, z, Int.toNat_of_nonneg m0, hz] at q
    exact hT.1 (k : Int) (by omega) (by omega) q.symm
  have em : ((m.toNat : Nat) : Int) = m := Int.toNat_of_nonneg m0
  refine ⟨by rw [List.length_append]; show T.length + 1 ≤ 8; omega, fun k hk => ?_, fun j k hj hk hjk => ?_, fun k k0 k1 => ?_, fun q hq hn => ?_⟩
  · rw [List.length_append] at hk
    have hk : k < T.length + 1 := hk
    show (if k = T.length then m.toNat else sg k) < 8
    split
    · omega
    · exact h.2.1 k (by omega)
  · rw [List.length_append] at hj hk
    have hj : j < T.length + 1 := hj
    have hk : k < T.length + 1 := hk
    have hjk : (if j = T.length then m.toNat else sg j) = (if k = T.length then m.toNat else sg k) := hjk
    by_cases c1 : j = T.length
    · by_cases c2 : k = T.length
      · omega
      · rw [if_pos c1, if_neg c2] at hjk
        exact absurd hjk.symm (hfree k (by omega))
    · by_cases c2 : k = T.length
      · rw [if_neg c1, if_pos c2] at hjk
        exact absurd hjk (hfree j (by omega))
      · rw [if_neg c1, if_neg c2] at hjk
        exact h.2.2.1 j k (by omega) (by omega) hjk
  · rw [List.length_append] at k1
    have k1 : k < ((T.length + 1 : Nat) : Int) := k1
    by_cases c : k = T.length
    · show rmac W ((if k.toNat = T.length then m.toNat else sg k.toNat : Nat) : Int) _ ∧ _
      rw [if_pos (by omega), em, c, mg_snoc_eq]
      exact ⟨⟨by rw [w2, w_u_self], by rw [w3, w_u_self], by rw [w6, w_u_self], v4, v5⟩, ho⟩
    · show rmac W ((if k.toNat = T.length then m.toNat else sg k.toNat : Nat) : Int) _ ∧ _
      rw [if_neg (by omega), mg_snoc_lt k0 (by omega)]
      have q := h.2.2.2.1 k k0 (by omega)
      have hs := hfree k.toNat (by omega)
      have hk8 := h.2.1 k.toNat (by omega)
      have hok := q.2
      refine ⟨⟨by rw [w2, w_u_ne _ _ (by omega)]; exact q.1.1, by rw [w3, w_u_ne _ _ (by omega)]; exact q.1.2.1, by rw [w6, w_u_ne _ _ (by omega)]; exact q.1.2.2.1, fun j j0 j1 => ?_, fun j j0 j1 => ?_⟩, q.2⟩
      · have := hok.1
        rw [w4 _ (by omega)]; exact q.1.2.2.2.1 j j0 j1
      · have := hok.2.1
        rw [w5 _ (by omega)]; exact q.1.2.2.2.2 j j0 j1
  · have h1 : ¬ q = m.toNat := fun z => hn T.length (by rw [List.length_append]; show T.length < T.length + 1; omega) (by show (if T.length = T.length then m.toNat else sg T.length) = q; rw [if_pos rfl]; exact z.symm)
    rw [w2, w_u_ne _ _ (by omega)]
    refine h.2.2.2.2 q hq (fun k hk hs => hn k (by rw [List.length_append]; show k < T.length + 1; omega) ?_)
    show (if k = T.length then m.toNat else sg k) = q
    rw [if_neg (by omega)]
    exact hs
theorem rtab_und {S W : w_S} {sg : Nat → Nat} {T : List Mac} {x : Int64} (h : rtab S sg T) (hx : ¬ fnd T x < 0) (f : fr (fun a => a = 262) S W) (w2 : sL W 262 = w_u (sL S 262) (rfn T sg x) 0) : rtab W (fun k => if k = (fnd T x).toNat then sg (T.length - 1) else sg k) (und T x) := by
  have hr := fnd_r T x
  have er : rfn T sg x = (sg (fnd T x).toNat : Int) := by unfold rfn; rw [if_neg hx]
  have hl := und_len (T := T) (x := x) hx
  rw [er] at w2
  refine ⟨by rw [hl]; have := h.1; omega, fun k hk => ?_, fun j k hj hk hjk => ?_, fun k k0 k1 => ?_, fun q hq hn => ?_⟩
  · rw [hl] at hk
    show (if k = (fnd T x).toNat then sg (T.length - 1) else sg k) < 8
    split
    · exact h.2.1 _ (by omega)
    · exact h.2.1 _ (by omega)
  · rw [hl] at hj hk
    have hjk : (if j = (fnd T x).toNat then sg (T.length - 1) else sg j) = (if k = (fnd T x).toNat then sg (T.length - 1) else sg k) := hjk
    by_cases c1 : j = (fnd T x).toNat
    · by_cases c2 : k = (fnd T x).toNat
      · omega
      · rw [if_pos c1, if_neg c2] at hjk
        have := h.2.2.1 _ _ (by omega) (by omega) hjk
        omega
    · by_cases c2 : k = (fnd T x).toNat
      · rw [if_neg c1, if_pos c2] at hjk
        have := h.2.2.1 _ _ (by omega) (by omega) hjk
        omega
      · rw [if_neg c1, if_neg c2] at hjk
        exact h.2.2.1 j k (by omega) (by omega) hjk
  · rw [hl] at k1
    have k1' : k < (T.length : Int) - 1 := by omega
    rw [mg_und hx k0 k1']
    have key : ∀ i : Int, 0 ≤ i → i < T.length → ¬ i = fnd T x → rmac W (sg i.toNat) (mg T i) ∧ mok (mg T i) := fun i i0 i1 ni => by
      have q := h.2.2.2.1 i i0 i1
      have ns : ¬ sg i.toNat = sg (fnd T x).toNat := fun z => by
        have := h.2.2.1 _ _ (by omega) (by omega) z
        omega
      exact ⟨⟨by rw [w2, w_u_ne _ _ (by omega)]; exact q.1.1, by rw [fr_gA f (by decide)]; exact q.1.2.1, by rw [fr_gA f (by decide)]; exact q.1.2.2.1, by rw [fr_gL f (by decide)]; exact q.1.2.2.2.1, by rw [fr_gL f (by decide)]; exact q.1.2.2.2.2⟩, q.2⟩
    show rmac W ((if k.toNat = (fnd T x).toNat then sg (T.length - 1) else sg k.toNat : Nat) : Int) _ ∧ _
    by_cases c : k = fnd T x
    · rw [if_pos (by omega), if_pos c]
      have := key ((T.length : Int) - 1) (by omega) (by omega) (by omega)
      rw [show ((T.length : Int) - 1).toNat = T.length - 1 by omega] at this
      exact this
    · rw [if_neg (by omega), if_neg c]
      exact key k k0 (by omega) c
  · rw [w2]
    by_cases c : q = sg (fnd T x).toNat
    · rw [c, w_u_self]
    · rw [w_u_ne _ _ (by omega)]
      refine h.2.2.2.2 q hq (fun k hk hs => ?_)
      by_cases c2 : k = (fnd T x).toNat
      · exact c (by rw [← hs, c2])
      · by_cases c3 : k = T.length - 1
        · exact hn (fnd T x).toNat (by rw [hl]; omega) (by show (if (fnd T x).toNat = (fnd T x).toNat then sg (T.length - 1) else _) = q; rw [if_pos rfl, ← c3]; exact hs)
        · exact hn k (by rw [hl]; omega) (by show (if k = (fnd T x).toNat then sg (T.length - 1) else sg k) = q; rw [if_neg c2]; exact hs)
theorem dmk_okX {X : Int → Int64} {a p q e : Int} (ha : 0 < (X a).toInt) (hx : ∀ j, q ≤ j → j < e → 0 < (X j).toInt) (h3 : dmn p q ≤ 3) (h12 : e - q ≤ 12) : mok (dmk X a p q e) := by
  refine ⟨?_, ?_, fun z => ?_, ha, fun j j0 j1 => ?_⟩
  · show (sl2 X (dmn p q).toNat p).length ≤ 3
    rw [sl2_len]
    omega
  · show (slN X (e - q).toNat q).length ≤ 12
    rw [slN_len]
    omega
  · have z : decide (0 ≤ p) = false := z
    have z : ¬ 0 ≤ p := of_decide_eq_false z
    show sl2 X (dmn p q).toNat p = []
    unfold dmn
    rw [if_pos (by omega)]
    rfl
  · have j1 : j < ((slN X (e - q).toNat q).length : Nat) := j1
    rw [slN_len] at j1
    show 0 < (lg (slN X (e - q).toNat q) j).toInt
    rw [lg_slN _ _ _ _ j0 j1]
    exact hx _ (by omega) (by omega)
theorem rtk_dmk {X : Int → Int64} {a p q e : Int} : rtk (dmk X a p q e) = if 0 ≤ p then (((dmn p q).toNat : Nat) : Int) else -1 := by
  unfold rtk
  show (if decide (0 ≤ p) = true then ((sl2 X (dmn p q).toNat p).length : Int) else -1) = _
  rw [sl2_len]
  by_cases c : 0 ≤ p
  · rw [if_pos c, if_pos (decide_eq_true c)]
  · rw [if_neg c, if_neg (by rw [decide_eq_false c]; decide)]
theorem r_def_c {sc : x_S} {d : Nat} {S : w_S} {sg : Nat → Nat} {T : List Mac} {a e : Int} (hT : tabok T) (ht : rtab S sg T) (a0 : 0 ≤ a) (a1 : a ≤ 650) (e0 : 0 ≤ e) (e1 : e ≤ 644) (hx : ∀ j, a ≤ j → j < e → 0 < (sL S 254 j).toInt) (hg : ∀ j, a ≤ j → j < e → 0 ≤ sA S 256 j ∧ sA S 256 j < 100000) (hd : 6 ≤ d) : ∀ n : Nat, (∀ (q : Int) (z : Int) (p : Int) (lv : x_L) (l0 : lv 0 = some (.ref 249)) (l1 : lv 1 = some (.int (iZ a))) (l2 : lv 2 = some (.int (iZ e))) (l3 : lv 3 = some (.int (iZ (a + 1)))) (l5 : lv 5 = some (.int (iZ q))) (l6 : lv 6 = some (.int (iZ z))) (q0 : a + 1 ≤ q) (q1 : q ≤ e) (zp : (p = -1 ∧ z = -1 ∧ q = a + 1) ∨ (p = a + 2 ∧ z = dmn p q ∧ a + 3 ≤ q)) (z1 : z ≤ 400) (ie : (dfa T (sL S 254) (sA S 256) a e) = if bdy (sL S 254) q e = false then (3, T) else dft T (sL S 254) a p q e) (hm : 100000 < n), w_T sc d 135 117 lv [] S (fun v S2 => v = some (.int (iZ (dfa T (sL S 254) (sA S 256) a e).1)) ∧ fr (fun a => 262 ≤ a ∧ a ≤ 266) S S2 ∧ ∃ sg2, rtab S2 sg2 (dfa T (sL S 254) (sA S 256) a e).2)) ∧ (∀ (q : Int) (z : Int) (p : Int) (g : Bool) (k : Int) (lv : x_L) (l0 : lv 0 = some (.ref 249)) (l1 : lv 1 = some (.int (iZ a))) (l2 : lv 2 = some (.int (iZ e))) (l3 : lv 3 = some (.int (iZ (a + 1)))) (l5 : lv 5 = some (.int (iZ q))) (l6 : lv 6 = some (.int (iZ z))) (l7 : lv 7 = some (.int (iZ (zB g)))) (l8 : lv 8 = some (.int (iZ k))) (q0 : a + 1 ≤ q) (q1 : q ≤ e) (zp : (p = -1 ∧ z = -1 ∧ q = a + 1) ∨ (p = a + 2 ∧ z = dmn p q ∧ a + 3 ≤ q)) (z1 : z ≤ 400) (ie : (dfa T (sL S 254) (sA S 256) a e) = if bdy (sL S 254) q e = false then (3, T) else dft T (sL S 254) a p q e) (k0 : q ≤ k) (k1 : k ≤ e) (ib : bdy (sL S 254) q e = (g && bd2 (sL S 254) e k)) (hm : 10000 + (e - k).toNat < n), w_T sc d 135 163 lv [] S (fun v S2 => v = some (.int (iZ (dfa T (sL S 254) (sA S 256) a e).1)) ∧ fr (fun a => 262 ≤ a ∧ a ≤ 266) S S2 ∧ ∃ sg2, rtab S2 sg2 (dfa T (sL S 254) (sA S 256) a e).2)) ∧ (∀ (q : Int) (z : Int) (p : Int) (i : Int) (lv : x_L) (l0 : lv 0 = some (.ref 249)) (l1 : lv 1 = some (.int (iZ a))) (l2 : lv 2 = some (.int (iZ e))) (l3 : lv 3 = some (.int (iZ (a + 1)))) (l5 : lv 5 = some (.int (iZ q))) (l6 : lv 6 = some (.int (iZ z))) (l8 : lv 8 = some (.int (iZ i))) (q0 : a + 1 ≤ q) (q1 : q ≤ e) (zp : (p = -1 ∧ z = -1 ∧ q = a + 1) ∨ (p = a + 2 ∧ z = dmn p q ∧ a + 3 ≤ q)) (z1 : z ≤ 400) (ie : (dfa T (sL S 254) (sA S 256) a e) = if bdy (sL S 254) q e = false then (3, T) else dft T (sL S 254) a p q e) (hb : bdy (sL S 254) q e = true) (hf0 : fnd T (sL S 254 a) < 0) (h00 : ¬ (3 < dmn p q ∨ 12 < e - q ∨ (8 : Int) ≤ T.length)) (i0 : 0 ≤ i) (i1 : i ≤ 7) (iz : ∀ j : Int, 0 ≤ j → j < i → ¬ sL S 262 j = 0) (hm : 5000 + (8 - i).toNat < n), w_T sc d 135 272 lv [] S (fun v S2 => v = some (.int (iZ (dfa T (sL S 254) (sA S 256) a e).1)) ∧ fr (fun a => 262 ≤ a ∧ a ≤ 266) S S2 ∧ ∃ sg2, rtab S2 sg2 (dfa T (sL S 254) (sA S 256) a e).2)) ∧ (∀ (q : Int) (z : Int) (p : Int) (i : Int) (lv : x_L) (l0 : lv 0 = some (.ref 249)) (l1 : lv 1 = some (.int (iZ a))) (l2 : lv 2 = some (.int (iZ e))) (l3 : lv 3 = some (.int (iZ (a + 1)))) (l5 : lv 5 = some (.int (iZ q))) (l6 : lv 6 = some (.int (iZ z))) (l8 : lv 8 = some (.int (iZ i))) (q0 : a + 1 ≤ q) (q1 : q ≤ e) (zp : (p = -1 ∧ z = -1 ∧ q = a + 1) ∨ (p = a + 2 ∧ z = dmn p q ∧ a + 3 ≤ q)) (z1 : z ≤ 400) (ie : (dfa T (sL S 254) (sA S 256) a e) = if bdy (sL S 254) q e = false then (3, T) else dft T (sL S 254) a p q e) (hb : bdy (sL S 254) q e = true) (hf0 : fnd T (sL S 254 a) < 0) (h00 : ¬ (3 < dmn p q ∨ 12 < e - q ∨ (8 : Int) ≤ T.length)) (i0 : 0 ≤ i) (i1 : i ≤ 7) (iz : sL S 262 i = 0) (hm : 4000 < n), w_T sc d 135 297 lv [] S (fun v S2 => v = some (.int (iZ (dfa T (sL S 254) (sA S 256) a e).1)) ∧ fr (fun a => 262 ≤ a ∧ a ≤ 266) S S2 ∧ ∃ sg2, rtab S2 sg2 (dfa T (sL S 254) (sA S 256) a e).2)) ∧ (∀ (q : Int) (z : Int) (p : Int) (i : Int) (j : Int) (U : w_S) (lv : x_L) (l0 : lv 0 = some (.ref 249)) (l1 : lv 1 = some (.int (iZ a))) (l2 : lv 2 = some (.int (iZ e))) (l3 : lv 3 = some (.int (iZ (a + 1)))) (l5 : lv 5 = some (.int (iZ q))) (l6 : lv 6 = some (.int (iZ z))) (l8 : lv 8 = some (.int (iZ i))) (l9 : lv 9 = some (.int (iZ j))) (q0 : a + 1 ≤ q) (q1 : q ≤ e) (zp : (p = -1 ∧ z = -1 ∧ q = a + 1) ∨ (p = a + 2 ∧ z = dmn p q ∧ a + 3 ≤ q)) (z1 : z ≤ 400) (ie : (dfa T (sL S 254) (sA S 256) a e) = if bdy (sL S 254) q e = false then (3, T) else dft T (sL S 254) a p q e) (hb : bdy (sL S 254) q e = true) (hf0 : fnd T (sL S 254 a) < 0) (h00 : ¬ (3 < dmn p q ∨ 12 < e - q ∨ (8 : Int) ≤ T.length)) (i0 : 0 ≤ i) (i1 : i ≤ 7) (iz : sL S 262 i = 0) (j0 : 0 ≤ j) (j1 : j ≤ z ∨ j = 0) (hfr : fr (fun a => 262 ≤ a ∧ a ≤ 266) S U) (u2 : sL U 262 = w_u (sL S 262) i (sL S 254 a)) (u3 : sA U 263 = w_u (sA S 263) i z) (u6 : sA U 266 = w_u (sA S 266) i (e - q)) (u5 : sL U 265 = sL S 265) (u4 : ∀ x, sL U 264 x = if 3 * i ≤ x ∧ x < 3 * i + j then sL S 254 (p + 2 * (x - 3 * i)) else sL S 264 x) (hm : 1000 + (z - j).toNat < n), w_T sc d 135 333 lv [] U (fun v S2 => v = some (.int (iZ (dfa T (sL S 254) (sA S 256) a e).1)) ∧ fr (fun a => 262 ≤ a ∧ a ≤ 266) S S2 ∧ ∃ sg2, rtab S2 sg2 (dfa T (sL S 254) (sA S 256) a e).2)) ∧ (∀ (q : Int) (z : Int) (p : Int) (i : Int) (j : Int) (U : w_S) (lv : x_L) (l0 : lv 0 = some (.ref 249)) (l1 : lv 1 = some (.int (iZ a))) (l2 : lv 2 = some (.int (iZ e))) (l3 : lv 3 = some (.int (iZ (a + 1)))) (l5 : lv 5 = some (.int (iZ q))) (l6 : lv 6 = some (.int (iZ z))) (l8 : lv 8 = some (.int (iZ i))) (l9 : lv 9 = some (.int (iZ j))) (q0 : a + 1 ≤ q) (q1 : q ≤ e) (zp : (p = -1 ∧ z = -1 ∧ q = a + 1) ∨ (p = a + 2 ∧ z = dmn p q ∧ a + 3 ≤ q)) (z1 : z ≤ 400) (ie : (dfa T (sL S 254) (sA S 256) a e) = if bdy (sL S 254) q e = false then (3, T) else dft T (sL S 254) a p q e) (hb : bdy (sL S 254) q e = true) (hf0 : fnd T (sL S 254 a) < 0) (h00 : ¬ (3 < dmn p q ∨ 12 < e - q ∨ (8 : Int) ≤ T.length)) (i0 : 0 ≤ i) (i1 : i ≤ 7) (iz : sL S 262 i = 0) (j0 : q ≤ j) (j1 : j ≤ e) (hfr : fr (fun a => 262 ≤ a ∧ a ≤ 266) S U) (u2 : sL U 262 = w_u (sL S 262) i (sL S 254 a)) (u3 : sA U 263 = w_u (sA S 263) i z) (u6 : sA U 266 = w_u (sA S 266) i (e - q)) (u4 : ∀ x, sL U 264 x = if 3 * i ≤ x ∧ x < 3 * i + z then sL S 254 (p + 2 * (x - 3 * i)) else sL S 264 x) (u5 : ∀ x, sL U 265 x = if 12 * i ≤ x ∧ x < 12 * i + (j - q) then sL S 254 (x - 12 * i + q) else sL S 265 x) (hm : (e - j).toNat < n), w_T sc d 135 375 lv [] U (fun v S2 => v = some (.int (iZ (dfa T (sL S 254) (sA S 256) a e).1)) ∧ fr (fun a => 262 ≤ a ∧ a ≤ 266) S S2 ∧ ∃ sg2, rtab S2 sg2 (dfa T (sL S 254) (sA S 256) a e).2)) := by
  intro n
  induction n with
  | zero => exact ⟨fun q z p lv l0 l1 l2 l3 l5 l6 q0 q1 zp z1 ie hm => absurd hm (Nat.not_lt_zero _), fun q z p g k lv l0 l1 l2 l3 l5 l6 l7 l8 q0 q1 zp z1 ie k0 k1 ib hm => absurd hm (Nat.not_lt_zero _), fun q z p i lv l0 l1 l2 l3 l5 l6 l8 q0 q1 zp z1 ie hb hf0 h00 i0 i1 iz hm => absurd hm (Nat.not_lt_zero _), fun q z p i lv l0 l1 l2 l3 l5 l6 l8 q0 q1 zp z1 ie hb hf0 h00 i0 i1 iz hm => absurd hm (Nat.not_lt_zero _), fun q z p i j U lv l0 l1 l2 l3 l5 l6 l8 l9 q0 q1 zp z1 ie hb hf0 h00 i0 i1 iz j0 j1 hfr u2 u3 u6 u5 u4 hm => absurd hm (Nat.not_lt_zero _), fun q z p i j U lv l0 l1 l2 l3 l5 l6 l8 l9 q0 q1 zp z1 ie hb hf0 h00 i0 i1 iz j0 j1 hfr u2 u3 u6 u4 u5 hm => absurd hm (Nat.not_lt_zero _)⟩
  | succ n ih =>
    refine ⟨?_, ?_, ?_, ?_, ?_, ?_⟩
    · skip
      intro q z p lv l0 l1 l2 l3 l5 l6 q0 q1 zp z1 ie hm
      have hfr0 := fnd_r T (sL S 254 a)
      have hrf := rfn_r ht (sL S 254 a)
      have h8 := ht.1
      have hz0 : -1 ≤ z ∧ z ≤ 400 := by
        rcases zp with h | h
        · omega
        · refine ⟨?_, z1⟩
          rw [h.2.1]
          unfold dmn
          split <;> omega
      have hdz : dmn p q = if z < 0 then 0 else z := by
        rcases zp with h | h
        · rw [h.1, h.2.1]
          rfl
        · have : 0 ≤ dmn p q := by
            unfold dmn
            split <;> omega
          rw [if_neg (by omega), h.2.1]
      have hd2 : 0 ≤ p → p + 2 * z ≤ q := by
        intro hp
        rcases zp with h | h
        · omega
        · rw [h.2.1]
          unfold dmn
          rw [if_neg (by omega)]
          omega
      refine w_iload rfl l5 rfl ?_
      refine w_iload_n rfl l2 rfl ?_
      refine w_ic_eq (pc2 := 152) (pc3 := 123) rfl (by decide) rfl ⟨by omega, by omega⟩ ⟨by omega, by omega⟩ (fun c120 => ?_) (fun c120 => ?_)
      · skip
        refine w_iconst rfl rfl ?_
        refine w_goto (pc2 := 157) rfl (by decide) ?_
        refine w_istore rfl (by decide) rfl ?_
        refine w_iload rfl l5 rfl ?_
        refine w_istore rfl (by decide) rfl ?_
        exact ih.2.1 q z p true q _ (by exact l0) (by exact l1) (by exact l2) (by exact l3) (by exact l5) (by exact (congrArg x_k2 l6)) (by exact rfl) (by exact rfl) (by omega) (by omega) (by exact zp) (by exact z1) (by exact ie) (by omega) (by omega) (by rw [bdy_2 q1]; first | (rw [decide_eq_true (Or.inl c120)]) | (rw [decide_eq_false (fun h => h.elim c120 (fun h => h.1 c134))]; done) | (rw [decide_eq_false (fun h => h.elim c120 (fun h => h.2 c149))]; done) | (rw [decide_eq_true (Or.inr ⟨c134, c149⟩)])) (by omega)
      · skip
        refine w_aload_n rfl l0 rfl ?_
        refine w_getR rfl rfl sh_249 rfl rfl ?_
        refine w_iload rfl l5 rfl ?_
        refine w_lald (z := sL S 254 q) rfl sh_254 (by omega) (by omega) (by decide) rfl rfl ?_
        refine w_ldc2 (v := 4515) rfl rfl rfl ?_
        refine w_l_eq (pc2 := 156) (pc3 := 137) rfl rfl (by decide) rfl (fun c134 => ?_) (fun c134 => ?_)
        · skip
          refine w_iconst rfl rfl ?_
          refine w_istore rfl (by decide) rfl ?_
          refine w_iload rfl l5 rfl ?_
          refine w_istore rfl (by decide) rfl ?_
          exact ih.2.1 q z p false q _ (by exact l0) (by exact l1) (by exact l2) (by exact l3) (by exact l5) (by exact (congrArg x_k2 l6)) (by exact rfl) (by exact rfl) (by omega) (by omega) (by exact zp) (by exact z1) (by exact ie) (by omega) (by omega) (by rw [bdy_2 q1]; first | (rw [decide_eq_true (Or.inl c120)]) | (rw [decide_eq_false (fun h => h.elim c120 (fun h => h.1 c134))]; done) | (rw [decide_eq_false (fun h => h.elim c120 (fun h => h.2 c149))]; done) | (rw [decide_eq_true (Or.inr ⟨c134, c149⟩)])) (by omega)
        · skip
          refine w_aload_n rfl l0 rfl ?_
          refine w_getR rfl rfl sh_249 rfl rfl ?_
          refine w_iload_n rfl l2 rfl ?_
          refine w_iconst rfl rfl ?_
          refine w_isub rfl rfl ?_
          refine w_lald (z := sL S 254 (e - 1)) rfl sh_254 (by omega) (by omega) (by decide) rfl rfl ?_
          refine w_ldc2 (v := 4515) rfl rfl rfl ?_
          refine w_l_eq (pc2 := 156) (pc3 := 152) rfl rfl (by decide) rfl (fun c149 => ?_) (fun c149 => ?_)
          · skip
            refine w_iconst rfl rfl ?_
            refine w_istore rfl (by decide) rfl ?_
            refine w_iload rfl l5 rfl ?_
            refine w_istore rfl (by decide) rfl ?_
            exact ih.2.1 q z p false q _ (by exact l0) (by exact l1) (by exact l2) (by exact l3) (by exact l5) (by exact (congrArg x_k2 l6)) (by exact rfl) (by exact rfl) (by omega) (by omega) (by exact zp) (by exact z1) (by exact ie) (by omega) (by omega) (by rw [bdy_2 q1]; first | (rw [decide_eq_true (Or.inl c120)]) | (rw [decide_eq_false (fun h => h.elim c120 (fun h => h.1 c134))]; done) | (rw [decide_eq_false (fun h => h.elim c120 (fun h => h.2 c149))]; done) | (rw [decide_eq_true (Or.inr ⟨c134, c149⟩)])) (by omega)
          · skip
            refine w_iconst rfl rfl ?_
            refine w_goto (pc2 := 157) rfl (by decide) ?_
            refine w_istore rfl (by decide) rfl ?_
            refine w_iload rfl l5 rfl ?_
            refine w_istore rfl (by decide) rfl ?_
            exact ih.2.1 q z p true q _ (by exact l0) (by exact l1) (by exact l2) (by exact l3) (by exact l5) (by exact (congrArg x_k2 l6)) (by exact rfl) (by exact rfl) (by omega) (by omega) (by exact zp) (by exact z1) (by exact ie) (by omega) (by omega) (by rw [bdy_2 q1]; first | (rw [decide_eq_true (Or.inl c120)]) | (rw [decide_eq_false (fun h => h.elim c120 (fun h => h.1 c134))]; done) | (rw [decide_eq_false (fun h => h.elim c120 (fun h => h.2 c149))]; done) | (rw [decide_eq_true (Or.inr ⟨c134, c149⟩)])) (by omega)
    · skip
      intro q z p g k lv l0 l1 l2 l3 l5 l6 l7 l8 q0 q1 zp z1 ie k0 k1 ib hm
      have hfr0 := fnd_r T (sL S 254 a)
      have hrf := rfn_r ht (sL S 254 a)
      have h8 := ht.1
      have hz0 : -1 ≤ z ∧ z ≤ 400 := by
        rcases zp with h | h
        · omega
        · refine ⟨?_, z1⟩
          rw [h.2.1]
          unfold dmn
          split <;> omega
      have hdz : dmn p q = if z < 0 then 0 else z := by
        rcases zp with h | h
        · rw [h.1, h.2.1]
          rfl
        · have : 0 ≤ dmn p q := by
            unfold dmn
            split <;> omega
          rw [if_neg (by omega), h.2.1]
      have hd2 : 0 ≤ p → p + 2 * z ≤ q := by
        intro hp
        rcases zp with h | h
        · omega
        · rw [h.2.1]
          unfold dmn
          rw [if_neg (by omega)]
          omega
      refine w_iload rfl l8 rfl ?_
      refine w_iconst rfl rfl ?_
      refine w_iadd rfl rfl ?_
      refine w_iload_n rfl l2 rfl ?_
      refine w_ic_ge (pc2 := 219) (pc3 := 171) rfl (by decide) rfl ⟨by omega, by omega⟩ ⟨by omega, by omega⟩ (fun c168 => ?_) (fun c168 => ?_)
      · skip
        refine w_iload rfl l7 rfl ?_
        refine w_b_ne (pc2 := 226) (pc3 := 224) rfl (by decide) rfl (fun c221 => ?_) (fun c221 => ?_)
        · skip
          refine w_aload_n rfl l0 rfl ?_
          refine w_aload_n rfl l0 rfl ?_
          refine w_getR rfl rfl sh_249 rfl rfl ?_
          refine w_iload_n rfl l1 rfl ?_
          refine w_lald (z := sL S 254 a) rfl sh_254 (by omega) (by omega) (by decide) rfl rfl ?_
          refine w_CV (as := [.long (sL S 254 a)]) (r := []) rfl rfl rfl rfl sh_249 (Nat.le_of_ble_eq_true rfl) (Nat.le_of_ble_eq_true rfl) (by omega) rfl (r_find (x := sL S 254 a) hT ht (fun z => by have := hx a (Int.le_refl _) (by omega); rw [z] at this; exact absurd this (by decide)) (by omega)) ?_
          rintro _ _ ⟨rfl, hS⟩
          rw [hS]
          show w_T _ _ 135 236 _ [.int (iZ (rfn T sg (sL S 254 a)))] _ _
          refine w_if_lt (pc2 := 242) (pc3 := 239) rfl (by decide) rfl ⟨by omega, by omega⟩ (fun c236 => ?_) (fun c236 => ?_)
          · skip
            refine w_iload rfl l6 rfl ?_
            refine w_iconst rfl rfl ?_
            refine w_ic_gt (pc2 := 266) (pc3 := 248) rfl (by decide) rfl ⟨by omega, by omega⟩ ⟨by decide, by decide⟩ (fun c245 => ?_) (fun c245 => ?_)
            · skip
              refine w_bipush rfl (by decide) rfl ?_
              refine w_iret rfl rfl ?_
              have ib : bdy (sL S 254) q e = true := by
                rw [ib, c221, bd2_end (by omega)]
                rfl
              have hq : fnd T (sL S 254 a) < 0 := by
                by_cases hq : fnd T (sL S 254 a) < 0
                · exact hq
                · have : rfn T sg (sL S 254 a) = (sg (fnd T (sL S 254 a)).toNat : Int) := by unfold rfn; rw [if_neg hq]
                  omega
              rw [ie, if_neg (by rw [ib]; decide)]
              unfold dft
              rw [if_neg (by omega), if_pos (by rw [hdz]; split <;> omega)]
              exact ⟨rfl, fr_refl _ _, sg, ht⟩
            · skip
              refine w_iload_n rfl l2 rfl ?_
              refine w_iload rfl l5 rfl ?_
              refine w_isub rfl rfl ?_
              refine w_bipush rfl (by decide) rfl ?_
              refine w_ic_gt (pc2 := 266) (pc3 := 257) rfl (by decide) rfl ⟨by omega, by omega⟩ ⟨by decide, by decide⟩ (fun c254 => ?_) (fun c254 => ?_)
              · skip
                refine w_bipush rfl (by decide) rfl ?_
                refine w_iret rfl rfl ?_
                have ib : bdy (sL S 254) q e = true := by
                  rw [ib, c221, bd2_end (by omega)]
                  rfl
                have hq : fnd T (sL S 254 a) < 0 := by
                  by_cases hq : fnd T (sL S 254 a) < 0
                  · exact hq
                  · have : rfn T sg (sL S 254 a) = (sg (fnd T (sL S 254 a)).toNat : Int) := by unfold rfn; rw [if_neg hq]
                    omega
                rw [ie, if_neg (by rw [ib]; decide)]
                unfold dft
                rw [if_neg (by omega), if_pos (by rw [hdz]; split <;> omega)]
                exact ⟨rfl, fr_refl _ _, sg, ht⟩
              · skip
                refine w_aload_n rfl l0 rfl ?_
                refine w_CV (as := []) (r := []) rfl rfl rfl rfl sh_249 (Nat.le_of_ble_eq_true rfl) (Nat.le_of_ble_eq_true rfl) (by omega) rfl (r_mcs hT ht (by omega)) ?_
                rintro _ _ ⟨rfl, hS⟩
                rw [hS]
                show w_T _ _ 135 261 _ [.int (iZ ((T.length : Int)))] _ _
                refine w_bipush rfl (by decide) rfl ?_
                refine w_ic_ne (pc2 := 269) (pc3 := 266) rfl (by decide) rfl ⟨by omega, by omega⟩ ⟨by decide, by decide⟩ (fun c263 => ?_) (fun c263 => ?_)
                · skip
                  refine w_iconst rfl rfl ?_
                  refine w_istore rfl (by decide) rfl ?_
                  exact ih.2.2.1 q z p 0 _ l0 l1 l2 l3 l5 l6 rfl (by omega) (by omega) (by exact zp) (by exact z1) (by exact ie) (by rw [ib, c221, bd2_end (by omega)]; rfl) (by (by_cases hq : fnd T (sL S 254 a) < 0; exact hq; exfalso; have : rfn T sg (sL S 254 a) = (sg (fnd T (sL S 254 a)).toNat : Int) := (by unfold rfn; rw [if_neg hq]); omega)) (by rw [hdz]; split <;> omega) (by omega) (by omega) (by intro j j0 j1; omega) (by omega)
                · skip
                  refine w_bipush rfl (by decide) rfl ?_
                  refine w_iret rfl rfl ?_
                  have ib : bdy (sL S 254) q e = true := by
                    rw [ib, c221, bd2_end (by omega)]
                    rfl
                  have hq : fnd T (sL S 254 a) < 0 := by
                    by_cases hq : fnd T (sL S 254 a) < 0
                    · exact hq
                    · have : rfn T sg (sL S 254 a) = (sg (fnd T (sL S 254 a)).toNat : Int) := by unfold rfn; rw [if_neg hq]
                      omega
                  rw [ie, if_neg (by rw [ib]; decide)]
                  unfold dft
                  rw [if_neg (by omega), if_pos (by rw [hdz]; split <;> omega)]
                  exact ⟨rfl, fr_refl _ _, sg, ht⟩
          · skip
            refine w_bipush rfl (by decide) rfl ?_
            refine w_iret rfl rfl ?_
            have ib : bdy (sL S 254) q e = true := by
              rw [ib, c221, bd2_end (by omega)]
              rfl
            have hq : 0 ≤ fnd T (sL S 254 a) := by
              by_cases hq : fnd T (sL S 254 a) < 0
              · have : rfn T sg (sL S 254 a) = -1 := by unfold rfn; rw [if_pos hq]
                omega
              · omega
            rw [ie, if_neg (by rw [ib]; decide)]
            unfold dft
            rw [if_pos hq]
            exact ⟨rfl, fr_refl _ _, sg, ht⟩
        · skip
          refine w_iconst rfl rfl ?_
          refine w_iret rfl rfl ?_
          have ib2 : bdy (sL S 254) q e = false := by
            rw [ib, c221]
            rfl
          rw [ie, if_pos ib2]
          exact ⟨rfl, fr_refl _ _, sg, ht⟩
      · skip
        refine w_iload rfl l7 rfl ?_
        refine w_b_eq (pc2 := 210) (pc3 := 176) rfl (by decide) rfl (fun c173 => ?_) (fun c173 => ?_)
        · skip
          refine w_iconst rfl rfl ?_
          refine w_istore rfl (by decide) rfl ?_
          refine w_iinc rfl l8 (by decide) rfl ?_
          refine w_goto (pc2 := 163) rfl (by decide) ?_
          exact ih.2.1 q z p false (k + 1) _ (by exact l0) (by exact l1) (by exact l2) (by exact l3) (by exact l5) (by exact (congrArg x_k2 l6)) (by exact rfl) (by exact rfl) (by omega) (by omega) (by exact zp) (by exact z1) (by exact ie) (by omega) (by omega) (by rw [ib]; first | (rw [c173]; rfl) | (rw [c173, bd2_t (by omega) ⟨c187, c203⟩]; rfl) | (rw [c173, bd2_n (by omega) (fun h => c187 h.1)]) | (rw [c173, bd2_n (by omega) (fun h => c203 h.2)])) (by omega)
        · skip
          refine w_aload_n rfl l0 rfl ?_
          refine w_getR rfl rfl sh_249 rfl rfl ?_
          refine w_iload rfl l8 rfl ?_
          refine w_lald (z := sL S 254 k) rfl sh_254 (by omega) (by omega) (by decide) rfl rfl ?_
          refine w_ldc2 (v := 4515) rfl rfl rfl ?_
          refine w_l_ne (pc2 := 206) (pc3 := 190) rfl rfl (by decide) rfl (fun c187 => ?_) (fun c187 => ?_)
          · skip
            refine w_iconst rfl rfl ?_
            refine w_goto (pc2 := 211) rfl (by decide) ?_
            refine w_istore rfl (by decide) rfl ?_
            refine w_iinc rfl l8 (by decide) rfl ?_
            refine w_goto (pc2 := 163) rfl (by decide) ?_
            exact ih.2.1 q z p true (k + 1) _ (by exact l0) (by exact l1) (by exact l2) (by exact l3) (by exact l5) (by exact (congrArg x_k2 l6)) (by exact rfl) (by exact rfl) (by omega) (by omega) (by exact zp) (by exact z1) (by exact ie) (by omega) (by omega) (by rw [ib]; first | (rw [c173]; rfl) | (rw [c173, bd2_t (by omega) ⟨c187, c203⟩]; rfl) | (rw [c173, bd2_n (by omega) (fun h => c187 h.1)]) | (rw [c173, bd2_n (by omega) (fun h => c203 h.2)])) (by omega)
          · skip
            refine w_aload_n rfl l0 rfl ?_
            refine w_getR rfl rfl sh_249 rfl rfl ?_
            refine w_iload rfl l8 rfl ?_
            refine w_iconst rfl rfl ?_
            refine w_iadd rfl rfl ?_
            refine w_lald (z := sL S 254 (k + 1)) rfl sh_254 (by omega) (by omega) (by decide) rfl rfl ?_
            refine w_ldc2 (v := 4515) rfl rfl rfl ?_
            refine w_l_eq (pc2 := 210) (pc3 := 206) rfl rfl (by decide) rfl (fun c203 => ?_) (fun c203 => ?_)
            · skip
              refine w_iconst rfl rfl ?_
              refine w_istore rfl (by decide) rfl ?_
              refine w_iinc rfl l8 (by decide) rfl ?_
              refine w_goto (pc2 := 163) rfl (by decide) ?_
              exact ih.2.1 q z p false (k + 1) _ (by exact l0) (by exact l1) (by exact l2) (by exact l3) (by exact l5) (by exact (congrArg x_k2 l6)) (by exact rfl) (by exact rfl) (by omega) (by omega) (by exact zp) (by exact z1) (by exact ie) (by omega) (by omega) (by rw [ib]; first | (rw [c173]; rfl) | (rw [c173, bd2_t (by omega) ⟨c187, c203⟩]; rfl) | (rw [c173, bd2_n (by omega) (fun h => c187 h.1)]) | (rw [c173, bd2_n (by omega) (fun h => c203 h.2)])) (by omega)
            · skip
              refine w_iconst rfl rfl ?_
              refine w_goto (pc2 := 211) rfl (by decide) ?_
              refine w_istore rfl (by decide) rfl ?_
              refine w_iinc rfl l8 (by decide) rfl ?_
              refine w_goto (pc2 := 163) rfl (by decide) ?_
              exact ih.2.1 q z p true (k + 1) _ (by exact l0) (by exact l1) (by exact l2) (by exact l3) (by exact l5) (by exact (congrArg x_k2 l6)) (by exact rfl) (by exact rfl) (by omega) (by omega) (by exact zp) (by exact z1) (by exact ie) (by omega) (by omega) (by rw [ib]; first | (rw [c173]; rfl) | (rw [c173, bd2_t (by omega) ⟨c187, c203⟩]; rfl) | (rw [c173, bd2_n (by omega) (fun h => c187 h.1)]) | (rw [c173, bd2_n (by omega) (fun h => c203 h.2)])) (by omega)
    · skip
      intro q z p i lv l0 l1 l2 l3 l5 l6 l8 q0 q1 zp z1 ie hb hf0 h00 i0 i1 iz hm
      have hfr0 := fnd_r T (sL S 254 a)
      have hrf := rfn_r ht (sL S 254 a)
      have h8 := ht.1
      have hz0 : -1 ≤ z ∧ z ≤ 400 := by
        rcases zp with h | h
        · omega
        · refine ⟨?_, z1⟩
          rw [h.2.1]
          unfold dmn
          split <;> omega
      have hdz : dmn p q = if z < 0 then 0 else z := by
        rcases zp with h | h
        · rw [h.1, h.2.1]
          rfl
        · have : 0 ≤ dmn p q := by
            unfold dmn
            split <;> omega
          rw [if_neg (by omega), h.2.1]
      have hd2 : 0 ≤ p → p + 2 * z ≤ q := by
        intro hp
        rcases zp with h | h
        · omega
        · rw [h.2.1]
          unfold dmn
          rw [if_neg (by omega)]
          omega
      refine w_iload rfl l8 rfl ?_
      refine w_bipush rfl (by decide) rfl ?_
      refine w_ic_ge (pc2 := 297) (pc3 := 279) rfl (by decide) rfl ⟨by omega, by omega⟩ ⟨by decide, by decide⟩ (fun c276 => ?_) (fun c276 => ?_)
      · skip
        exact ih.2.2.2.1 q z p i _ l0 l1 l2 l3 l5 l6 l8 (by omega) (by omega) (by exact zp) (by exact z1) (by exact ie) (by exact hb) (by exact hf0) (by exact h00) (by omega) (by omega) (by first | exact c288 | (rw [show i = 7 by omega]; exact rtab_free hT ht (by omega) (fun j j0 j1 => iz j j0 (by omega)))) (by omega)
      · skip
        refine w_aload_n rfl l0 rfl ?_
        refine w_getR rfl rfl sh_249 rfl rfl ?_
        refine w_iload rfl l8 rfl ?_
        refine w_lald (z := sL S 262 i) rfl sh_262 (by omega) (by omega) (by decide) rfl rfl ?_
        refine w_lconst (v := 0) rfl (by decide) rfl ?_
        refine w_l_eq (pc2 := 297) (pc3 := 291) rfl rfl (by decide) rfl (fun c288 => ?_) (fun c288 => ?_)
        · skip
          exact ih.2.2.2.1 q z p i _ l0 l1 l2 l3 l5 l6 l8 (by omega) (by omega) (by exact zp) (by exact z1) (by exact ie) (by exact hb) (by exact hf0) (by exact h00) (by omega) (by omega) (by first | exact c288 | (rw [show i = 7 by omega]; exact rtab_free hT ht (by omega) (fun j j0 j1 => iz j j0 (by omega)))) (by omega)
        · skip
          refine w_iinc rfl l8 (by decide) rfl ?_
          refine w_goto (pc2 := 272) rfl (by decide) ?_
          exact ih.2.2.1 q z p (i + 1) _ l0 l1 l2 l3 l5 l6 rfl (by omega) (by omega) (by exact zp) (by exact z1) (by exact ie) (by exact hb) (by exact hf0) (by exact h00) (by omega) (by omega) (by intro j j0 j1; by_cases hj : j = i; (rw [hj]; exact c288); (exact iz j j0 (by omega))) (by omega)
    · skip
      intro q z p i lv l0 l1 l2 l3 l5 l6 l8 q0 q1 zp z1 ie hb hf0 h00 i0 i1 iz hm
      have hfr0 := fnd_r T (sL S 254 a)
      have hrf := rfn_r ht (sL S 254 a)
      have h8 := ht.1
      have hz0 : -1 ≤ z ∧ z ≤ 400 := by
        rcases zp with h | h
        · omega
        · refine ⟨?_, z1⟩
          rw [h.2.1]
          unfold dmn
          split <;> omega
      have hdz : dmn p q = if z < 0 then 0 else z := by
        rcases zp with h | h
        · rw [h.1, h.2.1]
          rfl
        · have : 0 ≤ dmn p q := by
            unfold dmn
            split <;> omega
          rw [if_neg (by omega), h.2.1]
      have hd2 : 0 ≤ p → p + 2 * z ≤ q := by
        intro hp
        rcases zp with h | h
        · omega
        · rw [h.2.1]
          unfold dmn
          rw [if_neg (by omega)]
          omega
      refine w_aload_n rfl l0 rfl ?_
      refine w_getR rfl rfl sh_249 rfl rfl ?_
      refine w_iload rfl l8 rfl ?_
      refine w_aload_n rfl l0 rfl ?_
      refine w_getR rfl rfl sh_249 rfl rfl ?_
      refine w_iload_n rfl l1 rfl ?_
      refine w_lald (z := sL S 254 a) rfl sh_254 (by omega) (by omega) (by decide) rfl rfl ?_
      refine w_laS (f := sL S 262) rfl sh_262 (by omega) (by omega) (by decide) rfl rfl ?_
      refine w_aload_n rfl l0 rfl ?_
      refine w_getR rfl rfl sh_249 rfl rfl ?_
      refine w_iload rfl l8 rfl ?_
      refine w_iload rfl l6 rfl ?_
      refine w_iaS (f := sA S 263) rfl sh_263 (by omega) (by omega) (by decide) rfl rfl ?_
      refine w_aload_n rfl l0 rfl ?_
      refine w_getR rfl rfl sh_249 rfl rfl ?_
      refine w_iload rfl l8 rfl ?_
      refine w_iload_n rfl l2 rfl ?_
      refine w_iload rfl l5 rfl ?_
      refine w_isub rfl rfl ?_
      refine w_iaS (f := sA S 266) rfl sh_266 (by omega) (by omega) (by decide) (rA_ne (by decide)) rfl ?_
      refine w_iconst rfl rfl ?_
      refine w_istore rfl (by decide) rfl ?_
      exact ih.2.2.2.2.1 q z p i 0 _ _ (by exact l0) (by exact l1) (by exact l2) (by exact l3) (by exact l5) (by exact l6) (by exact (congrArg x_k2 l8)) (by exact rfl) (by omega) (by omega) (by exact zp) (by exact z1) (by exact ie) (by exact hb) (by exact hf0) (by exact h00) (by omega) (by omega) (by exact iz) (by omega) (by omega) (by exact (fr_A (fr_A (fr_L (fr_refl _ _) (by omega)) (by omega)) (by omega))) (by rfl) (by rfl) (by rfl) (by rfl) (by intro x; rw [if_neg (by omega)]; rfl) (by omega)
    · skip
      intro q z p i j U lv l0 l1 l2 l3 l5 l6 l8 l9 q0 q1 zp z1 ie hb hf0 h00 i0 i1 iz j0 j1 hfr u2 u3 u6 u5 u4 hm
      have hfr0 := fnd_r T (sL S 254 a)
      have hrf := rfn_r ht (sL S 254 a)
      have h8 := ht.1
      have hz0 : -1 ≤ z ∧ z ≤ 400 := by
        rcases zp with h | h
        · omega
        · refine ⟨?_, z1⟩
          rw [h.2.1]
          unfold dmn
          split <;> omega
      have hdz : dmn p q = if z < 0 then 0 else z := by
        rcases zp with h | h
        · rw [h.1, h.2.1]
          rfl
        · have : 0 ≤ dmn p q := by
            unfold dmn
            split <;> omega
          rw [if_neg (by omega), h.2.1]
      have hd2 : 0 ≤ p → p + 2 * z ≤ q := by
        intro hp
        rcases zp with h | h
        · omega
        · rw [h.2.1]
          unfold dmn
          rw [if_neg (by omega)]
          omega
      have eX : sL U 254 = sL S 254 := fr_gL hfr (by omega)
      have hz3 : z ≤ 3 := by
        rw [hdz] at h00
        split at h00 <;> omega
      refine w_iload rfl l9 rfl ?_
      refine w_iload rfl l6 rfl ?_
      refine w_ic_ge (pc2 := 371) (pc3 := 340) rfl (by decide) rfl ⟨by omega, by omega⟩ ⟨by omega, by omega⟩ (fun c337 => ?_) (fun c337 => ?_)
      · skip
        refine w_iload rfl l5 rfl ?_
        refine w_istore rfl (by decide) rfl ?_
        exact ih.2.2.2.2.2 q z p i q _ _ (by exact l0) (by exact l1) (by exact l2) (by exact l3) (by exact l5) (by exact l6) (by exact (congrArg x_k2 l8)) (by exact rfl) (by omega) (by omega) (by exact zp) (by exact z1) (by exact ie) (by exact hb) (by exact hf0) (by exact h00) (by omega) (by omega) (by exact iz) (by omega) (by omega) (by exact hfr) (by exact u2) (by exact u3) (by exact u6) (by intro x; rw [u4 x]; by_cases hk : 3 * i ≤ x ∧ x < 3 * i + j; (rw [if_pos hk, if_pos (by omega)]); (rw [if_neg hk, if_neg (by omega)])) (by intro x; rw [if_neg (by omega), u5]) (by omega)
      · skip
        refine w_aload_n rfl l0 rfl ?_
        refine w_getR rfl rfl sh_249 rfl rfl ?_
        refine w_iconst rfl rfl ?_
        refine w_iload rfl l8 rfl ?_
        refine w_imul rfl rfl ?_
        refine w_iload rfl l9 rfl ?_
        refine w_iadd rfl rfl ?_
        refine w_aload_n rfl l0 rfl ?_
        refine w_getR rfl rfl sh_249 rfl rfl ?_
        refine w_iload_n rfl l3 rfl ?_
        refine w_iconst rfl rfl ?_
        refine w_iadd rfl rfl ?_
        refine w_iconst rfl rfl ?_
        refine w_iload rfl l9 rfl ?_
        refine w_imul rfl rfl ?_
        refine w_iadd rfl rfl ?_
        refine w_lald (z := sL S 254 (a + 1 + 1 + (2 * j))) rfl sh_254 (by omega) (by omega) (by decide) (congrFun eX _) rfl ?_
        refine w_laS (f := sL U 264) rfl sh_264 (by omega) (by omega) (by decide) rfl rfl ?_
        refine w_iinc rfl l9 (by decide) rfl ?_
        refine w_goto (pc2 := 333) rfl (by decide) ?_
        exact ih.2.2.2.2.1 q z p i (j + 1) _ _ (by exact l0) (by exact l1) (by exact l2) (by exact l3) (by exact l5) (by exact l6) (by exact (congrArg x_k2 l8)) (by exact rfl) (by omega) (by omega) (by exact zp) (by exact z1) (by exact ie) (by exact hb) (by exact hf0) (by exact h00) (by omega) (by omega) (by exact iz) (by omega) (by omega) (by exact (fr_L hfr (by omega))) (by simp (disch := omega) only [rv_self, rv_ne, rl_self, rl_ne, rA_self, rA_ne, rL_self, rL_ne, rR_self, rR_ne, xvl, xvA, xvL, xvR, xlv, xlA, xlL, xlR, xAv, xAl, xAL, xAR, xLv, xLl, xLA, xLR, xRv, xRl, xRA, xRL]; exact u2) (by simp (disch := omega) only [rv_self, rv_ne, rl_self, rl_ne, rA_self, rA_ne, rL_self, rL_ne, rR_self, rR_ne, xvl, xvA, xvL, xvR, xlv, xlA, xlL, xlR, xAv, xAl, xAL, xAR, xLv, xLl, xLA, xLR, xRv, xRl, xRA, xRL]; exact u3) (by simp (disch := omega) only [rv_self, rv_ne, rl_self, rl_ne, rA_self, rA_ne, rL_self, rL_ne, rR_self, rR_ne, xvl, xvA, xvL, xvR, xlv, xlA, xlL, xlR, xAv, xAl, xAL, xAR, xLv, xLl, xLA, xLR, xRv, xRl, xRA, xRL]; exact u6) (by simp (disch := omega) only [rv_self, rv_ne, rl_self, rl_ne, rA_self, rA_ne, rL_self, rL_ne, rR_self, rR_ne, xvl, xvA, xvL, xvR, xlv, xlA, xlL, xlR, xAv, xAl, xAL, xAR, xLv, xLl, xLA, xLR, xRv, xRl, xRA, xRL]; exact u5) (by simp (disch := omega) only [rv_self, rv_ne, rl_self, rl_ne, rA_self, rA_ne, rL_self, rL_ne, rR_self, rR_ne, xvl, xvA, xvL, xvR, xlv, xlA, xlL, xlR, xAv, xAl, xAL, xAR, xLv, xLl, xLA, xLR, xRv, xRl, xRA, xRL]; intro x; by_cases hj : x = 3 * i + j; (rw [hj, w_u_self, if_pos (by omega)]; congr 1; omega); (rw [w_u_ne _ _ hj, u4 x]; by_cases hk : 3 * i ≤ x ∧ x < 3 * i + j; (rw [if_pos hk, if_pos (by omega)]); (rw [if_neg hk, if_neg (by omega)]))) (by omega)
    · skip
      intro q z p i j U lv l0 l1 l2 l3 l5 l6 l8 l9 q0 q1 zp z1 ie hb hf0 h00 i0 i1 iz j0 j1 hfr u2 u3 u6 u4 u5 hm
      have hfr0 := fnd_r T (sL S 254 a)
      have hrf := rfn_r ht (sL S 254 a)
      have h8 := ht.1
      have hz0 : -1 ≤ z ∧ z ≤ 400 := by
        rcases zp with h | h
        · omega
        · refine ⟨?_, z1⟩
          rw [h.2.1]
          unfold dmn
          split <;> omega
      have hdz : dmn p q = if z < 0 then 0 else z := by
        rcases zp with h | h
        · rw [h.1, h.2.1]
          rfl
        · have : 0 ≤ dmn p q := by
            unfold dmn
            split <;> omega
          rw [if_neg (by omega), h.2.1]
      have hd2 : 0 ≤ p → p + 2 * z ≤ q := by
        intro hp
        rcases zp with h | h
        · omega
        · rw [h.2.1]
          unfold dmn
          rw [if_neg (by omega)]
          omega
      have eX : sL U 254 = sL S 254 := fr_gL hfr (by omega)
      have hz3 : z ≤ 3 := by
        rw [hdz] at h00
        split at h00 <;> omega
      refine w_iload rfl l9 rfl ?_
      refine w_iload_n rfl l2 rfl ?_
      refine w_ic_ge (pc2 := 410) (pc3 := 381) rfl (by decide) rfl ⟨by omega, by omega⟩ ⟨by omega, by omega⟩ (fun c378 => ?_) (fun c378 => ?_)
      · skip
        refine w_iconst rfl rfl ?_
        refine w_iret rfl rfl ?_
        rw [ie, if_neg (by rw [hb]; decide)]
        unfold dft
        rw [if_neg (by omega), if_neg (by omega)]
        have hzz : z = if 0 ≤ p then (((dmn p q).toNat : Nat) : Int) else -1 := by
          rw [hdz]
          rcases zp with h | h
          · rw [h.1, h.2.1]; rfl
          · rw [if_pos (by omega)]; split <;> omega
        refine ⟨rfl, hfr, _, rtab_snoc ht hT (by omega) i0 (by omega) iz u2 (by rw [rtk_dmk, ← hzz]; exact u3) (by rw [u6]; show _ = w_u _ _ (((slN (sL S 254) (e - q).toNat q).length : Nat) : Int); rw [slN_len]; congr 1; omega) (fun x hx2 => ?_) (fun x hx2 => ?_) (fun x x0 x1 => ?_) (fun x x0 x1 => ?_) (dmk_okX (hx a (Int.le_refl _) (by omega)) (fun x x0 x1 => hx x (by omega) x1) (by omega) (by omega))⟩
        · rw [u4 x, if_neg (by omega)]
        · rw [u5 x, if_neg (by omega)]
        · have x2 : x < ((sl2 (sL S 254) (dmn p q).toNat p).length : Nat) := x1
          rw [sl2_len] at x2
          rw [u4, if_pos (by rw [hdz] at x2; split at x2 <;> omega)]
          show _ = lg (sl2 _ _ _) x
          rw [lg_sl2 _ _ _ _ x0 x2]
          congr 1
          omega
        · have x2 : x < ((slN (sL S 254) (e - q).toNat q).length : Nat) := x1
          rw [slN_len] at x2
          rw [u5, if_pos (by omega)]
          show _ = lg (slN _ _ _) x
          rw [lg_slN _ _ _ _ x0 x2]
          congr 1
          omega
      · skip
        refine w_aload_n rfl l0 rfl ?_
        refine w_getR rfl rfl sh_249 rfl rfl ?_
        refine w_bipush rfl (by decide) rfl ?_
        refine w_iload rfl l8 rfl ?_
        refine w_imul rfl rfl ?_
        refine w_iload rfl l9 rfl ?_
        refine w_iadd rfl rfl ?_
        refine w_iload rfl l5 rfl ?_
        refine w_isub rfl rfl ?_
        refine w_aload_n rfl l0 rfl ?_
        refine w_getR rfl rfl sh_249 rfl rfl ?_
        refine w_iload rfl l9 rfl ?_
        refine w_lald (z := sL S 254 j) rfl sh_254 (by omega) (by omega) (by decide) (congrFun eX _) rfl ?_
        refine w_laS (f := sL U 265) rfl sh_265 (by omega) (by omega) (by decide) rfl rfl ?_
        refine w_iinc rfl l9 (by decide) rfl ?_
        refine w_goto (pc2 := 375) rfl (by decide) ?_
        exact ih.2.2.2.2.2 q z p i (j + 1) _ _ (by exact l0) (by exact l1) (by exact l2) (by exact l3) (by exact l5) (by exact l6) (by exact (congrArg x_k2 l8)) (by exact rfl) (by omega) (by omega) (by exact zp) (by exact z1) (by exact ie) (by exact hb) (by exact hf0) (by exact h00) (by omega) (by omega) (by exact iz) (by omega) (by omega) (by exact (fr_L hfr (by omega))) (by simp (disch := omega) only [rv_self, rv_ne, rl_self, rl_ne, rA_self, rA_ne, rL_self, rL_ne, rR_self, rR_ne, xvl, xvA, xvL, xvR, xlv, xlA, xlL, xlR, xAv, xAl, xAL, xAR, xLv, xLl, xLA, xLR, xRv, xRl, xRA, xRL]; exact u2) (by simp (disch := omega) only [rv_self, rv_ne, rl_self, rl_ne, rA_self, rA_ne, rL_self, rL_ne, rR_self, rR_ne, xvl, xvA, xvL, xvR, xlv, xlA, xlL, xlR, xAv, xAl, xAL, xAR, xLv, xLl, xLA, xLR, xRv, xRl, xRA, xRL]; exact u3) (by simp (disch := omega) only [rv_self, rv_ne, rl_self, rl_ne, rA_self, rA_ne, rL_self, rL_ne, rR_self, rR_ne, xvl, xvA, xvL, xvR, xlv, xlA, xlL, xlR, xAv, xAl, xAL, xAR, xLv, xLl, xLA, xLR, xRv, xRl, xRA, xRL]; exact u6) (by simp (disch := omega) only [rv_self, rv_ne, rl_self, rl_ne, rA_self, rA_ne, rL_self, rL_ne, rR_self, rR_ne, xvl, xvA, xvL, xvR, xlv, xlA, xlL, xlR, xAv, xAl, xAL, xAR, xLv, xLl, xLA, xLR, xRv, xRl, xRA, xRL]; exact u4) (by simp (disch := omega) only [rv_self, rv_ne, rl_self, rl_ne, rA_self, rA_ne, rL_self, rL_ne, rR_self, rR_ne, xvl, xvA, xvL, xvR, xlv, xlA, xlL, xlR, xAv, xAl, xAL, xAR, xLv, xLl, xLA, xLR, xRv, xRl, xRA, xRL]; intro x; by_cases hj : x = 12 * i + j - q; (rw [hj, w_u_self, if_pos (by omega)]; congr 1; omega); (rw [w_u_ne _ _ hj, u5 x]; by_cases hk : 12 * i ≤ x ∧ x < 12 * i + (j - q); (rw [if_pos hk, if_pos (by omega)]); (rw [if_neg hk, if_neg (by omega)]))) (by omega)
theorem r_def {sc : x_S} {d : Nat} {S : w_S} {sg : Nat → Nat} {T : List Mac} {a e : Int} (hT : tabok T) (ht : rtab S sg T) (a0 : 0 ≤ a) (a1 : a ≤ 650) (e0 : 0 ≤ e) (e1 : e ≤ 644) (hx : ∀ j, a ≤ j → j < e → 0 < (sL S 254 j).toInt) (hg : ∀ j, a ≤ j → j < e → 0 ≤ sA S 256 j ∧ sA S 256 j < 100000) (hd : 6 ≤ d) : w_T sc d 135 0 (x_en 0 [.ref 249, .int (iZ a), .int (iZ e)]) [] S (fun v S2 => v = some (.int (iZ (dfa T (sL S 254) (sA S 256) a e).1)) ∧ fr (fun a => 262 ≤ a ∧ a ≤ 266) S S2 ∧ ∃ sg2, rtab S2 sg2 (dfa T (sL S 254) (sA S 256) a e).2) := by
  have hfr0 := fnd_r T (sL S 254 a)
  have hrf := rfn_r ht (sL S 254 a)
  have h8 := ht.1
  have hpr := pe_r (X := sL S 254) (a := a + 2) (e := e)
  refine w_iload_n rfl rfl rfl ?_
  refine w_iload_n rfl rfl rfl ?_
  refine w_ic_ge (pc2 := 17) (pc3 := 5) rfl (by decide) rfl ⟨by omega, by omega⟩ ⟨by omega, by omega⟩ (fun c2 => ?_) (fun c2 => ?_)
  · skip
    refine w_iconst rfl rfl ?_
    refine w_iret rfl rfl ?_
    unfold dfa
    rw [if_pos (by first | exact Or.inl (by omega) | exact Or.inr c14)]
    exact ⟨rfl, fr_refl _ _, sg, ht⟩
  · skip
    refine w_aload_n rfl rfl rfl ?_
    refine w_getR rfl rfl sh_249 rfl rfl ?_
    refine w_iload_n rfl rfl rfl ?_
    refine w_lald (z := sL S 254 a) rfl sh_254 (by omega) (by omega) (by decide) rfl rfl ?_
    refine w_CS (as := [.long (sL S 254 a)]) (r := []) rfl rfl rfl rfl (Nat.le_of_ble_eq_true rfl) (Nat.le_of_ble_eq_true rfl) (by omega) rfl (r_nam (x := sL S 254 a) (Int.le_of_lt (hx _ (by omega) (by omega))) (by omega)) ?_
    rintro _ _ ⟨rfl, hS⟩
    rw [hS]
    show w_T _ _ 135 14 _ [.int (iZ (zB (nam (sL S 254 a))))] _ _
    refine w_b_ne (pc2 := 19) (pc3 := 17) rfl (by decide) rfl (fun c14 => ?_) (fun c14 => ?_)
    · skip
      refine w_iload_n rfl rfl rfl ?_
      refine w_iconst rfl rfl ?_
      refine w_iadd rfl rfl ?_
      refine w_istore_n rfl (by decide) rfl ?_
      refine w_iload_n rfl rfl rfl ?_
      refine w_iload_n rfl rfl rfl ?_
      refine w_ic_ge (pc2 := 57) (pc3 := 28) rfl (by decide) rfl ⟨by omega, by omega⟩ ⟨by omega, by omega⟩ (fun c25 => ?_) (fun c25 => ?_)
      · skip
        refine w_iconst rfl rfl ?_
        refine w_istore rfl (by decide) rfl ?_
        refine w_iload rfl rfl rfl ?_
        refine w_if_eq (pc2 := 76) (pc3 := 65) rfl (by decide) rfl ⟨by decide, by decide⟩ (fun _ => ?_) (fun hc => absurd hc (by decide))
        refine w_iload_n rfl rfl rfl ?_
        refine w_istore rfl (by decide) rfl ?_
        refine w_iload rfl rfl rfl ?_
        refine w_if_ge (pc2 := 86) (pc3 := 84) rfl (by decide) rfl ⟨by omega, by omega⟩ (fun c81 => ?_) (fun c81 => ?_)
        · skip
          refine w_iload rfl rfl rfl ?_
          refine w_if_ne (pc2 := 95) (pc3 := 91) rfl (by decide) rfl ⟨by decide, by decide⟩ (fun hc => absurd hc (by decide)) (fun _ => ?_)
          refine w_iconst rfl rfl ?_
          refine w_goto (pc2 := 115) rfl (by decide) ?_
          refine w_istore rfl (by decide) rfl ?_
          exact (r_def_c hT ht a0 a1 e0 e1 hx hg hd _).1 (a + 1) ((-1)) ((-1)) _ rfl rfl rfl rfl rfl rfl (by omega) (by omega) (by first | exact Or.inl ⟨rfl, rfl, rfl⟩ | exact Or.inr ⟨rfl, rfl, by omega⟩ | exact Or.inr ⟨rfl, by unfold dmn; rw [if_neg (by omega)]; omega, by omega⟩) (by first | omega | (unfold dmn; split <;> omega)) (by unfold dfa; rw [if_neg (by rw [c14]; simp; omega)]; first | (rw [if_pos ⟨by omega, c38, c50⟩]; by_cases cb : bdy (sL S 254) (pe (sL S 254) (a + 2) e) e = false; (rw [if_pos (Or.inr cb), if_pos cb]); (rw [if_neg (fun z => z.elim (fun z => by omega) cb), if_neg cb])) | (rw [if_neg (fun z => by omega)]) | (rw [if_neg (fun z => c38 z.2.1)]) | (rw [if_neg (fun z => c50 z.2.2)])) (Nat.lt_succ_self _)
        · skip
          refine w_iconst rfl rfl ?_
          refine w_iret rfl rfl ?_
          first
            | omega
            | (unfold dfa; rw [if_neg (by rw [c14]; simp; omega), if_pos ⟨by omega, c38, c50⟩, if_pos (Or.inl (by omega))]; exact ⟨rfl, fr_refl _ _, sg, ht⟩)
      · skip
        refine w_aload_n rfl rfl rfl ?_
        refine w_getR rfl rfl sh_249 rfl rfl ?_
        refine w_iload_n rfl rfl rfl ?_
        refine w_lald (z := sL S 254 (a + 1)) rfl sh_254 (by omega) (by omega) (by decide) rfl rfl ?_
        refine w_ldc2 (v := 40) rfl rfl rfl ?_
        refine w_l_ne (pc2 := 57) (pc3 := 41) rfl rfl (by decide) rfl (fun c38 => ?_) (fun c38 => ?_)
        · skip
          refine w_iconst rfl rfl ?_
          refine w_istore rfl (by decide) rfl ?_
          refine w_iload rfl rfl rfl ?_
          refine w_if_eq (pc2 := 76) (pc3 := 65) rfl (by decide) rfl ⟨by decide, by decide⟩ (fun _ => ?_) (fun hc => absurd hc (by decide))
          refine w_iload_n rfl rfl rfl ?_
          refine w_istore rfl (by decide) rfl ?_
          refine w_iload rfl rfl rfl ?_
          refine w_if_ge (pc2 := 86) (pc3 := 84) rfl (by decide) rfl ⟨by omega, by omega⟩ (fun c81 => ?_) (fun c81 => ?_)
          · skip
            refine w_iload rfl rfl rfl ?_
            refine w_if_ne (pc2 := 95) (pc3 := 91) rfl (by decide) rfl ⟨by decide, by decide⟩ (fun hc => absurd hc (by decide)) (fun _ => ?_)
            refine w_iconst rfl rfl ?_
            refine w_goto (pc2 := 115) rfl (by decide) ?_
            refine w_istore rfl (by decide) rfl ?_
            exact (r_def_c hT ht a0 a1 e0 e1 hx hg hd _).1 (a + 1) ((-1)) ((-1)) _ rfl rfl rfl rfl rfl rfl (by omega) (by omega) (by first | exact Or.inl ⟨rfl, rfl, rfl⟩ | exact Or.inr ⟨rfl, rfl, by omega⟩ | exact Or.inr ⟨rfl, by unfold dmn; rw [if_neg (by omega)]; omega, by omega⟩) (by first | omega | (unfold dmn; split <;> omega)) (by unfold dfa; rw [if_neg (by rw [c14]; simp; omega)]; first | (rw [if_pos ⟨by omega, c38, c50⟩]; by_cases cb : bdy (sL S 254) (pe (sL S 254) (a + 2) e) e = false; (rw [if_pos (Or.inr cb), if_pos cb]); (rw [if_neg (fun z => z.elim (fun z => by omega) cb), if_neg cb])) | (rw [if_neg (fun z => by omega)]) | (rw [if_neg (fun z => c38 z.2.1)]) | (rw [if_neg (fun z => c50 z.2.2)])) (Nat.lt_succ_self _)
          · skip
            refine w_iconst rfl rfl ?_
            refine w_iret rfl rfl ?_
            first
              | omega
              | (unfold dfa; rw [if_neg (by rw [c14]; simp; omega), if_pos ⟨by omega, c38, c50⟩, if_pos (Or.inl (by omega))]; exact ⟨rfl, fr_refl _ _, sg, ht⟩)
        · skip
          refine w_aload_n rfl rfl rfl ?_
          refine w_getR rfl rfl sh_249 rfl rfl ?_
          refine w_iload_n rfl rfl rfl ?_
          have hg1 := hg (a + 1) (by omega) (by omega)
          refine w_iald (z := sA S 256 (a + 1)) rfl sh_256 (by omega) (by omega) (by decide) rfl rfl ?_
          refine w_iconst rfl rfl ?_
          refine w_zand rfl rfl ?_
          rw [zand_1 hg1.1 (by omega)]
          refine w_iconst rfl rfl ?_
          refine w_ic_ne (pc2 := 57) (pc3 := 53) rfl (by decide) rfl ⟨by omega, by omega⟩ ⟨by decide, by decide⟩ (fun c50 => ?_) (fun c50 => ?_)
          · skip
            refine w_iconst rfl rfl ?_
            refine w_istore rfl (by decide) rfl ?_
            refine w_iload rfl rfl rfl ?_
            refine w_if_eq (pc2 := 76) (pc3 := 65) rfl (by decide) rfl ⟨by decide, by decide⟩ (fun _ => ?_) (fun hc => absurd hc (by decide))
            refine w_iload_n rfl rfl rfl ?_
            refine w_istore rfl (by decide) rfl ?_
            refine w_iload rfl rfl rfl ?_
            refine w_if_ge (pc2 := 86) (pc3 := 84) rfl (by decide) rfl ⟨by omega, by omega⟩ (fun c81 => ?_) (fun c81 => ?_)
            · skip
              refine w_iload rfl rfl rfl ?_
              refine w_if_ne (pc2 := 95) (pc3 := 91) rfl (by decide) rfl ⟨by decide, by decide⟩ (fun hc => absurd hc (by decide)) (fun _ => ?_)
              refine w_iconst rfl rfl ?_
              refine w_goto (pc2 := 115) rfl (by decide) ?_
              refine w_istore rfl (by decide) rfl ?_
              exact (r_def_c hT ht a0 a1 e0 e1 hx hg hd _).1 (a + 1) ((-1)) ((-1)) _ rfl rfl rfl rfl rfl rfl (by omega) (by omega) (by first | exact Or.inl ⟨rfl, rfl, rfl⟩ | exact Or.inr ⟨rfl, rfl, by omega⟩ | exact Or.inr ⟨rfl, by unfold dmn; rw [if_neg (by omega)]; omega, by omega⟩) (by first | omega | (unfold dmn; split <;> omega)) (by unfold dfa; rw [if_neg (by rw [c14]; simp; omega)]; first | (rw [if_pos ⟨by omega, c38, c50⟩]; by_cases cb : bdy (sL S 254) (pe (sL S 254) (a + 2) e) e = false; (rw [if_pos (Or.inr cb), if_pos cb]); (rw [if_neg (fun z => z.elim (fun z => by omega) cb), if_neg cb])) | (rw [if_neg (fun z => by omega)]) | (rw [if_neg (fun z => c38 z.2.1)]) | (rw [if_neg (fun z => c50 z.2.2)])) (Nat.lt_succ_self _)
            · skip
              refine w_iconst rfl rfl ?_
              refine w_iret rfl rfl ?_
              first
                | omega
                | (unfold dfa; rw [if_neg (by rw [c14]; simp; omega), if_pos ⟨by omega, c38, c50⟩, if_pos (Or.inl (by omega))]; exact ⟨rfl, fr_refl _ _, sg, ht⟩)
          · skip
            refine w_iconst rfl rfl ?_
            refine w_goto (pc2 := 58) rfl (by decide) ?_
            refine w_istore rfl (by decide) rfl ?_
            refine w_iload rfl rfl rfl ?_
            refine w_if_eq (pc2 := 76) (pc3 := 65) rfl (by decide) rfl ⟨by decide, by decide⟩ (fun hc => absurd hc (by decide)) (fun _ => ?_)
            refine w_aload_n rfl rfl rfl ?_
            refine w_iload_n rfl rfl rfl ?_
            refine w_iconst rfl rfl ?_
            refine w_iadd rfl rfl ?_
            rw [show a + 1 + 1 = a + 2 by omega]
            refine w_iload_n rfl rfl rfl ?_
            refine w_CV (as := [.int (iZ (a + 2)), .int (iZ e)]) (r := []) rfl rfl rfl rfl sh_249 (Nat.le_of_ble_eq_true rfl) (Nat.le_of_ble_eq_true rfl) (by omega) rfl (r_par (a := a + 2) (b := e) (by omega) (by omega) (by omega) (by omega) (fun j j0 j1 => hx j (by omega) j1) (by omega)) ?_
            rintro _ _ ⟨rfl, hS⟩
            rw [hS]
            show w_T _ _ 135 73 _ [.int (iZ (pe (sL S 254) (a + 2) e))] _ _
            refine w_goto (pc2 := 77) rfl (by decide) ?_
            refine w_istore rfl (by decide) rfl ?_
            refine w_iload rfl rfl rfl ?_
            refine w_if_ge (pc2 := 86) (pc3 := 84) rfl (by decide) rfl ⟨by omega, by omega⟩ (fun c81 => ?_) (fun c81 => ?_)
            · skip
              refine w_iload rfl rfl rfl ?_
              refine w_if_ne (pc2 := 95) (pc3 := 91) rfl (by decide) rfl ⟨by decide, by decide⟩ (fun _ => ?_) (fun hc => absurd hc (by decide))
              refine w_iload rfl rfl rfl ?_
              refine w_iload_n rfl rfl rfl ?_
              refine w_iconst rfl rfl ?_
              refine w_iadd rfl rfl ?_
              refine w_ic_ne (pc2 := 107) (pc3 := 103) rfl (by decide) rfl ⟨by omega, by omega⟩ ⟨by omega, by omega⟩ (fun c100 => ?_) (fun c100 => ?_)
              · skip
                refine w_iload rfl rfl rfl ?_
                refine w_iload_n rfl rfl rfl ?_
                refine w_isub rfl rfl ?_
                refine w_iconst rfl rfl ?_
                refine w_isub rfl rfl ?_
                refine w_iconst rfl rfl ?_
                refine w_zdiv rfl (by decide) rfl ?_
                rw [show zdiv (pe (sL S 254) (a + 2) e - (a + 1) - 1) 2 = dmn (a + 2) (pe (sL S 254) (a + 2) e) by unfold dmn; rw [if_neg (by omega), zdiv_id (by omega) (by omega) (by decide) (by decide)]; congr 1; omega]
                refine w_istore rfl (by decide) rfl ?_
                exact (r_def_c hT ht a0 a1 e0 e1 hx hg hd _).1 (pe (sL S 254) (a + 2) e) (dmn (a + 2) (pe (sL S 254) (a + 2) e)) ((a + 2)) _ rfl rfl rfl rfl rfl rfl (by omega) (by omega) (by first | exact Or.inl ⟨rfl, rfl, rfl⟩ | exact Or.inr ⟨rfl, rfl, by omega⟩ | exact Or.inr ⟨rfl, by unfold dmn; rw [if_neg (by omega)]; omega, by omega⟩) (by first | omega | (unfold dmn; split <;> omega)) (by unfold dfa; rw [if_neg (by rw [c14]; simp; omega)]; first | (rw [if_pos ⟨by omega, c38, c50⟩]; by_cases cb : bdy (sL S 254) (pe (sL S 254) (a + 2) e) e = false; (rw [if_pos (Or.inr cb), if_pos cb]); (rw [if_neg (fun z => z.elim (fun z => by omega) cb), if_neg cb])) | (rw [if_neg (fun z => by omega)]) | (rw [if_neg (fun z => c38 z.2.1)]) | (rw [if_neg (fun z => c50 z.2.2)])) (Nat.lt_succ_self _)
              · skip
                refine w_iconst rfl rfl ?_
                refine w_goto (pc2 := 115) rfl (by decide) ?_
                refine w_istore rfl (by decide) rfl ?_
                exact (r_def_c hT ht a0 a1 e0 e1 hx hg hd _).1 (pe (sL S 254) (a + 2) e) 0 ((a + 2)) _ rfl rfl rfl rfl rfl rfl (by omega) (by omega) (by first | exact Or.inl ⟨rfl, rfl, rfl⟩ | exact Or.inr ⟨rfl, rfl, by omega⟩ | exact Or.inr ⟨rfl, by unfold dmn; rw [if_neg (by omega)]; omega, by omega⟩) (by first | omega | (unfold dmn; split <;> omega)) (by unfold dfa; rw [if_neg (by rw [c14]; simp; omega)]; first | (rw [if_pos ⟨by omega, c38, c50⟩]; by_cases cb : bdy (sL S 254) (pe (sL S 254) (a + 2) e) e = false; (rw [if_pos (Or.inr cb), if_pos cb]); (rw [if_neg (fun z => z.elim (fun z => by omega) cb), if_neg cb])) | (rw [if_neg (fun z => by omega)]) | (rw [if_neg (fun z => c38 z.2.1)]) | (rw [if_neg (fun z => c50 z.2.2)])) (Nat.lt_succ_self _)
            · skip
              refine w_iconst rfl rfl ?_
              refine w_iret rfl rfl ?_
              first
                | omega
                | (unfold dfa; rw [if_neg (by rw [c14]; simp; omega), if_pos ⟨by omega, c38, c50⟩, if_pos (Or.inl (by omega))]; exact ⟨rfl, fr_refl _ _, sg, ht⟩)
    · skip
      refine w_iconst rfl rfl ?_
      refine w_iret rfl rfl ?_
      unfold dfa
      rw [if_pos (by first | exact Or.inl (by omega) | exact Or.inr c14)]
      exact ⟨rfl, fr_refl _ _, sg, ht⟩
