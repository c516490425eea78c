/-! The reference reads parameters, counts its names; rows that lie further on. -/
section SFT
variable {X Y : Int → Int64} {b n : Int}
theorem rpN_sft (h : ∀ j, 0 ≤ j → j < n → Y (b + j) = X j) {i : Int} (i1 : i < n) : ∀ (m : Nat) (q : Int), 0 ≤ q → rpN Y (b + i) m (b + q) = rpN X i m q
  | 0, _, _ => rfl
  | m + 1, q, q0 => by
    by_cases c : q < i
    · rw [rpN_s m (by omega : b + q < b + i), rpN_s m c, h q q0 (by omega), h i (by omega) i1, show b + q + 2 = b + (q + 2) by omega, rpN_sft h i1 m (q + 2) (by omega)]
    · rw [rpN_0 _ (by omega : b + i ≤ b + q), rpN_0 _ (by omega)]
theorem rp_sft (h : ∀ j, 0 ≤ j → j < n → Y (b + j) = X j) {a i : Int} (a0 : 0 ≤ a) (i1 : i < n) : rp Y (b + a) (b + i) = rp X a i := by
  unfold rp
  rw [show b + i - (b + a) = i - a by omega]
  exact rpN_sft h i1 _ a a0
theorem peN_sft (h : ∀ j, 0 ≤ j → j < n → Y (b + j) = X j) {a e : Int} (a0 : 0 ≤ a) (e1 : e ≤ n) : ∀ (m : Nat) (i : Int), a ≤ i → peN Y (b + a) (b + e) m (b + i) = if peN X a e m i < 0 then -1 else b + peN X a e m i
  | 0, _, _ => by
    show (-1 : Int) = if (-1 : Int) < 0 then -1 else _
    rw [if_pos (by decide)]
  | m + 1, i, i0 => by
    by_cases c : i + 1 < e
    · rw [peN_s m (by omega : b + i + 1 < b + e), peN_s m c, h i (by omega) (by omega), rp_sft h a0 (by omega), show b + i + 1 = b + (i + 1) by omega, h (i + 1) (by omega) (by omega), show b + i + 2 = b + (i + 2) by omega, peN_sft h a0 e1 m (i + 2) (by omega)]
      by_cases c1 : nam (X i) = false ∨ rp X a i = true
      · rw [if_pos c1, if_pos c1, if_pos (by decide)]
      · rw [if_neg c1, if_neg c1]
        by_cases c2 : X (i + 1) = 41
        · rw [if_pos c2, if_pos c2, if_neg (by omega)]
        · rw [if_neg c2, if_neg c2]
          by_cases c3 : X (i + 1) = 44
          · rw [if_pos c3, if_pos c3]
          · rw [if_neg c3, if_neg c3, if_pos (by decide)]
    · rw [peN_0 _ (by omega : b + e ≤ b + i + 1), peN_0 _ (by omega), if_pos (by decide)]
theorem pe_sft (h : ∀ j, 0 ≤ j → j < n → Y (b + j) = X j) {a e : Int} (a0 : 0 ≤ a) (e1 : e ≤ n) : pe Y (b + a) (b + e) = if pe X a e < 0 then -1 else b + pe X a e := by
  have hk := peN_sft h a0 e1 (e - a).toNat a (Int.le_refl _)
  have e3 : b + e - (b + a) = e - a := by omega
  by_cases c : a < e ∧ X a = 41
  · have p1 : pe X a e = a + 1 := by unfold pe; rw [if_pos c]
    have p2 : pe Y (b + a) (b + e) = b + a + 1 := by unfold pe; rw [if_pos ⟨by omega, by rw [h a a0 (by omega)]; exact c.2⟩]
    rw [p1, p2, if_neg (by omega)]
    omega
  · have p1 : pe X a e = peN X a e (e - a).toNat a := by unfold pe; rw [if_neg c]
    have p2 : pe Y (b + a) (b + e) = peN Y (b + a) (b + e) (e - a).toNat (b + a) := by
      unfold pe
      rw [if_neg (fun z => c ⟨by omega, by rw [← h a a0 (by omega)]; exact z.2⟩), e3]
    rw [p1, p2, hk]
theorem fi_sft {p q : Int → Bool} {n b : Int} : ∀ (m : Nat) (i : Int), (n - i).toNat = m → (∀ k, i ≤ k → k < n → q (b + k) = p k) → fi q (b + n) (b + i) = b + fi p n i
  | 0, i, hm, h => by
    rw [fi_end (by omega), fi_end (by omega)]
  | m + 1, i, hm, h => by
    by_cases c : p i = true
    · rw [fi_stop (by omega) (by rw [h i (Int.le_refl _) (by omega)]; exact c), fi_stop (by omega) c]
    · have c : p i = false := by simpa using c
      rw [fi_next (by omega) (by rw [h i (Int.le_refl _) (by omega)]; exact c), fi_next (by omega) c, show b + i + 1 = b + (i + 1) by omega]
      exact fi_sft m (i + 1) (by omega) (fun k k0 k1 => h k (by omega) k1)
theorem bdy_sft (h : ∀ j, 0 ≤ j → j < n → Y (b + j) = X j) {q e : Int} (q0 : 0 ≤ q) (e1 : e ≤ n) : bdy Y (b + q) (b + e) = bdy X q e := by
  unfold bdy bdx
  rw [fi_sft (p := fun k => decide (X k = 4515 ∧ (k = q ∨ k = e - 1 ∨ X (k + 1) = 4515))) _ q rfl (fun k k0 k1 => ?_)]
  · by_cases c : e ≤ fi (fun k => decide (X k = 4515 ∧ (k = q ∨ k = e - 1 ∨ X (k + 1) = 4515))) e q
    · rw [decide_eq_true c, decide_eq_true (by omega)]
    · rw [decide_eq_false c, decide_eq_false (by omega)]
  · show decide (Y (b + k) = 4515 ∧ (b + k = b + q ∨ b + k = b + e - 1 ∨ Y (b + k + 1) = 4515)) = _
    rw [h k (by omega) (by omega)]
    by_cases c : k = e - 1
    · by_cases c2 : X k = 4515
      · rw [decide_eq_true ⟨c2, Or.inr (Or.inl (by omega))⟩, decide_eq_true ⟨c2, Or.inr (Or.inl c)⟩]
      · rw [decide_eq_false (fun z => c2 z.1), decide_eq_false (fun z => c2 z.1)]
    · rw [show b + k + 1 = b + (k + 1) by omega, h (k + 1) (by omega) (by omega)]
      by_cases c2 : X k = 4515 ∧ (k = q ∨ k = e - 1 ∨ X (k + 1) = 4515)
      · rw [decide_eq_true c2, decide_eq_true ⟨c2.1, by rcases c2.2 with z | z | z; exact Or.inl (by omega); exact absurd z c; exact Or.inr (Or.inr z)⟩]
      · rw [decide_eq_false c2, decide_eq_false (fun z => c2 ⟨z.1, by rcases z.2 with z | z | z; exact Or.inl (by omega); exact absurd (show k = e - 1 by omega) c; exact Or.inr (Or.inr z)⟩)]
theorem slN_sft (h : ∀ j, 0 ≤ j → j < n → Y (b + j) = X j) : ∀ (m : Nat) (i : Int), 0 ≤ i → i + m ≤ n → slN Y m (b + i) = slN X m i
  | 0, _, _, _ => rfl
  | m + 1, i, i0, i1 => by
    show Y (b + i) :: slN Y m (b + i + 1) = X i :: slN X m (i + 1)
    rw [h i i0 (by omega), show b + i + 1 = b + (i + 1) by omega, slN_sft h m (i + 1) (by omega) (by omega)]
theorem sl2_sft (h : ∀ j, 0 ≤ j → j < n → Y (b + j) = X j) : ∀ (m : Nat) (i : Int), 0 ≤ i → i + 2 * m ≤ n + 1 → sl2 Y m (b + i) = sl2 X m i
  | 0, _, _, _ => rfl
  | m + 1, i, i0, i1 => by
    show Y (b + i) :: sl2 Y m (b + i + 2) = X i :: sl2 X m (i + 2)
    rw [h i i0 (by omega), show b + i + 2 = b + (i + 2) by omega, sl2_sft h m (i + 2) (by omega) (by omega)]
end SFT
/-- a definition, of rows that lie anywhere -/
def dfa (T : List Mac) (X : Int → Int64) (g : Int → Int) (a e : Int) : Int × List Mac := if e ≤ a ∨ nam (X a) = false then (3, T) else if a + 1 < e ∧ X (a + 1) = 40 ∧ g (a + 1) % 2 = 1 then (if pe X (a + 2) e < 0 ∨ bdy X (pe X (a + 2) e) e = false then (3, T) else dft T X a (a + 2) (pe X (a + 2) e) e) else if bdy X (a + 1) e = false then (3, T) else dft T X a (-1) (a + 1) e
theorem dft_sft {T : List Mac} {X Y : Int → Int64} {b n : Int} (h : ∀ j, 0 ≤ j → j < n → Y (b + j) = X j) {a p q e : Int} (b0 : 0 ≤ b) (a0 : 0 ≤ a) (a1 : a < n) (p0 : 0 ≤ p) (pq : p ≤ q) (qe : q ≤ e) (e1 : e ≤ n) : dft T Y (b + a) (b + p) (b + q) (b + e) = dft T X a p q e := by
  unfold dft
  have e1' : dmn (b + p) (b + q) = dmn p q := by
    unfold dmn
    rw [if_neg (by omega), if_neg (by omega), show b + q - (b + p) = q - p by omega]
  have hd : dmn p q = (q - p) / 2 := by unfold dmn; rw [if_neg (by omega)]
  have e2 : dmk Y (b + a) (b + p) (b + q) (b + e) = dmk X a p q e := by
    unfold dmk
    rw [h a a0 a1, e1', decide_eq_true (by omega : 0 ≤ b + p), decide_eq_true p0, sl2_sft h _ p p0 (by omega), show b + e - (b + q) = e - q by omega, slN_sft h _ q (by omega) (by omega)]
  rw [e1', e2, h a a0 a1, show b + e - (b + q) = e - q by omega]
theorem dft_sfm {T : List Mac} {X Y : Int → Int64} {b n : Int} (h : ∀ j, 0 ≤ j → j < n → Y (b + j) = X j) {a q e : Int} (a0 : 0 ≤ a) (a1 : a < n) (q0 : 0 ≤ q) (qe : q ≤ e) (e1 : e ≤ n) : dft T Y (b + a) (-1) (b + q) (b + e) = dft T X a (-1) q e := by
  unfold dft
  have e1' : dmn (-1) (b + q) = dmn (-1) q := by
    unfold dmn
    rw [if_pos (by decide), if_pos (by decide)]
  have e0 : (dmn (-1) q).toNat = 0 := by unfold dmn; rw [if_pos (by decide)]; rfl
  have e2 : dmk Y (b + a) (-1) (b + q) (b + e) = dmk X a (-1) q e := by
    unfold dmk
    rw [h a a0 a1, e1', e0, show b + e - (b + q) = e - q by omega, slN_sft h _ q q0 (by omega)]
    rfl
  rw [e1', e2, h a a0 a1, show b + e - (b + q) = e - q by omega]
theorem dfa_sft {T : List Mac} {t : List Tok} {Y : Int → Int64} {g : Int → Int} {b a e : Int} (h : ∀ j : Int, 0 ≤ j → j < t.length → Y (b + j) = tx t j) (hg : ∀ j : Int, 0 ≤ j → j < t.length → g (b + j) = 2 * tln t j + zB (tgl t j)) (b0 : 0 ≤ b) (a0 : 0 ≤ a) (e1 : e ≤ t.length) : dfa T Y g (b + a) (b + e) = dfn T t a e := by
  unfold dfa dfn
  by_cases c1 : e ≤ a
  · rw [if_pos (Or.inl (by omega)), if_pos (Or.inl c1)]
  · rw [h a a0 (by omega)]
    by_cases c2 : nam (tx t a) = false
    · rw [if_pos (Or.inr c2), if_pos (Or.inr c2)]
    · have hp := pe_r (X := tx t) (a := a + 2) (e := e)
      have hps := pe_sft h (a := a + 2) (e := e) (by omega) e1
      rw [if_neg (show ¬ (b + e ≤ b + a ∨ nam (tx t a) = false) from fun z => z.elim (fun z => c1 (by omega)) c2), if_neg (show ¬ (e ≤ a ∨ nam (tx t a) = false) from fun z => z.elim c1 c2), show b + a + 1 = b + (a + 1) by omega, show b + a + 2 = b + (a + 2) by omega]
      by_cases c3 : a + 1 < e ∧ tx t (a + 1) = 40 ∧ tgl t (a + 1) = true
      · have gg : g (b + (a + 1)) % 2 = 1 := by
          rw [hg (a + 1) (by omega) (by omega), c3.2.2]
          show (2 * tln t (a + 1) + 1) % 2 = 1
          omega
        rw [if_pos ⟨by omega, by rw [h (a + 1) (by omega) (by omega)]; exact c3.2.1, gg⟩, if_pos c3, hps]
        by_cases c4 : pe (tx t) (a + 2) e < 0
        · rw [if_pos c4, if_pos (Or.inl (by decide)), if_pos (Or.inl c4)]
        · rw [if_neg c4, bdy_sft h (by omega) e1]
          by_cases c5 : bdy (tx t) (pe (tx t) (a + 2) e) e = false
          · rw [if_pos (Or.inr c5), if_pos (Or.inr c5)]
          · rw [if_neg (fun z => z.elim (fun z => by omega) c5), if_neg (fun z => z.elim c4 c5)]
            exact dft_sft h b0 a0 (by omega) (by omega) (by omega) (by omega) e1
      · have c3' : ¬ (b + (a + 1) < b + e ∧ Y (b + (a + 1)) = 40 ∧ g (b + (a + 1)) % 2 = 1) := fun z => c3 (by
          have z1 : a + 1 < e := by omega
          have z2 := z.2.1
          have z3 := z.2.2
          rw [h (a + 1) (by omega) (by omega)] at z2
          rw [hg (a + 1) (by omega) (by omega)] at z3
          refine ⟨z1, z2, ?_⟩
          cases q : tgl t (a + 1)
          · rw [q] at z3
            have : (2 * tln t (a + 1) + 0) % 2 = 1 := z3
            omega
          · rfl)
        rw [if_neg c3', if_neg c3, bdy_sft h (by omega) e1]
        by_cases c5 : bdy (tx t) (a + 1) e = false
        · rw [if_pos c5, if_pos c5]
        · rw [if_neg c5, if_neg c5]
          exact dft_sfm h a0 (by omega) (by omega) (by omega) e1
/-- how many of the first slots are taken -/
def cnt (f : Int → Bool) : Nat → Int
  | 0 => 0
  | m + 1 => cnt f m + zB (f m)
theorem cnt_upd {f : Int → Bool} {k : Nat} (hf : f k = true) : ∀ (m : Nat), k < m → cnt f m = cnt (fun j => if j = (k : Int) then false else f j) m + 1
  | 0, h => by omega
  | m + 1, h => by
    show cnt f m + zB (f m) = cnt _ m + zB (if (m : Int) = (k : Int) then false else f m) + 1
    by_cases c : m = k
    · rw [c, if_pos rfl, hf]
      have e : ∀ q : Nat, q ≤ k → cnt f q = cnt (fun j => if j = (k : Int) then false else f j) q := fun q => by
        induction q with
        | zero => exact fun _ => rfl
        | succ q ih =>
          intro hq
          show cnt f q + zB (f q) = cnt _ q + zB (if (q : Int) = (k : Int) then false else f q)
          rw [← ih (by omega), if_neg (by omega)]
      rw [e k (Nat.le_refl _)]
      show _ + 1 = _ + 0 + 1
      omega
    · rw [if_neg (by omega), cnt_upd hf m (by omega)]
      omega
theorem cnt_0 {f : Int → Bool} : ∀ (m : Nat), (∀ j : Nat, j < m → f j = false) → cnt f m = 0
  | 0, _ => rfl
  | m + 1, h => by
    show cnt f m + zB (f m) = 0
    rw [cnt_0 m (fun j hj => h j (by omega)), h m (by omega)]
    rfl
theorem cnt_all {f : Int → Bool} : ∀ (m : Nat), (∀ j : Nat, j < m → f j = true) → cnt f m = m
  | 0, _ => rfl
  | m + 1, h => by
    show cnt f m + zB (f m) = ((m + 1 : Nat) : Int)
    rw [cnt_all m (fun j hj => h j (by omega)), h m (by omega)]
    show (m : Int) + 1 = _
    omega
theorem cnt_inj (M : Nat) : ∀ (n : Nat) (sg : Nat → Nat) (f : Int → Bool), (∀ k, k < n → sg k < M) → (∀ j k, j < n → k < n → sg j = sg k → j = k) → (∀ m : Nat, m < M → (f m = true ↔ ∃ k, k < n ∧ sg k = m)) → cnt f M = n
  | 0, sg, f, h1, h2, h3 => cnt_0 M (fun j hj => by
      cases q : f j
      · rfl
      · obtain ⟨k, hk, _⟩ := (h3 j hj).1 q
        omega)
  | n + 1, sg, f, h1, h2, h3 => by
    have hn := h1 n (by omega)
    rw [cnt_upd ((h3 (sg n) hn).2 ⟨n, by omega, rfl⟩) M hn, cnt_inj M n sg _ (fun k hk => h1 k (by omega)) (fun j k hj hk => h2 j k (by omega) (by omega)) (fun m hm => ?_)]
    · omega
    · by_cases c : m = sg n
      · rw [if_pos (by omega)]
        refine ⟨fun z => Bool.noConfusion z, fun z => ?_⟩
        obtain ⟨k, hk, hs⟩ := z
        have := h2 k n (by omega) (by omega) (by omega)
        omega
      · rw [if_neg (by omega), h3 m hm]
        refine ⟨fun z => ?_, fun z => ?_⟩
        · obtain ⟨k, hk, hs⟩ := z
          have : ¬ k = n := fun q => c (by rw [← hs, q])
          exact ⟨k, by omega, hs⟩
        · obtain ⟨k, hk, hs⟩ := z
          exact ⟨k, by omega, hs⟩
theorem rtab_nz {S : w_S} {sg : Nat → Nat} {T : List Mac} (hT : tabok T) (ht : rtab S sg T) {m : Nat} (hm : m < 8) : ¬ sL S 262 m = 0 ↔ ∃ k, k < T.length ∧ sg k = m := by
  refine ⟨fun h => ?_, fun h => ?_⟩
  · by_cases c : ∃ k, k < T.length ∧ sg k = m
    · exact c
    · exact absurd (ht.2.2.2.2 m hm (fun k hk hs => c ⟨k, hk, hs⟩)) h
  · obtain ⟨k, hk, hs⟩ := h
    have q := (ht.2.2.2.1 (k : Int) (by omega) (by omega)).1.1
    rw [Int.toNat_natCast, hs] at q
    rw [q]
    exact hT.1 (k : Int) (by omega) (by omega)
theorem rtab_cnt {S : w_S} {sg : Nat → Nat} {T : List Mac} (hT : tabok T) (ht : rtab S sg T) : cnt (fun j => decide (¬ sL S 262 j = 0)) 8 = T.length :=
  cnt_inj 8 T.length sg _ ht.2.1 ht.2.2.1 (fun m hm => by
    rw [decide_eq_true_iff]
    exact rtab_nz hT ht hm)
theorem cnt_s (f : Int → Bool) {i : Int} (h : 0 ≤ i) : cnt f (i + 1).toNat = cnt f i.toNat + zB (f i) := by
  rw [show (i + 1).toNat = i.toNat + 1 by omega]
  show cnt f i.toNat + zB (f (i.toNat : Nat)) = _
  rw [Int.toNat_of_nonneg h]
theorem cnt_r (f : Int → Bool) : ∀ m : Nat, 0 ≤ cnt f m ∧ cnt f m ≤ m
  | 0 => ⟨Int.le_refl _, Int.le_refl _⟩
  | m + 1 => by
    have := cnt_r f m
    have z : 0 ≤ zB (f m) ∧ zB (f m) ≤ 1 := by cases f m <;> decide
    show 0 ≤ cnt f m + zB (f m) ∧ cnt f m + zB (f m) ≤ ((m + 1 : Nat) : Int)
    omega
theorem r_mcs_c {sc : x_S} {d : Nat} {S : w_S} {sg : Nat → Nat} {T : List Mac} (hT : tabok T) (ht : rtab S sg T) (hd : 0 ≤ d) : ∀ n : Nat, (∀ (z : Int) (i : Int) (lv : x_L) (l0 : lv 0 = some (.ref 249)) (l1 : lv 1 = some (.int (iZ z))) (l2 : lv 2 = some (.int (iZ i))) (i0 : 0 ≤ i) (i1 : i ≤ 8) (z0 : 0 ≤ z) (z1 : z ≤ 8) (ie : z = cnt (fun j => decide (¬ sL S 262 j = 0)) i.toNat) (hm : (8 - i).toNat < n), w_T sc d 169 4 lv [] S (fun v S2 => v = some (.int (iZ (T.length : Int))) ∧ S2 = S)) := by
  intro n
  induction n with
  | zero => exact fun z i lv l0 l1 l2 i0 i1 z0 z1 ie hm => absurd hm (Nat.not_lt_zero _)
  | succ n ih =>
    intro z i lv l0 l1 l2 i0 i1 z0 z1 ie hm
    refine w_iload_n rfl l2 rfl ?_
    refine w_bipush rfl (by decide) rfl ?_
    refine w_ic_ge (pc2 := 35) (pc3 := 10) rfl (by decide) rfl ⟨by omega, by omega⟩ ⟨by decide, by decide⟩ (fun c7 => ?_) (fun c7 => ?_)
    · skip
      refine w_iload_n rfl l1 rfl ?_
      refine w_iret rfl rfl ?_
      refine q_i ?_
      rw [ie, show i = 8 by omega]
      exact rtab_cnt hT ht
    · skip
      refine w_iload_n rfl l1 rfl ?_
      refine w_aload_n rfl l0 rfl ?_
      refine w_getR rfl rfl sh_249 rfl rfl ?_
      refine w_iload_n rfl l2 rfl ?_
      refine w_lald (z := sL S 262 i) rfl sh_262 (by omega) (by omega) (by decide) rfl rfl ?_
      refine w_lconst (v := 0) rfl (by decide) rfl ?_
      refine w_l_eq (pc2 := 26) (pc3 := 22) rfl rfl (by decide) rfl (fun c19 => ?_) (fun c19 => ?_)
      · skip
        refine w_iconst rfl rfl ?_
        refine w_iadd rfl rfl ?_
        refine w_istore_n rfl (by decide) rfl ?_
        refine w_iinc rfl l2 (by decide) rfl ?_
        refine w_goto (pc2 := 4) rfl (by decide) ?_
        exact ih (z + 0) (i + 1) _ (by exact (congrArg x_k2 l0)) (by exact rfl) (by exact rfl) (by omega) (by omega) (by omega) (by have := cnt_r (fun j => decide (¬ sL S 262 j = 0)) i.toNat; omega) (by rw [cnt_s _ i0, ← ie]; first | (rw [decide_eq_true c19]; rfl) | (rw [decide_eq_false (not_not_intro c19)]; rfl)) (by omega)
      · skip
        refine w_iconst rfl rfl ?_
        refine w_goto (pc2 := 27) rfl (by decide) ?_
        refine w_iadd rfl rfl ?_
        refine w_istore_n rfl (by decide) rfl ?_
        refine w_iinc rfl l2 (by decide) rfl ?_
        refine w_goto (pc2 := 4) rfl (by decide) ?_
        exact ih (z + 1) (i + 1) _ (by exact (congrArg x_k2 l0)) (by exact rfl) (by exact rfl) (by omega) (by omega) (by omega) (by have := cnt_r (fun j => decide (¬ sL S 262 j = 0)) i.toNat; omega) (by rw [cnt_s _ i0, ← ie]; first | (rw [decide_eq_true c19]; rfl) | (rw [decide_eq_false (not_not_intro c19)]; rfl)) (by omega)
theorem r_mcs {sc : x_S} {d : Nat} {S : w_S} {sg : Nat → Nat} {T : List Mac} (hT : tabok T) (ht : rtab S sg T) (hd : 0 ≤ d) : w_T sc d 169 0 (x_en 0 [.ref 249]) [] S (fun v S2 => v = some (.int (iZ (T.length : Int))) ∧ S2 = S) := by
  refine w_iconst rfl rfl ?_
  refine w_istore_n rfl (by decide) rfl ?_
  refine w_iconst rfl rfl ?_
  refine w_istore_n rfl (by decide) rfl ?_
  exact (r_mcs_c hT ht hd _) 0 0 _ rfl rfl rfl (by omega) (by omega) (by omega) (by omega) (by rfl) (Nat.lt_succ_self _)
theorem r_par_c {sc : x_S} {d : Nat} {S : w_S} {a b : Int} (a0 : 0 ≤ a) (a2 : a ≤ 660) (b0 : 0 ≤ b) (b1 : b ≤ 644) (hx : ∀ j, a ≤ j → j < b → 0 < (sL S 254 j).toInt) (hd : 4 ≤ d) : ∀ n : Nat, (∀ (i : Int) (lv : x_L) (l0 : lv 0 = some (.ref 249)) (l1 : lv 1 = some (.int (iZ a))) (l2 : lv 2 = some (.int (iZ b))) (l3 : lv 3 = some (.int (iZ i))) (i0 : a ≤ i) (i1 : i ≤ 700) (i2 : i ≤ 660 ∨ i ≤ b + 2) (ie : pe (sL S 254) a b = peN (sL S 254) a b (b - i).toNat i) (hm : 2000 * (b - i).toNat + 1000 < n), w_T sc d 134 24 lv [] S (fun v S2 => v = some (.int (iZ (pe (sL S 254) a b))) ∧ S2 = S)) ∧ (∀ (i : Int) (g : Bool) (q : Int) (lv : x_L) (l0 : lv 0 = some (.ref 249)) (l1 : lv 1 = some (.int (iZ a))) (l2 : lv 2 = some (.int (iZ b))) (l3 : lv 3 = some (.int (iZ i))) (l4 : lv 4 = some (.int (iZ (zB g)))) (l5 : lv 5 = some (.int (iZ q))) (i0 : a ≤ i) (i1 : i + 1 < b) (q0 : a ≤ q) (q1 : q ≤ 700) (q2 : q ≤ 660 ∨ q ≤ b + 2) (ie : pe (sL S 254) a b = peN (sL S 254) a b (b - i).toNat i) (iq : (nam (sL S 254 i) && !(rp (sL S 254) a i)) = (g && !(rpN (sL S 254) i (i - q).toNat q))) (hm : 2000 * (b - i).toNat + (i - q).toNat < n), w_T sc d 134 45 lv [] S (fun v S2 => v = some (.int (iZ (pe (sL S 254) a b))) ∧ S2 = S)) := by
  intro n
  induction n with
  | zero => exact ⟨fun i lv l0 l1 l2 l3 i0 i1 i2 ie hm => absurd hm (Nat.not_lt_zero _), fun i g q lv l0 l1 l2 l3 l4 l5 i0 i1 q0 q1 q2 ie iq hm => absurd hm (Nat.not_lt_zero _)⟩
  | succ n ih =>
    refine ⟨?_, ?_⟩
    · skip
      intro i lv l0 l1 l2 l3 i0 i1 i2 ie hm
      refine w_iload_n rfl l3 rfl ?_
      refine w_iconst rfl rfl ?_
      refine w_iadd rfl rfl ?_
      refine w_iload_n rfl l2 rfl ?_
      refine w_ic_ge (pc2 := 135) (pc3 := 31) rfl (by decide) rfl ⟨by omega, by omega⟩ ⟨by omega, by omega⟩ (fun c28 => ?_) (fun c28 => ?_)
      · skip
        refine w_iconst rfl rfl ?_
        refine w_iret rfl rfl ?_
        refine q_i ?_
        rw [ie, peN_0 _ (by omega)]
      · skip
        refine w_aload_n rfl l0 rfl ?_
        refine w_getR rfl rfl sh_249 rfl rfl ?_
        refine w_iload_n rfl l3 rfl ?_
        refine w_lald (z := sL S 254 i) rfl sh_254 (by omega) (by omega) (by decide) rfl rfl ?_
        refine w_CS (as := [.long (sL S 254 i)]) (r := []) rfl rfl rfl rfl (Nat.le_of_ble_eq_true rfl) (Nat.le_of_ble_eq_true rfl) (by omega) rfl (r_nam (x := sL S 254 i) (Int.le_of_lt (hx _ (by omega) (by omega))) (by omega)) ?_
        rintro _ _ ⟨rfl, hS⟩
        rw [hS]
        show w_T _ _ 134 40 _ [.int (iZ (zB (nam (sL S 254 i))))] _ _
        refine w_istore rfl (by decide) rfl ?_
        refine w_iload_n rfl l1 rfl ?_
        refine w_istore rfl (by decide) rfl ?_
        exact ih.2 i ((nam (sL S 254 i))) a _ (by exact l0) (by exact l1) (by exact l2) (by exact (congrArg x_k2 l3)) (by exact rfl) (by exact rfl) (by omega) (by omega) (by omega) (by omega) (by omega) (by omega) (by rfl) (by omega)
    · skip
      intro i g q lv l0 l1 l2 l3 l4 l5 i0 i1 q0 q1 q2 ie iq hm
      refine w_iload rfl l5 rfl ?_
      refine w_iload_n rfl l3 rfl ?_
      refine w_ic_ge (pc2 := 86) (pc3 := 51) rfl (by decide) rfl ⟨by omega, by omega⟩ ⟨by omega, by omega⟩ (fun c48 => ?_) (fun c48 => ?_)
      · skip
        refine w_iload rfl l4 rfl ?_
        refine w_b_ne (pc2 := 93) (pc3 := 91) rfl (by decide) rfl (fun c88 => ?_) (fun c88 => ?_)
        · skip
          refine w_aload_n rfl l0 rfl ?_
          refine w_getR rfl rfl sh_249 rfl rfl ?_
          refine w_iload_n rfl l3 rfl ?_
          refine w_iconst rfl rfl ?_
          refine w_iadd rfl rfl ?_
          refine w_lald (z := sL S 254 (i + 1)) rfl sh_254 (by omega) (by omega) (by decide) rfl rfl ?_
          refine w_ldc2 (v := 41) rfl rfl rfl ?_
          refine w_l_ne (pc2 := 112) (pc3 := 108) rfl rfl (by decide) rfl (fun c105 => ?_) (fun c105 => ?_)
          · skip
            refine w_aload_n rfl l0 rfl ?_
            refine w_getR rfl rfl sh_249 rfl rfl ?_
            refine w_iload_n rfl l3 rfl ?_
            refine w_iconst rfl rfl ?_
            refine w_iadd rfl rfl ?_
            refine w_lald (z := sL S 254 (i + 1)) rfl sh_254 (by omega) (by omega) (by decide) rfl rfl ?_
            refine w_ldc2 (v := 44) rfl rfl rfl ?_
            refine w_l_eq (pc2 := 129) (pc3 := 127) rfl rfl (by decide) rfl (fun c124 => ?_) (fun c124 => ?_)
            · skip
              refine w_iinc rfl l3 (by decide) rfl ?_
              refine w_goto (pc2 := 24) rfl (by decide) ?_
              exact ih.1 (i + 2) _ (by exact l0) (by exact l1) (by exact (congrArg x_k2 l2)) (by exact rfl) (by omega) (by omega) (by omega) (by rw [rpN_0 _ (by omega), c88] at iq; rw [ie, show (b - i).toNat = ((b - i).toNat - 1) + 1 by omega, peN_s _ (by omega), if_neg (by revert iq; cases nam (sL S 254 i) <;> cases rp (sL S 254) a i <;> simp), if_neg c105, if_pos c124]; exact peN_m _ _ _ (by omega) (by omega)) (by omega)
            · skip
              refine w_iconst rfl rfl ?_
              refine w_iret rfl rfl ?_
              refine q_i ?_
              rw [rpN_0 _ (by omega), c88] at iq
              rw [ie, show (b - i).toNat = ((b - i).toNat - 1) + 1 by omega, peN_s _ (by omega), if_neg (by revert iq; cases nam (sL S 254 i) <;> cases rp (sL S 254) a i <;> simp), if_neg c105, if_neg c124]
          · skip
            refine w_iload_n rfl l3 rfl ?_
            refine w_iconst rfl rfl ?_
            refine w_iadd rfl rfl ?_
            refine w_iret rfl rfl ?_
            refine q_i ?_
            rw [rpN_0 _ (by omega), c88] at iq
            rw [ie, show (b - i).toNat = ((b - i).toNat - 1) + 1 by omega, peN_s _ (by omega), if_neg (by revert iq; cases nam (sL S 254 i) <;> cases rp (sL S 254) a i <;> simp), if_pos c105]
        · skip
          refine w_iconst rfl rfl ?_
          refine w_iret rfl rfl ?_
          refine q_i ?_
          rw [rpN_0 _ (by omega), c88] at iq
          rw [ie, show (b - i).toNat = ((b - i).toNat - 1) + 1 by omega, peN_s _ (by omega), if_pos (by revert iq; cases nam (sL S 254 i) <;> cases rp (sL S 254) a i <;> simp)]
      · skip
        refine w_iload rfl l4 rfl ?_
        refine w_b_eq (pc2 := 77) (pc3 := 56) rfl (by decide) rfl (fun c53 => ?_) (fun c53 => ?_)
        · skip
          refine w_iconst rfl rfl ?_
          refine w_istore rfl (by decide) rfl ?_
          refine w_iinc rfl l5 (by decide) rfl ?_
          refine w_goto (pc2 := 45) rfl (by decide) ?_
          exact ih.2 i false (q + 2) _ (by exact l0) (by exact l1) (by exact l2) (by exact (congrArg x_k2 l3)) (by exact rfl) (by exact rfl) (by omega) (by omega) (by omega) (by omega) (by omega) (by omega) (by rw [iq, show (i - q).toNat = ((i - q).toNat - 1) + 1 by omega, rpN_s _ (by omega), rpN_m ((i - q).toNat - 1) (i - (q + 2)).toNat (q + 2) (by omega) (by omega)]; first | (rw [c53]; rfl) | (rw [c53, decide_eq_true c70]; rfl) | (rw [c53, decide_eq_false c70]; rfl)) (by omega)
        · skip
          refine w_aload_n rfl l0 rfl ?_
          refine w_getR rfl rfl sh_249 rfl rfl ?_
          refine w_iload rfl l5 rfl ?_
          refine w_lald (z := sL S 254 q) rfl sh_254 (by omega) (by omega) (by decide) rfl rfl ?_
          refine w_aload_n rfl l0 rfl ?_
          refine w_getR rfl rfl sh_249 rfl rfl ?_
          refine w_iload_n rfl l3 rfl ?_
          refine w_lald (z := sL S 254 i) rfl sh_254 (by omega) (by omega) (by decide) rfl rfl ?_
          refine w_l_eq (pc2 := 77) (pc3 := 73) rfl rfl (by decide) rfl (fun c70 => ?_) (fun c70 => ?_)
          · skip
            refine w_iconst rfl rfl ?_
            refine w_istore rfl (by decide) rfl ?_
            refine w_iinc rfl l5 (by decide) rfl ?_
            refine w_goto (pc2 := 45) rfl (by decide) ?_
            exact ih.2 i false (q + 2) _ (by exact l0) (by exact l1) (by exact l2) (by exact (congrArg x_k2 l3)) (by exact rfl) (by exact rfl) (by omega) (by omega) (by omega) (by omega) (by omega) (by omega) (by rw [iq, show (i - q).toNat = ((i - q).toNat - 1) + 1 by omega, rpN_s _ (by omega), rpN_m ((i - q).toNat - 1) (i - (q + 2)).toNat (q + 2) (by omega) (by omega)]; first | (rw [c53]; rfl) | (rw [c53, decide_eq_true c70]; rfl) | (rw [c53, decide_eq_false c70]; rfl)) (by omega)
          · skip
            refine w_iconst rfl rfl ?_
            refine w_goto (pc2 := 78) rfl (by decide) ?_
            refine w_istore rfl (by decide) rfl ?_
            refine w_iinc rfl l5 (by decide) rfl ?_
            refine w_goto (pc2 := 45) rfl (by decide) ?_
            exact ih.2 i true (q + 2) _ (by exact l0) (by exact l1) (by exact l2) (by exact (congrArg x_k2 l3)) (by exact rfl) (by exact rfl) (by omega) (by omega) (by omega) (by omega) (by omega) (by omega) (by rw [iq, show (i - q).toNat = ((i - q).toNat - 1) + 1 by omega, rpN_s _ (by omega), rpN_m ((i - q).toNat - 1) (i - (q + 2)).toNat (q + 2) (by omega) (by omega)]; first | (rw [c53]; rfl) | (rw [c53, decide_eq_true c70]; rfl) | (rw [c53, decide_eq_false c70]; rfl)) (by omega)
theorem r_par {sc : x_S} {d : Nat} {S : w_S} {a b : Int} (a0 : 0 ≤ a) (a2 : a ≤ 660) (b0 : 0 ≤ b) (b1 : b ≤ 644) (hx : ∀ j, a ≤ j → j < b → 0 < (sL S 254 j).toInt) (hd : 4 ≤ d) : w_T sc d 134 0 (x_en 0 [.ref 249, .int (iZ a), .int (iZ b)]) [] S (fun v S2 => v = some (.int (iZ (pe (sL S 254) a b))) ∧ S2 = S) := by
  refine w_iload_n rfl rfl rfl ?_
  refine w_iload_n rfl rfl rfl ?_
  refine w_ic_ge (pc2 := 22) (pc3 := 5) rfl (by decide) rfl ⟨by omega, by omega⟩ ⟨by omega, by omega⟩ (fun c2 => ?_) (fun c2 => ?_)
  · skip
    refine w_iload_n rfl rfl rfl ?_
    refine w_istore_n rfl (by decide) rfl ?_
    exact (r_par_c a0 a2 b0 b1 hx hd _).1 a _ rfl rfl rfl rfl (by omega) (by omega) (by omega) (by unfold pe; rw [if_neg (by first | omega | exact fun q => c15 q.2)]) (Nat.lt_succ_self _)
  · skip
    refine w_aload_n rfl rfl rfl ?_
    refine w_getR rfl rfl sh_249 rfl rfl ?_
    refine w_iload_n rfl rfl rfl ?_
    refine w_lald (z := sL S 254 a) rfl sh_254 (by omega) (by omega) (by decide) rfl rfl ?_
    refine w_ldc2 (v := 41) rfl rfl rfl ?_
    refine w_l_ne (pc2 := 22) (pc3 := 18) rfl rfl (by decide) rfl (fun c15 => ?_) (fun c15 => ?_)
    · skip
      refine w_iload_n rfl rfl rfl ?_
      refine w_istore_n rfl (by decide) rfl ?_
      exact (r_par_c a0 a2 b0 b1 hx hd _).1 a _ rfl rfl rfl rfl (by omega) (by omega) (by omega) (by unfold pe; rw [if_neg (by first | omega | exact fun q => c15 q.2)]) (Nat.lt_succ_self _)
    · skip
      refine w_iload_n rfl rfl rfl ?_
      refine w_iconst rfl rfl ?_
      refine w_iadd rfl rfl ?_
      refine w_iret rfl rfl ?_
      refine q_i ?_
      unfold pe
      rw [if_pos ⟨by omega, c15⟩]
