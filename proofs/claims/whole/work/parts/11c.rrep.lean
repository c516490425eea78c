/-! The reference makes a replacement. -/
def seg (nm : Nat → Int64) (X : Int → Int64) (O : Int → Int) (R : Int → Int) : Int → List (List ETok) → Prop
  | _, [] => True
  | b, a :: as => fw nm X O (R b) a ∧ R (b + 1) = R b + a.length ∧ seg nm X O R (b + 1) as
theorem seg_get {nm : Nat → Int64} {X : Int → Int64} {O : Int → Int} {R : Int → Int} : ∀ (as : List (List ETok)) (b : Int) (k : Nat), seg nm X O R b as → k < as.length → fw nm X O (R (b + k)) (as.getD k []) ∧ R (b + k + 1) = R (b + k) + (as.getD k []).length
  | [], b, k, h, hk => absurd hk (by simp)
  | a :: as, b, 0, h, hk => by
    rw [show b + ((0 : Nat) : Int) = b by omega]
    exact ⟨h.1, h.2.1⟩
  | a :: as, b, k + 1, h, hk => by
    have i := seg_get as (b + 1) k h.2.2 (by simpa using hk)
    rw [show b + ((k + 1 : Nat) : Int) = b + 1 + (k : Int) by omega]
    exact i
theorem seg_n {nm : Nat → Int64} {X : Int → Int64} {O : Int → Int} {R : Int → Int} : ∀ (as : List (List ETok)) (b : Int) (k : Nat), seg nm X O R b as → k ≤ as.length → R b ≤ R (b + k)
  | _, b, 0, _, _ => by
    rw [show b + ((0 : Nat) : Int) = b by omega]
    exact Int.le_refl _
  | [], b, k + 1, h, hk => absurd hk (by simp)
  | a :: as, b, k + 1, h, hk => by
    have i := seg_n as (b + 1) k h.2.2 (by simpa using hk)
    rw [show b + ((k + 1 : Nat) : Int) = b + 1 + (k : Int) by omega]
    have := h.2.1
    omega
theorem seg_m {nm : Nat → Int64} {X : Int → Int64} {O : Int → Int} {R : Int → Int} {as : List (List ETok)} {b : Int} (h : seg nm X O R b as) {k : Nat} (hk : k < as.length) : R (b + k + 1) ≤ R (b + as.length) := by
  have e : ∀ (as : List (List ETok)) (b : Int) (k : Nat), seg nm X O R b as → k < as.length → R (b + k + 1) ≤ R (b + as.length) := by
    intro as
    induction as with
    | nil => intro b k _ hk; exact absurd hk (by simp)
    | cons a as ih =>
      intro b k h hk
      cases k with
      | zero =>
        have := seg_n as (b + 1) as.length h.2.2 (Nat.le_refl _)
        rw [show b + (((a :: as).length : Nat) : Int) = b + 1 + (as.length : Int) by rw [List.length_cons]; omega, show b + ((0 : Nat) : Int) + 1 = b + 1 by omega]
        exact this
      | succ k =>
        have := ih (b + 1) k h.2.2 (by simpa using hk)
        rw [show b + (((a :: as).length : Nat) : Int) = b + 1 + (as.length : Int) by rw [List.length_cons]; omega, show b + ((k + 1 : Nat) : Int) + 1 = b + 1 + (k : Int) + 1 by omega]
        exact this
  exact e as b k h hk
def bg (e : Mac) : Prop := pas e.2.2.2 0 = false ∧ (∀ j : Int, pas e.2.2.2 j = true → pas e.2.2.2 (j + 1) = false) ∧ (∀ j : Int, 0 ≤ j → j < e.2.2.2.length → gw (lg e.2.2.2 j))
def lgw (l : List ETok) : Prop := ∀ x, x ∈ l → gw x.1
def acc (pl : Int) (l : List ETok) (jn : Bool) (d : List ETok) : Option (List ETok) := if jn = true ∧ 0 < d.length then jrow pl l d else some (l ++ d)
theorem acc_0 (pl : Int) (l : List ETok) (jn : Bool) : acc pl l jn [] = some l := by
  unfold acc
  rw [if_neg (by simp), List.append_nil]
theorem acc_f {pl : Int} {l d M : List ETok} {x : ETok} (h : acc pl l false d = some M) : acc pl l false (d ++ [x]) = some (M ++ [x]) := by
  unfold acc at h ⊢
  rw [if_neg (by simp)] at h ⊢
  cases h
  rw [List.append_assoc]
theorem acc_t {pl : Int} {l d M : List ETok} {x : ETok} (hl : 0 < l.length) (hd : 0 < d.length) (h : acc pl l true d = some M) : acc pl l true (d ++ [x]) = some (M ++ [x]) := by
  obtain ⟨k, a, rfl⟩ := list_snoc hl
  obtain ⟨b, rs, rfl⟩ := list_cons hd
  unfold acc at h ⊢
  rw [if_pos ⟨rfl, hd⟩, jrow_eq] at h
  rw [if_pos ⟨rfl, by simp⟩, List.cons_append, jrow_eq]
  cases hj : jt a.1 b.1 with
  | none =>
    rw [hj] at h
    cases h
  | some y =>
    rw [hj] at h
    cases h
    show some _ = some _
    rw [List.append_assoc]
    rfl
theorem acc_s {pl : Int} {l d M : List ETok} {x : ETok} {jn : Bool} (h : acc pl l jn d = some M) (hc : ¬ (jn = true ∧ d.length = 0)) (hl : jn = true → 0 < l.length) : acc pl l jn (d ++ [x]) = some (M ++ [x]) := by
  cases jn with
  | false => exact acc_f h
  | true => exact acc_t (hl rfl) (Nat.pos_of_ne_zero (fun z => hc ⟨rfl, z⟩)) h
theorem acc_j {pl : Int} {l : List ETok} {x : ETok} {k : List ETok} {a : ETok} (hl : l = k ++ [a]) (d : List ETok) : acc pl l true (x :: d) = (match jt a.1 x.1 with | some y => some (k ++ (y, pl, fun q => a.2.2 q && x.2.2 q) :: d) | none => none) := by
  subst hl
  unfold acc
  rw [if_pos ⟨rfl, by simp⟩, jrow_eq]
  cases jt a.1 x.1 <;> rfl
theorem acc_mst {e : Mac} {as os : List (List ETok)} {pl i : Int} {l : List ETok} {ch : Int} {jn : Bool} (h : jn = true ↔ pas e.2.2.2 (i - 1) = true ∧ ch < l.length) : mst e as os pl i l ch = acc pl l jn (brow e as os pl i) := by
  unfold mst acc
  by_cases c : pas e.2.2.2 (i - 1) = true ∧ ch < l.length ∧ 0 < (brow e as os pl i).length
  · rw [if_pos c, if_pos ⟨h.mpr ⟨c.1, c.2.1⟩, c.2.2⟩]
  · rw [if_neg c, if_neg (fun z => c ⟨(h.mp z.1).1, (h.mp z.1).2, z.2⟩)]
theorem or_eo2 {nm : Nat → Int64} {K : Int64 → Bool} {e : ETok} (h0 : 0 ≤ e.2.1) (h1 : e.2.1 ≤ 4000) : zor (eo nm e) (hs nm K : Nat) = eo nm (addE K e) := by
  have a1 := hs_lt nm e.2.2
  have a2 := hs_lt nm K
  have r := eo_R (nm := nm) h0 h1
  rw [zor_nat (by omega) (by omega) (by omega) (by omega), Int.toNat_natCast]
  have e1 : (eo nm e).toNat = e.2.1.toNat <<< 8 ||| hs nm e.2.2 := by
    rw [← Nat.shiftLeft_add_eq_or_of_lt (by omega), Nat.shiftLeft_eq]
    unfold eo
    omega
  rw [e1, Nat.or_assoc, hs_or, ← Nat.shiftLeft_add_eq_or_of_lt (by have := hs_lt nm (fun x => e.2.2 x || K x); omega), Nat.shiftLeft_eq]
  have a3 := hs_lt nm (fun x => e.2.2 x || K x)
  show _ = e.2.1 * 256 + ((hs nm (fun x => e.2.2 x || K x) : Nat) : Int)
  omega
theorem jrow_gw {pl : Int} {l d M : List ETok} (hl : lgw l) (hd : lgw d) (h : jrow pl l d = some M) : lgw M := by
  cases hln : l with
  | nil =>
    rw [hln, jrow_nil] at h
    cases h
    exact hd
  | cons y ys =>
    obtain ⟨k, a, hka⟩ := list_snoc (l := l) (by rw [hln]; simp)
    cases d with
    | nil =>
      unfold jrow at h
      rw [hka] at h
      simp at h
      rw [← h, ← hka]
      exact hl
    | cons b rs =>
      rw [hka, jrow_eq] at h
      cases hj : jt a.1 b.1 with
      | none =>
        rw [hj] at h
        cases h
      | some x =>
        rw [hj] at h
        cases h
        intro z hz
        rcases List.mem_append.mp hz with q | q
        · exact hl z (by rw [hka]; simp [q])
        · rcases List.mem_cons.mp q with q | q
          · rw [q]
            exact jt_gw (hl a (by rw [hka]; simp)) (hd b (by simp)) hj
          · exact hd z (by simp [q])
theorem acc_gw {pl : Int} {l d M : List ETok} {jn : Bool} (hl : lgw l) (hd : lgw d) (h : acc pl l jn d = some M) : lgw M := by
  unfold acc at h
  split at h
  · exact jrow_gw hl hd h
  · cases h
    exact fun z hz => (List.mem_append.mp hz).elim (hl z) (hd z)
theorem jrow_ok {pl : Int} {l d M : List ETok} (p0 : 0 ≤ pl) (p1 : pl ≤ 4000) (hl : loks l) (hd : loks d) (h : jrow pl l d = some M) : loks M := by
  cases hln : l with
  | nil =>
    rw [hln, jrow_nil] at h
    cases h
    exact hd
  | cons y ys =>
    obtain ⟨k, a, hka⟩ := list_snoc (l := l) (by rw [hln]; simp)
    cases d with
    | nil =>
      unfold jrow at h
      rw [hka] at h
      simp at h
      rw [← h, ← hka]
      exact hl
    | cons b rs =>
      rw [hka, jrow_eq] at h
      cases hj : jt a.1 b.1 with
      | none =>
        rw [hj] at h
        cases h
      | some x =>
        rw [hj] at h
        cases h
        intro z hz
        rcases List.mem_append.mp hz with q | q
        · exact hl z (by rw [hka]; simp [q])
        · rcases List.mem_cons.mp q with q | q
          · rw [q]
            exact ⟨jt_pos (hl a (by rw [hka]; simp)).1 (hd b (by simp)).1 hj, p0, p1⟩
          · exact hd z (by simp [q])
theorem acc_ok {pl : Int} {l d M : List ETok} {jn : Bool} (p0 : 0 ≤ pl) (p1 : pl ≤ 4000) (hl : loks l) (hd : loks d) (h : acc pl l jn d = some M) : loks M := by
  unfold acc at h
  split at h
  · exact jrow_ok p0 p1 hl hd h
  · cases h
    exact loks_app hl hd
theorem acc_len {pl : Int} {l d M : List ETok} {jn : Bool} (h : acc pl l jn d = some M) : M.length ≤ l.length + d.length := by
  unfold acc at h
  split at h
  · cases hln : l with
    | nil =>
      rw [hln, jrow_nil] at h
      cases h
      simp
    | cons y ys =>
      obtain ⟨k, a, hka⟩ := list_snoc (l := l) (by rw [hln]; simp)
      cases d with
      | nil =>
        unfold jrow at h
        rw [hka] at h
        simp at h
        rw [← h, ← hln, hka]
        simp
      | cons b rs =>
        rw [hka, jrow_eq] at h
        cases hj : jt a.1 b.1 with
        | none =>
          rw [hj] at h
          cases h
        | some x =>
          rw [hj] at h
          cases h
          rw [← hln, hka, List.length_append, List.length_append]
          simp only [List.length_cons, List.length_nil]
          omega
  · cases h
    rw [List.length_append]
    exact Nat.le_refl _
theorem brow_gw {e : Mac} {as os : List (List ETok)} {pl i : Int} (hb : bg e) (hla : ∀ k, lgw (as.getD k [])) (hlo : ∀ k, lgw (os.getD k [])) (i0 : 0 ≤ i) (i1 : i < e.2.2.2.length) : lgw (brow e as os pl i) := by
  unfold brow
  split
  · intro x hx
    rw [List.mem_singleton.mp hx]
    exact hb.2.2 i i0 i1
  · split
    · exact hla _
    · exact hlo _
theorem rmac_fr {c : Nat → Prop} {S S2 : w_S} {m : Int} {e : Mac} (h : rmac S m e) (f : fr c S S2) (hc : ∀ a, 262 ≤ a → a ≤ 266 → ¬ c a) : rmac S2 m e := ⟨by rw [fr_gL f (hc 262 (by decide) (by decide))]; exact h.1, by rw [fr_gA f (hc 263 (by decide) (by decide))]; exact h.2.1, by rw [fr_gA f (hc 266 (by decide) (by decide))]; exact h.2.2.1, by rw [fr_gL f (hc 264 (by decide) (by decide))]; exact h.2.2.2.1, by rw [fr_gL f (hc 265 (by decide) (by decide))]; exact h.2.2.2.2⟩
theorem hide_r {nm : Nat → Int64} {F : Int64 → Bool} {m : Int} {x : Int64} (h0 : 0 ≤ m) (h8 : m < 8) (hx : nm m.toNat = x) (hz : ¬ x = 0) (hi : ∀ q, q < 8 → nm q = nm m.toNat → q = m.toNat) : zor (zshl 1 m) ((hs nm F : Nat) : Int) = (hs nm (fun y => F y || decide (y = x)) : Nat) := by
  have h3 := hs_lt nm F
  have h4 : (1 : Nat) <<< m.toNat = hs nm (fun y => decide (y = x)) := by
    rw [← hx]
    exact hs_one (by omega) (by rw [hx]; exact hz) hi
  have h5 := hs_lt nm (fun y => decide (y = x))
  have h6 : zshl 1 m = ((hs nm (fun y => decide (y = x)) : Nat) : Int) := by
    rw [zshl_nat (by decide) (by decide) h0 (by omega) (by show (1 : Nat) <<< m.toNat < _; rw [h4]; omega), ← h4]
    rfl
  rw [h6, zor_nat (by omega) (by omega) (by omega) (by omega), Int.toNat_natCast, Int.toNat_natCast, Nat.or_comm, hs_or]
theorem fw_at {nm : Nat → Int64} {X : Int → Int64} {O : Int → Int} {i : Int} {d1 d3 : List ETok} {x : ETok} (h : fw nm X O i (d1 ++ x :: d3)) : X (i + d1.length) = x.1 ∧ O (i + d1.length) = eo nm x := by
  have q := ((fw_app d1 (x :: d3) i).mp h).2
  exact ⟨q.1, q.2.1⟩
theorem fw_last {nm : Nat → Int64} {X : Int → Int64} {O : Int → Int} {k : List ETok} {a y : ETok} {n : Int} (h : fw nm X O 0 (k ++ [a])) (hn : n = k.length) : fw nm (w_u X n y.1) (w_u O n (eo nm y)) 0 (k ++ [y]) := by
  have q := ((fw_app k [a] 0).mp h).1
  subst hn
  have z := fw_snoc (e := y) q
  rw [Int.zero_add] at z
  exact z
theorem krow {nm : Nat → Int64} {X Y : Int → Int64} {O Q R G : Int → Int} {e : Mac} {as os : List (List ETok)} {pl b i ax : Int} {nr : Bool} (hsa : seg nm X O R (4 * i) as) (hso : seg nm Y Q G (4 * i) os) (hca : e.2.2.1.length = as.length) (hco : e.2.2.1.length = os.length) (r0 : 0 ≤ R (4 * i)) (r1 : R (4 * i + as.length) ≤ 1201) (g0 : 0 ≤ G (4 * i)) (g1 : G (4 * i + os.length) ≤ 2561) (hax : lix e.2.2.1 (lg e.2.2.2 b) = ax) (hnr : nr = (pas e.2.2.2 (b - 1) || pas e.2.2.2 (b + 1))) : (ax < 0 → brow e as os pl b = [(lg e.2.2.2 b, pl, fun _ => false)]) ∧ (0 ≤ ax → nr = true → fw nm X O (R (4 * i + ax)) (brow e as os pl b) ∧ R (4 * i + ax + 1) = R (4 * i + ax) + (brow e as os pl b).length ∧ 0 ≤ R (4 * i + ax) ∧ R (4 * i + ax + 1) ≤ 1201) ∧ (0 ≤ ax → nr = false → fw nm Y Q (G (4 * i + ax)) (brow e as os pl b) ∧ G (4 * i + ax + 1) = G (4 * i + ax) + (brow e as os pl b).length ∧ 0 ≤ G (4 * i + ax) ∧ G (4 * i + ax + 1) ≤ 2561) := by
  have hr := lix_r e.2.2.1 (lg e.2.2.2 b)
  rw [hax] at hr
  refine ⟨fun h => ?_, fun h h2 => ?_, fun h h2 => ?_⟩
  · unfold brow
    rw [hax, if_pos h]
  · have hb : brow e as os pl b = as.getD ax.toNat [] := by
      unfold brow
      rw [hax, if_neg (by omega), if_pos (by rw [hnr, Bool.or_eq_true] at h2; exact h2)]
    have q := seg_get as (4 * i) ax.toNat hsa (by omega)
    have q2 := seg_n as (4 * i) ax.toNat hsa (by omega)
    have q3 := seg_m hsa (k := ax.toNat) (by omega)
    rw [Int.toNat_of_nonneg h] at q q2 q3
    rw [hb]
    exact ⟨q.1, q.2, by omega, by omega⟩
  · have hb : brow e as os pl b = os.getD ax.toNat [] := by
      unfold brow
      rw [hax, if_neg (by omega), if_neg (by rw [hnr] at h2; intro z; rw [← Bool.or_eq_true, h2] at z; exact absurd z (by decide))]
    have q := seg_get os (4 * i) ax.toNat hso (by omega)
    have q2 := seg_n os (4 * i) ax.toNat hso (by omega)
    have q3 := seg_m hso (k := ax.toNat) (by omega)
    rw [Int.toNat_of_nonneg h] at q q2 q3
    rw [hb]
    exact ⟨q.1, q.2, by omega, by omega⟩
set_option maxRecDepth 6000 in
theorem r_repl_c {sc : x_S} {d : Nat} {S : w_S} {nm : Nat → Int64} {i m : Int} {e : Mac} {t c : ETok} {as os : List (List ETok)} (hi : sv S 249 46 = i) (i0 : 0 ≤ i) (i1 : i < 31) (hm0 : sA S 279 i = m) (m0 : 0 ≤ m) (m8 : m < 8) (hk : rmac S m e) (ho : mok e) (hbg : bg e) (hf : sA S 280 i = eo nm t) (ot : eok t) (hcs : zand (zand (eo nm t) (sA S 281 i)) 255 = (hs nm (fun y => t.2.2 y && c.2.2 y) : Nat)) (hnm : nm m.toNat = e.1) (hinj : ∀ q, q < 8 → nm q = nm m.toNat → q = m.toNat) (hnz : ¬ e.1 = 0) (hsa : seg nm (sL S 273) (sA S 274) (sA S 283) (4 * i) as) (hso : seg nm (sL S 271) (sA S 272) (sA S 284) (4 * i) os) (hca : e.2.2.1.length = as.length) (hco : e.2.2.1.length = os.length) (r0 : 0 ≤ sA S 283 (4 * i)) (r1 : sA S 283 (4 * i + as.length) ≤ 1201) (g0 : 0 ≤ sA S 284 (4 * i)) (g1 : sA S 284 (4 * i + os.length) ≤ 2561) (ha4 : ∀ k, (as.getD k []).length ≤ 40) (ho4 : ∀ k, (os.getD k []).length ≤ 40) (hla : ∀ k, loks (as.getD k [])) (hlo : ∀ k, loks (os.getD k [])) (hga : ∀ k, lgw (as.getD k [])) (hgo : ∀ k, lgw (os.getD k [])) (c0 : 0 ≤ sv S 249 29) (c1 : sv S 249 29 ≤ 1321) (hd : 3 ≤ d) : ∀ n : Nat, (∀ (nn : Int) (ch : Int) (b : Int) (mm : Nat) (l : List ETok) (U : w_S) (lv : x_L) (l0 : lv 0 = some (.ref 249)) (l1 : lv 1 = some (.int (iZ m))) (l2 : lv 2 = some (.int (iZ nn))) (l3 : lv 3 = some (.int (iZ ch))) (l4 : lv 4 = some (.int (iZ b))) (hfr : fr (fun a => a = 275 ∨ a = 276) S U) (hz : nn = l.length) (hw : fw nm (sL U 275) (sA U 276) 0 l) (hlk : loks l) (hgl0 : lgw l) (b0 : 0 ≤ b) (hlb : (l.length : Int) ≤ 40 * b) (ch0 : 0 ≤ ch) (ch1 : ch ≤ 480) (b1 : b ≤ e.2.2.2.length) (hmm : (e.2.2.2.length : Int) - b ≤ mm) (he : mkr e as os t.2.1 mm (b + zB (pas e.2.2.2 b)) l ch = mkr e as os t.2.1 13 0 [] 0) (hm : 600 * (14 - b).toNat < n), w_T sc d 143 17 lv [] U (fun v S2 => v = some (.int (iZ (mrep e as os t.2.1).1)) ∧ fr (fun a => a = 249 ∨ a = 269 ∨ a = 270 ∨ a = 275 ∨ a = 276) S S2 ∧ (∀ k, ¬ (k = 29 ∨ k = 32 ∨ k = 35) → sv S2 249 k = sv S 249 k) ∧ ((mrep e as os t.2.1).1 = 0 → sv S2 249 29 = sv S 249 29 + (mrep e as os t.2.1).2.length ∧ bw nm (sL S2 269) (sA S2 270) (sv S 249 29 + (mrep e as os t.2.1).2.length) ((mrep e as os t.2.1).2.map (addE (xhid e t c))) ∧ (∀ j, j < sv S 249 29 → sL S2 269 j = sL S 269 j ∧ sA S2 270 j = sA S 270 j) ∧ sv S2 249 35 = sA S 283 (4 * i) ∧ sv S2 249 32 = sA S 284 (4 * i)))) ∧ (∀ (nn : Int) (ch2 : Int) (b : Int) (w : Int64) (nr : Bool) (ax : Int) (lo : Int) (hx : Int) (jn : Bool) (k : Int) (mf : Nat) (l : List ETok) (M : List ETok) (d1 : List ETok) (d2 : List ETok) (U : w_S) (lv : x_L) (l0 : lv 0 = some (.ref 249)) (l1 : lv 1 = some (.int (iZ m))) (l2 : lv 2 = some (.int (iZ nn))) (l3 : lv 3 = some (.int (iZ ch2))) (l4 : lv 4 = some (.int (iZ b))) (l5 : lv 5 = some (.long w)) (l8 : lv 8 = some (.int (iZ (zB nr)))) (l9 : lv 9 = some (.int (iZ ax))) (l10 : lv 10 = some (.int (iZ lo))) (l11 : lv 11 = some (.int (iZ hx))) (l12 : lv 12 = some (.int (iZ (zB jn)))) (l13 : lv 13 = some (.int (iZ k))) (hfr : fr (fun a => a = 275 ∨ a = 276) S U) (hz : nn = M.length) (hw : fw nm (sL U 275) (sA U 276) 0 M) (b0 : 0 ≤ b) (b1 : b < e.2.2.2.length) (hnp : pas e.2.2.2 b = false) (hwb : w = lg e.2.2.2 b) (hax : lix e.2.2.1 (lg e.2.2.2 b) = ax) (hnr : nr = (pas e.2.2.2 (b - 1) || pas e.2.2.2 (b + 1))) (hlo2 : lo = if 0 ≤ ax then (if nr = false then sA S 284 (4 * i + ax) else sA S 283 (4 * i + ax)) else 0) (hhi2 : hx = if 0 ≤ ax then (if nr = false then sA S 284 (4 * i + ax + 1) else sA S 283 (4 * i + ax + 1)) else 1) (hsp : brow e as os t.2.1 b = d1 ++ d2) (hkd : k = lo + d1.length) (hac : acc t.2.1 l jn d1 = some M) (hlk : loks l) (hgl0 : lgw l) (hlb : (l.length : Int) ≤ 40 * b) (hjl : jn = true → 0 < l.length) (ch0 : 0 ≤ ch2) (ch1 : ch2 ≤ 480) (hmm : (e.2.2.2.length : Int) - (b + 1) ≤ mf) (he : (∀ M2, acc t.2.1 l jn (brow e as os t.2.1 b) = some M2 → mkr e as os t.2.1 mf (b + 1 + zB (pas e.2.2.2 (b + 1))) M2 ch2 = mkr e as os t.2.1 13 0 [] 0) ∧ (acc t.2.1 l jn (brow e as os t.2.1 b) = none → mkr e as os t.2.1 13 0 [] 0 = none)) (hm : 600 * (14 - b).toNat - 1 - d1.length < n), w_T sc d 143 269 lv [] U (fun v S2 => v = some (.int (iZ (mrep e as os t.2.1).1)) ∧ fr (fun a => a = 249 ∨ a = 269 ∨ a = 270 ∨ a = 275 ∨ a = 276) S S2 ∧ (∀ k, ¬ (k = 29 ∨ k = 32 ∨ k = 35) → sv S2 249 k = sv S 249 k) ∧ ((mrep e as os t.2.1).1 = 0 → sv S2 249 29 = sv S 249 29 + (mrep e as os t.2.1).2.length ∧ bw nm (sL S2 269) (sA S2 270) (sv S 249 29 + (mrep e as os t.2.1).2.length) ((mrep e as os t.2.1).2.map (addE (xhid e t c))) ∧ (∀ j, j < sv S 249 29 → sL S2 269 j = sL S 269 j ∧ sA S2 270 j = sA S 270 j) ∧ sv S2 249 35 = sA S 283 (4 * i) ∧ sv S2 249 32 = sA S 284 (4 * i)))) ∧ (∀ (k : Int) (ka : List ETok) (kb : List ETok) (U : w_S) (lv : x_L) (l0 : lv 0 = some (.ref 249)) (l4 : lv 4 = some (.int (iZ (((hs nm (xhid e t c) : Nat) : Int))))) (l5 : lv 5 = some (.int (iZ k))) (hfr : fr (fun a => a = 249 ∨ a = 269 ∨ a = 270 ∨ a = 275 ∨ a = 276) S U) (h9 : ∀ k, ¬ (k = 29 ∨ k = 32 ∨ k = 35) → sv U 249 k = sv S 249 k) (hmr : (mrep e as os t.2.1) = (0, ka ++ kb)) (hw : fw nm (sL U 275) (sA U 276) 0 (ka ++ kb)) (hlk : loks (ka ++ kb)) (hl40 : ((ka ++ kb).length : Int) ≤ 40) (hka : (ka.length : Int) = k + 1) (hzz : sv U 249 29 = sv S 249 29 + kb.length) (hb : bw nm (sL U 269) (sA U 270) (sv U 249 29) (kb.map (addE (xhid e t c)))) (hlow : ∀ j, j < sv S 249 29 → sL U 269 j = sL S 269 j ∧ sA U 270 j = sA S 270 j) (h35 : sv U 249 35 = sA S 283 (4 * i)) (h32 : sv U 249 32 = sA S 284 (4 * i)) (hm : (k + 1).toNat < n), w_T sc d 143 490 lv [] U (fun v S2 => v = some (.int (iZ (mrep e as os t.2.1).1)) ∧ fr (fun a => a = 249 ∨ a = 269 ∨ a = 270 ∨ a = 275 ∨ a = 276) S S2 ∧ (∀ k, ¬ (k = 29 ∨ k = 32 ∨ k = 35) → sv S2 249 k = sv S 249 k) ∧ ((mrep e as os t.2.1).1 = 0 → sv S2 249 29 = sv S 249 29 + (mrep e as os t.2.1).2.length ∧ bw nm (sL S2 269) (sA S2 270) (sv S 249 29 + (mrep e as os t.2.1).2.length) ((mrep e as os t.2.1).2.map (addE (xhid e t c))) ∧ (∀ j, j < sv S 249 29 → sL S2 269 j = sL S 269 j ∧ sA S2 270 j = sA S 270 j) ∧ sv S2 249 35 = sA S 283 (4 * i) ∧ sv S2 249 32 = sA S 284 (4 * i)))) := by
  intro n
  induction n with
  | zero => exact ⟨fun nn ch b mm l U lv l0 l1 l2 l3 l4 hfr hz hw hlk hgl0 b0 hlb ch0 ch1 b1 hmm he hm => absurd hm (Nat.not_lt_zero _), fun nn ch2 b w nr ax lo hx jn k mf l M d1 d2 U lv l0 l1 l2 l3 l4 l5 l8 l9 l10 l11 l12 l13 hfr hz hw b0 b1 hnp hwb hax hnr hlo2 hhi2 hsp hkd hac hlk hgl0 hlb hjl ch0 ch1 hmm he hm => absurd hm (Nat.not_lt_zero _), fun k ka kb U lv l0 l4 l5 hfr h9 hmr hw hlk hl40 hka hzz hb hlow h35 h32 hm => absurd hm (Nat.not_lt_zero _)⟩
  | succ n ih =>
    refine ⟨?_, ?_, ?_⟩
    · skip
      intro nn ch b mm l U lv l0 l1 l2 l3 l4 hfr hz hw hlk hgl0 b0 hlb ch0 ch1 b1 hmm he hm
      have kmac : rmac U m e := rmac_fr hk hfr (by omega)
      have e46 : sv U 249 46 = i := by rw [fr_gv hfr (by omega)]; exact hi
      have e279 : sA U 279 i = m := by rw [fr_gA hfr (by omega)]; exact hm0
      have e266 : sA U 266 m = e.2.2.2.length := by rw [fr_gA hfr (by omega)]; exact hk.2.2.1
      have e265 : sL U 265 = sL S 265 := fr_gL hfr (by omega)
      have e280 : sA U 280 i = eo nm t := by rw [fr_gA hfr (by omega)]; exact hf
      have e283 : sA U 283 = sA S 283 := fr_gA hfr (by omega)
      have e284 : sA U 284 = sA S 284 := fr_gA hfr (by omega)
      have e273 : sL U 273 = sL S 273 := fr_gL hfr (by omega)
      have e274 : sA U 274 = sA S 274 := fr_gA hfr (by omega)
      have e271 : sL U 271 = sL S 271 := fr_gL hfr (by omega)
      have e272 : sA U 272 = sA S 272 := fr_gA hfr (by omega)
      have h12 := ho.2.1
      have h3 := ho.1
      have hRt := eo_R (nm := nm) ot.2.1 ot.2.2
      refine w_iload rfl l4 rfl ?_
      refine w_aload_n rfl l0 rfl ?_
      refine w_getR rfl rfl sh_249 rfl rfl ?_
      refine w_iload_n rfl l1 rfl ?_
      refine w_iald (z := sA U 266 m) rfl sh_266 (by omega) (by omega) (by decide) rfl rfl ?_
      refine w_ic_ge (pc2 := 417) (pc3 := 28) rfl (by decide) rfl ⟨by omega, by omega⟩ ⟨by omega, by omega⟩ (fun c25 => ?_) (fun c25 => ?_)
      · skip
        have hzb := zB_0 (pas e.2.2.2 b)
        rw [mkr_0 (by omega)] at he
        refine w_iload_n rfl l2 rfl ?_
        refine w_bipush rfl (by decide) rfl ?_
        refine w_ic_le (pc2 := 426) (pc3 := 423) rfl (by decide) rfl ⟨by omega, by omega⟩ ⟨by decide, by decide⟩ (fun c420 => ?_) (fun c420 => ?_)
        · skip
          have hmr : (mrep e as os t.2.1) = (0, l) := by
            unfold mrep
            rw [← he]
            show (if 40 < (l.length : Int) then _ else _) = _
            rw [if_neg (by omega)]
          have e281 : sA U 281 = sA S 281 := fr_gA hfr (by omega)
          have hhd : zor (zshl 1 m) (zand (zand (sA U 280 (sv U 249 46)) (sA U 281 (sv U 249 46))) 255) = ((hs nm (xhid e t c) : Nat) : Int) := by
            rw [e46, e280, e281, hcs]
            exact hide_r m0 m8 hnm hnz hinj
          refine w_iconst rfl rfl ?_
          refine w_iload_n rfl l1 rfl ?_
          refine w_zshl rfl rfl ?_
          refine w_aload_n rfl l0 rfl ?_
          refine w_getR rfl rfl sh_249 rfl rfl ?_
          refine w_aload_n rfl l0 rfl ?_
          refine w_getI (z := sv U 249 46) rfl rfl sh_249 rfl rfl rfl ?_
          refine w_iald (z := sA U 280 (sv U 249 46)) rfl sh_280 (by omega) (by omega) (by decide) rfl rfl ?_
          refine w_aload_n rfl l0 rfl ?_
          refine w_getR rfl rfl sh_249 rfl rfl ?_
          refine w_aload_n rfl l0 rfl ?_
          refine w_getI (z := sv U 249 46) rfl rfl sh_249 rfl rfl rfl ?_
          refine w_iald (z := sA U 281 (sv U 249 46)) rfl sh_281 (by omega) (by omega) (by decide) rfl rfl ?_
          refine w_zand rfl rfl ?_
          refine w_sipush rfl (by decide) rfl ?_
          refine w_zand rfl rfl ?_
          refine w_zor rfl rfl ?_
          rw [hhd]
          refine w_istore rfl (by decide) rfl ?_
          refine w_aload_n rfl l0 rfl ?_
          refine w_aload_n rfl l0 rfl ?_
          refine w_getR rfl rfl sh_249 rfl rfl ?_
          refine w_iconst rfl rfl ?_
          refine w_aload_n rfl l0 rfl ?_
          refine w_getI (z := sv U 249 46) rfl rfl sh_249 rfl rfl rfl ?_
          refine w_imul rfl rfl ?_
          refine w_iald (z := sA U 283 (4 * (sv U 249 46))) rfl sh_283 (by omega) (by omega) (by decide) rfl rfl ?_
          refine w_putf rfl rfl sh_249 rfl rfl (by decide) rfl ?_
          refine w_aload_n rfl l0 rfl ?_
          refine w_aload_n rfl l0 rfl ?_
          refine w_getR rfl rfl sh_249 rfl rfl ?_
          refine w_iconst rfl rfl ?_
          refine w_aload_n rfl l0 rfl ?_
          refine w_getI (z := sv U 249 46) rfl rfl sh_249 rfl (rv_ne (by decide)) rfl ?_
          refine w_imul rfl rfl ?_
          refine w_iald (z := sA U 284 (4 * (sv U 249 46))) rfl sh_284 (by omega) (by omega) (by decide) rfl rfl ?_
          refine w_putf rfl rfl sh_249 rfl rfl (by decide) rfl ?_
          refine w_iload_n rfl l2 rfl ?_
          refine w_iconst rfl rfl ?_
          refine w_isub rfl rfl ?_
          refine w_istore rfl (by decide) rfl ?_
          exact ih.2.2 (nn - 1) l ([]) _ _ l0 rfl rfl (by exact (fr_v (fr_v (fr_mono hfr (by omega)) (by omega)) (by omega))) (by intro k hk; simp (disch := omega) only [rv_self, rv_ne, rl_self, rl_ne, rA_self, rA_ne, rL_self, rL_ne, rR_self, rR_ne, xvl, xvA, xvL, xvR, xlv, xlA, xlL, xlR, xAv, xAl, xAL, xAR, xLv, xLl, xLA, xLR, xRv, xRl, xRA, xRL]; rw [fr_gv hfr (by omega)]) (by rw [List.append_nil]; exact hmr) (by rw [List.append_nil]; simp (disch := omega) only [rv_self, rv_ne, rl_self, rl_ne, rA_self, rA_ne, rL_self, rL_ne, rR_self, rR_ne, xvl, xvA, xvL, xvR, xlv, xlA, xlL, xlR, xAv, xAl, xAL, xAR, xLv, xLl, xLA, xLR, xRv, xRl, xRA, xRL]; exact hw) (by rw [List.append_nil]; exact hlk) (by rw [List.append_nil]; omega) (by omega) (by simp (disch := omega) only [rv_self, rv_ne, rl_self, rl_ne, rA_self, rA_ne, rL_self, rL_ne, rR_self, rR_ne, xvl, xvA, xvL, xvR, xlv, xlA, xlL, xlR, xAv, xAl, xAL, xAR, xLv, xLl, xLA, xLR, xRv, xRl, xRA, xRL]; rw [fr_gv hfr (by omega), List.length_nil]; simp) (by exact trivial) (by intro j hj; simp (disch := omega) only [rv_self, rv_ne, rl_self, rl_ne, rA_self, rA_ne, rL_self, rL_ne, rR_self, rR_ne, xvl, xvA, xvL, xvR, xlv, xlA, xlL, xlR, xAv, xAl, xAL, xAR, xLv, xLl, xLA, xLR, xRv, xRl, xRA, xRL]; rw [fr_gL hfr (by omega), fr_gA hfr (by omega)]; exact ⟨rfl, rfl⟩) (by simp (disch := omega) only [rv_self, rv_ne, rl_self, rl_ne, rA_self, rA_ne, rL_self, rL_ne, rR_self, rR_ne, xvl, xvA, xvL, xvR, xlv, xlA, xlL, xlR, xAv, xAl, xAL, xAR, xLv, xLl, xLA, xLR, xRv, xRl, xRA, xRL]; rw [e283, e46]) (by simp (disch := omega) only [rv_self, rv_ne, rl_self, rl_ne, rA_self, rA_ne, rL_self, rL_ne, rR_self, rR_ne, xvl, xvA, xvL, xvR, xlv, xlA, xlL, xlR, xAv, xAl, xAL, xAR, xLv, xLl, xLA, xLR, xRv, xRl, xRA, xRL]; rw [e284, e46]) (by omega)
        · skip
          refine w_bipush rfl (by decide) rfl ?_
          refine w_iret rfl rfl ?_
          have hmr : (mrep e as os t.2.1) = (7, []) := by
            unfold mrep
            rw [← he]
            show (if 40 < (l.length : Int) then _ else _) = _
            rw [if_pos (by omega)]
          rw [hmr]
          exact ⟨rfl, fr_mono hfr (by omega), fun k hk => fr_gv hfr (by omega) k, fun z => absurd z (by show ¬ (7 : Int) = 0; decide)⟩
      · skip
        have hwb0 : sL U 265 (12 * m + b) = lg e.2.2.2 b := by rw [e265]; exact hk.2.2.2.2 b b0 (by omega)
        obtain ⟨mf, rfl⟩ : ∃ mf, mm = mf + 1 := ⟨mm - 1, by omega⟩
        refine w_aload_n rfl l0 rfl ?_
        refine w_getR rfl rfl sh_249 rfl rfl ?_
        refine w_bipush rfl (by decide) rfl ?_
        refine w_iload_n rfl l1 rfl ?_
        refine w_imul rfl rfl ?_
        refine w_iload rfl l4 rfl ?_
        refine w_iadd rfl rfl ?_
        refine w_lald (z := sL U 265 ((12 * m) + b)) rfl sh_265 (by omega) (by omega) (by decide) rfl rfl ?_
        rw [hwb0]
        refine w_lstore rfl (by decide) rfl ?_
        refine w_iload rfl (congrArg x_k2 l4) rfl ?_
        apply w_jn (A := w_T _ _ 143 73 _ [.int (iZ (zB (decide (0 < b ∧ (sL U 265 (((12 * m) + b) - 1)) = 4515))))] _ _)
        · intro kT
          refine w_if_le (pc2 := 72) (pc3 := 47) rfl (by decide) rfl ⟨by omega, by omega⟩ (fun q1 => ?_) (fun q1 => ?_)
          · skip
            refine w_iconst rfl rfl ?_
            exact w_j0 (p := 0 < b ∧ (sL U 265 (((12 * m) + b) - 1)) = 4515) (fun q => (Int.not_lt.mpr q1) q.1) kT
          · skip
            refine w_aload_n rfl l0 rfl ?_
            refine w_getR rfl rfl sh_249 rfl rfl ?_
            refine w_bipush rfl (by decide) rfl ?_
            refine w_iload_n rfl l1 rfl ?_
            refine w_imul rfl rfl ?_
            refine w_iload rfl (congrArg x_k2 l4) rfl ?_
            refine w_iadd rfl rfl ?_
            refine w_iconst rfl rfl ?_
            refine w_isub rfl rfl ?_
            refine w_lald (z := sL U 265 (((12 * m) + b) - 1)) rfl sh_265 (by omega) (by omega) (by decide) rfl rfl ?_
            refine w_ldc2 (v := 4515) rfl rfl rfl ?_
            refine w_l_ne (pc2 := 72) (pc3 := 68) rfl rfl (by decide) rfl (fun q2 => ?_) (fun q2 => ?_)
            · skip
              refine w_iconst rfl rfl ?_
              exact w_j0 (p := 0 < b ∧ (sL U 265 (((12 * m) + b) - 1)) = 4515) (fun q => q2 q.2) kT
            · skip
              refine w_iconst rfl rfl ?_
              refine w_goto (pc2 := 73) rfl (by decide) ?_
              exact w_j1 (p := 0 < b ∧ (sL U 265 (((12 * m) + b) - 1)) = 4515) ⟨q1, q2⟩ kT
        · show w_T _ _ 143 73 _ [.int (iZ (zB (decide (0 < b ∧ (sL U 265 (((12 * m) + b) - 1)) = 4515))))] _ _
          generalize hgl : (decide (0 < b ∧ (sL U 265 (((12 * m) + b) - 1)) = 4515)) = gl
          have hgl2 : gl = pas e.2.2.2 (b - 1) := by
            rw [← hgl]
            refine decide_eq_decide.mpr ⟨fun z => ⟨by omega, by omega, ?_⟩, fun z => ⟨by omega, ?_⟩⟩
            · rw [← hk.2.2.2.2 (b - 1) (by omega) (by omega), ← e265, show 12 * m + (b - 1) = 12 * m + b - 1 by omega]
              exact z.2
            · rw [e265, show 12 * m + b - 1 = 12 * m + (b - 1) by omega, hk.2.2.2.2 (b - 1) (by omega) (by omega)]
              exact z.2.2
          refine w_istore rfl (by decide) rfl ?_
          refine w_iload rfl rfl rfl ?_
          apply w_jn (A := w_T _ _ 143 119 _ [.int (iZ (zB (decide (gl = true ∨ (b + 1 < sA U 266 m ∧ (sL U 265 (((12 * m) + b) + 1)) = 4515)))))] _ _)
          · intro kT
            refine w_b_ne (pc2 := 114) (pc3 := 80) rfl (by decide) rfl (fun q3 => ?_) (fun q3 => ?_)
            · skip
              refine w_iconst rfl rfl ?_
              refine w_goto (pc2 := 119) rfl (by decide) ?_
              exact w_j1 (p := gl = true ∨ (b + 1 < sA U 266 m ∧ (sL U 265 (((12 * m) + b) + 1)) = 4515)) (Or.inl q3) kT
            · skip
              refine w_iload rfl (congrArg x_k2 l4) rfl ?_
              refine w_iconst rfl rfl ?_
              refine w_iadd rfl rfl ?_
              refine w_aload_n rfl l0 rfl ?_
              refine w_getR rfl rfl sh_249 rfl rfl ?_
              refine w_iload_n rfl l1 rfl ?_
              refine w_iald (z := sA U 266 m) rfl sh_266 (by omega) (by omega) (by decide) rfl rfl ?_
              refine w_ic_ge (pc2 := 118) (pc3 := 93) rfl (by decide) rfl ⟨by omega, by omega⟩ ⟨by omega, by omega⟩ (fun q4 => ?_) (fun q4 => ?_)
              · skip
                refine w_iconst rfl rfl ?_
                exact w_j0 (p := gl = true ∨ (b + 1 < sA U 266 m ∧ (sL U 265 (((12 * m) + b) + 1)) = 4515)) (not_or.mpr ⟨(Bool.eq_false_iff.mp q3), (fun q => (Int.not_lt.mpr q4) q.1)⟩) kT
              · skip
                refine w_aload_n rfl l0 rfl ?_
                refine w_getR rfl rfl sh_249 rfl rfl ?_
                refine w_bipush rfl (by decide) rfl ?_
                refine w_iload_n rfl l1 rfl ?_
                refine w_imul rfl rfl ?_
                refine w_iload rfl (congrArg x_k2 l4) rfl ?_
                refine w_iadd rfl rfl ?_
                refine w_iconst rfl rfl ?_
                refine w_iadd rfl rfl ?_
                refine w_lald (z := sL U 265 (((12 * m) + b) + 1)) rfl sh_265 (by omega) (by omega) (by decide) rfl rfl ?_
                refine w_ldc2 (v := 4515) rfl rfl rfl ?_
                refine w_l_ne (pc2 := 118) (pc3 := 114) rfl rfl (by decide) rfl (fun q5 => ?_) (fun q5 => ?_)
                · skip
                  refine w_iconst rfl rfl ?_
                  exact w_j0 (p := gl = true ∨ (b + 1 < sA U 266 m ∧ (sL U 265 (((12 * m) + b) + 1)) = 4515)) (not_or.mpr ⟨(Bool.eq_false_iff.mp q3), (fun q => q5 q.2)⟩) kT
                · skip
                  refine w_iconst rfl rfl ?_
                  refine w_goto (pc2 := 119) rfl (by decide) ?_
                  exact w_j1 (p := gl = true ∨ (b + 1 < sA U 266 m ∧ (sL U 265 (((12 * m) + b) + 1)) = 4515)) (Or.inr ⟨q4, q5⟩) kT
          · show w_T _ _ 143 119 _ [.int (iZ (zB (decide (gl = true ∨ (b + 1 < sA U 266 m ∧ (sL U 265 (((12 * m) + b) + 1)) = 4515)))))] _ _
            generalize hnr : (decide (gl = true ∨ (b + 1 < sA U 266 m ∧ (sL U 265 (((12 * m) + b) + 1)) = 4515))) = nr
            have hnr2 : nr = (pas e.2.2.2 (b - 1) || pas e.2.2.2 (b + 1)) := by
              rw [← hnr, hgl2, Bool.eq_iff_iff, decide_eq_true_eq, Bool.or_eq_true]
              refine or_congr Iff.rfl ?_
              unfold pas
              rw [decide_eq_true_eq]
              refine ⟨fun z => ⟨by omega, by omega, ?_⟩, fun z => ⟨by omega, ?_⟩⟩
              · rw [← hk.2.2.2.2 (b + 1) (by omega) (by omega), ← e265, show 12 * m + (b + 1) = 12 * m + b + 1 by omega]
                exact z.2
              · rw [e265, show 12 * m + b + 1 = 12 * m + (b + 1) by omega, hk.2.2.2.2 (b + 1) (by omega) (by omega)]
                exact z.2.2
            refine w_istore rfl (by decide) rfl ?_
            refine w_aload_n rfl l0 rfl ?_
            refine w_iload_n rfl l1 rfl ?_
            refine w_lload rfl rfl rfl ?_
            refine w_CV (as := [.int (iZ m), .long (lg e.2.2.2 b)]) (r := []) rfl rfl rfl rfl sh_249 (Nat.le_of_ble_eq_true rfl) (Nat.le_of_ble_eq_true rfl) (by omega) rfl (r_which (S := U) (m := m) (e := e) (x := lg e.2.2.2 b) m0 m8 kmac ho (by omega)) ?_
            rintro _ _ ⟨rfl, hS⟩
            rw [hS]
            show w_T _ _ 143 128 _ [.int (iZ (lix e.2.2.1 (lg e.2.2.2 b)))] _ _
            generalize hax : (lix e.2.2.1 (lg e.2.2.2 b)) = ax
            have hlr := lix_r e.2.2.1 (lg e.2.2.2 b)
            rw [hax] at hlr
            refine w_istore rfl (by decide) rfl ?_
            refine w_lload rfl rfl rfl ?_
            refine w_ldc2 (v := 4515) rfl rfl rfl ?_
            refine w_l_eq (pc2 := 411) (pc3 := 139) rfl rfl (by decide) rfl (fun c136 => ?_) (fun c136 => ?_)
            · skip
              have hpb : pas e.2.2.2 b = true := decide_eq_true ⟨b0, by omega, c136⟩
              refine w_iinc rfl (congrArg x_k2 l4) (by decide) rfl ?_
              refine w_goto (pc2 := 17) rfl (by decide) ?_
              exact ih.1 nn ch (b + 1) ((mf + 1)) l _ _ (by exact l0) (by exact l1) (by exact l2) (by exact (congrArg x_k2 l3)) (by exact rfl) (by exact hfr) (by exact hz) (by exact hw) (by exact hlk) (by exact hgl0) (by omega) (by omega) (by omega) (by omega) (by omega) (by omega) (by rw [hpb] at he; have hp2 := hbg.2.1 b hpb; rw [hp2]; rw [show b + 1 + zB false = b + zB true by show b + 1 + 0 = b + 1; omega]; exact he) (by omega)
            · skip
              have hpb : pas e.2.2.2 b = false := decide_eq_false (fun z => c136 z.2.2)
              refine w_iload rfl rfl rfl ?_
              apply w_jn (A := w_T _ _ 143 149 _ [.int (iZ (if gl = false then nn else ch))] _ _)
              · intro kT
                refine w_b_eq (pc2 := 148) (pc3 := 144) rfl (by decide) rfl (fun q6 => ?_) (fun q6 => ?_)
                · skip
                  refine w_iload_n rfl l2 rfl ?_
                  exact w_ji1 (p := gl = false) (a := nn) (b := ch) q6 kT
                · skip
                  refine w_iload_n rfl l3 rfl ?_
                  refine w_goto (pc2 := 149) rfl (by decide) ?_
                  exact w_ji0 (p := gl = false) (a := nn) (b := ch) (fun q => Bool.noConfusion ((q6).symm.trans q)) kT
              · show w_T _ _ 143 149 _ [.int (iZ (if gl = false then nn else ch))] _ _
                generalize hch2 : (if gl = false then nn else ch) = ch2
                have hch3 : ch2 = if pas e.2.2.2 (b - 1) = true then ch else l.length := by
                  rw [← hch2, ← hgl2]
                  cases gl
                  · rw [if_pos rfl, if_neg (by decide)]
                    exact hz
                  · rw [if_neg (by decide), if_pos rfl]
                have hch4 : 0 ≤ ch2 ∧ ch2 ≤ 480 := by
                  rw [hch3]
                  split <;> omega
                have krx := krow (pl := t.2.1) (b := b) hsa hso hca hco r0 r1 g0 g1 hax hnr2
                refine w_istore_n rfl (by decide) rfl ?_
                refine w_iload rfl rfl rfl ?_
                apply w_jn (A := w_T _ _ 143 195 _ [.int (iZ (if 0 ≤ ax then (if nr = false then sA U 284 ((4 * (sv U 249 46)) + ax) else sA U 283 ((4 * (sv U 249 46)) + ax)) else 0))] _ _)
                · intro kT
                  refine w_if_ge (pc2 := 159) (pc3 := 155) rfl (by decide) rfl ⟨by omega, by omega⟩ (fun q7 => ?_) (fun q7 => ?_)
                  · skip
                    refine w_iload rfl rfl rfl ?_
                    refine w_b_eq (pc2 := 181) (pc3 := 164) rfl (by decide) rfl (fun q8 => ?_) (fun q8 => ?_)
                    · skip
                      refine w_aload_n rfl l0 rfl ?_
                      refine w_getR rfl rfl sh_249 rfl rfl ?_
                      refine w_iconst rfl rfl ?_
                      refine w_aload_n rfl l0 rfl ?_
                      refine w_getI (z := sv U 249 46) rfl rfl sh_249 rfl rfl rfl ?_
                      refine w_imul rfl rfl ?_
                      refine w_iload rfl rfl rfl ?_
                      refine w_iadd rfl rfl ?_
                      refine w_iald (z := sA U 284 ((4 * (sv U 249 46)) + ax)) rfl sh_284 (by omega) (by omega) (by decide) rfl rfl ?_
                      exact w_jri (a := if 0 ≤ ax then (if nr = false then sA U 284 ((4 * (sv U 249 46)) + ax) else sA U 283 ((4 * (sv U 249 46)) + ax)) else 0) (b := sA U 284 ((4 * (sv U 249 46)) + ax)) (by rw [if_pos q7, if_pos q8]) kT
                    · skip
                      refine w_aload_n rfl l0 rfl ?_
                      refine w_getR rfl rfl sh_249 rfl rfl ?_
                      refine w_iconst rfl rfl ?_
                      refine w_aload_n rfl l0 rfl ?_
                      refine w_getI (z := sv U 249 46) rfl rfl sh_249 rfl rfl rfl ?_
                      refine w_imul rfl rfl ?_
                      refine w_iload rfl rfl rfl ?_
                      refine w_iadd rfl rfl ?_
                      refine w_iald (z := sA U 283 ((4 * (sv U 249 46)) + ax)) rfl sh_283 (by omega) (by omega) (by decide) rfl rfl ?_
                      refine w_goto (pc2 := 195) rfl (by decide) ?_
                      exact w_jri (a := if 0 ≤ ax then (if nr = false then sA U 284 ((4 * (sv U 249 46)) + ax) else sA U 283 ((4 * (sv U 249 46)) + ax)) else 0) (b := sA U 283 ((4 * (sv U 249 46)) + ax)) (by rw [if_pos q7, if_neg (fun q => Bool.noConfusion ((q8).symm.trans q))]) kT
                  · skip
                    refine w_iconst rfl rfl ?_
                    refine w_goto (pc2 := 195) rfl (by decide) ?_
                    exact w_jri (a := if 0 ≤ ax then (if nr = false then sA U 284 ((4 * (sv U 249 46)) + ax) else sA U 283 ((4 * (sv U 249 46)) + ax)) else 0) (b := 0) (by rw [if_neg (Int.not_le.mpr q7)]) kT
                · show w_T _ _ 143 195 _ [.int (iZ (if 0 ≤ ax then (if nr = false then sA U 284 ((4 * (sv U 249 46)) + ax) else sA U 283 ((4 * (sv U 249 46)) + ax)) else 0))] _ _
                  generalize hlo : (if 0 ≤ ax then (if nr = false then sA U 284 ((4 * (sv U 249 46)) + ax) else sA U 283 ((4 * (sv U 249 46)) + ax)) else 0) = lo
                  refine w_istore rfl (by decide) rfl ?_
                  refine w_iload rfl rfl rfl ?_
                  apply w_jn (A := w_T _ _ 143 246 _ [.int (iZ (if 0 ≤ ax then (if nr = false then sA U 284 (((4 * (sv U 249 46)) + ax) + 1) else sA U 283 (((4 * (sv U 249 46)) + ax) + 1)) else 1))] _ _)
                  · intro kT
                    refine w_if_ge (pc2 := 206) (pc3 := 202) rfl (by decide) rfl ⟨by omega, by omega⟩ (fun q9 => ?_) (fun q9 => ?_)
                    · skip
                      refine w_iload rfl rfl rfl ?_
                      refine w_b_eq (pc2 := 230) (pc3 := 211) rfl (by decide) rfl (fun q10 => ?_) (fun q10 => ?_)
                      · skip
                        refine w_aload_n rfl l0 rfl ?_
                        refine w_getR rfl rfl sh_249 rfl rfl ?_
                        refine w_iconst rfl rfl ?_
                        refine w_aload_n rfl l0 rfl ?_
                        refine w_getI (z := sv U 249 46) rfl rfl sh_249 rfl rfl rfl ?_
                        refine w_imul rfl rfl ?_
                        refine w_iload rfl rfl rfl ?_
                        refine w_iadd rfl rfl ?_
                        refine w_iconst rfl rfl ?_
                        refine w_iadd rfl rfl ?_
                        refine w_iald (z := sA U 284 (((4 * (sv U 249 46)) + ax) + 1)) rfl sh_284 (by omega) (by omega) (by decide) rfl rfl ?_
                        exact w_jri (a := if 0 ≤ ax then (if nr = false then sA U 284 (((4 * (sv U 249 46)) + ax) + 1) else sA U 283 (((4 * (sv U 249 46)) + ax) + 1)) else 1) (b := sA U 284 (((4 * (sv U 249 46)) + ax) + 1)) (by rw [if_pos q9, if_pos q10]) kT
                      · skip
                        refine w_aload_n rfl l0 rfl ?_
                        refine w_getR rfl rfl sh_249 rfl rfl ?_
                        refine w_iconst rfl rfl ?_
                        refine w_aload_n rfl l0 rfl ?_
                        refine w_getI (z := sv U 249 46) rfl rfl sh_249 rfl rfl rfl ?_
                        refine w_imul rfl rfl ?_
                        refine w_iload rfl rfl rfl ?_
                        refine w_iadd rfl rfl ?_
                        refine w_iconst rfl rfl ?_
                        refine w_iadd rfl rfl ?_
                        refine w_iald (z := sA U 283 (((4 * (sv U 249 46)) + ax) + 1)) rfl sh_283 (by omega) (by omega) (by decide) rfl rfl ?_
                        refine w_goto (pc2 := 246) rfl (by decide) ?_
                        exact w_jri (a := if 0 ≤ ax then (if nr = false then sA U 284 (((4 * (sv U 249 46)) + ax) + 1) else sA U 283 (((4 * (sv U 249 46)) + ax) + 1)) else 1) (b := sA U 283 (((4 * (sv U 249 46)) + ax) + 1)) (by rw [if_pos q9, if_neg (fun q => Bool.noConfusion ((q10).symm.trans q))]) kT
                    · skip
                      refine w_iconst rfl rfl ?_
                      refine w_goto (pc2 := 246) rfl (by decide) ?_
                      exact w_jri (a := if 0 ≤ ax then (if nr = false then sA U 284 (((4 * (sv U 249 46)) + ax) + 1) else sA U 283 (((4 * (sv U 249 46)) + ax) + 1)) else 1) (b := 1) (by rw [if_neg (Int.not_le.mpr q9)]) kT
                  · show w_T _ _ 143 246 _ [.int (iZ (if 0 ≤ ax then (if nr = false then sA U 284 (((4 * (sv U 249 46)) + ax) + 1) else sA U 283 (((4 * (sv U 249 46)) + ax) + 1)) else 1))] _ _
                    generalize hhx : (if 0 ≤ ax then (if nr = false then sA U 284 (((4 * (sv U 249 46)) + ax) + 1) else sA U 283 (((4 * (sv U 249 46)) + ax) + 1)) else 1) = hx
                    have hlh : (0 ≤ lo ∧ lo ≤ 2561) ∧ (0 ≤ hx ∧ hx ≤ 2561) := by
                      rw [← hlo, ← hhx, e283, e284, e46]
                      by_cases q : 0 ≤ ax
                      · rw [if_pos q, if_pos q]
                        cases hn : nr
                        · have := krx.2.2 q hn
                          rw [if_pos rfl, if_pos rfl]
                          omega
                        · have := krx.2.1 q hn
                          rw [if_neg (by decide), if_neg (by decide)]
                          omega
                      · rw [if_neg q, if_neg q]
                        decide
                    refine w_istore rfl (by decide) rfl ?_
                    refine w_iload rfl rfl rfl ?_
                    apply w_jn (A := w_T _ _ 143 263 _ [.int (iZ (zB (decide (gl = true ∧ ch2 < nn))))] _ _)
                    · intro kT
                      refine w_b_eq (pc2 := 262) (pc3 := 253) rfl (by decide) rfl (fun q11 => ?_) (fun q11 => ?_)
                      · skip
                        refine w_iconst rfl rfl ?_
                        exact w_j0 (p := gl = true ∧ ch2 < nn) (fun q => (Bool.eq_false_iff.mp q11) q.1) kT
                      · skip
                        refine w_iload_n rfl (congrArg x_k2 l2) rfl ?_
                        refine w_iload_n rfl rfl rfl ?_
                        refine w_ic_le (pc2 := 262) (pc3 := 258) rfl (by decide) rfl ⟨by omega, by omega⟩ ⟨by omega, by omega⟩ (fun q12 => ?_) (fun q12 => ?_)
                        · skip
                          refine w_iconst rfl rfl ?_
                          exact w_j0 (p := gl = true ∧ ch2 < nn) (fun q => (Int.not_lt.mpr q12) q.2) kT
                        · skip
                          refine w_iconst rfl rfl ?_
                          refine w_goto (pc2 := 263) rfl (by decide) ?_
                          exact w_j1 (p := gl = true ∧ ch2 < nn) ⟨q11, q12⟩ kT
                    · show w_T _ _ 143 263 _ [.int (iZ (zB (decide (gl = true ∧ ch2 < nn))))] _ _
                      generalize hjn : (decide (gl = true ∧ ch2 < nn)) = jn
                      refine w_istore rfl (by decide) rfl ?_
                      refine w_iload rfl rfl rfl ?_
                      refine w_istore rfl (by decide) rfl ?_
                      exact ih.2.1 nn ch2 b (lg e.2.2.2 b) nr ax lo hx jn lo mf l l ([]) ((brow e as os t.2.1 b)) _ _ (by exact l0) (by exact l1) (by exact (congrArg x_k2 l2)) (by exact rfl) (by exact (congrArg x_k2 l4)) (by exact rfl) (by exact rfl) (by exact rfl) (by exact rfl) (by exact rfl) (by exact rfl) (by exact rfl) (by exact hfr) (by exact hz) (by exact hw) (by omega) (by omega) (by exact hpb) (by rfl) (by exact hax) (by exact hnr2) (by rw [← hlo, e283, e284, e46]) (by rw [← hhx, e283, e284, e46]) (by rfl) (by simp) (by exact acc_0 _ _ _) (by exact hlk) (by exact hgl0) (by omega) (by intro z; rw [← hjn] at z; have := of_decide_eq_true z; omega) (by omega) (by omega) (by omega) (by have hjm : jn = true ↔ pas e.2.2.2 (b - 1) = true ∧ ch < l.length := (by rw [← hjn, decide_eq_true_eq, hgl2, hch3]; constructor; (intro z; rw [if_pos z.1] at z; exact ⟨z.1, by omega⟩); (intro z; rw [if_pos z.1]; exact ⟨z.1, by omega⟩)); have hms := acc_mst (e := e) (as := as) (os := os) (pl := t.2.1) (i := b) (l := l) (ch := ch) hjm; rw [hpb, show b + zB false = b from Int.add_zero b] at he; refine ⟨fun M2 h2 => ?_, fun h2 => ?_⟩; (rw [mkr_s (by omega) (hms.trans h2)] at he; rw [← he, hch3, show b + 1 + zB (pas e.2.2.2 (b + 1)) = b + zB (pas e.2.2.2 (b + 1)) + 1 by omega]); (rw [← he]; exact mkr_n (by omega) (hms.trans h2))) (by (try rw [List.length_append]); (try simp only [List.length_cons, List.length_nil]); omega)
    · skip
      intro nn ch2 b w nr ax lo hx jn k mf l M d1 d2 U lv l0 l1 l2 l3 l4 l5 l8 l9 l10 l11 l12 l13 hfr hz hw b0 b1 hnp hwb hax hnr hlo2 hhi2 hsp hkd hac hlk hgl0 hlb hjl ch0 ch1 hmm he hm
      have kmac : rmac U m e := rmac_fr hk hfr (by omega)
      have e46 : sv U 249 46 = i := by rw [fr_gv hfr (by omega)]; exact hi
      have e279 : sA U 279 i = m := by rw [fr_gA hfr (by omega)]; exact hm0
      have e266 : sA U 266 m = e.2.2.2.length := by rw [fr_gA hfr (by omega)]; exact hk.2.2.1
      have e265 : sL U 265 = sL S 265 := fr_gL hfr (by omega)
      have e280 : sA U 280 i = eo nm t := by rw [fr_gA hfr (by omega)]; exact hf
      have e283 : sA U 283 = sA S 283 := fr_gA hfr (by omega)
      have e284 : sA U 284 = sA S 284 := fr_gA hfr (by omega)
      have e273 : sL U 273 = sL S 273 := fr_gL hfr (by omega)
      have e274 : sA U 274 = sA S 274 := fr_gA hfr (by omega)
      have e271 : sL U 271 = sL S 271 := fr_gL hfr (by omega)
      have e272 : sA U 272 = sA S 272 := fr_gA hfr (by omega)
      have h12 := ho.2.1
      have h3 := ho.1
      have hRt := eo_R (nm := nm) ot.2.1 ot.2.2
      have kr := krow (pl := t.2.1) (b := b) hsa hso hca hco r0 r1 g0 g1 hax hnr
      have hlr := lix_r e.2.2.1 (lg e.2.2.2 b)
      rw [hax] at hlr
      have hb40 := brow_40 (e := e) (pl := t.2.1) (i := b) ha4 ho4
      have hbo := brow_ok (pl := t.2.1) (i := b) ho hla hlo ot.2.1 ot.2.2 b0 b1
      have hbgw := brow_gw (pl := t.2.1) (i := b) hbg hga hgo b0 b1
      have hrl : ((brow e as os t.2.1 b).length : Int) = hx - lo := by
        rw [hlo2, hhi2]
        by_cases q : 0 ≤ ax
        · rw [if_pos q, if_pos q]
          cases hn : nr
          · have := (kr.2.2 q hn).2.1
            rw [if_pos rfl, if_pos rfl]
            omega
          · have := (kr.2.1 q hn).2.1
            rw [if_neg (by decide), if_neg (by decide)]
            omega
        · rw [if_neg q, if_neg q, kr.1 (by omega)]
          rfl
      have hdl : ((brow e as os t.2.1 b).length : Int) = d1.length + d2.length := by rw [hsp, List.length_append]; omega
      have hml := acc_len hac
      have lo0 : 0 ≤ lo ∧ lo ≤ 3000 := by
        rw [hlo2]
        by_cases q : 0 ≤ ax
        · rw [if_pos q]
          cases hn : nr
          · have := kr.2.2 q hn
            rw [if_pos rfl]
            omega
          · have := kr.2.1 q hn
            rw [if_neg (by decide)]
            omega
        · rw [if_neg q]
          decide
      refine w_iload rfl l13 rfl ?_
      refine w_iload rfl l11 rfl ?_
      refine w_ic_ge (pc2 := 411) (pc3 := 276) rfl (by decide) rfl ⟨by omega, by omega⟩ ⟨by omega, by omega⟩ (fun c273 => ?_) (fun c273 => ?_)
      · skip
        have hrow : brow e as os t.2.1 b = d1 := by
          have h0 : d2 = [] := List.eq_nil_of_length_eq_zero (by omega)
          rw [hsp, h0, List.append_nil]
        refine w_iinc rfl l4 (by decide) rfl ?_
        refine w_goto (pc2 := 17) rfl (by decide) ?_
        exact ih.1 nn ch2 (b + 1) mf M _ _ (by exact l0) (by exact l1) (by exact l2) (by exact (congrArg x_k2 l3)) (by exact rfl) (by exact hfr) (by exact hz) (by exact hw) (by exact acc_ok ot.2.1 ot.2.2 hlk hbo (by rw [hrow]; exact hac)) (by exact acc_gw hgl0 hbgw (by rw [hrow]; exact hac)) (by omega) (by omega) (by omega) (by omega) (by omega) (by omega) (by exact he.1 M (by rw [hrow]; exact hac)) (by omega)
      · skip
        obtain ⟨x, d3, rfl⟩ := list_cons (l := d2) (by omega)
        have hxo : eok x := hbo x (by rw [hsp]; simp)
        have hxR := eo_R (nm := nm) hxo.2.1 hxo.2.2
        have kbr : 0 ≤ ax → nr = true → 0 ≤ k ∧ k < 1201 := fun q1 q2 => by
          have q := kr.2.1 q1 q2
          rw [hlo2, if_pos q1, if_neg (by rw [q2]; decide)] at hkd
          rw [hhi2, if_pos q1, if_neg (by rw [q2]; decide)] at c273
          omega
        have kbg : 0 ≤ ax → nr = false → 0 ≤ k ∧ k < 2561 := fun q1 q2 => by
          have q := kr.2.2 q1 q2
          rw [hlo2, if_pos q1, if_pos q2] at hkd
          rw [hhi2, if_pos q1, if_pos q2] at c273
          omega
        have hva : (if 0 ≤ ax then (if nr = false then sL U 271 k else sL U 273 k) else w) = x.1 ∧ (if 0 ≤ ax then (if nr = false then sA U 272 k else sA U 274 k) else zshl (zshr (sA U 280 (sv U 249 46)) 8) 8) = eo nm x := by
          by_cases q : 0 ≤ ax
          · rw [if_pos q, if_pos q]
            rw [if_pos q] at hlo2
            cases hn : nr
            · rw [if_pos rfl, if_pos rfl, e271, e272]
              have f := (kr.2.2 q hn).1
              rw [hn, if_pos rfl] at hlo2
              rw [hsp, ← hlo2] at f
              have f2 := fw_at f
              rw [← hkd] at f2
              exact f2
            · rw [if_neg (by decide), if_neg (by decide), e273, e274]
              have f := (kr.2.1 q hn).1
              rw [hn, if_neg (by decide)] at hlo2
              rw [hsp, ← hlo2] at f
              have f2 := fw_at f
              rw [← hkd] at f2
              exact f2
          · rw [if_neg q, if_neg q, e46, e280, sh_place ot.2.1 ot.2.2]
            have f := kr.1 (by omega)
            rw [hsp] at f
            have hd0 : d1 = [] := by
              have := congrArg List.length f
              rw [List.length_append] at this
              simp only [List.length_cons, List.length_nil] at this
              exact List.eq_nil_of_length_eq_zero (by omega)
            rw [hd0, List.nil_append] at f
            have f3 : x = (lg e.2.2.2 b, t.2.1, fun _ => false) := (List.cons.inj f).1
            rw [f3, eo_plain, hwb, Int.add_zero]
            exact ⟨rfl, rfl⟩
        have hvx := hva.1
        have hatx := hva.2
        refine w_iload rfl l9 rfl ?_
        apply w_jn (A := w_T _ _ 143 308 _ [.long (if 0 ≤ ax then (if nr = false then sL U 271 k else sL U 273 k) else w)] _ _)
        · intro kT
          refine w_if_ge (pc2 := 286) (pc3 := 281) rfl (by decide) rfl ⟨by omega, by omega⟩ (fun q13 => ?_) (fun q13 => ?_)
          · skip
            refine w_iload rfl l8 rfl ?_
            refine w_b_eq (pc2 := 301) (pc3 := 291) rfl (by decide) rfl (fun q14 => ?_) (fun q14 => ?_)
            · skip
              refine w_aload_n rfl l0 rfl ?_
              refine w_getR rfl rfl sh_249 rfl rfl ?_
              refine w_iload rfl l13 rfl ?_
              refine w_lald (z := sL U 271 k) rfl sh_271 (by have := kbg (by assumption) (by assumption); omega) (by have := kbg (by assumption) (by assumption); omega) (by decide) rfl rfl ?_
              exact w_jrl (a := if 0 ≤ ax then (if nr = false then sL U 271 k else sL U 273 k) else w) (b := sL U 271 k) (by rw [if_pos q13, if_pos q14]) kT
            · skip
              refine w_aload_n rfl l0 rfl ?_
              refine w_getR rfl rfl sh_249 rfl rfl ?_
              refine w_iload rfl l13 rfl ?_
              refine w_lald (z := sL U 273 k) rfl sh_273 (by have := kbr (by assumption) (by assumption); omega) (by have := kbr (by assumption) (by assumption); omega) (by decide) rfl rfl ?_
              refine w_goto (pc2 := 308) rfl (by decide) ?_
              exact w_jrl (a := if 0 ≤ ax then (if nr = false then sL U 271 k else sL U 273 k) else w) (b := sL U 273 k) (by rw [if_pos q13, if_neg (fun q => Bool.noConfusion ((q14).symm.trans q))]) kT
          · skip
            refine w_lload rfl l5 rfl ?_
            refine w_goto (pc2 := 308) rfl (by decide) ?_
            exact w_jrl (a := if 0 ≤ ax then (if nr = false then sL U 271 k else sL U 273 k) else w) (b := w) (by rw [if_neg (Int.not_le.mpr q13)]) kT
        · show w_T _ _ 143 308 _ [.long (if 0 ≤ ax then (if nr = false then sL U 271 k else sL U 273 k) else w)] _ _
          rw [hvx]
          refine w_lstore rfl (by decide) rfl ?_
          refine w_iload rfl l9 rfl ?_
          apply w_jn (A := w_T _ _ 143 355 _ [.int (iZ (if 0 ≤ ax then (if nr = false then sA U 272 k else sA U 274 k) else zshl (zshr (sA U 280 (sv U 249 46)) 8) 8))] _ _)
          · intro kT
            refine w_if_ge (pc2 := 333) (pc3 := 315) rfl (by decide) rfl ⟨by omega, by omega⟩ (fun q15 => ?_) (fun q15 => ?_)
            · skip
              refine w_iload rfl l8 rfl ?_
              refine w_b_eq (pc2 := 348) (pc3 := 338) rfl (by decide) rfl (fun q16 => ?_) (fun q16 => ?_)
              · skip
                refine w_aload_n rfl l0 rfl ?_
                refine w_getR rfl rfl sh_249 rfl rfl ?_
                refine w_iload rfl (congrArg x_k2 l13) rfl ?_
                refine w_iald (z := sA U 272 k) rfl sh_272 (by have := kbg (by assumption) (by assumption); omega) (by have := kbg (by assumption) (by assumption); omega) (by decide) rfl rfl ?_
                exact w_jri (a := if 0 ≤ ax then (if nr = false then sA U 272 k else sA U 274 k) else zshl (zshr (sA U 280 (sv U 249 46)) 8) 8) (b := sA U 272 k) (by rw [if_pos q15, if_pos q16]) kT
              · skip
                refine w_aload_n rfl l0 rfl ?_
                refine w_getR rfl rfl sh_249 rfl rfl ?_
                refine w_iload rfl (congrArg x_k2 l13) rfl ?_
                refine w_iald (z := sA U 274 k) rfl sh_274 (by have := kbr (by assumption) (by assumption); omega) (by have := kbr (by assumption) (by assumption); omega) (by decide) rfl rfl ?_
                refine w_goto (pc2 := 355) rfl (by decide) ?_
                exact w_jri (a := if 0 ≤ ax then (if nr = false then sA U 272 k else sA U 274 k) else zshl (zshr (sA U 280 (sv U 249 46)) 8) 8) (b := sA U 274 k) (by rw [if_pos q15, if_neg (fun q => Bool.noConfusion ((q16).symm.trans q))]) kT
            · skip
              refine w_aload_n rfl l0 rfl ?_
              refine w_getR rfl rfl sh_249 rfl rfl ?_
              refine w_aload_n rfl l0 rfl ?_
              refine w_getI (z := sv U 249 46) rfl rfl sh_249 rfl rfl rfl ?_
              refine w_iald (z := sA U 280 (sv U 249 46)) rfl sh_280 (by omega) (by omega) (by decide) rfl rfl ?_
              refine w_bipush rfl (by decide) rfl ?_
              refine w_zshr rfl rfl ?_
              refine w_bipush rfl (by decide) rfl ?_
              refine w_zshl rfl rfl ?_
              refine w_goto (pc2 := 355) rfl (by decide) ?_
              exact w_jri (a := if 0 ≤ ax then (if nr = false then sA U 272 k else sA U 274 k) else zshl (zshr (sA U 280 (sv U 249 46)) 8) 8) (b := zshl (zshr (sA U 280 (sv U 249 46)) 8) 8) (by rw [if_neg (Int.not_le.mpr q15)]) kT
          · show w_T _ _ 143 355 _ [.int (iZ (if 0 ≤ ax then (if nr = false then sA U 272 k else sA U 274 k) else zshl (zshr (sA U 280 (sv U 249 46)) 8) 8))] _ _
            rw [hatx]
            refine w_istore rfl (by decide) rfl ?_
            refine w_iload rfl (congrArg x_k2 l13) rfl ?_
            refine w_iload rfl l10 rfl ?_
            apply w_br (A := w_T _ _ 143 369 _ [] _ _) (B := w_T _ _ 143 386 _ [] _ _) (k = lo ∧ jn = true)
            · intro kT1 kT2
              refine w_ic_ne (pc2 := 386) (pc3 := 364) rfl (by decide) rfl ⟨by omega, by omega⟩ ⟨by omega, by omega⟩ (fun q17 => ?_) (fun q17 => ?_)
              · skip
                exact kT2 (fun q => q17 q.1)
              · skip
                refine w_iload rfl l12 rfl ?_
                refine w_b_eq (pc2 := 386) (pc3 := 369) rfl (by decide) rfl (fun q18 => ?_) (fun q18 => ?_)
                · skip
                  exact kT2 (fun q => (Bool.eq_false_iff.mp q18) q.2)
                · skip
                  exact kT1 ⟨q17, q18⟩
            · intro c361
              have hd1 : d1 = [] := List.eq_nil_of_length_eq_zero (by have := c361.1; omega)
              have hjt : jn = true := c361.2
              have hMe : M = l := by rw [hd1, acc_0] at hac; exact (Option.some.inj hac).symm
              obtain ⟨k1, xa, hll⟩ := list_snoc (hjl hjt)
              have hMl : M = k1 ++ [xa] := by rw [hMe]; exact hll
              have hma0 := hw
              rw [hMl] at hma0
              have hma3 := fw_at hma0
              rw [Int.zero_add] at hma3
              have hnn : nn - 1 = k1.length := by rw [hz, hMl, List.length_append]; simp
              have hma1 : sL U 275 (nn - 1) = xa.1 := by rw [hnn]; exact hma3.1
              have hma2 : sA U 276 (nn - 1) = eo nm xa := by rw [hnn]; exact hma3.2
              refine w_aload_n rfl l0 rfl ?_
              refine w_iload_n rfl l2 rfl ?_
              refine w_iconst rfl rfl ?_
              refine w_isub rfl rfl ?_
              refine w_lload rfl rfl rfl ?_
              refine w_iload rfl rfl rfl ?_
              refine w_CV (as := [.int (iZ (nn - 1)), .long x.1, .int (iZ (eo nm x))]) (r := []) rfl rfl rfl rfl sh_249 (Nat.le_of_ble_eq_true rfl) (Nat.le_of_ble_eq_true rfl) (by omega) rfl (r_paste (S := U) (nm := nm) (i := i) (k := nn - 1) (a := xa) (b := x) (t := t) e46 i0 (by omega) (by omega) (by omega) hma1 hma2 e280 (hgl0 xa (by rw [hll]; simp)) (hbgw x (by rw [hsp]; simp)) (hlk xa (by rw [hll]; simp)) hxo ot (by omega)) ?_
              rintro _ V ⟨cc, rfl, j0, j1⟩
              show w_T _ _ 143 380 _ [.int (iZ (zB cc))] _ _
              refine w_b_ne (pc2 := 405) (pc3 := 383) rfl (by decide) rfl (fun c380 => ?_) (fun c380 => ?_)
              · skip
                obtain ⟨y, hy, hV⟩ := j1 c380
                refine w_iinc rfl (congrArg x_k2 l13) (by decide) rfl ?_
                refine w_goto (pc2 := 269) rfl (by decide) ?_
                exact ih.2.1 nn ch2 b w nr ax lo hx jn (k + 1) mf l ((k1 ++ [(y, t.2.1, fun q => xa.2.2 q && x.2.2 q)])) ((d1 ++ [x])) d3 _ _ (by exact l0) (by exact l1) (by exact l2) (by exact l3) (by exact l4) (by exact l5) (by exact l8) (by exact l9) (by exact l10) (by exact l11) (by exact (congrArg x_k2 l12)) (by exact rfl) (by rw [hV]; exact fr_A (fr_L hfr (by omega)) (by omega)) (by rw [hz, hMl, List.length_append, List.length_append] <;> rfl) (by rw [hV]; simp (disch := omega) only [rv_self, rv_ne, rl_self, rl_ne, rA_self, rA_ne, rL_self, rL_ne, rR_self, rR_ne, xvl, xvA, xvL, xvR, xlv, xlA, xlL, xlR, xAv, xAl, xAL, xAR, xLv, xLl, xLA, xLR, xRv, xRl, xRA, xRL]; rw [hMl] at hw; exact fw_last (y := (y, t.2.1, fun q => xa.2.2 q && x.2.2 q)) hw (by rw [hz, hMl, List.length_append]; simp)) (by omega) (by omega) (by exact hnp) (by exact hwb) (by exact hax) (by exact hnr) (by exact hlo2) (by exact hhi2) (by rw [hsp, List.append_assoc]; rfl) (by rw [List.length_append, hkd]; simp only [List.length_cons, List.length_nil]; omega) (by rw [hd1, hjt, List.nil_append, acc_j hll, hy]) (by exact hlk) (by exact hgl0) (by omega) (by exact hjl) (by omega) (by omega) (by omega) (by exact he) (by (try rw [List.length_append]); (try simp only [List.length_cons, List.length_nil]); omega)
              · skip
                refine w_bipush rfl (by decide) rfl ?_
                refine w_iret rfl rfl ?_
                have hn := (j0 c380).1
                have hS2 := (j0 c380).2
                have hnn2 := he.2 (by rw [hsp, hd1, hjt, List.nil_append, acc_j hll, hn])
                have hmr : (mrep e as os t.2.1) = (9, []) := by unfold mrep; rw [hnn2]
                rw [hmr, hS2]
                exact ⟨rfl, fr_mono hfr (by omega), fun k hk => fr_gv hfr (by omega) k, fun z => absurd z (by show ¬ (9 : Int) = 0; decide)⟩
            · intro c361
              refine w_aload_n rfl l0 rfl ?_
              refine w_getR rfl rfl sh_249 rfl rfl ?_
              refine w_iload_n rfl l2 rfl ?_
              refine w_lload rfl rfl rfl ?_
              refine w_laS (f := sL U 275) rfl sh_275 (by omega) (by omega) (by decide) rfl rfl ?_
              refine w_aload_n rfl l0 rfl ?_
              refine w_getR rfl rfl sh_249 rfl rfl ?_
              refine w_iload_n rfl l2 rfl ?_
              refine w_iload rfl rfl rfl ?_
              refine w_iaS (f := sA U 276) rfl sh_276 (by omega) (by omega) (by decide) rfl rfl ?_
              refine w_iinc rfl l2 (by decide) rfl ?_
              refine w_iinc rfl (congrArg x_k2 l13) (by decide) rfl ?_
              refine w_goto (pc2 := 269) rfl (by decide) ?_
              exact ih.2.1 (nn + 1) ch2 b w nr ax lo hx jn (k + 1) mf l ((M ++ [x])) ((d1 ++ [x])) d3 _ _ (by exact l0) (by exact (congrArg x_k2 l1)) (by exact rfl) (by exact l3) (by exact l4) (by exact l5) (by exact l8) (by exact l9) (by exact l10) (by exact l11) (by exact (congrArg x_k2 l12)) (by exact rfl) (by exact (fr_A (fr_L hfr (by omega)) (by omega))) (by rw [hz, List.length_append]; rfl) (by simp (disch := omega) only [rv_self, rv_ne, rl_self, rl_ne, rA_self, rA_ne, rL_self, rL_ne, rR_self, rR_ne, xvl, xvA, xvL, xvR, xlv, xlA, xlL, xlR, xAv, xAl, xAL, xAR, xLv, xLl, xLA, xLR, xRv, xRl, xRA, xRL]; rw [hz]; have z := fw_snoc (e := x) hw; rw [Int.zero_add] at z; exact z) (by omega) (by omega) (by exact hnp) (by exact hwb) (by exact hax) (by exact hnr) (by exact hlo2) (by exact hhi2) (by rw [hsp, List.append_assoc]; rfl) (by rw [List.length_append, hkd]; simp only [List.length_cons, List.length_nil]; omega) (by exact acc_s hac (fun z => c361 ⟨by omega, z.1⟩) hjl) (by exact hlk) (by exact hgl0) (by omega) (by exact hjl) (by omega) (by omega) (by omega) (by exact he) (by (try rw [List.length_append]); (try simp only [List.length_cons, List.length_nil]); omega)
    · skip
      intro k ka kb U lv l0 l4 l5 hfr h9 hmr hw hlk hl40 hka hzz hb hlow h35 h32 hm
      have hll : ((ka ++ kb).length : Int) = ka.length + kb.length := by rw [List.length_append]; omega
      refine w_iload rfl l5 rfl ?_
      refine w_if_lt (pc2 := 522) (pc3 := 495) rfl (by decide) rfl ⟨by omega, by omega⟩ (fun c492 => ?_) (fun c492 => ?_)
      · skip
        refine w_iconst rfl rfl ?_
        refine w_iret rfl rfl ?_
        have hn : ka = [] := List.eq_nil_of_length_eq_zero (by omega)
        rw [hn, List.nil_append] at hmr hll
        rw [hmr]
        exact ⟨rfl, hfr, h9, fun _ => ⟨hzz, by rw [← hzz]; exact hb, hlow, h35, h32⟩⟩
      · skip
        obtain ⟨k1, x, rfl⟩ := list_snoc (l := ka) (by omega)
        have hka2 : (k1.length : Int) = k := by rw [List.length_append] at hka; simp only [List.length_cons, List.length_nil] at hka; omega
        have hx1 : sL U 275 k = x.1 ∧ sA U 276 k = eo nm x := by
          have q := hw
          rw [List.append_assoc] at q
          have q2 := fw_at (d3 := kb) q
          rw [Int.zero_add, hka2] at q2
          exact q2
        have hxo : eok x := hlk x (by simp)
        have hll3 : (((k1 ++ [x]) ++ kb).length : Int) = k1.length + 1 + kb.length := by simp only [List.length_append, List.length_cons, List.length_nil]; omega
        refine w_aload_n rfl l0 rfl ?_
        refine w_aload_n rfl l0 rfl ?_
        refine w_getR rfl rfl sh_249 rfl rfl ?_
        refine w_iload rfl l5 rfl ?_
        refine w_lald (z := sL U 275 k) rfl sh_275 (by omega) (by omega) (by decide) rfl rfl ?_
        refine w_aload_n rfl l0 rfl ?_
        refine w_getR rfl rfl sh_249 rfl rfl ?_
        refine w_iload rfl l5 rfl ?_
        refine w_iald (z := sA U 276 k) rfl sh_276 (by omega) (by omega) (by decide) rfl rfl ?_
        refine w_iload rfl l4 rfl ?_
        refine w_zor rfl rfl ?_
        refine w_CV (as := [.long (sL U 275 k), .int (iZ (zor (sA U 276 k) (((hs nm (xhid e t c) : Nat) : Int))))]) (r := []) rfl rfl rfl rfl sh_249 (Nat.le_of_ble_eq_true rfl) (Nat.le_of_ble_eq_true rfl) (by omega) rfl (r_lay (x := sL U 275 k) (z := zor (sA U 276 k) (((hs nm (xhid e t c) : Nat) : Int))) (by (try simp (disch := omega) only [rv_self, rv_ne, rl_self, rl_ne, rA_self, rA_ne, rL_self, rL_ne, rR_self, rR_ne, xvl, xvA, xvL, xvR, xlv, xlA, xlL, xlR, xAv, xAl, xAL, xAR, xLv, xLl, xLA, xLR, xRv, xRl, xRA, xRL]); omega) (by (try simp (disch := omega) only [rv_self, rv_ne, rl_self, rl_ne, rA_self, rA_ne, rL_self, rL_ne, rR_self, rR_ne, xvl, xvA, xvL, xvR, xlv, xlA, xlL, xlR, xAv, xAl, xAL, xAR, xLv, xLl, xLA, xLR, xRv, xRl, xRA, xRL]); omega) (by omega)) ?_
        rintro _ _ ⟨rfl, hS⟩
        rw [hS]
        show w_T _ _ 143 516 _ [] _ _
        refine w_iinc rfl l5 (by decide) rfl ?_
        refine w_goto (pc2 := 490) rfl (by decide) ?_
        exact ih.2.2 (k + (-1)) k1 ((x :: kb)) _ _ (by exact l0) (by exact (congrArg x_k2 l4)) (by exact rfl) (by exact (fr_v (fr_A (fr_L hfr (by omega)) (by omega)) (by omega))) (by intro k hk; simp (disch := omega) only [rv_self, rv_ne, rl_self, rl_ne, rA_self, rA_ne, rL_self, rL_ne, rR_self, rR_ne, xvl, xvA, xvL, xvR, xlv, xlA, xlL, xlR, xAv, xAl, xAL, xAR, xLv, xLl, xLA, xLR, xRv, xRl, xRA, xRL]; exact h9 k hk) (by rw [hmr, List.append_assoc]; rfl) (by simp (disch := omega) only [rv_self, rv_ne, rl_self, rl_ne, rA_self, rA_ne, rL_self, rL_ne, rR_self, rR_ne, xvl, xvA, xvL, xvR, xlv, xlA, xlL, xlR, xAv, xAl, xAL, xAR, xLv, xLl, xLA, xLR, xRv, xRl, xRA, xRL]; rw [List.append_assoc] at hw; exact hw) (by rw [List.append_assoc] at hlk; exact hlk) (by rw [List.append_assoc] at hl40; exact hl40) (by omega) (by simp (disch := omega) only [rv_self, rv_ne, rl_self, rl_ne, rA_self, rA_ne, rL_self, rL_ne, rR_self, rR_ne, xvl, xvA, xvL, xvR, xlv, xlA, xlL, xlR, xAv, xAl, xAL, xAR, xLv, xLl, xLA, xLR, xRv, xRl, xRA, xRL]; rw [hzz, List.length_cons]; omega) (by simp (disch := omega) only [rv_self, rv_ne, rl_self, rl_ne, rA_self, rA_ne, rL_self, rL_ne, rR_self, rR_ne, xvl, xvA, xvL, xvR, xlv, xlA, xlL, xlR, xAv, xAl, xAL, xAR, xLv, xLl, xLA, xLR, xRv, xRl, xRA, xRL]; rw [hx1.1, hx1.2, or_eo2 hxo.2.1 hxo.2.2]; exact bw_push (e := addE (xhid e t c) x) hb) (by intro j hj; simp (disch := omega) only [rv_self, rv_ne, rl_self, rl_ne, rA_self, rA_ne, rL_self, rL_ne, rR_self, rR_ne, xvl, xvA, xvL, xvR, xlv, xlA, xlL, xlR, xAv, xAl, xAL, xAR, xLv, xLl, xLA, xLR, xRv, xRl, xRA, xRL]; rw [w_u_ne _ _ (by omega), w_u_ne _ _ (by omega)]; exact hlow j hj) (by simp (disch := omega) only [rv_self, rv_ne, rl_self, rl_ne, rA_self, rA_ne, rL_self, rL_ne, rR_self, rR_ne, xvl, xvA, xvL, xvR, xlv, xlA, xlL, xlR, xAv, xAl, xAL, xAR, xLv, xLl, xLA, xLR, xRv, xRl, xRA, xRL]; exact h35) (by simp (disch := omega) only [rv_self, rv_ne, rl_self, rl_ne, rA_self, rA_ne, rL_self, rL_ne, rR_self, rR_ne, xvl, xvA, xvL, xvR, xlv, xlA, xlL, xlR, xAv, xAl, xAL, xAR, xLv, xLl, xLA, xLR, xRv, xRl, xRA, xRL]; exact h32) (by omega)
set_option maxRecDepth 6000 in
theorem r_repl {sc : x_S} {d : Nat} {S : w_S} {nm : Nat → Int64} {i m : Int} {e : Mac} {t c : ETok} {as os : List (List ETok)} (hi : sv S 249 46 = i) (i0 : 0 ≤ i) (i1 : i < 31) (hm0 : sA S 279 i = m) (m0 : 0 ≤ m) (m8 : m < 8) (hk : rmac S m e) (ho : mok e) (hbg : bg e) (hf : sA S 280 i = eo nm t) (ot : eok t) (hcs : zand (zand (eo nm t) (sA S 281 i)) 255 = (hs nm (fun y => t.2.2 y && c.2.2 y) : Nat)) (hnm : nm m.toNat = e.1) (hinj : ∀ q, q < 8 → nm q = nm m.toNat → q = m.toNat) (hnz : ¬ e.1 = 0) (hsa : seg nm (sL S 273) (sA S 274) (sA S 283) (4 * i) as) (hso : seg nm (sL S 271) (sA S 272) (sA S 284) (4 * i) os) (hca : e.2.2.1.length = as.length) (hco : e.2.2.1.length = os.length) (r0 : 0 ≤ sA S 283 (4 * i)) (r1 : sA S 283 (4 * i + as.length) ≤ 1201) (g0 : 0 ≤ sA S 284 (4 * i)) (g1 : sA S 284 (4 * i + os.length) ≤ 2561) (ha4 : ∀ k, (as.getD k []).length ≤ 40) (ho4 : ∀ k, (os.getD k []).length ≤ 40) (hla : ∀ k, loks (as.getD k [])) (hlo : ∀ k, loks (os.getD k [])) (hga : ∀ k, lgw (as.getD k [])) (hgo : ∀ k, lgw (os.getD k [])) (c0 : 0 ≤ sv S 249 29) (c1 : sv S 249 29 ≤ 1321) (hd : 3 ≤ d) : w_T sc d 143 0 (x_en 0 [.ref 249]) [] S (fun v S2 => v = some (.int (iZ (mrep e as os t.2.1).1)) ∧ fr (fun a => a = 249 ∨ a = 269 ∨ a = 270 ∨ a = 275 ∨ a = 276) S S2 ∧ (∀ k, ¬ (k = 29 ∨ k = 32 ∨ k = 35) → sv S2 249 k = sv S 249 k) ∧ ((mrep e as os t.2.1).1 = 0 → sv S2 249 29 = sv S 249 29 + (mrep e as os t.2.1).2.length ∧ bw nm (sL S2 269) (sA S2 270) (sv S 249 29 + (mrep e as os t.2.1).2.length) ((mrep e as os t.2.1).2.map (addE (xhid e t c))) ∧ (∀ j, j < sv S 249 29 → sL S2 269 j = sL S 269 j ∧ sA S2 270 j = sA S 270 j) ∧ sv S2 249 35 = sA S 283 (4 * i) ∧ sv S2 249 32 = sA S 284 (4 * i))) := by
  have hRt := eo_R (nm := nm) ot.2.1 ot.2.2
  have h12 := ho.2.1
  refine w_aload_n rfl rfl rfl ?_
  refine w_getR rfl rfl sh_249 rfl rfl ?_
  refine w_aload_n rfl rfl rfl ?_
  refine w_getI (z := sv S 249 46) rfl rfl sh_249 rfl rfl rfl ?_
  refine w_iald (z := sA S 279 (sv S 249 46)) rfl sh_279 (by omega) (by omega) (by decide) rfl rfl ?_
  rw [hi, hm0]
  refine w_istore_n rfl (by decide) rfl ?_
  refine w_iconst rfl rfl ?_
  refine w_istore_n rfl (by decide) rfl ?_
  refine w_iconst rfl rfl ?_
  refine w_istore_n rfl (by decide) rfl ?_
  refine w_iconst rfl rfl ?_
  refine w_istore rfl (by decide) rfl ?_
  exact (r_repl_c hi i0 i1 hm0 m0 m8 hk ho hbg hf ot hcs hnm hinj hnz hsa hso hca hco r0 r1 g0 g1 ha4 ho4 hla hlo hga hgo c0 c1 hd _).1 0 0 0 13 ([]) _ _ rfl rfl rfl rfl rfl (by exact fr_refl _ _) (by rfl) (by exact trivial) (by exact fun x hx => absurd hx (by simp)) (by exact fun x hx => absurd hx (by simp)) (by omega) (by simp) (by omega) (by omega) (by omega) (by omega) (by rw [hbg.1]; rfl) (Nat.lt_succ_self _)
