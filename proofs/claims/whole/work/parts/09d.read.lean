/-! A file is read: what comes out depends on its letters alone (class). -/
def ag (f g : Int → Int) (n : Int) : Prop := ∀ j, 0 ≤ j → j < n → f j = g j
theorem ag_u {f g : Int → Int} {z x : Int} (h : ag f g z) : ag (w_u f z x) (w_u g z x) (z + 1) := fun j a b => by
  by_cases e : j = z
  · rw [e, w_u_self, w_u_self]
  · rw [w_u_ne _ _ e, w_u_ne _ _ e]
    exact h j a (by omega)
theorem ag_v {f g : Int → Int} {n z x y : Int} (h : ag f g n) (e : x = y) : ag (w_u f z x) (w_u g z y) n := fun j a b => by
  by_cases q : j = z
  · rw [q, w_u_self, w_u_self, e]
  · rw [w_u_ne _ _ q, w_u_ne _ _ q]
    exact h j a b
theorem tri_cong {g g2 : Int → Int} {n : Int} (hg : ag g g2 n) : ∀ (m : Nat) (i b z : Int) (A N A2 N2 : Int → Int), 0 ≤ i → ag A A2 z → ag N N2 z → (tri g n m i b A N z).2.2 = (tri g2 n m i b A2 N2 z).2.2 ∧ ag (tri g n m i b A N z).1 (tri g2 n m i b A2 N2 z).1 (tri g n m i b A N z).2.2 ∧ ag (tri g n m i b A N z).2.1 (tri g2 n m i b A2 N2 z).2.1 (tri g n m i b A N z).2.2
  | 0, _, _, _, _, _, _, _, _, hA, hN => ⟨rfl, hA, hN⟩
  | m + 1, i, b, z, A, N, A2, N2, hi, hA, hN => by
    by_cases h : i < n
    · have e0 := hg i hi h
      have eq : tq g2 n i = tq g n i := by
        unfold tq
        by_cases hh : i + 2 < n
        · rw [hg i hi h, hg (i + 1) (by omega) (by omega), hg (i + 2) (by omega) hh]
        · rw [if_neg (by omega), if_neg (by omega)]
      rw [tri_in h, tri_in h, eq, ← e0]
      exact tri_cong hg m _ _ _ _ _ _ _ (by split <;> omega) (ag_u hA) (ag_u hN)
    · rw [tri_out (by omega), tri_out (by omega)]
      exact ⟨rfl, hA, hN⟩
theorem tri_z {g : Int → Int} {n : Int} (hg : ∀ j, 0 ≤ j → j < n → 0 ≤ g j ∧ g j < 128) : ∀ (m : Nat) (i b z : Int) (A N : Int → Int), 0 ≤ i → i ≤ n → 0 ≤ z → z ≤ i → 0 ≤ b → b ≤ i → (∀ j, 0 ≤ j → j < z → 0 ≤ N j ∧ N j ≤ n) → (∀ j, 0 ≤ j → j < z → 0 ≤ A j ∧ A j < 128) → 0 ≤ (tri g n m i b A N z).2.2 ∧ (tri g n m i b A N z).2.2 ≤ n ∧ (∀ j, 0 ≤ j → j < (tri g n m i b A N z).2.2 → 0 ≤ (tri g n m i b A N z).2.1 j ∧ (tri g n m i b A N z).2.1 j ≤ n) ∧ (∀ j, 0 ≤ j → j < (tri g n m i b A N z).2.2 → 0 ≤ (tri g n m i b A N z).1 j ∧ (tri g n m i b A N z).1 j < 128)
  | 0, i, b, z, A, N, h0, h1, h2, h3, h4, h5, hN, hA => ⟨h2, Int.le_trans h3 h1, hN, hA⟩
  | m + 1, i, b, z, A, N, h0, h1, h2, h3, h4, h5, hN, hA => by
    by_cases h : i < n
    · rw [tri_in h]
      have hb := zB_0 (decide (g i = 10))
      have hb1 := zB_1 (decide (g i = 10))
      have ht := tq_lt (g := g) (n := n) (i := i)
      have hq := tq_R g n i
      have hc := hg i h0 h
      refine tri_z hg m _ _ _ _ _ (by split <;> omega) (by split <;> omega) (by omega) (by split <;> omega) (by omega) (by split <;> omega) (fun j a c => ?_) (fun j a c => ?_)
      · by_cases e : j = z
        · rw [e, w_u_self]
          omega
        · rw [w_u_ne _ _ e]
          exact hN j a (by omega)
      · by_cases e : j = z
        · rw [e, w_u_self]
          split <;> omega
        · rw [w_u_ne _ _ e]
          exact hA j a (by omega)
    · rw [tri_out (by omega)]
      exact ⟨h2, Int.le_trans h3 h1, hN, hA⟩
theorem jnl_cong {n : Int} : ∀ (m : Nat) (i z : Int) (A N A2 N2 : Int → Int), 0 ≤ i → ag A A2 n → ag N N2 n → (jnl n m i z A N).2.2 = (jnl n m i z A2 N2).2.2 ∧ ag (jnl n m i z A N).1 (jnl n m i z A2 N2).1 n ∧ ag (jnl n m i z A N).2.1 (jnl n m i z A2 N2).2.1 n
  | 0, _, _, _, _, _, _, _, hA, hN => ⟨rfl, hA, hN⟩
  | m + 1, i, z, A, N, A2, N2, hi, hA, hN => by
    by_cases h : i < n
    · have e0 := hA i hi h
      by_cases q : A i = 92 ∧ i + 1 < n ∧ A (i + 1) = 10
      · have e1 := hA (i + 1) (by omega) q.2.1
        rw [jnl_2 h q, jnl_2 h ⟨e0 ▸ q.1, q.2.1, e1 ▸ q.2.2⟩]
        exact jnl_cong m _ _ _ _ _ _ (by omega) hA hN
      · have q2 : ¬ (A2 i = 92 ∧ i + 1 < n ∧ A2 (i + 1) = 10) := fun c => q ⟨e0.trans c.1, c.2.1, (hA (i + 1) (by omega) c.2.1).trans c.2.2⟩
        rw [jnl_1 h q, jnl_1 h q2]
        exact jnl_cong m _ _ _ _ _ _ (by omega) (ag_v hA e0) (ag_v hN (hN i hi h))
    · rw [jnl_0 (by omega), jnl_0 (by omega)]
      exact ⟨rfl, hA, hN⟩
theorem jnl_z {n : Int} : ∀ (m : Nat) (i z : Int) (A N : Int → Int), 0 ≤ i → 0 ≤ z → z ≤ i → z ≤ n → (∀ j, 0 ≤ j → j < n → 0 ≤ N j ∧ N j ≤ 160) → (∀ j, 0 ≤ j → j < n → 0 ≤ A j ∧ A j < 128) → 0 ≤ (jnl n m i z A N).2.2 ∧ (jnl n m i z A N).2.2 ≤ n ∧ (∀ j, 0 ≤ j → j < n → 0 ≤ (jnl n m i z A N).2.1 j ∧ (jnl n m i z A N).2.1 j ≤ 160) ∧ (∀ j, 0 ≤ j → j < n → 0 ≤ (jnl n m i z A N).1 j ∧ (jnl n m i z A N).1 j < 128)
  | 0, i, z, A, N, h0, h2, h3, h4, hN, hA => ⟨h2, h4, hN, hA⟩
  | m + 1, i, z, A, N, h0, h2, h3, h4, hN, hA => by
    by_cases h : i < n
    · by_cases q : A i = 92 ∧ i + 1 < n ∧ A (i + 1) = 10
      · rw [jnl_2 h q]
        exact jnl_z m _ _ _ _ (by omega) h2 (by omega) h4 hN hA
      · rw [jnl_1 h q]
        refine jnl_z m _ _ _ _ (by omega) (by omega) (by omega) (by omega) (fun j a b => ?_) (fun j a b => ?_)
        · by_cases e : j = z
          · rw [e, w_u_self]
            exact hN i h0 h
          · rw [w_u_ne _ _ e]
            exact hN j a b
        · by_cases e : j = z
          · rw [e, w_u_self]
            exact hA i h0 h
          · rw [w_u_ne _ _ e]
            exact hA j a b
    · rw [jnl_0 (by omega)]
      exact ⟨h2, h4, hN, hA⟩
section CG
variable {A B : Int → Int} {n : Int}
theorem nlf_cong (h : ag A B n) {i : Int} (h0 : 0 ≤ i) : nlf A n i = nlf B n i := fi_cong _ i rfl (fun j a b => by rw [h j (by omega) b])
theorem lcf_cong (h : ag A B n) {i : Int} (h0 : 0 ≤ i) : lcf A n i = lcf B n i := fi_cong _ i rfl (fun j a b => by rw [h j (by omega) (by omega), h (j + 1) (by omega) (by omega)])
theorem wnd_cong (h : ag A B n) {i : Int} (h0 : 0 ≤ i) : wnd A n i = wnd B n i := fi_cong _ i rfl (fun j a b => by rw [h j (by omega) b])
theorem bl_cong (h : ag A B n) {p : Int} (h0 : 0 ≤ p) (h1 : p < n) : bl A n p = bl B n p := by
  unfold bl lce
  rw [h p h0 h1]
  by_cases q : p + 1 < n
  · rw [h (p + 1) (by omega) q, lcf_cong h (by omega), nlf_cong h h0]
  · simp only [q, false_and, and_false, if_false]
theorem te_cong (h : ag A B n) {p : Int} (h0 : 0 ≤ p) (h1 : p < n) : te A n p = te B n p := by
  unfold te
  rw [h p h0 h1, wnd_cong h h0]
  by_cases q : p + 1 < n
  · rw [h (p + 1) (by omega) q]
  · simp only [q, false_and]
theorem pkN_cong (h : ag A B n) : ∀ (m : Nat) (i : Int) (x : Int64), 0 ≤ i → i + m ≤ n → pkN A m i x = pkN B m i x
  | 0, _, _, _, _ => rfl
  | m + 1, i, x, h0, h1 => by
    show pkN A m (i + 1) (lshl x 7 + li2l (A i)) = pkN B m (i + 1) (lshl x 7 + li2l (B i))
    rw [h i h0 (by omega)]
    exact pkN_cong h m (i + 1) _ (by omega) (by omega)
theorem spl_cong (h : ag A B n) {N M : Int → Int} {fl : Int} (hN : ∀ j, 0 ≤ j → j < n → ¬ A j = 10 → N j = M j) : ∀ (m : Nat) (p ln : Int) (g : Bool) (t : List Tok), 0 ≤ p → spl A N n fl m p ln g t = spl B M n fl m p ln g t
  | 0, _, _, _, _, _ => rfl
  | m + 1, p, ln, g, t, h0 => by
    by_cases hp : p < n
    · have eb := bl_cong h h0 hp
      have et := te_cong h h0 hp
      have hb := bl_r (A := A) hp
      have ht := te_r (A := A) hp
      by_cases c1 : bl A n p < 0
      · rw [spl_1 hp c1, spl_1 hp (eb ▸ c1)]
      · by_cases c2 : p < bl A n p
        · rw [spl_b hp c2 (by omega), spl_b hp (by omega) (by omega), ← eb, h p h0 hp]
          exact spl_cong h hN m _ _ _ _ (by omega)
        · by_cases c3 : te A n p = p ∨ 9 < te A n p - p
          · rw [spl_2 hp (by omega) (by omega) c3, spl_2 hp (by omega) (by omega) (by omega)]
          · have h10 : ¬ A p = 10 := fun z => by
              have := bl_10 (n := n) z
              omega
            rw [spl_t hp (by omega) (by omega) c3, spl_t hp (by omega) (by omega) (by omega), ← et, hN p h0 hp h10]
            have ek : pk A p (te A n p) = pk B p (te A n p) := pkN_cong h _ _ _ h0 (by omega)
            rw [ek]
            exact spl_cong h hN m _ _ _ _ (by omega)
    · rw [spl_0 (by omega), spl_0 (by omega)]
end CG
/-- letters and newlines of a file, its trigraphs replaced and its lines joined -/
def jq (g : Int → Int) (n : Int) : (Int → Int) × (Int → Int) × Int := jnl (tri g n 161 0 0 (fun _ => 0) (fun _ => 0) 0).2.2 161 0 0 (tri g n 161 0 0 (fun _ => 0) (fun _ => 0) 0).1 (tri g n 161 0 0 (fun _ => 0) (fun _ => 0) 0).2.1
def scan (g : Int → Int) (n fl : Int) : Int × List Tok := spl (jfn (jq g n)).1 (jq g n).2.1 (jfn (jq g n)).2 fl 161 0 0 false []
theorem jfn_cong {p q : (Int → Int) × (Int → Int) × Int} (hz : p.2.2 = q.2.2) (h0 : 0 ≤ p.2.2) (h : ag p.1 q.1 p.2.2) : (jfn p).2 = (jfn q).2 ∧ ag (jfn p).1 (jfn q).1 (jfn p).2 ∧ (∀ j, 0 ≤ j → j < (jfn p).2 → ¬ (jfn p).1 j = 10 → j < p.2.2) ∧ p.2.2 ≤ (jfn p).2 ∧ (jfn p).2 ≤ p.2.2 + 1 ∧ ((jfn p).2 = p.2.2 + 1 → (jfn p).1 p.2.2 = 10) := by
  by_cases c : 0 < p.2.2 ∧ ¬ p.1 (p.2.2 - 1) = 10
  · have c2 : 0 < q.2.2 ∧ ¬ q.1 (q.2.2 - 1) = 10 := by
      rw [← hz, ← h _ (by omega) (by omega)]
      exact c
    have e1 : jfn p = (w_u p.1 p.2.2 10, p.2.2 + 1) := by unfold jfn; rw [if_pos c]
    have e2 : jfn q = (w_u q.1 q.2.2 10, q.2.2 + 1) := by unfold jfn; rw [if_pos c2]
    rw [e1, e2, ← hz]
    refine ⟨rfl, ag_u h, fun j a b e => ?_, by show p.2.2 ≤ p.2.2 + 1; omega, Int.le_refl _, fun _ => w_u_self _ _ _⟩
    replace b : j < p.2.2 + 1 := b
    by_cases q : j = p.2.2
    · exact absurd (by show w_u p.1 p.2.2 10 j = 10; rw [q, w_u_self]) e
    · omega
  · have c2 : ¬ (0 < q.2.2 ∧ ¬ q.1 (q.2.2 - 1) = 10) := fun z => c (by
      rw [hz]
      refine ⟨z.1, ?_⟩
      rw [h _ (by omega) (by omega)]
      exact z.2)
    have e1 : jfn p = (p.1, p.2.2) := by unfold jfn; rw [if_neg c]
    have e2 : jfn q = (q.1, q.2.2) := by unfold jfn; rw [if_neg c2]
    rw [e1, e2]
    exact ⟨hz, h, fun j a b _ => b, Int.le_refl _, by show p.2.2 ≤ p.2.2 + 1; omega, fun z => absurd z (by show ¬ p.2.2 = p.2.2 + 1; omega)⟩
/-- the same from any rows that stood there -/
theorem scan_of {g : Int → Int} {n fl : Int} {A N B : Int → Int} {q : (Int → Int) × (Int → Int) × Int} {z : Int} (h0 : 0 ≤ n) (h1 : n ≤ 160) (hg : ∀ j, 0 ≤ j → j < n → 0 ≤ g j ∧ g j < 128) (hq : q = jnl (tri g n 161 0 0 A N 0).2.2 161 0 0 (tri g n 161 0 0 A N 0).1 (tri g n 161 0 0 A N 0).2.1) (hB : B = (jfn q).1) (hz : z = (jfn q).2) : spl B q.2.1 z fl 161 0 0 false [] = scan g n fl := by
  have t := tri_cong (fun j _ _ => rfl : ag g g n) 161 0 0 0 A N (fun _ => 0) (fun _ => 0) (Int.le_refl 0) (fun j a b => absurd b (by omega)) (fun j a b => absurd b (by omega))
  have tz := tri_z hg 161 0 0 0 A N (Int.le_refl 0) h0 (Int.le_refl 0) (Int.le_refl 0) (Int.le_refl 0) (Int.le_refl 0) (fun j a b => absurd b (by omega)) (fun j a b => absurd b (by omega))
  have j := jnl_cong (n := (tri g n 161 0 0 A N 0).2.2) 161 0 0 _ _ _ _ (Int.le_refl 0) t.2.1 t.2.2
  have jz := jnl_z (n := (tri g n 161 0 0 A N 0).2.2) 161 0 0 _ _ (Int.le_refl 0) (Int.le_refl 0) (Int.le_refl 0) tz.1 (fun j a b => ⟨(tz.2.2.1 j a b).1, Int.le_trans (tz.2.2.1 j a b).2 h1⟩) tz.2.2.2
  have e : jq g n = jnl (tri g n 161 0 0 A N 0).2.2 161 0 0 (tri g n 161 0 0 (fun _ => 0) (fun _ => 0) 0).1 (tri g n 161 0 0 (fun _ => 0) (fun _ => 0) 0).2.1 := by
    unfold jq
    rw [← t.1]
  rw [← e, ← hq] at j
  rw [← hq] at jz
  have f := jfn_cong (p := q) (q := jq g n) j.1 jz.1 (fun x a b => j.2.1 x a (by omega))
  unfold scan
  rw [hB, hz, ← f.1]
  exact spl_cong f.2.1 (fun x a b c => j.2.2 x a (by have := f.2.2.1 x a b c; omega)) 161 0 0 false [] (Int.le_refl 0)
theorem jfn_z {q : (Int → Int) × (Int → Int) × Int} (h0 : 0 ≤ q.2.2) (h1 : q.2.2 ≤ 160) : (jfn q).2 = 161 → (jfn q).1 160 = 10 := fun h => by
  have f := jfn_cong (p := q) (q := q) rfl h0 (fun _ _ _ => rfl)
  have e : q.2.2 = 160 := by omega
  have := f.2.2.2.2.2 (by omega)
  rw [e] at this
  exact this
theorem triple_eq {α β γ : Type} {a : α} {b : β} {c : γ} {q : α × β × γ} (h : (a, b, c) = q) : a = q.1 ∧ b = q.2.1 ∧ c = q.2.2 := by
  rw [← h]
  exact ⟨rfl, rfl, rfl⟩
theorem pair_eq {α β : Type} {a : α} {b : β} {q : α × β} (h : (a, b) = q) : a = q.1 ∧ b = q.2 := by
  rw [← h]
  exact ⟨rfl, rfl⟩
theorem c_read {sc : x_S} {d : Nat} {S : w_S} {f l : Nat} (hf : f < 3) (h0 : 0 ≤ sv S (243 + 2 * f) 1) (h1 : sv S (243 + 2 * f) 1 ≤ 160) (hg : ∀ i, 0 ≤ i → i < sv S (243 + 2 * f) 1 → 0 ≤ sA S (244 + 2 * f) i ∧ sA S (244 + 2 * f) i < 128) (hl : l < 4) (hz : sv S (203 + 8 * l) 2 = 0) (hd : 7 ≤ d) : w_T sc d 75 0 (x_en 0 [.ref 198, .ref (243 + 2 * f), .ref (202 + 8 * l)]) [] S (fun v S2 => v = some (.int (iZ (scan (sA S (244 + 2 * f)) (sv S (243 + 2 * f) 1) (sv S (202 + 8 * l) 0)).1)) ∧ fr (fun a => (198 ≤ a ∧ a ≤ 200) ∨ (202 + 8 * l ≤ a ∧ a ≤ 207 + 8 * l)) S S2 ∧ srep S2 l (scan (sA S (244 + 2 * f)) (sv S (243 + 2 * f) 1) (sv S (202 + 8 * l) 0)).2 ∧ sv S2 (202 + 8 * l) 1 = 1 ∧ ∀ k, ¬ k = 1 → sv S2 (202 + 8 * l) k = sv S (202 + 8 * l) k) := by
  refine w_aload_n rfl rfl rfl ?_
  refine w_iconst rfl rfl ?_
  refine w_putf rfl rfl (sh_src hl) rfl (by decide) (by decide) rfl ?_
  refine w_aload_n rfl rfl rfl ?_
  refine w_aload_n rfl rfl rfl ?_
  refine w_CV (as := [.ref (243 + 2 * f)]) (r := []) rfl rfl rfl rfl sh_198 (Nat.le_of_ble_eq_true rfl) (Nat.le_of_ble_eq_true rfl) (by omega) rfl (c_rtg (S := (w_v S (202 + 8 * l) 1 1)) (f := f) hf (by simp (disch := omega) only [rv_self, rv_ne, rl_self, rl_ne, rA_self, rA_ne, rL_self, rL_ne, rR_self, rR_ne, xvl, xvA, xvL, xvR, xlv, xlA, xlL, xlR, xAv, xAl, xAL, xAR, xLv, xLl, xLA, xLR, xRv, xRl, xRA, xRL]; omega) (by simp (disch := omega) only [rv_self, rv_ne, rl_self, rl_ne, rA_self, rA_ne, rL_self, rL_ne, rR_self, rR_ne, xvl, xvA, xvL, xvR, xlv, xlA, xlL, xlR, xAv, xAl, xAL, xAR, xLv, xLl, xLA, xLR, xRv, xRl, xRA, xRL]; omega) (by simp (disch := omega) only [rv_self, rv_ne, rl_self, rl_ne, rA_self, rA_ne, rL_self, rL_ne, rR_self, rR_ne, xvl, xvA, xvL, xvR, xlv, xlA, xlL, xlR, xAv, xAl, xAL, xAR, xLv, xLl, xLA, xLR, xRv, xRl, xRA, xRL]; exact hg) (by omega)) ?_
  rintro _ S1 ⟨rfl, f1, e1, z0, z1, r1⟩
  show w_T _ _ 75 10 _ [] _ _
  have e1 := triple_eq e1
  simp (disch := omega) only [rv_self, rv_ne, rl_self, rl_ne, rA_self, rA_ne, rL_self, rL_ne, rR_self, rR_ne, xvl, xvA, xvL, xvR, xlv, xlA, xlL, xlR, xAv, xAl, xAL, xAR, xLv, xLl, xLA, xLR, xRv, xRl, xRA, xRL] at e1
  refine w_aload_n rfl rfl rfl ?_
  refine w_CV (as := []) (r := []) rfl rfl rfl rfl sh_198 (Nat.le_of_ble_eq_true rfl) (Nat.le_of_ble_eq_true rfl) (by omega) rfl (c_jnl (S := S1) z0 z1 r1 (by omega)) ?_
  rintro _ S2 ⟨rfl, f2, e2, e3, y0, y1, r2⟩
  show w_T _ _ 75 14 _ [] _ _
  have e2 := pair_eq e2
  have tz := tri_z hg 161 0 0 0 (sA S 199) (sA S 200) (Int.le_refl 0) h0 (Int.le_refl 0) (Int.le_refl 0) (Int.le_refl 0) (Int.le_refl 0) (fun j a b => absurd b (by omega)) (fun j a b => absurd b (by omega))
  obtain ⟨q, hq⟩ : ∃ q, q = jnl (sv S1 198 2) 161 0 0 (sA S1 199) (sA S1 200) := ⟨_, rfl⟩
  rw [← hq] at e2 e3
  rw [e1.1, e1.2.1, e1.2.2] at hq
  have jz := jnl_z (n := (tri (sA S (244 + 2 * f)) (sv S (243 + 2 * f) 1) 161 0 0 (sA S 199) (sA S 200) 0).2.2) 161 0 0 _ _ (Int.le_refl 0) (Int.le_refl 0) (Int.le_refl 0) tz.1 (fun j a b => ⟨(tz.2.2.1 j a b).1, Int.le_trans (tz.2.2.1 j a b).2 h1⟩) tz.2.2.2
  rw [← hq] at jz
  have h6 : sv S2 198 2 = 161 → sA S2 199 160 = 10 := by
    rw [e2.1, e2.2]
    exact jfn_z jz.1 (by omega)
  have hz2 : srep S2 l [] := ⟨by rw [fr_gv f2 (by omega) 2, fr_gv f1 (by omega) 2, rv_ne (by omega), hz]; rfl, fun j a b => absurd b (by simp; omega)⟩
  have e202 : ∀ k, sv S2 (202 + 8 * l) k = sv (w_v S (202 + 8 * l) 1 1) (202 + 8 * l) k := fun k => by rw [fr_gv f2 (by omega) k, fr_gv f1 (by omega) k]
  have efl : sv S2 (202 + 8 * l) 0 = sv S (202 + 8 * l) 0 := by rw [e202, rv_ne (by omega)]
  have ee : spl (sA S2 199) (sA S2 200) (sv S2 198 2) (sv S2 (202 + 8 * l) 0) 161 0 0 false [] = scan (sA S (244 + 2 * f)) (sv S (243 + 2 * f) 1) (sv S (202 + 8 * l) 0) := by
    rw [e3, efl]
    exact scan_of h0 h1 hg hq e2.1 e2.2
  refine w_aload_n rfl rfl rfl ?_
  refine w_aload_n rfl rfl rfl ?_
  refine w_CV (as := [.ref (202 + 8 * l)]) (r := []) rfl rfl rfl rfl sh_198 (Nat.le_of_ble_eq_true rfl) (Nat.le_of_ble_eq_true rfl) (by omega) rfl (c_spl2 (S := S2) (l := l) hl y0 y1 r2 h6 hz2 (by omega)) ?_
  rintro _ S3 ⟨rfl, f3, hs3⟩
  show w_T _ _ 75 19 _ [.int (iZ ((spl (sA S2 199) (sA S2 200) (sv S2 198 2) (sv S2 (202 + 8 * l) 0) 161 0 0 false []).1))] _ _
  refine w_iret rfl rfl ?_
  rw [ee] at hs3 ⊢
  exact ⟨rfl, fr_trans (fr_trans (fr_trans (fr_v (fr_refl _ _) (by omega)) (fr_mono f1 (by omega))) (fr_mono f2 (by omega))) (fr_mono f3 (by omega)), hs3, by rw [fr_gv f3 (by omega) 1, e202, rv_self], fun k hk => by rw [fr_gv f3 (by omega) k, e202, rv_ne (by omega)]⟩
