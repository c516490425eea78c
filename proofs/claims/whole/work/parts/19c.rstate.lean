/-! How the reference stands while it parses: declarations, nodes, tasks. -/
abbrev Ed : Type := Int64 × Int × Int × Bool
abbrev Tk : Type := Int × Int × Int × Int × Int
def erp (A : Int → Int64) (B C F : Int → Int) : List Ed → Prop
  | [] => True
  | e :: r => A r.length = e.1 ∧ B r.length = e.2.1 ∧ C r.length = e.2.2.1 ∧ F r.length = zB e.2.2.2 ∧ erp A B C F r
def tkp (A B C F G : Int → Int) : List Tk → Prop
  | [] => True
  | t :: r => A r.length = t.1 ∧ B r.length = t.2.1 ∧ C r.length = t.2.2.1 ∧ F r.length = t.2.2.2.1 ∧ G r.length = t.2.2.2.2 ∧ tkp A B C F G r
theorem erp_fr {A A2 : Int → Int64} {B B2 C C2 F F2 : Int → Int} : ∀ E : List Ed, erp A B C F E → (∀ j : Int, j < E.length → A2 j = A j ∧ B2 j = B j ∧ C2 j = C j ∧ F2 j = F j) → erp A2 B2 C2 F2 E
  | [], _, _ => trivial
  | e :: r, h, g => by
    rw [List.length_cons] at g
    have q := g r.length (by omega)
    exact ⟨q.1.trans h.1, q.2.1.trans h.2.1, q.2.2.1.trans h.2.2.1, q.2.2.2.trans h.2.2.2.1, erp_fr r h.2.2.2.2 (fun j hj => g j (by omega))⟩
theorem tkp_fr {A A2 B B2 C C2 F F2 G G2 : Int → Int} : ∀ T : List Tk, tkp A B C F G T → (∀ j : Int, j < T.length → A2 j = A j ∧ B2 j = B j ∧ C2 j = C j ∧ F2 j = F j ∧ G2 j = G j) → tkp A2 B2 C2 F2 G2 T
  | [], _, _ => trivial
  | e :: r, h, g => by
    rw [List.length_cons] at g
    have q := g r.length (by omega)
    exact ⟨q.1.trans h.1, q.2.1.trans h.2.1, q.2.2.1.trans h.2.2.1, q.2.2.2.1.trans h.2.2.2.1, q.2.2.2.2.trans h.2.2.2.2.1, tkp_fr r h.2.2.2.2.2 (fun j hj => g j (by omega))⟩
theorem erp_suf {A : Int → Int64} {B C F : Int → Int} : ∀ (l r : List Ed), erp A B C F (l ++ r) → erp A B C F r
  | [], _, h => h
  | _ :: l, r, h => erp_suf l r h.2.2.2.2
def edk (n : Int) (Y : Int → Int64) (e : Ed) : Prop := -1 ≤ e.2.2.1 ∧ e.2.2.1 < n ∧ (0 ≤ e.2.2.1 → opn (Y e.2.2.1) = true) ∧ 0 ≤ e.2.1 ∧ e.2.1 ≤ n ∧ wk e.1 = 4
def erep (S : w_S) (n : Int) (Y : Int → Int64) (E : List Ed) : Prop := sv S 249 61 = E.length ∧ E.length ≤ 100 ∧ erp (sL S 292) (sA S 293) (sA S 294) (sA S 295) E ∧ ∀ e, e ∈ E → edk n Y e
def nrep (S : w_S) (N : List Nd) : Prop := sv S 249 56 = N.length ∧ N.length ≤ 202 ∧ ∀ j : Int, 0 ≤ j → j < N.length → sA S 289 j = (ndg N j).1 ∧ sA S 290 j = (ndg N j).2.1 ∧ sA S 291 j = (ndg N j).2.2
def tkr (S : w_S) (T : List Tk) : Prop := sv S 249 67 = T.length ∧ T.length ≤ 300 ∧ tkp (sA S 296) (sA S 297) (sA S 298) (sA S 299) (sA S 300) T
def PQ (S : w_S) (n : Int) (Y : Int → Int64) (mt : Int → Int) (E : List Ed) (N : List Nd) (T : List Tk) : Prop := RM S n Y mt ∧ erep S n Y E ∧ nrep S N ∧ tkr S T
def pfr (S S2 : w_S) : Prop := fr (fun a => a = 249 ∨ (287 ≤ a ∧ a ≤ 304)) S S2 ∧ ∀ k, ¬ (k = 56 ∨ k = 61 ∨ k = 67) → sv S2 249 k = sv S 249 k
theorem pfr_refl (S : w_S) : pfr S S := ⟨fr_refl _ _, fun _ _ => rfl⟩
theorem pfr_trans {S S1 S2 : w_S} (h1 : pfr S S1) (h2 : pfr S1 S2) : pfr S S2 := ⟨fr_trans h1.1 h2.1, fun k hk => (h2.2 k hk).trans (h1.2 k hk)⟩
def bmN : List Nd → Nat → Int → List Nd
  | [], _, _ => []
  | x :: r, 0, c => (x.1, x.2.1, x.2.2 + c) :: r
  | x :: r, k + 1, c => x :: bmN r k c
def bmp (N : List Nd) (p c : Int) : List Nd := if p < 0 then N else bmN N p.toNat c
theorem bmN_len : ∀ (N : List Nd) (k : Nat) (c : Int), (bmN N k c).length = N.length
  | [], _, _ => rfl
  | _ :: _, 0, _ => rfl
  | _ :: r, k + 1, c => by
    show (bmN r k c).length + 1 = r.length + 1
    rw [bmN_len r k c]
theorem bmp_len (N : List Nd) (p c : Int) : (bmp N p c).length = N.length := by
  unfold bmp
  split
  · rfl
  · exact bmN_len _ _ _
theorem bmN_l : ∀ (N X : List Nd) (k : Nat) (c : Int), k < N.length → bmN (N ++ X) k c = bmN N k c ++ X
  | [], _, k, _, h => absurd h (by rw [List.length_nil]; omega)
  | _ :: _, _, 0, _, _ => rfl
  | x :: r, X, k + 1, c, h => by
    show x :: bmN (r ++ X) k c = x :: (bmN r k c ++ X)
    rw [bmN_l r X k c (by rw [List.length_cons] at h; omega)]
theorem bmN_r : ∀ (N : List Nd) (x : Nd) (X : List Nd) (c : Int), bmN (N ++ x :: X) N.length c = N ++ (x.1, x.2.1, x.2.2 + c) :: X
  | [], _, _, _ => rfl
  | y :: r, x, X, c => by
    show y :: bmN (r ++ x :: X) r.length c = y :: (r ++ _)
    rw [bmN_r r x X c]
theorem bmN_2 : ∀ (N : List Nd) (k : Nat) (c e : Int), bmN (bmN N k c) k e = bmN N k (c + e)
  | [], _, _, _ => rfl
  | x :: r, 0, c, e => by
    show (x.1, x.2.1, x.2.2 + c + e) :: r = (x.1, x.2.1, x.2.2 + (c + e)) :: r
    rw [Int.add_assoc]
  | x :: r, k + 1, c, e => by
    show x :: bmN (bmN r k c) k e = x :: bmN r k (c + e)
    rw [bmN_2 r k c e]
theorem bmN_0 : ∀ (N : List Nd) (k : Nat), bmN N k 0 = N
  | [], _ => rfl
  | x :: r, 0 => by
    show (x.1, x.2.1, x.2.2 + 0) :: r = x :: r
    rw [Int.add_zero]
  | x :: r, k + 1 => by
    show x :: bmN r k 0 = x :: r
    rw [bmN_0 r k]
theorem bmp_l {N X : List Nd} {p c : Int} (h : p < N.length) : bmp (N ++ X) p c = bmp N p c ++ X := by
  unfold bmp
  by_cases z : p < 0
  · rw [if_pos z, if_pos z]
  · rw [if_neg z, if_neg z, bmN_l N X _ c (by omega)]
theorem bmp_r {N : List Nd} {x : Nd} {X : List Nd} {c : Int} : bmp (N ++ x :: X) N.length c = N ++ (x.1, x.2.1, x.2.2 + c) :: X := by
  unfold bmp
  rw [if_neg (by omega)]
  exact bmN_r N x X c
theorem bmp_2 {N : List Nd} {p c e : Int} : bmp (bmp N p c) p e = bmp N p (c + e) := by
  unfold bmp
  by_cases z : p < 0
  · rw [if_pos z, if_pos z, if_pos z]
  · rw [if_neg z, if_neg z, if_neg z, bmN_2]
theorem bmp_0 {N : List Nd} {p : Int} : bmp N p 0 = N := by
  unfold bmp
  split
  · rfl
  · exact bmN_0 _ _
theorem bmN_get : ∀ (N : List Nd) (k : Nat) (c : Int) (j : Nat), j < N.length → (bmN N k c).getD j (0, 0, 0) = (if j = k then ((N.getD j (0, 0, 0)).1, (N.getD j (0, 0, 0)).2.1, (N.getD j (0, 0, 0)).2.2 + c) else N.getD j (0, 0, 0))
  | [], _, _, j, h => absurd h (by rw [List.length_nil]; omega)
  | x :: r, 0, c, 0, _ => rfl
  | x :: r, 0, c, j + 1, _ => by
    rw [if_neg (by omega)]
    rfl
  | x :: r, k + 1, c, 0, _ => by
    rw [if_neg (by omega)]
    rfl
  | x :: r, k + 1, c, j + 1, h => by
    have i := bmN_get r k c j (by rw [List.length_cons] at h; omega)
    show (bmN r k c).getD j (0, 0, 0) = _
    rw [i]
    by_cases z : j = k
    · rw [if_pos z, if_pos (by omega)]
      rfl
    · rw [if_neg z, if_neg (by omega)]
      rfl
def gr (N : List Nd) (k t p : Int) : List Nd := bmp N p 1 ++ [(k, t, 0)]
theorem gr_len (N : List Nd) (k t p : Int) : (gr N k t p).length = N.length + 1 := by
  unfold gr
  rw [List.length_append, bmp_len]
  rfl
theorem nrep_gr {S W : w_S} {N : List Nd} {k t p : Int} (h : nrep S N) (h1 : N.length ≤ 201) (p0 : -1 ≤ p) (p1 : p < N.length) (w0 : sv W 249 56 = (N.length : Int) + 1) (w1 : sA W 289 = w_u (sA S 289) N.length k) (w2 : sA W 290 = w_u (sA S 290) N.length t) (w3 : sA W 291 = if p < 0 then w_u (sA S 291) N.length 0 else w_u (w_u (sA S 291) N.length 0) p (w_u (sA S 291) N.length 0 p + 1)) : nrep W (gr N k t p) := by
  have hl := gr_len N k t p
  refine ⟨by rw [w0, hl]; omega, by omega, fun j j0 j1 => ?_⟩
  rw [hl] at j1
  rw [w1, w2]
  unfold gr
  by_cases c1 : j < N.length
  · have q := h.2.2 j j0 c1
    rw [ndg_l j0 (by rw [bmp_len]; exact c1), w_u_ne _ _ (by omega), w_u_ne _ _ (by omega)]
    by_cases cp : p < 0
    · rw [if_pos cp] at w3
      have e : bmp N p 1 = N := by unfold bmp; rw [if_pos cp]
      rw [e, w3, w_u_ne _ _ (by omega)]
      exact q
    · rw [if_neg cp] at w3
      have e : ndg (bmp N p 1) j = (if j = p then ((ndg N j).1, (ndg N j).2.1, (ndg N j).2.2 + 1) else ndg N j) := by
        unfold bmp ndg
        rw [if_neg cp, bmN_get N p.toNat 1 j.toNat (by omega)]
        by_cases z : j = p
        · rw [if_pos z, if_pos (by omega)]
        · rw [if_neg z, if_neg (by omega)]
      rw [e, w3]
      by_cases z : j = p
      · rw [if_pos z, ← z, w_u_self, w_u_ne _ _ (by omega)]
        exact ⟨q.1, q.2.1, by rw [q.2.2]⟩
      · rw [if_neg z, w_u_ne _ _ z, w_u_ne _ _ (by omega)]
        exact q
  · have e : j = N.length := by omega
    rw [ndg_r (by rw [bmp_len]; omega), bmp_len, e, Int.sub_self, ndg_0, w_u_self, w_u_self]
    refine ⟨rfl, rfl, ?_⟩
    rw [w3]
    by_cases cp : p < 0
    · rw [if_pos cp, w_u_self]
    · rw [if_neg cp, w_u_ne _ _ (by omega), w_u_self]
theorem RM_fr {c : Nat → Prop} {S S2 : w_S} {n : Int} {Y : Int → Int64} {mt : Int → Int} (h : RM S n Y mt) (f : fr c S S2) (h1 : sv S2 249 49 = sv S 249 49) (h2 : ¬ c 285) (h3 : ¬ c 287) : RM S2 n Y mt := ⟨PYW_fr h.1 f h1 h2, h.2.1, fun k k0 k1 => by rw [fr_gA f h3]; exact h.2.2.1 k k0 k1, h.2.2.2⟩
theorem erep_fr {c : Nat → Prop} {S S2 : w_S} {n : Int} {Y : Int → Int64} {E : List Ed} (h : erep S n Y E) (f : fr c S S2) (h1 : sv S2 249 61 = sv S 249 61) (hc : ∀ a, 292 ≤ a → a ≤ 295 → ¬ c a) : erep S2 n Y E := ⟨h1.trans h.1, h.2.1, by rw [fr_gL f (hc 292 (by omega) (by omega)), fr_gA f (hc 293 (by omega) (by omega)), fr_gA f (hc 294 (by omega) (by omega)), fr_gA f (hc 295 (by omega) (by omega))]; exact h.2.2.1, h.2.2.2⟩
theorem nrep_fr {c : Nat → Prop} {S S2 : w_S} {N : List Nd} (h : nrep S N) (f : fr c S S2) (h1 : sv S2 249 56 = sv S 249 56) (hc : ∀ a, 289 ≤ a → a ≤ 291 → ¬ c a) : nrep S2 N := ⟨h1.trans h.1, h.2.1, by rw [fr_gA f (hc 289 (by omega) (by omega)), fr_gA f (hc 290 (by omega) (by omega)), fr_gA f (hc 291 (by omega) (by omega))]; exact h.2.2⟩
theorem tkr_fr {c : Nat → Prop} {S S2 : w_S} {T : List Tk} (h : tkr S T) (f : fr c S S2) (h1 : sv S2 249 67 = sv S 249 67) (hc : ∀ a, 296 ≤ a → a ≤ 300 → ¬ c a) : tkr S2 T := ⟨h1.trans h.1, h.2.1, by rw [fr_gA f (hc 296 (by omega) (by omega)), fr_gA f (hc 297 (by omega) (by omega)), fr_gA f (hc 298 (by omega) (by omega)), fr_gA f (hc 299 (by omega) (by omega)), fr_gA f (hc 300 (by omega) (by omega))]; exact h.2.2⟩
theorem tkr_cons {S W : w_S} {T : List Tk} {t : Tk} (h : tkr S T) (h1 : T.length ≤ 299) (w0 : sv W 249 67 = (T.length : Int) + 1) (w1 : sA W 296 = w_u (sA S 296) T.length t.1) (w2 : sA W 297 = w_u (sA S 297) T.length t.2.1) (w3 : sA W 298 = w_u (sA S 298) T.length t.2.2.1) (w4 : sA W 299 = w_u (sA S 299) T.length t.2.2.2.1) (w5 : sA W 300 = w_u (sA S 300) T.length t.2.2.2.2) : tkr W (t :: T) := by
  refine ⟨by rw [w0, List.length_cons]; omega, by rw [List.length_cons]; omega, by rw [w1, w_u_self], by rw [w2, w_u_self], by rw [w3, w_u_self], by rw [w4, w_u_self], by rw [w5, w_u_self], tkp_fr T h.2.2 (fun j hj => ?_)⟩
  rw [w1, w2, w3, w4, w5]
  exact ⟨w_u_ne _ _ (by omega), w_u_ne _ _ (by omega), w_u_ne _ _ (by omega), w_u_ne _ _ (by omega), w_u_ne _ _ (by omega)⟩
theorem PQ_n {S S2 : w_S} {n : Int} {Y : Int → Int64} {mt : Int → Int} {E : List Ed} {N N2 : List Nd} {T : List Tk} (h : PQ S n Y mt E N T) (f : fr (fun a => a = 249 ∨ (289 ≤ a ∧ a ≤ 291)) S S2) (hv : ∀ k, ¬ k = 56 → sv S2 249 k = sv S 249 k) (hn : nrep S2 N2) : pfr S S2 ∧ PQ S2 n Y mt E N2 T := ⟨⟨fr_mono f (fun a h => by omega), fun k hk => hv k (fun z => hk (Or.inl z))⟩, RM_fr h.1 f (hv 49 (by decide)) (by decide) (by decide), erep_fr h.2.1 f (hv 61 (by decide)) (fun a a0 a1 => by omega), hn, tkr_fr h.2.2.2 f (hv 67 (by decide)) (fun a a0 a1 => by omega)⟩
theorem PQ_t {S S2 : w_S} {n : Int} {Y : Int → Int64} {mt : Int → Int} {E : List Ed} {N : List Nd} {T T2 : List Tk} (h : PQ S n Y mt E N T) (f : fr (fun a => a = 249 ∨ (296 ≤ a ∧ a ≤ 300)) S S2) (hv : ∀ k, ¬ k = 67 → sv S2 249 k = sv S 249 k) (hn : tkr S2 T2) : pfr S S2 ∧ PQ S2 n Y mt E N T2 := ⟨⟨fr_mono f (fun a h => by omega), fun k hk => hv k (fun z => hk (Or.inr (Or.inr z)))⟩, RM_fr h.1 f (hv 49 (by decide)) (by decide) (by decide), erep_fr h.2.1 f (hv 61 (by decide)) (fun a a0 a1 => by omega), nrep_fr h.2.2.1 f (hv 56 (by decide)) (fun a a0 a1 => by omega), hn⟩
theorem PQ_d {S S2 : w_S} {n : Int} {Y : Int → Int64} {mt : Int → Int} {E : List Ed} {N : List Nd} {T : List Tk} (h : PQ S n Y mt E N T) (f : fr (fun a => 301 ≤ a ∧ a ≤ 304) S S2) : pfr S S2 ∧ PQ S2 n Y mt E N T := ⟨⟨fr_mono f (fun a h => by omega), fun k _ => fr_gv f (by omega) k⟩, RM_fr h.1 f (fr_gv f (by omega) 49) (by omega) (by omega), erep_fr h.2.1 f (fr_gv f (by omega) 61) (fun a a0 a1 => by omega), nrep_fr h.2.2.1 f (fr_gv f (by omega) 56) (fun a a0 a1 => by omega), tkr_fr h.2.2.2 f (fr_gv f (by omega) 67) (fun a a0 a1 => by omega)⟩
theorem r_grow {sc : x_S} {d : Nat} {S : w_S} {nn : Int} {Y : Int → Int64} {mt : Int → Int} {E : List Ed} {N : List Nd} {T : List Tk} {k t p : Int} (hq : PQ S nn Y mt E N T) (h1 : N.length ≤ 201) (p0 : -1 ≤ p) (p1 : p < N.length) (hd : 1 ≤ d) : w_T sc d 150 0 (x_en 0 [.ref 249, .int (iZ k), .int (iZ t), .int (iZ p)]) [] S (fun v S2 => v = some (.int (iZ (N.length : Int))) ∧ pfr S S2 ∧ PQ S2 nn Y mt E (gr N k t p) T) := by
  have n0 := hq.1.1.2.1
  have n1 := hq.1.1.2.2.1
  have hg := hq.1.1.2.2.2.2.1
  have hM := hq.1.2.1
  have hlE := hq.2.1.2.1
  have hlN := hq.2.2.1.2.1
  have hlT := hq.2.2.2.2.1
  have hY0 := hq.1.1.2.2.2.2.2
  have hcm := hq.1.2.2.2
  refine w_aload_n rfl rfl rfl ?_
  refine w_getR rfl rfl sh_249 rfl rfl ?_
  refine w_aload_n rfl rfl rfl ?_
  refine w_getI (z := (N.length : Int)) rfl rfl sh_249 rfl hq.2.2.1.1 rfl ?_
  refine w_iload_n rfl rfl rfl ?_
  refine w_iaS (f := sA S 289) rfl sh_289 (by omega) (by omega) (by decide) rfl rfl ?_
  refine w_aload_n rfl rfl rfl ?_
  refine w_getR rfl rfl sh_249 rfl rfl ?_
  refine w_aload_n rfl rfl rfl ?_
  refine w_getI (z := (N.length : Int)) rfl rfl sh_249 rfl hq.2.2.1.1 rfl ?_
  refine w_iload_n rfl rfl rfl ?_
  refine w_iaS (f := sA S 290) rfl sh_290 (by omega) (by omega) (by decide) (rA_ne (by decide)) rfl ?_
  refine w_aload_n rfl rfl rfl ?_
  refine w_getR rfl rfl sh_249 rfl rfl ?_
  refine w_aload_n rfl rfl rfl ?_
  refine w_getI (z := (N.length : Int)) rfl rfl sh_249 rfl hq.2.2.1.1 rfl ?_
  refine w_iconst rfl rfl ?_
  refine w_iaS (f := sA S 291) rfl sh_291 (by omega) (by omega) (by decide) ((rA_ne (by decide)).trans (rA_ne (by decide))) rfl ?_
  refine w_iload_n rfl rfl rfl ?_
  refine w_if_lt (pc2 := 44) (pc3 := 34) rfl (by decide) rfl ⟨by omega, by omega⟩ (fun c31 => ?_) (fun c31 => ?_)
  · skip
    refine w_aload_n rfl rfl rfl ?_
    refine w_dup rfl rfl rfl ?_
    refine w_getI (z := (N.length : Int)) rfl rfl sh_249 rfl hq.2.2.1.1 rfl ?_
    refine w_iconst rfl rfl ?_
    refine w_iadd rfl rfl ?_
    refine w_putf rfl rfl sh_249 rfl rfl (by decide) rfl ?_
    refine w_aload_n rfl rfl rfl ?_
    refine w_getI (z := ((N.length : Int)) + 1) rfl rfl sh_249 rfl (rv_self _ _ _ _) rfl ?_
    refine w_iconst rfl rfl ?_
    refine w_isub rfl rfl ?_
    rw [show (N.length : Int) + 1 - 1 = (N.length : Int) by omega]
    refine w_iret rfl rfl ?_
    refine ⟨rfl, PQ_n hq (fr_v (fr_A (fr_A (fr_A (fr_refl _ _) (by omega)) (by omega)) (by omega)) (by omega)) ?_ (nrep_gr hq.2.2.1 h1 p0 p1 (rv_self _ _ _ _) rfl rfl ?_)⟩
    · intro j hj
      exact rv_ne (by omega)
    · first
      | (rw [if_pos (by omega)]; rfl)
      | (rw [if_neg (by omega)]; rfl)
  · skip
    refine w_aload_n rfl rfl rfl ?_
    refine w_getR rfl rfl sh_249 rfl rfl ?_
    refine w_iload_n rfl rfl rfl ?_
    refine w_dup2 rfl rfl rfl rfl ?_
    refine w_iald (z := (w_u (sA S 291) ((N.length : Int)) 0) p) rfl sh_291 (by omega) (by omega) (by decide) (congrFun (rA_self _ _ _) _) rfl ?_
    refine w_iconst rfl rfl ?_
    refine w_iadd rfl rfl ?_
    refine w_iaS (f := w_u (sA S 291) ((N.length : Int)) 0) rfl sh_291 (by omega) (by omega) (by decide) (rA_self _ _ _) rfl ?_
    refine w_aload_n rfl rfl rfl ?_
    refine w_dup rfl rfl rfl ?_
    refine w_getI (z := (N.length : Int)) rfl rfl sh_249 rfl hq.2.2.1.1 rfl ?_
    refine w_iconst rfl rfl ?_
    refine w_iadd rfl rfl ?_
    refine w_putf rfl rfl sh_249 rfl rfl (by decide) rfl ?_
    refine w_aload_n rfl rfl rfl ?_
    refine w_getI (z := ((N.length : Int)) + 1) rfl rfl sh_249 rfl (rv_self _ _ _ _) rfl ?_
    refine w_iconst rfl rfl ?_
    refine w_isub rfl rfl ?_
    rw [show (N.length : Int) + 1 - 1 = (N.length : Int) by omega]
    refine w_iret rfl rfl ?_
    refine ⟨rfl, PQ_n hq (fr_v (fr_A (fr_A (fr_A (fr_A (fr_refl _ _) (by omega)) (by omega)) (by omega)) (by omega)) (by omega)) ?_ (nrep_gr hq.2.2.1 h1 p0 p1 (rv_self _ _ _ _) rfl rfl ?_)⟩
    · intro j hj
      exact rv_ne (by omega)
    · first
      | (rw [if_pos (by omega)]; rfl)
      | (rw [if_neg (by omega)]; rfl)
theorem r_push {sc : x_S} {d : Nat} {S : w_S} {nn : Int} {Y : Int → Int64} {mt : Int → Int} {E : List Ed} {N : List Nd} {T : List Tk} {w a b p j : Int} (hq : PQ S nn Y mt E N T) (h1 : T.length ≤ 299) (hd : 1 ≤ d) : w_T sc d 151 0 (x_en 0 [.ref 249, .int (iZ w), .int (iZ a), .int (iZ b), .int (iZ p), .int (iZ j)]) [] S (fun v S2 => v = some (.int (iZ 1)) ∧ pfr S S2 ∧ PQ S2 nn Y mt E N ((w, a, b, p, j) :: T)) := by
  have n0 := hq.1.1.2.1
  have n1 := hq.1.1.2.2.1
  have hg := hq.1.1.2.2.2.2.1
  have hM := hq.1.2.1
  have hlE := hq.2.1.2.1
  have hlN := hq.2.2.1.2.1
  have hlT := hq.2.2.2.2.1
  have hY0 := hq.1.1.2.2.2.2.2
  have hcm := hq.1.2.2.2
  refine w_aload_n rfl rfl rfl ?_
  refine w_getR rfl rfl sh_249 rfl rfl ?_
  refine w_aload_n rfl rfl rfl ?_
  refine w_getI (z := (T.length : Int)) rfl rfl sh_249 rfl hq.2.2.2.1 rfl ?_
  refine w_iload_n rfl rfl rfl ?_
  refine w_iaS (f := sA S 296) rfl sh_296 (by omega) (by omega) (by decide) rfl rfl ?_
  refine w_aload_n rfl rfl rfl ?_
  refine w_getR rfl rfl sh_249 rfl rfl ?_
  refine w_aload_n rfl rfl rfl ?_
  refine w_getI (z := (T.length : Int)) rfl rfl sh_249 rfl hq.2.2.2.1 rfl ?_
  refine w_iload_n rfl rfl rfl ?_
  refine w_iaS (f := sA S 297) rfl sh_297 (by omega) (by omega) (by decide) (rA_ne (by decide)) rfl ?_
  refine w_aload_n rfl rfl rfl ?_
  refine w_getR rfl rfl sh_249 rfl rfl ?_
  refine w_aload_n rfl rfl rfl ?_
  refine w_getI (z := (T.length : Int)) rfl rfl sh_249 rfl hq.2.2.2.1 rfl ?_
  refine w_iload_n rfl rfl rfl ?_
  refine w_iaS (f := sA S 298) rfl sh_298 (by omega) (by omega) (by decide) ((rA_ne (by decide)).trans (rA_ne (by decide))) rfl ?_
  refine w_aload_n rfl rfl rfl ?_
  refine w_getR rfl rfl sh_249 rfl rfl ?_
  refine w_aload_n rfl rfl rfl ?_
  refine w_getI (z := (T.length : Int)) rfl rfl sh_249 rfl hq.2.2.2.1 rfl ?_
  refine w_iload rfl rfl rfl ?_
  refine w_iaS (f := sA S 299) rfl sh_299 (by omega) (by omega) (by decide) ((rA_ne (by decide)).trans ((rA_ne (by decide)).trans (rA_ne (by decide)))) rfl ?_
  refine w_aload_n rfl rfl rfl ?_
  refine w_getR rfl rfl sh_249 rfl rfl ?_
  refine w_aload_n rfl rfl rfl ?_
  refine w_getI (z := (T.length : Int)) rfl rfl sh_249 rfl hq.2.2.2.1 rfl ?_
  refine w_iload rfl rfl rfl ?_
  refine w_iaS (f := sA S 300) rfl sh_300 (by omega) (by omega) (by decide) ((rA_ne (by decide)).trans ((rA_ne (by decide)).trans ((rA_ne (by decide)).trans (rA_ne (by decide))))) rfl ?_
  refine w_aload_n rfl rfl rfl ?_
  refine w_dup rfl rfl rfl ?_
  refine w_getI (z := (T.length : Int)) rfl rfl sh_249 rfl hq.2.2.2.1 rfl ?_
  refine w_iconst rfl rfl ?_
  refine w_iadd rfl rfl ?_
  refine w_putf rfl rfl sh_249 rfl rfl (by decide) rfl ?_
  refine w_iconst rfl rfl ?_
  refine w_zret rfl rfl (by decide) ?_
  refine ⟨rfl, PQ_t hq (fr_v (fr_A (fr_A (fr_A (fr_A (fr_A (fr_refl _ _) (by omega)) (by omega)) (by omega)) (by omega)) (by omega)) (by omega)) ?_ (tkr_cons hq.2.2.2 h1 (rv_self _ _ _ _) rfl rfl rfl rfl rfl)⟩
  intro k hk
  exact rv_ne (by omega)
