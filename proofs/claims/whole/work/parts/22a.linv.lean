/-! What holds of class and reference between two calls. -/
theorem zand_15 (a : Int) : 0 ≤ zand a 15 ∧ zand a 15 < 16 := by
  have h : ((iZ a) &&& (iZ 15)).toBitVec.toNat ≤ 15 := by
    rw [Int32.toBitVec_and, BitVec.toNat_and]
    exact Nat.le_trans Nat.and_le_right (by decide)
  have e : zand a 15 = ((((iZ a) &&& (iZ 15)).toBitVec.toNat : Nat) : Int) := i32_nat rfl (by omega)
  rw [e]
  omega
theorem zi2c_r (a : Int) : 0 ≤ zi2c a ∧ zi2c a < 65536 := by
  have h : ((iZ a).toUInt32 % 65536).toNat < 65536 := by
    rw [UInt32.toNat_mod]
    exact Nat.mod_lt _ (by decide)
  have e : zi2c a = ((((iZ a).toUInt32 % 65536).toNat : Nat) : Int) := by
    unfold zi2c
    exact i32_nat rfl (by omega)
  rw [e]
  omega
def Rok (R : Rst) : Prop := 0 ≤ R.1 ∧ R.1 ≤ 99 ∧ R.2.1.length ≤ 100 ∧ ogw R.2.1 ∧ 0 ≤ R.2.2.1 ∧ R.2.2.1 ≤ 30 ∧ TOK R.2.2.2.1 ∧ R.2.2.2.2.length ≤ 201
def Fgd (F : Int → (Int → Int) × Int) : Prop := ∀ f : Int, 0 ≤ f → f ≤ 2 → 0 ≤ (F f).2 ∧ (F f).2 ≤ 160 ∧ (∀ i, 0 ≤ i → i < (F f).2 → 0 ≤ (F f).1 i ∧ (F f).1 i < 128)
def LV9 (S : w_S) (F : Int → (Int → Int) × Int) (c : Nat) (R : Rst) : Prop := CIv S F ∧ RT S F ∧ Fgd F ∧ sv S 0 3 = c ∧ sv S 249 2 = c ∧ c < 3 ∧ CRs S R ∧ RRs S R ∧ Rok R
theorem CRs_fr {c : Nat → Prop} {S S2 : w_S} {R : Rst} (h : CRs S R) (f : fr c S S2) (h4 : sv S2 0 4 = sv S 0 4) (hc : ∀ a, (3 ≤ a ∧ a ≤ 32) ∨ (235 ≤ a ∧ a ≤ 238) → ¬ c a) : CRs S2 R := by
  obtain ⟨g1, g2, g3, g4, ⟨pi, g5⟩, g6⟩ := h
  exact ⟨h4.trans g1, by rw [fr_gv f (hc 30 (by omega))]; exact g2, by rw [fr_gL f (hc 31 (by omega)), fr_gA f (hc 32 (by omega))]; exact g3, by rw [fr_gv f (hc 3 (by omega))]; exact g4, ⟨pi, ctab_fr g5 f (fun a a0 a1 => hc a (by omega))⟩, trep_fr g6 f (fun a a0 a1 => hc a (by omega))⟩
theorem RRs_fr {c : Nat → Prop} {S S2 : w_S} {R : Rst} (h : RRs S R) (f : fr c S S2) (hv : ∀ k, (k = 50 ∨ k = 49 ∨ k = 23 ∨ k = 56) → sv S2 249 k = sv S 249 k) (hc : ∀ a, (262 ≤ a ∧ a ≤ 266) ∨ (285 ≤ a ∧ a ≤ 291) → ¬ c a) : RRs S2 R := by
  obtain ⟨g1, g2, g3, g4, ⟨sg, g5⟩, g6⟩ := h
  exact ⟨(hv 50 (by decide)).trans g1, (hv 49 (by decide)).trans g2, by rw [fr_gL f (hc 285 (by omega)), fr_gA f (hc 286 (by omega))]; exact g3, (hv 23 (by decide)).trans g4, ⟨sg, rtab_fr g5 f (fun a a0 a1 => hc a (by omega))⟩, nrep_fr g6 f (hv 56 (by decide)) (fun a a0 a1 => hc a (by omega))⟩
theorem CIv_g {c : Nat → Prop} {S S2 : w_S} {F : Int → (Int → Int) × Int} (h : CIv S F) (f : fr c S S2) (hc : ∀ a, (a = 1 ∨ a = 5 ∨ a = 42 ∨ a = 201 ∨ (243 ≤ a ∧ a ≤ 248)) → ¬ c a) : CIv S2 F := by
  obtain ⟨⟨pi, p1, p2, p3⟩, h2, h3, h4⟩ := h
  refine ⟨⟨pi, p1, p2, fun k k0 k1 => by rw [fr_gR f (hc 5 (by omega))]; exact p3 k k0 k1⟩, fun k k0 k1 => by rw [fr_gR f (hc 42 (by omega))]; exact h2 k k0 k1, fun k k0 k1 => by rw [fr_gR f (hc 201 (by omega))]; exact h3 k k0 k1, fun k k0 k1 => ?_⟩
  rw [fr_gR f (hc 1 (by omega)), fr_gv f (hc _ (by omega)), fr_gA f (hc _ (by omega))]
  exact h4 k k0 k1
theorem CIv_tr {S S2 : w_S} {F : Int → (Int → Int) × Int} {T : List Mac} (h : CIv S F) (f : fr FCT S S2) (ht : ∃ pi, ctab S2 pi T) : CIv S2 F := by
  obtain ⟨pi, t1, t2, t3, t4, t5, t6⟩ := ht
  obtain ⟨_, h2, h3, h4⟩ := h
  refine ⟨⟨pi, t3, t4, t5⟩, fun k k0 k1 => by rw [fr_gR f (by unfold FCT FRN; omega)]; exact h2 k k0 k1, fun k k0 k1 => by rw [fr_gR f (by unfold FCT FRN; omega)]; exact h3 k k0 k1, fun k k0 k1 => ?_⟩
  rw [fr_gR f (by unfold FCT FRN; omega), fr_gv f (by unfold FCT FRN; omega), fr_gA f (by unfold FCT FRN; omega)]
  exact h4 k k0 k1
section LVS
variable {S S2 S3 : w_S} {F : Int → (Int → Int) × Int} {c : Nat} {R : Rst}
theorem LV_txt (h : LV9 S F c R) {k : Int} (k0 : 0 ≤ k) (k2 : k ≤ 2) : sR S 1 k = some (243 + 2 * k.toNat) ∧ sv S (243 + 2 * k.toNat) 1 = (F k).2 ∧ sA S (244 + 2 * k.toNat) = (F k).1 := h.1.2.2.2 k k0 (by omega)
theorem LV_ch (h : LV9 S F c R) {f : Nat} (hf : f < 3) : LV9 (w_v (w_v S 0 3 (f : Int)) 249 2 (f : Int)) F f R := by
  have g : fr (fun a => a = 0 ∨ a = 249) S (w_v (w_v S 0 3 (f : Int)) 249 2 (f : Int)) := fr_v (fr_v (fr_refl _ _) (Or.inl rfl)) (Or.inr rfl)
  obtain ⟨h1, h2, h3, h4, h5, h6, h7, h8, h9⟩ := h
  refine ⟨CIv_g h1 g (fun a ha => by omega), RT_fr h2 g (by decide), h3, ?_, rv_self _ _ _ _, hf, CRs_fr h7 g ?_ (fun a ha => by omega), RRs_fr h8 g (fun k hk => ?_) (fun a ha => by omega), h9⟩
  · rw [rv_ne (by decide)]
    exact rv_self _ _ _ _
  · rw [rv_ne (by decide), rv_ne (by decide)]
  · rw [rv_ne (by omega), rv_ne (by omega)]
def Fup (F : Int → (Int → Int) × Int) (f : Int) (p : (Int → Int) × Int) : Int → (Int → Int) × Int := fun k => if k = f then p else F k
theorem Fup_s {f : Int} {p : (Int → Int) × Int} : Fup F f p f = p := by unfold Fup; rw [if_pos rfl]
theorem Fup_n {f k : Int} {p : (Int → Int) × Int} (h : ¬ k = f) : Fup F f p k = F k := by unfold Fup; rw [if_neg h]
theorem LV_fil {p : (Int → Int) × Int} (h : LV9 S F c R) (g : fr (fun a => a = 243 + 2 * c ∨ a = 244 + 2 * c ∨ a = 250 ∨ a = 251) S S2) (hp : 0 ≤ p.2 ∧ p.2 ≤ 160 ∧ (∀ i, 0 ≤ i → i < p.2 → 0 ≤ p.1 i ∧ p.1 i < 128)) (q1 : sv S2 (243 + 2 * c) 1 = p.2) (q2 : sA S2 (244 + 2 * c) = p.1) (q3 : sA S2 251 c = p.2) (q4 : ∀ k : Int, 0 ≤ k → k < p.2 → sA S2 250 (160 * c + k) = p.1 k) (q5 : ∀ j : Int, ¬ j = c → sA S2 251 j = sA S 251 j) (q6 : ∀ j : Int, (j < 160 * c ∨ 160 * (c + 1) ≤ j) → sA S2 250 j = sA S 250 j) : LV9 S2 (Fup F c p) c R := by
  obtain ⟨h1, h2, h3, h4, h5, h6, h7, h8, h9⟩ := h
  obtain ⟨⟨pi, p1, p2, p3⟩, i2, i3, i4⟩ := h1
  refine ⟨⟨⟨pi, p1, p2, fun k k0 k1 => by rw [fr_gR g (by omega)]; exact p3 k k0 k1⟩, fun k k0 k1 => by rw [fr_gR g (by omega)]; exact i2 k k0 k1, fun k k0 k1 => by rw [fr_gR g (by omega)]; exact i3 k k0 k1, fun k k0 k1 => ?_⟩, fun k k0 k1 => ?_, fun k k0 k1 => ?_, by rw [fr_gv g (by omega)]; exact h4, by rw [fr_gv g (by omega)]; exact h5, h6, CRs_fr h7 g (fr_gv g (by omega) 4) (fun a ha => by omega), RRs_fr h8 g (fun k hk => fr_gv g (by omega) k) (fun a ha => by omega), h9⟩
  · rw [fr_gR g (by omega)]
    refine ⟨(i4 k k0 k1).1, ?_⟩
    by_cases z : k = c
    · rw [z, Fup_s, Int.toNat_natCast]
      exact ⟨q1, q2⟩
    · rw [Fup_n z, fr_gv g (by omega), fr_gA g (by omega)]
      exact (i4 k k0 k1).2
  · have r := h2 k k0 k1
    by_cases z : k = c
    · rw [z, Fup_s]
      exact ⟨q3, q4⟩
    · rw [Fup_n z, q5 k z]
      refine ⟨r.1, fun x x0 x1 => ?_⟩
      have b := h3 k k0 k1
      rw [q6 _ (by omega)]
      exact r.2 x x0 x1
  · by_cases z : k = c
    · rw [z, Fup_s]
      exact hp
    · rw [Fup_n z]
      exact h3 k k0 k1
theorem LV_clr (h : LV9 S F c R) : LV9 (w_A (w_v S (243 + 2 * c) 1 0) 251 (w_u (sA (w_v S (243 + 2 * c) 1 0) 251) c 0)) (Fup F c ((F c).1, 0)) c R := by
  have hc := h.2.2.2.2.2.1
  have tx := LV_txt h (k := c) (by omega) (by omega)
  rw [Int.toNat_natCast] at tx
  refine LV_fil h (fr_A (fr_v (fr_refl _ _) (Or.inl rfl)) (Or.inr (Or.inr (Or.inr rfl)))) ⟨Int.le_refl 0, by show (0 : Int) ≤ 160; decide, fun i i0 i1 => absurd i1 (by show ¬ i < 0; omega)⟩ (rv_self _ _ _ _) ?_ ?_ (fun k k0 k1 => absurd k1 (by show ¬ k < 0; omega)) (fun j hj => ?_) (fun j hj => ?_)
  · rw [rA_ne (by omega)]
    exact tx.2.2
  · rw [rA_self]
    exact w_u_self _ _ _
  · rw [rA_self]
    exact w_u_ne _ _ hj
  · rw [rA_ne (by omega)]
    rfl
theorem LV_wr {n x : Int} (h : LV9 S F c R) (hn : (F c).2 = n) (hx : okw n x) : LV9 (w_A (w_A (w_v (w_A S (244 + 2 * c) (w_u (sA S (244 + 2 * c)) n x)) (243 + 2 * c) 1 (n + 1)) 250 (w_u (sA (w_v (w_A S (244 + 2 * c) (w_u (sA S (244 + 2 * c)) n x)) (243 + 2 * c) 1 (n + 1)) 250) (160 * c + n) x)) 251 (w_u (sA (w_v (w_A S (244 + 2 * c) (w_u (sA S (244 + 2 * c)) n x)) (243 + 2 * c) 1 (n + 1)) 251) c (n + 1))) (Fup F c (w_u (F c).1 n x, n + 1)) c R := by
  have hc := h.2.2.2.2.2.1
  have tx := LV_txt h (k := c) (by omega) (by omega)
  rw [Int.toNat_natCast] at tx
  have fg := h.2.2.1 c (by omega) (by omega)
  have rt := h.2.1 c (by omega) (by omega)
  rw [hn] at fg rt
  unfold okw at hx
  have e250 : sA (w_v (w_A S (244 + 2 * c) (w_u (sA S (244 + 2 * c)) n x)) (243 + 2 * c) 1 (n + 1)) 250 = sA S 250 := by
    show sA (w_A S (244 + 2 * c) (w_u (sA S (244 + 2 * c)) n x)) 250 = _
    exact rA_ne (by omega)
  have e251 : sA (w_v (w_A S (244 + 2 * c) (w_u (sA S (244 + 2 * c)) n x)) (243 + 2 * c) 1 (n + 1)) 251 = sA S 251 := by
    show sA (w_A S (244 + 2 * c) (w_u (sA S (244 + 2 * c)) n x)) 251 = _
    exact rA_ne (by omega)
  rw [e250, e251]
  refine LV_fil h (fr_A (fr_A (fr_v (fr_A (fr_refl _ _) (Or.inr (Or.inl rfl))) (Or.inl rfl)) (Or.inr (Or.inr (Or.inl rfl)))) (Or.inr (Or.inr (Or.inr rfl)))) ⟨by show 0 ≤ n + 1; omega, by show n + 1 ≤ 160; omega, fun i i0 i1 => ?_⟩ ?_ ?_ ?_ (fun k k0 k1 => ?_) (fun j hj => ?_) (fun j hj => ?_)
  · have i1 : i < n + 1 := i1
    show 0 ≤ w_u (F c).1 n x i ∧ w_u (F c).1 n x i < 128
    by_cases z : i = n
    · rw [z, w_u_self]
      omega
    · rw [w_u_ne _ _ z]
      exact fg.2.2 i i0 (by omega)
  · show sv (w_v (w_A S (244 + 2 * c) (w_u (sA S (244 + 2 * c)) n x)) (243 + 2 * c) 1 (n + 1)) (243 + 2 * c) 1 = n + 1
    exact rv_self _ _ _ _
  · rw [rA_ne (by omega), rA_ne (by omega)]
    show sA (w_A S (244 + 2 * c) (w_u (sA S (244 + 2 * c)) n x)) (244 + 2 * c) = _
    rw [rA_self, tx.2.2]
  · rw [rA_self]
    exact w_u_self _ _ _
  · have k1 : k < n + 1 := k1
    rw [rA_ne (by decide), rA_self]
    show w_u (sA S 250) (160 * c + n) x (160 * c + k) = w_u (F c).1 n x k
    by_cases z : k = n
    · rw [z, w_u_self, w_u_self]
    · rw [w_u_ne _ _ z, w_u_ne _ _ (by omega)]
      exact rt.2 k k0 (by omega)
  · rw [rA_self]
    exact w_u_ne _ _ hj
  · rw [rA_ne (by decide), rA_self]
    exact w_u_ne _ _ (by omega)
theorem Rok_q {q : Prs} (h : POK q) : Rok (rsq q) := by
  obtain ⟨h1, h2, h3, h4, h5, h6⟩ := h
  have vr : 0 ≤ vdq q ∧ vdq q ≤ 99 := by
    unfold vdq
    by_cases z : q.1 = 0
    · rw [if_neg (not_not_intro z)]
      have c := prc_c (Y := yw q.2.2.2) (n := (q.2.2.2.length : Int))
      by_cases y : chk (yw q.2.2.2) (q.2.2.2.length : Int) = 0
      · rw [(c.2.1 y).2.2]
        split <;> omega
      · rw [c.1 y]
        omega
    · rw [if_pos z]
      omega
  refine ⟨vr.1, vr.2, ?_, ?_, h4, h5, h3, ?_⟩
  · show (okq q).length ≤ 100
    unfold okq
    by_cases z : q.1 = 0
    · rw [if_neg (not_not_intro z)]
      exact (h6 z).2
    · rw [if_pos z]
      decide
  · show ogw (okq q)
    unfold okq
    by_cases z : q.1 = 0
    · rw [if_neg (not_not_intro z)]
      exact (h6 z).1
    · rw [if_pos z]
      exact fun x hx => absurd hx (by simp)
  · show (ndq q).length ≤ 201
    unfold ndq
    by_cases y : vdq q = 0
    · rw [if_pos y]
      have z : q.1 = 0 := by
        by_cases z : q.1 = 0
        · exact z
        · unfold vdq at y
          rw [if_pos z] at y
          exact y
      have := Pnd_len (Y := yw q.2.2.2) (n := (q.2.2.2.length : Int)) (fun k hk => yw_out hk) (by omega)
      have := (h6 z).2
      omega
    · rw [if_neg y]
      decide
theorem LV_tr {q : Prs} {v1 v2 : Option Value} (h : LV9 S F c R) (hq : POK q) (g1 : CTp S q v1 S2) (g2 : RTp S2 q v2 S3) : LV9 S3 F c (rsq q) := by
  obtain ⟨h1, h2, h3, h4, h5, h6, h7, h8, h9⟩ := h
  obtain ⟨_, f1, a1, a2⟩ := g1
  obtain ⟨_, f2, b1, b2⟩ := g2
  refine ⟨CIv_g (CIv_tr h1 f1 a2.2.2.2.2.1) f2 (fun a ha => by unfold FRT; omega), RT_fr (RT_fr h2 f1 (by unfold FCT FRN; omega)) f2 (by unfold FRT; omega), h3, ?_, ?_, h6, CRs_fr a2 f2 (fr_gv f2 (by unfold FRT; omega) 4) (fun a ha => by unfold FRT; omega), b2, Rok_q hq⟩
  · rw [fr_gv f2 (by unfold FRT; omega), a1]
    exact h4
  · rw [b1, fr_gv f1 (by unfold FCT FRN; omega)]
    exact h5
theorem RT_tr {q : Prs} {v1 : Option Value} (h : LV9 S F c R) (g1 : CTp S q v1 S2) : RT S2 F := RT_fr h.2.1 g1.2.1 (by unfold FCT FRN; omega)
end LVS
