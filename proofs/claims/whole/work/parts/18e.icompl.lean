/-! Items: what the ranges give is taken: all of them. -/
section KS0
variable {Y : Int → Int64} {mt : Int → Int} {n : Int}
/-- what an item of a range is -/
def KI (Y : Int → Int64) (mt : Int → Int) (n : Int) (f : Nat) : Prop := ∀ (a e dp : Int) (D : List Dcl) (R : List Nd × Int × List Dcl), rs Y mt f 0 true false a e D = some R → 0 ≤ a → e < n → Y e = 125 → bal Y a e → 1 ≤ dp → dp ≤ bc Y a.toNat → ∀ M : Nat, 10 * (n + 1 - a) + 6 ≤ M → ps Y n M 1 false false false dp a D = some (e + 1, R.1, R.2.1, R.2.2, false)
theorem blk_K (hM : MTP Y n mt) (hB : ∀ k : Int, 0 ≤ k → k < n → bc Y (k + 1).toNat ≤ 6) {f : Nat} (IH : KI Y mt n f) {a dp : Int} {D : List Dcl} {B : List Nd × Int × List Dcl} (h : rs Y mt f 0 true false (a + 1) (mt a) D = some B) (a0 : 0 ≤ a) (an : a < n) (h123 : Y a = 123) (d0 : 0 ≤ dp) (hdp : dp ≤ bc Y a.toNat) {M : Nat} (hMf : 10 * (n + 1 - a) + 4 ≤ M) : ps Y n M 0 false false false (dp + 1) a D = some (mt a + 1, (9, a, B.2.1) :: B.1, 1, D, false) := by
  have ho : opn (Y a) = true := by rw [h123]; decide
  have q := hM a a0 an ho
  have e125 : Y (mt a) = 125 := by
    have := of_decide_eq_true q.2.2.1
    rw [h123] at this
    rcases this with z | z | z
    · exact absurd z.1 (by decide)
    · exact absurd z.1 (by decide)
    · exact z.2
  obtain ⟨M1, rfl⟩ : ∃ M1 : Nat, M = M1 + 1 := ⟨M - 1, by omega⟩
  have b6 := bc6 hB a0 (by omega)
  rw [ps_0, if_neg (by rintro (z | z); omega; exact z h123), IH (a + 1) (mt a) (dp + 1) D B h (by omega) q.2.1 e125 q.2.2.2.1 (by omega) (by rw [bc_o a0 ho]; omega) M1 (by omega)]
  rfl
/-- a declaration, and what comes behind it -/
theorem dec_K (hY : ∀ k, n ≤ k → Y k = 0) (hn : n ≤ 100) (hM : MTP Y n mt) (hB : ∀ k : Int, 0 ≤ k → k < n → bc Y (k + 1).toNat ≤ 6) {f : Nat} (IH : KI Y mt n f) {ins : Bool} {a e dp : Int} {D : List Dcl} {R : List Nd × Int × List Dcl} (h : rs Y mt (f + 1) 0 ins false a e D = some R) (a0 : 0 ≤ a) (ae : a < e) (en : e ≤ n) (hs : sdc D (Y a) = true) (hbal : bal Y a e) (d0 : 0 ≤ dp) (hdp : dp ≤ bc Y a.toNat) : ∃ (k : Int) (N : List Nd) (D2 : List Dcl) (R2 : List Nd × Int × List Dcl), a < k ∧ k ≤ e ∧ bal Y a k ∧ Rch Y mt k e ∧ rs Y mt f 0 ins false k e D2 = some R2 ∧ R = (N ++ R2.1, 1 + R2.2.1, R2.2.2) ∧ ∀ M : Nat, 10 * (n + 1 - a) + 5 ≤ M → ps Y n M 3 (!ins) false false dp a D = some (k, N, 1, D2, false) := by
  have hr := bal_rch hM hbal a0 en
  obtain ⟨t, hte⟩ : ∃ t, (if wk (Y a) = 2 then a + 1 else a) = t := ⟨_, rfl⟩
  obtain ⟨q, hq⟩ : ∃ q, spp Y mt (t + 1) e = q := ⟨_, rfl⟩
  rw [rs_dec ae hs hte hq] at h
  by_cases c0 : t < e ∧ isT D (Y t) = true
  · rw [if_neg (not_not_intro c0)] at h
    by_cases c1 : q < 0
    · rw [if_pos c1] at h
      exact nns h
    · rw [if_neg c1] at h
      have hta : a ≤ t ∧ t ≤ a + 1 := by
        by_cases z : wk (Y a) = 2
        · rw [if_pos z] at hte; omega
        · rw [if_neg z] at hte; omega
      have tn := isT_nb c0.2
      have nbt : ¬ (Y t = 40 ∨ Y t = 91) := by
        rintro (z | z)
        · have := tn.1; rw [z] at this; exact absurd this (by decide)
        · have := tn.1; rw [z] at this; exact absurd this (by decide)
      have hba : bal Y a (t + 1) ∧ Rch Y mt (t + 1) e := by
        by_cases z : wk (Y a) = 2
        · rw [if_pos z] at hte
          have nb : opn (Y a) = false ∧ clo (Y a) = false := by
            have key : ∀ c : Int64, wk c = 0 → ¬ Y a = c := fun c hc z2 => by rw [z2, hc] at z; exact absurd z (by decide)
            exact ⟨decide_eq_false (by rintro (z | z | z); exact key 40 (by decide) z; exact key 91 (by decide) z; exact key 123 (by decide) z), decide_eq_false (by rintro (z | z | z); exact key 41 (by decide) z; exact key 93 (by decide) z; exact key 125 (by decide) z)⟩
          have np : ¬ (Y a = 40 ∨ Y a = 91) := by
            rintro (z | z)
            · have := nb.1; rw [z] at this; exact absurd this (by decide)
            · have := nb.1; rw [z] at this; exact absurd this (by decide)
          have hb := bal_1 nb.1 nb.2
          rw [hte] at hb
          have r1 := Rch_nx hr ae
          rw [nx_p np, hte] at r1
          have r2 := Rch_nx r1 c0.1
          rw [nx_p nbt] at r2
          exact ⟨bal_cat hb (bal_1 tn.1 tn.2), r2⟩
        · rw [if_neg z] at hte
          rw [hte]
          have r1 := Rch_nx hr ae
          rw [hte, nx_p nbt] at r1
          exact ⟨bal_1 tn.1 tn.2, r1⟩
      have sp := spp_r hM (x := t + 1) (by omega) en hn (by rw [hq]; exact c1)
      rw [hq] at sp
      have tq := Rch_le sp.1
      obtain ⟨cc, hc⟩ := sp.1
      have rqe := Rch_sp hM cc (t + 1) q e hc hba.2 (by omega) (by omega) en
      have bct : bc Y (t + 1).toNat = bc Y a.toNat := bc_bal a0 hba.1
      by_cases c2 : Y q = 123
      · rw [if_pos c2] at h
        by_cases c3 : ins = true ∨ wk (Y a) = 2
        · rw [if_pos c3] at h
          exact nns h
        · rw [if_neg c3] at h
          obtain ⟨L, hL, h2⟩ := bind_some h
          obtain ⟨B, hBk, h3⟩ := bind_some h2
          obtain ⟨R2, hR2, h4⟩ := bind_some h3
          have insf : ins = false := by
            cases ins with
            | false => rfl
            | true => exact absurd (Or.inl rfl) c3
          have ntd : ¬ wk (Y a) = 2 := fun z => c3 (Or.inr z)
          obtain ⟨k1, N, k2, k3, k4⟩ := rs_K2 hY hn hM hB hL (by omega) (by omega) sp.1 c2
          have ho : opn (Y q) = true := by rw [c2]; decide
          have mq := hM q (by omega) (by omega) ho
          have bcq : bc Y q.toNat = bc Y a.toNat := by rw [bc_bal (by omega) k1, bct]
          -- behind the block
          have rk : Rch Y mt (mt q + 1) e := by
            have r1 := Rch_nx rqe (by omega)
            rw [nx_p (by rw [c2]; decide)] at r1
            -- the way goes through the closing brace
            have r2 := bal_rch hM mq.2.2.2.1 (by omega) (by omega)
            obtain ⟨c5, h5⟩ := r2
            have e125 : Y (mt q) = 125 := by
              have := of_decide_eq_true mq.2.2.1
              rw [c2] at this
              rcases this with z | z | z
              · exact absurd z.1 (by decide)
              · exact absurd z.1 (by decide)
              · exact z.2
            have le : mt q < e := bal_in hM hbal a0 en (by omega) (by omega) ho
            have r3 := Rch_sp hM c5 (q + 1) (mt q) e h5 r1 (by omega) (by omega) en
            have r4 := Rch_nx r3 le
            rw [nx_p (by rw [e125]; decide)] at r4
            exact r4
          have lk := Rch_le rk
          have h4 := Option.some.inj h4
          refine ⟨mt q + 1, (8, a, 1 + (L.2.1 + 1)) :: (3, t, 0) :: (L.1 ++ ((9, q, B.2.1) :: B.1)), L.2.2, R2, by omega, lk, bal_cat hba.1 (bal_cat k1 (bal_br mq.2.2.2.1 mq.2.2.1)), rk, hR2, h4.symm, fun M hMf => ?_⟩
          obtain ⟨M1, rfl⟩ : ∃ M1 : Nat, M = M1 + 1 := ⟨M - 1, by omega⟩
          obtain ⟨M2, rfl⟩ : ∃ M2 : Nat, M1 = M2 + 1 := ⟨M1 - 1, by omega⟩
          have eb := blk_K hM hB IH hBk (by omega) (by omega) c2 d0 (by rw [bcq]; exact hdp) (M := M2) (by omega)
          rw [ps_3, hte, if_pos c0.2, ps_4, k2]
          show ((if (!ins) = true ∧ decide (wk (Y a) = 2) = false ∧ true = true ∧ Y q = 123 then (if isF N = true then (ps Y n M2 0 false false false (dp + 1) q ((Y (ndg N 0).2.1, decide (wk (Y a) = 2)) :: D)).bind _ else none) else _ : SR)).bind _ = _
          rw [if_pos ⟨by rw [insf]; rfl, decide_eq_false ntd, rfl, c2⟩, if_pos k3, decide_eq_false ntd]
          rw [k4] at eb ⊢
          rw [eb]
          show some (mt q + 1, (if true = true then 8 else if wk (Y a) = 2 then 2 else 1, a, 1 + 2) :: (3, t, 0) :: (dnd N 0 ++ ((9, q, B.2.1) :: B.1)), (1 : Int), (Y (ndg N 0).2.1, false) :: D, false) = _
          rw [if_pos rfl]
          rfl
      · rw [if_neg c2] at h
        have y59 : Y q = 59 := sp.2.2.resolve_right c2
        obtain ⟨L, hL, h2⟩ := bind_some h
        obtain ⟨R2, hR2, h4⟩ := bind_some h2
        have k1 := rs_K1 hY hn hM hB f (decide (wk (Y a) = 2)) (t + 1) q dp D L hL (by omega) (by omega) sp.1 y59 d0 (by rw [bct]; exact hdp)
        have rk := Rch_nx rqe (by omega)
        rw [nx_p (by rw [y59]; decide)] at rk
        have h4 := Option.some.inj h4
        refine ⟨q + 1, (if wk (Y a) = 2 then 2 else 1, a, 1 + L.2.1) :: (3, t, 0) :: L.1, L.2.2, R2, by omega, by omega, bal_cat hba.1 (bal_cat k1.1 (bal_1 (by rw [y59]; decide) (by rw [y59]; decide))), rk, hR2, h4.symm, fun M hMf => ?_⟩
        obtain ⟨M1, rfl⟩ : ∃ M1 : Nat, M = M1 + 1 := ⟨M - 1, by omega⟩
        rw [ps_3, hte, if_pos c0.2, k1.2 M1 (!ins) true (by omega)]
        show some (q + 1, (if false = true then 8 else if wk (Y a) = 2 then 2 else 1, a, 1 + L.2.1) :: (3, t, 0) :: L.1, (1 : Int), L.2.2, false) = _
        rw [if_neg (by decide)]
  · rw [if_pos c0] at h
    exact nns h
theorem KI_all (hY : ∀ k, n ≤ k → Y k = 0) (hn : n ≤ 100) (hM : MTP Y n mt) (hB : ∀ k : Int, 0 ≤ k → k < n → bc Y (k + 1).toNat ≤ 6) : ∀ f : Nat, KI Y mt n f
  | 0, a, e, dp, D, R, h, _, _, _, _, _, _, _, _ => nns h
  | f + 1, a, e, dp, D, R, h, a0, en, h125, hb, d1, hdp, M, hMf => by
    have ae := hb.1
    obtain ⟨M1, rfl⟩ : ∃ M1 : Nat, M = M1 + 1 := ⟨M - 1, by omega⟩
    have IH := KI_all hY hn hM hB f
    by_cases c0 : e ≤ a
    · have ea : a = e := by omega
      rw [rs_e c0] at h
      have h := Option.some.inj h
      rw [ps_1, ea, if_pos h125, ← h]
    · have n125 : ¬ Y a = 125 := fun z => by
        have := bal_nc (bal_0 Y a) hb (by rw [z]; decide)
        omega
      have hr := bal_rch hM hb a0 (by omega)
      rw [ps_1, if_neg n125]
      by_cases c1 : sdc D (Y a) = true
      · obtain ⟨k, N, D2, R2, k1, k2, k3, k4, k5, k6, k7⟩ := dec_K hY hn hM hB IH h a0 (by omega) (by omega) c1 hb (by omega) hdp
        have k7 := k7 M1 (by omega)
        have k7 : ps Y n M1 3 false false false dp a D = some (k, N, 1, D2, false) := k7
        rw [if_pos c1, k7]
        show (ps Y n M1 1 false false false dp k D2).bind (fun r => some (r.1, N ++ r.2.1, 1 + r.2.2.1, r.2.2.2.1, false)) = _
        rw [IH k e dp D2 R2 k5 (by omega) en h125 (bal_suf k3 hb k2) d1 (by rw [bc_bal a0 k3]; exact hdp) M1 (by omega), k6]
        rfl
      · have c1f : sdc D (Y a) = false := by
          cases z : sdc D (Y a)
          · rfl
          · exact absurd z c1
        rw [if_neg c1]
        obtain ⟨M2, rfl⟩ : ∃ M2 : Nat, M1 = M2 + 1 := ⟨M1 - 1, by omega⟩
        by_cases c2 : Y a = 123
        · rw [rs_blk (by omega) c1f c2] at h
          obtain ⟨B, hB1, h2⟩ := bind_some h
          obtain ⟨R2, hR2, h3⟩ := bind_some h2
          have ho : opn (Y a) = true := by rw [c2]; decide
          have q := hM a a0 (by omega) ho
          have me := bal_in hM hb a0 (by omega) (Int.le_refl _) (by omega) ho
          have bb := bal_br q.2.2.2.1 q.2.2.1
          rw [ps_2, if_pos c2, blk_K hM hB IH hB1 a0 (by omega) c2 (by omega) hdp (by omega)]
          show (ps Y n (M2 + 1) 1 false false false dp (mt a + 1) D).bind (fun r => some (r.1, ((9, a, B.2.1) :: B.1) ++ r.2.1, 1 + r.2.2.1, r.2.2.2.1, false)) = _
          rw [IH (mt a + 1) e dp D R2 hR2 (by omega) en h125 (bal_suf bb hb (by omega)) d1 (by rw [bc_bal a0 bb]; exact hdp) (M2 + 1) (by omega), ← Option.some.inj h3]
          rfl
        · obtain ⟨p, hp⟩ : ∃ p, (if wk (Y a) = 3 then a + 1 else a) = p := ⟨_, rfl⟩
          obtain ⟨q, hq⟩ : ∃ q, spp Y mt p e = q := ⟨_, rfl⟩
          rw [rs_stm (by omega) c1f c2 hp hq] at h
          by_cases c3 : q < 0 ∨ ¬ Y q = 59
          · rw [if_pos c3] at h
            exact nns h
          · rw [if_neg c3] at h
            have q0 : ¬ q < 0 := fun z => c3 (Or.inl z)
            have y59 : Y q = 59 := Decidable.not_not.1 (fun z => c3 (Or.inr z))
            obtain ⟨N, hN, h2⟩ := bind_some h
            obtain ⟨R2, hR2, h3⟩ := bind_some h2
            have pa : a ≤ p ∧ p ≤ a + 1 ∧ bal Y a p ∧ (¬ wk (Y a) = 3 → p = a) := by
              by_cases z : wk (Y a) = 3
              · rw [if_pos z] at hp
                have key : ∀ c : Int64, wk c = 0 → ¬ Y a = c := fun c hc z2 => by rw [z2, hc] at z; exact absurd z (by decide)
                have b1 := bal_1 (Y := Y) (k := a) (decide_eq_false (by rintro (z | z | z); exact key 40 (by decide) z; exact key 91 (by decide) z; exact key 123 (by decide) z)) (decide_eq_false (by rintro (z | z | z); exact key 41 (by decide) z; exact key 93 (by decide) z; exact key 125 (by decide) z))
                rw [hp] at b1
                exact ⟨by omega, by omega, b1, fun z2 => absurd z z2⟩
              · rw [if_neg z] at hp
                rw [← hp]
                exact ⟨by omega, by omega, bal_0 Y a, fun _ => rfl⟩
            have sp := spp_r hM (x := p) (by omega) (by omega : e ≤ n) hn (by rw [hq]; exact q0)
            rw [hq] at sp
            have pq := Rch_le sp.1
            have bcp := bc_bal a0 pa.2.2.1
            have b59 := bal_1 (Y := Y) (k := q) (by rw [y59]; decide) (by rw [y59]; decide)
            have fin : ∀ (W : List Nd), bal Y p q → R = (W ++ R2.1, 1 + R2.2.1, R2.2.2) → ps Y n (M2 + 1) 2 false false false dp a D = some (q + 1, W, 1, D, false) → (ps Y n (M2 + 1) 2 false false false dp a D).bind (fun q => (ps Y n (M2 + 1) 1 false false false dp q.1 q.2.2.2.1).bind (fun r => some (r.1, q.2.1 ++ r.2.1, 1 + r.2.2.1, r.2.2.2.1, false))) = some (e + 1, R.1, R.2.1, R.2.2, false) := fun W bpq hR hW => by
              have b1 := bal_cat pa.2.2.1 (bal_cat bpq b59)
              rw [hW]
              show (ps Y n (M2 + 1) 1 false false false dp (q + 1) D).bind (fun r => some (r.1, W ++ r.2.1, 1 + r.2.2.1, r.2.2.2.1, false)) = _
              rw [IH (q + 1) e dp D R2 hR2 (by omega) en h125 (bal_suf b1 hb (by omega)) d1 (by rw [bc_bal a0 b1]; exact hdp) (M2 + 1) (by omega), hR]
              rfl
            have h3 := Option.some.inj h3
            by_cases c4 : q = p
            · rw [if_pos c4] at hN h3
              cases hN
              refine fin [(if wk (Y a) = 3 then 11 else 10, if wk (Y a) = 3 then a else q, 0)] (by rw [c4]; exact bal_0 Y p) h3.symm ?_
              rw [ps_2, if_neg c2, hp, ← c4, if_pos y59]
              by_cases z : wk (Y a) = 3
              · rw [if_pos z, if_pos z]
              · have := pa.2.2.2 z
                rw [if_neg z, if_neg z, c4, this]
            · rw [if_neg c4] at hN h3
              have ex := px_VE hY hn hM hB (M := 2100) (dp := dp + 1) (by omega : 0 ≤ p) (by omega : q ≤ n) sp.1 hN (by omega) (by rw [y59]; exact ⟨by decide, by decide⟩) (by rw [y59]; decide) (by omega) (by rw [bcp]; omega) (by omega)
              have bx := px_bal hY hn hM (by omega) (by omega) ex
              refine fin ((if wk (Y a) = 3 then 11 else 10, if wk (Y a) = 3 then a else q, 1) :: N) bx.1 h3.symm ?_
              have np : ¬ Y p = 59 := fun z => by
                have := spp_at (mt := mt) (Y := Y) hn (by omega : 0 ≤ p) (by omega) (Wz_0 p) (by omega : p < e) (Or.inl z)
                omega
              rw [ps_2, if_neg c2, hp, if_neg np, ex]
              show (if Y q = 59 then _ else none : SR) = _
              rw [if_pos y59]
/-- the whole -/
theorem pu_K (hY : ∀ k, n ≤ k → Y k = 0) (hn : n ≤ 100) (hM : MTP Y n mt) (hB : ∀ k : Int, 0 ≤ k → k < n → bc Y (k + 1).toNat ≤ 6) : ∀ (f : Nat) (a : Int) (D : List Dcl) (R : List Nd × Int × List Dcl), rs Y mt f 0 false false a n D = some R → 0 ≤ a → bal Y a n → ∀ M : Nat, n + 1 - a ≤ M → 1 ≤ M → pu Y n M a D = some (n, R.1, R.2.1, R.2.2, false)
  | 0, a, D, R, h, _, _, _, _, _ => nns h
  | f + 1, a, D, R, h, a0, hb, M, hMf, hM1 => by
    obtain ⟨M1, rfl⟩ : ∃ M1 : Nat, M = M1 + 1 := ⟨M - 1, by omega⟩
    have IH := KI_all hY hn hM hB f
    have an := hb.1
    rw [pu]
    by_cases c0 : n ≤ a
    · have ea : a = n := by omega
      rw [rs_e c0] at h
      rw [if_pos c0, ← Option.some.inj h, ea]
    · rw [if_neg c0]
      by_cases c1 : sdc D (Y a) = true
      · obtain ⟨k, N, D2, R2, k1, k2, k3, k4, k5, k6, k7⟩ := dec_K hY hn hM hB IH h a0 (by omega) (by omega) c1 hb (dp := 0) (by omega) (bc_n Y _)
        have k7 := k7 1100 (by omega)
        have k7 : ps Y n 1100 3 true false false 0 a D = some (k, N, 1, D2, false) := k7
        rw [if_pos c1, k7]
        show (pu Y n M1 k D2).bind (fun r => some (r.1, N ++ r.2.1, 1 + r.2.2.1, r.2.2.2.1, false)) = _
        rw [pu_K hY hn hM hB f k D2 R2 k5 (by omega) (bal_suf k3 hb k2) M1 (by omega) (by omega), k6]
        rfl
      · have c1f : sdc D (Y a) = false := by
          cases z : sdc D (Y a)
          · rfl
          · exact absurd z c1
        rw [rs_no (by omega) c1f] at h
        exact nns h
/-- and what is taken is what the ranges give -/
theorem pu_C (hY : ∀ k, n ≤ k → Y k = 0) (hn : n ≤ 100) (hM : MTP Y n mt) : ∀ (m : Nat) (a : Int) (D : List Dcl) (r : Int × List Nd × Int × List Dcl × Bool), 0 ≤ a → a ≤ n → pu Y n m a D = some r → bal Y a n ∧ ∀ f : Nat, n - a < f → rs Y mt f 0 false false a n D = some (r.2.1, r.2.2.1, r.2.2.2.1)
  | 0, a, D, r, _, _, h => nns h
  | m + 1, a, D, r, a0, an, h => by
    rw [pu] at h
    by_cases c0 : n ≤ a
    · rw [if_pos c0] at h
      cases h
      have ea : a = n := by omega
      refine ⟨by rw [ea]; exact bal_0 Y n, fun f hf => ?_⟩
      obtain ⟨g, rfl⟩ : ∃ g : Nat, f = g + 1 := ⟨f - 1, by omega⟩
      rw [rs_e c0]
    · rw [if_neg c0] at h
      by_cases c1 : sdc D (Y a) = true
      · rw [if_pos c1] at h
        obtain ⟨q, hq, h2⟩ := bind_some h
        obtain ⟨s, hs, h3⟩ := bind_some h2
        cases h3
        have x := ps_C hY hn hM 1100 3 true false false 0 a D q a0 an hq
        have x : XT Y mt n false a D q := (x.2.2.2.1 rfl) c1
        obtain ⟨x1, x2, x3, x4⟩ := x
        have i := pu_C hY hn hM m q.1 q.2.2.2.1 s (by omega) x2 hs
        refine ⟨bal_cat x3 i.1, fun f hf => ?_⟩
        obtain ⟨g, rfl⟩ : ∃ g : Nat, f = g + 1 := ⟨f - 1, by omega⟩
        rw [x4 g n x2 (Int.le_refl _) (by omega), i.2 g (by omega)]
        rfl
      · rw [if_neg c1] at h
        exact nns h
end KS0
