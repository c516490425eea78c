/-! The reference takes an expression apart: its methods. -/
def cstN (N : List Nd) (a p s : Int) : List Nd := bmp N p 1 ++ (14, a, 1 + (s - (a + 2))) :: (3, a + 1, 0) :: stF (s - (a + 2)).toNat (a + 2)
theorem bmp_q {M : List Nd} {x : Nd} {X : List Nd} {q c : Int} (h : (M.length : Int) = q) : bmp (M ++ x :: X) q c = M ++ (x.1, x.2.1, x.2.2 + c) :: X := by
  rw [← h]
  exact bmp_r
theorem cst_0 {N : List Nd} {a p : Int} : gr (gr N 14 a p) 3 (a + 1) N.length = cstN N a p (a + 2) := by
  unfold cstN
  show bmp (bmp N p 1 ++ [(14, a, 0)]) N.length 1 ++ [(3, a + 1, 0)] = _
  rw [bmp_q (by rw [bmp_len]), show a + 2 - (a + 2) = 0 by omega, List.append_assoc]
  rfl
theorem cst_s {N : List Nd} {a p s : Int} (h : a + 2 ≤ s) : gr (cstN N a p s) 7 s N.length = cstN N a p (s + 1) := by
  unfold cstN gr
  rw [bmp_q (by rw [bmp_len]), show (s + 1 - (a + 2)).toNat = (s - (a + 2)).toNat + 1 by omega, stF_snoc, List.append_assoc, show a + 2 + ((s - (a + 2)).toNat : Int) = s by omega, show 1 + (s - (a + 2)) + 1 = 1 + (s + 1 - (a + 2)) by omega]
  rfl
theorem cst_len {N : List Nd} {a p s : Int} (h : a + 2 ≤ s) : ((cstN N a p s).length : Int) = N.length + 2 + (s - (a + 2)) := by
  unfold cstN
  rw [List.length_append, bmp_len, List.length_cons, List.length_cons, stF_len]
  omega
def vst (Y : Int → Int64) (D : List Dcl) (mt : Int → Int) (a b p : Int) (N : List Nd) : Option (List Tk × List Nd) := (cs Y D mt 200 a b true).bind (fun L => if L = [] then
  (if prf (Y a) = true then some ([(5, a + 1, b, (N.length : Int), 0)], gr N 13 a p)
   else if Y a = 40 ∧ isT D (Y (a + 1)) = true then some ([(5, mt a + 1, b, (N.length : Int), 0)], cstN N a p (mt a))
   else if a = b - 1 then some ([], gr N (if wk (Y a) = 5 then 18 else 17) a p)
   else if mt (b - 1) = a then some ([(5, a + 1, b - 1, p, 0)], N)
   else if Y (mt (b - 1)) = 91 then some ([(5, a, mt (b - 1), (N.length : Int), 0), (5, mt (b - 1) + 1, b - 1, (N.length : Int), 0)], gr N 15 (mt (b - 1)) p)
   else some ((5, a, mt (b - 1), (N.length : Int), 0) :: (if b - 1 ≤ mt (b - 1) + 1 then [] else vtk N.length (spv Y mt 200 (mt (b - 1) + 1) (b - 1))), gr N 16 (mt (b - 1)) p))
  else some ([(5, a, pickN Y L (-1) 9, (N.length : Int), 0), (5, pickN Y L (-1) 9 + 1, b, (N.length : Int), 0)], gr N 12 (pickN Y L (-1) 9) p))
def VX (S : w_S) (n : Int) (Y : Int → Int64) (mt : Int → Int) (E : List Ed) (T : List Tk) (res : Option (List Tk × List Nd)) (v : Option Value) (S2 : w_S) : Prop := pfr S S2 ∧ (res = none → v = some (.int (iZ 0))) ∧ ∀ q, res = some q → v = some (.int (iZ 1)) ∧ PQ S2 n Y mt E q.2 (q.1 ++ T)
theorem VX_n {S S2 : w_S} {n : Int} {Y : Int → Int64} {mt : Int → Int} {E : List Ed} {T : List Tk} {res : Option (List Tk × List Nd)} (h : res = none) (f : pfr S S2) : VX S n Y mt E T res (some (.int (iZ 0))) S2 := ⟨f, fun _ => rfl, fun q hq => nns (h.symm.trans hq)⟩
theorem VX_s {S S2 : w_S} {n : Int} {Y : Int → Int64} {mt : Int → Int} {E : List Ed} {T : List Tk} {res : Option (List Tk × List Nd)} {q : List Tk × List Nd} (h : res = some q) (f : pfr S S2) (hq : PQ S2 n Y mt E q.2 (q.1 ++ T)) : VX S n Y mt E T res (some (.int (iZ 1))) S2 := ⟨f, fun z => nns (z.symm.trans h), fun r hr => by
  have e : q = r := Option.some.inj (h.symm.trans hr)
  rw [← e]
  exact ⟨rfl, hq⟩⟩
section VL
variable {Y : Int → Int64} {D : List Dcl} {mt : Int → Int} {n : Int}
theorem cs_lt {f : Nat} {a b : Int} {L : List Int} (h : cs Y D mt (f + 1) a b true = some L) : a < b := by
  by_cases c : a < b
  · exact c
  · rw [cs, if_pos (by omega), if_pos rfl] at h
    exact nns h
theorem ctv_3 (hM : MTP Y n mt) {a b cv : Int} (a0 : 0 ≤ a) (bn : b ≤ n) (hr : Rch Y mt a b) (hcv : ctv Y (cs Y D mt 200 a b true) (-1) 9 = cv) : (cs Y D mt 200 a b true = none ∧ cv = -2) ∨ (cs Y D mt 200 a b true = some [] ∧ cv = -1) ∨ ∃ L, ¬ L = [] ∧ cs Y D mt 200 a b true = some L ∧ pickN Y L (-1) 9 = cv ∧ a ≤ cv ∧ cv < b ∧ Rch Y mt a cv ∧ Rch Y mt (cv + 1) b := by
  cases h : cs Y D mt 200 a b true with
  | none =>
    rw [h] at hcv
    exact Or.inl ⟨rfl, hcv.symm⟩
  | some L =>
    rw [h] at hcv
    have hcv : pickN Y L (-1) 9 = cv := hcv
    by_cases z : L = []
    · rw [z] at hcv
      exact Or.inr (Or.inl ⟨by rw [z], hcv.symm⟩)
    · have m := (pick_in (Y := Y) L (-1) 9).2 z (by decide)
      rw [hcv] at m
      have q := cs_mem hM bn 200 a true L h hr a0 cv m
      exact Or.inr (Or.inr ⟨L, z, rfl, hcv, Rch_le q.1, q.2.2.2, q.1, q.2.1⟩)
theorem vlast (hM : MTP Y n mt) {a b : Int} (a0 : 0 ≤ a) (bn : b ≤ n) (hr : Rch Y mt a b) (h : cs Y D mt 200 a b true = some []) (hp : prf (Y a) = false) (hc : ¬ (Y a = 40 ∧ isT D (Y (a + 1)) = true)) (hb : ¬ a = b - 1) : a ≤ mt (b - 1) ∧ mt (b - 1) < b - 1 ∧ (Y (mt (b - 1)) = 40 ∨ Y (mt (b - 1)) = 91) ∧ mt (mt (b - 1)) = b - 1 ∧ Rch Y mt a (mt (b - 1)) := by
  have ab := cs_lt (f := 199) h
  have fin : ∀ q, a ≤ q → q < b → (Y q = 40 ∨ Y q = 91) → mt q + 1 = b → Rch Y mt a q → a ≤ mt (b - 1) ∧ mt (b - 1) < b - 1 ∧ (Y (mt (b - 1)) = 40 ∨ Y (mt (b - 1)) = 91) ∧ mt (mt (b - 1)) = b - 1 ∧ Rch Y mt a (mt (b - 1)) := fun q q0 q1 q2 q3 q4 => by
    have r := hM q (by omega) (by omega) (opb q2)
    have e : b - 1 = mt q := by omega
    rw [e, r.2.2.2.2]
    exact ⟨q0, r.1, q2, rfl, q4⟩
  have hnx := Rch_nx hr ab
  have hle := Rch_le hnx
  rw [cs_t ab, if_neg hc, if_neg (by rw [hp]; decide)] at h
  by_cases c : Y a = 40
  · rw [if_pos c] at h
    rw [nx_b (Or.inl c)] at hnx hle
    have r := hM a a0 (by omega) (opb (Or.inl c))
    by_cases e : mt a + 1 = b
    · exact fin a (Int.le_refl _) ab (Or.inl c) e (Rch_0 a)
    · obtain ⟨q, q0, q1, q2, q3, q4⟩ := cs_last hM bn 199 (mt a + 1) h hnx (by omega) (by omega)
      exact fin q (by omega) q4 q1 q2 (Rch_s (by omega) (by rw [nx_b (Or.inl c)]; exact q3))
  · rw [if_neg c] at h
    by_cases c2 : wk (Y a) = 5 ∨ (wk (Y a) = 4 ∧ isT D (Y a) = false)
    · rw [if_pos c2] at h
      have nb := wk_nb (y := Y a) (by rcases c2 with z | z; exact Or.inr z; exact Or.inl z.1)
      have nb2 : ¬ (Y a = 40 ∨ Y a = 91) := fun z => by rcases z with z | z; exact nb.2.2.2.2.1 z; exact nb.2.2.2.2.2 z
      rw [nx_p nb2] at hnx hle
      obtain ⟨q, q0, q1, q2, q3, q4⟩ := cs_last hM bn 199 (a + 1) h hnx (by omega) (by omega)
      exact fin q (by omega) q4 q1 q2 (Rch_s (by omega) (by rw [nx_p nb2]; exact q3))
    · rw [if_neg c2] at h
      exact nns h
end VL
theorem r_vals_c {sc : x_S} {d : Nat} {S : w_S} {nn : Int} {Y : Int → Int64} {mt : Int → Int} {E : List Ed} {N : List Nd} {T : List Tk} {m e p : Int} (hq : PQ S nn Y mt E N T) (m0 : 0 ≤ m) (mn : m < nn) (hm40 : Y m = 40) (hme : mt m = e) (hrm : (T.length : Int) + (e - m) ≤ 299) (hd : 3 ≤ d) : ∀ n : Nat, (∀ (h : Int) (k : Int) (R : List (Int × Int)) (U : w_S) (lv : x_L) (l0 : lv 0 = some (.ref 249)) (l1 : lv 1 = some (.int (iZ m))) (l2 : lv 2 = some (.int (iZ e))) (l3 : lv 3 = some (.int (iZ p))) (l4 : lv 4 = some (.int (iZ h))) (l5 : lv 5 = some (.int (iZ k))) (k0 : m - 1 ≤ k) (kh : k < h) (he : h ≤ e) (hR : (m ≤ k ∧ Rch Y mt (m + 1) (k + 1) ∧ Wc Y mt (k + 1) h ∧ (h < e → Y h = 44) ∧ ∀ f : Nat, e - h ≤ f → (if h < e then spv Y mt f (h + 1) e else []) = R) ∨ (k = m - 1 ∧ m + 1 < e ∧ ∀ f : Nat, e - m ≤ f → spv Y mt f (m + 1) e = R)) (hRl : (R.length : Int) ≤ e - h) (hqU : PQ U nn Y mt E N (vtk p R ++ T)) (hfU : pfr S U) (hm : (k - m + 1).toNat < n), w_T sc d 163 8 lv [] U (fun v S2 => v = none ∧ pfr S S2 ∧ PQ S2 nn Y mt E N ((if e ≤ m + 1 then [] else vtk p (spv Y mt 200 (m + 1) e)) ++ T) ∧ (((if e ≤ m + 1 then [] else vtk p (spv Y mt 200 (m + 1) e)) ++ T).length : Int) ≤ T.length + (e - m))) := by
  intro n
  induction n with
  | zero => exact fun h k R U lv l0 l1 l2 l3 l4 l5 k0 kh he hR hRl hqU hfU hm => absurd hm (Nat.not_lt_zero _)
  | succ n ih =>
    intro h k R U lv l0 l1 l2 l3 l4 l5 k0 kh he hR hRl hqU hfU hm
    have n0 := hq.1.1.2.1
    have n1 := hq.1.1.2.2.1
    have hg := hq.1.1.2.2.2.2.1
    have hM := hq.1.2.1
    have hlE := hq.2.1.2.1
    have hlN := hq.2.2.1.2.1
    have hlT := hq.2.2.2.2.1
    have hY0 := hq.1.1.2.2.2.2.2
    have hcm := hq.1.2.2.2
    have hmm := hM m m0 mn (opb (Or.inl hm40))
    have hm1 := hmm.1
    have hm2 := hmm.2.1
    rw [hme] at hm1 hm2
    refine w_iload rfl l5 rfl ?_
    refine w_iload_n rfl l1 rfl ?_
    refine w_ic_lt (pc2 := 105) (pc3 := 14) rfl (by decide) rfl ⟨by omega, by omega⟩ ⟨by omega, by omega⟩ (fun c11 => ?_) (fun c11 => ?_)
    · skip
      refine w_vret rfl rfl ?_
      have hlv : (vtk p R ++ T).length = R.length + T.length := by rw [List.length_append, vtk_len]
      refine ⟨rfl, hfU, ?_⟩
      by_cases z : e ≤ m + 1
      · rw [if_pos z]
        rcases hR with y | y
        · have e1 := y.2.2.2.2 200 (by omega)
          rw [if_neg (by omega)] at e1
          rw [← e1] at hqU hlv hRl
          exact ⟨hqU, by rw [List.length_nil] at hRl; have : (([] : List Tk) ++ T).length = T.length := rfl; omega⟩
        · exfalso; omega
      · rw [if_neg z]
        rcases hR with y | y
        · exfalso; omega
        · rw [y.2.2 200 (by omega)]
          exact ⟨hqU, by omega⟩
    · skip
      refine w_iload_n rfl l2 rfl ?_
      refine w_iload_n rfl l1 rfl ?_
      refine w_iconst rfl rfl ?_
      refine w_iadd rfl rfl ?_
      refine w_ic_le (pc2 := 105) (pc3 := 21) rfl (by decide) rfl ⟨by omega, by omega⟩ ⟨by omega, by omega⟩ (fun c18 => ?_) (fun c18 => ?_)
      · skip
        refine w_vret rfl rfl ?_
        have hlv : (vtk p R ++ T).length = R.length + T.length := by rw [List.length_append, vtk_len]
        refine ⟨rfl, hfU, ?_⟩
        by_cases z : e ≤ m + 1
        · rw [if_pos z]
          rcases hR with y | y
          · have e1 := y.2.2.2.2 200 (by omega)
            rw [if_neg (by omega)] at e1
            rw [← e1] at hqU hlv hRl
            exact ⟨hqU, by rw [List.length_nil] at hRl; have : (([] : List Tk) ++ T).length = T.length := rfl; omega⟩
          · exfalso; omega
        · rw [if_neg z]
          rcases hR with y | y
          · exfalso; omega
          · rw [y.2.2 200 (by omega)]
            exact ⟨hqU, by omega⟩
      · skip
        obtain ⟨r1, r2, r3, r4, r5⟩ := hR.resolve_right (fun z => by omega)
        refine w_aload_n rfl l0 rfl ?_
        refine w_getR rfl rfl sh_249 rfl rfl ?_
        refine w_iload rfl l5 rfl ?_
        refine w_lald (z := Y k) rfl sh_285 (by omega) (by omega) (by decide) (hqU.1.1.2.2.2.1 k (by omega) (by omega)) rfl ?_
        refine w_ldc2 (v := 41) rfl rfl rfl ?_
        apply w_br (A := w_T _ _ 163 49 _ [] _ _) (B := w_T _ _ 163 61 _ [] _ _) ((Y k) = 41 ∨ (Y k) = 93)
        · intro kT1 kT2
          refine w_l_eq (pc2 := 49) (pc3 := 35) rfl rfl (by decide) rfl (fun q1 => ?_) (fun q1 => ?_)
          · skip
            exact kT1 (Or.inl q1)
          · skip
            refine w_aload_n rfl l0 rfl ?_
            refine w_getR rfl rfl sh_249 rfl rfl ?_
            refine w_iload rfl l5 rfl ?_
            refine w_lald (z := Y k) rfl sh_285 (by omega) (by omega) (by decide) (hqU.1.1.2.2.2.1 k (by omega) (by omega)) rfl ?_
            refine w_ldc2 (v := 93) rfl rfl rfl ?_
            refine w_l_ne (pc2 := 61) (pc3 := 49) rfl rfl (by decide) rfl (fun q2 => ?_) (fun q2 => ?_)
            · skip
              exact kT2 (not_or.mpr ⟨q1, q2⟩)
            · skip
              exact kT1 (Or.inr q2)
        · intro c32
          have km : m < k := by
            by_cases z : k = m
            · exfalso; rw [z, hm40] at c32; exact absurd c32 (by decide)
            · omega
          have hl := (lft hM hcm m0 mn (opb (Or.inl hm40)) km (by omega) r2).1 c32
          have hl1 := hl.1
          have hl0 := hl.2.1
          refine w_aload_n rfl l0 rfl ?_
          refine w_getR rfl rfl sh_249 rfl rfl ?_
          refine w_iload rfl l5 rfl ?_
          refine w_iald (z := mt k) rfl sh_287 (by omega) (by omega) (by decide) (hqU.1.2.2.1 k (by omega) (by omega)) rfl ?_
          refine w_istore rfl (by decide) rfl ?_
          refine w_goto (pc2 := 99) rfl (by decide) ?_
          refine w_iinc rfl rfl (by decide) rfl ?_
          refine w_goto (pc2 := 8) rfl (by decide) ?_
          exact ih h (mt k + (-1)) R _ _ (by exact l0) (by exact l1) (by exact l2) (by exact l3) (by exact (congrArg x_k2 (congrArg x_k2 l4))) (by exact rfl) (by omega) (by omega) (by omega) (by exact Or.inl ⟨by omega, by rw [show mt k + (-1) + 1 = mt k by omega]; exact hl.2.2.2.2, by rw [show mt k + (-1) + 1 = mt k by omega]; exact Wc_b r3 (by omega) (by omega) hl.2.2.1 hl.2.2.2.1, r4, r5⟩) (by omega) (by exact hqU) (by exact hfU) (by omega)
        · intro c32
          refine w_aload_n rfl l0 rfl ?_
          refine w_getR rfl rfl sh_249 rfl rfl ?_
          refine w_iload rfl l5 rfl ?_
          refine w_lald (z := Y k) rfl sh_285 (by omega) (by omega) (by decide) (hqU.1.1.2.2.2.1 k (by omega) (by omega)) rfl ?_
          refine w_ldc2 (v := 44) rfl rfl rfl ?_
          apply w_br (A := w_T _ _ 163 81 _ [] _ _) (B := w_T _ _ 163 99 _ [] _ _) ((Y k) = 44 ∨ k = m)
          · intro kT1 kT2
            refine w_l_eq (pc2 := 81) (pc3 := 75) rfl rfl (by decide) rfl (fun q3 => ?_) (fun q3 => ?_)
            · skip
              exact kT1 (Or.inl q3)
            · skip
              refine w_iload rfl l5 rfl ?_
              refine w_iload_n rfl l1 rfl ?_
              refine w_ic_ne (pc2 := 99) (pc3 := 81) rfl (by decide) rfl ⟨by omega, by omega⟩ ⟨by omega, by omega⟩ (fun q4 => ?_) (fun q4 => ?_)
              · skip
                exact kT2 (not_or.mpr ⟨q3, q4⟩)
              · skip
                exact kT1 (Or.inr q4)
          · intro c72
            have hlv : (vtk p R ++ T).length = R.length + T.length := by rw [List.length_append, vtk_len]
            have hsp : ∀ f : Nat, e - k ≤ f → spv Y mt f (k + 1) e = (k + 1, h) :: R := fun f hf => by
              obtain ⟨g, rfl⟩ : ∃ g, f = g + 1 := ⟨f - 1, by omega⟩
              rw [spv, see_q (n := nn) n1 (by omega) (by omega) r3 he r4, r5 g (by omega)]
            refine w_aload_n rfl l0 rfl ?_
            refine w_iconst rfl rfl ?_
            refine w_iload rfl l5 rfl ?_
            refine w_iconst rfl rfl ?_
            refine w_iadd rfl rfl ?_
            refine w_iload rfl l4 rfl ?_
            refine w_iload_n rfl l3 rfl ?_
            refine w_iconst rfl rfl ?_
            refine w_CV (as := [.int (iZ 5), .int (iZ (k + 1)), .int (iZ h), .int (iZ p), .int (iZ 0)]) (r := []) rfl rfl rfl rfl sh_249 (Nat.le_of_ble_eq_true rfl) (Nat.le_of_ble_eq_true rfl) (by omega) rfl (r_push (w := 5) (a := k + 1) (b := h) (p := p) (j := 0) hqU (by (try simp only [List.length_cons]); omega) (by omega)) ?_
            rintro _ Z1 ⟨rfl, g1, hq1⟩
            show w_T _ _ 163 94 _ [.int (iZ 1)] _ _
            have f1 := pfr_trans hfU g1
            refine w_pop rfl rfl rfl ?_
            refine w_iload rfl l5 rfl ?_
            refine w_istore rfl (by decide) rfl ?_
            refine w_iinc rfl l5 (by decide) rfl ?_
            refine w_goto (pc2 := 8) rfl (by decide) ?_
            exact ih k (k + (-1)) ((k + 1, h) :: R) _ _ (by exact l0) (by exact l1) (by exact l2) (by exact (congrArg x_k2 l3)) (by exact rfl) (by exact rfl) (by omega) (by omega) (by omega) (by by_cases z : k = m; (exact Or.inr ⟨by omega, by omega, fun f hf => by rw [← z]; exact hsp f (by omega)⟩); (exact Or.inl ⟨by omega, by rw [show k + (-1) + 1 = k by omega]; exact ((lft hM hcm m0 mn (opb (Or.inl hm40)) (by omega) (by omega) r2).2 c32).2, by rw [show k + (-1) + 1 = k by omega]; exact Wc_0 k, fun _ => c72.resolve_right z, fun f hf => by rw [if_pos (by omega)]; exact hsp f (by omega)⟩)) (by rw [List.length_cons]; omega) (by exact hq1) (by exact f1) (by omega)
          · intro c72
            have km : m < k := by
              by_cases z : k = m
              · exact absurd (Or.inr z) c72
              · omega
            have hl2 := (lft hM hcm m0 mn (opb (Or.inl hm40)) km (by omega) r2).2 c32
            refine w_iinc rfl l5 (by decide) rfl ?_
            refine w_goto (pc2 := 8) rfl (by decide) ?_
            exact ih h (k + (-1)) R _ _ (by exact l0) (by exact l1) (by exact l2) (by exact l3) (by exact (congrArg x_k2 l4)) (by exact rfl) (by omega) (by omega) (by omega) (by exact Or.inl ⟨by omega, by rw [show k + (-1) + 1 = k by omega]; exact hl2.2, by rw [show k + (-1) + 1 = k by omega]; exact Wc_1 r3 (by omega) (fun z => c72 (Or.inl z)) hl2.1, r4, r5⟩) (by omega) (by exact hqU) (by exact hfU) (by omega)
theorem r_vals {sc : x_S} {d : Nat} {S : w_S} {nn : Int} {Y : Int → Int64} {mt : Int → Int} {E : List Ed} {N : List Nd} {T : List Tk} {m e p : Int} (hq : PQ S nn Y mt E N T) (m0 : 0 ≤ m) (mn : m < nn) (hm40 : Y m = 40) (hme : mt m = e) (hrm : (T.length : Int) + (e - m) ≤ 299) (hd : 3 ≤ d) : w_T sc d 163 0 (x_en 0 [.ref 249, .int (iZ m), .int (iZ e), .int (iZ p)]) [] S (fun v S2 => v = none ∧ pfr S S2 ∧ PQ S2 nn Y mt E N ((if e ≤ m + 1 then [] else vtk p (spv Y mt 200 (m + 1) e)) ++ T) ∧ (((if e ≤ m + 1 then [] else vtk p (spv Y mt 200 (m + 1) e)) ++ T).length : Int) ≤ T.length + (e - m)) := by
  have n0 := hq.1.1.2.1
  have n1 := hq.1.1.2.2.1
  have hg := hq.1.1.2.2.2.2.1
  have hM := hq.1.2.1
  have hlE := hq.2.1.2.1
  have hlN := hq.2.2.1.2.1
  have hlT := hq.2.2.2.2.1
  have hY0 := hq.1.1.2.2.2.2.2
  have hcm := hq.1.2.2.2
  have hmm := hM m m0 mn (opb (Or.inl hm40))
  have hm1 := hmm.1
  have hm2 := hmm.2.1
  rw [hme] at hm1 hm2
  refine w_iload_n rfl rfl rfl ?_
  refine w_istore rfl (by decide) rfl ?_
  refine w_iload_n rfl rfl rfl ?_
  refine w_iconst rfl rfl ?_
  refine w_isub rfl rfl ?_
  refine w_istore rfl (by decide) rfl ?_
  exact (r_vals_c hq m0 mn hm40 hme hrm hd _) e (e - 1) ([]) _ _ rfl rfl rfl rfl rfl rfl (by omega) (by omega) (by omega) (by exact Or.inl ⟨by omega, by rw [show e - 1 + 1 = e by omega, ← hme]; exact bal_rch hM hmm.2.2.2.1 (by omega) (by omega), by rw [show e - 1 + 1 = e by omega]; exact Wc_0 e, fun z => absurd z (by omega), fun f _ => by rw [if_neg (by omega)]⟩) (by rw [List.length_nil]; omega) (by exact hq) (by exact (pfr_refl S)) (Nat.lt_succ_self _)
theorem r_valu_c {sc : x_S} {d : Nat} {S : w_S} {nn : Int} {Y : Int → Int64} {mt : Int → Int} {E : List Ed} {N : List Nd} {T : List Tk} {D : List Dcl} {a b p : Int} (hq : PQ S nn Y mt E N T) (a0 : 0 ≤ a) (ab : a ≤ b) (bn : b ≤ nn) (hra : Rch Y mt a b) (hT : ∀ p, a ≤ p → p < b → tyE nn Y mt E p = isT D (Y p)) (p0 : 0 ≤ p) (p1 : p < N.length) (hrN : (N.length : Int) + (b - a) ≤ 201) (hrT : (T.length : Int) + 2 * (b - a) ≤ 290) (hd : 12 ≤ d) : ∀ n : Nat, (∀ (s : Int) (U : w_S) (lv : x_L) (l0 : lv 0 = some (.ref 249)) (l1 : lv 1 = some (.int (iZ a))) (l2 : lv 2 = some (.int (iZ b))) (l7 : lv 7 = some (.int (iZ ((N.length : Int))))) (l8 : lv 8 = some (.int (iZ s))) (s0 : a + 2 ≤ s) (s1 : s ≤ mt a) (mb : mt a < b) (hcs : cs Y D mt 200 a b true = some []) (hpf : prf (Y a) = false) (h40 : Y a = 40) (hty : isT D (Y (a + 1)) = true) (hqU : PQ U nn Y mt E (cstN N a p s) T) (hfU : pfr S U) (hm : (mt a - s).toNat < n), w_T sc d 162 158 lv [] U (VX S nn Y mt E T (vst Y D mt a b p N))) := by
  intro n
  induction n with
  | zero => exact fun s U lv l0 l1 l2 l7 l8 s0 s1 mb hcs hpf h40 hty hqU hfU hm => absurd hm (Nat.not_lt_zero _)
  | succ n ih =>
    intro s U lv l0 l1 l2 l7 l8 s0 s1 mb hcs hpf h40 hty hqU hfU hm
    have n0 := hq.1.1.2.1
    have n1 := hq.1.1.2.2.1
    have hg := hq.1.1.2.2.2.2.1
    have hM := hq.1.2.1
    have hlE := hq.2.1.2.1
    have hlN := hq.2.2.1.2.1
    have hlT := hq.2.2.2.2.1
    have hY0 := hq.1.1.2.2.2.2.2
    have hcm := hq.1.2.2.2
    have hcl := cst_len (N := N) (p := p) s0
    refine w_iload rfl l8 rfl ?_
    refine w_aload_n rfl l0 rfl ?_
    refine w_getR rfl rfl sh_249 rfl rfl ?_
    refine w_iload_n rfl l1 rfl ?_
    refine w_iald (z := mt a) rfl sh_287 (by omega) (by omega) (by decide) (hqU.1.2.2.1 a (by omega) (by omega)) rfl ?_
    refine w_ic_ge (pc2 := 186) (pc3 := 169) rfl (by decide) rfl ⟨by omega, by omega⟩ ⟨by omega, by omega⟩ (fun c166 => ?_) (fun c166 => ?_)
    · skip
      refine w_aload_n rfl l0 rfl ?_
      refine w_iconst rfl rfl ?_
      refine w_aload_n rfl l0 rfl ?_
      refine w_getR rfl rfl sh_249 rfl rfl ?_
      refine w_iload_n rfl l1 rfl ?_
      refine w_iald (z := mt a) rfl sh_287 (by omega) (by omega) (by decide) (hqU.1.2.2.1 a (by omega) (by omega)) rfl ?_
      refine w_iconst rfl rfl ?_
      refine w_iadd rfl rfl ?_
      refine w_iload_n rfl l2 rfl ?_
      refine w_iload rfl l7 rfl ?_
      refine w_iconst rfl rfl ?_
      refine w_CV (as := [.int (iZ 5), .int (iZ (mt a + 1)), .int (iZ b), .int (iZ ((N.length : Int))), .int (iZ 0)]) (r := []) rfl rfl rfl rfl sh_249 (Nat.le_of_ble_eq_true rfl) (Nat.le_of_ble_eq_true rfl) (by omega) rfl (r_push (w := 5) (a := mt a + 1) (b := b) (p := (N.length : Int)) (j := 0) hqU (by (try simp only [List.length_cons]); omega) (by omega)) ?_
      rintro _ Z1 ⟨rfl, g1, hq1⟩
      show w_T _ _ 162 203 _ [.int (iZ 1)] _ _
      have f1 := pfr_trans hfU g1
      refine w_zret rfl rfl (by decide) ?_
      have e9 : s = mt a := by omega
      subst e9
      refine VX_s (q := ([(5, mt a + 1, b, (N.length : Int), 0)], cstN N a p (mt a))) ?_ f1 (by exact hq1)
      unfold vst
      rw [hcs]
      rw [Option.bind_some, if_pos rfl]
      rw [if_neg (by rw [hpf]; decide), if_pos ⟨h40, hty⟩]
    · skip
      refine w_aload_n rfl l0 rfl ?_
      refine w_bipush rfl (by decide) rfl ?_
      refine w_iload rfl l8 rfl ?_
      refine w_iload rfl l7 rfl ?_
      refine w_CV (as := [.int (iZ 7), .int (iZ s), .int (iZ ((N.length : Int)))]) (r := []) rfl rfl rfl rfl sh_249 (Nat.le_of_ble_eq_true rfl) (Nat.le_of_ble_eq_true rfl) (by omega) rfl (r_grow (k := 7) (t := s) (p := (N.length : Int)) hqU (by (try rw [gr_len]); omega) (by omega) (by (try rw [gr_len]); omega) (by omega)) ?_
      rintro _ Z2 ⟨rfl, g2, hq2⟩
      show w_T _ _ 162 179 _ [.int (iZ (((cstN N a p s).length : Int)))] _ _
      have f2 := pfr_trans hfU g2
      refine w_pop rfl rfl rfl ?_
      refine w_iinc rfl l8 (by decide) rfl ?_
      refine w_goto (pc2 := 158) rfl (by decide) ?_
      exact ih (s + 1) _ _ (by exact l0) (by exact l1) (by exact l2) (by exact (congrArg x_k2 l7)) (by exact rfl) (by omega) (by omega) (by omega) (by exact hcs) (by exact hpf) (by exact h40) (by exact hty) (by rw [← cst_s s0]; exact hq2) (by exact f2) (by omega)
theorem r_valu {sc : x_S} {d : Nat} {S : w_S} {nn : Int} {Y : Int → Int64} {mt : Int → Int} {E : List Ed} {N : List Nd} {T : List Tk} {D : List Dcl} {a b p : Int} (hq : PQ S nn Y mt E N T) (a0 : 0 ≤ a) (ab : a ≤ b) (bn : b ≤ nn) (hra : Rch Y mt a b) (hT : ∀ p, a ≤ p → p < b → tyE nn Y mt E p = isT D (Y p)) (p0 : 0 ≤ p) (p1 : p < N.length) (hrN : (N.length : Int) + (b - a) ≤ 201) (hrT : (T.length : Int) + 2 * (b - a) ≤ 290) (hd : 12 ≤ d) : w_T sc d 162 0 (x_en 0 [.ref 249, .int (iZ a), .int (iZ b), .int (iZ p)]) [] S (VX S nn Y mt E T (vst Y D mt a b p N)) := by
  have n0 := hq.1.1.2.1
  have n1 := hq.1.1.2.2.1
  have hg := hq.1.1.2.2.2.2.1
  have hM := hq.1.2.1
  have hlE := hq.2.1.2.1
  have hlN := hq.2.2.1.2.1
  have hlT := hq.2.2.2.2.1
  have hY0 := hq.1.1.2.2.2.2.2
  have hcm := hq.1.2.2.2
  refine w_aload_n rfl rfl rfl ?_
  refine w_iload_n rfl rfl rfl ?_
  refine w_iload_n rfl rfl rfl ?_
  refine w_CV (as := [.int (iZ a), .int (iZ b)]) (r := []) rfl rfl rfl rfl sh_249 (Nat.le_of_ble_eq_true rfl) (Nat.le_of_ble_eq_true rfl) (by omega) rfl (r_cut (D := D) (a := a) (b := b) hq (by omega) (by omega) (by omega) hra hT (by omega)) ?_
  rintro _ _ ⟨rfl, hS⟩
  rw [hS]
  show w_T _ _ 162 6 _ [.int (iZ (ctv Y (cs Y D mt 200 a b true) (-1) 9))] _ _
  generalize hcv : (ctv Y (cs Y D mt 200 a b true) (-1) 9) = cv
  have hcc := ctv_3 hM a0 bn hra hcv
  have hcr : -2 ≤ cv ∧ cv < b := by
    rcases hcc with z | z | ⟨L, z⟩
    · have := z.2; omega
    · have := z.2; omega
    · have := z.2.2.2.1; have := z.2.2.2.2.1; omega
  refine w_istore rfl (by decide) rfl ?_
  refine w_iload rfl rfl rfl ?_
  refine w_bipush rfl (by decide) rfl ?_
  refine w_ic_ne (pc2 := 17) (pc3 := 15) rfl (by decide) rfl ⟨by omega, by omega⟩ ⟨by decide, by decide⟩ (fun c12 => ?_) (fun c12 => ?_)
  · skip
    refine w_iload rfl rfl rfl ?_
    refine w_if_lt (pc2 := 59) (pc3 := 22) rfl (by decide) rfl ⟨by omega, by omega⟩ (fun c19 => ?_) (fun c19 => ?_)
    · skip
      have hcs : cs Y D mt 200 a b true = some [] := by
        rcases hcc with z | z | ⟨L, z⟩
        · exfalso; exact c12 z.2
        · exact z.1
        · exfalso; omega
      have ab2 := cs_lt (f := 199) hcs
      have h40T : Y a = 40 → tyE nn Y mt E (a + 1) = isT D (Y (a + 1)) := fun z => by
        have q := hM a (by omega) (by omega) (opb (Or.inl z))
        have q2 := Rch_le (Rch_nx hra (by omega))
        rw [nx_b (Or.inl z)] at q2
        exact hT (a + 1) (by omega) (by omega)
      refine w_aload_n rfl rfl rfl ?_
      refine w_getR rfl rfl sh_249 rfl rfl ?_
      refine w_iload_n rfl rfl rfl ?_
      refine w_lald (z := Y a) rfl sh_285 (by omega) (by omega) (by decide) (hq.1.1.2.2.2.1 a (by omega) (by omega)) rfl ?_
      refine w_lstore rfl (by decide) rfl ?_
      refine w_lload rfl rfl rfl ?_
      refine w_ldc2 (v := 45) rfl rfl rfl ?_
      apply w_br (A := w_T _ _ 162 94 _ [] _ _) (B := w_T _ _ 162 113 _ [] _ _) ((Y a) = 45 ∨ ((Y a) = 42 ∨ (Y a) = 38))
      · intro kT1 kT2
        refine w_l_eq (pc2 := 94) (pc3 := 76) rfl rfl (by decide) rfl (fun q1 => ?_) (fun q1 => ?_)
        · skip
          exact kT1 (Or.inl q1)
        · skip
          refine w_lload rfl rfl rfl ?_
          refine w_ldc2 (v := 42) rfl rfl rfl ?_
          refine w_l_eq (pc2 := 94) (pc3 := 85) rfl rfl (by decide) rfl (fun q2 => ?_) (fun q2 => ?_)
          · skip
            exact kT1 (Or.inr (Or.inl q2))
          · skip
            refine w_lload rfl rfl rfl ?_
            refine w_ldc2 (v := 38) rfl rfl rfl ?_
            refine w_l_ne (pc2 := 113) (pc3 := 94) rfl rfl (by decide) rfl (fun q3 => ?_) (fun q3 => ?_)
            · skip
              exact kT2 (not_or.mpr ⟨q1, (not_or.mpr ⟨q2, q3⟩)⟩)
            · skip
              exact kT1 (Or.inr (Or.inr q3))
      · intro c73
        refine w_aload_n rfl rfl rfl ?_
        refine w_iconst rfl rfl ?_
        refine w_iload_n rfl rfl rfl ?_
        refine w_iconst rfl rfl ?_
        refine w_iadd rfl rfl ?_
        refine w_iload_n rfl rfl rfl ?_
        refine w_aload_n rfl rfl rfl ?_
        refine w_bipush rfl (by decide) rfl ?_
        refine w_iload_n rfl rfl rfl ?_
        refine w_iload_n rfl rfl rfl ?_
        refine w_CV (as := [.int (iZ 13), .int (iZ a), .int (iZ p)]) (r := [.int (iZ b), .int (iZ (a + 1)), .int (iZ 5), .ref 249]) rfl rfl rfl rfl sh_249 (Nat.le_of_ble_eq_true rfl) (Nat.le_of_ble_eq_true rfl) (by omega) rfl (r_grow (k := 13) (t := a) (p := p) hq (by (try rw [gr_len]); omega) (by omega) (by (try rw [gr_len]); omega) (by omega)) ?_
        rintro _ Z3 ⟨rfl, g3, hq3⟩
        show w_T _ _ 162 108 _ [.int (iZ ((N.length : Int))), .int (iZ b), .int (iZ (a + 1)), .int (iZ 5), .ref 249] _ _
        have f3 := pfr_trans (pfr_refl S) g3
        refine w_iconst rfl rfl ?_
        refine w_CV (as := [.int (iZ 5), .int (iZ (a + 1)), .int (iZ b), .int (iZ ((N.length : Int))), .int (iZ 0)]) (r := []) rfl rfl rfl rfl sh_249 (Nat.le_of_ble_eq_true rfl) (Nat.le_of_ble_eq_true rfl) (by omega) rfl (r_push (w := 5) (a := a + 1) (b := b) (p := (N.length : Int)) (j := 0) hq3 (by (try simp only [List.length_cons]); omega) (by omega)) ?_
        rintro _ Z4 ⟨rfl, g4, hq4⟩
        show w_T _ _ 162 112 _ [.int (iZ 1)] _ _
        have f4 := pfr_trans f3 g4
        refine w_zret rfl rfl (by decide) ?_
        refine VX_s (q := ([(5, a + 1, b, (N.length : Int), 0)], gr N 13 a p)) ?_ f4 (by exact hq4)
        unfold vst
        rw [hcs]
        rw [Option.bind_some, if_pos rfl]
        rw [if_pos (show prf (Y a) = true from decide_eq_true c73)]
      · intro c73
        have hpf : prf (Y a) = false := decide_eq_false c73
        refine w_lload rfl rfl rfl ?_
        refine w_ldc2 (v := 40) rfl rfl rfl ?_
        apply w_br (A := w_T _ _ 162 132 _ [] _ _) (B := w_T _ _ 162 204 _ [] _ _) ((Y a) = 40 ∧ (tyE nn Y mt E (a + 1)) = true)
        · intro kT1 kT2
          refine w_l_ne (pc2 := 204) (pc3 := 122) rfl rfl (by decide) rfl (fun q4 => ?_) (fun q4 => ?_)
          · skip
            exact kT2 (fun q => q4 q.1)
          · skip
            refine w_aload_n rfl rfl rfl ?_
            refine w_iload_n rfl rfl rfl ?_
            refine w_iconst rfl rfl ?_
            refine w_iadd rfl rfl ?_
            refine w_CV (as := [.int (iZ (a + 1))]) (r := []) rfl rfl rfl rfl sh_249 (Nat.le_of_ble_eq_true rfl) (Nat.le_of_ble_eq_true rfl) (by omega) rfl (r_typ (p := a + 1) hq (by omega) (by omega) (by omega)) ?_
            rintro _ _ ⟨rfl, hS⟩
            rw [hS]
            show w_T _ _ 162 129 _ [.int (iZ (zB (tyE nn Y mt E (a + 1))))] _ _
            refine w_b_eq (pc2 := 204) (pc3 := 132) rfl (by decide) rfl (fun q5 => ?_) (fun q5 => ?_)
            · skip
              exact kT2 (fun q => (Bool.eq_false_iff.mp q5) q.2)
            · skip
              exact kT1 ⟨q4, q5⟩
        · intro c119
          have h40 := c119.1
          have hty : isT D (Y (a + 1)) = true := by rw [← h40T h40]; exact c119.2
          have hmk := hM a (by omega) (by omega) (opb (Or.inl h40))
          have hmk1 := hmk.1
          have hmk2 := hmk.2.1
          have hm2 : a + 2 ≤ mt a := by
            by_cases z : mt a = a + 1
            · exfalso
              have q2 := (prb_o hmk.2.2.1).2.1
              rw [z, (isT_nb hty).2] at q2
              exact Bool.noConfusion q2
            · omega
          have hmb : mt a < b := by
            have q2 := Rch_le (Rch_nx hra (by omega))
            rw [nx_b (Or.inl h40)] at q2
            omega
          have hl1 := gr_len N 14 a p
          have hl2 := gr_len (gr N 14 a p) 3 (a + 1) N.length
          refine w_aload_n rfl rfl rfl ?_
          refine w_bipush rfl (by decide) rfl ?_
          refine w_iload_n rfl rfl rfl ?_
          refine w_iload_n rfl rfl rfl ?_
          refine w_CV (as := [.int (iZ 14), .int (iZ a), .int (iZ p)]) (r := []) rfl rfl rfl rfl sh_249 (Nat.le_of_ble_eq_true rfl) (Nat.le_of_ble_eq_true rfl) (by omega) rfl (r_grow (k := 14) (t := a) (p := p) hq (by (try rw [gr_len]); omega) (by omega) (by (try rw [gr_len]); omega) (by omega)) ?_
          rintro _ Z5 ⟨rfl, g5, hq5⟩
          show w_T _ _ 162 140 _ [.int (iZ ((N.length : Int)))] _ _
          have f5 := pfr_trans (pfr_refl S) g5
          refine w_istore rfl (by decide) rfl ?_
          refine w_aload_n rfl rfl rfl ?_
          refine w_iconst rfl rfl ?_
          refine w_iload_n rfl rfl rfl ?_
          refine w_iconst rfl rfl ?_
          refine w_iadd rfl rfl ?_
          refine w_iload rfl rfl rfl ?_
          refine w_CV (as := [.int (iZ 3), .int (iZ (a + 1)), .int (iZ ((N.length : Int)))]) (r := []) rfl rfl rfl rfl sh_249 (Nat.le_of_ble_eq_true rfl) (Nat.le_of_ble_eq_true rfl) (by omega) rfl (r_grow (k := 3) (t := a + 1) (p := (N.length : Int)) hq5 (by (try rw [gr_len]); omega) (by omega) (by (try rw [gr_len]); omega) (by omega)) ?_
          rintro _ Z6 ⟨rfl, g6, hq6⟩
          show w_T _ _ 162 152 _ [.int (iZ (((gr N 14 a p).length : Int)))] _ _
          have f6 := pfr_trans f5 g6
          refine w_pop rfl rfl rfl ?_
          refine w_iload_n rfl rfl rfl ?_
          refine w_iconst rfl rfl ?_
          refine w_iadd rfl rfl ?_
          refine w_istore rfl (by decide) rfl ?_
          exact (r_valu_c hq a0 ab bn hra hT p0 p1 hrN hrT hd _) (a + 2) _ _ rfl rfl rfl rfl rfl (by omega) (by omega) (by omega) (by exact hcs) (by exact hpf) (by exact h40) (by exact hty) (by rw [← cst_0]; exact hq6) (by exact f6) (Nat.lt_succ_self _)
        · intro c119
          have hnc : ¬ (Y a = 40 ∧ isT D (Y (a + 1)) = true) := fun z => c119 ⟨z.1, (h40T z.1).trans z.2⟩
          refine w_iload_n rfl rfl rfl ?_
          refine w_iload_n rfl rfl rfl ?_
          refine w_iconst rfl rfl ?_
          refine w_isub rfl rfl ?_
          refine w_ic_ne (pc2 := 241) (pc3 := 211) rfl (by decide) rfl ⟨by omega, by omega⟩ ⟨by omega, by omega⟩ (fun c208 => ?_) (fun c208 => ?_)
          · skip
            obtain ⟨v1, v2, v3, v4, v5⟩ := vlast hM a0 bn hra hcs hpf hnc c208
            refine w_aload_n rfl rfl rfl ?_
            refine w_getR rfl rfl sh_249 rfl rfl ?_
            refine w_iload_n rfl rfl rfl ?_
            refine w_iconst rfl rfl ?_
            refine w_isub rfl rfl ?_
            refine w_iald (z := mt (b - 1)) rfl sh_287 (by omega) (by omega) (by decide) (hq.1.2.2.1 (b - 1) (by omega) (by omega)) rfl ?_
            refine w_istore rfl (by decide) rfl ?_
            refine w_iload rfl rfl rfl ?_
            refine w_iload_n rfl rfl rfl ?_
            refine w_ic_ne (pc2 := 271) (pc3 := 257) rfl (by decide) rfl ⟨by omega, by omega⟩ ⟨by omega, by omega⟩ (fun c254 => ?_) (fun c254 => ?_)
            · skip
              refine w_aload_n rfl rfl rfl ?_
              refine w_getR rfl rfl sh_249 rfl rfl ?_
              refine w_iload rfl rfl rfl ?_
              refine w_lald (z := Y (mt (b - 1))) rfl sh_285 (by omega) (by omega) (by decide) (hq.1.1.2.2.2.1 (mt (b - 1)) (by omega) (by omega)) rfl ?_
              refine w_ldc2 (v := 91) rfl rfl rfl ?_
              refine w_l_ne (pc2 := 289) (pc3 := 285) rfl rfl (by decide) rfl (fun c282 => ?_) (fun c282 => ?_)
              · skip
                refine w_iconst rfl rfl ?_
                refine w_istore rfl (by decide) rfl ?_
                refine w_aload_n rfl rfl rfl ?_
                refine w_iload rfl rfl rfl ?_
                refine w_if_eq (pc2 := 303) (pc3 := 298) rfl (by decide) rfl ⟨by decide, by decide⟩ (fun _ => ?_) (fun hc => absurd hc (by decide))
                refine w_bipush rfl (by decide) rfl ?_
                have hl1 := gr_len N 15 (mt (b - 1)) p
                have hl2 := gr_len N 16 (mt (b - 1)) p
                refine w_iload rfl rfl rfl ?_
                refine w_iload_n rfl rfl rfl ?_
                refine w_CV (as := [.int (iZ 16), .int (iZ (mt (b - 1))), .int (iZ p)]) (r := []) rfl rfl rfl rfl sh_249 (Nat.le_of_ble_eq_true rfl) (Nat.le_of_ble_eq_true rfl) (by omega) rfl (r_grow (k := 16) (t := mt (b - 1)) (p := p) hq (by (try rw [gr_len]); omega) (by omega) (by (try rw [gr_len]); omega) (by omega)) ?_
                rintro _ Z7 ⟨rfl, g7, hq7⟩
                show w_T _ _ 162 311 _ [.int (iZ ((N.length : Int)))] _ _
                have f7 := pfr_trans (pfr_refl S) g7
                refine w_istore rfl (by decide) rfl ?_
                refine w_iload rfl rfl rfl ?_
                refine w_if_eq (pc2 := 337) (pc3 := 318) rfl (by decide) rfl ⟨by decide, by decide⟩ (fun _ => ?_) (fun hc => absurd hc (by decide))
                have hv40 : Y (mt (b - 1)) = 40 := v3.resolve_right c282
                have hve := v4
                refine w_aload_n rfl rfl rfl ?_
                refine w_iload rfl rfl rfl ?_
                refine w_iload_n rfl rfl rfl ?_
                refine w_iconst rfl rfl ?_
                refine w_isub rfl rfl ?_
                refine w_iload rfl rfl rfl ?_
                refine w_CV (as := [.int (iZ (mt (b - 1))), .int (iZ (b - 1)), .int (iZ ((N.length : Int)))]) (r := []) rfl rfl rfl rfl sh_249 (Nat.le_of_ble_eq_true rfl) (Nat.le_of_ble_eq_true rfl) (by omega) rfl (r_vals (m := mt (b - 1)) (e := b - 1) (p := (N.length : Int)) hq7 (by omega) (by omega) hv40 hve (by omega) (by omega)) ?_
                rintro _ Z8 ⟨rfl, g8, hq8, hvl8⟩
                show w_T _ _ 162 348 _ [] _ _
                have f8 := pfr_trans f7 g8
                refine w_aload_n rfl rfl rfl ?_
                refine w_iconst rfl rfl ?_
                refine w_iload_n rfl rfl rfl ?_
                refine w_iload rfl rfl rfl ?_
                refine w_iload rfl rfl rfl ?_
                refine w_iconst rfl rfl ?_
                refine w_CV (as := [.int (iZ 5), .int (iZ a), .int (iZ (mt (b - 1))), .int (iZ ((N.length : Int))), .int (iZ 0)]) (r := []) rfl rfl rfl rfl sh_249 (Nat.le_of_ble_eq_true rfl) (Nat.le_of_ble_eq_true rfl) (by omega) rfl (r_push (w := 5) (a := a) (b := mt (b - 1)) (p := (N.length : Int)) (j := 0) hq8 (by (try simp only [List.length_cons]); omega) (by omega)) ?_
                rintro _ Z9 ⟨rfl, g9, hq9⟩
                show w_T _ _ 162 359 _ [.int (iZ 1)] _ _
                have f9 := pfr_trans f8 g9
                refine w_zret rfl rfl (by decide) ?_
                refine VX_s (q := ((5, a, mt (b - 1), (N.length : Int), 0) :: (if b - 1 ≤ mt (b - 1) + 1 then [] else vtk N.length (spv Y mt 200 (mt (b - 1) + 1) (b - 1))), gr N 16 (mt (b - 1)) p)) ?_ f9 (by exact hq9)
                unfold vst
                rw [hcs]
                rw [Option.bind_some, if_pos rfl]
                rw [if_neg (by rw [hpf]; decide), if_neg hnc, if_neg c208, if_neg c254, if_neg c282]
              · skip
                refine w_iconst rfl rfl ?_
                refine w_goto (pc2 := 290) rfl (by decide) ?_
                refine w_istore rfl (by decide) rfl ?_
                refine w_aload_n rfl rfl rfl ?_
                refine w_iload rfl rfl rfl ?_
                refine w_if_eq (pc2 := 303) (pc3 := 298) rfl (by decide) rfl ⟨by decide, by decide⟩ (fun hc => absurd hc (by decide)) (fun _ => ?_)
                refine w_bipush rfl (by decide) rfl ?_
                refine w_goto (pc2 := 305) rfl (by decide) ?_
                have hl1 := gr_len N 15 (mt (b - 1)) p
                have hl2 := gr_len N 16 (mt (b - 1)) p
                refine w_iload rfl rfl rfl ?_
                refine w_iload_n rfl rfl rfl ?_
                refine w_CV (as := [.int (iZ 15), .int (iZ (mt (b - 1))), .int (iZ p)]) (r := []) rfl rfl rfl rfl sh_249 (Nat.le_of_ble_eq_true rfl) (Nat.le_of_ble_eq_true rfl) (by omega) rfl (r_grow (k := 15) (t := mt (b - 1)) (p := p) hq (by (try rw [gr_len]); omega) (by omega) (by (try rw [gr_len]); omega) (by omega)) ?_
                rintro _ Z10 ⟨rfl, g10, hq10⟩
                show w_T _ _ 162 311 _ [.int (iZ ((N.length : Int)))] _ _
                have f10 := pfr_trans (pfr_refl S) g10
                refine w_istore rfl (by decide) rfl ?_
                refine w_iload rfl rfl rfl ?_
                refine w_if_eq (pc2 := 337) (pc3 := 318) rfl (by decide) rfl ⟨by decide, by decide⟩ (fun hc => absurd hc (by decide)) (fun _ => ?_)
                refine w_aload_n rfl rfl rfl ?_
                refine w_iconst rfl rfl ?_
                refine w_iload rfl rfl rfl ?_
                refine w_iconst rfl rfl ?_
                refine w_iadd rfl rfl ?_
                refine w_iload_n rfl rfl rfl ?_
                refine w_iconst rfl rfl ?_
                refine w_isub rfl rfl ?_
                refine w_iload rfl rfl rfl ?_
                refine w_iconst rfl rfl ?_
                refine w_CV (as := [.int (iZ 5), .int (iZ ((mt (b - 1)) + 1)), .int (iZ (b - 1)), .int (iZ ((N.length : Int))), .int (iZ 0)]) (r := []) rfl rfl rfl rfl sh_249 (Nat.le_of_ble_eq_true rfl) (Nat.le_of_ble_eq_true rfl) (by omega) rfl (r_push (w := 5) (a := (mt (b - 1)) + 1) (b := b - 1) (p := (N.length : Int)) (j := 0) hq10 (by (try simp only [List.length_cons]); omega) (by omega)) ?_
                rintro _ Z11 ⟨rfl, g11, hq11⟩
                show w_T _ _ 162 333 _ [.int (iZ 1)] _ _
                have f11 := pfr_trans f10 g11
                refine w_pop rfl rfl rfl ?_
                refine w_goto (pc2 := 348) rfl (by decide) ?_
                refine w_aload_n rfl rfl rfl ?_
                refine w_iconst rfl rfl ?_
                refine w_iload_n rfl rfl rfl ?_
                refine w_iload rfl rfl rfl ?_
                refine w_iload rfl rfl rfl ?_
                refine w_iconst rfl rfl ?_
                refine w_CV (as := [.int (iZ 5), .int (iZ a), .int (iZ (mt (b - 1))), .int (iZ ((N.length : Int))), .int (iZ 0)]) (r := []) rfl rfl rfl rfl sh_249 (Nat.le_of_ble_eq_true rfl) (Nat.le_of_ble_eq_true rfl) (by omega) rfl (r_push (w := 5) (a := a) (b := mt (b - 1)) (p := (N.length : Int)) (j := 0) hq11 (by (try simp only [List.length_cons]); omega) (by omega)) ?_
                rintro _ Z12 ⟨rfl, g12, hq12⟩
                show w_T _ _ 162 359 _ [.int (iZ 1)] _ _
                have f12 := pfr_trans f11 g12
                refine w_zret rfl rfl (by decide) ?_
                refine VX_s (q := ([(5, a, mt (b - 1), (N.length : Int), 0), (5, mt (b - 1) + 1, b - 1, (N.length : Int), 0)], gr N 15 (mt (b - 1)) p)) ?_ f12 (by exact hq12)
                unfold vst
                rw [hcs]
                rw [Option.bind_some, if_pos rfl]
                rw [if_neg (by rw [hpf]; decide), if_neg hnc, if_neg c208, if_neg c254, if_pos c282]
            · skip
              refine w_aload_n rfl rfl rfl ?_
              refine w_iconst rfl rfl ?_
              refine w_iload_n rfl rfl rfl ?_
              refine w_iconst rfl rfl ?_
              refine w_iadd rfl rfl ?_
              refine w_iload_n rfl rfl rfl ?_
              refine w_iconst rfl rfl ?_
              refine w_isub rfl rfl ?_
              refine w_iload_n rfl rfl rfl ?_
              refine w_iconst rfl rfl ?_
              refine w_CV (as := [.int (iZ 5), .int (iZ (a + 1)), .int (iZ (b - 1)), .int (iZ p), .int (iZ 0)]) (r := []) rfl rfl rfl rfl sh_249 (Nat.le_of_ble_eq_true rfl) (Nat.le_of_ble_eq_true rfl) (by omega) rfl (r_push (w := 5) (a := a + 1) (b := b - 1) (p := p) (j := 0) hq (by (try simp only [List.length_cons]); omega) (by omega)) ?_
              rintro _ Z13 ⟨rfl, g13, hq13⟩
              show w_T _ _ 162 270 _ [.int (iZ 1)] _ _
              have f13 := pfr_trans (pfr_refl S) g13
              refine w_zret rfl rfl (by decide) ?_
              refine VX_s (q := ([(5, a + 1, b - 1, p, 0)], N)) ?_ f13 (by exact hq13)
              unfold vst
              rw [hcs]
              rw [Option.bind_some, if_pos rfl]
              rw [if_neg (by rw [hpf]; decide), if_neg hnc, if_neg c208, if_pos c254]
          · skip
            refine w_aload_n rfl rfl rfl ?_
            refine w_lload rfl rfl rfl ?_
            refine w_CS (as := [.long (Y a)]) (r := [.ref 249]) rfl rfl rfl rfl (Nat.le_of_ble_eq_true rfl) (Nat.le_of_ble_eq_true rfl) (by omega) rfl (r_isn (x := Y a) (Int.le_of_lt (hg _ (by omega) (by omega)).1) (by omega)) ?_
            rintro _ _ ⟨rfl, hS⟩
            rw [hS]
            show w_T _ _ 162 217 _ [.int (iZ (zB (dgt (wc (Y a) 0)))), .ref 249] _ _
            apply w_jn (A := w_T _ _ 162 227 _ [.int (iZ (if (dgt (wc (Y a) 0)) = false then 17 else 18)), .ref 249] _ _)
            · intro kT
              refine w_b_eq (pc2 := 225) (pc3 := 220) rfl (by decide) rfl (fun q6 => ?_) (fun q6 => ?_)
              · skip
                refine w_bipush rfl (by decide) rfl ?_
                exact w_ji1 (p := (dgt (wc (Y a) 0)) = false) (a := 17) (b := 18) q6 kT
              · skip
                refine w_bipush rfl (by decide) rfl ?_
                refine w_goto (pc2 := 227) rfl (by decide) ?_
                exact w_ji0 (p := (dgt (wc (Y a) 0)) = false) (a := 17) (b := 18) (fun q => Bool.noConfusion ((q6).symm.trans q)) kT
            · show w_T _ _ 162 227 _ [.int (iZ (if (dgt (wc (Y a) 0)) = false then 17 else 18)), .ref 249] _ _
              have hkd2 : (if dgt (wc (Y a) 0) = false then (17 : Int) else 18) = (if wk (Y a) = 5 then 18 else 17) := by
                have g5 := gw_5 (hg a (by omega) (by omega))
                rw [g5]
                by_cases z : wk (Y a) = 5
                · rw [if_pos z, decide_eq_true z]; rfl
                · rw [if_neg z, decide_eq_false z]; rfl
              rw [hkd2]
              refine w_iload_n rfl rfl rfl ?_
              refine w_iload_n rfl rfl rfl ?_
              refine w_CV (as := [.int (iZ (if wk (Y a) = 5 then 18 else 17)), .int (iZ a), .int (iZ p)]) (r := []) rfl rfl rfl rfl sh_249 (Nat.le_of_ble_eq_true rfl) (Nat.le_of_ble_eq_true rfl) (by omega) rfl (r_grow (k := if wk (Y a) = 5 then 18 else 17) (t := a) (p := p) hq (by (try rw [gr_len]); omega) (by omega) (by (try rw [gr_len]); omega) (by omega)) ?_
              rintro _ Z14 ⟨rfl, g14, hq14⟩
              show w_T _ _ 162 232 _ [.int (iZ ((N.length : Int)))] _ _
              have f14 := pfr_trans (pfr_refl S) g14
              refine w_if_le (pc2 := 239) (pc3 := 235) rfl (by decide) rfl ⟨by omega, by omega⟩ (fun c232 => ?_) (fun c232 => ?_)
              · exfalso; omega
              · skip
                refine w_iconst rfl rfl ?_
                refine w_goto (pc2 := 240) rfl (by decide) ?_
                refine w_zret rfl rfl (by decide) ?_
                refine VX_s (q := ([], gr N (if wk (Y a) = 5 then 18 else 17) a p)) ?_ f14 (by exact hq14)
                unfold vst
                rw [hcs]
                rw [Option.bind_some, if_pos rfl]
                rw [if_neg (by rw [hpf]; decide), if_neg hnc, if_pos (by omega)]
    · skip
      obtain ⟨L, hL, hcs, hcp, hca, hcb, hcr1, hcr2⟩ : ∃ L, ¬ L = [] ∧ cs Y D mt 200 a b true = some L ∧ pickN Y L (-1) 9 = cv ∧ a ≤ cv ∧ cv < b ∧ Rch Y mt a cv ∧ Rch Y mt (cv + 1) b := by
        rcases hcc with z | z | z
        · exfalso; omega
        · exfalso; omega
        · exact z
      refine w_aload_n rfl rfl rfl ?_
      refine w_bipush rfl (by decide) rfl ?_
      refine w_iload rfl rfl rfl ?_
      refine w_iload_n rfl rfl rfl ?_
      refine w_CV (as := [.int (iZ 12), .int (iZ cv), .int (iZ p)]) (r := []) rfl rfl rfl rfl sh_249 (Nat.le_of_ble_eq_true rfl) (Nat.le_of_ble_eq_true rfl) (by omega) rfl (r_grow (k := 12) (t := cv) (p := p) hq (by (try rw [gr_len]); omega) (by omega) (by (try rw [gr_len]); omega) (by omega)) ?_
      rintro _ Z15 ⟨rfl, g15, hq15⟩
      show w_T _ _ 162 31 _ [.int (iZ ((N.length : Int)))] _ _
      have f15 := pfr_trans (pfr_refl S) g15
      refine w_istore rfl (by decide) rfl ?_
      refine w_aload_n rfl rfl rfl ?_
      refine w_iconst rfl rfl ?_
      refine w_iload rfl rfl rfl ?_
      refine w_iconst rfl rfl ?_
      refine w_iadd rfl rfl ?_
      refine w_iload_n rfl rfl rfl ?_
      refine w_iload rfl rfl rfl ?_
      refine w_iconst rfl rfl ?_
      refine w_CV (as := [.int (iZ 5), .int (iZ (cv + 1)), .int (iZ b), .int (iZ ((N.length : Int))), .int (iZ 0)]) (r := []) rfl rfl rfl rfl sh_249 (Nat.le_of_ble_eq_true rfl) (Nat.le_of_ble_eq_true rfl) (by omega) rfl (r_push (w := 5) (a := cv + 1) (b := b) (p := (N.length : Int)) (j := 0) hq15 (by (try simp only [List.length_cons]); omega) (by omega)) ?_
      rintro _ Z16 ⟨rfl, g16, hq16⟩
      show w_T _ _ 162 46 _ [.int (iZ 1)] _ _
      have f16 := pfr_trans f15 g16
      refine w_pop rfl rfl rfl ?_
      refine w_aload_n rfl rfl rfl ?_
      refine w_iconst rfl rfl ?_
      refine w_iload_n rfl rfl rfl ?_
      refine w_iload rfl rfl rfl ?_
      refine w_iload rfl rfl rfl ?_
      refine w_iconst rfl rfl ?_
      refine w_CV (as := [.int (iZ 5), .int (iZ a), .int (iZ cv), .int (iZ ((N.length : Int))), .int (iZ 0)]) (r := []) rfl rfl rfl rfl sh_249 (Nat.le_of_ble_eq_true rfl) (Nat.le_of_ble_eq_true rfl) (by omega) rfl (r_push (w := 5) (a := a) (b := cv) (p := (N.length : Int)) (j := 0) hq16 (by (try simp only [List.length_cons]); omega) (by omega)) ?_
      rintro _ Z17 ⟨rfl, g17, hq17⟩
      show w_T _ _ 162 58 _ [.int (iZ 1)] _ _
      have f17 := pfr_trans f16 g17
      refine w_zret rfl rfl (by decide) ?_
      refine VX_s (q := ([(5, a, cv, (N.length : Int), 0), (5, cv + 1, b, (N.length : Int), 0)], gr N 12 cv p)) ?_ f17 (by exact hq17)
      unfold vst
      rw [hcs]
      show (if L = [] then _ else _) = _
      rw [if_neg hL, hcp]
  · skip
    refine w_iconst rfl rfl ?_
    refine w_zret rfl rfl (by decide) ?_
    refine VX_n ?_ (pfr_refl S)
    have hcs : cs Y D mt 200 a b true = none := by
      rcases hcc with z | z | ⟨L, z⟩
      · exact z.1
      · exfalso; omega
      · exfalso; omega
    unfold vst
    rw [hcs]
    rfl
