/-! The reference takes a declarator. -/
theorem lrp_cons {A B C F : Int → Int} {L : List Lv} {v : Lv} {d : Int} (h : lrp A B C F L) (hd : d = L.length) : lrp (w_u A d v.1) (w_u B d v.2.1) (w_u C d v.2.2.1) (w_u F d v.2.2.2) (v :: L) := by
  rw [hd]
  refine ⟨w_u_self _ _ _, w_u_self _ _ _, w_u_self _ _ _, w_u_self _ _ _, lrp_fr L h (fun j hj => ?_)⟩
  exact ⟨w_u_ne _ _ (by omega), w_u_ne _ _ (by omega), w_u_ne _ _ (by omega), w_u_ne _ _ (by omega)⟩
theorem lrp_g {S S2 : w_S} {L : List Lv} (g : gfr S S2) (h : lrp (sA S 301) (sA S 302) (sA S 303) (sA S 304) L) : lrp (sA S2 301) (sA S2 302) (sA S2 303) (sA S2 304) L := by
  rw [fr_gA g.1 (by decide), fr_gA g.1 (by decide), fr_gA g.1 (by decide), fr_gA g.1 (by decide)]
  exact h
theorem dN_len {N : List Nd} {G : List Nd} {p y : Int} {x : Nd} : ((bmp N p 1 ++ x :: G).length : Int) = N.length + 1 + G.length := by
  rw [List.length_append, bmp_len, List.length_cons]
  omega
theorem dN_app {N G F : List Nd} {p y : Int} : bmp (bmp N p 1 ++ (4, y, (G.length : Int)) :: G) N.length F.length ++ F = bmp N p 1 ++ (4, y, ((G ++ F).length : Int)) :: (G ++ F) := by
  rw [bmp_q (by rw [bmp_len]), List.length_append, List.append_assoc, Int.natCast_add]
  rfl
theorem fr_len {Y : Int → Int64} {mt : Int → Int} {n : Int} {v : Lv} {F : List Nd} (hM : MTP Y n mt) (hv : lok n Y mt v) (h : ((rfm Y mt 200 v.2.2.1 v.2.2.2).bind (fun F => some (F ++ stR (v.2.1 - v.1).toNat v.1))) = some F) : (F.length : Int) ≤ (v.2.1 - v.1) + (v.2.2.2 - v.2.2.1) := by
  obtain ⟨G, hG, h2⟩ := bind_some h
  cases h2
  have q := (rfm_len hM hv.2.2.2.2.2.1 200 _ G hG hv.2.2.2.1 hv.2.2.2.2.2.2).1
  have := hv.2.1
  have := hv.2.2.2.2.1
  rw [List.length_append, stR_len]
  omega
set_option maxRecDepth 4000 in
theorem r_decl_c {sc : x_S} {d : Nat} {S : w_S} {nn : Int} {Y : Int → Int64} {mt : Int → Int} {E : List Ed} {N : List Nd} {T : List Tk} {w a e p j q r : Int} (hq : PQ S nn Y mt E N T) (hB : ∀ k : Int, 0 ≤ k → k < nn → bc Y (k + 1).toNat ≤ 6) (w2 : 2 ≤ w) (w4 : w ≤ 4) (a0 : 0 ≤ a) (ae : a ≤ e) (en : e ≤ nn) (hra : Rch Y mt a e) (p0 : 0 ≤ p) (p1 : p < N.length) (j1 : -1 ≤ j) (j2 : j < nn) (jo : 0 ≤ j → opn (Y j) = true) (hrN : (N.length : Int) + (e - a) ≤ 200) (hrT : (T.length : Int) ≤ 290) (hE9 : E.length ≤ 99) (hsq : see Y mt a e 44 = q) (hsr : see Y mt a q 61 = r) (hd : 12 ≤ d) : ∀ n : Nat, (∀ (lo : Int) (hi : Int) (dd : Int) (ay : Int) (acc : List Lv) (m : Nat) (U : w_S) (lv : x_L) (l0 : lv 0 = some (.ref 249)) (l1 : lv 1 = some (.int (iZ w))) (l2 : lv 2 = some (.int (iZ a))) (l3 : lv 3 = some (.int (iZ e))) (l4 : lv 4 = some (.int (iZ p))) (l5 : lv 5 = some (.int (iZ j))) (l6 : lv 6 = some (.int (iZ q))) (l7 : lv 7 = some (.int (iZ r))) (l8 : lv 8 = some (.int (iZ lo))) (l9 : lv 9 = some (.int (iZ hi))) (l10 : lv 10 = some (.int (iZ dd))) (l11 : lv 11 = some (.int (iZ ay))) (hcd : ¬ ((¬ w = 2 ∧ r < q) ∨ (w = 4 ∧ q < e))) (hL : (ay = -1 ∧ LI nn Y mt a r lo hi dd acc m) ∨ (0 ≤ ay ∧ ay < nn ∧ dd = acc.length ∧ LD nn Y mt a r ay acc)) (hlr : lrp (sA U 301) (sA U 302) (sA U 303) (sA U 304) acc) (hfU : fr (fun a => 301 ≤ a ∧ a ≤ 304) S U) (hm : 5000 + 300 * (hi - lo).toNat + 200 < n), w_T sc d 157 61 lv [] U (DX S nn Y mt T (dst Y mt w a e p j N E))) ∧ (∀ (lo : Int) (hi : Int) (dd : Int) (s : Int) (acc : List Lv) (m : Nat) (U : w_S) (lv : x_L) (l0 : lv 0 = some (.ref 249)) (l1 : lv 1 = some (.int (iZ w))) (l2 : lv 2 = some (.int (iZ a))) (l3 : lv 3 = some (.int (iZ e))) (l4 : lv 4 = some (.int (iZ p))) (l5 : lv 5 = some (.int (iZ j))) (l6 : lv 6 = some (.int (iZ q))) (l7 : lv 7 = some (.int (iZ r))) (l8 : lv 8 = some (.int (iZ lo))) (l9 : lv 9 = some (.int (iZ hi))) (l10 : lv 10 = some (.int (iZ dd))) (l12 : lv 12 = some (.int (iZ s))) (hcd : ¬ ((¬ w = 2 ∧ r < q) ∨ (w = 4 ∧ q < e))) (hLI : LI nn Y mt a r lo hi dd acc (m + 1)) (s0 : lo ≤ s) (s1 : s ≤ hi) (hst : stN Y hi lo = stN Y hi s) (hlr : lrp (sA U 301) (sA U 302) (sA U 303) (sA U 304) acc) (hfU : fr (fun a => 301 ≤ a ∧ a ≤ 304) S U) (hm : 5000 + 300 * (hi - lo).toNat + (hi - s).toNat < n), w_T sc d 157 70 lv [] U (DX S nn Y mt T (dst Y mt w a e p j N E))) ∧ (∀ (dd : Int) (ay : Int) (o : Int) (acc : List Lv) (lq : List Lv) (v : Lv) (r2 : List Lv) (U : w_S) (lv : x_L) (l0 : lv 0 = some (.ref 249)) (l1 : lv 1 = some (.int (iZ w))) (l2 : lv 2 = some (.int (iZ a))) (l3 : lv 3 = some (.int (iZ e))) (l4 : lv 4 = some (.int (iZ p))) (l5 : lv 5 = some (.int (iZ j))) (l6 : lv 6 = some (.int (iZ q))) (l7 : lv 7 = some (.int (iZ r))) (l10 : lv 10 = some (.int (iZ dd))) (l11 : lv 11 = some (.int (iZ ay))) (l12 : lv 12 = some (.int (iZ o))) (hcd : ¬ ((¬ w = 2 ∧ r < q) ∨ (w = 4 ∧ q < e))) (hLD : LD nn Y mt a r ay acc) (hdl : dd = acc.length) (hac : acc = lq ++ v :: r2) (ho : o = r2.length) (hot : otr acc = otr (v :: r2)) (hlr : lrp (sA U 301) (sA U 302) (sA U 303) (sA U 304) acc) (hfU : fr (fun a => 301 ≤ a ∧ a ≤ 304) S U) (hm : 1000 + r2.length < n), w_T sc d 157 248 lv [] U (DX S nn Y mt T (dst Y mt w a e p j N E))) ∧ (∀ (ay : Int) (k : Int) (acc : List Lv) (lq : List Lv) (rem : List Lv) (G0 : List Nd) (U : w_S) (lv : x_L) (l0 : lv 0 = some (.ref 249)) (l1 : lv 1 = some (.int (iZ w))) (l2 : lv 2 = some (.int (iZ a))) (l3 : lv 3 = some (.int (iZ e))) (l4 : lv 4 = some (.int (iZ p))) (l5 : lv 5 = some (.int (iZ j))) (l6 : lv 6 = some (.int (iZ q))) (l7 : lv 7 = some (.int (iZ r))) (l11 : lv 11 = some (.int (iZ ay))) (l13 : lv 13 = some (.int (iZ ((N.length : Int))))) (l14 : lv 14 = some (.int (iZ k))) (hcd : ¬ ((¬ w = 2 ∧ r < q) ∨ (w = 4 ∧ q < e))) (hLD : LD nn Y mt a r ay acc) (hac : acc = lq ++ rem) (hk : k = (rem.length : Int) - 1) (hfm : fml Y mt acc = (fml Y mt rem).bind (fun G => some (G0 ++ G))) (hfn : w = 4 → ¬ (otr acc).2.2.1 = (otr acc).2.2.2 ∧ Y (otr acc).2.2.1 = 40) (hGl : (G0.length : Int) + lsum rem ≤ lsum acc) (hlr : lrp (sA U 301) (sA U 302) (sA U 303) (sA U 304) acc) (hqU : PQ U nn Y mt E (bmp N p 1 ++ (4, ay, (G0.length : Int)) :: G0) T) (hfp : pfr S U) (hm : rem.length < n), w_T sc d 157 353 lv [] U (DX S nn Y mt T (dst Y mt w a e p j N E))) := by
  intro n
  induction n with
  | zero => exact ⟨fun lo hi dd ay acc m U lv l0 l1 l2 l3 l4 l5 l6 l7 l8 l9 l10 l11 hcd hL hlr hfU hm => absurd hm (Nat.not_lt_zero _), fun lo hi dd s acc m U lv l0 l1 l2 l3 l4 l5 l6 l7 l8 l9 l10 l12 hcd hLI s0 s1 hst hlr hfU hm => absurd hm (Nat.not_lt_zero _), fun dd ay o acc lq v r2 U lv l0 l1 l2 l3 l4 l5 l6 l7 l10 l11 l12 hcd hLD hdl hac ho hot hlr hfU hm => absurd hm (Nat.not_lt_zero _), fun ay k acc lq rem G0 U lv l0 l1 l2 l3 l4 l5 l6 l7 l11 l13 l14 hcd hLD hac hk hfm hfn hGl hlr hqU hfp hm => absurd hm (Nat.not_lt_zero _)⟩
  | succ n ih =>
    refine ⟨?_, ?_, ?_, ?_⟩
    · skip
      intro lo hi dd ay acc m U lv l0 l1 l2 l3 l4 l5 l6 l7 l8 l9 l10 l11 hcd hL hlr hfU hm
      have n0 := hq.1.1.2.1
      have n1 := hq.1.1.2.2.1
      have hg := hq.1.1.2.2.2.2.1
      have hM := hq.1.2.1
      have hlE := hq.2.1.2.1
      have hlN := hq.2.2.1.2.1
      have hlT := hq.2.2.2.2.1
      have hY0 := hq.1.1.2.2.2.2.2
      have hcm := hq.1.2.2.2
      have sq := see_rch (w := 44) hM a0 en hra
      rw [hsq] at sq
      have sq1 := sq.2.1
      have sq2 := sq.2.2
      have sr := see_rch (w := 61) hM a0 (by omega) sq.1
      rw [hsr] at sr
      have sr1 := sr.2.1
      have sr2 := sr.2.2
      have hqU := (PQ_d hq hfU).2
      have hfp := (PQ_d hq hfU).1
      refine w_iload rfl l11 rfl ?_
      refine w_if_ge (pc2 := 242) (pc3 := 66) rfl (by decide) rfl ⟨by omega, by omega⟩ (fun c63 => ?_) (fun c63 => ?_)
      · skip
        have hL2 := hL.resolve_left (fun z => by omega)
        have hdl := hL2.2.2.1
        have hLD := hL2.2.2.2
        obtain ⟨v, r2, rfl⟩ : ∃ v r2, acc = v :: r2 := by
          cases acc with
          | nil => exfalso; have := hLD.2.2.2.2.2.1; rw [List.length_nil] at this; omega
          | cons v r2 => exact ⟨v, r2, rfl⟩
        have ha7 := hLD.2.2.2.2.2.2.1
        rw [List.length_cons] at ha7
        refine w_iload rfl l10 rfl ?_
        refine w_iconst rfl rfl ?_
        refine w_isub rfl rfl ?_
        refine w_istore rfl (by decide) rfl ?_
        exact ih.2.2.1 dd ay (dd - 1) ((v :: r2)) ([]) v r2 _ _ (by exact l0) (by exact l1) (by exact l2) (by exact l3) (by exact l4) (by exact l5) (by exact l6) (by exact l7) (by exact l10) (by exact (congrArg x_k2 l11)) (by exact rfl) (by exact hcd) (by exact hLD) (by exact hdl) (by rfl) (by rw [List.length_cons] at hdl; omega) (by rfl) (by exact hlr) (by exact hfU) (by first | omega | (rw [List.length_cons] at hm; omega))
      · skip
        have hLI := (hL.resolve_right (fun z => by omega)).2
        obtain ⟨mm, rfl⟩ : ∃ mm, m = mm + 1 := ⟨m - 1, by have := hLI.2.2.2.2.2.2.2.2.1; have := hLI.2.1; omega⟩
        have hlo := hLI.1
        have hhi := hLI.2.2.1
        have hlh := hLI.2.1
        refine w_iload rfl l8 rfl ?_
        refine w_istore rfl (by decide) rfl ?_
        exact ih.2.1 lo hi dd lo acc mm _ _ l0 l1 l2 l3 l4 l5 l6 l7 l8 l9 l10 rfl (by exact hcd) (by exact hLI) (by omega) (by omega) (by rfl) (by exact hlr) (by exact hfU) (by omega)
    · skip
      intro lo hi dd s acc m U lv l0 l1 l2 l3 l4 l5 l6 l7 l8 l9 l10 l12 hcd hLI s0 s1 hst hlr hfU hm
      have n0 := hq.1.1.2.1
      have n1 := hq.1.1.2.2.1
      have hg := hq.1.1.2.2.2.2.1
      have hM := hq.1.2.1
      have hlE := hq.2.1.2.1
      have hlN := hq.2.2.1.2.1
      have hlT := hq.2.2.2.2.1
      have hY0 := hq.1.1.2.2.2.2.2
      have hcm := hq.1.2.2.2
      have sq := see_rch (w := 44) hM a0 en hra
      rw [hsq] at sq
      have sq1 := sq.2.1
      have sq2 := sq.2.2
      have sr := see_rch (w := 61) hM a0 (by omega) sq.1
      rw [hsr] at sr
      have sr1 := sr.2.1
      have sr2 := sr.2.2
      have hqU := (PQ_d hq hfU).2
      have hfp := (PQ_d hq hfU).1
      have hlo := hLI.1
      have hhi := hLI.2.2.1
      have hdl := hLI.2.2.2.2.1
      have hd6 : dd ≤ 6 := Int.le_trans hLI.2.2.2.2.2.1 (bc6 hB hlo (by omega))
      refine w_iload rfl l12 rfl ?_
      refine w_iload rfl l9 rfl ?_
      refine w_ic_ge (pc2 := 97) (pc3 := 77) rfl (by decide) rfl ⟨by omega, by omega⟩ ⟨by omega, by omega⟩ (fun c74 => ?_) (fun c74 => ?_)
      · skip
        refine w_iload rfl l12 rfl ?_
        refine w_iload rfl l9 rfl ?_
        refine w_ic_lt (pc2 := 106) (pc3 := 104) rfl (by decide) rfl ⟨by omega, by omega⟩ ⟨by omega, by omega⟩ (fun c101 => ?_) (fun c101 => ?_)
        · exfalso; omega
        · skip
          refine w_iconst rfl rfl ?_
          refine w_zret rfl rfl (by decide) ?_
          refine DX_n (dst_l hsq hsr hcd (LI_0 hLI (by rw [hst]; show hi ≤ fi _ hi s; rw [fi_end (by omega)]; omega))) hfp
      · skip
        refine w_aload_n rfl l0 rfl ?_
        refine w_getR rfl rfl sh_249 rfl rfl ?_
        refine w_iload rfl l12 rfl ?_
        refine w_lald (z := Y s) rfl sh_285 (by omega) (by omega) (by decide) (hqU.1.1.2.2.2.1 s (by omega) (by omega)) rfl ?_
        refine w_ldc2 (v := 42) rfl rfl rfl ?_
        refine w_l_ne (pc2 := 97) (pc3 := 91) rfl rfl (by decide) rfl (fun c88 => ?_) (fun c88 => ?_)
        · skip
          refine w_iload rfl l12 rfl ?_
          refine w_iload rfl l9 rfl ?_
          refine w_ic_lt (pc2 := 106) (pc3 := 104) rfl (by decide) rfl ⟨by omega, by omega⟩ ⟨by omega, by omega⟩ (fun c101 => ?_) (fun c101 => ?_)
          · skip
            have hss : stN Y hi lo = s := by rw [hst]; exact fi_stop (by omega) (decide_eq_true c88)
            refine w_aload_n rfl l0 rfl ?_
            refine w_getR rfl rfl sh_249 rfl rfl ?_
            refine w_iload rfl l12 rfl ?_
            refine w_lald (z := Y s) rfl sh_285 (by omega) (by omega) (by decide) (hqU.1.1.2.2.2.1 s (by omega) (by omega)) rfl ?_
            refine w_ldc2 (v := 40) rfl rfl rfl ?_
            refine w_l_ne (pc2 := 124) (pc3 := 120) rfl rfl (by decide) rfl (fun c117 => ?_) (fun c117 => ?_)
            · skip
              refine w_iconst rfl rfl ?_
              refine w_istore rfl (by decide) rfl ?_
              refine w_iload rfl rfl rfl ?_
              refine w_if_ne (pc2 := 143) (pc3 := 132) rfl (by decide) rfl ⟨by decide, by decide⟩ (fun hc => absurd hc (by decide)) (fun _ => ?_)
              refine w_aload_n rfl l0 rfl ?_
              refine w_iload rfl (congrArg x_k2 l12) rfl ?_
              refine w_CV (as := [.int (iZ s)]) (r := []) rfl rfl rfl rfl sh_249 (Nat.le_of_ble_eq_true rfl) (Nat.le_of_ble_eq_true rfl) (by omega) rfl (r_iswd (p := s) (nn := nn) (Y := Y) hqU.1.1 (by omega) (by omega) (by omega)) ?_
              rintro _ _ ⟨rfl, hS⟩
              rw [hS]
              show w_T _ _ 157 138 _ [.int (iZ (zB (decide (wk (Y s) = 4))))] _ _
              refine w_b_ne (pc2 := 143) (pc3 := 141) rfl (by decide) rfl (fun c138 => ?_) (fun c138 => ?_)
              · skip
                refine w_iload rfl rfl rfl ?_
                refine w_if_eq (pc2 := 152) (pc3 := 148) rfl (by decide) rfl ⟨by decide, by decide⟩ (fun _ => ?_) (fun hc => absurd hc (by decide))
                refine w_iload rfl (congrArg x_k2 l12) rfl ?_
                refine w_istore rfl (by decide) rfl ?_
                refine w_aload_n rfl l0 rfl ?_
                refine w_getR rfl rfl sh_249 rfl rfl ?_
                refine w_iload rfl (congrArg x_k2 l10) rfl ?_
                refine w_iload rfl l8 rfl ?_
                refine w_iaS (f := sA U 301) rfl sh_301 (by omega) (by omega) (by decide) rfl rfl ?_
                refine w_aload_n rfl l0 rfl ?_
                refine w_getR rfl rfl sh_249 rfl rfl ?_
                refine w_iload rfl (congrArg x_k2 l10) rfl ?_
                refine w_iload rfl (congrArg x_k2 l12) rfl ?_
                refine w_iaS (f := sA U 302) rfl sh_302 (by omega) (by omega) (by decide) (rA_ne (by decide)) rfl ?_
                refine w_aload_n rfl l0 rfl ?_
                refine w_getR rfl rfl sh_249 rfl rfl ?_
                refine w_iload rfl (congrArg x_k2 l10) rfl ?_
                refine w_iload rfl rfl rfl ?_
                refine w_if_eq (pc2 := 197) (pc3 := 185) rfl (by decide) rfl ⟨by decide, by decide⟩ (fun _ => ?_) (fun hc => absurd hc (by decide))
                refine w_iload rfl (congrArg x_k2 l12) rfl ?_
                refine w_iconst rfl rfl ?_
                refine w_iadd rfl rfl ?_
                refine w_iaS (f := sA U 303) rfl sh_303 (by omega) (by omega) (by decide) ((rA_ne (by decide)).trans (rA_ne (by decide))) rfl ?_
                refine w_aload_n rfl l0 rfl ?_
                refine w_getR rfl rfl sh_249 rfl rfl ?_
                refine w_iload rfl (congrArg x_k2 l10) rfl ?_
                refine w_iload rfl l9 rfl ?_
                refine w_iaS (f := sA U 304) rfl sh_304 (by omega) (by omega) (by decide) ((rA_ne (by decide)).trans ((rA_ne (by decide)).trans (rA_ne (by decide)))) rfl ?_
                refine w_iload rfl (congrArg x_k2 l12) rfl ?_
                refine w_iconst rfl rfl ?_
                refine w_iadd rfl rfl ?_
                refine w_istore rfl (by decide) rfl ?_
                refine w_iload rfl rfl rfl ?_
                refine w_if_eq (pc2 := 232) (pc3 := 222) rfl (by decide) rfl ⟨by decide, by decide⟩ (fun _ => ?_) (fun hc => absurd hc (by decide))
                refine w_iload rfl l9 rfl ?_
                refine w_istore rfl (by decide) rfl ?_
                refine w_iinc rfl (congrArg x_k2 l10) (by decide) rfl ?_
                refine w_goto (pc2 := 61) rfl (by decide) ?_
                exact ih.1 (s + 1) hi (dd + 1) s ((lo, s, s + 1, hi) :: acc) m _ _ (by exact l0) (by exact l1) (by exact l2) (by exact l3) (by exact l4) (by exact l5) (by exact l6) (by exact (congrArg x_k2 l7)) (by exact rfl) (by exact rfl) (by exact rfl) (by exact rfl) (by exact hcd) (by exact Or.inr ⟨by omega, by omega, by rw [List.length_cons]; omega, LI_n hM (bc6 hB hlo (by omega)) hLI hss (by omega) c117 (of_decide_eq_true c138)⟩) (by exact lrp_cons (v := (lo, s, s + 1, hi)) hlr hdl) (by exact (fr_A (fr_A (fr_A (fr_A hfU (by omega)) (by omega)) (by omega)) (by omega))) (by omega)
              · skip
                refine w_iconst rfl rfl ?_
                refine w_zret rfl rfl (by decide) ?_
                refine DX_n (dst_l hsq hsr hcd (LI_x hLI hss (by omega) c117 (of_decide_eq_false c138))) hfp
            · skip
              refine w_iconst rfl rfl ?_
              refine w_goto (pc2 := 125) rfl (by decide) ?_
              refine w_istore rfl (by decide) rfl ?_
              refine w_iload rfl rfl rfl ?_
              refine w_if_ne (pc2 := 143) (pc3 := 132) rfl (by decide) rfl ⟨by decide, by decide⟩ (fun _ => ?_) (fun hc => absurd hc (by decide))
              have hR := LI_r hM hLI hss (by omega) c117
              have hR2 := hR.2
              have hmk := hM s (by omega) (by omega) (opb (Or.inl c117))
              have hmk1 := hmk.1
              refine w_iload rfl rfl rfl ?_
              refine w_if_eq (pc2 := 152) (pc3 := 148) rfl (by decide) rfl ⟨by decide, by decide⟩ (fun hc => absurd hc (by decide)) (fun _ => ?_)
              refine w_iconst rfl rfl ?_
              refine w_goto (pc2 := 154) rfl (by decide) ?_
              refine w_istore rfl (by decide) rfl ?_
              refine w_aload_n rfl l0 rfl ?_
              refine w_getR rfl rfl sh_249 rfl rfl ?_
              refine w_iload rfl (congrArg x_k2 l10) rfl ?_
              refine w_iload rfl l8 rfl ?_
              refine w_iaS (f := sA U 301) rfl sh_301 (by omega) (by omega) (by decide) rfl rfl ?_
              refine w_aload_n rfl l0 rfl ?_
              refine w_getR rfl rfl sh_249 rfl rfl ?_
              refine w_iload rfl (congrArg x_k2 l10) rfl ?_
              refine w_iload rfl (congrArg x_k2 l12) rfl ?_
              refine w_iaS (f := sA U 302) rfl sh_302 (by omega) (by omega) (by decide) (rA_ne (by decide)) rfl ?_
              refine w_aload_n rfl l0 rfl ?_
              refine w_getR rfl rfl sh_249 rfl rfl ?_
              refine w_iload rfl (congrArg x_k2 l10) rfl ?_
              refine w_iload rfl rfl rfl ?_
              refine w_if_eq (pc2 := 197) (pc3 := 185) rfl (by decide) rfl ⟨by decide, by decide⟩ (fun hc => absurd hc (by decide)) (fun _ => ?_)
              refine w_aload_n rfl l0 rfl ?_
              refine w_getR rfl rfl sh_249 rfl rfl ?_
              refine w_iload rfl (congrArg x_k2 l12) rfl ?_
              refine w_iald (z := mt s) rfl sh_287 (by omega) (by omega) (by decide) ((congrFun ((rA_ne (by decide)).trans (rA_ne (by decide))) _).trans (hqU.1.2.2.1 s (by omega) (by omega))) rfl ?_
              refine w_iconst rfl rfl ?_
              refine w_iadd rfl rfl ?_
              refine w_goto (pc2 := 201) rfl (by decide) ?_
              refine w_iaS (f := sA U 303) rfl sh_303 (by omega) (by omega) (by decide) ((rA_ne (by decide)).trans (rA_ne (by decide))) rfl ?_
              refine w_aload_n rfl l0 rfl ?_
              refine w_getR rfl rfl sh_249 rfl rfl ?_
              refine w_iload rfl (congrArg x_k2 l10) rfl ?_
              refine w_iload rfl l9 rfl ?_
              refine w_iaS (f := sA U 304) rfl sh_304 (by omega) (by omega) (by decide) ((rA_ne (by decide)).trans ((rA_ne (by decide)).trans (rA_ne (by decide)))) rfl ?_
              refine w_iload rfl (congrArg x_k2 l12) rfl ?_
              refine w_iconst rfl rfl ?_
              refine w_iadd rfl rfl ?_
              refine w_istore rfl (by decide) rfl ?_
              refine w_iload rfl rfl rfl ?_
              refine w_if_eq (pc2 := 232) (pc3 := 222) rfl (by decide) rfl ⟨by decide, by decide⟩ (fun hc => absurd hc (by decide)) (fun _ => ?_)
              refine w_aload_n rfl l0 rfl ?_
              refine w_getR rfl rfl sh_249 rfl rfl ?_
              refine w_iload rfl (congrArg x_k2 l12) rfl ?_
              refine w_iald (z := mt s) rfl sh_287 (by omega) (by omega) (by decide) ((congrFun ((rA_ne (by decide)).trans ((rA_ne (by decide)).trans ((rA_ne (by decide)).trans (rA_ne (by decide))))) _).trans (hqU.1.2.2.1 s (by omega) (by omega))) rfl ?_
              refine w_goto (pc2 := 234) rfl (by decide) ?_
              refine w_istore rfl (by decide) rfl ?_
              refine w_iinc rfl (congrArg x_k2 l10) (by decide) rfl ?_
              refine w_goto (pc2 := 61) rfl (by decide) ?_
              exact ih.1 (s + 1) (mt s) (dd + 1) ((-1)) ((lo, s, mt s + 1, hi) :: acc) m _ _ (by exact l0) (by exact l1) (by exact l2) (by exact l3) (by exact l4) (by exact l5) (by exact l6) (by exact (congrArg x_k2 l7)) (by exact rfl) (by exact rfl) (by exact rfl) (by exact rfl) (by exact hcd) (by exact Or.inl ⟨rfl, hR.1⟩) (by exact lrp_cons (v := (lo, s, mt s + 1, hi)) hlr hdl) (by exact (fr_A (fr_A (fr_A (fr_A hfU (by omega)) (by omega)) (by omega)) (by omega))) (by omega)
          · exfalso; omega
        · skip
          refine w_iinc rfl l12 (by decide) rfl ?_
          refine w_goto (pc2 := 70) rfl (by decide) ?_
          exact ih.2.1 lo hi dd (s + 1) acc m _ _ l0 l1 l2 l3 l4 l5 l6 l7 l8 l9 l10 rfl (by exact hcd) (by exact hLI) (by omega) (by omega) (by rw [hst]; exact fi_next (by omega) (decide_eq_false (not_not_intro c88))) (by exact hlr) (by exact hfU) (by omega)
    · skip
      intro dd ay o acc lq v r2 U lv l0 l1 l2 l3 l4 l5 l6 l7 l10 l11 l12 hcd hLD hdl hac ho hot hlr hfU hm
      have n0 := hq.1.1.2.1
      have n1 := hq.1.1.2.2.1
      have hg := hq.1.1.2.2.2.2.1
      have hM := hq.1.2.1
      have hlE := hq.2.1.2.1
      have hlN := hq.2.2.1.2.1
      have hlT := hq.2.2.2.2.1
      have hY0 := hq.1.1.2.2.2.2.2
      have hcm := hq.1.2.2.2
      have sq := see_rch (w := 44) hM a0 en hra
      rw [hsq] at sq
      have sq1 := sq.2.1
      have sq2 := sq.2.2
      have sr := see_rch (w := 61) hM a0 (by omega) sq.1
      rw [hsr] at sr
      have sr1 := sr.2.1
      have sr2 := sr.2.2
      have hqU := (PQ_d hq hfU).2
      have hfp := (PQ_d hq hfU).1
      have hay0 := hLD.1
      have hay1 := hLD.2.1
      have ha7 := hLD.2.2.2.2.2.2.1
      have hal := congrArg List.length hac
      rw [List.length_append, List.length_cons] at hal
      have hsf := lrp_suf lq (v :: r2) (by rw [← hac]; exact hlr)
      have hvk := hLD.2.2.2.2.1 v (by rw [hac]; simp)
      have hvk1 := hvk.1
      have hvk2 := hvk.2.1
      have hvk3 := hvk.2.2.1
      have hvk4 := hvk.2.2.2.1
      have hvk5 := hvk.2.2.2.2.1
      have hvk6 := hvk.2.2.2.2.2.1
      have hls := hLD.2.2.2.1
      have hln := lsum_n acc hLD.2.2.2.2.1
      refine w_iload rfl l12 rfl ?_
      refine w_if_le (pc2 := 293) (pc3 := 253) rfl (by decide) rfl ⟨by omega, by omega⟩ (fun c250 => ?_) (fun c250 => ?_)
      · skip
        have hov : otr acc = v := by
          have z : r2 = [] := List.length_eq_zero_iff.1 (by omega)
          rw [hot, otr, if_pos z]
        refine w_iload_n rfl l1 rfl ?_
        refine w_iconst rfl rfl ?_
        refine w_ic_ne (pc2 := 336) (pc3 := 298) rfl (by decide) rfl ⟨by omega, by omega⟩ ⟨by decide, by decide⟩ (fun c295 => ?_) (fun c295 => ?_)
        · skip
          refine w_aload_n rfl l0 rfl ?_
          refine w_iconst rfl rfl ?_
          refine w_iload rfl l11 rfl ?_
          refine w_iload rfl l4 rfl ?_
          refine w_CV (as := [.int (iZ 4), .int (iZ ay), .int (iZ p)]) (r := []) rfl rfl rfl rfl sh_249 (Nat.le_of_ble_eq_true rfl) (Nat.le_of_ble_eq_true rfl) (by omega) rfl (r_grow2 (k := 4) (t := ay) (p := p) hqU (by omega) (by omega) (by omega) (by omega)) ?_
          rintro _ Z1 ⟨rfl, g1, hq1⟩
          show w_T _ _ 157 345 _ [.int (iZ ((N.length : Int)))] _ _
          have f1 := pfr_trans hfp (gfr_p g1)
          have hlr1 := lrp_g g1 hlr
          refine w_istore rfl (by decide) rfl ?_
          refine w_iload rfl l10 rfl ?_
          refine w_iconst rfl rfl ?_
          refine w_isub rfl rfl ?_
          refine w_istore rfl (by decide) rfl ?_
          exact ih.2.2.2 ay (dd - 1) acc ([]) acc ([]) _ _ l0 l1 l2 l3 l4 l5 l6 l7 l11 rfl rfl (by exact hcd) (by exact hLD) (by rfl) (by omega) (by cases fml Y mt acc with | none => rfl | some G => rfl) (by intro hw9; exact absurd hw9 c295) (by show (0 : Int) + _ ≤ _; omega) (by exact hlr1) (by exact hq1) (by exact f1) (by first | omega | (rw [List.length_cons] at hm; omega))
        · skip
          refine w_aload_n rfl l0 rfl ?_
          refine w_getR rfl rfl sh_249 rfl rfl ?_
          refine w_iload rfl l12 rfl ?_
          refine w_iald (z := v.2.2.1) rfl sh_303 (by omega) (by omega) (by decide) (by rw [ho]; exact hsf.2.2.1) rfl ?_
          refine w_aload_n rfl l0 rfl ?_
          refine w_getR rfl rfl sh_249 rfl rfl ?_
          refine w_iload rfl l12 rfl ?_
          refine w_iald (z := v.2.2.2) rfl sh_304 (by omega) (by omega) (by decide) (by rw [ho]; exact hsf.2.2.2.1) rfl ?_
          refine w_ic_eq (pc2 := 334) (pc3 := 315) rfl (by decide) rfl ⟨by omega, by omega⟩ ⟨by omega, by omega⟩ (fun c312 => ?_) (fun c312 => ?_)
          · skip
            refine w_iconst rfl rfl ?_
            refine w_zret rfl rfl (by decide) ?_
            refine DX_n (dst_o hsq hsr hcd hLD (by first | exact c295 | omega) (fun z => by rw [hov] at z; first | exact z.1 c312 | exact c331 z.2)) hfp
          · skip
            refine w_aload_n rfl l0 rfl ?_
            refine w_getR rfl rfl sh_249 rfl rfl ?_
            refine w_aload_n rfl l0 rfl ?_
            refine w_getR rfl rfl sh_249 rfl rfl ?_
            refine w_iload rfl l12 rfl ?_
            refine w_iald (z := v.2.2.1) rfl sh_303 (by omega) (by omega) (by decide) (by rw [ho]; exact hsf.2.2.1) rfl ?_
            refine w_lald (z := Y v.2.2.1) rfl sh_285 (by omega) (by omega) (by decide) (hqU.1.1.2.2.2.1 v.2.2.1 (by omega) (by omega)) rfl ?_
            refine w_ldc2 (v := 40) rfl rfl rfl ?_
            refine w_l_eq (pc2 := 336) (pc3 := 334) rfl rfl (by decide) rfl (fun c331 => ?_) (fun c331 => ?_)
            · skip
              refine w_aload_n rfl l0 rfl ?_
              refine w_iconst rfl rfl ?_
              refine w_iload rfl l11 rfl ?_
              refine w_iload rfl l4 rfl ?_
              refine w_CV (as := [.int (iZ 4), .int (iZ ay), .int (iZ p)]) (r := []) rfl rfl rfl rfl sh_249 (Nat.le_of_ble_eq_true rfl) (Nat.le_of_ble_eq_true rfl) (by omega) rfl (r_grow2 (k := 4) (t := ay) (p := p) hqU (by omega) (by omega) (by omega) (by omega)) ?_
              rintro _ Z2 ⟨rfl, g2, hq2⟩
              show w_T _ _ 157 345 _ [.int (iZ ((N.length : Int)))] _ _
              have f2 := pfr_trans hfp (gfr_p g2)
              have hlr2 := lrp_g g2 hlr
              refine w_istore rfl (by decide) rfl ?_
              refine w_iload rfl l10 rfl ?_
              refine w_iconst rfl rfl ?_
              refine w_isub rfl rfl ?_
              refine w_istore rfl (by decide) rfl ?_
              exact ih.2.2.2 ay (dd - 1) acc ([]) acc ([]) _ _ l0 l1 l2 l3 l4 l5 l6 l7 l11 rfl rfl (by exact hcd) (by exact hLD) (by rfl) (by omega) (by cases fml Y mt acc with | none => rfl | some G => rfl) (by intro _; rw [hov]; exact ⟨c312, c331⟩) (by show (0 : Int) + _ ≤ _; omega) (by exact hlr2) (by exact hq2) (by exact f2) (by first | omega | (rw [List.length_cons] at hm; omega))
            · skip
              refine w_iconst rfl rfl ?_
              refine w_zret rfl rfl (by decide) ?_
              refine DX_n (dst_o hsq hsr hcd hLD (by first | exact c295 | omega) (fun z => by rw [hov] at z; first | exact z.1 c312 | exact c331 z.2)) hfp
      · skip
        obtain ⟨v2, r3, rfl⟩ : ∃ v2 r3, r2 = v2 :: r3 := by
          cases r2 with
          | nil => exfalso; rw [List.length_nil] at ho; omega
          | cons v2 r3 => exact ⟨v2, r3, rfl⟩
        refine w_aload_n rfl l0 rfl ?_
        refine w_getR rfl rfl sh_249 rfl rfl ?_
        refine w_iload rfl l12 rfl ?_
        refine w_iald (z := v.1) rfl sh_301 (by omega) (by omega) (by decide) (by rw [ho]; exact hsf.1) rfl ?_
        refine w_aload_n rfl l0 rfl ?_
        refine w_getR rfl rfl sh_249 rfl rfl ?_
        refine w_iload rfl l12 rfl ?_
        refine w_iald (z := v.2.1) rfl sh_302 (by omega) (by omega) (by decide) (by rw [ho]; exact hsf.2.1) rfl ?_
        refine w_ic_ne (pc2 := 293) (pc3 := 270) rfl (by decide) rfl ⟨by omega, by omega⟩ ⟨by omega, by omega⟩ (fun c267 => ?_) (fun c267 => ?_)
        · skip
          have hov : otr acc = v := by rw [hot, otr, if_neg (by simp), if_neg (fun z => c267 z.1)]
          refine w_iload_n rfl l1 rfl ?_
          refine w_iconst rfl rfl ?_
          refine w_ic_ne (pc2 := 336) (pc3 := 298) rfl (by decide) rfl ⟨by omega, by omega⟩ ⟨by decide, by decide⟩ (fun c295 => ?_) (fun c295 => ?_)
          · skip
            refine w_aload_n rfl l0 rfl ?_
            refine w_iconst rfl rfl ?_
            refine w_iload rfl l11 rfl ?_
            refine w_iload rfl l4 rfl ?_
            refine w_CV (as := [.int (iZ 4), .int (iZ ay), .int (iZ p)]) (r := []) rfl rfl rfl rfl sh_249 (Nat.le_of_ble_eq_true rfl) (Nat.le_of_ble_eq_true rfl) (by omega) rfl (r_grow2 (k := 4) (t := ay) (p := p) hqU (by omega) (by omega) (by omega) (by omega)) ?_
            rintro _ Z3 ⟨rfl, g3, hq3⟩
            show w_T _ _ 157 345 _ [.int (iZ ((N.length : Int)))] _ _
            have f3 := pfr_trans hfp (gfr_p g3)
            have hlr3 := lrp_g g3 hlr
            refine w_istore rfl (by decide) rfl ?_
            refine w_iload rfl l10 rfl ?_
            refine w_iconst rfl rfl ?_
            refine w_isub rfl rfl ?_
            refine w_istore rfl (by decide) rfl ?_
            exact ih.2.2.2 ay (dd - 1) acc ([]) acc ([]) _ _ l0 l1 l2 l3 l4 l5 l6 l7 l11 rfl rfl (by exact hcd) (by exact hLD) (by rfl) (by omega) (by cases fml Y mt acc with | none => rfl | some G => rfl) (by intro hw9; exact absurd hw9 c295) (by show (0 : Int) + _ ≤ _; omega) (by exact hlr3) (by exact hq3) (by exact f3) (by first | omega | (rw [List.length_cons] at hm; omega))
          · skip
            refine w_aload_n rfl l0 rfl ?_
            refine w_getR rfl rfl sh_249 rfl rfl ?_
            refine w_iload rfl l12 rfl ?_
            refine w_iald (z := v.2.2.1) rfl sh_303 (by omega) (by omega) (by decide) (by rw [ho]; exact hsf.2.2.1) rfl ?_
            refine w_aload_n rfl l0 rfl ?_
            refine w_getR rfl rfl sh_249 rfl rfl ?_
            refine w_iload rfl l12 rfl ?_
            refine w_iald (z := v.2.2.2) rfl sh_304 (by omega) (by omega) (by decide) (by rw [ho]; exact hsf.2.2.2.1) rfl ?_
            refine w_ic_eq (pc2 := 334) (pc3 := 315) rfl (by decide) rfl ⟨by omega, by omega⟩ ⟨by omega, by omega⟩ (fun c312 => ?_) (fun c312 => ?_)
            · skip
              refine w_iconst rfl rfl ?_
              refine w_zret rfl rfl (by decide) ?_
              refine DX_n (dst_o hsq hsr hcd hLD (by first | exact c295 | omega) (fun z => by rw [hov] at z; first | exact z.1 c312 | exact c331 z.2)) hfp
            · skip
              refine w_aload_n rfl l0 rfl ?_
              refine w_getR rfl rfl sh_249 rfl rfl ?_
              refine w_aload_n rfl l0 rfl ?_
              refine w_getR rfl rfl sh_249 rfl rfl ?_
              refine w_iload rfl l12 rfl ?_
              refine w_iald (z := v.2.2.1) rfl sh_303 (by omega) (by omega) (by decide) (by rw [ho]; exact hsf.2.2.1) rfl ?_
              refine w_lald (z := Y v.2.2.1) rfl sh_285 (by omega) (by omega) (by decide) (hqU.1.1.2.2.2.1 v.2.2.1 (by omega) (by omega)) rfl ?_
              refine w_ldc2 (v := 40) rfl rfl rfl ?_
              refine w_l_eq (pc2 := 336) (pc3 := 334) rfl rfl (by decide) rfl (fun c331 => ?_) (fun c331 => ?_)
              · skip
                refine w_aload_n rfl l0 rfl ?_
                refine w_iconst rfl rfl ?_
                refine w_iload rfl l11 rfl ?_
                refine w_iload rfl l4 rfl ?_
                refine w_CV (as := [.int (iZ 4), .int (iZ ay), .int (iZ p)]) (r := []) rfl rfl rfl rfl sh_249 (Nat.le_of_ble_eq_true rfl) (Nat.le_of_ble_eq_true rfl) (by omega) rfl (r_grow2 (k := 4) (t := ay) (p := p) hqU (by omega) (by omega) (by omega) (by omega)) ?_
                rintro _ Z4 ⟨rfl, g4, hq4⟩
                show w_T _ _ 157 345 _ [.int (iZ ((N.length : Int)))] _ _
                have f4 := pfr_trans hfp (gfr_p g4)
                have hlr4 := lrp_g g4 hlr
                refine w_istore rfl (by decide) rfl ?_
                refine w_iload rfl l10 rfl ?_
                refine w_iconst rfl rfl ?_
                refine w_isub rfl rfl ?_
                refine w_istore rfl (by decide) rfl ?_
                exact ih.2.2.2 ay (dd - 1) acc ([]) acc ([]) _ _ l0 l1 l2 l3 l4 l5 l6 l7 l11 rfl rfl (by exact hcd) (by exact hLD) (by rfl) (by omega) (by cases fml Y mt acc with | none => rfl | some G => rfl) (by intro _; rw [hov]; exact ⟨c312, c331⟩) (by show (0 : Int) + _ ≤ _; omega) (by exact hlr4) (by exact hq4) (by exact f4) (by first | omega | (rw [List.length_cons] at hm; omega))
              · skip
                refine w_iconst rfl rfl ?_
                refine w_zret rfl rfl (by decide) ?_
                refine DX_n (dst_o hsq hsr hcd hLD (by first | exact c295 | omega) (fun z => by rw [hov] at z; first | exact z.1 c312 | exact c331 z.2)) hfp
        · skip
          refine w_aload_n rfl l0 rfl ?_
          refine w_getR rfl rfl sh_249 rfl rfl ?_
          refine w_iload rfl l12 rfl ?_
          refine w_iald (z := v.2.2.1) rfl sh_303 (by omega) (by omega) (by decide) (by rw [ho]; exact hsf.2.2.1) rfl ?_
          refine w_aload_n rfl l0 rfl ?_
          refine w_getR rfl rfl sh_249 rfl rfl ?_
          refine w_iload rfl l12 rfl ?_
          refine w_iald (z := v.2.2.2) rfl sh_304 (by omega) (by omega) (by decide) (by rw [ho]; exact hsf.2.2.2.1) rfl ?_
          refine w_ic_ne (pc2 := 293) (pc3 := 287) rfl (by decide) rfl ⟨by omega, by omega⟩ ⟨by omega, by omega⟩ (fun c284 => ?_) (fun c284 => ?_)
          · skip
            have hov : otr acc = v := by rw [hot, otr, if_neg (by simp), if_neg (fun z => c284 z.2)]
            refine w_iload_n rfl l1 rfl ?_
            refine w_iconst rfl rfl ?_
            refine w_ic_ne (pc2 := 336) (pc3 := 298) rfl (by decide) rfl ⟨by omega, by omega⟩ ⟨by decide, by decide⟩ (fun c295 => ?_) (fun c295 => ?_)
            · skip
              refine w_aload_n rfl l0 rfl ?_
              refine w_iconst rfl rfl ?_
              refine w_iload rfl l11 rfl ?_
              refine w_iload rfl l4 rfl ?_
              refine w_CV (as := [.int (iZ 4), .int (iZ ay), .int (iZ p)]) (r := []) rfl rfl rfl rfl sh_249 (Nat.le_of_ble_eq_true rfl) (Nat.le_of_ble_eq_true rfl) (by omega) rfl (r_grow2 (k := 4) (t := ay) (p := p) hqU (by omega) (by omega) (by omega) (by omega)) ?_
              rintro _ Z5 ⟨rfl, g5, hq5⟩
              show w_T _ _ 157 345 _ [.int (iZ ((N.length : Int)))] _ _
              have f5 := pfr_trans hfp (gfr_p g5)
              have hlr5 := lrp_g g5 hlr
              refine w_istore rfl (by decide) rfl ?_
              refine w_iload rfl l10 rfl ?_
              refine w_iconst rfl rfl ?_
              refine w_isub rfl rfl ?_
              refine w_istore rfl (by decide) rfl ?_
              exact ih.2.2.2 ay (dd - 1) acc ([]) acc ([]) _ _ l0 l1 l2 l3 l4 l5 l6 l7 l11 rfl rfl (by exact hcd) (by exact hLD) (by rfl) (by omega) (by cases fml Y mt acc with | none => rfl | some G => rfl) (by intro hw9; exact absurd hw9 c295) (by show (0 : Int) + _ ≤ _; omega) (by exact hlr5) (by exact hq5) (by exact f5) (by first | omega | (rw [List.length_cons] at hm; omega))
            · skip
              refine w_aload_n rfl l0 rfl ?_
              refine w_getR rfl rfl sh_249 rfl rfl ?_
              refine w_iload rfl l12 rfl ?_
              refine w_iald (z := v.2.2.1) rfl sh_303 (by omega) (by omega) (by decide) (by rw [ho]; exact hsf.2.2.1) rfl ?_
              refine w_aload_n rfl l0 rfl ?_
              refine w_getR rfl rfl sh_249 rfl rfl ?_
              refine w_iload rfl l12 rfl ?_
              refine w_iald (z := v.2.2.2) rfl sh_304 (by omega) (by omega) (by decide) (by rw [ho]; exact hsf.2.2.2.1) rfl ?_
              refine w_ic_eq (pc2 := 334) (pc3 := 315) rfl (by decide) rfl ⟨by omega, by omega⟩ ⟨by omega, by omega⟩ (fun c312 => ?_) (fun c312 => ?_)
              · skip
                refine w_iconst rfl rfl ?_
                refine w_zret rfl rfl (by decide) ?_
                refine DX_n (dst_o hsq hsr hcd hLD (by first | exact c295 | omega) (fun z => by rw [hov] at z; first | exact z.1 c312 | exact c331 z.2)) hfp
              · skip
                refine w_aload_n rfl l0 rfl ?_
                refine w_getR rfl rfl sh_249 rfl rfl ?_
                refine w_aload_n rfl l0 rfl ?_
                refine w_getR rfl rfl sh_249 rfl rfl ?_
                refine w_iload rfl l12 rfl ?_
                refine w_iald (z := v.2.2.1) rfl sh_303 (by omega) (by omega) (by decide) (by rw [ho]; exact hsf.2.2.1) rfl ?_
                refine w_lald (z := Y v.2.2.1) rfl sh_285 (by omega) (by omega) (by decide) (hqU.1.1.2.2.2.1 v.2.2.1 (by omega) (by omega)) rfl ?_
                refine w_ldc2 (v := 40) rfl rfl rfl ?_
                refine w_l_eq (pc2 := 336) (pc3 := 334) rfl rfl (by decide) rfl (fun c331 => ?_) (fun c331 => ?_)
                · skip
                  refine w_aload_n rfl l0 rfl ?_
                  refine w_iconst rfl rfl ?_
                  refine w_iload rfl l11 rfl ?_
                  refine w_iload rfl l4 rfl ?_
                  refine w_CV (as := [.int (iZ 4), .int (iZ ay), .int (iZ p)]) (r := []) rfl rfl rfl rfl sh_249 (Nat.le_of_ble_eq_true rfl) (Nat.le_of_ble_eq_true rfl) (by omega) rfl (r_grow2 (k := 4) (t := ay) (p := p) hqU (by omega) (by omega) (by omega) (by omega)) ?_
                  rintro _ Z6 ⟨rfl, g6, hq6⟩
                  show w_T _ _ 157 345 _ [.int (iZ ((N.length : Int)))] _ _
                  have f6 := pfr_trans hfp (gfr_p g6)
                  have hlr6 := lrp_g g6 hlr
                  refine w_istore rfl (by decide) rfl ?_
                  refine w_iload rfl l10 rfl ?_
                  refine w_iconst rfl rfl ?_
                  refine w_isub rfl rfl ?_
                  refine w_istore rfl (by decide) rfl ?_
                  exact ih.2.2.2 ay (dd - 1) acc ([]) acc ([]) _ _ l0 l1 l2 l3 l4 l5 l6 l7 l11 rfl rfl (by exact hcd) (by exact hLD) (by rfl) (by omega) (by cases fml Y mt acc with | none => rfl | some G => rfl) (by intro _; rw [hov]; exact ⟨c312, c331⟩) (by show (0 : Int) + _ ≤ _; omega) (by exact hlr6) (by exact hq6) (by exact f6) (by first | omega | (rw [List.length_cons] at hm; omega))
                · skip
                  refine w_iconst rfl rfl ?_
                  refine w_zret rfl rfl (by decide) ?_
                  refine DX_n (dst_o hsq hsr hcd hLD (by first | exact c295 | omega) (fun z => by rw [hov] at z; first | exact z.1 c312 | exact c331 z.2)) hfp
          · skip
            refine w_iinc rfl l12 (by decide) rfl ?_
            refine w_goto (pc2 := 248) rfl (by decide) ?_
            exact ih.2.2.1 dd ay (o + (-1)) acc ((lq ++ [v])) v2 r3 _ _ (by exact l0) (by exact l1) (by exact l2) (by exact l3) (by exact l4) (by exact l5) (by exact l6) (by exact l7) (by exact l10) (by exact (congrArg x_k2 l11)) (by exact rfl) (by exact hcd) (by exact hLD) (by exact hdl) (by rw [hac, List.append_assoc]; rfl) (by rw [List.length_cons] at ho; omega) (by rw [hot, otr, if_neg (by simp), if_pos ⟨c267, c284⟩]) (by exact hlr) (by exact hfU) (by first | omega | (rw [List.length_cons] at hm; omega))
    · skip
      intro ay k acc lq rem G0 U lv l0 l1 l2 l3 l4 l5 l6 l7 l11 l13 l14 hcd hLD hac hk hfm hfn hGl hlr hqU hfp hm
      have n0 := hq.1.1.2.1
      have n1 := hq.1.1.2.2.1
      have hg := hq.1.1.2.2.2.2.1
      have hM := hq.1.2.1
      have hlE := hq.2.1.2.1
      have hlN := hq.2.2.1.2.1
      have hlT := hq.2.2.2.2.1
      have hY0 := hq.1.1.2.2.2.2.2
      have hcm := hq.1.2.2.2
      have sq := see_rch (w := 44) hM a0 en hra
      rw [hsq] at sq
      have sq1 := sq.2.1
      have sq2 := sq.2.2
      have sr := see_rch (w := 61) hM a0 (by omega) sq.1
      rw [hsr] at sr
      have sr1 := sr.2.1
      have sr2 := sr.2.2
      have hay0 := hLD.1
      have hay1 := hLD.2.1
      have ha7 := hLD.2.2.2.2.2.2.1
      have hal := congrArg List.length hac
      rw [List.length_append] at hal
      have hls := hLD.2.2.2.1
      refine w_iload rfl l14 rfl ?_
      refine w_if_lt (pc2 := 377) (pc3 := 358) rfl (by decide) rfl ⟨by omega, by omega⟩ (fun c355 => ?_) (fun c355 => ?_)
      · skip
        have hrm9 : rem = [] := List.length_eq_zero_iff.1 (by omega)
        have hfG : fml Y mt acc = some G0 := by
          rw [hfm, hrm9]
          show some (G0 ++ []) = some G0
          rw [List.append_nil]
        refine w_aload_n rfl l0 rfl ?_
        refine w_getR rfl rfl sh_249 rfl rfl ?_
        refine w_aload_n rfl l0 rfl ?_
        refine w_getI (z := (E.length : Int)) rfl rfl sh_249 rfl hqU.2.1.1 rfl ?_
        refine w_aload_n rfl l0 rfl ?_
        refine w_getR rfl rfl sh_249 rfl rfl ?_
        refine w_iload rfl l11 rfl ?_
        refine w_lald (z := Y ay) rfl sh_285 (by omega) (by omega) (by decide) (hqU.1.1.2.2.2.1 ay (by omega) (by omega)) rfl ?_
        refine w_laS (f := sL U 292) rfl sh_292 (by omega) (by omega) (by decide) rfl rfl ?_
        refine w_aload_n rfl l0 rfl ?_
        refine w_getR rfl rfl sh_249 rfl rfl ?_
        refine w_aload_n rfl l0 rfl ?_
        refine w_getI (z := (E.length : Int)) rfl rfl sh_249 rfl hqU.2.1.1 rfl ?_
        refine w_iload rfl l7 rfl ?_
        refine w_iaS (f := sA U 293) rfl sh_293 (by omega) (by omega) (by decide) rfl rfl ?_
        refine w_aload_n rfl l0 rfl ?_
        refine w_getR rfl rfl sh_249 rfl rfl ?_
        refine w_aload_n rfl l0 rfl ?_
        refine w_getI (z := (E.length : Int)) rfl rfl sh_249 rfl hqU.2.1.1 rfl ?_
        refine w_iload rfl l5 rfl ?_
        refine w_iaS (f := sA U 294) rfl sh_294 (by omega) (by omega) (by decide) (rA_ne (by decide)) rfl ?_
        refine w_aload_n rfl l0 rfl ?_
        refine w_getR rfl rfl sh_249 rfl rfl ?_
        refine w_aload_n rfl l0 rfl ?_
        refine w_getI (z := (E.length : Int)) rfl rfl sh_249 rfl hqU.2.1.1 rfl ?_
        refine w_iload_n rfl l1 rfl ?_
        refine w_iconst rfl rfl ?_
        apply w_jn (A := w_T _ _ 157 433 _ [.int (iZ (zB (decide (w = 3)))), .int (iZ ((E.length : Int))), .ref 295] _ _)
        · intro kT
          refine w_ic_ne (pc2 := 432) (pc3 := 428) rfl (by decide) rfl ⟨by omega, by omega⟩ ⟨by decide, by decide⟩ (fun q1 => ?_) (fun q1 => ?_)
          · skip
            refine w_iconst rfl rfl ?_
            exact w_j0 (p := w = 3) q1 kT
          · skip
            refine w_iconst rfl rfl ?_
            refine w_goto (pc2 := 433) rfl (by decide) ?_
            exact w_j1 (p := w = 3) q1 kT
        · show w_T _ _ 157 433 _ [.int (iZ (zB (decide (w = 3)))), .int (iZ ((E.length : Int))), .ref 295] _ _
          refine w_baS (f := sA U 295) rfl sh_295 (by omega) (by omega) (by decide) (zB_nar _) ((rA_ne (by decide)).trans (rA_ne (by decide))) rfl ?_
          refine w_aload_n rfl l0 rfl ?_
          refine w_dup rfl rfl rfl ?_
          refine w_getI (z := (E.length : Int)) rfl rfl sh_249 rfl hqU.2.1.1 rfl ?_
          refine w_iconst rfl rfl ?_
          refine w_iadd rfl rfl ?_
          refine w_putf rfl rfl sh_249 rfl rfl (by decide) rfl ?_
          have hx9 : edk nn Y (Y ay, r, j, decide (w = 3)) := ⟨j1, j2, jo, by show 0 ≤ r; omega, by show r ≤ nn; omega, hLD.2.2.1⟩
          have hpe := PQ_e hqU (S2 := (w_v (w_A (w_A (w_A (w_L U 292 (w_u (sL U 292) ((E.length : Int)) (Y ay))) 293 (w_u (sA U 293) ((E.length : Int)) r)) 294 (w_u (sA U 294) ((E.length : Int)) j)) 295 (w_u (sA U 295) ((E.length : Int)) (zB (decide (w = 3))))) 249 61 (((E.length : Int)) + 1))) (fr_v (fr_A (fr_A (fr_A (fr_L (fr_refl _ _) (by omega)) (by omega)) (by omega)) (by omega)) (by omega)) (fun k hk => rv_ne (by omega)) (erep_cons hqU.2.1 hE9 hx9 (rv_self _ _ _ _) rfl rfl rfl rfl)
          have hq7 := hpe.2
          have f7 := pfr_trans hfp hpe.1
          clear hpe
          generalize (w_v (w_A (w_A (w_A (w_L U 292 (w_u (sL U 292) ((E.length : Int)) (Y ay))) 293 (w_u (sA U 293) ((E.length : Int)) r)) 294 (w_u (sA U 294) ((E.length : Int)) j)) 295 (w_u (sA U 295) ((E.length : Int)) (zB (decide (w = 3))))) 249 61 (((E.length : Int)) + 1)) = Z7 at hq7 f7 ⊢
          refine w_iload rfl l6 rfl ?_
          refine w_iload_n rfl l3 rfl ?_
          refine w_ic_ge (pc2 := 465) (pc3 := 450) rfl (by decide) rfl ⟨by omega, by omega⟩ ⟨by omega, by omega⟩ (fun c447 => ?_) (fun c447 => ?_)
          · skip
            refine w_iload rfl l7 rfl ?_
            refine w_iload rfl l6 rfl ?_
            refine w_ic_eq (pc2 := 490) (pc3 := 472) rfl (by decide) rfl ⟨by omega, by omega⟩ ⟨by omega, by omega⟩ (fun c469 => ?_) (fun c469 => ?_)
            · skip
              refine w_iconst rfl rfl ?_
              refine w_goto (pc2 := 495) rfl (by decide) ?_
              refine w_zret rfl rfl (by decide) ?_
              refine DX_s (q := ([], bmp N p 1 ++ (4, ay, (G0.length : Int)) :: G0, (Y ay, r, j, decide (w = 3)) :: E)) ?_ f7 (by exact hq7)
              rw [dst_s hsq hsr hcd hLD hfn hfG, if_pos c469, if_neg (by omega)]
              rfl
            · skip
              refine w_aload_n rfl l0 rfl ?_
              refine w_iconst rfl rfl ?_
              refine w_iload rfl l7 rfl ?_
              refine w_iconst rfl rfl ?_
              refine w_iadd rfl rfl ?_
              refine w_iload rfl l6 rfl ?_
              refine w_iload rfl l13 rfl ?_
              refine w_iload rfl l5 rfl ?_
              refine w_CV (as := [.int (iZ 5), .int (iZ (r + 1)), .int (iZ q), .int (iZ ((N.length : Int))), .int (iZ j)]) (r := []) rfl rfl rfl rfl sh_249 (Nat.le_of_ble_eq_true rfl) (Nat.le_of_ble_eq_true rfl) (by omega) rfl (r_push (w := 5) (a := r + 1) (b := q) (p := (N.length : Int)) (j := j) hq7 (by (try simp only [List.length_cons]); omega) (by omega)) ?_
              rintro _ Z8 ⟨rfl, g8, hq8⟩
              show w_T _ _ 157 487 _ [.int (iZ 1)] _ _
              have f8 := pfr_trans f7 g8
              refine w_if_eq (pc2 := 494) (pc3 := 490) rfl (by decide) rfl ⟨by decide, by decide⟩ (fun hc => absurd hc (by decide)) (fun _ => ?_)
              refine w_iconst rfl rfl ?_
              refine w_goto (pc2 := 495) rfl (by decide) ?_
              refine w_zret rfl rfl (by decide) ?_
              refine DX_s (q := ([(5, r + 1, q, (N.length : Int), j)], bmp N p 1 ++ (4, ay, (G0.length : Int)) :: G0, (Y ay, r, j, decide (w = 3)) :: E)) ?_ f8 (by exact hq8)
              rw [dst_s hsq hsr hcd hLD hfn hfG, if_neg c469, if_neg (by omega)]
              rfl
          · skip
            refine w_aload_n rfl l0 rfl ?_
            refine w_iload_n rfl l1 rfl ?_
            refine w_iload rfl l6 rfl ?_
            refine w_iconst rfl rfl ?_
            refine w_iadd rfl rfl ?_
            refine w_iload_n rfl l3 rfl ?_
            refine w_iload rfl l4 rfl ?_
            refine w_iload rfl l5 rfl ?_
            refine w_CV (as := [.int (iZ w), .int (iZ (q + 1)), .int (iZ e), .int (iZ p), .int (iZ j)]) (r := []) rfl rfl rfl rfl sh_249 (Nat.le_of_ble_eq_true rfl) (Nat.le_of_ble_eq_true rfl) (by omega) rfl (r_push (w := w) (a := q + 1) (b := e) (p := p) (j := j) hq7 (by (try simp only [List.length_cons]); omega) (by omega)) ?_
            rintro _ Z9 ⟨rfl, g9, hq9⟩
            show w_T _ _ 157 464 _ [.int (iZ 1)] _ _
            have f9 := pfr_trans f7 g9
            refine w_pop rfl rfl rfl ?_
            refine w_iload rfl l7 rfl ?_
            refine w_iload rfl l6 rfl ?_
            refine w_ic_eq (pc2 := 490) (pc3 := 472) rfl (by decide) rfl ⟨by omega, by omega⟩ ⟨by omega, by omega⟩ (fun c469 => ?_) (fun c469 => ?_)
            · skip
              refine w_iconst rfl rfl ?_
              refine w_goto (pc2 := 495) rfl (by decide) ?_
              refine w_zret rfl rfl (by decide) ?_
              refine DX_s (q := ([(w, q + 1, e, p, j)], bmp N p 1 ++ (4, ay, (G0.length : Int)) :: G0, (Y ay, r, j, decide (w = 3)) :: E)) ?_ f9 (by exact hq9)
              rw [dst_s hsq hsr hcd hLD hfn hfG, if_pos c469, if_pos c447]
              rfl
            · skip
              refine w_aload_n rfl l0 rfl ?_
              refine w_iconst rfl rfl ?_
              refine w_iload rfl l7 rfl ?_
              refine w_iconst rfl rfl ?_
              refine w_iadd rfl rfl ?_
              refine w_iload rfl l6 rfl ?_
              refine w_iload rfl l13 rfl ?_
              refine w_iload rfl l5 rfl ?_
              refine w_CV (as := [.int (iZ 5), .int (iZ (r + 1)), .int (iZ q), .int (iZ ((N.length : Int))), .int (iZ j)]) (r := []) rfl rfl rfl rfl sh_249 (Nat.le_of_ble_eq_true rfl) (Nat.le_of_ble_eq_true rfl) (by omega) rfl (r_push (w := 5) (a := r + 1) (b := q) (p := (N.length : Int)) (j := j) hq9 (by (try simp only [List.length_cons]); omega) (by omega)) ?_
              rintro _ Z10 ⟨rfl, g10, hq10⟩
              show w_T _ _ 157 487 _ [.int (iZ 1)] _ _
              have f10 := pfr_trans f9 g10
              refine w_if_eq (pc2 := 494) (pc3 := 490) rfl (by decide) rfl ⟨by decide, by decide⟩ (fun hc => absurd hc (by decide)) (fun _ => ?_)
              refine w_iconst rfl rfl ?_
              refine w_goto (pc2 := 495) rfl (by decide) ?_
              refine w_zret rfl rfl (by decide) ?_
              refine DX_s (q := ([(5, r + 1, q, (N.length : Int), j), (w, q + 1, e, p, j)], bmp N p 1 ++ (4, ay, (G0.length : Int)) :: G0, (Y ay, r, j, decide (w = 3)) :: E)) ?_ f10 (by exact hq10)
              rw [dst_s hsq hsr hcd hLD hfn hfG, if_neg c469, if_pos c447]
              rfl
      · skip
        obtain ⟨v, r3, rfl⟩ : ∃ v r3, rem = v :: r3 := by
          cases rem with
          | nil => exfalso; rw [List.length_nil] at hk; omega
          | cons v r3 => exact ⟨v, r3, rfl⟩
        rw [List.length_cons] at hk hal
        have hk9 : k = (r3.length : Int) := by omega
        have hsf := lrp_suf lq (v :: r3) (by rw [← hac]; exact hlr)
        have hvk := hLD.2.2.2.2.1 v (by rw [hac]; simp)
        have hls3 := lsum_n r3 (fun u hu => hLD.2.2.2.2.1 u (by rw [hac]; simp [hu]))
        have hlse : lsum (v :: r3) = (v.2.1 - v.1) + (v.2.2.2 - v.2.2.1) + lsum r3 := rfl
        rw [hlse] at hGl
        refine w_aload_n rfl l0 rfl ?_
        refine w_iload rfl l14 rfl ?_
        refine w_iload rfl l13 rfl ?_
        rcases e363 : ((rfm Y mt 200 v.2.2.1 v.2.2.2).bind (fun F => some (F ++ stR (v.2.1 - v.1).toNat v.1))) with _ | F
        · skip
          refine w_CV (as := [.int (iZ k), .int (iZ ((N.length : Int)))]) (r := []) rfl rfl rfl rfl sh_249 (Nat.le_of_ble_eq_true rfl) (Nat.le_of_ble_eq_true rfl) (by omega) rfl (w_mono (r_form (dd := k) (p := (N.length : Int)) (s1 := v.1) (s2 := v.2.1) (t1 := v.2.2.1) (t2 := v.2.2.2) hqU (by omega) (by omega) (by rw [hk9]; exact hsf.1) (by rw [hk9]; exact hsf.2.1) (by rw [hk9]; exact hsf.2.2.1) (by rw [hk9]; exact hsf.2.2.2.1) hvk.1 hvk.2.1 hvk.2.2.1 hvk.2.2.2.1 hvk.2.2.2.2.1 hvk.2.2.2.2.2.1 hvk.2.2.2.2.2.2 (by omega) (by rw [dN_len (y := ay)]; omega) (by rw [dN_len (y := ay)]; omega) (by omega)) (fun v S2 h => (⟨h.2.1 e363, h.1⟩ : v = some (.int (iZ 0)) ∧ gfr _ S2))) ?_
          rintro _ Z11 ⟨rfl, g11⟩
          show w_T _ _ 157 366 _ [.int (iZ 0)] _ _
          have f11 := pfr_trans hfp (gfr_p g11)
          refine w_if_ne (pc2 := 371) (pc3 := 369) rfl (by decide) rfl ⟨by decide, by decide⟩ (fun hc => absurd hc (by decide)) (fun _ => ?_)
          refine w_iconst rfl rfl ?_
          refine w_zret rfl rfl (by decide) ?_
          refine DX_n (dst_f hsq hsr hcd hLD.2.2.2.2.2.2.2 (by rw [hfm, fml_c, e363]; rfl)) f11
        · skip
          refine w_CV (as := [.int (iZ k), .int (iZ ((N.length : Int)))]) (r := []) rfl rfl rfl rfl sh_249 (Nat.le_of_ble_eq_true rfl) (Nat.le_of_ble_eq_true rfl) (by omega) rfl (w_mono (r_form (dd := k) (p := (N.length : Int)) (s1 := v.1) (s2 := v.2.1) (t1 := v.2.2.1) (t2 := v.2.2.2) hqU (by omega) (by omega) (by rw [hk9]; exact hsf.1) (by rw [hk9]; exact hsf.2.1) (by rw [hk9]; exact hsf.2.2.1) (by rw [hk9]; exact hsf.2.2.2.1) hvk.1 hvk.2.1 hvk.2.2.1 hvk.2.2.2.1 hvk.2.2.2.2.1 hvk.2.2.2.2.2.1 hvk.2.2.2.2.2.2 (by omega) (by rw [dN_len (y := ay)]; omega) (by rw [dN_len (y := ay)]; omega) (by omega)) (fun v S2 h => (⟨(h.2.2 _ e363).1, h.1, (h.2.2 _ e363).2⟩ : v = some (.int (iZ 1)) ∧ gfr _ S2 ∧ PQ S2 nn Y mt E _ T))) ?_
          rintro _ Z12 ⟨rfl, g12, hq12⟩
          show w_T _ _ 157 366 _ [.int (iZ 1)] _ _
          have f12 := pfr_trans hfp (gfr_p g12)
          rw [dN_app] at hq12
          have hlr9 := lrp_g g12 hlr
          have hFl := fr_len hM hvk e363
          refine w_if_ne (pc2 := 371) (pc3 := 369) rfl (by decide) rfl ⟨by decide, by decide⟩ (fun _ => ?_) (fun hc => absurd hc (by decide))
          refine w_iinc rfl l14 (by decide) rfl ?_
          refine w_goto (pc2 := 353) rfl (by decide) ?_
          exact ih.2.2.2 ay (k + (-1)) acc ((lq ++ [v])) r3 ((G0 ++ F)) _ _ (by exact l0) (by exact l1) (by exact l2) (by exact l3) (by exact l4) (by exact l5) (by exact l6) (by exact l7) (by exact l11) (by exact (congrArg x_k2 l13)) (by exact rfl) (by exact hcd) (by exact hLD) (by rw [hac, List.append_assoc]; rfl) (by omega) (by rw [hfm, fml_c, e363]; show ((fml Y mt r3).bind (fun G => some (F ++ G))).bind _ = _; cases fml Y mt r3 with | none => rfl | some G => (show some (G0 ++ (F ++ G)) = some (G0 ++ F ++ G); rw [List.append_assoc])) (by exact hfn) (by rw [List.length_append]; omega) (by exact hlr9) (by exact hq12) (by exact f12) (by first | omega | (rw [List.length_cons] at hm; omega))
set_option maxRecDepth 4000 in
theorem r_decl {sc : x_S} {d : Nat} {S : w_S} {nn : Int} {Y : Int → Int64} {mt : Int → Int} {E : List Ed} {N : List Nd} {T : List Tk} {w a e p j q r : Int} (hq : PQ S nn Y mt E N T) (hB : ∀ k : Int, 0 ≤ k → k < nn → bc Y (k + 1).toNat ≤ 6) (w2 : 2 ≤ w) (w4 : w ≤ 4) (a0 : 0 ≤ a) (ae : a ≤ e) (en : e ≤ nn) (hra : Rch Y mt a e) (p0 : 0 ≤ p) (p1 : p < N.length) (j1 : -1 ≤ j) (j2 : j < nn) (jo : 0 ≤ j → opn (Y j) = true) (hrN : (N.length : Int) + (e - a) ≤ 200) (hrT : (T.length : Int) ≤ 290) (hE9 : E.length ≤ 99) (hsq : see Y mt a e 44 = q) (hsr : see Y mt a q 61 = r) (hd : 12 ≤ d) : w_T sc d 157 0 (x_en 0 [.ref 249, .int (iZ w), .int (iZ a), .int (iZ e), .int (iZ p), .int (iZ j)]) [] S (DX S nn Y mt T (dst Y mt w a e p j N E)) := by
  have n0 := hq.1.1.2.1
  have n1 := hq.1.1.2.2.1
  have hg := hq.1.1.2.2.2.2.1
  have hM := hq.1.2.1
  have hlE := hq.2.1.2.1
  have hlN := hq.2.2.1.2.1
  have hlT := hq.2.2.2.2.1
  have hY0 := hq.1.1.2.2.2.2.2
  have hcm := hq.1.2.2.2
  have sq := see_rch (w := 44) hM a0 en hra
  rw [hsq] at sq
  have sq1 := sq.2.1
  have sq2 := sq.2.2
  have sr := see_rch (w := 61) hM a0 (by omega) sq.1
  rw [hsr] at sr
  have sr1 := sr.2.1
  have sr2 := sr.2.2
  refine w_aload_n rfl rfl rfl ?_
  refine w_iload_n rfl rfl rfl ?_
  refine w_iload_n rfl rfl rfl ?_
  refine w_ldc2 (v := 44) rfl rfl rfl ?_
  refine w_CV (as := [.int (iZ a), .int (iZ e), .long 44]) (r := []) rfl rfl rfl rfl sh_249 (Nat.le_of_ble_eq_true rfl) (Nat.le_of_ble_eq_true rfl) (by omega) rfl (r_seek (i := a) (e := e) (x := 44) hq (by omega) (by omega) (by omega) (by omega) (by omega)) ?_
  rintro _ _ ⟨rfl, hS⟩
  rw [hS]
  show w_T _ _ 157 9 _ [.int (iZ (see Y mt a e 44))] _ _
  rw [hsq]
  refine w_istore rfl (by decide) rfl ?_
  refine w_aload_n rfl rfl rfl ?_
  refine w_iload_n rfl rfl rfl ?_
  refine w_iload rfl rfl rfl ?_
  refine w_ldc2 (v := 61) rfl rfl rfl ?_
  refine w_CV (as := [.int (iZ a), .int (iZ q), .long 61]) (r := []) rfl rfl rfl rfl sh_249 (Nat.le_of_ble_eq_true rfl) (Nat.le_of_ble_eq_true rfl) (by omega) rfl (r_seek (i := a) (e := q) (x := 61) hq (by omega) (by omega) (by omega) (by omega) (by omega)) ?_
  rintro _ _ ⟨rfl, hS⟩
  rw [hS]
  show w_T _ _ 157 21 _ [.int (iZ (see Y mt a q 61))] _ _
  rw [hsr]
  refine w_istore rfl (by decide) rfl ?_
  refine w_iload_n rfl rfl rfl ?_
  refine w_iconst rfl rfl ?_
  apply w_br (A := w_T _ _ 157 46 _ [] _ _) (B := w_T _ _ 157 48 _ [] _ _) ((w = 2 ∧ (w = 4 ∧ q < e)) ∨ ((¬ w = 2) ∧ (r < q ∨ (w = 4 ∧ q < e))))
  · intro kT1 kT2
    refine w_ic_eq (pc2 := 35) (pc3 := 28) rfl (by decide) rfl ⟨by omega, by omega⟩ ⟨by decide, by decide⟩ (fun q2 => ?_) (fun q2 => ?_)
    · skip
      refine w_iload_n rfl rfl rfl ?_
      refine w_iconst rfl rfl ?_
      refine w_ic_ne (pc2 := 48) (pc3 := 40) rfl (by decide) rfl ⟨by omega, by omega⟩ ⟨by decide, by decide⟩ (fun q3 => ?_) (fun q3 => ?_)
      · skip
        exact kT2 (not_or.mpr ⟨fun q => (fun q => q3 q.1) q.2, fun q => (not_not_intro q2) q.1⟩)
      · skip
        refine w_iload rfl rfl rfl ?_
        refine w_iload_n rfl rfl rfl ?_
        refine w_ic_ge (pc2 := 48) (pc3 := 46) rfl (by decide) rfl ⟨by omega, by omega⟩ ⟨by omega, by omega⟩ (fun q4 => ?_) (fun q4 => ?_)
        · skip
          exact kT2 (not_or.mpr ⟨fun q => (fun q => (Int.not_lt.mpr q4) q.2) q.2, fun q => (not_not_intro q2) q.1⟩)
        · skip
          exact kT1 (Or.inl ⟨q2, ⟨q3, q4⟩⟩)
    · skip
      refine w_iload rfl rfl rfl ?_
      refine w_iload rfl rfl rfl ?_
      refine w_ic_lt (pc2 := 46) (pc3 := 35) rfl (by decide) rfl ⟨by omega, by omega⟩ ⟨by omega, by omega⟩ (fun q5 => ?_) (fun q5 => ?_)
      · skip
        exact kT1 (Or.inr ⟨q2, (Or.inl q5)⟩)
      · skip
        refine w_iload_n rfl rfl rfl ?_
        refine w_iconst rfl rfl ?_
        refine w_ic_ne (pc2 := 48) (pc3 := 40) rfl (by decide) rfl ⟨by omega, by omega⟩ ⟨by decide, by decide⟩ (fun q6 => ?_) (fun q6 => ?_)
        · skip
          exact kT2 (not_or.mpr ⟨fun q => q2 q.1, fun q => (not_or.mpr ⟨(Int.not_lt.mpr q5), (fun q => q6 q.1)⟩) q.2⟩)
        · skip
          refine w_iload rfl rfl rfl ?_
          refine w_iload_n rfl rfl rfl ?_
          refine w_ic_ge (pc2 := 48) (pc3 := 46) rfl (by decide) rfl ⟨by omega, by omega⟩ ⟨by omega, by omega⟩ (fun q7 => ?_) (fun q7 => ?_)
          · skip
            exact kT2 (not_or.mpr ⟨fun q => q2 q.1, fun q => (not_or.mpr ⟨(Int.not_lt.mpr q5), (fun q => (Int.not_lt.mpr q7) q.2)⟩) q.2⟩)
          · skip
            exact kT1 (Or.inr ⟨q2, (Or.inr ⟨q6, q7⟩)⟩)
  · intro c25
    refine w_iconst rfl rfl ?_
    refine w_zret rfl rfl (by decide) ?_
    refine DX_n (dst_c hsq hsr (by omega)) (pfr_refl S)
  · intro c25
    refine w_iload_n rfl rfl rfl ?_
    refine w_istore rfl (by decide) rfl ?_
    refine w_iload rfl rfl rfl ?_
    refine w_istore rfl (by decide) rfl ?_
    refine w_iconst rfl rfl ?_
    refine w_istore rfl (by decide) rfl ?_
    refine w_iconst rfl rfl ?_
    refine w_istore rfl (by decide) rfl ?_
    exact (r_decl_c hq hB w2 w4 a0 ae en hra p0 p1 j1 j2 jo hrN hrT hE9 hsq hsr hd _).1 a r 0 ((-1)) ([]) 200 _ _ rfl rfl rfl rfl rfl rfl rfl rfl rfl rfl rfl rfl (by omega) (by exact Or.inl ⟨rfl, a0, by omega, by omega, sr.1, rfl, bc_n Y _, by show 0 + (r - a) ≤ r - a; omega, fun v hv => absurd hv (by simp), by omega, by cases lvl Y mt 200 a r with | none => rfl | some q => (show some q = some (q.1, q.2 ++ []); rw [List.append_nil])⟩) (by exact trivial) (by exact (fr_refl _ S)) (Nat.lt_succ_self _)
