/-! A row of the reference: a line, or the end of a file. -/
def topG : List Frm → List ETok
  | [] => []
  | f :: _ => grp f.1 f.2.2.1 f.2.1
def topD : List Frm → Int
  | [] => 0
  | f :: _ => f.2.2.2.2
def lows (fs : List Frm) : Prop := ∀ f, f ∈ fs → f.2.2.1 = f.2.1 ∧ skp f.2.2.2.1 = false
def D5q (S : w_S) (F : Int → (Int → Int) × Int) (c : Int) (T : List Mac) (r : Int) (ol : List OTok) (ic : Int) (fs : List Frm) (v : Option Value) (S2 : w_S) : Prop := v = some (.int (iZ c)) ∧ rfr S S2 ∧ (∃ sg, rtab S2 sg T) ∧ sv S2 249 23 = r ∧ (c = 0 → RQ S2 F T r ol ic (topG fs) (topD fs) fs)
theorem grp_nil {t : List Tok} {a : Int} : grp t a a = [] := by
  unfold grp
  rw [Int.sub_self]
  rfl
theorem grN_snoc (t : List Tok) : ∀ (n : Nat) (i : Int), grN t (n + 1) i = grN t n i ++ [tke (tkg t (i + n))]
  | 0, i => by
    show [tke (tkg t i)] = [tke (tkg t (i + ((0 : Nat) : Int)))]
    rw [show i + ((0 : Nat) : Int) = i by omega]
  | n + 1, i => by
    show tke (tkg t i) :: grN t (n + 1) (i + 1) = tke (tkg t i) :: (grN t n (i + 1) ++ _)
    rw [grN_snoc t n (i + 1), show i + 1 + (n : Int) = i + ((n + 1 : Nat) : Int) by omega]
theorem grp_snoc {t : List Tok} {a b : Int} (h : a ≤ b) : grp t a (b + 1) = grp t a b ++ [tke (tkg t b)] := by
  unfold grp
  rw [show (b + 1 - a).toNat = (b - a).toNat + 1 by omega, grN_snoc, show a + ((b - a).toNat : Int) = b by omega]
theorem tkl_gr {T : List Mac} {r : Int} {ol : List OTok} {t : List Tok} {nx gr : Int} {cs : List Cnd} {dp lv ic : Int} (h35 : tx t nx = 35) (hs : skp cs = true → gr = nx) : (tkl T r ol t nx gr cs dp lv ic).2.1.2.2.1 = (tkl T r ol t nx gr cs dp lv ic).2.1.2.1 := by
  by_cases c : skp cs = true ∧ (lvs (tx t) nx (lnE t nx) dp).1 = false
  · unfold tkl
    rw [if_pos c]
  · by_cases c2 : (xg T r ol (grp t gr nx)).1 = 0
    · unfold tkl
      rw [if_neg c, if_neg (not_not_intro h35), if_neg (not_not_intro c2)]
    · unfold tkl
      rw [if_neg c, if_neg (not_not_intro h35), if_pos c2]
theorem tkl_np {T : List Mac} {r : Int} {ol : List OTok} {t : List Tok} {nx gr : Int} {cs : List Cnd} {dp lv ic : Int} (h35 : ¬ tx t nx = 35) : tkl T r ol t nx gr cs dp lv ic = (0, (t, lnE t nx, (if skp cs = true then lnE t nx else gr), cs, dp), T, r, ol, -1) := by
  have e : lvs (tx t) nx (lnE t nx) dp = (false, dp) := by
    unfold lvs
    rw [if_pos (Or.inl h35)]
  unfold tkl
  rw [e]
  by_cases c : skp cs = true
  · rw [if_pos ⟨c, rfl⟩, if_pos c]
  · rw [if_neg (fun z => c z.1), if_pos h35, if_neg c]
theorem d5_of {S S2 : w_S} {F : Int → (Int → Int) × Int} {ic : Int} {rest : List Frm} {v : Option Value} {K : Tlr} (hg : K.2.1.2.2.1 = K.2.1.2.1) (hfo : fok K.2.1) (h9 : 0 ≤ K.2.2.2.2.2 → skp K.2.1.2.2.2.1 = false) (h : D4q S F ic rest [] K v S2) : D5q S F (kR F K) K.2.2.1 K.2.2.2.1 K.2.2.2.2.1 (if K.2.2.2.2.2 < 0 then ic else ic + 1) (kF F K rest) v S2 := by
  unfold D4q at h
  refine ⟨h.1, h.2.1, h.2.2.1, h.2.2.2.1, fun z => ?_⟩
  have h5 := h.2.2.2.2 z
  by_cases c : K.2.2.2.2.2 < 0
  · have e1 : kF F K rest = K.2.1 :: rest := by unfold kF; rw [if_pos c]
    have e2 : topG (kF F K rest) = [] := by
      rw [e1]
      show grp K.2.1.1 K.2.1.2.2.1 K.2.1.2.1 = []
      rw [hg, grp_nil]
    have e3 : topD (kF F K rest) = K.2.1.2.2.2.2 := by rw [e1]; rfl
    rw [e2, e3]
    exact h5
  · have e1 : kF F K rest = newf (psc F K.2.2.2.2.2).2 :: K.2.1 :: rest := by unfold kF; rw [if_neg c]
    have h0 : K.2.1.2.2.2.2 = 0 := hfo.2.2.2.2.2.2.2.2.1 (h9 (by omega))
    have e2 : topG (kF F K rest) = [] := by
      rw [e1]
      show grp _ 0 0 = []
      exact grp_nil
    have e3 : topD (kF F K rest) = K.2.1.2.2.2.2 := by rw [e1, h0]; rfl
    rw [e2, e3]
    exact h5
theorem d5_row {S S2 : w_S} {F : Int → (Int → Int) × Int} {T : List Mac} {r ic dp nx gr : Int} {ol : List OTok} {t : List Tok} {cs : List Cnd} {rest : List Frm} {v : Option Value} (hT : TOK T) (hf : fok (t, nx, gr, cs, dp)) (hr : r ≤ 30) (ho : ol.length ≤ 100) (hx : nx < t.length) (h35 : tx t nx = 35) (h : D4q S F ic rest [] (tkl T r ol t nx gr cs dp rest.length ic) v S2) : D5q S F (kR F (tkl T r ol t nx gr cs dp rest.length ic)) (tkl T r ol t nx gr cs dp rest.length ic).2.2.1 (tkl T r ol t nx gr cs dp rest.length ic).2.2.2.1 (tkl T r ol t nx gr cs dp rest.length ic).2.2.2.2.1 (if (tkl T r ol t nx gr cs dp rest.length ic).2.2.2.2.2 < 0 then ic else ic + 1) (kF F (tkl T r ol t nx gr cs dp rest.length ic) rest) v S2 := by
  have hk := tkl_ok (lv := rest.length) (ic := ic) hT hf hr ho hx
  exact d5_of (tkl_gr h35 hf.2.2.2.2.2.2.2.1) hk.2.1 (fun z => (hk.2.2.2.2.2.2.2.2.2.resolve_left (by omega)).2.2.2.2.1) h
theorem d5_pre {S S1 S2 : w_S} {F : Int → (Int → Int) × Int} {c : Int} {T : List Mac} {r : Int} {ol : List OTok} {ic : Int} {fs : List Frm} {v : Option Value} (h1 : rfr S S1) (h : D5q S1 F c T r ol ic fs v S2) : D5q S F c T r ol ic fs v S2 := ⟨h.1, rfr_trans h1 h.2.1, h.2.2.1, h.2.2.2.1, h.2.2.2.2⟩
theorem fw_add {nm : Nat → Int64} {X : Int → Int64} {O : Int → Int} {t : List Tok} {gr k : Int} (hg : tgd t) (g0 : 0 ≤ gr) (gk : gr ≤ k) (kt : k < t.length) (h : fw nm X O 0 (grp t gr k)) : fw nm (w_u X (k - gr) (tx t k)) (w_u O (k - gr) (256 * (tkg t k).2.1)) 0 (grp t gr (k + 1)) := by
  rw [grp_snoc gk]
  have hl := grp_len (t := t) gk
  refine (fw_app _ _ 0).2 ⟨fw_fr _ 0 (fun j a b => ⟨w_u_ne _ _ (by omega), w_u_ne _ _ (by omega)⟩) h, ?_, ?_, trivial⟩
  · rw [Int.zero_add, hl, w_u_self]
    rfl
  · rw [Int.zero_add, hl, w_u_self, eo_tke]
    omega
theorem shr1 {z : Int} {b : Bool} (h0 : 0 ≤ z) (h1 : z ≤ 4000) : zshr (2 * z + zB b) 1 = z := by
  have hb : 0 ≤ zB b ∧ zB b ≤ 1 := by cases b <;> decide
  rw [zshr_div ⟨by omega, by omega⟩ (by decide) (by decide)]
  show (2 * z + zB b) / 2 = z
  omega
theorem RQ_257 {S : w_S} {F : Int → (Int → Int) × Int} {T : List Mac} {r ic dp nx gr e : Int} {ol : List OTok} {t : List Tok} {cs : List Cnd} {rest : List Frm} {G : List ETok} (h6r : foks rest) (h : RQ S F T r ol ic G dp ((t, nx, gr, cs, dp) :: rest)) {V : w_S} (g : fr (fun a => a = 257) S V) (hA : sA V 257 = w_u (sA S 257) rest.length (161 * (rest.length : Int) + e)) : RQ V F T r ol ic G dp ((t, e, gr, cs, dp) :: rest) := by
  obtain ⟨q1, q2, q3, q4, q5, q6, q7, q8, q9, ⟨sg, q10⟩, q11⟩ := h
  have hv : ∀ k, sv V 249 k = sv S 249 k := fun k => fr_gv g (by decide) k
  refine ⟨⟨⟨fun j j0 j1 => by rw [fr_gL g (by decide), fr_gA g (by decide), fr_gA g (by decide)]; exact q1.1.1 j j0 j1, by rw [hA, w_u_self], by rw [fr_gA g (by decide)]; exact q1.1.2.2.1, by rw [fr_gA g (by decide)]; exact q1.1.2.2.2.1, by rw [fr_gA g (by decide), fr_gA g (by decide)]; exact q1.1.2.2.2.2⟩, rfs_g rest (foks_6 h6r) q1.2 (fun lv a b => by rw [hA, w_u_ne _ _ (by omega), fr_gA g (by decide), fr_gA g (by decide)]; exact ⟨rfl, rfl, rfl⟩) (fun x _ => by rw [fr_gL g (by decide), fr_gA g (by decide), fr_gA g (by decide)]; exact ⟨rfl, rfl, rfl⟩) (fun j _ => by rw [fr_gA g (by decide), fr_gA g (by decide)]; exact ⟨rfl, rfl⟩)⟩, by rw [hv]; exact q2, by rw [hv]; exact q3, by rw [hv]; exact q4, by rw [hv]; exact q5, ⟨by rw [nmR_fr g (by decide), fr_gL g (by decide), fr_gA g (by decide)]; exact q6.1, by rw [hv]; exact q6.2⟩, by rw [hv]; exact q7, by rw [hv]; exact q8, by rw [fr_gL g (by decide), fr_gA g (by decide)]; exact q9, ⟨sg, rtab_fr q10 g (fun a a0 a1 => by omega)⟩, RT_fr q11 g (by decide)⟩
theorem d5_ln {S V : w_S} {F : Int → (Int → Int) × Int} {T : List Mac} {r ic dp nx gr k : Int} {ol : List OTok} {t : List Tok} {cs : List Cnd} {rest : List Frm} (hg : tgd t) (hrs : foks rest) (h : RQ S F T r ol ic (grp t gr nx) dp ((t, nx, gr, cs, dp) :: rest)) (g1 : gr ≤ nx) (hkn : nx ≤ k) (h35 : ¬ tx t nx = 35) (hs : skp cs = true → gr = nx) (hk : (skp cs = true ∧ k = nx) ∨ (skp cs = false ∧ k = lnE t nx)) (g : fr (fun a => a = 249 ∨ a = 257 ∨ a = 267 ∨ a = 268) S V) (hA : sA V 257 = w_u (sA S 257) rest.length (161 * (rest.length : Int) + lnE t nx)) (hv : ∀ k, ¬ k = 26 → sv V 249 k = sv S 249 k) (hw : fw (nmR S) (sL V 267) (sA V 268) 0 (grp t gr k)) (h26 : sv V 249 26 = k - gr) : D5q S F (kR F (tkl T r ol t nx gr cs dp rest.length ic)) (tkl T r ol t nx gr cs dp rest.length ic).2.2.1 (tkl T r ol t nx gr cs dp rest.length ic).2.2.2.1 (tkl T r ol t nx gr cs dp rest.length ic).2.2.2.2.1 (if (tkl T r ol t nx gr cs dp rest.length ic).2.2.2.2.2 < 0 then ic else ic + 1) (kF F (tkl T r ol t nx gr cs dp rest.length ic) rest) (some (.int (iZ 0))) V := by
  rw [tkl_np h35]
  obtain ⟨q1, q2, q3, q4, q5, q6, q7, q8, q9, ⟨sg, q10⟩, q11⟩ := h
  have ht : ∃ sg, rtab V sg T := ⟨sg, rtab_fr q10 g (fun a a0 a1 => by omega)⟩
  refine ⟨by rw [kR_e], ⟨fr_mono g (fun a h => by unfold RFN; omega), fun k hk => hv k (fun z => hk (by unfold RSL; omega))⟩, ht, by rw [hv 23 (by decide)]; exact q7, fun _ => ?_⟩
  unfold kF
  rw [if_pos (show ((-1 : Int)) < 0 by decide), if_pos (show ((-1 : Int)) < 0 by decide)]
  have hG : grp t (if skp cs = true then lnE t nx else gr) (lnE t nx) = grp t gr k := by
    rcases hk with ⟨z1, z2⟩ | ⟨z1, z2⟩
    · rw [if_pos z1, z2, hs z1, grp_nil, grp_nil]
    · rw [if_neg (by rw [z1]; decide), z2]
  refine ⟨⟨⟨fun j j0 j1 => by rw [fr_gL g (by decide), fr_gA g (by decide), fr_gA g (by decide)]; exact q1.1.1 j j0 j1, by rw [hA, w_u_self], by rw [fr_gA g (by decide)]; exact q1.1.2.2.1, by rw [fr_gA g (by decide)]; exact q1.1.2.2.2.1, by rw [fr_gA g (by decide), fr_gA g (by decide)]; exact q1.1.2.2.2.2⟩, rfs_g rest (foks_6 hrs) q1.2 (fun lv a b => by rw [hA, w_u_ne _ _ (by omega), fr_gA g (by decide), fr_gA g (by decide)]; exact ⟨rfl, rfl, rfl⟩) (fun x _ => by rw [fr_gL g (by decide), fr_gA g (by decide), fr_gA g (by decide)]; exact ⟨rfl, rfl, rfl⟩) (fun j _ => by rw [fr_gA g (by decide), fr_gA g (by decide)]; exact ⟨rfl, rfl⟩)⟩, by rw [hv 12 (by decide)]; exact q2, by rw [hv 13 (by decide)]; exact q3, by rw [hv 16 (by decide)]; exact q4, by rw [hv 17 (by decide)]; exact q5, ⟨?_, ?_⟩, by rw [hv 23 (by decide)]; exact q7, by rw [hv 49 (by decide)]; exact q8, by rw [fr_gL g (by decide), fr_gA g (by decide)]; exact q9, ht, RT_fr q11 g (by decide)⟩
  · rw [nmR_fr g (by decide)]
    show fw _ _ _ 0 (grp t (if skp cs = true then lnE t nx else gr) (lnE t nx))
    rw [hG]
    exact hw
  · rw [h26]
    show k - gr = ((grp t (if skp cs = true then lnE t nx else gr) (lnE t nx)).length : Int)
    rw [hG, grp_len (by omega)]
theorem d5_end {S V W : w_S} {F : Int → (Int → Int) × Int} {T : List Mac} {r ic dp nx gr c : Int} {ol : List OTok} {t : List Tok} {cs : List Cnd} {rest : List Frm} {v : Option Value} (hf : fok (t, nx, gr, cs, dp)) (hrs : foks rest) (hlo : lows rest) (hnx : nx = t.length) (h : RQ S F T r ol ic (grp t gr nx) dp ((t, nx, gr, cs, dp) :: rest)) (hx : XPp S T r (grp t gr nx) ol v V) (hW : W = w_v V 249 12 ((rest.length : Int) - 1)) (hc : c = pec (t, nx, gr, cs, dp) T r ol) : D5q S F (pec (t, nx, gr, cs, dp) T r ol) T (xge (t, nx, gr, cs, dp) T r ol).2.1 (xge (t, nx, gr, cs, dp) T r ol).2.2 ic rest (some (.int (iZ c))) W := by
  rw [← hc]
  have ex : xge (t, nx, gr, cs, dp) T r ol = xg T r ol (grp t gr nx) := by rw [hnx]; rfl
  have h2 := XP_fr h hx
  have gW : fr (fun a => a = 249) V W := by rw [hW]; exact fr_v (fr_refl _ _) rfl
  have hv : ∀ k, ¬ k = 12 → sv W 249 k = sv V 249 k := fun k hk => by rw [hW, rv_ne (by omega)]
  have hv12 : sv W 249 12 = (rest.length : Int) - 1 := by rw [hW]; exact rv_self _ _ _ _
  obtain ⟨r1, ⟨sg, r2⟩, r3⟩ := h2
  have ht : ∃ sg, rtab W sg T := ⟨sg, rtab_fr r2 gW (fun a a0 a1 => by omega)⟩
  refine ⟨rfl, rfr_trans r1 ⟨fr_mono gW (fun a h => Or.inl h), fun k hk => hv k (fun z => hk (by unfold RSL; omega))⟩, ht, by rw [hv 23 (by decide), ex]; exact r3, fun z => ?_⟩
  have hp : (xg T r ol (grp t gr nx)).1 = 0 ∧ cs = [] := by
    rw [z] at hc
    unfold pec at hc
    rw [ex] at hc
    split at hc
    · rename_i k
      exact absurd hc.symm k
    · rename_i k
      split at hc
      · exact absurd hc (by decide)
      · rename_i k2
        refine ⟨by simpa using k, ?_⟩
        have k3 : ¬ 0 < cs.length := k2
        exact List.length_eq_zero_iff.1 (by omega)
  have hq := RQ_xp hf.1.2.1 hrs h hx hp.1
  have hdp : dp = 0 := hf.2.2.2.2.2.2.2.2.1 (by show skp cs = false; rw [hp.2]; rfl)
  obtain ⟨q1, q2, q3, q4, q5, q6, q7, q8, q9, q10, q11⟩ := hq
  have eT : topG rest = [] ∧ topD rest = 0 := by
    cases rest with
    | nil => exact ⟨rfl, rfl⟩
    | cons f r =>
      have k1 := hlo f (by simp)
      have k2 := hrs f (by simp)
      refine ⟨?_, k2.2.2.2.2.2.2.2.2.1 k1.2⟩
      show grp f.1 f.2.2.1 f.2.1 = []
      rw [k1.1, grp_nil]
  have e16 : osum ((t, nx, gr, cs, dp) :: rest) = osum rest := by
    show osum rest + (cs.length : Int) = osum rest
    rw [hp.2, List.length_nil]
    omega
  rw [eT.1, eT.2, ex]
  exact ⟨rfs_fr (foks_6 hrs) q1.2 gW (fun a a0 a1 => by omega), hv12, by rw [hv 13 (by decide)]; exact q3, by rw [hv 16 (by decide), q4, e16], by rw [hv 17 (by decide), q5]; exact hdp, ⟨trivial, by rw [hv 26 (by decide)]; exact q6.2⟩, by rw [hv 23 (by decide)]; exact q7, by rw [hv 49 (by decide)]; exact q8, by rw [fr_gL gW (by decide), fr_gA gW (by decide)]; exact q9, ht, RT_fr q11 gW (by decide)⟩
theorem r_rowE {sc : x_S} {d : Nat} {S : w_S} {F : Int → (Int → Int) × Int} {T : List Mac} {r ic dp nx gr b : Int} {ol : List OTok} {t : List Tok} {cs : List Cnd} {rest : List Frm} (hF : Fok F) (hT : TOK T) (hf : fok (t, nx, gr, cs, dp)) (hrs : foks rest) (hlo : lows rest) (h4 : rest.length < 4) (i0 : 0 ≤ ic) (i10 : ic ≤ 10) (r0 : 0 ≤ r) (r1 : r ≤ 30) (o1 : ol.length ≤ 100) (hq : RQ S F T r ol ic (grp t gr nx) dp ((t, nx, gr, cs, dp) :: rest)) (hb : b = 161 * (rest.length : Int)) (hnx : nx = t.length) (hd : 60 ≤ d) : w_T sc d 129 0 (x_en 0 [.ref 249]) [] S (D5q S F (pec (t, nx, gr, cs, dp) T r ol) T (xge (t, nx, gr, cs, dp) T r ol).2.1 (xge (t, nx, gr, cs, dp) T r ol).2.2 ic rest) := by
  have h160 : t.length ≤ 160 := hf.1.2.1
  have hb3 : 0 ≤ b ∧ b ≤ 483 := by omega
  have hn1 : nx ≤ t.length := hf.2.2.2.1
  have hg0 : 0 ≤ gr := hf.2.1
  have hg1 : gr ≤ nx := hf.2.2.1
  obtain ⟨sg, hsgt⟩ := hq.2.2.2.2.2.2.2.2.2.1
  have h12 : sv S 249 12 = rest.length := by
    have := hq.2.1
    rw [List.length_cons] at this
    omega
  have h57 : sA S 257 rest.length = b + nx := by rw [hb]; exact hq.1.1.2.1
  have h58 : sA S 258 rest.length = b + t.length := by rw [hb]; exact hq.1.1.2.2.1
  have h59 : sA S 259 rest.length = osum rest := hq.1.1.2.2.2.1
  have hw : ∀ j : Int, 0 ≤ j → j < t.length → sL S 254 (b + j) = tx t j := fun j j0 j1 => by rw [hb]; exact (hq.1.1.1 j j0 j1).1
  have hwp : ∀ j : Int, 0 ≤ j → j < t.length → sA S 255 (b + j) = (tkg t j).2.1 := fun j j0 j1 => by rw [hb]; exact (hq.1.1.1 j j0 j1).2.1
  have hwl : ∀ j : Int, 0 ≤ j → j < t.length → sA S 256 (b + j) = 2 * tln t j + zB (tgl t j) := fun j j0 j1 => by rw [hb]; exact (hq.1.1.1 j j0 j1).2.2
  have ho0 := osum_n rest
  have ho1 := osum_17 rest hrs
  have h18 : cs.length < 18 := fok_18 hf
  have hle := fun h => lnE_r (t := t) (i := nx) (by omega) h
  refine w_aload_n rfl rfl rfl ?_
  refine w_getR rfl rfl sh_249 rfl rfl ?_
  refine w_aload_n rfl rfl rfl ?_
  refine w_getI (z := rest.length) rfl rfl sh_249 rfl h12 rfl ?_
  refine w_iald (z := b + nx) rfl sh_257 (by omega) (by omega) (by decide) h57 rfl ?_
  refine w_istore_n rfl (by decide) rfl ?_
  refine w_iload_n rfl rfl rfl ?_
  refine w_aload_n rfl rfl rfl ?_
  refine w_getR rfl rfl sh_249 rfl rfl ?_
  refine w_aload_n rfl rfl rfl ?_
  refine w_getI (z := rest.length) rfl rfl sh_249 rfl h12 rfl ?_
  refine w_iald (z := b + t.length) rfl sh_258 (by omega) (by omega) (by decide) h58 rfl ?_
  refine w_ic_ne (pc2 := 62) (pc3 := 23) rfl (by decide) rfl ⟨by omega, by omega⟩ ⟨by omega, by omega⟩ (fun c20 => ?_) (fun c20 => ?_)
  · omega
  · skip
    refine w_aload_n rfl rfl rfl ?_
    refine w_CV (as := []) (r := []) rfl rfl rfl rfl sh_249 (Nat.le_of_ble_eq_true rfl) (Nat.le_of_ble_eq_true rfl) (by omega) rfl (w_mono (r_xp (S := S) (sg := sg) (T := T) (r := r) (G := grp t gr nx) (ol := ol) hT.1 hsgt (fun k k0 k1 => (hT.2.2 k k0 k1).2) hq.2.2.2.2.2.1.1 hq.2.2.2.2.2.1.2 (by have := grp_len (t := t) hg1; omega) (grN_ok (t := t) hf.1.1 _ _ hg0 (by omega)) (grN_gw (t := t) hf.1.2.2.2 _ _ hg0 (by omega)) hq.2.2.2.2.2.2.1 r0 r1 hq.2.2.2.2.2.2.2.1 o1 hq.2.2.2.2.2.2.2.2.1 (by omega)) (fun v S2 h => (⟨h.1, h⟩ : v = some (.int (iZ (xg T r ol (grp t gr nx)).1)) ∧ XPp S T r (grp t gr nx) ol v S2))) ?_
    rintro _ V ⟨rfl, hrd⟩
    show w_T _ _ 129 27 _ [.int (iZ ((xg T r ol (grp t gr nx)).1))] _ _
    refine w_istore_n rfl (by decide) rfl ?_
    have hxr := xg_R hT r (grp t gr nx) ol r1
    have h12V : sv V 249 12 = rest.length := by rw [hrd.2.2.1 12 (by omega)]; exact h12
    have h16V : sv V 249 16 = osum rest + cs.length := by rw [hrd.2.2.1 16 (by omega)]; exact hq.2.2.2.1
    have h59V : sA V 259 rest.length = osum rest := by rw [fr_gA hrd.2.1 (by omega)]; exact h59
    refine w_iload_n rfl rfl rfl ?_
    refine w_if_ne (pc2 := 50) (pc3 := 32) rfl (by decide) rfl ⟨by omega, by omega⟩ (fun c29 => ?_) (fun c29 => ?_)
    · skip
      refine w_aload_n rfl rfl rfl ?_
      refine w_dup rfl rfl rfl ?_
      refine w_getI (z := rest.length) rfl rfl sh_249 rfl h12V rfl ?_
      refine w_iconst rfl rfl ?_
      refine w_isub rfl rfl ?_
      refine w_putf rfl rfl sh_249 rfl rfl (by decide) rfl ?_
      refine w_iload_n rfl rfl rfl ?_
      refine w_iret rfl rfl ?_
      refine d5_end hf hrs hlo hnx hq hrd rfl ?_
      have ex : xge (t, nx, gr, cs, dp) T r ol = (xg T r ol (grp t gr nx)) := by rw [hnx]; rfl
      unfold pec
      rw [ex]
      first
        | rw [if_pos c29]
        | (rw [if_neg (not_not_intro c29), if_pos (by show 0 < cs.length; omega)])
        | (rw [if_neg (not_not_intro c29), if_neg (by show ¬ 0 < cs.length; omega)]; exact c29)
    · skip
      refine w_aload_n rfl rfl rfl ?_
      refine w_getI (z := osum rest + cs.length) rfl rfl sh_249 rfl h16V rfl ?_
      refine w_aload_n rfl rfl rfl ?_
      refine w_getR rfl rfl sh_249 rfl rfl ?_
      refine w_aload_n rfl rfl rfl ?_
      refine w_getI (z := rest.length) rfl rfl sh_249 rfl h12V rfl ?_
      refine w_iald (z := osum rest) rfl sh_259 (by omega) (by omega) (by decide) h59V rfl ?_
      refine w_ic_le (pc2 := 50) (pc3 := 48) rfl (by decide) rfl ⟨by omega, by omega⟩ ⟨by omega, by omega⟩ (fun c45 => ?_) (fun c45 => ?_)
      · skip
        refine w_aload_n rfl rfl rfl ?_
        refine w_dup rfl rfl rfl ?_
        refine w_getI (z := rest.length) rfl rfl sh_249 rfl h12V rfl ?_
        refine w_iconst rfl rfl ?_
        refine w_isub rfl rfl ?_
        refine w_putf rfl rfl sh_249 rfl rfl (by decide) rfl ?_
        refine w_iload_n rfl rfl rfl ?_
        refine w_iret rfl rfl ?_
        refine d5_end hf hrs hlo hnx hq hrd rfl ?_
        have ex : xge (t, nx, gr, cs, dp) T r ol = (xg T r ol (grp t gr nx)) := by rw [hnx]; rfl
        unfold pec
        rw [ex]
        first
          | rw [if_pos c29]
          | (rw [if_neg (not_not_intro c29), if_pos (by show 0 < cs.length; omega)])
          | (rw [if_neg (not_not_intro c29), if_neg (by show ¬ 0 < cs.length; omega)]; exact c29)
      · skip
        refine w_iconst rfl rfl ?_
        refine w_istore_n rfl (by decide) rfl ?_
        refine w_aload_n rfl rfl rfl ?_
        refine w_dup rfl rfl rfl ?_
        refine w_getI (z := rest.length) rfl rfl sh_249 rfl h12V rfl ?_
        refine w_iconst rfl rfl ?_
        refine w_isub rfl rfl ?_
        refine w_putf rfl rfl sh_249 rfl rfl (by decide) rfl ?_
        refine w_iload_n rfl rfl rfl ?_
        refine w_iret rfl rfl ?_
        refine d5_end hf hrs hlo hnx hq hrd rfl ?_
        have ex : xge (t, nx, gr, cs, dp) T r ol = (xg T r ol (grp t gr nx)) := by rw [hnx]; rfl
        unfold pec
        rw [ex]
        first
          | rw [if_pos c29]
          | (rw [if_neg (not_not_intro c29), if_pos (by show 0 < cs.length; omega)])
          | (rw [if_neg (not_not_intro c29), if_neg (by show ¬ 0 < cs.length; omega)]; exact c29)
theorem r_rowL_c {sc : x_S} {d : Nat} {S : w_S} {F : Int → (Int → Int) × Int} {T : List Mac} {r ic dp nx gr b : Int} {ol : List OTok} {t : List Tok} {cs : List Cnd} {rest : List Frm} (hF : Fok F) (hT : TOK T) (hf : fok (t, nx, gr, cs, dp)) (hrs : foks rest) (hlo : lows rest) (h4 : rest.length < 4) (i0 : 0 ≤ ic) (i10 : ic ≤ 10) (r0 : 0 ≤ r) (r1 : r ≤ 30) (o1 : ol.length ≤ 100) (hq : RQ S F T r ol ic (grp t gr nx) dp ((t, nx, gr, cs, dp) :: rest)) (hb : b = 161 * (rest.length : Int)) (hnx : nx < t.length) (hd : 60 ≤ d) : ∀ n : Nat, (∀ (j : Int) (lv : x_L) (l0 : lv 0 = some (.ref 249)) (l1 : lv 1 = some (.int (iZ (b + nx)))) (l2 : lv 2 = some (.int (iZ (b + j)))) (j0 : nx ≤ j) (j1 : j ≤ t.length) (ie : lnE t nx = fi (fun k => decide (¬ tln t k = tln t nx)) t.length j) (hm : 10000 + (t.length - j).toNat < n), w_T sc d 129 64 lv [] S (D5q S F (kR F (tkl T r ol t nx gr cs dp rest.length ic)) (tkl T r ol t nx gr cs dp rest.length ic).2.2.1 (tkl T r ol t nx gr cs dp rest.length ic).2.2.2.1 (tkl T r ol t nx gr cs dp rest.length ic).2.2.2.2.1 (if (tkl T r ol t nx gr cs dp rest.length ic).2.2.2.2.2 < 0 then ic else ic + 1) (kF F (tkl T r ol t nx gr cs dp rest.length ic) rest))) ∧ (∀ (k : Int) (U : w_S) (lv : x_L) (l0 : lv 0 = some (.ref 249)) (l2 : lv 2 = some (.int (iZ (b + lnE t nx)))) (l3 : lv 3 = some (.int (iZ (b + k)))) (h35 : ¬ tx t nx = 35) (k0 : nx ≤ k) (k1 : k ≤ lnE t nx) (ks : skp cs = true → k = nx) (hfr : fr (fun a => a = 249 ∨ a = 257 ∨ a = 267 ∨ a = 268) S U) (hvU : ∀ k, ¬ k = 26 → sv U 249 k = sv S 249 k) (hA : sA U 257 = w_u (sA S 257) rest.length (161 * (rest.length : Int) + lnE t nx)) (hG : fw (nmR S) (sL U 267) (sA U 268) 0 (grp t gr k)) (h26 : sv U 249 26 = k - gr) (hm : (lnE t nx - k).toNat < n), w_T sc d 129 136 lv [] U (D5q S F (kR F (tkl T r ol t nx gr cs dp rest.length ic)) (tkl T r ol t nx gr cs dp rest.length ic).2.2.1 (tkl T r ol t nx gr cs dp rest.length ic).2.2.2.1 (tkl T r ol t nx gr cs dp rest.length ic).2.2.2.2.1 (if (tkl T r ol t nx gr cs dp rest.length ic).2.2.2.2.2 < 0 then ic else ic + 1) (kF F (tkl T r ol t nx gr cs dp rest.length ic) rest))) := by
  intro n
  induction n with
  | zero => exact ⟨fun j lv l0 l1 l2 j0 j1 ie hm => absurd hm (Nat.not_lt_zero _), fun k U lv l0 l2 l3 h35 k0 k1 ks hfr hvU hA hG h26 hm => absurd hm (Nat.not_lt_zero _)⟩
  | succ n ih =>
    refine ⟨?_, ?_⟩
    · skip
      intro j lv l0 l1 l2 j0 j1 ie hm
      have h160 : t.length ≤ 160 := hf.1.2.1
      have hb3 : 0 ≤ b ∧ b ≤ 483 := by omega
      have hn1 : nx ≤ t.length := hf.2.2.2.1
      have hg0 : 0 ≤ gr := hf.2.1
      have hg1 : gr ≤ nx := hf.2.2.1
      obtain ⟨sg, hsgt⟩ := hq.2.2.2.2.2.2.2.2.2.1
      have h12 : sv S 249 12 = rest.length := by
        have := hq.2.1
        rw [List.length_cons] at this
        omega
      have h57 : sA S 257 rest.length = b + nx := by rw [hb]; exact hq.1.1.2.1
      have h58 : sA S 258 rest.length = b + t.length := by rw [hb]; exact hq.1.1.2.2.1
      have h59 : sA S 259 rest.length = osum rest := hq.1.1.2.2.2.1
      have hw : ∀ j : Int, 0 ≤ j → j < t.length → sL S 254 (b + j) = tx t j := fun j j0 j1 => by rw [hb]; exact (hq.1.1.1 j j0 j1).1
      have hwp : ∀ j : Int, 0 ≤ j → j < t.length → sA S 255 (b + j) = (tkg t j).2.1 := fun j j0 j1 => by rw [hb]; exact (hq.1.1.1 j j0 j1).2.1
      have hwl : ∀ j : Int, 0 ≤ j → j < t.length → sA S 256 (b + j) = 2 * tln t j + zB (tgl t j) := fun j j0 j1 => by rw [hb]; exact (hq.1.1.1 j j0 j1).2.2
      have ho0 := osum_n rest
      have ho1 := osum_17 rest hrs
      have h18 : cs.length < 18 := fok_18 hf
      have hle := fun h => lnE_r (t := t) (i := nx) (by omega) h
      refine w_iload_n rfl l2 rfl ?_
      refine w_aload_n rfl l0 rfl ?_
      refine w_getR rfl rfl sh_249 rfl rfl ?_
      refine w_aload_n rfl l0 rfl ?_
      refine w_getI (z := rest.length) rfl rfl sh_249 rfl h12 rfl ?_
      refine w_iald (z := b + t.length) rfl sh_258 (by omega) (by omega) (by decide) h58 rfl ?_
      refine w_ic_ge (pc2 := 102) (pc3 := 77) rfl (by decide) rfl ⟨by omega, by omega⟩ ⟨by omega, by omega⟩ (fun c74 => ?_) (fun c74 => ?_)
      · skip
        have hje : j = lnE t nx := by
          rw [ie]
          first
            | rw [fi_end (by omega)]
            | rw [fi_stop (by omega) (decide_eq_true c93)]
        have hle3 := hle hnx
        refine w_aload_n rfl l0 rfl ?_
        refine w_getR rfl rfl sh_249 rfl rfl ?_
        refine w_aload_n rfl l0 rfl ?_
        refine w_getI (z := rest.length) rfl rfl sh_249 rfl h12 rfl ?_
        refine w_iload_n rfl l2 rfl ?_
        refine w_iaS (f := sA S 257) rfl sh_257 (by omega) (by omega) (by decide) rfl rfl ?_
        refine w_aload_n rfl l0 rfl ?_
        refine w_getR rfl rfl sh_249 rfl rfl ?_
        refine w_iload_n rfl l1 rfl ?_
        refine w_lald (z := tx t (nx)) rfl sh_254 (by omega) (by omega) (by decide) (by have q := hw (nx) (by omega) (by omega); rw [show b + (nx) = b + nx by omega] at q; exact q) rfl ?_
        refine w_ldc2 (v := 35) rfl rfl rfl ?_
        refine w_l_ne (pc2 := 134) (pc3 := 125) rfl rfl (by decide) rfl (fun c122 => ?_) (fun c122 => ?_)
        · skip
          refine w_iload_n rfl l1 rfl ?_
          refine w_istore_n rfl (by decide) rfl ?_
          exact ih.2 nx _ _ (by exact l0) (by exact (by rw [← hje]; exact (congrArg x_k2 l2))) (by exact rfl) (by exact c122) (by omega) (by omega) (by intro _; rfl) (by exact (fr_A (fr_refl _ S) (by omega))) (by intro q hq9; rfl) (by rw [← hb, ← hje]; rfl) (by exact hq.2.2.2.2.2.1.1) (by exact hq.2.2.2.2.2.1.2.trans (grp_len hg1)) (by omega)
        · skip
          refine w_aload_n rfl l0 rfl ?_
          refine w_iload_n rfl l1 rfl ?_
          refine w_iconst rfl rfl ?_
          refine w_iadd rfl rfl ?_
          rw [show b + nx + 1 = b + (nx + 1) by omega]
          refine w_iload_n rfl l2 rfl ?_
          refine w_CV (as := [.int (iZ (b + (nx + 1))), .int (iZ (b + j))]) (r := []) rfl rfl rfl rfl sh_249 (Nat.le_of_ble_eq_true rfl) (Nat.le_of_ble_eq_true rfl) (by omega) rfl (w_mono (r_dir (S := ((w_A S 257 (w_u (sA S 257) rest.length (b + j))))) (e := j) (b := b) hF hT hf.1 hrs h4 h18 i0 i10 r0 r1 o1 (RQ_257 hrs hq (fr_A (fr_refl _ S) (by rfl)) (by rw [← hb]; rfl)) hb hg0 hg1 (by omega) hje c122 hf.2.2.2.2.2.2.2.1 hf.2.2.2.2.2.1 (by have : dp ≤ nx := hf.2.2.2.2.2.2.1; omega) (by omega)) (fun v S2 h => (⟨h.1, h⟩ : v = some (.int (iZ (kR F (tkl T r ol t nx gr cs dp rest.length ic)))) ∧ D4q ((w_A S 257 (w_u (sA S 257) rest.length (b + j)))) F ic rest [] (tkl T r ol t nx gr cs dp rest.length ic) v S2))) ?_
          rintro _ V ⟨rfl, hrd⟩
          show w_T _ _ 129 133 _ [.int (iZ (kR F (tkl T r ol t nx gr cs dp rest.length ic)))] _ _
          refine w_iret rfl rfl ?_
          exact d5_pre (⟨fr_mono (fr_A (fr_refl (fun a => a = 257) S) (by rfl)) (fun a h => by unfold RFN; omega), fun _ _ => rfl⟩ : rfr S ((w_A S 257 (w_u (sA S 257) rest.length (b + j))))) (d5_row hT hf r1 o1 hnx c122 hrd)
      · skip
        refine w_aload_n rfl l0 rfl ?_
        refine w_getR rfl rfl sh_249 rfl rfl ?_
        refine w_iload_n rfl l2 rfl ?_
        refine w_iald (z := 2 * tln t (j) + zB (tgl t (j))) rfl sh_256 (by omega) (by omega) (by decide) (by have q := hwl (j) (by omega) (by omega); rw [show b + (j) = b + j by omega] at q; exact q) rfl ?_
        have hl1 : 0 ≤ tln t j ∧ tln t j ≤ 4000 := hf.1.2.2.1 j (by omega) (show j < (t.length : Int) by omega)
        have hl2 : 0 ≤ tln t nx ∧ tln t nx ≤ 4000 := hf.1.2.2.1 nx (by omega) (show nx < (t.length : Int) by omega)
        refine w_iconst rfl rfl ?_
        refine w_zshr rfl rfl ?_
        rw [shr1 hl1.1 hl1.2]
        refine w_aload_n rfl l0 rfl ?_
        refine w_getR rfl rfl sh_249 rfl rfl ?_
        refine w_iload_n rfl l1 rfl ?_
        refine w_iald (z := 2 * tln t (nx) + zB (tgl t (nx))) rfl sh_256 (by omega) (by omega) (by decide) (by have q := hwl (nx) (by omega) (by omega); rw [show b + (nx) = b + nx by omega] at q; exact q) rfl ?_
        refine w_iconst rfl rfl ?_
        refine w_zshr rfl rfl ?_
        rw [shr1 hl2.1 hl2.2]
        refine w_ic_ne (pc2 := 102) (pc3 := 96) rfl (by decide) rfl ⟨by omega, by omega⟩ ⟨by omega, by omega⟩ (fun c93 => ?_) (fun c93 => ?_)
        · skip
          have hje : j = lnE t nx := by
            rw [ie]
            first
              | rw [fi_end (by omega)]
              | rw [fi_stop (by omega) (decide_eq_true c93)]
          have hle3 := hle hnx
          refine w_aload_n rfl l0 rfl ?_
          refine w_getR rfl rfl sh_249 rfl rfl ?_
          refine w_aload_n rfl l0 rfl ?_
          refine w_getI (z := rest.length) rfl rfl sh_249 rfl h12 rfl ?_
          refine w_iload_n rfl l2 rfl ?_
          refine w_iaS (f := sA S 257) rfl sh_257 (by omega) (by omega) (by decide) rfl rfl ?_
          refine w_aload_n rfl l0 rfl ?_
          refine w_getR rfl rfl sh_249 rfl rfl ?_
          refine w_iload_n rfl l1 rfl ?_
          refine w_lald (z := tx t (nx)) rfl sh_254 (by omega) (by omega) (by decide) (by have q := hw (nx) (by omega) (by omega); rw [show b + (nx) = b + nx by omega] at q; exact q) rfl ?_
          refine w_ldc2 (v := 35) rfl rfl rfl ?_
          refine w_l_ne (pc2 := 134) (pc3 := 125) rfl rfl (by decide) rfl (fun c122 => ?_) (fun c122 => ?_)
          · skip
            refine w_iload_n rfl l1 rfl ?_
            refine w_istore_n rfl (by decide) rfl ?_
            exact ih.2 nx _ _ (by exact l0) (by exact (by rw [← hje]; exact (congrArg x_k2 l2))) (by exact rfl) (by exact c122) (by omega) (by omega) (by intro _; rfl) (by exact (fr_A (fr_refl _ S) (by omega))) (by intro q hq9; rfl) (by rw [← hb, ← hje]; rfl) (by exact hq.2.2.2.2.2.1.1) (by exact hq.2.2.2.2.2.1.2.trans (grp_len hg1)) (by omega)
          · skip
            refine w_aload_n rfl l0 rfl ?_
            refine w_iload_n rfl l1 rfl ?_
            refine w_iconst rfl rfl ?_
            refine w_iadd rfl rfl ?_
            rw [show b + nx + 1 = b + (nx + 1) by omega]
            refine w_iload_n rfl l2 rfl ?_
            refine w_CV (as := [.int (iZ (b + (nx + 1))), .int (iZ (b + j))]) (r := []) rfl rfl rfl rfl sh_249 (Nat.le_of_ble_eq_true rfl) (Nat.le_of_ble_eq_true rfl) (by omega) rfl (w_mono (r_dir (S := ((w_A S 257 (w_u (sA S 257) rest.length (b + j))))) (e := j) (b := b) hF hT hf.1 hrs h4 h18 i0 i10 r0 r1 o1 (RQ_257 hrs hq (fr_A (fr_refl _ S) (by rfl)) (by rw [← hb]; rfl)) hb hg0 hg1 (by omega) hje c122 hf.2.2.2.2.2.2.2.1 hf.2.2.2.2.2.1 (by have : dp ≤ nx := hf.2.2.2.2.2.2.1; omega) (by omega)) (fun v S2 h => (⟨h.1, h⟩ : v = some (.int (iZ (kR F (tkl T r ol t nx gr cs dp rest.length ic)))) ∧ D4q ((w_A S 257 (w_u (sA S 257) rest.length (b + j)))) F ic rest [] (tkl T r ol t nx gr cs dp rest.length ic) v S2))) ?_
            rintro _ V ⟨rfl, hrd⟩
            show w_T _ _ 129 133 _ [.int (iZ (kR F (tkl T r ol t nx gr cs dp rest.length ic)))] _ _
            refine w_iret rfl rfl ?_
            exact d5_pre (⟨fr_mono (fr_A (fr_refl (fun a => a = 257) S) (by rfl)) (fun a h => by unfold RFN; omega), fun _ _ => rfl⟩ : rfr S ((w_A S 257 (w_u (sA S 257) rest.length (b + j))))) (d5_row hT hf r1 o1 hnx c122 hrd)
        · skip
          refine w_iinc rfl l2 (by decide) rfl ?_
          refine w_goto (pc2 := 64) rfl (by decide) ?_
          exact ih.1 ((j + 1)) _ (by exact l0) (by exact (congrArg x_k2 l1)) (by exact (by rw [show b + (j + 1) = b + j + 1 by omega]; exact rfl)) (by omega) (by omega) (by rw [ie, fi_next (by omega) (decide_eq_false (not_not_intro c93))]) (by omega)
    · skip
      intro k U lv l0 l2 l3 h35 k0 k1 ks hfr hvU hA hG h26 hm
      have h160 : t.length ≤ 160 := hf.1.2.1
      have hb3 : 0 ≤ b ∧ b ≤ 483 := by omega
      have hn1 : nx ≤ t.length := hf.2.2.2.1
      have hg0 : 0 ≤ gr := hf.2.1
      have hg1 : gr ≤ nx := hf.2.2.1
      obtain ⟨sg, hsgt⟩ := hq.2.2.2.2.2.2.2.2.2.1
      have h12 : sv S 249 12 = rest.length := by
        have := hq.2.1
        rw [List.length_cons] at this
        omega
      have h57 : sA S 257 rest.length = b + nx := by rw [hb]; exact hq.1.1.2.1
      have h58 : sA S 258 rest.length = b + t.length := by rw [hb]; exact hq.1.1.2.2.1
      have h59 : sA S 259 rest.length = osum rest := hq.1.1.2.2.2.1
      have hw : ∀ j : Int, 0 ≤ j → j < t.length → sL S 254 (b + j) = tx t j := fun j j0 j1 => by rw [hb]; exact (hq.1.1.1 j j0 j1).1
      have hwp : ∀ j : Int, 0 ≤ j → j < t.length → sA S 255 (b + j) = (tkg t j).2.1 := fun j j0 j1 => by rw [hb]; exact (hq.1.1.1 j j0 j1).2.1
      have hwl : ∀ j : Int, 0 ≤ j → j < t.length → sA S 256 (b + j) = 2 * tln t j + zB (tgl t j) := fun j j0 j1 => by rw [hb]; exact (hq.1.1.1 j j0 j1).2.2
      have ho0 := osum_n rest
      have ho1 := osum_17 rest hrs
      have h18 : cs.length < 18 := fok_18 hf
      have hle := fun h => lnE_r (t := t) (i := nx) (by omega) h
      have hle2 := hle hnx
      have h12U : sv U 249 12 = rest.length := by rw [hvU 12 (by decide)]; exact h12
      have u59 : sA U 259 = sA S 259 := fr_gA hfr (by omega)
      have u60 : sA U 260 = sA S 260 := fr_gA hfr (by omega)
      have u61 : sA U 261 = sA S 261 := fr_gA hfr (by omega)
      have u54 : sL U 254 = sL S 254 := fr_gL hfr (by omega)
      have u55 : sA U 255 = sA S 255 := fr_gA hfr (by omega)
      refine w_iload_n rfl l3 rfl ?_
      refine w_iload_n rfl l2 rfl ?_
      refine w_ic_ge (pc2 := 198) (pc3 := 141) rfl (by decide) rfl ⟨by omega, by omega⟩ ⟨by omega, by omega⟩ (fun c138 => ?_) (fun c138 => ?_)
      · skip
        refine w_iconst rfl rfl ?_
        refine w_iret rfl rfl ?_
        exact d5_ln hf.1 hrs hq hg1 k0 h35 hf.2.2.2.2.2.2.2.1 (by first | exact Or.inl ⟨c145, ks c145⟩ | (by_cases z : skp cs = true; exact Or.inl ⟨z, ks z⟩; exact Or.inr ⟨by simpa using z, by omega⟩)) hfr hA hvU hG h26
      · skip
        refine w_aload_n rfl l0 rfl ?_
        refine w_CV (as := []) (r := []) rfl rfl rfl rfl sh_249 (Nat.le_of_ble_eq_true rfl) (Nat.le_of_ble_eq_true rfl) (by omega) rfl (r_skp (lv := rest.length) (o := osum rest) (cs := cs) (by omega) (by omega) ho0 (by omega) h12U (by rw [u59]; exact h59) (by rw [hvU 16 (by decide)]; exact hq.2.2.2.1) (by rw [u60, u61]; exact hq.1.1.2.2.2.2) (by omega)) ?_
        rintro _ _ ⟨rfl, hS⟩
        rw [hS]
        show w_T _ _ 129 145 _ [.int (iZ (zB (skp cs)))] _ _
        refine w_b_ne (pc2 := 198) (pc3 := 148) rfl (by decide) rfl (fun c145 => ?_) (fun c145 => ?_)
        · skip
          refine w_iconst rfl rfl ?_
          refine w_iret rfl rfl ?_
          exact d5_ln hf.1 hrs hq hg1 k0 h35 hf.2.2.2.2.2.2.2.1 (by first | exact Or.inl ⟨c145, ks c145⟩ | (by_cases z : skp cs = true; exact Or.inl ⟨z, ks z⟩; exact Or.inr ⟨by simpa using z, by omega⟩)) hfr hA hvU hG h26
        · skip
          refine w_aload_n rfl l0 rfl ?_
          refine w_getR rfl rfl sh_249 rfl rfl ?_
          refine w_aload_n rfl l0 rfl ?_
          refine w_getI (z := k - gr) rfl rfl sh_249 rfl h26 rfl ?_
          refine w_aload_n rfl l0 rfl ?_
          refine w_getR rfl rfl sh_249 rfl rfl ?_
          refine w_iload_n rfl l3 rfl ?_
          refine w_lald (z := tx t (k)) rfl sh_254 (by omega) (by omega) (by decide) ((congrFun u54 _).trans (by have q := hw (k) (by omega) (by omega); rw [show b + (k) = b + k by omega] at q; exact q)) rfl ?_
          refine w_laS (f := sL U 267) rfl sh_267 (by omega) (by omega) (by decide) rfl rfl ?_
          refine w_aload_n rfl l0 rfl ?_
          refine w_getR rfl rfl sh_249 rfl rfl ?_
          refine w_aload_n rfl l0 rfl ?_
          refine w_getI (z := k - gr) rfl rfl sh_249 rfl h26 rfl ?_
          refine w_sipush rfl (by decide) rfl ?_
          refine w_aload_n rfl l0 rfl ?_
          refine w_getR rfl rfl sh_249 rfl rfl ?_
          refine w_iload_n rfl l3 rfl ?_
          refine w_iald (z := (tkg t (k)).2.1) rfl sh_255 (by omega) (by omega) (by decide) ((congrFun u55 _).trans (by have q := hwp (k) (by omega) (by omega); rw [show b + (k) = b + k by omega] at q; exact q)) rfl ?_
          refine w_imul rfl rfl ?_
          refine w_iaS (f := sA U 268) rfl sh_268 (by omega) (by omega) (by decide) rfl rfl ?_
          refine w_aload_n rfl l0 rfl ?_
          refine w_dup rfl rfl rfl ?_
          refine w_getI (z := k - gr) rfl rfl sh_249 rfl h26 rfl ?_
          refine w_iconst rfl rfl ?_
          refine w_iadd rfl rfl ?_
          refine w_putf rfl rfl sh_249 rfl rfl (by decide) rfl ?_
          refine w_iinc rfl l3 (by decide) rfl ?_
          refine w_goto (pc2 := 136) rfl (by decide) ?_
          exact ih.2 ((k + 1)) _ _ (by exact l0) (by exact (congrArg x_k2 l2)) (by exact (by rw [show b + (k + 1) = b + k + 1 by omega]; exact rfl)) (by exact h35) (by omega) (by omega) (by intro z; rw [z] at c145; exact Bool.noConfusion c145) (by exact (fr_v (fr_A (fr_L hfr (by omega)) (by omega)) (by omega))) (by intro q hq9; (simp (disch := omega) only [rv_self, rv_ne, rl_self, rl_ne, rA_self, rA_ne, rL_self, rL_ne, rR_self, rR_ne, xvl, xvA, xvL, xvR, xlv, xlA, xlL, xlR, xAv, xAl, xAL, xAR, xLv, xLl, xLA, xLR, xRv, xRl, xRA, xRL]); exact hvU q hq9) (by simp (disch := omega) only [rv_self, rv_ne, rl_self, rl_ne, rA_self, rA_ne, rL_self, rL_ne, rR_self, rR_ne, xvl, xvA, xvL, xvR, xlv, xlA, xlL, xlR, xAv, xAl, xAL, xAR, xLv, xLl, xLA, xLR, xRv, xRl, xRA, xRL]; exact hA) (by exact fw_add hf.1 hg0 (by omega) (by omega) hG) (by (simp (disch := omega) only [rv_self, rv_ne, rl_self, rl_ne, rA_self, rA_ne, rL_self, rL_ne, rR_self, rR_ne, xvl, xvA, xvL, xvR, xlv, xlA, xlL, xlR, xAv, xAl, xAL, xAR, xLv, xLl, xLA, xLR, xRv, xRl, xRA, xRL]); omega) (by omega)
theorem r_rowL {sc : x_S} {d : Nat} {S : w_S} {F : Int → (Int → Int) × Int} {T : List Mac} {r ic dp nx gr b : Int} {ol : List OTok} {t : List Tok} {cs : List Cnd} {rest : List Frm} (hF : Fok F) (hT : TOK T) (hf : fok (t, nx, gr, cs, dp)) (hrs : foks rest) (hlo : lows rest) (h4 : rest.length < 4) (i0 : 0 ≤ ic) (i10 : ic ≤ 10) (r0 : 0 ≤ r) (r1 : r ≤ 30) (o1 : ol.length ≤ 100) (hq : RQ S F T r ol ic (grp t gr nx) dp ((t, nx, gr, cs, dp) :: rest)) (hb : b = 161 * (rest.length : Int)) (hnx : nx < t.length) (hd : 60 ≤ d) : w_T sc d 129 0 (x_en 0 [.ref 249]) [] S (D5q S F (kR F (tkl T r ol t nx gr cs dp rest.length ic)) (tkl T r ol t nx gr cs dp rest.length ic).2.2.1 (tkl T r ol t nx gr cs dp rest.length ic).2.2.2.1 (tkl T r ol t nx gr cs dp rest.length ic).2.2.2.2.1 (if (tkl T r ol t nx gr cs dp rest.length ic).2.2.2.2.2 < 0 then ic else ic + 1) (kF F (tkl T r ol t nx gr cs dp rest.length ic) rest)) := by
  have h160 : t.length ≤ 160 := hf.1.2.1
  have hb3 : 0 ≤ b ∧ b ≤ 483 := by omega
  have hn1 : nx ≤ t.length := hf.2.2.2.1
  have hg0 : 0 ≤ gr := hf.2.1
  have hg1 : gr ≤ nx := hf.2.2.1
  obtain ⟨sg, hsgt⟩ := hq.2.2.2.2.2.2.2.2.2.1
  have h12 : sv S 249 12 = rest.length := by
    have := hq.2.1
    rw [List.length_cons] at this
    omega
  have h57 : sA S 257 rest.length = b + nx := by rw [hb]; exact hq.1.1.2.1
  have h58 : sA S 258 rest.length = b + t.length := by rw [hb]; exact hq.1.1.2.2.1
  have h59 : sA S 259 rest.length = osum rest := hq.1.1.2.2.2.1
  have hw : ∀ j : Int, 0 ≤ j → j < t.length → sL S 254 (b + j) = tx t j := fun j j0 j1 => by rw [hb]; exact (hq.1.1.1 j j0 j1).1
  have hwp : ∀ j : Int, 0 ≤ j → j < t.length → sA S 255 (b + j) = (tkg t j).2.1 := fun j j0 j1 => by rw [hb]; exact (hq.1.1.1 j j0 j1).2.1
  have hwl : ∀ j : Int, 0 ≤ j → j < t.length → sA S 256 (b + j) = 2 * tln t j + zB (tgl t j) := fun j j0 j1 => by rw [hb]; exact (hq.1.1.1 j j0 j1).2.2
  have ho0 := osum_n rest
  have ho1 := osum_17 rest hrs
  have h18 : cs.length < 18 := fok_18 hf
  have hle := fun h => lnE_r (t := t) (i := nx) (by omega) h
  refine w_aload_n rfl rfl rfl ?_
  refine w_getR rfl rfl sh_249 rfl rfl ?_
  refine w_aload_n rfl rfl rfl ?_
  refine w_getI (z := rest.length) rfl rfl sh_249 rfl h12 rfl ?_
  refine w_iald (z := b + nx) rfl sh_257 (by omega) (by omega) (by decide) h57 rfl ?_
  refine w_istore_n rfl (by decide) rfl ?_
  refine w_iload_n rfl rfl rfl ?_
  refine w_aload_n rfl rfl rfl ?_
  refine w_getR rfl rfl sh_249 rfl rfl ?_
  refine w_aload_n rfl rfl rfl ?_
  refine w_getI (z := rest.length) rfl rfl sh_249 rfl h12 rfl ?_
  refine w_iald (z := b + t.length) rfl sh_258 (by omega) (by omega) (by decide) h58 rfl ?_
  refine w_ic_ne (pc2 := 62) (pc3 := 23) rfl (by decide) rfl ⟨by omega, by omega⟩ ⟨by omega, by omega⟩ (fun c20 => ?_) (fun c20 => ?_)
  · skip
    refine w_iload_n rfl rfl rfl ?_
    refine w_istore_n rfl (by decide) rfl ?_
    exact (r_rowL_c hF hT hf hrs hlo h4 i0 i10 r0 r1 o1 hq hb hnx hd _).1 nx _ rfl rfl rfl (by omega) (by omega) (by rfl) (Nat.lt_succ_self _)
  · omega
