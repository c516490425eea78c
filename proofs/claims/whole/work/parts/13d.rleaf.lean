/-! How the reference stands between two rows; what a directive leaves. -/
def osum : List Frm → Int
  | [] => 0
  | f :: rest => osum rest + f.2.2.2.1.length
def rfrep (S : w_S) (lv o : Int) (f : Frm) : Prop := rrep S lv f.1 ∧ sA S 257 lv = 161 * lv + f.2.1 ∧ sA S 258 lv = 161 * lv + f.1.length ∧ sA S 259 lv = o ∧ rcs (sA S 260) (sA S 261) o f.2.2.2.1
def rfs (S : w_S) : List Frm → Prop
  | [] => True
  | f :: rest => rfrep S rest.length (osum rest) f ∧ rfs S rest
def RT (S : w_S) (F : Int → (Int → Int) × Int) : Prop := ∀ f : Int, 0 ≤ f → f ≤ 2 → sA S 251 f = (F f).2 ∧ ∀ k, 0 ≤ k → k < (F f).2 → sA S 250 (160 * f + k) = (F f).1 k
def RFN (a : Nat) : Prop := a = 249 ∨ (252 ≤ a ∧ a ≤ 286)
def RSL (k : Nat) : Prop := k = 5 ∨ k = 12 ∨ k = 13 ∨ k = 16 ∨ k = 17 ∨ k = 23 ∨ k = 26 ∨ k = 29 ∨ k = 32 ∨ k = 35 ∨ k = 46 ∨ k = 49
def rfr (S S2 : w_S) : Prop := fr RFN S S2 ∧ ∀ k, ¬ RSL k → sv S2 249 k = sv S 249 k
theorem rfr_refl (S : w_S) : rfr S S := ⟨fr_refl _ _, fun _ _ => rfl⟩
theorem rfr_trans {S S1 S2 : w_S} (h1 : rfr S S1) (h2 : rfr S1 S2) : rfr S S2 := ⟨fr_trans h1.1 h2.1, fun k hk => (h2.2 k hk).trans (h1.2 k hk)⟩
def RQ (S : w_S) (F : Int → (Int → Int) × Int) (T : List Mac) (r : Int) (ol : List OTok) (ic : Int) (G : List ETok) (dp : Int) (fs : List Frm) : Prop := rfs S fs ∧ sv S 249 12 = (fs.length : Int) - 1 ∧ sv S 249 13 = ic ∧ sv S 249 16 = osum fs ∧ sv S 249 17 = dp ∧ (fw (nmR S) (sL S 267) (sA S 268) 0 G ∧ sv S 249 26 = G.length) ∧ sv S 249 23 = r ∧ sv S 249 49 = ol.length ∧ ofn (sL S 285) (sA S 286) 1 0 ol ∧ (∃ sg, rtab S sg T) ∧ RT S F
theorem osum_n : ∀ fs : List Frm, 0 ≤ osum fs
  | [] => Int.le_refl 0
  | f :: rest => by
    have := osum_n rest
    show 0 ≤ osum rest + (f.2.2.2.1.length : Int)
    omega
theorem osum_17 : ∀ fs : List Frm, foks fs → osum fs ≤ 17 * fs.length
  | [], _ => Int.le_refl 0
  | f :: rest, h => by
    have h1 := osum_17 rest (fun g hg => h g (by simp [hg]))
    have h2 := fok_18 (h f (by simp))
    show osum rest + (f.2.2.2.1.length : Int) ≤ 17 * ((rest.length + 1 : Nat) : Int)
    omega
theorem rfs_g {S S2 : w_S} : ∀ fs : List Frm, (∀ f, f ∈ fs → f.1.length ≤ 160) → rfs S fs → (∀ lv : Int, 0 ≤ lv → lv < fs.length → sA S2 257 lv = sA S 257 lv ∧ sA S2 258 lv = sA S 258 lv ∧ sA S2 259 lv = sA S 259 lv) → (∀ x : Int, x < 161 * fs.length → sL S2 254 x = sL S 254 x ∧ sA S2 255 x = sA S 255 x ∧ sA S2 256 x = sA S 256 x) → (∀ j, j < osum fs → sA S2 260 j = sA S 260 j ∧ sA S2 261 j = sA S 261 j) → rfs S2 fs
  | [], _, _, _, _, _ => trivial
  | f :: rest, h6, h, h1, h2, h3 => by
    have hl : ((f :: rest).length : Int) = rest.length + 1 := by rw [List.length_cons]; omega
    have ho : osum (f :: rest) = osum rest + f.2.2.2.1.length := rfl
    rw [hl] at h1 h2
    rw [ho] at h3
    have hf := h6 f (by simp)
    have q1 := h1 (rest.length : Int) (by omega) (by omega)
    refine ⟨⟨fun j j0 j1 => ?_, by rw [q1.1]; exact h.1.2.1, by rw [q1.2.1]; exact h.1.2.2.1, by rw [q1.2.2]; exact h.1.2.2.2.1, rcs_fr _ h.1.2.2.2.2 (fun j a b => h3 j b)⟩, rfs_g rest (fun g hg => h6 g (by simp [hg])) h.2 (fun lv a b => h1 lv a (by omega)) (fun x hx => h2 x (by omega)) (fun j hj => h3 j (by omega))⟩
    have q := h2 (161 * (rest.length : Int) + j) (by omega)
    rw [q.1, q.2.1, q.2.2]
    exact h.1.1 j j0 j1
theorem rfs_fr {c : Nat → Prop} {S S2 : w_S} {fs : List Frm} (h6 : ∀ f, f ∈ fs → f.1.length ≤ 160) (h : rfs S fs) (f : fr c S S2) (hc : ∀ a, 254 ≤ a → a ≤ 261 → ¬ c a) : rfs S2 fs :=
  rfs_g fs h6 h (fun lv _ _ => by rw [fr_gA f (hc 257 (by omega) (by omega)), fr_gA f (hc 258 (by omega) (by omega)), fr_gA f (hc 259 (by omega) (by omega))]; exact ⟨rfl, rfl, rfl⟩) (fun x _ => by rw [fr_gL f (hc 254 (by omega) (by omega)), fr_gA f (hc 255 (by omega) (by omega)), fr_gA f (hc 256 (by omega) (by omega))]; exact ⟨rfl, rfl, rfl⟩) (fun j _ => by rw [fr_gA f (hc 260 (by omega) (by omega)), fr_gA f (hc 261 (by omega) (by omega))]; exact ⟨rfl, rfl⟩)
theorem foks_6 {fs : List Frm} (h : foks fs) : ∀ f, f ∈ fs → f.1.length ≤ 160 := fun f hf => (h f hf).1.2.1
theorem RT_fr {c : Nat → Prop} {S S2 : w_S} {F : Int → (Int → Int) × Int} (h : RT S F) (f : fr c S S2) (hc : ¬ c 250 ∧ ¬ c 251) : RT S2 F := fun q q0 q1 => by
  rw [fr_gA f hc.1, fr_gA f hc.2]
  exact h q q0 q1
abbrev Obr : Type := Int × List Mac × List Cnd × Int
def obR (F : Int → (Int → Int) × Int) (O : Obr) : Int := if ¬ O.1 = 0 then O.1 else if O.2.2.2 < 0 then 0 else (psc F O.2.2.2).1
def obF (F : Int → (Int → Int) × Int) (O : Obr) (t : List Tok) (e dp : Int) (rest : List Frm) : List Frm := if O.2.2.2 < 0 then (t, e, e, O.2.2.1, dp) :: rest else newf (psc F O.2.2.2).2 :: (t, e, e, O.2.2.1, dp) :: rest
def D3q (S : w_S) (F : Int → (Int → Int) × Int) (r : Int) (ol : List OTok) (ic dp : Int) (t : List Tok) (e : Int) (rest : List Frm) (O : Obr) (v : Option Value) (S2 : w_S) : Prop := v = some (.int (iZ (obR F O))) ∧ rfr S S2 ∧ (∃ sg, rtab S2 sg O.2.1) ∧ sv S2 249 23 = r ∧ (obR F O = 0 → RQ S2 F O.2.1 r ol (if O.2.2.2 < 0 then ic else ic + 1) [] dp (obF F O t e dp rest))
theorem obR_e {F : Int → (Int → Int) × Int} {c : Int} {T : List Mac} {cs : List Cnd} : obR F (c, T, cs, -1) = c := by
  unfold obR
  by_cases h : c = 0
  · rw [if_neg (not_not_intro h), if_pos (show ((-1 : Int)) < 0 by decide), h]
  · rw [if_pos h]
section LEAF
variable {S V : w_S} {F : Int → (Int → Int) × Int} {T T2 : List Mac} {r ic dp e y : Int} {ol : List OTok} {t : List Tok} {cs cs2 : List Cnd} {rest : List Frm}
theorem d3_err {c : Int} (h : RQ S F T r ol ic [] dp ((t, e, y, cs, dp) :: rest)) (hc : ¬ c = 0) : D3q S F r ol ic dp t e rest (c, T, cs, -1) (some (.int (iZ c))) S := by
  unfold D3q
  rw [obR_e]
  exact ⟨rfl, rfr_refl S, h.2.2.2.2.2.2.2.2.2.1, h.2.2.2.2.2.2.1, fun z => absurd z hc⟩
theorem d3_tab {c : Int} (h6 : t.length ≤ 160) (h6r : foks rest) (h : RQ S F T r ol ic [] dp ((t, e, y, cs, dp) :: rest)) (g : fr (fun a => 262 ≤ a ∧ a ≤ 266) S V) (hT : ∃ sg, rtab V sg T2) : D3q S F r ol ic dp t e rest (c, T2, cs, -1) (some (.int (iZ c))) V := by
  have h66 : ∀ f, f ∈ ((t, e, y, cs, dp) :: rest) → f.1.length ≤ 160 := fun f hf => by
    rcases List.mem_cons.1 hf with z | z
    · rw [z]; exact h6
    · exact foks_6 h6r f z
  unfold D3q
  rw [obR_e]
  refine ⟨rfl, ⟨fr_mono g (fun a h => by unfold RFN; omega), fun k _ => fr_gv g (by omega) k⟩, hT, by rw [fr_gv g (by omega)]; exact h.2.2.2.2.2.2.1, fun _ => ?_⟩
  unfold obF
  rw [if_pos (show ((-1 : Int)) < 0 by decide), if_pos (show ((-1 : Int)) < 0 by decide)]
  obtain ⟨q1, q2, q3, q4, q5, q6, q7, q8, q9, q10, q11⟩ := h
  have q1' := rfs_fr h66 q1 g (fun a a0 a1 => by omega)
  exact ⟨q1', by rw [fr_gv g (by omega)]; exact q2, by rw [fr_gv g (by omega)]; exact q3, by rw [fr_gv g (by omega)]; exact q4, by rw [fr_gv g (by omega)]; exact q5, ⟨trivial, by rw [fr_gv g (by omega)]; exact q6.2⟩, by rw [fr_gv g (by omega)]; exact q7, by rw [fr_gv g (by omega)]; exact q8, by rw [fr_gL g (by omega), fr_gA g (by omega)]; exact q9, hT, RT_fr q11 g (by omega)⟩
theorem d3_cs {c : Int} (h6 : t.length ≤ 160) (h6r : foks rest) (h : RQ S F T r ol ic [] dp ((t, e, y, cs, dp) :: rest)) (g : fr (fun a => a = 249 ∨ a = 260 ∨ a = 261) S V) (hv : ∀ k, ¬ k = 16 → sv V 249 k = sv S 249 k) (h16 : sv V 249 16 = osum rest + cs2.length) (hc : rcs (sA V 260) (sA V 261) (osum rest) cs2) (hlow : ∀ j, j < osum rest → sA V 260 j = sA S 260 j ∧ sA V 261 j = sA S 261 j) : D3q S F r ol ic dp t e rest (c, T, cs2, -1) (some (.int (iZ c))) V := by
  unfold D3q
  rw [obR_e]
  obtain ⟨q1, q2, q3, q4, q5, q6, q7, q8, q9, ⟨sg, q10⟩, q11⟩ := h
  have ht : ∃ sg, rtab V sg T := ⟨sg, rtab_fr q10 g (fun a a0 a1 => by omega)⟩
  refine ⟨rfl, ⟨fr_mono g (fun a h => by unfold RFN; omega), fun k hk => hv k (fun z => hk (by unfold RSL; omega))⟩, ht, by rw [hv 23 (by decide)]; exact q7, fun _ => ?_⟩
  unfold obF
  rw [if_pos (show ((-1 : Int)) < 0 by decide), if_pos (show ((-1 : Int)) < 0 by decide)]
  refine ⟨⟨⟨fun j j0 j1 => by rw [fr_gL g (by decide), fr_gA g (by decide), fr_gA g (by decide)]; exact q1.1.1 j j0 j1, by rw [fr_gA g (by decide)]; exact q1.1.2.1, by rw [fr_gA g (by decide)]; exact q1.1.2.2.1, by rw [fr_gA g (by decide)]; exact q1.1.2.2.2.1, hc⟩, rfs_g rest (foks_6 h6r) q1.2 (fun lv _ _ => by rw [fr_gA g (by decide), fr_gA g (by decide), fr_gA g (by decide)]; exact ⟨rfl, rfl, rfl⟩) (fun x _ => by rw [fr_gL g (by decide), fr_gA g (by decide), fr_gA g (by decide)]; exact ⟨rfl, rfl, rfl⟩) hlow⟩, by rw [hv 12 (by decide)]; exact q2, by rw [hv 13 (by decide)]; exact q3, h16, by rw [hv 17 (by decide)]; exact q5, ⟨trivial, by rw [hv 26 (by decide)]; exact q6.2⟩, by rw [hv 23 (by decide)]; exact q7, by rw [hv 49 (by decide)]; exact q8, by rw [fr_gL g (by decide), fr_gA g (by decide)]; exact q9, ht, RT_fr q11 g (by decide)⟩
theorem psc_of (hF : Fok F) (hR : RT S F) {f : Int} (f0 : 0 ≤ f) (f2 : f ≤ 2) : scan (fun k => sA S 250 (160 * f + k)) (sA S 251 f) f = psc F f := by
  have q := hR f f0 f2
  have h := hF f f0 f2
  unfold psc
  rw [q.1]
  symm
  exact scan_cg (fun j j0 j1 => (q.2 j j0 j1).symm) h.1 h.2.1 h.2.2.1
theorem d3_inc (hF : Fok F) (h6 : t.length ≤ 160) (h6r : foks rest) (h4 : rest.length < 3) {f : Int} {v : Option Value} (f0 : 0 ≤ f) (f2 : f ≤ 2) (h : RQ S F T r ol ic [] dp ((t, e, y, cs, dp) :: rest)) (hd : RDp (w_v (w_v S 249 13 (ic + 1)) 249 12 ((rest.length : Int) + 1)) f v V) : D3q S F r ol ic dp t e rest (0, T, cs, f) v V := by
  have h66 : ∀ f, f ∈ ((t, e, y, cs, dp) :: rest) → f.1.length ≤ 160 := fun f hf => by
    rcases List.mem_cons.1 hf with z | z
    · rw [z]; exact h6
    · exact foks_6 h6r f z
  obtain ⟨q1, q2, q3, q4, q5, q6, q7, q8, q9, ⟨sg, q10⟩, q11⟩ := h
  have eo : obR F (0, T, cs, f) = (psc F f).1 := by
    unfold obR
    rw [if_neg (not_not_intro rfl), if_neg (show ¬ f < 0 by omega)]
  have en : ¬ ((0, T, cs, f) : Obr).2.2.2 < 0 := by show ¬ f < 0; omega
  unfold D3q
  rw [eo]
  unfold RDp at hd
  have e1 : scan (fun k => sA (w_v (w_v S 249 13 (ic + 1)) 249 12 ((rest.length : Int) + 1)) 250 (160 * f + k)) (sA (w_v (w_v S 249 13 (ic + 1)) 249 12 ((rest.length : Int) + 1)) 251 f) f = psc F f := psc_of hF q11 f0 f2
  rw [e1] at hd
  obtain ⟨d1, d2, d3, d4⟩ := hd
  have g : fr (fun a => a = 249 ∨ (252 ≤ a ∧ a ≤ 259)) S V := fr_trans (fr_v (fr_v (fr_refl _ S) (Or.inl rfl)) (Or.inl rfl)) d2
  have hv : ∀ k, ¬ (k = 5 ∨ k = 12 ∨ k = 13) → sv V 249 k = sv S 249 k := fun k hk => by
    rw [d3 k (by omega), rv_ne (by omega), rv_ne (by omega)]
  have v12 : sv V 249 12 = (rest.length : Int) + 1 := by rw [d3 12 (by decide)]; exact rv_self _ _ _ _
  have v13 : sv V 249 13 = ic + 1 := by rw [d3 13 (by decide), rv_ne (by decide)]; exact rv_self _ _ _ _
  have ht : ∃ sg, rtab V sg T := ⟨sg, rtab_fr q10 g (fun a a0 a1 => by omega)⟩
  refine ⟨d1, ⟨fr_mono g (fun a h => by unfold RFN; omega), fun k hk => hv k (fun z => hk (by unfold RSL; omega))⟩, ht, by rw [hv 23 (by decide)]; exact q7, fun z => ?_⟩
  obtain ⟨k1, k2, k3, k4, k5, k6⟩ := d4 z
  unfold obF
  rw [if_neg en, if_neg en]
  have e12 : sv (w_v (w_v S 249 13 (ic + 1)) 249 12 ((rest.length : Int) + 1)) 249 12 = (rest.length : Int) + 1 := rv_self _ _ _ _
  have e16 : sv (w_v (w_v S 249 13 (ic + 1)) 249 12 ((rest.length : Int) + 1)) 249 16 = osum ((t, e, y, cs, dp) :: rest) := by rw [rv_ne (by decide), rv_ne (by decide)]; exact q4
  rw [e12] at k1 k3 k4 k5 k6
  rw [e16] at k5
  have k3 : sA V 257 = w_u (sA S 257) ((rest.length : Int) + 1) (161 * ((rest.length : Int) + 1)) := k3
  have k4 : sA V 258 = w_u (sA S 258) ((rest.length : Int) + 1) (161 * ((rest.length : Int) + 1) + (psc F f).2.length) := k4
  have k5 : sA V 259 = w_u (sA S 259) ((rest.length : Int) + 1) (osum ((t, e, y, cs, dp) :: rest)) := k5
  have k6 : ∀ x, x < 161 * ((rest.length : Int) + 1) → sL V 254 x = sL S 254 x ∧ sA V 255 x = sA S 255 x ∧ sA V 256 x = sA S 256 x := k6
  have el : ((((t, e, e, cs, dp) : Frm) :: rest).length : Int) = (rest.length : Int) + 1 := by rw [List.length_cons]; omega
  have hr : rfs V ((t, e, y, cs, dp) :: rest) := rfs_g _ h66 q1 (fun lv a b => by
      rw [List.length_cons] at b
      rw [k3, k4, k5]
      exact ⟨w_u_ne _ _ (by omega), w_u_ne _ _ (by omega), w_u_ne _ _ (by omega)⟩) (fun x hx => k6 x (by rw [List.length_cons] at hx; omega)) (fun j _ => by rw [fr_gA g (by decide), fr_gA g (by decide)]; exact ⟨rfl, rfl⟩)
  refine ⟨⟨⟨?_, ?_, ?_, ?_, trivial⟩, hr⟩, ?_, v13, ?_, by rw [hv 17 (by decide)]; exact q5, ⟨trivial, by rw [hv 26 (by decide)]; exact q6.2⟩, by rw [hv 23 (by decide)]; exact q7, by rw [hv 49 (by decide)]; exact q8, by rw [fr_gL g (by decide), fr_gA g (by decide)]; exact q9, ht, RT_fr q11 g (by decide)⟩
  · show rrep V ((((t, e, e, cs, dp) : Frm) :: rest).length : Int) _
    rw [el]
    exact k1
  · show sA V 257 ((((t, e, e, cs, dp) : Frm) :: rest).length : Int) = _
    rw [el, k3, w_u_self]
    show _ = 161 * ((rest.length : Int) + 1) + 0
    omega
  · show sA V 258 ((((t, e, e, cs, dp) : Frm) :: rest).length : Int) = _
    rw [el, k4, w_u_self]
    rfl
  · show sA V 259 ((((t, e, e, cs, dp) : Frm) :: rest).length : Int) = _
    rw [el, k5, w_u_self]
    rfl
  · rw [v12, List.length_cons, List.length_cons]
    omega
  · rw [hv 16 (by decide), q4]
    show osum rest + (cs.length : Int) = osum rest + (cs.length : Int) + ((([] : List Cnd).length : Nat) : Int)
    rw [List.length_nil]
    omega
end LEAF
