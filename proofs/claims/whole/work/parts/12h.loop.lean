/-! The class runs through all its files. -/
theorem fr_w {c c2 : Nat → Prop} {S S2 S3 : w_S} (h : fr c2 S S2) (g : fr c S2 S3) (hc : ∀ a, c a → c2 a) : fr c2 S S3 := fr_trans h (fr_mono g hc)
def PRq (S0 : w_S) (q : Prs) (v : Option Value) (S2 : w_S) : Prop := v = some (.int (iZ q.1)) ∧ fr FRN S0 S2 ∧ (∃ pi, ctab S2 pi q.2.1) ∧ sv S2 3 2 = q.2.2.1 ∧ (q.1 = 0 → sv S2 30 2 = q.2.2.2.length ∧ ofn (sL S2 31) (sA S2 32) 256 0 q.2.2.2)
theorem CP_fr {c : Nat → Prop} {S S2 : w_S} {F : Int → (Int → Int) × Int} {T T2 : List Mac} {r r2 : Int} {ol ol2 : List OTok} {ic lv ic2 lv2 : Int} (h : CPp S F T r ol ic lv) (g : fr c S S2) (hc : ∀ a, c a → FRN a) (h1 : ∃ pi, ctab S2 pi T2) (h2 : sv S2 2 3 = lv2) (h3 : sv S2 2 4 = ic2) (h4 : sv S2 3 2 = r2) (h5 : sv S2 30 2 = ol2.length) (h6 : ofn (sL S2 31) (sA S2 32) 256 0 ol2) : CPp S2 F T2 r2 ol2 ic2 lv2 := by
  have nc : ∀ a, ¬ FRN a → ¬ c a := fun a h z => h (hc a z)
  have n1 : ¬ c 1 := nc 1 (by unfold FRN; omega)
  have n2 : ¬ c 42 := nc 42 (by unfold FRN; omega)
  have n3 : ¬ c 201 := nc 201 (by unfold FRN; omega)
  refine ⟨h1, by rw [fr_gR g n2]; exact h.2.1, by rw [fr_gR g n3]; exact h.2.2.1, fun k k0 k1 => ?_, h2, h3, h4, h5, h6⟩
  have q := h.2.2.2.1 k k0 k1
  exact ⟨by rw [fr_gR g n1]; exact q.1, by rw [fr_gv g (nc _ (by unfold FRN; omega))]; exact q.2.1, by rw [fr_gA g (nc _ (by unfold FRN; omega))]; exact q.2.2⟩
theorem c_loopR {sc : x_S} {F : Int → (Int → Int) × Int} (hF : Fok F) {d : Nat} (hd : 140 ≤ d) {Q : Option Value → w_S → Prop} {S : w_S} {T : List Mac} {r : Int} {ol : List OTok} {ic st f : Int} {l : Nat} (hl : l < 4) (f0 : 0 ≤ f) (f2 : f ≤ 2) (hP : CPp S F T r ol ic l) (hR : RST S l f) (s0 : 0 ≤ st) (s1 : st < 1782)
    (k1 : ∀ S2, fr (fun a => (198 ≤ a ∧ a ≤ 200) ∨ (202 + 8 * l ≤ a ∧ a ≤ 207 + 8 * l)) S S2 → frep S2 l (newf (psc F f).2) → HRp sc d S2 Q (st + 1) (psc F f).1) : HRp sc d S Q st 0 := by
  obtain ⟨hct, h42, h201, hfi, hlv, hic, hr, hoz, hof⟩ := hP
  have hq := hfi f f0 (by omega)
  have hF' := hF f f0 f2
  have ef : ((f.toNat : Nat) : Int) = f := by omega
  refine c_hd1 s0 s1 (by rw [hlv]; omega) (by rw [hlv]; omega) (fun lv a0 a1 a3 a4 => ?_)
  have e0 : sv S (202 + 8 * l) 0 = (f.toNat : Int) := by rw [hR.1, ef]
  have key : (sA S (244 + 2 * f.toNat)) = (F f).1 := hq.2.2
  have key2 : sv S (243 + 2 * f.toNat) 1 = (F f).2 := hq.2.1
  refine c_runR_c (f := f.toNat) (l := l) hl (by omega) h201 hlv (by rw [ef]; exact hq.1) e0 hR.2.1 hR.2.2.2.2.2.2.2 (by rw [key2]; exact hF'.1) (by rw [key2]; exact hF'.2.1) (by rw [key2, key]; exact hF'.2.2.1) ?_ (by omega) 1 lv a0 a1 a3 a4 (by decide)
  rw [key, key2, hR.1]
  intro S2 h
  refine k1 S2 h.1 ?_
  have e : ∀ k, ¬ k = 1 → sv S2 (202 + 8 * l) k = sv S (202 + 8 * l) k := h.2.2.2
  have n1 : ¬ ((198 ≤ 208 + 8 * l ∧ 208 + 8 * l ≤ 200) ∨ (202 + 8 * l ≤ 208 + 8 * l ∧ 208 + 8 * l ≤ 207 + 8 * l)) := by omega
  have n2 : ¬ ((198 ≤ 209 + 8 * l ∧ 209 + 8 * l ≤ 200) ∨ (202 + 8 * l ≤ 209 + 8 * l ∧ 209 + 8 * l ≤ 207 + 8 * l)) := by omega
  exact ⟨h.2.1, h.2.2.1, by rw [e 7 (by decide)]; exact hR.2.2.1, by rw [e 8 (by decide)]; exact hR.2.2.2.1, ⟨by rw [e 9 (by decide)]; exact hR.2.2.2.2.1, trivial, by rw [e 10 (by decide)]; exact hR.2.2.2.2.2.1⟩, by rw [e 11 (by decide)]; exact hR.2.2.2.2.2.2.1⟩
theorem c_loop {sc : x_S} {F : Int → (Int → Int) × Int} (hF : Fok F) {d : Nat} (hd : 140 ≤ d) {S0 : w_S} : ∀ (n : Nat) (fs : List Frm) (S : w_S) (T : List Mac) (r : Int) (ol : List OTok) (ic st : Int), fr FRN S0 S → foks fs → fs.length ≤ 4 → TOK T → fsr S fs → CPp S F T r ol ic (fs.length - 1) → 0 ≤ ic → ic ≤ 10 → 0 ≤ r → r ≤ 30 → ol.length ≤ 100 → 0 ≤ st → st + mu fs + 162 * (10 - ic) ≤ 1782 → mu fs + 162 * (10 - ic) < n → HRp sc d S (PRq S0 (prun F n fs T r ol ic)) st 0
  | 0, fs, S, T, r, ol, ic, st, g, hfs, h4, hT, hfsr, hP, i0, i10, r0, r1, ho, s0, s1, hn => by
    have := mu_n fs hfs
    omega
  | n + 1, [], S, T, r, ol, ic, st, g, hfs, h4, hT, hfsr, hP, i0, i10, r0, r1, ho, s0, s1, hn => by
    have s1' : st + 0 + 162 * (10 - ic) ≤ 1782 := s1
    have e : sv S 2 3 = -1 := hP.2.2.2.2.1
    refine c_hd0 s0 (by omega) (by decide) (by decide) (by omega) (by omega) (Or.inr (by omega)) ?_
    rw [pr_0]
    exact ⟨rfl, g, hP.1, hP.2.2.2.2.2.2.1, fun _ => hP.2.2.2.2.2.2.2⟩
  | n + 1, (t, nx, gr, cs, dp) :: rest, S, T, r, ol, ic, st, g, hfs, h4, hT, hfsr, hP, i0, i10, r0, r1, ho, s0, s1, hn => by
    have hf : fok (t, nx, gr, cs, dp) := hfs _ (by simp)
    have hrest : foks rest := fun q hq => hfs q (by simp [hq])
    have hfr : frep S rest.length (t, nx, gr, cs, dp) := hfsr.1
    have hmr := mu_n rest hrest
    rw [List.length_cons] at h4 hP
    have ell : (((rest.length + 1 : Nat)) : Int) - 1 = (rest.length : Int) := by omega
    rw [ell] at hP
    have hg : tgd t := hf.1
    have emu : mu ((t, nx, gr, cs, dp) :: rest) = (t.length : Int) - nx + 1 + mu rest := rfl
    rw [emu] at s1 hn
    have hnx : nx ≤ t.length := hf.2.2.2.1
    have ht6 : t.length ≤ 160 := hg.2.1
    have hgr : gr ≤ nx := hf.2.2.1
    have hgr0 : 0 ≤ gr := hf.2.1
    have hdp : dp ≤ 180 := by have : dp ≤ nx := hf.2.2.2.2.2.2.1; omega
    have hl : rest.length < 4 := by omega
    have hPP := hP
    obtain ⟨⟨pi, hct⟩, h42, h201, hfi, hlv, hic, hr, hoz, hof⟩ := hP
    by_cases hx : nx < t.length
    · have kt : TOK (tkf (t, nx, gr, cs, dp) rest.length T r ol ic).2.2.1 ∧ fok (tkf (t, nx, gr, cs, dp) rest.length T r ol ic).2.1 ∧ 0 ≤ (tkf (t, nx, gr, cs, dp) rest.length T r ol ic).1 ∧ (tkf (t, nx, gr, cs, dp) rest.length T r ol ic).1 ≤ 99 ∧ r ≤ (tkf (t, nx, gr, cs, dp) rest.length T r ol ic).2.2.2.1 ∧ (tkf (t, nx, gr, cs, dp) rest.length T r ol ic).2.2.2.1 ≤ 30 ∧ ((tkf (t, nx, gr, cs, dp) rest.length T r ol ic).1 = 0 → (tkf (t, nx, gr, cs, dp) rest.length T r ol ic).2.2.2.2.1.length ≤ 100) ∧ (tkf (t, nx, gr, cs, dp) rest.length T r ol ic).2.1.1 = t ∧ (tkf (t, nx, gr, cs, dp) rest.length T r ol ic).2.1.2.1 = lnE t nx ∧ ((tkf (t, nx, gr, cs, dp) rest.length T r ol ic).2.2.2.2.2 = -1 ∨ (0 ≤ (tkf (t, nx, gr, cs, dp) rest.length T r ol ic).2.2.2.2.2 ∧ (tkf (t, nx, gr, cs, dp) rest.length T r ol ic).2.2.2.2.2 ≤ 2 ∧ (rest.length : Int) < 3 ∧ ic < 10 ∧ skp (tkf (t, nx, gr, cs, dp) rest.length T r ol ic).2.1.2.2.2.1 = false ∧ (tkf (t, nx, gr, cs, dp) rest.length T r ol ic).1 = 0)) := tkl_ok hT hf r1 ho hx
      refine c_hd1 s0 (by omega) (by rw [hlv]; omega) (by rw [hlv]; omega) (fun lv a0 a1 a3 a4 => ?_)
      refine c_runL_c (l := rest.length) (t := t) (pi := pi) (T := T) (cs := cs) (nx := nx) (gr := gr) (dp := dp) (ic := ic) (r := r) (ol := ol) hl hfr.1 hg.1 hg.2.1 hg.2.2.1 hT.1 hct h42 h201 hfr.2.1 hfr.2.2.1 hfr.2.2.2.1 hfr.2.2.2.2.1 hfr.2.2.2.2.2 hf.2.2.2.2.1 (fok_18 hf) hf.2.2.2.2.2.1 hdp hlv hic i0 i10 hr r0 r1 hoz ho hof hf.2.1 hf.2.2.1 hx (fun S2 hS2 => ?_) hd 1 lv a0 a1 a3 a4 (by decide)
      have ee : tkl T r ol t nx gr cs dp rest.length ic = tkf (t, nx, gr, cs, dp) rest.length T r ol ic := rfl
      rw [ee] at hS2 ⊢
      have hlE := lnE_r (t := t) (i := nx) (by omega) hx
      have hpr1 := fun a b => pr_1 (F := F) (n := n) (f := (t, nx, gr, cs, dp)) (rest := rest) (T := T) (r := r) (ol := ol) (ic := ic) a b
      have hpr2 := fun a b c => pr_2 (F := F) (n := n) (f := (t, nx, gr, cs, dp)) (rest := rest) (T := T) (r := r) (ol := ol) (ic := ic) a b c
      have hpr3 := fun a b c e => pr_3 (F := F) (n := n) (f := (t, nx, gr, cs, dp)) (rest := rest) (T := T) (r := r) (ol := ol) (ic := ic) a b c e
      have hpr4 := fun a b c e => pr_4 (F := F) (n := n) (f := (t, nx, gr, cs, dp)) (rest := rest) (T := T) (r := r) (ol := ol) (ic := ic) a b c e
      revert kt hS2 hpr1 hpr2 hpr3 hpr4
      generalize tkf (t, nx, gr, cs, dp) rest.length T r ol ic = K
      intro kt hS2 hpr1 hpr2 hpr3 hpr4
      obtain ⟨_, q2, q3, q4, q5, q6, q7, q8⟩ := hS2
      obtain ⟨k1, k2, k3, k4, k5, k6, k7, k8, k9, k10⟩ := kt
      have g2 : fr FRN S0 S2 := fr_w g q2 (fun a h => by unfold FT at h; unfold FRN; omega)
      have hlo : -1 ≤ sv S2 2 3 ∧ sv S2 2 3 ≤ 4 := by
        rcases k10 with h | h
        · rw [(q7 h).1]; omega
        · rw [(q8 h.1).1]; omega
      by_cases hc : K.1 = 0
      · have q6 := q6 hc
        rcases k10 with h | h
        · rw [hpr2 hx hc (by omega), hc]
          have hq7 := q7 h
          refine c_loop hF hd n (K.2.1 :: rest) S2 K.2.2.1 K.2.2.2.1 K.2.2.2.2.1 ic (st + 1) g2 (fun z hz => ?_) (by rw [List.length_cons]; omega) k1 ⟨q3, fsr_fr rest hfsr.2 q2 (fun a a0 a1 z => by unfold FT at z; omega)⟩ ?_ i0 i10 (by omega) k6 (k7 hc) (by omega) ?_ ?_
          · rcases List.mem_cons.1 hz with e | e
            · rw [e]; exact k2
            · exact hrest z e
          · rw [List.length_cons, ell]
            exact CP_fr hPP q2 (fun a h => by unfold FT at h; unfold FRN; omega) q4 hq7.1 hq7.2 q5 q6.1 q6.2
          · have : mu (K.2.1 :: rest) = (K.2.1.1.length : Int) - K.2.1.2.1 + 1 + mu rest := rfl
            rw [this, k8, k9]; omega
          · have : mu (K.2.1 :: rest) = (K.2.1.1.length : Int) - K.2.1.2.1 + 1 + mu rest := rfl
            rw [this, k8, k9]; omega
        · have hq8 := q8 h.1
          have hFf := hF K.2.2.2.2.2 h.1 h.2.1
          rw [hc]
          have hcp : CPp S2 F K.2.2.1 K.2.2.2.1 K.2.2.2.2.1 (ic + 1) ((rest.length + 1 : Nat) : Int) := CP_fr hPP q2 (fun a h => by unfold FT at h; unfold FRN; omega) q4 (by rw [hq8.1]; omega) hq8.2.1 q5 q6.1 q6.2
          refine c_loopR hF hd (l := rest.length + 1) (by omega) h.1 h.2.1 hcp hq8.2.2 (by omega) (by omega) (fun S3 f3 hn3 => ?_)
          have g3 : fr FRN S0 S3 := fr_w g2 f3 (fun a h => by unfold FRN; omega)
          have f31 : ∀ a, a ≤ 197 → ¬ ((198 ≤ a ∧ a ≤ 200) ∨ (202 + 8 * (rest.length + 1) ≤ a ∧ a ≤ 207 + 8 * (rest.length + 1))) := fun a h => by omega
          have hcp3 : CPp S3 F K.2.2.1 K.2.2.2.1 K.2.2.2.2.1 (ic + 1) ((rest.length + 1 : Nat) : Int) := by
            obtain ⟨p3, hp3⟩ := q4
            refine CP_fr hcp f3 (fun a h => by unfold FRN; omega) ⟨p3, ctab_fr hp3 f3 (fun a _ a1 => f31 a (by omega))⟩ ?_ ?_ ?_ ?_ ?_
            · rw [fr_gv f3 (f31 2 (by omega))]; exact hcp.2.2.2.2.1
            · rw [fr_gv f3 (f31 2 (by omega))]; exact hcp.2.2.2.2.2.1
            · rw [fr_gv f3 (f31 3 (by omega))]; exact q5
            · rw [fr_gv f3 (f31 30 (by omega))]; exact q6.1
            · rw [fr_gL f3 (f31 31 (by omega)), fr_gA f3 (f31 32 (by omega))]; exact q6.2
          by_cases hs : (psc F K.2.2.2.2.2).1 = 0
          · rw [hpr4 hx hc (by omega) hs, hs]
            have hfn := hFf.2.2.2.2.2 hs
            have hn160 : (psc F K.2.2.2.2.2).2.length ≤ 160 := hfn.1.2.1
            have em : mu (newf (psc F K.2.2.2.2.2).2 :: K.2.1 :: rest) = ((psc F K.2.2.2.2.2).2.length : Int) - 0 + 1 + ((K.2.1.1.length : Int) - K.2.1.2.1 + 1 + mu rest) := rfl
            refine c_loop hF hd n (newf (psc F K.2.2.2.2.2).2 :: K.2.1 :: rest) S3 K.2.2.1 K.2.2.2.1 K.2.2.2.2.1 (ic + 1) (st + 1 + 1) g3 (fun z hz => ?_) (by rw [List.length_cons, List.length_cons]; omega) k1 ⟨hn3, frep_fr q3 f3 (fun a a0 a1 => by omega), fsr_fr rest (fsr_fr rest hfsr.2 q2 (fun a a0 a1 z => by unfold FT at z; omega)) f3 (fun a a0 a1 => by omega)⟩ ?_ (by omega) (by omega) (by omega) k6 (k7 hc) (by omega) ?_ ?_
            · rcases List.mem_cons.1 hz with e | e
              · rw [e]; exact hfn
              · rcases List.mem_cons.1 e with e | e
                · rw [e]; exact k2
                · exact hrest z e
            · have e2 : (((newf (psc F K.2.2.2.2.2).2 :: K.2.1 :: rest).length : Nat) : Int) - 1 = ((rest.length + 1 : Nat) : Int) := by rw [List.length_cons, List.length_cons]; omega
              rw [e2]
              exact hcp3
            · rw [em, k8, k9]; omega
            · rw [em, k8, k9]; omega
          · rw [hpr3 hx hc (by omega) hs]
            refine c_hd0 (by omega) (by omega) hFf.2.2.2.1 (by have := hFf.2.2.2.2.1; omega) (by rw [hcp3.2.2.2.2.1]; omega) (by rw [hcp3.2.2.2.2.1]; omega) (Or.inl hs) ?_
            exact ⟨rfl, g3, hcp3.1, hcp3.2.2.2.2.2.2.1, fun z => absurd z hs⟩
      · rw [hpr1 hx hc]
        refine c_hd0 (by omega) (by omega) k3 k4 hlo.1 hlo.2 (Or.inl hc) ?_
        exact ⟨rfl, g2, q4, q5, fun z => absurd z hc⟩
    · have hxe : nx = t.length := by omega
      refine c_hd1 s0 (by omega) (by rw [hlv]; omega) (by rw [hlv]; omega) (fun lv a0 a1 a3 a4 => ?_)
      refine c_runE_c (l := rest.length) (t := t) (pi := pi) (T := T) (cs := cs) (nx := nx) (gr := gr) (dp := dp) (ic := ic) (r := r) (ol := ol) hl hfr.1 hg.1 hg.2.1 hg.2.2.1 hT.1 hct h42 h201 hfr.2.1 hfr.2.2.1 hfr.2.2.2.1 hfr.2.2.2.2.1 hfr.2.2.2.2.2 hf.2.2.2.2.1 (fok_18 hf) hf.2.2.2.2.2.1 hdp hlv hic i0 i10 hr r0 r1 hoz ho hof hf.2.1 hf.2.2.1 hxe (fun S2 hS2 => ?_) hd 1 lv a0 a1 a3 a4 (by decide)
      have hxr := xg_R hT r (grp t gr t.length) ol r1
      have ee : (if ¬ (xg T r ol (grp t gr t.length)).1 = 0 then (xg T r ol (grp t gr t.length)).1 else if 0 < cs.length then 4 else 0) = pec (t, nx, gr, cs, dp) T r ol := rfl
      have ex : xg T r ol (grp t gr t.length) = xge (t, nx, gr, cs, dp) T r ol := rfl
      have hp1 : (xge (t, nx, gr, cs, dp) T r ol).1 = 0 ∨ ¬ pec (t, nx, gr, cs, dp) T r ol = 0 := by
        by_cases hz : (xge (t, nx, gr, cs, dp) T r ol).1 = 0
        · exact Or.inl hz
        · refine Or.inr ?_
          unfold pec
          rw [if_pos hz]
          exact hz
      have hp2 : 0 ≤ pec (t, nx, gr, cs, dp) T r ol ∧ pec (t, nx, gr, cs, dp) T r ol ≤ 99 := by
        rw [← ee]
        split
        · exact ⟨hxr.1, hxr.2.1⟩
        · split <;> decide
      rw [ee, ex] at *
      obtain ⟨q1, q2, q3, q4, q5⟩ := hS2
      have g2 : fr FRN S0 S2 := fr_w g q1 (fun a h => by unfold FRN; omega)
      have hct2 : ∃ pi, ctab S2 pi T := ⟨pi, ctab_fr hct q1 (fun a a0 a1 => by omega)⟩
      by_cases hc : pec (t, nx, gr, cs, dp) T r ol = 0
      · have hz : (xge (t, nx, gr, cs, dp) T r ol).1 = 0 := hp1.resolve_right (fun h => h hc)
        rw [pr_6 hx hc, hc]
        refine c_loop hF hd n rest S2 T _ _ ic (st + 1) g2 hrest (by omega) hT (fsr_fr rest hfsr.2 q1 (fun a a0 a1 => by omega)) ?_ i0 i10 (Int.le_trans r0 hxr.2.2.1) hxr.2.2.2.1 (hxr.2.2.2.2 hz) (by omega) (by omega) (by omega)
        exact CP_fr hPP q1 (fun a h => by unfold FRN; omega) hct2 q4 q5 q2 (q3 hz).1 (q3 hz).2
      · rw [pr_5 hx hc]
        refine c_hd0 (by omega) (by omega) hp2.1 hp2.2 (by rw [q4]; omega) (by rw [q4]; omega) (Or.inl hc) ?_
        exact ⟨rfl, g2, hct2, q2, fun z => absurd z hc⟩
