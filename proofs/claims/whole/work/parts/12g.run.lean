/-! All files of a translation: what they give, and the class on them. -/
def newf (t : List Tok) : Frm := (t, 0, 0, [], 0)
def psc (F : Int → (Int → Int) × Int) (f : Int) : Int × List Tok := scan (F f).1 (F f).2 f
def tkf (f : Frm) (lv : Int) (T : List Mac) (r : Int) (ol : List OTok) (ic : Int) : Tlr := tkl T r ol f.1 f.2.1 f.2.2.1 f.2.2.2.1 f.2.2.2.2 lv ic
def xge (f : Frm) (T : List Mac) (r : Int) (ol : List OTok) : Int × Int × List OTok := xg T r ol (grp f.1 f.2.2.1 f.1.length)
def pec (f : Frm) (T : List Mac) (r : Int) (ol : List OTok) : Int := if ¬ (xge f T r ol).1 = 0 then (xge f T r ol).1 else if 0 < f.2.2.2.1.length then 4 else 0
abbrev Prs : Type := Int × List Mac × Int × List OTok
def prun (F : Int → (Int → Int) × Int) : Nat → List Frm → List Mac → Int → List OTok → Int → Prs
  | 0, _, T, r, ol, _ => (99, T, r, ol)
  | _ + 1, [], T, r, ol, _ => (0, T, r, ol)
  | n + 1, f :: rest, T, r, ol, ic =>
    if f.2.1 < f.1.length then
      (if ¬ (tkf f rest.length T r ol ic).1 = 0 then ((tkf f rest.length T r ol ic).1, (tkf f rest.length T r ol ic).2.2.1, (tkf f rest.length T r ol ic).2.2.2.1, [])
       else if (tkf f rest.length T r ol ic).2.2.2.2.2 < 0 then prun F n ((tkf f rest.length T r ol ic).2.1 :: rest) (tkf f rest.length T r ol ic).2.2.1 (tkf f rest.length T r ol ic).2.2.2.1 (tkf f rest.length T r ol ic).2.2.2.2.1 ic
       else if ¬ (psc F (tkf f rest.length T r ol ic).2.2.2.2.2).1 = 0 then ((psc F (tkf f rest.length T r ol ic).2.2.2.2.2).1, (tkf f rest.length T r ol ic).2.2.1, (tkf f rest.length T r ol ic).2.2.2.1, [])
       else prun F n (newf (psc F (tkf f rest.length T r ol ic).2.2.2.2.2).2 :: (tkf f rest.length T r ol ic).2.1 :: rest) (tkf f rest.length T r ol ic).2.2.1 (tkf f rest.length T r ol ic).2.2.2.1 (tkf f rest.length T r ol ic).2.2.2.2.1 (ic + 1))
    else (if ¬ pec f T r ol = 0 then (pec f T r ol, T, (xge f T r ol).2.1, []) else prun F n rest T (xge f T r ol).2.1 (xge f T r ol).2.2 ic)
def pall (F : Int → (Int → Int) × Int) (f : Int) : Prs := if ¬ (psc F f).1 = 0 then ((psc F f).1, [], 0, []) else prun F 2000 [newf (psc F f).2] [] 0 [] 0
section PRUN
variable {F : Int → (Int → Int) × Int} {n : Nat} {f : Frm} {rest : List Frm} {T : List Mac} {r : Int} {ol : List OTok} {ic : Int}
theorem pr_0 : prun F (n + 1) [] T r ol ic = (0, T, r, ol) := rfl
theorem pr_1 (h : f.2.1 < f.1.length) (h1 : ¬ (tkf f rest.length T r ol ic).1 = 0) : prun F (n + 1) (f :: rest) T r ol ic = ((tkf f rest.length T r ol ic).1, (tkf f rest.length T r ol ic).2.2.1, (tkf f rest.length T r ol ic).2.2.2.1, []) := by
  unfold prun
  rw [if_pos h, if_pos h1]
theorem pr_2 (h : f.2.1 < f.1.length) (h1 : (tkf f rest.length T r ol ic).1 = 0) (h2 : (tkf f rest.length T r ol ic).2.2.2.2.2 < 0) : prun F (n + 1) (f :: rest) T r ol ic = prun F n ((tkf f rest.length T r ol ic).2.1 :: rest) (tkf f rest.length T r ol ic).2.2.1 (tkf f rest.length T r ol ic).2.2.2.1 (tkf f rest.length T r ol ic).2.2.2.2.1 ic := by
  rw [prun, if_pos h, if_neg (not_not_intro h1), if_pos h2]
theorem pr_3 (h : f.2.1 < f.1.length) (h1 : (tkf f rest.length T r ol ic).1 = 0) (h2 : ¬ (tkf f rest.length T r ol ic).2.2.2.2.2 < 0) (h3 : ¬ (psc F (tkf f rest.length T r ol ic).2.2.2.2.2).1 = 0) : prun F (n + 1) (f :: rest) T r ol ic = ((psc F (tkf f rest.length T r ol ic).2.2.2.2.2).1, (tkf f rest.length T r ol ic).2.2.1, (tkf f rest.length T r ol ic).2.2.2.1, []) := by
  rw [prun, if_pos h, if_neg (not_not_intro h1), if_neg h2, if_pos h3]
theorem pr_4 (h : f.2.1 < f.1.length) (h1 : (tkf f rest.length T r ol ic).1 = 0) (h2 : ¬ (tkf f rest.length T r ol ic).2.2.2.2.2 < 0) (h3 : (psc F (tkf f rest.length T r ol ic).2.2.2.2.2).1 = 0) : prun F (n + 1) (f :: rest) T r ol ic = prun F n (newf (psc F (tkf f rest.length T r ol ic).2.2.2.2.2).2 :: (tkf f rest.length T r ol ic).2.1 :: rest) (tkf f rest.length T r ol ic).2.2.1 (tkf f rest.length T r ol ic).2.2.2.1 (tkf f rest.length T r ol ic).2.2.2.2.1 (ic + 1) := by
  rw [prun, if_pos h, if_neg (not_not_intro h1), if_neg h2, if_neg (not_not_intro h3)]
theorem pr_5 (h : ¬ f.2.1 < f.1.length) (h1 : ¬ pec f T r ol = 0) : prun F (n + 1) (f :: rest) T r ol ic = (pec f T r ol, T, (xge f T r ol).2.1, []) := by
  unfold prun
  rw [if_neg h, if_pos h1]
theorem pr_6 (h : ¬ f.2.1 < f.1.length) (h1 : pec f T r ol = 0) : prun F (n + 1) (f :: rest) T r ol ic = prun F n rest T (xge f T r ol).2.1 (xge f T r ol).2.2 ic := by
  rw [prun, if_neg h, if_neg (not_not_intro h1)]
end PRUN
def mu : List Frm → Int
  | [] => 0
  | f :: rest => (f.1.length : Int) - f.2.1 + 1 + mu rest
def fsr (S : w_S) : List Frm → Prop
  | [] => True
  | f :: rest => frep S rest.length f ∧ fsr S rest
def foks (fs : List Frm) : Prop := ∀ f, f ∈ fs → fok f
theorem mu_n : ∀ fs : List Frm, foks fs → 0 ≤ mu fs
  | [], _ => Int.le_refl 0
  | f :: rest, h => by
    have h1 := (h f (by simp)).2.2.2.1
    have := mu_n rest (fun g hg => h g (by simp [hg]))
    show 0 ≤ (f.1.length : Int) - f.2.1 + 1 + mu rest
    omega
theorem frep_fr {c : Nat → Prop} {S S2 : w_S} {l : Nat} {f : Frm} (h : frep S l f) (g : fr c S S2) (hc : ∀ a, 202 + 8 * l ≤ a → a ≤ 209 + 8 * l → ¬ c a) : frep S2 l f := ⟨srep_fr h.1 g (fun a a0 a1 => hc a (by omega) (by omega)), by rw [fr_gv g (hc _ (by omega) (by omega))]; exact h.2.1, by rw [fr_gv g (hc _ (by omega) (by omega))]; exact h.2.2.1, by rw [fr_gv g (hc _ (by omega) (by omega))]; exact h.2.2.2.1, crep_fr h.2.2.2.2.1 g (by rw [fr_gv g (hc _ (by omega) (by omega))]) (by rw [fr_gv g (hc _ (by omega) (by omega))]) (hc _ (by omega) (by omega)) (hc _ (by omega) (by omega)), by rw [fr_gv g (hc _ (by omega) (by omega))]; exact h.2.2.2.2.2⟩
theorem fsr_fr {c : Nat → Prop} {S S2 : w_S} : ∀ (fs : List Frm), fsr S fs → fr c S S2 → (∀ a, 202 ≤ a → a < 202 + 8 * fs.length → ¬ c a) → fsr S2 fs
  | [], _, _, _ => trivial
  | f :: rest, h, g, hc => by
    rw [List.length_cons] at hc
    exact ⟨frep_fr h.1 g (fun a a0 a1 => hc a (by omega) (by omega)), fsr_fr rest h.2 g (fun a a0 a1 => hc a (by omega) (by omega))⟩
def HRp (sc : x_S) (d : Nat) (S : w_S) (Q : Option Value → w_S → Prop) (st wr : Int) : Prop := ∀ lv : x_L, lv 0 = some (.ref 2) → lv 1 = some (.ref 1) → lv 3 = some (.int (iZ wr)) → lv 4 = some (.int (iZ st)) → w_T sc d 64 32 lv [] S Q
def FRN (a : Nat) : Prop := (2 ≤ a ∧ a ≤ 41) ∨ (43 ≤ a ∧ a ≤ 200) ∨ (202 ≤ a ∧ a ≤ 233)
/-- how the class stands between two lines -/
def CPp (S : w_S) (F : Int → (Int → Int) × Int) (T : List Mac) (r : Int) (ol : List OTok) (ic lv : Int) : Prop := (∃ pi, ctab S pi T) ∧ (∀ k : Int, 0 ≤ k → k < 31 → sR S 42 k = some (43 + 5 * k.toNat)) ∧ (∀ k : Int, 0 ≤ k → k < 4 → sR S 201 k = some (202 + 8 * k.toNat)) ∧ (∀ k : Int, 0 ≤ k → k < 3 → sR S 1 k = some (243 + 2 * k.toNat) ∧ sv S (243 + 2 * k.toNat) 1 = (F k).2 ∧ sA S (244 + 2 * k.toNat) = (F k).1) ∧ sv S 2 3 = lv ∧ sv S 2 4 = ic ∧ sv S 3 2 = r ∧ sv S 30 2 = ol.length ∧ ofn (sL S 31) (sA S 32) 256 0 ol
def Fok (F : Int → (Int → Int) × Int) : Prop := ∀ f : Int, 0 ≤ f → f ≤ 2 → 0 ≤ (F f).2 ∧ (F f).2 ≤ 160 ∧ (∀ i, 0 ≤ i → i < (F f).2 → 0 ≤ (F f).1 i ∧ (F f).1 i < 128) ∧ 0 ≤ (psc F f).1 ∧ (psc F f).1 ≤ 9 ∧ ((psc F f).1 = 0 → fok (newf (psc F f).2))
theorem c_runR_c {sc : x_S} {d : Nat} {S : w_S} {Q : Option Value → w_S → Prop} {st : Int} {l f : Nat} (hl : l < 4) (hf3 : f < 3) (h201 : ∀ k : Int, 0 ≤ k → k < 4 → sR S 201 k = some (202 + 8 * k.toNat)) (hlv : sv S 2 3 = l) (hfl : sR S 1 f = some (243 + 2 * f)) (hff : sv S (202 + 8 * l) 0 = f) (hnr : sv S (202 + 8 * l) 1 = 0) (hz0 : sv S (203 + 8 * l) 2 = 0) (h0 : 0 ≤ sv S (243 + 2 * f) 1) (h1 : sv S (243 + 2 * f) 1 ≤ 160) (hg : ∀ i, 0 ≤ i → i < sv S (243 + 2 * f) 1 → 0 ≤ sA S (244 + 2 * f) i ∧ sA S (244 + 2 * f) i < 128) (K : ∀ S2, (fr (fun a => (198 ≤ a ∧ a ≤ 200) ∨ (202 + 8 * l ≤ a ∧ a ≤ 207 + 8 * l)) S S2 ∧ srep S2 l (scan (sA S (244 + 2 * f)) (sv S (243 + 2 * f) 1) (sv S (202 + 8 * l) 0)).2 ∧ sv S2 (202 + 8 * l) 1 = 1 ∧ ∀ k, ¬ k = 1 → sv S2 (202 + 8 * l) k = sv S (202 + 8 * l) k) → HRp sc d S2 Q (st + 1) (scan (sA S (244 + 2 * f)) (sv S (243 + 2 * f) 1) (sv S (202 + 8 * l) 0)).1) (hd : 10 ≤ d) : ∀ n : Nat, (∀  (lv : x_L) (l0 : lv 0 = some (.ref 2)) (l1 : lv 1 = some (.ref 1)) (l3 : lv 3 = some (.int (iZ 0))) (l4 : lv 4 = some (.int (iZ st)))  (hm : 0 < n), w_T sc d 64 51 lv [] S Q) := by
  intro n
  induction n with
  | zero => exact fun lv l0 l1 l3 l4 hm => absurd hm (Nat.not_lt_zero _)
  | succ n ih =>
    intro lv l0 l1 l3 l4 hm
    refine w_aload_n rfl l0 rfl ?_
    refine w_getR rfl rfl sh_2 rfl rfl ?_
    refine w_aload_n rfl l0 rfl ?_
    refine w_getI (z := (l : Int)) rfl rfl sh_2 rfl hlv rfl ?_
    refine w_aald rfl sh_201 rfl (by omega) (by omega) (by decide) (by have q := h201 l (by omega) (by omega); rw [Int.toNat_natCast] at q; exact q) rfl ?_
    refine w_astore rfl (by decide) rfl ?_
    refine w_aload rfl rfl rfl ?_
    refine w_getI (z := 0) rfl rfl (sh_src hl) rfl hnr rfl ?_
    refine w_if_ne (pc2 := 90) (pc3 := 70) rfl (by decide) rfl ⟨by decide, by decide⟩ (fun hc => absurd hc (by decide)) (fun _ => ?_)
    refine w_aload_n rfl l0 rfl ?_
    refine w_getR rfl rfl sh_2 rfl rfl ?_
    refine w_aload_n rfl l1 rfl ?_
    refine w_aload rfl rfl rfl ?_
    refine w_getI (z := (f : Int)) rfl rfl (sh_src hl) rfl hff rfl ?_
    refine w_aald rfl sh_1 rfl (by omega) (by omega) (by decide) hfl rfl ?_
    refine w_aload rfl rfl rfl ?_
    refine w_CV (as := [.ref (243 + 2 * f), .ref (202 + 8 * l)]) (r := []) rfl rfl rfl rfl sh_198 (Nat.le_of_ble_eq_true rfl) (Nat.le_of_ble_eq_true rfl) (by omega) rfl (c_read (f := f) (l := l) hf3 h0 h1 hg hl hz0 (by omega)) ?_
    rintro _ V ⟨rfl, hrd⟩
    show w_T _ _ 64 86 _ [.int (iZ ((scan (sA S (244 + 2 * f)) (sv S (243 + 2 * f) 1) (sv S (202 + 8 * l) 0)).1))] _ _
    refine w_istore_n rfl (by decide) rfl ?_
    refine w_goto (pc2 := 123) rfl (by decide) ?_
    refine w_iinc rfl (congrArg x_k2 l4) (by decide) rfl ?_
    refine w_goto (pc2 := 32) rfl (by decide) ?_
    exact K V hrd _ (by exact l0) (by exact l1) (by exact rfl) (by exact rfl)
theorem c_runL_c {sc : x_S} {d : Nat} {S : w_S} {l : Nat} {t : List Tok} {pi : Nat → Nat} {T : List Mac} {cs : List Cnd} {nx gr dp ic r : Int} {ol : List OTok} {Q : Option Value → w_S → Prop} {st : Int} (hl : l < 4) (hs : srep S l t) (hto : tkok t) (ht6 : t.length ≤ 160) (hln : ∀ j : Int, 0 ≤ j → j < t.length → 0 ≤ tln t j ∧ tln t j ≤ 4000) (hT : tabok T) (ht : ctab S pi T) (h42 : ∀ k : Int, 0 ≤ k → k < 31 → sR S 42 k = some (43 + 5 * k.toNat)) (h201 : ∀ k : Int, 0 ≤ k → k < 4 → sR S 201 k = some (202 + 8 * k.toNat)) (h1 : sv S (202 + 8 * l) 1 = 1) (h7 : sv S (202 + 8 * l) 7 = nx) (h8g : sv S (202 + 8 * l) 8 = gr) (hc : crep S l cs) (h11 : sv S (202 + 8 * l) 11 = dp) (hq : csok cs) (h18 : cs.length < 18) (d0 : 0 ≤ dp) (d1 : dp ≤ 180) (hlv : sv S 2 3 = l) (hic : sv S 2 4 = ic) (i0 : 0 ≤ ic) (i10 : ic ≤ 10) (hr : sv S 3 2 = r) (r0 : 0 ≤ r) (hr3 : r ≤ 30) (hoz : sv S 30 2 = ol.length) (ho1 : ol.length ≤ 100) (hof : ofn (sL S 31) (sA S 32) 256 0 ol) (g0 : 0 ≤ gr) (g1 : gr ≤ nx) (g2 : nx < t.length) (K : ∀ S2, TLp S S2 l ic (tkl T r ol t nx gr cs dp l ic) (some (.int (iZ (tkl T r ol t nx gr cs dp l ic).1))) → HRp sc d S2 Q (st + 1) (tkl T r ol t nx gr cs dp l ic).1) (hd : 140 ≤ d) : ∀ n : Nat, (∀  (lv : x_L) (l0 : lv 0 = some (.ref 2)) (l1 : lv 1 = some (.ref 1)) (l3 : lv 3 = some (.int (iZ 0))) (l4 : lv 4 = some (.int (iZ st)))  (hm : 0 < n), w_T sc d 64 51 lv [] S Q) := by
  intro n
  induction n with
  | zero => exact fun lv l0 l1 l3 l4 hm => absurd hm (Nat.not_lt_zero _)
  | succ n ih =>
    intro lv l0 l1 l3 l4 hm
    refine w_aload_n rfl l0 rfl ?_
    refine w_getR rfl rfl sh_2 rfl rfl ?_
    refine w_aload_n rfl l0 rfl ?_
    refine w_getI (z := (l : Int)) rfl rfl sh_2 rfl hlv rfl ?_
    refine w_aald rfl sh_201 rfl (by omega) (by omega) (by decide) (by have q := h201 l (by omega) (by omega); rw [Int.toNat_natCast] at q; exact q) rfl ?_
    refine w_astore rfl (by decide) rfl ?_
    refine w_aload rfl rfl rfl ?_
    refine w_getI (z := 1) rfl rfl (sh_src hl) rfl h1 rfl ?_
    refine w_if_ne (pc2 := 90) (pc3 := 70) rfl (by decide) rfl ⟨by decide, by decide⟩ (fun _ => ?_) (fun hc => absurd hc (by decide))
    refine w_aload rfl rfl rfl ?_
    refine w_getI (z := nx) rfl rfl (sh_src hl) rfl h7 rfl ?_
    refine w_aload rfl rfl rfl ?_
    refine w_getR rfl rfl (sh_src hl) rfl rfl ?_
    refine w_getI (z := (t.length : Int)) rfl rfl (sh_srow hl).1 rfl hs.1 rfl ?_
    refine w_ic_ge (pc2 := 116) (pc3 := 106) rfl (by decide) rfl ⟨by omega, by omega⟩ ⟨by omega, by omega⟩ (fun c103 => ?_) (fun c103 => ?_)
    · omega
    · skip
      refine w_aload_n rfl l0 rfl ?_
      refine w_aload rfl rfl rfl ?_
      refine w_CV (as := [.ref (202 + 8 * l)]) (r := []) rfl rfl rfl rfl sh_2 (Nat.le_of_ble_eq_true rfl) (Nat.le_of_ble_eq_true rfl) (by omega) rfl (c_tkl (l := l) (t := t) (pi := pi) (T := T) (cs := cs) (nx := nx) (gr := gr) (dp := dp) (ic := ic) (r := r) (ol := ol) hl hs hto ht6 hln hT ht h42 h201 h1 h7 h8g hc h11 hq h18 d0 d1 hlv hic i0 i10 hr r0 hr3 hoz ho1 hof g0 g1 g2 (by omega)) ?_
      rintro _ V ⟨rfl, hrd⟩
      show w_T _ _ 64 112 _ [.int (iZ ((tkl T r ol t nx gr cs dp l ic).1))] _ _
      refine w_istore_n rfl (by decide) rfl ?_
      refine w_goto (pc2 := 123) rfl (by decide) ?_
      refine w_iinc rfl (congrArg x_k2 l4) (by decide) rfl ?_
      refine w_goto (pc2 := 32) rfl (by decide) ?_
      exact K V ⟨rfl, hrd⟩ _ (by exact l0) (by exact l1) (by exact rfl) (by exact rfl)
theorem c_runE_c {sc : x_S} {d : Nat} {S : w_S} {l : Nat} {t : List Tok} {pi : Nat → Nat} {T : List Mac} {cs : List Cnd} {nx gr dp ic r : Int} {ol : List OTok} {Q : Option Value → w_S → Prop} {st : Int} (hl : l < 4) (hs : srep S l t) (hto : tkok t) (ht6 : t.length ≤ 160) (hln : ∀ j : Int, 0 ≤ j → j < t.length → 0 ≤ tln t j ∧ tln t j ≤ 4000) (hT : tabok T) (ht : ctab S pi T) (h42 : ∀ k : Int, 0 ≤ k → k < 31 → sR S 42 k = some (43 + 5 * k.toNat)) (h201 : ∀ k : Int, 0 ≤ k → k < 4 → sR S 201 k = some (202 + 8 * k.toNat)) (h1 : sv S (202 + 8 * l) 1 = 1) (h7 : sv S (202 + 8 * l) 7 = nx) (h8g : sv S (202 + 8 * l) 8 = gr) (hc : crep S l cs) (h11 : sv S (202 + 8 * l) 11 = dp) (hq : csok cs) (h18 : cs.length < 18) (d0 : 0 ≤ dp) (d1 : dp ≤ 180) (hlv : sv S 2 3 = l) (hic : sv S 2 4 = ic) (i0 : 0 ≤ ic) (i10 : ic ≤ 10) (hr : sv S 3 2 = r) (r0 : 0 ≤ r) (hr3 : r ≤ 30) (hoz : sv S 30 2 = ol.length) (ho1 : ol.length ≤ 100) (hof : ofn (sL S 31) (sA S 32) 256 0 ol) (g0 : 0 ≤ gr) (g1 : gr ≤ nx) (g2 : nx = t.length) (K : ∀ S2, (fr (fun a => a = 2 ∨ a = 3 ∨ (30 ≤ a ∧ a ≤ 41) ∨ (43 ≤ a ∧ a ≤ 197)) S S2 ∧ sv S2 3 2 = (xg T r ol (grp t gr t.length)).2.1 ∧ ((xg T r ol (grp t gr t.length)).1 = 0 → sv S2 30 2 = (xg T r ol (grp t gr t.length)).2.2.length ∧ ofn (sL S2 31) (sA S2 32) 256 0 (xg T r ol (grp t gr t.length)).2.2) ∧ sv S2 2 3 = l - 1 ∧ sv S2 2 4 = ic) → HRp sc d S2 Q (st + 1) (if ¬ (xg T r ol (grp t gr t.length)).1 = 0 then (xg T r ol (grp t gr t.length)).1 else if 0 < cs.length then 4 else 0)) (hd : 140 ≤ d) : ∀ n : Nat, (∀  (lv : x_L) (l0 : lv 0 = some (.ref 2)) (l1 : lv 1 = some (.ref 1)) (l3 : lv 3 = some (.int (iZ 0))) (l4 : lv 4 = some (.int (iZ st)))  (hm : 0 < n), w_T sc d 64 51 lv [] S Q) := by
  intro n
  induction n with
  | zero => exact fun lv l0 l1 l3 l4 hm => absurd hm (Nat.not_lt_zero _)
  | succ n ih =>
    intro lv l0 l1 l3 l4 hm
    refine w_aload_n rfl l0 rfl ?_
    refine w_getR rfl rfl sh_2 rfl rfl ?_
    refine w_aload_n rfl l0 rfl ?_
    refine w_getI (z := (l : Int)) rfl rfl sh_2 rfl hlv rfl ?_
    refine w_aald rfl sh_201 rfl (by omega) (by omega) (by decide) (by have q := h201 l (by omega) (by omega); rw [Int.toNat_natCast] at q; exact q) rfl ?_
    refine w_astore rfl (by decide) rfl ?_
    refine w_aload rfl rfl rfl ?_
    refine w_getI (z := 1) rfl rfl (sh_src hl) rfl h1 rfl ?_
    refine w_if_ne (pc2 := 90) (pc3 := 70) rfl (by decide) rfl ⟨by decide, by decide⟩ (fun _ => ?_) (fun hc => absurd hc (by decide))
    refine w_aload rfl rfl rfl ?_
    refine w_getI (z := nx) rfl rfl (sh_src hl) rfl h7 rfl ?_
    refine w_aload rfl rfl rfl ?_
    refine w_getR rfl rfl (sh_src hl) rfl rfl ?_
    refine w_getI (z := (t.length : Int)) rfl rfl (sh_srow hl).1 rfl hs.1 rfl ?_
    refine w_ic_ge (pc2 := 116) (pc3 := 106) rfl (by decide) rfl ⟨by omega, by omega⟩ ⟨by omega, by omega⟩ (fun c103 => ?_) (fun c103 => ?_)
    · skip
      refine w_aload_n rfl l0 rfl ?_
      refine w_aload rfl rfl rfl ?_
      refine w_CV (as := [.ref (202 + 8 * l)]) (r := []) rfl rfl rfl rfl sh_2 (Nat.le_of_ble_eq_true rfl) (Nat.le_of_ble_eq_true rfl) (by omega) rfl (c_end (l := l) (t := t) (pi := pi) (T := T) (cs := cs) (nx := nx) (gr := gr) (dp := dp) (ic := ic) (r := r) (ol := ol) hl hs hto ht6 hln hT ht h42 h201 h1 h7 h8g hc h11 hq h18 d0 d1 hlv hic i0 i10 hr r0 hr3 hoz ho1 hof g0 g1 (by omega) (by omega)) ?_
      rintro _ V ⟨rfl, hrd⟩
      show w_T _ _ 64 122 _ [.int (iZ ((if ¬ (xg T r ol (grp t gr t.length)).1 = 0 then (xg T r ol (grp t gr t.length)).1 else if 0 < cs.length then 4 else 0)))] _ _
      refine w_istore_n rfl (by decide) rfl ?_
      refine w_iinc rfl (congrArg x_k2 l4) (by decide) rfl ?_
      refine w_goto (pc2 := 32) rfl (by decide) ?_
      exact K V hrd _ (by exact l0) (by exact l1) (by exact rfl) (by exact rfl)
    · omega
theorem c_hd0 {sc : x_S} {d : Nat} {S : w_S} {Q : Option Value → w_S → Prop} {st wr : Int} (s0 : 0 ≤ st) (s1 : st ≤ 1782) (w0 : 0 ≤ wr) (w1 : wr ≤ 99) (l0 : -1 ≤ sv S 2 3) (l1 : sv S 2 3 ≤ 4) (h : ¬ wr = 0 ∨ sv S 2 3 < 0) (hQ : Q (some (.int (iZ wr))) S) : HRp sc d S Q st wr := by
  intro lv a0 a1 a3 a4
  have hend : w_T sc d 64 129 lv [] S Q := by
    refine w_iload_n rfl a3 rfl ?_
    refine w_iret rfl rfl ?_
    exact hQ
  refine w_iload rfl a4 rfl ?_
  refine w_sipush rfl (by decide) rfl ?_
  refine w_ic_ge (pc2 := 129) (pc3 := 40) rfl (by decide) rfl ⟨by omega, by omega⟩ ⟨by decide, by decide⟩ (fun c => ?_) (fun c => ?_)
  · exact hend
  · refine w_aload_n rfl a0 rfl ?_
    refine w_getI (z := sv S 2 3) rfl rfl sh_2 rfl rfl rfl ?_
    refine w_if_lt (pc2 := 129) (pc3 := 47) rfl (by decide) rfl ⟨by omega, by omega⟩ (fun c2 => ?_) (fun c2 => ?_)
    · exact hend
    · refine w_iload_n rfl a3 rfl ?_
      refine w_if_ne (pc2 := 129) (pc3 := 51) rfl (by decide) rfl ⟨by omega, by omega⟩ (fun c3 => ?_) (fun c3 => ?_)
      · exact hend
      · omega
theorem c_hd1 {sc : x_S} {d : Nat} {S : w_S} {Q : Option Value → w_S → Prop} {st : Int} (s0 : 0 ≤ st) (s1 : st < 1782) (l0 : 0 ≤ sv S 2 3) (l1 : sv S 2 3 ≤ 4) (h : ∀ lv : x_L, lv 0 = some (.ref 2) → lv 1 = some (.ref 1) → lv 3 = some (.int (iZ 0)) → lv 4 = some (.int (iZ st)) → w_T sc d 64 51 lv [] S Q) : HRp sc d S Q st 0 := by
  intro lv a0 a1 a3 a4
  refine w_iload rfl a4 rfl ?_
  refine w_sipush rfl (by decide) rfl ?_
  refine w_ic_ge (pc2 := 129) (pc3 := 40) rfl (by decide) rfl ⟨by omega, by omega⟩ ⟨by decide, by decide⟩ (fun c => ?_) (fun c => ?_)
  · omega
  · refine w_aload_n rfl a0 rfl ?_
    refine w_getI (z := sv S 2 3) rfl rfl sh_2 rfl rfl rfl ?_
    refine w_if_lt (pc2 := 129) (pc3 := 47) rfl (by decide) rfl ⟨by omega, by omega⟩ (fun c2 => ?_) (fun c2 => ?_)
    · omega
    · refine w_iload_n rfl a3 rfl ?_
      refine w_if_ne (pc2 := 129) (pc3 := 51) rfl (by decide) rfl ⟨by decide, by decide⟩ (fun c3 => absurd rfl c3) (fun c3 => ?_)
      exact h lv a0 a1 a3 a4
