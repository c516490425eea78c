/-! What has come out: its words. -/
def ogw (ol : List OTok) : Prop := ∀ x, x ∈ ol → gw x.1 ∧ 0 ≤ x.2 ∧ x.2 ≤ 4000
theorem xg_gw {T : List Mac} (hT : TOK T) {r : Int} {G : List ETok} {ol : List OTok} (hr : r ≤ 30) (h1 : loks G) (h2 : lgw G) (ho : ogw ol) (hz : (xg T r ol G).1 = 0) : ogw (xg T r ol G).2.2 := by
  have e : (expL T 4000 r G []).1 = 0 := by
    by_cases c : (expL T 4000 r G []).1 = 0
    · exact c
    · have : (xg T r ol G).1 = (expL T 4000 r G []).1 := by unfold xg; rw [if_pos c]
      rw [← this]
      exact hz
  have g1 := expL_gw (fun k a b => (hT.2.2 k a b).1) (fun k a b => (hT.2.2 k a b).2) 4000 r G [] hr e h2 (fun x hx => absurd hx (by simp))
  have g2 := ((expL_r (fun k a b => (hT.2.2 k a b).1) 4000 r G [] hr).2.2.2.2 e).2 h1 (fun x hx => absurd hx (by simp))
  intro x hx
  have hx : x ∈ ol ++ (expL T 4000 r G []).2.2.map eot := hx
  rcases List.mem_append.1 hx with z | z
  · exact ho x z
  · obtain ⟨y, hy, hxy⟩ := List.mem_map.1 z
    rw [← hxy]
    exact ⟨g1 y hy, (g2 y hy).2.1, (g2 y hy).2.2⟩
theorem grp_ok {t : List Tok} (h : tgd t) {a b : Int} (a0 : 0 ≤ a) (ab : a ≤ b) (b1 : b ≤ t.length) : loks (grp t a b) ∧ lgw (grp t a b) := ⟨grN_ok h.1 _ _ a0 (by omega), grN_gw h.2.2.2 _ _ a0 (by omega)⟩
theorem tkl_gw {T : List Mac} {r : Int} {ol : List OTok} {t : List Tok} {nx gr : Int} {cs : List Cnd} {dp lv ic : Int} (hT : TOK T) (hf : fok (t, nx, gr, cs, dp)) (hr : r ≤ 30) (ho : ogw ol) : (tkl T r ol t nx gr cs dp lv ic).1 = 0 → ogw (tkl T r ol t nx gr cs dp lv ic).2.2.2.2.1 := by
  have hg := grp_ok (t := t) hf.1 (a := gr) (b := nx) hf.2.1 hf.2.2.1 hf.2.2.2.1
  by_cases c1 : skp cs = true ∧ (lvs (tx t) nx (lnE t nx) dp).1 = false
  · unfold tkl
    rw [if_pos c1]
    exact fun _ => ho
  · by_cases c2 : tx t nx = 35
    · by_cases c3 : (xg T r ol (grp t gr nx)).1 = 0
      · have := xg_gw hT hr hg.1 hg.2 ho c3
        unfold tkl
        rw [if_neg c1, if_neg (not_not_intro c2), if_neg (not_not_intro c3)]
        exact fun _ => this
      · unfold tkl
        rw [if_neg c1, if_neg (not_not_intro c2), if_pos c3]
        exact fun z => absurd z c3
    · unfold tkl
      rw [if_neg c1, if_pos c2]
      exact fun _ => ho
def POK (q : Prs) : Prop := 0 ≤ q.1 ∧ q.1 ≤ 99 ∧ TOK q.2.1 ∧ 0 ≤ q.2.2.1 ∧ q.2.2.1 ≤ 30 ∧ (q.1 = 0 → ogw q.2.2.2 ∧ q.2.2.2.length ≤ 100)
theorem prun_ok {F : Int → (Int → Int) × Int} (hF : Fok F) : ∀ (n : Nat) (fs : List Frm) (T : List Mac) (r : Int) (ol : List OTok) (ic : Int), foks fs → TOK T → 0 ≤ r → r ≤ 30 → ol.length ≤ 100 → ogw ol → POK (prun F n fs T r ol ic)
  | 0, fs, T, r, ol, ic, hfs, hT, r0, r1, ho, hg => ⟨by show (0 : Int) ≤ 99; decide, Int.le_refl _, hT, r0, r1, fun z => absurd z (by show ¬ (99 : Int) = 0; decide)⟩
  | n + 1, [], T, r, ol, ic, hfs, hT, r0, r1, ho, hg => ⟨Int.le_refl _, by show (0 : Int) ≤ 99; decide, hT, r0, r1, fun _ => ⟨hg, ho⟩⟩
  | n + 1, (t, nx, gr, cs, dp) :: rest, T, r, ol, ic, hfs, hT, r0, r1, ho, hg => by
    have hf : fok (t, nx, gr, cs, dp) := hfs _ (by simp)
    have hrest : foks rest := fun q hq => hfs q (by simp [hq])
    by_cases hx : nx < t.length
    · have kt := tkl_ok (lv := rest.length) (ic := ic) hT hf r1 ho hx
      have kg := tkl_gw (lv := rest.length) (ic := ic) hT hf r1 hg
      have ee : tkl T r ol t nx gr cs dp rest.length ic = tkf (t, nx, gr, cs, dp) rest.length T r ol ic := rfl
      rw [ee] at kt kg
      rw [pr_k (f := (t, nx, gr, cs, dp)) hx]
      revert kt kg
      generalize tkf (t, nx, gr, cs, dp) rest.length T r ol ic = K
      intro kt kg
      obtain ⟨k1, k2, k3, k4, k5, k6, k7, k8, k9, k10⟩ := kt
      have hkr := kR_r (F := F) (K := K) hF k3 k4 (by omega)
      by_cases hc : kR F K = 0
      · rw [if_neg (not_not_intro hc)]
        have hK1 : K.1 = 0 := by
          unfold kR at hc
          by_cases z : K.1 = 0
          · exact z
          · rw [if_pos z] at hc
            exact hc
        refine prun_ok hF n (kF F K rest) _ _ _ _ (fun z hz => ?_) k1 (by omega) k6 (k7 hK1) (kg hK1)
        unfold kF at hz
        split at hz
        · exact (List.mem_cons.1 hz).elim (fun e => by rw [e]; exact k2) (fun e => hrest z e)
        · rename_i hn2
          have h := k10.resolve_left (by omega)
          have hFf := hF K.2.2.2.2.2 h.1 h.2.1
          have hs : (psc F K.2.2.2.2.2).1 = 0 := by
            unfold kR at hc
            rw [if_neg (not_not_intro hK1), if_neg hn2] at hc
            exact hc
          exact (List.mem_cons.1 hz).elim (fun e => by rw [e]; exact hFf.2.2.2.2.2 hs) (fun e => (List.mem_cons.1 e).elim (fun e => by rw [e]; exact k2) (fun e => hrest z e))
      · rw [if_pos hc]
        exact ⟨hkr.1, hkr.2, k1, by show 0 ≤ K.2.2.2.1; omega, k6, fun z => absurd z hc⟩
    · have hxe : nx = t.length := by have : nx ≤ t.length := hf.2.2.2.1; omega
      have hxr : 0 ≤ (xge (t, nx, gr, cs, dp) T r ol).1 ∧ (xge (t, nx, gr, cs, dp) T r ol).1 ≤ 99 ∧ r ≤ (xge (t, nx, gr, cs, dp) T r ol).2.1 ∧ (xge (t, nx, gr, cs, dp) T r ol).2.1 ≤ 30 ∧ ((xge (t, nx, gr, cs, dp) T r ol).1 = 0 → (xge (t, nx, gr, cs, dp) T r ol).2.2.length ≤ 100) := xg_R hT r (grp t gr t.length) ol r1
      have hgo := grp_ok (t := t) hf.1 (a := gr) (b := t.length) hf.2.1 (by have : gr ≤ nx := hf.2.2.1; omega) (Int.le_refl _)
      have hxg : (xge (t, nx, gr, cs, dp) T r ol).1 = 0 → ogw (xge (t, nx, gr, cs, dp) T r ol).2.2 := fun z => xg_gw hT r1 hgo.1 hgo.2 hg z
      have hp2 : 0 ≤ pec (t, nx, gr, cs, dp) T r ol ∧ pec (t, nx, gr, cs, dp) T r ol ≤ 99 ∧ (pec (t, nx, gr, cs, dp) T r ol = 0 → (xge (t, nx, gr, cs, dp) T r ol).1 = 0) := by
        unfold pec
        split
        · rename_i z
          exact ⟨hxr.1, hxr.2.1, fun q => absurd q z⟩
        · rename_i z
          have z : (xge (t, nx, gr, cs, dp) T r ol).1 = 0 := by simpa using z
          split
          · exact ⟨by decide, by decide, fun _ => z⟩
          · exact ⟨by decide, by decide, fun _ => z⟩
      by_cases hc : pec (t, nx, gr, cs, dp) T r ol = 0
      · rw [pr_6 hx hc]
        exact prun_ok hF n rest T _ _ ic hrest hT (Int.le_trans r0 hxr.2.2.1) hxr.2.2.2.1 (hxr.2.2.2.2 (hp2.2.2 hc)) (hxg (hp2.2.2 hc))
      · rw [pr_5 hx hc]
        exact ⟨hp2.1, hp2.2.1, hT, Int.le_trans r0 hxr.2.2.1, hxr.2.2.2.1, fun z => absurd z hc⟩
theorem TOK_0 : TOK [] := ⟨⟨fun k k0 k1 => absurd k1 (by rw [List.length_nil]; omega), fun j k h => absurd h (by rw [List.length_nil]; omega)⟩, by decide, fun k k0 k1 => absurd k1 (by rw [List.length_nil]; omega)⟩
theorem pall_ok {F : Int → (Int → Int) × Int} (hF : Fok F) {f : Int} (f0 : 0 ≤ f) (f2 : f ≤ 2) : POK (pall F f) := by
  have hFf := hF f f0 f2
  unfold pall
  by_cases c : (psc F f).1 = 0
  · rw [if_neg (not_not_intro c)]
    exact prun_ok hF 2000 _ _ _ _ _ (fun z hz => by rw [List.mem_singleton.1 hz]; exact hFf.2.2.2.2.2 c) TOK_0 (by decide) (by decide) (by decide) (fun x hx => absurd hx (by simp))
  · rw [if_pos c]
    exact ⟨hFf.2.2.2.1, by have := hFf.2.2.2.2.1; show (psc F f).1 ≤ 99; omega, TOK_0, Int.le_refl _, by show (0 : Int) ≤ 30; decide, fun z => absurd z c⟩
