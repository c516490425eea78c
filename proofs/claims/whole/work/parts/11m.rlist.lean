/-! The reference expands a list, whole. -/
theorem xs_gw {T : List Mac} (hM : ∀ k : Int, 0 ≤ k → k < T.length → mok (mg T k)) (hB : ∀ k : Int, 0 ≤ k → k < T.length → bg (mg T k)) {n : Nat} {r : Int} {t : ETok} {ts : List ETok} (hl : lgw (t :: ts)) (c : ¬ mtx T t ts < 0) (c1 : (xcall (mg T (mtx T t ts)) t ts).1 = 0) (c2 : ¬ 30 ≤ r) (c3 : (exArgs (fun r a => expL T n r a []) ((xcall (mg T (mtx T t ts)) t ts).2.1.take (mg T (mtx T t ts)).2.2.1.length) (r + 1)).1 = 0) (c4 : (mrep (mg T (mtx T t ts)) (xcall (mg T (mtx T t ts)) t ts).2.1 (exArgs (fun r a => expL T n r a []) ((xcall (mg T (mtx T t ts)) t ts).2.1.take (mg T (mtx T t ts)).2.2.1.length) (r + 1)).2.2 t.2.1).1 = 0) : lgw ((mrep (mg T (mtx T t ts)) (xcall (mg T (mtx T t ts)) t ts).2.1 (exArgs (fun r a => expL T n r a []) ((xcall (mg T (mtx T t ts)) t ts).2.1.take (mg T (mtx T t ts)).2.2.1.length) (r + 1)).2.2 t.2.1).2.map (addE (xhid (mg T (mtx T t ts)) t (xcall (mg T (mtx T t ts)) t ts).2.2.1)) ++ (xcall (mg T (mtx T t ts)) t ts).2.2.2) := by
  have m := mtx_r c
  have hbb := hB (mtx T t ts) (by omega) (by omega)
  have hxa : ∀ a, a ∈ (xcall (mg T (mtx T t ts)) t ts).2.1 → lgw a := fun a ha y hy => hl y (List.mem_cons_of_mem _ (xcall_mem c1 a ha y hy))
  have hgo := exArgs_gw (f := fun r a => expL T n r a []) (fun r a hr => (expL_r hM n r a [] hr).2.2.2.1) (fun r a hr hz ha => expL_gw hM hB n r a [] hr hz ha (fun x hx => absurd hx (by simp))) ((xcall (mg T (mtx T t ts)) t ts).2.1.take (mg T (mtx T t ts)).2.2.1.length) (r + 1) (by omega) (fun a ha => hxa a (List.mem_of_mem_take ha)) c3
  have hk := mkr_gw hbb hxa hgo 13 0 [] 0 _ (Int.le_refl 0) (fun x hx => absurd hx (by simp)) (mrep_r.2.2 c4).1
  intro y hy
  rcases List.mem_append.mp hy with z | z
  · obtain ⟨w, hw, rfl⟩ := List.mem_map.mp z
    exact hk w hw
  · refine hl y (List.mem_cons_of_mem _ ?_)
    unfold xcall at c1 z
    by_cases cc : (mg T (mtx T t ts)).2.1 = true
    · rw [if_pos cc] at c1 z
      exact List.mem_of_mem_tail (fa_mem2 _ _ _ _ _ (fargs_r.2.2 c1).1 y z)
    · rw [if_neg cc] at z
      exact z
theorem RR {sc : x_S} {d : Nat} {Q : Option Value → w_S → Prop} {nm : Nat → Int64} {sg : Nat → Nat} {T : List Mac} {n : Nat} (H : RXp sc d Q nm sg T n) (hM : ∀ k : Int, 0 ≤ k → k < T.length → mok (mg T k)) (hB : ∀ k : Int, 0 ≤ k → k < T.length → bg (mg T k)) {S W S3 : w_S} {i b g0 r s s3 z : Int} {t : ETok} {ts dn : List ETok} (hS : MSp S nm sg T i b g0 r (t :: ts) dn) (hl : loks (t :: ts)) (hg : lgw (t :: ts)) (s0 : 0 ≤ s) (hst : s + (t :: ts).length + 85 * (30 - r) ≤ 99000) (hfu : ((t :: ts).length : Int) + 100 * (31 - r) ≤ (n + 1 : Nat)) (c : ¬ mtx T t ts < 0) (c1 : (xcall (mg T (mtx T t ts)) t ts).1 = 0) (c2 : ¬ 30 ≤ r) (c3 : (exArgs (fun r a => expL T n r a []) ((xcall (mg T (mtx T t ts)) t ts).2.1.take (mg T (mtx T t ts)).2.2.1.length) (r + 1)).1 = 0) (hp : RPp nm W i (mg T (mtx T t ts)) t (xcall (mg T (mtx T t ts)) t ts).2.2.1 ((xcall (mg T (mtx T t ts)) t ts).2.1.take (mg T (mtx T t ts)).2.2.1.length) (exArgs (fun r a => expL T n r a []) ((xcall (mg T (mtx T t ts)) t ts).2.1.take (mg T (mtx T t ts)).2.2.1.length) (r + 1)).2.2 (some (.int (iZ z))) S3) (hk : keepp S W i (b + (xcall (mg T (mtx T t ts)) t ts).2.2.2.length) (sv S 249 32) (sv S 249 35)) (w46 : sv W 249 46 = i) (w29 : sv W 249 29 = b + (xcall (mg T (mtx T t ts)) t ts).2.2.2.length) (w23 : sv W 249 23 = (exArgs (fun r a => expL T n r a []) ((xcall (mg T (mtx T t ts)) t ts).2.1.take (mg T (mtx T t ts)).2.2.1.length) (r + 1)).2.1) (w83 : sA W 283 (4 * i) = sv S 249 35) (w84 : sA W 284 (4 * i) = sv S 249 32) (ss : s + 1 ≤ s3) (ss2 : s3 ≤ s + 44 + 85 * ((exArgs (fun r a => expL T n r a []) ((xcall (mg T (mtx T t ts)) t ts).2.1.take (mg T (mtx T t ts)).2.2.1.length) (r + 1)).2.1 - (r + 1))) (K1 : ∀ S2 s2, (expL T (n + 1) r (t :: ts) dn).1 = 0 → MSp S2 nm sg T i b g0 (expL T (n + 1) r (t :: ts) dn).2.1 [] (expL T (n + 1) r (t :: ts) dn).2.2 → keepp S S2 i b g0 (sv S 249 35) → sv S2 249 35 = sv S 249 35 → s ≤ s2 → s2 ≤ s + (t :: ts).length + 85 * ((expL T (n + 1) r (t :: ts) dn).2.1 - r) → HDp sc d S2 Q s2 0) (K2 : ∀ S2 s2, ¬ (expL T (n + 1) r (t :: ts) dn).1 = 0 → sv S2 249 23 = (expL T (n + 1) r (t :: ts) dn).2.1 → ERp S S2 → 0 ≤ s2 → s2 ≤ 100000 → HDp sc d S2 Q s2 (expL T (n + 1) r (t :: ts) dn).1) : HDp sc d S3 Q s3 z := by
  have m := mtx_r c
  have hok := hM (mtx T t ts) (by omega) (by omega)
  have hcc : (mg T (mtx T t ts)).2.1 = true → hd40 ts = true := fun z => m.2.2.2.2.resolve_right (by rw [z]; decide)
  have xr := xcall_r (t := t) hok hcc
  have xr2 := xr.2.2 c1
  obtain ⟨h1, h2, h3, h4, h5, h6, h7, h8, h9, h10, h11, h12, h13, h14, h15, h16, h17⟩ := hS
  rw [List.length_cons] at h9 hst hfu K1
  have er := exArgs_r (f := fun r a => expL T n r a []) (fun r a hr => (by
    have i := expL_r hM n r a [] hr
    exact ⟨i.1, i.2.1, i.2.2.1, i.2.2.2.1⟩)) ((xcall (mg T (mtx T t ts)) t ts).2.1.take (mg T (mtx T t ts)).2.2.1.length) (r + 1) (by omega)
  by_cases c4 : (mrep (mg T (mtx T t ts)) (xcall (mg T (mtx T t ts)) t ts).2.1 (exArgs (fun r a => expL T n r a []) ((xcall (mg T (mtx T t ts)) t ts).2.1.take (mg T (mtx T t ts)).2.2.1.length) (r + 1)).2.2 t.2.1).1 = 0
  · have hz : (xstep (fun r a => expL T n r a []) (mg T (mtx T t ts)) r t ts).1 = 0 := by rw [xs_5 c1 c2 c3 c4]
    have hlk := (xstep_r (f := fun r a => expL T n r a []) (t := t) (ts := ts) hok hcc h6 (fun r a hr => (by
      have i := expL_r hM n r a [] hr
      exact ⟨i.1, i.2.1, i.2.2.1, i.2.2.2.1⟩))).2.2.2.2 hz
    have hlk2 := hlk.2.2 (fun r a hr hz ha => ((expL_r hM n r a [] hr).2.2.2.2 hz).2 ha (fun x hx => absurd hx (by simp))) (hl t (by simp)) (fun x hx => hl x (by simp [hx]))
    rw [expL_go c hz] at K1 K2
    rw [xs_5 c1 c2 c3 c4] at K1 K2 hlk2
    have hgw := xs_gw hM hB (n := n) hg c c1 c2 c3 c4
    have hkk := rp_keep (i := i) (b := b + (xcall (mg T (mtx T t ts)) t ts).2.2.2.length) (g := sv S 249 32) (w := sv S 249 35) hp (by omega) (by rw [mrep_take]; exact c4)
    have hkS := keep_trans hk hkk (Int.le_refl _) (Int.le_refl _) (Int.le_refl _) (Int.le_refl _)
    have h40 := (mrep_r.2.2 c4).2
    unfold RPp at hp
    rw [mrep_take] at hp
    obtain ⟨p1, p2, p3, p4⟩ := hp
    obtain ⟨q1, q2, q3, q4, q5⟩ := p4 c4
    have hnn : nm = nmR S3 := by rw [h2]; exact (nmR_fr hkS.1 (by omega)).symm
    have hz0 : iZ z = iZ 0 := by rw [c4] at p1; exact Value.int.inj (Option.some.inj p1)
    have x46 := p3 46 (by decide)
    have x23 := p3 23 (by decide)
    have hll : (((mrep (mg T (mtx T t ts)) (xcall (mg T (mtx T t ts)) t ts).2.1 (exArgs (fun r a => expL T n r a []) ((xcall (mg T (mtx T t ts)) t ts).2.1.take (mg T (mtx T t ts)).2.2.1.length) (r + 1)).2.2 t.2.1).2.map (addE (xhid (mg T (mtx T t ts)) t (xcall (mg T (mtx T t ts)) t ts).2.2.1)) ++ (xcall (mg T (mtx T t ts)) t ts).2.2.2).length : Int) = (mrep (mg T (mtx T t ts)) (xcall (mg T (mtx T t ts)) t ts).2.1 (exArgs (fun r a => expL T n r a []) ((xcall (mg T (mtx T t ts)) t ts).2.1.take (mg T (mtx T t ts)).2.2.1.length) (r + 1)).2.2 t.2.1).2.length + (xcall (mg T (mtx T t ts)) t ts).2.2.2.length := by rw [List.length_append, List.length_map]; omega
    have hbw : bw nm (sL S 269) (sA S 270) (b + ts.length) ts := by
      have := h10.2.2
      rw [show sv S 249 29 - 1 = b + ts.length by omega] at this
      exact this
    have hbr := xcall_bw hbw c1
    refine HD_eq hz0 (H S3 i b g0 (exArgs (fun r a => expL T n r a []) ((xcall (mg T (mtx T t ts)) t ts).2.1.take (mg T (mtx T t ts)).2.2.1.length) (r + 1)).2.1 s3 ((mrep (mg T (mtx T t ts)) (xcall (mg T (mtx T t ts)) t ts).2.1 (exArgs (fun r a => expL T n r a []) ((xcall (mg T (mtx T t ts)) t ts).2.1.take (mg T (mtx T t ts)).2.2.1.length) (r + 1)).2.2 t.2.1).2.map (addE (xhid (mg T (mtx T t ts)) t (xcall (mg T (mtx T t ts)) t ts).2.2.1)) ++ (xcall (mg T (mtx T t ts)) t ts).2.2.2) dn ⟨rtab_fr h1 hkS.1 (by omega), hnn, by omega, h4, by omega, er.2.2.2.1, by rw [(hkS.2.2.2.2.2.1 i (Int.le_refl _)).1]; exact h7, h8, by omega, ?_, by omega, by omega, by omega, h14, by omega, ?_, by omega⟩ hlk2 hgw (by omega) (by omega) (by omega) ?_ ?_)
    · rw [q1]
      refine (bw_app _ _ _).mpr ⟨q2, ?_⟩
      rw [List.length_map, show sv W 249 29 + ((mrep (mg T (mtx T t ts)) (xcall (mg T (mtx T t ts)) t ts).2.1 (exArgs (fun r a => expL T n r a []) ((xcall (mg T (mtx T t ts)) t ts).2.1.take (mg T (mtx T t ts)).2.2.1.length) (r + 1)).2.2 t.2.1).2.length : Int) - ((mrep (mg T (mtx T t ts)) (xcall (mg T (mtx T t ts)) t ts).2.1 (exArgs (fun r a => expL T n r a []) ((xcall (mg T (mtx T t ts)) t ts).2.1.take (mg T (mtx T t ts)).2.2.1.length) (r + 1)).2.2 t.2.1).2.length : Int) = b + (xcall (mg T (mtx T t ts)) t ts).2.2.2.length by omega]
      exact bw_fr _ _ (fun j j0 j1 => hkS.2.2.1 j (by omega) j1) hbr
    · exact fw_fr _ _ (fun j j0 j1 => hkS.2.2.2.1 j (by omega) (by omega)) h16
    · intro S4 s4 y0 y1 y2 y3 y4 y5
      refine K1 S4 s4 y0 y1 ?_ (by rw [y3]; omega) (by omega) ?_
      · have e35 : sv S3 249 35 = sv S 249 35 := by omega
        rw [e35] at y2
        exact keep_trans (i := i) (b := b) (g := g0) (w := sv S 249 35) ⟨hkS.1, hkS.2.1, fun j j0 j1 => hkS.2.2.1 j j0 (by omega), fun j j0 j1 => hkS.2.2.2.1 j j0 (by omega), hkS.2.2.2.2⟩ y2 (Int.le_refl _) (Int.le_refl _) (Int.le_refl _) (Int.le_refl _)
      · show s4 ≤ s + ((ts.length + 1 : Nat) : Int) + 85 * ((expL T n (exArgs (fun r a => expL T n r a []) ((xcall (mg T (mtx T t ts)) t ts).2.1.take (mg T (mtx T t ts)).2.2.1.length) (r + 1)).2.1 ((mrep (mg T (mtx T t ts)) (xcall (mg T (mtx T t ts)) t ts).2.1 (exArgs (fun r a => expL T n r a []) ((xcall (mg T (mtx T t ts)) t ts).2.1.take (mg T (mtx T t ts)).2.2.1.length) (r + 1)).2.2 t.2.1).2.map (addE (xhid (mg T (mtx T t ts)) t (xcall (mg T (mtx T t ts)) t ts).2.2.1)) ++ (xcall (mg T (mtx T t ts)) t ts).2.2.2) dn).2.1 - r)
        omega
    · intro S4 s4 y0 y1 y2 y3 y4
      exact K2 S4 s4 y0 y1 (ER_t (ER_of hkS) y2) y3 y4
  · have hz : ¬ (xstep (fun r a => expL T n r a []) (mg T (mtx T t ts)) r t ts).1 = 0 := by rw [xs_4 c1 c2 c3 c4]; exact c4
    rw [expL_bad c hz, xs_4 c1 c2 c3 c4] at K2
    have hE := rp_er hp
    unfold RPp at hp
    rw [mrep_take] at hp
    obtain ⟨p1, p2, p3, p4⟩ := hp
    exact HD_eq (Value.int.inj (Option.some.inj p1)) (K2 S3 s3 c4 (by rw [p3 23 (by decide)]; exact w23) (ER_t (ER_of hk) hE) (by omega) (by omega))
theorem sumlen_cons (a : List ETok) (as : List (List ETok)) : sumlen (a :: as) = a.length + sumlen as := rfl
theorem RX {sc : x_S} {d : Nat} {Q : Option Value → w_S → Prop} {nm : Nat → Int64} {sg : Nat → Nat} {T : List Mac} (hd : 8 ≤ d) (hT : tabok T) (hM : ∀ k : Int, 0 ≤ k → k < T.length → mok (mg T k)) (hB : ∀ k : Int, 0 ≤ k → k < T.length → bg (mg T k)) : ∀ n, RXp sc d Q nm sg T n := by
  intro n
  induction n with
  | zero =>
    intro S i b g0 r s l dn hS hl hg s0 hst hfu K1 K2
    have := hS.2.2.2.2.2.1
    omega
  | succ n H =>
    intro S i b g0 r s l dn hS hl hg s0 hst hfu K1 K2
    cases l with
    | nil =>
      have hr : s ≤ s + (([] : List ETok).length : Int) + 85 * (r - r) := by rw [List.length_nil]; omega
      exact K1 S s rfl hS (keep_refl _ _ _ _ _) rfl (Int.le_refl _) hr
    | cons t ts =>
      have hS0 := hS
      have hst0 := hst
      have hfu0 := hfu
      have K10 := K1
      obtain ⟨h1, h2, h3, h4, h5, h6, h7, h8, h9, h10, h11, h12, h13, h14, h15, h16, h17⟩ := hS
      rw [List.length_cons] at h9 hst hfu K1
      refine r_step (by omega) s0 (by omega) (r_nx1 (b := b) (r := r) (t := t) (ts := ts) h3 h4 (by omega) hT h1 hB h2 h7 h8 (by omega) (by omega) (by omega) h10 hl hg h11 (by omega) h6 h12 (by omega) (by omega) (by omega) (by omega)) ?_
      intro v S2 hq
      by_cases c : mtx T t ts < 0
      · obtain ⟨rfl, hS2⟩ := hq.1 c
        refine ⟨0, rfl, ?_⟩
        rw [expL_mv c] at K1 K2
        have hke := mv_keep (S := S) (nm := nm) (t := t) (i := i) (b := b) (g := g0) (w := sv S 249 35) (by omega)
        rw [← hS2] at hke
        have e29 : sv S2 249 29 = sv S 249 29 - 1 := by rw [hS2]; simp (disch := omega) only [rv_self, rv_ne, rl_self, rl_ne, rA_self, rA_ne, rL_self, rL_ne, rR_self, rR_ne, xvl, xvA, xvL, xvR, xlv, xlA, xlL, xlR, xAv, xAl, xAL, xAR, xLv, xLl, xLA, xLR, xRv, xRl, xRA, xRL]
        have e32 : sv S2 249 32 = sv S 249 32 + 1 := by rw [hS2]; simp (disch := omega) only [rv_self, rv_ne, rl_self, rl_ne, rA_self, rA_ne, rL_self, rL_ne, rR_self, rR_ne, xvl, xvA, xvL, xvR, xlv, xlA, xlL, xlR, xAv, xAl, xAL, xAR, xLv, xLl, xLA, xLR, xRv, xRl, xRA, xRL]
        have e35 : sv S2 249 35 = sv S 249 35 := by rw [hS2]; simp (disch := omega) only [rv_self, rv_ne, rl_self, rl_ne, rA_self, rA_ne, rL_self, rL_ne, rR_self, rR_ne, xvl, xvA, xvL, xvR, xlv, xlA, xlL, xlR, xAv, xAl, xAL, xAR, xLv, xLl, xLA, xLR, xRv, xRl, xRA, xRL]
        have e23 : sv S2 249 23 = sv S 249 23 := by rw [hS2]; simp (disch := omega) only [rv_self, rv_ne, rl_self, rl_ne, rA_self, rA_ne, rL_self, rL_ne, rR_self, rR_ne, xvl, xvA, xvL, xvR, xlv, xlA, xlL, xlR, xAv, xAl, xAL, xAR, xLv, xLl, xLA, xLR, xRv, xRl, xRA, xRL]
        have e46 : sv S2 249 46 = sv S 249 46 := by rw [hS2]; simp (disch := omega) only [rv_self, rv_ne, rl_self, rl_ne, rA_self, rA_ne, rL_self, rL_ne, rR_self, rR_ne, xvl, xvA, xvL, xvR, xlv, xlA, xlL, xlR, xAv, xAl, xAL, xAR, xLv, xLl, xLA, xLR, xRv, xRl, xRA, xRL]
        have a69 : sL S2 269 = sL S 269 := by rw [hS2]; simp (disch := omega) only [rv_self, rv_ne, rl_self, rl_ne, rA_self, rA_ne, rL_self, rL_ne, rR_self, rR_ne, xvl, xvA, xvL, xvR, xlv, xlA, xlL, xlR, xAv, xAl, xAL, xAR, xLv, xLl, xLA, xLR, xRv, xRl, xRA, xRL]
        have a70 : sA S2 270 = sA S 270 := by rw [hS2]; simp (disch := omega) only [rv_self, rv_ne, rl_self, rl_ne, rA_self, rA_ne, rL_self, rL_ne, rR_self, rR_ne, xvl, xvA, xvL, xvR, xlv, xlA, xlL, xlR, xAv, xAl, xAL, xAR, xLv, xLl, xLA, xLR, xRv, xRl, xRA, xRL]
        have a71 : sL S2 271 = w_u (sL S 271) (g0 + dn.length) t.1 := by rw [hS2, ← h15]; simp (disch := omega) only [rv_self, rv_ne, rl_self, rl_ne, rA_self, rA_ne, rL_self, rL_ne, rR_self, rR_ne, xvl, xvA, xvL, xvR, xlv, xlA, xlL, xlR, xAv, xAl, xAL, xAR, xLv, xLl, xLA, xLR, xRv, xRl, xRA, xRL]
        have a72 : sA S2 272 = w_u (sA S 272) (g0 + dn.length) (eo nm t) := by rw [hS2, ← h15]; simp (disch := omega) only [rv_self, rv_ne, rl_self, rl_ne, rA_self, rA_ne, rL_self, rL_ne, rR_self, rR_ne, xvl, xvA, xvL, xvR, xlv, xlA, xlL, xlR, xAv, xAl, xAL, xAR, xLv, xLl, xLA, xLR, xRv, xRl, xRA, xRL]
        have hld : ((dn ++ [t]).length : Int) = dn.length + 1 := by rw [List.length_append]; rfl
        refine H S2 i b g0 r (s + 1) ts (dn ++ [t]) ⟨rtab_fr h1 hke.1 (by omega), by rw [h2]; exact (nmR_fr hke.1 (by omega)).symm, by omega, h4, h5, h6, by rw [(hke.2.2.2.2.2.1 i (Int.le_refl _)).1]; exact h7, h8, by omega, ?_, by omega, by omega, by omega, h14, by omega, ?_, by omega⟩ (fun x hx => hl x (by simp [hx])) (fun x hx => hg x (by simp [hx])) (by omega) (by omega) (by omega) ?_ ?_
        · rw [a69, a70, e29]
          exact h10.2.2
        · rw [a71, a72]
          exact fw_snoc h16
        · intro S4 s4 y0 y1 y2 y3 y4 y5
          rw [e35] at y2 y3
          exact K1 S4 s4 y0 y1 (keep_trans hke y2 (Int.le_refl _) (Int.le_refl _) (Int.le_refl _) (Int.le_refl _)) y3 (by omega) (by omega)
        · intro S4 s4 y0 y1 y2 y3 y4
          exact K2 S4 s4 y0 y1 (ER_t (ER_of hke) y2) y3 y4
      · have m := mtx_r c
        have hok := hM (mtx T t ts) (by omega) (by omega)
        have hbb := hB (mtx T t ts) (by omega) (by omega)
        have hcc : (mg T (mtx T t ts)).2.1 = true → hd40 ts = true := fun z => m.2.2.2.2.resolve_right (by rw [z]; decide)
        have xr := xcall_r (t := t) hok hcc
        obtain ⟨q1, q2, q3⟩ := hq.2 c
        by_cases c1 : (xcall (mg T (mtx T t ts)) t ts).1 = 0
        · by_cases c2 : 30 ≤ r
          · obtain ⟨rfl, e1, e2, e3⟩ := q2 c1 c2
            have hz : ¬ (xstep (fun r a => expL T n r a []) (mg T (mtx T t ts)) r t ts).1 = 0 := by rw [xs_2 c1 c2]; show ¬ (7 : Int) = 0; decide
            rw [expL_bad c hz, xs_2 c1 c2] at K2
            exact ⟨7, rfl, K2 S2 (s + 1) (by show ¬ (7 : Int) = 0; decide) e1 ⟨e2, fun k hk => e3 k (by omega)⟩ (by omega) (by omega)⟩
          · obtain ⟨S1, hN, hP, hR⟩ := q3 c1 c2
            have hNk := nx_keep (cb := b + (xcall (mg T (mtx T t ts)) t ts).2.2.2.length) (g := sv S 249 32) hN
            have xr2 := xr.2.2 c1
            have hN0 := hN
            obtain ⟨n1, n2, n3, n4, n5, n6, n7, n8, n9, n10, n11, n12⟩ := hN
            have hc3 := hok.1
            have hlt : (((xcall (mg T (mtx T t ts)) t ts).2.1.take (mg T (mtx T t ts)).2.2.1.length).length : Int) = (mg T (mtx T t ts)).2.2.1.length := by rw [List.length_take]; omega
            have hsm := sumlen_take (xcall (mg T (mtx T t ts)) t ts).2.1 (mg T (mtx T t ts)).2.2.1.length
            have x46 := n2 46 (by decide)
            have x32 := n2 32 (by decide)
            by_cases ct : 0 < rtk (mg T (mtx T t ts))
            · have hpu := hP ct
              have hp0 : 0 < (mg T (mtx T t ts)).2.2.1.length := by
                unfold rtk at ct
                split at ct <;> omega
              obtain ⟨a, A3, hA⟩ : ∃ a A3, ((xcall (mg T (mtx T t ts)) t ts).2.1.take (mg T (mtx T t ts)).2.2.1.length) = a :: A3 := by
                cases hh : ((xcall (mg T (mtx T t ts)) t ts).2.1.take (mg T (mtx T t ts)).2.2.1.length) with
                | nil =>
                  rw [hh, List.length_nil] at hlt
                  omega
                | cons a A3 => exact ⟨a, A3, rfl⟩
              have hga : ((xcall (mg T (mtx T t ts)) t ts).2.1.take (mg T (mtx T t ts)).2.2.1.length).getD 0 [] = a := by rw [hA]; rfl
              rw [hga] at hpu
              have hkp := push_keep (i := i) (b := b + (xcall (mg T (mtx T t ts)) t ts).2.2.2.length) (g := sv S 249 32) (w := sv S 249 35) hpu (by omega)
              have hkS := keep_trans hNk hkp (Int.le_refl _) (Int.le_refl _) (Int.le_refl _) (Int.le_refl _)
              obtain ⟨p1, p2, p3, p4, p5, p6, p7, p8, p9⟩ := hpu
              refine ⟨0, p1, ?_⟩
              have y32 := p3 32 (by decide)
              have y35 := p3 35 (by decide)
              have y23 := p3 23 (by decide)
              have g83 := fr_gA p2 (a := 283) (by omega)
              have g84 := fr_gA p2 (a := 284) (by omega)
              have hsA : sumlen ((xcall (mg T (mtx T t ts)) t ts).2.1.take (mg T (mtx T t ts)).2.2.1.length) = a.length + sumlen A3 := by rw [hA]; rfl
              have hlA : ((xcall (mg T (mtx T t ts)) t ts).2.1.take (mg T (mtx T t ts)).2.2.1.length).length = A3.length + 1 := by rw [hA]; rfl
              have hsn := sumlen_n A3
              have xt := (xr2.2.2.2 (hl t (by simp)) (fun x hx => hl x (by simp [hx]))).1
              have hsg := h1.2.1 (mtx T t ts).toNat (by omega)
              have hrm := h1.2.2.2.1 (mtx T t ts) (by omega) (by omega)
              have hLS : LSp nm ((sg (mtx T t ts).toNat : Nat) : Int) (mg T (mtx T t ts)) t ((xcall (mg T (mtx T t ts)) t ts).2.1.take (mg T (mtx T t ts)).2.2.1.length) := by
                refine ⟨by omega, by omega, hok, hbb, hl t (by simp), ?_, ?_, hT.1 _ (by omega) (by omega), by omega, fun k => ?_, fun a ha => xt a (List.mem_of_mem_take ha), fun a ha y hy => hg y (List.mem_cons_of_mem _ (xcall_mem c1 a (List.mem_of_mem_take ha) y hy))⟩
                · rw [h2, Int.toNat_natCast]
                  exact hrm.1.1
                · intro q q8 e
                  rw [h2, Int.toNat_natCast] at e
                  rw [Int.toNat_natCast]
                  exact rnm_inj h1 hT (by omega) q q8 e
                · have := sumlen_get ((xcall (mg T (mtx T t ts)) t ts).2.1.take (mg T (mtx T t ts)).2.2.1.length) k
                  omega
              have hnl : (([] : List (List ETok)).length : Int) = 0 := rfl
              refine RA (cb := b + (xcall (mg T (mtx T t ts)) t ts).2.2.2.length) H (by omega) hM hB hLS (by omega) (by omega) A3 S2 a [] (r + 1) (s + 1) ⟨rtab_fr h1 hkS.1 (by omega), by rw [h2]; exact (nmR_fr hkS.1 (by omega)).symm, p4, h4, by omega, by omega, by rw [p8, w_u_self]; exact n4, by omega, by omega, by rw [p5]; exact p6, by omega, LR_fr n5 p2 (by omega), ?_, by rw [p9, w_u_self, y32], ?_, by omega, by omega⟩ hA (fun k => by simp) (fun a ha => absurd ha (by simp)) (fun a ha => absurd ha (by simp)) (by omega) (by omega) (by omega) (by omega) ?_ ?_
              · rw [g84, y32, hnl, Int.add_zero, x32]
                exact n9
              · rw [g83, y35]
                exact n6
              · intro W S3 s3 z x0 x1 x2 x3 x4 x5 x6 x7 x8 x9 x10
                rw [← hA] at x0 x1 x2 x6 x10
                have er := exArgs_r (f := fun r a => expL T n r a []) (fun r a hr => (by
                  have i := expL_r hM n r a [] hr
                  exact ⟨i.1, i.2.1, i.2.2.1, i.2.2.2.1⟩)) ((xcall (mg T (mtx T t ts)) t ts).2.1.take (mg T (mtx T t ts)).2.2.1.length) (r + 1) (by omega)
                rw [g84] at x3 x8
                rw [g83] at x7
                refine RR H hM hB hS0 hl hg s0 hst0 hfu0 c c1 c2 x0 x1 (keep_trans (i2 := i) (b2 := b + (xcall (mg T (mtx T t ts)) t ts).2.2.2.length) (g2 := sv S 249 32) (w2 := sv S 249 35) hkS ?_ (Int.le_refl _) (Int.le_refl _) (Int.le_refl _) (Int.le_refl _)) x4 x5 x6 (by rw [x7]; exact n8) (by rw [x8]; exact n9) (by omega) (by omega) K10 K2
                rw [n9] at x3
                have hw : sv S 249 35 ≤ sv S2 249 35 := by
                  have := seg_n _ _ ((xcall (mg T (mtx T t ts)) t ts).2.1.take (mg T (mtx T t ts)).2.2.1.length).length n5.2.2.2.2.1 (Nat.le_refl _)
                  omega
                exact ⟨x3.1, x3.2.1, x3.2.2.1, x3.2.2.2.1, fun j j0 j1 => x3.2.2.2.2.1 j j0 (by omega), x3.2.2.2.2.2⟩
              · intro S3 s3 x0 x1 x2 x3 x4
                rw [← hA] at x0 x1
                have hz : ¬ (xstep (fun r a => expL T n r a []) (mg T (mtx T t ts)) r t ts).1 = 0 := by rw [xs_3 c1 c2 x0]; exact x0
                rw [expL_bad c hz, xs_3 c1 c2 x0] at K2
                rw [← hA]
                exact K2 S3 s3 x0 x1 (ER_t (ER_of hkS) x2) x3 x4
            · have hrp := hR (by omega)
              have hp0 : (mg T (mtx T t ts)).2.2.1.length = 0 := by
                unfold rtk at ct
                split at ct
                · omega
                · rename_i z
                  rw [hok.2.2.1 (by simpa using z)]
                  rfl
              have hA : ((xcall (mg T (mtx T t ts)) t ts).2.1.take (mg T (mtx T t ts)).2.2.1.length) = [] := List.eq_nil_of_length_eq_zero (by omega)
              have hxa : (exArgs (fun r a => expL T n r a []) ((xcall (mg T (mtx T t ts)) t ts).2.1.take (mg T (mtx T t ts)).2.2.1.length) (r + 1)) = (0, r + 1, []) := by rw [hA]; rfl
              have hv := hrp.1
              refine ⟨_, hv, ?_⟩
              rw [hv] at hrp
              refine RR H hM hB hS0 hl hg s0 hst0 hfu0 c c1 c2 (by rw [hxa]) (by rw [hxa]; exact hrp) hNk (by omega) (by omega) (by rw [hxa]; exact n3) n8 n9 (by omega) (by rw [hxa]; show s + 1 ≤ s + 44 + 85 * (r + 1 - (r + 1)); omega) K10 K2
        · obtain ⟨rfl, e1, e2, e3⟩ := q1 c1
          have hz : ¬ (xstep (fun r a => expL T n r a []) (mg T (mtx T t ts)) r t ts).1 = 0 := by rw [xs_1 c1]; exact c1
          rw [expL_bad c hz, xs_1 c1] at K2
          exact ⟨_, rfl, K2 S2 (s + 1) c1 e1 ⟨e2, fun k hk => e3 k (by omega)⟩ (by omega) (by omega)⟩
