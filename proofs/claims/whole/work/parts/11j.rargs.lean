/-! The reference expands arguments. -/
def ERp (S S2 : w_S) : Prop := fr (fun a => a = 249 ∨ (269 ≤ a ∧ a ≤ 284)) S S2 ∧ ∀ k, ¬ (k = 23 ∨ k = 29 ∨ k = 32 ∨ k = 35 ∨ k = 46) → sv S2 249 k = sv S 249 k
theorem ER_k {S S1 S2 : w_S} {i b g w : Int} (h : keepp S S1 i b g w) (h2 : ERp S1 S2) : ERp S S2 := ⟨fr_trans h.1 h2.1, fun k hk => (h2.2 k hk).trans (h.2.1 k hk)⟩
theorem ER_t {S S1 S2 : w_S} (h : ERp S S1) (h2 : ERp S1 S2) : ERp S S2 := ⟨fr_trans h.1 h2.1, fun k hk => (h2.2 k hk).trans (h.2 k hk)⟩
theorem ER_of {S S1 : w_S} {i b g w : Int} (h : keepp S S1 i b g w) : ERp S S1 := ⟨h.1, h.2.1⟩
def RXp (sc : x_S) (d : Nat) (Q : Option Value → w_S → Prop) (nm : Nat → Int64) (sg : Nat → Nat) (T : List Mac) (n : Nat) : Prop := ∀ (S : w_S) (i b g0 r s : Int) (l dn : List ETok), MSp S nm sg T i b g0 r l dn → loks l → lgw l → 0 ≤ s → s + l.length + 85 * (30 - r) ≤ 99000 → (l.length : Int) + 100 * (31 - r) ≤ n → (∀ S2 s2, (expL T n r l dn).1 = 0 → MSp S2 nm sg T i b g0 (expL T n r l dn).2.1 [] (expL T n r l dn).2.2 → keepp S S2 i b g0 (sv S 249 35) → sv S2 249 35 = sv S 249 35 → s ≤ s2 → s2 ≤ s + l.length + 85 * ((expL T n r l dn).2.1 - r) → HDp sc d S2 Q s2 0) → (∀ S2 s2, ¬ (expL T n r l dn).1 = 0 → sv S2 249 23 = (expL T n r l dn).2.1 → ERp S S2 → 0 ≤ s2 → s2 ≤ 100000 → HDp sc d S2 Q s2 (expL T n r l dn).1) → HDp sc d S Q s 0
/-- a call whose argument is being expanded -/
def ARp (U : w_S) (nm : Nat → Int64) (sg : Nat → Nat) (T : List Mac) (i cb rc : Int) (m : Int) (e : Mac) (t c : ETok) (as os : List (List ETok)) (a : List ETok) : Prop := rtab U sg T ∧ nm = nmR U ∧ sv U 249 46 = i + 1 ∧ 0 ≤ i ∧ i + 1 ≤ rc ∧ rc ≤ 30 ∧ sA U 277 (i + 1) = cb ∧ 0 ≤ cb ∧ sv U 249 29 = cb + a.length ∧ bw nm (sL U 269) (sA U 270) (sv U 249 29) a ∧ sv U 249 23 = rc ∧ LRp nm U i m e t c as os ∧ sA U 284 (4 * i + os.length) = sv U 249 32 ∧ sA U 278 (i + 1) = sv U 249 32 ∧ sv U 249 35 = sA U 283 (4 * i + as.length) ∧ sv U 249 35 ≤ 40 * (i + 1) ∧ 0 ≤ sv U 249 32
theorem LR_keep {nm : Nat → Int64} {U V : w_S} {i m cb gp w : Int} {e : Mac} {t c : ETok} {as os : List (List ETok)} (h : LRp nm U i m e t c as os) (k : keepp U V (i + 1) cb gp w) (ha : as.length ≤ 3) (ho : os.length ≤ 3) (hw : sA U 283 (4 * i + as.length) ≤ w) (hg : sA U 284 (4 * i + os.length) ≤ gp) : LRp nm V i m e t c as os := by
  obtain ⟨h1, h2, h3, h4, h5, h6, h7, h8, h9, h10, h11⟩ := h
  obtain ⟨k1, k2, k3, k4, k5, k6, k7, k8⟩ := k
  have a1 := k7 i (by omega)
  refine ⟨by rw [a1.1]; exact h1, rmac_fr h2 k1 (by omega), by rw [a1.2.1]; exact h3, by rw [a1.2.2.1]; exact h4, ?_, ?_, by rw [(k8 _ (by omega)).1]; exact h7, by rw [(k8 _ (by omega)).1]; exact h8, by rw [(k8 _ (by omega)).2]; exact h9, by rw [(k8 _ (by omega)).2]; exact h10, by rw [a1.2.2.2]; exact h11⟩
  · exact seg_cong as (4 * i) h5 (fun j _ _ => (k8 j (by omega)).1) (fun j j0 j1 => k5 j (by omega) (by omega))
  · exact seg_cong os (4 * i) h6 (fun j _ _ => (k8 j (by omega)).2) (fun j j0 j1 => k4 j (by omega) (by omega))
theorem drop_get {as : List (List ETok)} {a : List ETok} {A : List (List ETok)} {n : Nat} (h : as.drop n = a :: A) : as.getD n [] = a ∧ as.drop (n + 1) = A ∧ n < as.length := by
  have h1 : n < as.length := by
    by_cases c : n < as.length
    · exact c
    · rw [List.drop_eq_nil_of_le (by omega)] at h
      cases h
  rw [List.drop_eq_getElem_cons h1] at h
  have h2 := List.cons.inj h
  refine ⟨?_, h2.2, h1⟩
  rw [List.getD_eq_getElem?_getD, List.getElem?_eq_getElem h1, ← h2.1]
  rfl
theorem rtk_of {e : Mac} (h : 0 < e.2.2.1.length) (ho : mok e) : rtk e = e.2.2.1.length := by
  unfold rtk
  by_cases c : e.2.1 = true
  · rw [if_pos c]
  · rw [ho.2.2.1 (by simpa using c)] at h
    exact absurd h (by simp)
theorem mkr_gw {e : Mac} {as os : List (List ETok)} {pl : Int} (hb : bg e) (hla : ∀ a, a ∈ as → lgw a) (hlo : ∀ a, a ∈ os → lgw a) : ∀ (m : Nat) (i : Int) (l : List ETok) (ch : Int) (k : List ETok), 0 ≤ i → lgw l → mkr e as os pl m i l ch = some k → lgw k
  | 0, i, l, ch, k, i0, hl, h => by
    cases h
    exact hl
  | m + 1, i, l, ch, k, i0, hl, h => by
    by_cases hi : i < e.2.2.2.length
    · have hbr := brow_gw (pl := pl) (i := i) hb (lgw_get hla) (lgw_get hlo) i0 hi
      cases hs : mst e as os pl i l ch with
      | none =>
        rw [mkr_n hi hs] at h
        cases h
      | some l2 =>
        rw [mkr_s hi hs] at h
        refine mkr_gw hb hla hlo m _ l2 _ k (by have := zB_0 (pas e.2.2.2 (i + 1)); omega) ?_ h
        unfold mst at hs
        split at hs
        · exact jrow_gw hl hbr hs
        · cases hs
          exact fun z hz => (List.mem_append.mp hz).elim (hl z) (hbr z)
    · rw [mkr_0 (by omega)] at h
      cases h
      exact hl
theorem exArgs_gw {f : Int → List ETok → Int × Int × List ETok} (hf : ∀ r a, r ≤ 30 → (f r a).2.1 ≤ 30) (hg : ∀ r a, r ≤ 30 → (f r a).1 = 0 → lgw a → lgw (f r a).2.2) : ∀ (as : List (List ETok)) (r : Int), r ≤ 30 → (∀ a, a ∈ as → lgw a) → (exArgs f as r).1 = 0 → ∀ a, a ∈ (exArgs f as r).2.2 → lgw a
  | [], r, h, _, _ => fun x hx => by
    replace hx : x ∈ ([] : List (List ETok)) := hx
    exact absurd hx (by simp)
  | a :: as, r, h, ha, hz => by
    by_cases c1 : (f r a).1 = 0
    · by_cases c2 : 40 < ((f r a).2.2.length : Int)
      · rw [exA_2 c1 c2] at hz
        exact absurd hz (by show ¬ (7 : Int) = 0; decide)
      · rw [exA_3 c1 c2] at hz ⊢
        have i := exArgs_gw hf hg as (f r a).2.1 (hf r a h) (fun x hx => ha x (by simp [hx])) hz
        intro x hx
        rcases List.mem_cons.mp hx with z | z
        · rw [z]
          exact hg r a h c1 (ha a (by simp))
        · exact i x z
    · rw [exA_1 c1] at hz
      exact absurd hz c1
theorem fa_mem2 : ∀ (l : List ETok) (n : Int) (cur : List ETok) (as : List (List ETok)) (q : List (List ETok) × ETok × List ETok), fa l n cur as = some q → ∀ x, x ∈ q.2.2 → x ∈ l := by
  intro l n cur as q h x hx
  obtain ⟨p, hp⟩ := fa_suf l n cur as q h
  rw [hp]
  simp [hx]
theorem expL_gw {T : List Mac} (hT : ∀ k : Int, 0 ≤ k → k < T.length → mok (mg T k)) (hB : ∀ k : Int, 0 ≤ k → k < T.length → bg (mg T k)) : ∀ (n : Nat) (r : Int) (l d : List ETok), r ≤ 30 → (expL T n r l d).1 = 0 → lgw l → lgw d → lgw (expL T n r l d).2.2
  | 0, r, l, d, h, hz, _, _ => absurd hz (by show ¬ (99 : Int) = 0; decide)
  | n + 1, r, [], d, h, hz, _, hd => hd
  | n + 1, r, t :: ts, d, h, hz, hl, hd => by
    by_cases c : mtx T t ts < 0
    · rw [expL_mv c] at hz ⊢
      exact expL_gw hT hB n r ts (d ++ [t]) h hz (fun x hx => hl x (by simp [hx])) (fun x hx => (List.mem_append.mp hx).elim (hd x) (fun z => by rw [List.mem_singleton.mp z]; exact hl t (by simp)))
    · have m := mtx_r c
      have hf : ∀ r a, r ≤ 30 → 0 ≤ (expL T n r a []).1 ∧ (expL T n r a []).1 ≤ 99 ∧ r ≤ (expL T n r a []).2.1 ∧ (expL T n r a []).2.1 ≤ 30 := fun r a hr => by
        have i := expL_r hT n r a [] hr
        exact ⟨i.1, i.2.1, i.2.2.1, i.2.2.2.1⟩
      have hok := hT (mtx T t ts) (by omega) (by omega)
      have hbb := hB (mtx T t ts) (by omega) (by omega)
      have hcc : (mg T (mtx T t ts)).2.1 = true → hd40 ts = true := fun z => m.2.2.2.2.resolve_right (by rw [z]; decide)
      have x := xstep_r (f := fun r a => expL T n r a []) (e := mg T (mtx T t ts)) (r := r) (t := t) (ts := ts) hok hcc h hf
      by_cases s : (xstep (fun r a => expL T n r a []) (mg T (mtx T t ts)) r t ts).1 = 0
      · rw [expL_go c s] at hz ⊢
        refine expL_gw hT hB n _ _ d x.2.2.2.1 hz ?_ hd
        by_cases c1 : (xcall (mg T (mtx T t ts)) t ts).1 = 0
        · by_cases c2 : 30 ≤ r
          · rw [xs_2 c1 c2] at s
            exact absurd s (by show ¬ (7 : Int) = 0; decide)
          · by_cases c3 : (exArgs (fun r a => expL T n r a []) ((xcall (mg T (mtx T t ts)) t ts).2.1.take (mg T (mtx T t ts)).2.2.1.length) (r + 1)).1 = 0
            · by_cases c4 : (mrep (mg T (mtx T t ts)) (xcall (mg T (mtx T t ts)) t ts).2.1 (exArgs (fun r a => expL T n r a []) ((xcall (mg T (mtx T t ts)) t ts).2.1.take (mg T (mtx T t ts)).2.2.1.length) (r + 1)).2.2 t.2.1).1 = 0
              · rw [xs_5 c1 c2 c3 c4]
                have hxa : ∀ a, a ∈ (xcall (mg T (mtx T t ts)) t ts).2.1 → lgw a := fun a ha y hy => hl y (List.mem_cons_of_mem _ (xcall_mem c1 a ha y hy))
                have hgo := exArgs_gw (f := fun r a => expL T n r a []) (fun r a hr => (hf r a hr).2.2.2) (fun r a hr hz ha => expL_gw hT hB n r a [] hr hz ha (fun x hx => absurd hx (by simp))) ((xcall (mg T (mtx T t ts)) t ts).2.1.take (mg T (mtx T t ts)).2.2.1.length) (r + 1) (by omega) (fun a ha => hxa a (List.mem_of_mem_take ha)) c3
                have hk := mkr_gw hbb hxa hgo 13 0 [] 0 _ (Int.le_refl 0) (fun x hx => absurd hx (by simp)) (mrep_r.2.2 c4).1
                intro y hy
                rcases List.mem_append.mp hy with z | z
                · obtain ⟨w, hw, rfl⟩ := List.mem_map.mp z
                  exact hk w hw
                · refine hl y (List.mem_cons_of_mem _ ?_)
                  unfold xcall at c1 z
                  by_cases cc : (mg T (mtx T t ts)).2.1 = true
                  · rw [if_pos cc] at c1 z
                    exact List.mem_of_mem_tail (fa_mem2 _ _ _ _ _ (fargs_r.2.2 c1).1 y z)
                  · rw [if_neg cc] at z
                    exact z
              · rw [xs_4 c1 c2 c3 c4] at s
                exact absurd s c4
            · rw [xs_3 c1 c2 c3] at s
              exact absurd s c3
        · rw [xs_1 c1] at s
          exact absurd s c1
      · rw [expL_bad c s] at hz
        exact absurd hz s
