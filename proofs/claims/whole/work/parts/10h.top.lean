/-! Replacing the token on top (class). -/
section XS
variable {f : Int → List ETok → Int × Int × List ETok} {e : Mac} {r : Int} {t : ETok} {ts : List ETok}
theorem xs_1 (h : ¬ (xcall e t ts).1 = 0) : xstep f e r t ts = ((xcall e t ts).1, r, []) := by
  unfold xstep
  rw [if_pos h]
theorem xs_2 (h : (xcall e t ts).1 = 0) (h2 : 30 ≤ r) : xstep f e r t ts = (7, r, []) := by
  unfold xstep
  rw [if_neg (not_not_intro h), if_pos h2]
theorem xs_3 (h : (xcall e t ts).1 = 0) (h2 : ¬ 30 ≤ r) (h3 : ¬ (exArgs f ((xcall e t ts).2.1.take e.2.2.1.length) (r + 1)).1 = 0) : xstep f e r t ts = ((exArgs f ((xcall e t ts).2.1.take e.2.2.1.length) (r + 1)).1, (exArgs f ((xcall e t ts).2.1.take e.2.2.1.length) (r + 1)).2.1, []) := by
  unfold xstep
  rw [if_neg (not_not_intro h), if_neg h2, if_pos h3]
theorem xs_4 (h : (xcall e t ts).1 = 0) (h2 : ¬ 30 ≤ r) (h3 : (exArgs f ((xcall e t ts).2.1.take e.2.2.1.length) (r + 1)).1 = 0) (h4 : ¬ (mrep e (xcall e t ts).2.1 (exArgs f ((xcall e t ts).2.1.take e.2.2.1.length) (r + 1)).2.2 t.2.1).1 = 0) : xstep f e r t ts = ((mrep e (xcall e t ts).2.1 (exArgs f ((xcall e t ts).2.1.take e.2.2.1.length) (r + 1)).2.2 t.2.1).1, (exArgs f ((xcall e t ts).2.1.take e.2.2.1.length) (r + 1)).2.1, []) := by
  unfold xstep
  rw [if_neg (not_not_intro h), if_neg h2, if_neg (not_not_intro h3), if_pos h4]
theorem xs_5 (h : (xcall e t ts).1 = 0) (h2 : ¬ 30 ≤ r) (h3 : (exArgs f ((xcall e t ts).2.1.take e.2.2.1.length) (r + 1)).1 = 0) (h4 : (mrep e (xcall e t ts).2.1 (exArgs f ((xcall e t ts).2.1.take e.2.2.1.length) (r + 1)).2.2 t.2.1).1 = 0) : xstep f e r t ts = (0, (exArgs f ((xcall e t ts).2.1.take e.2.2.1.length) (r + 1)).2.1, (mrep e (xcall e t ts).2.1 (exArgs f ((xcall e t ts).2.1.take e.2.2.1.length) (r + 1)).2.2 t.2.1).2.map (addE (xhid e t (xcall e t ts).2.2.1)) ++ (xcall e t ts).2.2.2) := by
  unfold xstep
  rw [if_neg (not_not_intro h), if_neg h2, if_neg (not_not_intro h3), if_neg (not_not_intro h4)]
theorem exA_1 {a : List ETok} {as : List (List ETok)} (h : ¬ (f r a).1 = 0) : exArgs f (a :: as) r = ((f r a).1, (f r a).2.1, []) := by
  show (if ¬ (f r a).1 = 0 then _ else _) = _
  rw [if_pos h]
theorem exA_2 {a : List ETok} {as : List (List ETok)} (h : (f r a).1 = 0) (h2 : 40 < ((f r a).2.2.length : Int)) : exArgs f (a :: as) r = (7, (f r a).2.1, []) := by
  show (if ¬ (f r a).1 = 0 then _ else if 40 < ((f r a).2.2.length : Int) then _ else _) = _
  rw [if_neg (not_not_intro h), if_pos h2]
theorem exA_3 {a : List ETok} {as : List (List ETok)} (h : (f r a).1 = 0) (h2 : ¬ 40 < ((f r a).2.2.length : Int)) : exArgs f (a :: as) r = ((exArgs f as (f r a).2.1).1, (exArgs f as (f r a).2.1).2.1, (f r a).2.2 :: (exArgs f as (f r a).2.1).2.2) := by
  show (if ¬ (f r a).1 = 0 then _ else if 40 < ((f r a).2.2.length : Int) then _ else _) = _
  rw [if_neg (not_not_intro h), if_neg h2]
end XS
theorem argr_fr {nm : Nat → Int64} {X Y : Int → Int64} {O Q : Int → Int} {L H : Int → Int} {b p m : Int} {as : List (List ETok)} (h : argr nm X O L H b p as) (b0 : 0 ≤ b) (hp : p ≤ m) (hf : ∀ j, 0 ≤ j → j < m → Y j = X j ∧ Q j = O j) : argr nm Y Q L H b p as := fun k hk h3 => by
  have i := h k hk h3
  exact ⟨bw_fr _ _ (fun j a c => hf j (by omega) (by omega)) i.1, i.2⟩
theorem argo_fr {nm : Nat → Int64} {X Y : Int → Int64} {O Q : Int → Int} {F G F2 G2 : Int → Int} {p p2 : Int} {os : List (List ETok)} {a : List ETok} {n : Int} (h : argo nm X O F G p os) (p0 : 0 ≤ p) (hf : ∀ j, 0 ≤ j → j < p → Y j = X j ∧ Q j = O j) (hn : n = os.length) (hF : F2 = w_u F n p) (hG : G2 = w_u G n (p + a.length)) (ha : fw nm Y Q p a) (hp : p2 = p + a.length) : argo nm Y Q F2 G2 p2 (os ++ [a]) := fun k hk h3 => by
  rw [List.length_append] at hk
  by_cases e : k = os.length
  · subst e
    have : (os ++ [a]).getD os.length [] = a := by
      rw [List.getD_eq_getElem?_getD, List.getElem?_append_right (by omega)]
      simp
    rw [this, hF, hG, hn, w_u_self, w_u_self]
    exact ⟨ha, rfl, p0, by omega⟩
  · have : (os ++ [a]).getD k [] = os.getD k [] := by
      rw [List.getD_eq_getElem?_getD, List.getD_eq_getElem?_getD, List.getElem?_append_left (by simp at hk; omega)]
    have i := h k (by simp at hk; omega) h3
    rw [this, hF, hG, w_u_ne _ _ (by omega), w_u_ne _ _ (by omega)]
    exact ⟨fw_fr _ _ (fun j a c => hf j (by omega) (by omega)) i.1, i.2.1, i.2.2.1, by omega⟩
theorem take_get {as A1 A3 : List (List ETok)} {a : List ETok} {n : Nat} (h : as.take n = A1 ++ a :: A3) : as.getD A1.length [] = a := by
  have h1 : (as.take n)[A1.length]? = some a := by
    rw [h, List.getElem?_append_right (Nat.le_refl _)]
    simp
  rw [List.getElem?_take] at h1
  split at h1
  · rw [List.getD_eq_getElem?_getD, h1]
    rfl
  · cases h1
theorem sumlen_take : ∀ (as : List (List ETok)) (n : Nat), sumlen (as.take n) ≤ sumlen as
  | [], n => by rw [List.take_nil]; exact Int.le_refl _
  | a :: as, 0 => sumlen_n (a :: as)
  | a :: as, n + 1 => by
    have := sumlen_take as n
    show (a.length : Int) + sumlen (as.take n) ≤ a.length + sumlen as
    omega
theorem nm_inj {T : List Mac} (h : tabok T) {k : Nat} (hk : k < T.length) : ∀ q, q < 8 → nmT T q = nmT T k → q = k := fun q _ e => by
  by_cases hq : q < T.length
  · exact h.2 q k hq hk e
  · have : nmT T q = 0 := by
      unfold nmT
      rw [List.getD_eq_getElem?_getD, List.getElem?_eq_none (by omega)]
      rfl
    have h1 := h.1 (k : Int) (by omega) (by omega)
    exact absurd (show (mg T (k : Int)).1 = 0 from (e.symm.trans this)) h1
theorem hide_eq {nm : Nat → Int64} {t c : ETok} {k : Int} {x : Int64} (h0 : 0 ≤ k) (h8 : k < 8) (hx : nm k.toNat = x) (hz : ¬ x = 0) (hi : ∀ q, q < 8 → nm q = nm k.toNat → q = k.toNat) : zor (zand (eo nm t % 256) (eo nm c % 256)) (zshl 1 k) = (hs nm (fun y => (t.2.2 y && c.2.2 y) || decide (y = x)) : Nat) := by
  have h1 := hs_lt nm t.2.2
  have h2 := hs_lt nm c.2.2
  rw [eo_mod, eo_mod, zand_nat (by omega) (by omega) (by omega) (by omega), Int.toNat_natCast, Int.toNat_natCast, hs_and]
  have h3 := hs_lt nm (fun x => t.2.2 x && c.2.2 x)
  have h4 : (1 : Nat) <<< k.toNat = hs nm (fun y => decide (y = x)) := by
    rw [← hx]
    exact hs_one (by omega) (by rw [hx]; exact hz) hi
  have h5 := hs_lt nm (fun y => decide (y = x))
  have h6 : zshl 1 k = ((hs nm (fun y => decide (y = x)) : Nat) : Int) := by
    rw [zshl_nat (by decide) (by decide) h0 (by omega) (by show (1 : Nat) <<< k.toNat < _; rw [h4]; omega), ← h4]
    rfl
  rw [h6, zor_nat (by omega) (by omega) (by omega) (by omega), Int.toNat_natCast, Int.toNat_natCast, hs_or]
theorem c_rt_c {sc : x_S} {d : Nat} {S : w_S} {pi : Nat → Nat} {T : List Mac} {q fu : Nat} {k base r : Int} {e : Mac} {t : ETok} {ts : List ETok} (H : XLp sc T fu) (hT : tabok T) (ht : ctab S pi T) (h42 : ∀ k : Int, 0 ≤ k → k < 31 → sR S 42 k = some (43 + 5 * k.toNat)) (hkk : k = mtx T t ts) (hk0 : ¬ mtx T t ts < 0) (he : e = mg T k) (b0 : 0 ≤ base) (hp : sv S 33 2 = base + (t :: ts).length) (hb : bw (nmT T) (sL S 34) (sA S 35) (sv S 33 2) (t :: ts)) (hl : loks (t :: ts)) (hr : sv S 3 2 = r) (hq : (q : Int) ≤ r) (hr3 : r ≤ 30) (D0 : 0 ≤ sv S 36 2) (hcap : sv S 33 2 + sv S 36 2 ≤ 160 + 40 * r) (hfu : 100 * (31 - r) ≤ fu) (hd : 14 + 3 * (30 - q) ≤ d) : ∀ n : Nat, (∀ (wr : Int) (W : w_S) (lv : x_L) (l0 : lv 0 = some (.ref 3)) (l1 : lv 1 = some (.int (iZ k))) (l2 : lv 2 = some (.int (iZ base))) (l3 : lv 3 = some (.int (iZ q))) (l4 : lv 4 = some (.ref (6 + 3 * pi k.toNat))) (l5 : lv 5 = some (.ref (43 + 5 * q))) (l6 : lv 6 = some (.int (iZ (sv S 33 2 - 1)))) (l7 : lv 7 = some (.int (iZ wr))) (hfr : fr (fun a => 43 + 5 * q ≤ a ∧ a ≤ 45 + 5 * q) S W) (hwr : wr = (xcall e t ts).1) (hok : (xcall e t ts).1 = 0 → sv W (43 + 5 * q) 5 = base + (xcall e t ts).2.2.2.length ∧ argr (nmT T) (sL S 34) (sA S 35) (sA W (44 + 5 * q)) (sA W (45 + 5 * q)) base (sv S 33 2 - 2) (xcall e t ts).2.1 ∧ bw (nmT T) (sL S 34) (sA S 35) (base + (xcall e t ts).2.2.2.length + 1) ((xcall e t ts).2.2.1 :: (xcall e t ts).2.2.2)) (hm : 1000 < n), w_T sc d 24 66 lv [] W (fun v S2 => v = some (.int (iZ (xstep (fun r a => expL T fu r a []) e r t ts).1)) ∧ fr (fun a => a = 3 ∨ (33 ≤ a ∧ a ≤ 41) ∨ (43 + 5 * q ≤ a ∧ a ≤ 197)) S S2 ∧ sv S2 3 2 = (xstep (fun r a => expL T fu r a []) e r t ts).2.1 ∧ (0 ≤ sv S2 33 2 ∧ sv S2 33 2 ≤ 1360) ∧ ((xstep (fun r a => expL T fu r a []) e r t ts).1 = 0 → sv S2 33 2 = base + (xstep (fun r a => expL T fu r a []) e r t ts).2.2.length ∧ bw (nmT T) (sL S2 34) (sA S2 35) (sv S2 33 2) (xstep (fun r a => expL T fu r a []) e r t ts).2.2 ∧ sv S2 36 2 = sv S 36 2 ∧ (∀ j, 0 ≤ j → j < base → sL S2 34 j = sL S 34 j ∧ sA S2 35 j = sA S 35 j) ∧ (∀ j, 0 ≤ j → j < sv S 36 2 → sL S2 37 j = sL S 37 j ∧ sA S2 38 j = sA S 38 j)))) ∧ (∀ (p : Int) (rc : Int) (os : List (List ETok)) (A1 : List (List ETok)) (A2 : List (List ETok)) (W : w_S) (lv : x_L) (l0 : lv 0 = some (.ref 3)) (l1 : lv 1 = some (.int (iZ k))) (l2 : lv 2 = some (.int (iZ base))) (l3 : lv 3 = some (.int (iZ q))) (l4 : lv 4 = some (.ref (6 + 3 * pi k.toNat))) (l5 : lv 5 = some (.ref (43 + 5 * q))) (l6 : lv 6 = some (.int (iZ (sv S 33 2 - 1)))) (l8 : lv 8 = some (.int (iZ (sv S 36 2)))) (l9 : lv 9 = some (.int (iZ p))) (hfr : fr (fun a => a = 3 ∨ (33 ≤ a ∧ a ≤ 41) ∨ (43 + 5 * q ≤ a ∧ a ≤ 197)) S W) (hxz : (xcall e t ts).1 = 0) (hr9 : ¬ 30 ≤ r) (hcs : sv W (43 + 5 * q) 5 = base + (xcall e t ts).2.2.2.length) (hbw : bw (nmT T) (sL S 34) (sA S 35) (base + (xcall e t ts).2.2.2.length + 1) ((xcall e t ts).2.2.1 :: (xcall e t ts).2.2.2)) (hz33 : sv W 33 2 = sv S 33 2) (hpe : (∀ j, 0 ≤ j → j < sv S 33 2 → sL W 34 j = sL S 34 j ∧ sA W 35 j = sA S 35 j)) (hde : (∀ j, 0 ≤ j → j < sv S 36 2 → sL W 37 j = sL S 37 j ∧ sA W 38 j = sA S 38 j)) (har : argr (nmT T) (sL W 34) (sA W 35) (sA W (44 + 5 * q)) (sA W (45 + 5 * q)) base (sv S 33 2 - 2) (xcall e t ts).2.1) (hsp : (xcall e t ts).2.1.take e.2.2.1.length = A1 ++ A2) (hp1 : p = A1.length) (hos : os.length = A1.length) (hpp : p < e.2.2.1.length) (hrc : sv W 3 2 = rc) (hr1 : r + 1 ≤ rc) (hr2 : rc ≤ 30) (hD : sv W 36 2 ≤ sv S 36 2 + sumlen A1 + 40 * (rc - (r + 1))) (hD0 : sv S 36 2 ≤ sv W 36 2) (hag : argo (nmT T) (sL W 37) (sA W 38) (sA W (46 + 5 * q)) (sA W (47 + 5 * q)) (sv W 36 2) os) (he1 : (exArgs (fun r a => expL T fu r a []) ((xcall e t ts).2.1.take e.2.2.1.length) (r + 1)).1 = (exArgs (fun r a => expL T fu r a []) A2 rc).1 ∧ (exArgs (fun r a => expL T fu r a []) ((xcall e t ts).2.1.take e.2.2.1.length) (r + 1)).2.1 = (exArgs (fun r a => expL T fu r a []) A2 rc).2.1 ∧ ((exArgs (fun r a => expL T fu r a []) ((xcall e t ts).2.1.take e.2.2.1.length) (r + 1)).1 = 0 → (exArgs (fun r a => expL T fu r a []) ((xcall e t ts).2.1.take e.2.2.1.length) (r + 1)).2.2 = os ++ (exArgs (fun r a => expL T fu r a []) A2 rc).2.2)) (hm : 10 + A2.length < n), w_T sc d 24 123 lv [] W (fun v S2 => v = some (.int (iZ (xstep (fun r a => expL T fu r a []) e r t ts).1)) ∧ fr (fun a => a = 3 ∨ (33 ≤ a ∧ a ≤ 41) ∨ (43 + 5 * q ≤ a ∧ a ≤ 197)) S S2 ∧ sv S2 3 2 = (xstep (fun r a => expL T fu r a []) e r t ts).2.1 ∧ (0 ≤ sv S2 33 2 ∧ sv S2 33 2 ≤ 1360) ∧ ((xstep (fun r a => expL T fu r a []) e r t ts).1 = 0 → sv S2 33 2 = base + (xstep (fun r a => expL T fu r a []) e r t ts).2.2.length ∧ bw (nmT T) (sL S2 34) (sA S2 35) (sv S2 33 2) (xstep (fun r a => expL T fu r a []) e r t ts).2.2 ∧ sv S2 36 2 = sv S 36 2 ∧ (∀ j, 0 ≤ j → j < base → sL S2 34 j = sL S 34 j ∧ sA S2 35 j = sA S 35 j) ∧ (∀ j, 0 ≤ j → j < sv S 36 2 → sL S2 37 j = sL S 37 j ∧ sA S2 38 j = sA S 38 j)))) ∧ (∀ (wr : Int) (W : w_S) (lv : x_L) (l0 : lv 0 = some (.ref 3)) (l1 : lv 1 = some (.int (iZ k))) (l2 : lv 2 = some (.int (iZ base))) (l3 : lv 3 = some (.int (iZ q))) (l4 : lv 4 = some (.ref (6 + 3 * pi k.toNat))) (l5 : lv 5 = some (.ref (43 + 5 * q))) (l6 : lv 6 = some (.int (iZ (sv S 33 2 - 1)))) (l8 : lv 8 = some (.int (iZ (sv S 36 2)))) (l7 : lv 7 = some (.int (iZ wr))) (hfr : fr (fun a => a = 3 ∨ (33 ≤ a ∧ a ≤ 41) ∨ (43 + 5 * q ≤ a ∧ a ≤ 197)) S W) (hxz : (xcall e t ts).1 = 0) (hr9 : ¬ 30 ≤ r) (hcs : sv W (43 + 5 * q) 5 = base + (xcall e t ts).2.2.2.length) (hbw : bw (nmT T) (sL S 34) (sA S 35) (base + (xcall e t ts).2.2.2.length + 1) ((xcall e t ts).2.2.1 :: (xcall e t ts).2.2.2)) (hpb : 0 ≤ sv W 33 2 ∧ sv W 33 2 ≤ 1360) (hwr : wr = (exArgs (fun r a => expL T fu r a []) ((xcall e t ts).2.1.take e.2.2.1.length) (r + 1)).1) (hrc : sv W 3 2 = (exArgs (fun r a => expL T fu r a []) ((xcall e t ts).2.1.take e.2.2.1.length) (r + 1)).2.1) (hok : (exArgs (fun r a => expL T fu r a []) ((xcall e t ts).2.1.take e.2.2.1.length) (r + 1)).1 = 0 → sv W 33 2 = sv S 33 2 ∧ (∀ j, 0 ≤ j → j < sv S 33 2 → sL W 34 j = sL S 34 j ∧ sA W 35 j = sA S 35 j) ∧ (∀ j, 0 ≤ j → j < sv S 36 2 → sL W 37 j = sL S 37 j ∧ sA W 38 j = sA S 38 j) ∧ argr (nmT T) (sL W 34) (sA W 35) (sA W (44 + 5 * q)) (sA W (45 + 5 * q)) base (sv S 33 2 - 2) (xcall e t ts).2.1 ∧ argo (nmT T) (sL W 37) (sA W 38) (sA W (46 + 5 * q)) (sA W (47 + 5 * q)) (sv W 36 2) (exArgs (fun r a => expL T fu r a []) ((xcall e t ts).2.1.take e.2.2.1.length) (r + 1)).2.2 ∧ sv S 36 2 ≤ sv W 36 2 ∧ sv W 36 2 ≤ 1360) (hm : 0 < n), w_T sc d 24 140 lv [] W (fun v S2 => v = some (.int (iZ (xstep (fun r a => expL T fu r a []) e r t ts).1)) ∧ fr (fun a => a = 3 ∨ (33 ≤ a ∧ a ≤ 41) ∨ (43 + 5 * q ≤ a ∧ a ≤ 197)) S S2 ∧ sv S2 3 2 = (xstep (fun r a => expL T fu r a []) e r t ts).2.1 ∧ (0 ≤ sv S2 33 2 ∧ sv S2 33 2 ≤ 1360) ∧ ((xstep (fun r a => expL T fu r a []) e r t ts).1 = 0 → sv S2 33 2 = base + (xstep (fun r a => expL T fu r a []) e r t ts).2.2.length ∧ bw (nmT T) (sL S2 34) (sA S2 35) (sv S2 33 2) (xstep (fun r a => expL T fu r a []) e r t ts).2.2 ∧ sv S2 36 2 = sv S 36 2 ∧ (∀ j, 0 ≤ j → j < base → sL S2 34 j = sL S 34 j ∧ sA S2 35 j = sA S 35 j) ∧ (∀ j, 0 ≤ j → j < sv S 36 2 → sL S2 37 j = sL S 37 j ∧ sA S2 38 j = sA S 38 j)))) := by
  intro n
  induction n with
  | zero => exact ⟨fun wr W lv l0 l1 l2 l3 l4 l5 l6 l7 hfr hwr hok hm => absurd hm (Nat.not_lt_zero _), fun p rc os A1 A2 W lv l0 l1 l2 l3 l4 l5 l6 l8 l9 hfr hxz hr9 hcs hbw hz33 hpe hde har hsp hp1 hos hpp hrc hr1 hr2 hD hD0 hag he1 hm => absurd hm (Nat.not_lt_zero _), fun wr W lv l0 l1 l2 l3 l4 l5 l6 l8 l7 hfr hxz hr9 hcs hbw hpb hwr hrc hok hm => absurd hm (Nat.not_lt_zero _)⟩
  | succ n ih =>
    refine ⟨?_, ?_, ?_⟩
    · skip
      intro wr W lv l0 l1 l2 l3 l4 l5 l6 l7 hfr hwr hok hm
      have h8 := ht.2.1
      have hmx := mtx_r hk0
      have hkr : k = fnd T t.1 := hkk.trans hmx.1
      have hk8 : 0 ≤ k ∧ k < T.length := by omega
      have hu : pi k.toNat < 8 := ht.2.2.1 _ (by omega)
      have hcm := (ht.2.2.2.2.2 k hk8.1 hk8.2).1
      have ho := (ht.2.2.2.2.2 k hk8.1 hk8.2).2
      rw [← he] at hcm ho
      have hcl : e.2.1 = true → hd40 ts = true := fun z => hmx.2.2.2.2.resolve_right (by rw [← hkk, ← he, z]; decide)
      have hxc := xcall_r (t := t) (ts := ts) ho hcl
      have hP1 : sv S 33 2 = base + ts.length + 1 := by rw [hp, List.length_cons]; omega
      have eR := eo_R (nm := nmT T) (hl t (by simp)).2.1 (hl t (by simp)).2.2
      have kcm : cmac W (pi k.toNat) e := cmac_fr hcm hfr (by omega) (by omega) (by omega)
      have kpl := kcm.2.2.1
      have e3 : sv W 3 2 = r := by rw [fr_gv hfr (by omega)]; exact hr
      have e36 : sv W 36 2 = sv S 36 2 := fr_gv hfr (by omega) 2
      have hp3 := ho.1
      refine w_iload rfl l7 rfl ?_
      refine w_if_eq (pc2 := 74) (pc3 := 71) rfl (by decide) rfl ⟨by omega, by omega⟩ (fun c68 => ?_) (fun c68 => ?_)
      · skip
        refine w_aload_n rfl l0 rfl ?_
        refine w_getI (z := sv W 3 2) rfl rfl sh_3 rfl rfl rfl ?_
        refine w_bipush rfl (by decide) rfl ?_
        refine w_ic_lt (pc2 := 86) (pc3 := 83) rfl (by decide) rfl ⟨by omega, by omega⟩ ⟨by decide, by decide⟩ (fun c80 => ?_) (fun c80 => ?_)
        · skip
          refine w_aload_n rfl l0 rfl ?_
          refine w_dup rfl rfl rfl ?_
          refine w_getI (z := sv W 3 2) rfl rfl sh_3 rfl rfl rfl ?_
          refine w_iconst rfl rfl ?_
          refine w_iadd rfl rfl ?_
          refine w_putf rfl rfl sh_3 rfl rfl (by decide) rfl ?_
          refine w_aload_n rfl l0 rfl ?_
          refine w_getR rfl rfl sh_3 rfl rfl ?_
          refine w_getI (z := sv W 36 2) rfl rfl sh_36 rfl (rv_ne (by decide)) rfl ?_
          rw [e36]
          refine w_istore rfl (by decide) rfl ?_
          refine w_iconst rfl rfl ?_
          refine w_istore rfl (by decide) rfl ?_
          refine w_iload rfl rfl rfl ?_
          refine w_aload rfl l4 rfl ?_
          refine w_getI (z := sv W (6 + 3 * pi k.toNat) 2) rfl rfl (sh_mac hu) rfl (rv_ne (by omega)) rfl ?_
          refine w_ic_ge (pc2 := 140) (pc3 := 118) rfl (by decide) rfl ⟨by decide, by decide⟩ ⟨by omega, by omega⟩ (fun c115 => ?_) (fun c115 => ?_)
          · skip
            exact ih.2.2 wr _ _ (by exact l0) (by exact l1) (by exact l2) (by exact l3) (by exact l4) (by exact l5) (by exact l6) (by exact rfl) (by exact (congrArg x_k2 l7)) (by exact (fr_v (fr_mono hfr (by omega)) (by omega))) (by rw [← hwr]; exact c68) (by omega) (by simp (disch := omega) only [rv_self, rv_ne, rl_self, rl_ne, rA_self, rA_ne, rL_self, rL_ne, rR_self, rR_ne, xvl, xvA, xvL, xvR, xlv, xlA, xlL, xlR, xAv, xAl, xAL, xAR, xLv, xLl, xLA, xLR, xRv, xRl, xRA, xRL]; exact (hok (by rw [← hwr]; exact c68)).1) (by exact (hok (by rw [← hwr]; exact c68)).2.2) (by simp (disch := omega) only [rv_self, rv_ne, rl_self, rl_ne, rA_self, rA_ne, rL_self, rL_ne, rR_self, rR_ne, xvl, xvA, xvL, xvR, xlv, xlA, xlL, xlR, xAv, xAl, xAL, xAR, xLv, xLl, xLA, xLR, xRv, xRl, xRA, xRL]; rw [fr_gv hfr (a := 33) (by omega)]; omega) (by first | (exfalso; omega) | (have hA : (xcall e t ts).2.1.take e.2.2.1.length = [] := (by rw [show e.2.2.1.length = 0 by omega]; rfl); rw [hA]; exact c68)) (by first | (exfalso; omega) | (have hA : (xcall e t ts).2.1.take e.2.2.1.length = [] := (by rw [show e.2.2.1.length = 0 by omega]; rfl); rw [hA]; simp (disch := omega) only [rv_self, rv_ne, rl_self, rl_ne, rA_self, rA_ne, rL_self, rL_ne, rR_self, rR_ne, xvl, xvA, xvL, xvR, xlv, xlA, xlL, xlR, xAv, xAl, xAL, xAR, xLv, xLl, xLA, xLR, xRv, xRl, xRA, xRL]; show sv W 3 2 + 1 = r + 1; omega)) (by first | (exfalso; omega) | (have hA : (xcall e t ts).2.1.take e.2.2.1.length = [] := (by rw [show e.2.2.1.length = 0 by omega]; rfl); rw [hA]; intro _; refine ⟨by simp (disch := omega) only [rv_self, rv_ne, rl_self, rl_ne, rA_self, rA_ne, rL_self, rL_ne, rR_self, rR_ne, xvl, xvA, xvL, xvR, xlv, xlA, xlL, xlR, xAv, xAl, xAL, xAR, xLv, xLl, xLA, xLR, xRv, xRl, xRA, xRL]; exact fr_gv hfr (by omega) 2, ?_, ?_, ?_, fun k z => absurd z (by show ¬ k < ([] : List (List ETok)).length; simp), by simp (disch := omega) only [rv_self, rv_ne, rl_self, rl_ne, rA_self, rA_ne, rL_self, rL_ne, rR_self, rR_ne, xvl, xvA, xvL, xvR, xlv, xlA, xlL, xlR, xAv, xAl, xAL, xAR, xLv, xLl, xLA, xLR, xRv, xRl, xRA, xRL]; omega, by simp (disch := omega) only [rv_self, rv_ne, rl_self, rl_ne, rA_self, rA_ne, rL_self, rL_ne, rR_self, rR_ne, xvl, xvA, xvL, xvR, xlv, xlA, xlL, xlR, xAv, xAl, xAL, xAR, xLv, xLl, xLA, xLR, xRv, xRl, xRA, xRL]; omega⟩; (intro j _ _; simp (disch := omega) only [rv_self, rv_ne, rl_self, rl_ne, rA_self, rA_ne, rL_self, rL_ne, rR_self, rR_ne, xvl, xvA, xvL, xvR, xlv, xlA, xlL, xlR, xAv, xAl, xAL, xAR, xLv, xLl, xLA, xLR, xRv, xRl, xRA, xRL]; rw [fr_gL hfr (a := 34) (by omega), fr_gA hfr (a := 35) (by omega)]; exact ⟨rfl, rfl⟩); (intro j _ _; simp (disch := omega) only [rv_self, rv_ne, rl_self, rl_ne, rA_self, rA_ne, rL_self, rL_ne, rR_self, rR_ne, xvl, xvA, xvL, xvR, xlv, xlA, xlL, xlR, xAv, xAl, xAL, xAR, xLv, xLl, xLA, xLR, xRv, xRl, xRA, xRL]; rw [fr_gL hfr (a := 37) (by omega), fr_gA hfr (a := 38) (by omega)]; exact ⟨rfl, rfl⟩); (simp (disch := omega) only [rv_self, rv_ne, rl_self, rl_ne, rA_self, rA_ne, rL_self, rL_ne, rR_self, rR_ne, xvl, xvA, xvL, xvR, xlv, xlA, xlL, xlR, xAv, xAl, xAL, xAR, xLv, xLl, xLA, xLR, xRv, xRl, xRA, xRL]; rw [fr_gL hfr (a := 34) (by omega), fr_gA hfr (a := 35) (by omega)]; exact (hok (by rw [← hwr]; exact c68)).2.1))) (by omega)
          · skip
            refine w_iload rfl (congrArg x_k2 l7) rfl ?_
            refine w_if_ne (pc2 := 140) (pc3 := 123) rfl (by decide) rfl ⟨by omega, by omega⟩ (fun c120 => ?_) (fun c120 => ?_)
            · skip
              exact ih.2.2 wr _ _ (by exact l0) (by exact l1) (by exact l2) (by exact l3) (by exact l4) (by exact l5) (by exact l6) (by exact rfl) (by exact (congrArg x_k2 l7)) (by exact (fr_v (fr_mono hfr (by omega)) (by omega))) (by rw [← hwr]; exact c68) (by omega) (by simp (disch := omega) only [rv_self, rv_ne, rl_self, rl_ne, rA_self, rA_ne, rL_self, rL_ne, rR_self, rR_ne, xvl, xvA, xvL, xvR, xlv, xlA, xlL, xlR, xAv, xAl, xAL, xAR, xLv, xLl, xLA, xLR, xRv, xRl, xRA, xRL]; exact (hok (by rw [← hwr]; exact c68)).1) (by exact (hok (by rw [← hwr]; exact c68)).2.2) (by simp (disch := omega) only [rv_self, rv_ne, rl_self, rl_ne, rA_self, rA_ne, rL_self, rL_ne, rR_self, rR_ne, xvl, xvA, xvL, xvR, xlv, xlA, xlL, xlR, xAv, xAl, xAL, xAR, xLv, xLl, xLA, xLR, xRv, xRl, xRA, xRL]; rw [fr_gv hfr (a := 33) (by omega)]; omega) (by first | (exfalso; omega) | (have hA : (xcall e t ts).2.1.take e.2.2.1.length = [] := (by rw [show e.2.2.1.length = 0 by omega]; rfl); rw [hA]; exact c68)) (by first | (exfalso; omega) | (have hA : (xcall e t ts).2.1.take e.2.2.1.length = [] := (by rw [show e.2.2.1.length = 0 by omega]; rfl); rw [hA]; simp (disch := omega) only [rv_self, rv_ne, rl_self, rl_ne, rA_self, rA_ne, rL_self, rL_ne, rR_self, rR_ne, xvl, xvA, xvL, xvR, xlv, xlA, xlL, xlR, xAv, xAl, xAL, xAR, xLv, xLl, xLA, xLR, xRv, xRl, xRA, xRL]; show sv W 3 2 + 1 = r + 1; omega)) (by first | (exfalso; omega) | (have hA : (xcall e t ts).2.1.take e.2.2.1.length = [] := (by rw [show e.2.2.1.length = 0 by omega]; rfl); rw [hA]; intro _; refine ⟨by simp (disch := omega) only [rv_self, rv_ne, rl_self, rl_ne, rA_self, rA_ne, rL_self, rL_ne, rR_self, rR_ne, xvl, xvA, xvL, xvR, xlv, xlA, xlL, xlR, xAv, xAl, xAL, xAR, xLv, xLl, xLA, xLR, xRv, xRl, xRA, xRL]; exact fr_gv hfr (by omega) 2, ?_, ?_, ?_, fun k z => absurd z (by show ¬ k < ([] : List (List ETok)).length; simp), by simp (disch := omega) only [rv_self, rv_ne, rl_self, rl_ne, rA_self, rA_ne, rL_self, rL_ne, rR_self, rR_ne, xvl, xvA, xvL, xvR, xlv, xlA, xlL, xlR, xAv, xAl, xAL, xAR, xLv, xLl, xLA, xLR, xRv, xRl, xRA, xRL]; omega, by simp (disch := omega) only [rv_self, rv_ne, rl_self, rl_ne, rA_self, rA_ne, rL_self, rL_ne, rR_self, rR_ne, xvl, xvA, xvL, xvR, xlv, xlA, xlL, xlR, xAv, xAl, xAL, xAR, xLv, xLl, xLA, xLR, xRv, xRl, xRA, xRL]; omega⟩; (intro j _ _; simp (disch := omega) only [rv_self, rv_ne, rl_self, rl_ne, rA_self, rA_ne, rL_self, rL_ne, rR_self, rR_ne, xvl, xvA, xvL, xvR, xlv, xlA, xlL, xlR, xAv, xAl, xAL, xAR, xLv, xLl, xLA, xLR, xRv, xRl, xRA, xRL]; rw [fr_gL hfr (a := 34) (by omega), fr_gA hfr (a := 35) (by omega)]; exact ⟨rfl, rfl⟩); (intro j _ _; simp (disch := omega) only [rv_self, rv_ne, rl_self, rl_ne, rA_self, rA_ne, rL_self, rL_ne, rR_self, rR_ne, xvl, xvA, xvL, xvR, xlv, xlA, xlL, xlR, xAv, xAl, xAL, xAR, xLv, xLl, xLA, xLR, xRv, xRl, xRA, xRL]; rw [fr_gL hfr (a := 37) (by omega), fr_gA hfr (a := 38) (by omega)]; exact ⟨rfl, rfl⟩); (simp (disch := omega) only [rv_self, rv_ne, rl_self, rl_ne, rA_self, rA_ne, rL_self, rL_ne, rR_self, rR_ne, xvl, xvA, xvL, xvR, xlv, xlA, xlL, xlR, xAv, xAl, xAL, xAR, xLv, xLl, xLA, xLR, xRv, xRl, xRA, xRL]; rw [fr_gL hfr (a := 34) (by omega), fr_gA hfr (a := 35) (by omega)]; exact (hok (by rw [← hwr]; exact c68)).2.1))) (by omega)
            · skip
              exact ih.2.1 0 ((r + 1)) ([]) ([]) ((xcall e t ts).2.1.take e.2.2.1.length) _ _ l0 l1 l2 l3 l4 l5 l6 rfl rfl (by exact (fr_v (fr_mono hfr (by omega)) (by omega))) (by rw [← hwr]; exact c68) (by omega) (by simp (disch := omega) only [rv_self, rv_ne, rl_self, rl_ne, rA_self, rA_ne, rL_self, rL_ne, rR_self, rR_ne, xvl, xvA, xvL, xvR, xlv, xlA, xlL, xlR, xAv, xAl, xAL, xAR, xLv, xLl, xLA, xLR, xRv, xRl, xRA, xRL]; exact (hok (by rw [← hwr]; exact c68)).1) (by exact (hok (by rw [← hwr]; exact c68)).2.2) (by simp (disch := omega) only [rv_self, rv_ne, rl_self, rl_ne, rA_self, rA_ne, rL_self, rL_ne, rR_self, rR_ne, xvl, xvA, xvL, xvR, xlv, xlA, xlL, xlR, xAv, xAl, xAL, xAR, xLv, xLl, xLA, xLR, xRv, xRl, xRA, xRL]; exact fr_gv hfr (by omega) 2) (by intro j _ _; simp (disch := omega) only [rv_self, rv_ne, rl_self, rl_ne, rA_self, rA_ne, rL_self, rL_ne, rR_self, rR_ne, xvl, xvA, xvL, xvR, xlv, xlA, xlL, xlR, xAv, xAl, xAL, xAR, xLv, xLl, xLA, xLR, xRv, xRl, xRA, xRL]; rw [fr_gL hfr (a := 34) (by omega), fr_gA hfr (a := 35) (by omega)]; exact ⟨rfl, rfl⟩) (by intro j _ _; simp (disch := omega) only [rv_self, rv_ne, rl_self, rl_ne, rA_self, rA_ne, rL_self, rL_ne, rR_self, rR_ne, xvl, xvA, xvL, xvR, xlv, xlA, xlL, xlR, xAv, xAl, xAL, xAR, xLv, xLl, xLA, xLR, xRv, xRl, xRA, xRL]; rw [fr_gL hfr (a := 37) (by omega), fr_gA hfr (a := 38) (by omega)]; exact ⟨rfl, rfl⟩) (by simp (disch := omega) only [rv_self, rv_ne, rl_self, rl_ne, rA_self, rA_ne, rL_self, rL_ne, rR_self, rR_ne, xvl, xvA, xvL, xvR, xlv, xlA, xlL, xlR, xAv, xAl, xAL, xAR, xLv, xLl, xLA, xLR, xRv, xRl, xRA, xRL]; rw [fr_gL hfr (a := 34) (by omega), fr_gA hfr (a := 35) (by omega)]; exact (hok (by rw [← hwr]; exact c68)).2.1) (by exact (List.nil_append _).symm) (by rfl) (by rfl) (by omega) (by simp (disch := omega) only [rv_self, rv_ne, rl_self, rl_ne, rA_self, rA_ne, rL_self, rL_ne, rR_self, rR_ne, xvl, xvA, xvL, xvR, xlv, xlA, xlL, xlR, xAv, xAl, xAL, xAR, xLv, xLl, xLA, xLR, xRv, xRl, xRA, xRL]; omega) (by omega) (by omega) (by have z : sumlen [] = 0 := rfl; simp (disch := omega) only [rv_self, rv_ne, rl_self, rl_ne, rA_self, rA_ne, rL_self, rL_ne, rR_self, rR_ne, xvl, xvA, xvL, xvR, xlv, xlA, xlL, xlR, xAv, xAl, xAL, xAR, xLv, xLl, xLA, xLR, xRv, xRl, xRA, xRL]; rw [z]; omega) (by simp (disch := omega) only [rv_self, rv_ne, rl_self, rl_ne, rA_self, rA_ne, rL_self, rL_ne, rR_self, rR_ne, xvl, xvA, xvL, xvR, xlv, xlA, xlL, xlR, xAv, xAl, xAL, xAR, xLv, xLl, xLA, xLR, xRv, xRl, xRA, xRL]; omega) (by exact fun k z => absurd z (by simp)) (by exact ⟨rfl, rfl, fun _ => rfl⟩) (by first | omega | (rw [List.length_take]; omega) | (simp only [List.length_cons] at hm; omega))
        · skip
          refine w_bipush rfl (by decide) rfl ?_
          refine w_iret rfl rfl ?_
          have h1 : (xcall e t ts).1 = 0 := by rw [← hwr]; exact c68
          rw [xs_2 h1 (by omega)]
          exact ⟨rfl, fr_mono hfr (by omega), e3, by rw [fr_gv hfr (a := 33) (by omega)]; omega, fun z => absurd z (by show ¬ (7 : Int) = 0; decide)⟩
      · skip
        refine w_iload rfl l7 rfl ?_
        refine w_iret rfl rfl ?_
        have h1 : ¬ (xcall e t ts).1 = 0 := by rw [← hwr]; exact c68
        rw [xs_1 h1]
        exact ⟨by rw [hwr], fr_mono hfr (by omega), e3, by rw [fr_gv hfr (a := 33) (by omega)]; omega, fun z => absurd z h1⟩
    · skip
      intro p rc os A1 A2 W lv l0 l1 l2 l3 l4 l5 l6 l8 l9 hfr hxz hr9 hcs hbw hz33 hpe hde har hsp hp1 hos hpp hrc hr1 hr2 hD hD0 hag he1 hm
      have h8 := ht.2.1
      have hmx := mtx_r hk0
      have hkr : k = fnd T t.1 := hkk.trans hmx.1
      have hk8 : 0 ≤ k ∧ k < T.length := by omega
      have hu : pi k.toNat < 8 := ht.2.2.1 _ (by omega)
      have hcm := (ht.2.2.2.2.2 k hk8.1 hk8.2).1
      have ho := (ht.2.2.2.2.2 k hk8.1 hk8.2).2
      rw [← he] at hcm ho
      have hcl : e.2.1 = true → hd40 ts = true := fun z => hmx.2.2.2.2.resolve_right (by rw [← hkk, ← he, z]; decide)
      have hxc := xcall_r (t := t) (ts := ts) ho hcl
      have hP1 : sv S 33 2 = base + ts.length + 1 := by rw [hp, List.length_cons]; omega
      have eR := eo_R (nm := nmT T) (hl t (by simp)).2.1 (hl t (by simp)).2.2
      have kcm : cmac W (pi k.toNat) e := cmac_fr hcm hfr (by omega) (by omega) (by omega)
      have kpl := kcm.2.2.1
      have hp3 := ho.1
      have hx0 := hxc.2.2 hxz
      have htl : ((xcall e t ts).2.1.take e.2.2.1.length).length = e.2.2.1.length := by rw [List.length_take]; omega
      rw [hsp, List.length_append] at htl
      obtain ⟨a, A3, rfl⟩ := list_cons (l := A2) (by omega)
      have hgd : (xcall e t ts).2.1.getD p.toNat [] = a := by rw [show p.toNat = A1.length by omega]; exact take_get hsp
      have hsl := sumlen_take (xcall e t ts).2.1 e.2.2.1.length
      rw [hsp, sumlen_app] at hsl
      have hsa : sumlen (a :: A3) = a.length + sumlen A3 := rfl
      have hs1 := sumlen_n A1
      have hs3 := sumlen_n A3
      have ktab : ctab W pi T := ctab_fr ht hfr (by omega)
      have k42 : ∀ k : Int, 0 ≤ k → k < 31 → sR W 42 k = some (43 + 5 * k.toNat) := by rw [fr_gR hfr (by omega)]; exact h42
      have klk := (hx0.2.2.2 (hl t (by simp)) (fun x hx => hl x (by simp [hx]))).1
      have kal : loks ((xcall e t ts).2.1.getD p.toNat []) := lall_get klk _
      simp only [List.length_cons] at htl
      refine w_aload_n rfl l0 rfl ?_
      refine w_aload rfl l5 rfl ?_
      refine w_iload rfl l9 rfl ?_
      refine w_iload_n rfl l3 rfl ?_
      refine w_CV (as := [.ref (43 + 5 * q), .int (iZ p), .int (iZ q)]) (r := []) rfl rfl rfl rfl sh_3 (Nat.le_of_ble_eq_true rfl) (Nat.le_of_ble_eq_true rfl) (by omega) rfl (c_ea (S := W) (pi := pi) (T := T) (q := q) (fu := fu) (p := p) (r := rc) (base := base) (top := sv S 33 2 - 2) (as := (xcall e t ts).2.1) H ktab k42 hrc (by omega) hr2 (by omega) (by omega) (by omega) har b0 (by omega) kal (by omega) (by rw [hgd]; omega) (by rw [hgd]; omega) (by omega)) ?_
      rintro _ V ⟨rfl, f1, hr1b, hpb, hx1⟩
      show w_T _ _ 24 132 _ [.int (iZ ((if ¬ (expL T fu rc ((xcall e t ts).2.1.getD p.toNat []) []).1 = 0 then (expL T fu rc ((xcall e t ts).2.1.getD p.toNat []) []).1 else if 40 < ((expL T fu rc ((xcall e t ts).2.1.getD p.toNat []) []).2.2.length : Int) then 7 else 0)))] _ _
      rw [hgd] at hx1 hr1b
      have xr := expL_r (T := T) (fun k k0 k1 => (ht.2.2.2.2.2 k k0 k1).2) fu rc a [] hr2
      rw [List.length_nil] at xr
      have kcv : cmac V (pi k.toNat) e := cmac_fr kcm f1 (by omega) (by omega) (by omega)
      have kpv := kcv.2.2.1
      generalize hwv : ((if ¬ (expL T fu rc ((xcall e t ts).2.1.getD p.toNat []) []).1 = 0 then (expL T fu rc ((xcall e t ts).2.1.getD p.toNat []) []).1 else if 40 < ((expL T fu rc ((xcall e t ts).2.1.getD p.toNat []) []).2.2.length : Int) then 7 else 0)) = wv
      rw [hgd] at hwv
      have hwz : wv = 0 → (expL T fu rc a []).1 = 0 ∧ ¬ 40 < ((expL T fu rc a []).2.2.length : Int) := fun z => by
        rw [z] at hwv
        by_cases h1 : (expL T fu rc a []).1 = 0
        · by_cases h2 : 40 < ((expL T fu rc a []).2.2.length : Int)
          · rw [if_neg (not_not_intro h1), if_pos h2] at hwv
            exact absurd hwv (by decide)
          · exact ⟨h1, h2⟩
        · rw [if_pos h1] at hwv
          exact absurd hwv h1
      have hwn : ¬ wv = 0 → (exArgs (fun r a => expL T fu r a []) (a :: A3) rc).1 = wv ∧ (exArgs (fun r a => expL T fu r a []) (a :: A3) rc).2.1 = (expL T fu rc a []).2.1 := fun z => by
        by_cases h1 : (expL T fu rc a []).1 = 0
        · by_cases h2 : 40 < ((expL T fu rc a []).2.2.length : Int)
          · rw [if_neg (not_not_intro h1), if_pos h2] at hwv
            rw [exA_2 h1 h2]
            exact ⟨hwv, rfl⟩
          · rw [if_neg (not_not_intro h1), if_neg h2] at hwv
            exact absurd hwv.symm z
        · rw [if_pos h1] at hwv
          rw [exA_1 h1]
          exact ⟨hwv, rfl⟩
      have hwR : 0 ≤ wv ∧ wv ≤ 99 := by
        rw [← hwv]
        split
        · omega
        · split <;> omega
      refine w_istore rfl (by decide) rfl ?_
      refine w_iinc rfl l9 (by decide) rfl ?_
      refine w_goto (pc2 := 108) rfl (by decide) ?_
      refine w_iload rfl rfl rfl ?_
      refine w_aload rfl l4 rfl ?_
      refine w_getI (z := sv V (6 + 3 * pi k.toNat) 2) rfl rfl (sh_mac hu) rfl rfl rfl ?_
      refine w_ic_ge (pc2 := 140) (pc3 := 118) rfl (by decide) rfl ⟨by omega, by omega⟩ ⟨by omega, by omega⟩ (fun c115 => ?_) (fun c115 => ?_)
      · skip
        exact ih.2.2 wv _ _ (by exact l0) (by exact l1) (by exact l2) (by exact l3) (by exact l4) (by exact l5) (by exact (congrArg x_k2 l6)) (by exact (congrArg x_k2 l8)) (by exact rfl) (by exact (fr_trans hfr (fr_mono f1 (by omega)))) (by exact hxz) (by exact hr9) (by rw [fr_gv f1 (by omega)]; exact hcs) (by exact hbw) (by exact hpb) (by rw [he1.1]; by_cases h0 : wv = 0; (have h9 := hwz h0; have h3 : A3 = [] := List.eq_nil_of_length_eq_zero (by first | omega | (rw [fr_gv f1 (by omega)] at c115; omega)); rw [exA_3 h9.1 h9.2, h3, h0]; rfl); (exact (hwn h0).1.symm)) (by rw [he1.2.1]; by_cases h0 : wv = 0; (have h9 := hwz h0; have h3 : A3 = [] := List.eq_nil_of_length_eq_zero (by first | omega | (rw [fr_gv f1 (by omega)] at c115; omega)); rw [exA_3 h9.1 h9.2, h3]; exact hr1b); (rw [(hwn h0).2]; exact hr1b)) (by intro z0; have h0 : wv = 0 := (by by_cases h0 : wv = 0; exact h0; exact absurd ((hwn h0).1.symm.trans (he1.1.symm.trans z0)) h0); have hwz0 := hwz h0; have hx2 := hx1 (hwv.trans h0); have h3 : A3 = [] := List.eq_nil_of_length_eq_zero (by first | omega | (rw [fr_gv f1 (by omega)] at c115; omega)); have h7 := he1.2.2 z0; rw [exA_3 hwz0.1 hwz0.2, h3] at h7; have h6 := xr.2.2.2.2 hwz0.1; refine ⟨hx2.1.trans hz33, ?_, ?_, ?_, ?_, ?_, ?_⟩; (intro j j0 j1; have h9 := hx2.2.2.2.1 j j0 (by omega); have h8 := hpe j j0 j1; exact ⟨h9.1.trans h8.1, h9.2.trans h8.2⟩); (intro j j0 j1; have h9 := hx2.2.2.2.2.1 j j0 (by omega); have h8 := hde j j0 j1; exact ⟨h9.1.trans h8.1, h9.2.trans h8.2⟩); (rw [fr_gA f1 (a := 44 + 5 * q) (by omega), fr_gA f1 (a := 45 + 5 * q) (by omega)]; exact argr_fr har b0 (m := sv S 33 2) (by omega) (fun j j0 j1 => hx2.2.2.2.1 j j0 (by omega))); (rw [h7]; exact argo_fr hag (by omega) hx2.2.2.2.2.1 (by omega) hx2.2.2.2.2.2.1 hx2.2.2.2.2.2.2 hx2.2.2.1 hx2.2.1); (rw [hx2.2.1]; omega); (rw [hx2.2.1]; omega)) (by omega)
      · skip
        refine w_iload rfl rfl rfl ?_
        refine w_if_ne (pc2 := 140) (pc3 := 123) rfl (by decide) rfl ⟨by omega, by omega⟩ (fun c120 => ?_) (fun c120 => ?_)
        · skip
          exact ih.2.2 wv _ _ (by exact l0) (by exact l1) (by exact l2) (by exact l3) (by exact l4) (by exact l5) (by exact (congrArg x_k2 l6)) (by exact (congrArg x_k2 l8)) (by exact rfl) (by exact (fr_trans hfr (fr_mono f1 (by omega)))) (by exact hxz) (by exact hr9) (by rw [fr_gv f1 (by omega)]; exact hcs) (by exact hbw) (by exact hpb) (by rw [he1.1]; by_cases h0 : wv = 0; (have h9 := hwz h0; have h3 : A3 = [] := List.eq_nil_of_length_eq_zero (by first | omega | (rw [fr_gv f1 (by omega)] at c115; omega)); rw [exA_3 h9.1 h9.2, h3, h0]; rfl); (exact (hwn h0).1.symm)) (by rw [he1.2.1]; by_cases h0 : wv = 0; (have h9 := hwz h0; have h3 : A3 = [] := List.eq_nil_of_length_eq_zero (by first | omega | (rw [fr_gv f1 (by omega)] at c115; omega)); rw [exA_3 h9.1 h9.2, h3]; exact hr1b); (rw [(hwn h0).2]; exact hr1b)) (by intro z0; have h0 : wv = 0 := (by by_cases h0 : wv = 0; exact h0; exact absurd ((hwn h0).1.symm.trans (he1.1.symm.trans z0)) h0); have hwz0 := hwz h0; have hx2 := hx1 (hwv.trans h0); have h3 : A3 = [] := List.eq_nil_of_length_eq_zero (by first | omega | (rw [fr_gv f1 (by omega)] at c115; omega)); have h7 := he1.2.2 z0; rw [exA_3 hwz0.1 hwz0.2, h3] at h7; have h6 := xr.2.2.2.2 hwz0.1; refine ⟨hx2.1.trans hz33, ?_, ?_, ?_, ?_, ?_, ?_⟩; (intro j j0 j1; have h9 := hx2.2.2.2.1 j j0 (by omega); have h8 := hpe j j0 j1; exact ⟨h9.1.trans h8.1, h9.2.trans h8.2⟩); (intro j j0 j1; have h9 := hx2.2.2.2.2.1 j j0 (by omega); have h8 := hde j j0 j1; exact ⟨h9.1.trans h8.1, h9.2.trans h8.2⟩); (rw [fr_gA f1 (a := 44 + 5 * q) (by omega), fr_gA f1 (a := 45 + 5 * q) (by omega)]; exact argr_fr har b0 (m := sv S 33 2) (by omega) (fun j j0 j1 => hx2.2.2.2.1 j j0 (by omega))); (rw [h7]; exact argo_fr hag (by omega) hx2.2.2.2.2.1 (by omega) hx2.2.2.2.2.2.1 hx2.2.2.2.2.2.2 hx2.2.2.1 hx2.2.1); (rw [hx2.2.1]; omega); (rw [hx2.2.1]; omega)) (by omega)
        · skip
          have hwz0 := hwz c120
          have hx2 := hx1 (hwv.trans c120)
          have hx21 := hx2.2.1
          have hx6 := (xr.2.2.2.2 hwz0.1).1
          exact ih.2.1 (p + 1) ((expL T fu rc a []).2.1) ((os ++ [(expL T fu rc a []).2.2])) ((A1 ++ [a])) A3 _ _ (by exact l0) (by exact l1) (by exact l2) (by exact l3) (by exact l4) (by exact l5) (by exact (congrArg x_k2 l6)) (by exact (congrArg x_k2 l8)) (by exact rfl) (by exact (fr_trans hfr (fr_mono f1 (by omega)))) (by exact hxz) (by exact hr9) (by rw [fr_gv f1 (by omega)]; exact hcs) (by exact hbw) (by exact hx2.1.trans hz33) (by intro j j0 j1; have h9 := hx2.2.2.2.1 j j0 (by omega); have h8 := hpe j j0 j1; exact ⟨h9.1.trans h8.1, h9.2.trans h8.2⟩) (by intro j j0 j1; have h9 := hx2.2.2.2.2.1 j j0 (by omega); have h8 := hde j j0 j1; exact ⟨h9.1.trans h8.1, h9.2.trans h8.2⟩) (by rw [fr_gA f1 (a := 44 + 5 * q) (by omega), fr_gA f1 (a := 45 + 5 * q) (by omega)]; exact argr_fr har b0 (m := sv S 33 2) (by omega) (fun j j0 j1 => hx2.2.2.2.1 j j0 (by omega))) (by rw [hsp, List.append_assoc]; rfl) (by rw [List.length_append, hp1]; rfl) (by rw [List.length_append, List.length_append, hos]; rfl) (by rw [fr_gv f1 (by omega)] at c115; omega) (by exact hr1b) (by omega) (by omega) (by rw [sumlen_app]; have z : sumlen [a] = (a.length : Int) + 0 := rfl; rw [z]; omega) (by omega) (by exact argo_fr hag (by omega) hx2.2.2.2.2.1 (by omega) hx2.2.2.2.2.2.1 hx2.2.2.2.2.2.2 hx2.2.2.1 hx2.2.1) (by rw [exA_3 hwz0.1 hwz0.2] at he1; exact ⟨he1.1, he1.2.1, fun z => by rw [he1.2.2 z, List.append_assoc]; rfl⟩) (by first | omega | (rw [List.length_take]; omega) | (simp only [List.length_cons] at hm; omega))
    · skip
      intro wr W lv l0 l1 l2 l3 l4 l5 l6 l8 l7 hfr hxz hr9 hcs hbw hpb hwr hrc hok hm
      have h8 := ht.2.1
      have hmx := mtx_r hk0
      have hkr : k = fnd T t.1 := hkk.trans hmx.1
      have hk8 : 0 ≤ k ∧ k < T.length := by omega
      have hu : pi k.toNat < 8 := ht.2.2.1 _ (by omega)
      have hcm := (ht.2.2.2.2.2 k hk8.1 hk8.2).1
      have ho := (ht.2.2.2.2.2 k hk8.1 hk8.2).2
      rw [← he] at hcm ho
      have hcl : e.2.1 = true → hd40 ts = true := fun z => hmx.2.2.2.2.resolve_right (by rw [← hkk, ← he, z]; decide)
      have hxc := xcall_r (t := t) (ts := ts) ho hcl
      have hP1 : sv S 33 2 = base + ts.length + 1 := by rw [hp, List.length_cons]; omega
      have eR := eo_R (nm := nmT T) (hl t (by simp)).2.1 (hl t (by simp)).2.2
      have kcm : cmac W (pi k.toNat) e := cmac_fr hcm hfr (by omega) (by omega) (by omega)
      have kpl := kcm.2.2.1
      have hp3 := ho.1
      have xar := exArgs_r (f := (fun r a => expL T fu r a [])) (fun r a hr => ⟨(expL_r (T := T) (fun k k0 k1 => (ht.2.2.2.2.2 k k0 k1).2) fu r a [] hr).1, (expL_r (T := T) (fun k k0 k1 => (ht.2.2.2.2.2 k k0 k1).2) fu r a [] hr).2.1, (expL_r (T := T) (fun k k0 k1 => (ht.2.2.2.2.2 k k0 k1).2) fu r a [] hr).2.2.1, (expL_r (T := T) (fun k k0 k1 => (ht.2.2.2.2.2 k k0 k1).2) fu r a [] hr).2.2.2.1⟩) ((xcall e t ts).2.1.take e.2.2.1.length) (r + 1) (by omega)
      refine w_iload rfl l7 rfl ?_
      refine w_if_ne (pc2 := 164) (pc3 := 145) rfl (by decide) rfl ⟨by omega, by omega⟩ (fun c142 => ?_) (fun c142 => ?_)
      · skip
        refine w_iload rfl l7 rfl ?_
        refine w_if_ne (pc2 := 224) (pc3 := 169) rfl (by decide) rfl ⟨by omega, by omega⟩ (fun c166 => ?_) (fun c166 => ?_)
        · skip
          refine w_iload rfl l7 rfl ?_
          refine w_iret rfl rfl ?_
          have h1 : ¬ (exArgs (fun r a => expL T fu r a []) ((xcall e t ts).2.1.take e.2.2.1.length) (r + 1)).1 = 0 := by rw [← hwr]; exact c142
          rw [xs_3 (f := (fun r a => expL T fu r a [])) hxz hr9 h1]
          exact ⟨by rw [hwr], hfr, hrc, hpb, fun z => absurd z h1⟩
        · exact absurd c166 c142
      · skip
        have hxa0 : (exArgs (fun r a => expL T fu r a []) ((xcall e t ts).2.1.take e.2.2.1.length) (r + 1)).1 = 0 := by rw [← hwr]; exact c142
        have hk2 := hok hxa0
        have hk21 := hk2.1
        have hk26 := hk2.2.2.2.2.2
        have hx0 := hxc.2.2 hxz
        have klk := hx0.2.2.2 (hl t (by simp)) (fun x hx => hl x (by simp [hx]))
        have kla := exArgs_ok (f := (fun r a => expL T fu r a [])) (fun r a hr => ⟨(expL_r (T := T) (fun k k0 k1 => (ht.2.2.2.2.2 k k0 k1).2) fu r a [] hr).1, (expL_r (T := T) (fun k k0 k1 => (ht.2.2.2.2.2 k k0 k1).2) fu r a [] hr).2.1, (expL_r (T := T) (fun k k0 k1 => (ht.2.2.2.2.2 k k0 k1).2) fu r a [] hr).2.2.1, (expL_r (T := T) (fun k k0 k1 => (ht.2.2.2.2.2 k k0 k1).2) fu r a [] hr).2.2.2.1⟩) (fun r a hr hz ha => ((expL_r (T := T) (fun k k0 k1 => (ht.2.2.2.2.2 k k0 k1).2) fu r a [] hr).2.2.2.2 hz).2 ha (fun x hx => absurd hx (by simp))) ((xcall e t ts).2.1.take e.2.2.1.length) (r + 1) (by omega) (fun x hx => klk.1 x (List.mem_of_mem_take hx)) hxa0
        have hO : sA W 35 (sv S 33 2 - 1) = eo (nmT T) t := by rw [(hk2.2.1 _ (by omega) (by omega)).2]; exact hb.2.1
        refine w_aload_n rfl l0 rfl ?_
        refine w_aload rfl l4 rfl ?_
        refine w_aload rfl l5 rfl ?_
        refine w_aload_n rfl l0 rfl ?_
        refine w_getR rfl rfl sh_3 rfl rfl ?_
        refine w_iload rfl l6 rfl ?_
        refine w_CV (as := [.int (iZ (sv S 33 2 - 1))]) (r := [.ref (43 + 5 * q), .ref (6 + 3 * pi k.toNat), .ref 3]) rfl rfl rfl rfl sh_33 (Nat.le_of_ble_eq_true rfl) (Nat.le_of_ble_eq_true rfl) (by omega) rfl (c_plc (a := 33) (b := 34) (c := 35) (n := 1360) (i := sv S 33 2 - 1) ⟨sh_33, sh_34, sh_35⟩ (by decide) (by omega) (by omega) (by omega) (by omega) (by omega)) ?_
        rintro _ _ ⟨rfl, hS⟩
        rw [hS]
        show w_T _ _ 24 159 _ [.int (iZ (sA W 35 (sv S 33 2 - 1) / 256)), .ref (43 + 5 * q), .ref (6 + 3 * pi k.toNat), .ref 3] _ _
        generalize hplx : (sA W 35 (sv S 33 2 - 1) / 256) = plx
        rw [hO, eo_div] at hplx
        have hot1 : 0 ≤ t.2.1 ∧ t.2.1 ≤ 4000 := ⟨(hl t (by simp)).2.1, (hl t (by simp)).2.2⟩
        refine w_CV (as := [.ref (6 + 3 * pi k.toNat), .ref (43 + 5 * q), .int (iZ plx)]) (r := []) rfl rfl rfl rfl sh_3 (Nat.le_of_ble_eq_true rfl) (Nat.le_of_ble_eq_true rfl) (by omega) rfl (c_mkr (S := W) (T := T) (u := pi k.toNat) (q := q) (e := e) (base := base) (top := sv S 33 2 - 2) (pl := plx) (as := (xcall e t ts).2.1) (os := (exArgs (fun r a => expL T fu r a []) ((xcall e t ts).2.1.take e.2.2.1.length) (r + 1)).2.2) (by omega) hu kcm ho hk2.2.2.2.1 hk2.2.2.2.2.1 hx0.2.2.1 (by have := (xar.2.2.2.2 hxa0).1; rw [List.length_take] at this; omega) (fun k => by have := sumlen_get (xcall e t ts).2.1 k; omega) (xar.2.2.2.2 hxa0).2 b0 (by omega) (by omega) (by omega) (by omega) (by omega) (lall_get klk.1) (lall_get kla) (by omega)) ?_
        rintro _ V ⟨rfl, f1, hm1⟩
        show w_T _ _ 24 162 _ [.int (iZ ((mrep e (xcall e t ts).2.1 (exArgs (fun r a => expL T fu r a []) ((xcall e t ts).2.1.take e.2.2.1.length) (r + 1)).2.2 plx).1))] _ _
        have mrr := mrep_r (e := e) (as := (xcall e t ts).2.1) (os := (exArgs (fun r a => expL T fu r a []) ((xcall e t ts).2.1.take e.2.2.1.length) (r + 1)).2.2) (pl := plx)
        refine w_istore rfl (by decide) rfl ?_
        refine w_iload rfl rfl rfl ?_
        refine w_if_ne (pc2 := 224) (pc3 := 169) rfl (by decide) rfl ⟨by omega, by omega⟩ (fun c166 => ?_) (fun c166 => ?_)
        · skip
          refine w_iload rfl rfl rfl ?_
          refine w_iret rfl rfl ?_
          rw [← hplx] at c166 hm1 mrr ⊢
          rw [xs_4 (f := (fun r a => expL T fu r a [])) hxz hr9 hxa0 c166]
          exact ⟨rfl, fr_trans hfr (fr_mono f1 (by omega)), by rw [fr_gv f1 (by omega)]; exact hrc, by rw [fr_gv f1 (by omega)]; exact hpb, fun z => absurd z c166⟩
        · skip
          have hclv : sv V (43 + 5 * q) 5 = base + (xcall e t ts).2.2.2.length := by rw [fr_gv f1 (by omega)]; exact hcs
          have hlt : ((xcall e t ts).2.2.2.length : Int) ≤ ts.length := by have := hx0.1; omega
          have hOV : sA V 35 (sv S 33 2 - 1) = eo (nmT T) t := by rw [fr_gA f1 (by omega)]; exact hO
          have hOc : sA V 35 (sv V (43 + 5 * q) 5) = eo (nmT T) (xcall e t ts).2.2.1 := by
            rw [fr_gA f1 (by omega), hclv, (hk2.2.1 _ (by omega) (by omega)).2]
            have := hbw.2.1
            rw [show base + ((xcall e t ts).2.2.2.length : Int) + 1 - 1 = base + (xcall e t ts).2.2.2.length by omega] at this
            exact this
          have eRc := eo_R (nm := nmT T) klk.2.1.2.1 klk.2.1.2.2
          have hlkm : loks (mrep e (xcall e t ts).2.1 (exArgs (fun r a => expL T fu r a []) ((xcall e t ts).2.1.take e.2.2.1.length) (r + 1)).2.2 plx).2 := mkr_ok ho klk.1 kla (by omega) (by omega) 13 0 [] 0 _ (Int.le_refl 0) (fun x hx => absurd hx (by simp)) (mrr.2.2 c166).1
          refine w_aload_n rfl l0 rfl ?_
          refine w_getR rfl rfl sh_3 rfl rfl ?_
          refine w_iload rfl (congrArg x_k2 l6) rfl ?_
          refine w_CV (as := [.int (iZ (sv S 33 2 - 1))]) (r := []) rfl rfl rfl rfl sh_33 (Nat.le_of_ble_eq_true rfl) (Nat.le_of_ble_eq_true rfl) (by omega) rfl (c_hid (a := 33) (b := 34) (c := 35) (n := 1360) (i := sv S 33 2 - 1) ⟨sh_33, sh_34, sh_35⟩ (by decide) (by omega) (by omega) (by omega) (by omega) (by omega)) ?_
          rintro _ _ ⟨rfl, hS⟩
          rw [hS]
          show w_T _ _ 24 178 _ [.int (iZ (sA V 35 (sv S 33 2 - 1) % 256))] _ _
          refine w_aload_n rfl l0 rfl ?_
          refine w_getR rfl rfl sh_3 rfl rfl ?_
          refine w_aload rfl l5 rfl ?_
          refine w_getI (z := sv V (43 + 5 * q) 5) rfl rfl (sh_arg (by omega)) rfl rfl rfl ?_
          refine w_CV (as := [.int (iZ (sv V (43 + 5 * q) 5))]) (r := [.int (iZ (sA V 35 (sv S 33 2 - 1) % 256))]) rfl rfl rfl rfl sh_33 (Nat.le_of_ble_eq_true rfl) (Nat.le_of_ble_eq_true rfl) (by omega) rfl (c_hid (a := 33) (b := 34) (c := 35) (n := 1360) (i := sv V (43 + 5 * q) 5) ⟨sh_33, sh_34, sh_35⟩ (by decide) (by omega) (by omega) (by omega) (by omega) (by omega)) ?_
          rintro _ _ ⟨rfl, hS⟩
          rw [hS]
          show w_T _ _ 24 190 _ [.int (iZ (sA V 35 (sv V (43 + 5 * q) 5) % 256)), .int (iZ (sA V 35 (sv S 33 2 - 1) % 256))] _ _
          refine w_zand rfl rfl ?_
          refine w_iconst rfl rfl ?_
          refine w_iload_n rfl l1 rfl ?_
          refine w_zshl rfl rfl ?_
          refine w_zor rfl rfl ?_
          generalize hhdx : (zor (zand (sA V 35 (sv S 33 2 - 1) % 256) (sA V 35 (sv V (43 + 5 * q) 5) % 256)) (zshl 1 k)) = hdx
          rw [hOV, hOc, hide_eq (x := e.1) (by omega) (by omega) (by rw [nmT_at hk8.1, ← he]) (by rw [he]; exact hT.1 k hk8.1 hk8.2) (nm_inj hT (by omega))] at hhdx
          refine w_istore rfl (by decide) rfl ?_
          refine w_aload_n rfl l0 rfl ?_
          refine w_getR rfl rfl sh_3 rfl rfl ?_
          refine w_iload rfl (congrArg x_k2 l8) rfl ?_
          refine w_putf rfl rfl sh_36 rfl rfl (by decide) rfl ?_
          refine w_aload_n rfl l0 rfl ?_
          refine w_getR rfl rfl sh_3 rfl rfl ?_
          refine w_aload rfl l5 rfl ?_
          refine w_getI (z := sv V (43 + 5 * q) 5) rfl rfl (sh_arg (by omega)) rfl (rv_ne (by omega)) rfl ?_
          refine w_putf rfl rfl sh_33 rfl rfl (by decide) rfl ?_
          refine w_aload_n rfl l0 rfl ?_
          refine w_iload rfl rfl rfl ?_
          refine w_CV (as := [.int (iZ hdx)]) (r := []) rfl rfl rfl rfl sh_3 (Nat.le_of_ble_eq_true rfl) (Nat.le_of_ble_eq_true rfl) (by omega) rfl (c_push (S := (w_v (w_v V 36 2 (sv S 36 2)) 33 2 (sv V (43 + 5 * q) 5))) (T := T) (K := xhid e t (xcall e t ts).2.2.1) (hd2 := hdx) (l := (mrep e (xcall e t ts).2.1 (exArgs (fun r a => expL T fu r a []) ((xcall e t ts).2.1.take e.2.2.1.length) (r + 1)).2.2 plx).2) hhdx.symm (by simp (disch := omega) only [rv_self, rv_ne, rl_self, rl_ne, rA_self, rA_ne, rL_self, rL_ne, rR_self, rR_ne, xvl, xvA, xvL, xvR, xlv, xlA, xlL, xlR, xAv, xAl, xAL, xAR, xLv, xLl, xLA, xLR, xRv, xRl, xRA, xRL]; exact (hm1 c166).1) (by simp (disch := omega) only [rv_self, rv_ne, rl_self, rl_ne, rA_self, rA_ne, rL_self, rL_ne, rR_self, rR_ne, xvl, xvA, xvL, xvR, xlv, xlA, xlL, xlR, xAv, xAl, xAL, xAR, xLv, xLl, xLA, xLR, xRv, xRl, xRA, xRL]; exact (hm1 c166).2) hlkm (mrr.2.2 c166).2 (by simp (disch := omega) only [rv_self, rv_ne, rl_self, rl_ne, rA_self, rA_ne, rL_self, rL_ne, rR_self, rR_ne, xvl, xvA, xvL, xvR, xlv, xlA, xlL, xlR, xAv, xAl, xAL, xAR, xLv, xLl, xLA, xLR, xRv, xRl, xRA, xRL]; omega) (by simp (disch := omega) only [rv_self, rv_ne, rl_self, rl_ne, rA_self, rA_ne, rL_self, rL_ne, rR_self, rR_ne, xvl, xvA, xvL, xvR, xlv, xlA, xlL, xlR, xAv, xAl, xAL, xAR, xLv, xLl, xLA, xLR, xRv, xRl, xRA, xRL]; have := (mrr.2.2 c166).2; omega) (by omega)) ?_
          rintro _ Z ⟨rfl, f2, z1, z2, z3⟩
          show w_T _ _ 24 224 _ [] _ _
          refine w_iload rfl rfl rfl ?_
          refine w_iret rfl rfl ?_
          subst hplx
          simp (disch := omega) only [rv_self, rv_ne, rl_self, rl_ne, rA_self, rA_ne, rL_self, rL_ne, rR_self, rR_ne, xvl, xvA, xvL, xvR, xlv, xlA, xlL, xlR, xAv, xAl, xAL, xAR, xLv, xLl, xLA, xLR, xRv, xRl, xRA, xRL] at z1 z2 z3
          rw [hclv] at z1 z2 z3
          have hpz : ∀ j, 0 ≤ j → j < base + ((xcall e t ts).2.2.2.length : Int) → sL Z 34 j = sL S 34 j ∧ sA Z 35 j = sA S 35 j := fun j j0 j1 => by
            have h9 := z3 j j1
            rw [fr_gL f1 (by omega), fr_gA f1 (by omega)] at h9
            have h8 := hk2.2.1 j j0 (by omega)
            exact ⟨h9.1.trans h8.1, h9.2.trans h8.2⟩
          rw [xs_5 (f := (fun r a => expL T fu r a [])) hxz hr9 hxa0 c166]
          refine ⟨by rw [c166], fr_trans (fr_v (fr_v (fr_trans hfr (fr_mono f1 (by omega))) (by omega)) (by omega)) (fr_mono f2 (by omega)), ?_, by rw [z1]; have := (mrr.2.2 c166).2; omega, fun _ => ⟨?_, ?_, ?_, fun j j0 j1 => hpz j j0 (by omega), fun j j0 j1 => ?_⟩⟩
          · rw [fr_gv f2 (by omega)]
            simp (disch := omega) only [rv_self, rv_ne, rl_self, rl_ne, rA_self, rA_ne, rL_self, rL_ne, rR_self, rR_ne, xvl, xvA, xvL, xvR, xlv, xlA, xlL, xlR, xAv, xAl, xAL, xAR, xLv, xLl, xLA, xLR, xRv, xRl, xRA, xRL]
            rw [fr_gv f1 (by omega)]
            exact hrc
          · rw [z1, List.length_append, List.length_map]
            omega
          · rw [z1]
            refine (bw_app _ _ _).mpr ⟨z2, ?_⟩
            rw [List.length_map, show base + ((xcall e t ts).2.2.2.length : Int) + ((mrep e (xcall e t ts).2.1 (exArgs (fun r a => expL T fu r a []) ((xcall e t ts).2.1.take e.2.2.1.length) (r + 1)).2.2 t.2.1).2.length : Int) - ((mrep e (xcall e t ts).2.1 (exArgs (fun r a => expL T fu r a []) ((xcall e t ts).2.1.take e.2.2.1.length) (r + 1)).2.2 t.2.1).2.length : Int) = base + (xcall e t ts).2.2.2.length by omega]
            refine bw_fr _ _ (fun j j0 j1 => hpz j (by omega) j1) ?_
            have := hbw.2.2
            rw [show base + ((xcall e t ts).2.2.2.length : Int) + 1 - 1 = base + (xcall e t ts).2.2.2.length by omega] at this
            exact this
          · rw [fr_gv f2 (by omega)]
            simp (disch := omega) only [rv_self, rv_ne, rl_self, rl_ne, rA_self, rA_ne, rL_self, rL_ne, rR_self, rR_ne, xvl, xvA, xvL, xvR, xlv, xlA, xlL, xlR, xAv, xAl, xAL, xAR, xLv, xLl, xLA, xLR, xRv, xRl, xRA, xRL]
          · rw [fr_gL f2 (by omega), fr_gA f2 (by omega)]
            simp (disch := omega) only [rv_self, rv_ne, rl_self, rl_ne, rA_self, rA_ne, rL_self, rL_ne, rR_self, rR_ne, xvl, xvA, xvL, xvR, xlv, xlA, xlL, xlR, xAv, xAl, xAL, xAR, xLv, xLl, xLA, xLR, xRv, xRl, xRA, xRL]
            rw [fr_gL f1 (by omega), fr_gA f1 (by omega)]
            exact hk2.2.2.1 j j0 j1
theorem c_rt {sc : x_S} {d : Nat} {S : w_S} {pi : Nat → Nat} {T : List Mac} {q fu : Nat} {k base r : Int} {e : Mac} {t : ETok} {ts : List ETok} (H : XLp sc T fu) (hT : tabok T) (ht : ctab S pi T) (h42 : ∀ k : Int, 0 ≤ k → k < 31 → sR S 42 k = some (43 + 5 * k.toNat)) (hkk : k = mtx T t ts) (hk0 : ¬ mtx T t ts < 0) (he : e = mg T k) (b0 : 0 ≤ base) (hp : sv S 33 2 = base + (t :: ts).length) (hb : bw (nmT T) (sL S 34) (sA S 35) (sv S 33 2) (t :: ts)) (hl : loks (t :: ts)) (hr : sv S 3 2 = r) (hq : (q : Int) ≤ r) (hr3 : r ≤ 30) (D0 : 0 ≤ sv S 36 2) (hcap : sv S 33 2 + sv S 36 2 ≤ 160 + 40 * r) (hfu : 100 * (31 - r) ≤ fu) (hd : 14 + 3 * (30 - q) ≤ d) : w_T sc d 24 0 (x_en 0 [.ref 3, .int (iZ k), .int (iZ base), .int (iZ q)]) [] S (fun v S2 => v = some (.int (iZ (xstep (fun r a => expL T fu r a []) e r t ts).1)) ∧ fr (fun a => a = 3 ∨ (33 ≤ a ∧ a ≤ 41) ∨ (43 + 5 * q ≤ a ∧ a ≤ 197)) S S2 ∧ sv S2 3 2 = (xstep (fun r a => expL T fu r a []) e r t ts).2.1 ∧ (0 ≤ sv S2 33 2 ∧ sv S2 33 2 ≤ 1360) ∧ ((xstep (fun r a => expL T fu r a []) e r t ts).1 = 0 → sv S2 33 2 = base + (xstep (fun r a => expL T fu r a []) e r t ts).2.2.length ∧ bw (nmT T) (sL S2 34) (sA S2 35) (sv S2 33 2) (xstep (fun r a => expL T fu r a []) e r t ts).2.2 ∧ sv S2 36 2 = sv S 36 2 ∧ (∀ j, 0 ≤ j → j < base → sL S2 34 j = sL S 34 j ∧ sA S2 35 j = sA S 35 j) ∧ (∀ j, 0 ≤ j → j < sv S 36 2 → sL S2 37 j = sL S 37 j ∧ sA S2 38 j = sA S 38 j))) := by
  have h8 := ht.2.1
  have hmx := mtx_r hk0
  have hkr : k = fnd T t.1 := hkk.trans hmx.1
  have hk8 : 0 ≤ k ∧ k < T.length := by omega
  have hu : pi k.toNat < 8 := ht.2.2.1 _ (by omega)
  have hcm := (ht.2.2.2.2.2 k hk8.1 hk8.2).1
  have ho := (ht.2.2.2.2.2 k hk8.1 hk8.2).2
  rw [← he] at hcm ho
  have hcl : e.2.1 = true → hd40 ts = true := fun z => hmx.2.2.2.2.resolve_right (by rw [← hkk, ← he, z]; decide)
  have hxc := xcall_r (t := t) (ts := ts) ho hcl
  have hP1 : sv S 33 2 = base + ts.length + 1 := by rw [hp, List.length_cons]; omega
  have eR := eo_R (nm := nmT T) (hl t (by simp)).2.1 (hl t (by simp)).2.2
  have hcm2 := hcm.2.1
  have z1 := zB_0 e.2.1
  have z2 := zB_1 e.2.1
  refine w_aload_n rfl rfl rfl ?_
  refine w_getR rfl rfl sh_3 rfl rfl ?_
  refine w_getR rfl rfl sh_4 rfl rfl ?_
  refine w_iload_n rfl rfl rfl ?_
  refine w_aald rfl sh_5 rfl (by omega) (by omega) (by decide) (ht.2.2.2.2.1 k (by omega) (by omega)) rfl ?_
  refine w_astore rfl (by decide) rfl ?_
  refine w_aload_n rfl rfl rfl ?_
  refine w_getR rfl rfl sh_3 rfl rfl ?_
  refine w_iload_n rfl rfl rfl ?_
  refine w_aald rfl sh_42 rfl (by omega) (by omega) (by decide) (by rw [h42 (q : Int) (by omega) (by omega), Int.toNat_natCast]) rfl ?_
  refine w_astore rfl (by decide) rfl ?_
  refine w_aload_n rfl rfl rfl ?_
  refine w_getR rfl rfl sh_3 rfl rfl ?_
  refine w_getI (z := sv S 33 2) rfl rfl sh_33 rfl rfl rfl ?_
  refine w_iconst rfl rfl ?_
  refine w_isub rfl rfl ?_
  refine w_istore rfl (by decide) rfl ?_
  refine w_aload rfl rfl rfl ?_
  refine w_iconst rfl rfl ?_
  refine w_putf rfl rfl (sh_arg (by omega)) rfl rfl (by decide) rfl ?_
  refine w_aload rfl rfl rfl ?_
  refine w_iload rfl rfl rfl ?_
  refine w_putf rfl rfl (sh_arg (by omega)) rfl rfl (by decide) rfl ?_
  refine w_aload rfl rfl rfl ?_
  refine w_getI (z := sv S (6 + 3 * pi k.toNat) 1) rfl rfl (sh_mac hu) rfl ((rv_ne (by omega)).trans (rv_ne (by omega))) rfl ?_
  refine w_if_eq (pc2 := 63) (pc3 := 51) rfl (by decide) rfl ⟨by omega, by omega⟩ (fun c48 => ?_) (fun c48 => ?_)
  · skip
    have hct : e.2.1 = false := zB_0f (hcm2.symm.trans c48)
    refine w_iconst rfl rfl ?_
    refine w_istore rfl (by decide) rfl ?_
    exact (c_rt_c H hT ht h42 hkk hk0 he b0 hp hb hl hr hq hr3 D0 hcap hfu hd _).1 0 _ _ rfl rfl rfl rfl rfl rfl rfl rfl (by exact (fr_v (fr_v (fr_refl _ _) (by omega)) (by omega))) (by unfold xcall; rw [if_neg (by rw [hct]; decide)]) (by intro _; have hxe : xcall e t ts = (0, [], t, ts) := (by unfold xcall; rw [if_neg (by rw [hct]; decide)]); rw [hxe]; refine ⟨by simp (disch := omega) only [rv_self, rv_ne, rl_self, rl_ne, rA_self, rA_ne, rL_self, rL_ne, rR_self, rR_ne, xvl, xvA, xvL, xvR, xlv, xlA, xlL, xlR, xAv, xAl, xAL, xAR, xLv, xLl, xLA, xLR, xRv, xRl, xRA, xRL]; show _ = base + (ts.length : Int); omega, fun k z => absurd z (by simp), ?_⟩; show bw _ _ _ (base + (ts.length : Int) + 1) (t :: ts); rw [← hP1]; exact hb) (Nat.lt_succ_self _)
  · skip
    have hct : e.2.1 = true := by
      cases hh : e.2.1
      · rw [hh] at hcm2
        exact absurd hcm2 c48
      · rfl
    have hts1 : 1 ≤ ts.length := by
      cases ts with
      | nil => exact absurd (hcl hct) (by decide)
      | cons a b => simp
    have hbt : bw (nmT T) (sL S 34) (sA S 35) (sv S 33 2 - 2) ts.tail := by
      cases ts with
      | nil => exact trivial
      | cons a b =>
        have := hb.2.2.2.2
        rw [show sv S 33 2 - 1 - 1 = sv S 33 2 - 2 by omega] at this
        exact this
    refine w_aload_n rfl rfl rfl ?_
    refine w_aload rfl rfl rfl ?_
    refine w_aload rfl rfl rfl ?_
    refine w_iload_n rfl rfl rfl ?_
    refine w_CV (as := [.ref (6 + 3 * pi k.toNat), .ref (43 + 5 * q), .int (iZ base)]) (r := []) rfl rfl rfl rfl sh_3 (Nat.le_of_ble_eq_true rfl) (Nat.le_of_ble_eq_true rfl) (by omega) rfl (c_fa (S := (w_v (w_v S (43 + 5 * q) 4 0) (43 + 5 * q) 5 (sv S 33 2 - 1))) (T := T) (u := pi k.toNat) (q := q) (e := e) (base := base) (r := ts.tail) (by omega) hu (cmac_fr hcm (fr_v (fr_v (fr_refl (fun a => a = 43 + 5 * q) S) rfl) rfl) (by omega) (by omega) (by omega)) ho (by simp (disch := omega) only [rv_self, rv_ne, rl_self, rl_ne, rA_self, rA_ne, rL_self, rL_ne, rR_self, rR_ne, xvl, xvA, xvL, xvR, xlv, xlA, xlL, xlR, xAv, xAl, xAL, xAR, xLv, xLl, xLA, xLR, xRv, xRl, xRA, xRL]) (by simp (disch := omega) only [rv_self, rv_ne, rl_self, rl_ne, rA_self, rA_ne, rL_self, rL_ne, rR_self, rR_ne, xvl, xvA, xvL, xvR, xlv, xlA, xlL, xlR, xAv, xAl, xAL, xAR, xLv, xLl, xLA, xLR, xRv, xRl, xRA, xRL]; rw [hP1, List.length_tail]; omega) b0 (by simp (disch := omega) only [rv_self, rv_ne, rl_self, rl_ne, rA_self, rA_ne, rL_self, rL_ne, rR_self, rR_ne, xvl, xvA, xvL, xvR, xlv, xlA, xlL, xlR, xAv, xAl, xAL, xAR, xLv, xLl, xLA, xLR, xRv, xRl, xRA, xRL]; omega) (by simp (disch := omega) only [rv_self, rv_ne, rl_self, rl_ne, rA_self, rA_ne, rL_self, rL_ne, rR_self, rR_ne, xvl, xvA, xvL, xvR, xlv, xlA, xlL, xlR, xAv, xAl, xAL, xAR, xLv, xLl, xLA, xLR, xRv, xRl, xRA, xRL]; exact hbt) (by omega)) ?_
    rintro _ V ⟨rfl, f1, hfa⟩
    show w_T _ _ 24 60 _ [.int (iZ ((fargs e ts.tail).1))] _ _
    have hxe : xcall e t ts = fargs e ts.tail := by unfold xcall; rw [if_pos hct]
    rw [hxe] at hxc
    simp (disch := omega) only [rv_self, rv_ne, rl_self, rl_ne, rA_self, rA_ne, rL_self, rL_ne, rR_self, rR_ne, xvl, xvA, xvL, xvR, xlv, xlA, xlL, xlR, xAv, xAl, xAL, xAR, xLv, xLl, xLA, xLR, xRv, xRl, xRA, xRL] at hfa
    refine w_goto (pc2 := 64) rfl (by decide) ?_
    refine w_istore rfl (by decide) rfl ?_
    exact (c_rt_c H hT ht h42 hkk hk0 he b0 hp hb hl hr hq hr3 D0 hcap hfu hd _).1 ((fargs e ts.tail).1) _ _ rfl rfl rfl rfl rfl rfl rfl rfl (by exact fr_trans (fr_v (fr_v (fr_refl _ _) (by omega)) (by omega)) f1) (by rw [hxe]) (by rw [hxe]; exact hfa) (Nat.lt_succ_self _)
