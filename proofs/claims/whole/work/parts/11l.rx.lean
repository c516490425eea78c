/-! The reference expands a list. -/
theorem take_getD {as : List (List ETok)} {n k : Nat} (h : k < n) : (as.take n).getD k [] = as.getD k [] := by
  rw [List.getD_eq_getElem?_getD, List.getD_eq_getElem?_getD, List.getElem?_take, if_pos h]
theorem brow_take (e : Mac) (as os : List (List ETok)) (pl i : Int) : brow e (as.take e.2.2.1.length) os pl i = brow e as os pl i := by
  unfold brow
  have h := lix_r e.2.2.1 (lg e.2.2.2 i)
  by_cases c : lix e.2.2.1 (lg e.2.2.2 i) < 0
  · rw [if_pos c, if_pos c]
  · rw [if_neg c, if_neg c, take_getD (by omega)]
theorem mst_take (e : Mac) (as os : List (List ETok)) (pl i : Int) (l : List ETok) (ch : Int) : mst e (as.take e.2.2.1.length) os pl i l ch = mst e as os pl i l ch := by
  unfold mst
  rw [brow_take]
theorem mkr_take (e : Mac) (as os : List (List ETok)) (pl : Int) : ∀ (m : Nat) (i : Int) (l : List ETok) (ch : Int), mkr e (as.take e.2.2.1.length) os pl m i l ch = mkr e as os pl m i l ch
  | 0, _, _, _ => rfl
  | m + 1, i, l, ch => by
    by_cases h : i < e.2.2.2.length
    · cases hs : mst e as os pl i l ch with
      | none => rw [mkr_n h hs, mkr_n h (by rw [mst_take]; exact hs)]
      | some l2 =>
        rw [mkr_s h hs, mkr_s h (by rw [mst_take]; exact hs)]
        exact mkr_take e as os pl m _ _ _
    · rw [mkr_0 (by omega), mkr_0 (by omega)]
theorem mrep_take (e : Mac) (as os : List (List ETok)) (pl : Int) : mrep e (as.take e.2.2.1.length) os pl = mrep e as os pl := by
  unfold mrep
  rw [mkr_take]
theorem xcall_bw {nm : Nat → Int64} {X : Int → Int64} {O : Int → Int} {e : Mac} {t : ETok} {ts : List ETok} {b : Int} (h : bw nm X O (b + ts.length) ts) (hx : (xcall e t ts).1 = 0) : bw nm X O (b + (xcall e t ts).2.2.2.length) (xcall e t ts).2.2.2 := by
  unfold xcall at hx ⊢
  by_cases c : e.2.1 = true
  · rw [if_pos c] at hx ⊢
    obtain ⟨p, hp⟩ := fa_suf _ _ _ _ _ (fargs_r.2.2 hx).1
    cases ts with
    | nil =>
      have := congrArg List.length hp
      simp at this
    | cons y ys =>
      have h2 := h.2.2
      have hp : ys = p ++ (fargs e ys).2.2.1 :: (fargs e ys).2.2.2 := hp
      have hl := congrArg List.length hp
      rw [List.length_append, List.length_cons] at hl
      rw [hp] at h2
      have h3 := ((bw_app p _ _).mp h2).2.2.2
      rw [← hp, List.length_cons, show b + ((ys.length + 1 : Nat) : Int) - 1 - (p.length : Int) - 1 = b + (fargs e ys).2.2.2.length by omega] at h3
      exact h3
  · rw [if_neg c]
    exact h
theorem rp_keep {nm : Nat → Int64} {W S2 : w_S} {i b g w j0 : Int} {e : Mac} {t c : ETok} {as os : List (List ETok)} {v : Option Value} (h : RPp nm W j0 e t c as os v S2) (hb : b ≤ sv W 249 29) (hz : (mrep e as os t.2.1).1 = 0) : keepp W S2 i b g w := by
  obtain ⟨p1, p2, p3, p4⟩ := h
  have p5 := (p4 hz).2.2.1
  refine ⟨fr_mono p2 (by omega), fun k hk => p3 k (by omega), fun j _ hj => p5 j (by omega), fun j _ _ => ⟨by rw [fr_gL p2 (by omega)], by rw [fr_gA p2 (by omega)]⟩, fun j _ _ => ⟨by rw [fr_gL p2 (by omega)], by rw [fr_gA p2 (by omega)]⟩, fun j _ => ⟨by rw [fr_gA p2 (by omega)], by rw [fr_gA p2 (by omega)]⟩, fun j _ => ⟨by rw [fr_gA p2 (by omega)], by rw [fr_gA p2 (by omega)], by rw [fr_gA p2 (by omega)], by rw [fr_gA p2 (by omega)]⟩, fun j _ => ⟨by rw [fr_gA p2 (by omega)], by rw [fr_gA p2 (by omega)]⟩⟩
theorem rp_er {nm : Nat → Int64} {W S2 : w_S} {j0 : Int} {e : Mac} {t c : ETok} {as os : List (List ETok)} {v : Option Value} (h : RPp nm W j0 e t c as os v S2) : ERp W S2 := ⟨fr_mono h.2.1 (by omega), fun k hk => h.2.2.1 k (by omega)⟩
theorem nx_keep {nm : Nat → Int64} {S S1 : w_S} {i b r m g : Int} {e : Mac} {t : ETok} {ts : List ETok} {cb : Int} (h : NXp nm S S1 i b r m e t ts) : keepp S S1 i cb g (sv S 249 35) := by
  obtain ⟨h1, h2, h3, h4, h5, h6, h7, h8, h9, h10, h11, h12⟩ := h
  refine ⟨fr_mono h1 (by omega), fun k hk => h2 k (by omega), fun j _ _ => ⟨by rw [fr_gL h1 (by omega)], by rw [fr_gA h1 (by omega)]⟩, fun j _ _ => ⟨by rw [fr_gL h1 (by omega)], by rw [fr_gA h1 (by omega)]⟩, fun j _ hj => h10 j hj, fun j _ => ⟨by rw [fr_gA h1 (by omega)], by rw [fr_gA h1 (by omega)]⟩, fun j hj => h11 j (by omega), fun j hj => h12 j hj⟩
