/-! The reference at the end of a list. -/
theorem r_nx0 {sc : x_S} {d : Nat} {S : w_S} (hi : sv S 249 46 = 0) (hc : sv S 249 29 = sA S 277 0) (h0 : 0 ≤ sv S 249 29) (h1 : sv S 249 29 ≤ 1361) (hd : 6 ≤ d) : w_T sc d 138 0 (x_en 0 [.ref 249]) [] S (fun v S2 => v = some (.int (iZ 99)) ∧ S2 = S) := by
  have hb : sA S 277 (sv S 249 46) = sv S 249 29 := by rw [hi]; exact hc.symm
  refine w_aload_n rfl rfl rfl ?_
  refine w_getI (z := sv S 249 29) rfl rfl sh_249 rfl rfl rfl ?_
  refine w_aload_n rfl rfl rfl ?_
  refine w_getR rfl rfl sh_249 rfl rfl ?_
  refine w_aload_n rfl rfl rfl ?_
  refine w_getI (z := sv S 249 46) rfl rfl sh_249 rfl rfl rfl ?_
  refine w_iald (z := sA S 277 (sv S 249 46)) rfl sh_277 (by omega) (by omega) (by decide) rfl rfl ?_
  refine w_ic_ne (pc2 := 33) (pc3 := 16) rfl (by decide) rfl ⟨by omega, by omega⟩ ⟨by omega, by omega⟩ (fun c13 => ?_) (fun c13 => ?_)
  · exact absurd hb.symm c13
  · skip
    refine w_aload_n rfl rfl rfl ?_
    refine w_getI (z := sv S 249 46) rfl rfl sh_249 rfl rfl rfl ?_
    refine w_if_ne (pc2 := 28) (pc3 := 23) rfl (by decide) rfl ⟨by omega, by omega⟩ (fun c20 => ?_) (fun c20 => ?_)
    · exact absurd hi c20
    · skip
      refine w_bipush rfl (by decide) rfl ?_
      refine w_goto (pc2 := 32) rfl (by decide) ?_
      refine w_iret rfl rfl ?_
      exact ⟨rfl, rfl⟩
theorem r_nx2 {sc : x_S} {d : Nat} {S : w_S} {nm : Nat → Int64} {i m : Int} {e : Mac} {t c : ETok} {as os : List (List ETok)} {ou : List ETok} (hi : sv S 249 46 = i + 1) (i0 : 0 ≤ i) (i1 : i < 31) (hL : LRp nm S i m e t c as os) (hS0 : LSp nm m e t as) (hol : os.length < e.2.2.1.length) (ho4 : ∀ k, (os.getD k []).length ≤ 40) (hlo : lall os) (hgo : ∀ a, a ∈ os → lgw a) (c0 : 0 ≤ sv S 249 29) (c1 : sv S 249 29 ≤ 1321) (hg1 : sA S 284 (4 * i + os.length) = sA S 278 (i + 1)) (hg2 : sv S 249 32 = sA S 278 (i + 1) + ou.length) (hg3 : 0 ≤ sA S 278 (i + 1)) (hg4 : sv S 249 32 ≤ 2561) (hou : fw nm (sL S 271) (sA S 272) (sA S 278 (i + 1)) ou) (hok : loks ou) (hgk : lgw ou) (hcb : sv S 249 29 = sA S 277 (i + 1)) (hd : 6 ≤ d) : w_T sc d 138 0 (x_en 0 [.ref 249]) [] S (fun v S2 => (40 < (ou.length : Int) → v = some (.int (iZ 7)) ∧ S2 = S) ∧ ((ou.length : Int) ≤ 40 → (((os ++ [ou]).length : Int) < rtk e → PUSHp nm (aeS S i os.length) i (as.getD (os ++ [ou]).length []) v S2) ∧ (rtk e ≤ (os ++ [ou]).length → RPp nm (aeS S i os.length) i e t c as (os ++ [ou]) v S2))) := by
  have hb : sA S 277 (sv S 249 46) = sv S 249 29 := by rw [hi]; exact hcb.symm
  have hae : w_T sc (d - 1) 141 0 (x_en 0 [.ref 249]) [] S (fun v S2 => (∃ z, v = some (.int (iZ z))) ∧ (fun v S2 => (40 < (ou.length : Int) → v = some (.int (iZ 7)) ∧ S2 = S) ∧ ((ou.length : Int) ≤ 40 → (((os ++ [ou]).length : Int) < rtk e → PUSHp nm (aeS S i os.length) i (as.getD (os ++ [ou]).length []) v S2) ∧ (rtk e ≤ (os ++ [ou]).length → RPp nm (aeS S i os.length) i e t c as (os ++ [ou]) v S2))) v S2) := w_mono (r_ae (S := S) (nm := nm) (i := i) (m := m) (e := e) (t := t) (c := c) (as := as) (os := os) (ou := ou) hi i0 i1 hL hS0 hol ho4 hlo hgo c0 c1 hg1 hg2 hg3 hg4 hou hok hgk (by omega)) (fun v S2 q => ⟨by
    by_cases z : 40 < (ou.length : Int)
    · exact ⟨_, (q.1 z).1⟩
    · by_cases y : ((os ++ [ou]).length : Int) < rtk e
      · exact ⟨_, ((q.2 (by omega)).1 y).1⟩
      · exact ⟨_, ((q.2 (by omega)).2 (by omega)).1⟩, q⟩)
  refine w_aload_n rfl rfl rfl ?_
  refine w_getI (z := sv S 249 29) rfl rfl sh_249 rfl rfl rfl ?_
  refine w_aload_n rfl rfl rfl ?_
  refine w_getR rfl rfl sh_249 rfl rfl ?_
  refine w_aload_n rfl rfl rfl ?_
  refine w_getI (z := sv S 249 46) rfl rfl sh_249 rfl rfl rfl ?_
  refine w_iald (z := sA S 277 (sv S 249 46)) rfl sh_277 (by omega) (by omega) (by decide) rfl rfl ?_
  refine w_ic_ne (pc2 := 33) (pc3 := 16) rfl (by decide) rfl ⟨by omega, by omega⟩ ⟨by omega, by omega⟩ (fun c13 => ?_) (fun c13 => ?_)
  · exact absurd hb.symm c13
  · skip
    refine w_aload_n rfl rfl rfl ?_
    refine w_getI (z := sv S 249 46) rfl rfl sh_249 rfl rfl rfl ?_
    refine w_if_ne (pc2 := 28) (pc3 := 23) rfl (by decide) rfl ⟨by omega, by omega⟩ (fun c20 => ?_) (fun c20 => ?_)
    · skip
      refine w_aload_n rfl rfl rfl ?_
      refine w_CV (as := []) (r := []) rfl rfl rfl rfl sh_249 (Nat.le_of_ble_eq_true rfl) (Nat.le_of_ble_eq_true rfl) (by omega) rfl (hae) ?_
      rintro _ V ⟨⟨zz, rfl⟩, hq⟩
      show w_T _ _ 138 32 _ [.int (iZ zz)] _ _
      refine w_iret rfl rfl ?_
      exact hq
    · omega
