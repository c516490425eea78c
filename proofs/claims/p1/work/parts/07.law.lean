/-! The law's body by the machine of part 03. -/
def x_h0 : x_H := (fun _ => .inr (0, []), 0, 0)
theorem x_known {s : State} {args : Array Value} (hts : ∀ w ∈ lw_tbl, w.before args s = true) : ∃ (D : va_G) (dA : Nat → ClassId), x_VM D dA s := by
  have h1 : ∀ c : Nat, ∃ (cC : ClassId) (iS : Nat → Nat), ∀ q : vw_C, x_cl[c]? = some q → u_Kn s q.1 q.2.1 q.2.2 cC iS := by
    intro c
    cases hq : x_cl[c]? with
    | none => exact ⟨0, fun _ => 0, fun q h => by cases h⟩
    | some q =>
      obtain ⟨a1, a2⟩ := s_cl hq
      obtain ⟨cC, iS, hK⟩ := u_known (ws := lw_tbl) hts (fun w hw => s_sub w (a1 w hw)) (hts _ (s_sub _ a2))
      exact ⟨cC, iS, fun q' h => by cases h; exact hK⟩
  have h2 : ∀ t : Nat, ∃ cA : ClassId, ∀ ty : FieldType, x_ty[t]? = some ty → ArrOfT s cA ty ∧ va_RA s cA ty := by
    intro t
    cases ht : x_ty[t]? with
    | none => exact ⟨0, fun q h => by cases h⟩
    | some ty =>
      rcases s_tyw ht with ⟨a1, a2⟩ | ⟨C, rfl, a1⟩
      · obtain ⟨cA, kA, comp, f1, f2, f3⟩ := Cond.arrayClass_spec (hts _ (s_sub _ a1))
        refine ⟨cA, fun q h => ?_⟩
        cases h
        refine ⟨fun N z => ⟨(fun k h => by cases h), kA, f2, comp, f3⟩, ?_⟩
        cases ty <;> first
          | exact f1
          | exact absurd rfl (a2 _)
      · obtain ⟨comp, cA, kA, f1, -, f2, f3, f4⟩ := Cond.arrayOver_spec (hts _ (s_ao _ a1))
        refine ⟨cA, fun q h => ?_⟩
        cases h
        exact ⟨fun N z => ⟨(fun k h => by cases h), kA, f2, comp, f3⟩, kA, comp, f2, f3, f1, f4⟩
  refine ⟨(fun c => Classical.choose (h1 c), fun c => Classical.choose (Classical.choose_spec (h1 c))), fun t => Classical.choose (h2 t), ⟨fun c q hq => Classical.choose_spec (Classical.choose_spec (h1 c)) q hq, fun k q hq => ?_⟩, fun w hw => ?_, fun C hC => va_AO.of (hts _ (s_ao _ hC))⟩
  · have hl : k < x_ty.length := by
      have := (List.getElem?_eq_some_iff.mp hq).1
      simpa [x_tys] using this
    have ht : x_ty[k]? = some (x_ty.getD k .int) := by
      rw [List.getD_eq_getElem?_getD, List.getElem?_eq_getElem hl]
      rfl
    have e1 := x_tys_get (dA := fun t => Classical.choose (h2 t)) ht
    rw [e1] at hq
    cases hq
    exact Classical.choose_spec (h2 k) _ ht
  · rcases s_nest w hw with ⟨a, i, x, n, d, g, rfl⟩ | ⟨a, i, x, g, rfl⟩
    · exact va_Nw.of rfl (hts _ (s_nt _ hw))
    · exact va_Nw.of rfl (hts _ (s_nt _ hw))
set_option maxHeartbeats 4000000 in
theorem x_law {p : Program} {e : Env} {s : State} {m : MethodId} {below : List Frame} {meth : Method} {c : Code} (l : Launch) {b L : Nat} {xs : Nat → Int32} (C0 : lw_At p s m meth c b L xs) {d f : Nat} {h' : x_H} (hrun : x_run (some (L, xs)) f d 0 0 (x_en 0 [.retAddr 0]) [] x_h0 = some (some (.int 1), h')) (hd : d ≤ room_1.frames ∧ 48 * d ≤ room_1.locals) (hc : h'.2.1 ≤ x_cmax ∧ h'.2.2 ≤ x_smax) :
    W p l e room_1 s m #[Value.ref b] below meth c s.heap [] 0 0 (lw_Z below #[Value.ref b] s) (entryFrame m ([Value.ref b] : List Value).toArray (x_nL 0)) := by
  obtain ⟨hexec, hb, hr, hml, hown, hts, hX, hbl, hlk, -⟩ := C0
  obtain ⟨D, dA, hVM⟩ := x_known hts
  have hX2 : x_cx D dA s.heap.size (fun _ => b) (L, xs) 0 p s m #[Value.ref b] meth c := ⟨⟨hexec, hb, hml, hr, hlk, fun hh => absurd hh (by decide), hown⟩, fun w hw => hts w (s_sub w hw), hVM, hX, hbl, Nat.le_refl _⟩
  have hl := lv_entry ([Value.ref b]) (n := x_nL 0) (Nat.le_of_ble_eq_true rfl)
  rw [lg_entry_eq]
  generalize (lg_sl ([Value.ref b]) ++ List.replicate (x_nL 0 - (lg_sl ([Value.ref b])).length) Slot.unset).toArray = ls at hl ⊢
  have hW := x_sim (l := l) (D := D) (dA := dA) (b := s.heap.size) (kad := fun _ => b) (sc := (L, xs)) f d 0 0 (x_en 0 [.retAddr 0]) [] x_h0 (some (.int 1)) h' hrun p e room_1 s m #[Value.ref b] below meth c s.heap [] ls 0 0 hX2 rfl (Nat.le_refl _) (Nat.le_refl _) (x_LV_en (vs := [.retAddr 0]) hl) (fun k q hq => by simp [x_ws, x_h0] at hq) va_S.rf hd ⟨Nat.le_trans (Nat.sub_le _ _) (Nat.le_trans hc.1 x_cok9.1), Nat.le_trans (Nat.sub_le _ _) (Nat.le_trans hc.2 x_cok9.2)⟩
  intro T hT X
  obtain ⟨t, st, o, h1, h2, ⟨⟨h3, -⟩, -⟩, Lc, ⟨h4, h5, h6⟩, h7⟩ := hW T hT X
  refine ⟨t, st, o, h1, h2, h3, h4, h5, h6.weaken (fun y hy hlt => absurd hlt (Nat.not_lt.mpr (h7 y hy))) ?_ ?_⟩
  · exact Nat.le_trans (Nat.sub_le _ _) hc.1
  · exact Nat.le_trans (Nat.sub_le _ _) hc.2
