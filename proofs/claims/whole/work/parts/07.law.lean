/-! The law's body by the machine of part 03. -/
def x_h0 : x_H := (fun _ => .inr (0, []), 0, 0)
def ks_P (own : String) (idx i : Nat) (args : Array Value) (s : State) : Prop := ∃ qk qv : Nat, (Term.string own idx).eval args s none [] s = some (.ref qk) ∧ va_O "java/lang/String" qk (fun q => s.heap.size ≤ q) s s.heap ∧ va_OF "java/lang/String" "coder" "B" (.int 0) qk (fun q => s.heap.size ≤ q) s s.heap ∧ va_OF "java/lang/String" "value" "[B" (.ref qv) qk (fun q => s.heap.size ≤ q) s s.heap ∧ va_T .byte qv (x_gl.getD i 0) (fun j => .int ((x_gb.getD i []).getD j 0)) (fun q => s.heap.size ≤ q) s s.heap
theorem ks_of {own : String} {idx i : Nat} {args : Array Value} {s : State} (hn : x_gl.getD i 0 < 2 ^ 31) (h1 : (Jvm.Cond.exactly (.string own idx) "java/lang/String").before args s = true) (h2 : (Jvm.Cond.eq (.field (.string own idx) "java/lang/String" "coder" "B") (.int 0)).before args s = true) (h3 : (Jvm.Cond.arrayOf (.field (.string own idx) "java/lang/String" "value" "[B") .byte).before args s = true) (h4 : (Jvm.Cond.eq (.length (.field (.string own idx) "java/lang/String" "value" "[B")) (.int (Int32.ofNat (x_gl.getD i 0)))).before args s = true)
    (h5 : ∀ j : Nat, j < x_gl.getD i 0 → (Jvm.Cond.eq (.elem (.field (.string own idx) "java/lang/String" "value" "[B") (.int (Int32.ofNat j))) (.int ((x_gb.getD i []).getD j 0))).before args s = true) : ks_P own idx i args s := by
  obtain ⟨adK, adV, ⟨hv, -⟩, he⟩ := vk_Sof (N := 1) (tm := fun _ => Term.string own idx) (len := [x_gl.getD i 0]) (byt := [x_gb.getD i []]) (A := fun q => s.heap.size ≤ q)
    (fun z hz => by cases Nat.lt_one_iff.mp hz; exact hn) (fun z hz => h1) (fun z hz => h2) (fun z hz => h3) (fun z hz => by cases Nat.lt_one_iff.mp hz; exact h4) (fun z hz j hj => by cases Nat.lt_one_iff.mp hz; exact h5 j hj) (fun z y hz hy hn => absurd ((Nat.lt_one_iff.mp hz).trans (Nat.lt_one_iff.mp hy).symm) hn) (fun a ha => Nat.not_le.mpr ha)
  obtain ⟨e1, e2, e3, e4⟩ := hv 0 Nat.zero_lt_one
  exact ⟨adK 0, adV 0, he 0 Nat.zero_lt_one, e1, e2, e3, e4⟩
section KS
variable {args : Array Value} {s : State}
theorem ks_0 (hs : ∀ c ∈ flatC (Jvm.Cond.and given_1 narrow_1), c.before args s = true) : ks_P "PhaseReader$Scanner" 56 0 args s := by
  refine ks_of (by decide) (hs _ (List.mem_of_getElem? (i := 9) rfl)) (hs _ (List.mem_of_getElem? (i := 10) rfl)) (hs _ (List.mem_of_getElem? (i := 11) rfl)) (hs _ (List.mem_of_getElem? (i := 12) rfl)) (fun j hj => ?_)
  have hj : j < 9 := hj
  rcases (show j = 0 ∨ j = 1 ∨ j = 2 ∨ j = 3 ∨ j = 4 ∨ j = 5 ∨ j = 6 ∨ j = 7 ∨ j = 8 by omega) with rfl | rfl | rfl | rfl | rfl | rfl | rfl | rfl | rfl
  · exact (hs _ (List.mem_of_getElem? (i := 13) rfl))
  · exact (hs _ (List.mem_of_getElem? (i := 14) rfl))
  · exact (hs _ (List.mem_of_getElem? (i := 15) rfl))
  · exact (hs _ (List.mem_of_getElem? (i := 16) rfl))
  · exact (hs _ (List.mem_of_getElem? (i := 17) rfl))
  · exact (hs _ (List.mem_of_getElem? (i := 18) rfl))
  · exact (hs _ (List.mem_of_getElem? (i := 19) rfl))
  · exact (hs _ (List.mem_of_getElem? (i := 20) rfl))
  · exact (hs _ (List.mem_of_getElem? (i := 21) rfl))
theorem ks_1 (hs : ∀ c ∈ flatC (Jvm.Cond.and given_1 narrow_1), c.before args s = true) : ks_P "PhaseReader$Scanner" 48 1 args s := by
  refine ks_of (by decide) (hs _ (List.mem_of_getElem? (i := 22) rfl)) (hs _ (List.mem_of_getElem? (i := 23) rfl)) (hs _ (List.mem_of_getElem? (i := 24) rfl)) (hs _ (List.mem_of_getElem? (i := 25) rfl)) (fun j hj => ?_)
  have hj : j < 9 := hj
  rcases (show j = 0 ∨ j = 1 ∨ j = 2 ∨ j = 3 ∨ j = 4 ∨ j = 5 ∨ j = 6 ∨ j = 7 ∨ j = 8 by omega) with rfl | rfl | rfl | rfl | rfl | rfl | rfl | rfl | rfl
  · exact (hs _ (List.mem_of_getElem? (i := 26) rfl))
  · exact (hs _ (List.mem_of_getElem? (i := 27) rfl))
  · exact (hs _ (List.mem_of_getElem? (i := 28) rfl))
  · exact (hs _ (List.mem_of_getElem? (i := 29) rfl))
  · exact (hs _ (List.mem_of_getElem? (i := 30) rfl))
  · exact (hs _ (List.mem_of_getElem? (i := 31) rfl))
  · exact (hs _ (List.mem_of_getElem? (i := 32) rfl))
  · exact (hs _ (List.mem_of_getElem? (i := 33) rfl))
  · exact (hs _ (List.mem_of_getElem? (i := 34) rfl))
theorem ks_2 (hs : ∀ c ∈ flatC (Jvm.Cond.and given_1 narrow_1), c.before args s = true) : ks_P "PhaseReader$Scanner" 87 2 args s := by
  refine ks_of (by decide) (hs _ (List.mem_of_getElem? (i := 36) rfl)) (hs _ (List.mem_of_getElem? (i := 37) rfl)) (hs _ (List.mem_of_getElem? (i := 38) rfl)) (hs _ (List.mem_of_getElem? (i := 39) rfl)) (fun j hj => ?_)
  have hj : j < 17 := hj
  rcases (show j = 0 ∨ j = 1 ∨ j = 2 ∨ j = 3 ∨ j = 4 ∨ j = 5 ∨ j = 6 ∨ j = 7 ∨ j = 8 ∨ j = 9 ∨ j = 10 ∨ j = 11 ∨ j = 12 ∨ j = 13 ∨ j = 14 ∨ j = 15 ∨ j = 16 by omega) with rfl | rfl | rfl | rfl | rfl | rfl | rfl | rfl | rfl | rfl | rfl | rfl | rfl | rfl | rfl | rfl | rfl
  · exact (hs _ (List.mem_of_getElem? (i := 40) rfl))
  · exact (hs _ (List.mem_of_getElem? (i := 41) rfl))
  · exact (hs _ (List.mem_of_getElem? (i := 42) rfl))
  · exact (hs _ (List.mem_of_getElem? (i := 43) rfl))
  · exact (hs _ (List.mem_of_getElem? (i := 44) rfl))
  · exact (hs _ (List.mem_of_getElem? (i := 45) rfl))
  · exact (hs _ (List.mem_of_getElem? (i := 46) rfl))
  · exact (hs _ (List.mem_of_getElem? (i := 47) rfl))
  · exact (hs _ (List.mem_of_getElem? (i := 48) rfl))
  · exact (hs _ (List.mem_of_getElem? (i := 49) rfl))
  · exact (hs _ (List.mem_of_getElem? (i := 50) rfl))
  · exact (hs _ (List.mem_of_getElem? (i := 51) rfl))
  · exact (hs _ (List.mem_of_getElem? (i := 52) rfl))
  · exact (hs _ (List.mem_of_getElem? (i := 53) rfl))
  · exact (hs _ (List.mem_of_getElem? (i := 54) rfl))
  · exact (hs _ (List.mem_of_getElem? (i := 55) rfl))
  · exact (hs _ (List.mem_of_getElem? (i := 56) rfl))
theorem ks_3 (hs : ∀ c ∈ flatC (Jvm.Cond.and given_1 narrow_1), c.before args s = true) : ks_P "PhaseReader$Source" 72 3 args s := by
  refine ks_of (by decide) (hs _ (List.mem_of_getElem? (i := 59) rfl)) (hs _ (List.mem_of_getElem? (i := 60) rfl)) (hs _ (List.mem_of_getElem? (i := 61) rfl)) (hs _ (List.mem_of_getElem? (i := 62) rfl)) (fun j hj => ?_)
  have hj : j < 5 := hj
  rcases (show j = 0 ∨ j = 1 ∨ j = 2 ∨ j = 3 ∨ j = 4 by omega) with rfl | rfl | rfl | rfl | rfl
  · exact (hs _ (List.mem_of_getElem? (i := 63) rfl))
  · exact (hs _ (List.mem_of_getElem? (i := 64) rfl))
  · exact (hs _ (List.mem_of_getElem? (i := 65) rfl))
  · exact (hs _ (List.mem_of_getElem? (i := 66) rfl))
  · exact (hs _ (List.mem_of_getElem? (i := 67) rfl))
theorem ks_4 (hs : ∀ c ∈ flatC (Jvm.Cond.and given_1 narrow_1), c.before args s = true) : ks_P "PhaseReader$Source" 78 4 args s := by
  refine ks_of (by decide) (hs _ (List.mem_of_getElem? (i := 71) rfl)) (hs _ (List.mem_of_getElem? (i := 72) rfl)) (hs _ (List.mem_of_getElem? (i := 73) rfl)) (hs _ (List.mem_of_getElem? (i := 74) rfl)) (fun j hj => ?_)
  have hj : j < 5 := hj
  rcases (show j = 0 ∨ j = 1 ∨ j = 2 ∨ j = 3 ∨ j = 4 by omega) with rfl | rfl | rfl | rfl | rfl
  · exact (hs _ (List.mem_of_getElem? (i := 75) rfl))
  · exact (hs _ (List.mem_of_getElem? (i := 76) rfl))
  · exact (hs _ (List.mem_of_getElem? (i := 77) rfl))
  · exact (hs _ (List.mem_of_getElem? (i := 78) rfl))
  · exact (hs _ (List.mem_of_getElem? (i := 79) rfl))
theorem ks_5 (hs : ∀ c ∈ flatC (Jvm.Cond.and given_1 narrow_1), c.before args s = true) : ks_P "PhaseReader$Source" 80 5 args s := by
  refine ks_of (by decide) (hs _ (List.mem_of_getElem? (i := 84) rfl)) (hs _ (List.mem_of_getElem? (i := 85) rfl)) (hs _ (List.mem_of_getElem? (i := 86) rfl)) (hs _ (List.mem_of_getElem? (i := 87) rfl)) (fun j hj => ?_)
  have hj : j < 6 := hj
  rcases (show j = 0 ∨ j = 1 ∨ j = 2 ∨ j = 3 ∨ j = 4 ∨ j = 5 by omega) with rfl | rfl | rfl | rfl | rfl | rfl
  · exact (hs _ (List.mem_of_getElem? (i := 88) rfl))
  · exact (hs _ (List.mem_of_getElem? (i := 89) rfl))
  · exact (hs _ (List.mem_of_getElem? (i := 90) rfl))
  · exact (hs _ (List.mem_of_getElem? (i := 91) rfl))
  · exact (hs _ (List.mem_of_getElem? (i := 92) rfl))
  · exact (hs _ (List.mem_of_getElem? (i := 93) rfl))
theorem ks_6 (hs : ∀ c ∈ flatC (Jvm.Cond.and given_1 narrow_1), c.before args s = true) : ks_P "PhaseReader$Source" 82 6 args s := by
  refine ks_of (by decide) (hs _ (List.mem_of_getElem? (i := 99) rfl)) (hs _ (List.mem_of_getElem? (i := 100) rfl)) (hs _ (List.mem_of_getElem? (i := 101) rfl)) (hs _ (List.mem_of_getElem? (i := 102) rfl)) (fun j hj => ?_)
  have hj : j < 4 := hj
  rcases (show j = 0 ∨ j = 1 ∨ j = 2 ∨ j = 3 by omega) with rfl | rfl | rfl | rfl
  · exact (hs _ (List.mem_of_getElem? (i := 103) rfl))
  · exact (hs _ (List.mem_of_getElem? (i := 104) rfl))
  · exact (hs _ (List.mem_of_getElem? (i := 105) rfl))
  · exact (hs _ (List.mem_of_getElem? (i := 106) rfl))
theorem ks_7 (hs : ∀ c ∈ flatC (Jvm.Cond.and given_1 narrow_1), c.before args s = true) : ks_P "PhaseReader$Preprocessor" 108 7 args s := by
  refine ks_of (by decide) (hs _ (List.mem_of_getElem? (i := 113) rfl)) (hs _ (List.mem_of_getElem? (i := 114) rfl)) (hs _ (List.mem_of_getElem? (i := 115) rfl)) (hs _ (List.mem_of_getElem? (i := 116) rfl)) (fun j hj => ?_)
  have hj : j < 6 := hj
  rcases (show j = 0 ∨ j = 1 ∨ j = 2 ∨ j = 3 ∨ j = 4 ∨ j = 5 by omega) with rfl | rfl | rfl | rfl | rfl | rfl
  · exact (hs _ (List.mem_of_getElem? (i := 117) rfl))
  · exact (hs _ (List.mem_of_getElem? (i := 118) rfl))
  · exact (hs _ (List.mem_of_getElem? (i := 119) rfl))
  · exact (hs _ (List.mem_of_getElem? (i := 120) rfl))
  · exact (hs _ (List.mem_of_getElem? (i := 121) rfl))
  · exact (hs _ (List.mem_of_getElem? (i := 122) rfl))
theorem ks_8 (hs : ∀ c ∈ flatC (Jvm.Cond.and given_1 narrow_1), c.before args s = true) : ks_P "PhaseReader$Preprocessor" 116 8 args s := by
  refine ks_of (by decide) (hs _ (List.mem_of_getElem? (i := 130) rfl)) (hs _ (List.mem_of_getElem? (i := 131) rfl)) (hs _ (List.mem_of_getElem? (i := 132) rfl)) (hs _ (List.mem_of_getElem? (i := 133) rfl)) (fun j hj => ?_)
  have hj : j < 7 := hj
  rcases (show j = 0 ∨ j = 1 ∨ j = 2 ∨ j = 3 ∨ j = 4 ∨ j = 5 ∨ j = 6 by omega) with rfl | rfl | rfl | rfl | rfl | rfl | rfl
  · exact (hs _ (List.mem_of_getElem? (i := 134) rfl))
  · exact (hs _ (List.mem_of_getElem? (i := 135) rfl))
  · exact (hs _ (List.mem_of_getElem? (i := 136) rfl))
  · exact (hs _ (List.mem_of_getElem? (i := 137) rfl))
  · exact (hs _ (List.mem_of_getElem? (i := 138) rfl))
  · exact (hs _ (List.mem_of_getElem? (i := 139) rfl))
  · exact (hs _ (List.mem_of_getElem? (i := 140) rfl))
theorem ks_9 (hs : ∀ c ∈ flatC (Jvm.Cond.and given_1 narrow_1), c.before args s = true) : ks_P "PhaseReader$Preprocessor" 120 9 args s := by
  refine ks_of (by decide) (hs _ (List.mem_of_getElem? (i := 149) rfl)) (hs _ (List.mem_of_getElem? (i := 150) rfl)) (hs _ (List.mem_of_getElem? (i := 151) rfl)) (hs _ (List.mem_of_getElem? (i := 152) rfl)) (fun j hj => ?_)
  have hj : j < 4 := hj
  rcases (show j = 0 ∨ j = 1 ∨ j = 2 ∨ j = 3 by omega) with rfl | rfl | rfl | rfl
  · exact (hs _ (List.mem_of_getElem? (i := 153) rfl))
  · exact (hs _ (List.mem_of_getElem? (i := 154) rfl))
  · exact (hs _ (List.mem_of_getElem? (i := 155) rfl))
  · exact (hs _ (List.mem_of_getElem? (i := 156) rfl))
theorem ks_10 (hs : ∀ c ∈ flatC (Jvm.Cond.and given_1 narrow_1), c.before args s = true) : ks_P "PhaseReader$Preprocessor" 126 10 args s := by
  refine ks_of (by decide) (hs _ (List.mem_of_getElem? (i := 166) rfl)) (hs _ (List.mem_of_getElem? (i := 167) rfl)) (hs _ (List.mem_of_getElem? (i := 168) rfl)) (hs _ (List.mem_of_getElem? (i := 169) rfl)) (fun j hj => ?_)
  have hj : j < 5 := hj
  rcases (show j = 0 ∨ j = 1 ∨ j = 2 ∨ j = 3 ∨ j = 4 by omega) with rfl | rfl | rfl | rfl | rfl
  · exact (hs _ (List.mem_of_getElem? (i := 170) rfl))
  · exact (hs _ (List.mem_of_getElem? (i := 171) rfl))
  · exact (hs _ (List.mem_of_getElem? (i := 172) rfl))
  · exact (hs _ (List.mem_of_getElem? (i := 173) rfl))
  · exact (hs _ (List.mem_of_getElem? (i := 174) rfl))
theorem ks_11 (hs : ∀ c ∈ flatC (Jvm.Cond.and given_1 narrow_1), c.before args s = true) : ks_P "PhaseReader$Preprocessor" 139 11 args s := by
  refine ks_of (by decide) (hs _ (List.mem_of_getElem? (i := 185) rfl)) (hs _ (List.mem_of_getElem? (i := 186) rfl)) (hs _ (List.mem_of_getElem? (i := 187) rfl)) (hs _ (List.mem_of_getElem? (i := 188) rfl)) (fun j hj => ?_)
  have hj : j < 5 := hj
  rcases (show j = 0 ∨ j = 1 ∨ j = 2 ∨ j = 3 ∨ j = 4 by omega) with rfl | rfl | rfl | rfl | rfl
  · exact (hs _ (List.mem_of_getElem? (i := 189) rfl))
  · exact (hs _ (List.mem_of_getElem? (i := 190) rfl))
  · exact (hs _ (List.mem_of_getElem? (i := 191) rfl))
  · exact (hs _ (List.mem_of_getElem? (i := 192) rfl))
  · exact (hs _ (List.mem_of_getElem? (i := 193) rfl))
theorem ks_12 (hs : ∀ c ∈ flatC (Jvm.Cond.and given_1 narrow_1), c.before args s = true) : ks_P "PhaseReader$Preprocessor" 155 12 args s := by
  refine ks_of (by decide) (hs _ (List.mem_of_getElem? (i := 205) rfl)) (hs _ (List.mem_of_getElem? (i := 206) rfl)) (hs _ (List.mem_of_getElem? (i := 207) rfl)) (hs _ (List.mem_of_getElem? (i := 208) rfl)) (fun j hj => ?_)
  have hj : j < 5 := hj
  rcases (show j = 0 ∨ j = 1 ∨ j = 2 ∨ j = 3 ∨ j = 4 by omega) with rfl | rfl | rfl | rfl | rfl
  · exact (hs _ (List.mem_of_getElem? (i := 209) rfl))
  · exact (hs _ (List.mem_of_getElem? (i := 210) rfl))
  · exact (hs _ (List.mem_of_getElem? (i := 211) rfl))
  · exact (hs _ (List.mem_of_getElem? (i := 212) rfl))
  · exact (hs _ (List.mem_of_getElem? (i := 213) rfl))
theorem ks_13 (hs : ∀ c ∈ flatC (Jvm.Cond.and given_1 narrow_1), c.before args s = true) : ks_P "PhaseReader$Preprocessor" 161 13 args s := by
  refine ks_of (by decide) (hs _ (List.mem_of_getElem? (i := 226) rfl)) (hs _ (List.mem_of_getElem? (i := 227) rfl)) (hs _ (List.mem_of_getElem? (i := 228) rfl)) (hs _ (List.mem_of_getElem? (i := 229) rfl)) (fun j hj => ?_)
  have hj : j < 6 := hj
  rcases (show j = 0 ∨ j = 1 ∨ j = 2 ∨ j = 3 ∨ j = 4 ∨ j = 5 by omega) with rfl | rfl | rfl | rfl | rfl | rfl
  · exact (hs _ (List.mem_of_getElem? (i := 230) rfl))
  · exact (hs _ (List.mem_of_getElem? (i := 231) rfl))
  · exact (hs _ (List.mem_of_getElem? (i := 232) rfl))
  · exact (hs _ (List.mem_of_getElem? (i := 233) rfl))
  · exact (hs _ (List.mem_of_getElem? (i := 234) rfl))
  · exact (hs _ (List.mem_of_getElem? (i := 235) rfl))
theorem ks_14 (hs : ∀ c ∈ flatC (Jvm.Cond.and given_1 narrow_1), c.before args s = true) : ks_P "PhaseReader$Parser" 81 14 args s := by
  refine ks_of (by decide) (hs _ (List.mem_of_getElem? (i := 249) rfl)) (hs _ (List.mem_of_getElem? (i := 250) rfl)) (hs _ (List.mem_of_getElem? (i := 251) rfl)) (hs _ (List.mem_of_getElem? (i := 252) rfl)) (fun j hj => ?_)
  have hj : j < 3 := hj
  rcases (show j = 0 ∨ j = 1 ∨ j = 2 by omega) with rfl | rfl | rfl
  · exact (hs _ (List.mem_of_getElem? (i := 253) rfl))
  · exact (hs _ (List.mem_of_getElem? (i := 254) rfl))
  · exact (hs _ (List.mem_of_getElem? (i := 255) rfl))
theorem ks_15 (hs : ∀ c ∈ flatC (Jvm.Cond.and given_1 narrow_1), c.before args s = true) : ks_P "PhaseReader$Parser" 87 15 args s := by
  refine ks_of (by decide) (hs _ (List.mem_of_getElem? (i := 270) rfl)) (hs _ (List.mem_of_getElem? (i := 271) rfl)) (hs _ (List.mem_of_getElem? (i := 272) rfl)) (hs _ (List.mem_of_getElem? (i := 273) rfl)) (fun j hj => ?_)
  have hj : j < 4 := hj
  rcases (show j = 0 ∨ j = 1 ∨ j = 2 ∨ j = 3 by omega) with rfl | rfl | rfl | rfl
  · exact (hs _ (List.mem_of_getElem? (i := 274) rfl))
  · exact (hs _ (List.mem_of_getElem? (i := 275) rfl))
  · exact (hs _ (List.mem_of_getElem? (i := 276) rfl))
  · exact (hs _ (List.mem_of_getElem? (i := 277) rfl))
theorem ks_16 (hs : ∀ c ∈ flatC (Jvm.Cond.and given_1 narrow_1), c.before args s = true) : ks_P "PhaseReader$Parser" 89 16 args s := by
  refine ks_of (by decide) (hs _ (List.mem_of_getElem? (i := 293) rfl)) (hs _ (List.mem_of_getElem? (i := 294) rfl)) (hs _ (List.mem_of_getElem? (i := 295) rfl)) (hs _ (List.mem_of_getElem? (i := 296) rfl)) (fun j hj => ?_)
  have hj : j < 7 := hj
  rcases (show j = 0 ∨ j = 1 ∨ j = 2 ∨ j = 3 ∨ j = 4 ∨ j = 5 ∨ j = 6 by omega) with rfl | rfl | rfl | rfl | rfl | rfl | rfl
  · exact (hs _ (List.mem_of_getElem? (i := 297) rfl))
  · exact (hs _ (List.mem_of_getElem? (i := 298) rfl))
  · exact (hs _ (List.mem_of_getElem? (i := 299) rfl))
  · exact (hs _ (List.mem_of_getElem? (i := 300) rfl))
  · exact (hs _ (List.mem_of_getElem? (i := 301) rfl))
  · exact (hs _ (List.mem_of_getElem? (i := 302) rfl))
  · exact (hs _ (List.mem_of_getElem? (i := 303) rfl))
theorem ks_17 (hs : ∀ c ∈ flatC (Jvm.Cond.and given_1 narrow_1), c.before args s = true) : ks_P "PhaseReader$Parser" 91 17 args s := by
  refine ks_of (by decide) (hs _ (List.mem_of_getElem? (i := 320) rfl)) (hs _ (List.mem_of_getElem? (i := 321) rfl)) (hs _ (List.mem_of_getElem? (i := 322) rfl)) (hs _ (List.mem_of_getElem? (i := 323) rfl)) (fun j hj => ?_)
  have hj : j < 6 := hj
  rcases (show j = 0 ∨ j = 1 ∨ j = 2 ∨ j = 3 ∨ j = 4 ∨ j = 5 by omega) with rfl | rfl | rfl | rfl | rfl | rfl
  · exact (hs _ (List.mem_of_getElem? (i := 324) rfl))
  · exact (hs _ (List.mem_of_getElem? (i := 325) rfl))
  · exact (hs _ (List.mem_of_getElem? (i := 326) rfl))
  · exact (hs _ (List.mem_of_getElem? (i := 327) rfl))
  · exact (hs _ (List.mem_of_getElem? (i := 328) rfl))
  · exact (hs _ (List.mem_of_getElem? (i := 329) rfl))
theorem ks_18 (hs : ∀ c ∈ flatC (Jvm.Cond.and given_1 narrow_1), c.before args s = true) : ks_P "PhaseReader$Parser" 195 18 args s := by
  refine ks_of (by decide) (hs _ (List.mem_of_getElem? (i := 347) rfl)) (hs _ (List.mem_of_getElem? (i := 348) rfl)) (hs _ (List.mem_of_getElem? (i := 349) rfl)) (hs _ (List.mem_of_getElem? (i := 350) rfl)) (fun j hj => ?_)
  have hj : j < 2 := hj
  rcases (show j = 0 ∨ j = 1 by omega) with rfl | rfl
  · exact (hs _ (List.mem_of_getElem? (i := 351) rfl))
  · exact (hs _ (List.mem_of_getElem? (i := 352) rfl))
theorem ks_all (hs : ∀ c ∈ flatC (Jvm.Cond.and given_1 narrow_1), c.before args s = true) : ∀ e ∈ x_gr, ks_P e.1 e.2.1 e.2.2.2 args s := List.forall_mem_cons.mpr ⟨ks_0 hs, List.forall_mem_cons.mpr ⟨ks_1 hs, List.forall_mem_cons.mpr ⟨ks_2 hs, List.forall_mem_cons.mpr ⟨ks_3 hs, List.forall_mem_cons.mpr ⟨ks_4 hs, List.forall_mem_cons.mpr ⟨ks_5 hs, List.forall_mem_cons.mpr ⟨ks_6 hs, List.forall_mem_cons.mpr ⟨ks_7 hs, List.forall_mem_cons.mpr ⟨ks_8 hs, List.forall_mem_cons.mpr ⟨ks_9 hs, List.forall_mem_cons.mpr ⟨ks_10 hs, List.forall_mem_cons.mpr ⟨ks_11 hs, List.forall_mem_cons.mpr ⟨ks_12 hs, List.forall_mem_cons.mpr ⟨ks_13 hs, List.forall_mem_cons.mpr ⟨ks_14 hs, List.forall_mem_cons.mpr ⟨ks_15 hs, List.forall_mem_cons.mpr ⟨ks_16 hs, List.forall_mem_cons.mpr ⟨ks_17 hs, List.forall_mem_cons.mpr ⟨ks_18 hs, fun _ h => absurd h List.not_mem_nil⟩⟩⟩⟩⟩⟩⟩⟩⟩⟩⟩⟩⟩⟩⟩⟩⟩⟩⟩
theorem x_gr_at {i : Nat} (hi : i < x_gn) : ∃ e, e ∈ x_gr ∧ e.2.2.2 = i := by
  have h : ∀ i, i < x_gn → (x_gr.map (fun e => e.2.2.2))[i]? = some i := by decide
  have h1 := h i hi
  rw [List.getElem?_map] at h1
  cases hq : x_gr[i]? with
  | none => rw [hq] at h1; cases h1
  | some e =>
    rw [hq] at h1
    exact ⟨e, List.mem_of_getElem? hq, Option.some.inj h1⟩
theorem x_gr_uniq : ∀ e ∈ x_gr, ∀ e' ∈ x_gr, e.2.2.2 = e'.2.2.2 → e = e' := by decide +kernel
theorem x_gr_lt : ∀ e ∈ x_gr, e.2.2.2 < x_gn := by decide
theorem x_KC_start {b L : Nat} {xs : Nat → Int32} (hts : ∀ w ∈ lw_tbl, w.before args s = true) (hs : ∀ c ∈ flatC (Jvm.Cond.and given_1 narrow_1), c.before args s = true) (hX : va_X b L xs s s.heap) (hb : b < s.heap.size) : ∃ kad : Nat → Option Nat, kad 0 = some b ∧ x_KC s.heap.size kad (L, xs) s := by
  have hA : ∀ a : Nat, a < s.heap.size → ¬ (fun q => s.heap.size ≤ q) a := fun a ha => Nat.not_le.mpr ha
  have hZ1 := va_Zof (A := fun q => s.heap.size ≤ q) (hts _ (List.mem_append_right _ (tm_2 (List.mem_of_getElem? (i := 184) rfl)))) (hts _ (s_sub _ (tw_1 (i := 14) rfl rfl))) (va_eqi (hs _ (List.mem_of_getElem? (i := 4) rfl))) hA
  have hZ2 := va_Zqof (A := fun q => s.heap.size ≤ q) (hts _ (List.mem_append_right _ (tm_2 (List.mem_of_getElem? (i := 227) rfl)))) (hts _ (s_sub _ (tw_1 (i := 18) rfl rfl))) (hs _ (List.mem_of_getElem? (i := 5) rfl)) hA
  have hf : ∃ f : Option Nat, va_Z "jdk/internal/util/Preconditions" "SIOOBE_FORMATTER" "Ljava/util/function/BiFunction;" (va_rf f) (fun q => s.heap.size ≤ q) s s.heap := by
    rcases hZ2 with h | ⟨t, h⟩
    · exact ⟨none, h⟩
    · exact ⟨some t, h⟩
  obtain ⟨f, hf⟩ := hf
  have hc : ∀ i : Nat, ∃ p : Nat × Nat, ∀ e ∈ x_gr, e.2.2.2 = i → (Term.string e.1 e.2.1).eval args s none [] s = some (.ref p.1) ∧ va_O "java/lang/String" p.1 (fun q => s.heap.size ≤ q) s s.heap ∧ va_OF "java/lang/String" "coder" "B" (.int 0) p.1 (fun q => s.heap.size ≤ q) s s.heap ∧ va_OF "java/lang/String" "value" "[B" (.ref p.2) p.1 (fun q => s.heap.size ≤ q) s s.heap ∧ va_T .byte p.2 (x_gl.getD i 0) (fun j => .int ((x_gb.getD i []).getD j 0)) (fun q => s.heap.size ≤ q) s s.heap := by
    intro i
    by_cases hi : ∃ e ∈ x_gr, e.2.2.2 = i
    · obtain ⟨e, he, hei⟩ := hi
      obtain ⟨qk, qv, h1, h2, h3, h4, h5⟩ := ks_all hs e he
      refine ⟨(qk, qv), fun e' he' hei' => ?_⟩
      have ee : e' = e := x_gr_uniq e' he' e he (hei'.trans hei.symm)
      subst ee
      rw [hei] at h5
      exact ⟨h1, h2, h3, h4, h5⟩
    · exact ⟨(0, 0), fun e he hei => absurd ⟨e, he, hei⟩ hi⟩
  refine ⟨fun j => if j = 0 then some b else if j < 1000 then some (Classical.choose (hc (j - 1))).1 else if j < 2000 then some (Classical.choose (hc (j - 1000))).2 else f, rfl, ⟨fun e he => ?_, fun i hi => ?_, hZ1, hf⟩, ⟨b, rfl, hX, hb⟩, fun j hj => ?_⟩
  · have hl := x_gr_lt e he
    have hl : e.2.2.2 < 19 := hl
    refine ⟨(Classical.choose (hc e.2.2.2)).1, ?_, vk_R.of (hts _ (s_gr e he)) (Classical.choose_spec (hc e.2.2.2) e he rfl).1⟩
    show (if 1 + e.2.2.2 = 0 then some b else if 1 + e.2.2.2 < 1000 then some (Classical.choose (hc (1 + e.2.2.2 - 1))).1 else _) = _
    rw [if_neg (by omega), if_pos (by omega), show 1 + e.2.2.2 - 1 = e.2.2.2 by omega]
  · obtain ⟨e, he, hei⟩ := x_gr_at hi
    have hi : i < 19 := hi
    have h := Classical.choose_spec (hc i) e he hei
    refine ⟨(Classical.choose (hc i)).1, (Classical.choose (hc i)).2, ?_, ?_, h.2.1, h.2.2.1, h.2.2.2.1, h.2.2.2.2⟩
    · show (if 1 + i = 0 then some b else if 1 + i < 1000 then some (Classical.choose (hc (1 + i - 1))).1 else _) = _
      rw [if_neg (by omega), if_pos (by omega), show 1 + i - 1 = i by omega]
    · show (if 1000 + i = 0 then some b else if 1000 + i < 1000 then some (Classical.choose (hc (1000 + i - 1))).1 else if 1000 + i < 2000 then some (Classical.choose (hc (1000 + i - 1000))).2 else f) = _
      rw [if_neg (by omega), if_neg (by omega), if_pos (by omega), show 1000 + i - 1000 = i by omega]
  · by_cases h0 : j = 0
    · exact ⟨b, by simp [h0]⟩
    · by_cases h1 : j < 1000
      · exact ⟨(Classical.choose (hc (j - 1))).1, by simp only [h0, h1, if_false, if_true]⟩
      · exact ⟨(Classical.choose (hc (j - 1000))).2, by simp only [h0, h1, hj, if_false, if_true]⟩
end KS
theorem x_known {s : State} {args : Array Value} (hts : ∀ w ∈ lw_tbl, w.before args s = true) : ∃ (D : va_G) (dA : Nat → ClassId), x_VM D dA s := by
  have h1 : ∀ c : Nat, ∃ (cC : ClassId) (iS : Nat → Nat), ∀ q : vw_C, x_cl[c]? = some q → u_Kn s q.1 q.2.1 q.2.2 cC iS := by
    intro c
    cases hq : x_cl[c]? with
    | none => exact ⟨0, fun _ => 0, fun q h => by cases h⟩
    | some q =>
      obtain ⟨a1, a2⟩ := s_cl hq
      obtain ⟨cC, iS, hK⟩ := u_known (ws := lw_tbl) hts (fun w hw => s_sub w (a1 w hw)) (hts _ (s_sub _ a2))
      exact ⟨cC, iS, fun q' h => by cases h; exact hK⟩
  have h2 : ∀ t : Nat, ∃ cA : ClassId, ∀ ty : FieldType, x_ty[t]? = some ty → ArrOfT s cA ty ∧ va_RA s cA ty := by
    intro t
    cases ht : x_ty[t]? with
    | none => exact ⟨0, fun q h => by cases h⟩
    | some ty =>
      rcases s_tyw ht with ⟨a1, a2⟩ | ⟨C, rfl, a1⟩
      · obtain ⟨cA, kA, comp, f1, f2, f3⟩ := Cond.arrayClass_spec (hts _ (s_sub _ a1))
        refine ⟨cA, fun q h => ?_⟩
        cases h
        refine ⟨fun N z => ⟨(fun k h => by cases h), kA, f2, comp, f3⟩, ?_⟩
        cases ty <;> first
          | exact f1
          | exact absurd rfl (a2 _)
      · obtain ⟨comp, cA, kA, f1, -, f2, f3, f4⟩ := Cond.arrayOver_spec (hts _ (s_ao _ a1))
        refine ⟨cA, fun q h => ?_⟩
        cases h
        exact ⟨fun N z => ⟨(fun k h => by cases h), kA, f2, comp, f3⟩, kA, comp, f2, f3, f1, f4⟩
  refine ⟨(fun c => Classical.choose (h1 c), fun c => Classical.choose (Classical.choose_spec (h1 c))), fun t => Classical.choose (h2 t), ⟨fun c q hq => Classical.choose_spec (Classical.choose_spec (h1 c)) q hq, fun k q hq => ?_⟩, fun w hw => ?_, fun C hC => va_AO.of (hts _ (s_ao _ hC))⟩
  · have hl : k < x_ty.length := by
      have := (List.getElem?_eq_some_iff.mp hq).1
      simpa [x_tys] using this
    have ht : x_ty[k]? = some (x_ty.getD k .int) := by
      rw [List.getD_eq_getElem?_getD, List.getElem?_eq_getElem hl]
      rfl
    have e1 := x_tys_get (dA := fun t => Classical.choose (h2 t)) ht
    rw [e1] at hq
    cases hq
    exact Classical.choose_spec (h2 k) _ ht
  · rcases s_nest w hw with ⟨a, i, x, n, d, g, rfl⟩ | ⟨a, i, x, g, rfl⟩
    · exact va_Nw.of rfl (hts _ (s_nt _ hw))
    · exact va_Nw.of rfl (hts _ (s_nt _ hw))
set_option maxHeartbeats 4000000 in
theorem x_law {p : Program} {e : Env} {s : State} {m : MethodId} {below : List Frame} {meth : Method} {c : Code} (l : Launch) {b L : Nat} {xs : Nat → Int32} (C0 : lw_At p s m meth c b L xs) {d f : Nat} {h' : x_H} (hrun : x_run (some (L, xs)) f d 0 0 (x_en 0 [.retAddr 0]) [] x_h0 = some (some (.int 1), h')) (hd : d ≤ room_1.frames ∧ 48 * d ≤ room_1.locals) (hc : h'.2.1 ≤ x_cmax ∧ h'.2.2 ≤ x_smax) :
    W p l e room_1 s m #[Value.ref b] below meth c s.heap [] 0 0 (lw_Z below #[Value.ref b] s) (entryFrame m ([Value.ref b] : List Value).toArray (x_nL 0)) := by
  obtain ⟨hexec, hb, hr, hml, hown, hts, hX, hbl, hlk, hgv⟩ := C0
  obtain ⟨kad, hk0, hKC⟩ := x_KC_start hts (flat_of_before _ hgv) hX hbl
  obtain ⟨D, dA, hVM⟩ := x_known hts
  have hX2 : x_cx D dA s.heap.size kad (L, xs) 0 p s m #[Value.ref b] meth c := ⟨⟨hexec, hb, hml, hr, hlk, fun hh => absurd hh (by decide), hown⟩, fun w hw => hts w (s_sub w hw), hVM, hKC, Nat.le_refl _⟩
  have hl := lv_entry ([Value.ref b]) (n := x_nL 0) (Nat.le_of_ble_eq_true rfl)
  rw [lg_entry_eq]
  generalize (lg_sl ([Value.ref b]) ++ List.replicate (x_nL 0 - (lg_sl ([Value.ref b])).length) Slot.unset).toArray = ls at hl ⊢
  have hW := x_sim (l := l) (D := D) (dA := dA) (b := s.heap.size) (kad := kad) (sc := (L, xs)) f d 0 0 (x_en 0 [.retAddr 0]) [] x_h0 (some (.int 1)) h' hrun p e room_1 s m #[Value.ref b] below meth c s.heap [] ls 0 0 hX2 rfl (Nat.le_refl _) (Nat.le_refl _) (x_LV_en (vs := [.retAddr 0]) (by show lv_has ls (x_nL 0) (lv_args 0 [va_rf (kad 0)]); rw [hk0]; exact hl)) (fun k q hq => by simp [x_ws, x_h0] at hq) va_S.rf hd ⟨Nat.le_trans (Nat.sub_le _ _) (Nat.le_trans hc.1 x_cok9.1), Nat.le_trans (Nat.sub_le _ _) (Nat.le_trans hc.2 x_cok9.2)⟩
  intro T hT X
  obtain ⟨t, st, o, h1, h2, ⟨⟨h3, -⟩, -⟩, Lc, ⟨h4, h5, h6⟩, h7⟩ := hW T hT X
  refine ⟨t, st, o, h1, h2, h3, h4, h5, h6.weaken (fun y hy hlt => absurd hlt (Nat.not_lt.mpr (h7 y hy))) ?_ ?_⟩
  · exact Nat.le_trans (Nat.sub_le _ _) hc.1
  · exact Nat.le_trans (Nat.sub_le _ _) hc.2
