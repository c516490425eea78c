def x_gn : Nat := 19
def x_gl : List Nat := [9, 9, 17, 5, 5, 6, 4, 6, 7, 4, 5, 5, 5, 6, 3, 4, 7, 6, 2]
def x_gb : List (List Int32) := [[61, 47, 39, 40, 41, 33, 60, 62, 45], [35, 92, 94, 91, 93, 124, 123, 125, 126], [40, 41, 91, 93, 123, 125, 59, 44, 61, 43, 45, 42, 47, 38, 60, 62, 35], [101, 110, 100, 105, 102], [105, 102, 100, 101, 102], [105, 102, 110, 100, 101, 102], [101, 108, 115, 101], [100, 101, 102, 105, 110, 101], [105, 110, 99, 108, 117, 100, 101], [101, 108, 115, 101], [101, 110, 100, 105, 102], [117, 110, 100, 101, 102], [105, 102, 100, 101, 102], [105, 102, 110, 100, 101, 102], [105, 110, 116], [99, 104, 97, 114], [116, 121, 112, 101, 100, 101, 102], [114, 101, 116, 117, 114, 110], [61, 61]]
def x_gr : List (String × Nat × String × Nat) := [("PhaseReader$Scanner", 56, "=/'()!<>-", 0), ("PhaseReader$Scanner", 48, "#\\^[]|{}~", 1), ("PhaseReader$Scanner", 87, "()[]{};,=+-*/&<>#", 2), ("PhaseReader$Source", 72, "endif", 3), ("PhaseReader$Source", 78, "ifdef", 4), ("PhaseReader$Source", 80, "ifndef", 5), ("PhaseReader$Source", 82, "else", 6), ("PhaseReader$Preprocessor", 108, "define", 7), ("PhaseReader$Preprocessor", 116, "include", 8), ("PhaseReader$Preprocessor", 120, "else", 9), ("PhaseReader$Preprocessor", 126, "endif", 10), ("PhaseReader$Preprocessor", 139, "undef", 11), ("PhaseReader$Preprocessor", 155, "ifdef", 12), ("PhaseReader$Preprocessor", 161, "ifndef", 13), ("PhaseReader$Parser", 81, "int", 14), ("PhaseReader$Parser", 87, "char", 15), ("PhaseReader$Parser", 89, "typedef", 16), ("PhaseReader$Parser", 91, "return", 17), ("PhaseReader$Parser", 195, "==", 18)]
theorem s_gr : ∀ e ∈ x_gr, Jvm.Cond.stringRef e.1 e.2.1 e.2.2.1 ∈ lw_tbl := List.forall_mem_cons.mpr ⟨List.mem_append_right _ (tm_2 (List.mem_of_getElem? (i := 170) rfl)), List.forall_mem_cons.mpr ⟨List.mem_append_right _ (tm_3 (List.mem_of_getElem? (i := 17) rfl)), List.forall_mem_cons.mpr ⟨List.mem_append_right _ (tm_3 (List.mem_of_getElem? (i := 62) rfl)), List.forall_mem_cons.mpr ⟨List.mem_append_right _ (tm_3 (List.mem_of_getElem? (i := 91) rfl)), List.forall_mem_cons.mpr ⟨List.mem_append_right _ (tm_3 (List.mem_of_getElem? (i := 97) rfl)), List.forall_mem_cons.mpr ⟨List.mem_append_right _ (tm_3 (List.mem_of_getElem? (i := 98) rfl)), List.forall_mem_cons.mpr ⟨List.mem_append_right _ (tm_3 (List.mem_of_getElem? (i := 99) rfl)), List.forall_mem_cons.mpr ⟨List.mem_append_right _ (tm_3 (List.mem_of_getElem? (i := 188) rfl)), List.forall_mem_cons.mpr ⟨List.mem_append_right _ (tm_3 (List.mem_of_getElem? (i := 222) rfl)), List.forall_mem_cons.mpr ⟨List.mem_append_right _ (tm_3 (List.mem_of_getElem? (i := 231) rfl)), List.forall_mem_cons.mpr ⟨List.mem_append_right _ (tm_3 (List.mem_of_getElem? (i := 236) rfl)), List.forall_mem_cons.mpr ⟨List.mem_append_right _ (tm_4 (List.mem_of_getElem? (i := 5) rfl)), List.forall_mem_cons.mpr ⟨List.mem_append_right _ (tm_4 (List.mem_of_getElem? (i := 11) rfl)), List.forall_mem_cons.mpr ⟨List.mem_append_right _ (tm_4 (List.mem_of_getElem? (i := 16) rfl)), List.forall_mem_cons.mpr ⟨List.mem_append_right _ (tm_4 (List.mem_of_getElem? (i := 37) rfl)), List.forall_mem_cons.mpr ⟨List.mem_append_right _ (tm_4 (List.mem_of_getElem? (i := 39) rfl)), List.forall_mem_cons.mpr ⟨List.mem_append_right _ (tm_4 (List.mem_of_getElem? (i := 40) rfl)), List.forall_mem_cons.mpr ⟨List.mem_append_right _ (tm_4 (List.mem_of_getElem? (i := 41) rfl)), List.forall_mem_cons.mpr ⟨List.mem_append_right _ (tm_4 (List.mem_of_getElem? (i := 157) rfl)), fun _ h => absurd h List.not_mem_nil⟩⟩⟩⟩⟩⟩⟩⟩⟩⟩⟩⟩⟩⟩⟩⟩⟩⟩⟩
def x_cok (cn : String) (e : Nat × Nat × List Value) : Prop := ∃ (C : String) (T : u_T) (N : Nat) (ty0 : Nat → FieldType), x_cl[e.2.1]? = some (C, T, N) ∧ (∀ w ∈ u_ws C T N, w ∈ x_w) ∧ (∀ j, j < N → parseFieldDescriptor (T j).2.2.1 = some (ty0 j)) ∧ Jvm.Cond.classLink cn e.1 C ∈ x_w ∧ Jvm.Cond.instantiable C N ∈ x_w ∧ Jvm.Cond.initialized C ∈ x_w ∧ e.2.2.length = N ∧ (∀ j, j < N → defaultValue (ty0 j) = vp_V e.2.2 j) ∧ ∀ v ∈ e.2.2, v = .int 0 ∨ v = .long 0 ∨ v = .null
def x_aok (cn : String) (e : Nat × Nat) : Prop := ∃ C, Jvm.Cond.classLink cn e.1 C ∈ x_w ∧ x_ty[e.2]? = some (.object C) ∧ C ∈ x_aos
def x_kok (cn : String) (e : Nat × Value) : Prop := (∀ v, e.2 = .int v → Jvm.Cond.constant cn e.1 v ∈ x_w) ∧ (∀ v, e.2 = .long v → Jvm.Cond.constantLong cn e.1 v ∈ x_w) ∧ ∀ v, e.2 = .retAddr v → ∃ (i : Nat) (t : String), v = 1 + i ∧ i < x_gn ∧ (cn, e.1, t, i) ∈ x_gr
def x_sok (cn : String) (e : Nat × Nat) : Prop := (e.2 = 0 ∧ Jvm.Cond.fieldLink cn e.1 "java/lang/String" "value" "[B" ∈ x_w) ∨ (e.2 = 1 ∧ Jvm.Cond.fieldLink cn e.1 "java/lang/String" "coder" "B" ∈ x_w)
def x_tok (cn : String) (e : Nat × Nat) : Prop := (e.2 = 0 ∧ Jvm.Cond.fieldLink cn e.1 "java/lang/String" "COMPACT_STRINGS" "Z" ∈ x_w) ∨ (e.2 = 1 ∧ Jvm.Cond.fieldLink cn e.1 "jdk/internal/util/Preconditions" "SIOOBE_FORMATTER" "Ljava/util/function/BiFunction;" ∈ x_w)
def oL_0_0 : List (Nat × Nat × List Value) := [(9, 9, [.null, .int 0]), (15, 6, [.null, .null, .null, .int 0, .int 0]), (22, 5, [.null, .null, .null, .int 0, .int 0, .null, .null, .int 0])]
theorem oK_0_0 : ∀ e ∈ oL_0_0, x_cok "PhaseReader" e := List.forall_mem_cons.mpr ⟨⟨_, cT_9, 2, cY_9, rfl, cU_9, cP_9, (tw_1 (i := 29) rfl rfl), (tw_2 (i := 89) rfl rfl), (tw_1 (i := 12) rfl rfl), rfl, by decide +kernel, by decide +kernel⟩, List.forall_mem_cons.mpr ⟨⟨_, cT_6, 5, cY_6, rfl, cU_6, cP_6, (tw_1 (i := 31) rfl rfl), (tw_1 (i := 32) rfl rfl), (tw_1 (i := 2) rfl rfl), rfl, by decide +kernel, by decide +kernel⟩, List.forall_mem_cons.mpr ⟨⟨_, cT_5, 8, cY_5, rfl, cU_5, cP_5, (tw_2 (i := 30) rfl rfl), (tw_2 (i := 31) rfl rfl), (tw_1 (i := 10) rfl rfl), rfl, by decide +kernel, by decide +kernel⟩, fun _ h => absurd h List.not_mem_nil⟩⟩⟩
def oL_0 : List (Nat × Nat × List Value) := [(9, 9, [.null, .int 0]), (15, 6, [.null, .null, .null, .int 0, .int 0]), (22, 5, [.null, .null, .null, .int 0, .int 0, .null, .null, .int 0])]
theorem oK_0 : ∀ e ∈ oL_0, x_cok "PhaseReader" e := by
  have h : oL_0 = oL_0_0 := rfl
  rw [h]
  exact oK_0_0
def aL_0_0 : List (Nat × Nat) := [(9, 8)]
theorem aK_0_0 : ∀ e ∈ aL_0_0, x_aok "PhaseReader" e := List.forall_mem_cons.mpr ⟨⟨_, (tw_1 (i := 29) rfl rfl), rfl, List.mem_of_getElem? (i := 3) rfl⟩, fun _ h => absurd h List.not_mem_nil⟩
def aL_0 : List (Nat × Nat) := [(9, 8)]
theorem aK_0 : ∀ e ∈ aL_0, x_aok "PhaseReader" e := by
  have h : aL_0 = aL_0_0 := rfl
  rw [h]
  exact aK_0_0
def kL_0 : List (Nat × Value) := []
theorem kK_0 : ∀ e ∈ kL_0, x_kok "PhaseReader" e := fun _ h => absurd h List.not_mem_nil
def sL_0 : List (Nat × Nat) := []
theorem sK_0 : ∀ e ∈ sL_0, x_sok "PhaseReader" e := fun _ h => absurd h List.not_mem_nil
def tL_0 : List (Nat × Nat) := []
theorem tK_0 : ∀ e ∈ tL_0, x_tok "PhaseReader" e := fun _ h => absurd h List.not_mem_nil
def oL_1 : List (Nat × Nat × List Value) := []
theorem oK_1 : ∀ e ∈ oL_1, x_cok "PhaseReader$Arguments" e := fun _ h => absurd h List.not_mem_nil
def aL_1 : List (Nat × Nat) := []
theorem aK_1 : ∀ e ∈ aL_1, x_aok "PhaseReader$Arguments" e := fun _ h => absurd h List.not_mem_nil
def kL_1 : List (Nat × Value) := []
theorem kK_1 : ∀ e ∈ kL_1, x_kok "PhaseReader$Arguments" e := fun _ h => absurd h List.not_mem_nil
def sL_1 : List (Nat × Nat) := []
theorem sK_1 : ∀ e ∈ sL_1, x_sok "PhaseReader$Arguments" e := fun _ h => absurd h List.not_mem_nil
def tL_1 : List (Nat × Nat) := []
theorem tK_1 : ∀ e ∈ tL_1, x_tok "PhaseReader$Arguments" e := fun _ h => absurd h List.not_mem_nil
def oL_2_0 : List (Nat × Nat × List Value) := [(13, 4, [.null, .int 0]), (20, 10, [.null, .null, .int 0]), (40, 1, [.null, .null, .null, .null, .int 0, .int 0])]
theorem oK_2_0 : ∀ e ∈ oL_2_0, x_cok "PhaseReader$Expander" e := List.forall_mem_cons.mpr ⟨⟨_, cT_4, 2, cY_4, rfl, cU_4, cP_4, (tw_1 (i := 43) rfl rfl), (tw_1 (i := 44) rfl rfl), (tw_1 (i := 4) rfl rfl), rfl, by decide +kernel, by decide +kernel⟩, List.forall_mem_cons.mpr ⟨⟨_, cT_10, 3, cY_10, rfl, cU_10, cP_10, (tw_1 (i := 94) rfl rfl), (tw_1 (i := 95) rfl rfl), (tw_1 (i := 6) rfl rfl), rfl, by decide +kernel, by decide +kernel⟩, List.forall_mem_cons.mpr ⟨⟨_, cT_1, 6, cY_1, rfl, cU_1, cP_1, (tw_1 (i := 122) rfl rfl), (tw_1 (i := 124) rfl rfl), (tw_1 (i := 7) rfl rfl), rfl, by decide +kernel, by decide +kernel⟩, fun _ h => absurd h List.not_mem_nil⟩⟩⟩
def oL_2 : List (Nat × Nat × List Value) := [(13, 4, [.null, .int 0]), (20, 10, [.null, .null, .int 0]), (40, 1, [.null, .null, .null, .null, .int 0, .int 0])]
theorem oK_2 : ∀ e ∈ oL_2, x_cok "PhaseReader$Expander" e := by
  have h : oL_2 = oL_2_0 := rfl
  rw [h]
  exact oK_2_0
def aL_2_0 : List (Nat × Nat) := [(40, 5)]
theorem aK_2_0 : ∀ e ∈ aL_2_0, x_aok "PhaseReader$Expander" e := List.forall_mem_cons.mpr ⟨⟨_, (tw_1 (i := 122) rfl rfl), rfl, List.mem_of_getElem? (i := 0) rfl⟩, fun _ h => absurd h List.not_mem_nil⟩
def aL_2 : List (Nat × Nat) := [(40, 5)]
theorem aK_2 : ∀ e ∈ aL_2, x_aok "PhaseReader$Expander" e := by
  have h : aL_2 = aL_2_0 := rfl
  rw [h]
  exact aK_2_0
def kL_2_0 : List (Nat × Value) := [(82, .long 40), (118, .long 41), (120, .long 44)]
theorem kK_2_0 : ∀ e ∈ kL_2_0, x_kok "PhaseReader$Expander" e := List.forall_mem_cons.mpr ⟨⟨(fun v h => by cases h), (fun v h => by cases h; exact (tw_3 (i := 125) rfl rfl)), (fun v h => by cases h)⟩, List.forall_mem_cons.mpr ⟨⟨(fun v h => by cases h), (fun v h => by cases h; exact (tw_3 (i := 134) rfl rfl)), (fun v h => by cases h)⟩, List.forall_mem_cons.mpr ⟨⟨(fun v h => by cases h), (fun v h => by cases h; exact (tw_3 (i := 135) rfl rfl)), (fun v h => by cases h)⟩, fun _ h => absurd h List.not_mem_nil⟩⟩⟩
def kL_2 : List (Nat × Value) := [(82, .long 40), (118, .long 41), (120, .long 44)]
theorem kK_2 : ∀ e ∈ kL_2, x_kok "PhaseReader$Expander" e := by
  have h : kL_2 = kL_2_0 := rfl
  rw [h]
  exact kK_2_0
def sL_2 : List (Nat × Nat) := []
theorem sK_2 : ∀ e ∈ sL_2, x_sok "PhaseReader$Expander" e := fun _ h => absurd h List.not_mem_nil
def tL_2 : List (Nat × Nat) := []
theorem tK_2 : ∀ e ∈ tL_2, x_tok "PhaseReader$Expander" e := fun _ h => absurd h List.not_mem_nil
def oL_3 : List (Nat × Nat × List Value) := []
theorem oK_3 : ∀ e ∈ oL_3, x_cok "PhaseReader$Macro" e := fun _ h => absurd h List.not_mem_nil
def aL_3 : List (Nat × Nat) := []
theorem aK_3 : ∀ e ∈ aL_3, x_aok "PhaseReader$Macro" e := fun _ h => absurd h List.not_mem_nil
def kL_3_0 : List (Nat × Value) := [(22, .long 4515)]
theorem kK_3_0 : ∀ e ∈ kL_3_0, x_kok "PhaseReader$Macro" e := List.forall_mem_cons.mpr ⟨⟨(fun v h => by cases h), (fun v h => by cases h; exact (tw_3 (i := 156) rfl rfl)), (fun v h => by cases h)⟩, fun _ h => absurd h List.not_mem_nil⟩
def kL_3 : List (Nat × Value) := [(22, .long 4515)]
theorem kK_3 : ∀ e ∈ kL_3, x_kok "PhaseReader$Macro" e := by
  have h : kL_3 = kL_3_0 := rfl
  rw [h]
  exact kK_3_0
def sL_3 : List (Nat × Nat) := []
theorem sK_3 : ∀ e ∈ sL_3, x_sok "PhaseReader$Macro" e := fun _ h => absurd h List.not_mem_nil
def tL_3 : List (Nat × Nat) := []
theorem tK_3 : ∀ e ∈ tL_3, x_tok "PhaseReader$Macro" e := fun _ h => absurd h List.not_mem_nil
def oL_4_0 : List (Nat × Nat × List Value) := [(11, 3, [.long 0, .int 0, .int 0, .null, .int 0, .null])]
theorem oK_4_0 : ∀ e ∈ oL_4_0, x_cok "PhaseReader$MacroTable" e := List.forall_mem_cons.mpr ⟨⟨_, cT_3, 6, cY_3, rfl, cU_3, cP_3, (tw_1 (i := 49) rfl rfl), (tw_1 (i := 51) rfl rfl), (tw_1 (i := 5) rfl rfl), rfl, by decide +kernel, by decide +kernel⟩, fun _ h => absurd h List.not_mem_nil⟩
def oL_4 : List (Nat × Nat × List Value) := [(11, 3, [.long 0, .int 0, .int 0, .null, .int 0, .null])]
theorem oK_4 : ∀ e ∈ oL_4, x_cok "PhaseReader$MacroTable" e := by
  have h : oL_4 = oL_4_0 := rfl
  rw [h]
  exact oK_4_0
def aL_4_0 : List (Nat × Nat) := [(11, 6)]
theorem aK_4_0 : ∀ e ∈ aL_4_0, x_aok "PhaseReader$MacroTable" e := List.forall_mem_cons.mpr ⟨⟨_, (tw_1 (i := 49) rfl rfl), rfl, List.mem_of_getElem? (i := 1) rfl⟩, fun _ h => absurd h List.not_mem_nil⟩
def aL_4 : List (Nat × Nat) := [(11, 6)]
theorem aK_4 : ∀ e ∈ aL_4, x_aok "PhaseReader$MacroTable" e := by
  have h : aL_4 = aL_4_0 := rfl
  rw [h]
  exact aK_4_0
def kL_4 : List (Nat × Value) := []
theorem kK_4 : ∀ e ∈ kL_4, x_kok "PhaseReader$MacroTable" e := fun _ h => absurd h List.not_mem_nil
def sL_4 : List (Nat × Nat) := []
theorem sK_4 : ∀ e ∈ sL_4, x_sok "PhaseReader$MacroTable" e := fun _ h => absurd h List.not_mem_nil
def tL_4 : List (Nat × Nat) := []
theorem tK_4 : ∀ e ∈ tL_4, x_tok "PhaseReader$MacroTable" e := fun _ h => absurd h List.not_mem_nil
def oL_5_0 : List (Nat × Nat × List Value) := [(11, 11, [.null, .null, .null, .int 0])]
theorem oK_5_0 : ∀ e ∈ oL_5_0, x_cok "PhaseReader$Parser" e := List.forall_mem_cons.mpr ⟨⟨_, cT_11, 4, cY_11, rfl, cU_11, cP_11, (tw_2 (i := 36) rfl rfl), (tw_2 (i := 37) rfl rfl), (tw_1 (i := 11) rfl rfl), rfl, by decide +kernel, by decide +kernel⟩, fun _ h => absurd h List.not_mem_nil⟩
def oL_5 : List (Nat × Nat × List Value) := [(11, 11, [.null, .null, .null, .int 0])]
theorem oK_5 : ∀ e ∈ oL_5, x_cok "PhaseReader$Parser" e := by
  have h : oL_5 = oL_5_0 := rfl
  rw [h]
  exact oK_5_0
def aL_5 : List (Nat × Nat) := []
theorem aK_5 : ∀ e ∈ aL_5, x_aok "PhaseReader$Parser" e := fun _ h => absurd h List.not_mem_nil
def kL_5_0 : List (Nat × Value) := [(81, .retAddr (1 + 14)), (87, .retAddr (1 + 15)), (89, .retAddr (1 + 16)), (91, .retAddr (1 + 17)), (195, .retAddr (1 + 18)), (100, .long 40), (102, .long 91), (104, .long 123), (106, .long 41), (108, .long 93), (110, .long 125), (159, .long 42)]
theorem kK_5_0 : ∀ e ∈ kL_5_0, x_kok "PhaseReader$Parser" e := List.forall_mem_cons.mpr ⟨⟨(fun v h => by cases h), (fun v h => by cases h), (fun v h => by cases h; exact ⟨14, _, rfl, by decide, List.mem_of_getElem? (i := 14) rfl⟩)⟩, List.forall_mem_cons.mpr ⟨⟨(fun v h => by cases h), (fun v h => by cases h), (fun v h => by cases h; exact ⟨15, _, rfl, by decide, List.mem_of_getElem? (i := 15) rfl⟩)⟩, List.forall_mem_cons.mpr ⟨⟨(fun v h => by cases h), (fun v h => by cases h), (fun v h => by cases h; exact ⟨16, _, rfl, by decide, List.mem_of_getElem? (i := 16) rfl⟩)⟩, List.forall_mem_cons.mpr ⟨⟨(fun v h => by cases h), (fun v h => by cases h), (fun v h => by cases h; exact ⟨17, _, rfl, by decide, List.mem_of_getElem? (i := 17) rfl⟩)⟩, List.forall_mem_cons.mpr ⟨⟨(fun v h => by cases h), (fun v h => by cases h), (fun v h => by cases h; exact ⟨18, _, rfl, by decide, List.mem_of_getElem? (i := 18) rfl⟩)⟩, List.forall_mem_cons.mpr ⟨⟨(fun v h => by cases h), (fun v h => by cases h; exact (tw_4 (i := 54) rfl rfl)), (fun v h => by cases h)⟩, List.forall_mem_cons.mpr ⟨⟨(fun v h => by cases h), (fun v h => by cases h; exact (tw_4 (i := 55) rfl rfl)), (fun v h => by cases h)⟩, List.forall_mem_cons.mpr ⟨⟨(fun v h => by cases h), (fun v h => by cases h; exact (tw_4 (i := 56) rfl rfl)), (fun v h => by cases h)⟩, List.forall_mem_cons.mpr ⟨⟨(fun v h => by cases h), (fun v h => by cases h; exact (tw_4 (i := 57) rfl rfl)), (fun v h => by cases h)⟩, List.forall_mem_cons.mpr ⟨⟨(fun v h => by cases h), (fun v h => by cases h; exact (tw_4 (i := 58) rfl rfl)), (fun v h => by cases h)⟩, List.forall_mem_cons.mpr ⟨⟨(fun v h => by cases h), (fun v h => by cases h; exact (tw_4 (i := 59) rfl rfl)), (fun v h => by cases h)⟩, List.forall_mem_cons.mpr ⟨⟨(fun v h => by cases h), (fun v h => by cases h; exact (tw_4 (i := 89) rfl rfl)), (fun v h => by cases h)⟩, fun _ h => absurd h List.not_mem_nil⟩⟩⟩⟩⟩⟩⟩⟩⟩⟩⟩⟩
def kL_5_1 : List (Nat × Value) := [(167, .long 59), (173, .long 61), (185, .long 47), (187, .long 43), (189, .long 45), (191, .long 60), (193, .long 62), (197, .long 38)]
theorem kK_5_1 : ∀ e ∈ kL_5_1, x_kok "PhaseReader$Parser" e := List.forall_mem_cons.mpr ⟨⟨(fun v h => by cases h), (fun v h => by cases h; exact (tw_4 (i := 114) rfl rfl)), (fun v h => by cases h)⟩, List.forall_mem_cons.mpr ⟨⟨(fun v h => by cases h), (fun v h => by cases h; exact (tw_4 (i := 158) rfl rfl)), (fun v h => by cases h)⟩, List.forall_mem_cons.mpr ⟨⟨(fun v h => by cases h), (fun v h => by cases h; exact (tw_4 (i := 153) rfl rfl)), (fun v h => by cases h)⟩, List.forall_mem_cons.mpr ⟨⟨(fun v h => by cases h), (fun v h => by cases h; exact (tw_4 (i := 154) rfl rfl)), (fun v h => by cases h)⟩, List.forall_mem_cons.mpr ⟨⟨(fun v h => by cases h), (fun v h => by cases h; exact (tw_4 (i := 127) rfl rfl)), (fun v h => by cases h)⟩, List.forall_mem_cons.mpr ⟨⟨(fun v h => by cases h), (fun v h => by cases h; exact (tw_4 (i := 155) rfl rfl)), (fun v h => by cases h)⟩, List.forall_mem_cons.mpr ⟨⟨(fun v h => by cases h), (fun v h => by cases h; exact (tw_4 (i := 156) rfl rfl)), (fun v h => by cases h)⟩, List.forall_mem_cons.mpr ⟨⟨(fun v h => by cases h), (fun v h => by cases h; exact (tw_4 (i := 128) rfl rfl)), (fun v h => by cases h)⟩, fun _ h => absurd h List.not_mem_nil⟩⟩⟩⟩⟩⟩⟩⟩
def kL_5 : List (Nat × Value) := [(81, .retAddr (1 + 14)), (87, .retAddr (1 + 15)), (89, .retAddr (1 + 16)), (91, .retAddr (1 + 17)), (195, .retAddr (1 + 18)), (100, .long 40), (102, .long 91), (104, .long 123), (106, .long 41), (108, .long 93), (110, .long 125), (159, .long 42), (167, .long 59), (173, .long 61), (185, .long 47), (187, .long 43), (189, .long 45), (191, .long 60), (193, .long 62), (197, .long 38)]
theorem kK_5 : ∀ e ∈ kL_5, x_kok "PhaseReader$Parser" e := by
  have h : kL_5 = kL_5_0 ++ (kL_5_1) := rfl
  rw [h]
  exact List.forall_mem_append.mpr ⟨kK_5_0, kK_5_1⟩
def sL_5 : List (Nat × Nat) := []
theorem sK_5 : ∀ e ∈ sL_5, x_sok "PhaseReader$Parser" e := fun _ h => absurd h List.not_mem_nil
def tL_5 : List (Nat × Nat) := []
theorem tK_5 : ∀ e ∈ tL_5, x_tok "PhaseReader$Parser" e := fun _ h => absurd h List.not_mem_nil
def oL_6_0 : List (Nat × Nat × List Value) := [(13, 2, [.null, .null, .int 0, .null, .null, .null, .null]), (20, 7, [.null, .null, .int 0]), (27, 8, [.int 0, .int 0, .null, .null, .null, .null, .null, .int 0, .int 0, .int 0, .int 0, .int 0])]
theorem oK_6_0 : ∀ e ∈ oL_6_0, x_cok "PhaseReader$Preprocessor" e := List.forall_mem_cons.mpr ⟨⟨_, cT_2, 7, cY_2, rfl, cU_2, cP_2, (tw_1 (i := 37) rfl rfl), (tw_1 (i := 38) rfl rfl), (tw_1 (i := 3) rfl rfl), rfl, by decide +kernel, by decide +kernel⟩, List.forall_mem_cons.mpr ⟨⟨_, cT_7, 3, cY_7, rfl, cU_7, cP_7, (tw_1 (i := 179) rfl rfl), (tw_1 (i := 180) rfl rfl), (tw_1 (i := 8) rfl rfl), rfl, by decide +kernel, by decide +kernel⟩, List.forall_mem_cons.mpr ⟨⟨_, cT_8, 12, cY_8, rfl, cU_8, cP_8, (tw_1 (i := 196) rfl rfl), (tw_1 (i := 198) rfl rfl), (tw_1 (i := 9) rfl rfl), rfl, by decide +kernel, by decide +kernel⟩, fun _ h => absurd h List.not_mem_nil⟩⟩⟩
def oL_6 : List (Nat × Nat × List Value) := [(13, 2, [.null, .null, .int 0, .null, .null, .null, .null]), (20, 7, [.null, .null, .int 0]), (27, 8, [.int 0, .int 0, .null, .null, .null, .null, .null, .int 0, .int 0, .int 0, .int 0, .int 0])]
theorem oK_6 : ∀ e ∈ oL_6, x_cok "PhaseReader$Preprocessor" e := by
  have h : oL_6 = oL_6_0 := rfl
  rw [h]
  exact oK_6_0
def aL_6_0 : List (Nat × Nat) := [(27, 7)]
theorem aK_6_0 : ∀ e ∈ aL_6_0, x_aok "PhaseReader$Preprocessor" e := List.forall_mem_cons.mpr ⟨⟨_, (tw_1 (i := 196) rfl rfl), rfl, List.mem_of_getElem? (i := 2) rfl⟩, fun _ h => absurd h List.not_mem_nil⟩
def aL_6 : List (Nat × Nat) := [(27, 7)]
theorem aK_6 : ∀ e ∈ aL_6, x_aok "PhaseReader$Preprocessor" e := by
  have h : aL_6 = aL_6_0 := rfl
  rw [h]
  exact aK_6_0
def kL_6_0 : List (Nat × Value) := [(108, .retAddr (1 + 7)), (116, .retAddr (1 + 8)), (120, .retAddr (1 + 9)), (126, .retAddr (1 + 10)), (139, .retAddr (1 + 11)), (155, .retAddr (1 + 12)), (161, .retAddr (1 + 13)), (95, .long 35), (163, .long 60), (165, .long 62), (167, .long 48), (169, .long 51)]
theorem kK_6_0 : ∀ e ∈ kL_6_0, x_kok "PhaseReader$Preprocessor" e := List.forall_mem_cons.mpr ⟨⟨(fun v h => by cases h), (fun v h => by cases h), (fun v h => by cases h; exact ⟨7, _, rfl, by decide, List.mem_of_getElem? (i := 7) rfl⟩)⟩, List.forall_mem_cons.mpr ⟨⟨(fun v h => by cases h), (fun v h => by cases h), (fun v h => by cases h; exact ⟨8, _, rfl, by decide, List.mem_of_getElem? (i := 8) rfl⟩)⟩, List.forall_mem_cons.mpr ⟨⟨(fun v h => by cases h), (fun v h => by cases h), (fun v h => by cases h; exact ⟨9, _, rfl, by decide, List.mem_of_getElem? (i := 9) rfl⟩)⟩, List.forall_mem_cons.mpr ⟨⟨(fun v h => by cases h), (fun v h => by cases h), (fun v h => by cases h; exact ⟨10, _, rfl, by decide, List.mem_of_getElem? (i := 10) rfl⟩)⟩, List.forall_mem_cons.mpr ⟨⟨(fun v h => by cases h), (fun v h => by cases h), (fun v h => by cases h; exact ⟨11, _, rfl, by decide, List.mem_of_getElem? (i := 11) rfl⟩)⟩, List.forall_mem_cons.mpr ⟨⟨(fun v h => by cases h), (fun v h => by cases h), (fun v h => by cases h; exact ⟨12, _, rfl, by decide, List.mem_of_getElem? (i := 12) rfl⟩)⟩, List.forall_mem_cons.mpr ⟨⟨(fun v h => by cases h), (fun v h => by cases h), (fun v h => by cases h; exact ⟨13, _, rfl, by decide, List.mem_of_getElem? (i := 13) rfl⟩)⟩, List.forall_mem_cons.mpr ⟨⟨(fun v h => by cases h), (fun v h => by cases h; exact (tw_3 (i := 100) rfl rfl)), (fun v h => by cases h)⟩, List.forall_mem_cons.mpr ⟨⟨(fun v h => by cases h), (fun v h => by cases h; exact (tw_3 (i := 227) rfl rfl)), (fun v h => by cases h)⟩, List.forall_mem_cons.mpr ⟨⟨(fun v h => by cases h), (fun v h => by cases h; exact (tw_3 (i := 228) rfl rfl)), (fun v h => by cases h)⟩, List.forall_mem_cons.mpr ⟨⟨(fun v h => by cases h), (fun v h => by cases h; exact (tw_3 (i := 229) rfl rfl)), (fun v h => by cases h)⟩, List.forall_mem_cons.mpr ⟨⟨(fun v h => by cases h), (fun v h => by cases h; exact (tw_3 (i := 230) rfl rfl)), (fun v h => by cases h)⟩, fun _ h => absurd h List.not_mem_nil⟩⟩⟩⟩⟩⟩⟩⟩⟩⟩⟩⟩
def kL_6_1 : List (Nat × Value) := [(171, .long 40), (187, .long 41), (192, .long 44), (194, .long 4515)]
theorem kK_6_1 : ∀ e ∈ kL_6_1, x_kok "PhaseReader$Preprocessor" e := List.forall_mem_cons.mpr ⟨⟨(fun v h => by cases h), (fun v h => by cases h; exact (tw_3 (i := 203) rfl rfl)), (fun v h => by cases h)⟩, List.forall_mem_cons.mpr ⟨⟨(fun v h => by cases h), (fun v h => by cases h; exact (tw_3 (i := 207) rfl rfl)), (fun v h => by cases h)⟩, List.forall_mem_cons.mpr ⟨⟨(fun v h => by cases h), (fun v h => by cases h; exact (tw_3 (i := 211) rfl rfl)), (fun v h => by cases h)⟩, List.forall_mem_cons.mpr ⟨⟨(fun v h => by cases h), (fun v h => by cases h; exact (tw_3 (i := 215) rfl rfl)), (fun v h => by cases h)⟩, fun _ h => absurd h List.not_mem_nil⟩⟩⟩⟩
def kL_6 : List (Nat × Value) := [(108, .retAddr (1 + 7)), (116, .retAddr (1 + 8)), (120, .retAddr (1 + 9)), (126, .retAddr (1 + 10)), (139, .retAddr (1 + 11)), (155, .retAddr (1 + 12)), (161, .retAddr (1 + 13)), (95, .long 35), (163, .long 60), (165, .long 62), (167, .long 48), (169, .long 51), (171, .long 40), (187, .long 41), (192, .long 44), (194, .long 4515)]
theorem kK_6 : ∀ e ∈ kL_6, x_kok "PhaseReader$Preprocessor" e := by
  have h : kL_6 = kL_6_0 ++ (kL_6_1) := rfl
  rw [h]
  exact List.forall_mem_append.mpr ⟨kK_6_0, kK_6_1⟩
def sL_6 : List (Nat × Nat) := []
theorem sK_6 : ∀ e ∈ sL_6, x_sok "PhaseReader$Preprocessor" e := fun _ h => absurd h List.not_mem_nil
def tL_6 : List (Nat × Nat) := []
theorem tK_6 : ∀ e ∈ tL_6, x_tok "PhaseReader$Preprocessor" e := fun _ h => absurd h List.not_mem_nil
def oL_7 : List (Nat × Nat × List Value) := []
theorem oK_7 : ∀ e ∈ oL_7, x_cok "PhaseReader$Scanner" e := fun _ h => absurd h List.not_mem_nil
def aL_7 : List (Nat × Nat) := []
theorem aK_7 : ∀ e ∈ aL_7, x_aok "PhaseReader$Scanner" e := fun _ h => absurd h List.not_mem_nil
def kL_7_0 : List (Nat × Value) := [(48, .retAddr (1 + 1)), (56, .retAddr (1 + 0)), (87, .retAddr (1 + 2))]
theorem kK_7_0 : ∀ e ∈ kL_7_0, x_kok "PhaseReader$Scanner" e := List.forall_mem_cons.mpr ⟨⟨(fun v h => by cases h), (fun v h => by cases h), (fun v h => by cases h; exact ⟨1, _, rfl, by decide, List.mem_of_getElem? (i := 1) rfl⟩)⟩, List.forall_mem_cons.mpr ⟨⟨(fun v h => by cases h), (fun v h => by cases h), (fun v h => by cases h; exact ⟨0, _, rfl, by decide, List.mem_of_getElem? (i := 0) rfl⟩)⟩, List.forall_mem_cons.mpr ⟨⟨(fun v h => by cases h), (fun v h => by cases h), (fun v h => by cases h; exact ⟨2, _, rfl, by decide, List.mem_of_getElem? (i := 2) rfl⟩)⟩, fun _ h => absurd h List.not_mem_nil⟩⟩⟩
def kL_7 : List (Nat × Value) := [(48, .retAddr (1 + 1)), (56, .retAddr (1 + 0)), (87, .retAddr (1 + 2))]
theorem kK_7 : ∀ e ∈ kL_7, x_kok "PhaseReader$Scanner" e := by
  have h : kL_7 = kL_7_0 := rfl
  rw [h]
  exact kK_7_0
def sL_7 : List (Nat × Nat) := []
theorem sK_7 : ∀ e ∈ sL_7, x_sok "PhaseReader$Scanner" e := fun _ h => absurd h List.not_mem_nil
def tL_7 : List (Nat × Nat) := []
theorem tK_7 : ∀ e ∈ tL_7, x_tok "PhaseReader$Scanner" e := fun _ h => absurd h List.not_mem_nil
def oL_8_0 : List (Nat × Nat × List Value) := [(11, 10, [.null, .null, .int 0])]
theorem oK_8_0 : ∀ e ∈ oL_8_0, x_cok "PhaseReader$Source" e := List.forall_mem_cons.mpr ⟨⟨_, cT_10, 3, cY_10, rfl, cU_10, cP_10, (tw_1 (i := 203) rfl rfl), (tw_1 (i := 95) rfl rfl), (tw_1 (i := 6) rfl rfl), rfl, by decide +kernel, by decide +kernel⟩, fun _ h => absurd h List.not_mem_nil⟩
def oL_8 : List (Nat × Nat × List Value) := [(11, 10, [.null, .null, .int 0])]
theorem oK_8 : ∀ e ∈ oL_8, x_cok "PhaseReader$Source" e := by
  have h : oL_8 = oL_8_0 := rfl
  rw [h]
  exact oK_8_0
def aL_8 : List (Nat × Nat) := []
theorem aK_8 : ∀ e ∈ aL_8, x_aok "PhaseReader$Source" e := fun _ h => absurd h List.not_mem_nil
def kL_8_0 : List (Nat × Value) := [(72, .retAddr (1 + 3)), (78, .retAddr (1 + 4)), (80, .retAddr (1 + 5)), (82, .retAddr (1 + 6)), (70, .long 35)]
theorem kK_8_0 : ∀ e ∈ kL_8_0, x_kok "PhaseReader$Source" e := List.forall_mem_cons.mpr ⟨⟨(fun v h => by cases h), (fun v h => by cases h), (fun v h => by cases h; exact ⟨3, _, rfl, by decide, List.mem_of_getElem? (i := 3) rfl⟩)⟩, List.forall_mem_cons.mpr ⟨⟨(fun v h => by cases h), (fun v h => by cases h), (fun v h => by cases h; exact ⟨4, _, rfl, by decide, List.mem_of_getElem? (i := 4) rfl⟩)⟩, List.forall_mem_cons.mpr ⟨⟨(fun v h => by cases h), (fun v h => by cases h), (fun v h => by cases h; exact ⟨5, _, rfl, by decide, List.mem_of_getElem? (i := 5) rfl⟩)⟩, List.forall_mem_cons.mpr ⟨⟨(fun v h => by cases h), (fun v h => by cases h), (fun v h => by cases h; exact ⟨6, _, rfl, by decide, List.mem_of_getElem? (i := 6) rfl⟩)⟩, List.forall_mem_cons.mpr ⟨⟨(fun v h => by cases h), (fun v h => by cases h; exact (tw_3 (i := 90) rfl rfl)), (fun v h => by cases h)⟩, fun _ h => absurd h List.not_mem_nil⟩⟩⟩⟩⟩
def kL_8 : List (Nat × Value) := [(72, .retAddr (1 + 3)), (78, .retAddr (1 + 4)), (80, .retAddr (1 + 5)), (82, .retAddr (1 + 6)), (70, .long 35)]
theorem kK_8 : ∀ e ∈ kL_8, x_kok "PhaseReader$Source" e := by
  have h : kL_8 = kL_8_0 := rfl
  rw [h]
  exact kK_8_0
def sL_8 : List (Nat × Nat) := []
theorem sK_8 : ∀ e ∈ sL_8, x_sok "PhaseReader$Source" e := fun _ h => absurd h List.not_mem_nil
def tL_8 : List (Nat × Nat) := []
theorem tK_8 : ∀ e ∈ tL_8, x_tok "PhaseReader$Source" e := fun _ h => absurd h List.not_mem_nil
def oL_9 : List (Nat × Nat × List Value) := []
theorem oK_9 : ∀ e ∈ oL_9, x_cok "PhaseReader$Text" e := fun _ h => absurd h List.not_mem_nil
def aL_9 : List (Nat × Nat) := []
theorem aK_9 : ∀ e ∈ aL_9, x_aok "PhaseReader$Text" e := fun _ h => absurd h List.not_mem_nil
def kL_9 : List (Nat × Value) := []
theorem kK_9 : ∀ e ∈ kL_9, x_kok "PhaseReader$Text" e := fun _ h => absurd h List.not_mem_nil
def sL_9 : List (Nat × Nat) := []
theorem sK_9 : ∀ e ∈ sL_9, x_sok "PhaseReader$Text" e := fun _ h => absurd h List.not_mem_nil
def tL_9 : List (Nat × Nat) := []
theorem tK_9 : ∀ e ∈ tL_9, x_tok "PhaseReader$Text" e := fun _ h => absurd h List.not_mem_nil
def oL_10 : List (Nat × Nat × List Value) := []
theorem oK_10 : ∀ e ∈ oL_10, x_cok "PhaseReader$TokenRow" e := fun _ h => absurd h List.not_mem_nil
def aL_10 : List (Nat × Nat) := []
theorem aK_10 : ∀ e ∈ aL_10, x_aok "PhaseReader$TokenRow" e := fun _ h => absurd h List.not_mem_nil
def kL_10_0 : List (Nat × Value) := [(25, .long 35), (27, .long 61), (57, .long 48), (59, .long 57), (61, .long 127)]
theorem kK_10_0 : ∀ e ∈ kL_10_0, x_kok "PhaseReader$TokenRow" e := List.forall_mem_cons.mpr ⟨⟨(fun v h => by cases h), (fun v h => by cases h; exact (tw_3 (i := 171) rfl rfl)), (fun v h => by cases h)⟩, List.forall_mem_cons.mpr ⟨⟨(fun v h => by cases h), (fun v h => by cases h; exact (tw_3 (i := 172) rfl rfl)), (fun v h => by cases h)⟩, List.forall_mem_cons.mpr ⟨⟨(fun v h => by cases h), (fun v h => by cases h; exact (tw_3 (i := 201) rfl rfl)), (fun v h => by cases h)⟩, List.forall_mem_cons.mpr ⟨⟨(fun v h => by cases h), (fun v h => by cases h; exact (tw_3 (i := 202) rfl rfl)), (fun v h => by cases h)⟩, List.forall_mem_cons.mpr ⟨⟨(fun v h => by cases h), (fun v h => by cases h; exact (tw_3 (i := 200) rfl rfl)), (fun v h => by cases h)⟩, fun _ h => absurd h List.not_mem_nil⟩⟩⟩⟩⟩
def kL_10 : List (Nat × Value) := [(25, .long 35), (27, .long 61), (57, .long 48), (59, .long 57), (61, .long 127)]
theorem kK_10 : ∀ e ∈ kL_10, x_kok "PhaseReader$TokenRow" e := by
  have h : kL_10 = kL_10_0 := rfl
  rw [h]
  exact kK_10_0
def sL_10 : List (Nat × Nat) := []
theorem sK_10 : ∀ e ∈ sL_10, x_sok "PhaseReader$TokenRow" e := fun _ h => absurd h List.not_mem_nil
def tL_10 : List (Nat × Nat) := []
theorem tK_10 : ∀ e ∈ tL_10, x_tok "PhaseReader$TokenRow" e := fun _ h => absurd h List.not_mem_nil
def oL_11 : List (Nat × Nat × List Value) := []
theorem oK_11 : ∀ e ∈ oL_11, x_cok "PhaseReader$Tree" e := fun _ h => absurd h List.not_mem_nil
def aL_11 : List (Nat × Nat) := []
theorem aK_11 : ∀ e ∈ aL_11, x_aok "PhaseReader$Tree" e := fun _ h => absurd h List.not_mem_nil
def kL_11 : List (Nat × Value) := []
theorem kK_11 : ∀ e ∈ kL_11, x_kok "PhaseReader$Tree" e := fun _ h => absurd h List.not_mem_nil
def sL_11 : List (Nat × Nat) := []
theorem sK_11 : ∀ e ∈ sL_11, x_sok "PhaseReader$Tree" e := fun _ h => absurd h List.not_mem_nil
def tL_11 : List (Nat × Nat) := []
theorem tK_11 : ∀ e ∈ tL_11, x_tok "PhaseReader$Tree" e := fun _ h => absurd h List.not_mem_nil
def oL_12 : List (Nat × Nat × List Value) := []
theorem oK_12 : ∀ e ∈ oL_12, x_cok "PhaseReaderModel" e := fun _ h => absurd h List.not_mem_nil
def aL_12 : List (Nat × Nat) := []
theorem aK_12 : ∀ e ∈ aL_12, x_aok "PhaseReaderModel" e := fun _ h => absurd h List.not_mem_nil
def kL_12_0 : List (Nat × Value) := [(188, .long 127), (231, .long 35), (244, .long 28401283814), (246, .long 3635385283302), (248, .long 213596645), (250, .long 27344319718), (255, .long 3463301461861), (260, .long 465601258418789), (273, .long 31639286502), (278, .long 60), (280, .long 62), (282, .long 48)]
theorem kK_12_0 : ∀ e ∈ kL_12_0, x_kok "PhaseReaderModel" e := List.forall_mem_cons.mpr ⟨⟨(fun v h => by cases h), (fun v h => by cases h; exact (tw_6 (i := 30) rfl rfl)), (fun v h => by cases h)⟩, List.forall_mem_cons.mpr ⟨⟨(fun v h => by cases h), (fun v h => by cases h; exact (tw_6 (i := 43) rfl rfl)), (fun v h => by cases h)⟩, List.forall_mem_cons.mpr ⟨⟨(fun v h => by cases h), (fun v h => by cases h; exact (tw_6 (i := 48) rfl rfl)), (fun v h => by cases h)⟩, List.forall_mem_cons.mpr ⟨⟨(fun v h => by cases h), (fun v h => by cases h; exact (tw_6 (i := 49) rfl rfl)), (fun v h => by cases h)⟩, List.forall_mem_cons.mpr ⟨⟨(fun v h => by cases h), (fun v h => by cases h; exact (tw_6 (i := 50) rfl rfl)), (fun v h => by cases h)⟩, List.forall_mem_cons.mpr ⟨⟨(fun v h => by cases h), (fun v h => by cases h; exact (tw_6 (i := 51) rfl rfl)), (fun v h => by cases h)⟩, List.forall_mem_cons.mpr ⟨⟨(fun v h => by cases h), (fun v h => by cases h; exact (tw_6 (i := 56) rfl rfl)), (fun v h => by cases h)⟩, List.forall_mem_cons.mpr ⟨⟨(fun v h => by cases h), (fun v h => by cases h; exact (tw_6 (i := 75) rfl rfl)), (fun v h => by cases h)⟩, List.forall_mem_cons.mpr ⟨⟨(fun v h => by cases h), (fun v h => by cases h; exact (tw_6 (i := 88) rfl rfl)), (fun v h => by cases h)⟩, List.forall_mem_cons.mpr ⟨⟨(fun v h => by cases h), (fun v h => by cases h; exact (tw_6 (i := 80) rfl rfl)), (fun v h => by cases h)⟩, List.forall_mem_cons.mpr ⟨⟨(fun v h => by cases h), (fun v h => by cases h; exact (tw_6 (i := 81) rfl rfl)), (fun v h => by cases h)⟩, List.forall_mem_cons.mpr ⟨⟨(fun v h => by cases h), (fun v h => by cases h; exact (tw_6 (i := 82) rfl rfl)), (fun v h => by cases h)⟩, fun _ h => absurd h List.not_mem_nil⟩⟩⟩⟩⟩⟩⟩⟩⟩⟩⟩⟩
def kL_12_1 : List (Nat × Value) := [(284, .long 50), (292, .long 41), (294, .long 44), (296, .long 40), (301, .long 4515), (352, .long 7869), (369, .long 91), (371, .long 123), (373, .long 93), (375, .long 125), (377, .long 2), (379, .long 1734516)]
theorem kK_12_1 : ∀ e ∈ kL_12_1, x_kok "PhaseReaderModel" e := List.forall_mem_cons.mpr ⟨⟨(fun v h => by cases h), (fun v h => by cases h; exact (tw_6 (i := 83) rfl rfl)), (fun v h => by cases h)⟩, List.forall_mem_cons.mpr ⟨⟨(fun v h => by cases h), (fun v h => by cases h; exact (tw_6 (i := 41) rfl rfl)), (fun v h => by cases h)⟩, List.forall_mem_cons.mpr ⟨⟨(fun v h => by cases h), (fun v h => by cases h; exact (tw_6 (i := 42) rfl rfl)), (fun v h => by cases h)⟩, List.forall_mem_cons.mpr ⟨⟨(fun v h => by cases h), (fun v h => by cases h; exact (tw_6 (i := 36) rfl rfl)), (fun v h => by cases h)⟩, List.forall_mem_cons.mpr ⟨⟨(fun v h => by cases h), (fun v h => by cases h; exact (tw_6 (i := 15) rfl rfl)), (fun v h => by cases h)⟩, List.forall_mem_cons.mpr ⟨⟨(fun v h => by cases h), (fun v h => by cases h; exact (tw_6 (i := 31) rfl rfl)), (fun v h => by cases h)⟩, List.forall_mem_cons.mpr ⟨⟨(fun v h => by cases h), (fun v h => by cases h; exact (tw_6 (i := 96) rfl rfl)), (fun v h => by cases h)⟩, List.forall_mem_cons.mpr ⟨⟨(fun v h => by cases h), (fun v h => by cases h; exact (tw_6 (i := 97) rfl rfl)), (fun v h => by cases h)⟩, List.forall_mem_cons.mpr ⟨⟨(fun v h => by cases h), (fun v h => by cases h; exact (tw_6 (i := 98) rfl rfl)), (fun v h => by cases h)⟩, List.forall_mem_cons.mpr ⟨⟨(fun v h => by cases h), (fun v h => by cases h; exact (tw_6 (i := 99) rfl rfl)), (fun v h => by cases h)⟩, List.forall_mem_cons.mpr ⟨⟨(fun v h => by cases h), (fun v h => by cases h; exact (tw_6 (i := 108) rfl rfl)), (fun v h => by cases h)⟩, List.forall_mem_cons.mpr ⟨⟨(fun v h => by cases h), (fun v h => by cases h; exact (tw_6 (i := 126) rfl rfl)), (fun v h => by cases h)⟩, fun _ h => absurd h List.not_mem_nil⟩⟩⟩⟩⟩⟩⟩⟩⟩⟩⟩⟩
def kL_12_2 : List (Nat × Value) := [(381, .long 209334514), (383, .long 514361201865446), (385, .long 3944367356270), (415, .long 59), (430, .long 61), (432, .long 42), (441, .long 43), (443, .long 45), (445, .long 47), (453, .long 38), (322, .int 100000)]
theorem kK_12_2 : ∀ e ∈ kL_12_2, x_kok "PhaseReaderModel" e := List.forall_mem_cons.mpr ⟨⟨(fun v h => by cases h), (fun v h => by cases h; exact (tw_6 (i := 127) rfl rfl)), (fun v h => by cases h)⟩, List.forall_mem_cons.mpr ⟨⟨(fun v h => by cases h), (fun v h => by cases h; exact (tw_6 (i := 121) rfl rfl)), (fun v h => by cases h)⟩, List.forall_mem_cons.mpr ⟨⟨(fun v h => by cases h), (fun v h => by cases h; exact (tw_6 (i := 132) rfl rfl)), (fun v h => by cases h)⟩, List.forall_mem_cons.mpr ⟨⟨(fun v h => by cases h), (fun v h => by cases h; exact (tw_6 (i := 137) rfl rfl)), (fun v h => by cases h)⟩, List.forall_mem_cons.mpr ⟨⟨(fun v h => by cases h), (fun v h => by cases h; exact (tw_6 (i := 149) rfl rfl)), (fun v h => by cases h)⟩, List.forall_mem_cons.mpr ⟨⟨(fun v h => by cases h), (fun v h => by cases h; exact (tw_6 (i := 152) rfl rfl)), (fun v h => by cases h)⟩, List.forall_mem_cons.mpr ⟨⟨(fun v h => by cases h), (fun v h => by cases h; exact (tw_6 (i := 150) rfl rfl)), (fun v h => by cases h)⟩, List.forall_mem_cons.mpr ⟨⟨(fun v h => by cases h), (fun v h => by cases h; exact (tw_6 (i := 151) rfl rfl)), (fun v h => by cases h)⟩, List.forall_mem_cons.mpr ⟨⟨(fun v h => by cases h), (fun v h => by cases h; exact (tw_6 (i := 153) rfl rfl)), (fun v h => by cases h)⟩, List.forall_mem_cons.mpr ⟨⟨(fun v h => by cases h), (fun v h => by cases h; exact (tw_6 (i := 158) rfl rfl)), (fun v h => by cases h)⟩, List.forall_mem_cons.mpr ⟨⟨(fun v h => by cases h; exact (tw_5 (i := 238) rfl rfl)), (fun v h => by cases h), (fun v h => by cases h)⟩, fun _ h => absurd h List.not_mem_nil⟩⟩⟩⟩⟩⟩⟩⟩⟩⟩⟩
def kL_12 : List (Nat × Value) := [(188, .long 127), (231, .long 35), (244, .long 28401283814), (246, .long 3635385283302), (248, .long 213596645), (250, .long 27344319718), (255, .long 3463301461861), (260, .long 465601258418789), (273, .long 31639286502), (278, .long 60), (280, .long 62), (282, .long 48), (284, .long 50), (292, .long 41), (294, .long 44), (296, .long 40), (301, .long 4515), (352, .long 7869), (369, .long 91), (371, .long 123), (373, .long 93), (375, .long 125), (377, .long 2), (379, .long 1734516), (381, .long 209334514), (383, .long 514361201865446), (385, .long 3944367356270), (415, .long 59), (430, .long 61), (432, .long 42), (441, .long 43), (443, .long 45), (445, .long 47), (453, .long 38), (322, .int 100000)]
theorem kK_12 : ∀ e ∈ kL_12, x_kok "PhaseReaderModel" e := by
  have h : kL_12 = kL_12_0 ++ (kL_12_1 ++ (kL_12_2)) := rfl
  rw [h]
  exact List.forall_mem_append.mpr ⟨kK_12_0, List.forall_mem_append.mpr ⟨kK_12_1, kK_12_2⟩⟩
def sL_12 : List (Nat × Nat) := []
theorem sK_12 : ∀ e ∈ sL_12, x_sok "PhaseReaderModel" e := fun _ h => absurd h List.not_mem_nil
def tL_12 : List (Nat × Nat) := []
theorem tK_12 : ∀ e ∈ tL_12, x_tok "PhaseReaderModel" e := fun _ h => absurd h List.not_mem_nil
def oL_13_0 : List (Nat × Nat × List Value) := [(7, 0, [.null, .null, .null, .int 0, .int 0]), (10, 12, [.null, .null, .int 0, .null, .null, .int 0, .null, .null, .null, .null, .null, .null, .int 0, .int 0, .null, .null, .int 0, .int 0, .null, .null, .null, .null, .null, .int 0, .null, .null, .int 0, .null, .null, .int 0, .null, .null, .int 0, .null, .null, .int 0, .null, .null, .null, .null, .null, .null, .null, .null, .null, .null, .int 0, .null, .null, .int 0, .int 0, .null, .null, .null, .null, .null, .int 0, .null, .null, .null, .null, .int 0, .null, .null, .null, .null, .null, .int 0, .null, .null, .null, .null])]
theorem oK_13_0 : ∀ e ∈ oL_13_0, x_cok "PhaseReaderLaw" e := List.forall_mem_cons.mpr ⟨⟨_, cT_0, 5, cY_0, rfl, cU_0, cP_0, (tw_1 (i := 21) rfl rfl), (tw_1 (i := 22) rfl rfl), (tw_1 (i := 1) rfl rfl), rfl, by decide +kernel, by decide +kernel⟩, List.forall_mem_cons.mpr ⟨⟨_, cT_12, 72, cY_12, rfl, cU_12, cP_12, (tw_4 (i := 198) rfl rfl), (tw_4 (i := 199) rfl rfl), (tw_1 (i := 13) rfl rfl), rfl, by decide +kernel, by decide +kernel⟩, fun _ h => absurd h List.not_mem_nil⟩⟩
def oL_13 : List (Nat × Nat × List Value) := [(7, 0, [.null, .null, .null, .int 0, .int 0]), (10, 12, [.null, .null, .int 0, .null, .null, .int 0, .null, .null, .null, .null, .null, .null, .int 0, .int 0, .null, .null, .int 0, .int 0, .null, .null, .null, .null, .null, .int 0, .null, .null, .int 0, .null, .null, .int 0, .null, .null, .int 0, .null, .null, .int 0, .null, .null, .null, .null, .null, .null, .null, .null, .null, .null, .int 0, .null, .null, .int 0, .int 0, .null, .null, .null, .null, .null, .int 0, .null, .null, .null, .null, .int 0, .null, .null, .null, .null, .null, .int 0, .null, .null, .null, .null])]
theorem oK_13 : ∀ e ∈ oL_13, x_cok "PhaseReaderLaw" e := by
  have h : oL_13 = oL_13_0 := rfl
  rw [h]
  exact oK_13_0
def aL_13 : List (Nat × Nat) := []
theorem aK_13 : ∀ e ∈ aL_13, x_aok "PhaseReaderLaw" e := fun _ h => absurd h List.not_mem_nil
def kL_13 : List (Nat × Value) := []
theorem kK_13 : ∀ e ∈ kL_13, x_kok "PhaseReaderLaw" e := fun _ h => absurd h List.not_mem_nil
def sL_13 : List (Nat × Nat) := []
theorem sK_13 : ∀ e ∈ sL_13, x_sok "PhaseReaderLaw" e := fun _ h => absurd h List.not_mem_nil
def tL_13 : List (Nat × Nat) := []
theorem tK_13 : ∀ e ∈ tL_13, x_tok "PhaseReaderLaw" e := fun _ h => absurd h List.not_mem_nil
def oL_14 : List (Nat × Nat × List Value) := []
theorem oK_14 : ∀ e ∈ oL_14, x_cok "java/lang/String" e := fun _ h => absurd h List.not_mem_nil
def aL_14 : List (Nat × Nat) := []
theorem aK_14 : ∀ e ∈ aL_14, x_aok "java/lang/String" e := fun _ h => absurd h List.not_mem_nil
def kL_14 : List (Nat × Value) := []
theorem kK_14 : ∀ e ∈ kL_14, x_kok "java/lang/String" e := fun _ h => absurd h List.not_mem_nil
def sL_14_0 : List (Nat × Nat) := [(9, 0), (15, 1)]
theorem sK_14_0 : ∀ e ∈ sL_14_0, x_sok "java/lang/String" e := List.forall_mem_cons.mpr ⟨Or.inl ⟨rfl, (tw_6 (i := 209) rfl rfl)⟩, List.forall_mem_cons.mpr ⟨Or.inr ⟨rfl, (tw_6 (i := 208) rfl rfl)⟩, fun _ h => absurd h List.not_mem_nil⟩⟩
def sL_14 : List (Nat × Nat) := [(9, 0), (15, 1)]
theorem sK_14 : ∀ e ∈ sL_14, x_sok "java/lang/String" e := by
  have h : sL_14 = sL_14_0 := rfl
  rw [h]
  exact sK_14_0
def tL_14_0 : List (Nat × Nat) := [(38, 0), (1053, 1)]
theorem tK_14_0 : ∀ e ∈ tL_14_0, x_tok "java/lang/String" e := List.forall_mem_cons.mpr ⟨Or.inl ⟨rfl, (tw_2 (i := 183) rfl rfl)⟩, List.forall_mem_cons.mpr ⟨Or.inr ⟨rfl, (tw_2 (i := 226) rfl rfl)⟩, fun _ h => absurd h List.not_mem_nil⟩⟩
def tL_14 : List (Nat × Nat) := [(38, 0), (1053, 1)]
theorem tK_14 : ∀ e ∈ tL_14, x_tok "java/lang/String" e := by
  have h : tL_14 = tL_14_0 := rfl
  rw [h]
  exact tK_14_0
def oL_15 : List (Nat × Nat × List Value) := []
theorem oK_15 : ∀ e ∈ oL_15, x_cok "java/lang/StringLatin1" e := fun _ h => absurd h List.not_mem_nil
def aL_15 : List (Nat × Nat) := []
theorem aK_15 : ∀ e ∈ aL_15, x_aok "java/lang/StringLatin1" e := fun _ h => absurd h List.not_mem_nil
def kL_15 : List (Nat × Value) := []
theorem kK_15 : ∀ e ∈ kL_15, x_kok "java/lang/StringLatin1" e := fun _ h => absurd h List.not_mem_nil
def sL_15 : List (Nat × Nat) := []
theorem sK_15 : ∀ e ∈ sL_15, x_sok "java/lang/StringLatin1" e := fun _ h => absurd h List.not_mem_nil
def tL_15 : List (Nat × Nat) := []
theorem tK_15 : ∀ e ∈ tL_15, x_tok "java/lang/StringLatin1" e := fun _ h => absurd h List.not_mem_nil
def oL_16 : List (Nat × Nat × List Value) := []
theorem oK_16 : ∀ e ∈ oL_16, x_cok "jdk/internal/util/Preconditions" e := fun _ h => absurd h List.not_mem_nil
def aL_16 : List (Nat × Nat) := []
theorem aK_16 : ∀ e ∈ aL_16, x_aok "jdk/internal/util/Preconditions" e := fun _ h => absurd h List.not_mem_nil
def kL_16 : List (Nat × Value) := []
theorem kK_16 : ∀ e ∈ kL_16, x_kok "jdk/internal/util/Preconditions" e := fun _ h => absurd h List.not_mem_nil
def sL_16 : List (Nat × Nat) := []
theorem sK_16 : ∀ e ∈ sL_16, x_sok "jdk/internal/util/Preconditions" e := fun _ h => absurd h List.not_mem_nil
def tL_16 : List (Nat × Nat) := []
theorem tK_16 : ∀ e ∈ tL_16, x_tok "jdk/internal/util/Preconditions" e := fun _ h => absurd h List.not_mem_nil
def x_oL : List (List (Nat × Nat × List Value)) := [oL_0, oL_1, oL_2, oL_3, oL_4, oL_5, oL_6, oL_7, oL_8, oL_9, oL_10, oL_11, oL_12, oL_13, oL_14, oL_15, oL_16]
theorem x_oL_ok : ∀ (c : Nat) (l : List (Nat × Nat × List Value)), x_oL[c]? = some l → ∀ e ∈ l, x_cok (x_cn.getD c "") e
  | 0, _, h => by cases h; exact oK_0
  | 1, _, h => by cases h; exact oK_1
  | 2, _, h => by cases h; exact oK_2
  | 3, _, h => by cases h; exact oK_3
  | 4, _, h => by cases h; exact oK_4
  | 5, _, h => by cases h; exact oK_5
  | 6, _, h => by cases h; exact oK_6
  | 7, _, h => by cases h; exact oK_7
  | 8, _, h => by cases h; exact oK_8
  | 9, _, h => by cases h; exact oK_9
  | 10, _, h => by cases h; exact oK_10
  | 11, _, h => by cases h; exact oK_11
  | 12, _, h => by cases h; exact oK_12
  | 13, _, h => by cases h; exact oK_13
  | 14, _, h => by cases h; exact oK_14
  | 15, _, h => by cases h; exact oK_15
  | 16, _, h => by cases h; exact oK_16
  | _ + 17, _, h => by cases h
theorem x_oL_use {k a : Nat} {b : Nat × List Value} (h : (x_oL.getD (x_own k) []).lookup a = some b) : x_cok (x_y k).cls (a, b) := by
  have hm := lk_mem h
  cases hF : x_oL[x_own k]? with
  | none =>
    rw [List.getD_eq_getElem?_getD, hF] at hm
    exact absurd hm List.not_mem_nil
  | some l =>
    rw [List.getD_eq_getElem?_getD, hF] at hm
    have hm : (a, b) ∈ l := hm
    have hlt : x_own k ≠ 99 := by
      intro q
      rw [q] at hF
      cases hF
    have hin := x_ml_ok _ (x_me_in hlt)
    have hcn : (x_y k).cls = x_cn.getD (x_own k) "" := hin.1
    rw [hcn]
    exact x_oL_ok _ _ hF _ hm
def x_aL : List (List (Nat × Nat)) := [aL_0, aL_1, aL_2, aL_3, aL_4, aL_5, aL_6, aL_7, aL_8, aL_9, aL_10, aL_11, aL_12, aL_13, aL_14, aL_15, aL_16]
theorem x_aL_ok : ∀ (c : Nat) (l : List (Nat × Nat)), x_aL[c]? = some l → ∀ e ∈ l, x_aok (x_cn.getD c "") e
  | 0, _, h => by cases h; exact aK_0
  | 1, _, h => by cases h; exact aK_1
  | 2, _, h => by cases h; exact aK_2
  | 3, _, h => by cases h; exact aK_3
  | 4, _, h => by cases h; exact aK_4
  | 5, _, h => by cases h; exact aK_5
  | 6, _, h => by cases h; exact aK_6
  | 7, _, h => by cases h; exact aK_7
  | 8, _, h => by cases h; exact aK_8
  | 9, _, h => by cases h; exact aK_9
  | 10, _, h => by cases h; exact aK_10
  | 11, _, h => by cases h; exact aK_11
  | 12, _, h => by cases h; exact aK_12
  | 13, _, h => by cases h; exact aK_13
  | 14, _, h => by cases h; exact aK_14
  | 15, _, h => by cases h; exact aK_15
  | 16, _, h => by cases h; exact aK_16
  | _ + 17, _, h => by cases h
theorem x_aL_use {k a : Nat} {b : Nat} (h : (x_aL.getD (x_own k) []).lookup a = some b) : x_aok (x_y k).cls (a, b) := by
  have hm := lk_mem h
  cases hF : x_aL[x_own k]? with
  | none =>
    rw [List.getD_eq_getElem?_getD, hF] at hm
    exact absurd hm List.not_mem_nil
  | some l =>
    rw [List.getD_eq_getElem?_getD, hF] at hm
    have hm : (a, b) ∈ l := hm
    have hlt : x_own k ≠ 99 := by
      intro q
      rw [q] at hF
      cases hF
    have hin := x_ml_ok _ (x_me_in hlt)
    have hcn : (x_y k).cls = x_cn.getD (x_own k) "" := hin.1
    rw [hcn]
    exact x_aL_ok _ _ hF _ hm
def x_kL : List (List (Nat × Value)) := [kL_0, kL_1, kL_2, kL_3, kL_4, kL_5, kL_6, kL_7, kL_8, kL_9, kL_10, kL_11, kL_12, kL_13, kL_14, kL_15, kL_16]
theorem x_kL_ok : ∀ (c : Nat) (l : List (Nat × Value)), x_kL[c]? = some l → ∀ e ∈ l, x_kok (x_cn.getD c "") e
  | 0, _, h => by cases h; exact kK_0
  | 1, _, h => by cases h; exact kK_1
  | 2, _, h => by cases h; exact kK_2
  | 3, _, h => by cases h; exact kK_3
  | 4, _, h => by cases h; exact kK_4
  | 5, _, h => by cases h; exact kK_5
  | 6, _, h => by cases h; exact kK_6
  | 7, _, h => by cases h; exact kK_7
  | 8, _, h => by cases h; exact kK_8
  | 9, _, h => by cases h; exact kK_9
  | 10, _, h => by cases h; exact kK_10
  | 11, _, h => by cases h; exact kK_11
  | 12, _, h => by cases h; exact kK_12
  | 13, _, h => by cases h; exact kK_13
  | 14, _, h => by cases h; exact kK_14
  | 15, _, h => by cases h; exact kK_15
  | 16, _, h => by cases h; exact kK_16
  | _ + 17, _, h => by cases h
theorem x_kL_use {k a : Nat} {b : Value} (h : (x_kL.getD (x_own k) []).lookup a = some b) : x_kok (x_y k).cls (a, b) := by
  have hm := lk_mem h
  cases hF : x_kL[x_own k]? with
  | none =>
    rw [List.getD_eq_getElem?_getD, hF] at hm
    exact absurd hm List.not_mem_nil
  | some l =>
    rw [List.getD_eq_getElem?_getD, hF] at hm
    have hm : (a, b) ∈ l := hm
    have hlt : x_own k ≠ 99 := by
      intro q
      rw [q] at hF
      cases hF
    have hin := x_ml_ok _ (x_me_in hlt)
    have hcn : (x_y k).cls = x_cn.getD (x_own k) "" := hin.1
    rw [hcn]
    exact x_kL_ok _ _ hF _ hm
def x_sL : List (List (Nat × Nat)) := [sL_0, sL_1, sL_2, sL_3, sL_4, sL_5, sL_6, sL_7, sL_8, sL_9, sL_10, sL_11, sL_12, sL_13, sL_14, sL_15, sL_16]
theorem x_sL_ok : ∀ (c : Nat) (l : List (Nat × Nat)), x_sL[c]? = some l → ∀ e ∈ l, x_sok (x_cn.getD c "") e
  | 0, _, h => by cases h; exact sK_0
  | 1, _, h => by cases h; exact sK_1
  | 2, _, h => by cases h; exact sK_2
  | 3, _, h => by cases h; exact sK_3
  | 4, _, h => by cases h; exact sK_4
  | 5, _, h => by cases h; exact sK_5
  | 6, _, h => by cases h; exact sK_6
  | 7, _, h => by cases h; exact sK_7
  | 8, _, h => by cases h; exact sK_8
  | 9, _, h => by cases h; exact sK_9
  | 10, _, h => by cases h; exact sK_10
  | 11, _, h => by cases h; exact sK_11
  | 12, _, h => by cases h; exact sK_12
  | 13, _, h => by cases h; exact sK_13
  | 14, _, h => by cases h; exact sK_14
  | 15, _, h => by cases h; exact sK_15
  | 16, _, h => by cases h; exact sK_16
  | _ + 17, _, h => by cases h
theorem x_sL_use {k a : Nat} {b : Nat} (h : (x_sL.getD (x_own k) []).lookup a = some b) : x_sok (x_y k).cls (a, b) := by
  have hm := lk_mem h
  cases hF : x_sL[x_own k]? with
  | none =>
    rw [List.getD_eq_getElem?_getD, hF] at hm
    exact absurd hm List.not_mem_nil
  | some l =>
    rw [List.getD_eq_getElem?_getD, hF] at hm
    have hm : (a, b) ∈ l := hm
    have hlt : x_own k ≠ 99 := by
      intro q
      rw [q] at hF
      cases hF
    have hin := x_ml_ok _ (x_me_in hlt)
    have hcn : (x_y k).cls = x_cn.getD (x_own k) "" := hin.1
    rw [hcn]
    exact x_sL_ok _ _ hF _ hm
def x_tL : List (List (Nat × Nat)) := [tL_0, tL_1, tL_2, tL_3, tL_4, tL_5, tL_6, tL_7, tL_8, tL_9, tL_10, tL_11, tL_12, tL_13, tL_14, tL_15, tL_16]
theorem x_tL_ok : ∀ (c : Nat) (l : List (Nat × Nat)), x_tL[c]? = some l → ∀ e ∈ l, x_tok (x_cn.getD c "") e
  | 0, _, h => by cases h; exact tK_0
  | 1, _, h => by cases h; exact tK_1
  | 2, _, h => by cases h; exact tK_2
  | 3, _, h => by cases h; exact tK_3
  | 4, _, h => by cases h; exact tK_4
  | 5, _, h => by cases h; exact tK_5
  | 6, _, h => by cases h; exact tK_6
  | 7, _, h => by cases h; exact tK_7
  | 8, _, h => by cases h; exact tK_8
  | 9, _, h => by cases h; exact tK_9
  | 10, _, h => by cases h; exact tK_10
  | 11, _, h => by cases h; exact tK_11
  | 12, _, h => by cases h; exact tK_12
  | 13, _, h => by cases h; exact tK_13
  | 14, _, h => by cases h; exact tK_14
  | 15, _, h => by cases h; exact tK_15
  | 16, _, h => by cases h; exact tK_16
  | _ + 17, _, h => by cases h
theorem x_tL_use {k a : Nat} {b : Nat} (h : (x_tL.getD (x_own k) []).lookup a = some b) : x_tok (x_y k).cls (a, b) := by
  have hm := lk_mem h
  cases hF : x_tL[x_own k]? with
  | none =>
    rw [List.getD_eq_getElem?_getD, hF] at hm
    exact absurd hm List.not_mem_nil
  | some l =>
    rw [List.getD_eq_getElem?_getD, hF] at hm
    have hm : (a, b) ∈ l := hm
    have hlt : x_own k ≠ 99 := by
      intro q
      rw [q] at hF
      cases hF
    have hin := x_ml_ok _ (x_me_in hlt)
    have hcn : (x_y k).cls = x_cn.getD (x_own k) "" := hin.1
    rw [hcn]
    exact x_tL_ok _ _ hF _ hm
def x_cls (k idx : Nat) : Option (Nat × List Value) := (x_oL.getD (x_own k) []).lookup idx
def x_anw (k idx : Nat) : Option Nat := (x_aL.getD (x_own k) []).lookup idx
def x_con (k idx : Nat) : Option Value := (x_kL.getD (x_own k) []).lookup idx
theorem s_cls {k idx ci : Nat} {fs : List Value} (h : x_cls k idx = some (ci, fs)) : ∃ (C : String) (T : u_T) (N : Nat) (ty0 : Nat → FieldType), x_cl[ci]? = some (C, T, N) ∧ (∀ w ∈ u_ws C T N, w ∈ x_w) ∧ (∀ j, j < N → parseFieldDescriptor (T j).2.2.1 = some (ty0 j)) ∧ Jvm.Cond.classLink (x_y k).cls idx C ∈ x_w ∧ Jvm.Cond.instantiable C N ∈ x_w ∧ Jvm.Cond.initialized C ∈ x_w ∧ fs.length = N ∧ (∀ j, j < N → defaultValue (ty0 j) = vp_V fs j) ∧ ∀ v ∈ fs, v = .int 0 ∨ v = .long 0 ∨ v = .null := x_oL_use h
theorem s_anw {k idx t : Nat} (h : x_anw k idx = some t) : ∃ C, Jvm.Cond.classLink (x_y k).cls idx C ∈ x_w ∧ x_ty[t]? = some (.object C) ∧ C ∈ x_aos := x_aL_use h
theorem s_coni {k idx : Nat} {v : Int32} (h : x_con k idx = some (.int v)) : Jvm.Cond.constant (x_y k).cls idx v ∈ x_w := (x_kL_use h).1 v rfl
theorem s_conl {k idx : Nat} {v : Int64} (h : x_con k idx = some (.long v)) : Jvm.Cond.constantLong (x_y k).cls idx v ∈ x_w := (x_kL_use h).2.1 v rfl
theorem s_cons {k idx v : Nat} (h : x_con k idx = some (.retAddr v)) : ∃ (i : Nat) (t : String), v = 1 + i ∧ i < x_gn ∧ ((x_y k).cls, idx, t, i) ∈ x_gr := (x_kL_use h).2.2 v rfl
def x_sfl (k idx : Nat) : Option Nat := (x_sL.getD (x_own k) []).lookup idx
def x_stt (k idx : Nat) : Option Nat := (x_tL.getD (x_own k) []).lookup idx
theorem s_sfl {k idx c : Nat} (h : x_sfl k idx = some c) : (c = 0 ∧ Jvm.Cond.fieldLink (x_y k).cls idx "java/lang/String" "value" "[B" ∈ x_w) ∨ (c = 1 ∧ Jvm.Cond.fieldLink (x_y k).cls idx "java/lang/String" "coder" "B" ∈ x_w) := x_sL_use h
theorem s_stt {k idx c : Nat} (h : x_stt k idx = some c) : (c = 0 ∧ Jvm.Cond.fieldLink (x_y k).cls idx "java/lang/String" "COMPACT_STRINGS" "Z" ∈ x_w) ∨ (c = 1 ∧ Jvm.Cond.fieldLink (x_y k).cls idx "jdk/internal/util/Preconditions" "SIOOBE_FORMATTER" "Ljava/util/function/BiFunction;" ∈ x_w) := x_tL_use h
