/-! Fresh objects: closed runs of the constructors and of calls on fresh objects, by the kernel. -/
def z_a : x_H := x_nw x_h0 (.inr (0, [.null, .null, .null, .int 0, .int 0])) 5
def z_b : x_H := x_hp (x_run none 3000 8 1 0 (x_en 0 [.ref 0]) [] z_a)
def z_c : x_H := x_nw z_b (.inr (12, [.null, .null, .int 0, .null, .null, .int 0, .null, .null, .null, .null, .null, .null, .int 0, .int 0, .null, .null, .int 0, .int 0, .null, .null, .null, .null, .null, .int 0, .null, .null, .int 0, .null, .null, .int 0, .null, .null, .int 0, .null, .null, .int 0, .null, .null, .null, .null, .null, .null, .null, .null, .null, .null, .int 0, .null, .null, .int 0, .int 0, .null, .null, .null, .null, .null, .int 0, .null, .null, .null, .null, .int 0, .null, .null, .null, .null, .null, .int 0, .null, .null, .null, .null])) 72
def z_d : x_H := x_hp (x_run none 3000 8 111 0 (x_en 0 [.ref 249]) [] z_c)
def z_lv : x_L := x_s1 (x_s1 (x_s1 (x_en 0 [.retAddr 0]) 1 (.ref 0)) 2 (.ref 249)) 3 (.int 0)
def z_Q : Option Value → x_H → Prop := fun r h => r = some (.int 1) ∧ h.2.1 ≤ x_cmax ∧ h.2.2 ≤ x_smax
def zx_choose0 : x_H := x_hp (x_run none 1500 8 2 0 (x_en 0 [.ref 0, .int 0]) [] z_d)
def zm_choose0 : x_H := x_hp (x_run none 1500 8 112 0 (x_en 0 [.ref 249, .int 0]) [] zx_choose0)
def zx_length0 : x_H := x_hp (x_run none 1500 8 5 0 (x_en 0 [.ref 0, .int 0]) [] z_d)
def zm_length0 : x_H := x_hp (x_run none 1500 8 115 0 (x_en 0 [.ref 249, .int 0]) [] zx_length0)
def zx_translate0 : x_H := x_hp (x_run none 1500 8 6 0 (x_en 0 [.ref 0, .int 0]) [] z_d)
def zm_translate0 : x_H := x_hp (x_run none 1500 8 145 0 (x_en 0 [.ref 249, .int 0]) [] zx_translate0)
def zx_choose1 : x_H := x_hp (x_run none 1500 8 2 0 (x_en 0 [.ref 0, .int 1]) [] z_d)
def zm_choose1 : x_H := x_hp (x_run none 1500 8 112 0 (x_en 0 [.ref 249, .int 1]) [] zx_choose1)
def zx_length1 : x_H := x_hp (x_run none 1500 8 5 0 (x_en 0 [.ref 0, .int 1]) [] z_d)
def zm_length1 : x_H := x_hp (x_run none 1500 8 115 0 (x_en 0 [.ref 249, .int 1]) [] zx_length1)
def zx_translate1 : x_H := x_hp (x_run none 1500 8 6 0 (x_en 0 [.ref 0, .int 1]) [] z_d)
def zm_translate1 : x_H := x_hp (x_run none 1500 8 145 0 (x_en 0 [.ref 249, .int 1]) [] zx_translate1)
def zx_choose2 : x_H := x_hp (x_run none 1500 8 2 0 (x_en 0 [.ref 0, .int 2]) [] z_d)
def zm_choose2 : x_H := x_hp (x_run none 1500 8 112 0 (x_en 0 [.ref 249, .int 2]) [] zx_choose2)
def zx_length2 : x_H := x_hp (x_run none 1500 8 5 0 (x_en 0 [.ref 0, .int 2]) [] z_d)
def zm_length2 : x_H := x_hp (x_run none 1500 8 115 0 (x_en 0 [.ref 249, .int 2]) [] zx_length2)
def zx_translate2 : x_H := x_hp (x_run none 1500 8 6 0 (x_en 0 [.ref 0, .int 2]) [] z_d)
def zm_translate2 : x_H := x_hp (x_run none 1500 8 145 0 (x_en 0 [.ref 249, .int 2]) [] zx_translate2)
def zx_clear : x_H := x_hp (x_run none 1500 8 4 0 (x_en 0 [.ref 0]) [] z_d)
def zm_clear : x_H := x_hp (x_run none 1500 8 114 0 (x_en 0 [.ref 249]) [] zx_clear)
def zx_verdict : x_H := x_hp (x_run none 1500 8 7 0 (x_en 0 [.ref 0]) [] z_d)
def zm_verdict : x_H := x_hp (x_run none 1500 8 164 0 (x_en 0 [.ref 249]) [] zx_verdict)
def zx_tokens : x_H := x_hp (x_run none 1500 8 8 0 (x_en 0 [.ref 0]) [] z_d)
def zm_tokens : x_H := x_hp (x_run none 1500 8 165 0 (x_en 0 [.ref 249]) [] zx_tokens)
def zx_replaced : x_H := x_hp (x_run none 1500 8 11 0 (x_en 0 [.ref 0]) [] z_d)
def zm_replaced : x_H := x_hp (x_run none 1500 8 168 0 (x_en 0 [.ref 249]) [] zx_replaced)
def zx_macros : x_H := x_hp (x_run none 1500 8 12 0 (x_en 0 [.ref 0]) [] z_d)
def zm_macros : x_H := x_hp (x_run none 1500 8 169 0 (x_en 0 [.ref 249]) [] zx_macros)
def zx_nodes : x_H := x_hp (x_run none 1500 8 13 0 (x_en 0 [.ref 0]) [] z_d)
def zm_nodes : x_H := x_hp (x_run none 1500 8 170 0 (x_en 0 [.ref 249]) [] zx_nodes)
def zx_node0 : x_H := x_hp (x_run none 1500 8 14 0 (x_en 0 [.ref 0, .int 0, .int 0]) [] z_d)
def zm_node0 : x_H := x_hp (x_run none 1500 8 171 0 (x_en 0 [.ref 249, .int 0, .int 0]) [] zx_node0)
def zx_node1 : x_H := x_hp (x_run none 1500 8 14 0 (x_en 0 [.ref 0, .int 0, .int 1]) [] z_d)
def zm_node1 : x_H := x_hp (x_run none 1500 8 171 0 (x_en 0 [.ref 249, .int 0, .int 1]) [] zx_node1)
def zx_node2 : x_H := x_hp (x_run none 1500 8 14 0 (x_en 0 [.ref 0, .int 0, .int 2]) [] z_d)
def zm_node2 : x_H := x_hp (x_run none 1500 8 171 0 (x_en 0 [.ref 249, .int 0, .int 2]) [] zx_node2)
def z_l : List Bool := [
  decide (x_vl (x_run none 3000 8 1 0 (x_en 0 [.ref 0]) [] z_a) = some none),
  decide (z_b.2.1 = 249),
  decide (x_vl (x_run none 3000 8 111 0 (x_en 0 [.ref 249]) [] z_c) = some none),
  decide (z_d.2.1 ≤ x_cmax ∧ z_d.2.2 ≤ x_smax),
  decide (x_obj z_d 0 = some (0, [.ref 1, .ref 2, .ref 234, .int 0, .int 0])),
  decide (x_obj z_d 2 = some (6, [.ref 3, .ref 198, .ref 201, .int 0, .int 0])),
  decide (x_obj z_d 3 = some (2, [.ref 4, .ref 30, .int 0, .ref 33, .ref 36, .ref 39, .ref 42])),
  decide (x_obj z_d 30 = some (10, [.ref 31, .ref 32, .int 0])),
  decide (x_obj z_d 4 = some (4, [.ref 5, .int 0])),
  decide (x_obj z_d 234 = some (5, [.ref 235, .ref 239, .ref 240, .int 0, .int 0, .ref 241, .ref 242, .int 0])),
  decide (x_obj z_d 235 = some (11, [.ref 236, .ref 237, .ref 238, .int 1])),
  decide (x_obj z_d 243 = some (9, [.ref 244, .int 0])),
  decide (x_obj z_d 249 = some (12, [.ref 250, .ref 251, .int 0, .ref 252, .ref 253, .int 0, .ref 254, .ref 255, .ref 256, .ref 257, .ref 258, .ref 259, .int 0, .int 0, .ref 260, .ref 261, .int 0, .int 0, .ref 262, .ref 263, .ref 264, .ref 265, .ref 266, .int 0, .ref 267, .ref 268, .int 0, .ref 269, .ref 270, .int 0, .ref 271, .ref 272, .int 0, .ref 273, .ref 274, .int 0, .ref 275, .ref 276, .ref 277, .ref 278, .ref 279, .ref 280, .ref 281, .ref 282, .ref 283, .ref 284, .int 0, .ref 285, .ref 286, .int 0, .int 0, .ref 287, .ref 288, .ref 289, .ref 290, .ref 291, .int 1, .ref 292, .ref 293, .ref 294, .ref 295, .int 0, .ref 296, .ref 297, .ref 298, .ref 299, .ref 300, .int 0, .ref 301, .ref 302, .ref 303, .ref 304])),
  decide (x_vl (x_run none 1500 8 2 0 (x_en 0 [.ref 0, .int 0]) [] z_d) = some (some (.int 1))),
  decide ((x_obj zx_choose0 249).map (fun o => o.1) = some 12),
  decide (x_vl (x_run none 1500 8 5 0 (x_en 0 [.ref 0, .int 0]) [] z_d) = some (some (.int 0))),
  decide ((x_obj zx_length0 249).map (fun o => o.1) = some 12),
  decide (x_vl (x_run none 1500 8 6 0 (x_en 0 [.ref 0, .int 0]) [] z_d) = some (some (.int 0))),
  decide ((x_obj zx_translate0 249).map (fun o => o.1) = some 12),
  decide (x_vl (x_run none 1500 8 2 0 (x_en 0 [.ref 0, .int 1]) [] z_d) = some (some (.int 1))),
  decide ((x_obj zx_choose1 249).map (fun o => o.1) = some 12),
  decide (x_vl (x_run none 1500 8 5 0 (x_en 0 [.ref 0, .int 1]) [] z_d) = some (some (.int 0))),
  decide ((x_obj zx_length1 249).map (fun o => o.1) = some 12),
  decide (x_vl (x_run none 1500 8 6 0 (x_en 0 [.ref 0, .int 1]) [] z_d) = some (some (.int 0))),
  decide ((x_obj zx_translate1 249).map (fun o => o.1) = some 12),
  decide (x_vl (x_run none 1500 8 2 0 (x_en 0 [.ref 0, .int 2]) [] z_d) = some (some (.int 1))),
  decide ((x_obj zx_choose2 249).map (fun o => o.1) = some 12),
  decide (x_vl (x_run none 1500 8 5 0 (x_en 0 [.ref 0, .int 2]) [] z_d) = some (some (.int 0))),
  decide ((x_obj zx_length2 249).map (fun o => o.1) = some 12),
  decide (x_vl (x_run none 1500 8 6 0 (x_en 0 [.ref 0, .int 2]) [] z_d) = some (some (.int 0))),
  decide ((x_obj zx_translate2 249).map (fun o => o.1) = some 12),
  decide (x_vl (x_run none 1500 8 4 0 (x_en 0 [.ref 0]) [] z_d) = some (none)),
  decide ((x_obj zx_clear 249).map (fun o => o.1) = some 12),
  decide (x_vl (x_run none 1500 8 7 0 (x_en 0 [.ref 0]) [] z_d) = some (some (.int 0))),
  decide ((x_obj zx_verdict 249).map (fun o => o.1) = some 12),
  decide (x_vl (x_run none 1500 8 8 0 (x_en 0 [.ref 0]) [] z_d) = some (some (.int 0))),
  decide ((x_obj zx_tokens 249).map (fun o => o.1) = some 12),
  decide (x_vl (x_run none 1500 8 11 0 (x_en 0 [.ref 0]) [] z_d) = some (some (.int 0))),
  decide ((x_obj zx_replaced 249).map (fun o => o.1) = some 12),
  decide (x_vl (x_run none 1500 8 12 0 (x_en 0 [.ref 0]) [] z_d) = some (some (.int 0))),
  decide ((x_obj zx_macros 249).map (fun o => o.1) = some 12),
  decide (x_vl (x_run none 1500 8 13 0 (x_en 0 [.ref 0]) [] z_d) = some (some (.int 1))),
  decide ((x_obj zx_nodes 249).map (fun o => o.1) = some 12),
  decide (x_vl (x_run none 1500 8 14 0 (x_en 0 [.ref 0, .int 0, .int 0]) [] z_d) = some (some (.int 0))),
  decide ((x_obj zx_node0 249).map (fun o => o.1) = some 12),
  decide (x_vl (x_run none 1500 8 14 0 (x_en 0 [.ref 0, .int 0, .int 1]) [] z_d) = some (some (.int (-1)))),
  decide ((x_obj zx_node1 249).map (fun o => o.1) = some 12),
  decide (x_vl (x_run none 1500 8 14 0 (x_en 0 [.ref 0, .int 0, .int 2]) [] z_d) = some (some (.int 0))),
  decide ((x_obj zx_node2 249).map (fun o => o.1) = some 12),
  decide (x_arr z_d 1 = some (8, 3, [some 243, some 245, some 247])),
  decide (x_ari z_d 244 = some (2, 160)),
  decide (x_ari z_d 250 = some (0, 480)),
  decide (x_ari z_d 251 = some (0, 3)),
  decide (x_ati z_d 251 0 = 0)]
set_option maxRecDepth 100000 in
set_option maxHeartbeats 4000000 in
theorem z_lt : z_l.all (fun b => b) = true := by decide +kernel
theorem z_at {k : Nat} {b : Bool} (h : z_l[k]? = some b) : b = true := List.all_eq_true.mp z_lt b (List.mem_of_getElem? h)
theorem z_b_v : x_vl (x_run none 3000 8 1 0 (x_en 0 [.ref 0]) [] z_a) = some none := (of_decide_eq_true (z_at (k := 0) rfl))
theorem z_b_n : z_b.2.1 = 249 := (of_decide_eq_true (z_at (k := 1) rfl))
theorem z_d_v : x_vl (x_run none 3000 8 111 0 (x_en 0 [.ref 249]) [] z_c) = some none := (of_decide_eq_true (z_at (k := 2) rfl))
theorem z_d_n : z_d.2.1 ≤ x_cmax ∧ z_d.2.2 ≤ x_smax := (of_decide_eq_true (z_at (k := 3) rfl))
theorem zg_0 : x_get z_d 0 = some (.inr (0, [.ref 1, .ref 2, .ref 234, .int 0, .int 0])) := x_obj_get (of_decide_eq_true (z_at (k := 4) rfl))
theorem zg_2 : x_get z_d 2 = some (.inr (6, [.ref 3, .ref 198, .ref 201, .int 0, .int 0])) := x_obj_get (of_decide_eq_true (z_at (k := 5) rfl))
theorem zg_3 : x_get z_d 3 = some (.inr (2, [.ref 4, .ref 30, .int 0, .ref 33, .ref 36, .ref 39, .ref 42])) := x_obj_get (of_decide_eq_true (z_at (k := 6) rfl))
theorem zg_30 : x_get z_d 30 = some (.inr (10, [.ref 31, .ref 32, .int 0])) := x_obj_get (of_decide_eq_true (z_at (k := 7) rfl))
theorem zg_4 : x_get z_d 4 = some (.inr (4, [.ref 5, .int 0])) := x_obj_get (of_decide_eq_true (z_at (k := 8) rfl))
theorem zg_234 : x_get z_d 234 = some (.inr (5, [.ref 235, .ref 239, .ref 240, .int 0, .int 0, .ref 241, .ref 242, .int 0])) := x_obj_get (of_decide_eq_true (z_at (k := 9) rfl))
theorem zg_235 : x_get z_d 235 = some (.inr (11, [.ref 236, .ref 237, .ref 238, .int 1])) := x_obj_get (of_decide_eq_true (z_at (k := 10) rfl))
theorem zg_243 : x_get z_d 243 = some (.inr (9, [.ref 244, .int 0])) := x_obj_get (of_decide_eq_true (z_at (k := 11) rfl))
theorem zg_249 : x_get z_d 249 = some (.inr (12, [.ref 250, .ref 251, .int 0, .ref 252, .ref 253, .int 0, .ref 254, .ref 255, .ref 256, .ref 257, .ref 258, .ref 259, .int 0, .int 0, .ref 260, .ref 261, .int 0, .int 0, .ref 262, .ref 263, .ref 264, .ref 265, .ref 266, .int 0, .ref 267, .ref 268, .int 0, .ref 269, .ref 270, .int 0, .ref 271, .ref 272, .int 0, .ref 273, .ref 274, .int 0, .ref 275, .ref 276, .ref 277, .ref 278, .ref 279, .ref 280, .ref 281, .ref 282, .ref 283, .ref 284, .int 0, .ref 285, .ref 286, .int 0, .int 0, .ref 287, .ref 288, .ref 289, .ref 290, .ref 291, .int 1, .ref 292, .ref 293, .ref 294, .ref 295, .int 0, .ref 296, .ref 297, .ref 298, .ref 299, .ref 300, .int 0, .ref 301, .ref 302, .ref 303, .ref 304])) := x_obj_get (of_decide_eq_true (z_at (k := 12) rfl))
theorem z_own (h : x_H) (a ci : Nat) (q : (x_obj h a).map (fun o => o.1) = some ci) : ∃ fs, x_get h a = some (.inr (ci, fs)) := by
  cases ho : x_obj h a with
  | none => rw [ho] at q; cases q
  | some o =>
    rw [ho] at q
    cases q
    exact ⟨o.2, x_obj_get ho⟩
theorem zx_choose0_v : x_vl (x_run none 1500 8 2 0 (x_en 0 [.ref 0, .int 0]) [] z_d) = some (some (.int 1)) := (of_decide_eq_true (z_at (k := 13) rfl))
theorem zx_choose0_o : ∃ fs, x_get zx_choose0 249 = some (.inr (12, fs)) := z_own _ _ _ (of_decide_eq_true (z_at (k := 14) rfl))
theorem zm_choose0_v : x_vl (x_run none 1500 8 112 0 (x_en 0 [.ref 249, .int 0]) [] zx_choose0) = some (some (.int 1)) := by decide +kernel
theorem zm_choose0_n : zm_choose0.2.1 ≤ x_cmax ∧ zm_choose0.2.2 ≤ x_smax := by decide +kernel
theorem zx_length0_v : x_vl (x_run none 1500 8 5 0 (x_en 0 [.ref 0, .int 0]) [] z_d) = some (some (.int 0)) := (of_decide_eq_true (z_at (k := 15) rfl))
theorem zx_length0_o : ∃ fs, x_get zx_length0 249 = some (.inr (12, fs)) := z_own _ _ _ (of_decide_eq_true (z_at (k := 16) rfl))
theorem zm_length0_v : x_vl (x_run none 1500 8 115 0 (x_en 0 [.ref 249, .int 0]) [] zx_length0) = some (some (.int 0)) := by decide +kernel
theorem zm_length0_n : zm_length0.2.1 ≤ x_cmax ∧ zm_length0.2.2 ≤ x_smax := by decide +kernel
theorem zx_translate0_v : x_vl (x_run none 1500 8 6 0 (x_en 0 [.ref 0, .int 0]) [] z_d) = some (some (.int 0)) := (of_decide_eq_true (z_at (k := 17) rfl))
theorem zx_translate0_o : ∃ fs, x_get zx_translate0 249 = some (.inr (12, fs)) := z_own _ _ _ (of_decide_eq_true (z_at (k := 18) rfl))
theorem zm_translate0_v : x_vl (x_run none 1500 8 145 0 (x_en 0 [.ref 249, .int 0]) [] zx_translate0) = some (some (.int 0)) := by decide +kernel
theorem zm_translate0_n : zm_translate0.2.1 ≤ x_cmax ∧ zm_translate0.2.2 ≤ x_smax := by decide +kernel
theorem zx_choose1_v : x_vl (x_run none 1500 8 2 0 (x_en 0 [.ref 0, .int 1]) [] z_d) = some (some (.int 1)) := (of_decide_eq_true (z_at (k := 19) rfl))
theorem zx_choose1_o : ∃ fs, x_get zx_choose1 249 = some (.inr (12, fs)) := z_own _ _ _ (of_decide_eq_true (z_at (k := 20) rfl))
theorem zm_choose1_v : x_vl (x_run none 1500 8 112 0 (x_en 0 [.ref 249, .int 1]) [] zx_choose1) = some (some (.int 1)) := by decide +kernel
theorem zm_choose1_n : zm_choose1.2.1 ≤ x_cmax ∧ zm_choose1.2.2 ≤ x_smax := by decide +kernel
theorem zx_length1_v : x_vl (x_run none 1500 8 5 0 (x_en 0 [.ref 0, .int 1]) [] z_d) = some (some (.int 0)) := (of_decide_eq_true (z_at (k := 21) rfl))
theorem zx_length1_o : ∃ fs, x_get zx_length1 249 = some (.inr (12, fs)) := z_own _ _ _ (of_decide_eq_true (z_at (k := 22) rfl))
theorem zm_length1_v : x_vl (x_run none 1500 8 115 0 (x_en 0 [.ref 249, .int 1]) [] zx_length1) = some (some (.int 0)) := by decide +kernel
theorem zm_length1_n : zm_length1.2.1 ≤ x_cmax ∧ zm_length1.2.2 ≤ x_smax := by decide +kernel
theorem zx_translate1_v : x_vl (x_run none 1500 8 6 0 (x_en 0 [.ref 0, .int 1]) [] z_d) = some (some (.int 0)) := (of_decide_eq_true (z_at (k := 23) rfl))
theorem zx_translate1_o : ∃ fs, x_get zx_translate1 249 = some (.inr (12, fs)) := z_own _ _ _ (of_decide_eq_true (z_at (k := 24) rfl))
theorem zm_translate1_v : x_vl (x_run none 1500 8 145 0 (x_en 0 [.ref 249, .int 1]) [] zx_translate1) = some (some (.int 0)) := by decide +kernel
theorem zm_translate1_n : zm_translate1.2.1 ≤ x_cmax ∧ zm_translate1.2.2 ≤ x_smax := by decide +kernel
theorem zx_choose2_v : x_vl (x_run none 1500 8 2 0 (x_en 0 [.ref 0, .int 2]) [] z_d) = some (some (.int 1)) := (of_decide_eq_true (z_at (k := 25) rfl))
theorem zx_choose2_o : ∃ fs, x_get zx_choose2 249 = some (.inr (12, fs)) := z_own _ _ _ (of_decide_eq_true (z_at (k := 26) rfl))
theorem zm_choose2_v : x_vl (x_run none 1500 8 112 0 (x_en 0 [.ref 249, .int 2]) [] zx_choose2) = some (some (.int 1)) := by decide +kernel
theorem zm_choose2_n : zm_choose2.2.1 ≤ x_cmax ∧ zm_choose2.2.2 ≤ x_smax := by decide +kernel
theorem zx_length2_v : x_vl (x_run none 1500 8 5 0 (x_en 0 [.ref 0, .int 2]) [] z_d) = some (some (.int 0)) := (of_decide_eq_true (z_at (k := 27) rfl))
theorem zx_length2_o : ∃ fs, x_get zx_length2 249 = some (.inr (12, fs)) := z_own _ _ _ (of_decide_eq_true (z_at (k := 28) rfl))
theorem zm_length2_v : x_vl (x_run none 1500 8 115 0 (x_en 0 [.ref 249, .int 2]) [] zx_length2) = some (some (.int 0)) := by decide +kernel
theorem zm_length2_n : zm_length2.2.1 ≤ x_cmax ∧ zm_length2.2.2 ≤ x_smax := by decide +kernel
theorem zx_translate2_v : x_vl (x_run none 1500 8 6 0 (x_en 0 [.ref 0, .int 2]) [] z_d) = some (some (.int 0)) := (of_decide_eq_true (z_at (k := 29) rfl))
theorem zx_translate2_o : ∃ fs, x_get zx_translate2 249 = some (.inr (12, fs)) := z_own _ _ _ (of_decide_eq_true (z_at (k := 30) rfl))
theorem zm_translate2_v : x_vl (x_run none 1500 8 145 0 (x_en 0 [.ref 249, .int 2]) [] zx_translate2) = some (some (.int 0)) := by decide +kernel
theorem zm_translate2_n : zm_translate2.2.1 ≤ x_cmax ∧ zm_translate2.2.2 ≤ x_smax := by decide +kernel
theorem zx_clear_v : x_vl (x_run none 1500 8 4 0 (x_en 0 [.ref 0]) [] z_d) = some (none) := (of_decide_eq_true (z_at (k := 31) rfl))
theorem zx_clear_o : ∃ fs, x_get zx_clear 249 = some (.inr (12, fs)) := z_own _ _ _ (of_decide_eq_true (z_at (k := 32) rfl))
theorem zm_clear_v : x_vl (x_run none 1500 8 114 0 (x_en 0 [.ref 249]) [] zx_clear) = some (none) := by decide +kernel
theorem zm_clear_n : zm_clear.2.1 ≤ x_cmax ∧ zm_clear.2.2 ≤ x_smax := by decide +kernel
theorem zx_verdict_v : x_vl (x_run none 1500 8 7 0 (x_en 0 [.ref 0]) [] z_d) = some (some (.int 0)) := (of_decide_eq_true (z_at (k := 33) rfl))
theorem zx_verdict_o : ∃ fs, x_get zx_verdict 249 = some (.inr (12, fs)) := z_own _ _ _ (of_decide_eq_true (z_at (k := 34) rfl))
theorem zm_verdict_v : x_vl (x_run none 1500 8 164 0 (x_en 0 [.ref 249]) [] zx_verdict) = some (some (.int 0)) := by decide +kernel
theorem zm_verdict_n : zm_verdict.2.1 ≤ x_cmax ∧ zm_verdict.2.2 ≤ x_smax := by decide +kernel
theorem zx_tokens_v : x_vl (x_run none 1500 8 8 0 (x_en 0 [.ref 0]) [] z_d) = some (some (.int 0)) := (of_decide_eq_true (z_at (k := 35) rfl))
theorem zx_tokens_o : ∃ fs, x_get zx_tokens 249 = some (.inr (12, fs)) := z_own _ _ _ (of_decide_eq_true (z_at (k := 36) rfl))
theorem zm_tokens_v : x_vl (x_run none 1500 8 165 0 (x_en 0 [.ref 249]) [] zx_tokens) = some (some (.int 0)) := by decide +kernel
theorem zm_tokens_n : zm_tokens.2.1 ≤ x_cmax ∧ zm_tokens.2.2 ≤ x_smax := by decide +kernel
theorem zx_replaced_v : x_vl (x_run none 1500 8 11 0 (x_en 0 [.ref 0]) [] z_d) = some (some (.int 0)) := (of_decide_eq_true (z_at (k := 37) rfl))
theorem zx_replaced_o : ∃ fs, x_get zx_replaced 249 = some (.inr (12, fs)) := z_own _ _ _ (of_decide_eq_true (z_at (k := 38) rfl))
theorem zm_replaced_v : x_vl (x_run none 1500 8 168 0 (x_en 0 [.ref 249]) [] zx_replaced) = some (some (.int 0)) := by decide +kernel
theorem zm_replaced_n : zm_replaced.2.1 ≤ x_cmax ∧ zm_replaced.2.2 ≤ x_smax := by decide +kernel
theorem zx_macros_v : x_vl (x_run none 1500 8 12 0 (x_en 0 [.ref 0]) [] z_d) = some (some (.int 0)) := (of_decide_eq_true (z_at (k := 39) rfl))
theorem zx_macros_o : ∃ fs, x_get zx_macros 249 = some (.inr (12, fs)) := z_own _ _ _ (of_decide_eq_true (z_at (k := 40) rfl))
theorem zm_macros_v : x_vl (x_run none 1500 8 169 0 (x_en 0 [.ref 249]) [] zx_macros) = some (some (.int 0)) := by decide +kernel
theorem zm_macros_n : zm_macros.2.1 ≤ x_cmax ∧ zm_macros.2.2 ≤ x_smax := by decide +kernel
theorem zx_nodes_v : x_vl (x_run none 1500 8 13 0 (x_en 0 [.ref 0]) [] z_d) = some (some (.int 1)) := (of_decide_eq_true (z_at (k := 41) rfl))
theorem zx_nodes_o : ∃ fs, x_get zx_nodes 249 = some (.inr (12, fs)) := z_own _ _ _ (of_decide_eq_true (z_at (k := 42) rfl))
theorem zm_nodes_v : x_vl (x_run none 1500 8 170 0 (x_en 0 [.ref 249]) [] zx_nodes) = some (some (.int 1)) := by decide +kernel
theorem zm_nodes_n : zm_nodes.2.1 ≤ x_cmax ∧ zm_nodes.2.2 ≤ x_smax := by decide +kernel
theorem zx_node0_v : x_vl (x_run none 1500 8 14 0 (x_en 0 [.ref 0, .int 0, .int 0]) [] z_d) = some (some (.int 0)) := (of_decide_eq_true (z_at (k := 43) rfl))
theorem zx_node0_o : ∃ fs, x_get zx_node0 249 = some (.inr (12, fs)) := z_own _ _ _ (of_decide_eq_true (z_at (k := 44) rfl))
theorem zm_node0_v : x_vl (x_run none 1500 8 171 0 (x_en 0 [.ref 249, .int 0, .int 0]) [] zx_node0) = some (some (.int 0)) := by decide +kernel
theorem zm_node0_n : zm_node0.2.1 ≤ x_cmax ∧ zm_node0.2.2 ≤ x_smax := by decide +kernel
theorem zx_node1_v : x_vl (x_run none 1500 8 14 0 (x_en 0 [.ref 0, .int 0, .int 1]) [] z_d) = some (some (.int (-1))) := (of_decide_eq_true (z_at (k := 45) rfl))
theorem zx_node1_o : ∃ fs, x_get zx_node1 249 = some (.inr (12, fs)) := z_own _ _ _ (of_decide_eq_true (z_at (k := 46) rfl))
theorem zm_node1_v : x_vl (x_run none 1500 8 171 0 (x_en 0 [.ref 249, .int 0, .int 1]) [] zx_node1) = some (some (.int (-1))) := by decide +kernel
theorem zm_node1_n : zm_node1.2.1 ≤ x_cmax ∧ zm_node1.2.2 ≤ x_smax := by decide +kernel
theorem zx_node2_v : x_vl (x_run none 1500 8 14 0 (x_en 0 [.ref 0, .int 0, .int 2]) [] z_d) = some (some (.int 0)) := (of_decide_eq_true (z_at (k := 47) rfl))
theorem zx_node2_o : ∃ fs, x_get zx_node2 249 = some (.inr (12, fs)) := z_own _ _ _ (of_decide_eq_true (z_at (k := 48) rfl))
theorem zm_node2_v : x_vl (x_run none 1500 8 171 0 (x_en 0 [.ref 249, .int 0, .int 2]) [] zx_node2) = some (some (.int 0)) := by decide +kernel
theorem zm_node2_n : zm_node2.2.1 ≤ x_cmax ∧ zm_node2.2.2 ≤ x_smax := by decide +kernel
theorem zr_1 : ∃ f : Nat → Option Nat, x_get z_d 1 = some (.inl (8, 3, .inr (.inr (.inr (.inr f))))) ∧ f 0 = some 243 := by
  have q : x_arr z_d 1 = some (8, 3, [some 243, some 245, some 247]) := (of_decide_eq_true (z_at (k := 49) rfl))
  obtain ⟨f, hg, hf⟩ := x_arr_get q
  refine ⟨f, hg, ?_⟩
  have e : [f 0, f 1, f 2] = [some 243, some 245, some 247] := hf
  exact (List.cons.inj e).1
theorem zi_244 : ∃ f : Nat → Int32, x_get z_d 244 = some (.inl (2, 160, .inl f)) ∧ ∀ j, f j = x_ati z_d 244 j := x_ari_get (of_decide_eq_true (z_at (k := 50) rfl))
theorem zi_250 : ∃ f : Nat → Int32, x_get z_d 250 = some (.inl (0, 480, .inl f)) ∧ ∀ j, f j = x_ati z_d 250 j := x_ari_get (of_decide_eq_true (z_at (k := 51) rfl))
theorem zi_251 : ∃ f : Nat → Int32, x_get z_d 251 = some (.inl (0, 3, .inl f)) ∧ ∀ j, f j = x_ati z_d 251 j := x_ari_get (of_decide_eq_true (z_at (k := 52) rfl))
theorem zi_251_0 : x_ati z_d 251 0 = 0 := (of_decide_eq_true (z_at (k := 53) rfl))
theorem z_le2 {a : Int32} : x_cc .ge a 3 = true ↔ ¬ x_cc .le a 2 = true := by
  simp only [x_cc, decide_eq_true_eq, Int32.le_iff_toInt_le]
  have e2 : (2 : Int32).toInt = 2 := by decide
  have e3 : (3 : Int32).toInt = 3 := by decide
  rw [e2, e3]
  omega
theorem z_ge0 {a b : Int32} : x_cc .ge a b = true ↔ ¬ x_cc .lt a b = true := by
  simp only [x_cc, decide_eq_true_eq, Int32.le_iff_toInt_le, Int32.lt_iff_toInt_lt]
  omega
theorem z_gtle {a b : Int32} : x_cc .gt a b = true ↔ ¬ x_cc .le a b = true := by
  simp only [x_cc, decide_eq_true_eq, Int32.le_iff_toInt_le, Int32.lt_iff_toInt_lt]
  omega
theorem z_three {a : Int32} (h1 : ¬ x_cc .lt a 0 = true) (h2 : x_cc .le a 2 = true) : a = 0 ∨ a = 1 ∨ a = 2 := by
  simp only [x_cc, decide_eq_true_eq, Int32.le_iff_toInt_le, Int32.lt_iff_toInt_lt] at h1 h2
  have e0 : (0 : Int32).toInt = 0 := by decide
  have e1 : (1 : Int32).toInt = 1 := by decide
  have e2 : (2 : Int32).toInt = 2 := by decide
  rw [e0] at h1
  rw [e2] at h2
  have h3 : a.toInt = 0 ∨ a.toInt = 1 ∨ a.toInt = 2 := by omega
  rcases h3 with h | h | h
  · exact Or.inl (Int32.toInt_inj.mp (by rw [h, e0]))
  · exact Or.inr (Or.inl (Int32.toInt_inj.mp (by rw [h, e1])))
  · exact Or.inr (Or.inr (Int32.toInt_inj.mp (by rw [h, e2])))
theorem z_zero {a : Int32} (h1 : ¬ x_cc .lt a 0 = true) (h2 : x_cc .lt a 1 = true) : a = 0 := by
  simp only [x_cc, decide_eq_true_eq, Int32.lt_iff_toInt_lt] at h1 h2
  have e0 : (0 : Int32).toInt = 0 := by decide
  have e1 : (1 : Int32).toInt = 1 := by decide
  rw [e0] at h1
  rw [e1] at h2
  exact Int32.toInt_inj.mp (by rw [e0]; omega)
theorem z_ts {b : Int32} (h : x_cc .lt b 0 = true ∨ ¬ x_cc .le b 2 = true) : x_ts 49 0 2 #[28, 35, 42] 24 [.int b] = some (73, []) := by
  simp only [x_cc, decide_eq_true_eq, Int32.le_iff_toInt_le, Int32.lt_iff_toInt_lt] at h
  have e0 : (0 : Int32).toInt = 0 := by decide
  have e2 : (2 : Int32).toInt = 2 := by decide
  rw [e0, e2] at h
  have h2 : b.toInt < 0 ∨ 2 < b.toInt := by omega
  unfold x_ts
  simp only
  rw [if_pos h2]
  rfl
