/-! Fresh objects: closed runs of the constructors and of calls on fresh objects, by the kernel. -/
def x_szok (h : x_H) : Bool := decide (h.2.1 ≤ x_cmax) && decide (h.2.2 ≤ x_smax)
theorem x_szok_ok {h : x_H} (q : x_szok h = true) : h.2.1 ≤ x_cmax ∧ h.2.2 ≤ x_smax := by
  unfold x_szok at q
  simpa only [Bool.and_eq_true, decide_eq_true_eq] using q
def z_a : x_H := x_nw x_h0 (.inr (0, [.null, .null, .null, .int 0, .int 0])) 5
def z_b : x_H := x_hp (x_run none 3000 8 1 0 (x_en 0 [.ref 0]) [] z_a)
def z_c : x_H := x_nw z_b (.inr (12, [.null, .null, .int 0, .null, .null, .int 0, .null, .null, .null, .null, .null, .null, .int 0, .int 0, .null, .null, .int 0, .int 0, .null, .null, .null, .null, .null, .int 0, .null, .null, .int 0, .null, .null, .int 0, .null, .null, .int 0, .null, .null, .int 0, .null, .null, .null, .null, .null, .null, .null, .null, .null, .null, .int 0, .null, .null, .int 0, .int 0, .null, .null, .null, .null, .null, .int 0, .null, .null, .null, .null, .int 0, .null, .null, .null, .null, .null, .int 0, .null, .null, .null, .null])) 72
def z_d : x_H := x_hp (x_run none 3000 8 111 0 (x_en 0 [.ref 249]) [] z_c)
theorem z_own (h : x_H) (a ci : Nat) (q : (x_obj h a).map (fun o => o.1) = some ci) : ∃ fs, x_get h a = some (.inr (ci, fs)) := by
  cases ho : x_obj h a with
  | none => rw [ho] at q; cases q
  | some o =>
    rw [ho] at q
    cases q
    exact ⟨o.2, x_obj_get ho⟩
def z_tag (k1 k2 : Nat) (as : List Value) (r : Option Value) : Bool := match x_run none 1500 8 k1 0 (x_en 0 (.ref 0 :: as)) [] z_d with
  | some (v1, h1) => decide (v1 = r) && (decide ((x_obj h1 249).map (fun o => o.1) = some 12) && (match x_run none 1500 8 k2 0 (x_en 0 (.ref 249 :: as)) [] h1 with
    | some (v2, h2) => decide (v2 = r) && x_szok h2
    | none => false))
  | none => false
theorem z_two {k1 k2 : Nat} {as : List Value} {r : Option Value} (q : z_tag k1 k2 as r = true) : ∃ (h1 : x_H) (fs : List Value) (h2 : x_H), x_run none 1500 8 k1 0 (x_en 0 (.ref 0 :: as)) [] z_d = some (r, h1) ∧ x_get h1 249 = some (.inr (12, fs)) ∧ x_run none 1500 8 k2 0 (x_en 0 (.ref 249 :: as)) [] h1 = some (r, h2) ∧ (h2.2.1 ≤ x_cmax ∧ h2.2.2 ≤ x_smax) := by
  unfold z_tag at q
  split at q
  · rename_i v1 h1 e1
    simp only [Bool.and_eq_true, decide_eq_true_eq] at q
    obtain ⟨q1, q2, q3⟩ := q
    split at q3
    · rename_i v2 h2 e2
      simp only [Bool.and_eq_true, decide_eq_true_eq] at q3
      obtain ⟨q4, q5⟩ := q3
      subst q1 q4
      obtain ⟨fs, hg⟩ := z_own _ _ _ q2
      exact ⟨h1, fs, h2, e1, hg, e2, x_szok_ok q5⟩
    · cases q3
  · cases q
def z_P0 : Bool := decide (x_vl (x_run none 3000 8 1 0 (x_en 0 [.ref 0]) [] z_a) = some none) && (decide (z_b.2.1 = 249) && (decide (x_vl (x_run none 3000 8 111 0 (x_en 0 [.ref 249]) [] z_c) = some none) && (decide (x_szok z_d = true) && (decide (x_obj z_d 0 = some (0, [.ref 1, .ref 2, .ref 234, .int 0, .int 0])) && (decide (x_obj z_d 2 = some (6, [.ref 3, .ref 198, .ref 201, .int 0, .int 0])) && (decide (x_obj z_d 3 = some (2, [.ref 4, .ref 30, .int 0, .ref 33, .ref 36, .ref 39, .ref 42])) && (decide (x_obj z_d 30 = some (10, [.ref 31, .ref 32, .int 0])))))))))
def z_P1 : Bool := decide (x_obj z_d 4 = some (4, [.ref 5, .int 0])) && (decide (x_obj z_d 234 = some (5, [.ref 235, .ref 239, .ref 240, .int 0, .int 0, .ref 241, .ref 242, .int 0])) && (decide (x_obj z_d 235 = some (11, [.ref 236, .ref 237, .ref 238, .int 1])) && (decide (x_obj z_d 243 = some (9, [.ref 244, .int 0])) && (decide (x_obj z_d 249 = some (12, [.ref 250, .ref 251, .int 0, .ref 252, .ref 253, .int 0, .ref 254, .ref 255, .ref 256, .ref 257, .ref 258, .ref 259, .int 0, .int 0, .ref 260, .ref 261, .int 0, .int 0, .ref 262, .ref 263, .ref 264, .ref 265, .ref 266, .int 0, .ref 267, .ref 268, .int 0, .ref 269, .ref 270, .int 0, .ref 271, .ref 272, .int 0, .ref 273, .ref 274, .int 0, .ref 275, .ref 276, .ref 277, .ref 278, .ref 279, .ref 280, .ref 281, .ref 282, .ref 283, .ref 284, .int 0, .ref 285, .ref 286, .int 0, .int 0, .ref 287, .ref 288, .ref 289, .ref 290, .ref 291, .int 1, .ref 292, .ref 293, .ref 294, .ref 295, .int 0, .ref 296, .ref 297, .ref 298, .ref 299, .ref 300, .int 0, .ref 301, .ref 302, .ref 303, .ref 304])) && (decide (x_arr z_d 1 = some (8, 3, [some 243, some 245, some 247])) && (decide (x_ari z_d 244 = some (2, 160)) && (decide (x_ari z_d 250 = some (0, 480)))))))))
def z_P2 : Bool := decide (x_ari z_d 251 = some (0, 3)) && (decide (x_ati z_d 251 0 = 0) && (decide (z_tag 2 112 [.int 0] (some (.int 1)) = true) && (decide (z_tag 5 115 [.int 0] (some (.int 0)) = true) && (decide (z_tag 6 145 [.int 0] (some (.int 0)) = true) && (decide (z_tag 2 112 [.int 1] (some (.int 1)) = true) && (decide (z_tag 5 115 [.int 1] (some (.int 0)) = true) && (decide (z_tag 6 145 [.int 1] (some (.int 0)) = true))))))))
def z_P3 : Bool := decide (z_tag 2 112 [.int 2] (some (.int 1)) = true) && (decide (z_tag 5 115 [.int 2] (some (.int 0)) = true) && (decide (z_tag 6 145 [.int 2] (some (.int 0)) = true) && (decide (z_tag 4 114 [] none = true) && (decide (z_tag 7 164 [] (some (.int 0)) = true) && (decide (z_tag 8 165 [] (some (.int 0)) = true) && (decide (z_tag 11 168 [] (some (.int 0)) = true) && (decide (z_tag 12 169 [] (some (.int 0)) = true))))))))
def z_P4 : Bool := decide (z_tag 13 170 [] (some (.int 1)) = true) && (decide (z_tag 14 171 [.int 0, .int 0] (some (.int 0)) = true) && (decide (z_tag 14 171 [.int 0, .int 1] (some (.int (-1))) = true) && (decide (z_tag 14 171 [.int 0, .int 2] (some (.int 0)) = true))))
def z_P : Bool := (z_P0) && ((z_P1) && ((z_P2) && ((z_P3) && ((z_P4)))))
set_option maxRecDepth 100000 in
set_option maxHeartbeats 4000000 in
theorem z_Pt : z_P = true := by decide +kernel
theorem z_Pu : z_P0 = true ∧ z_P1 = true ∧ z_P2 = true ∧ z_P3 = true ∧ z_P4 = true := by
  have h := z_Pt
  unfold z_P at h
  simpa only [Bool.and_eq_true] using h
theorem z_Q0 : (x_vl (x_run none 3000 8 1 0 (x_en 0 [.ref 0]) [] z_a) = some none) ∧ (z_b.2.1 = 249) ∧ (x_vl (x_run none 3000 8 111 0 (x_en 0 [.ref 249]) [] z_c) = some none) ∧ (x_szok z_d = true) ∧ (x_obj z_d 0 = some (0, [.ref 1, .ref 2, .ref 234, .int 0, .int 0])) ∧ (x_obj z_d 2 = some (6, [.ref 3, .ref 198, .ref 201, .int 0, .int 0])) ∧ (x_obj z_d 3 = some (2, [.ref 4, .ref 30, .int 0, .ref 33, .ref 36, .ref 39, .ref 42])) ∧ (x_obj z_d 30 = some (10, [.ref 31, .ref 32, .int 0])) := by
  have h := z_Pu.1
  unfold z_P0 at h
  simpa only [Bool.and_eq_true, decide_eq_true_eq] using h
theorem z_b_v : x_vl (x_run none 3000 8 1 0 (x_en 0 [.ref 0]) [] z_a) = some none := z_Q0.1
theorem z_b_n : z_b.2.1 = 249 := z_Q0.2.1
theorem z_d_v : x_vl (x_run none 3000 8 111 0 (x_en 0 [.ref 249]) [] z_c) = some none := z_Q0.2.2.1
theorem z_d_m : x_szok z_d = true := z_Q0.2.2.2.1
theorem zg_0_q : x_obj z_d 0 = some (0, [.ref 1, .ref 2, .ref 234, .int 0, .int 0]) := z_Q0.2.2.2.2.1
theorem zg_2_q : x_obj z_d 2 = some (6, [.ref 3, .ref 198, .ref 201, .int 0, .int 0]) := z_Q0.2.2.2.2.2.1
theorem zg_3_q : x_obj z_d 3 = some (2, [.ref 4, .ref 30, .int 0, .ref 33, .ref 36, .ref 39, .ref 42]) := z_Q0.2.2.2.2.2.2.1
theorem zg_30_q : x_obj z_d 30 = some (10, [.ref 31, .ref 32, .int 0]) := z_Q0.2.2.2.2.2.2.2
theorem z_Q1 : (x_obj z_d 4 = some (4, [.ref 5, .int 0])) ∧ (x_obj z_d 234 = some (5, [.ref 235, .ref 239, .ref 240, .int 0, .int 0, .ref 241, .ref 242, .int 0])) ∧ (x_obj z_d 235 = some (11, [.ref 236, .ref 237, .ref 238, .int 1])) ∧ (x_obj z_d 243 = some (9, [.ref 244, .int 0])) ∧ (x_obj z_d 249 = some (12, [.ref 250, .ref 251, .int 0, .ref 252, .ref 253, .int 0, .ref 254, .ref 255, .ref 256, .ref 257, .ref 258, .ref 259, .int 0, .int 0, .ref 260, .ref 261, .int 0, .int 0, .ref 262, .ref 263, .ref 264, .ref 265, .ref 266, .int 0, .ref 267, .ref 268, .int 0, .ref 269, .ref 270, .int 0, .ref 271, .ref 272, .int 0, .ref 273, .ref 274, .int 0, .ref 275, .ref 276, .ref 277, .ref 278, .ref 279, .ref 280, .ref 281, .ref 282, .ref 283, .ref 284, .int 0, .ref 285, .ref 286, .int 0, .int 0, .ref 287, .ref 288, .ref 289, .ref 290, .ref 291, .int 1, .ref 292, .ref 293, .ref 294, .ref 295, .int 0, .ref 296, .ref 297, .ref 298, .ref 299, .ref 300, .int 0, .ref 301, .ref 302, .ref 303, .ref 304])) ∧ (x_arr z_d 1 = some (8, 3, [some 243, some 245, some 247])) ∧ (x_ari z_d 244 = some (2, 160)) ∧ (x_ari z_d 250 = some (0, 480)) := by
  have h := z_Pu.2.1
  unfold z_P1 at h
  simpa only [Bool.and_eq_true, decide_eq_true_eq] using h
theorem zg_4_q : x_obj z_d 4 = some (4, [.ref 5, .int 0]) := z_Q1.1
theorem zg_234_q : x_obj z_d 234 = some (5, [.ref 235, .ref 239, .ref 240, .int 0, .int 0, .ref 241, .ref 242, .int 0]) := z_Q1.2.1
theorem zg_235_q : x_obj z_d 235 = some (11, [.ref 236, .ref 237, .ref 238, .int 1]) := z_Q1.2.2.1
theorem zg_243_q : x_obj z_d 243 = some (9, [.ref 244, .int 0]) := z_Q1.2.2.2.1
theorem zg_249_q : x_obj z_d 249 = some (12, [.ref 250, .ref 251, .int 0, .ref 252, .ref 253, .int 0, .ref 254, .ref 255, .ref 256, .ref 257, .ref 258, .ref 259, .int 0, .int 0, .ref 260, .ref 261, .int 0, .int 0, .ref 262, .ref 263, .ref 264, .ref 265, .ref 266, .int 0, .ref 267, .ref 268, .int 0, .ref 269, .ref 270, .int 0, .ref 271, .ref 272, .int 0, .ref 273, .ref 274, .int 0, .ref 275, .ref 276, .ref 277, .ref 278, .ref 279, .ref 280, .ref 281, .ref 282, .ref 283, .ref 284, .int 0, .ref 285, .ref 286, .int 0, .int 0, .ref 287, .ref 288, .ref 289, .ref 290, .ref 291, .int 1, .ref 292, .ref 293, .ref 294, .ref 295, .int 0, .ref 296, .ref 297, .ref 298, .ref 299, .ref 300, .int 0, .ref 301, .ref 302, .ref 303, .ref 304]) := z_Q1.2.2.2.2.1
theorem zr_1_q : x_arr z_d 1 = some (8, 3, [some 243, some 245, some 247]) := z_Q1.2.2.2.2.2.1
theorem zi_244_q : x_ari z_d 244 = some (2, 160) := z_Q1.2.2.2.2.2.2.1
theorem zi_250_q : x_ari z_d 250 = some (0, 480) := z_Q1.2.2.2.2.2.2.2
theorem z_Q2 : (x_ari z_d 251 = some (0, 3)) ∧ (x_ati z_d 251 0 = 0) ∧ (z_tag 2 112 [.int 0] (some (.int 1)) = true) ∧ (z_tag 5 115 [.int 0] (some (.int 0)) = true) ∧ (z_tag 6 145 [.int 0] (some (.int 0)) = true) ∧ (z_tag 2 112 [.int 1] (some (.int 1)) = true) ∧ (z_tag 5 115 [.int 1] (some (.int 0)) = true) ∧ (z_tag 6 145 [.int 1] (some (.int 0)) = true) := by
  have h := z_Pu.2.2.1
  unfold z_P2 at h
  simpa only [Bool.and_eq_true, decide_eq_true_eq] using h
theorem zi_251_q : x_ari z_d 251 = some (0, 3) := z_Q2.1
theorem zi_251_0 : x_ati z_d 251 0 = 0 := z_Q2.2.1
theorem zt_choose0 : z_tag 2 112 [.int 0] (some (.int 1)) = true := z_Q2.2.2.1
theorem zt_length0 : z_tag 5 115 [.int 0] (some (.int 0)) = true := z_Q2.2.2.2.1
theorem zt_translate0 : z_tag 6 145 [.int 0] (some (.int 0)) = true := z_Q2.2.2.2.2.1
theorem zt_choose1 : z_tag 2 112 [.int 1] (some (.int 1)) = true := z_Q2.2.2.2.2.2.1
theorem zt_length1 : z_tag 5 115 [.int 1] (some (.int 0)) = true := z_Q2.2.2.2.2.2.2.1
theorem zt_translate1 : z_tag 6 145 [.int 1] (some (.int 0)) = true := z_Q2.2.2.2.2.2.2.2
theorem z_Q3 : (z_tag 2 112 [.int 2] (some (.int 1)) = true) ∧ (z_tag 5 115 [.int 2] (some (.int 0)) = true) ∧ (z_tag 6 145 [.int 2] (some (.int 0)) = true) ∧ (z_tag 4 114 [] none = true) ∧ (z_tag 7 164 [] (some (.int 0)) = true) ∧ (z_tag 8 165 [] (some (.int 0)) = true) ∧ (z_tag 11 168 [] (some (.int 0)) = true) ∧ (z_tag 12 169 [] (some (.int 0)) = true) := by
  have h := z_Pu.2.2.2.1
  unfold z_P3 at h
  simpa only [Bool.and_eq_true, decide_eq_true_eq] using h
theorem zt_choose2 : z_tag 2 112 [.int 2] (some (.int 1)) = true := z_Q3.1
theorem zt_length2 : z_tag 5 115 [.int 2] (some (.int 0)) = true := z_Q3.2.1
theorem zt_translate2 : z_tag 6 145 [.int 2] (some (.int 0)) = true := z_Q3.2.2.1
theorem zt_clear : z_tag 4 114 [] none = true := z_Q3.2.2.2.1
theorem zt_verdict : z_tag 7 164 [] (some (.int 0)) = true := z_Q3.2.2.2.2.1
theorem zt_tokens : z_tag 8 165 [] (some (.int 0)) = true := z_Q3.2.2.2.2.2.1
theorem zt_replaced : z_tag 11 168 [] (some (.int 0)) = true := z_Q3.2.2.2.2.2.2.1
theorem zt_macros : z_tag 12 169 [] (some (.int 0)) = true := z_Q3.2.2.2.2.2.2.2
theorem z_Q4 : (z_tag 13 170 [] (some (.int 1)) = true) ∧ (z_tag 14 171 [.int 0, .int 0] (some (.int 0)) = true) ∧ (z_tag 14 171 [.int 0, .int 1] (some (.int (-1))) = true) ∧ (z_tag 14 171 [.int 0, .int 2] (some (.int 0)) = true) := by
  have h := z_Pu.2.2.2.2
  unfold z_P4 at h
  simpa only [Bool.and_eq_true, decide_eq_true_eq] using h
theorem zt_nodes : z_tag 13 170 [] (some (.int 1)) = true := z_Q4.1
theorem zt_node0 : z_tag 14 171 [.int 0, .int 0] (some (.int 0)) = true := z_Q4.2.1
theorem zt_node1 : z_tag 14 171 [.int 0, .int 1] (some (.int (-1))) = true := z_Q4.2.2.1
theorem zt_node2 : z_tag 14 171 [.int 0, .int 2] (some (.int 0)) = true := z_Q4.2.2.2
theorem z_d_n : z_d.2.1 ≤ x_cmax ∧ z_d.2.2 ≤ x_smax := x_szok_ok z_d_m
theorem zg_0 : x_get z_d 0 = some (.inr (0, [.ref 1, .ref 2, .ref 234, .int 0, .int 0])) := x_obj_get zg_0_q
theorem zg_2 : x_get z_d 2 = some (.inr (6, [.ref 3, .ref 198, .ref 201, .int 0, .int 0])) := x_obj_get zg_2_q
theorem zg_3 : x_get z_d 3 = some (.inr (2, [.ref 4, .ref 30, .int 0, .ref 33, .ref 36, .ref 39, .ref 42])) := x_obj_get zg_3_q
theorem zg_30 : x_get z_d 30 = some (.inr (10, [.ref 31, .ref 32, .int 0])) := x_obj_get zg_30_q
theorem zg_4 : x_get z_d 4 = some (.inr (4, [.ref 5, .int 0])) := x_obj_get zg_4_q
theorem zg_234 : x_get z_d 234 = some (.inr (5, [.ref 235, .ref 239, .ref 240, .int 0, .int 0, .ref 241, .ref 242, .int 0])) := x_obj_get zg_234_q
theorem zg_235 : x_get z_d 235 = some (.inr (11, [.ref 236, .ref 237, .ref 238, .int 1])) := x_obj_get zg_235_q
theorem zg_243 : x_get z_d 243 = some (.inr (9, [.ref 244, .int 0])) := x_obj_get zg_243_q
theorem zg_249 : x_get z_d 249 = some (.inr (12, [.ref 250, .ref 251, .int 0, .ref 252, .ref 253, .int 0, .ref 254, .ref 255, .ref 256, .ref 257, .ref 258, .ref 259, .int 0, .int 0, .ref 260, .ref 261, .int 0, .int 0, .ref 262, .ref 263, .ref 264, .ref 265, .ref 266, .int 0, .ref 267, .ref 268, .int 0, .ref 269, .ref 270, .int 0, .ref 271, .ref 272, .int 0, .ref 273, .ref 274, .int 0, .ref 275, .ref 276, .ref 277, .ref 278, .ref 279, .ref 280, .ref 281, .ref 282, .ref 283, .ref 284, .int 0, .ref 285, .ref 286, .int 0, .int 0, .ref 287, .ref 288, .ref 289, .ref 290, .ref 291, .int 1, .ref 292, .ref 293, .ref 294, .ref 295, .int 0, .ref 296, .ref 297, .ref 298, .ref 299, .ref 300, .int 0, .ref 301, .ref 302, .ref 303, .ref 304])) := x_obj_get zg_249_q
def z_lv : x_L := x_s1 (x_s1 (x_s1 (x_en 0 [.retAddr 0]) 1 (.ref 0)) 2 (.ref 249)) 3 (.int 0)
def z_Q : Option Value → x_H → Prop := fun r h => r = some (.int 1) ∧ h.2.1 ≤ x_cmax ∧ h.2.2 ≤ x_smax
theorem zr_1 : ∃ f : Nat → Option Nat, x_get z_d 1 = some (.inl (8, 3, .inr (.inr (.inr (.inr f))))) ∧ f 0 = some 243 := by
  have q := zr_1_q
  obtain ⟨f, hg, hf⟩ := x_arr_get q
  refine ⟨f, hg, ?_⟩
  have e : [f 0, f 1, f 2] = [some 243, some 245, some 247] := hf
  exact (List.cons.inj e).1
theorem zi_244 : ∃ f : Nat → Int32, x_get z_d 244 = some (.inl (2, 160, .inl f)) ∧ ∀ j, f j = x_ati z_d 244 j := x_ari_get zi_244_q
theorem zi_250 : ∃ f : Nat → Int32, x_get z_d 250 = some (.inl (0, 480, .inl f)) ∧ ∀ j, f j = x_ati z_d 250 j := x_ari_get zi_250_q
theorem zi_251 : ∃ f : Nat → Int32, x_get z_d 251 = some (.inl (0, 3, .inl f)) ∧ ∀ j, f j = x_ati z_d 251 j := x_ari_get zi_251_q
theorem z_le2 {a : Int32} : x_cc .ge a 3 = true ↔ ¬ x_cc .le a 2 = true := by
  simp only [x_cc, decide_eq_true_eq, Int32.le_iff_toInt_le]
  have e2 : (2 : Int32).toInt = 2 := by decide
  have e3 : (3 : Int32).toInt = 3 := by decide
  rw [e2, e3]
  omega
theorem z_ge0 {a b : Int32} : x_cc .ge a b = true ↔ ¬ x_cc .lt a b = true := by
  simp only [x_cc, decide_eq_true_eq, Int32.le_iff_toInt_le, Int32.lt_iff_toInt_lt]
  omega
theorem z_gtle {a b : Int32} : x_cc .gt a b = true ↔ ¬ x_cc .le a b = true := by
  simp only [x_cc, decide_eq_true_eq, Int32.le_iff_toInt_le, Int32.lt_iff_toInt_lt]
  omega
theorem z_three {a : Int32} (h1 : ¬ x_cc .lt a 0 = true) (h2 : x_cc .le a 2 = true) : a = 0 ∨ a = 1 ∨ a = 2 := by
  simp only [x_cc, decide_eq_true_eq, Int32.le_iff_toInt_le, Int32.lt_iff_toInt_lt] at h1 h2
  have e0 : (0 : Int32).toInt = 0 := by decide
  have e1 : (1 : Int32).toInt = 1 := by decide
  have e2 : (2 : Int32).toInt = 2 := by decide
  rw [e0] at h1
  rw [e2] at h2
  have h3 : a.toInt = 0 ∨ a.toInt = 1 ∨ a.toInt = 2 := by omega
  rcases h3 with h | h | h
  · exact Or.inl (Int32.toInt_inj.mp (by rw [h, e0]))
  · exact Or.inr (Or.inl (Int32.toInt_inj.mp (by rw [h, e1])))
  · exact Or.inr (Or.inr (Int32.toInt_inj.mp (by rw [h, e2])))
theorem z_zero {a : Int32} (h1 : ¬ x_cc .lt a 0 = true) (h2 : x_cc .lt a 1 = true) : a = 0 := by
  simp only [x_cc, decide_eq_true_eq, Int32.lt_iff_toInt_lt] at h1 h2
  have e0 : (0 : Int32).toInt = 0 := by decide
  have e1 : (1 : Int32).toInt = 1 := by decide
  rw [e0] at h1
  rw [e1] at h2
  exact Int32.toInt_inj.mp (by rw [e0]; omega)
theorem z_ts {b : Int32} (h : x_cc .lt b 0 = true ∨ ¬ x_cc .le b 2 = true) : x_ts 49 0 2 #[28, 35, 42] 24 [.int b] = some (73, []) := by
  simp only [x_cc, decide_eq_true_eq, Int32.le_iff_toInt_le, Int32.lt_iff_toInt_lt] at h
  have e0 : (0 : Int32).toInt = 0 := by decide
  have e2 : (2 : Int32).toInt = 2 := by decide
  rw [e0, e2] at h
  have h2 : b.toInt < 0 ∨ 2 < b.toInt := by omega
  unfold x_ts
  simp only
  rw [if_pos h2]
  rfl
