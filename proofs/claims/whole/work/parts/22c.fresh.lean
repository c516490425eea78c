/-! Two fresh objects: what stands in their cells. -/
def z_a : x_H := x_nw x_h0 (.inr (0, [.null, .null, .null, .int 0, .int 0])) 5
def z_b : x_H := x_hp (x_run none 3000 400 1 0 (x_en 0 [.ref 0]) [] z_a)
def z_c : x_H := x_nw z_b (.inr (12, [.null, .null, .int 0, .null, .null, .int 0, .null, .null, .null, .null, .null, .null, .int 0, .int 0, .null, .null, .int 0, .int 0, .null, .null, .null, .null, .null, .int 0, .null, .null, .int 0, .null, .null, .int 0, .null, .null, .int 0, .null, .null, .int 0, .null, .null, .null, .null, .null, .null, .null, .null, .null, .null, .int 0, .null, .null, .int 0, .int 0, .null, .null, .null, .null, .null, .int 0, .null, .null, .null, .null, .int 0, .null, .null, .null, .null, .null, .int 0, .null, .null, .null, .null])) 72
def z_d : x_H := x_hp (x_run none 3000 400 111 0 (x_en 0 [.ref 249]) [] z_c)
def fdOk : List Value → List (Nat × Nat) → Bool
  | [], [] => true
  | .ref a :: r, (0, b) :: s => decide (a = b) && fdOk r s
  | .int _ :: r, (1, _) :: s => fdOk r s
  | .long _ :: r, (2, _) :: s => fdOk r s
  | _, _ => false
def clOk (c : x_C) (o : Option (Nat × Nat × Nat × List (Nat × Nat))) : Bool := match c, o with
  | .inr (ci, fs), some (0, ci2, _, sh) => decide (ci = ci2) && fdOk fs sh
  | .inl (t, n, .inl _), some (1, t2, n2, _) => decide (t = t2) && decide (n = n2)
  | .inl (t, n, .inr (.inl _)), some (2, t2, n2, _) => decide (t = t2) && decide (n = n2)
  | .inl (t, n, .inr (.inr (.inr (.inr _)))), some (3, t2, n2, _) => decide (t = t2) && decide (n = n2)
  | _, _ => false
def hSv (c : x_C) (k : Nat) : Int := match c with
  | .inr (_, fs) => (match fs[k]? with
    | some (.int v) => v.toInt
    | _ => 0)
  | _ => 0
def hSl (c : x_C) (k : Nat) : Int64 := match c with
  | .inr (_, fs) => (match fs[k]? with
    | some (.long v) => v
    | _ => 0)
  | _ => 0
def hSA (c : x_C) (j : Int) : Int := match c with
  | .inl (_, _, .inl f) => (f j.toNat).toInt
  | _ => 0
def hSL (c : x_C) (j : Int) : Int64 := match c with
  | .inl (_, _, .inr (.inl f)) => f j.toNat
  | _ => 0
def hSR (c : x_C) (j : Int) : Option Nat := match c with
  | .inl (_, _, .inr (.inr (.inr (.inr f)))) => f j.toNat
  | _ => none
def hS (h : x_H) : w_S := (fun a k => hSv (h.1 a) k, fun a k => hSl (h.1 a) k, fun a j => hSA (h.1 a) j, fun a j => hSL (h.1 a) j, fun a j => hSR (h.1 a) j)
theorem hS_fd {h : x_H} {a ci : Nat} {fs : List Value} (hc : h.1 a = .inr (ci, fs)) : ∀ (l : List Value) (s : List (Nat × Nat)) (k : Nat), (∀ i, l[i]? = fs[k + i]?) → fdOk l s = true → w_fd (hS h) a k s = l
  | [], [], k, _, _ => rfl
  | .ref x :: r, (0, b) :: s, k, hl, ho => by
    have ho : (decide (x = b) && fdOk r s) = true := ho
    rw [Bool.and_eq_true, decide_eq_true_eq] at ho
    show w_fv (hS h) a k (0, b) :: w_fd (hS h) a (k + 1) s = _
    rw [hS_fd hc r s (k + 1) (fun i => by have q := hl (i + 1); rw [show k + 1 + i = k + (i + 1) by omega, ← q]; rfl) ho.2, ho.1]
    rfl
  | .int v :: r, (1, b) :: s, k, hl, ho => by
    have q0 := hl 0
    show w_fv (hS h) a k (1, b) :: w_fd (hS h) a (k + 1) s = _
    rw [hS_fd hc r s (k + 1) (fun i => by have q := hl (i + 1); rw [show k + 1 + i = k + (i + 1) by omega, ← q]; rfl) ho]
    have e : (hS h).1 a k = v.toInt := by
      show hSv (h.1 a) k = v.toInt
      rw [hc]
      show (match fs[k]? with
        | some (.int v) => v.toInt
        | _ => 0) = v.toInt
      rw [show fs[k]? = some (.int v) from q0.symm]
    show Value.int (iZ ((hS h).1 a k)) :: r = _
    rw [e, iZ_back]
  | .long v :: r, (2, b) :: s, k, hl, ho => by
    have q0 := hl 0
    show w_fv (hS h) a k (2, b) :: w_fd (hS h) a (k + 1) s = _
    rw [hS_fd hc r s (k + 1) (fun i => by have q := hl (i + 1); rw [show k + 1 + i = k + (i + 1) by omega, ← q]; rfl) ho]
    have e : (hS h).2.1 a k = v := by
      show hSl (h.1 a) k = v
      rw [hc]
      show (match fs[k]? with
        | some (.long v) => v
        | _ => 0) = v
      rw [show fs[k]? = some (.long v) from q0.symm]
    show Value.long ((hS h).2.1 a k) :: r = _
    rw [e]
theorem hS_cl {h : x_H} {a : Nat} {o : Option (Nat × Nat × Nat × List (Nat × Nat))} (q : clOk (h.1 a) o = true) : h.1 a = w_cl (hS h) a o := by
  unfold clOk at q
  split at q
  · rename_i ci fs ci2 n sh e
    rw [Bool.and_eq_true, decide_eq_true_eq] at q
    show h.1 a = .inr (ci2, w_fd (hS h) a 0 sh)
    rw [hS_fd e fs sh 0 (fun i => by rw [Nat.zero_add]) q.2, e, q.1]
  · rename_i t n f t2 n2 sh e
    rw [Bool.and_eq_true, decide_eq_true_eq, decide_eq_true_eq] at q
    have e2 : (fun j : Nat => iZ ((hS h).2.2.1 a (j : Int))) = f := by
      funext j
      show iZ (hSA (h.1 a) (j : Int)) = f j
      rw [e]
      show iZ ((f (j : Int).toNat).toInt) = f j
      rw [iZ_back, Int.toNat_natCast]
    show h.1 a = .inl (t2, n2, .inl (fun j : Nat => iZ ((hS h).2.2.1 a (j : Int))))
    rw [e2, e, q.1, q.2]
  · rename_i t n f t2 n2 sh e
    rw [Bool.and_eq_true, decide_eq_true_eq, decide_eq_true_eq] at q
    have e2 : (fun j : Nat => (hS h).2.2.2.1 a (j : Int)) = f := by
      funext j
      show hSL (h.1 a) (j : Int) = f j
      rw [e]
      show f (j : Int).toNat = f j
      rw [Int.toNat_natCast]
    show h.1 a = .inl (t2, n2, .inr (.inl (fun j : Nat => (hS h).2.2.2.1 a (j : Int))))
    rw [e2, e, q.1, q.2]
  · rename_i t n f t2 n2 sh e
    rw [Bool.and_eq_true, decide_eq_true_eq, decide_eq_true_eq] at q
    have e2 : (fun j : Nat => (hS h).2.2.2.2 a (j : Int)) = f := by
      funext j
      show hSR (h.1 a) (j : Int) = f j
      rw [e]
      show f (j : Int).toNat = f j
      rw [Int.toNat_natCast]
    show h.1 a = .inl (t2, n2, .inr (.inr (.inr (.inr (fun j : Nat => (hS h).2.2.2.2 a (j : Int))))))
    rw [e2, e, q.1, q.2]
  · exact Bool.noConfusion q
def zPb (h : x_H) : Bool := decide (h.2.1 = 305) && (decide (h.2.2 = 30037) && ((List.range 305).all (fun a => clOk (h.1 a) w_sh[a]?) && (
  (decide (sv (hS h) 0 3 = 0) && (decide (sv (hS h) 0 4 = 0) && (decide (sv (hS h) 30 2 = 0) && (decide (sv (hS h) 3 2 = 0) && (decide (sv (hS h) 4 1 = 0) && (decide (sv (hS h) 235 3 = 1) && (decide (sA (hS h) 236 0 = 0) && (decide (sA (hS h) 237 0 = -1) && decide (sA (hS h) 238 0 = 0))))))))) && (
  (decide (sv (hS h) 249 2 = 0) && (decide (sv (hS h) 249 50 = 0) && (decide (sv (hS h) 249 49 = 0) && (decide (sv (hS h) 249 23 = 0) && (decide (sv (hS h) 249 56 = 1) && (decide (sA (hS h) 289 0 = 0) && (decide (sA (hS h) 290 0 = -1) && decide (sA (hS h) 291 0 = 0)))))))) && (
  (List.range 3).all (fun k => decide (sA (hS h) 251 (k : Int) = 0) && (decide (sv (hS h) (243 + 2 * k) 1 = 0) && decide (sR (hS h) 1 (k : Int) = some (243 + 2 * k)))) && (
  (List.range 8).all (fun k => decide (sL (hS h) 262 (k : Int) = 0) && decide (sR (hS h) 5 (k : Int) = some (6 + 3 * k))) && (
  (List.range 31).all (fun k => decide (sR (hS h) 42 (k : Int) = some (43 + 5 * k))) && (List.range 4).all (fun k => decide (sR (hS h) 201 (k : Int) = some (202 + 8 * k))))))))))
theorem z_LV {S : w_S} (a : sv S 0 3 = 0 ∧ sv S 0 4 = 0 ∧ sv S 30 2 = 0 ∧ sv S 3 2 = 0 ∧ sv S 4 1 = 0 ∧ sv S 235 3 = 1 ∧ sA S 236 0 = 0 ∧ sA S 237 0 = -1 ∧ sA S 238 0 = 0) (b : sv S 249 2 = 0 ∧ sv S 249 50 = 0 ∧ sv S 249 49 = 0 ∧ sv S 249 23 = 0 ∧ sv S 249 56 = 1 ∧ sA S 289 0 = 0 ∧ sA S 290 0 = -1 ∧ sA S 291 0 = 0) (k3 : ∀ k : Nat, k < 3 → sA S 251 (k : Int) = 0 ∧ sv S (243 + 2 * k) 1 = 0 ∧ sR S 1 (k : Int) = some (243 + 2 * k)) (k8 : ∀ k : Nat, k < 8 → sL S 262 (k : Int) = 0 ∧ sR S 5 (k : Int) = some (6 + 3 * k)) (k31 : ∀ k : Nat, k < 31 → sR S 42 (k : Int) = some (43 + 5 * k)) (k4 : ∀ k : Nat, k < 4 → sR S 201 (k : Int) = some (202 + 8 * k)) : LV9 S (fun k => (sA S (244 + 2 * k.toNat), 0)) 0 (0, [], 0, [], [(0, -1, 0)]) := by
  obtain ⟨a1, a2, a3, a4, a5, a6, a7, a8, a9⟩ := a
  obtain ⟨b1, b2, b3, b4, b5, b6, b7, b8⟩ := b
  have p5 : ∀ k : Int, 0 ≤ k → k < 8 → sR S 5 k = some (6 + 3 * (fun j : Nat => j) k.toNat) := fun k k0 k1 => by
    have q := (k8 k.toNat (by omega)).2
    rw [show ((k.toNat : Nat) : Int) = k by omega] at q
    exact q
  refine ⟨⟨⟨fun k => k, fun k hk => hk, fun j k _ _ h => h, p5⟩, fun k k0 k1 => ?_, fun k k0 k1 => ?_, fun k k0 k1 => ?_⟩, fun f f0 f2 => ⟨?_, fun k k0 k1 => absurd k1 (by show ¬ k < 0; omega)⟩, fun f f0 f2 => ⟨Int.le_refl 0, by show (0 : Int) ≤ 160; decide, fun i i0 i1 => absurd i1 (by show ¬ i < 0; omega)⟩, a1, b1, by decide, ⟨a2, a3, trivial, a4, ⟨fun k => k, a5, by decide, fun k hk => hk, fun j k _ _ h => h, p5, fun k k0 k1 => absurd k1 (by show ¬ k < 0; omega)⟩, ⟨a6, fun j j0 j1 => ?_⟩⟩, ⟨b2, b3, trivial, b4, ⟨_, rtab_0 (fun j j0 j1 => ?_)⟩, ⟨b5, by decide, fun j j0 j1 => ?_⟩⟩, ⟨Int.le_refl 0, by show (0 : Int) ≤ 99; decide, by decide, fun x hx => absurd hx (by simp), Int.le_refl 0, by show (0 : Int) ≤ 30; decide, TOK_0, by decide⟩⟩
  · have q := k31 k.toNat (by omega)
    rw [show ((k.toNat : Nat) : Int) = k by omega] at q
    exact q
  · have q := k4 k.toNat (by omega)
    rw [show ((k.toNat : Nat) : Int) = k by omega] at q
    exact q
  · have q := k3 k.toNat (by omega)
    rw [show ((k.toNat : Nat) : Int) = k by omega] at q
    exact ⟨q.2.2, q.2.1, rfl⟩
  · have q := k3 f.toNat (by omega)
    rw [show ((f.toNat : Nat) : Int) = f by omega] at q
    exact q.1
  · have j1 : j < 1 := j1
    have e : j = 0 := by omega
    rw [e]
    exact ⟨a7, a8, a9⟩
  · have q := (k8 j.toNat (by omega)).1
    rw [show ((j.toNat : Nat) : Int) = j by omega] at q
    exact q
  · have j1 : j < 1 := j1
    have e : j = 0 := by omega
    rw [e]
    exact ⟨b6, b7, b8⟩
theorem zPb_f {h : x_H} (q : zPb h = true) : w_W h (hS h) ∧ LV9 (hS h) (fun k => (sA (hS h) (244 + 2 * k.toNat), 0)) 0 (0, [], 0, [], [(0, -1, 0)]) := by
  unfold zPb at q
  simp only [Bool.and_eq_true, decide_eq_true_eq] at q
  obtain ⟨h4, h5, h6, h7, h8, h9, h10, h11, h12⟩ := q
  refine ⟨⟨h4, h5, fun a ha => hS_cl (List.all_eq_true.mp h6 a (List.mem_range.mpr ha))⟩, z_LV h7 h8 (fun k hk => ?_) (fun k hk => ?_) (fun k hk => ?_) (fun k hk => ?_)⟩
  · have q := List.all_eq_true.mp h9 k (List.mem_range.mpr hk)
    simp only [Bool.and_eq_true, decide_eq_true_eq] at q
    exact q
  · have q := List.all_eq_true.mp h10 k (List.mem_range.mpr hk)
    simp only [Bool.and_eq_true, decide_eq_true_eq] at q
    exact q
  · have q := List.all_eq_true.mp h11 k (List.mem_range.mpr hk)
    exact of_decide_eq_true q
  · have q := List.all_eq_true.mp h12 k (List.mem_range.mpr hk)
    exact of_decide_eq_true q
def z_P : Bool := decide (x_vl (x_run none 3000 400 1 0 (x_en 0 [.ref 0]) [] z_a) = some none) && (decide (z_b.2.1 = 249) && (decide (x_vl (x_run none 3000 400 111 0 (x_en 0 [.ref 249]) [] z_c) = some none) && zPb z_d))
set_option maxRecDepth 100000 in
set_option maxHeartbeats 4000000 in
theorem z_Pt : z_P = true := by decide +kernel
theorem z_f : x_vl (x_run none 3000 400 1 0 (x_en 0 [.ref 0]) [] z_a) = some none ∧ z_b.2.1 = 249 ∧ x_vl (x_run none 3000 400 111 0 (x_en 0 [.ref 249]) [] z_c) = some none ∧ zPb z_d = true := by
  have h := z_Pt
  unfold z_P at h
  simpa only [Bool.and_eq_true, decide_eq_true_eq] using h
theorem z_b_v : x_vl (x_run none 3000 400 1 0 (x_en 0 [.ref 0]) [] z_a) = some none := z_f.1
theorem z_b_n : z_b.2.1 = 249 := z_f.2.1
theorem z_d_v : x_vl (x_run none 3000 400 111 0 (x_en 0 [.ref 249]) [] z_c) = some none := z_f.2.2.1
theorem z_d_w : ∃ (S : w_S) (F : Int → (Int → Int) × Int), w_W z_d S ∧ LV9 S F 0 (0, [], 0, [], [(0, -1, 0)]) := ⟨_, _, zPb_f z_f.2.2.2⟩
def z_lv : x_L := x_s1 (x_s1 (x_s1 (x_en 0 [.retAddr 0]) 1 (.ref 0)) 2 (.ref 249)) 3 (.int 0)
def z_Q : Option Value → x_H → Prop := fun r h => r = some (.int 1) ∧ h.2.1 ≤ x_cmax ∧ h.2.2 ≤ x_smax
theorem z_run (L : Nat) (xs : Nat → Int32) (hL : L ≤ 1536) : x_T (some (L, xs)) 401 0 18 z_lv [] z_d z_Q := by
  obtain ⟨S, F, hW, hV⟩ := z_d_w
  have q := l_loop_c (sc := some (L, xs)) (d := 401) hL rfl (by decide) (L + 1) 0 F 0 (0, [], 0, [], [(0, -1, 0)]) S z_lv rfl rfl rfl rfl (by decide) (by omega) hV (by omega)
  refine x_T_mono (q z_d hW) (fun r h' hq => ?_)
  obtain ⟨S', hW', hr⟩ := hq
  exact ⟨hr, by rw [hW'.1]; decide, by rw [hW'.2.1]; decide⟩
set_option maxHeartbeats 4000000 in
theorem z_start (L : Nat) (xs : Nat → Int32) (hL : L ≤ 1536) : x_T (some (L, xs)) 401 0 0 (x_en 0 [.retAddr 0]) [] x_h0 z_Q := by
  refine x_T_new rfl rfl rfl ?_
  show x_T _ _ 0 3 _ [.ref 0] z_a _
  refine x_T_dup rfl rfl rfl ?_
  refine x_T_ci (as := []) (r := [.ref 0]) rfl rfl rfl rfl (Nat.le_of_ble_eq_true rfl) (Nat.le_of_ble_eq_true rfl) ?_
  refine x_T_closed 3000 z_b_v ?_
  show x_T _ _ 0 7 _ [.ref 0] z_b _
  refine x_T_astore_n rfl (by decide) rfl ?_
  refine x_T_new rfl rfl rfl ?_
  rw [z_b_n]
  show x_T _ _ 0 11 _ [.ref 249] z_c _
  refine x_T_dup rfl rfl rfl ?_
  refine x_T_ci (as := []) (r := [.ref 249]) rfl rfl rfl rfl (Nat.le_of_ble_eq_true rfl) (Nat.le_of_ble_eq_true rfl) ?_
  refine x_T_closed 3000 z_d_v ?_
  show x_T _ _ 0 15 _ [.ref 249] z_d _
  refine x_T_astore_n rfl (by decide) rfl ?_
  refine x_T_iconst (v := 0) rfl (by decide) rfl ?_
  refine x_T_istore_n rfl (by decide) rfl ?_
  exact z_run L xs hL
