/-! Rows of tokens: adding. -/
def rowAdd (S : w_S) (a : Nat) (x : Int64) (z : Int) : w_S := w_v (w_A (w_L S (a + 1) (w_u (sL S (a + 1)) (sv S a 2) x)) (a + 2) (w_u (sA S (a + 2)) (sv S a 2) z)) a 2 (sv S a 2 + 1)
theorem c_add {sc : x_S} {d : Nat} {S : w_S} {a n : Nat} {x : Int64} {p t : Int} (hr : w_row a n) (h0 : 0 ≤ sv S a 2) (h1 : sv S a 2 < n) (hn : (n : Int) ≤ 2147483647) (hd : 0 ≤ d) : w_T sc d 96 0 (x_en 0 [.ref a, .long x, .int (iZ p), .int (iZ t)]) [] S (fun v S2 => v = none ∧ S2 = rowAdd S a x (p * 256 + t)) := by
  refine w_aload_n rfl rfl rfl ?_
  refine w_getI (z := sv S a 2) rfl rfl hr.1 rfl rfl rfl ?_
  refine w_aload_n rfl rfl rfl ?_
  refine w_getR rfl rfl hr.1 rfl rfl ?_
  refine w_alen rfl hr.2.1 (by decide) (by decide) rfl ?_
  refine w_ic_ge (pc2 := 49) (pc3 := 12) rfl (by decide) rfl ⟨by omega, by omega⟩ ⟨by omega, by omega⟩ (fun c9 => ?_) (fun c9 => ?_)
  · omega
  · skip
    refine w_aload_n rfl rfl rfl ?_
    refine w_getR rfl rfl hr.1 rfl rfl ?_
    refine w_aload_n rfl rfl rfl ?_
    refine w_getI (z := sv S a 2) rfl rfl hr.1 rfl rfl rfl ?_
    refine w_lload_n rfl rfl rfl ?_
    refine w_last rfl hr.2.1 (by omega) (by omega) (by omega) rfl ?_
    refine w_aload_n rfl rfl rfl ?_
    refine w_getR rfl rfl hr.1 rfl rfl ?_
    refine w_aload_n rfl rfl rfl ?_
    refine w_getI (z := sv S a 2) rfl rfl hr.1 rfl rfl rfl ?_
    refine w_iload_n rfl rfl rfl ?_
    refine w_sipush rfl (by decide) rfl ?_
    refine w_imul rfl rfl ?_
    refine w_iload rfl rfl rfl ?_
    refine w_iadd rfl rfl ?_
    refine w_iast rfl hr.2.2 (by omega) (by omega) (by omega) rfl ?_
    refine w_aload_n rfl rfl rfl ?_
    refine w_dup rfl rfl rfl ?_
    refine w_getI (z := sv S a 2) rfl rfl hr.1 rfl rfl rfl ?_
    refine w_iconst rfl rfl ?_
    refine w_iadd rfl rfl ?_
    refine w_putf rfl rfl hr.1 rfl rfl (by decide) rfl ?_
    refine w_vret rfl rfl ?_
    exact ⟨rfl, rfl⟩
