/-! The reference: trigraphs and joined lines. -/
theorem ts_tri {c : Int} (h0 : 0 ≤ c) (h1 : c < 128) (hc : ¬ (c = 33 ∨ c = 39 ∨ c = 40 ∨ c = 41 ∨ c = 45 ∨ c = 47 ∨ c = 60 ∨ c = 61 ∨ c = 62)) : (match x_ins 116 1 with | some (.tableswitch a b e f) => x_ts a b e f 1 [.int (iZ c)] | _ => none) = some (163, []) := by
  have h : (List.range 128).all (fun k => decide ((k = 33 ∨ k = 39 ∨ k = 40 ∨ k = 41 ∨ k = 45 ∨ k = 47 ∨ k = 60 ∨ k = 61 ∨ k = 62) ∨ (match x_ins 116 1 with | some (.tableswitch a b e f) => x_ts a b e f 1 [.int (iZ (k : Int))] | _ => none) = some (163, []))) = true := by decide +kernel
  have h2 := of_decide_eq_true (List.all_eq_true.mp h c.toNat (List.mem_range.mpr (by omega)))
  rw [Int.toNat_of_nonneg h0] at h2
  exact h2.resolve_left (by omega)
theorem r_tri {sc : x_S} {d : Nat} {S : w_S} {c : Int} (h0 : 0 ≤ c) (h1 : c < 128) : w_T sc d 116 0 (x_en 0 [.int (iZ c)]) [] S (fun v S2 => v = some (.int (iZ (tv c))) ∧ S2 = S) := by
  refine w_iload_n rfl rfl rfl ?_
  by_cases k33 : c = 33
  · subst k33
    refine w_ts (pc2 := 151) rfl rfl ?_
    refine w_bipush rfl (by decide) rfl ?_
    refine w_iret rfl rfl ?_
    exact ⟨rfl, rfl⟩
  by_cases k39 : c = 39
  · subst k39
    refine w_ts (pc2 := 142) rfl rfl ?_
    refine w_bipush rfl (by decide) rfl ?_
    refine w_iret rfl rfl ?_
    exact ⟨rfl, rfl⟩
  by_cases k40 : c = 40
  · subst k40
    refine w_ts (pc2 := 145) rfl rfl ?_
    refine w_bipush rfl (by decide) rfl ?_
    refine w_iret rfl rfl ?_
    exact ⟨rfl, rfl⟩
  by_cases k41 : c = 41
  · subst k41
    refine w_ts (pc2 := 148) rfl rfl ?_
    refine w_bipush rfl (by decide) rfl ?_
    refine w_iret rfl rfl ?_
    exact ⟨rfl, rfl⟩
  by_cases k45 : c = 45
  · subst k45
    refine w_ts (pc2 := 160) rfl rfl ?_
    refine w_bipush rfl (by decide) rfl ?_
    refine w_iret rfl rfl ?_
    exact ⟨rfl, rfl⟩
  by_cases k47 : c = 47
  · subst k47
    refine w_ts (pc2 := 139) rfl rfl ?_
    refine w_bipush rfl (by decide) rfl ?_
    refine w_iret rfl rfl ?_
    exact ⟨rfl, rfl⟩
  by_cases k60 : c = 60
  · subst k60
    refine w_ts (pc2 := 154) rfl rfl ?_
    refine w_bipush rfl (by decide) rfl ?_
    refine w_iret rfl rfl ?_
    exact ⟨rfl, rfl⟩
  by_cases k61 : c = 61
  · subst k61
    refine w_ts (pc2 := 136) rfl rfl ?_
    refine w_bipush rfl (by decide) rfl ?_
    refine w_iret rfl rfl ?_
    exact ⟨rfl, rfl⟩
  by_cases k62 : c = 62
  · subst k62
    refine w_ts (pc2 := 157) rfl rfl ?_
    refine w_bipush rfl (by decide) rfl ?_
    refine w_iret rfl rfl ?_
    exact ⟨rfl, rfl⟩
  refine w_ts (pc2 := 163) rfl (ts_tri h0 h1 (by omega)) ?_
  refine w_iconst rfl rfl ?_
  refine w_iret rfl rfl ?_
  exact q_i (by unfold tv; rw [if_neg k61, if_neg k47, if_neg k39, if_neg k40, if_neg k41, if_neg k33, if_neg k60, if_neg k62, if_neg k45])
theorem r_pun {sc : x_S} {d : Nat} {S : w_S} {c : Int} (h0 : 0 ≤ c) (h1 : c < 128) (hd : 0 ≤ d) : w_T sc d 119 0 (x_en 0 [.int (iZ c)]) [] S (fun v S2 => v = some (.int (iZ (zB (pun c)))) ∧ S2 = S) := by
  refine w_iload_n rfl rfl rfl ?_
  refine w_bipush rfl (by decide) rfl ?_
  apply w_jn (A := w_T _ _ 119 107 _ [.int (iZ (zB (decide (c = 40 ∨ (c = 41 ∨ (c = 91 ∨ (c = 93 ∨ (c = 123 ∨ (c = 125 ∨ (c = 59 ∨ (c = 44 ∨ (c = 61 ∨ (c = 43 ∨ (c = 45 ∨ (c = 42 ∨ (c = 47 ∨ (c = 38 ∨ (c = 60 ∨ (c = 62 ∨ c = 35)))))))))))))))))))] _ _)
  · intro kT
    refine w_ic_eq (pc2 := 102) (pc3 := 6) rfl (by decide) rfl ⟨by omega, by omega⟩ ⟨by decide, by decide⟩ (fun q1 => ?_) (fun q1 => ?_)
    · skip
      refine w_iconst rfl rfl ?_
      refine w_goto (pc2 := 107) rfl (by decide) ?_
      exact w_j1 (p := c = 40 ∨ (c = 41 ∨ (c = 91 ∨ (c = 93 ∨ (c = 123 ∨ (c = 125 ∨ (c = 59 ∨ (c = 44 ∨ (c = 61 ∨ (c = 43 ∨ (c = 45 ∨ (c = 42 ∨ (c = 47 ∨ (c = 38 ∨ (c = 60 ∨ (c = 62 ∨ c = 35)))))))))))))))) (Or.inl q1) kT
    · skip
      refine w_iload_n rfl rfl rfl ?_
      refine w_bipush rfl (by decide) rfl ?_
      refine w_ic_eq (pc2 := 102) (pc3 := 12) rfl (by decide) rfl ⟨by omega, by omega⟩ ⟨by decide, by decide⟩ (fun q2 => ?_) (fun q2 => ?_)
      · skip
        refine w_iconst rfl rfl ?_
        refine w_goto (pc2 := 107) rfl (by decide) ?_
        exact w_j1 (p := c = 40 ∨ (c = 41 ∨ (c = 91 ∨ (c = 93 ∨ (c = 123 ∨ (c = 125 ∨ (c = 59 ∨ (c = 44 ∨ (c = 61 ∨ (c = 43 ∨ (c = 45 ∨ (c = 42 ∨ (c = 47 ∨ (c = 38 ∨ (c = 60 ∨ (c = 62 ∨ c = 35)))))))))))))))) (Or.inr (Or.inl q2)) kT
      · skip
        refine w_iload_n rfl rfl rfl ?_
        refine w_bipush rfl (by decide) rfl ?_
        refine w_ic_eq (pc2 := 102) (pc3 := 18) rfl (by decide) rfl ⟨by omega, by omega⟩ ⟨by decide, by decide⟩ (fun q3 => ?_) (fun q3 => ?_)
        · skip
          refine w_iconst rfl rfl ?_
          refine w_goto (pc2 := 107) rfl (by decide) ?_
          exact w_j1 (p := c = 40 ∨ (c = 41 ∨ (c = 91 ∨ (c = 93 ∨ (c = 123 ∨ (c = 125 ∨ (c = 59 ∨ (c = 44 ∨ (c = 61 ∨ (c = 43 ∨ (c = 45 ∨ (c = 42 ∨ (c = 47 ∨ (c = 38 ∨ (c = 60 ∨ (c = 62 ∨ c = 35)))))))))))))))) (Or.inr (Or.inr (Or.inl q3))) kT
        · skip
          refine w_iload_n rfl rfl rfl ?_
          refine w_bipush rfl (by decide) rfl ?_
          refine w_ic_eq (pc2 := 102) (pc3 := 24) rfl (by decide) rfl ⟨by omega, by omega⟩ ⟨by decide, by decide⟩ (fun q4 => ?_) (fun q4 => ?_)
          · skip
            refine w_iconst rfl rfl ?_
            refine w_goto (pc2 := 107) rfl (by decide) ?_
            exact w_j1 (p := c = 40 ∨ (c = 41 ∨ (c = 91 ∨ (c = 93 ∨ (c = 123 ∨ (c = 125 ∨ (c = 59 ∨ (c = 44 ∨ (c = 61 ∨ (c = 43 ∨ (c = 45 ∨ (c = 42 ∨ (c = 47 ∨ (c = 38 ∨ (c = 60 ∨ (c = 62 ∨ c = 35)))))))))))))))) (Or.inr (Or.inr (Or.inr (Or.inl q4)))) kT
          · skip
            refine w_iload_n rfl rfl rfl ?_
            refine w_bipush rfl (by decide) rfl ?_
            refine w_ic_eq (pc2 := 102) (pc3 := 30) rfl (by decide) rfl ⟨by omega, by omega⟩ ⟨by decide, by decide⟩ (fun q5 => ?_) (fun q5 => ?_)
            · skip
              refine w_iconst rfl rfl ?_
              refine w_goto (pc2 := 107) rfl (by decide) ?_
              exact w_j1 (p := c = 40 ∨ (c = 41 ∨ (c = 91 ∨ (c = 93 ∨ (c = 123 ∨ (c = 125 ∨ (c = 59 ∨ (c = 44 ∨ (c = 61 ∨ (c = 43 ∨ (c = 45 ∨ (c = 42 ∨ (c = 47 ∨ (c = 38 ∨ (c = 60 ∨ (c = 62 ∨ c = 35)))))))))))))))) (Or.inr (Or.inr (Or.inr (Or.inr (Or.inl q5))))) kT
            · skip
              refine w_iload_n rfl rfl rfl ?_
              refine w_bipush rfl (by decide) rfl ?_
              refine w_ic_eq (pc2 := 102) (pc3 := 36) rfl (by decide) rfl ⟨by omega, by omega⟩ ⟨by decide, by decide⟩ (fun q6 => ?_) (fun q6 => ?_)
              · skip
                refine w_iconst rfl rfl ?_
                refine w_goto (pc2 := 107) rfl (by decide) ?_
                exact w_j1 (p := c = 40 ∨ (c = 41 ∨ (c = 91 ∨ (c = 93 ∨ (c = 123 ∨ (c = 125 ∨ (c = 59 ∨ (c = 44 ∨ (c = 61 ∨ (c = 43 ∨ (c = 45 ∨ (c = 42 ∨ (c = 47 ∨ (c = 38 ∨ (c = 60 ∨ (c = 62 ∨ c = 35)))))))))))))))) (Or.inr (Or.inr (Or.inr (Or.inr (Or.inr (Or.inl q6)))))) kT
              · skip
                refine w_iload_n rfl rfl rfl ?_
                refine w_bipush rfl (by decide) rfl ?_
                refine w_ic_eq (pc2 := 102) (pc3 := 42) rfl (by decide) rfl ⟨by omega, by omega⟩ ⟨by decide, by decide⟩ (fun q7 => ?_) (fun q7 => ?_)
                · skip
                  refine w_iconst rfl rfl ?_
                  refine w_goto (pc2 := 107) rfl (by decide) ?_
                  exact w_j1 (p := c = 40 ∨ (c = 41 ∨ (c = 91 ∨ (c = 93 ∨ (c = 123 ∨ (c = 125 ∨ (c = 59 ∨ (c = 44 ∨ (c = 61 ∨ (c = 43 ∨ (c = 45 ∨ (c = 42 ∨ (c = 47 ∨ (c = 38 ∨ (c = 60 ∨ (c = 62 ∨ c = 35)))))))))))))))) (Or.inr (Or.inr (Or.inr (Or.inr (Or.inr (Or.inr (Or.inl q7))))))) kT
                · skip
                  refine w_iload_n rfl rfl rfl ?_
                  refine w_bipush rfl (by decide) rfl ?_
                  refine w_ic_eq (pc2 := 102) (pc3 := 48) rfl (by decide) rfl ⟨by omega, by omega⟩ ⟨by decide, by decide⟩ (fun q8 => ?_) (fun q8 => ?_)
                  · skip
                    refine w_iconst rfl rfl ?_
                    refine w_goto (pc2 := 107) rfl (by decide) ?_
                    exact w_j1 (p := c = 40 ∨ (c = 41 ∨ (c = 91 ∨ (c = 93 ∨ (c = 123 ∨ (c = 125 ∨ (c = 59 ∨ (c = 44 ∨ (c = 61 ∨ (c = 43 ∨ (c = 45 ∨ (c = 42 ∨ (c = 47 ∨ (c = 38 ∨ (c = 60 ∨ (c = 62 ∨ c = 35)))))))))))))))) (Or.inr (Or.inr (Or.inr (Or.inr (Or.inr (Or.inr (Or.inr (Or.inl q8)))))))) kT
                  · skip
                    refine w_iload_n rfl rfl rfl ?_
                    refine w_bipush rfl (by decide) rfl ?_
                    refine w_ic_eq (pc2 := 102) (pc3 := 54) rfl (by decide) rfl ⟨by omega, by omega⟩ ⟨by decide, by decide⟩ (fun q9 => ?_) (fun q9 => ?_)
                    · skip
                      refine w_iconst rfl rfl ?_
                      refine w_goto (pc2 := 107) rfl (by decide) ?_
                      exact w_j1 (p := c = 40 ∨ (c = 41 ∨ (c = 91 ∨ (c = 93 ∨ (c = 123 ∨ (c = 125 ∨ (c = 59 ∨ (c = 44 ∨ (c = 61 ∨ (c = 43 ∨ (c = 45 ∨ (c = 42 ∨ (c = 47 ∨ (c = 38 ∨ (c = 60 ∨ (c = 62 ∨ c = 35)))))))))))))))) (Or.inr (Or.inr (Or.inr (Or.inr (Or.inr (Or.inr (Or.inr (Or.inr (Or.inl q9))))))))) kT
                    · skip
                      refine w_iload_n rfl rfl rfl ?_
                      refine w_bipush rfl (by decide) rfl ?_
                      refine w_ic_eq (pc2 := 102) (pc3 := 60) rfl (by decide) rfl ⟨by omega, by omega⟩ ⟨by decide, by decide⟩ (fun q10 => ?_) (fun q10 => ?_)
                      · skip
                        refine w_iconst rfl rfl ?_
                        refine w_goto (pc2 := 107) rfl (by decide) ?_
                        exact w_j1 (p := c = 40 ∨ (c = 41 ∨ (c = 91 ∨ (c = 93 ∨ (c = 123 ∨ (c = 125 ∨ (c = 59 ∨ (c = 44 ∨ (c = 61 ∨ (c = 43 ∨ (c = 45 ∨ (c = 42 ∨ (c = 47 ∨ (c = 38 ∨ (c = 60 ∨ (c = 62 ∨ c = 35)))))))))))))))) (Or.inr (Or.inr (Or.inr (Or.inr (Or.inr (Or.inr (Or.inr (Or.inr (Or.inr (Or.inl q10)))))))))) kT
                      · skip
                        refine w_iload_n rfl rfl rfl ?_
                        refine w_bipush rfl (by decide) rfl ?_
                        refine w_ic_eq (pc2 := 102) (pc3 := 66) rfl (by decide) rfl ⟨by omega, by omega⟩ ⟨by decide, by decide⟩ (fun q11 => ?_) (fun q11 => ?_)
                        · skip
                          refine w_iconst rfl rfl ?_
                          refine w_goto (pc2 := 107) rfl (by decide) ?_
                          exact w_j1 (p := c = 40 ∨ (c = 41 ∨ (c = 91 ∨ (c = 93 ∨ (c = 123 ∨ (c = 125 ∨ (c = 59 ∨ (c = 44 ∨ (c = 61 ∨ (c = 43 ∨ (c = 45 ∨ (c = 42 ∨ (c = 47 ∨ (c = 38 ∨ (c = 60 ∨ (c = 62 ∨ c = 35)))))))))))))))) (Or.inr (Or.inr (Or.inr (Or.inr (Or.inr (Or.inr (Or.inr (Or.inr (Or.inr (Or.inr (Or.inl q11))))))))))) kT
                        · skip
                          refine w_iload_n rfl rfl rfl ?_
                          refine w_bipush rfl (by decide) rfl ?_
                          refine w_ic_eq (pc2 := 102) (pc3 := 72) rfl (by decide) rfl ⟨by omega, by omega⟩ ⟨by decide, by decide⟩ (fun q12 => ?_) (fun q12 => ?_)
                          · skip
                            refine w_iconst rfl rfl ?_
                            refine w_goto (pc2 := 107) rfl (by decide) ?_
                            exact w_j1 (p := c = 40 ∨ (c = 41 ∨ (c = 91 ∨ (c = 93 ∨ (c = 123 ∨ (c = 125 ∨ (c = 59 ∨ (c = 44 ∨ (c = 61 ∨ (c = 43 ∨ (c = 45 ∨ (c = 42 ∨ (c = 47 ∨ (c = 38 ∨ (c = 60 ∨ (c = 62 ∨ c = 35)))))))))))))))) (Or.inr (Or.inr (Or.inr (Or.inr (Or.inr (Or.inr (Or.inr (Or.inr (Or.inr (Or.inr (Or.inr (Or.inl q12)))))))))))) kT
                          · skip
                            refine w_iload_n rfl rfl rfl ?_
                            refine w_bipush rfl (by decide) rfl ?_
                            refine w_ic_eq (pc2 := 102) (pc3 := 78) rfl (by decide) rfl ⟨by omega, by omega⟩ ⟨by decide, by decide⟩ (fun q13 => ?_) (fun q13 => ?_)
                            · skip
                              refine w_iconst rfl rfl ?_
                              refine w_goto (pc2 := 107) rfl (by decide) ?_
                              exact w_j1 (p := c = 40 ∨ (c = 41 ∨ (c = 91 ∨ (c = 93 ∨ (c = 123 ∨ (c = 125 ∨ (c = 59 ∨ (c = 44 ∨ (c = 61 ∨ (c = 43 ∨ (c = 45 ∨ (c = 42 ∨ (c = 47 ∨ (c = 38 ∨ (c = 60 ∨ (c = 62 ∨ c = 35)))))))))))))))) (Or.inr (Or.inr (Or.inr (Or.inr (Or.inr (Or.inr (Or.inr (Or.inr (Or.inr (Or.inr (Or.inr (Or.inr (Or.inl q13))))))))))))) kT
                            · skip
                              refine w_iload_n rfl rfl rfl ?_
                              refine w_bipush rfl (by decide) rfl ?_
                              refine w_ic_eq (pc2 := 102) (pc3 := 84) rfl (by decide) rfl ⟨by omega, by omega⟩ ⟨by decide, by decide⟩ (fun q14 => ?_) (fun q14 => ?_)
                              · skip
                                refine w_iconst rfl rfl ?_
                                refine w_goto (pc2 := 107) rfl (by decide) ?_
                                exact w_j1 (p := c = 40 ∨ (c = 41 ∨ (c = 91 ∨ (c = 93 ∨ (c = 123 ∨ (c = 125 ∨ (c = 59 ∨ (c = 44 ∨ (c = 61 ∨ (c = 43 ∨ (c = 45 ∨ (c = 42 ∨ (c = 47 ∨ (c = 38 ∨ (c = 60 ∨ (c = 62 ∨ c = 35)))))))))))))))) (Or.inr (Or.inr (Or.inr (Or.inr (Or.inr (Or.inr (Or.inr (Or.inr (Or.inr (Or.inr (Or.inr (Or.inr (Or.inr (Or.inl q14)))))))))))))) kT
                              · skip
                                refine w_iload_n rfl rfl rfl ?_
                                refine w_bipush rfl (by decide) rfl ?_
                                refine w_ic_eq (pc2 := 102) (pc3 := 90) rfl (by decide) rfl ⟨by omega, by omega⟩ ⟨by decide, by decide⟩ (fun q15 => ?_) (fun q15 => ?_)
                                · skip
                                  refine w_iconst rfl rfl ?_
                                  refine w_goto (pc2 := 107) rfl (by decide) ?_
                                  exact w_j1 (p := c = 40 ∨ (c = 41 ∨ (c = 91 ∨ (c = 93 ∨ (c = 123 ∨ (c = 125 ∨ (c = 59 ∨ (c = 44 ∨ (c = 61 ∨ (c = 43 ∨ (c = 45 ∨ (c = 42 ∨ (c = 47 ∨ (c = 38 ∨ (c = 60 ∨ (c = 62 ∨ c = 35)))))))))))))))) (Or.inr (Or.inr (Or.inr (Or.inr (Or.inr (Or.inr (Or.inr (Or.inr (Or.inr (Or.inr (Or.inr (Or.inr (Or.inr (Or.inr (Or.inl q15))))))))))))))) kT
                                · skip
                                  refine w_iload_n rfl rfl rfl ?_
                                  refine w_bipush rfl (by decide) rfl ?_
                                  refine w_ic_eq (pc2 := 102) (pc3 := 96) rfl (by decide) rfl ⟨by omega, by omega⟩ ⟨by decide, by decide⟩ (fun q16 => ?_) (fun q16 => ?_)
                                  · skip
                                    refine w_iconst rfl rfl ?_
                                    refine w_goto (pc2 := 107) rfl (by decide) ?_
                                    exact w_j1 (p := c = 40 ∨ (c = 41 ∨ (c = 91 ∨ (c = 93 ∨ (c = 123 ∨ (c = 125 ∨ (c = 59 ∨ (c = 44 ∨ (c = 61 ∨ (c = 43 ∨ (c = 45 ∨ (c = 42 ∨ (c = 47 ∨ (c = 38 ∨ (c = 60 ∨ (c = 62 ∨ c = 35)))))))))))))))) (Or.inr (Or.inr (Or.inr (Or.inr (Or.inr (Or.inr (Or.inr (Or.inr (Or.inr (Or.inr (Or.inr (Or.inr (Or.inr (Or.inr (Or.inr (Or.inl q16)))))))))))))))) kT
                                  · skip
                                    refine w_iload_n rfl rfl rfl ?_
                                    refine w_bipush rfl (by decide) rfl ?_
                                    refine w_ic_ne (pc2 := 106) (pc3 := 102) rfl (by decide) rfl ⟨by omega, by omega⟩ ⟨by decide, by decide⟩ (fun q17 => ?_) (fun q17 => ?_)
                                    · skip
                                      refine w_iconst rfl rfl ?_
                                      exact w_j0 (p := c = 40 ∨ (c = 41 ∨ (c = 91 ∨ (c = 93 ∨ (c = 123 ∨ (c = 125 ∨ (c = 59 ∨ (c = 44 ∨ (c = 61 ∨ (c = 43 ∨ (c = 45 ∨ (c = 42 ∨ (c = 47 ∨ (c = 38 ∨ (c = 60 ∨ (c = 62 ∨ c = 35)))))))))))))))) (not_or.mpr ⟨q1, (not_or.mpr ⟨q2, (not_or.mpr ⟨q3, (not_or.mpr ⟨q4, (not_or.mpr ⟨q5, (not_or.mpr ⟨q6, (not_or.mpr ⟨q7, (not_or.mpr ⟨q8, (not_or.mpr ⟨q9, (not_or.mpr ⟨q10, (not_or.mpr ⟨q11, (not_or.mpr ⟨q12, (not_or.mpr ⟨q13, (not_or.mpr ⟨q14, (not_or.mpr ⟨q15, (not_or.mpr ⟨q16, q17⟩)⟩)⟩)⟩)⟩)⟩)⟩)⟩)⟩)⟩)⟩)⟩)⟩)⟩)⟩)⟩) kT
                                    · skip
                                      refine w_iconst rfl rfl ?_
                                      refine w_goto (pc2 := 107) rfl (by decide) ?_
                                      exact w_j1 (p := c = 40 ∨ (c = 41 ∨ (c = 91 ∨ (c = 93 ∨ (c = 123 ∨ (c = 125 ∨ (c = 59 ∨ (c = 44 ∨ (c = 61 ∨ (c = 43 ∨ (c = 45 ∨ (c = 42 ∨ (c = 47 ∨ (c = 38 ∨ (c = 60 ∨ (c = 62 ∨ c = 35)))))))))))))))) (Or.inr (Or.inr (Or.inr (Or.inr (Or.inr (Or.inr (Or.inr (Or.inr (Or.inr (Or.inr (Or.inr (Or.inr (Or.inr (Or.inr (Or.inr (Or.inr q17)))))))))))))))) kT
  · show w_T _ _ 119 107 _ [.int (iZ (zB (decide (c = 40 ∨ (c = 41 ∨ (c = 91 ∨ (c = 93 ∨ (c = 123 ∨ (c = 125 ∨ (c = 59 ∨ (c = 44 ∨ (c = 61 ∨ (c = 43 ∨ (c = 45 ∨ (c = 42 ∨ (c = 47 ∨ (c = 38 ∨ (c = 60 ∨ (c = 62 ∨ c = 35)))))))))))))))))))] _ _
    refine w_bret rfl rfl ?_
    exact q_b (decide_eq_decide.mpr (by omega))
theorem r_join_c {sc : x_S} {d : Nat} {S : w_S} {f : Int} (f0 : 0 ≤ f) (f2 : f ≤ 2) (h0 : 0 ≤ sA S 251 f) (h1 : sA S 251 f ≤ 160) (hg : ∀ i, 0 ≤ i → i < sA S 251 f → 0 ≤ sA S 250 (160 * f + i) ∧ sA S 250 (160 * f + i) < 128) (hd : 1 ≤ d) : ∀ n : Nat, (∀ (b : Int) (i : Int) (m : Nat) (T : w_S) (lv : x_L) (l0 : lv 0 = some (.ref 249)) (l1 : lv 1 = some (.int (iZ f))) (l2 : lv 2 = some (.int (iZ b))) (l3 : lv 3 = some (.int (iZ (160 * f)))) (l4 : lv 4 = some (.int (iZ i))) (hfr : fr (fun a => a = 249 ∨ a = 252 ∨ a = 253) S T) (hf5 : ∀ k, ¬ k = 5 → sv T 249 k = sv S 249 k) (i0 : 0 ≤ i) (i1 : i ≤ sA S 251 f) (z0 : 0 ≤ sv T 249 5) (z1 : sv T 249 5 ≤ i) (hmm : sA S 251 f - i ≤ m) (he : tri (fun k => sA S 250 (160 * f + k)) (sA S 251 f) m i b (sA T 252) (sA T 253) (sv T 249 5) = tri (fun k => sA S 250 (160 * f + k)) (sA S 251 f) 161 0 0 (sA S 252) (sA S 253) 0) (hm : 400 + (sA S 251 f - i).toNat < n), w_T sc d 124 16 lv [] T (fun v S2 => v = none ∧ fr (fun a => a = 249 ∨ a = 252 ∨ a = 253) S S2 ∧ (∀ k, ¬ k = 5 → sv S2 249 k = sv S 249 k) ∧ (sA S2 252, sv S2 249 5) = jfn (jnl (tri (fun k => sA S 250 (160 * f + k)) (sA S 251 f) 161 0 0 (sA S 252) (sA S 253) 0).2.2 161 0 0 (tri (fun k => sA S 250 (160 * f + k)) (sA S 251 f) 161 0 0 (sA S 252) (sA S 253) 0).1 (tri (fun k => sA S 250 (160 * f + k)) (sA S 251 f) 161 0 0 (sA S 252) (sA S 253) 0).2.1) ∧ ag (sA S2 253) (jnl (tri (fun k => sA S 250 (160 * f + k)) (sA S 251 f) 161 0 0 (sA S 252) (sA S 253) 0).2.2 161 0 0 (tri (fun k => sA S 250 (160 * f + k)) (sA S 251 f) 161 0 0 (sA S 252) (sA S 253) 0).1 (tri (fun k => sA S 250 (160 * f + k)) (sA S 251 f) 161 0 0 (sA S 252) (sA S 253) 0).2.1).2.1 (jnl (tri (fun k => sA S 250 (160 * f + k)) (sA S 251 f) 161 0 0 (sA S 252) (sA S 253) 0).2.2 161 0 0 (tri (fun k => sA S 250 (160 * f + k)) (sA S 251 f) 161 0 0 (sA S 252) (sA S 253) 0).1 (tri (fun k => sA S 250 (160 * f + k)) (sA S 251 f) 161 0 0 (sA S 252) (sA S 253) 0).2.1).2.2 ∧ 0 ≤ sv S2 249 5 ∧ sv S2 249 5 ≤ 161 ∧ ∀ j, 0 ≤ j → j < sv S2 249 5 → 0 ≤ sA S2 252 j ∧ sA S2 252 j < 128)) ∧ (∀ (z : Int) (i : Int) (m : Nat) (T : w_S) (lv : x_L) (l0 : lv 0 = some (.ref 249)) (l4 : lv 4 = some (.int (iZ z))) (l5 : lv 5 = some (.int (iZ i))) (hfr : fr (fun a => a = 249 ∨ a = 252 ∨ a = 253) S T) (hf5 : ∀ k, ¬ k = 5 → sv T 249 k = sv S 249 k) (hq : sv T 249 5 = (tri (fun k => sA S 250 (160 * f + k)) (sA S 251 f) 161 0 0 (sA S 252) (sA S 253) 0).2.2) (qn : (tri (fun k => sA S 250 (160 * f + k)) (sA S 251 f) 161 0 0 (sA S 252) (sA S 253) 0).2.2 ≤ 160) (i0 : 0 ≤ z) (i1 : z ≤ i) (i2 : i ≤ (tri (fun k => sA S 250 (160 * f + k)) (sA S 251 f) 161 0 0 (sA S 252) (sA S 253) 0).2.2) (hmm : (tri (fun k => sA S 250 (160 * f + k)) (sA S 251 f) 161 0 0 (sA S 252) (sA S 253) 0).2.2 - i ≤ m) (hr : ∀ j, 0 ≤ j → j < (tri (fun k => sA S 250 (160 * f + k)) (sA S 251 f) 161 0 0 (sA S 252) (sA S 253) 0).2.2 → 0 ≤ sA T 252 j ∧ sA T 252 j < 128) (he : jnl (tri (fun k => sA S 250 (160 * f + k)) (sA S 251 f) 161 0 0 (sA S 252) (sA S 253) 0).2.2 m i z (sA T 252) (sA T 253) = jnl (tri (fun k => sA S 250 (160 * f + k)) (sA S 251 f) 161 0 0 (sA S 252) (sA S 253) 0).2.2 161 0 0 (tri (fun k => sA S 250 (160 * f + k)) (sA S 251 f) 161 0 0 (sA S 252) (sA S 253) 0).1 (tri (fun k => sA S 250 (160 * f + k)) (sA S 251 f) 161 0 0 (sA S 252) (sA S 253) 0).2.1) (hm : (200 - i).toNat < n), w_T sc d 124 190 lv [] T (fun v S2 => v = none ∧ fr (fun a => a = 249 ∨ a = 252 ∨ a = 253) S S2 ∧ (∀ k, ¬ k = 5 → sv S2 249 k = sv S 249 k) ∧ (sA S2 252, sv S2 249 5) = jfn (jnl (tri (fun k => sA S 250 (160 * f + k)) (sA S 251 f) 161 0 0 (sA S 252) (sA S 253) 0).2.2 161 0 0 (tri (fun k => sA S 250 (160 * f + k)) (sA S 251 f) 161 0 0 (sA S 252) (sA S 253) 0).1 (tri (fun k => sA S 250 (160 * f + k)) (sA S 251 f) 161 0 0 (sA S 252) (sA S 253) 0).2.1) ∧ ag (sA S2 253) (jnl (tri (fun k => sA S 250 (160 * f + k)) (sA S 251 f) 161 0 0 (sA S 252) (sA S 253) 0).2.2 161 0 0 (tri (fun k => sA S 250 (160 * f + k)) (sA S 251 f) 161 0 0 (sA S 252) (sA S 253) 0).1 (tri (fun k => sA S 250 (160 * f + k)) (sA S 251 f) 161 0 0 (sA S 252) (sA S 253) 0).2.1).2.1 (jnl (tri (fun k => sA S 250 (160 * f + k)) (sA S 251 f) 161 0 0 (sA S 252) (sA S 253) 0).2.2 161 0 0 (tri (fun k => sA S 250 (160 * f + k)) (sA S 251 f) 161 0 0 (sA S 252) (sA S 253) 0).1 (tri (fun k => sA S 250 (160 * f + k)) (sA S 251 f) 161 0 0 (sA S 252) (sA S 253) 0).2.1).2.2 ∧ 0 ≤ sv S2 249 5 ∧ sv S2 249 5 ≤ 161 ∧ ∀ j, 0 ≤ j → j < sv S2 249 5 → 0 ≤ sA S2 252 j ∧ sA S2 252 j < 128)) := by
  intro n
  induction n with
  | zero => exact ⟨fun b i m T lv l0 l1 l2 l3 l4 hfr hf5 i0 i1 z0 z1 hmm he hm => absurd hm (Nat.not_lt_zero _), fun z i m T lv l0 l4 l5 hfr hf5 hq qn i0 i1 i2 hmm hr he hm => absurd hm (Nat.not_lt_zero _)⟩
  | succ n ih =>
    refine ⟨?_, ?_⟩
    · skip
      intro b i m T lv l0 l1 l2 l3 l4 hfr hf5 i0 i1 z0 z1 hmm he hm
      have e251 : sA T 251 = sA S 251 := fr_gA hfr (by decide)
      have e250 : sA T 250 = sA S 250 := fr_gA hfr (by decide)
      have e251f : sA T 251 f = sA S 251 f := by rw [e251]
      refine w_iload rfl l4 rfl ?_
      refine w_aload_n rfl l0 rfl ?_
      refine w_getR rfl rfl sh_249 rfl rfl ?_
      refine w_iload_n rfl l1 rfl ?_
      refine w_iald (z := sA T 251 f) rfl sh_251 (by omega) (by omega) (by decide) rfl rfl ?_
      refine w_ic_ge (pc2 := 184) (pc3 := 27) rfl (by decide) rfl ⟨by omega, by omega⟩ ⟨by omega, by omega⟩ (fun c24 => ?_) (fun c24 => ?_)
      · skip
        rw [tri_out (by omega)] at he
        have e1 := triple_eq he
        have tz := tri_z (g := fun k => sA S 250 (160 * f + k)) hg 161 0 0 0 (sA S 252) (sA S 253) (Int.le_refl 0) h0 (Int.le_refl 0) (Int.le_refl 0) (Int.le_refl 0) (Int.le_refl 0) (fun j a b => absurd b (by omega)) (fun j a b => absurd b (by omega))
        refine w_iconst rfl rfl ?_
        refine w_istore rfl (by decide) rfl ?_
        refine w_iconst rfl rfl ?_
        refine w_istore rfl (by decide) rfl ?_
        exact ih.2 0 0 161 _ _ l0 rfl rfl (by exact hfr) (by exact hf5) (by exact e1.2.2) (by omega) (by omega) (by omega) (by omega) (by omega) (by rw [e1.1]; exact tz.2.2.2) (by rw [e1.1, e1.2.1]) (by omega)
      · skip
        obtain ⟨mm, rfl⟩ : ∃ mm, m = mm + 1 := ⟨m - 1, by omega⟩
        refine w_aload_n rfl l0 rfl ?_
        refine w_getR rfl rfl sh_249 rfl rfl ?_
        refine w_iload_n rfl l3 rfl ?_
        refine w_iload rfl l4 rfl ?_
        refine w_iadd rfl rfl ?_
        refine w_iald (z := sA T 250 ((160 * f) + i)) rfl sh_250 (by omega) (by omega) (by decide) rfl rfl ?_
        have g1 := hg ((160 * f) + i - 160 * f) (by omega) (by omega)
        rw [← e250, show 160 * f + ((160 * f) + i - 160 * f) = (160 * f) + i by omega] at g1
        refine w_istore rfl (by decide) rfl ?_
        refine w_iload rfl rfl rfl ?_
        refine w_bipush rfl (by decide) rfl ?_
        apply w_jn (A := w_T _ _ 124 79 _ [.int (iZ (zB (decide ((sA T 250 ((160 * f) + i)) = 63 ∧ (i + 2 < sA T 251 f ∧ (sA T 250 (((160 * f) + i) + 1)) = 63)))))] _ _)
        · intro kT
          refine w_ic_ne (pc2 := 78) (pc3 := 45) rfl (by decide) rfl ⟨by omega, by omega⟩ ⟨by decide, by decide⟩ (fun q1 => ?_) (fun q1 => ?_)
          · skip
            refine w_iconst rfl rfl ?_
            exact w_j0 (p := (sA T 250 ((160 * f) + i)) = 63 ∧ (i + 2 < sA T 251 f ∧ (sA T 250 (((160 * f) + i) + 1)) = 63)) (fun q => q1 q.1) kT
          · skip
            refine w_iload rfl (congrArg x_k2 l4) rfl ?_
            refine w_iconst rfl rfl ?_
            refine w_iadd rfl rfl ?_
            refine w_aload_n rfl l0 rfl ?_
            refine w_getR rfl rfl sh_249 rfl rfl ?_
            refine w_iload_n rfl l1 rfl ?_
            refine w_iald (z := sA T 251 f) rfl sh_251 (by omega) (by omega) (by decide) rfl rfl ?_
            refine w_ic_ge (pc2 := 78) (pc3 := 58) rfl (by decide) rfl ⟨by omega, by omega⟩ ⟨by omega, by omega⟩ (fun q2 => ?_) (fun q2 => ?_)
            · skip
              refine w_iconst rfl rfl ?_
              exact w_j0 (p := (sA T 250 ((160 * f) + i)) = 63 ∧ (i + 2 < sA T 251 f ∧ (sA T 250 (((160 * f) + i) + 1)) = 63)) (fun q => (fun q => (Int.not_lt.mpr q2) q.1) q.2) kT
            · skip
              refine w_aload_n rfl l0 rfl ?_
              refine w_getR rfl rfl sh_249 rfl rfl ?_
              refine w_iload_n rfl l3 rfl ?_
              refine w_iload rfl (congrArg x_k2 l4) rfl ?_
              refine w_iadd rfl rfl ?_
              refine w_iconst rfl rfl ?_
              refine w_iadd rfl rfl ?_
              refine w_iald (z := sA T 250 (((160 * f) + i) + 1)) rfl sh_250 (by omega) (by omega) (by decide) rfl rfl ?_
              have g3 := hg (((160 * f) + i) + 1 - 160 * f) (by omega) (by omega)
              rw [← e250, show 160 * f + (((160 * f) + i) + 1 - 160 * f) = ((160 * f) + i) + 1 by omega] at g3
              refine w_bipush rfl (by decide) rfl ?_
              refine w_ic_ne (pc2 := 78) (pc3 := 74) rfl (by decide) rfl ⟨by omega, by omega⟩ ⟨by decide, by decide⟩ (fun q3 => ?_) (fun q3 => ?_)
              · skip
                refine w_iconst rfl rfl ?_
                exact w_j0 (p := (sA T 250 ((160 * f) + i)) = 63 ∧ (i + 2 < sA T 251 f ∧ (sA T 250 (((160 * f) + i) + 1)) = 63)) (fun q => (fun q => q3 q.2) q.2) kT
              · skip
                refine w_iconst rfl rfl ?_
                refine w_goto (pc2 := 79) rfl (by decide) ?_
                exact w_j1 (p := (sA T 250 ((160 * f) + i)) = 63 ∧ (i + 2 < sA T 251 f ∧ (sA T 250 (((160 * f) + i) + 1)) = 63)) ⟨q1, ⟨q2, q3⟩⟩ kT
        · show w_T _ _ 124 79 _ [.int (iZ (zB (decide ((sA T 250 ((160 * f) + i)) = 63 ∧ (i + 2 < sA T 251 f ∧ (sA T 250 (((160 * f) + i) + 1)) = 63)))))] _ _
          refine w_istore rfl (by decide) rfl ?_
          refine w_iload rfl rfl rfl ?_
          apply w_jn (A := w_T _ _ 124 104 _ [.int (iZ (if ¬ ((sA T 250 ((160 * f) + i)) = 63 ∧ (i + 2 < sA T 251 f ∧ (sA T 250 (((160 * f) + i) + 1)) = 63)) then 0 else tv (sA T 250 (((160 * f) + i) + 2))))] _ _)
          · intro kT
            refine w_p_eq (pc2 := 103) (pc3 := 86) rfl (by decide) rfl (fun q4 => ?_) (fun q4 => ?_)
            · skip
              refine w_iconst rfl rfl ?_
              exact w_ji1 (p := ¬ ((sA T 250 ((160 * f) + i)) = 63 ∧ (i + 2 < sA T 251 f ∧ (sA T 250 (((160 * f) + i) + 1)) = 63))) (a := 0) (b := tv (sA T 250 (((160 * f) + i) + 2))) q4 kT
            · skip
              refine w_aload_n rfl l0 rfl ?_
              refine w_getR rfl rfl sh_249 rfl rfl ?_
              refine w_iload_n rfl l3 rfl ?_
              refine w_iload rfl (congrArg x_k2 l4) rfl ?_
              refine w_iadd rfl rfl ?_
              refine w_iconst rfl rfl ?_
              refine w_iadd rfl rfl ?_
              refine w_iald (z := sA T 250 (((160 * f) + i) + 2)) rfl sh_250 (by omega) (by omega) (by decide) rfl rfl ?_
              have g5 := hg (((160 * f) + i) + 2 - 160 * f) (by omega) (by omega)
              rw [← e250, show 160 * f + (((160 * f) + i) + 2 - 160 * f) = ((160 * f) + i) + 2 by omega] at g5
              refine w_CS (as := [.int (iZ (sA T 250 (((160 * f) + i) + 2)))]) (r := []) rfl rfl rfl rfl (Nat.le_of_ble_eq_true rfl) (Nat.le_of_ble_eq_true rfl) (by omega) rfl (r_tri (c := sA T 250 (((160 * f) + i) + 2)) (by omega) (by omega)) ?_
              rintro _ _ ⟨rfl, hS⟩
              rw [hS]
              show w_T _ _ 124 100 _ [.int (iZ (tv (sA T 250 (((160 * f) + i) + 2))))] _ _
              refine w_goto (pc2 := 104) rfl (by decide) ?_
              exact w_ji0 (p := ¬ ((sA T 250 ((160 * f) + i)) = 63 ∧ (i + 2 < sA T 251 f ∧ (sA T 250 (((160 * f) + i) + 1)) = 63))) (a := 0) (b := tv (sA T 250 (((160 * f) + i) + 2))) (not_not_intro q4) kT
          · show w_T _ _ 124 104 _ [.int (iZ (if ¬ ((sA T 250 ((160 * f) + i)) = 63 ∧ (i + 2 < sA T 251 f ∧ (sA T 250 (((160 * f) + i) + 1)) = 63)) then 0 else tv (sA T 250 (((160 * f) + i) + 2))))] _ _
            generalize ht : (if ¬ ((sA T 250 ((160 * f) + i)) = 63 ∧ (i + 2 < sA T 251 f ∧ (sA T 250 (((160 * f) + i) + 1)) = 63)) then 0 else tv (sA T 250 (((160 * f) + i) + 2))) = t
            have htq : t = tq (fun k => sA S 250 (160 * f + k)) (sA S 251 f) i := by
              rw [← ht, e250, e251]
              unfold tq
              simp only [Int.add_assoc]
              by_cases q : i + 2 < sA S 251 f ∧ sA S 250 (160 * f + i) = 63 ∧ sA S 250 (160 * f + (i + 1)) = 63
              · rw [if_pos q, if_neg (by omega)]
              · rw [if_neg q, if_pos (by omega)]
            have tr := tq_R (fun k => sA S 250 (160 * f + k)) (sA S 251 f) i
            have tl := tq_lt (g := fun k => sA S 250 (160 * f + k)) (n := sA S 251 f) (i := i)
            rw [← htq] at tr tl
            refine w_istore rfl (by decide) rfl ?_
            refine w_aload_n rfl l0 rfl ?_
            refine w_getR rfl rfl sh_249 rfl rfl ?_
            refine w_aload_n rfl l0 rfl ?_
            refine w_getI (z := sv T 249 5) rfl rfl sh_249 rfl rfl rfl ?_
            refine w_iload rfl rfl rfl ?_
            apply w_jn (A := w_T _ _ 124 126 _ [.int (iZ (if t ≤ 0 then sA T 250 ((160 * f) + i) else t)), .int (iZ (sv T 249 5)), .ref 252] _ _)
            · intro kT
              refine w_if_le (pc2 := 124) (pc3 := 119) rfl (by decide) rfl ⟨by omega, by omega⟩ (fun q5 => ?_) (fun q5 => ?_)
              · skip
                refine w_iload rfl rfl rfl ?_
                exact w_ji1 (p := t ≤ 0) (a := sA T 250 ((160 * f) + i)) (b := t) q5 kT
              · skip
                refine w_iload rfl rfl rfl ?_
                refine w_goto (pc2 := 126) rfl (by decide) ?_
                exact w_ji0 (p := t ≤ 0) (a := sA T 250 ((160 * f) + i)) (b := t) (Int.not_le.mpr q5) kT
            · show w_T _ _ 124 126 _ [.int (iZ (if t ≤ 0 then sA T 250 ((160 * f) + i) else t)), .int (iZ (sv T 249 5)), .ref 252] _ _
              refine w_iaS (f := sA T 252) rfl sh_252 (by omega) (by omega) (by decide) rfl rfl ?_
              refine w_aload_n rfl l0 rfl ?_
              refine w_getR rfl rfl sh_249 rfl rfl ?_
              refine w_aload_n rfl l0 rfl ?_
              refine w_getI (z := sv T 249 5) rfl rfl sh_249 rfl rfl rfl ?_
              refine w_iload_n rfl l2 rfl ?_
              refine w_iaS (f := sA T 253) rfl sh_253 (by omega) (by omega) (by decide) (rA_ne (by decide)) rfl ?_
              refine w_aload_n rfl l0 rfl ?_
              refine w_dup rfl rfl rfl ?_
              refine w_getI (z := sv T 249 5) rfl rfl sh_249 rfl rfl rfl ?_
              refine w_iconst rfl rfl ?_
              refine w_iadd rfl rfl ?_
              refine w_putf rfl rfl sh_249 rfl rfl (by decide) rfl ?_
              refine w_iload rfl rfl rfl ?_
              refine w_bipush rfl (by decide) rfl ?_
              apply w_jn (A := w_T _ _ 124 161 _ [.int (iZ (if ¬ (sA T 250 ((160 * f) + i)) = 10 then b else b + 1))] _ _)
              · intro kT
                refine w_ic_ne (pc2 := 160) (pc3 := 154) rfl (by decide) rfl ⟨by omega, by omega⟩ ⟨by decide, by decide⟩ (fun q6 => ?_) (fun q6 => ?_)
                · skip
                  refine w_iload_n rfl l2 rfl ?_
                  exact w_ji1 (p := ¬ (sA T 250 ((160 * f) + i)) = 10) (a := b) (b := b + 1) q6 kT
                · skip
                  refine w_iload_n rfl l2 rfl ?_
                  refine w_iconst rfl rfl ?_
                  refine w_iadd rfl rfl ?_
                  refine w_goto (pc2 := 161) rfl (by decide) ?_
                  exact w_ji0 (p := ¬ (sA T 250 ((160 * f) + i)) = 10) (a := b) (b := b + 1) (not_not_intro q6) kT
              · show w_T _ _ 124 161 _ [.int (iZ (if ¬ (sA T 250 ((160 * f) + i)) = 10 then b else b + 1))] _ _
                refine w_istore_n rfl (by decide) rfl ?_
                refine w_iload rfl rfl rfl ?_
                apply w_jn (A := w_T _ _ 124 176 _ [.int (iZ (if t ≤ 0 then i else i + 2))] _ _)
                · intro kT
                  refine w_if_le (pc2 := 174) (pc3 := 167) rfl (by decide) rfl ⟨by omega, by omega⟩ (fun q7 => ?_) (fun q7 => ?_)
                  · skip
                    refine w_iload rfl (congrArg x_k2 l4) rfl ?_
                    exact w_ji1 (p := t ≤ 0) (a := i) (b := i + 2) q7 kT
                  · skip
                    refine w_iload rfl (congrArg x_k2 l4) rfl ?_
                    refine w_iconst rfl rfl ?_
                    refine w_iadd rfl rfl ?_
                    refine w_goto (pc2 := 176) rfl (by decide) ?_
                    exact w_ji0 (p := t ≤ 0) (a := i) (b := i + 2) (Int.not_le.mpr q7) kT
                · show w_T _ _ 124 176 _ [.int (iZ (if t ≤ 0 then i else i + 2))] _ _
                  refine w_istore rfl (by decide) rfl ?_
                  refine w_iinc rfl rfl (by decide) rfl ?_
                  refine w_goto (pc2 := 16) rfl (by decide) ?_
                  exact ih.1 (if ¬ (sA T 250 ((160 * f) + i)) = 10 then b else b + 1) ((if t ≤ 0 then i else i + 2) + 1) mm _ _ (by exact l0) (by exact (congrArg x_k2 l1)) (by exact rfl) (by exact (congrArg x_k2 (congrArg x_k2 l3))) (by exact rfl) (by exact (fr_v (fr_A (fr_A hfr (by decide)) (by decide)) (by decide))) (by intro k hk; show sv (w_v _ 249 5 _) 249 k = _; rw [rv_ne (by omega)]; exact hf5 k hk) (by omega) (by omega) (by show 0 ≤ (sv T 249 5 + 1); omega) (by show (sv T 249 5 + 1) ≤ _; omega) (by omega) (by rw [tri_in (by omega), ← htq] at he; refine Eq.trans ?_ he; show tri _ _ _ ((if t ≤ 0 then i else i + 2) + 1) (if ¬ (sA T 250 ((160 * f) + i)) = 10 then b else b + 1) (w_u (sA T 252) (sv T 249 5) (if t ≤ 0 then sA T 250 ((160 * f) + i) else t)) (w_u (sA T 253) (sv T 249 5) b) (sv T 249 5 + 1) = _; rw [e250]; have x1 : (if t ≤ 0 then i else i + 2) + 1 = i + (if t = 0 then 0 else 2) + 1 := (by split <;> split <;> omega); have x2 : (if ¬ sA S 250 (160 * f + i) = 10 then b else b + 1) = b + zB (decide (sA S 250 (160 * f + i) = 10)) := (by by_cases q : sA S 250 (160 * f + i) = 10; (rw [if_neg (not_not_intro q), zB_t (decide_eq_true q)]); (rw [if_pos q, zB_f (decide_eq_false q), Int.add_zero])); have x3 : (if t ≤ 0 then sA S 250 (160 * f + i) else t) = if t = 0 then sA S 250 (160 * f + i) else t := (by split <;> split <;> omega); rw [x1, x2, x3]) (by omega)
    · skip
      intro z i m T lv l0 l4 l5 hfr hf5 hq qn i0 i1 i2 hmm hr he hm
      refine w_iload rfl l5 rfl ?_
      refine w_aload_n rfl l0 rfl ?_
      refine w_getI (z := sv T 249 5) rfl rfl sh_249 rfl rfl rfl ?_
      refine w_ic_ge (pc2 := 279) (pc3 := 199) rfl (by decide) rfl ⟨by omega, by omega⟩ ⟨by omega, by omega⟩ (fun c196 => ?_) (fun c196 => ?_)
      · skip
        rw [jnl_0 (by omega)] at he
        refine w_aload_n rfl l0 rfl ?_
        refine w_iload rfl l4 rfl ?_
        refine w_putf rfl rfl sh_249 rfl rfl (by decide) rfl ?_
        refine w_iload rfl l4 rfl ?_
        apply w_br (A := w_T _ _ 124 304 _ [] _ _) (B := w_T _ _ 124 331 _ [] _ _) (0 < z ∧ (¬ (sA T 252 (z - 1)) = 10))
        · intro kT1 kT2
          refine w_if_le (pc2 := 331) (pc3 := 290) rfl (by decide) rfl ⟨by omega, by omega⟩ (fun q8 => ?_) (fun q8 => ?_)
          · skip
            exact kT2 (fun q => (Int.not_lt.mpr q8) q.1)
          · skip
            refine w_aload_n rfl l0 rfl ?_
            refine w_getR rfl rfl sh_249 rfl rfl ?_
            refine w_iload rfl l4 rfl ?_
            refine w_iconst rfl rfl ?_
            refine w_isub rfl rfl ?_
            refine w_iald (z := sA T 252 (z - 1)) rfl sh_252 (by omega) (by omega) (by decide) rfl rfl ?_
            have g7 := hr (z - 1) (by omega) (by omega)
            refine w_bipush rfl (by decide) rfl ?_
            refine w_ic_eq (pc2 := 331) (pc3 := 304) rfl (by decide) rfl ⟨by omega, by omega⟩ ⟨by decide, by decide⟩ (fun q9 => ?_) (fun q9 => ?_)
            · skip
              exact kT2 (fun q => (not_not_intro q9) q.2)
            · skip
              exact kT1 ⟨q8, q9⟩
        · intro c287
          refine w_aload_n rfl l0 rfl ?_
          refine w_getR rfl rfl sh_249 rfl rfl ?_
          refine w_iload rfl l4 rfl ?_
          refine w_bipush rfl (by decide) rfl ?_
          refine w_iaS (f := sA T 252) rfl sh_252 (by omega) (by omega) (by decide) rfl rfl ?_
          refine w_aload_n rfl l0 rfl ?_
          refine w_getR rfl rfl sh_249 rfl rfl ?_
          refine w_iload rfl l4 rfl ?_
          refine w_iconst rfl rfl ?_
          refine w_iaS (f := sA T 253) rfl sh_253 (by omega) (by omega) (by decide) (rA_ne (by decide)) rfl ?_
          refine w_aload_n rfl l0 rfl ?_
          refine w_dup rfl rfl rfl ?_
          refine w_getI (z := z) rfl rfl sh_249 rfl (rv_self T 249 5 z) rfl ?_
          refine w_iconst rfl rfl ?_
          refine w_iadd rfl rfl ?_
          refine w_putf rfl rfl sh_249 rfl rfl (by decide) rfl ?_
          refine w_vret rfl rfl ?_
          have hz : ∀ j, 0 ≤ j → j < z → 0 ≤ sA T 252 j ∧ sA T 252 j < 128 := fun j a b => hr j a (by omega)
          have hj : jfn (sA T 252, sA T 253, z) = (w_u (sA T 252) z 10, z + 1) := by unfold jfn; rw [if_pos c287]
          refine ⟨rfl, (fr_v (fr_A (fr_A (fr_v hfr (by decide)) (by decide)) (by decide)) (by decide)), (fun k hk => by simp (disch := omega) only [rv_self, rv_ne, rl_self, rl_ne, rA_self, rA_ne, rL_self, rL_ne, rR_self, rR_ne, xvl, xvA, xvL, xvR, xlv, xlA, xlL, xlR, xAv, xAl, xAL, xAR, xLv, xLl, xLA, xLR, xRv, xRl, xRA, xRL]; exact hf5 k hk), by rw [← he, hj]; rfl, ?_, (by show 0 ≤ (z + 1); omega), (by show (z + 1) ≤ 161; omega), ?_⟩
          · rw [← he]
            show ag (w_u (sA T 253) z 0) (sA T 253) z
            exact fun j a b => w_u_ne _ _ (by omega)
          · intro j q1 q2
            replace q2 : j < (z + 1) := q2
            show 0 ≤ (w_u (sA T 252) z 10) j ∧ (w_u (sA T 252) z 10) j < 128
            by_cases hj2 : j = z
            · rw [hj2, w_u_self]; decide
            · rw [w_u_ne _ _ hj2]; exact hz j q1 (by omega)
        · intro c287
          refine w_vret rfl rfl ?_
          have hz : ∀ j, 0 ≤ j → j < z → 0 ≤ sA T 252 j ∧ sA T 252 j < 128 := fun j a b => hr j a (by omega)
          have hj : jfn (sA T 252, sA T 253, z) = (sA T 252, z) := by unfold jfn; rw [if_neg c287]
          refine ⟨rfl, (fr_v hfr (by decide)), (fun k hk => by simp (disch := omega) only [rv_self, rv_ne, rl_self, rl_ne, rA_self, rA_ne, rL_self, rL_ne, rR_self, rR_ne, xvl, xvA, xvL, xvR, xlv, xlA, xlL, xlR, xAv, xAl, xAL, xAR, xLv, xLl, xLA, xLR, xRv, xRl, xRA, xRL]; exact hf5 k hk), by rw [← he, hj]; rfl, ?_, (by show 0 ≤ z; omega), (by show z ≤ 161; omega), ?_⟩
          · rw [← he]
            show ag (sA T 253) (sA T 253) z
            exact fun _ _ _ => rfl
          · exact hz
      · skip
        obtain ⟨mm, rfl⟩ : ∃ mm, m = mm + 1 := ⟨m - 1, by omega⟩
        refine w_aload_n rfl l0 rfl ?_
        refine w_getR rfl rfl sh_249 rfl rfl ?_
        refine w_iload rfl l5 rfl ?_
        refine w_iald (z := sA T 252 i) rfl sh_252 (by omega) (by omega) (by decide) rfl rfl ?_
        have g8 := hr (i) (by omega) (by omega)
        refine w_bipush rfl (by decide) rfl ?_
        apply w_br (A := w_T _ _ 124 236 _ [] _ _) (B := w_T _ _ 124 242 _ [] _ _) (sA T 252 i = 92 ∧ (i + 1 < sv T 249 5 ∧ (sA T 252 (i + 1)) = 10))
        · intro kT1 kT2
          refine w_ic_ne (pc2 := 242) (pc3 := 211) rfl (by decide) rfl ⟨by omega, by omega⟩ ⟨by decide, by decide⟩ (fun q10 => ?_) (fun q10 => ?_)
          · skip
            exact kT2 (fun q => q10 q.1)
          · skip
            refine w_iload rfl l5 rfl ?_
            refine w_iconst rfl rfl ?_
            refine w_iadd rfl rfl ?_
            refine w_aload_n rfl l0 rfl ?_
            refine w_getI (z := sv T 249 5) rfl rfl sh_249 rfl rfl rfl ?_
            refine w_ic_ge (pc2 := 242) (pc3 := 222) rfl (by decide) rfl ⟨by omega, by omega⟩ ⟨by omega, by omega⟩ (fun q11 => ?_) (fun q11 => ?_)
            · skip
              exact kT2 (fun q => (fun q => (Int.not_lt.mpr q11) q.1) q.2)
            · skip
              refine w_aload_n rfl l0 rfl ?_
              refine w_getR rfl rfl sh_249 rfl rfl ?_
              refine w_iload rfl l5 rfl ?_
              refine w_iconst rfl rfl ?_
              refine w_iadd rfl rfl ?_
              refine w_iald (z := sA T 252 (i + 1)) rfl sh_252 (by omega) (by omega) (by decide) rfl rfl ?_
              have g10 := hr (i + 1) (by omega) (by omega)
              refine w_bipush rfl (by decide) rfl ?_
              refine w_ic_ne (pc2 := 242) (pc3 := 236) rfl (by decide) rfl ⟨by omega, by omega⟩ ⟨by decide, by decide⟩ (fun q12 => ?_) (fun q12 => ?_)
              · skip
                exact kT2 (fun q => (fun q => q12 q.2) q.2)
              · skip
                exact kT1 ⟨q10, ⟨q11, q12⟩⟩
        · intro c208
          refine w_iinc rfl l5 (by decide) rfl ?_
          refine w_goto (pc2 := 273) rfl (by decide) ?_
          refine w_iinc rfl rfl (by decide) rfl ?_
          refine w_goto (pc2 := 190) rfl (by decide) ?_
          exact ih.2 z (i + 1 + 1) mm _ _ (by exact l0) (by exact (congrArg x_k2 (congrArg x_k2 l4))) (by exact rfl) (by exact hfr) (by exact hf5) (by exact hq) (by exact qn) (by omega) (by omega) (by omega) (by omega) (by exact hr) (by rw [jnl_2 (by omega) (by rw [hq] at *; omega)] at he; refine Eq.trans ?_ he; show jnl _ _ (i + 1 + 1) (z) (sA T 252) (sA T 253) = _; first | rfl | (congr 1; omega)) (by omega)
        · intro c208
          refine w_aload_n rfl l0 rfl ?_
          refine w_getR rfl rfl sh_249 rfl rfl ?_
          refine w_iload rfl l4 rfl ?_
          refine w_aload_n rfl l0 rfl ?_
          refine w_getR rfl rfl sh_249 rfl rfl ?_
          refine w_iload rfl l5 rfl ?_
          refine w_iald (z := sA T 252 i) rfl sh_252 (by omega) (by omega) (by decide) rfl rfl ?_
          have g11 := hr (i) (by omega) (by omega)
          refine w_iaS (f := sA T 252) rfl sh_252 (by omega) (by omega) (by decide) rfl rfl ?_
          refine w_aload_n rfl l0 rfl ?_
          refine w_getR rfl rfl sh_249 rfl rfl ?_
          refine w_iload rfl l4 rfl ?_
          refine w_aload_n rfl l0 rfl ?_
          refine w_getR rfl rfl sh_249 rfl rfl ?_
          refine w_iload rfl l5 rfl ?_
          refine w_iald (z := sA T 253 i) rfl sh_253 (by omega) (by omega) (by decide) (congrFun (rA_ne (by decide)) _) rfl ?_
          refine w_iaS (f := sA T 253) rfl sh_253 (by omega) (by omega) (by decide) (rA_ne (by decide)) rfl ?_
          refine w_iinc rfl l4 (by decide) rfl ?_
          refine w_iinc rfl l5 (by decide) rfl ?_
          refine w_goto (pc2 := 190) rfl (by decide) ?_
          exact ih.2 (z + 1) (i + 1) mm _ _ l0 rfl rfl (by exact (fr_A (fr_A hfr (by decide)) (by decide))) (by exact hf5) (by exact hq) (by exact qn) (by omega) (by omega) (by omega) (by omega) (by intro j q1 q2; show 0 ≤ (w_u (sA T 252) z (sA T 252 i)) j ∧ (w_u (sA T 252) z (sA T 252 i)) j < 128; by_cases hj : j = z; (rw [hj, w_u_self]; omega); (rw [w_u_ne _ _ hj]; exact hr j q1 q2)) (by rw [jnl_1 (by omega) (by rw [hq] at *; omega)] at he; refine Eq.trans ?_ he; show jnl _ _ (i + 1) (z + 1) (w_u (sA T 252) z (sA T 252 i)) (w_u (sA T 253) z (sA T 253 i)) = _; first | rfl | (congr 1; omega)) (by omega)
theorem r_join {sc : x_S} {d : Nat} {S : w_S} {f : Int} (f0 : 0 ≤ f) (f2 : f ≤ 2) (h0 : 0 ≤ sA S 251 f) (h1 : sA S 251 f ≤ 160) (hg : ∀ i, 0 ≤ i → i < sA S 251 f → 0 ≤ sA S 250 (160 * f + i) ∧ sA S 250 (160 * f + i) < 128) (hd : 1 ≤ d) : w_T sc d 124 0 (x_en 0 [.ref 249, .int (iZ f)]) [] S (fun v S2 => v = none ∧ fr (fun a => a = 249 ∨ a = 252 ∨ a = 253) S S2 ∧ (∀ k, ¬ k = 5 → sv S2 249 k = sv S 249 k) ∧ (sA S2 252, sv S2 249 5) = jfn (jnl (tri (fun k => sA S 250 (160 * f + k)) (sA S 251 f) 161 0 0 (sA S 252) (sA S 253) 0).2.2 161 0 0 (tri (fun k => sA S 250 (160 * f + k)) (sA S 251 f) 161 0 0 (sA S 252) (sA S 253) 0).1 (tri (fun k => sA S 250 (160 * f + k)) (sA S 251 f) 161 0 0 (sA S 252) (sA S 253) 0).2.1) ∧ ag (sA S2 253) (jnl (tri (fun k => sA S 250 (160 * f + k)) (sA S 251 f) 161 0 0 (sA S 252) (sA S 253) 0).2.2 161 0 0 (tri (fun k => sA S 250 (160 * f + k)) (sA S 251 f) 161 0 0 (sA S 252) (sA S 253) 0).1 (tri (fun k => sA S 250 (160 * f + k)) (sA S 251 f) 161 0 0 (sA S 252) (sA S 253) 0).2.1).2.1 (jnl (tri (fun k => sA S 250 (160 * f + k)) (sA S 251 f) 161 0 0 (sA S 252) (sA S 253) 0).2.2 161 0 0 (tri (fun k => sA S 250 (160 * f + k)) (sA S 251 f) 161 0 0 (sA S 252) (sA S 253) 0).1 (tri (fun k => sA S 250 (160 * f + k)) (sA S 251 f) 161 0 0 (sA S 252) (sA S 253) 0).2.1).2.2 ∧ 0 ≤ sv S2 249 5 ∧ sv S2 249 5 ≤ 161 ∧ ∀ j, 0 ≤ j → j < sv S2 249 5 → 0 ≤ sA S2 252 j ∧ sA S2 252 j < 128) := by
  refine w_aload_n rfl rfl rfl ?_
  refine w_iconst rfl rfl ?_
  refine w_putf rfl rfl sh_249 rfl rfl (by decide) rfl ?_
  refine w_iconst rfl rfl ?_
  refine w_istore_n rfl (by decide) rfl ?_
  refine w_sipush rfl (by decide) rfl ?_
  refine w_iload_n rfl rfl rfl ?_
  refine w_imul rfl rfl ?_
  refine w_istore_n rfl (by decide) rfl ?_
  refine w_iconst rfl rfl ?_
  refine w_istore rfl (by decide) rfl ?_
  exact (r_join_c f0 f2 h0 h1 hg hd _).1 0 0 161 _ _ rfl rfl rfl rfl rfl (by exact (fr_v (fr_refl _ _) (by decide))) (by intro k hk; rw [rv_ne (by omega)]) (by omega) (by omega) (by rw [rv_self]; omega) (by rw [rv_self]; omega) (by omega) (by rw [rv_self]; rfl) (Nat.lt_succ_self _)
