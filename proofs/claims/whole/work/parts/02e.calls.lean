def x_mok (k idx kc : Nat) : Prop := Jvm.Cond.code (x_y kc) (x_b kc) (x_nL kc) (x_rt kc) ∈ x_w ∧ Jvm.Cond.initialized (x_y kc).cls ∈ x_w ∧ ((x_y kc).cls ≠ "java/lang/invoke/MethodHandle" ∧ (x_y kc).cls ≠ "java/lang/invoke/VarHandle") ∧ x_nL kc ≤ 29 ∧ plainName (x_y kc).cls = true ∧ (Jvm.Cond.methodLink (x_y k).cls idx (x_y kc) ∈ x_w ∨ ∃ host, Jvm.Cond.methodLinkNest (x_y k).cls idx (x_y kc) host ∈ x_nest)
abbrev x_nd (kc n : Nat) : Prop := (parseMethodDescriptor (x_y kc).desc).map (fun d => d.parameters.length) = some n
def x_cde (kc : Nat) : Prop := Jvm.Cond.code (x_y kc) (x_b kc) (x_nL kc) (x_rt kc) ∈ x_w ∧ Jvm.Cond.initialized (x_y kc).cls ∈ x_w
def x_lnk (cn : String) (idx kc : Nat) : Prop := Jvm.Cond.methodLink cn idx (x_y kc) ∈ x_w ∨ ∃ host, Jvm.Cond.methodLinkNest cn idx (x_y kc) host ∈ x_nest
def x_lok (cn : String) (e : Nat × Nat × Nat × Nat) : Prop := match e.2.2.1 with
  | 0 => x_cde e.2.1 ∧ x_lnk cn e.1 e.2.1 ∧ Jvm.Cond.static (x_y e.2.1) ∈ x_w ∧ x_nd e.2.1 e.2.2.2
  | 1 => x_cde e.2.1 ∧ x_lnk cn e.1 e.2.1 ∧ Jvm.Cond.instanceMethod (x_y e.2.1) ∈ x_w ∧ x_nd e.2.1 e.2.2.2 ∧ ∃ C T N, x_cl[x_own e.2.1]? = some (C, T, N) ∧ Jvm.Cond.selects C (x_y e.2.1) (x_y e.2.1) ∈ x_w
  | 2 => x_cde e.2.1 ∧ x_lnk cn e.1 e.2.1 ∧ Jvm.Cond.instanceMethod (x_y e.2.1) ∈ x_w ∧ x_nd e.2.1 e.2.2.2 ∧ (x_y e.2.1).name = "<init>" ∧ x_rt e.2.1 = none
  | 3 => Jvm.Cond.methodLink cn e.1 objectInit ∈ x_w ∧ Jvm.Cond.instanceMethod objectInit ∈ x_w ∧ Jvm.Cond.code objectInit ⟨#[0xb1]⟩ 1 none ∈ x_w
  | 4 => Jvm.Cond.methodLink cn e.1 Lib.Math.min.name ∈ x_w ∧ Jvm.Cond.static Lib.Math.min.name ∈ x_w ∧ Jvm.Cond.initialized "java/lang/Math" ∈ x_w ∧ Jvm.Cond.code Lib.Math.min.name Lib.Math.min.code 2 (some .int) ∈ x_w
  | 6 => Jvm.Cond.methodLink cn e.1 Lib.Math.max.name ∈ x_w ∧ Jvm.Cond.static Lib.Math.max.name ∈ x_w ∧ Jvm.Cond.initialized "java/lang/Math" ∈ x_w ∧ Jvm.Cond.code Lib.Math.max.name Lib.Math.max.code 2 (some .int) ∈ x_w
  | 7 => x_cde e.2.1 ∧ x_lnk cn e.1 e.2.1 ∧ Jvm.Cond.instanceMethod (x_y e.2.1) ∈ x_w ∧ x_nd e.2.1 e.2.2.2 ∧ Jvm.Cond.selects "java/lang/String" (x_y e.2.1) (x_y e.2.1) ∈ x_w
  | 8 => Jvm.Cond.methodLink cn e.1 arraycopyName ∈ x_w ∧ Jvm.Cond.native arraycopyName ∈ x_w ∧ Jvm.Cond.static arraycopyName ∈ x_w ∧ Jvm.Cond.initialized "java/lang/System" ∈ x_w
  | _ => False
theorem xc_1 : x_cde 1 := ⟨(tw_1 (i := 25) rfl rfl), (tw_1 (i := 1) rfl rfl)⟩
theorem xc_2 : x_cde 2 := ⟨(tw_2 (i := 123) rfl rfl), (tw_1 (i := 1) rfl rfl)⟩
theorem xc_3 : x_cde 3 := ⟨(tw_2 (i := 130) rfl rfl), (tw_1 (i := 1) rfl rfl)⟩
theorem xc_4 : x_cde 4 := ⟨(tw_2 (i := 138) rfl rfl), (tw_1 (i := 1) rfl rfl)⟩
theorem xc_5 : x_cde 5 := ⟨(tw_2 (i := 142) rfl rfl), (tw_1 (i := 1) rfl rfl)⟩
theorem xc_6 : x_cde 6 := ⟨(tw_2 (i := 146) rfl rfl), (tw_1 (i := 1) rfl rfl)⟩
theorem xc_7 : x_cde 7 := ⟨(tw_4 (i := 163) rfl rfl), (tw_1 (i := 1) rfl rfl)⟩
theorem xc_8 : x_cde 8 := ⟨(tw_4 (i := 167) rfl rfl), (tw_1 (i := 1) rfl rfl)⟩
theorem xc_9 : x_cde 9 := ⟨(tw_4 (i := 171) rfl rfl), (tw_1 (i := 1) rfl rfl)⟩
theorem xc_10 : x_cde 10 := ⟨(tw_4 (i := 180) rfl rfl), (tw_1 (i := 1) rfl rfl)⟩
theorem xc_11 : x_cde 11 := ⟨(tw_4 (i := 185) rfl rfl), (tw_1 (i := 1) rfl rfl)⟩
theorem xc_12 : x_cde 12 := ⟨(tw_4 (i := 189) rfl rfl), (tw_1 (i := 1) rfl rfl)⟩
theorem xc_13 : x_cde 13 := ⟨(tw_4 (i := 193) rfl rfl), (tw_1 (i := 1) rfl rfl)⟩
theorem xc_14 : x_cde 14 := ⟨(tw_4 (i := 197) rfl rfl), (tw_1 (i := 1) rfl rfl)⟩
theorem xc_15 : x_cde 15 := ⟨(tw_2 (i := 126) rfl rfl), (tw_1 (i := 1) rfl rfl)⟩
theorem xc_16 : x_cde 16 := ⟨(tw_4 (i := 175) rfl rfl), (tw_1 (i := 1) rfl rfl)⟩
theorem xc_17 : x_cde 17 := ⟨(tw_1 (i := 127) rfl rfl), (tw_1 (i := 7) rfl rfl)⟩
theorem xc_18 : x_cde 18 := ⟨(tw_3 (i := 139) rfl rfl), (tw_1 (i := 7) rfl rfl)⟩
theorem xc_19 : x_cde 19 := ⟨(tw_1 (i := 41) rfl rfl), (tw_1 (i := 3) rfl rfl)⟩
theorem xc_20 : x_cde 20 := ⟨(tw_2 (i := 154) rfl rfl), (tw_1 (i := 3) rfl rfl)⟩
theorem xc_21 : x_cde 21 := ⟨(tw_3 (i := 104) rfl rfl), (tw_1 (i := 3) rfl rfl)⟩
theorem xc_22 : x_cde 22 := ⟨(tw_3 (i := 112) rfl rfl), (tw_1 (i := 3) rfl rfl)⟩
theorem xc_23 : x_cde 23 := ⟨(tw_3 (i := 116) rfl rfl), (tw_1 (i := 3) rfl rfl)⟩
theorem xc_24 : x_cde 24 := ⟨(tw_3 (i := 129) rfl rfl), (tw_1 (i := 3) rfl rfl)⟩
theorem xc_25 : x_cde 25 := ⟨(tw_3 (i := 133) rfl rfl), (tw_1 (i := 3) rfl rfl)⟩
theorem xc_26 : x_cde 26 := ⟨(tw_3 (i := 143) rfl rfl), (tw_1 (i := 3) rfl rfl)⟩
theorem xc_27 : x_cde 27 := ⟨(tw_3 (i := 151) rfl rfl), (tw_1 (i := 3) rfl rfl)⟩
theorem xc_28 : x_cde 28 := ⟨(tw_3 (i := 160) rfl rfl), (tw_1 (i := 3) rfl rfl)⟩
theorem xc_29 : x_cde 29 := ⟨(tw_3 (i := 183) rfl rfl), (tw_1 (i := 3) rfl rfl)⟩
theorem xc_30 : x_cde 30 := ⟨(tw_1 (i := 54) rfl rfl), (tw_1 (i := 5) rfl rfl)⟩
theorem xc_31 : x_cde 31 := ⟨(tw_3 (i := 155) rfl rfl), (tw_1 (i := 5) rfl rfl)⟩
theorem xc_32 : x_cde 32 := ⟨(tw_3 (i := 164) rfl rfl), (tw_1 (i := 5) rfl rfl)⟩
theorem xc_33 : x_cde 33 := ⟨(tw_1 (i := 47) rfl rfl), (tw_1 (i := 4) rfl rfl)⟩
theorem xc_34 : x_cde 34 := ⟨(tw_3 (i := 120) rfl rfl), (tw_1 (i := 4) rfl rfl)⟩
theorem xc_35 : x_cde 35 := ⟨(tw_3 (i := 219) rfl rfl), (tw_1 (i := 4) rfl rfl)⟩
theorem xc_36 : x_cde 36 := ⟨(tw_4 (i := 9) rfl rfl), (tw_1 (i := 4) rfl rfl)⟩
theorem xc_37 : x_cde 37 := ⟨(tw_2 (i := 34) rfl rfl), (tw_1 (i := 10) rfl rfl)⟩
theorem xc_38 : x_cde 38 := ⟨(tw_4 (i := 24) rfl rfl), (tw_1 (i := 10) rfl rfl)⟩
theorem xc_39 : x_cde 39 := ⟨(tw_4 (i := 28) rfl rfl), (tw_1 (i := 10) rfl rfl)⟩
theorem xc_40 : x_cde 40 := ⟨(tw_4 (i := 32) rfl rfl), (tw_1 (i := 10) rfl rfl)⟩
theorem xc_41 : x_cde 41 := ⟨(tw_4 (i := 45) rfl rfl), (tw_1 (i := 10) rfl rfl)⟩
theorem xc_42 : x_cde 42 := ⟨(tw_4 (i := 53) rfl rfl), (tw_1 (i := 10) rfl rfl)⟩
theorem xc_43 : x_cde 43 := ⟨(tw_4 (i := 93) rfl rfl), (tw_1 (i := 10) rfl rfl)⟩
theorem xc_44 : x_cde 44 := ⟨(tw_4 (i := 76) rfl rfl), (tw_1 (i := 10) rfl rfl)⟩
theorem xc_45 : x_cde 45 := ⟨(tw_4 (i := 72) rfl rfl), (tw_1 (i := 10) rfl rfl)⟩
theorem xc_46 : x_cde 46 := ⟨(tw_4 (i := 63) rfl rfl), (tw_1 (i := 10) rfl rfl)⟩
theorem xc_47 : x_cde 47 := ⟨(tw_4 (i := 80) rfl rfl), (tw_1 (i := 10) rfl rfl)⟩
theorem xc_48 : x_cde 48 := ⟨(tw_4 (i := 84) rfl rfl), (tw_1 (i := 10) rfl rfl)⟩
theorem xc_49 : x_cde 49 := ⟨(tw_4 (i := 101) rfl rfl), (tw_1 (i := 10) rfl rfl)⟩
theorem xc_50 : x_cde 50 := ⟨(tw_4 (i := 105) rfl rfl), (tw_1 (i := 10) rfl rfl)⟩
theorem xc_51 : x_cde 51 := ⟨(tw_4 (i := 88) rfl rfl), (tw_1 (i := 10) rfl rfl)⟩
theorem xc_52 : x_cde 52 := ⟨(tw_4 (i := 97) rfl rfl), (tw_1 (i := 10) rfl rfl)⟩
theorem xc_53 : x_cde 53 := ⟨(tw_4 (i := 109) rfl rfl), (tw_1 (i := 10) rfl rfl)⟩
theorem xc_54 : x_cde 54 := ⟨(tw_4 (i := 113) rfl rfl), (tw_1 (i := 10) rfl rfl)⟩
theorem xc_55 : x_cde 55 := ⟨(tw_4 (i := 118) rfl rfl), (tw_1 (i := 10) rfl rfl)⟩
theorem xc_56 : x_cde 56 := ⟨(tw_4 (i := 122) rfl rfl), (tw_1 (i := 10) rfl rfl)⟩
theorem xc_57 : x_cde 57 := ⟨(tw_4 (i := 152) rfl rfl), (tw_1 (i := 10) rfl rfl)⟩
theorem xc_58 : x_cde 58 := ⟨(tw_4 (i := 126) rfl rfl), (tw_1 (i := 10) rfl rfl)⟩
theorem xc_59 : x_cde 59 := ⟨(tw_4 (i := 132) rfl rfl), (tw_1 (i := 10) rfl rfl)⟩
theorem xc_60 : x_cde 60 := ⟨(tw_4 (i := 136) rfl rfl), (tw_1 (i := 10) rfl rfl)⟩
theorem xc_61 : x_cde 61 := ⟨(tw_4 (i := 140) rfl rfl), (tw_1 (i := 10) rfl rfl)⟩
theorem xc_62 : x_cde 62 := ⟨(tw_4 (i := 149) rfl rfl), (tw_1 (i := 10) rfl rfl)⟩
theorem xc_63 : x_cde 63 := ⟨(tw_1 (i := 35) rfl rfl), (tw_1 (i := 2) rfl rfl)⟩
theorem xc_64 : x_cde 64 := ⟨(tw_2 (i := 150) rfl rfl), (tw_1 (i := 2) rfl rfl)⟩
theorem xc_65 : x_cde 65 := ⟨(tw_3 (i := 81) rfl rfl), (tw_1 (i := 2) rfl rfl)⟩
theorem xc_66 : x_cde 66 := ⟨(tw_4 (i := 20) rfl rfl), (tw_1 (i := 2) rfl rfl)⟩
theorem xc_67 : x_cde 67 := ⟨(tw_3 (i := 187) rfl rfl), (tw_1 (i := 2) rfl rfl)⟩
theorem xc_68 : x_cde 68 := ⟨(tw_4 (i := 4) rfl rfl), (tw_1 (i := 2) rfl rfl)⟩
theorem xc_69 : x_cde 69 := ⟨(tw_3 (i := 226) rfl rfl), (tw_1 (i := 2) rfl rfl)⟩
theorem xc_70 : x_cde 70 := ⟨(tw_3 (i := 193) rfl rfl), (tw_1 (i := 2) rfl rfl)⟩
theorem xc_71 : x_cde 71 := ⟨(tw_3 (i := 206) rfl rfl), (tw_1 (i := 2) rfl rfl)⟩
theorem xc_72 : x_cde 72 := ⟨(tw_3 (i := 210) rfl rfl), (tw_1 (i := 2) rfl rfl)⟩
theorem xc_73 : x_cde 73 := ⟨(tw_3 (i := 214) rfl rfl), (tw_1 (i := 2) rfl rfl)⟩
theorem xc_74 : x_cde 74 := ⟨(tw_1 (i := 183) rfl rfl), (tw_1 (i := 8) rfl rfl)⟩
theorem xc_75 : x_cde 75 := ⟨(tw_2 (i := 162) rfl rfl), (tw_1 (i := 8) rfl rfl)⟩
theorem xc_76 : x_cde 76 := ⟨(tw_2 (i := 166) rfl rfl), (tw_1 (i := 8) rfl rfl)⟩
theorem xc_77 : x_cde 77 := ⟨(tw_2 (i := 169) rfl rfl), (tw_1 (i := 8) rfl rfl)⟩
theorem xc_78 : x_cde 78 := ⟨(tw_3 (i := 41) rfl rfl), (tw_1 (i := 8) rfl rfl)⟩
theorem xc_79 : x_cde 79 := ⟨(tw_3 (i := 45) rfl rfl), (tw_1 (i := 8) rfl rfl)⟩
theorem xc_80 : x_cde 80 := ⟨(tw_3 (i := 49) rfl rfl), (tw_1 (i := 8) rfl rfl)⟩
theorem xc_81 : x_cde 81 := ⟨(tw_3 (i := 53) rfl rfl), (tw_1 (i := 8) rfl rfl)⟩
theorem xc_82 : x_cde 82 := ⟨(tw_3 (i := 57) rfl rfl), (tw_1 (i := 8) rfl rfl)⟩
theorem xc_83 : x_cde 83 := ⟨(tw_3 (i := 61) rfl rfl), (tw_1 (i := 8) rfl rfl)⟩
theorem xc_84 : x_cde 84 := ⟨(tw_3 (i := 69) rfl rfl), (tw_1 (i := 8) rfl rfl)⟩
theorem xc_85 : x_cde 85 := ⟨(tw_1 (i := 201) rfl rfl), (tw_1 (i := 9) rfl rfl)⟩
theorem xc_86 : x_cde 86 := ⟨(tw_2 (i := 158) rfl rfl), (tw_1 (i := 9) rfl rfl)⟩
theorem xc_87 : x_cde 87 := ⟨(tw_3 (i := 73) rfl rfl), (tw_1 (i := 9) rfl rfl)⟩
theorem xc_88 : x_cde 88 := ⟨(tw_3 (i := 85) rfl rfl), (tw_1 (i := 9) rfl rfl)⟩
theorem xc_89 : x_cde 89 := ⟨(tw_3 (i := 89) rfl rfl), (tw_1 (i := 9) rfl rfl)⟩
theorem xc_90 : x_cde 90 := ⟨(tw_4 (i := 15) rfl rfl), (tw_1 (i := 9) rfl rfl)⟩
theorem xc_91 : x_cde 91 := ⟨(tw_3 (i := 235) rfl rfl), (tw_1 (i := 9) rfl rfl)⟩
theorem xc_92 : x_cde 92 := ⟨(tw_4 (i := 0) rfl rfl), (tw_1 (i := 9) rfl rfl)⟩
theorem xc_93 : x_cde 93 := ⟨(tw_2 (i := 92) rfl rfl), (tw_1 (i := 12) rfl rfl)⟩
theorem xc_94 : x_cde 94 := ⟨(tw_2 (i := 134) rfl rfl), (tw_1 (i := 12) rfl rfl)⟩
theorem xc_95 : x_cde 95 := ⟨(tw_1 (i := 98) rfl rfl), (tw_1 (i := 6) rfl rfl)⟩
theorem xc_96 : x_cde 96 := ⟨(tw_3 (i := 77) rfl rfl), (tw_1 (i := 6) rfl rfl)⟩
theorem xc_97 : x_cde 97 := ⟨(tw_3 (i := 147) rfl rfl), (tw_1 (i := 6) rfl rfl)⟩
theorem xc_98 : x_cde 98 := ⟨(tw_3 (i := 124) rfl rfl), (tw_1 (i := 6) rfl rfl)⟩
theorem xc_99 : x_cde 99 := ⟨(tw_3 (i := 108) rfl rfl), (tw_1 (i := 6) rfl rfl)⟩
theorem xc_100 : x_cde 100 := ⟨(tw_3 (i := 169) rfl rfl), (tw_1 (i := 6) rfl rfl)⟩
theorem xc_101 : x_cde 101 := ⟨(tw_3 (i := 175) rfl rfl), (tw_1 (i := 6) rfl rfl)⟩
theorem xc_102 : x_cde 102 := ⟨(tw_4 (i := 49) rfl rfl), (tw_1 (i := 6) rfl rfl)⟩
theorem xc_103 : x_cde 103 := ⟨(tw_3 (i := 94) rfl rfl), (tw_1 (i := 6) rfl rfl)⟩
theorem xc_104 : x_cde 104 := ⟨(tw_3 (i := 65) rfl rfl), (tw_1 (i := 6) rfl rfl)⟩
theorem xc_105 : x_cde 105 := ⟨(tw_4 (i := 36) rfl rfl), (tw_1 (i := 6) rfl rfl)⟩
theorem xc_106 : x_cde 106 := ⟨(tw_3 (i := 196) rfl rfl), (tw_1 (i := 6) rfl rfl)⟩
theorem xc_107 : x_cde 107 := ⟨(tw_3 (i := 199) rfl rfl), (tw_1 (i := 6) rfl rfl)⟩
theorem xc_108 : x_cde 108 := ⟨(tw_2 (i := 40) rfl rfl), (tw_1 (i := 11) rfl rfl)⟩
theorem xc_109 : x_cde 109 := ⟨(tw_4 (i := 67) rfl rfl), (tw_1 (i := 11) rfl rfl)⟩
theorem xc_110 : x_cde 110 := ⟨(tw_4 (i := 144) rfl rfl), (tw_1 (i := 11) rfl rfl)⟩
theorem xc_111 : x_cde 111 := ⟨(tw_4 (i := 202) rfl rfl), (tw_1 (i := 13) rfl rfl)⟩
theorem xc_112 : x_cde 112 := ⟨(tw_5 (i := 184) rfl rfl), (tw_1 (i := 13) rfl rfl)⟩
theorem xc_113 : x_cde 113 := ⟨(tw_5 (i := 188) rfl rfl), (tw_1 (i := 13) rfl rfl)⟩
theorem xc_114 : x_cde 114 := ⟨(tw_5 (i := 192) rfl rfl), (tw_1 (i := 13) rfl rfl)⟩
theorem xc_115 : x_cde 115 := ⟨(tw_5 (i := 196) rfl rfl), (tw_1 (i := 13) rfl rfl)⟩
theorem xc_116 : x_cde 116 := ⟨(tw_5 (i := 211) rfl rfl), (tw_1 (i := 13) rfl rfl)⟩
theorem xc_117 : x_cde 117 := ⟨(tw_5 (i := 222) rfl rfl), (tw_1 (i := 13) rfl rfl)⟩
theorem xc_118 : x_cde 118 := ⟨(tw_6 (i := 66) rfl rfl), (tw_1 (i := 13) rfl rfl)⟩
theorem xc_119 : x_cde 119 := ⟨(tw_5 (i := 225) rfl rfl), (tw_1 (i := 13) rfl rfl)⟩
theorem xc_120 : x_cde 120 := ⟨(tw_6 (i := 26) rfl rfl), (tw_1 (i := 13) rfl rfl)⟩
theorem xc_121 : x_cde 121 := ⟨(tw_6 (i := 29) rfl rfl), (tw_1 (i := 13) rfl rfl)⟩
theorem xc_122 : x_cde 122 := ⟨(tw_6 (i := 95) rfl rfl), (tw_1 (i := 13) rfl rfl)⟩
theorem xc_123 : x_cde 123 := ⟨(tw_6 (i := 63) rfl rfl), (tw_1 (i := 13) rfl rfl)⟩
theorem xc_124 : x_cde 124 := ⟨(tw_5 (i := 208) rfl rfl), (tw_1 (i := 13) rfl rfl)⟩
theorem xc_125 : x_cde 125 := ⟨(tw_5 (i := 219) rfl rfl), (tw_1 (i := 13) rfl rfl)⟩
theorem xc_126 : x_cde 126 := ⟨(tw_5 (i := 215) rfl rfl), (tw_1 (i := 13) rfl rfl)⟩
theorem xc_127 : x_cde 127 := ⟨(tw_5 (i := 204) rfl rfl), (tw_1 (i := 13) rfl rfl)⟩
theorem xc_128 : x_cde 128 := ⟨(tw_6 (i := 55) rfl rfl), (tw_1 (i := 13) rfl rfl)⟩
theorem xc_129 : x_cde 129 := ⟨(tw_5 (i := 229) rfl rfl), (tw_1 (i := 13) rfl rfl)⟩
theorem xc_130 : x_cde 130 := ⟨(tw_6 (i := 47) rfl rfl), (tw_1 (i := 13) rfl rfl)⟩
theorem xc_131 : x_cde 131 := ⟨(tw_6 (i := 87) rfl rfl), (tw_1 (i := 13) rfl rfl)⟩
theorem xc_132 : x_cde 132 := ⟨(tw_6 (i := 79) rfl rfl), (tw_1 (i := 13) rfl rfl)⟩
theorem xc_133 : x_cde 133 := ⟨(tw_6 (i := 35) rfl rfl), (tw_1 (i := 13) rfl rfl)⟩
theorem xc_134 : x_cde 134 := ⟨(tw_6 (i := 70) rfl rfl), (tw_1 (i := 13) rfl rfl)⟩
theorem xc_135 : x_cde 135 := ⟨(tw_6 (i := 60) rfl rfl), (tw_1 (i := 13) rfl rfl)⟩
theorem xc_136 : x_cde 136 := ⟨(tw_5 (i := 233) rfl rfl), (tw_1 (i := 13) rfl rfl)⟩
theorem xc_137 : x_cde 137 := ⟨(tw_5 (i := 237) rfl rfl), (tw_1 (i := 13) rfl rfl)⟩
theorem xc_138 : x_cde 138 := ⟨(tw_6 (i := 2) rfl rfl), (tw_1 (i := 13) rfl rfl)⟩
theorem xc_139 : x_cde 139 := ⟨(tw_6 (i := 40) rfl rfl), (tw_1 (i := 13) rfl rfl)⟩
theorem xc_140 : x_cde 140 := ⟨(tw_6 (i := 10) rfl rfl), (tw_1 (i := 13) rfl rfl)⟩
theorem xc_141 : x_cde 141 := ⟨(tw_6 (i := 6) rfl rfl), (tw_1 (i := 13) rfl rfl)⟩
theorem xc_142 : x_cde 142 := ⟨(tw_6 (i := 19) rfl rfl), (tw_1 (i := 13) rfl rfl)⟩
theorem xc_143 : x_cde 143 := ⟨(tw_6 (i := 14) rfl rfl), (tw_1 (i := 13) rfl rfl)⟩
theorem xc_144 : x_cde 144 := ⟨(tw_6 (i := 23) rfl rfl), (tw_1 (i := 13) rfl rfl)⟩
theorem xc_145 : x_cde 145 := ⟨(tw_5 (i := 200) rfl rfl), (tw_1 (i := 13) rfl rfl)⟩
theorem xc_146 : x_cde 146 := ⟨(tw_6 (i := 92) rfl rfl), (tw_1 (i := 13) rfl rfl)⟩
theorem xc_147 : x_cde 147 := ⟨(tw_6 (i := 107) rfl rfl), (tw_1 (i := 13) rfl rfl)⟩
theorem xc_148 : x_cde 148 := ⟨(tw_6 (i := 162) rfl rfl), (tw_1 (i := 13) rfl rfl)⟩
theorem xc_149 : x_cde 149 := ⟨(tw_6 (i := 125) rfl rfl), (tw_1 (i := 13) rfl rfl)⟩
theorem xc_150 : x_cde 150 := ⟨(tw_6 (i := 112) rfl rfl), (tw_1 (i := 13) rfl rfl)⟩
theorem xc_151 : x_cde 151 := ⟨(tw_6 (i := 116) rfl rfl), (tw_1 (i := 13) rfl rfl)⟩
theorem xc_152 : x_cde 152 := ⟨(tw_6 (i := 103) rfl rfl), (tw_1 (i := 13) rfl rfl)⟩
theorem xc_153 : x_cde 153 := ⟨(tw_6 (i := 136) rfl rfl), (tw_1 (i := 13) rfl rfl)⟩
theorem xc_154 : x_cde 154 := ⟨(tw_6 (i := 120) rfl rfl), (tw_1 (i := 13) rfl rfl)⟩
theorem xc_155 : x_cde 155 := ⟨(tw_6 (i := 131) rfl rfl), (tw_1 (i := 13) rfl rfl)⟩
theorem xc_156 : x_cde 156 := ⟨(tw_6 (i := 174) rfl rfl), (tw_1 (i := 13) rfl rfl)⟩
theorem xc_157 : x_cde 157 := ⟨(tw_6 (i := 170) rfl rfl), (tw_1 (i := 13) rfl rfl)⟩
theorem xc_158 : x_cde 158 := ⟨(tw_6 (i := 178) rfl rfl), (tw_1 (i := 13) rfl rfl)⟩
theorem xc_159 : x_cde 159 := ⟨(tw_6 (i := 148) rfl rfl), (tw_1 (i := 13) rfl rfl)⟩
theorem xc_160 : x_cde 160 := ⟨(tw_6 (i := 157) rfl rfl), (tw_1 (i := 13) rfl rfl)⟩
theorem xc_161 : x_cde 161 := ⟨(tw_6 (i := 145) rfl rfl), (tw_1 (i := 13) rfl rfl)⟩
theorem xc_162 : x_cde 162 := ⟨(tw_6 (i := 141) rfl rfl), (tw_1 (i := 13) rfl rfl)⟩
theorem xc_163 : x_cde 163 := ⟨(tw_6 (i := 166) rfl rfl), (tw_1 (i := 13) rfl rfl)⟩
theorem xc_164 : x_cde 164 := ⟨(tw_6 (i := 182) rfl rfl), (tw_1 (i := 13) rfl rfl)⟩
theorem xc_165 : x_cde 165 := ⟨(tw_6 (i := 186) rfl rfl), (tw_1 (i := 13) rfl rfl)⟩
theorem xc_166 : x_cde 166 := ⟨(tw_6 (i := 190) rfl rfl), (tw_1 (i := 13) rfl rfl)⟩
theorem xc_167 : x_cde 167 := ⟨(tw_6 (i := 194) rfl rfl), (tw_1 (i := 13) rfl rfl)⟩
theorem xc_168 : x_cde 168 := ⟨(tw_6 (i := 198) rfl rfl), (tw_1 (i := 13) rfl rfl)⟩
theorem xc_169 : x_cde 169 := ⟨(tw_6 (i := 74) rfl rfl), (tw_1 (i := 13) rfl rfl)⟩
theorem xc_170 : x_cde 170 := ⟨(tw_6 (i := 203) rfl rfl), (tw_1 (i := 13) rfl rfl)⟩
theorem xc_171 : x_cde 171 := ⟨(tw_6 (i := 207) rfl rfl), (tw_1 (i := 13) rfl rfl)⟩
theorem xc_172 : x_cde 172 := ⟨(tw_2 (i := 188) rfl rfl), (tw_1 (i := 14) rfl rfl)⟩
theorem xc_173 : x_cde 173 := ⟨(tw_3 (i := 21) rfl rfl), (tw_1 (i := 14) rfl rfl)⟩
theorem xc_174 : x_cde 174 := ⟨(tw_2 (i := 174) rfl rfl), (tw_1 (i := 14) rfl rfl)⟩
theorem xc_175 : x_cde 175 := ⟨(tw_2 (i := 178) rfl rfl), (tw_1 (i := 14) rfl rfl)⟩
theorem xc_176 : x_cde 176 := ⟨(tw_2 (i := 192) rfl rfl), (tw_1 (i := 14) rfl rfl)⟩
theorem xc_177 : x_cde 177 := ⟨(tw_2 (i := 182) rfl rfl), (tw_1 (i := 14) rfl rfl)⟩
theorem xc_178 : x_cde 178 := ⟨(tw_3 (i := 27) rfl rfl), (tw_1 (i := 14) rfl rfl)⟩
theorem xc_179 : x_cde 179 := ⟨(tw_3 (i := 24) rfl rfl), (tw_1 (i := 15) rfl rfl)⟩
theorem xc_180 : x_cde 180 := ⟨(tw_2 (i := 198) rfl rfl), (tw_1 (i := 15) rfl rfl)⟩
theorem xc_181 : x_cde 181 := ⟨(tw_2 (i := 195) rfl rfl), (tw_1 (i := 15) rfl rfl)⟩
theorem xc_182 : x_cde 182 := ⟨(tw_2 (i := 207) rfl rfl), (tw_1 (i := 15) rfl rfl)⟩
theorem xc_183 : x_cde 183 := ⟨(tw_3 (i := 30) rfl rfl), (tw_1 (i := 18) rfl rfl)⟩
def mL_0_0 : List (Nat × Nat × Nat × Nat) := [(1, 0, 3, 0), (17, 63, 2, 0), (24, 37, 2, 0), (29, 93, 2, 0), (30, 15, 0, 1), (38, 94, 1, 1), (45, 64, 1, 2), (62, 38, 1, 1), (76, 16, 1, 1), (79, 97, 1, 1), (87, 102, 0, 2)]
theorem mK_0_0 : ∀ e ∈ mL_0_0, x_lok "PhaseReader" e := List.forall_mem_cons.mpr ⟨⟨(tw_1 (i := 26) rfl rfl), (tw_1 (i := 27) rfl rfl), (tw_1 (i := 28) rfl rfl)⟩, List.forall_mem_cons.mpr ⟨⟨xc_63, Or.inl (tw_1 (i := 33) rfl rfl), (tw_1 (i := 34) rfl rfl), by decide +kernel, rfl, rfl⟩, List.forall_mem_cons.mpr ⟨⟨xc_37, Or.inr ⟨_, List.mem_of_getElem? (i := 0) rfl⟩, (tw_2 (i := 33) rfl rfl), by decide +kernel, rfl, rfl⟩, List.forall_mem_cons.mpr ⟨⟨xc_93, Or.inr ⟨_, List.mem_of_getElem? (i := 1) rfl⟩, (tw_2 (i := 91) rfl rfl), by decide +kernel, rfl, rfl⟩, List.forall_mem_cons.mpr ⟨⟨xc_15, Or.inl (tw_2 (i := 124) rfl rfl), (tw_2 (i := 125) rfl rfl), by decide +kernel⟩, List.forall_mem_cons.mpr ⟨⟨xc_94, Or.inl (tw_2 (i := 131) rfl rfl), (tw_2 (i := 132) rfl rfl), by decide +kernel, _, _, _, rfl, (tw_2 (i := 133) rfl rfl)⟩, List.forall_mem_cons.mpr ⟨⟨xc_64, Or.inl (tw_2 (i := 147) rfl rfl), (tw_2 (i := 148) rfl rfl), by decide +kernel, _, _, _, rfl, (tw_2 (i := 149) rfl rfl)⟩, List.forall_mem_cons.mpr ⟨⟨xc_38, Or.inl (tw_4 (i := 21) rfl rfl), (tw_4 (i := 22) rfl rfl), by decide +kernel, _, _, _, rfl, (tw_4 (i := 23) rfl rfl)⟩, List.forall_mem_cons.mpr ⟨⟨xc_16, Or.inl (tw_4 (i := 172) rfl rfl), (tw_4 (i := 174) rfl rfl), by decide +kernel, _, _, _, rfl, (tq_3 (i := 12) rfl)⟩, List.forall_mem_cons.mpr ⟨⟨xc_97, Or.inl (tw_4 (i := 176) rfl rfl), (tw_3 (i := 145) rfl rfl), by decide +kernel, _, _, _, rfl, (tw_3 (i := 146) rfl rfl)⟩, List.forall_mem_cons.mpr ⟨⟨xc_102, Or.inl (tw_4 (i := 181) rfl rfl), (tw_4 (i := 48) rfl rfl), by decide +kernel⟩, fun _ h => absurd h List.not_mem_nil⟩⟩⟩⟩⟩⟩⟩⟩⟩⟩⟩
def mL_0 : List (Nat × Nat × Nat × Nat) := [(1, 0, 3, 0), (17, 63, 2, 0), (24, 37, 2, 0), (29, 93, 2, 0), (30, 15, 0, 1), (38, 94, 1, 1), (45, 64, 1, 2), (62, 38, 1, 1), (76, 16, 1, 1), (79, 97, 1, 1), (87, 102, 0, 2)]
theorem mK_0 : ∀ e ∈ mL_0, x_lok "PhaseReader" e := by
  have h : mL_0 = mL_0_0 := rfl
  rw [h]
  exact mK_0_0
def mL_1_0 : List (Nat × Nat × Nat × Nat) := [(1, 0, 3, 0)]
theorem mK_1_0 : ∀ e ∈ mL_1_0, x_lok "PhaseReader$Arguments" e := List.forall_mem_cons.mpr ⟨⟨(tw_1 (i := 128) rfl rfl), (tw_1 (i := 27) rfl rfl), (tw_1 (i := 28) rfl rfl)⟩, fun _ h => absurd h List.not_mem_nil⟩
def mL_1 : List (Nat × Nat × Nat × Nat) := [(1, 0, 3, 0)]
theorem mK_1 : ∀ e ∈ mL_1, x_lok "PhaseReader$Arguments" e := by
  have h : mL_1 = mL_1_0 := rfl
  rw [h]
  exact mK_1_0
def mL_2_0 : List (Nat × Nat × Nat × Nat) := [(7, 0, 3, 0), (15, 33, 2, 0), (22, 95, 2, 1), (46, 17, 2, 0), (55, 99, 1, 2), (59, 22, 1, 2), (63, 23, 1, 1), (67, 24, 1, 3), (75, 34, 1, 1), (79, 98, 1, 1), (98, 25, 1, 3), (105, 26, 1, 3)]
theorem mK_2_0 : ∀ e ∈ mL_2_0, x_lok "PhaseReader$Expander" e := List.forall_mem_cons.mpr ⟨⟨(tw_1 (i := 42) rfl rfl), (tw_1 (i := 27) rfl rfl), (tw_1 (i := 28) rfl rfl)⟩, List.forall_mem_cons.mpr ⟨⟨xc_33, Or.inl (tw_1 (i := 45) rfl rfl), (tw_1 (i := 46) rfl rfl), by decide +kernel, rfl, rfl⟩, List.forall_mem_cons.mpr ⟨⟨xc_95, Or.inl (tw_1 (i := 96) rfl rfl), (tw_1 (i := 97) rfl rfl), by decide +kernel, rfl, rfl⟩, List.forall_mem_cons.mpr ⟨⟨xc_17, Or.inr ⟨_, List.mem_of_getElem? (i := 2) rfl⟩, (tw_1 (i := 126) rfl rfl), by decide +kernel, rfl, rfl⟩, List.forall_mem_cons.mpr ⟨⟨xc_99, Or.inl (tw_3 (i := 105) rfl rfl), (tw_3 (i := 106) rfl rfl), by decide +kernel, _, _, _, rfl, (tw_3 (i := 107) rfl rfl)⟩, List.forall_mem_cons.mpr ⟨⟨xc_22, Or.inl (tw_3 (i := 109) rfl rfl), (tw_3 (i := 111) rfl rfl), by decide +kernel, _, _, _, rfl, (tq_1 (i := 9) rfl)⟩, List.forall_mem_cons.mpr ⟨⟨xc_23, Or.inl (tw_3 (i := 113) rfl rfl), (tw_3 (i := 115) rfl rfl), by decide +kernel, _, _, _, rfl, (tq_1 (i := 10) rfl)⟩, List.forall_mem_cons.mpr ⟨⟨xc_24, Or.inl (tw_3 (i := 126) rfl rfl), (tw_3 (i := 128) rfl rfl), by decide +kernel, _, _, _, rfl, (tq_1 (i := 11) rfl)⟩, List.forall_mem_cons.mpr ⟨⟨xc_34, Or.inl (tw_3 (i := 117) rfl rfl), (tw_3 (i := 118) rfl rfl), by decide +kernel, _, _, _, rfl, (tw_3 (i := 119) rfl rfl)⟩, List.forall_mem_cons.mpr ⟨⟨xc_98, Or.inl (tw_3 (i := 121) rfl rfl), (tw_3 (i := 122) rfl rfl), by decide +kernel, _, _, _, rfl, (tw_3 (i := 123) rfl rfl)⟩, List.forall_mem_cons.mpr ⟨⟨xc_25, Or.inl (tw_3 (i := 130) rfl rfl), (tw_3 (i := 132) rfl rfl), by decide +kernel, _, _, _, rfl, (tq_1 (i := 12) rfl)⟩, List.forall_mem_cons.mpr ⟨⟨xc_26, Or.inl (tw_3 (i := 140) rfl rfl), (tw_3 (i := 142) rfl rfl), by decide +kernel, _, _, _, rfl, (tq_1 (i := 13) rfl)⟩, fun _ h => absurd h List.not_mem_nil⟩⟩⟩⟩⟩⟩⟩⟩⟩⟩⟩⟩
def mL_2_1 : List (Nat × Nat × Nat × Nat) := [(109, 97, 1, 1), (112, 27, 1, 3), (115, 29, 1, 1), (122, 18, 1, 2), (140, 31, 1, 1), (144, 28, 1, 4), (148, 100, 1, 2), (152, 32, 1, 1), (158, 96, 1, 3)]
theorem mK_2_1 : ∀ e ∈ mL_2_1, x_lok "PhaseReader$Expander" e := List.forall_mem_cons.mpr ⟨⟨xc_97, Or.inl (tw_3 (i := 144) rfl rfl), (tw_3 (i := 145) rfl rfl), by decide +kernel, _, _, _, rfl, (tw_3 (i := 146) rfl rfl)⟩, List.forall_mem_cons.mpr ⟨⟨xc_27, Or.inl (tw_3 (i := 148) rfl rfl), (tw_3 (i := 150) rfl rfl), by decide +kernel, _, _, _, rfl, (tq_1 (i := 14) rfl)⟩, List.forall_mem_cons.mpr ⟨⟨xc_29, Or.inl (tw_3 (i := 180) rfl rfl), (tw_3 (i := 182) rfl rfl), by decide +kernel, _, _, _, rfl, (tq_2 (i := 0) rfl)⟩, List.forall_mem_cons.mpr ⟨⟨xc_18, Or.inl (tw_3 (i := 136) rfl rfl), (tw_3 (i := 137) rfl rfl), by decide +kernel, _, _, _, rfl, (tw_3 (i := 138) rfl rfl)⟩, List.forall_mem_cons.mpr ⟨⟨xc_31, Or.inl (tw_3 (i := 152) rfl rfl), (tw_3 (i := 153) rfl rfl), by decide +kernel, _, _, _, rfl, (tw_3 (i := 154) rfl rfl)⟩, List.forall_mem_cons.mpr ⟨⟨xc_28, Or.inl (tw_3 (i := 157) rfl rfl), (tw_3 (i := 159) rfl rfl), by decide +kernel, _, _, _, rfl, (tq_1 (i := 15) rfl)⟩, List.forall_mem_cons.mpr ⟨⟨xc_100, Or.inl (tw_3 (i := 166) rfl rfl), (tw_3 (i := 167) rfl rfl), by decide +kernel, _, _, _, rfl, (tw_3 (i := 168) rfl rfl)⟩, List.forall_mem_cons.mpr ⟨⟨xc_32, Or.inl (tw_3 (i := 161) rfl rfl), (tw_3 (i := 162) rfl rfl), by decide +kernel, _, _, _, rfl, (tw_3 (i := 163) rfl rfl)⟩, List.forall_mem_cons.mpr ⟨⟨xc_96, Or.inl (tw_3 (i := 165) rfl rfl), (tw_3 (i := 75) rfl rfl), by decide +kernel, _, _, _, rfl, (tw_3 (i := 76) rfl rfl)⟩, fun _ h => absurd h List.not_mem_nil⟩⟩⟩⟩⟩⟩⟩⟩⟩
def mL_2 : List (Nat × Nat × Nat × Nat) := [(7, 0, 3, 0), (15, 33, 2, 0), (22, 95, 2, 1), (46, 17, 2, 0), (55, 99, 1, 2), (59, 22, 1, 2), (63, 23, 1, 1), (67, 24, 1, 3), (75, 34, 1, 1), (79, 98, 1, 1), (98, 25, 1, 3), (105, 26, 1, 3), (109, 97, 1, 1), (112, 27, 1, 3), (115, 29, 1, 1), (122, 18, 1, 2), (140, 31, 1, 1), (144, 28, 1, 4), (148, 100, 1, 2), (152, 32, 1, 1), (158, 96, 1, 3)]
theorem mK_2 : ∀ e ∈ mL_2, x_lok "PhaseReader$Expander" e := by
  have h : mL_2 = mL_2_0 ++ (mL_2_1) := rfl
  rw [h]
  exact List.forall_mem_append.mpr ⟨mK_2_0, mK_2_1⟩
def mL_3_0 : List (Nat × Nat × Nat × Nat) := [(1, 0, 3, 0)]
theorem mK_3_0 : ∀ e ∈ mL_3_0, x_lok "PhaseReader$Macro" e := List.forall_mem_cons.mpr ⟨⟨(tw_1 (i := 55) rfl rfl), (tw_1 (i := 27) rfl rfl), (tw_1 (i := 28) rfl rfl)⟩, fun _ h => absurd h List.not_mem_nil⟩
def mL_3 : List (Nat × Nat × Nat × Nat) := [(1, 0, 3, 0)]
theorem mK_3 : ∀ e ∈ mL_3, x_lok "PhaseReader$Macro" e := by
  have h : mL_3 = mL_3_0 := rfl
  rw [h]
  exact mK_3_0
def mL_4_0 : List (Nat × Nat × Nat × Nat) := [(3, 0, 3, 0), (17, 30, 2, 0), (32, 34, 1, 1), (50, 0, 8, 5)]
theorem mK_4_0 : ∀ e ∈ mL_4_0, x_lok "PhaseReader$MacroTable" e := List.forall_mem_cons.mpr ⟨⟨(tw_1 (i := 48) rfl rfl), (tw_1 (i := 27) rfl rfl), (tw_1 (i := 28) rfl rfl)⟩, List.forall_mem_cons.mpr ⟨⟨xc_30, Or.inr ⟨_, List.mem_of_getElem? (i := 3) rfl⟩, (tw_1 (i := 53) rfl rfl), by decide +kernel, rfl, rfl⟩, List.forall_mem_cons.mpr ⟨⟨xc_34, Or.inl (tw_3 (i := 220) rfl rfl), (tw_3 (i := 118) rfl rfl), by decide +kernel, _, _, _, rfl, (tw_3 (i := 119) rfl rfl)⟩, List.forall_mem_cons.mpr ⟨⟨(tw_3 (i := 221) rfl rfl), (tw_3 (i := 179) rfl rfl), (tw_3 (i := 178) rfl rfl), (tw_1 (i := 20) rfl rfl)⟩, fun _ h => absurd h List.not_mem_nil⟩⟩⟩⟩
def mL_4 : List (Nat × Nat × Nat × Nat) := [(3, 0, 3, 0), (17, 30, 2, 0), (32, 34, 1, 1), (50, 0, 8, 5)]
theorem mK_4 : ∀ e ∈ mL_4, x_lok "PhaseReader$MacroTable" e := by
  have h : mL_4 = mL_4_0 := rfl
  rw [h]
  exact mK_4_0
def mL_5_0 : List (Nat × Nat × Nat × Nat) := [(5, 0, 3, 0), (13, 108, 2, 0), (35, 39, 1, 1), (43, 41, 1, 0), (47, 42, 1, 0), (50, 46, 1, 0), (56, 0, 4, 2), (64, 40, 0, 1), (74, 104, 0, 1), (78, 105, 0, 1), (83, 103, 0, 2), (93, 101, 0, 1)]
theorem mK_5_0 : ∀ e ∈ mL_5_0, x_lok "PhaseReader$Parser" e := List.forall_mem_cons.mpr ⟨⟨(tw_2 (i := 35) rfl rfl), (tw_1 (i := 27) rfl rfl), (tw_1 (i := 28) rfl rfl)⟩, List.forall_mem_cons.mpr ⟨⟨xc_108, Or.inl (tw_2 (i := 38) rfl rfl), (tw_2 (i := 39) rfl rfl), by decide +kernel, rfl, rfl⟩, List.forall_mem_cons.mpr ⟨⟨xc_39, Or.inl (tw_4 (i := 25) rfl rfl), (tw_4 (i := 27) rfl rfl), by decide +kernel, _, _, _, rfl, (tq_2 (i := 6) rfl)⟩, List.forall_mem_cons.mpr ⟨⟨xc_41, Or.inl (tw_4 (i := 42) rfl rfl), (tw_4 (i := 44) rfl rfl), by decide +kernel, _, _, _, rfl, (tq_2 (i := 7) rfl)⟩, List.forall_mem_cons.mpr ⟨⟨xc_42, Or.inl (tw_4 (i := 50) rfl rfl), (tw_4 (i := 52) rfl rfl), by decide +kernel, _, _, _, rfl, (tq_2 (i := 8) rfl)⟩, List.forall_mem_cons.mpr ⟨⟨xc_46, Or.inl (tw_4 (i := 60) rfl rfl), (tw_4 (i := 62) rfl rfl), by decide +kernel, _, _, _, rfl, (tq_2 (i := 9) rfl)⟩, List.forall_mem_cons.mpr ⟨⟨(tw_4 (i := 29) rfl rfl), (tw_2 (i := 203) rfl rfl), (tw_1 (i := 16) rfl rfl), (tw_2 (i := 204) rfl rfl)⟩, List.forall_mem_cons.mpr ⟨⟨xc_40, Or.inl (tw_4 (i := 30) rfl rfl), (tw_4 (i := 31) rfl rfl), by decide +kernel⟩, List.forall_mem_cons.mpr ⟨⟨xc_104, Or.inl (tw_4 (i := 33) rfl rfl), (tw_3 (i := 64) rfl rfl), by decide +kernel⟩, List.forall_mem_cons.mpr ⟨⟨xc_105, Or.inl (tw_4 (i := 34) rfl rfl), (tw_4 (i := 35) rfl rfl), by decide +kernel⟩, List.forall_mem_cons.mpr ⟨⟨xc_103, Or.inl (tw_4 (i := 38) rfl rfl), (tw_3 (i := 93) rfl rfl), by decide +kernel⟩, List.forall_mem_cons.mpr ⟨⟨xc_101, Or.inl (tw_4 (i := 46) rfl rfl), (tw_3 (i := 174) rfl rfl), by decide +kernel⟩, fun _ h => absurd h List.not_mem_nil⟩⟩⟩⟩⟩⟩⟩⟩⟩⟩⟩⟩
def mL_5_1 : List (Nat × Nat × Nat × Nat) := [(96, 102, 0, 2), (112, 44, 1, 1), (116, 109, 1, 3), (120, 45, 1, 0), (123, 47, 1, 2), (130, 48, 1, 0), (133, 51, 1, 1), (136, 49, 1, 2), (143, 50, 1, 1), (146, 53, 1, 1), (149, 43, 1, 1), (153, 55, 1, 1)]
theorem mK_5_1 : ∀ e ∈ mL_5_1, x_lok "PhaseReader$Parser" e := List.forall_mem_cons.mpr ⟨⟨xc_102, Or.inl (tw_4 (i := 47) rfl rfl), (tw_4 (i := 48) rfl rfl), by decide +kernel⟩, List.forall_mem_cons.mpr ⟨⟨xc_44, Or.inl (tw_4 (i := 73) rfl rfl), (tw_4 (i := 75) rfl rfl), by decide +kernel, _, _, _, rfl, (tq_2 (i := 11) rfl)⟩, List.forall_mem_cons.mpr ⟨⟨xc_109, Or.inl (tw_4 (i := 64) rfl rfl), (tw_4 (i := 65) rfl rfl), by decide +kernel, _, _, _, rfl, (tw_4 (i := 66) rfl rfl)⟩, List.forall_mem_cons.mpr ⟨⟨xc_45, Or.inl (tw_4 (i := 69) rfl rfl), (tw_4 (i := 71) rfl rfl), by decide +kernel, _, _, _, rfl, (tq_2 (i := 10) rfl)⟩, List.forall_mem_cons.mpr ⟨⟨xc_47, Or.inl (tw_4 (i := 77) rfl rfl), (tw_4 (i := 79) rfl rfl), by decide +kernel, _, _, _, rfl, (tq_2 (i := 12) rfl)⟩, List.forall_mem_cons.mpr ⟨⟨xc_48, Or.inl (tw_4 (i := 81) rfl rfl), (tw_4 (i := 83) rfl rfl), by decide +kernel, _, _, _, rfl, (tq_2 (i := 13) rfl)⟩, List.forall_mem_cons.mpr ⟨⟨xc_51, Or.inl (tw_4 (i := 85) rfl rfl), (tw_4 (i := 87) rfl rfl), by decide +kernel, _, _, _, rfl, (tq_2 (i := 14) rfl)⟩, List.forall_mem_cons.mpr ⟨⟨xc_49, Or.inl (tw_4 (i := 98) rfl rfl), (tw_4 (i := 100) rfl rfl), by decide +kernel, _, _, _, rfl, (tq_3 (i := 1) rfl)⟩, List.forall_mem_cons.mpr ⟨⟨xc_50, Or.inl (tw_4 (i := 102) rfl rfl), (tw_4 (i := 104) rfl rfl), by decide +kernel, _, _, _, rfl, (tq_3 (i := 2) rfl)⟩, List.forall_mem_cons.mpr ⟨⟨xc_53, Or.inl (tw_4 (i := 106) rfl rfl), (tw_4 (i := 108) rfl rfl), by decide +kernel, _, _, _, rfl, (tq_3 (i := 3) rfl)⟩, List.forall_mem_cons.mpr ⟨⟨xc_43, Or.inl (tw_4 (i := 90) rfl rfl), (tw_4 (i := 92) rfl rfl), by decide +kernel, _, _, _, rfl, (tq_2 (i := 15) rfl)⟩, List.forall_mem_cons.mpr ⟨⟨xc_55, Or.inl (tw_4 (i := 115) rfl rfl), (tw_4 (i := 117) rfl rfl), by decide +kernel, _, _, _, rfl, (tq_3 (i := 5) rfl)⟩, fun _ h => absurd h List.not_mem_nil⟩⟩⟩⟩⟩⟩⟩⟩⟩⟩⟩⟩
def mL_5_2 : List (Nat × Nat × Nat × Nat) := [(161, 52, 1, 0), (164, 54, 1, 1), (169, 56, 1, 2), (175, 110, 1, 4), (179, 58, 1, 1), (182, 57, 0, 1), (199, 59, 1, 0), (202, 60, 1, 1), (205, 61, 1, 2), (208, 62, 1, 2)]
theorem mK_5_2 : ∀ e ∈ mL_5_2, x_lok "PhaseReader$Parser" e := List.forall_mem_cons.mpr ⟨⟨xc_52, Or.inl (tw_4 (i := 94) rfl rfl), (tw_4 (i := 96) rfl rfl), by decide +kernel, _, _, _, rfl, (tq_3 (i := 0) rfl)⟩, List.forall_mem_cons.mpr ⟨⟨xc_54, Or.inl (tw_4 (i := 110) rfl rfl), (tw_4 (i := 112) rfl rfl), by decide +kernel, _, _, _, rfl, (tq_3 (i := 4) rfl)⟩, List.forall_mem_cons.mpr ⟨⟨xc_56, Or.inl (tw_4 (i := 119) rfl rfl), (tw_4 (i := 121) rfl rfl), by decide +kernel, _, _, _, rfl, (tq_3 (i := 6) rfl)⟩, List.forall_mem_cons.mpr ⟨⟨xc_110, Or.inl (tw_4 (i := 141) rfl rfl), (tw_4 (i := 142) rfl rfl), by decide +kernel, _, _, _, rfl, (tw_4 (i := 143) rfl rfl)⟩, List.forall_mem_cons.mpr ⟨⟨xc_58, Or.inl (tw_4 (i := 123) rfl rfl), (tw_4 (i := 125) rfl rfl), by decide +kernel, _, _, _, rfl, (tq_3 (i := 7) rfl)⟩, List.forall_mem_cons.mpr ⟨⟨xc_57, Or.inl (tw_4 (i := 150) rfl rfl), (tw_4 (i := 151) rfl rfl), by decide +kernel⟩, List.forall_mem_cons.mpr ⟨⟨xc_59, Or.inl (tw_4 (i := 129) rfl rfl), (tw_4 (i := 131) rfl rfl), by decide +kernel, _, _, _, rfl, (tq_3 (i := 8) rfl)⟩, List.forall_mem_cons.mpr ⟨⟨xc_60, Or.inl (tw_4 (i := 133) rfl rfl), (tw_4 (i := 135) rfl rfl), by decide +kernel, _, _, _, rfl, (tq_3 (i := 9) rfl)⟩, List.forall_mem_cons.mpr ⟨⟨xc_61, Or.inl (tw_4 (i := 137) rfl rfl), (tw_4 (i := 139) rfl rfl), by decide +kernel, _, _, _, rfl, (tq_3 (i := 10) rfl)⟩, List.forall_mem_cons.mpr ⟨⟨xc_62, Or.inl (tw_4 (i := 146) rfl rfl), (tw_4 (i := 148) rfl rfl), by decide +kernel, _, _, _, rfl, (tq_3 (i := 11) rfl)⟩, fun _ h => absurd h List.not_mem_nil⟩⟩⟩⟩⟩⟩⟩⟩⟩⟩
def mL_5 : List (Nat × Nat × Nat × Nat) := [(5, 0, 3, 0), (13, 108, 2, 0), (35, 39, 1, 1), (43, 41, 1, 0), (47, 42, 1, 0), (50, 46, 1, 0), (56, 0, 4, 2), (64, 40, 0, 1), (74, 104, 0, 1), (78, 105, 0, 1), (83, 103, 0, 2), (93, 101, 0, 1), (96, 102, 0, 2), (112, 44, 1, 1), (116, 109, 1, 3), (120, 45, 1, 0), (123, 47, 1, 2), (130, 48, 1, 0), (133, 51, 1, 1), (136, 49, 1, 2), (143, 50, 1, 1), (146, 53, 1, 1), (149, 43, 1, 1), (153, 55, 1, 1), (161, 52, 1, 0), (164, 54, 1, 1), (169, 56, 1, 2), (175, 110, 1, 4), (179, 58, 1, 1), (182, 57, 0, 1), (199, 59, 1, 0), (202, 60, 1, 1), (205, 61, 1, 2), (208, 62, 1, 2)]
theorem mK_5 : ∀ e ∈ mL_5, x_lok "PhaseReader$Parser" e := by
  have h : mL_5 = mL_5_0 ++ (mL_5_1 ++ (mL_5_2)) := rfl
  rw [h]
  exact List.forall_mem_append.mpr ⟨mK_5_0, List.forall_mem_append.mpr ⟨mK_5_1, mK_5_2⟩⟩
def mL_6_0 : List (Nat × Nat × Nat × Nat) := [(7, 0, 3, 0), (15, 19, 2, 0), (22, 74, 2, 0), (33, 85, 2, 0), (34, 20, 1, 0), (44, 86, 1, 1), (54, 75, 1, 2), (70, 65, 1, 1), (74, 66, 1, 1), (77, 88, 1, 1), (84, 89, 1, 2), (97, 21, 1, 3)]
theorem mK_6_0 : ∀ e ∈ mL_6_0, x_lok "PhaseReader$Preprocessor" e := List.forall_mem_cons.mpr ⟨⟨(tw_1 (i := 36) rfl rfl), (tw_1 (i := 27) rfl rfl), (tw_1 (i := 28) rfl rfl)⟩, List.forall_mem_cons.mpr ⟨⟨xc_19, Or.inl (tw_1 (i := 39) rfl rfl), (tw_1 (i := 40) rfl rfl), by decide +kernel, rfl, rfl⟩, List.forall_mem_cons.mpr ⟨⟨xc_74, Or.inr ⟨_, List.mem_of_getElem? (i := 4) rfl⟩, (tw_1 (i := 182) rfl rfl), by decide +kernel, rfl, rfl⟩, List.forall_mem_cons.mpr ⟨⟨xc_85, Or.inr ⟨_, List.mem_of_getElem? (i := 5) rfl⟩, (tw_1 (i := 200) rfl rfl), by decide +kernel, rfl, rfl⟩, List.forall_mem_cons.mpr ⟨⟨xc_20, Or.inl (tw_2 (i := 151) rfl rfl), (tw_2 (i := 152) rfl rfl), by decide +kernel, _, _, _, rfl, (tw_2 (i := 153) rfl rfl)⟩, List.forall_mem_cons.mpr ⟨⟨xc_86, Or.inl (tw_2 (i := 155) rfl rfl), (tw_2 (i := 156) rfl rfl), by decide +kernel, _, _, _, rfl, (tw_2 (i := 157) rfl rfl)⟩, List.forall_mem_cons.mpr ⟨⟨xc_75, Or.inl (tw_2 (i := 159) rfl rfl), (tw_2 (i := 160) rfl rfl), by decide +kernel, _, _, _, rfl, (tw_2 (i := 161) rfl rfl)⟩, List.forall_mem_cons.mpr ⟨⟨xc_65, Or.inl (tw_3 (i := 78) rfl rfl), (tw_3 (i := 80) rfl rfl), by decide +kernel, _, _, _, rfl, (tq_1 (i := 8) rfl)⟩, List.forall_mem_cons.mpr ⟨⟨xc_66, Or.inl (tw_4 (i := 17) rfl rfl), (tw_4 (i := 19) rfl rfl), by decide +kernel, _, _, _, rfl, (tq_2 (i := 5) rfl)⟩, List.forall_mem_cons.mpr ⟨⟨xc_88, Or.inl (tw_3 (i := 82) rfl rfl), (tw_3 (i := 83) rfl rfl), by decide +kernel, _, _, _, rfl, (tw_3 (i := 84) rfl rfl)⟩, List.forall_mem_cons.mpr ⟨⟨xc_89, Or.inl (tw_3 (i := 86) rfl rfl), (tw_3 (i := 87) rfl rfl), by decide +kernel, _, _, _, rfl, (tw_3 (i := 88) rfl rfl)⟩, List.forall_mem_cons.mpr ⟨⟨xc_21, Or.inl (tw_3 (i := 101) rfl rfl), (tw_3 (i := 102) rfl rfl), by decide +kernel, _, _, _, rfl, (tw_3 (i := 103) rfl rfl)⟩, fun _ h => absurd h List.not_mem_nil⟩⟩⟩⟩⟩⟩⟩⟩⟩⟩⟩⟩
def mL_6_1 : List (Nat × Nat × Nat × Nat) := [(101, 67, 1, 3), (110, 103, 0, 2), (114, 70, 1, 3), (118, 69, 1, 3), (122, 91, 1, 0), (128, 92, 1, 0), (131, 106, 0, 1), (135, 68, 1, 3), (145, 36, 1, 1), (151, 34, 1, 1), (157, 90, 1, 1), (177, 71, 0, 3)]
theorem mK_6_1 : ∀ e ∈ mL_6_1, x_lok "PhaseReader$Preprocessor" e := List.forall_mem_cons.mpr ⟨⟨xc_67, Or.inl (tw_3 (i := 184) rfl rfl), (tw_3 (i := 186) rfl rfl), by decide +kernel, _, _, _, rfl, (tq_2 (i := 1) rfl)⟩, List.forall_mem_cons.mpr ⟨⟨xc_103, Or.inl (tw_3 (i := 189) rfl rfl), (tw_3 (i := 93) rfl rfl), by decide +kernel⟩, List.forall_mem_cons.mpr ⟨⟨xc_70, Or.inl (tw_3 (i := 190) rfl rfl), (tw_3 (i := 192) rfl rfl), by decide +kernel, _, _, _, rfl, (tq_2 (i := 2) rfl)⟩, List.forall_mem_cons.mpr ⟨⟨xc_69, Or.inl (tw_3 (i := 223) rfl rfl), (tw_3 (i := 225) rfl rfl), by decide +kernel, _, _, _, rfl, (tq_2 (i := 3) rfl)⟩, List.forall_mem_cons.mpr ⟨⟨xc_91, Or.inl (tw_3 (i := 232) rfl rfl), (tw_3 (i := 233) rfl rfl), by decide +kernel, _, _, _, rfl, (tw_3 (i := 234) rfl rfl)⟩, List.forall_mem_cons.mpr ⟨⟨xc_92, Or.inl (tw_3 (i := 237) rfl rfl), (tw_3 (i := 238) rfl rfl), by decide +kernel, _, _, _, rfl, (tw_3 (i := 239) rfl rfl)⟩, List.forall_mem_cons.mpr ⟨⟨xc_106, Or.inl (tw_3 (i := 194) rfl rfl), (tw_3 (i := 195) rfl rfl), by decide +kernel⟩, List.forall_mem_cons.mpr ⟨⟨xc_68, Or.inl (tw_4 (i := 1) rfl rfl), (tw_4 (i := 3) rfl rfl), by decide +kernel, _, _, _, rfl, (tq_2 (i := 4) rfl)⟩, List.forall_mem_cons.mpr ⟨⟨xc_36, Or.inl (tw_4 (i := 6) rfl rfl), (tw_4 (i := 7) rfl rfl), by decide +kernel, _, _, _, rfl, (tw_4 (i := 8) rfl rfl)⟩, List.forall_mem_cons.mpr ⟨⟨xc_34, Or.inl (tw_4 (i := 10) rfl rfl), (tw_3 (i := 118) rfl rfl), by decide +kernel, _, _, _, rfl, (tw_3 (i := 119) rfl rfl)⟩, List.forall_mem_cons.mpr ⟨⟨xc_90, Or.inl (tw_4 (i := 12) rfl rfl), (tw_4 (i := 13) rfl rfl), by decide +kernel, _, _, _, rfl, (tw_4 (i := 14) rfl rfl)⟩, List.forall_mem_cons.mpr ⟨⟨xc_71, Or.inl (tw_3 (i := 204) rfl rfl), (tw_3 (i := 205) rfl rfl), by decide +kernel⟩, fun _ h => absurd h List.not_mem_nil⟩⟩⟩⟩⟩⟩⟩⟩⟩⟩⟩⟩
def mL_6_2 : List (Nat × Nat × Nat × Nat) := [(180, 73, 0, 3), (184, 35, 1, 5), (189, 72, 0, 3)]
theorem mK_6_2 : ∀ e ∈ mL_6_2, x_lok "PhaseReader$Preprocessor" e := List.forall_mem_cons.mpr ⟨⟨xc_73, Or.inl (tw_3 (i := 212) rfl rfl), (tw_3 (i := 213) rfl rfl), by decide +kernel⟩, List.forall_mem_cons.mpr ⟨⟨xc_35, Or.inl (tw_3 (i := 216) rfl rfl), (tw_3 (i := 217) rfl rfl), by decide +kernel, _, _, _, rfl, (tw_3 (i := 218) rfl rfl)⟩, List.forall_mem_cons.mpr ⟨⟨xc_72, Or.inl (tw_3 (i := 208) rfl rfl), (tw_3 (i := 209) rfl rfl), by decide +kernel⟩, fun _ h => absurd h List.not_mem_nil⟩⟩⟩
def mL_6 : List (Nat × Nat × Nat × Nat) := [(7, 0, 3, 0), (15, 19, 2, 0), (22, 74, 2, 0), (33, 85, 2, 0), (34, 20, 1, 0), (44, 86, 1, 1), (54, 75, 1, 2), (70, 65, 1, 1), (74, 66, 1, 1), (77, 88, 1, 1), (84, 89, 1, 2), (97, 21, 1, 3), (101, 67, 1, 3), (110, 103, 0, 2), (114, 70, 1, 3), (118, 69, 1, 3), (122, 91, 1, 0), (128, 92, 1, 0), (131, 106, 0, 1), (135, 68, 1, 3), (145, 36, 1, 1), (151, 34, 1, 1), (157, 90, 1, 1), (177, 71, 0, 3), (180, 73, 0, 3), (184, 35, 1, 5), (189, 72, 0, 3)]
theorem mK_6 : ∀ e ∈ mL_6, x_lok "PhaseReader$Preprocessor" e := by
  have h : mL_6 = mL_6_0 ++ (mL_6_1 ++ (mL_6_2)) := rfl
  rw [h]
  exact List.forall_mem_append.mpr ⟨mK_6_0, List.forall_mem_append.mpr ⟨mK_6_1, mK_6_2⟩⟩
def mL_7_0 : List (Nat × Nat × Nat × Nat) := [(3, 0, 3, 0), (27, 76, 1, 1), (31, 78, 1, 0), (34, 79, 1, 1), (43, 77, 0, 2), (50, 173, 7, 1), (58, 174, 7, 1), (62, 80, 1, 1), (65, 83, 1, 1), (73, 84, 1, 2), (77, 87, 1, 4), (81, 81, 1, 1)]
theorem mK_7_0 : ∀ e ∈ mL_7_0, x_lok "PhaseReader$Scanner" e := List.forall_mem_cons.mpr ⟨⟨(tw_1 (i := 184) rfl rfl), (tw_1 (i := 27) rfl rfl), (tw_1 (i := 28) rfl rfl)⟩, List.forall_mem_cons.mpr ⟨⟨xc_76, Or.inl (tw_2 (i := 163) rfl rfl), (tw_2 (i := 165) rfl rfl), by decide +kernel, _, _, _, rfl, (tq_1 (i := 0) rfl)⟩, List.forall_mem_cons.mpr ⟨⟨xc_78, Or.inl (tw_3 (i := 38) rfl rfl), (tw_3 (i := 40) rfl rfl), by decide +kernel, _, _, _, rfl, (tq_1 (i := 1) rfl)⟩, List.forall_mem_cons.mpr ⟨⟨xc_79, Or.inl (tw_3 (i := 42) rfl rfl), (tw_3 (i := 44) rfl rfl), by decide +kernel, _, _, _, rfl, (tq_1 (i := 2) rfl)⟩, List.forall_mem_cons.mpr ⟨⟨xc_77, Or.inl (tw_2 (i := 167) rfl rfl), (tw_2 (i := 168) rfl rfl), by decide +kernel⟩, List.forall_mem_cons.mpr ⟨⟨xc_173, Or.inl (tw_3 (i := 18) rfl rfl), (tw_3 (i := 19) rfl rfl), by decide +kernel, (tw_3 (i := 20) rfl rfl)⟩, List.forall_mem_cons.mpr ⟨⟨xc_174, Or.inl (tw_2 (i := 171) rfl rfl), (tw_2 (i := 172) rfl rfl), by decide +kernel, (tw_2 (i := 173) rfl rfl)⟩, List.forall_mem_cons.mpr ⟨⟨xc_80, Or.inl (tw_3 (i := 46) rfl rfl), (tw_3 (i := 48) rfl rfl), by decide +kernel, _, _, _, rfl, (tq_1 (i := 3) rfl)⟩, List.forall_mem_cons.mpr ⟨⟨xc_83, Or.inl (tw_3 (i := 58) rfl rfl), (tw_3 (i := 60) rfl rfl), by decide +kernel, _, _, _, rfl, (tq_1 (i := 6) rfl)⟩, List.forall_mem_cons.mpr ⟨⟨xc_84, Or.inl (tw_3 (i := 66) rfl rfl), (tw_3 (i := 68) rfl rfl), by decide +kernel, _, _, _, rfl, (tq_1 (i := 7) rfl)⟩, List.forall_mem_cons.mpr ⟨⟨xc_87, Or.inl (tw_3 (i := 70) rfl rfl), (tw_3 (i := 71) rfl rfl), by decide +kernel, _, _, _, rfl, (tw_3 (i := 72) rfl rfl)⟩, List.forall_mem_cons.mpr ⟨⟨xc_81, Or.inl (tw_3 (i := 50) rfl rfl), (tw_3 (i := 52) rfl rfl), by decide +kernel, _, _, _, rfl, (tq_1 (i := 4) rfl)⟩, fun _ h => absurd h List.not_mem_nil⟩⟩⟩⟩⟩⟩⟩⟩⟩⟩⟩⟩
def mL_7_1 : List (Nat × Nat × Nat × Nat) := [(84, 82, 1, 1), (89, 104, 0, 1)]
theorem mK_7_1 : ∀ e ∈ mL_7_1, x_lok "PhaseReader$Scanner" e := List.forall_mem_cons.mpr ⟨⟨xc_82, Or.inl (tw_3 (i := 54) rfl rfl), (tw_3 (i := 56) rfl rfl), by decide +kernel, _, _, _, rfl, (tq_1 (i := 5) rfl)⟩, List.forall_mem_cons.mpr ⟨⟨xc_104, Or.inl (tw_3 (i := 63) rfl rfl), (tw_3 (i := 64) rfl rfl), by decide +kernel⟩, fun _ h => absurd h List.not_mem_nil⟩⟩
def mL_7 : List (Nat × Nat × Nat × Nat) := [(3, 0, 3, 0), (27, 76, 1, 1), (31, 78, 1, 0), (34, 79, 1, 1), (43, 77, 0, 2), (50, 173, 7, 1), (58, 174, 7, 1), (62, 80, 1, 1), (65, 83, 1, 1), (73, 84, 1, 2), (77, 87, 1, 4), (81, 81, 1, 1), (84, 82, 1, 1), (89, 104, 0, 1)]
theorem mK_7 : ∀ e ∈ mL_7, x_lok "PhaseReader$Scanner" e := by
  have h : mL_7 = mL_7_0 ++ (mL_7_1) := rfl
  rw [h]
  exact List.forall_mem_append.mpr ⟨mK_7_0, mK_7_1⟩
def mL_8_0 : List (Nat × Nat × Nat × Nat) := [(5, 0, 3, 0), (13, 95, 2, 1), (62, 96, 1, 3), (74, 103, 0, 2)]
theorem mK_8_0 : ∀ e ∈ mL_8_0, x_lok "PhaseReader$Source" e := List.forall_mem_cons.mpr ⟨⟨(tw_1 (i := 202) rfl rfl), (tw_1 (i := 27) rfl rfl), (tw_1 (i := 28) rfl rfl)⟩, List.forall_mem_cons.mpr ⟨⟨xc_95, Or.inl (tw_1 (i := 204) rfl rfl), (tw_1 (i := 97) rfl rfl), by decide +kernel, rfl, rfl⟩, List.forall_mem_cons.mpr ⟨⟨xc_96, Or.inl (tw_3 (i := 74) rfl rfl), (tw_3 (i := 75) rfl rfl), by decide +kernel, _, _, _, rfl, (tw_3 (i := 76) rfl rfl)⟩, List.forall_mem_cons.mpr ⟨⟨xc_103, Or.inl (tw_3 (i := 92) rfl rfl), (tw_3 (i := 93) rfl rfl), by decide +kernel⟩, fun _ h => absurd h List.not_mem_nil⟩⟩⟩⟩
def mL_8 : List (Nat × Nat × Nat × Nat) := [(5, 0, 3, 0), (13, 95, 2, 1), (62, 96, 1, 3), (74, 103, 0, 2)]
theorem mK_8 : ∀ e ∈ mL_8, x_lok "PhaseReader$Source" e := by
  have h : mL_8 = mL_8_0 := rfl
  rw [h]
  exact mK_8_0
def mL_9_0 : List (Nat × Nat × Nat × Nat) := [(1, 0, 3, 0)]
theorem mK_9_0 : ∀ e ∈ mL_9_0, x_lok "PhaseReader$Text" e := List.forall_mem_cons.mpr ⟨⟨(tw_2 (i := 93) rfl rfl), (tw_1 (i := 27) rfl rfl), (tw_1 (i := 28) rfl rfl)⟩, fun _ h => absurd h List.not_mem_nil⟩
def mL_9 : List (Nat × Nat × Nat × Nat) := [(1, 0, 3, 0)]
theorem mK_9 : ∀ e ∈ mL_9, x_lok "PhaseReader$Text" e := by
  have h : mL_9 = mL_9_0 := rfl
  rw [h]
  exact mK_9_0
def mL_10_0 : List (Nat × Nat × Nat × Nat) := [(3, 0, 3, 0), (21, 104, 0, 1), (29, 101, 0, 1), (33, 98, 1, 1), (37, 0, 8, 5), (43, 172, 7, 0), (49, 173, 7, 1), (53, 107, 0, 1)]
theorem mK_10_0 : ∀ e ∈ mL_10_0, x_lok "PhaseReader$TokenRow" e := List.forall_mem_cons.mpr ⟨⟨(tw_1 (i := 99) rfl rfl), (tw_1 (i := 27) rfl rfl), (tw_1 (i := 28) rfl rfl)⟩, List.forall_mem_cons.mpr ⟨⟨xc_104, Or.inl (tw_3 (i := 170) rfl rfl), (tw_3 (i := 64) rfl rfl), by decide +kernel⟩, List.forall_mem_cons.mpr ⟨⟨xc_101, Or.inl (tw_3 (i := 173) rfl rfl), (tw_3 (i := 174) rfl rfl), by decide +kernel⟩, List.forall_mem_cons.mpr ⟨⟨xc_98, Or.inl (tw_3 (i := 176) rfl rfl), (tw_3 (i := 122) rfl rfl), by decide +kernel, _, _, _, rfl, (tw_3 (i := 123) rfl rfl)⟩, List.forall_mem_cons.mpr ⟨⟨(tw_3 (i := 177) rfl rfl), (tw_3 (i := 179) rfl rfl), (tw_3 (i := 178) rfl rfl), (tw_1 (i := 20) rfl rfl)⟩, List.forall_mem_cons.mpr ⟨⟨xc_172, Or.inl (tw_3 (i := 95) rfl rfl), (tw_2 (i := 186) rfl rfl), by decide +kernel, (tw_2 (i := 187) rfl rfl)⟩, List.forall_mem_cons.mpr ⟨⟨xc_173, Or.inl (tw_3 (i := 96) rfl rfl), (tw_3 (i := 19) rfl rfl), by decide +kernel, (tw_3 (i := 20) rfl rfl)⟩, List.forall_mem_cons.mpr ⟨⟨xc_107, Or.inl (tw_3 (i := 197) rfl rfl), (tw_3 (i := 198) rfl rfl), by decide +kernel⟩, fun _ h => absurd h List.not_mem_nil⟩⟩⟩⟩⟩⟩⟩⟩
def mL_10 : List (Nat × Nat × Nat × Nat) := [(3, 0, 3, 0), (21, 104, 0, 1), (29, 101, 0, 1), (33, 98, 1, 1), (37, 0, 8, 5), (43, 172, 7, 0), (49, 173, 7, 1), (53, 107, 0, 1)]
theorem mK_10 : ∀ e ∈ mL_10, x_lok "PhaseReader$TokenRow" e := by
  have h : mL_10 = mL_10_0 := rfl
  rw [h]
  exact mK_10_0
def mL_11_0 : List (Nat × Nat × Nat × Nat) := [(3, 0, 3, 0), (25, 0, 4, 2), (31, 0, 8, 5)]
theorem mK_11_0 : ∀ e ∈ mL_11_0, x_lok "PhaseReader$Tree" e := List.forall_mem_cons.mpr ⟨⟨(tw_2 (i := 41) rfl rfl), (tw_1 (i := 27) rfl rfl), (tw_1 (i := 28) rfl rfl)⟩, List.forall_mem_cons.mpr ⟨⟨(tw_4 (i := 68) rfl rfl), (tw_2 (i := 203) rfl rfl), (tw_1 (i := 16) rfl rfl), (tw_2 (i := 204) rfl rfl)⟩, List.forall_mem_cons.mpr ⟨⟨(tw_4 (i := 145) rfl rfl), (tw_3 (i := 179) rfl rfl), (tw_3 (i := 178) rfl rfl), (tw_1 (i := 20) rfl rfl)⟩, fun _ h => absurd h List.not_mem_nil⟩⟩⟩
def mL_11 : List (Nat × Nat × Nat × Nat) := [(3, 0, 3, 0), (25, 0, 4, 2), (31, 0, 8, 5)]
theorem mK_11 : ∀ e ∈ mL_11, x_lok "PhaseReader$Tree" e := by
  have h : mL_11 = mL_11_0 := rfl
  rw [h]
  exact mK_11_0
def mL_12_0 : List (Nat × Nat × Nat × Nat) := [(1, 0, 3, 0), (184, 120, 0, 1), (190, 121, 0, 2), (194, 118, 0, 1), (198, 117, 0, 1), (204, 116, 0, 1), (208, 119, 0, 1), (211, 124, 1, 1), (221, 126, 1, 1), (224, 125, 1, 1), (227, 136, 1, 0), (233, 130, 1, 2)]
theorem mK_12_0 : ∀ e ∈ mL_12_0, x_lok "PhaseReaderModel" e := List.forall_mem_cons.mpr ⟨⟨(tw_4 (i := 203) rfl rfl), (tw_1 (i := 27) rfl rfl), (tw_1 (i := 28) rfl rfl)⟩, List.forall_mem_cons.mpr ⟨⟨xc_120, Or.inl (tw_6 (i := 24) rfl rfl), (tw_6 (i := 25) rfl rfl), by decide +kernel⟩, List.forall_mem_cons.mpr ⟨⟨xc_121, Or.inl (tw_6 (i := 27) rfl rfl), (tw_6 (i := 28) rfl rfl), by decide +kernel⟩, List.forall_mem_cons.mpr ⟨⟨xc_118, Or.inl (tw_6 (i := 64) rfl rfl), (tw_6 (i := 65) rfl rfl), by decide +kernel⟩, List.forall_mem_cons.mpr ⟨⟨xc_117, Or.inl (tw_5 (i := 220) rfl rfl), (tw_5 (i := 221) rfl rfl), by decide +kernel⟩, List.forall_mem_cons.mpr ⟨⟨xc_116, Or.inl (tw_5 (i := 209) rfl rfl), (tw_5 (i := 210) rfl rfl), by decide +kernel⟩, List.forall_mem_cons.mpr ⟨⟨xc_119, Or.inl (tw_5 (i := 223) rfl rfl), (tw_5 (i := 224) rfl rfl), by decide +kernel⟩, List.forall_mem_cons.mpr ⟨⟨xc_124, Or.inl (tw_5 (i := 205) rfl rfl), (tw_5 (i := 207) rfl rfl), by decide +kernel, _, _, _, rfl, (tq_3 (i := 14) rfl)⟩, List.forall_mem_cons.mpr ⟨⟨xc_126, Or.inl (tw_5 (i := 212) rfl rfl), (tw_5 (i := 214) rfl rfl), by decide +kernel, _, _, _, rfl, (tq_3 (i := 15) rfl)⟩, List.forall_mem_cons.mpr ⟨⟨xc_125, Or.inl (tw_5 (i := 216) rfl rfl), (tw_5 (i := 218) rfl rfl), by decide +kernel, _, _, _, rfl, (tq_4 (i := 0) rfl)⟩, List.forall_mem_cons.mpr ⟨⟨xc_136, Or.inl (tw_5 (i := 230) rfl rfl), (tw_5 (i := 232) rfl rfl), by decide +kernel, _, _, _, rfl, (tq_4 (i := 2) rfl)⟩, List.forall_mem_cons.mpr ⟨⟨xc_130, Or.inl (tw_6 (i := 44) rfl rfl), (tw_6 (i := 46) rfl rfl), by decide +kernel, _, _, _, rfl, (tq_4 (i := 12) rfl)⟩, fun _ h => absurd h List.not_mem_nil⟩⟩⟩⟩⟩⟩⟩⟩⟩⟩⟩⟩
def mL_12_1 : List (Nat × Nat × Nat × Nat) := [(237, 128, 1, 0), (257, 135, 1, 2), (262, 132, 1, 2), (265, 123, 0, 1), (269, 131, 1, 1), (275, 133, 1, 1), (289, 127, 1, 1), (298, 134, 1, 2), (303, 169, 1, 0), (318, 137, 1, 2), (323, 138, 1, 0), (329, 141, 1, 0)]
theorem mK_12_1 : ∀ e ∈ mL_12_1, x_lok "PhaseReaderModel" e := List.forall_mem_cons.mpr ⟨⟨xc_128, Or.inl (tw_6 (i := 52) rfl rfl), (tw_6 (i := 54) rfl rfl), by decide +kernel, _, _, _, rfl, (tq_4 (i := 13) rfl)⟩, List.forall_mem_cons.mpr ⟨⟨xc_135, Or.inl (tw_6 (i := 57) rfl rfl), (tw_6 (i := 59) rfl rfl), by decide +kernel, _, _, _, rfl, (tq_4 (i := 14) rfl)⟩, List.forall_mem_cons.mpr ⟨⟨xc_132, Or.inl (tw_6 (i := 76) rfl rfl), (tw_6 (i := 78) rfl rfl), by decide +kernel, _, _, _, rfl, (tq_5 (i := 0) rfl)⟩, List.forall_mem_cons.mpr ⟨⟨xc_123, Or.inl (tw_6 (i := 61) rfl rfl), (tw_6 (i := 62) rfl rfl), by decide +kernel⟩, List.forall_mem_cons.mpr ⟨⟨xc_131, Or.inl (tw_6 (i := 84) rfl rfl), (tw_6 (i := 86) rfl rfl), by decide +kernel, _, _, _, rfl, (tq_5 (i := 1) rfl)⟩, List.forall_mem_cons.mpr ⟨⟨xc_133, Or.inl (tw_6 (i := 32) rfl rfl), (tw_6 (i := 34) rfl rfl), by decide +kernel, _, _, _, rfl, (tq_4 (i := 10) rfl)⟩, List.forall_mem_cons.mpr ⟨⟨xc_127, Or.inl (tw_5 (i := 201) rfl rfl), (tw_5 (i := 203) rfl rfl), by decide +kernel, _, _, _, rfl, (tq_3 (i := 13) rfl)⟩, List.forall_mem_cons.mpr ⟨⟨xc_134, Or.inl (tw_6 (i := 67) rfl rfl), (tw_6 (i := 69) rfl rfl), by decide +kernel, _, _, _, rfl, (tq_4 (i := 15) rfl)⟩, List.forall_mem_cons.mpr ⟨⟨xc_169, Or.inl (tw_6 (i := 71) rfl rfl), (tw_6 (i := 72) rfl rfl), by decide +kernel, _, _, _, rfl, (tw_6 (i := 73) rfl rfl)⟩, List.forall_mem_cons.mpr ⟨⟨xc_137, Or.inl (tw_5 (i := 234) rfl rfl), (tw_5 (i := 236) rfl rfl), by decide +kernel, _, _, _, rfl, (tq_4 (i := 3) rfl)⟩, List.forall_mem_cons.mpr ⟨⟨xc_138, Or.inl (tw_5 (i := 239) rfl rfl), (tw_6 (i := 1) rfl rfl), by decide +kernel, _, _, _, rfl, (tq_4 (i := 4) rfl)⟩, List.forall_mem_cons.mpr ⟨⟨xc_141, Or.inl (tw_6 (i := 3) rfl rfl), (tw_6 (i := 5) rfl rfl), by decide +kernel, _, _, _, rfl, (tq_4 (i := 5) rfl)⟩, fun _ h => absurd h List.not_mem_nil⟩⟩⟩⟩⟩⟩⟩⟩⟩⟩⟩⟩
def mL_12_2 : List (Nat × Nat × Nat × Nat) := [(332, 139, 1, 1), (338, 140, 1, 0), (341, 143, 1, 0), (344, 142, 1, 2), (348, 144, 1, 3), (357, 129, 1, 0), (360, 146, 1, 0), (363, 152, 1, 0), (366, 122, 0, 1), (393, 147, 1, 0), (396, 150, 1, 3), (400, 151, 1, 5)]
theorem mK_12_2 : ∀ e ∈ mL_12_2, x_lok "PhaseReaderModel" e := List.forall_mem_cons.mpr ⟨⟨xc_139, Or.inl (tw_6 (i := 37) rfl rfl), (tw_6 (i := 39) rfl rfl), by decide +kernel, _, _, _, rfl, (tq_4 (i := 11) rfl)⟩, List.forall_mem_cons.mpr ⟨⟨xc_140, Or.inl (tw_6 (i := 7) rfl rfl), (tw_6 (i := 9) rfl rfl), by decide +kernel, _, _, _, rfl, (tq_4 (i := 6) rfl)⟩, List.forall_mem_cons.mpr ⟨⟨xc_143, Or.inl (tw_6 (i := 11) rfl rfl), (tw_6 (i := 13) rfl rfl), by decide +kernel, _, _, _, rfl, (tq_4 (i := 7) rfl)⟩, List.forall_mem_cons.mpr ⟨⟨xc_142, Or.inl (tw_6 (i := 16) rfl rfl), (tw_6 (i := 18) rfl rfl), by decide +kernel, _, _, _, rfl, (tq_4 (i := 8) rfl)⟩, List.forall_mem_cons.mpr ⟨⟨xc_144, Or.inl (tw_6 (i := 20) rfl rfl), (tw_6 (i := 22) rfl rfl), by decide +kernel, _, _, _, rfl, (tq_4 (i := 9) rfl)⟩, List.forall_mem_cons.mpr ⟨⟨xc_129, Or.inl (tw_5 (i := 226) rfl rfl), (tw_5 (i := 228) rfl rfl), by decide +kernel, _, _, _, rfl, (tq_4 (i := 1) rfl)⟩, List.forall_mem_cons.mpr ⟨⟨xc_146, Or.inl (tw_6 (i := 89) rfl rfl), (tw_6 (i := 91) rfl rfl), by decide +kernel, _, _, _, rfl, (tq_5 (i := 2) rfl)⟩, List.forall_mem_cons.mpr ⟨⟨xc_152, Or.inl (tw_6 (i := 100) rfl rfl), (tw_6 (i := 102) rfl rfl), by decide +kernel, _, _, _, rfl, (tq_5 (i := 3) rfl)⟩, List.forall_mem_cons.mpr ⟨⟨xc_122, Or.inl (tw_6 (i := 93) rfl rfl), (tw_6 (i := 94) rfl rfl), by decide +kernel⟩, List.forall_mem_cons.mpr ⟨⟨xc_147, Or.inl (tw_6 (i := 104) rfl rfl), (tw_6 (i := 106) rfl rfl), by decide +kernel, _, _, _, rfl, (tq_5 (i := 4) rfl)⟩, List.forall_mem_cons.mpr ⟨⟨xc_150, Or.inl (tw_6 (i := 109) rfl rfl), (tw_6 (i := 111) rfl rfl), by decide +kernel, _, _, _, rfl, (tq_5 (i := 5) rfl)⟩, List.forall_mem_cons.mpr ⟨⟨xc_151, Or.inl (tw_6 (i := 113) rfl rfl), (tw_6 (i := 115) rfl rfl), by decide +kernel, _, _, _, rfl, (tq_5 (i := 6) rfl)⟩, fun _ h => absurd h List.not_mem_nil⟩⟩⟩⟩⟩⟩⟩⟩⟩⟩⟩⟩
def mL_12_3 : List (Nat × Nat × Nat × Nat) := [(404, 154, 1, 4), (408, 162, 1, 3), (412, 157, 1, 5), (417, 149, 1, 1), (420, 155, 1, 4), (423, 153, 1, 2), (426, 156, 1, 3), (434, 148, 1, 1), (437, 158, 1, 2), (447, 159, 0, 1), (450, 160, 1, 1), (455, 161, 1, 2)]
theorem mK_12_3 : ∀ e ∈ mL_12_3, x_lok "PhaseReaderModel" e := List.forall_mem_cons.mpr ⟨⟨xc_154, Or.inl (tw_6 (i := 117) rfl rfl), (tw_6 (i := 119) rfl rfl), by decide +kernel, _, _, _, rfl, (tq_5 (i := 7) rfl)⟩, List.forall_mem_cons.mpr ⟨⟨xc_162, Or.inl (tw_6 (i := 138) rfl rfl), (tw_6 (i := 140) rfl rfl), by decide +kernel, _, _, _, rfl, (tq_5 (i := 11) rfl)⟩, List.forall_mem_cons.mpr ⟨⟨xc_157, Or.inl (tw_6 (i := 167) rfl rfl), (tw_6 (i := 169) rfl rfl), by decide +kernel, _, _, _, rfl, (tq_6 (i := 0) rfl)⟩, List.forall_mem_cons.mpr ⟨⟨xc_149, Or.inl (tw_6 (i := 122) rfl rfl), (tw_6 (i := 124) rfl rfl), by decide +kernel, _, _, _, rfl, (tq_5 (i := 8) rfl)⟩, List.forall_mem_cons.mpr ⟨⟨xc_155, Or.inl (tw_6 (i := 128) rfl rfl), (tw_6 (i := 130) rfl rfl), by decide +kernel, _, _, _, rfl, (tq_5 (i := 9) rfl)⟩, List.forall_mem_cons.mpr ⟨⟨xc_153, Or.inl (tw_6 (i := 133) rfl rfl), (tw_6 (i := 135) rfl rfl), by decide +kernel, _, _, _, rfl, (tq_5 (i := 10) rfl)⟩, List.forall_mem_cons.mpr ⟨⟨xc_156, Or.inl (tw_6 (i := 171) rfl rfl), (tw_6 (i := 173) rfl rfl), by decide +kernel, _, _, _, rfl, (tq_6 (i := 1) rfl)⟩, List.forall_mem_cons.mpr ⟨⟨xc_148, Or.inl (tw_6 (i := 159) rfl rfl), (tw_6 (i := 161) rfl rfl), by decide +kernel, _, _, _, rfl, (tq_5 (i := 14) rfl)⟩, List.forall_mem_cons.mpr ⟨⟨xc_158, Or.inl (tw_6 (i := 175) rfl rfl), (tw_6 (i := 177) rfl rfl), by decide +kernel, _, _, _, rfl, (tq_6 (i := 2) rfl)⟩, List.forall_mem_cons.mpr ⟨⟨xc_159, Or.inl (tw_6 (i := 146) rfl rfl), (tw_6 (i := 147) rfl rfl), by decide +kernel⟩, List.forall_mem_cons.mpr ⟨⟨xc_160, Or.inl (tw_6 (i := 154) rfl rfl), (tw_6 (i := 156) rfl rfl), by decide +kernel, _, _, _, rfl, (tq_5 (i := 13) rfl)⟩, List.forall_mem_cons.mpr ⟨⟨xc_161, Or.inl (tw_6 (i := 142) rfl rfl), (tw_6 (i := 144) rfl rfl), by decide +kernel, _, _, _, rfl, (tq_5 (i := 12) rfl)⟩, fun _ h => absurd h List.not_mem_nil⟩⟩⟩⟩⟩⟩⟩⟩⟩⟩⟩⟩
def mL_12_4 : List (Nat × Nat × Nat × Nat) := [(458, 163, 1, 3)]
theorem mK_12_4 : ∀ e ∈ mL_12_4, x_lok "PhaseReaderModel" e := List.forall_mem_cons.mpr ⟨⟨xc_163, Or.inl (tw_6 (i := 163) rfl rfl), (tw_6 (i := 165) rfl rfl), by decide +kernel, _, _, _, rfl, (tq_5 (i := 15) rfl)⟩, fun _ h => absurd h List.not_mem_nil⟩
def mL_12 : List (Nat × Nat × Nat × Nat) := [(1, 0, 3, 0), (184, 120, 0, 1), (190, 121, 0, 2), (194, 118, 0, 1), (198, 117, 0, 1), (204, 116, 0, 1), (208, 119, 0, 1), (211, 124, 1, 1), (221, 126, 1, 1), (224, 125, 1, 1), (227, 136, 1, 0), (233, 130, 1, 2), (237, 128, 1, 0), (257, 135, 1, 2), (262, 132, 1, 2), (265, 123, 0, 1), (269, 131, 1, 1), (275, 133, 1, 1), (289, 127, 1, 1), (298, 134, 1, 2), (303, 169, 1, 0), (318, 137, 1, 2), (323, 138, 1, 0), (329, 141, 1, 0), (332, 139, 1, 1), (338, 140, 1, 0), (341, 143, 1, 0), (344, 142, 1, 2), (348, 144, 1, 3), (357, 129, 1, 0), (360, 146, 1, 0), (363, 152, 1, 0), (366, 122, 0, 1), (393, 147, 1, 0), (396, 150, 1, 3), (400, 151, 1, 5), (404, 154, 1, 4), (408, 162, 1, 3), (412, 157, 1, 5), (417, 149, 1, 1), (420, 155, 1, 4), (423, 153, 1, 2), (426, 156, 1, 3), (434, 148, 1, 1), (437, 158, 1, 2), (447, 159, 0, 1), (450, 160, 1, 1), (455, 161, 1, 2), (458, 163, 1, 3)]
theorem mK_12 : ∀ e ∈ mL_12, x_lok "PhaseReaderModel" e := by
  have h : mL_12 = mL_12_0 ++ (mL_12_1 ++ (mL_12_2 ++ (mL_12_3 ++ (mL_12_4)))) := rfl
  rw [h]
  exact List.forall_mem_append.mpr ⟨mK_12_0, List.forall_mem_append.mpr ⟨mK_12_1, List.forall_mem_append.mpr ⟨mK_12_2, List.forall_mem_append.mpr ⟨mK_12_3, mK_12_4⟩⟩⟩⟩
def mL_13_0 : List (Nat × Nat × Nat × Nat) := [(9, 1, 2, 0), (12, 111, 2, 0), (13, 2, 1, 1), (17, 112, 1, 1), (18, 3, 1, 1), (22, 113, 1, 1), (23, 4, 1, 0), (26, 114, 1, 0), (27, 5, 1, 1), (31, 115, 1, 1), (32, 6, 1, 1), (35, 145, 1, 1)]
theorem mK_13_0 : ∀ e ∈ mL_13_0, x_lok "PhaseReaderLaw" e := List.forall_mem_cons.mpr ⟨⟨xc_1, Or.inl (tw_1 (i := 23) rfl rfl), (tw_1 (i := 24) rfl rfl), by decide +kernel, rfl, rfl⟩, List.forall_mem_cons.mpr ⟨⟨xc_111, Or.inl (tw_4 (i := 200) rfl rfl), (tw_4 (i := 201) rfl rfl), by decide +kernel, rfl, rfl⟩, List.forall_mem_cons.mpr ⟨⟨xc_2, Or.inl (tw_2 (i := 120) rfl rfl), (tw_2 (i := 121) rfl rfl), by decide +kernel, _, _, _, rfl, (tw_2 (i := 122) rfl rfl)⟩, List.forall_mem_cons.mpr ⟨⟨xc_112, Or.inl (tw_5 (i := 181) rfl rfl), (tw_5 (i := 182) rfl rfl), by decide +kernel, _, _, _, rfl, (tw_5 (i := 183) rfl rfl)⟩, List.forall_mem_cons.mpr ⟨⟨xc_3, Or.inl (tw_2 (i := 127) rfl rfl), (tw_2 (i := 128) rfl rfl), by decide +kernel, _, _, _, rfl, (tw_2 (i := 129) rfl rfl)⟩, List.forall_mem_cons.mpr ⟨⟨xc_113, Or.inl (tw_5 (i := 185) rfl rfl), (tw_5 (i := 186) rfl rfl), by decide +kernel, _, _, _, rfl, (tw_5 (i := 187) rfl rfl)⟩, List.forall_mem_cons.mpr ⟨⟨xc_4, Or.inl (tw_2 (i := 135) rfl rfl), (tw_2 (i := 136) rfl rfl), by decide +kernel, _, _, _, rfl, (tw_2 (i := 137) rfl rfl)⟩, List.forall_mem_cons.mpr ⟨⟨xc_114, Or.inl (tw_5 (i := 189) rfl rfl), (tw_5 (i := 190) rfl rfl), by decide +kernel, _, _, _, rfl, (tw_5 (i := 191) rfl rfl)⟩, List.forall_mem_cons.mpr ⟨⟨xc_5, Or.inl (tw_2 (i := 139) rfl rfl), (tw_2 (i := 140) rfl rfl), by decide +kernel, _, _, _, rfl, (tw_2 (i := 141) rfl rfl)⟩, List.forall_mem_cons.mpr ⟨⟨xc_115, Or.inl (tw_5 (i := 193) rfl rfl), (tw_5 (i := 194) rfl rfl), by decide +kernel, _, _, _, rfl, (tw_5 (i := 195) rfl rfl)⟩, List.forall_mem_cons.mpr ⟨⟨xc_6, Or.inl (tw_2 (i := 143) rfl rfl), (tw_2 (i := 144) rfl rfl), by decide +kernel, _, _, _, rfl, (tw_2 (i := 145) rfl rfl)⟩, List.forall_mem_cons.mpr ⟨⟨xc_145, Or.inl (tw_5 (i := 197) rfl rfl), (tw_5 (i := 198) rfl rfl), by decide +kernel, _, _, _, rfl, (tw_5 (i := 199) rfl rfl)⟩, fun _ h => absurd h List.not_mem_nil⟩⟩⟩⟩⟩⟩⟩⟩⟩⟩⟩⟩
def mL_13_1 : List (Nat × Nat × Nat × Nat) := [(36, 7, 1, 0), (40, 164, 1, 0), (41, 8, 1, 0), (44, 165, 1, 0), (45, 9, 1, 1), (48, 166, 1, 1), (49, 10, 1, 2), (53, 167, 1, 2), (54, 11, 1, 0), (57, 168, 1, 0), (58, 12, 1, 0), (61, 169, 1, 0)]
theorem mK_13_1 : ∀ e ∈ mL_13_1, x_lok "PhaseReaderLaw" e := List.forall_mem_cons.mpr ⟨⟨xc_7, Or.inl (tw_4 (i := 160) rfl rfl), (tw_4 (i := 161) rfl rfl), by decide +kernel, _, _, _, rfl, (tw_4 (i := 162) rfl rfl)⟩, List.forall_mem_cons.mpr ⟨⟨xc_164, Or.inl (tw_6 (i := 179) rfl rfl), (tw_6 (i := 180) rfl rfl), by decide +kernel, _, _, _, rfl, (tw_6 (i := 181) rfl rfl)⟩, List.forall_mem_cons.mpr ⟨⟨xc_8, Or.inl (tw_4 (i := 164) rfl rfl), (tw_4 (i := 165) rfl rfl), by decide +kernel, _, _, _, rfl, (tw_4 (i := 166) rfl rfl)⟩, List.forall_mem_cons.mpr ⟨⟨xc_165, Or.inl (tw_6 (i := 183) rfl rfl), (tw_6 (i := 184) rfl rfl), by decide +kernel, _, _, _, rfl, (tw_6 (i := 185) rfl rfl)⟩, List.forall_mem_cons.mpr ⟨⟨xc_9, Or.inl (tw_4 (i := 168) rfl rfl), (tw_4 (i := 169) rfl rfl), by decide +kernel, _, _, _, rfl, (tw_4 (i := 170) rfl rfl)⟩, List.forall_mem_cons.mpr ⟨⟨xc_166, Or.inl (tw_6 (i := 187) rfl rfl), (tw_6 (i := 188) rfl rfl), by decide +kernel, _, _, _, rfl, (tw_6 (i := 189) rfl rfl)⟩, List.forall_mem_cons.mpr ⟨⟨xc_10, Or.inl (tw_4 (i := 177) rfl rfl), (tw_4 (i := 178) rfl rfl), by decide +kernel, _, _, _, rfl, (tw_4 (i := 179) rfl rfl)⟩, List.forall_mem_cons.mpr ⟨⟨xc_167, Or.inl (tw_6 (i := 191) rfl rfl), (tw_6 (i := 192) rfl rfl), by decide +kernel, _, _, _, rfl, (tw_6 (i := 193) rfl rfl)⟩, List.forall_mem_cons.mpr ⟨⟨xc_11, Or.inl (tw_4 (i := 182) rfl rfl), (tw_4 (i := 183) rfl rfl), by decide +kernel, _, _, _, rfl, (tw_4 (i := 184) rfl rfl)⟩, List.forall_mem_cons.mpr ⟨⟨xc_168, Or.inl (tw_6 (i := 195) rfl rfl), (tw_6 (i := 196) rfl rfl), by decide +kernel, _, _, _, rfl, (tw_6 (i := 197) rfl rfl)⟩, List.forall_mem_cons.mpr ⟨⟨xc_12, Or.inl (tw_4 (i := 186) rfl rfl), (tw_4 (i := 187) rfl rfl), by decide +kernel, _, _, _, rfl, (tw_4 (i := 188) rfl rfl)⟩, List.forall_mem_cons.mpr ⟨⟨xc_169, Or.inl (tw_6 (i := 199) rfl rfl), (tw_6 (i := 72) rfl rfl), by decide +kernel, _, _, _, rfl, (tw_6 (i := 73) rfl rfl)⟩, fun _ h => absurd h List.not_mem_nil⟩⟩⟩⟩⟩⟩⟩⟩⟩⟩⟩⟩
def mL_13_2 : List (Nat × Nat × Nat × Nat) := [(62, 13, 1, 0), (65, 170, 1, 0), (66, 14, 1, 2), (69, 171, 1, 2)]
theorem mK_13_2 : ∀ e ∈ mL_13_2, x_lok "PhaseReaderLaw" e := List.forall_mem_cons.mpr ⟨⟨xc_13, Or.inl (tw_4 (i := 190) rfl rfl), (tw_4 (i := 191) rfl rfl), by decide +kernel, _, _, _, rfl, (tw_4 (i := 192) rfl rfl)⟩, List.forall_mem_cons.mpr ⟨⟨xc_170, Or.inl (tw_6 (i := 200) rfl rfl), (tw_6 (i := 201) rfl rfl), by decide +kernel, _, _, _, rfl, (tw_6 (i := 202) rfl rfl)⟩, List.forall_mem_cons.mpr ⟨⟨xc_14, Or.inl (tw_4 (i := 194) rfl rfl), (tw_4 (i := 195) rfl rfl), by decide +kernel, _, _, _, rfl, (tw_4 (i := 196) rfl rfl)⟩, List.forall_mem_cons.mpr ⟨⟨xc_171, Or.inl (tw_6 (i := 204) rfl rfl), (tw_6 (i := 205) rfl rfl), by decide +kernel, _, _, _, rfl, (tw_6 (i := 206) rfl rfl)⟩, fun _ h => absurd h List.not_mem_nil⟩⟩⟩⟩
def mL_13 : List (Nat × Nat × Nat × Nat) := [(9, 1, 2, 0), (12, 111, 2, 0), (13, 2, 1, 1), (17, 112, 1, 1), (18, 3, 1, 1), (22, 113, 1, 1), (23, 4, 1, 0), (26, 114, 1, 0), (27, 5, 1, 1), (31, 115, 1, 1), (32, 6, 1, 1), (35, 145, 1, 1), (36, 7, 1, 0), (40, 164, 1, 0), (41, 8, 1, 0), (44, 165, 1, 0), (45, 9, 1, 1), (48, 166, 1, 1), (49, 10, 1, 2), (53, 167, 1, 2), (54, 11, 1, 0), (57, 168, 1, 0), (58, 12, 1, 0), (61, 169, 1, 0), (62, 13, 1, 0), (65, 170, 1, 0), (66, 14, 1, 2), (69, 171, 1, 2)]
theorem mK_13 : ∀ e ∈ mL_13, x_lok "PhaseReaderLaw" e := by
  have h : mL_13 = mL_13_0 ++ (mL_13_1 ++ (mL_13_2)) := rfl
  rw [h]
  exact List.forall_mem_append.mpr ⟨mK_13_0, List.forall_mem_append.mpr ⟨mK_13_1, mK_13_2⟩⟩
def mL_14_0 : List (Nat × Nat × Nat × Nat) := [(335, 176, 7, 0), (492, 177, 7, 0), (495, 179, 0, 2), (505, 172, 7, 0), (633, 175, 7, 2), (637, 181, 0, 4), (1059, 183, 0, 3)]
theorem mK_14_0 : ∀ e ∈ mL_14_0, x_lok "java/lang/String" e := List.forall_mem_cons.mpr ⟨⟨xc_176, Or.inl (tw_2 (i := 189) rfl rfl), (tw_2 (i := 190) rfl rfl), by decide +kernel, (tw_2 (i := 191) rfl rfl)⟩, List.forall_mem_cons.mpr ⟨⟨xc_177, Or.inl (tw_2 (i := 179) rfl rfl), (tw_2 (i := 180) rfl rfl), by decide +kernel, (tw_2 (i := 181) rfl rfl)⟩, List.forall_mem_cons.mpr ⟨⟨xc_179, Or.inl (tw_3 (i := 22) rfl rfl), (tw_3 (i := 23) rfl rfl), by decide +kernel⟩, List.forall_mem_cons.mpr ⟨⟨xc_172, Or.inl (tw_2 (i := 185) rfl rfl), (tw_2 (i := 186) rfl rfl), by decide +kernel, (tw_2 (i := 187) rfl rfl)⟩, List.forall_mem_cons.mpr ⟨⟨xc_175, Or.inl (tw_2 (i := 175) rfl rfl), (tw_2 (i := 176) rfl rfl), by decide +kernel, (tw_2 (i := 177) rfl rfl)⟩, List.forall_mem_cons.mpr ⟨⟨xc_181, Or.inl (tw_2 (i := 193) rfl rfl), (tw_2 (i := 194) rfl rfl), by decide +kernel⟩, List.forall_mem_cons.mpr ⟨⟨xc_183, Or.inl (tw_3 (i := 28) rfl rfl), (tw_3 (i := 29) rfl rfl), by decide +kernel⟩, fun _ h => absurd h List.not_mem_nil⟩⟩⟩⟩⟩⟩⟩
def mL_14 : List (Nat × Nat × Nat × Nat) := [(335, 176, 7, 0), (492, 177, 7, 0), (495, 179, 0, 2), (505, 172, 7, 0), (633, 175, 7, 2), (637, 181, 0, 4), (1059, 183, 0, 3)]
theorem mK_14 : ∀ e ∈ mL_14, x_lok "java/lang/String" e := by
  have h : mL_14 = mL_14_0 := rfl
  rw [h]
  exact mK_14_0
def mL_15_0 : List (Nat × Nat × Nat × Nat) := [(9, 178, 0, 2), (38, 0, 4, 2), (88, 180, 0, 1), (92, 0, 6, 2), (95, 182, 0, 4)]
theorem mK_15_0 : ∀ e ∈ mL_15_0, x_lok "java/lang/StringLatin1" e := List.forall_mem_cons.mpr ⟨⟨xc_178, Or.inl (tw_3 (i := 25) rfl rfl), (tw_3 (i := 26) rfl rfl), by decide +kernel⟩, List.forall_mem_cons.mpr ⟨⟨(tw_2 (i := 202) rfl rfl), (tw_2 (i := 203) rfl rfl), (tw_1 (i := 16) rfl rfl), (tw_2 (i := 204) rfl rfl)⟩, List.forall_mem_cons.mpr ⟨⟨xc_180, Or.inl (tw_2 (i := 196) rfl rfl), (tw_2 (i := 197) rfl rfl), by decide +kernel⟩, List.forall_mem_cons.mpr ⟨⟨(tw_2 (i := 199) rfl rfl), (tw_2 (i := 200) rfl rfl), (tw_1 (i := 16) rfl rfl), (tw_2 (i := 201) rfl rfl)⟩, List.forall_mem_cons.mpr ⟨⟨xc_182, Or.inl (tw_2 (i := 205) rfl rfl), (tw_2 (i := 206) rfl rfl), by decide +kernel⟩, fun _ h => absurd h List.not_mem_nil⟩⟩⟩⟩⟩
def mL_15 : List (Nat × Nat × Nat × Nat) := [(9, 178, 0, 2), (38, 0, 4, 2), (88, 180, 0, 1), (92, 0, 6, 2), (95, 182, 0, 4)]
theorem mK_15 : ∀ e ∈ mL_15, x_lok "java/lang/StringLatin1" e := by
  have h : mL_15 = mL_15_0 := rfl
  rw [h]
  exact mK_15_0
def mL_16 : List (Nat × Nat × Nat × Nat) := []
theorem mK_16 : ∀ e ∈ mL_16, x_lok "jdk/internal/util/Preconditions" e := fun _ h => absurd h List.not_mem_nil
def x_mL : List (List (Nat × Nat × Nat × Nat)) := [mL_0, mL_1, mL_2, mL_3, mL_4, mL_5, mL_6, mL_7, mL_8, mL_9, mL_10, mL_11, mL_12, mL_13, mL_14, mL_15, mL_16]
theorem x_mL_ok : ∀ (c : Nat) (l : List (Nat × Nat × Nat × Nat)), x_mL[c]? = some l → ∀ e ∈ l, x_lok (x_cn.getD c "") e
  | 0, _, h => by cases h; exact mK_0
  | 1, _, h => by cases h; exact mK_1
  | 2, _, h => by cases h; exact mK_2
  | 3, _, h => by cases h; exact mK_3
  | 4, _, h => by cases h; exact mK_4
  | 5, _, h => by cases h; exact mK_5
  | 6, _, h => by cases h; exact mK_6
  | 7, _, h => by cases h; exact mK_7
  | 8, _, h => by cases h; exact mK_8
  | 9, _, h => by cases h; exact mK_9
  | 10, _, h => by cases h; exact mK_10
  | 11, _, h => by cases h; exact mK_11
  | 12, _, h => by cases h; exact mK_12
  | 13, _, h => by cases h; exact mK_13
  | 14, _, h => by cases h; exact mK_14
  | 15, _, h => by cases h; exact mK_15
  | 16, _, h => by cases h; exact mK_16
  | _ + 17, _, h => by cases h
theorem x_mL_use {k a : Nat} {b : Nat × Nat × Nat} (h : (x_mL.getD (x_own k) []).lookup a = some b) : x_lok (x_y k).cls (a, b) := by
  have hm := lk_mem h
  cases hF : x_mL[x_own k]? with
  | none =>
    rw [List.getD_eq_getElem?_getD, hF] at hm
    exact absurd hm List.not_mem_nil
  | some l =>
    rw [List.getD_eq_getElem?_getD, hF] at hm
    have hm : (a, b) ∈ l := hm
    have hlt : x_own k ≠ 99 := by
      intro q
      rw [q] at hF
      cases hF
    have hin := x_ml_ok _ (x_me_in hlt)
    have hcn : (x_y k).cls = x_cn.getD (x_own k) "" := hin.1
    rw [hcn]
    exact x_mL_ok _ _ hF _ hm
def x_mth (k idx : Nat) : Option (Nat × Nat × Nat) := (x_mL.getD (x_own k) []).lookup idx
theorem x_cde_lt {kc : Nat} (h : x_nL kc ≤ 29 ∧ plainName (x_y kc).cls = true ∧ ((x_y kc).cls ≠ "java/lang/invoke/MethodHandle" ∧ (x_y kc).cls ≠ "java/lang/invoke/VarHandle")) {k idx : Nat} (h1 : x_cde kc) (h2 : x_lnk (x_y k).cls idx kc) : x_mok k idx kc := ⟨h1.1, h1.2, h.2.2, h.1, h.2.1, h2⟩
theorem x_cde_ok (kc : Nat) : x_nL kc ≤ 29 ∧ plainName (x_y kc).cls = true ∧ ((x_y kc).cls ≠ "java/lang/invoke/MethodHandle" ∧ (x_y kc).cls ≠ "java/lang/invoke/VarHandle") := by
  by_cases hk : x_own kc = 99
  · by_cases hl : kc < x_ml.length
    · have e1 : x_me kc ∈ x_ml := by
        have e1 : x_me kc = x_ml[kc] := by
          unfold x_me
          rw [List.getD_eq_getElem?_getD, List.getElem?_eq_getElem hl]
          rfl
        rw [e1]
        exact List.getElem_mem hl
      have h := x_ml_ok _ e1
      exact ⟨h.2.2.2.2.2, h.2.2.2.1, h.2.2.2.2.1⟩
    · have e1 : x_me kc = (x, code, 0, none, 99, false, []) := by
        unfold x_me
        rw [List.getD_eq_getElem?_getD, List.getElem?_eq_none (Nat.not_lt.mp hl)]
        rfl
      unfold x_nL x_y
      rw [e1]
      exact ⟨by decide, by decide +kernel, by decide +kernel⟩
  · have h := x_ml_ok _ (x_me_in hk)
    exact ⟨h.2.2.2.2.2, h.2.2.2.1, h.2.2.2.2.1⟩
theorem s_m0 {k idx kc n : Nat} (h : x_mth k idx = some (kc, 0, n)) : x_mok k idx kc ∧ Jvm.Cond.static (x_y kc) ∈ x_w ∧ x_nd kc n := by
  have h1 : x_cde kc ∧ x_lnk (x_y k).cls idx kc ∧ Jvm.Cond.static (x_y kc) ∈ x_w ∧ x_nd kc n := x_mL_use h
  exact ⟨x_cde_lt (x_cde_ok kc) h1.1 h1.2.1, h1.2.2⟩
theorem s_m1 {k idx kc n : Nat} (h : x_mth k idx = some (kc, 1, n)) : x_mok k idx kc ∧ Jvm.Cond.instanceMethod (x_y kc) ∈ x_w ∧ x_nd kc n ∧ ∃ C T N, x_cl[x_own kc]? = some (C, T, N) ∧ Jvm.Cond.selects C (x_y kc) (x_y kc) ∈ x_w := by
  have h1 : x_cde kc ∧ x_lnk (x_y k).cls idx kc ∧ Jvm.Cond.instanceMethod (x_y kc) ∈ x_w ∧ x_nd kc n ∧ ∃ C T N, x_cl[x_own kc]? = some (C, T, N) ∧ Jvm.Cond.selects C (x_y kc) (x_y kc) ∈ x_w := x_mL_use h
  exact ⟨x_cde_lt (x_cde_ok kc) h1.1 h1.2.1, h1.2.2⟩
theorem s_m2 {k idx kc n : Nat} (h : x_mth k idx = some (kc, 2, n)) : x_mok k idx kc ∧ Jvm.Cond.instanceMethod (x_y kc) ∈ x_w ∧ x_nd kc n ∧ (x_y kc).name = "<init>" ∧ x_rt kc = none := by
  have h1 : x_cde kc ∧ x_lnk (x_y k).cls idx kc ∧ Jvm.Cond.instanceMethod (x_y kc) ∈ x_w ∧ x_nd kc n ∧ (x_y kc).name = "<init>" ∧ x_rt kc = none := x_mL_use h
  exact ⟨x_cde_lt (x_cde_ok kc) h1.1 h1.2.1, h1.2.2⟩
theorem s_m3 {k idx kc n : Nat} (h : x_mth k idx = some (kc, 3, n)) : Jvm.Cond.methodLink (x_y k).cls idx objectInit ∈ x_w ∧ Jvm.Cond.instanceMethod objectInit ∈ x_w ∧ Jvm.Cond.code objectInit ⟨#[0xb1]⟩ 1 none ∈ x_w := x_mL_use h
theorem s_m4 {k idx kc n : Nat} (h : x_mth k idx = some (kc, 4, n)) : Jvm.Cond.methodLink (x_y k).cls idx Lib.Math.min.name ∈ x_w ∧ Jvm.Cond.static Lib.Math.min.name ∈ x_w ∧ Jvm.Cond.initialized "java/lang/Math" ∈ x_w ∧ Jvm.Cond.code Lib.Math.min.name Lib.Math.min.code 2 (some .int) ∈ x_w := x_mL_use h
theorem s_m6 {k idx kc n : Nat} (h : x_mth k idx = some (kc, 6, n)) : Jvm.Cond.methodLink (x_y k).cls idx Lib.Math.max.name ∈ x_w ∧ Jvm.Cond.static Lib.Math.max.name ∈ x_w ∧ Jvm.Cond.initialized "java/lang/Math" ∈ x_w ∧ Jvm.Cond.code Lib.Math.max.name Lib.Math.max.code 2 (some .int) ∈ x_w := x_mL_use h
theorem s_m7 {k idx kc n : Nat} (h : x_mth k idx = some (kc, 7, n)) : x_mok k idx kc ∧ Jvm.Cond.instanceMethod (x_y kc) ∈ x_w ∧ x_nd kc n ∧ Jvm.Cond.selects "java/lang/String" (x_y kc) (x_y kc) ∈ x_w := by
  have h1 : x_cde kc ∧ x_lnk (x_y k).cls idx kc ∧ Jvm.Cond.instanceMethod (x_y kc) ∈ x_w ∧ x_nd kc n ∧ Jvm.Cond.selects "java/lang/String" (x_y kc) (x_y kc) ∈ x_w := x_mL_use h
  exact ⟨x_cde_lt (x_cde_ok kc) h1.1 h1.2.1, h1.2.2⟩
theorem s_m8 {k idx kc n : Nat} (h : x_mth k idx = some (kc, 8, n)) : Jvm.Cond.methodLink (x_y k).cls idx arraycopyName ∈ x_w ∧ Jvm.Cond.native arraycopyName ∈ x_w ∧ Jvm.Cond.static arraycopyName ∈ x_w ∧ Jvm.Cond.initialized "java/lang/System" ∈ x_w := x_mL_use h
def x_cmax : Nat := 600000
def x_smax : Nat := 7302250
theorem x_cok9 : x_cmax ≤ room_1.cells ∧ x_smax ≤ room_1.slots := by decide
