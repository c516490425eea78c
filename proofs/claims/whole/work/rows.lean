section
-- ===== PART A: goes FIRST, ahead of the names: the tables' words, and 'selects' of the private methods out of them =====
/-- a private method of a class that the tables say can be made, by its rows of tables_1 -/
def lw_okq (q : MethodName × Nat) : Prop := (q.1.cls ≠ "java/lang/invoke/MethodHandle" ∧ q.1.cls ≠ "java/lang/invoke/VarHandle") ∧ Cond.instantiable q.1.cls q.2 ∈ tables_1 ∧ Cond.privateMethod q.1 ∈ tables_1 ∧ Cond.instanceMethod q.1 ∈ tables_1
theorem lw_p0 : lw_okq (⟨"PhaseReader$Scanner", "replaceTrigraphs", "(LPhaseReader$Text;)V"⟩, 3) := ⟨⟨by decide +kernel, by decide +kernel⟩, List.mem_of_getElem? (i := 180) (by decide +kernel), List.mem_of_getElem? (i := 404) (by decide +kernel), List.mem_of_getElem? (i := 405) (by decide +kernel)⟩
theorem lw_p1 : lw_okq (⟨"PhaseReader$Scanner", "joinLines", "()V"⟩, 3) := ⟨⟨by decide +kernel, by decide +kernel⟩, List.mem_of_getElem? (i := 180) (by decide +kernel), List.mem_of_getElem? (i := 519) (by decide +kernel), List.mem_of_getElem? (i := 520) (by decide +kernel)⟩
theorem lw_p2 : lw_okq (⟨"PhaseReader$Scanner", "split", "(LPhaseReader$Source;)I"⟩, 3) := ⟨⟨by decide +kernel, by decide +kernel⟩, List.mem_of_getElem? (i := 180) (by decide +kernel), List.mem_of_getElem? (i := 523) (by decide +kernel), List.mem_of_getElem? (i := 524) (by decide +kernel)⟩
theorem lw_p3 : lw_okq (⟨"PhaseReader$Scanner", "blankEnd", "(I)I"⟩, 3) := ⟨⟨by decide +kernel, by decide +kernel⟩, List.mem_of_getElem? (i := 180) (by decide +kernel), List.mem_of_getElem? (i := 527) (by decide +kernel), List.mem_of_getElem? (i := 528) (by decide +kernel)⟩
theorem lw_p4 : lw_okq (⟨"PhaseReader$Scanner", "longCommentEnd", "(I)I"⟩, 3) := ⟨⟨by decide +kernel, by decide +kernel⟩, List.mem_of_getElem? (i := 180) (by decide +kernel), List.mem_of_getElem? (i := 531) (by decide +kernel), List.mem_of_getElem? (i := 532) (by decide +kernel)⟩
theorem lw_p5 : lw_okq (⟨"PhaseReader$Scanner", "newlineFrom", "(I)I"⟩, 3) := ⟨⟨by decide +kernel, by decide +kernel⟩, List.mem_of_getElem? (i := 180) (by decide +kernel), List.mem_of_getElem? (i := 535) (by decide +kernel), List.mem_of_getElem? (i := 536) (by decide +kernel)⟩
theorem lw_p6 : lw_okq (⟨"PhaseReader$Scanner", "tokenEnd", "(I)I"⟩, 3) := ⟨⟨by decide +kernel, by decide +kernel⟩, List.mem_of_getElem? (i := 180) (by decide +kernel), List.mem_of_getElem? (i := 539) (by decide +kernel), List.mem_of_getElem? (i := 540) (by decide +kernel)⟩
theorem lw_p7 : lw_okq (⟨"PhaseReader$Scanner", "pack", "(II)J"⟩, 3) := ⟨⟨by decide +kernel, by decide +kernel⟩, List.mem_of_getElem? (i := 180) (by decide +kernel), List.mem_of_getElem? (i := 547) (by decide +kernel), List.mem_of_getElem? (i := 548) (by decide +kernel)⟩
theorem lw_p8 : lw_okq (⟨"PhaseReader$Preprocessor", "takeLine", "(LPhaseReader$Source;)I"⟩, 5) := ⟨⟨by decide +kernel, by decide +kernel⟩, List.mem_of_getElem? (i := 32) (by decide +kernel), List.mem_of_getElem? (i := 559) (by decide +kernel), List.mem_of_getElem? (i := 560) (by decide +kernel)⟩
theorem lw_p9 : lw_okq (⟨"PhaseReader$Expander", "expandList", "(II)I"⟩, 7) := ⟨⟨by decide +kernel, by decide +kernel⟩, List.mem_of_getElem? (i := 38) (by decide +kernel), List.mem_of_getElem? (i := 590) (by decide +kernel), List.mem_of_getElem? (i := 591) (by decide +kernel)⟩
theorem lw_p10 : lw_okq (⟨"PhaseReader$Expander", "macroOnTop", "(I)I"⟩, 7) := ⟨⟨by decide +kernel, by decide +kernel⟩, List.mem_of_getElem? (i := 38) (by decide +kernel), List.mem_of_getElem? (i := 594) (by decide +kernel), List.mem_of_getElem? (i := 595) (by decide +kernel)⟩
theorem lw_p11 : lw_okq (⟨"PhaseReader$Expander", "replaceTop", "(III)I"⟩, 7) := ⟨⟨by decide +kernel, by decide +kernel⟩, List.mem_of_getElem? (i := 38) (by decide +kernel), List.mem_of_getElem? (i := 607) (by decide +kernel), List.mem_of_getElem? (i := 608) (by decide +kernel)⟩
theorem lw_p12 : lw_okq (⟨"PhaseReader$Expander", "findArguments", "(LPhaseReader$Macro;LPhaseReader$Arguments;I)I"⟩, 7) := ⟨⟨by decide +kernel, by decide +kernel⟩, List.mem_of_getElem? (i := 38) (by decide +kernel), List.mem_of_getElem? (i := 611) (by decide +kernel), List.mem_of_getElem? (i := 612) (by decide +kernel)⟩
theorem lw_p13 : lw_okq (⟨"PhaseReader$Expander", "expandArgument", "(LPhaseReader$Arguments;II)I"⟩, 7) := ⟨⟨by decide +kernel, by decide +kernel⟩, List.mem_of_getElem? (i := 38) (by decide +kernel), List.mem_of_getElem? (i := 621) (by decide +kernel), List.mem_of_getElem? (i := 622) (by decide +kernel)⟩
theorem lw_p14 : lw_okq (⟨"PhaseReader$Expander", "makeReplacement", "(LPhaseReader$Macro;LPhaseReader$Arguments;I)I"⟩, 7) := ⟨⟨by decide +kernel, by decide +kernel⟩, List.mem_of_getElem? (i := 38) (by decide +kernel), List.mem_of_getElem? (i := 629) (by decide +kernel), List.mem_of_getElem? (i := 630) (by decide +kernel)⟩
theorem lw_p15 : lw_okq (⟨"PhaseReader$Expander", "addRow", "(LPhaseReader$Macro;ILPhaseReader$Arguments;I)V"⟩, 7) := ⟨⟨by decide +kernel, by decide +kernel⟩, List.mem_of_getElem? (i := 38) (by decide +kernel), List.mem_of_getElem? (i := 638) (by decide +kernel), List.mem_of_getElem? (i := 639) (by decide +kernel)⟩
def lw_privs_1 : List (MethodName × Nat) := [(⟨"PhaseReader$Scanner", "replaceTrigraphs", "(LPhaseReader$Text;)V"⟩, 3), (⟨"PhaseReader$Scanner", "joinLines", "()V"⟩, 3), (⟨"PhaseReader$Scanner", "split", "(LPhaseReader$Source;)I"⟩, 3), (⟨"PhaseReader$Scanner", "blankEnd", "(I)I"⟩, 3), (⟨"PhaseReader$Scanner", "longCommentEnd", "(I)I"⟩, 3), (⟨"PhaseReader$Scanner", "newlineFrom", "(I)I"⟩, 3), (⟨"PhaseReader$Scanner", "tokenEnd", "(I)I"⟩, 3), (⟨"PhaseReader$Scanner", "pack", "(II)J"⟩, 3), (⟨"PhaseReader$Preprocessor", "takeLine", "(LPhaseReader$Source;)I"⟩, 5), (⟨"PhaseReader$Expander", "expandList", "(II)I"⟩, 7), (⟨"PhaseReader$Expander", "macroOnTop", "(I)I"⟩, 7), (⟨"PhaseReader$Expander", "replaceTop", "(III)I"⟩, 7), (⟨"PhaseReader$Expander", "findArguments", "(LPhaseReader$Macro;LPhaseReader$Arguments;I)I"⟩, 7), (⟨"PhaseReader$Expander", "expandArgument", "(LPhaseReader$Arguments;II)I"⟩, 7), (⟨"PhaseReader$Expander", "makeReplacement", "(LPhaseReader$Macro;LPhaseReader$Arguments;I)I"⟩, 7), (⟨"PhaseReader$Expander", "addRow", "(LPhaseReader$Macro;ILPhaseReader$Arguments;I)V"⟩, 7)]
theorem lw_r1 : ∀ q ∈ lw_privs_1, lw_okq q := List.forall_mem_cons.mpr ⟨lw_p0, List.forall_mem_cons.mpr ⟨lw_p1, List.forall_mem_cons.mpr ⟨lw_p2, List.forall_mem_cons.mpr ⟨lw_p3, List.forall_mem_cons.mpr ⟨lw_p4, List.forall_mem_cons.mpr ⟨lw_p5, List.forall_mem_cons.mpr ⟨lw_p6, List.forall_mem_cons.mpr ⟨lw_p7, List.forall_mem_cons.mpr ⟨lw_p8, List.forall_mem_cons.mpr ⟨lw_p9, List.forall_mem_cons.mpr ⟨lw_p10, List.forall_mem_cons.mpr ⟨lw_p11, List.forall_mem_cons.mpr ⟨lw_p12, List.forall_mem_cons.mpr ⟨lw_p13, List.forall_mem_cons.mpr ⟨lw_p14, List.forall_mem_cons.mpr ⟨lw_p15, fun _ h => absurd h List.not_mem_nil⟩⟩⟩⟩⟩⟩⟩⟩⟩⟩⟩⟩⟩⟩⟩⟩
theorem lw_p16 : lw_okq (⟨"PhaseReader$Expander", "pushReplacement", "(I)V"⟩, 7) := ⟨⟨by decide +kernel, by decide +kernel⟩, List.mem_of_getElem? (i := 38) (by decide +kernel), List.mem_of_getElem? (i := 661) (by decide +kernel), List.mem_of_getElem? (i := 662) (by decide +kernel)⟩
theorem lw_p17 : lw_okq (⟨"PhaseReader$Preprocessor", "obey", "(LPhaseReader$Source;II)I"⟩, 5) := ⟨⟨by decide +kernel, by decide +kernel⟩, List.mem_of_getElem? (i := 32) (by decide +kernel), List.mem_of_getElem? (i := 665) (by decide +kernel), List.mem_of_getElem? (i := 666) (by decide +kernel)⟩
theorem lw_p18 : lw_okq (⟨"PhaseReader$Preprocessor", "define", "(LPhaseReader$Source;II)I"⟩, 5) := ⟨⟨by decide +kernel, by decide +kernel⟩, List.mem_of_getElem? (i := 32) (by decide +kernel), List.mem_of_getElem? (i := 671) (by decide +kernel), List.mem_of_getElem? (i := 672) (by decide +kernel)⟩
theorem lw_p19 : lw_okq (⟨"PhaseReader$Preprocessor", "include", "(LPhaseReader$TokenRow;II)I"⟩, 5) := ⟨⟨by decide +kernel, by decide +kernel⟩, List.mem_of_getElem? (i := 32) (by decide +kernel), List.mem_of_getElem? (i := 704) (by decide +kernel), List.mem_of_getElem? (i := 705) (by decide +kernel)⟩
theorem lw_p20 : lw_okq (⟨"PhaseReader$Preprocessor", "obeyNamed", "(LPhaseReader$Source;JJ)I"⟩, 5) := ⟨⟨by decide +kernel, by decide +kernel⟩, List.mem_of_getElem? (i := 32) (by decide +kernel), List.mem_of_getElem? (i := 722) (by decide +kernel), List.mem_of_getElem? (i := 723) (by decide +kernel)⟩
theorem lw_p21 : lw_okq (⟨"PhaseReader$Preprocessor", "endFile", "(LPhaseReader$Source;)I"⟩, 5) := ⟨⟨by decide +kernel, by decide +kernel⟩, List.mem_of_getElem? (i := 32) (by decide +kernel), List.mem_of_getElem? (i := 738) (by decide +kernel), List.mem_of_getElem? (i := 739) (by decide +kernel)⟩
theorem lw_p22 : lw_okq (⟨"PhaseReader$Parser", "load", "(LPhaseReader$TokenRow;)V"⟩, 8) := ⟨⟨by decide +kernel, by decide +kernel⟩, List.mem_of_getElem? (i := 271) (by decide +kernel), List.mem_of_getElem? (i := 746) (by decide +kernel), List.mem_of_getElem? (i := 747) (by decide +kernel)⟩
theorem lw_p23 : lw_okq (⟨"PhaseReader$Parser", "hasOddNumber", "()Z"⟩, 8) := ⟨⟨by decide +kernel, by decide +kernel⟩, List.mem_of_getElem? (i := 271) (by decide +kernel), List.mem_of_getElem? (i := 763) (by decide +kernel), List.mem_of_getElem? (i := 764) (by decide +kernel)⟩
theorem lw_p24 : lw_okq (⟨"PhaseReader$Parser", "isTooDeep", "()Z"⟩, 8) := ⟨⟨by decide +kernel, by decide +kernel⟩, List.mem_of_getElem? (i := 271) (by decide +kernel), List.mem_of_getElem? (i := 771) (by decide +kernel), List.mem_of_getElem? (i := 772) (by decide +kernel)⟩
theorem lw_p25 : lw_okq (⟨"PhaseReader$Parser", "takeUnit", "()Z"⟩, 8) := ⟨⟨by decide +kernel, by decide +kernel⟩, List.mem_of_getElem? (i := 271) (by decide +kernel), List.mem_of_getElem? (i := 781) (by decide +kernel), List.mem_of_getElem? (i := 782) (by decide +kernel)⟩
theorem lw_p26 : lw_okq (⟨"PhaseReader$Parser", "startsDeclaration", "()Z"⟩, 8) := ⟨⟨by decide +kernel, by decide +kernel⟩, List.mem_of_getElem? (i := 271) (by decide +kernel), List.mem_of_getElem? (i := 790) (by decide +kernel), List.mem_of_getElem? (i := 791) (by decide +kernel)⟩
theorem lw_p27 : lw_okq (⟨"PhaseReader$Parser", "isTypeAt", "(I)Z"⟩, 8) := ⟨⟨by decide +kernel, by decide +kernel⟩, List.mem_of_getElem? (i := 271) (by decide +kernel), List.mem_of_getElem? (i := 794) (by decide +kernel), List.mem_of_getElem? (i := 795) (by decide +kernel)⟩
theorem lw_p28 : lw_okq (⟨"PhaseReader$Parser", "takeDeclaration", "(ZI)Z"⟩, 8) := ⟨⟨by decide +kernel, by decide +kernel⟩, List.mem_of_getElem? (i := 271) (by decide +kernel), List.mem_of_getElem? (i := 798) (by decide +kernel), List.mem_of_getElem? (i := 799) (by decide +kernel)⟩
theorem lw_p29 : lw_okq (⟨"PhaseReader$Parser", "takeType", "()Z"⟩, 8) := ⟨⟨by decide +kernel, by decide +kernel⟩, List.mem_of_getElem? (i := 271) (by decide +kernel), List.mem_of_getElem? (i := 802) (by decide +kernel), List.mem_of_getElem? (i := 803) (by decide +kernel)⟩
theorem lw_p30 : lw_okq (⟨"PhaseReader$Parser", "takeDeclarator", "(I)Z"⟩, 8) := ⟨⟨by decide +kernel, by decide +kernel⟩, List.mem_of_getElem? (i := 271) (by decide +kernel), List.mem_of_getElem? (i := 806) (by decide +kernel), List.mem_of_getElem? (i := 807) (by decide +kernel)⟩
theorem lw_p31 : lw_okq (⟨"PhaseReader$Parser", "take", "(C)Z"⟩, 8) := ⟨⟨by decide +kernel, by decide +kernel⟩, List.mem_of_getElem? (i := 271) (by decide +kernel), List.mem_of_getElem? (i := 811) (by decide +kernel), List.mem_of_getElem? (i := 812) (by decide +kernel)⟩
def lw_privs_2 : List (MethodName × Nat) := [(⟨"PhaseReader$Expander", "pushReplacement", "(I)V"⟩, 7), (⟨"PhaseReader$Preprocessor", "obey", "(LPhaseReader$Source;II)I"⟩, 5), (⟨"PhaseReader$Preprocessor", "define", "(LPhaseReader$Source;II)I"⟩, 5), (⟨"PhaseReader$Preprocessor", "include", "(LPhaseReader$TokenRow;II)I"⟩, 5), (⟨"PhaseReader$Preprocessor", "obeyNamed", "(LPhaseReader$Source;JJ)I"⟩, 5), (⟨"PhaseReader$Preprocessor", "endFile", "(LPhaseReader$Source;)I"⟩, 5), (⟨"PhaseReader$Parser", "load", "(LPhaseReader$TokenRow;)V"⟩, 8), (⟨"PhaseReader$Parser", "hasOddNumber", "()Z"⟩, 8), (⟨"PhaseReader$Parser", "isTooDeep", "()Z"⟩, 8), (⟨"PhaseReader$Parser", "takeUnit", "()Z"⟩, 8), (⟨"PhaseReader$Parser", "startsDeclaration", "()Z"⟩, 8), (⟨"PhaseReader$Parser", "isTypeAt", "(I)Z"⟩, 8), (⟨"PhaseReader$Parser", "takeDeclaration", "(ZI)Z"⟩, 8), (⟨"PhaseReader$Parser", "takeType", "()Z"⟩, 8), (⟨"PhaseReader$Parser", "takeDeclarator", "(I)Z"⟩, 8), (⟨"PhaseReader$Parser", "take", "(C)Z"⟩, 8)]
theorem lw_r2 : ∀ q ∈ lw_privs_2, lw_okq q := List.forall_mem_cons.mpr ⟨lw_p16, List.forall_mem_cons.mpr ⟨lw_p17, List.forall_mem_cons.mpr ⟨lw_p18, List.forall_mem_cons.mpr ⟨lw_p19, List.forall_mem_cons.mpr ⟨lw_p20, List.forall_mem_cons.mpr ⟨lw_p21, List.forall_mem_cons.mpr ⟨lw_p22, List.forall_mem_cons.mpr ⟨lw_p23, List.forall_mem_cons.mpr ⟨lw_p24, List.forall_mem_cons.mpr ⟨lw_p25, List.forall_mem_cons.mpr ⟨lw_p26, List.forall_mem_cons.mpr ⟨lw_p27, List.forall_mem_cons.mpr ⟨lw_p28, List.forall_mem_cons.mpr ⟨lw_p29, List.forall_mem_cons.mpr ⟨lw_p30, List.forall_mem_cons.mpr ⟨lw_p31, fun _ h => absurd h List.not_mem_nil⟩⟩⟩⟩⟩⟩⟩⟩⟩⟩⟩⟩⟩⟩⟩⟩
theorem lw_p32 : lw_okq (⟨"PhaseReader$Parser", "takeForms", "()Z"⟩, 8) := ⟨⟨by decide +kernel, by decide +kernel⟩, List.mem_of_getElem? (i := 271) (by decide +kernel), List.mem_of_getElem? (i := 815) (by decide +kernel), List.mem_of_getElem? (i := 816) (by decide +kernel)⟩
theorem lw_p33 : lw_okq (⟨"PhaseReader$Parser", "declare", "(IZ)V"⟩, 8) := ⟨⟨by decide +kernel, by decide +kernel⟩, List.mem_of_getElem? (i := 271) (by decide +kernel), List.mem_of_getElem? (i := 819) (by decide +kernel), List.mem_of_getElem? (i := 820) (by decide +kernel)⟩
theorem lw_p34 : lw_okq (⟨"PhaseReader$Parser", "isFunction", "(I)Z"⟩, 8) := ⟨⟨by decide +kernel, by decide +kernel⟩, List.mem_of_getElem? (i := 271) (by decide +kernel), List.mem_of_getElem? (i := 823) (by decide +kernel), List.mem_of_getElem? (i := 824) (by decide +kernel)⟩
theorem lw_p35 : lw_okq (⟨"PhaseReader$Parser", "takeBlock", "(I)Z"⟩, 8) := ⟨⟨by decide +kernel, by decide +kernel⟩, List.mem_of_getElem? (i := 271) (by decide +kernel), List.mem_of_getElem? (i := 827) (by decide +kernel), List.mem_of_getElem? (i := 828) (by decide +kernel)⟩
theorem lw_p36 : lw_okq (⟨"PhaseReader$Parser", "takeStatement", "(I)Z"⟩, 8) := ⟨⟨by decide +kernel, by decide +kernel⟩, List.mem_of_getElem? (i := 271) (by decide +kernel), List.mem_of_getElem? (i := 831) (by decide +kernel), List.mem_of_getElem? (i := 832) (by decide +kernel)⟩
theorem lw_p37 : lw_okq (⟨"PhaseReader$Parser", "takeExpression", "(I)Z"⟩, 8) := ⟨⟨by decide +kernel, by decide +kernel⟩, List.mem_of_getElem? (i := 271) (by decide +kernel), List.mem_of_getElem? (i := 836) (by decide +kernel), List.mem_of_getElem? (i := 837) (by decide +kernel)⟩
theorem lw_p38 : lw_okq (⟨"PhaseReader$Parser", "takeBinary", "(II)Z"⟩, 8) := ⟨⟨by decide +kernel, by decide +kernel⟩, List.mem_of_getElem? (i := 271) (by decide +kernel), List.mem_of_getElem? (i := 840) (by decide +kernel), List.mem_of_getElem? (i := 841) (by decide +kernel)⟩
theorem lw_p39 : lw_okq (⟨"PhaseReader$Parser", "takeOperand", "(I)Z"⟩, 8) := ⟨⟨by decide +kernel, by decide +kernel⟩, List.mem_of_getElem? (i := 271) (by decide +kernel), List.mem_of_getElem? (i := 844) (by decide +kernel), List.mem_of_getElem? (i := 845) (by decide +kernel)⟩
theorem lw_p40 : lw_okq (⟨"PhaseReader$Parser", "takeCast", "()Z"⟩, 8) := ⟨⟨by decide +kernel, by decide +kernel⟩, List.mem_of_getElem? (i := 271) (by decide +kernel), List.mem_of_getElem? (i := 850) (by decide +kernel), List.mem_of_getElem? (i := 851) (by decide +kernel)⟩
theorem lw_p41 : lw_okq (⟨"PhaseReader$Parser", "takePrimary", "(I)Z"⟩, 8) := ⟨⟨by decide +kernel, by decide +kernel⟩, List.mem_of_getElem? (i := 271) (by decide +kernel), List.mem_of_getElem? (i := 854) (by decide +kernel), List.mem_of_getElem? (i := 855) (by decide +kernel)⟩
theorem lw_p42 : lw_okq (⟨"PhaseReader$Parser", "takePostfixes", "(II)Z"⟩, 8) := ⟨⟨by decide +kernel, by decide +kernel⟩, List.mem_of_getElem? (i := 271) (by decide +kernel), List.mem_of_getElem? (i := 858) (by decide +kernel), List.mem_of_getElem? (i := 859) (by decide +kernel)⟩
theorem lw_p43 : lw_okq (⟨"PhaseReader$Parser", "takeArguments", "(II)Z"⟩, 8) := ⟨⟨by decide +kernel, by decide +kernel⟩, List.mem_of_getElem? (i := 271) (by decide +kernel), List.mem_of_getElem? (i := 867) (by decide +kernel), List.mem_of_getElem? (i := 868) (by decide +kernel)⟩
theorem lw_p44 : lw_okq (⟨"PhaseReader", "isToken", "(I)Z"⟩, 5) := ⟨⟨by decide +kernel, by decide +kernel⟩, List.mem_of_getElem? (i := 22) (by decide +kernel), List.mem_of_getElem? (i := 893) (by decide +kernel), List.mem_of_getElem? (i := 894) (by decide +kernel)⟩
theorem lw_p45 : lw_okq (⟨"PhaseReaderModel", "read", "(I)I"⟩, 72) := ⟨⟨by decide +kernel, by decide +kernel⟩, List.mem_of_getElem? (i := 919) (by decide +kernel), List.mem_of_getElem? (i := 1162) (by decide +kernel), List.mem_of_getElem? (i := 1163) (by decide +kernel)⟩
theorem lw_p46 : lw_okq (⟨"PhaseReaderModel", "join", "(I)V"⟩, 72) := ⟨⟨by decide +kernel, by decide +kernel⟩, List.mem_of_getElem? (i := 919) (by decide +kernel), List.mem_of_getElem? (i := 1166) (by decide +kernel), List.mem_of_getElem? (i := 1167) (by decide +kernel)⟩
theorem lw_p47 : lw_okq (⟨"PhaseReaderModel", "blank", "(I)I"⟩, 72) := ⟨⟨by decide +kernel, by decide +kernel⟩, List.mem_of_getElem? (i := 919) (by decide +kernel), List.mem_of_getElem? (i := 1173) (by decide +kernel), List.mem_of_getElem? (i := 1174) (by decide +kernel)⟩
def lw_privs_3 : List (MethodName × Nat) := [(⟨"PhaseReader$Parser", "takeForms", "()Z"⟩, 8), (⟨"PhaseReader$Parser", "declare", "(IZ)V"⟩, 8), (⟨"PhaseReader$Parser", "isFunction", "(I)Z"⟩, 8), (⟨"PhaseReader$Parser", "takeBlock", "(I)Z"⟩, 8), (⟨"PhaseReader$Parser", "takeStatement", "(I)Z"⟩, 8), (⟨"PhaseReader$Parser", "takeExpression", "(I)Z"⟩, 8), (⟨"PhaseReader$Parser", "takeBinary", "(II)Z"⟩, 8), (⟨"PhaseReader$Parser", "takeOperand", "(I)Z"⟩, 8), (⟨"PhaseReader$Parser", "takeCast", "()Z"⟩, 8), (⟨"PhaseReader$Parser", "takePrimary", "(I)Z"⟩, 8), (⟨"PhaseReader$Parser", "takePostfixes", "(II)Z"⟩, 8), (⟨"PhaseReader$Parser", "takeArguments", "(II)Z"⟩, 8), (⟨"PhaseReader", "isToken", "(I)Z"⟩, 5), (⟨"PhaseReaderModel", "read", "(I)I"⟩, 72), (⟨"PhaseReaderModel", "join", "(I)V"⟩, 72), (⟨"PhaseReaderModel", "blank", "(I)I"⟩, 72)]
theorem lw_r3 : ∀ q ∈ lw_privs_3, lw_okq q := List.forall_mem_cons.mpr ⟨lw_p32, List.forall_mem_cons.mpr ⟨lw_p33, List.forall_mem_cons.mpr ⟨lw_p34, List.forall_mem_cons.mpr ⟨lw_p35, List.forall_mem_cons.mpr ⟨lw_p36, List.forall_mem_cons.mpr ⟨lw_p37, List.forall_mem_cons.mpr ⟨lw_p38, List.forall_mem_cons.mpr ⟨lw_p39, List.forall_mem_cons.mpr ⟨lw_p40, List.forall_mem_cons.mpr ⟨lw_p41, List.forall_mem_cons.mpr ⟨lw_p42, List.forall_mem_cons.mpr ⟨lw_p43, List.forall_mem_cons.mpr ⟨lw_p44, List.forall_mem_cons.mpr ⟨lw_p45, List.forall_mem_cons.mpr ⟨lw_p46, List.forall_mem_cons.mpr ⟨lw_p47, fun _ h => absurd h List.not_mem_nil⟩⟩⟩⟩⟩⟩⟩⟩⟩⟩⟩⟩⟩⟩⟩⟩
theorem lw_p48 : lw_okq (⟨"PhaseReaderModel", "end", "(I)I"⟩, 72) := ⟨⟨by decide +kernel, by decide +kernel⟩, List.mem_of_getElem? (i := 919) (by decide +kernel), List.mem_of_getElem? (i := 1177) (by decide +kernel), List.mem_of_getElem? (i := 1178) (by decide +kernel)⟩
theorem lw_p49 : lw_okq (⟨"PhaseReaderModel", "row", "()I"⟩, 72) := ⟨⟨by decide +kernel, by decide +kernel⟩, List.mem_of_getElem? (i := 919) (by decide +kernel), List.mem_of_getElem? (i := 1187) (by decide +kernel), List.mem_of_getElem? (i := 1188) (by decide +kernel)⟩
theorem lw_p50 : lw_okq (⟨"PhaseReaderModel", "expand", "()I"⟩, 72) := ⟨⟨by decide +kernel, by decide +kernel⟩, List.mem_of_getElem? (i := 919) (by decide +kernel), List.mem_of_getElem? (i := 1191) (by decide +kernel), List.mem_of_getElem? (i := 1192) (by decide +kernel)⟩
theorem lw_p51 : lw_okq (⟨"PhaseReaderModel", "lay", "(JI)V"⟩, 72) := ⟨⟨by decide +kernel, by decide +kernel⟩, List.mem_of_getElem? (i := 919) (by decide +kernel), List.mem_of_getElem? (i := 1195) (by decide +kernel), List.mem_of_getElem? (i := 1196) (by decide +kernel)⟩
theorem lw_p52 : lw_okq (⟨"PhaseReaderModel", "next", "()I"⟩, 72) := ⟨⟨by decide +kernel, by decide +kernel⟩, List.mem_of_getElem? (i := 919) (by decide +kernel), List.mem_of_getElem? (i := 1200) (by decide +kernel), List.mem_of_getElem? (i := 1201) (by decide +kernel)⟩
theorem lw_p53 : lw_okq (⟨"PhaseReaderModel", "argumentEnds", "()I"⟩, 72) := ⟨⟨by decide +kernel, by decide +kernel⟩, List.mem_of_getElem? (i := 919) (by decide +kernel), List.mem_of_getElem? (i := 1204) (by decide +kernel), List.mem_of_getElem? (i := 1205) (by decide +kernel)⟩
theorem lw_p54 : lw_okq (⟨"PhaseReaderModel", "begin", "()I"⟩, 72) := ⟨⟨by decide +kernel, by decide +kernel⟩, List.mem_of_getElem? (i := 919) (by decide +kernel), List.mem_of_getElem? (i := 1208) (by decide +kernel), List.mem_of_getElem? (i := 1209) (by decide +kernel)⟩
theorem lw_p55 : lw_okq (⟨"PhaseReaderModel", "replace", "()I"⟩, 72) := ⟨⟨by decide +kernel, by decide +kernel⟩, List.mem_of_getElem? (i := 919) (by decide +kernel), List.mem_of_getElem? (i := 1212) (by decide +kernel), List.mem_of_getElem? (i := 1213) (by decide +kernel)⟩
theorem lw_p56 : lw_okq (⟨"PhaseReaderModel", "which", "(IJ)I"⟩, 72) := ⟨⟨by decide +kernel, by decide +kernel⟩, List.mem_of_getElem? (i := 919) (by decide +kernel), List.mem_of_getElem? (i := 1217) (by decide +kernel), List.mem_of_getElem? (i := 1218) (by decide +kernel)⟩
theorem lw_p57 : lw_okq (⟨"PhaseReaderModel", "paste", "(IJI)Z"⟩, 72) := ⟨⟨by decide +kernel, by decide +kernel⟩, List.mem_of_getElem? (i := 919) (by decide +kernel), List.mem_of_getElem? (i := 1221) (by decide +kernel), List.mem_of_getElem? (i := 1222) (by decide +kernel)⟩
theorem lw_p58 : lw_okq (⟨"PhaseReaderModel", "find", "(J)I"⟩, 72) := ⟨⟨by decide +kernel, by decide +kernel⟩, List.mem_of_getElem? (i := 919) (by decide +kernel), List.mem_of_getElem? (i := 1233) (by decide +kernel), List.mem_of_getElem? (i := 1234) (by decide +kernel)⟩
theorem lw_p59 : lw_okq (⟨"PhaseReaderModel", "arguments", "(I)I"⟩, 72) := ⟨⟨by decide +kernel, by decide +kernel⟩, List.mem_of_getElem? (i := 919) (by decide +kernel), List.mem_of_getElem? (i := 1238) (by decide +kernel), List.mem_of_getElem? (i := 1239) (by decide +kernel)⟩
theorem lw_p60 : lw_okq (⟨"PhaseReaderModel", "directive", "(II)I"⟩, 72) := ⟨⟨by decide +kernel, by decide +kernel⟩, List.mem_of_getElem? (i := 919) (by decide +kernel), List.mem_of_getElem? (i := 1245) (by decide +kernel), List.mem_of_getElem? (i := 1246) (by decide +kernel)⟩
theorem lw_p61 : lw_okq (⟨"PhaseReaderModel", "skipping", "()Z"⟩, 72) := ⟨⟨by decide +kernel, by decide +kernel⟩, List.mem_of_getElem? (i := 919) (by decide +kernel), List.mem_of_getElem? (i := 1253) (by decide +kernel), List.mem_of_getElem? (i := 1254) (by decide +kernel)⟩
theorem lw_p62 : lw_okq (⟨"PhaseReaderModel", "define", "(II)I"⟩, 72) := ⟨⟨by decide +kernel, by decide +kernel⟩, List.mem_of_getElem? (i := 919) (by decide +kernel), List.mem_of_getElem? (i := 1258) (by decide +kernel), List.mem_of_getElem? (i := 1259) (by decide +kernel)⟩
theorem lw_p63 : lw_okq (⟨"PhaseReaderModel", "parameters", "(II)I"⟩, 72) := ⟨⟨by decide +kernel, by decide +kernel⟩, List.mem_of_getElem? (i := 919) (by decide +kernel), List.mem_of_getElem? (i := 1268) (by decide +kernel), List.mem_of_getElem? (i := 1269) (by decide +kernel)⟩
def lw_privs_4 : List (MethodName × Nat) := [(⟨"PhaseReaderModel", "end", "(I)I"⟩, 72), (⟨"PhaseReaderModel", "row", "()I"⟩, 72), (⟨"PhaseReaderModel", "expand", "()I"⟩, 72), (⟨"PhaseReaderModel", "lay", "(JI)V"⟩, 72), (⟨"PhaseReaderModel", "next", "()I"⟩, 72), (⟨"PhaseReaderModel", "argumentEnds", "()I"⟩, 72), (⟨"PhaseReaderModel", "begin", "()I"⟩, 72), (⟨"PhaseReaderModel", "replace", "()I"⟩, 72), (⟨"PhaseReaderModel", "which", "(IJ)I"⟩, 72), (⟨"PhaseReaderModel", "paste", "(IJI)Z"⟩, 72), (⟨"PhaseReaderModel", "find", "(J)I"⟩, 72), (⟨"PhaseReaderModel", "arguments", "(I)I"⟩, 72), (⟨"PhaseReaderModel", "directive", "(II)I"⟩, 72), (⟨"PhaseReaderModel", "skipping", "()Z"⟩, 72), (⟨"PhaseReaderModel", "define", "(II)I"⟩, 72), (⟨"PhaseReaderModel", "parameters", "(II)I"⟩, 72)]
theorem lw_r4 : ∀ q ∈ lw_privs_4, lw_okq q := List.forall_mem_cons.mpr ⟨lw_p48, List.forall_mem_cons.mpr ⟨lw_p49, List.forall_mem_cons.mpr ⟨lw_p50, List.forall_mem_cons.mpr ⟨lw_p51, List.forall_mem_cons.mpr ⟨lw_p52, List.forall_mem_cons.mpr ⟨lw_p53, List.forall_mem_cons.mpr ⟨lw_p54, List.forall_mem_cons.mpr ⟨lw_p55, List.forall_mem_cons.mpr ⟨lw_p56, List.forall_mem_cons.mpr ⟨lw_p57, List.forall_mem_cons.mpr ⟨lw_p58, List.forall_mem_cons.mpr ⟨lw_p59, List.forall_mem_cons.mpr ⟨lw_p60, List.forall_mem_cons.mpr ⟨lw_p61, List.forall_mem_cons.mpr ⟨lw_p62, List.forall_mem_cons.mpr ⟨lw_p63, fun _ h => absurd h List.not_mem_nil⟩⟩⟩⟩⟩⟩⟩⟩⟩⟩⟩⟩⟩⟩⟩⟩
theorem lw_p64 : lw_okq (⟨"PhaseReaderModel", "include", "(II)I"⟩, 72) := ⟨⟨by decide +kernel, by decide +kernel⟩, List.mem_of_getElem? (i := 919) (by decide +kernel), List.mem_of_getElem? (i := 1277) (by decide +kernel), List.mem_of_getElem? (i := 1278) (by decide +kernel)⟩
theorem lw_p65 : lw_okq (⟨"PhaseReaderModel", "turn", "(Z)I"⟩, 72) := ⟨⟨by decide +kernel, by decide +kernel⟩, List.mem_of_getElem? (i := 919) (by decide +kernel), List.mem_of_getElem? (i := 1285) (by decide +kernel), List.mem_of_getElem? (i := 1286) (by decide +kernel)⟩
theorem lw_p66 : lw_okq (⟨"PhaseReaderModel", "checked", "()I"⟩, 72) := ⟨⟨by decide +kernel, by decide +kernel⟩, List.mem_of_getElem? (i := 919) (by decide +kernel), List.mem_of_getElem? (i := 1290) (by decide +kernel), List.mem_of_getElem? (i := 1291) (by decide +kernel)⟩
theorem lw_p67 : lw_okq (⟨"PhaseReaderModel", "parsed", "()Z"⟩, 72) := ⟨⟨by decide +kernel, by decide +kernel⟩, List.mem_of_getElem? (i := 919) (by decide +kernel), List.mem_of_getElem? (i := 1301) (by decide +kernel), List.mem_of_getElem? (i := 1302) (by decide +kernel)⟩
theorem lw_p68 : lw_okq (⟨"PhaseReaderModel", "matched", "()Z"⟩, 72) := ⟨⟨by decide +kernel, by decide +kernel⟩, List.mem_of_getElem? (i := 919) (by decide +kernel), List.mem_of_getElem? (i := 1305) (by decide +kernel), List.mem_of_getElem? (i := 1306) (by decide +kernel)⟩
theorem lw_p69 : lw_okq (⟨"PhaseReaderModel", "grow", "(III)I"⟩, 72) := ⟨⟨by decide +kernel, by decide +kernel⟩, List.mem_of_getElem? (i := 919) (by decide +kernel), List.mem_of_getElem? (i := 1310) (by decide +kernel), List.mem_of_getElem? (i := 1311) (by decide +kernel)⟩
theorem lw_p70 : lw_okq (⟨"PhaseReaderModel", "push", "(IIIII)Z"⟩, 72) := ⟨⟨by decide +kernel, by decide +kernel⟩, List.mem_of_getElem? (i := 919) (by decide +kernel), List.mem_of_getElem? (i := 1314) (by decide +kernel), List.mem_of_getElem? (i := 1315) (by decide +kernel)⟩
theorem lw_p71 : lw_okq (⟨"PhaseReaderModel", "items", "(IIII)Z"⟩, 72) := ⟨⟨by decide +kernel, by decide +kernel⟩, List.mem_of_getElem? (i := 919) (by decide +kernel), List.mem_of_getElem? (i := 1318) (by decide +kernel), List.mem_of_getElem? (i := 1319) (by decide +kernel)⟩
theorem lw_p72 : lw_okq (⟨"PhaseReaderModel", "type", "(I)Z"⟩, 72) := ⟨⟨by decide +kernel, by decide +kernel⟩, List.mem_of_getElem? (i := 919) (by decide +kernel), List.mem_of_getElem? (i := 1323) (by decide +kernel), List.mem_of_getElem? (i := 1324) (by decide +kernel)⟩
theorem lw_p73 : lw_okq (⟨"PhaseReaderModel", "statement", "(IIII)Z"⟩, 72) := ⟨⟨by decide +kernel, by decide +kernel⟩, List.mem_of_getElem? (i := 919) (by decide +kernel), List.mem_of_getElem? (i := 1329) (by decide +kernel), List.mem_of_getElem? (i := 1330) (by decide +kernel)⟩
theorem lw_p74 : lw_okq (⟨"PhaseReaderModel", "stop", "(II)I"⟩, 72) := ⟨⟨by decide +kernel, by decide +kernel⟩, List.mem_of_getElem? (i := 919) (by decide +kernel), List.mem_of_getElem? (i := 1334) (by decide +kernel), List.mem_of_getElem? (i := 1335) (by decide +kernel)⟩
theorem lw_p75 : lw_okq (⟨"PhaseReaderModel", "value", "(III)Z"⟩, 72) := ⟨⟨by decide +kernel, by decide +kernel⟩, List.mem_of_getElem? (i := 919) (by decide +kernel), List.mem_of_getElem? (i := 1339) (by decide +kernel), List.mem_of_getElem? (i := 1340) (by decide +kernel)⟩
theorem lw_p76 : lw_okq (⟨"PhaseReaderModel", "cut", "(II)I"⟩, 72) := ⟨⟨by decide +kernel, by decide +kernel⟩, List.mem_of_getElem? (i := 919) (by decide +kernel), List.mem_of_getElem? (i := 1343) (by decide +kernel), List.mem_of_getElem? (i := 1344) (by decide +kernel)⟩
theorem lw_p77 : lw_okq (⟨"PhaseReaderModel", "cast", "(I)Z"⟩, 72) := ⟨⟨by decide +kernel, by decide +kernel⟩, List.mem_of_getElem? (i := 919) (by decide +kernel), List.mem_of_getElem? (i := 1355) (by decide +kernel), List.mem_of_getElem? (i := 1356) (by decide +kernel)⟩
theorem lw_p78 : lw_okq (⟨"PhaseReaderModel", "isWord", "(I)Z"⟩, 72) := ⟨⟨by decide +kernel, by decide +kernel⟩, List.mem_of_getElem? (i := 919) (by decide +kernel), List.mem_of_getElem? (i := 1360) (by decide +kernel), List.mem_of_getElem? (i := 1361) (by decide +kernel)⟩
theorem lw_p79 : lw_okq (⟨"PhaseReaderModel", "values", "(III)V"⟩, 72) := ⟨⟨by decide +kernel, by decide +kernel⟩, List.mem_of_getElem? (i := 919) (by decide +kernel), List.mem_of_getElem? (i := 1364) (by decide +kernel), List.mem_of_getElem? (i := 1365) (by decide +kernel)⟩
def lw_privs_5 : List (MethodName × Nat) := [(⟨"PhaseReaderModel", "include", "(II)I"⟩, 72), (⟨"PhaseReaderModel", "turn", "(Z)I"⟩, 72), (⟨"PhaseReaderModel", "checked", "()I"⟩, 72), (⟨"PhaseReaderModel", "parsed", "()Z"⟩, 72), (⟨"PhaseReaderModel", "matched", "()Z"⟩, 72), (⟨"PhaseReaderModel", "grow", "(III)I"⟩, 72), (⟨"PhaseReaderModel", "push", "(IIIII)Z"⟩, 72), (⟨"PhaseReaderModel", "items", "(IIII)Z"⟩, 72), (⟨"PhaseReaderModel", "type", "(I)Z"⟩, 72), (⟨"PhaseReaderModel", "statement", "(IIII)Z"⟩, 72), (⟨"PhaseReaderModel", "stop", "(II)I"⟩, 72), (⟨"PhaseReaderModel", "value", "(III)Z"⟩, 72), (⟨"PhaseReaderModel", "cut", "(II)I"⟩, 72), (⟨"PhaseReaderModel", "cast", "(I)Z"⟩, 72), (⟨"PhaseReaderModel", "isWord", "(I)Z"⟩, 72), (⟨"PhaseReaderModel", "values", "(III)V"⟩, 72)]
theorem lw_r5 : ∀ q ∈ lw_privs_5, lw_okq q := List.forall_mem_cons.mpr ⟨lw_p64, List.forall_mem_cons.mpr ⟨lw_p65, List.forall_mem_cons.mpr ⟨lw_p66, List.forall_mem_cons.mpr ⟨lw_p67, List.forall_mem_cons.mpr ⟨lw_p68, List.forall_mem_cons.mpr ⟨lw_p69, List.forall_mem_cons.mpr ⟨lw_p70, List.forall_mem_cons.mpr ⟨lw_p71, List.forall_mem_cons.mpr ⟨lw_p72, List.forall_mem_cons.mpr ⟨lw_p73, List.forall_mem_cons.mpr ⟨lw_p74, List.forall_mem_cons.mpr ⟨lw_p75, List.forall_mem_cons.mpr ⟨lw_p76, List.forall_mem_cons.mpr ⟨lw_p77, List.forall_mem_cons.mpr ⟨lw_p78, List.forall_mem_cons.mpr ⟨lw_p79, fun _ h => absurd h List.not_mem_nil⟩⟩⟩⟩⟩⟩⟩⟩⟩⟩⟩⟩⟩⟩⟩⟩
theorem lw_p80 : lw_okq (⟨"PhaseReaderModel", "declarator", "(IIIII)Z"⟩, 72) := ⟨⟨by decide +kernel, by decide +kernel⟩, List.mem_of_getElem? (i := 919) (by decide +kernel), List.mem_of_getElem? (i := 1368) (by decide +kernel), List.mem_of_getElem? (i := 1369) (by decide +kernel)⟩
theorem lw_p81 : lw_okq (⟨"PhaseReaderModel", "seek", "(IIJ)I"⟩, 72) := ⟨⟨by decide +kernel, by decide +kernel⟩, List.mem_of_getElem? (i := 919) (by decide +kernel), List.mem_of_getElem? (i := 1372) (by decide +kernel), List.mem_of_getElem? (i := 1373) (by decide +kernel)⟩
theorem lw_p82 : lw_okq (⟨"PhaseReaderModel", "forms", "(II)Z"⟩, 72) := ⟨⟨by decide +kernel, by decide +kernel⟩, List.mem_of_getElem? (i := 919) (by decide +kernel), List.mem_of_getElem? (i := 1376) (by decide +kernel), List.mem_of_getElem? (i := 1377) (by decide +kernel)⟩
def lw_privs_6 : List (MethodName × Nat) := [(⟨"PhaseReaderModel", "declarator", "(IIIII)Z"⟩, 72), (⟨"PhaseReaderModel", "seek", "(IIJ)I"⟩, 72), (⟨"PhaseReaderModel", "forms", "(II)Z"⟩, 72)]
theorem lw_r6 : ∀ q ∈ lw_privs_6, lw_okq q := List.forall_mem_cons.mpr ⟨lw_p80, List.forall_mem_cons.mpr ⟨lw_p81, List.forall_mem_cons.mpr ⟨lw_p82, fun _ h => absurd h List.not_mem_nil⟩⟩⟩
def lw_privs : List (MethodName × Nat) := lw_privs_1 ++ (lw_privs_2 ++ (lw_privs_3 ++ (lw_privs_4 ++ (lw_privs_5 ++ (lw_privs_6)))))
def lw_tbl : List Cond := k2_sels lw_privs ++ tables_1
theorem lw_privs_ok : ∀ q ∈ lw_privs, lw_okq q := by
  show ∀ q ∈ lw_privs_1 ++ (lw_privs_2 ++ (lw_privs_3 ++ (lw_privs_4 ++ (lw_privs_5 ++ (lw_privs_6))))), lw_okq q
  exact List.forall_mem_append.mpr ⟨lw_r1, List.forall_mem_append.mpr ⟨lw_r2, List.forall_mem_append.mpr ⟨lw_r3, List.forall_mem_append.mpr ⟨lw_r4, List.forall_mem_append.mpr ⟨lw_r5, lw_r6⟩⟩⟩⟩⟩
end
section
/-! The tables of class, reference and law, by program: methods, instructions, fields, links; and that the Statement's words hold them. -/
def x_w : List Jvm.Cond := lw_tbl.filter goodWord
theorem tm_1 {w : Jvm.Cond} (h : w ∈ tables_1_1) : w ∈ tables_1 := by
  show w ∈ tables_1_1 ++ (tables_1_2 ++ (tables_1_3 ++ (tables_1_4 ++ (tables_1_5 ++ (tables_1_6)))))
  exact List.mem_append_left _ h
theorem tw_1 {w : Jvm.Cond} {i : Nat} (h : tables_1_1[i]? = some w) (hg : goodWord w = true) : w ∈ x_w := List.mem_filter.mpr ⟨List.mem_append_right _ (tm_1 (List.mem_of_getElem? h)), hg⟩
theorem tm_2 {w : Jvm.Cond} (h : w ∈ tables_1_2) : w ∈ tables_1 := by
  show w ∈ tables_1_1 ++ (tables_1_2 ++ (tables_1_3 ++ (tables_1_4 ++ (tables_1_5 ++ (tables_1_6)))))
  exact List.mem_append_right _ (List.mem_append_left _ h)
theorem tw_2 {w : Jvm.Cond} {i : Nat} (h : tables_1_2[i]? = some w) (hg : goodWord w = true) : w ∈ x_w := List.mem_filter.mpr ⟨List.mem_append_right _ (tm_2 (List.mem_of_getElem? h)), hg⟩
theorem tm_3 {w : Jvm.Cond} (h : w ∈ tables_1_3) : w ∈ tables_1 := by
  show w ∈ tables_1_1 ++ (tables_1_2 ++ (tables_1_3 ++ (tables_1_4 ++ (tables_1_5 ++ (tables_1_6)))))
  exact List.mem_append_right _ (List.mem_append_right _ (List.mem_append_left _ h))
theorem tw_3 {w : Jvm.Cond} {i : Nat} (h : tables_1_3[i]? = some w) (hg : goodWord w = true) : w ∈ x_w := List.mem_filter.mpr ⟨List.mem_append_right _ (tm_3 (List.mem_of_getElem? h)), hg⟩
theorem tm_4 {w : Jvm.Cond} (h : w ∈ tables_1_4) : w ∈ tables_1 := by
  show w ∈ tables_1_1 ++ (tables_1_2 ++ (tables_1_3 ++ (tables_1_4 ++ (tables_1_5 ++ (tables_1_6)))))
  exact List.mem_append_right _ (List.mem_append_right _ (List.mem_append_right _ (List.mem_append_left _ h)))
theorem tw_4 {w : Jvm.Cond} {i : Nat} (h : tables_1_4[i]? = some w) (hg : goodWord w = true) : w ∈ x_w := List.mem_filter.mpr ⟨List.mem_append_right _ (tm_4 (List.mem_of_getElem? h)), hg⟩
theorem tm_5 {w : Jvm.Cond} (h : w ∈ tables_1_5) : w ∈ tables_1 := by
  show w ∈ tables_1_1 ++ (tables_1_2 ++ (tables_1_3 ++ (tables_1_4 ++ (tables_1_5 ++ (tables_1_6)))))
  exact List.mem_append_right _ (List.mem_append_right _ (List.mem_append_right _ (List.mem_append_right _ (List.mem_append_left _ h))))
theorem tw_5 {w : Jvm.Cond} {i : Nat} (h : tables_1_5[i]? = some w) (hg : goodWord w = true) : w ∈ x_w := List.mem_filter.mpr ⟨List.mem_append_right _ (tm_5 (List.mem_of_getElem? h)), hg⟩
theorem tm_6 {w : Jvm.Cond} (h : w ∈ tables_1_6) : w ∈ tables_1 := by
  show w ∈ tables_1_1 ++ (tables_1_2 ++ (tables_1_3 ++ (tables_1_4 ++ (tables_1_5 ++ (tables_1_6)))))
  exact List.mem_append_right _ (List.mem_append_right _ (List.mem_append_right _ (List.mem_append_right _ (List.mem_append_right _ (h)))))
theorem tw_6 {w : Jvm.Cond} {i : Nat} (h : tables_1_6[i]? = some w) (hg : goodWord w = true) : w ∈ x_w := List.mem_filter.mpr ⟨List.mem_append_right _ (tm_6 (List.mem_of_getElem? h)), hg⟩
theorem tq_1 {q : MethodName × Nat} {i : Nat} (h : lw_privs_1[i]? = some q) : Jvm.Cond.selects q.1.cls q.1 q.1 ∈ x_w := by
  have h : q ∈ lw_privs_1 := List.mem_of_getElem? h
  have h2 : q ∈ lw_privs := by
    show q ∈ lw_privs_1 ++ (lw_privs_2 ++ (lw_privs_3 ++ (lw_privs_4 ++ (lw_privs_5 ++ (lw_privs_6)))))
    exact List.mem_append_left _ h
  exact List.mem_filter.mpr ⟨List.mem_append_left _ (List.mem_map.mpr ⟨q, h2, rfl⟩), rfl⟩
theorem tq_2 {q : MethodName × Nat} {i : Nat} (h : lw_privs_2[i]? = some q) : Jvm.Cond.selects q.1.cls q.1 q.1 ∈ x_w := by
  have h : q ∈ lw_privs_2 := List.mem_of_getElem? h
  have h2 : q ∈ lw_privs := by
    show q ∈ lw_privs_1 ++ (lw_privs_2 ++ (lw_privs_3 ++ (lw_privs_4 ++ (lw_privs_5 ++ (lw_privs_6)))))
    exact List.mem_append_right _ (List.mem_append_left _ h)
  exact List.mem_filter.mpr ⟨List.mem_append_left _ (List.mem_map.mpr ⟨q, h2, rfl⟩), rfl⟩
theorem tq_3 {q : MethodName × Nat} {i : Nat} (h : lw_privs_3[i]? = some q) : Jvm.Cond.selects q.1.cls q.1 q.1 ∈ x_w := by
  have h : q ∈ lw_privs_3 := List.mem_of_getElem? h
  have h2 : q ∈ lw_privs := by
    show q ∈ lw_privs_1 ++ (lw_privs_2 ++ (lw_privs_3 ++ (lw_privs_4 ++ (lw_privs_5 ++ (lw_privs_6)))))
    exact List.mem_append_right _ (List.mem_append_right _ (List.mem_append_left _ h))
  exact List.mem_filter.mpr ⟨List.mem_append_left _ (List.mem_map.mpr ⟨q, h2, rfl⟩), rfl⟩
theorem tq_4 {q : MethodName × Nat} {i : Nat} (h : lw_privs_4[i]? = some q) : Jvm.Cond.selects q.1.cls q.1 q.1 ∈ x_w := by
  have h : q ∈ lw_privs_4 := List.mem_of_getElem? h
  have h2 : q ∈ lw_privs := by
    show q ∈ lw_privs_1 ++ (lw_privs_2 ++ (lw_privs_3 ++ (lw_privs_4 ++ (lw_privs_5 ++ (lw_privs_6)))))
    exact List.mem_append_right _ (List.mem_append_right _ (List.mem_append_right _ (List.mem_append_left _ h)))
  exact List.mem_filter.mpr ⟨List.mem_append_left _ (List.mem_map.mpr ⟨q, h2, rfl⟩), rfl⟩
theorem tq_5 {q : MethodName × Nat} {i : Nat} (h : lw_privs_5[i]? = some q) : Jvm.Cond.selects q.1.cls q.1 q.1 ∈ x_w := by
  have h : q ∈ lw_privs_5 := List.mem_of_getElem? h
  have h2 : q ∈ lw_privs := by
    show q ∈ lw_privs_1 ++ (lw_privs_2 ++ (lw_privs_3 ++ (lw_privs_4 ++ (lw_privs_5 ++ (lw_privs_6)))))
    exact List.mem_append_right _ (List.mem_append_right _ (List.mem_append_right _ (List.mem_append_right _ (List.mem_append_left _ h))))
  exact List.mem_filter.mpr ⟨List.mem_append_left _ (List.mem_map.mpr ⟨q, h2, rfl⟩), rfl⟩
theorem tq_6 {q : MethodName × Nat} {i : Nat} (h : lw_privs_6[i]? = some q) : Jvm.Cond.selects q.1.cls q.1 q.1 ∈ x_w := by
  have h : q ∈ lw_privs_6 := List.mem_of_getElem? h
  have h2 : q ∈ lw_privs := by
    show q ∈ lw_privs_1 ++ (lw_privs_2 ++ (lw_privs_3 ++ (lw_privs_4 ++ (lw_privs_5 ++ (lw_privs_6)))))
    exact List.mem_append_right _ (List.mem_append_right _ (List.mem_append_right _ (List.mem_append_right _ (List.mem_append_right _ (h)))))
  exact List.mem_filter.mpr ⟨List.mem_append_left _ (List.mem_map.mpr ⟨q, h2, rfl⟩), rfl⟩
theorem s_sub (w : Jvm.Cond) (h : w ∈ x_w) : w ∈ lw_tbl := (List.mem_filter.mp h).1
theorem s_good (w : Jvm.Cond) (h : w ∈ x_w) : (w.onTables && w.keeps) = true ∨ ∃ ty, w = .arrayClass ty := good_of_word (List.mem_filter.mp h).2
def cF_0 : List (String × String × String × Bool) := [("PhaseReader", "files", "[LPhaseReader$Text;", true), ("PhaseReader", "preprocessor", "LPhaseReader$Preprocessor;", true), ("PhaseReader", "parser", "LPhaseReader$Parser;", true), ("PhaseReader", "chosen", "I", false), ("PhaseReader", "verdict", "I", false)]
def cT_0 : u_T := fun k => cF_0.getD k ("", "", "", false)
def cY_0 : Nat → FieldType := fun k => ([(.array (.object "PhaseReader$Text")), (.object "PhaseReader$Preprocessor"), (.object "PhaseReader$Parser"), .int, .int] : List FieldType).getD k .int
theorem cU_0 : ∀ w ∈ u_ws "PhaseReader" cT_0 5, w ∈ x_w := by
  show ∀ w ∈ ([Jvm.Cond.laysFinal "PhaseReader" "PhaseReader" "files" "[LPhaseReader$Text;", Jvm.Cond.laysFinal "PhaseReader" "PhaseReader" "preprocessor" "LPhaseReader$Preprocessor;", Jvm.Cond.laysFinal "PhaseReader" "PhaseReader" "parser" "LPhaseReader$Parser;", Jvm.Cond.lays "PhaseReader" "PhaseReader" "chosen" "I", Jvm.Cond.lays "PhaseReader" "PhaseReader" "verdict" "I"] : List Jvm.Cond), w ∈ x_w
  exact List.forall_mem_cons.mpr ⟨(tw_2 (i := 109) rfl rfl), List.forall_mem_cons.mpr ⟨(tw_2 (i := 111) rfl rfl), List.forall_mem_cons.mpr ⟨(tw_2 (i := 113) rfl rfl), List.forall_mem_cons.mpr ⟨(tw_2 (i := 115) rfl rfl), List.forall_mem_cons.mpr ⟨(tw_2 (i := 117) rfl rfl), fun _ h => absurd h List.not_mem_nil⟩⟩⟩⟩⟩
theorem cP_0 : ∀ j, j < 5 → parseFieldDescriptor (cT_0 j).2.2.1 = some (cY_0 j) := by decide +kernel
theorem cN_0 : ∀ a, a < 5 → ∀ b, b < 5 → a ≠ b → (cT_0 a).2.1 ≠ (cT_0 b).2.1 := by decide +kernel
def cF_1 : List (String × String × String × Bool) := [("PhaseReader$Arguments", "low", "[I", true), ("PhaseReader$Arguments", "high", "[I", true), ("PhaseReader$Arguments", "from", "[I", true), ("PhaseReader$Arguments", "to", "[I", true), ("PhaseReader$Arguments", "count", "I", false), ("PhaseReader$Arguments", "close", "I", false)]
def cT_1 : u_T := fun k => cF_1.getD k ("", "", "", false)
def cY_1 : Nat → FieldType := fun k => ([(.array .int), (.array .int), (.array .int), (.array .int), .int, .int] : List FieldType).getD k .int
theorem cU_1 : ∀ w ∈ u_ws "PhaseReader$Arguments" cT_1 6, w ∈ x_w := by
  show ∀ w ∈ ([Jvm.Cond.laysFinal "PhaseReader$Arguments" "PhaseReader$Arguments" "low" "[I", Jvm.Cond.laysFinal "PhaseReader$Arguments" "PhaseReader$Arguments" "high" "[I", Jvm.Cond.laysFinal "PhaseReader$Arguments" "PhaseReader$Arguments" "from" "[I", Jvm.Cond.laysFinal "PhaseReader$Arguments" "PhaseReader$Arguments" "to" "[I", Jvm.Cond.lays "PhaseReader$Arguments" "PhaseReader$Arguments" "count" "I", Jvm.Cond.lays "PhaseReader$Arguments" "PhaseReader$Arguments" "close" "I"] : List Jvm.Cond), w ∈ x_w
  exact List.forall_mem_cons.mpr ⟨(tw_1 (i := 140) rfl rfl), List.forall_mem_cons.mpr ⟨(tw_1 (i := 142) rfl rfl), List.forall_mem_cons.mpr ⟨(tw_1 (i := 144) rfl rfl), List.forall_mem_cons.mpr ⟨(tw_1 (i := 146) rfl rfl), List.forall_mem_cons.mpr ⟨(tw_1 (i := 148) rfl rfl), List.forall_mem_cons.mpr ⟨(tw_1 (i := 150) rfl rfl), fun _ h => absurd h List.not_mem_nil⟩⟩⟩⟩⟩⟩
theorem cP_1 : ∀ j, j < 6 → parseFieldDescriptor (cT_1 j).2.2.1 = some (cY_1 j) := by decide +kernel
theorem cN_1 : ∀ a, a < 6 → ∀ b, b < 6 → a ≠ b → (cT_1 a).2.1 ≠ (cT_1 b).2.1 := by decide +kernel
def cF_2 : List (String × String × String × Bool) := [("PhaseReader$Expander", "table", "LPhaseReader$MacroTable;", true), ("PhaseReader$Expander", "out", "LPhaseReader$TokenRow;", true), ("PhaseReader$Expander", "replacedSoFar", "I", false), ("PhaseReader$Expander", "pending", "LPhaseReader$TokenRow;", true), ("PhaseReader$Expander", "done", "LPhaseReader$TokenRow;", true), ("PhaseReader$Expander", "replacement", "LPhaseReader$TokenRow;", true), ("PhaseReader$Expander", "arguments", "[LPhaseReader$Arguments;", true)]
def cT_2 : u_T := fun k => cF_2.getD k ("", "", "", false)
def cY_2 : Nat → FieldType := fun k => ([(.object "PhaseReader$MacroTable"), (.object "PhaseReader$TokenRow"), .int, (.object "PhaseReader$TokenRow"), (.object "PhaseReader$TokenRow"), (.object "PhaseReader$TokenRow"), (.array (.object "PhaseReader$Arguments"))] : List FieldType).getD k .int
theorem cU_2 : ∀ w ∈ u_ws "PhaseReader$Expander" cT_2 7, w ∈ x_w := by
  show ∀ w ∈ ([Jvm.Cond.laysFinal "PhaseReader$Expander" "PhaseReader$Expander" "table" "LPhaseReader$MacroTable;", Jvm.Cond.laysFinal "PhaseReader$Expander" "PhaseReader$Expander" "out" "LPhaseReader$TokenRow;", Jvm.Cond.lays "PhaseReader$Expander" "PhaseReader$Expander" "replacedSoFar" "I", Jvm.Cond.laysFinal "PhaseReader$Expander" "PhaseReader$Expander" "pending" "LPhaseReader$TokenRow;", Jvm.Cond.laysFinal "PhaseReader$Expander" "PhaseReader$Expander" "done" "LPhaseReader$TokenRow;", Jvm.Cond.laysFinal "PhaseReader$Expander" "PhaseReader$Expander" "replacement" "LPhaseReader$TokenRow;", Jvm.Cond.laysFinal "PhaseReader$Expander" "PhaseReader$Expander" "arguments" "[LPhaseReader$Arguments;"] : List Jvm.Cond), w ∈ x_w
  exact List.forall_mem_cons.mpr ⟨(tw_1 (i := 164) rfl rfl), List.forall_mem_cons.mpr ⟨(tw_1 (i := 166) rfl rfl), List.forall_mem_cons.mpr ⟨(tw_1 (i := 168) rfl rfl), List.forall_mem_cons.mpr ⟨(tw_1 (i := 170) rfl rfl), List.forall_mem_cons.mpr ⟨(tw_1 (i := 172) rfl rfl), List.forall_mem_cons.mpr ⟨(tw_1 (i := 174) rfl rfl), List.forall_mem_cons.mpr ⟨(tw_1 (i := 176) rfl rfl), fun _ h => absurd h List.not_mem_nil⟩⟩⟩⟩⟩⟩⟩
theorem cP_2 : ∀ j, j < 7 → parseFieldDescriptor (cT_2 j).2.2.1 = some (cY_2 j) := by decide +kernel
theorem cN_2 : ∀ a, a < 7 → ∀ b, b < 7 → a ≠ b → (cT_2 a).2.1 ≠ (cT_2 b).2.1 := by decide +kernel
def cF_3 : List (String × String × String × Bool) := [("PhaseReader$Macro", "name", "J", false), ("PhaseReader$Macro", "isCall", "Z", false), ("PhaseReader$Macro", "parameters", "I", false), ("PhaseReader$Macro", "parameter", "[J", true), ("PhaseReader$Macro", "size", "I", false), ("PhaseReader$Macro", "body", "[J", true)]
def cT_3 : u_T := fun k => cF_3.getD k ("", "", "", false)
def cY_3 : Nat → FieldType := fun k => ([.long, .boolean, .int, (.array .long), .int, (.array .long)] : List FieldType).getD k .int
theorem cU_3 : ∀ w ∈ u_ws "PhaseReader$Macro" cT_3 6, w ∈ x_w := by
  show ∀ w ∈ ([Jvm.Cond.lays "PhaseReader$Macro" "PhaseReader$Macro" "name" "J", Jvm.Cond.lays "PhaseReader$Macro" "PhaseReader$Macro" "isCall" "Z", Jvm.Cond.lays "PhaseReader$Macro" "PhaseReader$Macro" "parameters" "I", Jvm.Cond.laysFinal "PhaseReader$Macro" "PhaseReader$Macro" "parameter" "[J", Jvm.Cond.lays "PhaseReader$Macro" "PhaseReader$Macro" "size" "I", Jvm.Cond.laysFinal "PhaseReader$Macro" "PhaseReader$Macro" "body" "[J"] : List Jvm.Cond), w ∈ x_w
  exact List.forall_mem_cons.mpr ⟨(tw_1 (i := 70) rfl rfl), List.forall_mem_cons.mpr ⟨(tw_1 (i := 72) rfl rfl), List.forall_mem_cons.mpr ⟨(tw_1 (i := 74) rfl rfl), List.forall_mem_cons.mpr ⟨(tw_1 (i := 76) rfl rfl), List.forall_mem_cons.mpr ⟨(tw_1 (i := 78) rfl rfl), List.forall_mem_cons.mpr ⟨(tw_1 (i := 80) rfl rfl), fun _ h => absurd h List.not_mem_nil⟩⟩⟩⟩⟩⟩
theorem cP_3 : ∀ j, j < 6 → parseFieldDescriptor (cT_3 j).2.2.1 = some (cY_3 j) := by decide +kernel
theorem cN_3 : ∀ a, a < 6 → ∀ b, b < 6 → a ≠ b → (cT_3 a).2.1 ≠ (cT_3 b).2.1 := by decide +kernel
def cF_4 : List (String × String × String × Bool) := [("PhaseReader$MacroTable", "macro", "[LPhaseReader$Macro;", true), ("PhaseReader$MacroTable", "size", "I", false)]
def cT_4 : u_T := fun k => cF_4.getD k ("", "", "", false)
def cY_4 : Nat → FieldType := fun k => ([(.array (.object "PhaseReader$Macro")), .int] : List FieldType).getD k .int
theorem cU_4 : ∀ w ∈ u_ws "PhaseReader$MacroTable" cT_4 2, w ∈ x_w := by
  show ∀ w ∈ ([Jvm.Cond.laysFinal "PhaseReader$MacroTable" "PhaseReader$MacroTable" "macro" "[LPhaseReader$Macro;", Jvm.Cond.lays "PhaseReader$MacroTable" "PhaseReader$MacroTable" "size" "I"] : List Jvm.Cond), w ∈ x_w
  exact List.forall_mem_cons.mpr ⟨(tw_1 (i := 89) rfl rfl), List.forall_mem_cons.mpr ⟨(tw_1 (i := 91) rfl rfl), fun _ h => absurd h List.not_mem_nil⟩⟩
theorem cP_4 : ∀ j, j < 2 → parseFieldDescriptor (cT_4 j).2.2.1 = some (cY_4 j) := by decide +kernel
theorem cN_4 : ∀ a, a < 2 → ∀ b, b < 2 → a ≠ b → (cT_4 a).2.1 ≠ (cT_4 b).2.1 := by decide +kernel
def cF_5 : List (String × String × String × Bool) := [("PhaseReader$Parser", "tree", "LPhaseReader$Tree;", true), ("PhaseReader$Parser", "text", "[J", true), ("PhaseReader$Parser", "word", "[I", true), ("PhaseReader$Parser", "size", "I", false), ("PhaseReader$Parser", "at", "I", false), ("PhaseReader$Parser", "declared", "[J", true), ("PhaseReader$Parser", "isType", "[Z", true), ("PhaseReader$Parser", "declarations", "I", false)]
def cT_5 : u_T := fun k => cF_5.getD k ("", "", "", false)
def cY_5 : Nat → FieldType := fun k => ([(.object "PhaseReader$Tree"), (.array .long), (.array .int), .int, .int, (.array .long), (.array .boolean), .int] : List FieldType).getD k .int
theorem cU_5 : ∀ w ∈ u_ws "PhaseReader$Parser" cT_5 8, w ∈ x_w := by
  show ∀ w ∈ ([Jvm.Cond.laysFinal "PhaseReader$Parser" "PhaseReader$Parser" "tree" "LPhaseReader$Tree;", Jvm.Cond.laysFinal "PhaseReader$Parser" "PhaseReader$Parser" "text" "[J", Jvm.Cond.laysFinal "PhaseReader$Parser" "PhaseReader$Parser" "word" "[I", Jvm.Cond.lays "PhaseReader$Parser" "PhaseReader$Parser" "size" "I", Jvm.Cond.lays "PhaseReader$Parser" "PhaseReader$Parser" "at" "I", Jvm.Cond.laysFinal "PhaseReader$Parser" "PhaseReader$Parser" "declared" "[J", Jvm.Cond.laysFinal "PhaseReader$Parser" "PhaseReader$Parser" "isType" "[Z", Jvm.Cond.lays "PhaseReader$Parser" "PhaseReader$Parser" "declarations" "I"] : List Jvm.Cond), w ∈ x_w
  exact List.forall_mem_cons.mpr ⟨(tw_2 (i := 72) rfl rfl), List.forall_mem_cons.mpr ⟨(tw_2 (i := 74) rfl rfl), List.forall_mem_cons.mpr ⟨(tw_2 (i := 76) rfl rfl), List.forall_mem_cons.mpr ⟨(tw_2 (i := 78) rfl rfl), List.forall_mem_cons.mpr ⟨(tw_2 (i := 80) rfl rfl), List.forall_mem_cons.mpr ⟨(tw_2 (i := 82) rfl rfl), List.forall_mem_cons.mpr ⟨(tw_2 (i := 84) rfl rfl), List.forall_mem_cons.mpr ⟨(tw_2 (i := 86) rfl rfl), fun _ h => absurd h List.not_mem_nil⟩⟩⟩⟩⟩⟩⟩⟩
theorem cP_5 : ∀ j, j < 8 → parseFieldDescriptor (cT_5 j).2.2.1 = some (cY_5 j) := by decide +kernel
theorem cN_5 : ∀ a, a < 8 → ∀ b, b < 8 → a ≠ b → (cT_5 a).2.1 ≠ (cT_5 b).2.1 := by decide +kernel
def cF_6 : List (String × String × String × Bool) := [("PhaseReader$Preprocessor", "expander", "LPhaseReader$Expander;", true), ("PhaseReader$Preprocessor", "scanner", "LPhaseReader$Scanner;", true), ("PhaseReader$Preprocessor", "sources", "[LPhaseReader$Source;", true), ("PhaseReader$Preprocessor", "level", "I", false), ("PhaseReader$Preprocessor", "includes", "I", false)]
def cT_6 : u_T := fun k => cF_6.getD k ("", "", "", false)
def cY_6 : Nat → FieldType := fun k => ([(.object "PhaseReader$Expander"), (.object "PhaseReader$Scanner"), (.array (.object "PhaseReader$Source")), .int, .int] : List FieldType).getD k .int
theorem cU_6 : ∀ w ∈ u_ws "PhaseReader$Preprocessor" cT_6 5, w ∈ x_w := by
  show ∀ w ∈ ([Jvm.Cond.laysFinal "PhaseReader$Preprocessor" "PhaseReader$Preprocessor" "expander" "LPhaseReader$Expander;", Jvm.Cond.laysFinal "PhaseReader$Preprocessor" "PhaseReader$Preprocessor" "scanner" "LPhaseReader$Scanner;", Jvm.Cond.laysFinal "PhaseReader$Preprocessor" "PhaseReader$Preprocessor" "sources" "[LPhaseReader$Source;", Jvm.Cond.lays "PhaseReader$Preprocessor" "PhaseReader$Preprocessor" "level" "I", Jvm.Cond.lays "PhaseReader$Preprocessor" "PhaseReader$Preprocessor" "includes" "I"] : List Jvm.Cond), w ∈ x_w
  exact List.forall_mem_cons.mpr ⟨(tw_2 (i := 19) rfl rfl), List.forall_mem_cons.mpr ⟨(tw_2 (i := 21) rfl rfl), List.forall_mem_cons.mpr ⟨(tw_2 (i := 23) rfl rfl), List.forall_mem_cons.mpr ⟨(tw_2 (i := 25) rfl rfl), List.forall_mem_cons.mpr ⟨(tw_2 (i := 27) rfl rfl), fun _ h => absurd h List.not_mem_nil⟩⟩⟩⟩⟩
theorem cP_6 : ∀ j, j < 5 → parseFieldDescriptor (cT_6 j).2.2.1 = some (cY_6 j) := by decide +kernel
theorem cN_6 : ∀ a, a < 5 → ∀ b, b < 5 → a ≠ b → (cT_6 a).2.1 ≠ (cT_6 b).2.1 := by decide +kernel
def cF_7 : List (String × String × String × Bool) := [("PhaseReader$Scanner", "letters", "[C", true), ("PhaseReader$Scanner", "newlines", "[I", true), ("PhaseReader$Scanner", "size", "I", false)]
def cT_7 : u_T := fun k => cF_7.getD k ("", "", "", false)
def cY_7 : Nat → FieldType := fun k => ([(.array .char), (.array .int), .int] : List FieldType).getD k .int
theorem cU_7 : ∀ w ∈ u_ws "PhaseReader$Scanner" cT_7 3, w ∈ x_w := by
  show ∀ w ∈ ([Jvm.Cond.laysFinal "PhaseReader$Scanner" "PhaseReader$Scanner" "letters" "[C", Jvm.Cond.laysFinal "PhaseReader$Scanner" "PhaseReader$Scanner" "newlines" "[I", Jvm.Cond.lays "PhaseReader$Scanner" "PhaseReader$Scanner" "size" "I"] : List Jvm.Cond), w ∈ x_w
  exact List.forall_mem_cons.mpr ⟨(tw_1 (i := 188) rfl rfl), List.forall_mem_cons.mpr ⟨(tw_1 (i := 190) rfl rfl), List.forall_mem_cons.mpr ⟨(tw_1 (i := 192) rfl rfl), fun _ h => absurd h List.not_mem_nil⟩⟩⟩
theorem cP_7 : ∀ j, j < 3 → parseFieldDescriptor (cT_7 j).2.2.1 = some (cY_7 j) := by decide +kernel
theorem cN_7 : ∀ a, a < 3 → ∀ b, b < 3 → a ≠ b → (cT_7 a).2.1 ≠ (cT_7 b).2.1 := by decide +kernel
def cF_8 : List (String × String × String × Bool) := [("PhaseReader$Source", "file", "I", false), ("PhaseReader$Source", "isRead", "Z", false), ("PhaseReader$Source", "row", "LPhaseReader$TokenRow;", true), ("PhaseReader$Source", "line", "[I", true), ("PhaseReader$Source", "glued", "[Z", true), ("PhaseReader$Source", "taken", "[Z", true), ("PhaseReader$Source", "elseSeen", "[Z", true), ("PhaseReader$Source", "next", "I", false), ("PhaseReader$Source", "group", "I", false), ("PhaseReader$Source", "open", "I", false), ("PhaseReader$Source", "skipping", "Z", false), ("PhaseReader$Source", "wholes", "I", false)]
def cT_8 : u_T := fun k => cF_8.getD k ("", "", "", false)
def cY_8 : Nat → FieldType := fun k => ([.int, .boolean, (.object "PhaseReader$TokenRow"), (.array .int), (.array .boolean), (.array .boolean), (.array .boolean), .int, .int, .int, .boolean, .int] : List FieldType).getD k .int
theorem cU_8 : ∀ w ∈ u_ws "PhaseReader$Source" cT_8 12, w ∈ x_w := by
  show ∀ w ∈ ([Jvm.Cond.lays "PhaseReader$Source" "PhaseReader$Source" "file" "I", Jvm.Cond.lays "PhaseReader$Source" "PhaseReader$Source" "isRead" "Z", Jvm.Cond.laysFinal "PhaseReader$Source" "PhaseReader$Source" "row" "LPhaseReader$TokenRow;", Jvm.Cond.laysFinal "PhaseReader$Source" "PhaseReader$Source" "line" "[I", Jvm.Cond.laysFinal "PhaseReader$Source" "PhaseReader$Source" "glued" "[Z", Jvm.Cond.laysFinal "PhaseReader$Source" "PhaseReader$Source" "taken" "[Z", Jvm.Cond.laysFinal "PhaseReader$Source" "PhaseReader$Source" "elseSeen" "[Z", Jvm.Cond.lays "PhaseReader$Source" "PhaseReader$Source" "next" "I", Jvm.Cond.lays "PhaseReader$Source" "PhaseReader$Source" "group" "I", Jvm.Cond.lays "PhaseReader$Source" "PhaseReader$Source" "open" "I", Jvm.Cond.lays "PhaseReader$Source" "PhaseReader$Source" "skipping" "Z", Jvm.Cond.lays "PhaseReader$Source" "PhaseReader$Source" "wholes" "I"] : List Jvm.Cond), w ∈ x_w
  exact List.forall_mem_cons.mpr ⟨(tw_1 (i := 227) rfl rfl), List.forall_mem_cons.mpr ⟨(tw_1 (i := 229) rfl rfl), List.forall_mem_cons.mpr ⟨(tw_1 (i := 231) rfl rfl), List.forall_mem_cons.mpr ⟨(tw_1 (i := 233) rfl rfl), List.forall_mem_cons.mpr ⟨(tw_1 (i := 235) rfl rfl), List.forall_mem_cons.mpr ⟨(tw_1 (i := 237) rfl rfl), List.forall_mem_cons.mpr ⟨(tw_1 (i := 239) rfl rfl), List.forall_mem_cons.mpr ⟨(tw_2 (i := 1) rfl rfl), List.forall_mem_cons.mpr ⟨(tw_2 (i := 3) rfl rfl), List.forall_mem_cons.mpr ⟨(tw_2 (i := 5) rfl rfl), List.forall_mem_cons.mpr ⟨(tw_2 (i := 7) rfl rfl), List.forall_mem_cons.mpr ⟨(tw_2 (i := 9) rfl rfl), fun _ h => absurd h List.not_mem_nil⟩⟩⟩⟩⟩⟩⟩⟩⟩⟩⟩⟩
theorem cP_8 : ∀ j, j < 12 → parseFieldDescriptor (cT_8 j).2.2.1 = some (cY_8 j) := by decide +kernel
theorem cN_8 : ∀ a, a < 12 → ∀ b, b < 12 → a ≠ b → (cT_8 a).2.1 ≠ (cT_8 b).2.1 := by decide +kernel
def cF_9 : List (String × String × String × Bool) := [("PhaseReader$Text", "letters", "[C", true), ("PhaseReader$Text", "size", "I", false)]
def cT_9 : u_T := fun k => cF_9.getD k ("", "", "", false)
def cY_9 : Nat → FieldType := fun k => ([(.array .char), .int] : List FieldType).getD k .int
theorem cU_9 : ∀ w ∈ u_ws "PhaseReader$Text" cT_9 2, w ∈ x_w := by
  show ∀ w ∈ ([Jvm.Cond.laysFinal "PhaseReader$Text" "PhaseReader$Text" "letters" "[C", Jvm.Cond.lays "PhaseReader$Text" "PhaseReader$Text" "size" "I"] : List Jvm.Cond), w ∈ x_w
  exact List.forall_mem_cons.mpr ⟨(tw_2 (i := 99) rfl rfl), List.forall_mem_cons.mpr ⟨(tw_2 (i := 101) rfl rfl), fun _ h => absurd h List.not_mem_nil⟩⟩
theorem cP_9 : ∀ j, j < 2 → parseFieldDescriptor (cT_9 j).2.2.1 = some (cY_9 j) := by decide +kernel
theorem cN_9 : ∀ a, a < 2 → ∀ b, b < 2 → a ≠ b → (cT_9 a).2.1 ≠ (cT_9 b).2.1 := by decide +kernel
def cF_10 : List (String × String × String × Bool) := [("PhaseReader$TokenRow", "text", "[J", true), ("PhaseReader$TokenRow", "origin", "[I", true), ("PhaseReader$TokenRow", "size", "I", false)]
def cT_10 : u_T := fun k => cF_10.getD k ("", "", "", false)
def cY_10 : Nat → FieldType := fun k => ([(.array .long), (.array .int), .int] : List FieldType).getD k .int
theorem cU_10 : ∀ w ∈ u_ws "PhaseReader$TokenRow" cT_10 3, w ∈ x_w := by
  show ∀ w ∈ ([Jvm.Cond.laysFinal "PhaseReader$TokenRow" "PhaseReader$TokenRow" "text" "[J", Jvm.Cond.laysFinal "PhaseReader$TokenRow" "PhaseReader$TokenRow" "origin" "[I", Jvm.Cond.lays "PhaseReader$TokenRow" "PhaseReader$TokenRow" "size" "I"] : List Jvm.Cond), w ∈ x_w
  exact List.forall_mem_cons.mpr ⟨(tw_1 (i := 114) rfl rfl), List.forall_mem_cons.mpr ⟨(tw_1 (i := 116) rfl rfl), List.forall_mem_cons.mpr ⟨(tw_1 (i := 118) rfl rfl), fun _ h => absurd h List.not_mem_nil⟩⟩⟩
theorem cP_10 : ∀ j, j < 3 → parseFieldDescriptor (cT_10 j).2.2.1 = some (cY_10 j) := by decide +kernel
theorem cN_10 : ∀ a, a < 3 → ∀ b, b < 3 → a ≠ b → (cT_10 a).2.1 ≠ (cT_10 b).2.1 := by decide +kernel
def cF_11 : List (String × String × String × Bool) := [("PhaseReader$Tree", "kind", "[I", true), ("PhaseReader$Tree", "token", "[I", true), ("PhaseReader$Tree", "children", "[I", true), ("PhaseReader$Tree", "size", "I", false)]
def cT_11 : u_T := fun k => cF_11.getD k ("", "", "", false)
def cY_11 : Nat → FieldType := fun k => ([(.array .int), (.array .int), (.array .int), .int] : List FieldType).getD k .int
theorem cU_11 : ∀ w ∈ u_ws "PhaseReader$Tree" cT_11 4, w ∈ x_w := by
  show ∀ w ∈ ([Jvm.Cond.laysFinal "PhaseReader$Tree" "PhaseReader$Tree" "kind" "[I", Jvm.Cond.laysFinal "PhaseReader$Tree" "PhaseReader$Tree" "token" "[I", Jvm.Cond.laysFinal "PhaseReader$Tree" "PhaseReader$Tree" "children" "[I", Jvm.Cond.lays "PhaseReader$Tree" "PhaseReader$Tree" "size" "I"] : List Jvm.Cond), w ∈ x_w
  exact List.forall_mem_cons.mpr ⟨(tw_2 (i := 54) rfl rfl), List.forall_mem_cons.mpr ⟨(tw_2 (i := 56) rfl rfl), List.forall_mem_cons.mpr ⟨(tw_2 (i := 58) rfl rfl), List.forall_mem_cons.mpr ⟨(tw_2 (i := 60) rfl rfl), fun _ h => absurd h List.not_mem_nil⟩⟩⟩⟩
theorem cP_11 : ∀ j, j < 4 → parseFieldDescriptor (cT_11 j).2.2.1 = some (cY_11 j) := by decide +kernel
theorem cN_11 : ∀ a, a < 4 → ∀ b, b < 4 → a ≠ b → (cT_11 a).2.1 ≠ (cT_11 b).2.1 := by decide +kernel
def cF_12 : List (String × String × String × Bool) := [("PhaseReaderModel", "text", "[I", true), ("PhaseReaderModel", "size", "[I", true), ("PhaseReaderModel", "chosen", "I", false), ("PhaseReaderModel", "chars", "[I", true), ("PhaseReaderModel", "written", "[I", true), ("PhaseReaderModel", "count", "I", false), ("PhaseReaderModel", "word", "[J", true), ("PhaseReaderModel", "where", "[I", true), ("PhaseReaderModel", "line", "[I", true), ("PhaseReaderModel", "first", "[I", true), ("PhaseReaderModel", "ends", "[I", true), ("PhaseReaderModel", "open", "[I", true), ("PhaseReaderModel", "level", "I", false), ("PhaseReaderModel", "includes", "I", false), ("PhaseReaderModel", "skip", "[Z", true), ("PhaseReaderModel", "other", "[Z", true), ("PhaseReaderModel", "conditions", "I", false), ("PhaseReaderModel", "deep", "I", false), ("PhaseReaderModel", "macro", "[J", true), ("PhaseReaderModel", "takes", "[I", true), ("PhaseReaderModel", "parameter", "[J", true), ("PhaseReaderModel", "body", "[J", true), ("PhaseReaderModel", "length", "[I", true), ("PhaseReaderModel", "replaced", "I", false), ("PhaseReaderModel", "group", "[J", true), ("PhaseReaderModel", "groupAt", "[I", true), ("PhaseReaderModel", "grouped", "I", false), ("PhaseReaderModel", "come", "[J", true), ("PhaseReaderModel", "comeAt", "[I", true), ("PhaseReaderModel", "coming", "I", false), ("PhaseReaderModel", "gone", "[J", true), ("PhaseReaderModel", "goneAt", "[I", true), ("PhaseReaderModel", "going", "I", false), ("PhaseReaderModel", "raw", "[J", true), ("PhaseReaderModel", "rawAt", "[I", true), ("PhaseReaderModel", "raws", "I", false), ("PhaseReaderModel", "made", "[J", true), ("PhaseReaderModel", "madeAt", "[I", true), ("PhaseReaderModel", "bottom", "[I", true), ("PhaseReaderModel", "outset", "[I", true), ("PhaseReaderModel", "name", "[I", true), ("PhaseReaderModel", "from", "[I", true), ("PhaseReaderModel", "close", "[I", true), ("PhaseReaderModel", "argument", "[I", true), ("PhaseReaderModel", "rawFrom", "[I", true), ("PhaseReaderModel", "goneFrom", "[I", true), ("PhaseReaderModel", "inner", "I", false), ("PhaseReaderModel", "out", "[J", true), ("PhaseReaderModel", "outAt", "[I", true), ("PhaseReaderModel", "outs", "I", false), ("PhaseReaderModel", "verdict", "I", false), ("PhaseReaderModel", "match", "[I", true), ("PhaseReaderModel", "stack", "[I", true), ("PhaseReaderModel", "sort", "[I", true), ("PhaseReaderModel", "token", "[I", true), ("PhaseReaderModel", "kids", "[I", true), ("PhaseReaderModel", "nodes", "I", false), ("PhaseReaderModel", "declared", "[J", true), ("PhaseReaderModel", "starts", "[I", true), ("PhaseReaderModel", "block", "[I", true), ("PhaseReaderModel", "isType", "[Z", true), ("PhaseReaderModel", "declarations", "I", false), ("PhaseReaderModel", "task", "[I", true), ("PhaseReaderModel", "left", "[I", true), ("PhaseReaderModel", "right", "[I", true), ("PhaseReaderModel", "above", "[I", true), ("PhaseReaderModel", "within", "[I", true), ("PhaseReaderModel", "tasks", "I", false), ("PhaseReaderModel", "starFrom", "[I", true), ("PhaseReaderModel", "starTo", "[I", true), ("PhaseReaderModel", "tailFrom", "[I", true), ("PhaseReaderModel", "tailTo", "[I", true)]
def cT_12 : u_T := fun k => cF_12.getD k ("", "", "", false)
def cY_12 : Nat → FieldType := fun k => ([(.array .int), (.array .int), .int, (.array .int), (.array .int), .int, (.array .long), (.array .int), (.array .int), (.array .int), (.array .int), (.array .int), .int, .int, (.array .boolean), (.array .boolean), .int, .int, (.array .long), (.array .int), (.array .long), (.array .long), (.array .int), .int, (.array .long), (.array .int), .int, (.array .long), (.array .int), .int, (.array .long), (.array .int), .int, (.array .long), (.array .int), .int, (.array .long), (.array .int), (.array .int), (.array .int), (.array .int), (.array .int), (.array .int), (.array .int), (.array .int), (.array .int), .int, (.array .long), (.array .int), .int, .int, (.array .int), (.array .int), (.array .int), (.array .int), (.array .int), .int, (.array .long), (.array .int), (.array .int), (.array .boolean), .int, (.array .int), (.array .int), (.array .int), (.array .int), (.array .int), .int, (.array .int), (.array .int), (.array .int), (.array .int)] : List FieldType).getD k .int
theorem cU_12 : ∀ w ∈ u_ws "PhaseReaderModel" cT_12 72, w ∈ x_w := by
  show ∀ w ∈ ([Jvm.Cond.laysFinal "PhaseReaderModel" "PhaseReaderModel" "text" "[I", Jvm.Cond.laysFinal "PhaseReaderModel" "PhaseReaderModel" "size" "[I", Jvm.Cond.lays "PhaseReaderModel" "PhaseReaderModel" "chosen" "I", Jvm.Cond.laysFinal "PhaseReaderModel" "PhaseReaderModel" "chars" "[I", Jvm.Cond.laysFinal "PhaseReaderModel" "PhaseReaderModel" "written" "[I", Jvm.Cond.lays "PhaseReaderModel" "PhaseReaderModel" "count" "I", Jvm.Cond.laysFinal "PhaseReaderModel" "PhaseReaderModel" "word" "[J", Jvm.Cond.laysFinal "PhaseReaderModel" "PhaseReaderModel" "where" "[I", Jvm.Cond.laysFinal "PhaseReaderModel" "PhaseReaderModel" "line" "[I", Jvm.Cond.laysFinal "PhaseReaderModel" "PhaseReaderModel" "first" "[I", Jvm.Cond.laysFinal "PhaseReaderModel" "PhaseReaderModel" "ends" "[I", Jvm.Cond.laysFinal "PhaseReaderModel" "PhaseReaderModel" "open" "[I", Jvm.Cond.lays "PhaseReaderModel" "PhaseReaderModel" "level" "I", Jvm.Cond.lays "PhaseReaderModel" "PhaseReaderModel" "includes" "I", Jvm.Cond.laysFinal "PhaseReaderModel" "PhaseReaderModel" "skip" "[Z", Jvm.Cond.laysFinal "PhaseReaderModel" "PhaseReaderModel" "other" "[Z", Jvm.Cond.lays "PhaseReaderModel" "PhaseReaderModel" "conditions" "I", Jvm.Cond.lays "PhaseReaderModel" "PhaseReaderModel" "deep" "I", Jvm.Cond.laysFinal "PhaseReaderModel" "PhaseReaderModel" "macro" "[J", Jvm.Cond.laysFinal "PhaseReaderModel" "PhaseReaderModel" "takes" "[I", Jvm.Cond.laysFinal "PhaseReaderModel" "PhaseReaderModel" "parameter" "[J", Jvm.Cond.laysFinal "PhaseReaderModel" "PhaseReaderModel" "body" "[J", Jvm.Cond.laysFinal "PhaseReaderModel" "PhaseReaderModel" "length" "[I", Jvm.Cond.lays "PhaseReaderModel" "PhaseReaderModel" "replaced" "I", Jvm.Cond.laysFinal "PhaseReaderModel" "PhaseReaderModel" "group" "[J", Jvm.Cond.laysFinal "PhaseReaderModel" "PhaseReaderModel" "groupAt" "[I", Jvm.Cond.lays "PhaseReaderModel" "PhaseReaderModel" "grouped" "I", Jvm.Cond.laysFinal "PhaseReaderModel" "PhaseReaderModel" "come" "[J", Jvm.Cond.laysFinal "PhaseReaderModel" "PhaseReaderModel" "comeAt" "[I", Jvm.Cond.lays "PhaseReaderModel" "PhaseReaderModel" "coming" "I", Jvm.Cond.laysFinal "PhaseReaderModel" "PhaseReaderModel" "gone" "[J", Jvm.Cond.laysFinal "PhaseReaderModel" "PhaseReaderModel" "goneAt" "[I", Jvm.Cond.lays "PhaseReaderModel" "PhaseReaderModel" "going" "I", Jvm.Cond.laysFinal "PhaseReaderModel" "PhaseReaderModel" "raw" "[J", Jvm.Cond.laysFinal "PhaseReaderModel" "PhaseReaderModel" "rawAt" "[I", Jvm.Cond.lays "PhaseReaderModel" "PhaseReaderModel" "raws" "I", Jvm.Cond.laysFinal "PhaseReaderModel" "PhaseReaderModel" "made" "[J", Jvm.Cond.laysFinal "PhaseReaderModel" "PhaseReaderModel" "madeAt" "[I", Jvm.Cond.laysFinal "PhaseReaderModel" "PhaseReaderModel" "bottom" "[I", Jvm.Cond.laysFinal "PhaseReaderModel" "PhaseReaderModel" "outset" "[I", Jvm.Cond.laysFinal "PhaseReaderModel" "PhaseReaderModel" "name" "[I", Jvm.Cond.laysFinal "PhaseReaderModel" "PhaseReaderModel" "from" "[I", Jvm.Cond.laysFinal "PhaseReaderModel" "PhaseReaderModel" "close" "[I", Jvm.Cond.laysFinal "PhaseReaderModel" "PhaseReaderModel" "argument" "[I", Jvm.Cond.laysFinal "PhaseReaderModel" "PhaseReaderModel" "rawFrom" "[I", Jvm.Cond.laysFinal "PhaseReaderModel" "PhaseReaderModel" "goneFrom" "[I", Jvm.Cond.lays "PhaseReaderModel" "PhaseReaderModel" "inner" "I", Jvm.Cond.laysFinal "PhaseReaderModel" "PhaseReaderModel" "out" "[J", Jvm.Cond.laysFinal "PhaseReaderModel" "PhaseReaderModel" "outAt" "[I", Jvm.Cond.lays "PhaseReaderModel" "PhaseReaderModel" "outs" "I", Jvm.Cond.lays "PhaseReaderModel" "PhaseReaderModel" "verdict" "I", Jvm.Cond.laysFinal "PhaseReaderModel" "PhaseReaderModel" "match" "[I", Jvm.Cond.laysFinal "PhaseReaderModel" "PhaseReaderModel" "stack" "[I", Jvm.Cond.laysFinal "PhaseReaderModel" "PhaseReaderModel" "sort" "[I", Jvm.Cond.laysFinal "PhaseReaderModel" "PhaseReaderModel" "token" "[I", Jvm.Cond.laysFinal "PhaseReaderModel" "PhaseReaderModel" "kids" "[I", Jvm.Cond.lays "PhaseReaderModel" "PhaseReaderModel" "nodes" "I", Jvm.Cond.laysFinal "PhaseReaderModel" "PhaseReaderModel" "declared" "[J", Jvm.Cond.laysFinal "PhaseReaderModel" "PhaseReaderModel" "starts" "[I", Jvm.Cond.laysFinal "PhaseReaderModel" "PhaseReaderModel" "block" "[I", Jvm.Cond.laysFinal "PhaseReaderModel" "PhaseReaderModel" "isType" "[Z", Jvm.Cond.lays "PhaseReaderModel" "PhaseReaderModel" "declarations" "I", Jvm.Cond.laysFinal "PhaseReaderModel" "PhaseReaderModel" "task" "[I", Jvm.Cond.laysFinal "PhaseReaderModel" "PhaseReaderModel" "left" "[I", Jvm.Cond.laysFinal "PhaseReaderModel" "PhaseReaderModel" "right" "[I", Jvm.Cond.laysFinal "PhaseReaderModel" "PhaseReaderModel" "above" "[I", Jvm.Cond.laysFinal "PhaseReaderModel" "PhaseReaderModel" "within" "[I", Jvm.Cond.lays "PhaseReaderModel" "PhaseReaderModel" "tasks" "I", Jvm.Cond.laysFinal "PhaseReaderModel" "PhaseReaderModel" "starFrom" "[I", Jvm.Cond.laysFinal "PhaseReaderModel" "PhaseReaderModel" "starTo" "[I", Jvm.Cond.laysFinal "PhaseReaderModel" "PhaseReaderModel" "tailFrom" "[I", Jvm.Cond.laysFinal "PhaseReaderModel" "PhaseReaderModel" "tailTo" "[I"] : List Jvm.Cond), w ∈ x_w
  exact List.forall_mem_cons.mpr ⟨(tw_5 (i := 36) rfl rfl), List.forall_mem_cons.mpr ⟨(tw_5 (i := 38) rfl rfl), List.forall_mem_cons.mpr ⟨(tw_5 (i := 40) rfl rfl), List.forall_mem_cons.mpr ⟨(tw_5 (i := 42) rfl rfl), List.forall_mem_cons.mpr ⟨(tw_5 (i := 44) rfl rfl), List.forall_mem_cons.mpr ⟨(tw_5 (i := 46) rfl rfl), List.forall_mem_cons.mpr ⟨(tw_5 (i := 48) rfl rfl), List.forall_mem_cons.mpr ⟨(tw_5 (i := 50) rfl rfl), List.forall_mem_cons.mpr ⟨(tw_5 (i := 52) rfl rfl), List.forall_mem_cons.mpr ⟨(tw_5 (i := 54) rfl rfl), List.forall_mem_cons.mpr ⟨(tw_5 (i := 56) rfl rfl), List.forall_mem_cons.mpr ⟨(tw_5 (i := 58) rfl rfl), List.forall_mem_cons.mpr ⟨(tw_5 (i := 60) rfl rfl), List.forall_mem_cons.mpr ⟨(tw_5 (i := 62) rfl rfl), List.forall_mem_cons.mpr ⟨(tw_5 (i := 64) rfl rfl), List.forall_mem_cons.mpr ⟨(tw_5 (i := 66) rfl rfl), List.forall_mem_cons.mpr ⟨(tw_5 (i := 68) rfl rfl), List.forall_mem_cons.mpr ⟨(tw_5 (i := 70) rfl rfl), List.forall_mem_cons.mpr ⟨(tw_5 (i := 72) rfl rfl), List.forall_mem_cons.mpr ⟨(tw_5 (i := 74) rfl rfl), List.forall_mem_cons.mpr ⟨(tw_5 (i := 76) rfl rfl), List.forall_mem_cons.mpr ⟨(tw_5 (i := 78) rfl rfl), List.forall_mem_cons.mpr ⟨(tw_5 (i := 80) rfl rfl), List.forall_mem_cons.mpr ⟨(tw_5 (i := 82) rfl rfl), List.forall_mem_cons.mpr ⟨(tw_5 (i := 84) rfl rfl), List.forall_mem_cons.mpr ⟨(tw_5 (i := 86) rfl rfl), List.forall_mem_cons.mpr ⟨(tw_5 (i := 88) rfl rfl), List.forall_mem_cons.mpr ⟨(tw_5 (i := 90) rfl rfl), List.forall_mem_cons.mpr ⟨(tw_5 (i := 92) rfl rfl), List.forall_mem_cons.mpr ⟨(tw_5 (i := 94) rfl rfl), List.forall_mem_cons.mpr ⟨(tw_5 (i := 96) rfl rfl), List.forall_mem_cons.mpr ⟨(tw_5 (i := 98) rfl rfl), List.forall_mem_cons.mpr ⟨(tw_5 (i := 100) rfl rfl), List.forall_mem_cons.mpr ⟨(tw_5 (i := 102) rfl rfl), List.forall_mem_cons.mpr ⟨(tw_5 (i := 104) rfl rfl), List.forall_mem_cons.mpr ⟨(tw_5 (i := 106) rfl rfl), List.forall_mem_cons.mpr ⟨(tw_5 (i := 108) rfl rfl), List.forall_mem_cons.mpr ⟨(tw_5 (i := 110) rfl rfl), List.forall_mem_cons.mpr ⟨(tw_5 (i := 112) rfl rfl), List.forall_mem_cons.mpr ⟨(tw_5 (i := 114) rfl rfl), List.forall_mem_cons.mpr ⟨(tw_5 (i := 116) rfl rfl), List.forall_mem_cons.mpr ⟨(tw_5 (i := 118) rfl rfl), List.forall_mem_cons.mpr ⟨(tw_5 (i := 120) rfl rfl), List.forall_mem_cons.mpr ⟨(tw_5 (i := 122) rfl rfl), List.forall_mem_cons.mpr ⟨(tw_5 (i := 124) rfl rfl), List.forall_mem_cons.mpr ⟨(tw_5 (i := 126) rfl rfl), List.forall_mem_cons.mpr ⟨(tw_5 (i := 128) rfl rfl), List.forall_mem_cons.mpr ⟨(tw_5 (i := 130) rfl rfl), List.forall_mem_cons.mpr ⟨(tw_5 (i := 132) rfl rfl), List.forall_mem_cons.mpr ⟨(tw_5 (i := 134) rfl rfl), List.forall_mem_cons.mpr ⟨(tw_5 (i := 136) rfl rfl), List.forall_mem_cons.mpr ⟨(tw_5 (i := 138) rfl rfl), List.forall_mem_cons.mpr ⟨(tw_5 (i := 140) rfl rfl), List.forall_mem_cons.mpr ⟨(tw_5 (i := 142) rfl rfl), List.forall_mem_cons.mpr ⟨(tw_5 (i := 144) rfl rfl), List.forall_mem_cons.mpr ⟨(tw_5 (i := 146) rfl rfl), List.forall_mem_cons.mpr ⟨(tw_5 (i := 148) rfl rfl), List.forall_mem_cons.mpr ⟨(tw_5 (i := 150) rfl rfl), List.forall_mem_cons.mpr ⟨(tw_5 (i := 152) rfl rfl), List.forall_mem_cons.mpr ⟨(tw_5 (i := 154) rfl rfl), List.forall_mem_cons.mpr ⟨(tw_5 (i := 156) rfl rfl), List.forall_mem_cons.mpr ⟨(tw_5 (i := 158) rfl rfl), List.forall_mem_cons.mpr ⟨(tw_5 (i := 160) rfl rfl), List.forall_mem_cons.mpr ⟨(tw_5 (i := 162) rfl rfl), List.forall_mem_cons.mpr ⟨(tw_5 (i := 164) rfl rfl), List.forall_mem_cons.mpr ⟨(tw_5 (i := 166) rfl rfl), List.forall_mem_cons.mpr ⟨(tw_5 (i := 168) rfl rfl), List.forall_mem_cons.mpr ⟨(tw_5 (i := 170) rfl rfl), List.forall_mem_cons.mpr ⟨(tw_5 (i := 172) rfl rfl), List.forall_mem_cons.mpr ⟨(tw_5 (i := 174) rfl rfl), List.forall_mem_cons.mpr ⟨(tw_5 (i := 176) rfl rfl), List.forall_mem_cons.mpr ⟨(tw_5 (i := 178) rfl rfl), fun _ h => absurd h List.not_mem_nil⟩⟩⟩⟩⟩⟩⟩⟩⟩⟩⟩⟩⟩⟩⟩⟩⟩⟩⟩⟩⟩⟩⟩⟩⟩⟩⟩⟩⟩⟩⟩⟩⟩⟩⟩⟩⟩⟩⟩⟩⟩⟩⟩⟩⟩⟩⟩⟩⟩⟩⟩⟩⟩⟩⟩⟩⟩⟩⟩⟩⟩⟩⟩⟩⟩⟩⟩⟩⟩⟩⟩⟩
theorem cP_12 : ∀ j, j < 72 → parseFieldDescriptor (cT_12 j).2.2.1 = some (cY_12 j) := by decide +kernel
theorem cN_12 : ∀ a, a < 72 → ∀ b, b < 72 → a ≠ b → (cT_12 a).2.1 ≠ (cT_12 b).2.1 := by decide +kernel
def x_cl : List vw_C := [("PhaseReader", cT_0, 5), ("PhaseReader$Arguments", cT_1, 6), ("PhaseReader$Expander", cT_2, 7), ("PhaseReader$Macro", cT_3, 6), ("PhaseReader$MacroTable", cT_4, 2), ("PhaseReader$Parser", cT_5, 8), ("PhaseReader$Preprocessor", cT_6, 5), ("PhaseReader$Scanner", cT_7, 3), ("PhaseReader$Source", cT_8, 12), ("PhaseReader$Text", cT_9, 2), ("PhaseReader$TokenRow", cT_10, 3), ("PhaseReader$Tree", cT_11, 4), ("PhaseReaderModel", cT_12, 72)]
def x_cn : List String := ["PhaseReader", "PhaseReader$Arguments", "PhaseReader$Expander", "PhaseReader$Macro", "PhaseReader$MacroTable", "PhaseReader$Parser", "PhaseReader$Preprocessor", "PhaseReader$Scanner", "PhaseReader$Source", "PhaseReader$Text", "PhaseReader$TokenRow", "PhaseReader$Tree", "PhaseReaderModel", "PhaseReaderLaw", "java/lang/String", "java/lang/StringLatin1", "jdk/internal/util/Preconditions"]
theorem s_clA : ∀ q ∈ x_cl, (∀ w ∈ u_ws q.1 q.2.1 q.2.2, w ∈ x_w) ∧ Jvm.Cond.instantiable q.1 q.2.2 ∈ x_w := List.forall_mem_cons.mpr ⟨⟨cU_0, (tw_1 (i := 22) rfl rfl)⟩, List.forall_mem_cons.mpr ⟨⟨cU_1, (tw_1 (i := 124) rfl rfl)⟩, List.forall_mem_cons.mpr ⟨⟨cU_2, (tw_1 (i := 38) rfl rfl)⟩, List.forall_mem_cons.mpr ⟨⟨cU_3, (tw_1 (i := 51) rfl rfl)⟩, List.forall_mem_cons.mpr ⟨⟨cU_4, (tw_1 (i := 44) rfl rfl)⟩, List.forall_mem_cons.mpr ⟨⟨cU_5, (tw_2 (i := 31) rfl rfl)⟩, List.forall_mem_cons.mpr ⟨⟨cU_6, (tw_1 (i := 32) rfl rfl)⟩, List.forall_mem_cons.mpr ⟨⟨cU_7, (tw_1 (i := 180) rfl rfl)⟩, List.forall_mem_cons.mpr ⟨⟨cU_8, (tw_1 (i := 198) rfl rfl)⟩, List.forall_mem_cons.mpr ⟨⟨cU_9, (tw_2 (i := 89) rfl rfl)⟩, List.forall_mem_cons.mpr ⟨⟨cU_10, (tw_1 (i := 95) rfl rfl)⟩, List.forall_mem_cons.mpr ⟨⟨cU_11, (tw_2 (i := 37) rfl rfl)⟩, List.forall_mem_cons.mpr ⟨⟨cU_12, (tw_4 (i := 199) rfl rfl)⟩, fun _ h => absurd h List.not_mem_nil⟩⟩⟩⟩⟩⟩⟩⟩⟩⟩⟩⟩⟩
theorem s_cl {c : Nat} {q : vw_C} (h : x_cl[c]? = some q) : (∀ w ∈ u_ws q.1 q.2.1 q.2.2, w ∈ x_w) ∧ Jvm.Cond.instantiable q.1 q.2.2 ∈ x_w := s_clA q (List.mem_of_getElem? h)
def x_ty : List FieldType := [.int, .long, .char, .boolean, .byte, .object "PhaseReader$Arguments", .object "PhaseReader$Macro", .object "PhaseReader$Source", .object "PhaseReader$Text"]
def x_aos : List String := ["PhaseReader$Arguments", "PhaseReader$Macro", "PhaseReader$Source", "PhaseReader$Text"]
theorem s_t0 : x_ty[0]? = some .int := rfl
theorem s_a0 : Jvm.Cond.arrayClass .int ∈ x_w := (tw_1 (i := 121) rfl rfl)
theorem s_t1 : x_ty[1]? = some .long := rfl
theorem s_a1 : Jvm.Cond.arrayClass .long ∈ x_w := (tw_1 (i := 83) rfl rfl)
theorem s_t2 : x_ty[2]? = some .char := rfl
theorem s_a2 : Jvm.Cond.arrayClass .char ∈ x_w := (tw_1 (i := 195) rfl rfl)
theorem s_t3 : x_ty[3]? = some .boolean := rfl
theorem s_a3 : Jvm.Cond.arrayClass .boolean ∈ x_w := (tw_2 (i := 12) rfl rfl)
theorem s_t4 : x_ty[4]? = some .byte := rfl
theorem s_a4 : Jvm.Cond.arrayClass .byte ∈ x_w := (tw_4 (i := 159) rfl rfl)
theorem s_tyA : ∀ ty ∈ x_ty, (Jvm.Cond.arrayClass ty ∈ x_w ∧ ∀ C, ty ≠ .object C) ∨ (∃ C, ty = .object C ∧ C ∈ x_aos) := List.forall_mem_cons.mpr ⟨Or.inl ⟨s_a0, fun _ h => by cases h⟩, List.forall_mem_cons.mpr ⟨Or.inl ⟨s_a1, fun _ h => by cases h⟩, List.forall_mem_cons.mpr ⟨Or.inl ⟨s_a2, fun _ h => by cases h⟩, List.forall_mem_cons.mpr ⟨Or.inl ⟨s_a3, fun _ h => by cases h⟩, List.forall_mem_cons.mpr ⟨Or.inl ⟨s_a4, fun _ h => by cases h⟩, List.forall_mem_cons.mpr ⟨Or.inr ⟨_, rfl, List.mem_of_getElem? (i := 0) rfl⟩, List.forall_mem_cons.mpr ⟨Or.inr ⟨_, rfl, List.mem_of_getElem? (i := 1) rfl⟩, List.forall_mem_cons.mpr ⟨Or.inr ⟨_, rfl, List.mem_of_getElem? (i := 2) rfl⟩, List.forall_mem_cons.mpr ⟨Or.inr ⟨_, rfl, List.mem_of_getElem? (i := 3) rfl⟩, fun _ h => absurd h List.not_mem_nil⟩⟩⟩⟩⟩⟩⟩⟩⟩
theorem s_tyw {t : Nat} {ty : FieldType} (h : x_ty[t]? = some ty) : (Jvm.Cond.arrayClass ty ∈ x_w ∧ ∀ C, ty ≠ .object C) ∨ (∃ C, ty = .object C ∧ C ∈ x_aos) := s_tyA ty (List.mem_of_getElem? h)
theorem s_ao : ∀ C ∈ x_aos, Jvm.Cond.arrayOver (.object C) ∈ lw_tbl := List.forall_mem_cons.mpr ⟨List.mem_append_right _ (tm_1 (List.mem_of_getElem? (i := 123) rfl)), List.forall_mem_cons.mpr ⟨List.mem_append_right _ (tm_1 (List.mem_of_getElem? (i := 50) rfl)), List.forall_mem_cons.mpr ⟨List.mem_append_right _ (tm_1 (List.mem_of_getElem? (i := 197) rfl)), List.forall_mem_cons.mpr ⟨List.mem_append_right _ (tm_1 (List.mem_of_getElem? (i := 30) rfl)), fun _ h => absurd h List.not_mem_nil⟩⟩⟩⟩
def x_cpL : List (Nat × Nat) := [(5, 1), (6, 3), (7, 8), (8, 9)]
def x_cp (t : Nat) : Option Nat := x_cpL.lookup t
theorem lk_mem {α β : Type} [BEq α] [LawfulBEq α] : ∀ {l : List (α × β)} {a : α} {b : β}, l.lookup a = some b → (a, b) ∈ l
  | [], _, _, h => by cases h
  | (c, e) :: l, a, b, h => by
    rw [List.lookup_cons] at h
    split at h
    · rename_i hq
      cases h
      rw [eq_of_beq hq]
      exact List.mem_cons_self
    · exact List.mem_cons_of_mem _ (lk_mem h)
theorem s_cpA : ∀ e ∈ x_cpL, ∃ r : vw_C, x_cl[e.2]? = some r ∧ x_ty[e.1]? = some (.object r.1) := List.forall_mem_cons.mpr ⟨⟨_, rfl, rfl⟩, List.forall_mem_cons.mpr ⟨⟨_, rfl, rfl⟩, List.forall_mem_cons.mpr ⟨⟨_, rfl, rfl⟩, List.forall_mem_cons.mpr ⟨⟨_, rfl, rfl⟩, fun _ h => absurd h List.not_mem_nil⟩⟩⟩⟩
theorem s_cp {t ci : Nat} (h : x_cp t = some ci) : ∃ r : vw_C, x_cl[ci]? = some r ∧ x_ty[t]? = some (.object r.1) := s_cpA (t, ci) (lk_mem h)
def x_nest : List Jvm.Cond := [Jvm.Cond.methodLinkNest "PhaseReader" 24 ⟨"PhaseReader$Parser", "<init>", "()V"⟩ "PhaseReader", Jvm.Cond.methodLinkNest "PhaseReader" 29 ⟨"PhaseReader$Text", "<init>", "()V"⟩ "PhaseReader", Jvm.Cond.methodLinkNest "PhaseReader$Expander" 46 ⟨"PhaseReader$Arguments", "<init>", "()V"⟩ "PhaseReader", Jvm.Cond.methodLinkNest "PhaseReader$MacroTable" 17 ⟨"PhaseReader$Macro", "<init>", "()V"⟩ "PhaseReader", Jvm.Cond.methodLinkNest "PhaseReader$Preprocessor" 22 ⟨"PhaseReader$Scanner", "<init>", "()V"⟩ "PhaseReader", Jvm.Cond.methodLinkNest "PhaseReader$Preprocessor" 33 ⟨"PhaseReader$Source", "<init>", "()V"⟩ "PhaseReader"]
theorem s_nest : ∀ w ∈ x_nest, (∃ a i x n d h, w = Jvm.Cond.fieldLinkNest a i x n d h) ∨ ∃ a i x h, w = Jvm.Cond.methodLinkNest a i x h := List.forall_mem_cons.mpr ⟨Or.inr ⟨_, _, _, _, rfl⟩, List.forall_mem_cons.mpr ⟨Or.inr ⟨_, _, _, _, rfl⟩, List.forall_mem_cons.mpr ⟨Or.inr ⟨_, _, _, _, rfl⟩, List.forall_mem_cons.mpr ⟨Or.inr ⟨_, _, _, _, rfl⟩, List.forall_mem_cons.mpr ⟨Or.inr ⟨_, _, _, _, rfl⟩, List.forall_mem_cons.mpr ⟨Or.inr ⟨_, _, _, _, rfl⟩, fun _ h => absurd h List.not_mem_nil⟩⟩⟩⟩⟩⟩
theorem s_nt : ∀ w ∈ x_nest, w ∈ lw_tbl := List.forall_mem_cons.mpr ⟨List.mem_append_right _ (tm_2 (List.mem_of_getElem? (i := 32) rfl)), List.forall_mem_cons.mpr ⟨List.mem_append_right _ (tm_2 (List.mem_of_getElem? (i := 90) rfl)), List.forall_mem_cons.mpr ⟨List.mem_append_right _ (tm_1 (List.mem_of_getElem? (i := 125) rfl)), List.forall_mem_cons.mpr ⟨List.mem_append_right _ (tm_1 (List.mem_of_getElem? (i := 52) rfl)), List.forall_mem_cons.mpr ⟨List.mem_append_right _ (tm_1 (List.mem_of_getElem? (i := 181) rfl)), List.forall_mem_cons.mpr ⟨List.mem_append_right _ (tm_1 (List.mem_of_getElem? (i := 199) rfl)), fun _ h => absurd h List.not_mem_nil⟩⟩⟩⟩⟩⟩
def x_sn : Nat := 15
def x_sl : List Nat := [9, 9, 17, 5, 5, 6, 4, 6, 7, 5, 3, 4, 7, 6, 2]
def x_sb : List (List Int32) := [[61, 47, 39, 40, 41, 33, 60, 62, 45], [35, 92, 94, 91, 93, 124, 123, 125, 126], [40, 41, 91, 93, 123, 125, 59, 44, 61, 43, 45, 42, 47, 38, 60, 62, 35], [101, 110, 100, 105, 102], [105, 102, 100, 101, 102], [105, 102, 110, 100, 101, 102], [101, 108, 115, 101], [100, 101, 102, 105, 110, 101], [105, 110, 99, 108, 117, 100, 101], [117, 110, 100, 101, 102], [105, 110, 116], [99, 104, 97, 114], [116, 121, 112, 101, 100, 101, 102], [114, 101, 116, 117, 114, 110], [61, 61]]
def x_sr : List (String × Nat × String × Nat) := [("PhaseReader$Scanner", 56, "=/'()!<>-", 0), ("PhaseReader$Scanner", 48, "#\\^[]|{}~", 1), ("PhaseReader$Scanner", 87, "()[]{};,=+-*/&<>#", 2), ("PhaseReader$Source", 72, "endif", 3), ("PhaseReader$Source", 78, "ifdef", 4), ("PhaseReader$Source", 80, "ifndef", 5), ("PhaseReader$Source", 82, "else", 6), ("PhaseReader$Preprocessor", 108, "define", 7), ("PhaseReader$Preprocessor", 116, "include", 8), ("PhaseReader$Preprocessor", 120, "else", 6), ("PhaseReader$Preprocessor", 126, "endif", 3), ("PhaseReader$Preprocessor", 139, "undef", 9), ("PhaseReader$Preprocessor", 155, "ifdef", 4), ("PhaseReader$Preprocessor", 161, "ifndef", 5), ("PhaseReader$Parser", 81, "int", 10), ("PhaseReader$Parser", 87, "char", 11), ("PhaseReader$Parser", 89, "typedef", 12), ("PhaseReader$Parser", 91, "return", 13), ("PhaseReader$Parser", 195, "==", 14)]
theorem s_sr : ∀ e ∈ x_sr, Jvm.Cond.stringRef e.1 e.2.1 e.2.2.1 ∈ lw_tbl := List.forall_mem_cons.mpr ⟨List.mem_append_right _ (tm_2 (List.mem_of_getElem? (i := 170) rfl)), List.forall_mem_cons.mpr ⟨List.mem_append_right _ (tm_3 (List.mem_of_getElem? (i := 17) rfl)), List.forall_mem_cons.mpr ⟨List.mem_append_right _ (tm_3 (List.mem_of_getElem? (i := 62) rfl)), List.forall_mem_cons.mpr ⟨List.mem_append_right _ (tm_3 (List.mem_of_getElem? (i := 91) rfl)), List.forall_mem_cons.mpr ⟨List.mem_append_right _ (tm_3 (List.mem_of_getElem? (i := 97) rfl)), List.forall_mem_cons.mpr ⟨List.mem_append_right _ (tm_3 (List.mem_of_getElem? (i := 98) rfl)), List.forall_mem_cons.mpr ⟨List.mem_append_right _ (tm_3 (List.mem_of_getElem? (i := 99) rfl)), List.forall_mem_cons.mpr ⟨List.mem_append_right _ (tm_3 (List.mem_of_getElem? (i := 188) rfl)), List.forall_mem_cons.mpr ⟨List.mem_append_right _ (tm_3 (List.mem_of_getElem? (i := 222) rfl)), List.forall_mem_cons.mpr ⟨List.mem_append_right _ (tm_3 (List.mem_of_getElem? (i := 231) rfl)), List.forall_mem_cons.mpr ⟨List.mem_append_right _ (tm_3 (List.mem_of_getElem? (i := 236) rfl)), List.forall_mem_cons.mpr ⟨List.mem_append_right _ (tm_4 (List.mem_of_getElem? (i := 5) rfl)), List.forall_mem_cons.mpr ⟨List.mem_append_right _ (tm_4 (List.mem_of_getElem? (i := 11) rfl)), List.forall_mem_cons.mpr ⟨List.mem_append_right _ (tm_4 (List.mem_of_getElem? (i := 16) rfl)), List.forall_mem_cons.mpr ⟨List.mem_append_right _ (tm_4 (List.mem_of_getElem? (i := 37) rfl)), List.forall_mem_cons.mpr ⟨List.mem_append_right _ (tm_4 (List.mem_of_getElem? (i := 39) rfl)), List.forall_mem_cons.mpr ⟨List.mem_append_right _ (tm_4 (List.mem_of_getElem? (i := 40) rfl)), List.forall_mem_cons.mpr ⟨List.mem_append_right _ (tm_4 (List.mem_of_getElem? (i := 41) rfl)), List.forall_mem_cons.mpr ⟨List.mem_append_right _ (tm_4 (List.mem_of_getElem? (i := 157) rfl)), fun _ h => absurd h List.not_mem_nil⟩⟩⟩⟩⟩⟩⟩⟩⟩⟩⟩⟩⟩⟩⟩⟩⟩⟩⟩
end
section
def x_len : Instr → Nat
  | .bipush _ | .iload _ | .lload _ | .aload _ | .istore _ | .lstore _ | .astore _ | .ldc _ | .newarray _ => 2
  | .sipush _ | .getfield _ | .putfield _ | .goto _ | .ifCond _ _ | .if_icmp _ _ | .iinc _ _ | .ldc2_w _ | .invokevirtual _ | .invokestatic _ | .invokespecial _ | .new _ | .anewarray _ | .ldc_w _ | .getstatic _ | .ifnull _ | .ifnonnull _ | .if_acmp _ _ => 3
  | _ => 1
def x_sw : Instr → Bool
  | .tableswitch _ _ _ _ => true
  | _ => false
def x_dok (b : ByteArray) (pc : Nat) (i : Instr) : Bool := match decode b pc with
  | .ok (j, len) => decide (j = i) && (x_sw i || len == x_len i)
  | .error _ => false
def x_chk (l : List (Option Instr)) (b : ByteArray) : Bool := (List.range l.length).all (fun pc => match l[pc]? with
  | some (some i) => x_dok b pc i
  | _ => true)
theorem x_dok_ok {b : ByteArray} {pc : Nat} {i : Instr} (h : x_dok b pc i = true) : ∃ len, decode b pc = .ok (i, len) ∧ (x_sw i = false → len = x_len i) := by
  unfold x_dok at h
  split at h
  · rename_i j len hd
    simp only [Bool.and_eq_true, decide_eq_true_eq, Bool.or_eq_true, beq_iff_eq] at h
    obtain ⟨rfl, h2⟩ := h
    refine ⟨len, hd, fun hs => ?_⟩
    rcases h2 with h2 | h2
    · rw [hs] at h2; cases h2
    · exact h2
  · cases h
theorem x_chk_ok {l : List (Option Instr)} {b : ByteArray} (h : x_chk l b = true) {pc : Nat} {i : Instr} (hi : l[pc]? = some (some i)) : ∃ len, decode b pc = .ok (i, len) ∧ (x_sw i = false → len = x_len i) := by
  have hl : pc < l.length := (List.getElem?_eq_some_iff.mp hi).1
  have h1 := List.all_eq_true.mp h pc (List.mem_range.mpr hl)
  rw [hi] at h1
  exact x_dok_ok h1
def xi_0 : List (Option Instr) := [some (.new 7), none, none, some .dup, some (.invokespecial 9), none, none, some (.astore_n 1), some (.new 10), none, none, some .dup, some (.invokespecial 12), none, none, some (.astore_n 2), some (.iconst 0), some (.istore_n 3), some (.iload_n 3), some (.aload_n 0), some .arraylength, some (.iconst 3), some .isub, some (.if_icmp .gt 342), none, none, some (.aload_n 0), some (.iload_n 3), some .iaload, some (.bipush 15), none, some .iand, some (.tableswitch 327 0 12 #[68, 91, 116, 127, 150, 173, 186, 199, 222, 255, 268, 281, 294]), none, none, none, none, none, none, none, none, none, none, none, none, none, none, none, none, none, none, none, none, none, none, none, none, none, none, none, none, none, none, none, none, none, none, none, none, none, none, none, none, none, none, none, none, none, none, none, none, none, none, none, none, none, none, none, none, none, none, none, none, none, none, none, none, none, none, none, some (.aload_n 1), some (.aload_n 0), some (.iload_n 3), some (.iconst 1), some .iadd, some .iaload, some (.invokevirtual 13), none, none, some (.aload_n 2), some (.aload_n 0), some (.iload_n 3), some (.iconst 1), some .iadd, some .iaload, some (.invokevirtual 17), none, none, some (.if_icmp .eq 241), none, none, some (.iconst 0), some .ireturn, some (.aload_n 1), some (.aload_n 0), some (.iload_n 3), some (.iconst 1), some .iadd, some .iaload, some .i2c, some (.invokevirtual 18), none, none, some (.aload_n 2), some (.aload_n 0), some (.iload_n 3), some (.iconst 1), some .iadd, some .iaload, some .i2c, some (.invokevirtual 22), none, none, some (.if_icmp .eq 216), none, none, some (.iconst 0), some .ireturn, some (.aload_n 1), some (.invokevirtual 23), none, none, some (.aload_n 2), some (.invokevirtual 26), none, none, some (.goto 203), none, none, some (.aload_n 1), some (.aload_n 0), some (.iload_n 3), some (.iconst 1), some .iadd, some .iaload, some (.invokevirtual 27), none, none, some (.aload_n 2), some (.aload_n 0), some (.iload_n 3), some (.iconst 1), some .iadd, some .iaload, some (.invokevirtual 31), none, none, some (.if_icmp .eq 182), none, none, some (.iconst 0), some .ireturn, some (.aload_n 1), some (.aload_n 0), some (.iload_n 3), some (.iconst 1), some .iadd, some .iaload, some (.invokevirtual 32), none, none, some (.aload_n 2), some (.aload_n 0), some (.iload_n 3), some (.iconst 1), some .iadd, some .iaload, some (.invokevirtual 35), none, none, some (.if_icmp .eq 159), none, none, some (.iconst 0), some .ireturn, some (.aload_n 1), some (.invokevirtual 36), none, none, some (.aload_n 2), some (.invokevirtual 40), none, none, some (.if_icmp .eq 146), none, none, some (.iconst 0), some .ireturn, some (.aload_n 1), some (.invokevirtual 41), none, none, some (.aload_n 2), some (.invokevirtual 44), none, none, some (.if_icmp .eq 133), none, none, some (.iconst 0), some .ireturn, some (.aload_n 1), some (.aload_n 0), some (.iload_n 3), some (.iconst 1), some .iadd, some .iaload, some (.invokevirtual 45), none, none, some (.aload_n 2), some (.aload_n 0), some (.iload_n 3), some (.iconst 1), some .iadd, some .iaload, some (.invokevirtual 48), none, none, some (.if_icmp .eq 110), none, none, some (.iconst 0), some .ireturn, some (.aload_n 1), some (.aload_n 0), some (.iload_n 3), some (.iconst 1), some .iadd, some .iaload, some (.aload_n 0), some (.iload_n 3), some (.iconst 2), some .iadd, some .iaload, some (.invokevirtual 49), none, none, some (.aload_n 2), some (.aload_n 0), some (.iload_n 3), some (.iconst 1), some .iadd, some .iaload, some (.aload_n 0), some (.iload_n 3), some (.iconst 2), some .iadd, some .iaload, some (.invokevirtual 53), none, none, some (.if_icmp .eq 77), none, none, some (.iconst 0), some .ireturn, some (.aload_n 1), some (.invokevirtual 54), none, none, some (.aload_n 2), some (.invokevirtual 57), none, none, some (.if_icmp .eq 64), none, none, some (.iconst 0), some .ireturn, some (.aload_n 1), some (.invokevirtual 58), none, none, some (.aload_n 2), some (.invokevirtual 61), none, none, some (.if_icmp .eq 51), none, none, some (.iconst 0), some .ireturn, some (.aload_n 1), some (.invokevirtual 62), none, none, some (.aload_n 2), some (.invokevirtual 65), none, none, some (.if_icmp .eq 38), none, none, some (.iconst 0), some .ireturn, some (.aload_n 1), some (.aload_n 0), some (.iload_n 3), some (.iconst 1), some .iadd, some .iaload, some (.aload_n 0), some (.iload_n 3), some (.iconst 2), some .iadd, some .iaload, some (.invokevirtual 66), none, none, some (.aload_n 2), some (.aload_n 0), some (.iload_n 3), some (.iconst 1), some .iadd, some .iaload, some (.aload_n 0), some (.iload_n 3), some (.iconst 2), some .iadd, some .iaload, some (.invokevirtual 69), none, none, some (.if_icmp .eq 5), none, none, some (.iconst 0), some .ireturn, some (.iinc 3 3), none, none, some (.goto (-344)), none, none, some (.iconst 1), some .ireturn]
def xi_1 : List (Option Instr) := [some (.aload_n 0), some (.invokespecial 1), none, none, some (.aload_n 0), some (.iconst 3), some (.anewarray 9), none, none, some (.putfield 11), none, none, some (.aload_n 0), some (.new 15), none, none, some .dup, some (.invokespecial 17), none, none, some (.putfield 18), none, none, some (.aload_n 0), some (.new 22), none, none, some .dup, some (.invokespecial 24), none, none, some (.putfield 25), none, none, some (.iconst 0), some (.istore_n 1), some (.iload_n 1), some (.iconst 3), some (.if_icmp .ge 22), none, none, some (.aload_n 0), some (.getfield 11), none, none, some (.iload_n 1), some (.new 9), none, none, some .dup, some (.invokespecial 29), none, none, some .aastore, some (.iinc 1 1), none, none, some (.goto (-21)), none, none, some .return_]
def xi_2 : List (Option Instr) := [some (.iload_n 1), some (.invokestatic 30), none, none, some (.ifCond .ne 5), none, none, some (.iconst 0), some .ireturn, some (.aload_n 0), some (.iload_n 1), some (.putfield 34), none, none, some (.iconst 1), some .ireturn]
def xi_3 : List (Option Instr) := [some (.aload_n 0), some (.getfield 11), none, none, some (.aload_n 0), some (.getfield 34), none, none, some .aaload, some (.iload_n 1), some (.invokevirtual 38), none, none, some .ireturn]
def xi_4 : List (Option Instr) := [some (.aload_n 0), some (.getfield 11), none, none, some (.aload_n 0), some (.getfield 34), none, none, some .aaload, some (.iconst 0), some (.putfield 42), none, none, some .return_]
def xi_5 : List (Option Instr) := [some (.iload_n 1), some (.invokestatic 30), none, none, some (.ifCond .eq 15), none, none, some (.aload_n 0), some (.getfield 11), none, none, some (.iload_n 1), some .aaload, some (.getfield 42), none, none, some (.goto 4), none, none, some (.iconst (-1)), some .ireturn]
def xi_6 : List (Option Instr) := [some (.iload_n 1), some (.invokestatic 30), none, none, some (.ifCond .ne 5), none, none, some (.iconst (-1)), some .ireturn, some (.aload_n 0), some (.aload_n 0), some (.getfield 18), none, none, some (.aload_n 0), some (.getfield 11), none, none, some (.iload_n 1), some (.invokevirtual 45), none, none, some (.putfield 49), none, none, some (.aload_n 0), some (.getfield 49), none, none, some (.ifCond .ne 27), none, none, some (.aload_n 0), some (.aload_n 0), some (.getfield 25), none, none, some (.aload_n 0), some (.getfield 18), none, none, some (.getfield 52), none, none, some (.getfield 56), none, none, some (.invokevirtual 62), none, none, some (.putfield 49), none, none, some (.goto 28), none, none, some (.aload_n 0), some (.getfield 18), none, none, some (.getfield 52), none, none, some (.getfield 56), none, none, some (.iconst 0), some (.putfield 66), none, none, some (.aload_n 0), some (.getfield 25), none, none, some (.getfield 69), none, none, some (.iconst 0), some (.putfield 73), none, none, some (.aload_n 0), some (.getfield 49), none, none, some .ireturn]
def xi_7 : List (Option Instr) := [some (.aload_n 0), some (.getfield 49), none, none, some .ireturn]
def xi_8 : List (Option Instr) := [some (.aload_n 0), some (.getfield 18), none, none, some (.getfield 52), none, none, some (.getfield 56), none, none, some (.getfield 66), none, none, some .ireturn]
def xi_9 : List (Option Instr) := [some (.aload_n 0), some (.iload_n 1), some (.invokevirtual 76), none, none, some (.ifCond .eq 20), none, none, some (.aload_n 0), some (.getfield 18), none, none, some (.getfield 52), none, none, some (.getfield 56), none, none, some (.iload_n 1), some (.invokevirtual 79), none, none, some (.goto 4), none, none, some (.iconst (-1)), some .ireturn]
def xi_10 : List (Option Instr) := [some (.aload_n 0), some (.iload_n 1), some (.invokevirtual 76), none, none, some (.ifCond .eq 25), none, none, some (.aload_n 0), some (.getfield 18), none, none, some (.getfield 52), none, none, some (.getfield 56), none, none, some (.getfield 83), none, none, some (.iload_n 1), some .laload, some (.iload_n 2), some (.invokestatic 87), none, none, some (.goto 4), none, none, some (.iconst (-1)), some .ireturn]
def xi_11 : List (Option Instr) := [some (.aload_n 0), some (.getfield 18), none, none, some (.getfield 52), none, none, some (.getfield 91), none, none, some .ireturn]
def xi_12 : List (Option Instr) := [some (.aload_n 0), some (.getfield 18), none, none, some (.getfield 52), none, none, some (.getfield 94), none, none, some (.getfield 98), none, none, some .ireturn]
def xi_13 : List (Option Instr) := [some (.aload_n 0), some (.getfield 25), none, none, some (.getfield 69), none, none, some (.getfield 73), none, none, some .ireturn]
def xi_14 : List (Option Instr) := [some (.aload_n 0), some (.getfield 25), none, none, some (.getfield 69), none, none, some (.astore_n 3), some (.iload_n 1), some (.ifCond .lt 11), none, none, some (.iload_n 1), some (.aload_n 3), some (.getfield 73), none, none, some (.if_icmp .lt 6), none, none, some (.bipush (-2)), none, some .ireturn, some (.iload_n 2), some (.tableswitch 49 0 2 #[28, 35, 42]), none, none, none, none, none, none, none, none, none, none, none, none, none, none, none, none, none, none, none, none, none, none, none, none, none, none, none, some (.aload_n 3), some (.getfield 101), none, none, some (.iload_n 1), some .iaload, some .ireturn, some (.aload_n 3), some (.getfield 105), none, none, some (.iload_n 1), some .iaload, some .ireturn, some (.aload_n 3), some (.getfield 108), none, none, some (.iload_n 1), some .iaload, some .ireturn, some (.bipush (-2)), none, some .ireturn]
def xi_15 : List (Option Instr) := [some (.iload_n 0), some (.ifCond .lt 12), none, none, some (.iload_n 0), some (.iconst 3), some (.if_icmp .ge 7), none, none, some (.iconst 1), some (.goto 4), none, none, some (.iconst 0), some .ireturn]
def xi_16 : List (Option Instr) := [some (.iload_n 1), some (.ifCond .lt 24), none, none, some (.iload_n 1), some (.aload_n 0), some (.getfield 18), none, none, some (.getfield 52), none, none, some (.getfield 56), none, none, some (.getfield 66), none, none, some (.if_icmp .ge 7), none, none, some (.iconst 1), some (.goto 4), none, none, some (.iconst 0), some .ireturn]
def xi_17 : List (Option Instr) := [some (.aload_n 0), some (.invokespecial 1), none, none, some (.aload_n 0), some (.iconst 3), some (.newarray .int), none, some (.putfield 9), none, none, some (.aload_n 0), some (.iconst 3), some (.newarray .int), none, some (.putfield 15), none, none, some (.aload_n 0), some (.iconst 3), some (.newarray .int), none, some (.putfield 18), none, none, some (.aload_n 0), some (.iconst 3), some (.newarray .int), none, some (.putfield 21), none, none, some .return_]
def xi_18 : List (Option Instr) := [some (.aload_n 0), some (.getfield 24), none, none, some (.iconst 3), some (.if_icmp .ge 23), none, none, some (.aload_n 0), some (.getfield 9), none, none, some (.aload_n 0), some (.getfield 24), none, none, some (.iload_n 1), some .iastore, some (.aload_n 0), some (.getfield 15), none, none, some (.aload_n 0), some (.getfield 24), none, none, some (.iload_n 2), some .iastore, some (.aload_n 0), some .dup, some (.getfield 24), none, none, some (.iconst 1), some .iadd, some (.putfield 24), none, none, some .return_]
def xi_19 : List (Option Instr) := [some (.aload_n 0), some (.invokespecial 7), none, none, some (.aload_n 0), some (.new 13), none, none, some .dup, some (.invokespecial 15), none, none, some (.putfield 16), none, none, some (.aload_n 0), some (.new 20), none, none, some .dup, some (.bipush 100), none, some (.invokespecial 22), none, none, some (.putfield 25), none, none, some (.aload_n 0), some (.new 20), none, none, some .dup, some (.sipush 1360), none, none, some (.invokespecial 22), none, none, some (.putfield 29), none, none, some (.aload_n 0), some (.new 20), none, none, some .dup, some (.sipush 1360), none, none, some (.invokespecial 22), none, none, some (.putfield 32), none, none, some (.aload_n 0), some (.new 20), none, none, some .dup, some (.sipush 480), none, none, some (.invokespecial 22), none, none, some (.putfield 37), none, none, some (.aload_n 0), some (.bipush 31), none, some (.anewarray 40), none, none, some (.putfield 42), none, none, some (.iconst 0), some (.istore_n 1), some (.iload_n 1), some (.bipush 30), none, some (.if_icmp .gt 22), none, none, some (.aload_n 0), some (.getfield 42), none, none, some (.iload_n 1), some (.new 40), none, none, some .dup, some (.invokespecial 46), none, none, some .aastore, some (.iinc 1 1), none, none, some (.goto (-22)), none, none, some .return_]
def xi_20 : List (Option Instr) := [some (.aload_n 0), some (.getfield 16), none, none, some (.iconst 0), some (.putfield 47), none, none, some (.aload_n 0), some (.getfield 25), none, none, some (.iconst 0), some (.putfield 51), none, none, some (.aload_n 0), some (.iconst 0), some (.putfield 52), none, none, some .return_]
def xi_21 : List (Option Instr) := [some (.aload_n 0), some (.getfield 29), none, none, some (.iconst 0), some (.putfield 51), none, none, some (.aload_n 0), some (.getfield 32), none, none, some (.iconst 0), some (.putfield 51), none, none, some (.iload_n 3), some (.iconst 1), some .isub, some (.istore 4), none, some (.iload 4), none, some (.iload_n 2), some (.if_icmp .lt 19), none, none, some (.aload_n 0), some (.getfield 29), none, none, some (.aload_n 1), some (.iload 4), none, some (.invokevirtual 55), none, none, some (.iinc 4 (-1)), none, none, some (.goto (-19)), none, none, some (.aload_n 0), some (.iconst 0), some (.iconst 0), some (.invokevirtual 59), none, none, some (.istore 4), none, some (.iload 4), none, some (.ifCond .eq 6), none, none, some (.iload 4), none, some .ireturn, some (.aload_n 0), some (.getfield 25), none, none, some (.getfield 51), none, none, some (.aload_n 0), some (.getfield 32), none, none, some (.getfield 51), none, none, some .iadd, some (.bipush 100), none, some (.if_icmp .le 6), none, none, some (.bipush 7), none, some .ireturn, some (.iconst 0), some (.istore 5), none, some (.iload 5), none, some (.aload_n 0), some (.getfield 32), none, none, some (.getfield 51), none, none, some (.if_icmp .ge 22), none, none, some (.aload_n 0), some (.getfield 25), none, none, some (.aload_n 0), some (.getfield 32), none, none, some (.iload 5), none, some (.invokevirtual 55), none, none, some (.iinc 5 1), none, none, some (.goto (-28)), none, none, some (.iconst 0), some .ireturn]
def xi_22 : List (Option Instr) := [some (.iload_n 2), some (.bipush 30), none, some (.if_icmp .le 8), none, none, some (.bipush 7), none, some (.goto 4), none, none, some (.iconst 0), some (.istore_n 3), some (.iconst 0), some (.istore 4), none, some (.iload 4), none, some (.sipush 2720), none, none, some (.if_icmp .ge 81), none, none, some (.aload_n 0), some (.getfield 29), none, none, some (.getfield 51), none, none, some (.iload_n 1), some (.if_icmp .le 70), none, none, some (.iload_n 3), some (.ifCond .ne 66), none, none, some (.aload_n 0), some (.iload_n 1), some (.invokevirtual 63), none, none, some (.istore 5), none, some (.iload 5), none, some (.ifCond .ge 39), none, none, some (.aload_n 0), some (.getfield 32), none, none, some (.aload_n 0), some (.getfield 29), none, none, some (.aload_n 0), some (.getfield 29), none, none, some (.getfield 51), none, none, some (.iconst 1), some .isub, some (.invokevirtual 55), none, none, some (.aload_n 0), some (.getfield 29), none, none, some .dup, some (.getfield 51), none, none, some (.iconst 1), some .isub, some (.putfield 51), none, none, some (.goto 12), none, none, some (.aload_n 0), some (.iload 5), none, some (.iload_n 1), some (.iload_n 2), some (.invokevirtual 67), none, none, some (.istore_n 3), some (.iinc 4 1), none, none, some (.goto (-83)), none, none, some (.iload_n 3), some .ireturn]
def xi_23 : List (Option Instr) := [some (.aload_n 0), some (.getfield 29), none, none, some (.getfield 51), none, none, some (.iconst 1), some .isub, some (.istore_n 2), some (.aload_n 0), some (.getfield 16), none, none, some (.aload_n 0), some (.getfield 29), none, none, some (.getfield 71), none, none, some (.iload_n 2), some .laload, some (.invokevirtual 75), none, none, some (.istore_n 3), some (.iload_n 3), some (.ifCond .lt 19), none, none, some (.aload_n 0), some (.getfield 29), none, none, some (.iload_n 2), some (.invokevirtual 79), none, none, some (.iload_n 3), some .ishr, some (.iconst 1), some .iand, some (.iconst 1), some (.if_icmp .ne 5), none, none, some (.iconst (-1)), some .ireturn, some (.iload_n 2), some (.iload_n 1), some (.if_icmp .le 25), none, none, some (.aload_n 0), some (.getfield 29), none, none, some (.getfield 71), none, none, some (.iload_n 2), some (.iconst 1), some .isub, some .laload, some (.ldc2_w 82), none, none, some .lcmp, some (.ifCond .ne 7), none, none, some (.iconst 1), some (.goto 4), none, none, some (.iconst 0), some (.istore 4), none, some (.iload 4), none, some (.ifCond .ne 18), none, none, some (.aload_n 0), some (.getfield 16), none, none, some (.getfield 84), none, none, some (.iload_n 3), some .aaload, some (.getfield 88), none, none, some (.ifCond .ne 7), none, none, some (.iload_n 3), some (.goto 4), none, none, some (.iconst (-1)), some .ireturn]
def xi_24 : List (Option Instr) := [some (.aload_n 0), some (.getfield 16), none, none, some (.getfield 84), none, none, some (.iload_n 1), some .aaload, some (.astore 4), none, some (.aload_n 0), some (.getfield 42), none, none, some (.iload_n 3), some .aaload, some (.astore 5), none, some (.aload_n 0), some (.getfield 29), none, none, some (.getfield 51), none, none, some (.iconst 1), some .isub, some (.istore 6), none, some (.aload 5), none, some (.iconst 0), some (.putfield 92), none, none, some (.aload 5), none, some (.iload 6), none, some (.putfield 95), none, none, some (.aload 4), none, some (.getfield 88), none, none, some (.ifCond .eq 15), none, none, some (.aload_n 0), some (.aload 4), none, some (.aload 5), none, some (.iload_n 2), some (.invokevirtual 98), none, none, some (.goto 4), none, none, some (.iconst 0), some (.istore 7), none, some (.iload 7), none, some (.ifCond .eq 6), none, none, some (.iload 7), none, some .ireturn, some (.aload_n 0), some (.getfield 52), none, none, some (.bipush 30), none, some (.if_icmp .lt 6), none, none, some (.bipush 7), none, some .ireturn, some (.aload_n 0), some .dup, some (.getfield 52), none, none, some (.iconst 1), some .iadd, some (.putfield 52), none, none, some (.aload_n 0), some (.getfield 32), none, none, some (.getfield 51), none, none, some (.istore 8), none, some (.iconst 0), some (.istore 9), none, some (.iload 9), none, some (.aload 4), none, some (.getfield 102), none, none, some (.if_icmp .ge 25), none, none, some (.iload 7), none, some (.ifCond .ne 20), none, none, some (.aload_n 0), some (.aload 5), none, some (.iload 9), none, some (.iload_n 3), some (.invokevirtual 105), none, none, some (.istore 7), none, some (.iinc 9 1), none, none, some (.goto (-29)), none, none, some (.iload 7), none, some (.ifCond .ne 22), none, none, some (.aload_n 0), some (.aload 4), none, some (.aload 5), none, some (.aload_n 0), some (.getfield 29), none, none, some (.iload 6), none, some (.invokevirtual 109), none, none, some (.invokevirtual 112), none, none, some (.istore 7), none, some (.iload 7), none, some (.ifCond .ne 58), none, none, some (.aload_n 0), some (.getfield 29), none, none, some (.iload 6), none, some (.invokevirtual 79), none, none, some (.aload_n 0), some (.getfield 29), none, none, some (.aload 5), none, some (.getfield 95), none, none, some (.invokevirtual 79), none, none, some .iand, some (.iconst 1), some (.iload_n 1), some .ishl, some .ior, some (.istore 9), none, some (.aload_n 0), some (.getfield 32), none, none, some (.iload 8), none, some (.putfield 51), none, none, some (.aload_n 0), some (.getfield 29), none, none, some (.aload 5), none, some (.getfield 95), none, none, some (.putfield 51), none, none, some (.aload_n 0), some (.iload 9), none, some (.invokevirtual 115), none, none, some (.iload 7), none, some .ireturn]
def xi_25 : List (Option Instr) := [some (.aload_n 0), some (.getfield 29), none, none, some (.getfield 51), none, none, some (.iconst 3), some .isub, some (.istore 4), none, some (.iconst 0), some (.istore 5), none, some (.iload 4), none, some (.iconst 1), some .iadd, some (.istore 6), none, some (.aload_n 2), some (.iconst (-1)), some (.putfield 95), none, none, some (.iload 4), none, some (.istore 7), none, some (.iload 7), none, some (.iload_n 3), some (.if_icmp .lt 129), none, none, some (.aload_n 2), some (.getfield 95), none, none, some (.ifCond .ge 122), none, none, some (.aload_n 0), some (.getfield 29), none, none, some (.getfield 71), none, none, some (.iload 7), none, some .laload, some (.lstore 8), none, some (.iload 5), none, some (.ifCond .ne 16), none, none, some (.lload 8), none, some (.ldc2_w 118), none, none, some .lcmp, some (.ifCond .ne 7), none, none, some (.iconst 1), some (.goto 4), none, none, some (.iconst 0), some (.istore 10), none, some (.iload 10), none, some (.ifCond .ne 17), none, none, some (.iload 5), none, some (.ifCond .ne 26), none, none, some (.lload 8), none, some (.ldc2_w 120), none, none, some .lcmp, some (.ifCond .ne 17), none, none, some (.aload_n 2), some (.iload 7), none, some (.iconst 1), some .iadd, some (.iload 6), none, some (.invokevirtual 122), none, none, some (.iload 7), none, some (.istore 6), none, some (.aload_n 2), some (.iload 10), none, some (.ifCond .eq 8), none, none, some (.iload 7), none, some (.goto 4), none, none, some (.iconst (-1)), some (.putfield 95), none, none, some (.iload 5), none, some (.lload 8), none, some (.ldc2_w 82), none, none, some .lcmp, some (.ifCond .ne 7), none, none, some (.iconst 1), some (.goto 17), none, none, some (.lload 8), none, some (.ldc2_w 118), none, none, some .lcmp, some (.ifCond .ne 7), none, none, some (.iconst (-1)), some (.goto 4), none, none, some (.iconst 0), some .iadd, some (.istore 5), none, some (.iinc 7 (-1)), none, none, some (.goto (-129)), none, none, some (.aload_n 2), some (.getfield 95), none, none, some (.ifCond .ge 6), none, none, some (.bipush 8), none, some .ireturn, some (.iload 4), none, some (.aload_n 2), some (.getfield 95), none, none, some .isub, some (.istore 7), none, some (.iload 7), none, some (.ifCond .ne 14), none, none, some (.aload_n 1), some (.getfield 102), none, none, some (.ifCond .ne 7), none, none, some (.iconst 0), some (.goto 7), none, none, some (.aload_n 2), some (.getfield 92), none, none, some (.istore 8), none, some (.iload 8), none, some (.aload_n 1), some (.getfield 102), none, none, some (.if_icmp .eq 6), none, none, some (.bipush 8), none, some .ireturn, some (.iload 7), none, some (.bipush 40), none, some (.if_icmp .le 8), none, none, some (.bipush 7), none, some (.goto 4), none, none, some (.iconst 0), some .ireturn]
def xi_26 : List (Option Instr) := [some (.aload_n 0), some (.getfield 29), none, none, some (.getfield 51), none, none, some (.istore 4), none, some (.aload_n 0), some (.getfield 32), none, none, some (.getfield 51), none, none, some (.istore 5), none, some (.aload_n 1), some (.getfield 126), none, none, some (.iload_n 2), some .iaload, some (.istore 6), none, some (.iload 6), none, some (.aload_n 1), some (.getfield 130), none, none, some (.iload_n 2), some .iaload, some (.if_icmp .ge 22), none, none, some (.aload_n 0), some (.getfield 29), none, none, some (.aload_n 0), some (.getfield 29), none, none, some (.iload 6), none, some (.invokevirtual 55), none, none, some (.iinc 6 1), none, none, some (.goto (-27)), none, none, some (.aload_n 0), some (.iload 4), none, some (.iload_n 3), some (.iconst 1), some .iadd, some (.invokevirtual 59), none, none, some (.istore 6), none, some (.aload_n 1), some (.getfield 133), none, none, some (.iload_n 2), some (.iload 5), none, some .iastore, some (.aload_n 1), some (.getfield 136), none, none, some (.iload_n 2), some (.aload_n 0), some (.getfield 32), none, none, some (.getfield 51), none, none, some .iastore, some (.iload 6), none, some (.ifCond .ne 22), none, none, some (.aload_n 0), some (.getfield 32), none, none, some (.getfield 51), none, none, some (.iload 5), none, some .isub, some (.bipush 40), none, some (.if_icmp .le 7), none, none, some (.bipush 7), none, some (.istore 6), none, some (.iload 6), none, some .ireturn]
def xi_27 : List (Option Instr) := [some (.aload_n 0), some (.getfield 37), none, none, some (.iconst 0), some (.putfield 51), none, none, some (.iconst 0), some (.istore 4), none, some (.iconst 0), some (.istore 5), none, some (.iload 5), none, some (.aload_n 1), some (.getfield 139), none, none, some (.if_icmp .ge 124), none, none, some (.aload_n 0), some (.getfield 37), none, none, some (.getfield 51), none, none, some (.istore 6), none, some (.aload_n 1), some (.iload 5), none, some (.iconst 1), some .isub, some (.invokevirtual 140), none, none, some (.istore 7), none, some (.iload 7), none, some (.ifCond .eq 8), none, none, some (.iload 4), none, some (.goto 5), none, none, some (.iload 6), none, some (.istore 4), none, some (.aload_n 0), some (.aload_n 1), some (.iload 5), none, some (.aload_n 2), some (.iload_n 3), some (.invokevirtual 144), none, none, some (.iload 7), none, some (.ifCond .eq 26), none, none, some (.iload 6), none, some (.iload 4), none, some (.if_icmp .le 19), none, none, some (.aload_n 0), some (.getfield 37), none, none, some (.getfield 51), none, none, some (.iload 6), none, some (.if_icmp .le 7), none, none, some (.iconst 1), some (.goto 4), none, none, some (.iconst 0), some (.istore 8), none, some (.iload 8), none, some (.ifCond .eq 19), none, none, some (.aload_n 0), some (.getfield 37), none, none, some (.iload 6), none, some (.iload_n 3), some (.invokevirtual 148), none, none, some (.ifCond .ne 6), none, none, some (.bipush 9), none, some .ireturn, some (.iload 5), none, some (.aload_n 1), some (.iload 5), none, some (.iconst 1), some .iadd, some (.invokevirtual 140), none, none, some (.ifCond .eq 7), none, none, some (.iconst 1), some (.goto 4), none, none, some (.iconst 0), some .iadd, some (.istore 5), none, some (.iinc 5 1), none, none, some (.goto (-127)), none, none, some (.aload_n 0), some (.getfield 37), none, none, some (.getfield 51), none, none, some (.bipush 40), none, some (.if_icmp .le 8), none, none, some (.bipush 7), none, some (.goto 4), none, none, some (.iconst 0), some .ireturn]
def xi_28 : List (Option Instr) := [some (.aload_n 1), some (.iload_n 2), some (.invokevirtual 152), none, none, some (.istore 5), none, some (.iload 5), none, some (.ifCond .ge 22), none, none, some (.aload_n 0), some (.getfield 37), none, none, some (.aload_n 1), some (.getfield 155), none, none, some (.iload_n 2), some .laload, some (.iload 4), none, some (.iconst 0), some (.invokevirtual 158), none, none, some (.goto 108), none, none, some (.aload_n 1), some (.iload_n 2), some (.iconst 1), some .isub, some (.invokevirtual 140), none, none, some (.ifCond .ne 13), none, none, some (.aload_n 1), some (.iload_n 2), some (.iconst 1), some .iadd, some (.invokevirtual 140), none, none, some (.ifCond .eq 48), none, none, some (.aload_n 3), some (.getfield 130), none, none, some (.iload 5), none, some .iaload, some (.iconst 1), some .isub, some (.istore 6), none, some (.iload 6), none, some (.aload_n 3), some (.getfield 126), none, none, some (.iload 5), none, some .iaload, some (.if_icmp .lt 22), none, none, some (.aload_n 0), some (.getfield 37), none, none, some (.aload_n 0), some (.getfield 29), none, none, some (.iload 6), none, some (.invokevirtual 55), none, none, some (.iinc 6 (-1)), none, none, some (.goto (-28)), none, none, some (.goto 43), none, none, some (.aload_n 3), some (.getfield 133), none, none, some (.iload 5), none, some .iaload, some (.istore 6), none, some (.iload 6), none, some (.aload_n 3), some (.getfield 136), none, none, some (.iload 5), none, some .iaload, some (.if_icmp .ge 22), none, none, some (.aload_n 0), some (.getfield 37), none, none, some (.aload_n 0), some (.getfield 32), none, none, some (.iload 6), none, some (.invokevirtual 55), none, none, some (.iinc 6 1), none, none, some (.goto (-28)), none, none, some .return_]
def xi_29 : List (Option Instr) := [some (.aload_n 0), some (.getfield 37), none, none, some (.getfield 51), none, none, some (.iconst 1), some .isub, some (.istore_n 2), some (.iload_n 2), some (.ifCond .lt 45), none, none, some (.aload_n 0), some (.getfield 37), none, none, some (.iload_n 2), some (.invokevirtual 79), none, none, some (.iload_n 1), some .ior, some (.istore_n 3), some (.aload_n 0), some (.getfield 29), none, none, some (.aload_n 0), some (.getfield 37), none, none, some (.getfield 71), none, none, some (.iload_n 2), some .laload, some (.aload_n 0), some (.getfield 37), none, none, some (.iload_n 2), some (.invokevirtual 109), none, none, some (.iload_n 3), some (.invokevirtual 158), none, none, some (.iinc 2 (-1)), none, none, some (.goto (-43)), none, none, some .return_]
def xi_30 : List (Option Instr) := [some (.aload_n 0), some (.invokespecial 1), none, none, some (.aload_n 0), some (.iconst 3), some (.newarray .long), none, some (.putfield 9), none, none, some (.aload_n 0), some (.bipush 12), none, some (.newarray .long), none, some (.putfield 13), none, none, some .return_]
def xi_31 : List (Option Instr) := [some (.iload_n 1), some (.ifCond .lt 28), none, none, some (.iload_n 1), some (.aload_n 0), some (.getfield 16), none, none, some (.if_icmp .ge 20), none, none, some (.aload_n 0), some (.getfield 13), none, none, some (.iload_n 1), some .laload, some (.ldc2_w 22), none, none, some .lcmp, some (.ifCond .ne 7), none, none, some (.iconst 1), some (.goto 4), none, none, some (.iconst 0), some .ireturn]
def xi_32 : List (Option Instr) := [some (.iconst 0), some (.istore_n 2), some (.iload_n 2), some (.aload_n 0), some (.getfield 24), none, none, some (.if_icmp .ge 27), none, none, some (.aload_n 0), some (.getfield 9), none, none, some (.iload_n 2), some .laload, some (.aload_n 0), some (.getfield 13), none, none, some (.iload_n 1), some .laload, some .lcmp, some (.ifCond .ne 5), none, none, some (.iload_n 2), some .ireturn, some (.iinc 2 1), none, none, some (.goto (-29)), none, none, some (.iconst (-1)), some .ireturn]
def xi_33 : List (Option Instr) := [some (.aload_n 0), some (.invokespecial 3), none, none, some (.aload_n 0), some (.bipush 8), none, some (.anewarray 11), none, none, some (.putfield 13), none, none, some (.iconst 0), some (.istore_n 1), some (.iload_n 1), some (.bipush 8), none, some (.if_icmp .ge 22), none, none, some (.aload_n 0), some (.getfield 13), none, none, some (.iload_n 1), some (.new 11), none, none, some .dup, some (.invokespecial 17), none, none, some .aastore, some (.iinc 1 1), none, none, some (.goto (-22)), none, none, some .return_]
def xi_34 : List (Option Instr) := [some (.iconst 0), some (.istore_n 3), some (.iload_n 3), some (.aload_n 0), some (.getfield 18), none, none, some (.if_icmp .ge 25), none, none, some (.aload_n 0), some (.getfield 13), none, none, some (.iload_n 3), some .aaload, some (.getfield 22), none, none, some (.lload_n 1), some .lcmp, some (.ifCond .ne 5), none, none, some (.iload_n 3), some .ireturn, some (.iinc 3 1), none, none, some (.goto (-27)), none, none, some (.iconst (-1)), some .ireturn]
def xi_35 : List (Option Instr) := [some (.aload_n 0), some (.aload_n 1), some (.getfield 26), none, none, some (.iload_n 2), some .laload, some (.invokevirtual 32), none, none, some (.ifCond .lt 6), none, none, some (.bipush 6), none, some .ireturn, some (.iload_n 3), some (.ifCond .ge 7), none, none, some (.iconst 0), some (.goto 9), none, none, some (.iload 4), none, some (.iload_n 3), some .isub, some (.iconst 2), some .idiv, some (.istore 6), none, some (.iload 5), none, some (.iload 4), none, some .isub, some (.istore 7), none, some (.iload 6), none, some (.iconst 3), some (.if_icmp .gt 19), none, none, some (.iload 7), none, some (.bipush 12), none, some (.if_icmp .gt 12), none, none, some (.aload_n 0), some (.getfield 18), none, none, some (.bipush 8), none, some (.if_icmp .lt 6), none, none, some (.bipush 7), none, some .ireturn, some (.aload_n 0), some (.getfield 13), none, none, some (.aload_n 0), some (.getfield 18), none, none, some .aaload, some (.astore 8), none, some (.aload_n 0), some .dup, some (.getfield 18), none, none, some (.iconst 1), some .iadd, some (.putfield 18), none, none, some (.aload 8), none, some (.aload_n 1), some (.getfield 26), none, none, some (.iload_n 2), some .laload, some (.putfield 22), none, none, some (.aload 8), none, some (.iload_n 3), some (.ifCond .lt 7), none, none, some (.iconst 1), some (.goto 4), none, none, some (.iconst 0), some (.putfield 36), none, none, some (.aload 8), none, some (.iload 6), none, some (.putfield 40), none, none, some (.iconst 0), some (.istore 9), none, some (.iload 9), none, some (.iload 6), none, some (.if_icmp .ge 28), none, none, some (.aload 8), none, some (.getfield 43), none, none, some (.iload 9), none, some (.aload_n 1), some (.getfield 26), none, none, some (.iload_n 3), some (.iconst 2), some (.iload 9), none, some .imul, some .iadd, some .laload, some .lastore, some (.iinc 9 1), none, none, some (.goto (-29)), none, none, some (.aload 8), none, some (.iload 7), none, some (.putfield 46), none, none, some (.aload_n 1), some (.getfield 26), none, none, some (.iload 4), none, some (.aload 8), none, some (.getfield 47), none, none, some (.iconst 0), some (.iload 7), none, some (.invokestatic 50), none, none, some (.iconst 0), some .ireturn]
def xi_36 : List (Option Instr) := [some (.aload_n 0), some (.lload_n 1), some (.invokevirtual 32), none, none, some (.istore_n 3), some (.iload_n 3), some (.ifCond .lt 47), none, none, some (.aload_n 0), some .dup, some (.getfield 18), none, none, some (.iconst 1), some .isub, some (.putfield 18), none, none, some (.aload_n 0), some (.getfield 13), none, none, some (.aload_n 0), some (.getfield 18), none, none, some .aaload, some (.astore 4), none, some (.aload_n 0), some (.getfield 13), none, none, some (.aload_n 0), some (.getfield 18), none, none, some (.aload_n 0), some (.getfield 13), none, none, some (.iload_n 3), some .aaload, some .aastore, some (.aload_n 0), some (.getfield 13), none, none, some (.iload_n 3), some (.aload 4), none, some .aastore, some .return_]
def xi_37 : List (Option Instr) := [some (.aload_n 0), some (.invokespecial 5), none, none, some (.aload_n 0), some (.new 11), none, none, some .dup, some (.invokespecial 13), none, none, some (.putfield 14), none, none, some (.aload_n 0), some (.bipush 101), none, some (.newarray .long), none, some (.putfield 20), none, none, some (.aload_n 0), some (.bipush 101), none, some (.newarray .int), none, some (.putfield 24), none, none, some (.aload_n 0), some (.bipush 100), none, some (.newarray .long), none, some (.putfield 28), none, none, some (.aload_n 0), some (.bipush 100), none, some (.newarray .boolean), none, some (.putfield 31), none, none, some .return_]
def xi_38 : List (Option Instr) := [some (.aload_n 0), some (.aload_n 1), some (.invokevirtual 35), none, none, some (.aload_n 0), some (.getfield 14), none, none, some (.iconst 0), some (.putfield 39), none, none, some (.aload_n 0), some (.invokevirtual 43), none, none, some (.ifCond .eq 6), none, none, some (.bipush 10), none, some .ireturn, some (.aload_n 0), some (.invokevirtual 47), none, none, some (.ifCond .eq 6), none, none, some (.bipush 7), none, some .ireturn, some (.aload_n 0), some (.invokevirtual 50), none, none, some (.ifCond .ne 14), none, none, some (.aload_n 0), some (.getfield 14), none, none, some (.iconst 0), some (.putfield 39), none, none, some (.bipush 11), none, some .ireturn, some (.iconst 0), some .ireturn]
def xi_39 : List (Option Instr) := [some (.aload_n 0), some (.aload_n 1), some (.getfield 53), none, none, some (.bipush 100), none, some (.invokestatic 56), none, none, some (.putfield 62), none, none, some (.iconst 0), some (.istore_n 2), some (.iload_n 2), some (.aload_n 0), some (.getfield 62), none, none, some (.if_icmp .ge 36), none, none, some (.aload_n 0), some (.getfield 20), none, none, some (.iload_n 2), some (.aload_n 1), some (.getfield 63), none, none, some (.iload_n 2), some .laload, some .lastore, some (.aload_n 0), some (.getfield 24), none, none, some (.iload_n 2), some (.aload_n 1), some (.getfield 63), none, none, some (.iload_n 2), some .laload, some (.invokestatic 64), none, none, some .iastore, some (.iinc 2 1), none, none, some (.goto (-38)), none, none, some (.aload_n 0), some (.getfield 20), none, none, some (.aload_n 0), some (.getfield 62), none, none, some (.lconst 0), some .lastore, some (.aload_n 0), some (.getfield 24), none, none, some (.aload_n 0), some (.getfield 62), none, none, some (.iconst 0), some .iastore, some (.aload_n 0), some (.iconst 0), some (.putfield 68), none, none, some (.aload_n 0), some (.iconst 0), some (.putfield 71), none, none, some .return_]
def xi_40 : List (Option Instr) := [some (.lload_n 0), some (.invokestatic 74), none, none, some (.ifCond .ne 5), none, none, some (.iconst 0), some .ireturn, some (.lload_n 0), some (.invokestatic 78), none, none, some (.ifCond .eq 5), none, none, some (.iconst 5), some .ireturn, some (.lload_n 0), some (.ldc 81), none, some (.invokestatic 83), none, none, some (.ifCond .ne 12), none, none, some (.lload_n 0), some (.ldc 87), none, some (.invokestatic 83), none, none, some (.ifCond .eq 5), none, none, some (.iconst 1), some .ireturn, some (.lload_n 0), some (.ldc 89), none, some (.invokestatic 83), none, none, some (.ifCond .eq 5), none, none, some (.iconst 2), some .ireturn, some (.lload_n 0), some (.ldc 91), none, some (.invokestatic 83), none, none, some (.ifCond .eq 7), none, none, some (.iconst 3), some (.goto 4), none, none, some (.iconst 4), some .ireturn]
def xi_41 : List (Option Instr) := [some (.iconst 0), some (.istore_n 1), some (.iload_n 1), some (.aload_n 0), some (.getfield 62), none, none, some (.if_icmp .ge 63), none, none, some (.aload_n 0), some (.getfield 24), none, none, some (.iload_n 1), some .iaload, some (.iconst 5), some (.if_icmp .ne 15), none, none, some (.aload_n 0), some (.getfield 20), none, none, some (.iload_n 1), some .laload, some (.invokestatic 93), none, none, some (.goto 4), none, none, some (.iconst 0), some (.istore_n 2), some (.iconst 0), some (.istore_n 3), some (.iload_n 3), some (.iload_n 2), some (.if_icmp .ge 26), none, none, some (.aload_n 0), some (.getfield 20), none, none, some (.iload_n 1), some .laload, some (.iload_n 3), some (.invokestatic 96), none, none, some (.bipush 57), none, some (.if_icmp .le 5), none, none, some (.iconst 1), some .ireturn, some (.iinc 3 1), none, none, some (.goto (-25)), none, none, some (.iinc 1 1), none, none, some (.goto (-65)), none, none, some (.iconst 0), some .ireturn]
def xi_42 : List (Option Instr) := [some (.iconst 0), some (.istore_n 1), some (.iconst 0), some (.istore_n 2), some (.iload_n 2), some (.aload_n 0), some (.getfield 62), none, none, some (.if_icmp .ge 85), none, none, some (.aload_n 0), some (.getfield 20), none, none, some (.iload_n 2), some .laload, some (.lstore_n 3), some (.lload_n 3), some (.ldc2_w 100), none, none, some .lcmp, some (.ifCond .eq 19), none, none, some (.lload_n 3), some (.ldc2_w 102), none, none, some .lcmp, some (.ifCond .eq 11), none, none, some (.lload_n 3), some (.ldc2_w 104), none, none, some .lcmp, some (.ifCond .ne 9), none, none, some (.iinc 1 1), none, none, some (.goto 34), none, none, some (.iload_n 1), some (.ifCond .le 30), none, none, some (.lload_n 3), some (.ldc2_w 106), none, none, some .lcmp, some (.ifCond .eq 19), none, none, some (.lload_n 3), some (.ldc2_w 108), none, none, some .lcmp, some (.ifCond .eq 11), none, none, some (.lload_n 3), some (.ldc2_w 110), none, none, some .lcmp, some (.ifCond .ne 6), none, none, some (.iinc 1 (-1)), none, none, some (.iload_n 1), some (.bipush 6), none, some (.if_icmp .le 5), none, none, some (.iconst 1), some .ireturn, some (.iinc 2 1), none, none, some (.goto (-87)), none, none, some (.iconst 0), some .ireturn]
def xi_43 : List (Option Instr) := [some (.aload_n 0), some (.getfield 20), none, none, some (.aload_n 0), some (.getfield 68), none, none, some .laload, some (.iload_n 1), some .i2l, some .lcmp, some (.ifCond .ne 7), none, none, some (.iconst 1), some (.goto 4), none, none, some (.iconst 0), some (.istore_n 2), some (.aload_n 0), some .dup, some (.getfield 68), none, none, some (.iload_n 2), some (.ifCond .eq 7), none, none, some (.iconst 1), some (.goto 4), none, none, some (.iconst 0), some .iadd, some (.putfield 68), none, none, some (.iload_n 2), some .ireturn]
def xi_44 : List (Option Instr) := [some (.iload_n 1), some (.aload_n 0), some (.getfield 62), none, none, some (.if_icmp .ge 13), none, none, some (.aload_n 0), some (.getfield 24), none, none, some (.iload_n 1), some .iaload, some (.iconst 4), some (.if_icmp .eq 27), none, none, some (.iload_n 1), some (.aload_n 0), some (.getfield 62), none, none, some (.if_icmp .ge 17), none, none, some (.aload_n 0), some (.getfield 24), none, none, some (.iload_n 1), some .iaload, some (.iconst 1), some (.if_icmp .ne 7), none, none, some (.iconst 1), some (.goto 4), none, none, some (.iconst 0), some .ireturn, some (.aload_n 0), some (.getfield 71), none, none, some (.iconst 1), some .isub, some (.istore_n 2), some (.iload_n 2), some (.ifCond .lt 32), none, none, some (.aload_n 0), some (.getfield 28), none, none, some (.iload_n 2), some .laload, some (.aload_n 0), some (.getfield 20), none, none, some (.iload_n 1), some .laload, some .lcmp, some (.ifCond .ne 10), none, none, some (.aload_n 0), some (.getfield 31), none, none, some (.iload_n 2), some .baload, some .ireturn, some (.iinc 2 (-1)), none, none, some (.goto (-30)), none, none, some (.iconst 0), some .ireturn]
def xi_45 : List (Option Instr) := [some (.aload_n 0), some (.getfield 24), none, none, some (.aload_n 0), some (.getfield 68), none, none, some .iaload, some (.iconst 2), some (.if_icmp .eq 14), none, none, some (.aload_n 0), some (.aload_n 0), some (.getfield 68), none, none, some (.invokevirtual 112), none, none, some (.ifCond .eq 7), none, none, some (.iconst 1), some (.goto 4), none, none, some (.iconst 0), some .ireturn]
def xi_46 : List (Option Instr) := [some (.aload_n 0), some (.getfield 14), none, none, some (.iconst 0), some (.iconst (-1)), some (.iconst 0), some (.invokevirtual 116), none, none, some .pop, some (.iconst 0), some (.istore_n 1), some (.iload_n 1), some (.aload_n 0), some (.getfield 62), none, none, some (.if_icmp .ge 51), none, none, some (.aload_n 0), some (.getfield 68), none, none, some (.aload_n 0), some (.getfield 62), none, none, some (.if_icmp .ge 40), none, none, some (.aload_n 0), some (.invokevirtual 120), none, none, some (.ifCond .eq 12), none, none, some (.aload_n 0), some (.iconst 1), some (.iconst 0), some (.invokevirtual 123), none, none, some (.ifCond .ne 5), none, none, some (.iconst 0), some .ireturn, some (.aload_n 0), some (.getfield 14), none, none, some (.getfield 127), none, none, some (.iconst 0), some .dup2, some .iaload, some (.iconst 1), some .iadd, some .iastore, some (.iinc 1 1), none, none, some (.goto (-53)), none, none, some (.aload_n 0), some (.getfield 68), none, none, some (.aload_n 0), some (.getfield 62), none, none, some (.if_icmp .lt 7), none, none, some (.iconst 1), some (.goto 4), none, none, some (.iconst 0), some .ireturn]
def xi_47 : List (Option Instr) := [some (.aload_n 0), some (.getfield 24), none, none, some (.aload_n 0), some (.getfield 68), none, none, some .iaload, some (.iconst 2), some (.if_icmp .ne 7), none, none, some (.iconst 1), some (.goto 4), none, none, some (.iconst 0), some (.istore_n 3), some (.aload_n 0), some (.getfield 14), none, none, some (.iload_n 3), some (.ifCond .eq 7), none, none, some (.iconst 2), some (.goto 4), none, none, some (.iconst 1), some (.aload_n 0), some (.getfield 68), none, none, some (.iconst 1), some (.invokevirtual 116), none, none, some (.istore 4), none, some (.aload_n 0), some .dup, some (.getfield 68), none, none, some (.iload_n 3), some (.ifCond .eq 7), none, none, some (.iconst 1), some (.goto 4), none, none, some (.iconst 0), some .iadd, some (.putfield 68), none, none, some (.aload_n 0), some (.invokevirtual 130), none, none, some (.ifCond .ne 5), none, none, some (.iconst 0), some .ireturn, some (.iconst 0), some (.istore 5), none, some (.iload 5), none, some (.aload_n 0), some (.getfield 62), none, none, some (.if_icmp .ge 196), none, none, some (.aload_n 0), some (.getfield 14), none, none, some (.getfield 39), none, none, some (.istore 6), none, some (.aload_n 0), some (.iconst 0), some (.invokevirtual 133), none, none, some (.ifCond .ne 5), none, none, some (.iconst 0), some .ireturn, some (.aload_n 0), some (.getfield 14), none, none, some (.getfield 127), none, none, some (.iload 4), none, some .dup2, some .iaload, some (.iconst 1), some .iadd, some .iastore, some (.aload_n 0), some (.iload 6), none, some (.iload_n 3), some (.invokevirtual 136), none, none, some (.iload_n 1), some (.ifCond .eq 32), none, none, some (.iload_n 3), some (.ifCond .ne 28), none, none, some (.iload 5), none, some (.ifCond .ne 23), none, none, some (.aload_n 0), some (.getfield 20), none, none, some (.aload_n 0), some (.getfield 68), none, none, some .laload, some (.ldc2_w 104), none, none, some .lcmp, some (.ifCond .ne 7), none, none, some (.iconst 1), some (.goto 4), none, none, some (.iconst 0), some (.istore 7), none, some (.iload 7), none, some (.ifCond .eq 54), none, none, some (.aload_n 0), some (.getfield 14), none, none, some (.getfield 140), none, none, some (.iload 4), none, some (.bipush 8), none, some .iastore, some (.aload_n 0), some (.getfield 14), none, none, some (.getfield 127), none, none, some (.iload 4), none, some .dup2, some .iaload, some (.iconst 1), some .iadd, some .iastore, some (.aload_n 0), some (.iload 6), none, some (.invokevirtual 143), none, none, some (.ifCond .eq 17), none, none, some (.aload_n 0), some (.iload_n 2), some (.iconst 1), some .iadd, some (.invokevirtual 146), none, none, some (.ifCond .eq 7), none, none, some (.iconst 1), some (.goto 4), none, none, some (.iconst 0), some .ireturn, some (.iload_n 3), some (.ifCond .ne 38), none, none, some (.aload_n 0), some (.bipush 61), none, some (.invokevirtual 149), none, none, some (.ifCond .eq 29), none, none, some (.aload_n 0), some (.getfield 14), none, none, some (.getfield 127), none, none, some (.iload 6), none, some .dup2, some .iaload, some (.iconst 1), some .iadd, some .iastore, some (.aload_n 0), some (.iload_n 2), some (.iconst 1), some .iadd, some (.invokevirtual 153), none, none, some (.ifCond .ne 5), none, none, some (.iconst 0), some .ireturn, some (.aload_n 0), some (.bipush 44), none, some (.invokevirtual 149), none, none, some (.ifCond .ne 10), none, none, some (.aload_n 0), some (.bipush 59), none, some (.invokevirtual 149), none, none, some .ireturn, some (.iinc 5 1), none, none, some (.goto (-199)), none, none, some (.iconst 0), some .ireturn]
def xi_48 : List (Option Instr) := [some (.aload_n 0), some (.aload_n 0), some (.getfield 68), none, none, some (.invokevirtual 112), none, none, some (.ifCond .ne 5), none, none, some (.iconst 0), some .ireturn, some (.aload_n 0), some (.getfield 14), none, none, some (.iconst 3), some (.aload_n 0), some (.getfield 68), none, none, some (.iconst 0), some (.invokevirtual 116), none, none, some .pop, some (.aload_n 0), some .dup, some (.getfield 68), none, none, some (.iconst 1), some .iadd, some (.putfield 68), none, none, some (.iconst 1), some .ireturn]
def xi_49 : List (Option Instr) := [some (.aload_n 0), some (.getfield 14), none, none, some (.getfield 127), none, none, some (.iload_n 1), some (.aload_n 0), some (.getfield 14), none, none, some (.getfield 39), none, none, some (.iload_n 1), some .isub, some (.iconst 1), some .isub, some .iastore, some (.aload_n 0), some (.getfield 71), none, none, some (.aload_n 0), some (.getfield 28), none, none, some .arraylength, some (.if_icmp .ge 46), none, none, some (.aload_n 0), some (.getfield 28), none, none, some (.aload_n 0), some (.getfield 71), none, none, some (.aload_n 0), some (.getfield 20), none, none, some (.aload_n 0), some (.getfield 14), none, none, some (.getfield 156), none, none, some (.iload_n 1), some .iaload, some .laload, some .lastore, some (.aload_n 0), some (.getfield 31), none, none, some (.aload_n 0), some (.getfield 71), none, none, some (.iload_n 2), some .bastore, some (.aload_n 0), some .dup, some (.getfield 71), none, none, some (.iconst 1), some .iadd, some (.putfield 71), none, none, some .return_]
def xi_50 : List (Option Instr) := [some (.iload_n 1), some (.iconst 1), some .iadd, some (.istore_n 2), some (.aload_n 0), some (.getfield 14), none, none, some (.getfield 127), none, none, some (.iload_n 1), some .iaload, some (.ifCond .le 21), none, none, some (.aload_n 0), some (.getfield 14), none, none, some (.getfield 140), none, none, some (.iload_n 2), some .iaload, some (.bipush 6), none, some (.if_icmp .ne 7), none, none, some (.iconst 1), some (.goto 4), none, none, some (.iconst 0), some .ireturn]
def xi_51 : List (Option Instr) := [some (.aload_n 0), some (.getfield 68), none, none, some (.istore_n 2), some (.aload_n 0), some (.getfield 68), none, none, some (.aload_n 0), some (.getfield 62), none, none, some (.if_icmp .ge 32), none, none, some (.aload_n 0), some (.getfield 20), none, none, some (.aload_n 0), some (.getfield 68), none, none, some .laload, some (.ldc2_w 159), none, none, some .lcmp, some (.ifCond .ne 16), none, none, some (.aload_n 0), some .dup, some (.getfield 68), none, none, some (.iconst 1), some .iadd, some (.putfield 68), none, none, some (.goto (-37)), none, none, some (.aload_n 0), some (.getfield 68), none, none, some (.istore_n 3), some (.aload_n 0), some (.getfield 24), none, none, some (.aload_n 0), some (.getfield 68), none, none, some .iaload, some (.iconst 4), some (.if_icmp .ne 30), none, none, some (.aload_n 0), some (.getfield 14), none, none, some (.iconst 4), some (.aload_n 0), some (.getfield 68), none, none, some (.iconst 0), some (.invokevirtual 116), none, none, some .pop, some (.aload_n 0), some .dup, some (.getfield 68), none, none, some (.iconst 1), some .iadd, some (.putfield 68), none, none, some (.goto 39), none, none, some (.iload_n 1), some (.bipush 12), none, some (.if_icmp .ge 31), none, none, some (.aload_n 0), some (.bipush 40), none, some (.invokevirtual 149), none, none, some (.ifCond .eq 22), none, none, some (.aload_n 0), some (.iload_n 1), some (.iconst 1), some .iadd, some (.invokevirtual 133), none, none, some (.ifCond .eq 12), none, none, some (.aload_n 0), some (.bipush 41), none, some (.invokevirtual 149), none, none, some (.ifCond .ne 5), none, none, some (.iconst 0), some .ireturn, some (.aload_n 0), some (.invokevirtual 161), none, none, some (.ifCond .ne 5), none, none, some (.iconst 0), some .ireturn, some (.iload_n 3), some (.iconst 1), some .isub, some (.istore 4), none, some (.iload 4), none, some (.iload_n 2), some (.if_icmp .lt 22), none, none, some (.aload_n 0), some (.getfield 14), none, none, some (.bipush 7), none, some (.iload 4), none, some (.iconst 0), some (.invokevirtual 116), none, none, some .pop, some (.iinc 4 (-1)), none, none, some (.goto (-22)), none, none, some (.iconst 1), some .ireturn]
def xi_52 : List (Option Instr) := [some (.iconst 0), some (.istore_n 1), some (.iload_n 1), some (.aload_n 0), some (.getfield 62), none, none, some (.if_icmp .ge 126), none, none, some (.aload_n 0), some (.getfield 68), none, none, some (.istore_n 2), some (.aload_n 0), some (.bipush 40), none, some (.invokevirtual 149), none, none, some (.ifCond .eq 26), none, none, some (.aload_n 0), some (.getfield 14), none, none, some (.bipush 6), none, some (.iload_n 2), some (.iconst 0), some (.invokevirtual 116), none, none, some .pop, some (.aload_n 0), some (.bipush 41), none, some (.invokevirtual 149), none, none, some (.ifCond .ne 85), none, none, some (.iconst 0), some .ireturn, some (.aload_n 0), some (.bipush 91), none, some (.invokevirtual 149), none, none, some (.ifCond .eq 72), none, none, some (.aload_n 0), some (.getfield 14), none, none, some (.iconst 5), some (.aload_n 0), some (.getfield 68), none, none, some (.iconst 0), some (.invokevirtual 116), none, none, some .pop, some (.aload_n 0), some (.getfield 24), none, none, some (.aload_n 0), some (.getfield 68), none, none, some .iaload, some (.iconst 5), some (.if_icmp .ne 7), none, none, some (.iconst 1), some (.goto 4), none, none, some (.iconst 0), some (.istore_n 3), some (.aload_n 0), some .dup, some (.getfield 68), none, none, some (.iload_n 3), some (.ifCond .eq 7), none, none, some (.iconst 1), some (.goto 4), none, none, some (.iconst 0), some .iadd, some (.putfield 68), none, none, some (.iload_n 3), some (.ifCond .eq 12), none, none, some (.aload_n 0), some (.bipush 93), none, some (.invokevirtual 149), none, none, some (.ifCond .ne 5), none, none, some (.iconst 0), some .ireturn, some (.goto 5), none, none, some (.iconst 1), some .ireturn, some (.iinc 1 1), none, none, some (.goto (-128)), none, none, some (.iconst 1), some .ireturn]
def xi_53 : List (Option Instr) := [some (.aload_n 0), some (.getfield 14), none, none, some (.bipush 9), none, some (.aload_n 0), some (.getfield 68), none, none, some (.iconst 0), some (.invokevirtual 116), none, none, some (.istore_n 2), some (.aload_n 0), some (.getfield 71), none, none, some (.istore_n 3), some (.iload_n 1), some (.bipush 12), none, some (.if_icmp .gt 12), none, none, some (.aload_n 0), some (.bipush 123), none, some (.invokevirtual 149), none, none, some (.ifCond .ne 5), none, none, some (.iconst 0), some .ireturn, some (.iconst 0), some (.istore 4), none, some (.iload 4), none, some (.aload_n 0), some (.getfield 62), none, none, some (.if_icmp .ge 71), none, none, some (.aload_n 0), some (.bipush 125), none, some (.invokevirtual 149), none, none, some (.ifCond .eq 10), none, none, some (.aload_n 0), some (.iload_n 3), some (.putfield 71), none, none, some (.iconst 1), some .ireturn, some (.aload_n 0), some (.invokevirtual 120), none, none, some (.istore 5), none, some (.iload 5), none, some (.ifCond .eq 15), none, none, some (.aload_n 0), some (.iconst 0), some (.iload_n 1), some (.invokevirtual 123), none, none, some (.ifCond .ne 16), none, none, some (.goto 11), none, none, some (.aload_n 0), some (.iload_n 1), some (.invokevirtual 164), none, none, some (.ifCond .ne 5), none, none, some (.iconst 0), some .ireturn, some (.aload_n 0), some (.getfield 14), none, none, some (.getfield 127), none, none, some (.iload_n 2), some .dup2, some .iaload, some (.iconst 1), some .iadd, some .iastore, some (.iinc 4 1), none, none, some (.goto (-74)), none, none, some (.iconst 0), some .ireturn]
def xi_54 : List (Option Instr) := [some (.aload_n 0), some (.getfield 20), none, none, some (.aload_n 0), some (.getfield 68), none, none, some .laload, some (.ldc2_w 104), none, none, some .lcmp, some (.ifCond .ne 11), none, none, some (.aload_n 0), some (.iload_n 1), some (.iconst 1), some .iadd, some (.invokevirtual 146), none, none, some .ireturn, some (.aload_n 0), some (.getfield 24), none, none, some (.aload_n 0), some (.getfield 68), none, none, some .iaload, some (.iconst 3), some (.if_icmp .ne 7), none, none, some (.iconst 1), some (.goto 4), none, none, some (.iconst 0), some (.istore_n 2), some (.aload_n 0), some (.getfield 14), none, none, some (.iload_n 2), some (.ifCond .eq 8), none, none, some (.bipush 11), none, some (.goto 5), none, none, some (.bipush 10), none, some (.aload_n 0), some (.getfield 68), none, none, some (.iconst 0), some (.invokevirtual 116), none, none, some (.istore_n 3), some (.aload_n 0), some .dup, some (.getfield 68), none, none, some (.iload_n 2), some (.ifCond .eq 7), none, none, some (.iconst 1), some (.goto 4), none, none, some (.iconst 0), some .iadd, some (.putfield 68), none, none, some (.aload_n 0), some (.getfield 20), none, none, some (.aload_n 0), some (.getfield 68), none, none, some .laload, some (.ldc2_w 167), none, none, some .lcmp, some (.ifCond .eq 25), none, none, some (.aload_n 0), some (.getfield 14), none, none, some (.getfield 127), none, none, some (.iload_n 3), some (.iconst 1), some .iastore, some (.aload_n 0), some (.iload_n 1), some (.iconst 1), some .iadd, some (.invokevirtual 153), none, none, some (.ifCond .ne 5), none, none, some (.iconst 0), some .ireturn, some (.iload_n 2), some (.ifCond .ne 16), none, none, some (.aload_n 0), some (.getfield 14), none, none, some (.getfield 156), none, none, some (.iload_n 3), some (.aload_n 0), some (.getfield 68), none, none, some .iastore, some (.aload_n 0), some (.bipush 59), none, some (.invokevirtual 149), none, none, some .ireturn]
def xi_55 : List (Option Instr) := [some (.iload_n 1), some (.bipush 12), none, some (.if_icmp .le 5), none, none, some (.iconst 0), some .ireturn, some (.iconst 0), some (.istore_n 2), some (.iload_n 2), some (.aload_n 0), some (.getfield 62), none, none, some (.if_icmp .ge 71), none, none, some (.aload_n 0), some (.getfield 14), none, none, some (.getfield 39), none, none, some (.istore_n 3), some (.aload_n 0), some (.iconst 1), some (.iload_n 1), some (.invokevirtual 169), none, none, some (.ifCond .ne 5), none, none, some (.iconst 0), some .ireturn, some (.aload_n 0), some (.getfield 20), none, none, some (.aload_n 0), some (.getfield 68), none, none, some .laload, some (.ldc2_w 173), none, none, some .lcmp, some (.ifCond .eq 5), none, none, some (.iconst 1), some .ireturn, some (.aload_n 0), some (.getfield 14), none, none, some (.iload_n 3), some (.bipush 12), none, some (.aload_n 0), some (.getfield 68), none, none, some (.iconst 2), some (.invokevirtual 175), none, none, some (.aload_n 0), some .dup, some (.getfield 68), none, none, some (.iconst 1), some .iadd, some (.putfield 68), none, none, some (.iinc 2 1), none, none, some (.goto (-73)), none, none, some (.iconst 0), some .ireturn]
def xi_56 : List (Option Instr) := [some (.iload_n 1), some (.iconst 4), some (.if_icmp .le 9), none, none, some (.aload_n 0), some (.iload_n 2), some (.invokevirtual 179), none, none, some .ireturn, some (.aload_n 0), some (.getfield 14), none, none, some (.getfield 39), none, none, some (.istore_n 3), some (.iconst 0), some (.istore 4), none, some (.iload 4), none, some (.aload_n 0), some (.getfield 62), none, none, some (.if_icmp .ge 65), none, none, some (.aload_n 0), some (.iload_n 1), some (.iconst 1), some .iadd, some (.iload_n 2), some (.invokevirtual 169), none, none, some (.ifCond .ne 5), none, none, some (.iconst 0), some .ireturn, some (.aload_n 0), some (.getfield 20), none, none, some (.aload_n 0), some (.getfield 68), none, none, some .laload, some (.invokestatic 182), none, none, some (.iload_n 1), some (.if_icmp .eq 5), none, none, some (.iconst 1), some .ireturn, some (.aload_n 0), some (.getfield 14), none, none, some (.iload_n 3), some (.bipush 12), none, some (.aload_n 0), some (.getfield 68), none, none, some (.iconst 2), some (.invokevirtual 175), none, none, some (.aload_n 0), some .dup, some (.getfield 68), none, none, some (.iconst 1), some .iadd, some (.putfield 68), none, none, some (.iinc 4 1), none, none, some (.goto (-68)), none, none, some (.iconst 0), some .ireturn]
def xi_57 : List (Option Instr) := [some (.lload_n 0), some (.ldc2_w 159), none, none, some .lcmp, some (.ifCond .eq 11), none, none, some (.lload_n 0), some (.ldc2_w 185), none, none, some .lcmp, some (.ifCond .ne 5), none, none, some (.iconst 4), some .ireturn, some (.lload_n 0), some (.ldc2_w 187), none, none, some .lcmp, some (.ifCond .eq 11), none, none, some (.lload_n 0), some (.ldc2_w 189), none, none, some .lcmp, some (.ifCond .ne 5), none, none, some (.iconst 3), some .ireturn, some (.lload_n 0), some (.ldc2_w 191), none, none, some .lcmp, some (.ifCond .eq 11), none, none, some (.lload_n 0), some (.ldc2_w 193), none, none, some .lcmp, some (.ifCond .ne 5), none, none, some (.iconst 2), some .ireturn, some (.lload_n 0), some (.ldc 195), none, some (.invokestatic 83), none, none, some (.ifCond .eq 7), none, none, some (.iconst 1), some (.goto 4), none, none, some (.iconst 0), some .ireturn]
def xi_58 : List (Option Instr) := [some (.iconst 0), some (.istore_n 2), some (.iload_n 2), some (.aload_n 0), some (.getfield 62), none, none, some (.if_icmp .ge 104), none, none, some (.aload_n 0), some (.getfield 20), none, none, some (.aload_n 0), some (.getfield 68), none, none, some .laload, some (.lstore_n 3), some (.lload_n 3), some (.ldc2_w 189), none, none, some .lcmp, some (.ifCond .eq 19), none, none, some (.lload_n 3), some (.ldc2_w 159), none, none, some .lcmp, some (.ifCond .eq 11), none, none, some (.lload_n 3), some (.ldc2_w 197), none, none, some .lcmp, some (.ifCond .ne 31), none, none, some (.aload_n 0), some (.getfield 14), none, none, some (.bipush 13), none, some (.aload_n 0), some (.getfield 68), none, none, some (.iconst 1), some (.invokevirtual 116), none, none, some .pop, some (.aload_n 0), some .dup, some (.getfield 68), none, none, some (.iconst 1), some .iadd, some (.putfield 68), none, none, some (.goto 36), none, none, some (.lload_n 3), some (.ldc2_w 100), none, none, some .lcmp, some (.ifCond .ne 34), none, none, some (.aload_n 0), some (.aload_n 0), some (.getfield 68), none, none, some (.iconst 1), some .iadd, some (.invokevirtual 112), none, none, some (.ifCond .ne 6), none, none, some (.goto 18), none, none, some (.aload_n 0), some (.invokevirtual 199), none, none, some (.ifCond .ne 5), none, none, some (.iconst 0), some .ireturn, some (.iinc 2 1), none, none, some (.goto (-106)), none, none, some (.aload_n 0), some (.getfield 14), none, none, some (.getfield 39), none, none, some (.istore_n 2), some (.aload_n 0), some (.iload_n 1), some (.invokevirtual 202), none, none, some (.ifCond .eq 16), none, none, some (.aload_n 0), some (.iload_n 2), some (.iload_n 1), some (.invokevirtual 205), none, none, some (.ifCond .eq 7), none, none, some (.iconst 1), some (.goto 4), none, none, some (.iconst 0), some .ireturn]
def xi_59 : List (Option Instr) := [some (.aload_n 0), some (.getfield 14), none, none, some (.bipush 14), none, some (.aload_n 0), some (.getfield 68), none, none, some (.iconst 2), some (.invokevirtual 116), none, none, some (.istore_n 1), some (.aload_n 0), some .dup, some (.getfield 68), none, none, some (.iconst 1), some .iadd, some (.putfield 68), none, none, some (.aload_n 0), some (.invokevirtual 130), none, none, some (.ifCond .ne 5), none, none, some (.iconst 0), some .ireturn, some (.aload_n 0), some (.getfield 68), none, none, some (.aload_n 0), some (.getfield 62), none, none, some (.if_icmp .ge 60), none, none, some (.aload_n 0), some (.getfield 20), none, none, some (.aload_n 0), some (.getfield 68), none, none, some .laload, some (.ldc2_w 159), none, none, some .lcmp, some (.ifCond .ne 44), none, none, some (.aload_n 0), some (.getfield 14), none, none, some (.bipush 7), none, some (.aload_n 0), some (.getfield 68), none, none, some (.iconst 0), some (.invokevirtual 116), none, none, some .pop, some (.aload_n 0), some (.getfield 14), none, none, some (.getfield 127), none, none, some (.iload_n 1), some .dup2, some .iaload, some (.iconst 1), some .iadd, some .iastore, some (.aload_n 0), some .dup, some (.getfield 68), none, none, some (.iconst 1), some .iadd, some (.putfield 68), none, none, some (.goto (-65)), none, none, some (.aload_n 0), some (.bipush 41), none, some (.invokevirtual 149), none, none, some .ireturn]
def xi_60 : List (Option Instr) := [some (.aload_n 0), some (.bipush 40), none, some (.invokevirtual 149), none, none, some (.ifCond .eq 28), none, none, some (.aload_n 0), some (.iload_n 1), some (.iconst 1), some .iadd, some (.invokevirtual 153), none, none, some (.ifCond .eq 16), none, none, some (.aload_n 0), some (.bipush 41), none, some (.invokevirtual 149), none, none, some (.ifCond .eq 7), none, none, some (.iconst 1), some (.goto 4), none, none, some (.iconst 0), some .ireturn, some (.aload_n 0), some (.getfield 24), none, none, some (.aload_n 0), some (.getfield 68), none, none, some .iaload, some (.iconst 5), some (.if_icmp .ne 7), none, none, some (.iconst 1), some (.goto 4), none, none, some (.iconst 0), some (.istore_n 2), some (.aload_n 0), some (.getfield 24), none, none, some (.aload_n 0), some (.getfield 68), none, none, some .iaload, some (.iconst 4), some (.if_icmp .ne 18), none, none, some (.aload_n 0), some (.aload_n 0), some (.getfield 68), none, none, some (.invokevirtual 112), none, none, some (.ifCond .ne 7), none, none, some (.iconst 1), some (.goto 4), none, none, some (.iconst 0), some (.istore_n 3), some (.aload_n 0), some (.getfield 14), none, none, some (.iload_n 2), some (.ifCond .eq 8), none, none, some (.bipush 18), none, some (.goto 5), none, none, some (.bipush 17), none, some (.aload_n 0), some (.getfield 68), none, none, some (.iconst 0), some (.invokevirtual 116), none, none, some .pop, some (.aload_n 0), some .dup, some (.getfield 68), none, none, some (.iload_n 2), some (.ifCond .ne 7), none, none, some (.iload_n 3), some (.ifCond .eq 7), none, none, some (.iconst 1), some (.goto 4), none, none, some (.iconst 0), some .iadd, some (.putfield 68), none, none, some (.iload_n 2), some (.ifCond .ne 7), none, none, some (.iload_n 3), some (.ifCond .eq 7), none, none, some (.iconst 1), some (.goto 4), none, none, some (.iconst 0), some .ireturn]
def xi_61 : List (Option Instr) := [some (.iconst 0), some (.istore_n 3), some (.iload_n 3), some (.aload_n 0), some (.getfield 62), none, none, some (.if_icmp .ge 102), none, none, some (.aload_n 0), some (.getfield 68), none, none, some (.istore 4), none, some (.aload_n 0), some (.bipush 91), none, some (.invokevirtual 149), none, none, some (.ifCond .eq 37), none, none, some (.aload_n 0), some (.getfield 14), none, none, some (.iload_n 1), some (.bipush 15), none, some (.iload 4), none, some (.iconst 2), some (.invokevirtual 175), none, none, some (.aload_n 0), some (.iload_n 2), some (.iconst 1), some .iadd, some (.invokevirtual 153), none, none, some (.ifCond .eq 12), none, none, some (.aload_n 0), some (.bipush 93), none, some (.invokevirtual 149), none, none, some (.ifCond .ne 49), none, none, some (.iconst 0), some .ireturn, some (.aload_n 0), some (.bipush 40), none, some (.invokevirtual 149), none, none, some (.ifCond .eq 36), none, none, some (.aload_n 0), some (.getfield 14), none, none, some (.iload_n 1), some (.bipush 16), none, some (.iload 4), none, some (.iconst 1), some (.invokevirtual 175), none, none, some (.aload_n 0), some (.bipush 41), none, some (.invokevirtual 149), none, none, some (.ifCond .ne 16), none, none, some (.aload_n 0), some (.iload_n 1), some (.iload_n 2), some (.invokevirtual 208), none, none, some (.ifCond .ne 7), none, none, some (.iconst 0), some .ireturn, some (.iconst 1), some .ireturn, some (.iinc 3 1), none, none, some (.goto (-104)), none, none, some (.iconst 1), some .ireturn]
def xi_62 : List (Option Instr) := [some (.iconst 0), some (.istore_n 3), some (.iload_n 3), some (.aload_n 0), some (.getfield 62), none, none, some (.if_icmp .ge 50), none, none, some (.aload_n 0), some (.iload_n 2), some (.iconst 1), some .iadd, some (.invokevirtual 153), none, none, some (.ifCond .ne 5), none, none, some (.iconst 0), some .ireturn, some (.aload_n 0), some (.getfield 14), none, none, some (.getfield 127), none, none, some (.iload_n 1), some .dup2, some .iaload, some (.iconst 1), some .iadd, some .iastore, some (.aload_n 0), some (.bipush 44), none, some (.invokevirtual 149), none, none, some (.ifCond .ne 10), none, none, some (.aload_n 0), some (.bipush 41), none, some (.invokevirtual 149), none, none, some .ireturn, some (.iinc 3 1), none, none, some (.goto (-52)), none, none, some (.iconst 0), some .ireturn]
def xi_63 : List (Option Instr) := [some (.aload_n 0), some (.invokespecial 7), none, none, some (.aload_n 0), some (.new 13), none, none, some .dup, some (.invokespecial 15), none, none, some (.putfield 16), none, none, some (.aload_n 0), some (.new 20), none, none, some .dup, some (.invokespecial 22), none, none, some (.putfield 23), none, none, some (.aload_n 0), some (.iconst 4), some (.anewarray 27), none, none, some (.putfield 29), none, none, some (.iconst 0), some (.istore_n 1), some (.iload_n 1), some (.iconst 4), some (.if_icmp .ge 22), none, none, some (.aload_n 0), some (.getfield 29), none, none, some (.iload_n 1), some (.new 27), none, none, some .dup, some (.invokespecial 33), none, none, some .aastore, some (.iinc 1 1), none, none, some (.goto (-21)), none, none, some .return_]
def xi_64 : List (Option Instr) := [some (.aload_n 0), some (.getfield 16), none, none, some (.invokevirtual 34), none, none, some (.aload_n 0), some (.iconst 0), some (.putfield 37), none, none, some (.aload_n 0), some (.iconst 0), some (.putfield 41), none, none, some (.aload_n 0), some (.getfield 29), none, none, some (.iconst 0), some .aaload, some (.iload_n 2), some (.invokevirtual 44), none, none, some (.iconst 0), some (.istore_n 3), some (.iconst 0), some (.istore 4), none, some (.iload 4), none, some (.sipush 1782), none, none, some (.if_icmp .ge 92), none, none, some (.aload_n 0), some (.getfield 41), none, none, some (.ifCond .lt 85), none, none, some (.iload_n 3), some (.ifCond .ne 81), none, none, some (.aload_n 0), some (.getfield 29), none, none, some (.aload_n 0), some (.getfield 41), none, none, some .aaload, some (.astore 5), none, some (.aload 5), none, some (.getfield 47), none, none, some (.ifCond .ne 23), none, none, some (.aload_n 0), some (.getfield 23), none, none, some (.aload_n 1), some (.aload 5), none, some (.getfield 51), none, none, some .aaload, some (.aload 5), none, some (.invokevirtual 54), none, none, some (.istore_n 3), some (.goto 36), none, none, some (.aload 5), none, some (.getfield 58), none, none, some (.aload 5), none, some (.getfield 61), none, none, some (.getfield 65), none, none, some (.if_icmp .ge 13), none, none, some (.aload_n 0), some (.aload 5), none, some (.invokevirtual 70), none, none, some (.istore_n 3), some (.goto 10), none, none, some (.aload_n 0), some (.aload 5), none, some (.invokevirtual 74), none, none, some (.istore_n 3), some (.iinc 4 1), none, none, some (.goto (-94)), none, none, some (.iload_n 3), some .ireturn]
def xi_65 : List (Option Instr) := [some (.aload_n 1), some (.getfield 58), none, none, some (.istore_n 2), some (.aload_n 1), some (.iload_n 2), some (.invokevirtual 77), none, none, some (.istore_n 3), some (.aload_n 1), some (.iload_n 3), some (.putfield 58), none, none, some (.aload_n 1), some (.getfield 81), none, none, some (.ifCond .eq 19), none, none, some (.aload_n 1), some (.iload_n 2), some (.iload_n 3), some (.invokevirtual 84), none, none, some (.ifCond .ne 10), none, none, some (.aload_n 1), some (.iload_n 3), some (.putfield 88), none, none, some (.iconst 0), some .ireturn, some (.aload_n 1), some (.getfield 61), none, none, some (.getfield 91), none, none, some (.iload_n 2), some .laload, some (.ldc2_w 95), none, none, some .lcmp, some (.ifCond .eq 5), none, none, some (.iconst 0), some .ireturn, some (.aload_n 0), some (.getfield 16), none, none, some (.aload_n 1), some (.getfield 61), none, none, some (.aload_n 1), some (.getfield 88), none, none, some (.iload_n 2), some (.invokevirtual 97), none, none, some (.istore 4), none, some (.aload_n 1), some (.iload_n 3), some (.putfield 88), none, none, some (.iload 4), none, some (.ifCond .ne 15), none, none, some (.aload_n 0), some (.aload_n 1), some (.iload_n 2), some (.iconst 1), some .iadd, some (.iload_n 3), some (.invokevirtual 101), none, none, some (.goto 5), none, none, some (.iload 4), none, some .ireturn]
def xi_66 : List (Option Instr) := [some (.aload_n 0), some (.getfield 16), none, none, some (.aload_n 1), some (.getfield 61), none, none, some (.aload_n 1), some (.getfield 88), none, none, some (.aload_n 1), some (.getfield 61), none, none, some (.getfield 65), none, none, some (.invokevirtual 97), none, none, some (.istore_n 2), some (.aload_n 0), some .dup, some (.getfield 41), none, none, some (.iconst 1), some .isub, some (.putfield 41), none, none, some (.iload_n 2), some (.ifCond .ne 14), none, none, some (.aload_n 1), some (.getfield 105), none, none, some (.ifCond .le 7), none, none, some (.iconst 4), some (.goto 4), none, none, some (.iload_n 2), some .ireturn]
def xi_67 : List (Option Instr) := [some (.iload_n 2), some (.iload_n 3), some (.if_icmp .lt 5), none, none, some (.iconst 0), some .ireturn, some (.aload_n 1), some (.getfield 61), none, none, some (.getfield 91), none, none, some (.iload_n 2), some .laload, some (.lstore 4), none, some (.iload_n 2), some (.iconst 1), some .iadd, some (.iload_n 3), some (.if_icmp .ne 7), none, none, some (.iconst 1), some (.goto 4), none, none, some (.iconst 0), some (.istore 6), none, some (.lload 4), none, some (.ldc 108), none, some (.invokestatic 110), none, none, some (.ifCond .eq 13), none, none, some (.aload_n 0), some (.aload_n 1), some (.iload_n 2), some (.iconst 1), some .iadd, some (.iload_n 3), some (.invokevirtual 114), none, none, some .ireturn, some (.lload 4), none, some (.ldc 116), none, some (.invokestatic 110), none, none, some (.ifCond .eq 16), none, none, some (.aload_n 0), some (.aload_n 1), some (.getfield 61), none, none, some (.iload_n 2), some (.iconst 1), some .iadd, some (.iload_n 3), some (.invokevirtual 118), none, none, some .ireturn, some (.lload 4), none, some (.ldc 120), none, some (.invokestatic 110), none, none, some (.ifCond .eq 17), none, none, some (.iload 6), none, some (.ifCond .eq 10), none, none, some (.aload_n 1), some (.invokevirtual 122), none, none, some (.goto 4), none, none, some (.iconst 3), some .ireturn, some (.lload 4), none, some (.ldc 126), none, some (.invokestatic 110), none, none, some (.ifCond .eq 17), none, none, some (.iload 6), none, some (.ifCond .eq 10), none, none, some (.aload_n 1), some (.invokevirtual 128), none, none, some (.goto 4), none, none, some (.iconst 3), some .ireturn, some (.iload_n 2), some (.iconst 2), some .iadd, some (.iload_n 3), some (.if_icmp .ne 20), none, none, some (.aload_n 1), some (.getfield 61), none, none, some (.getfield 91), none, none, some (.iload_n 2), some (.iconst 1), some .iadd, some .laload, some (.invokestatic 131), none, none, some (.ifCond .ne 5), none, none, some (.iconst 3), some .ireturn, some (.aload_n 0), some (.aload_n 1), some (.lload 4), none, some (.aload_n 1), some (.getfield 61), none, none, some (.getfield 91), none, none, some (.iload_n 2), some (.iconst 1), some .iadd, some .laload, some (.invokevirtual 135), none, none, some .ireturn]
def xi_68 : List (Option Instr) := [some (.lload_n 2), some (.ldc 139), none, some (.invokestatic 110), none, none, some (.ifCond .eq 17), none, none, some (.aload_n 0), some (.getfield 16), none, none, some (.getfield 141), none, none, some (.lload 4), none, some (.invokevirtual 145), none, none, some (.iconst 0), some .ireturn, some (.aload_n 0), some (.getfield 16), none, none, some (.getfield 141), none, none, some (.lload 4), none, some (.invokevirtual 151), none, none, some (.ifCond .lt 7), none, none, some (.iconst 1), some (.goto 4), none, none, some (.iconst 0), some (.istore 6), none, some (.lload_n 2), some (.ldc 155), none, some (.invokestatic 110), none, none, some (.ifCond .eq 10), none, none, some (.aload_n 1), some (.iload 6), none, some (.invokevirtual 157), none, none, some .ireturn, some (.lload_n 2), some (.ldc 161), none, some (.invokestatic 110), none, none, some (.ifCond .eq 18), none, none, some (.aload_n 1), some (.iload 6), none, some (.ifCond .ne 7), none, none, some (.iconst 1), some (.goto 4), none, none, some (.iconst 0), some (.invokevirtual 157), none, none, some .ireturn, some (.iconst 3), some .ireturn]
def xi_69 : List (Option Instr) := [some (.iload_n 2), some (.iconst 3), some .iadd, some (.iload_n 3), some (.if_icmp .ne 31), none, none, some (.aload_n 1), some (.getfield 91), none, none, some (.iload_n 2), some .laload, some (.ldc2_w 163), none, none, some .lcmp, some (.ifCond .ne 18), none, none, some (.aload_n 1), some (.getfield 91), none, none, some (.iload_n 2), some (.iconst 2), some .iadd, some .laload, some (.ldc2_w 165), none, none, some .lcmp, some (.ifCond .eq 5), none, none, some (.iconst 3), some .ireturn, some (.aload_n 1), some (.getfield 91), none, none, some (.iload_n 2), some (.iconst 1), some .iadd, some .laload, some (.lstore 4), none, some (.lload 4), none, some (.ldc2_w 167), none, none, some .lcmp, some (.ifCond .lt 12), none, none, some (.lload 4), none, some (.ldc2_w 169), none, none, some .lcmp, some (.ifCond .lt 5), none, none, some (.iconst 3), some .ireturn, some (.aload_n 0), some (.getfield 41), none, none, some (.iconst 1), some .iadd, some (.iconst 4), some (.if_icmp .ge 12), none, none, some (.aload_n 0), some (.getfield 37), none, none, some (.bipush 10), none, some (.if_icmp .lt 5), none, none, some (.iconst 5), some .ireturn, some (.aload_n 0), some .dup, some (.getfield 37), none, none, some (.iconst 1), some .iadd, some (.putfield 37), none, none, some (.aload_n 0), some .dup, some (.getfield 41), none, none, some (.iconst 1), some .iadd, some (.putfield 41), none, none, some (.aload_n 0), some (.getfield 29), none, none, some (.aload_n 0), some (.getfield 41), none, none, some .aaload, some (.lload 4), none, some (.ldc2_w 167), none, none, some .lsub, some .l2i, some (.invokevirtual 44), none, none, some (.iconst 0), some .ireturn]
def xi_70 : List (Option Instr) := [some (.aload_n 1), some (.getfield 61), none, none, some (.astore 4), none, some (.iload_n 2), some (.iload_n 3), some (.if_icmp .ge 16), none, none, some (.aload 4), none, some (.getfield 91), none, none, some (.iload_n 2), some .laload, some (.invokestatic 131), none, none, some (.ifCond .ne 5), none, none, some (.iconst 3), some .ireturn, some (.iload_n 2), some (.iconst 1), some .iadd, some (.iload_n 3), some (.if_icmp .ge 34), none, none, some (.aload 4), none, some (.getfield 91), none, none, some (.iload_n 2), some (.iconst 1), some .iadd, some .laload, some (.ldc2_w 171), none, none, some .lcmp, some (.ifCond .ne 18), none, none, some (.aload_n 1), some (.getfield 173), none, none, some (.iload_n 2), some (.iconst 1), some .iadd, some .baload, some (.ifCond .eq 7), none, none, some (.iconst 1), some (.goto 4), none, none, some (.iconst 0), some (.istore 5), none, some (.iload 5), none, some (.ifCond .eq 9), none, none, some (.iload_n 2), some (.iconst 2), some .iadd, some (.goto 4), none, none, some (.iconst (-1)), some (.istore 6), none, some (.iload 5), none, some (.ifCond .eq 14), none, none, some (.aload 4), none, some (.iload 6), none, some (.iload_n 3), some (.invokestatic 177), none, none, some (.goto 6), none, none, some (.iload_n 2), some (.iconst 1), some .iadd, some (.istore 7), none, some (.iload 7), none, some (.ifCond .lt 14), none, none, some (.aload 4), none, some (.iload 7), none, some (.iload_n 3), some (.invokestatic 180), none, none, some (.ifCond .ne 5), none, none, some (.iconst 3), some .ireturn, some (.aload_n 0), some (.getfield 16), none, none, some (.getfield 141), none, none, some (.aload 4), none, some (.iload_n 2), some (.iload 6), none, some (.iload 7), none, some (.iload_n 3), some (.invokevirtual 184), none, none, some .ireturn]
def xi_71 : List (Option Instr) := [some (.iload_n 1), some (.iload_n 2), some (.if_icmp .ge 20), none, none, some (.aload_n 0), some (.getfield 91), none, none, some (.iload_n 1), some .laload, some (.ldc2_w 187), none, none, some .lcmp, some (.ifCond .ne 7), none, none, some (.iload_n 1), some (.iconst 1), some .iadd, some .ireturn, some (.iload_n 1), some (.istore_n 3), some (.iload_n 3), some (.iconst 1), some .iadd, some (.iload_n 2), some (.if_icmp .ge 68), none, none, some (.aload_n 0), some (.getfield 91), none, none, some (.iload_n 3), some .laload, some (.invokestatic 131), none, none, some (.ifCond .eq 12), none, none, some (.aload_n 0), some (.iload_n 1), some (.iload_n 3), some (.invokestatic 189), none, none, some (.ifCond .eq 5), none, none, some (.iconst (-1)), some .ireturn, some (.aload_n 0), some (.getfield 91), none, none, some (.iload_n 3), some (.iconst 1), some .iadd, some .laload, some (.ldc2_w 187), none, none, some .lcmp, some (.ifCond .ne 7), none, none, some (.iload_n 3), some (.iconst 2), some .iadd, some .ireturn, some (.aload_n 0), some (.getfield 91), none, none, some (.iload_n 3), some (.iconst 1), some .iadd, some .laload, some (.ldc2_w 192), none, none, some .lcmp, some (.ifCond .eq 5), none, none, some (.iconst (-1)), some .ireturn, some (.iinc 3 2), none, none, some (.goto (-69)), none, none, some (.iconst (-1)), some .ireturn]
def xi_72 : List (Option Instr) := [some (.iload_n 1), some (.istore_n 3), some (.iload_n 3), some (.iload_n 2), some (.if_icmp .ge 27), none, none, some (.aload_n 0), some (.getfield 91), none, none, some (.iload_n 3), some .laload, some (.aload_n 0), some (.getfield 91), none, none, some (.iload_n 2), some .laload, some .lcmp, some (.ifCond .ne 5), none, none, some (.iconst 1), some .ireturn, some (.iinc 3 2), none, none, some (.goto (-26)), none, none, some (.iconst 0), some .ireturn]
def xi_73 : List (Option Instr) := [some (.iload_n 1), some (.istore_n 3), some (.iload_n 3), some (.iload_n 2), some (.if_icmp .ge 75), none, none, some (.iload_n 3), some (.iload_n 1), some (.if_icmp .eq 10), none, none, some (.iload_n 3), some (.iload_n 2), some (.iconst 1), some .isub, some (.if_icmp .ne 7), none, none, some (.iconst 1), some (.goto 4), none, none, some (.iconst 0), some (.istore 4), none, some (.aload_n 0), some (.getfield 91), none, none, some (.iload_n 3), some .laload, some (.ldc2_w 194), none, none, some .lcmp, some (.ifCond .ne 7), none, none, some (.iconst 1), some (.goto 4), none, none, some (.iconst 0), some (.istore 5), none, some (.iload 5), none, some (.ifCond .eq 25), none, none, some (.iload 4), none, some (.ifCond .ne 18), none, none, some (.aload_n 0), some (.getfield 91), none, none, some (.iload_n 3), some (.iconst 1), some .iadd, some .laload, some (.ldc2_w 194), none, none, some .lcmp, some (.ifCond .ne 5), none, none, some (.iconst 0), some .ireturn, some (.iinc 3 1), none, none, some (.goto (-74)), none, none, some (.iconst 1), some .ireturn]
def xi_74 : List (Option Instr) := [some (.aload_n 0), some (.invokespecial 3), none, none, some (.aload_n 0), some (.sipush 161), none, none, some (.newarray .char), none, some (.putfield 11), none, none, some (.aload_n 0), some (.sipush 161), none, none, some (.newarray .int), none, some (.putfield 17), none, none, some .return_]
def xi_75 : List (Option Instr) := [some (.aload_n 2), some (.iconst 1), some (.putfield 21), none, none, some (.aload_n 0), some (.aload_n 1), some (.invokevirtual 27), none, none, some (.aload_n 0), some (.invokevirtual 31), none, none, some (.aload_n 0), some (.aload_n 2), some (.invokevirtual 34), none, none, some .ireturn]
def xi_76 : List (Option Instr) := [some (.aload_n 0), some (.iconst 0), some (.putfield 38), none, none, some (.iconst 0), some (.istore_n 2), some (.iconst 0), some (.istore_n 3), some (.iload_n 3), some (.aload_n 1), some (.getfield 42), none, none, some (.if_icmp .ge 98), none, none, some (.aload_n 1), some (.iload_n 3), some (.invokestatic 43), none, none, some (.istore 4), none, some (.aload_n 1), some (.getfield 47), none, none, some (.iload_n 3), some .caload, some (.istore 5), none, some (.aload_n 0), some (.getfield 11), none, none, some (.aload_n 0), some (.getfield 38), none, none, some (.iload 4), none, some (.ifCond .ge 8), none, none, some (.iload 5), none, some (.goto 10), none, none, some (.ldc 48), none, some (.iload 4), none, some (.invokevirtual 50), none, none, some .castore, some (.aload_n 0), some (.getfield 17), none, none, some (.aload_n 0), some (.getfield 38), none, none, some (.iload_n 2), some .iastore, some (.aload_n 0), some .dup, some (.getfield 38), none, none, some (.iconst 1), some .iadd, some (.putfield 38), none, none, some (.iload_n 2), some (.iload 5), none, some (.bipush 10), none, some (.if_icmp .ne 7), none, none, some (.iconst 1), some (.goto 4), none, none, some (.iconst 0), some .iadd, some (.istore_n 2), some (.iload_n 3), some (.iload 4), none, some (.ifCond .ge 7), none, none, some (.iconst 0), some (.goto 4), none, none, some (.iconst 2), some .iadd, some (.istore_n 3), some (.iinc 3 1), none, none, some (.goto (-100)), none, none, some .return_]
def xi_77 : List (Option Instr) := [some (.iload_n 1), some (.iconst 2), some .iadd, some (.aload_n 0), some (.getfield 42), none, none, some (.if_icmp .ge 27), none, none, some (.aload_n 0), some (.getfield 47), none, none, some (.iload_n 1), some .caload, some (.bipush 63), none, some (.if_icmp .ne 16), none, none, some (.aload_n 0), some (.getfield 47), none, none, some (.iload_n 1), some (.iconst 1), some .iadd, some .caload, some (.bipush 63), none, some (.if_icmp .eq 5), none, none, some (.iconst (-1)), some .ireturn, some (.ldc 56), none, some (.aload_n 0), some (.getfield 47), none, none, some (.iload_n 1), some (.iconst 2), some .iadd, some .caload, some (.invokevirtual 58), none, none, some .ireturn]
def xi_78 : List (Option Instr) := [some (.iconst 0), some (.istore_n 1), some (.iconst 0), some (.istore_n 2), some (.iload_n 2), some (.aload_n 0), some (.getfield 38), none, none, some (.if_icmp .ge 76), none, none, some (.aload_n 0), some (.getfield 11), none, none, some (.iload_n 2), some .caload, some (.bipush 92), none, some (.if_icmp .ne 32), none, none, some (.iload_n 2), some (.iconst 1), some .iadd, some (.aload_n 0), some (.getfield 38), none, none, some (.if_icmp .ge 22), none, none, some (.aload_n 0), some (.getfield 11), none, none, some (.iload_n 2), some (.iconst 1), some .iadd, some .caload, some (.bipush 10), none, some (.if_icmp .ne 9), none, none, some (.iinc 2 1), none, none, some (.goto 30), none, none, some (.aload_n 0), some (.getfield 11), none, none, some (.iload_n 1), some (.aload_n 0), some (.getfield 11), none, none, some (.iload_n 2), some .caload, some .castore, some (.aload_n 0), some (.getfield 17), none, none, some (.iload_n 1), some (.aload_n 0), some (.getfield 17), none, none, some (.iload_n 2), some .iaload, some .iastore, some (.iinc 1 1), none, none, some (.iinc 2 1), none, none, some (.goto (-78)), none, none, some (.aload_n 0), some (.iload_n 1), some (.putfield 38), none, none, some (.aload_n 0), some (.getfield 38), none, none, some (.ifCond .le 40), none, none, some (.aload_n 0), some (.getfield 11), none, none, some (.aload_n 0), some (.getfield 38), none, none, some (.iconst 1), some .isub, some .caload, some (.bipush 10), none, some (.if_icmp .eq 24), none, none, some (.aload_n 0), some (.getfield 11), none, none, some (.aload_n 0), some (.getfield 38), none, none, some (.bipush 10), none, some .castore, some (.aload_n 0), some .dup, some (.getfield 38), none, none, some (.iconst 1), some .iadd, some (.putfield 38), none, none, some .return_]
def xi_79 : List (Option Instr) := [some (.iconst 0), some (.istore_n 2), some (.iconst 0), some (.istore_n 3), some (.iconst 0), some (.istore 4), none, some (.iconst 0), some (.istore 5), none, some (.iload 5), none, some (.sipush 160), none, none, some (.if_icmp .gt 153), none, none, some (.iload 4), none, some (.aload_n 0), some (.getfield 38), none, none, some (.if_icmp .ge 144), none, none, some (.aload_n 0), some (.iload 4), none, some (.invokevirtual 62), none, none, some (.istore 6), none, some (.iload 6), none, some (.ifCond .ge 5), none, none, some (.iconst 1), some .ireturn, some (.iload 6), none, some (.iload 4), none, some (.if_icmp .le 7), none, none, some (.iconst 1), some (.goto 4), none, none, some (.iconst 0), some (.istore 7), none, some (.iload 7), none, some (.ifCond .eq 26), none, none, some (.iload_n 2), some (.aload_n 0), some (.getfield 11), none, none, some (.iload 4), none, some .caload, some (.bipush 10), none, some (.if_icmp .ne 7), none, none, some (.iconst 1), some (.goto 4), none, none, some (.iconst 0), some .iadd, some (.istore_n 2), some (.goto 66), none, none, some (.aload_n 0), some (.iload 4), none, some (.invokevirtual 65), none, none, some (.istore 6), none, some (.iload 6), none, some (.iload 4), none, some (.if_icmp .eq 13), none, none, some (.iload 6), none, some (.iload 4), none, some .isub, some (.bipush 9), none, some (.if_icmp .le 5), none, none, some (.iconst 2), some .ireturn, some (.sipush 1000), none, none, some (.aload_n 1), some (.getfield 70), none, none, some .imul, some (.iconst 1), some .iadd, some (.aload_n 0), some (.getfield 17), none, none, some (.iload 4), none, some .iaload, some .iadd, some (.istore 8), none, some (.aload_n 1), some (.aload_n 0), some (.iload 4), none, some (.iload 6), none, some (.invokevirtual 73), none, none, some (.iload 8), none, some (.iload_n 2), some (.iload_n 3), some (.invokevirtual 77), none, none, some (.iload 7), none, some (.ifCond .ne 7), none, none, some (.iconst 1), some (.goto 4), none, none, some (.iconst 0), some (.istore_n 3), some (.iload 6), none, some (.istore 4), none, some (.iinc 5 1), none, none, some (.goto (-155)), none, none, some (.iconst 0), some .ireturn]
def xi_80 : List (Option Instr) := [some (.aload_n 0), some (.getfield 11), none, none, some (.iload_n 1), some .caload, some (.istore_n 2), some (.iload_n 2), some (.bipush 32), none, some (.if_icmp .eq 9), none, none, some (.iload_n 2), some (.bipush 10), none, some (.if_icmp .ne 7), none, none, some (.iload_n 1), some (.iconst 1), some .iadd, some .ireturn, some (.iload_n 1), some (.iconst 1), some .iadd, some (.aload_n 0), some (.getfield 38), none, none, some (.if_icmp .ge 14), none, none, some (.aload_n 0), some (.getfield 11), none, none, some (.iload_n 1), some (.iconst 1), some .iadd, some .caload, some (.goto 5), none, none, some (.bipush 32), none, some (.istore_n 3), some (.iload_n 2), some (.bipush 47), none, some (.if_icmp .ne 17), none, none, some (.iload_n 3), some (.bipush 42), none, some (.if_icmp .ne 11), none, none, some (.aload_n 0), some (.iload_n 1), some (.iconst 2), some .iadd, some (.invokevirtual 81), none, none, some .ireturn, some (.iload_n 2), some (.bipush 47), none, some (.if_icmp .ne 17), none, none, some (.iload_n 3), some (.bipush 47), none, some (.if_icmp .ne 11), none, none, some (.aload_n 0), some (.iload_n 1), some (.invokevirtual 84), none, none, some (.goto 4), none, none, some (.iload_n 1), some .ireturn]
def xi_81 : List (Option Instr) := [some (.iload_n 1), some (.istore_n 2), some (.iload_n 2), some (.iconst 1), some .iadd, some (.aload_n 0), some (.getfield 38), none, none, some (.if_icmp .ge 37), none, none, some (.aload_n 0), some (.getfield 11), none, none, some (.iload_n 2), some .caload, some (.bipush 42), none, some (.if_icmp .ne 20), none, none, some (.aload_n 0), some (.getfield 11), none, none, some (.iload_n 2), some (.iconst 1), some .iadd, some .caload, some (.bipush 47), none, some (.if_icmp .ne 7), none, none, some (.iload_n 2), some (.iconst 2), some .iadd, some .ireturn, some (.iinc 2 1), none, none, some (.goto (-41)), none, none, some (.iconst (-1)), some .ireturn]
def xi_82 : List (Option Instr) := [some (.iload_n 1), some (.istore_n 2), some (.iload_n 2), some (.aload_n 0), some (.getfield 38), none, none, some (.if_icmp .ge 20), none, none, some (.aload_n 0), some (.getfield 11), none, none, some (.iload_n 2), some .caload, some (.bipush 10), none, some (.if_icmp .eq 9), none, none, some (.iinc 2 1), none, none, some (.goto (-22)), none, none, some (.iload_n 2), some .ireturn]
def xi_83 : List (Option Instr) := [some (.aload_n 0), some (.getfield 11), none, none, some (.iload_n 1), some .caload, some (.istore_n 2), some (.ldc 87), none, some (.iload_n 2), some (.invokevirtual 58), none, none, some (.ifCond .lt 57), none, none, some (.iload_n 1), some (.iconst 1), some .iadd, some (.aload_n 0), some (.getfield 38), none, none, some (.if_icmp .ge 31), none, none, some (.aload_n 0), some (.getfield 11), none, none, some (.iload_n 1), some (.iconst 1), some .iadd, some .caload, some (.iload_n 2), some (.if_icmp .ne 19), none, none, some (.iload_n 2), some (.bipush 35), none, some (.if_icmp .eq 9), none, none, some (.iload_n 2), some (.bipush 61), none, some (.if_icmp .ne 7), none, none, some (.iconst 1), some (.goto 4), none, none, some (.iconst 0), some (.istore_n 3), some (.iload_n 3), some (.ifCond .eq 9), none, none, some (.iload_n 1), some (.iconst 2), some .iadd, some (.goto 6), none, none, some (.iload_n 1), some (.iconst 1), some .iadd, some .ireturn, some (.iload_n 1), some (.istore_n 3), some (.iload_n 3), some (.aload_n 0), some (.getfield 38), none, none, some (.if_icmp .ge 22), none, none, some (.aload_n 0), some (.getfield 11), none, none, some (.iload_n 3), some .caload, some .i2l, some (.invokestatic 89), none, none, some (.ifCond .eq 9), none, none, some (.iinc 3 1), none, none, some (.goto (-24)), none, none, some (.iload_n 3), some .ireturn]
def xi_84 : List (Option Instr) := [some (.lconst 0), some (.lstore_n 3), some (.iload_n 1), some (.istore 5), none, some (.iload 5), none, some (.iload_n 2), some (.if_icmp .ge 23), none, none, some (.lload_n 3), some (.bipush 7), none, some .lshl, some (.aload_n 0), some (.getfield 11), none, none, some (.iload 5), none, some .caload, some .i2l, some .ladd, some (.lstore_n 3), some (.iinc 5 1), none, none, some (.goto (-23)), none, none, some (.lload_n 3), some .lreturn]
def xi_85 : List (Option Instr) := [some (.aload_n 0), some (.invokespecial 5), none, none, some (.aload_n 0), some (.new 11), none, none, some .dup, some (.sipush 160), none, none, some (.invokespecial 13), none, none, some (.putfield 16), none, none, some (.aload_n 0), some (.sipush 160), none, none, some (.newarray .int), none, some (.putfield 22), none, none, some (.aload_n 0), some (.sipush 160), none, none, some (.newarray .boolean), none, some (.putfield 26), none, none, some (.aload_n 0), some (.bipush 18), none, some (.newarray .boolean), none, some (.putfield 30), none, none, some (.aload_n 0), some (.bipush 18), none, some (.newarray .boolean), none, some (.putfield 33), none, none, some .return_]
def xi_86 : List (Option Instr) := [some (.aload_n 0), some (.iload_n 1), some (.putfield 36), none, none, some (.aload_n 0), some (.iconst 0), some (.putfield 40), none, none, some (.aload_n 0), some (.getfield 16), none, none, some (.iconst 0), some (.putfield 44), none, none, some (.aload_n 0), some (.iconst 0), some (.putfield 47), none, none, some (.aload_n 0), some (.iconst 0), some (.putfield 50), none, none, some (.aload_n 0), some (.iconst 0), some (.putfield 53), none, none, some (.aload_n 0), some (.iconst 0), some (.putfield 56), none, none, some (.aload_n 0), some (.iconst 0), some (.putfield 59), none, none, some .return_]
def xi_87 : List (Option Instr) := [some (.aload_n 0), some (.getfield 16), none, none, some (.getfield 44), none, none, some (.istore 6), none, some (.iload 6), none, some (.sipush 160), none, none, some (.if_icmp .ge 31), none, none, some (.aload_n 0), some (.getfield 22), none, none, some (.iload 6), none, some (.iload 4), none, some .iastore, some (.aload_n 0), some (.getfield 26), none, none, some (.iload 6), none, some (.iload 5), none, some .bastore, some (.aload_n 0), some (.getfield 16), none, none, some (.lload_n 1), some (.iload_n 3), some (.iconst 0), some (.invokevirtual 62), none, none, some .return_]
def xi_88 : List (Option Instr) := [some (.iload_n 1), some (.istore_n 2), some (.iload_n 2), some (.aload_n 0), some (.getfield 16), none, none, some (.getfield 44), none, none, some (.if_icmp .ge 24), none, none, some (.aload_n 0), some (.getfield 22), none, none, some (.iload_n 2), some .iaload, some (.aload_n 0), some (.getfield 22), none, none, some (.iload_n 1), some .iaload, some (.if_icmp .ne 9), none, none, some (.iinc 2 1), none, none, some (.goto (-29)), none, none, some (.iload_n 2), some .ireturn]
def xi_89 : List (Option Instr) := [some (.aload_n 0), some (.getfield 16), none, none, some (.getfield 66), none, none, some (.iload_n 1), some .laload, some (.ldc2_w 70), none, none, some .lcmp, some (.ifCond .ne 10), none, none, some (.iload_n 1), some (.iconst 1), some .iadd, some (.iload_n 2), some (.if_icmp .lt 5), none, none, some (.iconst 0), some .ireturn, some (.aload_n 0), some (.getfield 16), none, none, some (.getfield 66), none, none, some (.iload_n 1), some (.iconst 1), some .iadd, some .laload, some (.lstore_n 3), some (.lload_n 3), some (.ldc 72), none, some (.invokestatic 74), none, none, some (.istore 5), none, some (.lload_n 3), some (.ldc 78), none, some (.invokestatic 74), none, none, some (.ifCond .ne 12), none, none, some (.lload_n 3), some (.ldc 80), none, some (.invokestatic 74), none, none, some (.ifCond .eq 15), none, none, some (.aload_n 0), some .dup, some (.getfield 59), none, none, some (.iconst 1), some .iadd, some (.putfield 59), none, none, some (.iconst 0), some .ireturn, some (.aload_n 0), some (.getfield 59), none, none, some (.ifCond .le 24), none, none, some (.aload_n 0), some .dup, some (.getfield 59), none, none, some (.iload 5), none, some (.ifCond .eq 7), none, none, some (.iconst 1), some (.goto 4), none, none, some (.iconst 0), some .isub, some (.putfield 59), none, none, some (.iconst 0), some .ireturn, some (.iload 5), none, some (.ifCond .ne 12), none, none, some (.lload_n 3), some (.ldc 82), none, some (.invokestatic 74), none, none, some (.ifCond .eq 7), none, none, some (.iconst 1), some (.goto 4), none, none, some (.iconst 0), some .ireturn]
def xi_90 : List (Option Instr) := [some (.aload_n 0), some (.getfield 53), none, none, some (.bipush 18), none, some (.if_icmp .lt 5), none, none, some (.iconst 4), some .ireturn, some (.aload_n 0), some (.getfield 30), none, none, some (.aload_n 0), some (.getfield 53), none, none, some (.iload_n 1), some .bastore, some (.aload_n 0), some (.getfield 33), none, none, some (.aload_n 0), some (.getfield 53), none, none, some (.iconst 0), some .bastore, some (.aload_n 0), some .dup, some (.getfield 53), none, none, some (.iconst 1), some .iadd, some (.putfield 53), none, none, some (.aload_n 0), some (.iload_n 1), some (.ifCond .ne 7), none, none, some (.iconst 1), some (.goto 4), none, none, some (.iconst 0), some (.putfield 56), none, none, some (.iconst 0), some .ireturn]
def xi_91 : List (Option Instr) := [some (.aload_n 0), some (.getfield 53), none, none, some (.ifCond .eq 17), none, none, some (.aload_n 0), some (.getfield 33), none, none, some (.aload_n 0), some (.getfield 53), none, none, some (.iconst 1), some .isub, some .baload, some (.ifCond .eq 5), none, none, some (.iconst 4), some .ireturn, some (.aload_n 0), some (.getfield 33), none, none, some (.aload_n 0), some (.getfield 53), none, none, some (.iconst 1), some .isub, some (.iconst 1), some .bastore, some (.aload_n 0), some (.aload_n 0), some (.getfield 30), none, none, some (.aload_n 0), some (.getfield 53), none, none, some (.iconst 1), some .isub, some .baload, some (.putfield 56), none, none, some (.iconst 0), some .ireturn]
def xi_92 : List (Option Instr) := [some (.aload_n 0), some (.getfield 53), none, none, some (.ifCond .ne 5), none, none, some (.iconst 4), some .ireturn, some (.aload_n 0), some .dup, some (.getfield 53), none, none, some (.iconst 1), some .isub, some (.putfield 53), none, none, some (.aload_n 0), some (.iconst 0), some (.putfield 56), none, none, some (.iconst 0), some .ireturn]
def xi_93 : List (Option Instr) := [some (.aload_n 0), some (.invokespecial 1), none, none, some (.aload_n 0), some (.sipush 160), none, none, some (.newarray .char), none, some (.putfield 9), none, none, some .return_]
def xi_94 : List (Option Instr) := [some (.iload_n 1), some (.bipush 10), none, some (.if_icmp .eq 15), none, none, some (.iload_n 1), some (.bipush 32), none, some (.if_icmp .lt 13), none, none, some (.iload_n 1), some (.bipush 126), none, some (.if_icmp .gt 7), none, none, some (.iconst 1), some (.goto 4), none, none, some (.iconst 0), some (.istore_n 2), some (.aload_n 0), some (.getfield 13), none, none, some (.sipush 160), none, none, some (.if_icmp .ge 7), none, none, some (.iload_n 2), some (.ifCond .ne 5), none, none, some (.iconst 0), some .ireturn, some (.aload_n 0), some (.getfield 9), none, none, some (.aload_n 0), some (.getfield 13), none, none, some (.iload_n 1), some .castore, some (.aload_n 0), some .dup, some (.getfield 13), none, none, some (.iconst 1), some .iadd, some (.putfield 13), none, none, some (.iconst 1), some .ireturn]
def xi_95 : List (Option Instr) := [some (.aload_n 0), some (.invokespecial 3), none, none, some (.aload_n 0), some (.iload_n 1), some (.newarray .long), none, some (.putfield 9), none, none, some (.aload_n 0), some (.iload_n 1), some (.newarray .int), none, some (.putfield 13), none, none, some .return_]
def xi_96 : List (Option Instr) := [some (.aload_n 0), some (.getfield 17), none, none, some (.aload_n 0), some (.getfield 9), none, none, some .arraylength, some (.if_icmp .ge 40), none, none, some (.aload_n 0), some (.getfield 9), none, none, some (.aload_n 0), some (.getfield 17), none, none, some (.lload_n 1), some .lastore, some (.aload_n 0), some (.getfield 13), none, none, some (.aload_n 0), some (.getfield 17), none, none, some (.iload_n 3), some (.sipush 256), none, none, some .imul, some (.iload 4), none, some .iadd, some .iastore, some (.aload_n 0), some .dup, some (.getfield 17), none, none, some (.iconst 1), some .iadd, some (.putfield 17), none, none, some .return_]
def xi_97 : List (Option Instr) := [some (.aload_n 0), some (.getfield 13), none, none, some (.iload_n 1), some .iaload, some (.sipush 256), none, none, some .idiv, some .ireturn]
def xi_98 : List (Option Instr) := [some (.aload_n 0), some (.getfield 13), none, none, some (.iload_n 1), some .iaload, some (.sipush 256), none, none, some .irem, some .ireturn]
def xi_99 : List (Option Instr) := [some (.iload_n 2), some (.ifCond .lt 63), none, none, some (.iload_n 2), some (.aload_n 1), some (.getfield 17), none, none, some (.if_icmp .ge 55), none, none, some (.aload_n 0), some (.getfield 17), none, none, some (.aload_n 0), some (.getfield 9), none, none, some .arraylength, some (.if_icmp .ge 43), none, none, some (.aload_n 0), some (.getfield 9), none, none, some (.aload_n 0), some (.getfield 17), none, none, some (.aload_n 1), some (.getfield 9), none, none, some (.iload_n 2), some .laload, some .lastore, some (.aload_n 0), some (.getfield 13), none, none, some (.aload_n 0), some (.getfield 17), none, none, some (.aload_n 1), some (.getfield 13), none, none, some (.iload_n 2), some .iaload, some .iastore, some (.aload_n 0), some .dup, some (.getfield 17), none, none, some (.iconst 1), some .iadd, some (.putfield 17), none, none, some .return_]
def xi_100 : List (Option Instr) := [some (.iload_n 1), some (.iconst 1), some (.if_icmp .lt 11), none, none, some (.iload_n 1), some (.aload_n 0), some (.getfield 17), none, none, some (.if_icmp .lt 5), none, none, some (.iconst 0), some .ireturn, some (.aload_n 0), some (.getfield 9), none, none, some (.iload_n 1), some (.iconst 1), some .isub, some .laload, some (.lstore_n 3), some (.aload_n 0), some (.getfield 9), none, none, some (.iload_n 1), some .laload, some (.lstore 5), none, some (.lload_n 3), some (.invokestatic 21), none, none, some (.ifCond .eq 15), none, none, some (.lload 5), none, some (.invokestatic 21), none, none, some (.ifCond .eq 7), none, none, some (.iconst 1), some (.goto 4), none, none, some (.iconst 0), some (.istore 7), none, some (.lload_n 3), some (.lload 5), none, some .lcmp, some (.ifCond .ne 23), none, none, some (.lload_n 3), some (.ldc2_w 25), none, none, some .lcmp, some (.ifCond .eq 11), none, none, some (.lload_n 3), some (.ldc2_w 27), none, none, some .lcmp, some (.ifCond .ne 7), none, none, some (.iconst 1), some (.goto 4), none, none, some (.iconst 0), some (.istore 8), none, some (.iload 7), none, some (.ifCond .ne 8), none, none, some (.iload 8), none, some (.ifCond .eq 18), none, none, some (.lload_n 3), some (.invokestatic 29), none, none, some (.lload 5), none, some (.invokestatic 29), none, none, some .iadd, some (.bipush 9), none, some (.if_icmp .le 5), none, none, some (.iconst 0), some .ireturn, some (.aload_n 0), some (.getfield 9), none, none, some (.iload_n 1), some (.iconst 1), some .isub, some (.lload_n 3), some (.bipush 7), none, some (.lload 5), none, some (.invokestatic 29), none, none, some .imul, some .lshl, some (.lload 5), none, some .ladd, some .lastore, some (.aload_n 0), some (.getfield 13), none, none, some (.iload_n 1), some (.iconst 1), some .isub, some (.iload_n 2), some (.sipush 256), none, none, some .imul, some (.aload_n 0), some (.iload_n 1), some (.iconst 1), some .isub, some (.invokevirtual 33), none, none, some (.aload_n 0), some (.iload_n 1), some (.invokevirtual 33), none, none, some .iand, some .iadd, some .iastore, some (.aload_n 0), some (.getfield 9), none, none, some (.iload_n 1), some (.iconst 1), some .iadd, some (.aload_n 0), some (.getfield 9), none, none, some (.iload_n 1), some (.aload_n 0), some (.getfield 17), none, none, some (.iload_n 1), some .isub, some (.iconst 1), some .isub, some (.invokestatic 37), none, none, some (.aload_n 0), some (.getfield 13), none, none, some (.iload_n 1), some (.iconst 1), some .iadd, some (.aload_n 0), some (.getfield 13), none, none, some (.iload_n 1), some (.aload_n 0), some (.getfield 17), none, none, some (.iload_n 1), some .isub, some (.iconst 1), some .isub, some (.invokestatic 37), none, none, some (.aload_n 0), some .dup, some (.getfield 17), none, none, some (.iconst 1), some .isub, some (.putfield 17), none, none, some (.iconst 1), some .ireturn]
def xi_101 : List (Option Instr) := [some (.iconst 0), some (.istore_n 2), some (.iload_n 2), some (.bipush 9), none, some (.if_icmp .ge 20), none, none, some (.lload_n 0), some (.bipush 7), none, some (.iload_n 2), some .imul, some .lshr, some (.lconst 0), some .lcmp, some (.ifCond .eq 9), none, none, some (.iinc 2 1), none, none, some (.goto (-20)), none, none, some (.iload_n 2), some .ireturn]
def xi_102 : List (Option Instr) := [some (.lload_n 0), some (.invokestatic 29), none, none, some (.istore_n 3), some (.iload_n 2), some (.ifCond .lt 8), none, none, some (.iload_n 2), some (.iload_n 3), some (.if_icmp .lt 5), none, none, some (.iconst 0), some .ireturn, some (.lload_n 0), some (.bipush 7), none, some (.iload_n 3), some (.iconst 1), some .isub, some (.iload_n 2), some .isub, some .imul, some .lshr, some .l2i, some (.bipush 127), none, some .iand, some .ireturn]
def xi_103 : List (Option Instr) := [some (.lconst 0), some (.lstore_n 3), some (.iconst 0), some (.istore 5), none, some (.iload 5), none, some (.aload_n 2), some (.invokevirtual 43), none, none, some (.if_icmp .ge 22), none, none, some (.lload_n 3), some (.bipush 7), none, some .lshl, some (.aload_n 2), some (.iload 5), none, some (.invokevirtual 49), none, none, some .i2l, some .ladd, some (.lstore_n 3), some (.iinc 5 1), none, none, some (.goto (-25)), none, none, some (.lload_n 0), some (.lload_n 3), some .lcmp, some (.ifCond .ne 7), none, none, some (.iconst 1), some (.goto 4), none, none, some (.iconst 0), some .ireturn]
def xi_104 : List (Option Instr) := [some (.lload_n 0), some .l2i, some (.bipush 127), none, some .iand, some (.istore_n 2), some (.iload_n 2), some (.bipush 97), none, some (.if_icmp .lt 9), none, none, some (.iload_n 2), some (.bipush 122), none, some (.if_icmp .le 33), none, none, some (.iload_n 2), some (.bipush 65), none, some (.if_icmp .lt 9), none, none, some (.iload_n 2), some (.bipush 90), none, some (.if_icmp .le 21), none, none, some (.iload_n 2), some (.bipush 48), none, some (.if_icmp .lt 9), none, none, some (.iload_n 2), some (.bipush 57), none, some (.if_icmp .le 9), none, none, some (.iload_n 2), some (.bipush 95), none, some (.if_icmp .ne 7), none, none, some (.iconst 1), some (.goto 4), none, none, some (.iconst 0), some .ireturn]
def xi_105 : List (Option Instr) := [some (.lload_n 0), some (.invokestatic 53), none, none, some (.lstore_n 2), some (.lload_n 2), some (.ldc2_w 57), none, none, some .lcmp, some (.ifCond .lt 15), none, none, some (.lload_n 2), some (.ldc2_w 59), none, none, some .lcmp, some (.ifCond .gt 7), none, none, some (.iconst 1), some (.goto 4), none, none, some (.iconst 0), some .ireturn]
def xi_106 : List (Option Instr) := [some (.lload_n 0), some (.invokestatic 53), none, none, some (.lstore_n 2), some (.lload_n 2), some (.invokestatic 21), none, none, some (.ifCond .eq 23), none, none, some (.lload_n 2), some (.ldc2_w 57), none, none, some .lcmp, some (.ifCond .lt 11), none, none, some (.lload_n 2), some (.ldc2_w 59), none, none, some .lcmp, some (.ifCond .le 7), none, none, some (.iconst 1), some (.goto 4), none, none, some (.iconst 0), some .ireturn]
def xi_107 : List (Option Instr) := [some (.lload_n 0), some (.lstore_n 2), some (.iconst 1), some (.istore 4), none, some (.iload 4), none, some (.bipush 9), none, some (.if_icmp .ge 22), none, none, some (.lload_n 2), some (.ldc2_w 61), none, none, some .lcmp, some (.ifCond .le 14), none, none, some (.lload_n 2), some (.bipush 7), none, some .lshr, some (.lstore_n 2), some (.iinc 4 1), none, none, some (.goto (-23)), none, none, some (.lload_n 2), some .lreturn]
def xi_108 : List (Option Instr) := [some (.aload_n 0), some (.invokespecial 3), none, none, some (.aload_n 0), some (.sipush 201), none, none, some (.newarray .int), none, some (.putfield 11), none, none, some (.aload_n 0), some (.sipush 201), none, none, some (.newarray .int), none, some (.putfield 15), none, none, some (.aload_n 0), some (.sipush 201), none, none, some (.newarray .int), none, some (.putfield 18), none, none, some (.aload_n 0), some (.getfield 15), none, none, some (.iconst 0), some (.iconst (-1)), some .iastore, some (.aload_n 0), some (.iconst 1), some (.putfield 21), none, none, some .return_]
def xi_109 : List (Option Instr) := [some (.aload_n 0), some (.getfield 21), none, none, some (.sipush 200), none, none, some (.invokestatic 25), none, none, some (.istore 4), none, some (.aload_n 0), some (.getfield 11), none, none, some (.iload 4), none, some (.iload_n 1), some .iastore, some (.aload_n 0), some (.getfield 15), none, none, some (.iload 4), none, some (.iload_n 2), some .iastore, some (.aload_n 0), some (.getfield 18), none, none, some (.iload 4), none, some (.iload_n 3), some .iastore, some (.aload_n 0), some (.iload 4), none, some (.iconst 1), some .iadd, some (.putfield 21), none, none, some (.iload 4), none, some .ireturn]
def xi_110 : List (Option Instr) := [some (.iload_n 1), some (.ifCond .lt 21), none, none, some (.iload_n 1), some (.aload_n 0), some (.getfield 21), none, none, some (.if_icmp .gt 13), none, none, some (.aload_n 0), some (.getfield 21), none, none, some (.sipush 201), none, none, some (.if_icmp .lt 4), none, none, some .return_, some (.aload_n 0), some (.getfield 11), none, none, some (.iload_n 1), some (.aload_n 0), some (.getfield 11), none, none, some (.iload_n 1), some (.iconst 1), some .iadd, some (.aload_n 0), some (.getfield 21), none, none, some (.iload_n 1), some .isub, some (.invokestatic 31), none, none, some (.aload_n 0), some (.getfield 15), none, none, some (.iload_n 1), some (.aload_n 0), some (.getfield 15), none, none, some (.iload_n 1), some (.iconst 1), some .iadd, some (.aload_n 0), some (.getfield 21), none, none, some (.iload_n 1), some .isub, some (.invokestatic 31), none, none, some (.aload_n 0), some (.getfield 18), none, none, some (.iload_n 1), some (.aload_n 0), some (.getfield 18), none, none, some (.iload_n 1), some (.iconst 1), some .iadd, some (.aload_n 0), some (.getfield 21), none, none, some (.iload_n 1), some .isub, some (.invokestatic 31), none, none, some (.aload_n 0), some (.getfield 11), none, none, some (.iload_n 1), some (.iload_n 2), some .iastore, some (.aload_n 0), some (.getfield 15), none, none, some (.iload_n 1), some (.iload_n 3), some .iastore, some (.aload_n 0), some (.getfield 18), none, none, some (.iload_n 1), some (.iload 4), none, some .iastore, some (.aload_n 0), some .dup, some (.getfield 21), none, none, some (.iconst 1), some .iadd, some (.putfield 21), none, none, some .return_]
def xi_111 : List (Option Instr) := [some (.aload_n 0), some (.invokespecial 1), none, none, some (.aload_n 0), some (.sipush 480), none, none, some (.newarray .int), none, some (.putfield 7), none, none, some (.aload_n 0), some (.iconst 3), some (.newarray .int), none, some (.putfield 13), none, none, some (.aload_n 0), some (.sipush 162), none, none, some (.newarray .int), none, some (.putfield 16), none, none, some (.aload_n 0), some (.sipush 162), none, none, some (.newarray .int), none, some (.putfield 19), none, none, some (.aload_n 0), some (.sipush 644), none, none, some (.newarray .long), none, some (.putfield 22), none, none, some (.aload_n 0), some (.sipush 644), none, none, some (.newarray .int), none, some (.putfield 26), none, none, some (.aload_n 0), some (.sipush 644), none, none, some (.newarray .int), none, some (.putfield 29), none, none, some (.aload_n 0), some (.iconst 4), some (.newarray .int), none, some (.putfield 32), none, none, some (.aload_n 0), some (.iconst 4), some (.newarray .int), none, some (.putfield 35), none, none, some (.aload_n 0), some (.iconst 4), some (.newarray .int), none, some (.putfield 38), none, none, some (.aload_n 0), some (.bipush 80), none, some (.newarray .boolean), none, some (.putfield 41), none, none, some (.aload_n 0), some (.bipush 80), none, some (.newarray .boolean), none, some (.putfield 45), none, none, some (.aload_n 0), some (.bipush 8), none, some (.newarray .long), none, some (.putfield 48), none, none, some (.aload_n 0), some (.bipush 8), none, some (.newarray .int), none, some (.putfield 51), none, none, some (.aload_n 0), some (.bipush 24), none, some (.newarray .long), none, some (.putfield 54), none, none, some (.aload_n 0), some (.bipush 96), none, some (.newarray .long), none, some (.putfield 57), none, none, some (.aload_n 0), some (.bipush 8), none, some (.newarray .int), none, some (.putfield 60), none, none, some (.aload_n 0), some (.sipush 160), none, none, some (.newarray .long), none, some (.putfield 63), none, none, some (.aload_n 0), some (.sipush 160), none, none, some (.newarray .int), none, some (.putfield 66), none, none, some (.aload_n 0), some (.sipush 1361), none, none, some (.newarray .long), none, some (.putfield 69), none, none, some (.aload_n 0), some (.sipush 1361), none, none, some (.newarray .int), none, some (.putfield 72), none, none, some (.aload_n 0), some (.sipush 2561), none, none, some (.newarray .long), none, some (.putfield 75), none, none, some (.aload_n 0), some (.sipush 2561), none, none, some (.newarray .int), none, some (.putfield 78), none, none, some (.aload_n 0), some (.sipush 1201), none, none, some (.newarray .long), none, some (.putfield 81), none, none, some (.aload_n 0), some (.sipush 1201), none, none, some (.newarray .int), none, some (.putfield 84), none, none, some (.aload_n 0), some (.sipush 481), none, none, some (.newarray .long), none, some (.putfield 87), none, none, some (.aload_n 0), some (.sipush 481), none, none, some (.newarray .int), none, some (.putfield 90), none, none, some (.aload_n 0), some (.bipush 32), none, some (.newarray .int), none, some (.putfield 93), none, none, some (.aload_n 0), some (.bipush 32), none, some (.newarray .int), none, some (.putfield 96), none, none, some (.aload_n 0), some (.bipush 32), none, some (.newarray .int), none, some (.putfield 99), none, none, some (.aload_n 0), some (.bipush 32), none, some (.newarray .int), none, some (.putfield 102), none, none, some (.aload_n 0), some (.bipush 32), none, some (.newarray .int), none, some (.putfield 105), none, none, some (.aload_n 0), some (.bipush 32), none, some (.newarray .int), none, some (.putfield 108), none, none, some (.aload_n 0), some (.sipush 128), none, none, some (.newarray .int), none, some (.putfield 111), none, none, some (.aload_n 0), some (.sipush 128), none, none, some (.newarray .int), none, some (.putfield 114), none, none, some (.aload_n 0), some (.bipush 100), none, some (.newarray .long), none, some (.putfield 117), none, none, some (.aload_n 0), some (.bipush 100), none, some (.newarray .int), none, some (.putfield 120), none, none, some (.aload_n 0), some (.bipush 100), none, some (.newarray .int), none, some (.putfield 123), none, none, some (.aload_n 0), some (.bipush 101), none, some (.newarray .int), none, some (.putfield 126), none, none, some (.aload_n 0), some (.sipush 202), none, none, some (.newarray .int), none, some (.putfield 129), none, none, some (.aload_n 0), some (.sipush 202), none, none, some (.newarray .int), none, some (.putfield 132), none, none, some (.aload_n 0), some (.sipush 202), none, none, some (.newarray .int), none, some (.putfield 135), none, none, some (.aload_n 0), some (.iconst 1), some (.putfield 138), none, none, some (.aload_n 0), some (.bipush 100), none, some (.newarray .long), none, some (.putfield 142), none, none, some (.aload_n 0), some (.bipush 100), none, some (.newarray .int), none, some (.putfield 145), none, none, some (.aload_n 0), some (.bipush 100), none, some (.newarray .int), none, some (.putfield 148), none, none, some (.aload_n 0), some (.bipush 100), none, some (.newarray .boolean), none, some (.putfield 151), none, none, some (.aload_n 0), some (.sipush 300), none, none, some (.newarray .int), none, some (.putfield 154), none, none, some (.aload_n 0), some (.sipush 300), none, none, some (.newarray .int), none, some (.putfield 157), none, none, some (.aload_n 0), some (.sipush 300), none, none, some (.newarray .int), none, some (.putfield 160), none, none, some (.aload_n 0), some (.sipush 300), none, none, some (.newarray .int), none, some (.putfield 163), none, none, some (.aload_n 0), some (.sipush 300), none, none, some (.newarray .int), none, some (.putfield 166), none, none, some (.aload_n 0), some (.bipush 8), none, some (.newarray .int), none, some (.putfield 169), none, none, some (.aload_n 0), some (.bipush 8), none, some (.newarray .int), none, some (.putfield 172), none, none, some (.aload_n 0), some (.bipush 8), none, some (.newarray .int), none, some (.putfield 175), none, none, some (.aload_n 0), some (.bipush 8), none, some (.newarray .int), none, some (.putfield 178), none, none, some (.aload_n 0), some (.getfield 132), none, none, some (.iconst 0), some (.iconst (-1)), some .iastore, some .return_]
def xi_112 : List (Option Instr) := [some (.iload_n 1), some (.ifCond .lt 8), none, none, some (.iload_n 1), some (.iconst 2), some (.if_icmp .le 5), none, none, some (.iconst 0), some .ireturn, some (.aload_n 0), some (.iload_n 1), some (.putfield 181), none, none, some (.iconst 1), some .ireturn]
def xi_113 : List (Option Instr) := [some (.aload_n 0), some (.getfield 13), none, none, some (.aload_n 0), some (.getfield 181), none, none, some .iaload, some (.sipush 160), none, none, some (.if_icmp .eq 21), none, none, some (.iload_n 1), some (.bipush 10), none, some (.if_icmp .eq 17), none, none, some (.iload_n 1), some (.bipush 32), none, some (.if_icmp .lt 9), none, none, some (.iload_n 1), some (.bipush 126), none, some (.if_icmp .le 5), none, none, some (.iconst 0), some .ireturn, some (.aload_n 0), some (.getfield 7), none, none, some (.sipush 160), none, none, some (.aload_n 0), some (.getfield 181), none, none, some .imul, some (.aload_n 0), some (.getfield 13), none, none, some (.aload_n 0), some (.getfield 181), none, none, some .iaload, some .iadd, some (.iload_n 1), some .iastore, some (.aload_n 0), some (.getfield 13), none, none, some (.aload_n 0), some (.getfield 181), none, none, some .dup2, some .iaload, some (.iconst 1), some .iadd, some .iastore, some (.iconst 1), some .ireturn]
def xi_114 : List (Option Instr) := [some (.aload_n 0), some (.getfield 13), none, none, some (.aload_n 0), some (.getfield 181), none, none, some (.iconst 0), some .iastore, some .return_]
def xi_115 : List (Option Instr) := [some (.iload_n 1), some (.ifCond .lt 8), none, none, some (.iload_n 1), some (.iconst 2), some (.if_icmp .le 7), none, none, some (.iconst (-1)), some (.goto 9), none, none, some (.aload_n 0), some (.getfield 13), none, none, some (.iload_n 1), some .iaload, some .ireturn]
def xi_116 : List (Option Instr) := [some (.iload_n 0), some (.tableswitch 162 33 62 #[150, 162, 162, 162, 162, 162, 141, 144, 147, 162, 162, 162, 159, 162, 138, 162, 162, 162, 162, 162, 162, 162, 162, 162, 162, 162, 162, 153, 135, 156]), none, none, none, none, none, none, none, none, none, none, none, none, none, none, none, none, none, none, none, none, none, none, none, none, none, none, none, none, none, none, none, none, none, none, none, none, none, none, none, none, none, none, none, none, none, none, none, none, none, none, none, none, none, none, none, none, none, none, none, none, none, none, none, none, none, none, none, none, none, none, none, none, none, none, none, none, none, none, none, none, none, none, none, none, none, none, none, none, none, none, none, none, none, none, none, none, none, none, none, none, none, none, none, none, none, none, none, none, none, none, none, none, none, none, none, none, none, none, none, none, none, none, none, none, none, none, none, none, none, none, none, none, none, none, some (.bipush 35), none, some .ireturn, some (.bipush 92), none, some .ireturn, some (.bipush 94), none, some .ireturn, some (.bipush 91), none, some .ireturn, some (.bipush 93), none, some .ireturn, some (.bipush 124), none, some .ireturn, some (.bipush 123), none, some .ireturn, some (.bipush 125), none, some .ireturn, some (.bipush 126), none, some .ireturn, some (.iconst 0), some .ireturn]
def xi_117 : List (Option Instr) := [some (.iload_n 0), some (.bipush 65), none, some (.if_icmp .lt 9), none, none, some (.iload_n 0), some (.bipush 90), none, some (.if_icmp .le 33), none, none, some (.iload_n 0), some (.bipush 97), none, some (.if_icmp .lt 9), none, none, some (.iload_n 0), some (.bipush 122), none, some (.if_icmp .le 21), none, none, some (.iload_n 0), some (.bipush 95), none, some (.if_icmp .eq 15), none, none, some (.iload_n 0), some (.bipush 48), none, some (.if_icmp .lt 13), none, none, some (.iload_n 0), some (.bipush 57), none, some (.if_icmp .gt 7), none, none, some (.iconst 1), some (.goto 4), none, none, some (.iconst 0), some .ireturn]
def xi_118 : List (Option Instr) := [some (.iload_n 0), some (.bipush 48), none, some (.if_icmp .lt 13), none, none, some (.iload_n 0), some (.bipush 57), none, some (.if_icmp .gt 7), none, none, some (.iconst 1), some (.goto 4), none, none, some (.iconst 0), some .ireturn]
def xi_119 : List (Option Instr) := [some (.iload_n 0), some (.bipush 40), none, some (.if_icmp .eq 99), none, none, some (.iload_n 0), some (.bipush 41), none, some (.if_icmp .eq 93), none, none, some (.iload_n 0), some (.bipush 91), none, some (.if_icmp .eq 87), none, none, some (.iload_n 0), some (.bipush 93), none, some (.if_icmp .eq 81), none, none, some (.iload_n 0), some (.bipush 123), none, some (.if_icmp .eq 75), none, none, some (.iload_n 0), some (.bipush 125), none, some (.if_icmp .eq 69), none, none, some (.iload_n 0), some (.bipush 59), none, some (.if_icmp .eq 63), none, none, some (.iload_n 0), some (.bipush 44), none, some (.if_icmp .eq 57), none, none, some (.iload_n 0), some (.bipush 61), none, some (.if_icmp .eq 51), none, none, some (.iload_n 0), some (.bipush 43), none, some (.if_icmp .eq 45), none, none, some (.iload_n 0), some (.bipush 45), none, some (.if_icmp .eq 39), none, none, some (.iload_n 0), some (.bipush 42), none, some (.if_icmp .eq 33), none, none, some (.iload_n 0), some (.bipush 47), none, some (.if_icmp .eq 27), none, none, some (.iload_n 0), some (.bipush 38), none, some (.if_icmp .eq 21), none, none, some (.iload_n 0), some (.bipush 60), none, some (.if_icmp .eq 15), none, none, some (.iload_n 0), some (.bipush 62), none, some (.if_icmp .eq 9), none, none, some (.iload_n 0), some (.bipush 35), none, some (.if_icmp .ne 7), none, none, some (.iconst 1), some (.goto 4), none, none, some (.iconst 0), some .ireturn]
def xi_120 : List (Option Instr) := [some (.iconst 0), some (.istore_n 2), some (.lload_n 0), some (.lstore_n 3), some (.lload_n 3), some (.lconst 0), some .lcmp, some (.ifCond .le 14), none, none, some (.iinc 2 1), none, none, some (.lload_n 3), some (.bipush 7), none, some .lshr, some (.lstore_n 3), some (.goto (-14)), none, none, some (.iload_n 2), some .ireturn]
def xi_121 : List (Option Instr) := [some (.lload_n 0), some (.invokestatic 184), none, none, some (.istore_n 3), some (.iload_n 2), some (.ifCond .lt 8), none, none, some (.iload_n 2), some (.iload_n 3), some (.if_icmp .lt 7), none, none, some (.iconst 0), some (.goto 18), none, none, some (.lload_n 0), some (.bipush 7), none, some (.iload_n 3), some (.iconst 1), some .isub, some (.iload_n 2), some .isub, some .imul, some .lshr, some (.ldc2_w 188), none, none, some .land, some .l2i, some .ireturn]
def xi_122 : List (Option Instr) := [some (.lload_n 0), some (.iconst 0), some (.invokestatic 190), none, none, some (.invokestatic 194), none, none, some .ireturn]
def xi_123 : List (Option Instr) := [some (.lload_n 0), some (.iconst 0), some (.invokestatic 190), none, none, some (.invokestatic 198), none, none, some (.ifCond .eq 18), none, none, some (.lload_n 0), some (.iconst 0), some (.invokestatic 190), none, none, some (.invokestatic 194), none, none, some (.ifCond .ne 7), none, none, some (.iconst 1), some (.goto 4), none, none, some (.iconst 0), some .ireturn]
def xi_124 : List (Option Instr) := [some (.aload_n 0), some (.iconst 0), some (.putfield 201), none, none, some (.iconst 0), some (.istore_n 2), some (.sipush 160), none, none, some (.iload_n 1), some .imul, some (.istore_n 3), some (.iconst 0), some (.istore 4), none, some (.iload 4), none, some (.aload_n 0), some (.getfield 13), none, none, some (.iload_n 1), some .iaload, some (.if_icmp .ge 160), none, none, some (.aload_n 0), some (.getfield 7), none, none, some (.iload_n 3), some (.iload 4), none, some .iadd, some .iaload, some (.istore 5), none, some (.iload 5), none, some (.bipush 63), none, some (.if_icmp .ne 36), none, none, some (.iload 4), none, some (.iconst 2), some .iadd, some (.aload_n 0), some (.getfield 13), none, none, some (.iload_n 1), some .iaload, some (.if_icmp .ge 23), none, none, some (.aload_n 0), some (.getfield 7), none, none, some (.iload_n 3), some (.iload 4), none, some .iadd, some (.iconst 1), some .iadd, some .iaload, some (.bipush 63), none, some (.if_icmp .ne 7), none, none, some (.iconst 1), some (.goto 4), none, none, some (.iconst 0), some (.istore 6), none, some (.iload 6), none, some (.ifCond .eq 20), none, none, some (.aload_n 0), some (.getfield 7), none, none, some (.iload_n 3), some (.iload 4), none, some .iadd, some (.iconst 2), some .iadd, some .iaload, some (.invokestatic 204), none, none, some (.goto 4), none, none, some (.iconst 0), some (.istore 7), none, some (.aload_n 0), some (.getfield 16), none, none, some (.aload_n 0), some (.getfield 201), none, none, some (.iload 7), none, some (.ifCond .le 8), none, none, some (.iload 7), none, some (.goto 5), none, none, some (.iload 5), none, some .iastore, some (.aload_n 0), some (.getfield 19), none, none, some (.aload_n 0), some (.getfield 201), none, none, some (.iload_n 2), some .iastore, some (.aload_n 0), some .dup, some (.getfield 201), none, none, some (.iconst 1), some .iadd, some (.putfield 201), none, none, some (.iload 5), none, some (.bipush 10), none, some (.if_icmp .ne 9), none, none, some (.iload_n 2), some (.iconst 1), some .iadd, some (.goto 4), none, none, some (.iload_n 2), some (.istore_n 2), some (.iload 7), none, some (.ifCond .le 10), none, none, some (.iload 4), none, some (.iconst 2), some .iadd, some (.goto 5), none, none, some (.iload 4), none, some (.istore 4), none, some (.iinc 4 1), none, none, some (.goto (-165)), none, none, some (.iconst 0), some (.istore 4), none, some (.iconst 0), some (.istore 5), none, some (.iload 5), none, some (.aload_n 0), some (.getfield 201), none, none, some (.if_icmp .ge 83), none, none, some (.aload_n 0), some (.getfield 16), none, none, some (.iload 5), none, some .iaload, some (.bipush 92), none, some (.if_icmp .ne 34), none, none, some (.iload 5), none, some (.iconst 1), some .iadd, some (.aload_n 0), some (.getfield 201), none, none, some (.if_icmp .ge 23), none, none, some (.aload_n 0), some (.getfield 16), none, none, some (.iload 5), none, some (.iconst 1), some .iadd, some .iaload, some (.bipush 10), none, some (.if_icmp .ne 9), none, none, some (.iinc 5 1), none, none, some (.goto 34), none, none, some (.aload_n 0), some (.getfield 16), none, none, some (.iload 4), none, some (.aload_n 0), some (.getfield 16), none, none, some (.iload 5), none, some .iaload, some .iastore, some (.aload_n 0), some (.getfield 19), none, none, some (.iload 4), none, some (.aload_n 0), some (.getfield 19), none, none, some (.iload 5), none, some .iaload, some .iastore, some (.iinc 4 1), none, none, some (.iinc 5 1), none, none, some (.goto (-86)), none, none, some (.aload_n 0), some (.iload 4), none, some (.putfield 201), none, none, some (.iload 4), none, some (.ifCond .le 44), none, none, some (.aload_n 0), some (.getfield 16), none, none, some (.iload 4), none, some (.iconst 1), some .isub, some .iaload, some (.bipush 10), none, some (.if_icmp .eq 30), none, none, some (.aload_n 0), some (.getfield 16), none, none, some (.iload 4), none, some (.bipush 10), none, some .iastore, some (.aload_n 0), some (.getfield 19), none, none, some (.iload 4), none, some (.iconst 0), some .iastore, some (.aload_n 0), some .dup, some (.getfield 201), none, none, some (.iconst 1), some .iadd, some (.putfield 201), none, none, some .return_]
def xi_125 : List (Option Instr) := [some (.aload_n 0), some (.getfield 16), none, none, some (.iload_n 1), some .iaload, some (.istore_n 2), some (.iload_n 1), some (.istore_n 3), some (.iload_n 2), some (.invokestatic 198), none, none, some (.ifCond .eq 29), none, none, some (.iload_n 3), some (.aload_n 0), some (.getfield 201), none, none, some (.if_icmp .ge 21), none, none, some (.aload_n 0), some (.getfield 16), none, none, some (.iload_n 3), some .iaload, some (.invokestatic 198), none, none, some (.ifCond .eq 9), none, none, some (.iinc 3 1), none, none, some (.goto (-30)), none, none, some (.iload_n 3), some (.iload_n 1), some (.if_icmp .gt 10), none, none, some (.iload_n 2), some (.invokestatic 208), none, none, some (.ifCond .ne 5), none, none, some (.iload_n 3), some .ireturn, some (.iload_n 2), some (.bipush 35), none, some (.if_icmp .eq 9), none, none, some (.iload_n 2), some (.bipush 61), none, some (.if_icmp .ne 29), none, none, some (.iload_n 1), some (.iconst 1), some .iadd, some (.aload_n 0), some (.getfield 201), none, none, some (.if_icmp .ge 19), none, none, some (.aload_n 0), some (.getfield 16), none, none, some (.iload_n 1), some (.iconst 1), some .iadd, some .iaload, some (.iload_n 2), some (.if_icmp .ne 7), none, none, some (.iconst 1), some (.goto 4), none, none, some (.iconst 0), some (.istore 4), none, some (.iload 4), none, some (.ifCond .eq 9), none, none, some (.iload_n 1), some (.iconst 2), some .iadd, some (.goto 6), none, none, some (.iload_n 1), some (.iconst 1), some .iadd, some .ireturn]
def xi_126 : List (Option Instr) := [some (.aload_n 0), some (.getfield 16), none, none, some (.iload_n 1), some .iaload, some (.bipush 32), none, some (.if_icmp .ne 7), none, none, some (.iload_n 1), some (.iconst 1), some .iadd, some .ireturn, some (.iload_n 1), some (.iconst 1), some .iadd, some (.aload_n 0), some (.getfield 201), none, none, some (.if_icmp .ge 14), none, none, some (.aload_n 0), some (.getfield 16), none, none, some (.iload_n 1), some (.iconst 1), some .iadd, some .iaload, some (.goto 4), none, none, some (.iconst 0), some (.istore_n 2), some (.aload_n 0), some (.getfield 16), none, none, some (.iload_n 1), some .iaload, some (.bipush 47), none, some (.if_icmp .ne 15), none, none, some (.iload_n 2), some (.bipush 47), none, some (.if_icmp .eq 11), none, none, some (.iload_n 2), some (.bipush 42), none, some (.if_icmp .eq 5), none, none, some (.iload_n 1), some .ireturn, some (.iload_n 1), some (.iconst 2), some .iadd, some (.istore_n 3), some (.iload_n 2), some (.bipush 47), none, some (.if_icmp .ne 30), none, none, some (.iload_n 3), some (.aload_n 0), some (.getfield 201), none, none, some (.if_icmp .ge 20), none, none, some (.aload_n 0), some (.getfield 16), none, none, some (.iload_n 3), some .iaload, some (.bipush 10), none, some (.if_icmp .eq 9), none, none, some (.iinc 3 1), none, none, some (.goto (-22)), none, none, some (.iload_n 3), some .ireturn, some (.iload_n 3), some (.iconst 1), some .iadd, some (.aload_n 0), some (.getfield 201), none, none, some (.if_icmp .ge 33), none, none, some (.aload_n 0), some (.getfield 16), none, none, some (.iload_n 3), some .iaload, some (.bipush 42), none, some (.if_icmp .ne 16), none, none, some (.aload_n 0), some (.getfield 16), none, none, some (.iload_n 3), some (.iconst 1), some .iadd, some .iaload, some (.bipush 47), none, some (.if_icmp .eq 9), none, none, some (.iinc 3 1), none, none, some (.goto (-37)), none, none, some (.iload_n 3), some (.iconst 1), some .iadd, some (.aload_n 0), some (.getfield 201), none, none, some (.if_icmp .ge 9), none, none, some (.iload_n 3), some (.iconst 2), some .iadd, some (.goto 4), none, none, some (.iconst (-1)), some .ireturn]
def xi_127 : List (Option Instr) := [some (.aload_n 0), some (.iload_n 1), some (.invokevirtual 211), none, none, some (.sipush 161), none, none, some (.aload_n 0), some (.getfield 215), none, none, some .imul, some (.istore_n 2), some (.aload_n 0), some (.getfield 32), none, none, some (.aload_n 0), some (.getfield 215), none, none, some (.iload_n 2), some .iastore, some (.aload_n 0), some (.getfield 38), none, none, some (.aload_n 0), some (.getfield 215), none, none, some (.aload_n 0), some (.getfield 218), none, none, some .iastore, some (.iconst 0), some (.istore_n 3), some (.iconst (-1)), some (.istore 4), none, some (.iconst 0), some (.istore 5), none, some (.iload 5), none, some (.aload_n 0), some (.getfield 201), none, none, some (.if_icmp .ge 198), none, none, some (.aload_n 0), some (.getfield 16), none, none, some (.iload 5), none, some .iaload, some (.bipush 10), none, some (.if_icmp .ne 8), none, none, some (.iload 5), none, some (.goto 9), none, none, some (.aload_n 0), some (.iload 5), none, some (.invokevirtual 221), none, none, some (.istore 6), none, some (.iload 6), none, some (.ifCond .ge 5), none, none, some (.iconst 1), some .ireturn, some (.aload_n 0), some (.getfield 16), none, none, some (.iload 5), none, some .iaload, some (.bipush 10), none, some (.if_icmp .ne 12), none, none, some (.iinc 3 1), none, none, some (.iinc 5 1), none, none, some (.goto 142), none, none, some (.iload 6), none, some (.iload 5), none, some (.if_icmp .le 10), none, none, some (.iload 6), none, some (.istore 5), none, some (.goto 128), none, none, some (.aload_n 0), some (.iload 5), none, some (.invokevirtual 224), none, none, some (.istore 6), none, some (.iload 6), none, some (.iload 5), none, some (.if_icmp .eq 13), none, none, some (.iload 6), none, some (.iload 5), none, some .isub, some (.bipush 9), none, some (.if_icmp .le 5), none, none, some (.iconst 2), some .ireturn, some (.lconst 0), some (.lstore 7), none, some (.iload 5), none, some (.istore 9), none, some (.iload 9), none, some (.iload 6), none, some (.if_icmp .ge 25), none, none, some (.lload 7), none, some (.bipush 7), none, some .lshl, some (.aload_n 0), some (.getfield 16), none, none, some (.iload 9), none, some .iaload, some .i2l, some .lor, some (.lstore 7), none, some (.iinc 9 1), none, none, some (.goto (-26)), none, none, some (.aload_n 0), some (.getfield 22), none, none, some (.iload_n 2), some (.lload 7), none, some .lastore, some (.aload_n 0), some (.getfield 26), none, none, some (.iload_n 2), some (.sipush 1000), none, none, some (.iload_n 1), some .imul, some (.iconst 1), some .iadd, some (.aload_n 0), some (.getfield 19), none, none, some (.iload 5), none, some .iaload, some .iadd, some .iastore, some (.aload_n 0), some (.getfield 29), none, none, some (.iload_n 2), some (.iconst 2), some (.iload_n 3), some .imul, some (.iload 4), none, some (.iload 5), none, some (.if_icmp .ne 7), none, none, some (.iconst 1), some (.goto 4), none, none, some (.iconst 0), some .iadd, some .iastore, some (.iinc 2 1), none, none, some (.iload 6), none, some (.istore 4), none, some (.iload 6), none, some (.istore 5), none, some (.goto (-201)), none, none, some (.aload_n 0), some (.getfield 35), none, none, some (.aload_n 0), some (.getfield 215), none, none, some (.iload_n 2), some .iastore, some (.iconst 0), some .ireturn]
def xi_128 : List (Option Instr) := [some (.aload_n 0), some (.getfield 218), none, none, some (.aload_n 0), some (.getfield 38), none, none, some (.aload_n 0), some (.getfield 215), none, none, some .iaload, some (.if_icmp .le 21), none, none, some (.aload_n 0), some (.getfield 41), none, none, some (.aload_n 0), some (.getfield 218), none, none, some (.iconst 1), some .isub, some .baload, some (.ifCond .eq 7), none, none, some (.iconst 1), some (.goto 4), none, none, some (.iconst 0), some .ireturn]
def xi_129 : List (Option Instr) := [some (.aload_n 0), some (.getfield 32), none, none, some (.aload_n 0), some (.getfield 215), none, none, some .iaload, some (.istore_n 1), some (.iload_n 1), some (.aload_n 0), some (.getfield 35), none, none, some (.aload_n 0), some (.getfield 215), none, none, some .iaload, some (.if_icmp .ne 42), none, none, some (.aload_n 0), some (.invokevirtual 227), none, none, some (.istore_n 2), some (.iload_n 2), some (.ifCond .ne 21), none, none, some (.aload_n 0), some (.getfield 218), none, none, some (.aload_n 0), some (.getfield 38), none, none, some (.aload_n 0), some (.getfield 215), none, none, some .iaload, some (.if_icmp .le 5), none, none, some (.iconst 4), some (.istore_n 2), some (.aload_n 0), some .dup, some (.getfield 215), none, none, some (.iconst 1), some .isub, some (.putfield 215), none, none, some (.iload_n 2), some .ireturn, some (.iload_n 1), some (.istore_n 2), some (.iload_n 2), some (.aload_n 0), some (.getfield 35), none, none, some (.aload_n 0), some (.getfield 215), none, none, some .iaload, some (.if_icmp .ge 28), none, none, some (.aload_n 0), some (.getfield 29), none, none, some (.iload_n 2), some .iaload, some (.iconst 1), some .ishr, some (.aload_n 0), some (.getfield 29), none, none, some (.iload_n 1), some .iaload, some (.iconst 1), some .ishr, some (.if_icmp .ne 9), none, none, some (.iinc 2 1), none, none, some (.goto (-35)), none, none, some (.aload_n 0), some (.getfield 32), none, none, some (.aload_n 0), some (.getfield 215), none, none, some (.iload_n 2), some .iastore, some (.aload_n 0), some (.getfield 22), none, none, some (.iload_n 1), some .laload, some (.ldc2_w 231), none, none, some .lcmp, some (.ifCond .ne 12), none, none, some (.aload_n 0), some (.iload_n 1), some (.iconst 1), some .iadd, some (.iload_n 2), some (.invokevirtual 233), none, none, some .ireturn, some (.iload_n 1), some (.istore_n 3), some (.iload_n 3), some (.iload_n 2), some (.if_icmp .ge 60), none, none, some (.aload_n 0), some (.invokevirtual 237), none, none, some (.ifCond .ne 53), none, none, some (.aload_n 0), some (.getfield 63), none, none, some (.aload_n 0), some (.getfield 241), none, none, some (.aload_n 0), some (.getfield 22), none, none, some (.iload_n 3), some .laload, some .lastore, some (.aload_n 0), some (.getfield 66), none, none, some (.aload_n 0), some (.getfield 241), none, none, some (.sipush 256), none, none, some (.aload_n 0), some (.getfield 26), none, none, some (.iload_n 3), some .iaload, some .imul, some .iastore, some (.aload_n 0), some .dup, some (.getfield 241), none, none, some (.iconst 1), some .iadd, some (.putfield 241), none, none, some (.iinc 3 1), none, none, some (.goto (-59)), none, none, some (.iconst 0), some .ireturn]
def xi_130 : List (Option Instr) := [some (.iload_n 1), some (.iload_n 2), some (.if_icmp .ge 12), none, none, some (.aload_n 0), some (.getfield 22), none, none, some (.iload_n 1), some .laload, some (.goto 4), none, none, some (.lconst 0), some (.lstore_n 3), some (.lload_n 3), some (.ldc2_w 244), none, none, some .lcmp, some (.ifCond .eq 11), none, none, some (.lload_n 3), some (.ldc2_w 246), none, none, some .lcmp, some (.ifCond .ne 7), none, none, some (.iconst 1), some (.goto 4), none, none, some (.iconst 0), some (.istore 5), none, some (.lload_n 3), some (.ldc2_w 248), none, none, some .lcmp, some (.ifCond .eq 11), none, none, some (.lload_n 3), some (.ldc2_w 250), none, none, some .lcmp, some (.ifCond .ne 7), none, none, some (.iconst 1), some (.goto 4), none, none, some (.iconst 0), some (.istore 6), none, some (.aload_n 0), some (.invokevirtual 237), none, none, some (.ifCond .eq 63), none, none, some (.aload_n 0), some (.getfield 252), none, none, some (.ifCond .gt 8), none, none, some (.iload 6), none, some (.ifCond .ne 51), none, none, some (.aload_n 0), some (.iload 5), none, some (.ifCond .eq 12), none, none, some (.aload_n 0), some (.getfield 252), none, none, some (.iconst 1), some .iadd, some (.goto 31), none, none, some (.lload_n 3), some (.ldc2_w 250), none, none, some .lcmp, some (.ifCond .ne 19), none, none, some (.aload_n 0), some (.getfield 252), none, none, some (.ifCond .le 12), none, none, some (.aload_n 0), some (.getfield 252), none, none, some (.iconst 1), some .isub, some (.goto 7), none, none, some (.aload_n 0), some (.getfield 252), none, none, some (.putfield 252), none, none, some (.iconst 0), some .ireturn, some (.aload_n 0), some (.invokevirtual 227), none, none, some (.istore 7), none, some (.iload 7), none, some (.ifCond .ne 8), none, none, some (.iload_n 1), some (.iload_n 2), some (.if_icmp .ne 6), none, none, some (.iload 7), none, some .ireturn, some (.lload_n 3), some (.ldc2_w 255), none, none, some .lcmp, some (.ifCond .ne 12), none, none, some (.aload_n 0), some (.iload_n 1), some (.iconst 1), some .iadd, some (.iload_n 2), some (.invokevirtual 257), none, none, some .ireturn, some (.lload_n 3), some (.ldc2_w 260), none, none, some .lcmp, some (.ifCond .ne 12), none, none, some (.aload_n 0), some (.iload_n 1), some (.iconst 1), some .iadd, some (.iload_n 2), some (.invokevirtual 262), none, none, some .ireturn, some (.iload_n 2), some (.iload_n 1), some (.iconst 2), some .iadd, some (.if_icmp .ne 21), none, none, some (.aload_n 0), some (.getfield 22), none, none, some (.iload_n 1), some (.iconst 1), some .iadd, some .laload, some (.invokestatic 265), none, none, some (.ifCond .eq 7), none, none, some (.iconst 1), some (.goto 4), none, none, some (.iconst 0), some (.istore 8), none, some (.iload 6), none, some (.ifCond .eq 28), none, none, some (.iload_n 2), some (.iload_n 1), some (.iconst 1), some .iadd, some (.if_icmp .ne 21), none, none, some (.aload_n 0), some (.lload_n 3), some (.ldc2_w 248), none, none, some .lcmp, some (.ifCond .ne 7), none, none, some (.iconst 1), some (.goto 4), none, none, some (.iconst 0), some (.invokevirtual 269), none, none, some .ireturn, some (.iload 8), none, some (.ifCond .eq 16), none, none, some (.iload 5), none, some (.ifCond .ne 13), none, none, some (.lload_n 3), some (.ldc2_w 273), none, none, some .lcmp, some (.ifCond .eq 5), none, none, some (.iconst 3), some .ireturn, some (.aload_n 0), some (.aload_n 0), some (.getfield 22), none, none, some (.iload_n 1), some (.iconst 1), some .iadd, some .laload, some (.invokevirtual 275), none, none, some (.istore 9), none, some (.iload 5), none, some (.ifCond .eq 66), none, none, some (.aload_n 0), some (.getfield 41), none, none, some (.aload_n 0), some (.getfield 218), none, none, some (.iload 9), none, some (.ifCond .ge 7), none, none, some (.iconst 1), some (.goto 4), none, none, some (.iconst 0), some (.lload_n 3), some (.ldc2_w 244), none, none, some .lcmp, some (.ifCond .ne 7), none, none, some (.iconst 1), some (.goto 4), none, none, some (.iconst 0), some (.if_icmp .ne 7), none, none, some (.iconst 1), some (.goto 4), none, none, some (.iconst 0), some .bastore, some (.aload_n 0), some (.getfield 45), none, none, some (.aload_n 0), some (.getfield 218), none, none, some (.iconst 0), some .bastore, some (.aload_n 0), some .dup, some (.getfield 218), none, none, some (.iconst 1), some .iadd, some (.putfield 218), none, none, some (.goto 16), none, none, some (.iload 9), none, some (.ifCond .lt 11), none, none, some (.aload_n 0), some (.getfield 48), none, none, some (.iload 9), none, some (.lconst 0), some .lastore, some (.iconst 0), some .ireturn]
def xi_131 : List (Option Instr) := [some (.aload_n 0), some (.getfield 218), none, none, some (.aload_n 0), some (.getfield 38), none, none, some (.aload_n 0), some (.getfield 215), none, none, some .iaload, some (.if_icmp .eq 21), none, none, some (.iload_n 1), some (.ifCond .eq 19), none, none, some (.aload_n 0), some (.getfield 45), none, none, some (.aload_n 0), some (.getfield 218), none, none, some (.iconst 1), some .isub, some .baload, some (.ifCond .eq 5), none, none, some (.iconst 4), some .ireturn, some (.iload_n 1), some (.ifCond .eq 48), none, none, some (.aload_n 0), some (.getfield 45), none, none, some (.aload_n 0), some (.getfield 218), none, none, some (.iconst 1), some .isub, some (.iconst 1), some .bastore, some (.aload_n 0), some (.getfield 41), none, none, some (.aload_n 0), some (.getfield 218), none, none, some (.iconst 1), some .isub, some (.aload_n 0), some (.getfield 41), none, none, some (.aload_n 0), some (.getfield 218), none, none, some (.iconst 1), some .isub, some .baload, some (.ifCond .ne 7), none, none, some (.iconst 1), some (.goto 4), none, none, some (.iconst 0), some .bastore, some (.goto 13), none, none, some (.aload_n 0), some .dup, some (.getfield 218), none, none, some (.iconst 1), some .isub, some (.putfield 218), none, none, some (.iconst 0), some .ireturn]
def xi_132 : List (Option Instr) := [some (.iload_n 2), some (.iload_n 1), some (.iconst 3), some .iadd, some (.if_icmp .ne 65), none, none, some (.aload_n 0), some (.getfield 22), none, none, some (.iload_n 1), some .laload, some (.ldc2_w 278), none, none, some .lcmp, some (.ifCond .ne 52), none, none, some (.aload_n 0), some (.getfield 22), none, none, some (.iload_n 1), some (.iconst 2), some .iadd, some .laload, some (.ldc2_w 280), none, none, some .lcmp, some (.ifCond .ne 37), none, none, some (.aload_n 0), some (.getfield 22), none, none, some (.iload_n 1), some (.iconst 1), some .iadd, some .laload, some (.ldc2_w 282), none, none, some .lcmp, some (.ifCond .lt 22), none, none, some (.aload_n 0), some (.getfield 22), none, none, some (.iload_n 1), some (.iconst 1), some .iadd, some .laload, some (.ldc2_w 284), none, none, some .lcmp, some (.ifCond .gt 7), none, none, some (.iconst 1), some (.goto 4), none, none, some (.iconst 0), some (.istore_n 3), some (.iload_n 3), some (.ifCond .ne 5), none, none, some (.iconst 3), some .ireturn, some (.aload_n 0), some (.getfield 215), none, none, some (.iconst 3), some (.if_icmp .eq 12), none, none, some (.aload_n 0), some (.getfield 286), none, none, some (.bipush 10), none, some (.if_icmp .ne 5), none, none, some (.iconst 5), some .ireturn, some (.aload_n 0), some .dup, some (.getfield 286), none, none, some (.iconst 1), some .iadd, some (.putfield 286), none, none, some (.aload_n 0), some .dup, some (.getfield 215), none, none, some (.iconst 1), some .iadd, some (.putfield 215), none, none, some (.aload_n 0), some (.aload_n 0), some (.getfield 22), none, none, some (.iload_n 1), some (.iconst 1), some .iadd, some .laload, some .l2i, some (.bipush 48), none, some .isub, some (.invokevirtual 289), none, none, some .ireturn]
def xi_133 : List (Option Instr) := [some (.iconst 0), some (.istore_n 3), some (.iload_n 3), some (.bipush 8), none, some (.if_icmp .ge 28), none, none, some (.lload_n 1), some (.lconst 0), some .lcmp, some (.ifCond .eq 16), none, none, some (.aload_n 0), some (.getfield 48), none, none, some (.iload_n 3), some .laload, some (.lload_n 1), some .lcmp, some (.ifCond .ne 5), none, none, some (.iload_n 3), some .ireturn, some (.iinc 3 1), none, none, some (.goto (-28)), none, none, some (.iconst (-1)), some .ireturn]
def xi_134 : List (Option Instr) := [some (.iload_n 1), some (.iload_n 2), some (.if_icmp .ge 20), none, none, some (.aload_n 0), some (.getfield 22), none, none, some (.iload_n 1), some .laload, some (.ldc2_w 292), none, none, some .lcmp, some (.ifCond .ne 7), none, none, some (.iload_n 1), some (.iconst 1), some .iadd, some .ireturn, some (.iload_n 1), some (.istore_n 3), some (.iload_n 3), some (.iconst 1), some .iadd, some (.iload_n 2), some (.if_icmp .ge 107), none, none, some (.aload_n 0), some (.getfield 22), none, none, some (.iload_n 3), some .laload, some (.invokestatic 265), none, none, some (.istore 4), none, some (.iload_n 1), some (.istore 5), none, some (.iload 5), none, some (.iload_n 3), some (.if_icmp .ge 38), none, none, some (.iload 4), none, some (.ifCond .eq 24), none, none, some (.aload_n 0), some (.getfield 22), none, none, some (.iload 5), none, some .laload, some (.aload_n 0), some (.getfield 22), none, none, some (.iload_n 3), some .laload, some .lcmp, some (.ifCond .eq 7), none, none, some (.iconst 1), some (.goto 4), none, none, some (.iconst 0), some (.istore 4), none, some (.iinc 5 2), none, none, some (.goto (-38)), none, none, some (.iload 4), none, some (.ifCond .ne 5), none, none, some (.iconst (-1)), some .ireturn, some (.aload_n 0), some (.getfield 22), none, none, some (.iload_n 3), some (.iconst 1), some .iadd, some .laload, some (.ldc2_w 292), none, none, some .lcmp, some (.ifCond .ne 7), none, none, some (.iload_n 3), some (.iconst 2), some .iadd, some .ireturn, some (.aload_n 0), some (.getfield 22), none, none, some (.iload_n 3), some (.iconst 1), some .iadd, some .laload, some (.ldc2_w 294), none, none, some .lcmp, some (.ifCond .eq 5), none, none, some (.iconst (-1)), some .ireturn, some (.iinc 3 2), none, none, some (.goto (-108)), none, none, some (.iconst (-1)), some .ireturn]
def xi_135 : List (Option Instr) := [some (.iload_n 1), some (.iload_n 2), some (.if_icmp .ge 15), none, none, some (.aload_n 0), some (.getfield 22), none, none, some (.iload_n 1), some .laload, some (.invokestatic 265), none, none, some (.ifCond .ne 5), none, none, some (.iconst 3), some .ireturn, some (.iload_n 1), some (.iconst 1), some .iadd, some (.istore_n 3), some (.iload_n 3), some (.iload_n 2), some (.if_icmp .ge 32), none, none, some (.aload_n 0), some (.getfield 22), none, none, some (.iload_n 3), some .laload, some (.ldc2_w 296), none, none, some .lcmp, some (.ifCond .ne 19), none, none, some (.aload_n 0), some (.getfield 29), none, none, some (.iload_n 3), some .iaload, some (.iconst 1), some .iand, some (.iconst 1), some (.if_icmp .ne 7), none, none, some (.iconst 1), some (.goto 4), none, none, some (.iconst 0), some (.istore 4), none, some (.iload 4), none, some (.ifCond .eq 14), none, none, some (.aload_n 0), some (.iload_n 3), some (.iconst 1), some .iadd, some (.iload_n 2), some (.invokevirtual 298), none, none, some (.goto 4), none, none, some (.iload_n 3), some (.istore 5), none, some (.iload 5), none, some (.ifCond .ge 5), none, none, some (.iconst 3), some .ireturn, some (.iload 4), none, some (.ifCond .ne 7), none, none, some (.iconst (-1)), some (.goto 23), none, none, some (.iload 5), none, some (.iload_n 3), some (.iconst 2), some .iadd, some (.if_icmp .ne 7), none, none, some (.iconst 0), some (.goto 11), none, none, some (.iload 5), none, some (.iload_n 3), some .isub, some (.iconst 1), some .isub, some (.iconst 2), some .idiv, some (.istore 6), none, some (.iload 5), none, some (.iload_n 2), some (.if_icmp .eq 32), none, none, some (.aload_n 0), some (.getfield 22), none, none, some (.iload 5), none, some .laload, some (.ldc2_w 301), none, none, some .lcmp, some (.ifCond .eq 22), none, none, some (.aload_n 0), some (.getfield 22), none, none, some (.iload_n 2), some (.iconst 1), some .isub, some .laload, some (.ldc2_w 301), none, none, some .lcmp, some (.ifCond .eq 7), none, none, some (.iconst 1), some (.goto 4), none, none, some (.iconst 0), some (.istore 7), none, some (.iload 5), none, some (.istore 8), none, some (.iload 8), none, some (.iconst 1), some .iadd, some (.iload_n 2), some (.if_icmp .ge 51), none, none, some (.iload 7), none, some (.ifCond .eq 37), none, none, some (.aload_n 0), some (.getfield 22), none, none, some (.iload 8), none, some .laload, some (.ldc2_w 301), none, none, some .lcmp, some (.ifCond .ne 19), none, none, some (.aload_n 0), some (.getfield 22), none, none, some (.iload 8), none, some (.iconst 1), some .iadd, some .laload, some (.ldc2_w 301), none, none, some .lcmp, some (.ifCond .eq 7), none, none, some (.iconst 1), some (.goto 4), none, none, some (.iconst 0), some (.istore 7), none, some (.iinc 8 1), none, none, some (.goto (-53)), none, none, some (.iload 7), none, some (.ifCond .ne 5), none, none, some (.iconst 3), some .ireturn, some (.aload_n 0), some (.aload_n 0), some (.getfield 22), none, none, some (.iload_n 1), some .laload, some (.invokevirtual 275), none, none, some (.ifCond .lt 6), none, none, some (.bipush 6), none, some .ireturn, some (.iload 6), none, some (.iconst 3), some (.if_icmp .gt 21), none, none, some (.iload_n 2), some (.iload 5), none, some .isub, some (.bipush 12), none, some (.if_icmp .gt 12), none, none, some (.aload_n 0), some (.invokevirtual 303), none, none, some (.bipush 8), none, some (.if_icmp .ne 6), none, none, some (.bipush 7), none, some .ireturn, some (.iconst 0), some (.istore 8), none, some (.iload 8), none, some (.bipush 7), none, some (.if_icmp .ge 21), none, none, some (.aload_n 0), some (.getfield 48), none, none, some (.iload 8), none, some .laload, some (.lconst 0), some .lcmp, some (.ifCond .eq 9), none, none, some (.iinc 8 1), none, none, some (.goto (-22)), none, none, some (.aload_n 0), some (.getfield 48), none, none, some (.iload 8), none, some (.aload_n 0), some (.getfield 22), none, none, some (.iload_n 1), some .laload, some .lastore, some (.aload_n 0), some (.getfield 51), none, none, some (.iload 8), none, some (.iload 6), none, some .iastore, some (.aload_n 0), some (.getfield 60), none, none, some (.iload 8), none, some (.iload_n 2), some (.iload 5), none, some .isub, some .iastore, some (.iconst 0), some (.istore 9), none, some (.iload 9), none, some (.iload 6), none, some (.if_icmp .ge 34), none, none, some (.aload_n 0), some (.getfield 54), none, none, some (.iconst 3), some (.iload 8), none, some .imul, some (.iload 9), none, some .iadd, some (.aload_n 0), some (.getfield 22), none, none, some (.iload_n 3), some (.iconst 1), some .iadd, some (.iconst 2), some (.iload 9), none, some .imul, some .iadd, some .laload, some .lastore, some (.iinc 9 1), none, none, some (.goto (-35)), none, none, some (.iload 5), none, some (.istore 9), none, some (.iload 9), none, some (.iload_n 2), some (.if_icmp .ge 32), none, none, some (.aload_n 0), some (.getfield 57), none, none, some (.bipush 12), none, some (.iload 8), none, some .imul, some (.iload 9), none, some .iadd, some (.iload 5), none, some .isub, some (.aload_n 0), some (.getfield 22), none, none, some (.iload 9), none, some .laload, some .lastore, some (.iinc 9 1), none, none, some (.goto (-32)), none, none, some (.iconst 0), some .ireturn]
def xi_136 : List (Option Instr) := [some (.aload_n 0), some (.iconst 0), some (.putfield 306), none, none, some (.aload_n 0), some (.iconst 0), some (.putfield 309), none, none, some (.aload_n 0), some (.iconst 0), some (.putfield 312), none, none, some (.aload_n 0), some (.iconst 0), some (.putfield 315), none, none, some (.aload_n 0), some (.getfield 93), none, none, some (.iconst 0), some (.iconst 0), some .iastore, some (.aload_n 0), some (.getfield 241), none, none, some (.iconst 1), some .isub, some (.istore_n 1), some (.iload_n 1), some (.ifCond .lt 25), none, none, some (.aload_n 0), some (.aload_n 0), some (.getfield 63), none, none, some (.iload_n 1), some .laload, some (.aload_n 0), some (.getfield 66), none, none, some (.iload_n 1), some .iaload, some (.invokevirtual 318), none, none, some (.iinc 1 (-1)), none, none, some (.goto (-23)), none, none, some (.aload_n 0), some (.iconst 0), some (.putfield 241), none, none, some (.iconst 0), some (.istore_n 1), some (.iconst 0), some (.istore_n 2), some (.iload_n 2), some (.ldc_w 322), none, none, some (.if_icmp .ge 18), none, none, some (.iload_n 1), some (.ifCond .ne 14), none, none, some (.aload_n 0), some (.invokevirtual 323), none, none, some (.istore_n 1), some (.iinc 2 1), none, none, some (.goto (-19)), none, none, some (.iload_n 1), some (.bipush 99), none, some (.if_icmp .eq 5), none, none, some (.iload_n 1), some .ireturn, some (.aload_n 0), some (.getfield 326), none, none, some (.aload_n 0), some (.getfield 309), none, none, some .iadd, some (.bipush 100), none, some (.if_icmp .le 6), none, none, some (.bipush 7), none, some .ireturn, some (.iconst 0), some (.istore_n 2), some (.iload_n 2), some (.aload_n 0), some (.getfield 309), none, none, some (.if_icmp .ge 52), none, none, some (.aload_n 0), some (.getfield 117), none, none, some (.aload_n 0), some (.getfield 326), none, none, some (.aload_n 0), some (.getfield 75), none, none, some (.iload_n 2), some .laload, some .lastore, some (.aload_n 0), some (.getfield 120), none, none, some (.aload_n 0), some (.getfield 326), none, none, some (.aload_n 0), some (.getfield 78), none, none, some (.iload_n 2), some .iaload, some (.bipush 8), none, some .ishr, some .iastore, some (.aload_n 0), some .dup, some (.getfield 326), none, none, some (.iconst 1), some .iadd, some (.putfield 326), none, none, some (.iinc 2 1), none, none, some (.goto (-54)), none, none, some (.iconst 0), some .ireturn]
def xi_137 : List (Option Instr) := [some (.aload_n 0), some (.getfield 69), none, none, some (.aload_n 0), some (.getfield 306), none, none, some (.lload_n 1), some .lastore, some (.aload_n 0), some (.getfield 72), none, none, some (.aload_n 0), some (.getfield 306), none, none, some (.iload_n 3), some .iastore, some (.aload_n 0), some .dup, some (.getfield 306), none, none, some (.iconst 1), some .iadd, some (.putfield 306), none, none, some .return_]
def xi_138 : List (Option Instr) := [some (.aload_n 0), some (.getfield 306), none, none, some (.aload_n 0), some (.getfield 93), none, none, some (.aload_n 0), some (.getfield 315), none, none, some .iaload, some (.if_icmp .ne 20), none, none, some (.aload_n 0), some (.getfield 315), none, none, some (.ifCond .ne 8), none, none, some (.bipush 99), none, some (.goto 7), none, none, some (.aload_n 0), some (.invokevirtual 329), none, none, some .ireturn, some (.aload_n 0), some .dup, some (.getfield 306), none, none, some (.iconst 1), some .isub, some (.putfield 306), none, none, some (.aload_n 0), some (.getfield 69), none, none, some (.aload_n 0), some (.getfield 306), none, none, some .laload, some (.lstore_n 1), some (.aload_n 0), some (.getfield 72), none, none, some (.aload_n 0), some (.getfield 306), none, none, some .iaload, some (.istore_n 3), some (.aload_n 0), some (.lload_n 1), some (.invokevirtual 275), none, none, some (.istore 4), none, some (.iload 4), none, some (.ifCond .lt 16), none, none, some (.iload_n 3), some (.iload 4), none, some .ishr, some (.iconst 1), some .iand, some (.ifCond .ne 7), none, none, some (.iconst 1), some (.goto 4), none, none, some (.iconst 0), some (.istore 5), none, some (.iload 5), none, some (.ifCond .eq 17), none, none, some (.aload_n 0), some (.getfield 51), none, none, some (.iload 4), none, some .iaload, some (.ifCond .lt 7), none, none, some (.iconst 1), some (.goto 4), none, none, some (.iconst 0), some (.istore 6), none, some (.iload 6), none, some (.ifCond .eq 44), none, none, some (.aload_n 0), some (.getfield 306), none, none, some (.aload_n 0), some (.getfield 93), none, none, some (.aload_n 0), some (.getfield 315), none, none, some .iaload, some (.if_icmp .le 25), none, none, some (.aload_n 0), some (.getfield 69), none, none, some (.aload_n 0), some (.getfield 306), none, none, some (.iconst 1), some .isub, some .laload, some (.ldc2_w 296), none, none, some .lcmp, some (.ifCond .ne 7), none, none, some (.iconst 1), some (.goto 4), none, none, some (.iconst 0), some (.istore 5), none, some (.iload 5), none, some (.ifCond .ne 35), none, none, some (.aload_n 0), some (.getfield 75), none, none, some (.aload_n 0), some (.getfield 309), none, none, some (.lload_n 1), some .lastore, some (.aload_n 0), some (.getfield 78), none, none, some (.aload_n 0), some (.getfield 309), none, none, some (.iload_n 3), some .iastore, some (.aload_n 0), some .dup, some (.getfield 309), none, none, some (.iconst 1), some .iadd, some (.putfield 309), none, none, some (.iconst 0), some .ireturn, some (.aload_n 0), some (.getfield 99), none, none, some (.aload_n 0), some (.getfield 315), none, none, some (.iload 4), none, some .iastore, some (.aload_n 0), some (.getfield 102), none, none, some (.aload_n 0), some (.getfield 315), none, none, some (.iload_n 3), some .iastore, some (.aload_n 0), some (.getfield 105), none, none, some (.aload_n 0), some (.getfield 315), none, none, some (.sipush 255), none, none, some .iastore, some (.aload_n 0), some (.getfield 108), none, none, some (.aload_n 0), some (.getfield 315), none, none, some (.iconst 0), some .iastore, some (.aload_n 0), some (.getfield 111), none, none, some (.iconst 4), some (.aload_n 0), some (.getfield 315), none, none, some .imul, some (.aload_n 0), some (.getfield 312), none, none, some .iastore, some (.aload_n 0), some (.getfield 114), none, none, some (.iconst 4), some (.aload_n 0), some (.getfield 315), none, none, some .imul, some (.aload_n 0), some (.getfield 309), none, none, some .iastore, some (.iload 6), none, some (.ifCond .eq 12), none, none, some (.aload_n 0), some (.iload 4), none, some (.invokevirtual 332), none, none, some (.goto 18), none, none, some (.aload_n 0), some (.getfield 335), none, none, some (.bipush 30), none, some (.if_icmp .ne 8), none, none, some (.bipush 7), none, some (.goto 4), none, none, some (.iconst 0), some (.istore 7), none, some (.iload 7), none, some (.ifCond .eq 6), none, none, some (.iload 7), none, some .ireturn, some (.aload_n 0), some .dup, some (.getfield 335), none, none, some (.iconst 1), some .iadd, some (.putfield 335), none, none, some (.aload_n 0), some (.invokevirtual 338), none, none, some .ireturn]
def xi_139 : List (Option Instr) := [some (.iconst 0), some (.istore_n 2), some (.iconst 0), some (.istore_n 3), some (.aload_n 0), some (.getfield 306), none, none, some (.iconst 1), some .isub, some (.istore 4), none, some (.iconst 1), some (.istore 5), none, some (.iload 5), none, some (.ifCond .eq 101), none, none, some (.iload 4), none, some (.aload_n 0), some (.getfield 93), none, none, some (.aload_n 0), some (.getfield 315), none, none, some .iaload, some (.if_icmp .lt 87), none, none, some (.iload_n 2), some (.aload_n 0), some (.getfield 69), none, none, some (.iload 4), none, some .laload, some (.ldc2_w 296), none, none, some .lcmp, some (.ifCond .ne 7), none, none, some (.iconst 1), some (.goto 22), none, none, some (.aload_n 0), some (.getfield 69), none, none, some (.iload 4), none, some .laload, some (.ldc2_w 292), none, none, some .lcmp, some (.ifCond .ne 7), none, none, some (.iconst (-1)), some (.goto 4), none, none, some (.iconst 0), some .iadd, some (.istore_n 2), some (.iload_n 3), some (.aload_n 0), some (.getfield 69), none, none, some (.iload 4), none, some .laload, some (.ldc2_w 294), none, none, some .lcmp, some (.ifCond .ne 12), none, none, some (.iload_n 2), some (.iconst 1), some (.if_icmp .ne 7), none, none, some (.iconst 1), some (.goto 4), none, none, some (.iconst 0), some .iadd, some (.istore_n 3), some (.iload_n 2), some (.ifCond .le 7), none, none, some (.iconst 1), some (.goto 4), none, none, some (.iconst 0), some (.istore 5), none, some (.iinc 4 (-1)), none, none, some (.goto (-100)), none, none, some (.iinc 4 1), none, none, some (.iload_n 2), some (.ifCond .le 6), none, none, some (.bipush 8), none, some .ireturn, some (.aload_n 0), some (.getfield 306), none, none, some (.iload 4), none, some .isub, some (.iconst 2), some .isub, some (.istore 5), none, some (.iload 5), none, some (.ifCond .ne 16), none, none, some (.aload_n 0), some (.getfield 51), none, none, some (.iload_n 1), some .iaload, some (.ifCond .ne 7), none, none, some (.iconst 0), some (.goto 6), none, none, some (.iload_n 3), some (.iconst 1), some .iadd, some (.aload_n 0), some (.getfield 51), none, none, some (.iload_n 1), some .iaload, some (.if_icmp .eq 6), none, none, some (.bipush 8), none, some .ireturn, some (.iload 5), none, some (.bipush 40), none, some (.if_icmp .gt 12), none, none, some (.aload_n 0), some (.getfield 335), none, none, some (.bipush 30), none, some (.if_icmp .ne 6), none, none, some (.bipush 7), none, some .ireturn, some (.aload_n 0), some (.getfield 105), none, none, some (.aload_n 0), some (.getfield 315), none, none, some (.aload_n 0), some (.getfield 72), none, none, some (.iload 4), none, some .iaload, some (.sipush 255), none, none, some .iand, some .iastore, some (.iconst 0), some (.istore 6), none, some (.aload_n 0), some (.getfield 306), none, none, some (.iconst 2), some .isub, some (.istore 7), none, some (.iload 7), none, some (.iload 4), none, some (.if_icmp .le 133), none, none, some (.iload_n 2), some (.aload_n 0), some (.getfield 69), none, none, some (.iload 7), none, some .laload, some (.ldc2_w 296), none, none, some .lcmp, some (.ifCond .ne 7), none, none, some (.iconst 1), some (.goto 22), none, none, some (.aload_n 0), some (.getfield 69), none, none, some (.iload 7), none, some .laload, some (.ldc2_w 292), none, none, some .lcmp, some (.ifCond .ne 7), none, none, some (.iconst (-1)), some (.goto 4), none, none, some (.iconst 0), some .iadd, some (.istore_n 2), some (.aload_n 0), some (.getfield 69), none, none, some (.iload 7), none, some .laload, some (.ldc2_w 294), none, none, some .lcmp, some (.ifCond .ne 31), none, none, some (.iload_n 2), some (.ifCond .ne 27), none, none, some (.iinc 6 1), none, none, some (.aload_n 0), some (.getfield 111), none, none, some (.iconst 4), some (.aload_n 0), some (.getfield 315), none, none, some .imul, some (.iload 6), none, some .iadd, some (.aload_n 0), some (.getfield 312), none, none, some .iastore, some (.goto 45), none, none, some (.aload_n 0), some (.getfield 81), none, none, some (.aload_n 0), some (.getfield 312), none, none, some (.aload_n 0), some (.getfield 69), none, none, some (.iload 7), none, some .laload, some .lastore, some (.aload_n 0), some (.getfield 84), none, none, some (.aload_n 0), some (.getfield 312), none, none, some (.aload_n 0), some (.getfield 72), none, none, some (.iload 7), none, some .iaload, some .iastore, some (.aload_n 0), some .dup, some (.getfield 312), none, none, some (.iconst 1), some .iadd, some (.putfield 312), none, none, some (.iinc 7 (-1)), none, none, some (.goto (-134)), none, none, some (.aload_n 0), some (.getfield 51), none, none, some (.iload_n 1), some .iaload, some (.ifCond .le 25), none, none, some (.aload_n 0), some (.getfield 111), none, none, some (.iconst 4), some (.aload_n 0), some (.getfield 315), none, none, some .imul, some (.aload_n 0), some (.getfield 51), none, none, some (.iload_n 1), some .iaload, some .iadd, some (.aload_n 0), some (.getfield 312), none, none, some .iastore, some (.aload_n 0), some (.iload 4), none, some (.putfield 306), none, none, some (.iconst 0), some .ireturn]
def xi_140 : List (Option Instr) := [some (.aload_n 0), some (.getfield 108), none, none, some (.aload_n 0), some (.getfield 315), none, none, some .iaload, some (.istore_n 1), some (.iload_n 1), some (.aload_n 0), some (.getfield 51), none, none, some (.aload_n 0), some (.getfield 99), none, none, some (.aload_n 0), some (.getfield 315), none, none, some .iaload, some .iaload, some (.if_icmp .lt 8), none, none, some (.aload_n 0), some (.invokevirtual 341), none, none, some .ireturn, some (.aload_n 0), some (.getfield 111), none, none, some (.iconst 4), some (.aload_n 0), some (.getfield 315), none, none, some .imul, some (.iload_n 1), some .iadd, some .iaload, some (.istore_n 2), some (.aload_n 0), some (.getfield 111), none, none, some (.iconst 4), some (.aload_n 0), some (.getfield 315), none, none, some .imul, some (.iload_n 1), some .iadd, some (.iconst 1), some .iadd, some .iaload, some (.istore_n 3), some (.aload_n 0), some .dup, some (.getfield 315), none, none, some (.iconst 1), some .iadd, some (.putfield 315), none, none, some (.aload_n 0), some (.getfield 93), none, none, some (.aload_n 0), some (.getfield 315), none, none, some (.aload_n 0), some (.getfield 306), none, none, some .iastore, some (.aload_n 0), some (.getfield 96), none, none, some (.aload_n 0), some (.getfield 315), none, none, some (.aload_n 0), some (.getfield 309), none, none, some .iastore, some (.iload_n 3), some (.iconst 1), some .isub, some (.istore 4), none, some (.iload 4), none, some (.iload_n 2), some (.if_icmp .lt 27), none, none, some (.aload_n 0), some (.aload_n 0), some (.getfield 81), none, none, some (.iload 4), none, some .laload, some (.aload_n 0), some (.getfield 84), none, none, some (.iload 4), none, some .iaload, some (.invokevirtual 318), none, none, some (.iinc 4 (-1)), none, none, some (.goto (-27)), none, none, some (.iconst 0), some .ireturn]
def xi_141 : List (Option Instr) := [some (.aload_n 0), some (.getfield 309), none, none, some (.aload_n 0), some (.getfield 96), none, none, some (.aload_n 0), some (.getfield 315), none, none, some .iaload, some .isub, some (.bipush 40), none, some (.if_icmp .le 6), none, none, some (.bipush 7), none, some .ireturn, some (.aload_n 0), some .dup, some (.getfield 315), none, none, some (.iconst 1), some .isub, some (.putfield 315), none, none, some (.aload_n 0), some (.getfield 108), none, none, some (.aload_n 0), some (.getfield 315), none, none, some .dup2, some .iaload, some (.iconst 1), some .iadd, some .iastore, some (.aload_n 0), some (.getfield 114), none, none, some (.iconst 4), some (.aload_n 0), some (.getfield 315), none, none, some .imul, some (.aload_n 0), some (.getfield 108), none, none, some (.aload_n 0), some (.getfield 315), none, none, some .iaload, some .iadd, some (.aload_n 0), some (.getfield 309), none, none, some .iastore, some (.aload_n 0), some (.invokevirtual 338), none, none, some .ireturn]
def xi_142 : List (Option Instr) := [some (.iconst 0), some (.istore 4), none, some (.iload 4), none, some (.aload_n 0), some (.getfield 51), none, none, some (.iload_n 1), some .iaload, some (.if_icmp .ge 28), none, none, some (.aload_n 0), some (.getfield 54), none, none, some (.iconst 3), some (.iload_n 1), some .imul, some (.iload 4), none, some .iadd, some .laload, some (.lload_n 2), some .lcmp, some (.ifCond .ne 6), none, none, some (.iload 4), none, some .ireturn, some (.iinc 4 1), none, none, some (.goto (-33)), none, none, some (.iconst (-1)), some .ireturn]
def xi_143 : List (Option Instr) := [some (.aload_n 0), some (.getfield 99), none, none, some (.aload_n 0), some (.getfield 315), none, none, some .iaload, some (.istore_n 1), some (.iconst 0), some (.istore_n 2), some (.iconst 0), some (.istore_n 3), some (.iconst 0), some (.istore 4), none, some (.iload 4), none, some (.aload_n 0), some (.getfield 60), none, none, some (.iload_n 1), some .iaload, some (.if_icmp .ge 392), none, none, some (.aload_n 0), some (.getfield 57), none, none, some (.bipush 12), none, some (.iload_n 1), some .imul, some (.iload 4), none, some .iadd, some .laload, some (.lstore 5), none, some (.iload 4), none, some (.ifCond .le 28), none, none, some (.aload_n 0), some (.getfield 57), none, none, some (.bipush 12), none, some (.iload_n 1), some .imul, some (.iload 4), none, some .iadd, some (.iconst 1), some .isub, some .laload, some (.ldc2_w 301), none, none, some .lcmp, some (.ifCond .ne 7), none, none, some (.iconst 1), some (.goto 4), none, none, some (.iconst 0), some (.istore 7), none, some (.iload 7), none, some (.ifCond .ne 37), none, none, some (.iload 4), none, some (.iconst 1), some .iadd, some (.aload_n 0), some (.getfield 60), none, none, some (.iload_n 1), some .iaload, some (.if_icmp .ge 28), none, none, some (.aload_n 0), some (.getfield 57), none, none, some (.bipush 12), none, some (.iload_n 1), some .imul, some (.iload 4), none, some .iadd, some (.iconst 1), some .iadd, some .laload, some (.ldc2_w 301), none, none, some .lcmp, some (.ifCond .ne 7), none, none, some (.iconst 1), some (.goto 4), none, none, some (.iconst 0), some (.istore 8), none, some (.aload_n 0), some (.iload_n 1), some (.lload 5), none, some (.invokevirtual 344), none, none, some (.istore 9), none, some (.lload 5), none, some (.ldc2_w 301), none, none, some .lcmp, some (.ifCond .eq 275), none, none, some (.iload 7), none, some (.ifCond .eq 7), none, none, some (.iload_n 3), some (.goto 4), none, none, some (.iload_n 2), some (.istore_n 3), some (.iload 9), none, some (.ifCond .ge 7), none, none, some (.iconst 0), some (.goto 39), none, none, some (.iload 8), none, some (.ifCond .eq 20), none, none, some (.aload_n 0), some (.getfield 111), none, none, some (.iconst 4), some (.aload_n 0), some (.getfield 315), none, none, some .imul, some (.iload 9), none, some .iadd, some .iaload, some (.goto 17), none, none, some (.aload_n 0), some (.getfield 114), none, none, some (.iconst 4), some (.aload_n 0), some (.getfield 315), none, none, some .imul, some (.iload 9), none, some .iadd, some .iaload, some (.istore 10), none, some (.iload 9), none, some (.ifCond .ge 7), none, none, some (.iconst 1), some (.goto 43), none, none, some (.iload 8), none, some (.ifCond .eq 22), none, none, some (.aload_n 0), some (.getfield 111), none, none, some (.iconst 4), some (.aload_n 0), some (.getfield 315), none, none, some .imul, some (.iload 9), none, some .iadd, some (.iconst 1), some .iadd, some .iaload, some (.goto 19), none, none, some (.aload_n 0), some (.getfield 114), none, none, some (.iconst 4), some (.aload_n 0), some (.getfield 315), none, none, some .imul, some (.iload 9), none, some .iadd, some (.iconst 1), some .iadd, some .iaload, some (.istore 11), none, some (.iload 7), none, some (.ifCond .eq 12), none, none, some (.iload_n 2), some (.iload_n 3), some (.if_icmp .le 7), none, none, some (.iconst 1), some (.goto 4), none, none, some (.iconst 0), some (.istore 12), none, some (.iload 10), none, some (.istore 13), none, some (.iload 13), none, some (.iload 11), none, some (.if_icmp .ge 138), none, none, some (.iload 9), none, some (.ifCond .ge 8), none, none, some (.lload 5), none, some (.goto 25), none, none, some (.iload 8), none, some (.ifCond .eq 13), none, none, some (.aload_n 0), some (.getfield 81), none, none, some (.iload 13), none, some .laload, some (.goto 10), none, none, some (.aload_n 0), some (.getfield 75), none, none, some (.iload 13), none, some .laload, some (.lstore 14), none, some (.iload 9), none, some (.ifCond .ge 21), none, none, some (.aload_n 0), some (.getfield 102), none, none, some (.aload_n 0), some (.getfield 315), none, none, some .iaload, some (.bipush 8), none, some .ishr, some (.bipush 8), none, some .ishl, some (.goto 25), none, none, some (.iload 8), none, some (.ifCond .eq 13), none, none, some (.aload_n 0), some (.getfield 84), none, none, some (.iload 13), none, some .iaload, some (.goto 10), none, none, some (.aload_n 0), some (.getfield 78), none, none, some (.iload 13), none, some .iaload, some (.istore 16), none, some (.iload 13), none, some (.iload 10), none, some (.if_icmp .ne 25), none, none, some (.iload 12), none, some (.ifCond .eq 20), none, none, some (.aload_n 0), some (.iload_n 2), some (.iconst 1), some .isub, some (.lload 14), none, some (.iload 16), none, some (.invokevirtual 348), none, none, some (.ifCond .ne 25), none, none, some (.bipush 9), none, some .ireturn, some (.aload_n 0), some (.getfield 87), none, none, some (.iload_n 2), some (.lload 14), none, some .lastore, some (.aload_n 0), some (.getfield 90), none, none, some (.iload_n 2), some (.iload 16), none, some .iastore, some (.iinc 2 1), none, none, some (.iinc 13 1), none, none, some (.goto (-139)), none, none, some (.iinc 4 1), none, none, some (.goto (-397)), none, none, some (.iload_n 2), some (.bipush 40), none, some (.if_icmp .le 6), none, none, some (.bipush 7), none, some .ireturn, some (.iconst 1), some (.iload_n 1), some .ishl, some (.aload_n 0), some (.getfield 102), none, none, some (.aload_n 0), some (.getfield 315), none, none, some .iaload, some (.aload_n 0), some (.getfield 105), none, none, some (.aload_n 0), some (.getfield 315), none, none, some .iaload, some .iand, some (.sipush 255), none, none, some .iand, some .ior, some (.istore 4), none, some (.aload_n 0), some (.aload_n 0), some (.getfield 111), none, none, some (.iconst 4), some (.aload_n 0), some (.getfield 315), none, none, some .imul, some .iaload, some (.putfield 312), none, none, some (.aload_n 0), some (.aload_n 0), some (.getfield 114), none, none, some (.iconst 4), some (.aload_n 0), some (.getfield 315), none, none, some .imul, some .iaload, some (.putfield 309), none, none, some (.iload_n 2), some (.iconst 1), some .isub, some (.istore 5), none, some (.iload 5), none, some (.ifCond .lt 30), none, none, some (.aload_n 0), some (.aload_n 0), some (.getfield 87), none, none, some (.iload 5), none, some .laload, some (.aload_n 0), some (.getfield 90), none, none, some (.iload 5), none, some .iaload, some (.iload 4), none, some .ior, some (.invokevirtual 318), none, none, some (.iinc 5 (-1)), none, none, some (.goto (-29)), none, none, some (.iconst 0), some .ireturn]
def xi_144 : List (Option Instr) := [some (.aload_n 0), some (.getfield 87), none, none, some (.iload_n 1), some .laload, some (.invokestatic 184), none, none, some (.istore 5), none, some (.lload_n 2), some (.invokestatic 184), none, none, some (.istore 6), none, some (.iload 5), none, some (.iload 6), none, some .iadd, some (.bipush 9), none, some (.if_icmp .le 5), none, none, some (.iconst 0), some .ireturn, some (.aload_n 0), some (.getfield 87), none, none, some (.iload_n 1), some .laload, some (.bipush 7), none, some (.iload 6), none, some .imul, some .lshl, some (.lload_n 2), some .lor, some (.lstore 7), none, some (.iconst 1), some (.istore 9), none, some (.iconst 0), some (.istore 10), none, some (.iload 10), none, some (.iload 5), none, some (.iload 6), none, some .iadd, some (.if_icmp .ge 34), none, none, some (.iload 9), none, some (.ifCond .eq 20), none, none, some (.lload 7), none, some (.iload 10), none, some (.invokestatic 190), none, none, some (.invokestatic 198), none, none, some (.ifCond .eq 7), none, none, some (.iconst 1), some (.goto 4), none, none, some (.iconst 0), some (.istore 9), none, some (.iinc 10 1), none, none, some (.goto (-38)), none, none, some (.iload 9), none, some (.ifCond .ne 23), none, none, some (.lload 7), none, some (.ldc2_w 301), none, none, some .lcmp, some (.ifCond .eq 14), none, none, some (.lload 7), none, some (.ldc2_w 352), none, none, some .lcmp, some (.ifCond .eq 5), none, none, some (.iconst 0), some .ireturn, some (.aload_n 0), some (.getfield 87), none, none, some (.iload_n 1), some (.lload 7), none, some .lastore, some (.aload_n 0), some (.getfield 90), none, none, some (.iload_n 1), some (.aload_n 0), some (.getfield 102), none, none, some (.aload_n 0), some (.getfield 315), none, none, some .iaload, some (.bipush 8), none, some .ishr, some (.bipush 8), none, some .ishl, some (.aload_n 0), some (.getfield 90), none, none, some (.iload_n 1), some .iaload, some (.iload 4), none, some .iand, some (.sipush 255), none, none, some .iand, some .ior, some .iastore, some (.iconst 1), some .ireturn]
def xi_145 : List (Option Instr) := [some (.iload_n 1), some (.ifCond .lt 8), none, none, some (.iload_n 1), some (.iconst 2), some (.if_icmp .le 5), none, none, some (.iconst (-1)), some .ireturn, some (.iconst 0), some (.istore_n 2), some (.iload_n 2), some (.bipush 8), none, some (.if_icmp .ge 16), none, none, some (.aload_n 0), some (.getfield 48), none, none, some (.iload_n 2), some (.lconst 0), some .lastore, some (.iinc 2 1), none, none, some (.goto (-16)), none, none, some (.aload_n 0), some (.iconst 0), some (.putfield 335), none, none, some (.aload_n 0), some (.iconst 0), some (.putfield 326), none, none, some (.aload_n 0), some (.iconst 0), some (.putfield 241), none, none, some (.aload_n 0), some (.iconst 0), some (.putfield 215), none, none, some (.aload_n 0), some (.iconst 0), some (.putfield 286), none, none, some (.aload_n 0), some (.iconst 0), some (.putfield 218), none, none, some (.aload_n 0), some (.iconst 0), some (.putfield 252), none, none, some (.aload_n 0), some (.iconst 0), some (.putfield 138), none, none, some (.aload_n 0), some (.aload_n 0), some (.iload_n 1), some (.invokevirtual 289), none, none, some (.putfield 354), none, none, some (.iconst 0), some (.istore_n 2), some (.iload_n 2), some (.sipush 4000), none, none, some (.if_icmp .ge 31), none, none, some (.aload_n 0), some (.getfield 354), none, none, some (.ifCond .ne 24), none, none, some (.aload_n 0), some (.getfield 215), none, none, some (.ifCond .lt 17), none, none, some (.aload_n 0), some (.aload_n 0), some (.invokevirtual 357), none, none, some (.putfield 354), none, none, some (.iinc 2 1), none, none, some (.goto (-32)), none, none, some (.aload_n 0), some (.getfield 354), none, none, some (.ifCond .eq 13), none, none, some (.aload_n 0), some (.iconst 0), some (.putfield 326), none, none, some (.aload_n 0), some (.getfield 354), none, none, some .ireturn, some (.aload_n 0), some (.aload_n 0), some (.invokevirtual 360), none, none, some (.putfield 354), none, none, some (.aload_n 0), some (.getfield 354), none, none, some (.ifCond .ne 16), none, none, some (.aload_n 0), some (.invokevirtual 363), none, none, some (.ifCond .ne 9), none, none, some (.aload_n 0), some (.bipush 11), none, some (.putfield 354), none, none, some (.aload_n 0), some (.getfield 354), none, none, some (.ifCond .eq 8), none, none, some (.aload_n 0), some (.iconst 0), some (.putfield 138), none, none, some (.aload_n 0), some (.getfield 354), none, none, some .ireturn]
def xi_146 : List (Option Instr) := [some (.iconst 0), some (.istore_n 1), some (.iload_n 1), some (.aload_n 0), some (.getfield 326), none, none, some (.if_icmp .ge 67), none, none, some (.aload_n 0), some (.getfield 117), none, none, some (.iload_n 1), some .laload, some (.invokestatic 366), none, none, some (.ifCond .eq 15), none, none, some (.aload_n 0), some (.getfield 117), none, none, some (.iload_n 1), some .laload, some (.invokestatic 184), none, none, some (.goto 4), none, none, some (.iconst 0), some (.istore_n 2), some (.iconst 0), some (.istore_n 3), some (.iload_n 3), some (.iload_n 2), some (.if_icmp .ge 28), none, none, some (.aload_n 0), some (.getfield 117), none, none, some (.iload_n 1), some .laload, some (.iload_n 3), some (.invokestatic 190), none, none, some (.invokestatic 194), none, none, some (.ifCond .ne 6), none, none, some (.bipush 10), none, some .ireturn, some (.iinc 3 1), none, none, some (.goto (-27)), none, none, some (.iinc 1 1), none, none, some (.goto (-69)), none, none, some (.iconst 0), some (.istore_n 1), some (.iconst 0), some (.istore_n 2), some (.iload_n 2), some (.aload_n 0), some (.getfield 326), none, none, some (.if_icmp .ge 115), none, none, some (.aload_n 0), some (.getfield 117), none, none, some (.iload_n 2), some .laload, some (.lstore_n 3), some (.lload_n 3), some (.ldc2_w 296), none, none, some .lcmp, some (.ifCond .eq 19), none, none, some (.lload_n 3), some (.ldc2_w 369), none, none, some .lcmp, some (.ifCond .eq 11), none, none, some (.lload_n 3), some (.ldc2_w 371), none, none, some .lcmp, some (.ifCond .ne 7), none, none, some (.iconst 1), some (.goto 4), none, none, some (.iconst 0), some (.istore 5), none, some (.lload_n 3), some (.ldc2_w 292), none, none, some .lcmp, some (.ifCond .eq 19), none, none, some (.lload_n 3), some (.ldc2_w 373), none, none, some .lcmp, some (.ifCond .eq 11), none, none, some (.lload_n 3), some (.ldc2_w 375), none, none, some .lcmp, some (.ifCond .ne 7), none, none, some (.iconst 1), some (.goto 4), none, none, some (.iconst 0), some (.istore 6), none, some (.iload 5), none, some (.ifCond .eq 9), none, none, some (.iload_n 1), some (.iconst 1), some .iadd, some (.goto 19), none, none, some (.iload 6), none, some (.ifCond .eq 13), none, none, some (.iload_n 1), some (.ifCond .le 9), none, none, some (.iload_n 1), some (.iconst 1), some .isub, some (.goto 4), none, none, some (.iload_n 1), some (.istore_n 1), some (.iload_n 1), some (.bipush 6), none, some (.if_icmp .le 6), none, none, some (.bipush 7), none, some .ireturn, some (.iinc 2 1), none, none, some (.goto (-117)), none, none, some (.iconst 0), some .ireturn]
def xi_147 : List (Option Instr) := [some (.iconst 0), some (.istore_n 1), some (.iconst 0), some (.istore_n 2), some (.iload_n 2), some (.aload_n 0), some (.getfield 326), none, none, some (.if_icmp .ge 147), none, none, some (.aload_n 0), some (.getfield 117), none, none, some (.iload_n 2), some .laload, some (.lstore_n 3), some (.lload_n 3), some (.ldc2_w 296), none, none, some .lcmp, some (.ifCond .eq 19), none, none, some (.lload_n 3), some (.ldc2_w 369), none, none, some .lcmp, some (.ifCond .eq 11), none, none, some (.lload_n 3), some (.ldc2_w 371), none, none, some .lcmp, some (.ifCond .ne 13), none, none, some (.aload_n 0), some (.getfield 126), none, none, some (.iload_n 1), some (.iload_n 2), some .iastore, some (.iinc 1 1), none, none, some (.lload_n 3), some (.ldc2_w 292), none, none, some .lcmp, some (.ifCond .eq 19), none, none, some (.lload_n 3), some (.ldc2_w 373), none, none, some .lcmp, some (.ifCond .eq 11), none, none, some (.lload_n 3), some (.ldc2_w 375), none, none, some .lcmp, some (.ifCond .ne 76), none, none, some (.lload_n 3), some (.ldc2_w 292), none, none, some .lcmp, some (.ifCond .ne 9), none, none, some (.ldc2_w 296), none, none, some (.goto 8), none, none, some (.lload_n 3), some (.ldc2_w 377), none, none, some .lsub, some (.lstore 5), none, some (.iload_n 1), some (.ifCond .eq 22), none, none, some (.aload_n 0), some (.getfield 117), none, none, some (.aload_n 0), some (.getfield 126), none, none, some (.iload_n 1), some (.iconst 1), some .isub, some .iaload, some .laload, some (.lload 5), none, some .lcmp, some (.ifCond .eq 5), none, none, some (.iconst 0), some .ireturn, some (.iinc 1 (-1)), none, none, some (.aload_n 0), some (.getfield 123), none, none, some (.iload_n 2), some (.aload_n 0), some (.getfield 126), none, none, some (.iload_n 1), some .iaload, some .iastore, some (.aload_n 0), some (.getfield 123), none, none, some (.aload_n 0), some (.getfield 126), none, none, some (.iload_n 1), some .iaload, some (.iload_n 2), some .iastore, some (.iinc 2 1), none, none, some (.goto (-149)), none, none, some (.iload_n 1), some (.ifCond .ne 7), none, none, some (.iconst 1), some (.goto 4), none, none, some (.iconst 0), some .ireturn]
def xi_148 : List (Option Instr) := [some (.aload_n 0), some (.getfield 117), none, none, some (.iload_n 1), some .laload, some (.lstore_n 2), some (.lload_n 2), some (.invokestatic 265), none, none, some (.ifCond .eq 39), none, none, some (.lload_n 2), some (.ldc2_w 379), none, none, some .lcmp, some (.ifCond .eq 31), none, none, some (.lload_n 2), some (.ldc2_w 381), none, none, some .lcmp, some (.ifCond .eq 23), none, none, some (.lload_n 2), some (.ldc2_w 383), none, none, some .lcmp, some (.ifCond .eq 15), none, none, some (.lload_n 2), some (.ldc2_w 385), none, none, some .lcmp, some (.ifCond .eq 7), none, none, some (.iconst 1), some (.goto 4), none, none, some (.iconst 0), some .ireturn]
def xi_149 : List (Option Instr) := [some (.iload_n 1), some (.aload_n 0), some (.getfield 326), none, none, some (.if_icmp .lt 5), none, none, some (.iconst 0), some .ireturn, some (.iconst (-1)), some (.istore_n 2), some (.iconst 0), some (.istore_n 3), some (.iload_n 3), some (.aload_n 0), some (.getfield 387), none, none, some (.if_icmp .ge 103), none, none, some (.aload_n 0), some (.getfield 148), none, none, some (.iload_n 3), some .iaload, some (.ifCond .ge 10), none, none, some (.aload_n 0), some (.getfield 326), none, none, some (.goto 14), none, none, some (.aload_n 0), some (.getfield 123), none, none, some (.aload_n 0), some (.getfield 148), none, none, some (.iload_n 3), some .iaload, some .iaload, some (.istore 4), none, some (.aload_n 0), some (.getfield 142), none, none, some (.iload_n 3), some .laload, some (.aload_n 0), some (.getfield 117), none, none, some (.iload_n 1), some .laload, some .lcmp, some (.ifCond .ne 23), none, none, some (.aload_n 0), some (.getfield 145), none, none, some (.iload_n 3), some .iaload, some (.iload_n 1), some (.if_icmp .gt 13), none, none, some (.iload_n 1), some (.iload 4), none, some (.if_icmp .ge 7), none, none, some (.iconst 1), some (.goto 4), none, none, some (.iconst 0), some (.istore 5), none, some (.iload 5), none, some (.ifCond .eq 24), none, none, some (.iload_n 2), some (.ifCond .lt 18), none, none, some (.aload_n 0), some (.getfield 148), none, none, some (.iload_n 3), some .iaload, some (.aload_n 0), some (.getfield 148), none, none, some (.iload_n 2), some .iaload, some (.if_icmp .lt 5), none, none, some (.iload_n 3), some (.istore_n 2), some (.iinc 3 1), none, none, some (.goto (-105)), none, none, some (.aload_n 0), some (.getfield 117), none, none, some (.iload_n 1), some .laload, some (.ldc2_w 379), none, none, some .lcmp, some (.ifCond .eq 29), none, none, some (.aload_n 0), some (.getfield 117), none, none, some (.iload_n 1), some .laload, some (.ldc2_w 381), none, none, some .lcmp, some (.ifCond .eq 16), none, none, some (.iload_n 2), some (.ifCond .lt 16), none, none, some (.aload_n 0), some (.getfield 151), none, none, some (.iload_n 2), some .baload, some (.ifCond .eq 7), none, none, some (.iconst 1), some (.goto 4), none, none, some (.iconst 0), some .ireturn]
def xi_150 : List (Option Instr) := [some (.aload_n 0), some (.getfield 129), none, none, some (.aload_n 0), some (.getfield 138), none, none, some (.iload_n 1), some .iastore, some (.aload_n 0), some (.getfield 132), none, none, some (.aload_n 0), some (.getfield 138), none, none, some (.iload_n 2), some .iastore, some (.aload_n 0), some (.getfield 135), none, none, some (.aload_n 0), some (.getfield 138), none, none, some (.iconst 0), some .iastore, some (.iload_n 3), some (.ifCond .lt 13), none, none, some (.aload_n 0), some (.getfield 135), none, none, some (.iload_n 3), some .dup2, some .iaload, some (.iconst 1), some .iadd, some .iastore, some (.aload_n 0), some .dup, some (.getfield 138), none, none, some (.iconst 1), some .iadd, some (.putfield 138), none, none, some (.aload_n 0), some (.getfield 138), none, none, some (.iconst 1), some .isub, some .ireturn]
def xi_151 : List (Option Instr) := [some (.aload_n 0), some (.getfield 154), none, none, some (.aload_n 0), some (.getfield 390), none, none, some (.iload_n 1), some .iastore, some (.aload_n 0), some (.getfield 157), none, none, some (.aload_n 0), some (.getfield 390), none, none, some (.iload_n 2), some .iastore, some (.aload_n 0), some (.getfield 160), none, none, some (.aload_n 0), some (.getfield 390), none, none, some (.iload_n 3), some .iastore, some (.aload_n 0), some (.getfield 163), none, none, some (.aload_n 0), some (.getfield 390), none, none, some (.iload 4), none, some .iastore, some (.aload_n 0), some (.getfield 166), none, none, some (.aload_n 0), some (.getfield 390), none, none, some (.iload 5), none, some .iastore, some (.aload_n 0), some .dup, some (.getfield 390), none, none, some (.iconst 1), some .iadd, some (.putfield 390), none, none, some (.iconst 1), some .ireturn]
def xi_152 : List (Option Instr) := [some (.aload_n 0), some (.invokevirtual 393), none, none, some (.ifCond .ne 5), none, none, some (.iconst 0), some .ireturn, some (.aload_n 0), some (.iconst 0), some (.putfield 387), none, none, some (.aload_n 0), some (.iconst 0), some (.putfield 390), none, none, some (.aload_n 0), some (.iconst 0), some (.iconst (-1)), some (.iconst (-1)), some (.invokevirtual 396), none, none, some .pop, some (.aload_n 0), some (.iconst 0), some (.iconst 0), some (.aload_n 0), some (.getfield 326), none, none, some (.iconst 0), some (.iconst (-1)), some (.invokevirtual 400), none, none, some .pop, some (.iconst 1), some (.istore_n 1), some (.iconst 0), some (.istore_n 2), some (.iload_n 2), some (.sipush 2000), none, none, some (.if_icmp .ge 174), none, none, some (.iload_n 1), some (.ifCond .eq 170), none, none, some (.aload_n 0), some (.getfield 390), none, none, some (.ifCond .le 163), none, none, some (.aload_n 0), some .dup, some (.getfield 390), none, none, some (.iconst 1), some .isub, some (.putfield 390), none, none, some (.aload_n 0), some (.getfield 154), none, none, some (.aload_n 0), some (.getfield 390), none, none, some .iaload, some (.istore_n 3), some (.aload_n 0), some (.getfield 157), none, none, some (.aload_n 0), some (.getfield 390), none, none, some .iaload, some (.istore 4), none, some (.aload_n 0), some (.getfield 160), none, none, some (.aload_n 0), some (.getfield 390), none, none, some .iaload, some (.istore 5), none, some (.aload_n 0), some (.getfield 163), none, none, some (.aload_n 0), some (.getfield 390), none, none, some .iaload, some (.istore 6), none, some (.aload_n 0), some (.getfield 166), none, none, some (.aload_n 0), some (.getfield 390), none, none, some .iaload, some (.istore 7), none, some (.iload_n 3), some (.ifCond .ne 19), none, none, some (.aload_n 0), some (.iload 4), none, some (.iload 5), none, some (.iload 6), none, some (.iload 7), none, some (.invokevirtual 404), none, none, some (.istore_n 1), some (.goto 73), none, none, some (.iload_n 3), some (.iconst 1), some (.if_icmp .ne 35), none, none, some (.aload_n 0), some (.iconst 0), some (.iload 4), none, some (.iconst 1), some .iadd, some (.aload_n 0), some (.getfield 123), none, none, some (.iload 4), none, some .iaload, some (.aload_n 0), some (.bipush 9), none, some (.iload 4), none, some (.iload 6), none, some (.invokevirtual 396), none, none, some (.iload 4), none, some (.invokevirtual 400), none, none, some (.istore_n 1), some (.goto 36), none, none, some (.iload_n 3), some (.iconst 5), some (.if_icmp .ne 17), none, none, some (.aload_n 0), some (.iload 4), none, some (.iload 5), none, some (.iload 6), none, some (.invokevirtual 408), none, none, some (.istore_n 1), some (.goto 17), none, none, some (.aload_n 0), some (.iload_n 3), some (.iload 4), none, some (.iload 5), none, some (.iload 6), none, some (.iload 7), none, some (.invokevirtual 412), none, none, some (.istore_n 1), some (.iinc 2 1), none, none, some (.goto (-175)), none, none, some (.iload_n 1), some .ireturn]
def xi_153 : List (Option Instr) := [some (.iload_n 1), some (.istore_n 3), some (.iload_n 3), some (.iload_n 2), some (.if_icmp .ge 86), none, none, some (.aload_n 0), some (.getfield 117), none, none, some (.iload_n 3), some .laload, some (.ldc2_w 415), none, none, some .lcmp, some (.ifCond .eq 73), none, none, some (.aload_n 0), some (.getfield 117), none, none, some (.iload_n 3), some .laload, some (.ldc2_w 371), none, none, some .lcmp, some (.ifCond .eq 60), none, none, some (.aload_n 0), some (.getfield 117), none, none, some (.iload_n 3), some .laload, some (.ldc2_w 375), none, none, some .lcmp, some (.ifCond .eq 47), none, none, some (.aload_n 0), some (.getfield 117), none, none, some (.iload_n 3), some .laload, some (.ldc2_w 296), none, none, some .lcmp, some (.ifCond .eq 16), none, none, some (.aload_n 0), some (.getfield 117), none, none, some (.iload_n 3), some .laload, some (.ldc2_w 369), none, none, some .lcmp, some (.ifCond .ne 14), none, none, some (.aload_n 0), some (.getfield 123), none, none, some (.iload_n 3), some .iaload, some (.iconst 1), some .iadd, some (.goto 6), none, none, some (.iload_n 3), some (.iconst 1), some .iadd, some (.istore_n 3), some (.goto (-85)), none, none, some (.iload_n 3), some (.iload_n 2), some (.if_icmp .ge 20), none, none, some (.aload_n 0), some (.getfield 117), none, none, some (.iload_n 3), some .laload, some (.ldc2_w 375), none, none, some .lcmp, some (.ifCond .eq 7), none, none, some (.iload_n 3), some (.goto 4), none, none, some (.iconst (-1)), some .ireturn]
def xi_154 : List (Option Instr) := [some (.iload_n 1), some (.iload_n 2), some (.if_icmp .ne 5), none, none, some (.iconst 1), some .ireturn, some (.aload_n 0), some (.getfield 117), none, none, some (.iload_n 1), some .laload, some (.ldc2_w 383), none, none, some .lcmp, some (.ifCond .eq 11), none, none, some (.aload_n 0), some (.iload_n 1), some (.invokevirtual 417), none, none, some (.ifCond .eq 7), none, none, some (.iconst 1), some (.goto 4), none, none, some (.iconst 0), some (.istore 5), none, some (.iload 4), none, some (.ifCond .lt 18), none, none, some (.iload 5), none, some (.ifCond .ne 13), none, none, some (.aload_n 0), some (.iload_n 1), some (.iload_n 2), some (.iload_n 3), some (.iload 4), none, some (.invokevirtual 420), none, none, some .ireturn, some (.aload_n 0), some (.getfield 117), none, none, some (.iload_n 1), some .laload, some (.ldc2_w 383), none, none, some .lcmp, some (.ifCond .ne 7), none, none, some (.iconst 1), some (.goto 4), none, none, some (.iconst 0), some (.istore 6), none, some (.iload 6), none, some (.ifCond .eq 9), none, none, some (.iload_n 1), some (.iconst 1), some .iadd, some (.goto 4), none, none, some (.iload_n 1), some (.istore 7), none, some (.iload 5), none, some (.ifCond .eq 30), none, none, some (.iload 7), none, some (.iload_n 2), some (.if_icmp .ge 24), none, none, some (.aload_n 0), some (.iload 7), none, some (.invokevirtual 417), none, none, some (.ifCond .eq 15), none, none, some (.aload_n 0), some (.iload 7), none, some (.iconst 1), some .iadd, some (.iload_n 2), some (.invokevirtual 423), none, none, some (.goto 4), none, none, some (.iconst (-1)), some (.istore 8), none, some (.iload 8), none, some (.ifCond .ge 5), none, none, some (.iconst 0), some .ireturn, some (.aload_n 0), some (.getfield 117), none, none, some (.iload 8), none, some .laload, some (.ldc2_w 371), none, none, some .lcmp, some (.ifCond .ne 7), none, none, some (.iconst 1), some (.goto 4), none, none, some (.iconst 0), some (.istore 9), none, some (.iload 9), none, some (.ifCond .eq 15), none, none, some (.iload 4), none, some (.ifCond .ge 8), none, none, some (.iload 6), none, some (.ifCond .eq 5), none, none, some (.iconst 0), some .ireturn, some (.aload_n 0), some (.iconst 0), some (.iload 9), none, some (.ifCond .eq 15), none, none, some (.aload_n 0), some (.getfield 123), none, none, some (.iload 8), none, some .iaload, some (.iconst 1), some .iadd, some (.goto 7), none, none, some (.iload 8), none, some (.iconst 1), some .iadd, some (.iload_n 2), some (.iload_n 3), some (.iload 4), none, some (.invokevirtual 400), none, none, some .pop, some (.aload_n 0), some (.iload 9), none, some (.ifCond .eq 8), none, none, some (.bipush 8), none, some (.goto 13), none, none, some (.iload 6), none, some (.ifCond .eq 7), none, none, some (.iconst 2), some (.goto 4), none, none, some (.iconst 1), some (.iload_n 1), some (.iload_n 3), some (.invokevirtual 396), none, none, some (.istore 10), none, some (.aload_n 0), some (.iconst 3), some (.iload 7), none, some (.iload 10), none, some (.invokevirtual 396), none, none, some .pop, some (.iload 9), none, some (.ifCond .eq 17), none, none, some (.aload_n 0), some (.iconst 1), some (.iload 8), none, some (.iload 8), none, some (.iload 10), none, some (.iload 4), none, some (.invokevirtual 400), none, none, some .pop, some (.aload_n 0), some (.iload 9), none, some (.ifCond .eq 7), none, none, some (.iconst 4), some (.goto 13), none, none, some (.iload 6), none, some (.ifCond .eq 7), none, none, some (.iconst 3), some (.goto 4), none, none, some (.iconst 2), some (.iload 7), none, some (.iconst 1), some .iadd, some (.iload 8), none, some (.iload 10), none, some (.iload 4), none, some (.invokevirtual 400), none, none, some .ireturn]
def xi_155 : List (Option Instr) := [some (.aload_n 0), some (.getfield 117), none, none, some (.iload_n 1), some .laload, some (.ldc2_w 371), none, none, some .lcmp, some (.ifCond .ne 32), none, none, some (.aload_n 0), some (.iconst 0), some (.aload_n 0), some (.getfield 123), none, none, some (.iload_n 1), some .iaload, some (.iconst 1), some .iadd, some (.iload_n 2), some (.iload_n 3), some (.iload 4), none, some (.invokevirtual 400), none, none, some .pop, some (.aload_n 0), some (.iconst 1), some (.iload_n 1), some (.iload_n 1), some (.iload_n 3), some (.iload 4), none, some (.invokevirtual 400), none, none, some .ireturn, some (.aload_n 0), some (.getfield 117), none, none, some (.iload_n 1), some .laload, some (.ldc2_w 385), none, none, some .lcmp, some (.ifCond .ne 7), none, none, some (.iconst 1), some (.goto 4), none, none, some (.iconst 0), some (.istore 5), none, some (.iload 5), none, some (.ifCond .eq 9), none, none, some (.iload_n 1), some (.iconst 1), some .iadd, some (.goto 4), none, none, some (.iload_n 1), some (.istore 6), none, some (.aload_n 0), some (.iload 6), none, some (.iload_n 2), some (.invokevirtual 423), none, none, some (.istore 7), none, some (.iload 7), none, some (.ifCond .lt 17), none, none, some (.aload_n 0), some (.getfield 117), none, none, some (.iload 7), none, some .laload, some (.ldc2_w 415), none, none, some .lcmp, some (.ifCond .eq 5), none, none, some (.iconst 0), some .ireturn, some (.aload_n 0), some (.iconst 0), some (.iload 7), none, some (.iconst 1), some .iadd, some (.iload_n 2), some (.iload_n 3), some (.iload 4), none, some (.invokevirtual 400), none, none, some .pop, some (.aload_n 0), some (.iload 5), none, some (.ifCond .eq 8), none, none, some (.bipush 11), none, some (.goto 5), none, none, some (.bipush 10), none, some (.iload 5), none, some (.ifCond .eq 7), none, none, some (.iload_n 1), some (.goto 5), none, none, some (.iload 7), none, some (.iload_n 3), some (.invokevirtual 396), none, none, some (.istore 8), none, some (.iload 7), none, some (.iload 6), none, some (.if_icmp .eq 19), none, none, some (.aload_n 0), some (.iconst 5), some (.iload 6), none, some (.iload 7), none, some (.iload 8), none, some (.iload 4), none, some (.invokevirtual 400), none, none, some (.ifCond .eq 7), none, none, some (.iconst 1), some (.goto 4), none, none, some (.iconst 0), some .ireturn]
def xi_156 : List (Option Instr) := [some (.iload_n 1), some (.istore 5), none, some (.iload 5), none, some (.iload_n 2), some (.if_icmp .ge 64), none, none, some (.aload_n 0), some (.getfield 117), none, none, some (.iload 5), none, some .laload, some (.lload_n 3), some .lcmp, some (.ifCond .eq 52), none, none, some (.aload_n 0), some (.getfield 117), none, none, some (.iload 5), none, some .laload, some (.ldc2_w 296), none, none, some .lcmp, some (.ifCond .eq 17), none, none, some (.aload_n 0), some (.getfield 117), none, none, some (.iload 5), none, some .laload, some (.ldc2_w 369), none, none, some .lcmp, some (.ifCond .ne 15), none, none, some (.aload_n 0), some (.getfield 123), none, none, some (.iload 5), none, some .iaload, some (.iconst 1), some .iadd, some (.goto 7), none, none, some (.iload 5), none, some (.iconst 1), some .iadd, some (.istore 5), none, some (.goto (-64)), none, none, some (.iload 5), none, some (.iload_n 2), some (.if_icmp .ge 8), none, none, some (.iload 5), none, some (.goto 4), none, none, some (.iload_n 2), some .ireturn]
def xi_157 : List (Option Instr) := [some (.aload_n 0), some (.iload_n 2), some (.iload_n 3), some (.ldc2_w 294), none, none, some (.invokevirtual 426), none, none, some (.istore 6), none, some (.aload_n 0), some (.iload_n 2), some (.iload 6), none, some (.ldc2_w 430), none, none, some (.invokevirtual 426), none, none, some (.istore 7), none, some (.iload_n 1), some (.iconst 2), some (.if_icmp .eq 10), none, none, some (.iload 7), none, some (.iload 6), none, some (.if_icmp .lt 14), none, none, some (.iload_n 1), some (.iconst 4), some (.if_icmp .ne 11), none, none, some (.iload 6), none, some (.iload_n 3), some (.if_icmp .ge 5), none, none, some (.iconst 0), some .ireturn, some (.iload_n 2), some (.istore 8), none, some (.iload 7), none, some (.istore 9), none, some (.iconst 0), some (.istore 10), none, some (.iconst (-1)), some (.istore 11), none, some (.iload 11), none, some (.ifCond .ge 179), none, none, some (.iload 8), none, some (.istore 12), none, some (.iload 12), none, some (.iload 9), none, some (.if_icmp .ge 23), none, none, some (.aload_n 0), some (.getfield 117), none, none, some (.iload 12), none, some .laload, some (.ldc2_w 432), none, none, some .lcmp, some (.ifCond .ne 9), none, none, some (.iinc 12 1), none, none, some (.goto (-24)), none, none, some (.iload 12), none, some (.iload 9), none, some (.if_icmp .lt 5), none, none, some (.iconst 0), some .ireturn, some (.aload_n 0), some (.getfield 117), none, none, some (.iload 12), none, some .laload, some (.ldc2_w 296), none, none, some .lcmp, some (.ifCond .ne 7), none, none, some (.iconst 1), some (.goto 4), none, none, some (.iconst 0), some (.istore 13), none, some (.iload 13), none, some (.ifCond .ne 14), none, none, some (.aload_n 0), some (.iload 12), none, some (.invokevirtual 434), none, none, some (.ifCond .ne 5), none, none, some (.iconst 0), some .ireturn, some (.iload 13), none, some (.ifCond .eq 7), none, none, some (.iconst (-1)), some (.goto 5), none, none, some (.iload 12), none, some (.istore 11), none, some (.aload_n 0), some (.getfield 169), none, none, some (.iload 10), none, some (.iload 8), none, some .iastore, some (.aload_n 0), some (.getfield 172), none, none, some (.iload 10), none, some (.iload 12), none, some .iastore, some (.aload_n 0), some (.getfield 175), none, none, some (.iload 10), none, some (.iload 13), none, some (.ifCond .eq 15), none, none, some (.aload_n 0), some (.getfield 123), none, none, some (.iload 12), none, some .iaload, some (.iconst 1), some .iadd, some (.goto 7), none, none, some (.iload 12), none, some (.iconst 1), some .iadd, some .iastore, some (.aload_n 0), some (.getfield 178), none, none, some (.iload 10), none, some (.iload 9), none, some .iastore, some (.iload 12), none, some (.iconst 1), some .iadd, some (.istore 8), none, some (.iload 13), none, some (.ifCond .eq 13), none, none, some (.aload_n 0), some (.getfield 123), none, none, some (.iload 12), none, some .iaload, some (.goto 5), none, none, some (.iload 9), none, some (.istore 9), none, some (.iinc 10 1), none, none, some (.goto (-178)), none, none, some (.iload 10), none, some (.iconst 1), some .isub, some (.istore 12), none, some (.iload 12), none, some (.ifCond .le 43), none, none, some (.aload_n 0), some (.getfield 169), none, none, some (.iload 12), none, some .iaload, some (.aload_n 0), some (.getfield 172), none, none, some (.iload 12), none, some .iaload, some (.if_icmp .ne 26), none, none, some (.aload_n 0), some (.getfield 175), none, none, some (.iload 12), none, some .iaload, some (.aload_n 0), some (.getfield 178), none, none, some (.iload 12), none, some .iaload, some (.if_icmp .ne 9), none, none, some (.iinc 12 (-1)), none, none, some (.goto (-42)), none, none, some (.iload_n 1), some (.iconst 4), some (.if_icmp .ne 41), none, none, some (.aload_n 0), some (.getfield 175), none, none, some (.iload 12), none, some .iaload, some (.aload_n 0), some (.getfield 178), none, none, some (.iload 12), none, some .iaload, some (.if_icmp .eq 22), none, none, some (.aload_n 0), some (.getfield 117), none, none, some (.aload_n 0), some (.getfield 175), none, none, some (.iload 12), none, some .iaload, some .laload, some (.ldc2_w 296), none, none, some .lcmp, some (.ifCond .eq 5), none, none, some (.iconst 0), some .ireturn, some (.aload_n 0), some (.iconst 4), some (.iload 11), none, some (.iload 4), none, some (.invokevirtual 396), none, none, some (.istore 13), none, some (.iload 10), none, some (.iconst 1), some .isub, some (.istore 14), none, some (.iload 14), none, some (.ifCond .lt 22), none, none, some (.aload_n 0), some (.iload 14), none, some (.iload 13), none, some (.invokevirtual 437), none, none, some (.ifCond .ne 5), none, none, some (.iconst 0), some .ireturn, some (.iinc 14 (-1)), none, none, some (.goto (-21)), none, none, some (.aload_n 0), some (.getfield 142), none, none, some (.aload_n 0), some (.getfield 387), none, none, some (.aload_n 0), some (.getfield 117), none, none, some (.iload 11), none, some .laload, some .lastore, some (.aload_n 0), some (.getfield 145), none, none, some (.aload_n 0), some (.getfield 387), none, none, some (.iload 7), none, some .iastore, some (.aload_n 0), some (.getfield 148), none, none, some (.aload_n 0), some (.getfield 387), none, none, some (.iload 5), none, some .iastore, some (.aload_n 0), some (.getfield 151), none, none, some (.aload_n 0), some (.getfield 387), none, none, some (.iload_n 1), some (.iconst 3), some (.if_icmp .ne 7), none, none, some (.iconst 1), some (.goto 4), none, none, some (.iconst 0), some .bastore, some (.aload_n 0), some .dup, some (.getfield 387), none, none, some (.iconst 1), some .iadd, some (.putfield 387), none, none, some (.iload 6), none, some (.iload_n 3), some (.if_icmp .ge 18), none, none, some (.aload_n 0), some (.iload_n 1), some (.iload 6), none, some (.iconst 1), some .iadd, some (.iload_n 3), some (.iload 4), none, some (.iload 5), none, some (.invokevirtual 400), none, none, some .pop, some (.iload 7), none, some (.iload 6), none, some (.if_icmp .eq 21), none, none, some (.aload_n 0), some (.iconst 5), some (.iload 7), none, some (.iconst 1), some .iadd, some (.iload 6), none, some (.iload 13), none, some (.iload 5), none, some (.invokevirtual 400), none, none, some (.ifCond .eq 7), none, none, some (.iconst 1), some (.goto 4), none, none, some (.iconst 0), some .ireturn]
def xi_158 : List (Option Instr) := [some (.aload_n 0), some (.getfield 175), none, none, some (.iload_n 1), some .iaload, some (.istore_n 3), some (.iload_n 3), some (.aload_n 0), some (.getfield 178), none, none, some (.iload_n 1), some .iaload, some (.if_icmp .ge 122), none, none, some (.aload_n 0), some (.getfield 117), none, none, some (.iload_n 3), some .laload, some (.ldc2_w 369), none, none, some .lcmp, some (.ifCond .ne 33), none, none, some (.aload_n 0), some (.getfield 123), none, none, some (.iload_n 3), some .iaload, some (.iload_n 3), some (.iconst 2), some .iadd, some (.if_icmp .ne 21), none, none, some (.aload_n 0), some (.getfield 117), none, none, some (.iload_n 3), some (.iconst 1), some .iadd, some .laload, some (.invokestatic 366), none, none, some (.ifCond .eq 7), none, none, some (.iconst 1), some (.goto 4), none, none, some (.iconst 0), some (.istore 4), none, some (.iload 4), none, some (.ifCond .ne 30), none, none, some (.aload_n 0), some (.getfield 117), none, none, some (.iload_n 3), some .laload, some (.ldc2_w 296), none, none, some .lcmp, some (.ifCond .ne 15), none, none, some (.aload_n 0), some (.getfield 123), none, none, some (.iload_n 3), some .iaload, some (.iload_n 3), some (.iconst 1), some .iadd, some (.if_icmp .eq 5), none, none, some (.iconst 0), some .ireturn, some (.aload_n 0), some (.iload 4), none, some (.ifCond .eq 7), none, none, some (.iconst 5), some (.goto 5), none, none, some (.bipush 6), none, some (.iload 4), none, some (.ifCond .eq 9), none, none, some (.iload_n 3), some (.iconst 1), some .iadd, some (.goto 4), none, none, some (.iload_n 3), some (.iload_n 2), some (.invokevirtual 396), none, none, some .pop, some (.aload_n 0), some (.getfield 123), none, none, some (.iload_n 3), some .iaload, some (.iconst 1), some .iadd, some (.istore_n 3), some (.goto (-126)), none, none, some (.aload_n 0), some (.getfield 172), none, none, some (.iload_n 1), some .iaload, some (.iconst 1), some .isub, some (.istore 4), none, some (.iload 4), none, some (.aload_n 0), some (.getfield 169), none, none, some (.iload_n 1), some .iaload, some (.if_icmp .lt 19), none, none, some (.aload_n 0), some (.bipush 7), none, some (.iload 4), none, some (.iload_n 2), some (.invokevirtual 396), none, none, some .pop, some (.iinc 4 (-1)), none, none, some (.goto (-24)), none, none, some (.iconst 1), some .ireturn]
def xi_159 : List (Option Instr) := [some (.lload_n 0), some (.ldc2_w 430), none, none, some .lcmp, some (.ifCond .ne 7), none, none, some (.iconst 0), some (.goto 76), none, none, some (.lload_n 0), some (.ldc2_w 352), none, none, some .lcmp, some (.ifCond .ne 7), none, none, some (.iconst 1), some (.goto 64), none, none, some (.lload_n 0), some (.ldc2_w 278), none, none, some .lcmp, some (.ifCond .eq 11), none, none, some (.lload_n 0), some (.ldc2_w 280), none, none, some .lcmp, some (.ifCond .ne 7), none, none, some (.iconst 2), some (.goto 44), none, none, some (.lload_n 0), some (.ldc2_w 441), none, none, some .lcmp, some (.ifCond .eq 11), none, none, some (.lload_n 0), some (.ldc2_w 443), none, none, some .lcmp, some (.ifCond .ne 7), none, none, some (.iconst 3), some (.goto 24), none, none, some (.lload_n 0), some (.ldc2_w 432), none, none, some .lcmp, some (.ifCond .eq 11), none, none, some (.lload_n 0), some (.ldc2_w 445), none, none, some .lcmp, some (.ifCond .ne 7), none, none, some (.iconst 4), some (.goto 4), none, none, some (.iconst (-1)), some .ireturn]
def xi_160 : List (Option Instr) := [some (.aload_n 0), some (.getfield 117), none, none, some (.iload_n 1), some .laload, some (.ldc2_w 296), none, none, some .lcmp, some (.ifCond .ne 17), none, none, some (.aload_n 0), some (.iload_n 1), some (.iconst 1), some .iadd, some (.invokevirtual 417), none, none, some (.ifCond .eq 7), none, none, some (.iconst 1), some (.goto 4), none, none, some (.iconst 0), some (.istore_n 2), some (.iload_n 1), some (.iconst 2), some .iadd, some (.istore_n 3), some (.iload_n 2), some (.ifCond .eq 38), none, none, some (.iload_n 3), some (.aload_n 0), some (.getfield 123), none, none, some (.iload_n 1), some .iaload, some (.if_icmp .ge 28), none, none, some (.aload_n 0), some (.getfield 117), none, none, some (.iload_n 3), some .laload, some (.ldc2_w 432), none, none, some .lcmp, some (.ifCond .ne 7), none, none, some (.iconst 1), some (.goto 4), none, none, some (.iconst 0), some (.istore_n 2), some (.iinc 3 1), none, none, some (.goto (-36)), none, none, some (.iload_n 2), some .ireturn]
def xi_161 : List (Option Instr) := [some (.iconst (-1)), some (.istore_n 3), some (.bipush 9), none, some (.istore 4), none, some (.iconst 1), some (.istore 5), none, some (.iload_n 1), some (.istore 6), none, some (.iload 6), none, some (.iload_n 2), some (.if_icmp .ge 246), none, none, some (.aload_n 0), some (.getfield 117), none, none, some (.iload 6), none, some .laload, some (.lstore 7), none, some (.lload 7), none, some (.ldc2_w 296), none, none, some .lcmp, some (.ifCond .eq 12), none, none, some (.lload 7), none, some (.ldc2_w 369), none, none, some .lcmp, some (.ifCond .ne 7), none, none, some (.iconst 1), some (.goto 4), none, none, some (.iconst 0), some (.istore 9), none, some (.lload 7), none, some (.invokestatic 447), none, none, some (.istore 10), none, some (.iload 5), none, some (.ifCond .eq 35), none, none, some (.lload 7), none, some (.ldc2_w 296), none, none, some .lcmp, some (.ifCond .ne 26), none, none, some (.aload_n 0), some (.iload 6), none, some (.iconst 1), some .iadd, some (.invokevirtual 417), none, none, some (.ifCond .eq 15), none, none, some (.aload_n 0), some (.iload 6), none, some (.invokevirtual 450), none, none, some (.ifCond .ne 145), none, none, some (.bipush (-2)), none, some .ireturn, some (.iload 5), none, some (.ifCond .eq 74), none, none, some (.lload 7), none, some (.ldc2_w 443), none, none, some .lcmp, some (.ifCond .eq 65), none, none, some (.lload 7), none, some (.ldc2_w 432), none, none, some .lcmp, some (.ifCond .eq 56), none, none, some (.lload 7), none, some (.ldc2_w 453), none, none, some .lcmp, some (.ifCond .eq 47), none, none, some (.lload 7), none, some (.ldc2_w 296), none, none, some .lcmp, some (.ifCond .eq 32), none, none, some (.lload 7), none, some (.invokestatic 366), none, none, some (.ifCond .ne 24), none, none, some (.aload_n 0), some (.iload 6), none, some (.invokevirtual 434), none, none, some (.ifCond .eq 12), none, none, some (.aload_n 0), some (.iload 6), none, some (.invokevirtual 417), none, none, some (.ifCond .eq 6), none, none, some (.bipush (-2)), none, some .ireturn, some (.iconst 0), some (.istore 5), none, some (.goto 66), none, none, some (.iload 5), none, some (.ifCond .ne 61), none, none, some (.iload 9), none, some (.ifCond .ne 56), none, none, some (.iload 10), none, some (.ifCond .ge 6), none, none, some (.bipush (-2)), none, some .ireturn, some (.iload 10), none, some (.iload 4), none, some (.if_icmp .lt 15), none, none, some (.iload 10), none, some (.iload 4), none, some (.if_icmp .ne 13), none, none, some (.iload 10), none, some (.ifCond .le 8), none, none, some (.iload 6), none, some (.goto 4), none, none, some (.iload_n 3), some (.istore_n 3), some (.iload 10), none, some (.iload 4), none, some (.if_icmp .ge 8), none, none, some (.iload 10), none, some (.goto 5), none, none, some (.iload 4), none, some (.istore 4), none, some (.iconst 1), some (.istore 5), none, some (.iload 9), none, some (.ifCond .eq 15), none, none, some (.aload_n 0), some (.getfield 123), none, none, some (.iload 6), none, some .iaload, some (.iconst 1), some .iadd, some (.goto 7), none, none, some (.iload 6), none, some (.iconst 1), some .iadd, some (.istore 6), none, some (.goto (-246)), none, none, some (.iload 5), none, some (.ifCond .eq 8), none, none, some (.bipush (-2)), none, some (.goto 4), none, none, some (.iload_n 3), some .ireturn]
def xi_162 : List (Option Instr) := [some (.aload_n 0), some (.iload_n 1), some (.iload_n 2), some (.invokevirtual 455), none, none, some (.istore 4), none, some (.iload 4), none, some (.bipush (-2)), none, some (.if_icmp .ne 5), none, none, some (.iconst 0), some .ireturn, some (.iload 4), none, some (.ifCond .lt 40), none, none, some (.aload_n 0), some (.bipush 12), none, some (.iload 4), none, some (.iload_n 3), some (.invokevirtual 396), none, none, some (.istore 5), none, some (.aload_n 0), some (.iconst 5), some (.iload 4), none, some (.iconst 1), some .iadd, some (.iload_n 2), some (.iload 5), none, some (.iconst 0), some (.invokevirtual 400), none, none, some .pop, some (.aload_n 0), some (.iconst 5), some (.iload_n 1), some (.iload 4), none, some (.iload 5), none, some (.iconst 0), some (.invokevirtual 400), none, none, some .ireturn, some (.aload_n 0), some (.getfield 117), none, none, some (.iload_n 1), some .laload, some (.lstore 5), none, some (.lload 5), none, some (.ldc2_w 443), none, none, some .lcmp, some (.ifCond .eq 21), none, none, some (.lload 5), none, some (.ldc2_w 432), none, none, some .lcmp, some (.ifCond .eq 12), none, none, some (.lload 5), none, some (.ldc2_w 453), none, none, some .lcmp, some (.ifCond .ne 22), none, none, some (.aload_n 0), some (.iconst 5), some (.iload_n 1), some (.iconst 1), some .iadd, some (.iload_n 2), some (.aload_n 0), some (.bipush 13), none, some (.iload_n 1), some (.iload_n 3), some (.invokevirtual 396), none, none, some (.iconst 0), some (.invokevirtual 400), none, none, some .ireturn, some (.lload 5), none, some (.ldc2_w 296), none, none, some .lcmp, some (.ifCond .ne 85), none, none, some (.aload_n 0), some (.iload_n 1), some (.iconst 1), some .iadd, some (.invokevirtual 417), none, none, some (.ifCond .eq 75), none, none, some (.aload_n 0), some (.bipush 14), none, some (.iload_n 1), some (.iload_n 3), some (.invokevirtual 396), none, none, some (.istore 7), none, some (.aload_n 0), some (.iconst 3), some (.iload_n 1), some (.iconst 1), some .iadd, some (.iload 7), none, some (.invokevirtual 396), none, none, some .pop, some (.iload_n 1), some (.iconst 2), some .iadd, some (.istore 8), none, some (.iload 8), none, some (.aload_n 0), some (.getfield 123), none, none, some (.iload_n 1), some .iaload, some (.if_icmp .ge 20), none, none, some (.aload_n 0), some (.bipush 7), none, some (.iload 8), none, some (.iload 7), none, some (.invokevirtual 396), none, none, some .pop, some (.iinc 8 1), none, none, some (.goto (-25)), none, none, some (.aload_n 0), some (.iconst 5), some (.aload_n 0), some (.getfield 123), none, none, some (.iload_n 1), some .iaload, some (.iconst 1), some .iadd, some (.iload_n 2), some (.iload 7), none, some (.iconst 0), some (.invokevirtual 400), none, none, some .ireturn, some (.iload_n 1), some (.iload_n 2), some (.iconst 1), some .isub, some (.if_icmp .ne 33), none, none, some (.aload_n 0), some (.lload 5), none, some (.invokestatic 366), none, none, some (.ifCond .eq 8), none, none, some (.bipush 18), none, some (.goto 5), none, none, some (.bipush 17), none, some (.iload_n 1), some (.iload_n 3), some (.invokevirtual 396), none, none, some (.ifCond .le 7), none, none, some (.iconst 1), some (.goto 4), none, none, some (.iconst 0), some .ireturn, some (.aload_n 0), some (.getfield 123), none, none, some (.iload_n 2), some (.iconst 1), some .isub, some .iaload, some (.istore 7), none, some (.iload 7), none, some (.iload_n 1), some (.if_icmp .ne 17), none, none, some (.aload_n 0), some (.iconst 5), some (.iload_n 1), some (.iconst 1), some .iadd, some (.iload_n 2), some (.iconst 1), some .isub, some (.iload_n 3), some (.iconst 0), some (.invokevirtual 400), none, none, some .ireturn, some (.aload_n 0), some (.getfield 117), none, none, some (.iload 7), none, some .laload, some (.ldc2_w 369), none, none, some .lcmp, some (.ifCond .ne 7), none, none, some (.iconst 1), some (.goto 4), none, none, some (.iconst 0), some (.istore 8), none, some (.aload_n 0), some (.iload 8), none, some (.ifCond .eq 8), none, none, some (.bipush 15), none, some (.goto 5), none, none, some (.bipush 16), none, some (.iload 7), none, some (.iload_n 3), some (.invokevirtual 396), none, none, some (.istore 9), none, some (.iload 8), none, some (.ifCond .eq 22), none, none, some (.aload_n 0), some (.iconst 5), some (.iload 7), none, some (.iconst 1), some .iadd, some (.iload_n 2), some (.iconst 1), some .isub, some (.iload 9), none, some (.iconst 0), some (.invokevirtual 400), none, none, some .pop, some (.goto 14), none, none, some (.aload_n 0), some (.iload 7), none, some (.iload_n 2), some (.iconst 1), some .isub, some (.iload 9), none, some (.invokevirtual 458), none, none, some (.aload_n 0), some (.iconst 5), some (.iload_n 1), some (.iload 7), none, some (.iload 9), none, some (.iconst 0), some (.invokevirtual 400), none, none, some .ireturn]
def xi_163 : List (Option Instr) := [some (.iload_n 2), some (.istore 4), none, some (.iload_n 2), some (.iconst 1), some .isub, some (.istore 5), none, some (.iload 5), none, some (.iload_n 1), some (.if_icmp .lt 94), none, none, some (.iload_n 2), some (.iload_n 1), some (.iconst 1), some .iadd, some (.if_icmp .le 87), none, none, some (.aload_n 0), some (.getfield 117), none, none, some (.iload 5), none, some .laload, some (.ldc2_w 292), none, none, some .lcmp, some (.ifCond .eq 17), none, none, some (.aload_n 0), some (.getfield 117), none, none, some (.iload 5), none, some .laload, some (.ldc2_w 373), none, none, some .lcmp, some (.ifCond .ne 15), none, none, some (.aload_n 0), some (.getfield 123), none, none, some (.iload 5), none, some .iaload, some (.istore 5), none, some (.goto 41), none, none, some (.aload_n 0), some (.getfield 117), none, none, some (.iload 5), none, some .laload, some (.ldc2_w 294), none, none, some .lcmp, some (.ifCond .eq 9), none, none, some (.iload 5), none, some (.iload_n 1), some (.if_icmp .ne 21), none, none, some (.aload_n 0), some (.iconst 5), some (.iload 5), none, some (.iconst 1), some .iadd, some (.iload 4), none, some (.iload_n 3), some (.iconst 0), some (.invokevirtual 400), none, none, some .pop, some (.iload 5), none, some (.istore 4), none, some (.iinc 5 (-1)), none, none, some (.goto (-94)), none, none, some .return_]
def xi_164 : List (Option Instr) := [some (.aload_n 0), some (.getfield 354), none, none, some .ireturn]
def xi_165 : List (Option Instr) := [some (.aload_n 0), some (.getfield 326), none, none, some .ireturn]
def xi_166 : List (Option Instr) := [some (.iload_n 1), some (.ifCond .lt 11), none, none, some (.iload_n 1), some (.aload_n 0), some (.getfield 326), none, none, some (.if_icmp .lt 7), none, none, some (.iconst (-1)), some (.goto 9), none, none, some (.aload_n 0), some (.getfield 120), none, none, some (.iload_n 1), some .iaload, some .ireturn]
def xi_167 : List (Option Instr) := [some (.iload_n 1), some (.ifCond .lt 11), none, none, some (.iload_n 1), some (.aload_n 0), some (.getfield 326), none, none, some (.if_icmp .lt 7), none, none, some (.iconst (-1)), some (.goto 13), none, none, some (.aload_n 0), some (.getfield 117), none, none, some (.iload_n 1), some .laload, some (.iload_n 2), some (.invokestatic 190), none, none, some .ireturn]
def xi_168 : List (Option Instr) := [some (.aload_n 0), some (.getfield 335), none, none, some .ireturn]
def xi_169 : List (Option Instr) := [some (.iconst 0), some (.istore_n 1), some (.iconst 0), some (.istore_n 2), some (.iload_n 2), some (.bipush 8), none, some (.if_icmp .ge 28), none, none, some (.iload_n 1), some (.aload_n 0), some (.getfield 48), none, none, some (.iload_n 2), some .laload, some (.lconst 0), some .lcmp, some (.ifCond .eq 7), none, none, some (.iconst 1), some (.goto 4), none, none, some (.iconst 0), some .iadd, some (.istore_n 1), some (.iinc 2 1), none, none, some (.goto (-28)), none, none, some (.iload_n 1), some .ireturn]
def xi_170 : List (Option Instr) := [some (.aload_n 0), some (.getfield 138), none, none, some .ireturn]
def xi_171 : List (Option Instr) := [some (.iload_n 1), some (.ifCond .lt 20), none, none, some (.iload_n 1), some (.aload_n 0), some (.getfield 138), none, none, some (.if_icmp .ge 12), none, none, some (.iload_n 2), some (.ifCond .lt 8), none, none, some (.iload_n 2), some (.iconst 2), some (.if_icmp .le 6), none, none, some (.bipush (-2)), none, some .ireturn, some (.iload_n 2), some (.ifCond .ne 12), none, none, some (.aload_n 0), some (.getfield 129), none, none, some (.iload_n 1), some .iaload, some (.goto 23), none, none, some (.iload_n 2), some (.iconst 1), some (.if_icmp .ne 12), none, none, some (.aload_n 0), some (.getfield 132), none, none, some (.iload_n 1), some .iaload, some (.goto 9), none, none, some (.aload_n 0), some (.getfield 135), none, none, some (.iload_n 1), some .iaload, some .ireturn]
def xi_172 : List (Option Instr) := [some (.aload_n 0), some (.getfield 9), none, none, some .arraylength, some (.aload_n 0), some (.invokevirtual 335), none, none, some .ishr, some .ireturn]
def xi_173 : List (Option Instr) := [some (.aload_n 0), some (.invokevirtual 492), none, none, some (.ifCond .eq 12), none, none, some (.aload_n 0), some (.getfield 9), none, none, some (.iload_n 1), some (.invokestatic 495), none, none, some .ireturn, some (.aload_n 0), some (.getfield 9), none, none, some (.iload_n 1), some (.invokestatic 498), none, none, some .ireturn]
def xi_174 : List (Option Instr) := [some (.aload_n 0), some (.iload_n 1), some (.iconst 0), some (.invokevirtual 633), none, none, some .ireturn]
def xi_175 : List (Option Instr) := [some (.aload_n 0), some (.invokevirtual 492), none, none, some (.ifCond .eq 19), none, none, some (.aload_n 0), some (.getfield 9), none, none, some (.iload_n 1), some (.iload_n 2), some (.aload_n 0), some (.invokevirtual 505), none, none, some (.invokestatic 637), none, none, some (.goto 16), none, none, some (.aload_n 0), some (.getfield 9), none, none, some (.iload_n 1), some (.iload_n 2), some (.aload_n 0), some (.invokevirtual 505), none, none, some (.invokestatic 640), none, none, some .ireturn]
def xi_176 : List (Option Instr) := [some (.getstatic 38), none, none, some (.ifCond .eq 10), none, none, some (.aload_n 0), some (.getfield 15), none, none, some (.goto 4), none, none, some (.iconst 1), some .ireturn]
def xi_177 : List (Option Instr) := [some (.getstatic 38), none, none, some (.ifCond .eq 14), none, none, some (.aload_n 0), some (.getfield 15), none, none, some (.ifCond .ne 7), none, none, some (.iconst 1), some (.goto 4), none, none, some (.iconst 0), some .ireturn]
def xi_178 : List (Option Instr) := [some (.iload_n 0), some (.iload_n 1), some (.getstatic 1053), none, none, some (.invokestatic 1059), none, none, some .pop, some .return_]
def xi_179 : List (Option Instr) := [some (.iload_n 1), some (.aload_n 0), some .arraylength, some (.invokestatic 9), none, none, some (.aload_n 0), some (.iload_n 1), some .baload, some (.sipush 255), none, none, some .iand, some .i2c, some .ireturn]
def xi_180 : List (Option Instr) := [some (.iload_n 0), some (.ifCond .lt 14), none, none, some (.iload_n 0), some (.sipush 255), none, none, some (.if_icmp .gt 7), none, none, some (.iconst 1), some (.goto 4), none, none, some (.iconst 0), some .ireturn]
def xi_181 : List (Option Instr) := [some (.iload_n 1), some (.invokestatic 88), none, none, some (.ifCond .ne 5), none, none, some (.iconst (-1)), some .ireturn, some (.iload_n 2), some (.iconst 0), some (.invokestatic 92), none, none, some (.istore_n 2), some (.iload_n 3), some (.aload_n 0), some .arraylength, some (.invokestatic 38), none, none, some (.istore_n 3), some (.iload_n 2), some (.iload_n 3), some (.if_icmp .lt 5), none, none, some (.iconst (-1)), some .ireturn, some (.aload_n 0), some (.iload_n 1), some (.iload_n 2), some (.iload_n 3), some (.invokestatic 95), none, none, some .ireturn]
def xi_182 : List (Option Instr) := [some (.iload_n 1), some .i2b, some (.istore 4), none, some (.iload_n 2), some (.istore 5), none, some (.iload 5), none, some (.iload_n 3), some (.if_icmp .ge 21), none, none, some (.aload_n 0), some (.iload 5), none, some .baload, some (.iload 4), none, some (.if_icmp .ne 6), none, none, some (.iload 5), none, some .ireturn, some (.iinc 5 1), none, none, some (.goto (-21)), none, none, some (.iconst (-1)), some .ireturn]
def xi_183 : List (Option Instr) := [some (.iload_n 0), some (.ifCond .lt 8), none, none, some (.iload_n 0), some (.iload_n 1), some (.if_icmp .lt 10), none, none, some (.aload_n 2), some (.iload_n 0), some (.iload_n 1), some (.invokestatic 95), none, none, some .athrow, some (.iload_n 0), some .ireturn]
theorem xd_0 : x_chk xi_0 code = true := by decide +kernel
theorem xd_1 : x_chk xi_1 prog_1_method_1_code = true := by decide +kernel
theorem xd_2 : x_chk xi_2 prog_1_method_2_code = true := by decide +kernel
theorem xd_3 : x_chk xi_3 prog_1_method_3_code = true := by decide +kernel
theorem xd_4 : x_chk xi_4 prog_1_method_4_code = true := by decide +kernel
theorem xd_5 : x_chk xi_5 prog_1_method_5_code = true := by decide +kernel
theorem xd_6 : x_chk xi_6 prog_1_method_6_code = true := by decide +kernel
theorem xd_7 : x_chk xi_7 prog_1_method_7_code = true := by decide +kernel
theorem xd_8 : x_chk xi_8 prog_1_method_8_code = true := by decide +kernel
theorem xd_9 : x_chk xi_9 prog_1_method_9_code = true := by decide +kernel
theorem xd_10 : x_chk xi_10 prog_1_method_10_code = true := by decide +kernel
theorem xd_11 : x_chk xi_11 prog_1_method_11_code = true := by decide +kernel
theorem xd_12 : x_chk xi_12 prog_1_method_12_code = true := by decide +kernel
theorem xd_13 : x_chk xi_13 prog_1_method_13_code = true := by decide +kernel
theorem xd_14 : x_chk xi_14 prog_1_method_14_code = true := by decide +kernel
theorem xd_15 : x_chk xi_15 prog_1_method_15_code = true := by decide +kernel
theorem xd_16 : x_chk xi_16 prog_1_method_16_code = true := by decide +kernel
theorem xd_17 : x_chk xi_17 prog_2_method_1_code = true := by decide +kernel
theorem xd_18 : x_chk xi_18 prog_2_method_2_code = true := by decide +kernel
theorem xd_19 : x_chk xi_19 prog_3_method_1_code = true := by decide +kernel
theorem xd_20 : x_chk xi_20 prog_3_method_2_code = true := by decide +kernel
theorem xd_21 : x_chk xi_21 prog_3_method_3_code = true := by decide +kernel
theorem xd_22 : x_chk xi_22 prog_3_method_4_code = true := by decide +kernel
theorem xd_23 : x_chk xi_23 prog_3_method_5_code = true := by decide +kernel
theorem xd_24 : x_chk xi_24 prog_3_method_6_code = true := by decide +kernel
theorem xd_25 : x_chk xi_25 prog_3_method_7_code = true := by decide +kernel
theorem xd_26 : x_chk xi_26 prog_3_method_8_code = true := by decide +kernel
theorem xd_27 : x_chk xi_27 prog_3_method_9_code = true := by decide +kernel
theorem xd_28 : x_chk xi_28 prog_3_method_10_code = true := by decide +kernel
theorem xd_29 : x_chk xi_29 prog_3_method_11_code = true := by decide +kernel
theorem xd_30 : x_chk xi_30 prog_4_method_1_code = true := by decide +kernel
theorem xd_31 : x_chk xi_31 prog_4_method_2_code = true := by decide +kernel
theorem xd_32 : x_chk xi_32 prog_4_method_3_code = true := by decide +kernel
theorem xd_33 : x_chk xi_33 prog_5_method_1_code = true := by decide +kernel
theorem xd_34 : x_chk xi_34 prog_5_method_2_code = true := by decide +kernel
theorem xd_35 : x_chk xi_35 prog_5_method_3_code = true := by decide +kernel
theorem xd_36 : x_chk xi_36 prog_5_method_4_code = true := by decide +kernel
theorem xd_37 : x_chk xi_37 prog_6_method_1_code = true := by decide +kernel
theorem xd_38 : x_chk xi_38 prog_6_method_2_code = true := by decide +kernel
theorem xd_39 : x_chk xi_39 prog_6_method_3_code = true := by decide +kernel
theorem xd_40 : x_chk xi_40 prog_6_method_4_code = true := by decide +kernel
theorem xd_41 : x_chk xi_41 prog_6_method_5_code = true := by decide +kernel
theorem xd_42 : x_chk xi_42 prog_6_method_6_code = true := by decide +kernel
theorem xd_43 : x_chk xi_43 prog_6_method_7_code = true := by decide +kernel
theorem xd_44 : x_chk xi_44 prog_6_method_8_code = true := by decide +kernel
theorem xd_45 : x_chk xi_45 prog_6_method_9_code = true := by decide +kernel
theorem xd_46 : x_chk xi_46 prog_6_method_10_code = true := by decide +kernel
theorem xd_47 : x_chk xi_47 prog_6_method_11_code = true := by decide +kernel
theorem xd_48 : x_chk xi_48 prog_6_method_12_code = true := by decide +kernel
theorem xd_49 : x_chk xi_49 prog_6_method_13_code = true := by decide +kernel
theorem xd_50 : x_chk xi_50 prog_6_method_14_code = true := by decide +kernel
theorem xd_51 : x_chk xi_51 prog_6_method_15_code = true := by decide +kernel
theorem xd_52 : x_chk xi_52 prog_6_method_16_code = true := by decide +kernel
theorem xd_53 : x_chk xi_53 prog_6_method_17_code = true := by decide +kernel
theorem xd_54 : x_chk xi_54 prog_6_method_18_code = true := by decide +kernel
theorem xd_55 : x_chk xi_55 prog_6_method_19_code = true := by decide +kernel
theorem xd_56 : x_chk xi_56 prog_6_method_20_code = true := by decide +kernel
theorem xd_57 : x_chk xi_57 prog_6_method_21_code = true := by decide +kernel
theorem xd_58 : x_chk xi_58 prog_6_method_22_code = true := by decide +kernel
theorem xd_59 : x_chk xi_59 prog_6_method_23_code = true := by decide +kernel
theorem xd_60 : x_chk xi_60 prog_6_method_24_code = true := by decide +kernel
theorem xd_61 : x_chk xi_61 prog_6_method_25_code = true := by decide +kernel
theorem xd_62 : x_chk xi_62 prog_6_method_26_code = true := by decide +kernel
theorem xd_63 : x_chk xi_63 prog_7_method_1_code = true := by decide +kernel
theorem xd_64 : x_chk xi_64 prog_7_method_2_code = true := by decide +kernel
theorem xd_65 : x_chk xi_65 prog_7_method_3_code = true := by decide +kernel
theorem xd_66 : x_chk xi_66 prog_7_method_4_code = true := by decide +kernel
theorem xd_67 : x_chk xi_67 prog_7_method_5_code = true := by decide +kernel
theorem xd_68 : x_chk xi_68 prog_7_method_6_code = true := by decide +kernel
theorem xd_69 : x_chk xi_69 prog_7_method_7_code = true := by decide +kernel
theorem xd_70 : x_chk xi_70 prog_7_method_8_code = true := by decide +kernel
theorem xd_71 : x_chk xi_71 prog_7_method_9_code = true := by decide +kernel
theorem xd_72 : x_chk xi_72 prog_7_method_10_code = true := by decide +kernel
theorem xd_73 : x_chk xi_73 prog_7_method_11_code = true := by decide +kernel
theorem xd_74 : x_chk xi_74 prog_8_method_1_code = true := by decide +kernel
theorem xd_75 : x_chk xi_75 prog_8_method_2_code = true := by decide +kernel
theorem xd_76 : x_chk xi_76 prog_8_method_3_code = true := by decide +kernel
theorem xd_77 : x_chk xi_77 prog_8_method_4_code = true := by decide +kernel
theorem xd_78 : x_chk xi_78 prog_8_method_5_code = true := by decide +kernel
theorem xd_79 : x_chk xi_79 prog_8_method_6_code = true := by decide +kernel
theorem xd_80 : x_chk xi_80 prog_8_method_7_code = true := by decide +kernel
theorem xd_81 : x_chk xi_81 prog_8_method_8_code = true := by decide +kernel
theorem xd_82 : x_chk xi_82 prog_8_method_9_code = true := by decide +kernel
theorem xd_83 : x_chk xi_83 prog_8_method_10_code = true := by decide +kernel
theorem xd_84 : x_chk xi_84 prog_8_method_11_code = true := by decide +kernel
theorem xd_85 : x_chk xi_85 prog_9_method_1_code = true := by decide +kernel
theorem xd_86 : x_chk xi_86 prog_9_method_2_code = true := by decide +kernel
theorem xd_87 : x_chk xi_87 prog_9_method_3_code = true := by decide +kernel
theorem xd_88 : x_chk xi_88 prog_9_method_4_code = true := by decide +kernel
theorem xd_89 : x_chk xi_89 prog_9_method_5_code = true := by decide +kernel
theorem xd_90 : x_chk xi_90 prog_9_method_6_code = true := by decide +kernel
theorem xd_91 : x_chk xi_91 prog_9_method_7_code = true := by decide +kernel
theorem xd_92 : x_chk xi_92 prog_9_method_8_code = true := by decide +kernel
theorem xd_93 : x_chk xi_93 prog_10_method_1_code = true := by decide +kernel
theorem xd_94 : x_chk xi_94 prog_10_method_2_code = true := by decide +kernel
theorem xd_95 : x_chk xi_95 prog_11_method_1_code = true := by decide +kernel
theorem xd_96 : x_chk xi_96 prog_11_method_2_code = true := by decide +kernel
theorem xd_97 : x_chk xi_97 prog_11_method_3_code = true := by decide +kernel
theorem xd_98 : x_chk xi_98 prog_11_method_4_code = true := by decide +kernel
theorem xd_99 : x_chk xi_99 prog_11_method_5_code = true := by decide +kernel
theorem xd_100 : x_chk xi_100 prog_11_method_6_code = true := by decide +kernel
theorem xd_101 : x_chk xi_101 prog_11_method_7_code = true := by decide +kernel
theorem xd_102 : x_chk xi_102 prog_11_method_8_code = true := by decide +kernel
theorem xd_103 : x_chk xi_103 prog_11_method_9_code = true := by decide +kernel
theorem xd_104 : x_chk xi_104 prog_11_method_10_code = true := by decide +kernel
theorem xd_105 : x_chk xi_105 prog_11_method_11_code = true := by decide +kernel
theorem xd_106 : x_chk xi_106 prog_11_method_12_code = true := by decide +kernel
theorem xd_107 : x_chk xi_107 prog_11_method_13_code = true := by decide +kernel
theorem xd_108 : x_chk xi_108 prog_12_method_1_code = true := by decide +kernel
theorem xd_109 : x_chk xi_109 prog_12_method_2_code = true := by decide +kernel
theorem xd_110 : x_chk xi_110 prog_12_method_3_code = true := by decide +kernel
theorem xd_111 : x_chk xi_111 prog_14_method_1_code = true := by decide +kernel
theorem xd_112 : x_chk xi_112 prog_14_method_2_code = true := by decide +kernel
theorem xd_113 : x_chk xi_113 prog_14_method_3_code = true := by decide +kernel
theorem xd_114 : x_chk xi_114 prog_14_method_4_code = true := by decide +kernel
theorem xd_115 : x_chk xi_115 prog_14_method_5_code = true := by decide +kernel
theorem xd_116 : x_chk xi_116 prog_14_method_6_code = true := by decide +kernel
theorem xd_117 : x_chk xi_117 prog_14_method_7_code = true := by decide +kernel
theorem xd_118 : x_chk xi_118 prog_14_method_8_code = true := by decide +kernel
theorem xd_119 : x_chk xi_119 prog_14_method_9_code = true := by decide +kernel
theorem xd_120 : x_chk xi_120 prog_14_method_10_code = true := by decide +kernel
theorem xd_121 : x_chk xi_121 prog_14_method_11_code = true := by decide +kernel
theorem xd_122 : x_chk xi_122 prog_14_method_12_code = true := by decide +kernel
theorem xd_123 : x_chk xi_123 prog_14_method_13_code = true := by decide +kernel
theorem xd_124 : x_chk xi_124 prog_14_method_14_code = true := by decide +kernel
theorem xd_125 : x_chk xi_125 prog_14_method_15_code = true := by decide +kernel
theorem xd_126 : x_chk xi_126 prog_14_method_16_code = true := by decide +kernel
theorem xd_127 : x_chk xi_127 prog_14_method_17_code = true := by decide +kernel
theorem xd_128 : x_chk xi_128 prog_14_method_18_code = true := by decide +kernel
theorem xd_129 : x_chk xi_129 prog_14_method_19_code = true := by decide +kernel
theorem xd_130 : x_chk xi_130 prog_14_method_20_code = true := by decide +kernel
theorem xd_131 : x_chk xi_131 prog_14_method_21_code = true := by decide +kernel
theorem xd_132 : x_chk xi_132 prog_14_method_22_code = true := by decide +kernel
theorem xd_133 : x_chk xi_133 prog_14_method_23_code = true := by decide +kernel
theorem xd_134 : x_chk xi_134 prog_14_method_24_code = true := by decide +kernel
theorem xd_135 : x_chk xi_135 prog_14_method_25_code = true := by decide +kernel
theorem xd_136 : x_chk xi_136 prog_14_method_26_code = true := by decide +kernel
theorem xd_137 : x_chk xi_137 prog_14_method_27_code = true := by decide +kernel
theorem xd_138 : x_chk xi_138 prog_14_method_28_code = true := by decide +kernel
theorem xd_139 : x_chk xi_139 prog_14_method_29_code = true := by decide +kernel
theorem xd_140 : x_chk xi_140 prog_14_method_30_code = true := by decide +kernel
theorem xd_141 : x_chk xi_141 prog_14_method_31_code = true := by decide +kernel
theorem xd_142 : x_chk xi_142 prog_14_method_32_code = true := by decide +kernel
theorem xd_143 : x_chk xi_143 prog_14_method_33_code = true := by decide +kernel
theorem xd_144 : x_chk xi_144 prog_14_method_34_code = true := by decide +kernel
theorem xd_145 : x_chk xi_145 prog_14_method_35_code = true := by decide +kernel
theorem xd_146 : x_chk xi_146 prog_14_method_36_code = true := by decide +kernel
theorem xd_147 : x_chk xi_147 prog_14_method_37_code = true := by decide +kernel
theorem xd_148 : x_chk xi_148 prog_14_method_38_code = true := by decide +kernel
theorem xd_149 : x_chk xi_149 prog_14_method_39_code = true := by decide +kernel
theorem xd_150 : x_chk xi_150 prog_14_method_40_code = true := by decide +kernel
theorem xd_151 : x_chk xi_151 prog_14_method_41_code = true := by decide +kernel
theorem xd_152 : x_chk xi_152 prog_14_method_42_code = true := by decide +kernel
theorem xd_153 : x_chk xi_153 prog_14_method_43_code = true := by decide +kernel
theorem xd_154 : x_chk xi_154 prog_14_method_44_code = true := by decide +kernel
theorem xd_155 : x_chk xi_155 prog_14_method_45_code = true := by decide +kernel
theorem xd_156 : x_chk xi_156 prog_14_method_46_code = true := by decide +kernel
theorem xd_157 : x_chk xi_157 prog_14_method_47_code = true := by decide +kernel
theorem xd_158 : x_chk xi_158 prog_14_method_48_code = true := by decide +kernel
theorem xd_159 : x_chk xi_159 prog_14_method_49_code = true := by decide +kernel
theorem xd_160 : x_chk xi_160 prog_14_method_50_code = true := by decide +kernel
theorem xd_161 : x_chk xi_161 prog_14_method_51_code = true := by decide +kernel
theorem xd_162 : x_chk xi_162 prog_14_method_52_code = true := by decide +kernel
theorem xd_163 : x_chk xi_163 prog_14_method_53_code = true := by decide +kernel
theorem xd_164 : x_chk xi_164 prog_14_method_54_code = true := by decide +kernel
theorem xd_165 : x_chk xi_165 prog_14_method_55_code = true := by decide +kernel
theorem xd_166 : x_chk xi_166 prog_14_method_56_code = true := by decide +kernel
theorem xd_167 : x_chk xi_167 prog_14_method_57_code = true := by decide +kernel
theorem xd_168 : x_chk xi_168 prog_14_method_58_code = true := by decide +kernel
theorem xd_169 : x_chk xi_169 prog_14_method_59_code = true := by decide +kernel
theorem xd_170 : x_chk xi_170 prog_14_method_60_code = true := by decide +kernel
theorem xd_171 : x_chk xi_171 prog_14_method_61_code = true := by decide +kernel
theorem xd_172 : x_chk xi_172 prog_17_method_54_code = true := by decide +kernel
theorem xd_173 : x_chk xi_173 prog_17_method_56_code = true := by decide +kernel
theorem xd_174 : x_chk xi_174 prog_17_method_79_code = true := by decide +kernel
theorem xd_175 : x_chk xi_175 prog_17_method_80_code = true := by decide +kernel
theorem xd_176 : x_chk xi_176 prog_17_method_152_code = true := by decide +kernel
theorem xd_177 : x_chk xi_177 prog_17_method_154_code = true := by decide +kernel
theorem xd_178 : x_chk xi_178 prog_17_method_155_code = true := by decide +kernel
theorem xd_179 : x_chk xi_179 prog_18_method_2_code = true := by decide +kernel
theorem xd_180 : x_chk xi_180 prog_18_method_4_code = true := by decide +kernel
theorem xd_181 : x_chk xi_181 prog_18_method_22_code = true := by decide +kernel
theorem xd_182 : x_chk xi_182 prog_18_method_23_code = true := by decide +kernel
theorem xd_183 : x_chk xi_183 prog_21_method_11_code = true := by decide +kernel
end
section
abbrev x_MT : Type := MethodName × ByteArray × Nat × Option FieldType × Nat × Bool × List (Option Instr)
def x_ml : List x_MT := [
  ((⟨"PhaseReaderLaw", "law", "([I)Z"⟩ : MethodName), code, 4, ((some .boolean) : Option FieldType), 13, false, xi_0),
  ((⟨"PhaseReader", "<init>", "()V"⟩ : MethodName), prog_1_method_1_code, 2, (none : Option FieldType), 0, true, xi_1),
  ((⟨"PhaseReader", "choose", "(I)Z"⟩ : MethodName), prog_1_method_2_code, 2, ((some .boolean) : Option FieldType), 0, false, xi_2),
  ((⟨"PhaseReader", "write", "(C)Z"⟩ : MethodName), prog_1_method_3_code, 2, ((some .boolean) : Option FieldType), 0, false, xi_3),
  ((⟨"PhaseReader", "clear", "()V"⟩ : MethodName), prog_1_method_4_code, 1, (none : Option FieldType), 0, false, xi_4),
  ((⟨"PhaseReader", "length", "(I)I"⟩ : MethodName), prog_1_method_5_code, 2, ((some .int) : Option FieldType), 0, false, xi_5),
  ((⟨"PhaseReader", "translate", "(I)I"⟩ : MethodName), prog_1_method_6_code, 2, ((some .int) : Option FieldType), 0, false, xi_6),
  ((⟨"PhaseReader", "verdict", "()I"⟩ : MethodName), prog_1_method_7_code, 1, ((some .int) : Option FieldType), 0, false, xi_7),
  ((⟨"PhaseReader", "tokens", "()I"⟩ : MethodName), prog_1_method_8_code, 1, ((some .int) : Option FieldType), 0, false, xi_8),
  ((⟨"PhaseReader", "place", "(I)I"⟩ : MethodName), prog_1_method_9_code, 2, ((some .int) : Option FieldType), 0, false, xi_9),
  ((⟨"PhaseReader", "spelling", "(II)I"⟩ : MethodName), prog_1_method_10_code, 3, ((some .int) : Option FieldType), 0, false, xi_10),
  ((⟨"PhaseReader", "replaced", "()I"⟩ : MethodName), prog_1_method_11_code, 1, ((some .int) : Option FieldType), 0, false, xi_11),
  ((⟨"PhaseReader", "macros", "()I"⟩ : MethodName), prog_1_method_12_code, 1, ((some .int) : Option FieldType), 0, false, xi_12),
  ((⟨"PhaseReader", "nodes", "()I"⟩ : MethodName), prog_1_method_13_code, 1, ((some .int) : Option FieldType), 0, false, xi_13),
  ((⟨"PhaseReader", "node", "(II)I"⟩ : MethodName), prog_1_method_14_code, 4, ((some .int) : Option FieldType), 0, false, xi_14),
  ((⟨"PhaseReader", "isFile", "(I)Z"⟩ : MethodName), prog_1_method_15_code, 1, ((some .boolean) : Option FieldType), 0, false, xi_15),
  ((⟨"PhaseReader", "isToken", "(I)Z"⟩ : MethodName), prog_1_method_16_code, 2, ((some .boolean) : Option FieldType), 0, false, xi_16),
  ((⟨"PhaseReader$Arguments", "<init>", "()V"⟩ : MethodName), prog_2_method_1_code, 1, (none : Option FieldType), 1, true, xi_17),
  ((⟨"PhaseReader$Arguments", "add", "(II)V"⟩ : MethodName), prog_2_method_2_code, 3, (none : Option FieldType), 1, false, xi_18),
  ((⟨"PhaseReader$Expander", "<init>", "()V"⟩ : MethodName), prog_3_method_1_code, 2, (none : Option FieldType), 2, true, xi_19),
  ((⟨"PhaseReader$Expander", "restart", "()V"⟩ : MethodName), prog_3_method_2_code, 1, (none : Option FieldType), 2, false, xi_20),
  ((⟨"PhaseReader$Expander", "expandGroup", "(LPhaseReader$TokenRow;II)I"⟩ : MethodName), prog_3_method_3_code, 6, ((some .int) : Option FieldType), 2, false, xi_21),
  ((⟨"PhaseReader$Expander", "expandList", "(II)I"⟩ : MethodName), prog_3_method_4_code, 6, ((some .int) : Option FieldType), 2, false, xi_22),
  ((⟨"PhaseReader$Expander", "macroOnTop", "(I)I"⟩ : MethodName), prog_3_method_5_code, 5, ((some .int) : Option FieldType), 2, false, xi_23),
  ((⟨"PhaseReader$Expander", "replaceTop", "(III)I"⟩ : MethodName), prog_3_method_6_code, 10, ((some .int) : Option FieldType), 2, false, xi_24),
  ((⟨"PhaseReader$Expander", "findArguments", "(LPhaseReader$Macro;LPhaseReader$Arguments;I)I"⟩ : MethodName), prog_3_method_7_code, 11, ((some .int) : Option FieldType), 2, false, xi_25),
  ((⟨"PhaseReader$Expander", "expandArgument", "(LPhaseReader$Arguments;II)I"⟩ : MethodName), prog_3_method_8_code, 7, ((some .int) : Option FieldType), 2, false, xi_26),
  ((⟨"PhaseReader$Expander", "makeReplacement", "(LPhaseReader$Macro;LPhaseReader$Arguments;I)I"⟩ : MethodName), prog_3_method_9_code, 9, ((some .int) : Option FieldType), 2, false, xi_27),
  ((⟨"PhaseReader$Expander", "addRow", "(LPhaseReader$Macro;ILPhaseReader$Arguments;I)V"⟩ : MethodName), prog_3_method_10_code, 7, (none : Option FieldType), 2, false, xi_28),
  ((⟨"PhaseReader$Expander", "pushReplacement", "(I)V"⟩ : MethodName), prog_3_method_11_code, 4, (none : Option FieldType), 2, false, xi_29),
  ((⟨"PhaseReader$Macro", "<init>", "()V"⟩ : MethodName), prog_4_method_1_code, 1, (none : Option FieldType), 3, true, xi_30),
  ((⟨"PhaseReader$Macro", "pastesAt", "(I)Z"⟩ : MethodName), prog_4_method_2_code, 2, ((some .boolean) : Option FieldType), 3, false, xi_31),
  ((⟨"PhaseReader$Macro", "parameterAt", "(I)I"⟩ : MethodName), prog_4_method_3_code, 3, ((some .int) : Option FieldType), 3, false, xi_32),
  ((⟨"PhaseReader$MacroTable", "<init>", "()V"⟩ : MethodName), prog_5_method_1_code, 2, (none : Option FieldType), 4, true, xi_33),
  ((⟨"PhaseReader$MacroTable", "find", "(J)I"⟩ : MethodName), prog_5_method_2_code, 4, ((some .int) : Option FieldType), 4, false, xi_34),
  ((⟨"PhaseReader$MacroTable", "define", "(LPhaseReader$TokenRow;IIII)I"⟩ : MethodName), prog_5_method_3_code, 10, ((some .int) : Option FieldType), 4, false, xi_35),
  ((⟨"PhaseReader$MacroTable", "undefine", "(J)V"⟩ : MethodName), prog_5_method_4_code, 5, (none : Option FieldType), 4, false, xi_36),
  ((⟨"PhaseReader$Parser", "<init>", "()V"⟩ : MethodName), prog_6_method_1_code, 1, (none : Option FieldType), 5, true, xi_37),
  ((⟨"PhaseReader$Parser", "parse", "(LPhaseReader$TokenRow;)I"⟩ : MethodName), prog_6_method_2_code, 2, ((some .int) : Option FieldType), 5, false, xi_38),
  ((⟨"PhaseReader$Parser", "load", "(LPhaseReader$TokenRow;)V"⟩ : MethodName), prog_6_method_3_code, 3, (none : Option FieldType), 5, false, xi_39),
  ((⟨"PhaseReader$Parser", "wordOf", "(J)I"⟩ : MethodName), prog_6_method_4_code, 2, ((some .int) : Option FieldType), 5, false, xi_40),
  ((⟨"PhaseReader$Parser", "hasOddNumber", "()Z"⟩ : MethodName), prog_6_method_5_code, 4, ((some .boolean) : Option FieldType), 5, false, xi_41),
  ((⟨"PhaseReader$Parser", "isTooDeep", "()Z"⟩ : MethodName), prog_6_method_6_code, 5, ((some .boolean) : Option FieldType), 5, false, xi_42),
  ((⟨"PhaseReader$Parser", "take", "(C)Z"⟩ : MethodName), prog_6_method_7_code, 3, ((some .boolean) : Option FieldType), 5, false, xi_43),
  ((⟨"PhaseReader$Parser", "isTypeAt", "(I)Z"⟩ : MethodName), prog_6_method_8_code, 3, ((some .boolean) : Option FieldType), 5, false, xi_44),
  ((⟨"PhaseReader$Parser", "startsDeclaration", "()Z"⟩ : MethodName), prog_6_method_9_code, 1, ((some .boolean) : Option FieldType), 5, false, xi_45),
  ((⟨"PhaseReader$Parser", "takeUnit", "()Z"⟩ : MethodName), prog_6_method_10_code, 2, ((some .boolean) : Option FieldType), 5, false, xi_46),
  ((⟨"PhaseReader$Parser", "takeDeclaration", "(ZI)Z"⟩ : MethodName), prog_6_method_11_code, 8, ((some .boolean) : Option FieldType), 5, false, xi_47),
  ((⟨"PhaseReader$Parser", "takeType", "()Z"⟩ : MethodName), prog_6_method_12_code, 1, ((some .boolean) : Option FieldType), 5, false, xi_48),
  ((⟨"PhaseReader$Parser", "declare", "(IZ)V"⟩ : MethodName), prog_6_method_13_code, 3, (none : Option FieldType), 5, false, xi_49),
  ((⟨"PhaseReader$Parser", "isFunction", "(I)Z"⟩ : MethodName), prog_6_method_14_code, 3, ((some .boolean) : Option FieldType), 5, false, xi_50),
  ((⟨"PhaseReader$Parser", "takeDeclarator", "(I)Z"⟩ : MethodName), prog_6_method_15_code, 5, ((some .boolean) : Option FieldType), 5, false, xi_51),
  ((⟨"PhaseReader$Parser", "takeForms", "()Z"⟩ : MethodName), prog_6_method_16_code, 4, ((some .boolean) : Option FieldType), 5, false, xi_52),
  ((⟨"PhaseReader$Parser", "takeBlock", "(I)Z"⟩ : MethodName), prog_6_method_17_code, 6, ((some .boolean) : Option FieldType), 5, false, xi_53),
  ((⟨"PhaseReader$Parser", "takeStatement", "(I)Z"⟩ : MethodName), prog_6_method_18_code, 4, ((some .boolean) : Option FieldType), 5, false, xi_54),
  ((⟨"PhaseReader$Parser", "takeExpression", "(I)Z"⟩ : MethodName), prog_6_method_19_code, 4, ((some .boolean) : Option FieldType), 5, false, xi_55),
  ((⟨"PhaseReader$Parser", "takeBinary", "(II)Z"⟩ : MethodName), prog_6_method_20_code, 5, ((some .boolean) : Option FieldType), 5, false, xi_56),
  ((⟨"PhaseReader$Parser", "strengthOf", "(J)I"⟩ : MethodName), prog_6_method_21_code, 2, ((some .int) : Option FieldType), 5, false, xi_57),
  ((⟨"PhaseReader$Parser", "takeOperand", "(I)Z"⟩ : MethodName), prog_6_method_22_code, 5, ((some .boolean) : Option FieldType), 5, false, xi_58),
  ((⟨"PhaseReader$Parser", "takeCast", "()Z"⟩ : MethodName), prog_6_method_23_code, 2, ((some .boolean) : Option FieldType), 5, false, xi_59),
  ((⟨"PhaseReader$Parser", "takePrimary", "(I)Z"⟩ : MethodName), prog_6_method_24_code, 4, ((some .boolean) : Option FieldType), 5, false, xi_60),
  ((⟨"PhaseReader$Parser", "takePostfixes", "(II)Z"⟩ : MethodName), prog_6_method_25_code, 5, ((some .boolean) : Option FieldType), 5, false, xi_61),
  ((⟨"PhaseReader$Parser", "takeArguments", "(II)Z"⟩ : MethodName), prog_6_method_26_code, 4, ((some .boolean) : Option FieldType), 5, false, xi_62),
  ((⟨"PhaseReader$Preprocessor", "<init>", "()V"⟩ : MethodName), prog_7_method_1_code, 2, (none : Option FieldType), 6, true, xi_63),
  ((⟨"PhaseReader$Preprocessor", "run", "([LPhaseReader$Text;I)I"⟩ : MethodName), prog_7_method_2_code, 6, ((some .int) : Option FieldType), 6, false, xi_64),
  ((⟨"PhaseReader$Preprocessor", "takeLine", "(LPhaseReader$Source;)I"⟩ : MethodName), prog_7_method_3_code, 5, ((some .int) : Option FieldType), 6, false, xi_65),
  ((⟨"PhaseReader$Preprocessor", "endFile", "(LPhaseReader$Source;)I"⟩ : MethodName), prog_7_method_4_code, 3, ((some .int) : Option FieldType), 6, false, xi_66),
  ((⟨"PhaseReader$Preprocessor", "obey", "(LPhaseReader$Source;II)I"⟩ : MethodName), prog_7_method_5_code, 7, ((some .int) : Option FieldType), 6, false, xi_67),
  ((⟨"PhaseReader$Preprocessor", "obeyNamed", "(LPhaseReader$Source;JJ)I"⟩ : MethodName), prog_7_method_6_code, 7, ((some .int) : Option FieldType), 6, false, xi_68),
  ((⟨"PhaseReader$Preprocessor", "include", "(LPhaseReader$TokenRow;II)I"⟩ : MethodName), prog_7_method_7_code, 6, ((some .int) : Option FieldType), 6, false, xi_69),
  ((⟨"PhaseReader$Preprocessor", "define", "(LPhaseReader$Source;II)I"⟩ : MethodName), prog_7_method_8_code, 8, ((some .int) : Option FieldType), 6, false, xi_70),
  ((⟨"PhaseReader$Preprocessor", "parametersEnd", "(LPhaseReader$TokenRow;II)I"⟩ : MethodName), prog_7_method_9_code, 4, ((some .int) : Option FieldType), 6, false, xi_71),
  ((⟨"PhaseReader$Preprocessor", "isRepeated", "(LPhaseReader$TokenRow;II)Z"⟩ : MethodName), prog_7_method_10_code, 4, ((some .boolean) : Option FieldType), 6, false, xi_72),
  ((⟨"PhaseReader$Preprocessor", "isBody", "(LPhaseReader$TokenRow;II)Z"⟩ : MethodName), prog_7_method_11_code, 6, ((some .boolean) : Option FieldType), 6, false, xi_73),
  ((⟨"PhaseReader$Scanner", "<init>", "()V"⟩ : MethodName), prog_8_method_1_code, 1, (none : Option FieldType), 7, true, xi_74),
  ((⟨"PhaseReader$Scanner", "read", "(LPhaseReader$Text;LPhaseReader$Source;)I"⟩ : MethodName), prog_8_method_2_code, 3, ((some .int) : Option FieldType), 7, false, xi_75),
  ((⟨"PhaseReader$Scanner", "replaceTrigraphs", "(LPhaseReader$Text;)V"⟩ : MethodName), prog_8_method_3_code, 6, (none : Option FieldType), 7, false, xi_76),
  ((⟨"PhaseReader$Scanner", "trigraphAt", "(LPhaseReader$Text;I)I"⟩ : MethodName), prog_8_method_4_code, 2, ((some .int) : Option FieldType), 7, false, xi_77),
  ((⟨"PhaseReader$Scanner", "joinLines", "()V"⟩ : MethodName), prog_8_method_5_code, 3, (none : Option FieldType), 7, false, xi_78),
  ((⟨"PhaseReader$Scanner", "split", "(LPhaseReader$Source;)I"⟩ : MethodName), prog_8_method_6_code, 9, ((some .int) : Option FieldType), 7, false, xi_79),
  ((⟨"PhaseReader$Scanner", "blankEnd", "(I)I"⟩ : MethodName), prog_8_method_7_code, 4, ((some .int) : Option FieldType), 7, false, xi_80),
  ((⟨"PhaseReader$Scanner", "longCommentEnd", "(I)I"⟩ : MethodName), prog_8_method_8_code, 3, ((some .int) : Option FieldType), 7, false, xi_81),
  ((⟨"PhaseReader$Scanner", "newlineFrom", "(I)I"⟩ : MethodName), prog_8_method_9_code, 3, ((some .int) : Option FieldType), 7, false, xi_82),
  ((⟨"PhaseReader$Scanner", "tokenEnd", "(I)I"⟩ : MethodName), prog_8_method_10_code, 4, ((some .int) : Option FieldType), 7, false, xi_83),
  ((⟨"PhaseReader$Scanner", "pack", "(II)J"⟩ : MethodName), prog_8_method_11_code, 6, ((some .long) : Option FieldType), 7, false, xi_84),
  ((⟨"PhaseReader$Source", "<init>", "()V"⟩ : MethodName), prog_9_method_1_code, 1, (none : Option FieldType), 8, true, xi_85),
  ((⟨"PhaseReader$Source", "restart", "(I)V"⟩ : MethodName), prog_9_method_2_code, 2, (none : Option FieldType), 8, false, xi_86),
  ((⟨"PhaseReader$Source", "add", "(JIIZ)V"⟩ : MethodName), prog_9_method_3_code, 7, (none : Option FieldType), 8, false, xi_87),
  ((⟨"PhaseReader$Source", "lineEnd", "(I)I"⟩ : MethodName), prog_9_method_4_code, 3, ((some .int) : Option FieldType), 8, false, xi_88),
  ((⟨"PhaseReader$Source", "leavesSkipping", "(II)Z"⟩ : MethodName), prog_9_method_5_code, 6, ((some .boolean) : Option FieldType), 8, false, xi_89),
  ((⟨"PhaseReader$Source", "openConditional", "(Z)I"⟩ : MethodName), prog_9_method_6_code, 2, ((some .int) : Option FieldType), 8, false, xi_90),
  ((⟨"PhaseReader$Source", "turnToElse", "()I"⟩ : MethodName), prog_9_method_7_code, 1, ((some .int) : Option FieldType), 8, false, xi_91),
  ((⟨"PhaseReader$Source", "closeConditional", "()I"⟩ : MethodName), prog_9_method_8_code, 1, ((some .int) : Option FieldType), 8, false, xi_92),
  ((⟨"PhaseReader$Text", "<init>", "()V"⟩ : MethodName), prog_10_method_1_code, 1, (none : Option FieldType), 9, true, xi_93),
  ((⟨"PhaseReader$Text", "add", "(C)Z"⟩ : MethodName), prog_10_method_2_code, 3, ((some .boolean) : Option FieldType), 9, false, xi_94),
  ((⟨"PhaseReader$TokenRow", "<init>", "(I)V"⟩ : MethodName), prog_11_method_1_code, 2, (none : Option FieldType), 10, true, xi_95),
  ((⟨"PhaseReader$TokenRow", "add", "(JII)V"⟩ : MethodName), prog_11_method_2_code, 5, (none : Option FieldType), 10, false, xi_96),
  ((⟨"PhaseReader$TokenRow", "placeAt", "(I)I"⟩ : MethodName), prog_11_method_3_code, 2, ((some .int) : Option FieldType), 10, false, xi_97),
  ((⟨"PhaseReader$TokenRow", "hideAt", "(I)I"⟩ : MethodName), prog_11_method_4_code, 2, ((some .int) : Option FieldType), 10, false, xi_98),
  ((⟨"PhaseReader$TokenRow", "addFrom", "(LPhaseReader$TokenRow;I)V"⟩ : MethodName), prog_11_method_5_code, 3, (none : Option FieldType), 10, false, xi_99),
  ((⟨"PhaseReader$TokenRow", "joinAt", "(II)Z"⟩ : MethodName), prog_11_method_6_code, 9, ((some .boolean) : Option FieldType), 10, false, xi_100),
  ((⟨"PhaseReader$TokenRow", "lengthOf", "(J)I"⟩ : MethodName), prog_11_method_7_code, 3, ((some .int) : Option FieldType), 10, false, xi_101),
  ((⟨"PhaseReader$TokenRow", "letter", "(JI)I"⟩ : MethodName), prog_11_method_8_code, 4, ((some .int) : Option FieldType), 10, false, xi_102),
  ((⟨"PhaseReader$TokenRow", "spells", "(JLjava/lang/String;)Z"⟩ : MethodName), prog_11_method_9_code, 6, ((some .boolean) : Option FieldType), 10, false, xi_103),
  ((⟨"PhaseReader$TokenRow", "isWord", "(J)Z"⟩ : MethodName), prog_11_method_10_code, 3, ((some .boolean) : Option FieldType), 10, false, xi_104),
  ((⟨"PhaseReader$TokenRow", "isNumber", "(J)Z"⟩ : MethodName), prog_11_method_11_code, 4, ((some .boolean) : Option FieldType), 10, false, xi_105),
  ((⟨"PhaseReader$TokenRow", "isName", "(J)Z"⟩ : MethodName), prog_11_method_12_code, 4, ((some .boolean) : Option FieldType), 10, false, xi_106),
  ((⟨"PhaseReader$TokenRow", "firstLetter", "(J)J"⟩ : MethodName), prog_11_method_13_code, 5, ((some .long) : Option FieldType), 10, false, xi_107),
  ((⟨"PhaseReader$Tree", "<init>", "()V"⟩ : MethodName), prog_12_method_1_code, 1, (none : Option FieldType), 11, true, xi_108),
  ((⟨"PhaseReader$Tree", "add", "(III)I"⟩ : MethodName), prog_12_method_2_code, 5, ((some .int) : Option FieldType), 11, false, xi_109),
  ((⟨"PhaseReader$Tree", "insert", "(IIII)V"⟩ : MethodName), prog_12_method_3_code, 5, (none : Option FieldType), 11, false, xi_110),
  ((⟨"PhaseReaderModel", "<init>", "()V"⟩ : MethodName), prog_14_method_1_code, 1, (none : Option FieldType), 12, true, xi_111),
  ((⟨"PhaseReaderModel", "choose", "(I)Z"⟩ : MethodName), prog_14_method_2_code, 2, ((some .boolean) : Option FieldType), 12, false, xi_112),
  ((⟨"PhaseReaderModel", "write", "(C)Z"⟩ : MethodName), prog_14_method_3_code, 2, ((some .boolean) : Option FieldType), 12, false, xi_113),
  ((⟨"PhaseReaderModel", "clear", "()V"⟩ : MethodName), prog_14_method_4_code, 1, (none : Option FieldType), 12, false, xi_114),
  ((⟨"PhaseReaderModel", "length", "(I)I"⟩ : MethodName), prog_14_method_5_code, 2, ((some .int) : Option FieldType), 12, false, xi_115),
  ((⟨"PhaseReaderModel", "trigraph", "(I)I"⟩ : MethodName), prog_14_method_6_code, 1, ((some .int) : Option FieldType), 12, false, xi_116),
  ((⟨"PhaseReaderModel", "wordly", "(I)Z"⟩ : MethodName), prog_14_method_7_code, 1, ((some .boolean) : Option FieldType), 12, false, xi_117),
  ((⟨"PhaseReaderModel", "digit", "(I)Z"⟩ : MethodName), prog_14_method_8_code, 1, ((some .boolean) : Option FieldType), 12, false, xi_118),
  ((⟨"PhaseReaderModel", "point", "(I)Z"⟩ : MethodName), prog_14_method_9_code, 1, ((some .boolean) : Option FieldType), 12, false, xi_119),
  ((⟨"PhaseReaderModel", "letters", "(J)I"⟩ : MethodName), prog_14_method_10_code, 5, ((some .int) : Option FieldType), 12, false, xi_120),
  ((⟨"PhaseReaderModel", "letter", "(JI)I"⟩ : MethodName), prog_14_method_11_code, 4, ((some .int) : Option FieldType), 12, false, xi_121),
  ((⟨"PhaseReaderModel", "isNumber", "(J)Z"⟩ : MethodName), prog_14_method_12_code, 2, ((some .boolean) : Option FieldType), 12, false, xi_122),
  ((⟨"PhaseReaderModel", "isName", "(J)Z"⟩ : MethodName), prog_14_method_13_code, 2, ((some .boolean) : Option FieldType), 12, false, xi_123),
  ((⟨"PhaseReaderModel", "join", "(I)V"⟩ : MethodName), prog_14_method_14_code, 8, (none : Option FieldType), 12, false, xi_124),
  ((⟨"PhaseReaderModel", "end", "(I)I"⟩ : MethodName), prog_14_method_15_code, 5, ((some .int) : Option FieldType), 12, false, xi_125),
  ((⟨"PhaseReaderModel", "blank", "(I)I"⟩ : MethodName), prog_14_method_16_code, 4, ((some .int) : Option FieldType), 12, false, xi_126),
  ((⟨"PhaseReaderModel", "read", "(I)I"⟩ : MethodName), prog_14_method_17_code, 10, ((some .int) : Option FieldType), 12, false, xi_127),
  ((⟨"PhaseReaderModel", "skipping", "()Z"⟩ : MethodName), prog_14_method_18_code, 1, ((some .boolean) : Option FieldType), 12, false, xi_128),
  ((⟨"PhaseReaderModel", "row", "()I"⟩ : MethodName), prog_14_method_19_code, 4, ((some .int) : Option FieldType), 12, false, xi_129),
  ((⟨"PhaseReaderModel", "directive", "(II)I"⟩ : MethodName), prog_14_method_20_code, 10, ((some .int) : Option FieldType), 12, false, xi_130),
  ((⟨"PhaseReaderModel", "turn", "(Z)I"⟩ : MethodName), prog_14_method_21_code, 2, ((some .int) : Option FieldType), 12, false, xi_131),
  ((⟨"PhaseReaderModel", "include", "(II)I"⟩ : MethodName), prog_14_method_22_code, 4, ((some .int) : Option FieldType), 12, false, xi_132),
  ((⟨"PhaseReaderModel", "find", "(J)I"⟩ : MethodName), prog_14_method_23_code, 4, ((some .int) : Option FieldType), 12, false, xi_133),
  ((⟨"PhaseReaderModel", "parameters", "(II)I"⟩ : MethodName), prog_14_method_24_code, 6, ((some .int) : Option FieldType), 12, false, xi_134),
  ((⟨"PhaseReaderModel", "define", "(II)I"⟩ : MethodName), prog_14_method_25_code, 10, ((some .int) : Option FieldType), 12, false, xi_135),
  ((⟨"PhaseReaderModel", "expand", "()I"⟩ : MethodName), prog_14_method_26_code, 3, ((some .int) : Option FieldType), 12, false, xi_136),
  ((⟨"PhaseReaderModel", "lay", "(JI)V"⟩ : MethodName), prog_14_method_27_code, 4, (none : Option FieldType), 12, false, xi_137),
  ((⟨"PhaseReaderModel", "next", "()I"⟩ : MethodName), prog_14_method_28_code, 8, ((some .int) : Option FieldType), 12, false, xi_138),
  ((⟨"PhaseReaderModel", "arguments", "(I)I"⟩ : MethodName), prog_14_method_29_code, 8, ((some .int) : Option FieldType), 12, false, xi_139),
  ((⟨"PhaseReaderModel", "begin", "()I"⟩ : MethodName), prog_14_method_30_code, 5, ((some .int) : Option FieldType), 12, false, xi_140),
  ((⟨"PhaseReaderModel", "argumentEnds", "()I"⟩ : MethodName), prog_14_method_31_code, 1, ((some .int) : Option FieldType), 12, false, xi_141),
  ((⟨"PhaseReaderModel", "which", "(IJ)I"⟩ : MethodName), prog_14_method_32_code, 5, ((some .int) : Option FieldType), 12, false, xi_142),
  ((⟨"PhaseReaderModel", "replace", "()I"⟩ : MethodName), prog_14_method_33_code, 17, ((some .int) : Option FieldType), 12, false, xi_143),
  ((⟨"PhaseReaderModel", "paste", "(IJI)Z"⟩ : MethodName), prog_14_method_34_code, 11, ((some .boolean) : Option FieldType), 12, false, xi_144),
  ((⟨"PhaseReaderModel", "translate", "(I)I"⟩ : MethodName), prog_14_method_35_code, 3, ((some .int) : Option FieldType), 12, false, xi_145),
  ((⟨"PhaseReaderModel", "checked", "()I"⟩ : MethodName), prog_14_method_36_code, 7, ((some .int) : Option FieldType), 12, false, xi_146),
  ((⟨"PhaseReaderModel", "matched", "()Z"⟩ : MethodName), prog_14_method_37_code, 7, ((some .boolean) : Option FieldType), 12, false, xi_147),
  ((⟨"PhaseReaderModel", "isWord", "(I)Z"⟩ : MethodName), prog_14_method_38_code, 4, ((some .boolean) : Option FieldType), 12, false, xi_148),
  ((⟨"PhaseReaderModel", "type", "(I)Z"⟩ : MethodName), prog_14_method_39_code, 6, ((some .boolean) : Option FieldType), 12, false, xi_149),
  ((⟨"PhaseReaderModel", "grow", "(III)I"⟩ : MethodName), prog_14_method_40_code, 4, ((some .int) : Option FieldType), 12, false, xi_150),
  ((⟨"PhaseReaderModel", "push", "(IIIII)Z"⟩ : MethodName), prog_14_method_41_code, 6, ((some .boolean) : Option FieldType), 12, false, xi_151),
  ((⟨"PhaseReaderModel", "parsed", "()Z"⟩ : MethodName), prog_14_method_42_code, 8, ((some .boolean) : Option FieldType), 12, false, xi_152),
  ((⟨"PhaseReaderModel", "stop", "(II)I"⟩ : MethodName), prog_14_method_43_code, 4, ((some .int) : Option FieldType), 12, false, xi_153),
  ((⟨"PhaseReaderModel", "items", "(IIII)Z"⟩ : MethodName), prog_14_method_44_code, 11, ((some .boolean) : Option FieldType), 12, false, xi_154),
  ((⟨"PhaseReaderModel", "statement", "(IIII)Z"⟩ : MethodName), prog_14_method_45_code, 9, ((some .boolean) : Option FieldType), 12, false, xi_155),
  ((⟨"PhaseReaderModel", "seek", "(IIJ)I"⟩ : MethodName), prog_14_method_46_code, 6, ((some .int) : Option FieldType), 12, false, xi_156),
  ((⟨"PhaseReaderModel", "declarator", "(IIIII)Z"⟩ : MethodName), prog_14_method_47_code, 15, ((some .boolean) : Option FieldType), 12, false, xi_157),
  ((⟨"PhaseReaderModel", "forms", "(II)Z"⟩ : MethodName), prog_14_method_48_code, 5, ((some .boolean) : Option FieldType), 12, false, xi_158),
  ((⟨"PhaseReaderModel", "strength", "(J)I"⟩ : MethodName), prog_14_method_49_code, 2, ((some .int) : Option FieldType), 12, false, xi_159),
  ((⟨"PhaseReaderModel", "cast", "(I)Z"⟩ : MethodName), prog_14_method_50_code, 4, ((some .boolean) : Option FieldType), 12, false, xi_160),
  ((⟨"PhaseReaderModel", "cut", "(II)I"⟩ : MethodName), prog_14_method_51_code, 11, ((some .int) : Option FieldType), 12, false, xi_161),
  ((⟨"PhaseReaderModel", "value", "(III)Z"⟩ : MethodName), prog_14_method_52_code, 10, ((some .boolean) : Option FieldType), 12, false, xi_162),
  ((⟨"PhaseReaderModel", "values", "(III)V"⟩ : MethodName), prog_14_method_53_code, 6, (none : Option FieldType), 12, false, xi_163),
  ((⟨"PhaseReaderModel", "verdict", "()I"⟩ : MethodName), prog_14_method_54_code, 1, ((some .int) : Option FieldType), 12, false, xi_164),
  ((⟨"PhaseReaderModel", "tokens", "()I"⟩ : MethodName), prog_14_method_55_code, 1, ((some .int) : Option FieldType), 12, false, xi_165),
  ((⟨"PhaseReaderModel", "place", "(I)I"⟩ : MethodName), prog_14_method_56_code, 2, ((some .int) : Option FieldType), 12, false, xi_166),
  ((⟨"PhaseReaderModel", "spelling", "(II)I"⟩ : MethodName), prog_14_method_57_code, 3, ((some .int) : Option FieldType), 12, false, xi_167),
  ((⟨"PhaseReaderModel", "replaced", "()I"⟩ : MethodName), prog_14_method_58_code, 1, ((some .int) : Option FieldType), 12, false, xi_168),
  ((⟨"PhaseReaderModel", "macros", "()I"⟩ : MethodName), prog_14_method_59_code, 3, ((some .int) : Option FieldType), 12, false, xi_169),
  ((⟨"PhaseReaderModel", "nodes", "()I"⟩ : MethodName), prog_14_method_60_code, 1, ((some .int) : Option FieldType), 12, false, xi_170),
  ((⟨"PhaseReaderModel", "node", "(II)I"⟩ : MethodName), prog_14_method_61_code, 3, ((some .int) : Option FieldType), 12, false, xi_171),
  ((⟨"java/lang/String", "length", "()I"⟩ : MethodName), prog_17_method_54_code, 1, ((some .int) : Option FieldType), 14, false, xi_172),
  ((⟨"java/lang/String", "charAt", "(I)C"⟩ : MethodName), prog_17_method_56_code, 2, ((some .char) : Option FieldType), 14, false, xi_173),
  ((⟨"java/lang/String", "indexOf", "(I)I"⟩ : MethodName), prog_17_method_79_code, 2, ((some .int) : Option FieldType), 14, false, xi_174),
  ((⟨"java/lang/String", "indexOf", "(II)I"⟩ : MethodName), prog_17_method_80_code, 3, ((some .int) : Option FieldType), 14, false, xi_175),
  ((⟨"java/lang/String", "coder", "()B"⟩ : MethodName), prog_17_method_152_code, 1, ((some .byte) : Option FieldType), 14, false, xi_176),
  ((⟨"java/lang/String", "isLatin1", "()Z"⟩ : MethodName), prog_17_method_154_code, 1, ((some .boolean) : Option FieldType), 14, false, xi_177),
  ((⟨"java/lang/String", "checkIndex", "(II)V"⟩ : MethodName), prog_17_method_155_code, 2, (none : Option FieldType), 14, false, xi_178),
  ((⟨"java/lang/StringLatin1", "charAt", "([BI)C"⟩ : MethodName), prog_18_method_2_code, 2, ((some .char) : Option FieldType), 15, false, xi_179),
  ((⟨"java/lang/StringLatin1", "canEncode", "(I)Z"⟩ : MethodName), prog_18_method_4_code, 1, ((some .boolean) : Option FieldType), 15, false, xi_180),
  ((⟨"java/lang/StringLatin1", "indexOf", "([BIII)I"⟩ : MethodName), prog_18_method_22_code, 4, ((some .int) : Option FieldType), 15, false, xi_181),
  ((⟨"java/lang/StringLatin1", "indexOfChar", "([BIII)I"⟩ : MethodName), prog_18_method_23_code, 6, ((some .int) : Option FieldType), 15, false, xi_182),
  ((⟨"jdk/internal/util/Preconditions", "checkIndex", "(IILjava/util/function/BiFunction;)I"⟩ : MethodName), prog_21_method_11_code, 3, ((some .int) : Option FieldType), 16, false, xi_183)]
def x_me (k : Nat) : x_MT := x_ml.getD k (x, code, 0, none, 99, false, [])
def x_y (k : Nat) : MethodName := (x_me k).1
def x_b (k : Nat) : ByteArray := (x_me k).2.1
def x_nL (k : Nat) : Nat := (x_me k).2.2.1
def x_rt (k : Nat) : Option FieldType := (x_me k).2.2.2.1
def x_own (k : Nat) : Nat := (x_me k).2.2.2.2.1
def x_ini (k : Nat) : Bool := (x_me k).2.2.2.2.2.1
def x_ins (k pc : Nat) : Option Instr := match (x_me k).2.2.2.2.2.2[pc]? with
  | some (some i) => some i
  | _ => none
def x_mp (e : x_MT) : Prop := e.1.cls = x_cn.getD e.2.2.2.2.1 "" ∧ (e.2.2.2.2.2.1 = true → e.1.name = "<init>") ∧ x_chk e.2.2.2.2.2.2 e.2.1 = true ∧ plainName e.1.cls = true ∧ (e.1.cls ≠ "java/lang/invoke/MethodHandle" ∧ e.1.cls ≠ "java/lang/invoke/VarHandle") ∧ e.2.2.1 ≤ 29
theorem xm_0 : x_mp ((⟨"PhaseReaderLaw", "law", "([I)Z"⟩ : MethodName), code, 4, ((some .boolean) : Option FieldType), 13, false, xi_0) := ⟨rfl, (fun h => by cases h), xd_0, by decide +kernel, by decide +kernel, by decide +kernel⟩
theorem xm_1 : x_mp ((⟨"PhaseReader", "<init>", "()V"⟩ : MethodName), prog_1_method_1_code, 2, (none : Option FieldType), 0, true, xi_1) := ⟨rfl, fun _ => rfl, xd_1, by decide +kernel, by decide +kernel, by decide +kernel⟩
theorem xm_2 : x_mp ((⟨"PhaseReader", "choose", "(I)Z"⟩ : MethodName), prog_1_method_2_code, 2, ((some .boolean) : Option FieldType), 0, false, xi_2) := ⟨rfl, (fun h => by cases h), xd_2, by decide +kernel, by decide +kernel, by decide +kernel⟩
theorem xm_3 : x_mp ((⟨"PhaseReader", "write", "(C)Z"⟩ : MethodName), prog_1_method_3_code, 2, ((some .boolean) : Option FieldType), 0, false, xi_3) := ⟨rfl, (fun h => by cases h), xd_3, by decide +kernel, by decide +kernel, by decide +kernel⟩
theorem xm_4 : x_mp ((⟨"PhaseReader", "clear", "()V"⟩ : MethodName), prog_1_method_4_code, 1, (none : Option FieldType), 0, false, xi_4) := ⟨rfl, (fun h => by cases h), xd_4, by decide +kernel, by decide +kernel, by decide +kernel⟩
theorem xm_5 : x_mp ((⟨"PhaseReader", "length", "(I)I"⟩ : MethodName), prog_1_method_5_code, 2, ((some .int) : Option FieldType), 0, false, xi_5) := ⟨rfl, (fun h => by cases h), xd_5, by decide +kernel, by decide +kernel, by decide +kernel⟩
theorem xm_6 : x_mp ((⟨"PhaseReader", "translate", "(I)I"⟩ : MethodName), prog_1_method_6_code, 2, ((some .int) : Option FieldType), 0, false, xi_6) := ⟨rfl, (fun h => by cases h), xd_6, by decide +kernel, by decide +kernel, by decide +kernel⟩
theorem xm_7 : x_mp ((⟨"PhaseReader", "verdict", "()I"⟩ : MethodName), prog_1_method_7_code, 1, ((some .int) : Option FieldType), 0, false, xi_7) := ⟨rfl, (fun h => by cases h), xd_7, by decide +kernel, by decide +kernel, by decide +kernel⟩
theorem xm_8 : x_mp ((⟨"PhaseReader", "tokens", "()I"⟩ : MethodName), prog_1_method_8_code, 1, ((some .int) : Option FieldType), 0, false, xi_8) := ⟨rfl, (fun h => by cases h), xd_8, by decide +kernel, by decide +kernel, by decide +kernel⟩
theorem xm_9 : x_mp ((⟨"PhaseReader", "place", "(I)I"⟩ : MethodName), prog_1_method_9_code, 2, ((some .int) : Option FieldType), 0, false, xi_9) := ⟨rfl, (fun h => by cases h), xd_9, by decide +kernel, by decide +kernel, by decide +kernel⟩
theorem xm_10 : x_mp ((⟨"PhaseReader", "spelling", "(II)I"⟩ : MethodName), prog_1_method_10_code, 3, ((some .int) : Option FieldType), 0, false, xi_10) := ⟨rfl, (fun h => by cases h), xd_10, by decide +kernel, by decide +kernel, by decide +kernel⟩
theorem xm_11 : x_mp ((⟨"PhaseReader", "replaced", "()I"⟩ : MethodName), prog_1_method_11_code, 1, ((some .int) : Option FieldType), 0, false, xi_11) := ⟨rfl, (fun h => by cases h), xd_11, by decide +kernel, by decide +kernel, by decide +kernel⟩
theorem xm_12 : x_mp ((⟨"PhaseReader", "macros", "()I"⟩ : MethodName), prog_1_method_12_code, 1, ((some .int) : Option FieldType), 0, false, xi_12) := ⟨rfl, (fun h => by cases h), xd_12, by decide +kernel, by decide +kernel, by decide +kernel⟩
theorem xm_13 : x_mp ((⟨"PhaseReader", "nodes", "()I"⟩ : MethodName), prog_1_method_13_code, 1, ((some .int) : Option FieldType), 0, false, xi_13) := ⟨rfl, (fun h => by cases h), xd_13, by decide +kernel, by decide +kernel, by decide +kernel⟩
theorem xm_14 : x_mp ((⟨"PhaseReader", "node", "(II)I"⟩ : MethodName), prog_1_method_14_code, 4, ((some .int) : Option FieldType), 0, false, xi_14) := ⟨rfl, (fun h => by cases h), xd_14, by decide +kernel, by decide +kernel, by decide +kernel⟩
theorem xm_15 : x_mp ((⟨"PhaseReader", "isFile", "(I)Z"⟩ : MethodName), prog_1_method_15_code, 1, ((some .boolean) : Option FieldType), 0, false, xi_15) := ⟨rfl, (fun h => by cases h), xd_15, by decide +kernel, by decide +kernel, by decide +kernel⟩
theorem xm_16 : x_mp ((⟨"PhaseReader", "isToken", "(I)Z"⟩ : MethodName), prog_1_method_16_code, 2, ((some .boolean) : Option FieldType), 0, false, xi_16) := ⟨rfl, (fun h => by cases h), xd_16, by decide +kernel, by decide +kernel, by decide +kernel⟩
theorem xm_17 : x_mp ((⟨"PhaseReader$Arguments", "<init>", "()V"⟩ : MethodName), prog_2_method_1_code, 1, (none : Option FieldType), 1, true, xi_17) := ⟨rfl, fun _ => rfl, xd_17, by decide +kernel, by decide +kernel, by decide +kernel⟩
theorem xm_18 : x_mp ((⟨"PhaseReader$Arguments", "add", "(II)V"⟩ : MethodName), prog_2_method_2_code, 3, (none : Option FieldType), 1, false, xi_18) := ⟨rfl, (fun h => by cases h), xd_18, by decide +kernel, by decide +kernel, by decide +kernel⟩
theorem xm_19 : x_mp ((⟨"PhaseReader$Expander", "<init>", "()V"⟩ : MethodName), prog_3_method_1_code, 2, (none : Option FieldType), 2, true, xi_19) := ⟨rfl, fun _ => rfl, xd_19, by decide +kernel, by decide +kernel, by decide +kernel⟩
theorem xm_20 : x_mp ((⟨"PhaseReader$Expander", "restart", "()V"⟩ : MethodName), prog_3_method_2_code, 1, (none : Option FieldType), 2, false, xi_20) := ⟨rfl, (fun h => by cases h), xd_20, by decide +kernel, by decide +kernel, by decide +kernel⟩
theorem xm_21 : x_mp ((⟨"PhaseReader$Expander", "expandGroup", "(LPhaseReader$TokenRow;II)I"⟩ : MethodName), prog_3_method_3_code, 6, ((some .int) : Option FieldType), 2, false, xi_21) := ⟨rfl, (fun h => by cases h), xd_21, by decide +kernel, by decide +kernel, by decide +kernel⟩
theorem xm_22 : x_mp ((⟨"PhaseReader$Expander", "expandList", "(II)I"⟩ : MethodName), prog_3_method_4_code, 6, ((some .int) : Option FieldType), 2, false, xi_22) := ⟨rfl, (fun h => by cases h), xd_22, by decide +kernel, by decide +kernel, by decide +kernel⟩
theorem xm_23 : x_mp ((⟨"PhaseReader$Expander", "macroOnTop", "(I)I"⟩ : MethodName), prog_3_method_5_code, 5, ((some .int) : Option FieldType), 2, false, xi_23) := ⟨rfl, (fun h => by cases h), xd_23, by decide +kernel, by decide +kernel, by decide +kernel⟩
theorem xm_24 : x_mp ((⟨"PhaseReader$Expander", "replaceTop", "(III)I"⟩ : MethodName), prog_3_method_6_code, 10, ((some .int) : Option FieldType), 2, false, xi_24) := ⟨rfl, (fun h => by cases h), xd_24, by decide +kernel, by decide +kernel, by decide +kernel⟩
theorem xm_25 : x_mp ((⟨"PhaseReader$Expander", "findArguments", "(LPhaseReader$Macro;LPhaseReader$Arguments;I)I"⟩ : MethodName), prog_3_method_7_code, 11, ((some .int) : Option FieldType), 2, false, xi_25) := ⟨rfl, (fun h => by cases h), xd_25, by decide +kernel, by decide +kernel, by decide +kernel⟩
theorem xm_26 : x_mp ((⟨"PhaseReader$Expander", "expandArgument", "(LPhaseReader$Arguments;II)I"⟩ : MethodName), prog_3_method_8_code, 7, ((some .int) : Option FieldType), 2, false, xi_26) := ⟨rfl, (fun h => by cases h), xd_26, by decide +kernel, by decide +kernel, by decide +kernel⟩
theorem xm_27 : x_mp ((⟨"PhaseReader$Expander", "makeReplacement", "(LPhaseReader$Macro;LPhaseReader$Arguments;I)I"⟩ : MethodName), prog_3_method_9_code, 9, ((some .int) : Option FieldType), 2, false, xi_27) := ⟨rfl, (fun h => by cases h), xd_27, by decide +kernel, by decide +kernel, by decide +kernel⟩
theorem xm_28 : x_mp ((⟨"PhaseReader$Expander", "addRow", "(LPhaseReader$Macro;ILPhaseReader$Arguments;I)V"⟩ : MethodName), prog_3_method_10_code, 7, (none : Option FieldType), 2, false, xi_28) := ⟨rfl, (fun h => by cases h), xd_28, by decide +kernel, by decide +kernel, by decide +kernel⟩
theorem xm_29 : x_mp ((⟨"PhaseReader$Expander", "pushReplacement", "(I)V"⟩ : MethodName), prog_3_method_11_code, 4, (none : Option FieldType), 2, false, xi_29) := ⟨rfl, (fun h => by cases h), xd_29, by decide +kernel, by decide +kernel, by decide +kernel⟩
theorem xm_30 : x_mp ((⟨"PhaseReader$Macro", "<init>", "()V"⟩ : MethodName), prog_4_method_1_code, 1, (none : Option FieldType), 3, true, xi_30) := ⟨rfl, fun _ => rfl, xd_30, by decide +kernel, by decide +kernel, by decide +kernel⟩
theorem xm_31 : x_mp ((⟨"PhaseReader$Macro", "pastesAt", "(I)Z"⟩ : MethodName), prog_4_method_2_code, 2, ((some .boolean) : Option FieldType), 3, false, xi_31) := ⟨rfl, (fun h => by cases h), xd_31, by decide +kernel, by decide +kernel, by decide +kernel⟩
theorem xm_32 : x_mp ((⟨"PhaseReader$Macro", "parameterAt", "(I)I"⟩ : MethodName), prog_4_method_3_code, 3, ((some .int) : Option FieldType), 3, false, xi_32) := ⟨rfl, (fun h => by cases h), xd_32, by decide +kernel, by decide +kernel, by decide +kernel⟩
theorem xm_33 : x_mp ((⟨"PhaseReader$MacroTable", "<init>", "()V"⟩ : MethodName), prog_5_method_1_code, 2, (none : Option FieldType), 4, true, xi_33) := ⟨rfl, fun _ => rfl, xd_33, by decide +kernel, by decide +kernel, by decide +kernel⟩
theorem xm_34 : x_mp ((⟨"PhaseReader$MacroTable", "find", "(J)I"⟩ : MethodName), prog_5_method_2_code, 4, ((some .int) : Option FieldType), 4, false, xi_34) := ⟨rfl, (fun h => by cases h), xd_34, by decide +kernel, by decide +kernel, by decide +kernel⟩
theorem xm_35 : x_mp ((⟨"PhaseReader$MacroTable", "define", "(LPhaseReader$TokenRow;IIII)I"⟩ : MethodName), prog_5_method_3_code, 10, ((some .int) : Option FieldType), 4, false, xi_35) := ⟨rfl, (fun h => by cases h), xd_35, by decide +kernel, by decide +kernel, by decide +kernel⟩
theorem xm_36 : x_mp ((⟨"PhaseReader$MacroTable", "undefine", "(J)V"⟩ : MethodName), prog_5_method_4_code, 5, (none : Option FieldType), 4, false, xi_36) := ⟨rfl, (fun h => by cases h), xd_36, by decide +kernel, by decide +kernel, by decide +kernel⟩
theorem xm_37 : x_mp ((⟨"PhaseReader$Parser", "<init>", "()V"⟩ : MethodName), prog_6_method_1_code, 1, (none : Option FieldType), 5, true, xi_37) := ⟨rfl, fun _ => rfl, xd_37, by decide +kernel, by decide +kernel, by decide +kernel⟩
theorem xm_38 : x_mp ((⟨"PhaseReader$Parser", "parse", "(LPhaseReader$TokenRow;)I"⟩ : MethodName), prog_6_method_2_code, 2, ((some .int) : Option FieldType), 5, false, xi_38) := ⟨rfl, (fun h => by cases h), xd_38, by decide +kernel, by decide +kernel, by decide +kernel⟩
theorem xm_39 : x_mp ((⟨"PhaseReader$Parser", "load", "(LPhaseReader$TokenRow;)V"⟩ : MethodName), prog_6_method_3_code, 3, (none : Option FieldType), 5, false, xi_39) := ⟨rfl, (fun h => by cases h), xd_39, by decide +kernel, by decide +kernel, by decide +kernel⟩
theorem xm_40 : x_mp ((⟨"PhaseReader$Parser", "wordOf", "(J)I"⟩ : MethodName), prog_6_method_4_code, 2, ((some .int) : Option FieldType), 5, false, xi_40) := ⟨rfl, (fun h => by cases h), xd_40, by decide +kernel, by decide +kernel, by decide +kernel⟩
theorem xm_41 : x_mp ((⟨"PhaseReader$Parser", "hasOddNumber", "()Z"⟩ : MethodName), prog_6_method_5_code, 4, ((some .boolean) : Option FieldType), 5, false, xi_41) := ⟨rfl, (fun h => by cases h), xd_41, by decide +kernel, by decide +kernel, by decide +kernel⟩
theorem xm_42 : x_mp ((⟨"PhaseReader$Parser", "isTooDeep", "()Z"⟩ : MethodName), prog_6_method_6_code, 5, ((some .boolean) : Option FieldType), 5, false, xi_42) := ⟨rfl, (fun h => by cases h), xd_42, by decide +kernel, by decide +kernel, by decide +kernel⟩
theorem xm_43 : x_mp ((⟨"PhaseReader$Parser", "take", "(C)Z"⟩ : MethodName), prog_6_method_7_code, 3, ((some .boolean) : Option FieldType), 5, false, xi_43) := ⟨rfl, (fun h => by cases h), xd_43, by decide +kernel, by decide +kernel, by decide +kernel⟩
theorem xm_44 : x_mp ((⟨"PhaseReader$Parser", "isTypeAt", "(I)Z"⟩ : MethodName), prog_6_method_8_code, 3, ((some .boolean) : Option FieldType), 5, false, xi_44) := ⟨rfl, (fun h => by cases h), xd_44, by decide +kernel, by decide +kernel, by decide +kernel⟩
theorem xm_45 : x_mp ((⟨"PhaseReader$Parser", "startsDeclaration", "()Z"⟩ : MethodName), prog_6_method_9_code, 1, ((some .boolean) : Option FieldType), 5, false, xi_45) := ⟨rfl, (fun h => by cases h), xd_45, by decide +kernel, by decide +kernel, by decide +kernel⟩
theorem xm_46 : x_mp ((⟨"PhaseReader$Parser", "takeUnit", "()Z"⟩ : MethodName), prog_6_method_10_code, 2, ((some .boolean) : Option FieldType), 5, false, xi_46) := ⟨rfl, (fun h => by cases h), xd_46, by decide +kernel, by decide +kernel, by decide +kernel⟩
theorem xm_47 : x_mp ((⟨"PhaseReader$Parser", "takeDeclaration", "(ZI)Z"⟩ : MethodName), prog_6_method_11_code, 8, ((some .boolean) : Option FieldType), 5, false, xi_47) := ⟨rfl, (fun h => by cases h), xd_47, by decide +kernel, by decide +kernel, by decide +kernel⟩
theorem xm_48 : x_mp ((⟨"PhaseReader$Parser", "takeType", "()Z"⟩ : MethodName), prog_6_method_12_code, 1, ((some .boolean) : Option FieldType), 5, false, xi_48) := ⟨rfl, (fun h => by cases h), xd_48, by decide +kernel, by decide +kernel, by decide +kernel⟩
theorem xm_49 : x_mp ((⟨"PhaseReader$Parser", "declare", "(IZ)V"⟩ : MethodName), prog_6_method_13_code, 3, (none : Option FieldType), 5, false, xi_49) := ⟨rfl, (fun h => by cases h), xd_49, by decide +kernel, by decide +kernel, by decide +kernel⟩
theorem xm_50 : x_mp ((⟨"PhaseReader$Parser", "isFunction", "(I)Z"⟩ : MethodName), prog_6_method_14_code, 3, ((some .boolean) : Option FieldType), 5, false, xi_50) := ⟨rfl, (fun h => by cases h), xd_50, by decide +kernel, by decide +kernel, by decide +kernel⟩
theorem xm_51 : x_mp ((⟨"PhaseReader$Parser", "takeDeclarator", "(I)Z"⟩ : MethodName), prog_6_method_15_code, 5, ((some .boolean) : Option FieldType), 5, false, xi_51) := ⟨rfl, (fun h => by cases h), xd_51, by decide +kernel, by decide +kernel, by decide +kernel⟩
theorem xm_52 : x_mp ((⟨"PhaseReader$Parser", "takeForms", "()Z"⟩ : MethodName), prog_6_method_16_code, 4, ((some .boolean) : Option FieldType), 5, false, xi_52) := ⟨rfl, (fun h => by cases h), xd_52, by decide +kernel, by decide +kernel, by decide +kernel⟩
theorem xm_53 : x_mp ((⟨"PhaseReader$Parser", "takeBlock", "(I)Z"⟩ : MethodName), prog_6_method_17_code, 6, ((some .boolean) : Option FieldType), 5, false, xi_53) := ⟨rfl, (fun h => by cases h), xd_53, by decide +kernel, by decide +kernel, by decide +kernel⟩
theorem xm_54 : x_mp ((⟨"PhaseReader$Parser", "takeStatement", "(I)Z"⟩ : MethodName), prog_6_method_18_code, 4, ((some .boolean) : Option FieldType), 5, false, xi_54) := ⟨rfl, (fun h => by cases h), xd_54, by decide +kernel, by decide +kernel, by decide +kernel⟩
theorem xm_55 : x_mp ((⟨"PhaseReader$Parser", "takeExpression", "(I)Z"⟩ : MethodName), prog_6_method_19_code, 4, ((some .boolean) : Option FieldType), 5, false, xi_55) := ⟨rfl, (fun h => by cases h), xd_55, by decide +kernel, by decide +kernel, by decide +kernel⟩
theorem xm_56 : x_mp ((⟨"PhaseReader$Parser", "takeBinary", "(II)Z"⟩ : MethodName), prog_6_method_20_code, 5, ((some .boolean) : Option FieldType), 5, false, xi_56) := ⟨rfl, (fun h => by cases h), xd_56, by decide +kernel, by decide +kernel, by decide +kernel⟩
theorem xm_57 : x_mp ((⟨"PhaseReader$Parser", "strengthOf", "(J)I"⟩ : MethodName), prog_6_method_21_code, 2, ((some .int) : Option FieldType), 5, false, xi_57) := ⟨rfl, (fun h => by cases h), xd_57, by decide +kernel, by decide +kernel, by decide +kernel⟩
theorem xm_58 : x_mp ((⟨"PhaseReader$Parser", "takeOperand", "(I)Z"⟩ : MethodName), prog_6_method_22_code, 5, ((some .boolean) : Option FieldType), 5, false, xi_58) := ⟨rfl, (fun h => by cases h), xd_58, by decide +kernel, by decide +kernel, by decide +kernel⟩
theorem xm_59 : x_mp ((⟨"PhaseReader$Parser", "takeCast", "()Z"⟩ : MethodName), prog_6_method_23_code, 2, ((some .boolean) : Option FieldType), 5, false, xi_59) := ⟨rfl, (fun h => by cases h), xd_59, by decide +kernel, by decide +kernel, by decide +kernel⟩
theorem xm_60 : x_mp ((⟨"PhaseReader$Parser", "takePrimary", "(I)Z"⟩ : MethodName), prog_6_method_24_code, 4, ((some .boolean) : Option FieldType), 5, false, xi_60) := ⟨rfl, (fun h => by cases h), xd_60, by decide +kernel, by decide +kernel, by decide +kernel⟩
theorem xm_61 : x_mp ((⟨"PhaseReader$Parser", "takePostfixes", "(II)Z"⟩ : MethodName), prog_6_method_25_code, 5, ((some .boolean) : Option FieldType), 5, false, xi_61) := ⟨rfl, (fun h => by cases h), xd_61, by decide +kernel, by decide +kernel, by decide +kernel⟩
theorem xm_62 : x_mp ((⟨"PhaseReader$Parser", "takeArguments", "(II)Z"⟩ : MethodName), prog_6_method_26_code, 4, ((some .boolean) : Option FieldType), 5, false, xi_62) := ⟨rfl, (fun h => by cases h), xd_62, by decide +kernel, by decide +kernel, by decide +kernel⟩
theorem xm_63 : x_mp ((⟨"PhaseReader$Preprocessor", "<init>", "()V"⟩ : MethodName), prog_7_method_1_code, 2, (none : Option FieldType), 6, true, xi_63) := ⟨rfl, fun _ => rfl, xd_63, by decide +kernel, by decide +kernel, by decide +kernel⟩
theorem xm_64 : x_mp ((⟨"PhaseReader$Preprocessor", "run", "([LPhaseReader$Text;I)I"⟩ : MethodName), prog_7_method_2_code, 6, ((some .int) : Option FieldType), 6, false, xi_64) := ⟨rfl, (fun h => by cases h), xd_64, by decide +kernel, by decide +kernel, by decide +kernel⟩
theorem xm_65 : x_mp ((⟨"PhaseReader$Preprocessor", "takeLine", "(LPhaseReader$Source;)I"⟩ : MethodName), prog_7_method_3_code, 5, ((some .int) : Option FieldType), 6, false, xi_65) := ⟨rfl, (fun h => by cases h), xd_65, by decide +kernel, by decide +kernel, by decide +kernel⟩
theorem xm_66 : x_mp ((⟨"PhaseReader$Preprocessor", "endFile", "(LPhaseReader$Source;)I"⟩ : MethodName), prog_7_method_4_code, 3, ((some .int) : Option FieldType), 6, false, xi_66) := ⟨rfl, (fun h => by cases h), xd_66, by decide +kernel, by decide +kernel, by decide +kernel⟩
theorem xm_67 : x_mp ((⟨"PhaseReader$Preprocessor", "obey", "(LPhaseReader$Source;II)I"⟩ : MethodName), prog_7_method_5_code, 7, ((some .int) : Option FieldType), 6, false, xi_67) := ⟨rfl, (fun h => by cases h), xd_67, by decide +kernel, by decide +kernel, by decide +kernel⟩
theorem xm_68 : x_mp ((⟨"PhaseReader$Preprocessor", "obeyNamed", "(LPhaseReader$Source;JJ)I"⟩ : MethodName), prog_7_method_6_code, 7, ((some .int) : Option FieldType), 6, false, xi_68) := ⟨rfl, (fun h => by cases h), xd_68, by decide +kernel, by decide +kernel, by decide +kernel⟩
theorem xm_69 : x_mp ((⟨"PhaseReader$Preprocessor", "include", "(LPhaseReader$TokenRow;II)I"⟩ : MethodName), prog_7_method_7_code, 6, ((some .int) : Option FieldType), 6, false, xi_69) := ⟨rfl, (fun h => by cases h), xd_69, by decide +kernel, by decide +kernel, by decide +kernel⟩
theorem xm_70 : x_mp ((⟨"PhaseReader$Preprocessor", "define", "(LPhaseReader$Source;II)I"⟩ : MethodName), prog_7_method_8_code, 8, ((some .int) : Option FieldType), 6, false, xi_70) := ⟨rfl, (fun h => by cases h), xd_70, by decide +kernel, by decide +kernel, by decide +kernel⟩
theorem xm_71 : x_mp ((⟨"PhaseReader$Preprocessor", "parametersEnd", "(LPhaseReader$TokenRow;II)I"⟩ : MethodName), prog_7_method_9_code, 4, ((some .int) : Option FieldType), 6, false, xi_71) := ⟨rfl, (fun h => by cases h), xd_71, by decide +kernel, by decide +kernel, by decide +kernel⟩
theorem xm_72 : x_mp ((⟨"PhaseReader$Preprocessor", "isRepeated", "(LPhaseReader$TokenRow;II)Z"⟩ : MethodName), prog_7_method_10_code, 4, ((some .boolean) : Option FieldType), 6, false, xi_72) := ⟨rfl, (fun h => by cases h), xd_72, by decide +kernel, by decide +kernel, by decide +kernel⟩
theorem xm_73 : x_mp ((⟨"PhaseReader$Preprocessor", "isBody", "(LPhaseReader$TokenRow;II)Z"⟩ : MethodName), prog_7_method_11_code, 6, ((some .boolean) : Option FieldType), 6, false, xi_73) := ⟨rfl, (fun h => by cases h), xd_73, by decide +kernel, by decide +kernel, by decide +kernel⟩
theorem xm_74 : x_mp ((⟨"PhaseReader$Scanner", "<init>", "()V"⟩ : MethodName), prog_8_method_1_code, 1, (none : Option FieldType), 7, true, xi_74) := ⟨rfl, fun _ => rfl, xd_74, by decide +kernel, by decide +kernel, by decide +kernel⟩
theorem xm_75 : x_mp ((⟨"PhaseReader$Scanner", "read", "(LPhaseReader$Text;LPhaseReader$Source;)I"⟩ : MethodName), prog_8_method_2_code, 3, ((some .int) : Option FieldType), 7, false, xi_75) := ⟨rfl, (fun h => by cases h), xd_75, by decide +kernel, by decide +kernel, by decide +kernel⟩
theorem xm_76 : x_mp ((⟨"PhaseReader$Scanner", "replaceTrigraphs", "(LPhaseReader$Text;)V"⟩ : MethodName), prog_8_method_3_code, 6, (none : Option FieldType), 7, false, xi_76) := ⟨rfl, (fun h => by cases h), xd_76, by decide +kernel, by decide +kernel, by decide +kernel⟩
theorem xm_77 : x_mp ((⟨"PhaseReader$Scanner", "trigraphAt", "(LPhaseReader$Text;I)I"⟩ : MethodName), prog_8_method_4_code, 2, ((some .int) : Option FieldType), 7, false, xi_77) := ⟨rfl, (fun h => by cases h), xd_77, by decide +kernel, by decide +kernel, by decide +kernel⟩
theorem xm_78 : x_mp ((⟨"PhaseReader$Scanner", "joinLines", "()V"⟩ : MethodName), prog_8_method_5_code, 3, (none : Option FieldType), 7, false, xi_78) := ⟨rfl, (fun h => by cases h), xd_78, by decide +kernel, by decide +kernel, by decide +kernel⟩
theorem xm_79 : x_mp ((⟨"PhaseReader$Scanner", "split", "(LPhaseReader$Source;)I"⟩ : MethodName), prog_8_method_6_code, 9, ((some .int) : Option FieldType), 7, false, xi_79) := ⟨rfl, (fun h => by cases h), xd_79, by decide +kernel, by decide +kernel, by decide +kernel⟩
theorem xm_80 : x_mp ((⟨"PhaseReader$Scanner", "blankEnd", "(I)I"⟩ : MethodName), prog_8_method_7_code, 4, ((some .int) : Option FieldType), 7, false, xi_80) := ⟨rfl, (fun h => by cases h), xd_80, by decide +kernel, by decide +kernel, by decide +kernel⟩
theorem xm_81 : x_mp ((⟨"PhaseReader$Scanner", "longCommentEnd", "(I)I"⟩ : MethodName), prog_8_method_8_code, 3, ((some .int) : Option FieldType), 7, false, xi_81) := ⟨rfl, (fun h => by cases h), xd_81, by decide +kernel, by decide +kernel, by decide +kernel⟩
theorem xm_82 : x_mp ((⟨"PhaseReader$Scanner", "newlineFrom", "(I)I"⟩ : MethodName), prog_8_method_9_code, 3, ((some .int) : Option FieldType), 7, false, xi_82) := ⟨rfl, (fun h => by cases h), xd_82, by decide +kernel, by decide +kernel, by decide +kernel⟩
theorem xm_83 : x_mp ((⟨"PhaseReader$Scanner", "tokenEnd", "(I)I"⟩ : MethodName), prog_8_method_10_code, 4, ((some .int) : Option FieldType), 7, false, xi_83) := ⟨rfl, (fun h => by cases h), xd_83, by decide +kernel, by decide +kernel, by decide +kernel⟩
theorem xm_84 : x_mp ((⟨"PhaseReader$Scanner", "pack", "(II)J"⟩ : MethodName), prog_8_method_11_code, 6, ((some .long) : Option FieldType), 7, false, xi_84) := ⟨rfl, (fun h => by cases h), xd_84, by decide +kernel, by decide +kernel, by decide +kernel⟩
theorem xm_85 : x_mp ((⟨"PhaseReader$Source", "<init>", "()V"⟩ : MethodName), prog_9_method_1_code, 1, (none : Option FieldType), 8, true, xi_85) := ⟨rfl, fun _ => rfl, xd_85, by decide +kernel, by decide +kernel, by decide +kernel⟩
theorem xm_86 : x_mp ((⟨"PhaseReader$Source", "restart", "(I)V"⟩ : MethodName), prog_9_method_2_code, 2, (none : Option FieldType), 8, false, xi_86) := ⟨rfl, (fun h => by cases h), xd_86, by decide +kernel, by decide +kernel, by decide +kernel⟩
theorem xm_87 : x_mp ((⟨"PhaseReader$Source", "add", "(JIIZ)V"⟩ : MethodName), prog_9_method_3_code, 7, (none : Option FieldType), 8, false, xi_87) := ⟨rfl, (fun h => by cases h), xd_87, by decide +kernel, by decide +kernel, by decide +kernel⟩
theorem xm_88 : x_mp ((⟨"PhaseReader$Source", "lineEnd", "(I)I"⟩ : MethodName), prog_9_method_4_code, 3, ((some .int) : Option FieldType), 8, false, xi_88) := ⟨rfl, (fun h => by cases h), xd_88, by decide +kernel, by decide +kernel, by decide +kernel⟩
theorem xm_89 : x_mp ((⟨"PhaseReader$Source", "leavesSkipping", "(II)Z"⟩ : MethodName), prog_9_method_5_code, 6, ((some .boolean) : Option FieldType), 8, false, xi_89) := ⟨rfl, (fun h => by cases h), xd_89, by decide +kernel, by decide +kernel, by decide +kernel⟩
theorem xm_90 : x_mp ((⟨"PhaseReader$Source", "openConditional", "(Z)I"⟩ : MethodName), prog_9_method_6_code, 2, ((some .int) : Option FieldType), 8, false, xi_90) := ⟨rfl, (fun h => by cases h), xd_90, by decide +kernel, by decide +kernel, by decide +kernel⟩
theorem xm_91 : x_mp ((⟨"PhaseReader$Source", "turnToElse", "()I"⟩ : MethodName), prog_9_method_7_code, 1, ((some .int) : Option FieldType), 8, false, xi_91) := ⟨rfl, (fun h => by cases h), xd_91, by decide +kernel, by decide +kernel, by decide +kernel⟩
theorem xm_92 : x_mp ((⟨"PhaseReader$Source", "closeConditional", "()I"⟩ : MethodName), prog_9_method_8_code, 1, ((some .int) : Option FieldType), 8, false, xi_92) := ⟨rfl, (fun h => by cases h), xd_92, by decide +kernel, by decide +kernel, by decide +kernel⟩
theorem xm_93 : x_mp ((⟨"PhaseReader$Text", "<init>", "()V"⟩ : MethodName), prog_10_method_1_code, 1, (none : Option FieldType), 9, true, xi_93) := ⟨rfl, fun _ => rfl, xd_93, by decide +kernel, by decide +kernel, by decide +kernel⟩
theorem xm_94 : x_mp ((⟨"PhaseReader$Text", "add", "(C)Z"⟩ : MethodName), prog_10_method_2_code, 3, ((some .boolean) : Option FieldType), 9, false, xi_94) := ⟨rfl, (fun h => by cases h), xd_94, by decide +kernel, by decide +kernel, by decide +kernel⟩
theorem xm_95 : x_mp ((⟨"PhaseReader$TokenRow", "<init>", "(I)V"⟩ : MethodName), prog_11_method_1_code, 2, (none : Option FieldType), 10, true, xi_95) := ⟨rfl, fun _ => rfl, xd_95, by decide +kernel, by decide +kernel, by decide +kernel⟩
theorem xm_96 : x_mp ((⟨"PhaseReader$TokenRow", "add", "(JII)V"⟩ : MethodName), prog_11_method_2_code, 5, (none : Option FieldType), 10, false, xi_96) := ⟨rfl, (fun h => by cases h), xd_96, by decide +kernel, by decide +kernel, by decide +kernel⟩
theorem xm_97 : x_mp ((⟨"PhaseReader$TokenRow", "placeAt", "(I)I"⟩ : MethodName), prog_11_method_3_code, 2, ((some .int) : Option FieldType), 10, false, xi_97) := ⟨rfl, (fun h => by cases h), xd_97, by decide +kernel, by decide +kernel, by decide +kernel⟩
theorem xm_98 : x_mp ((⟨"PhaseReader$TokenRow", "hideAt", "(I)I"⟩ : MethodName), prog_11_method_4_code, 2, ((some .int) : Option FieldType), 10, false, xi_98) := ⟨rfl, (fun h => by cases h), xd_98, by decide +kernel, by decide +kernel, by decide +kernel⟩
theorem xm_99 : x_mp ((⟨"PhaseReader$TokenRow", "addFrom", "(LPhaseReader$TokenRow;I)V"⟩ : MethodName), prog_11_method_5_code, 3, (none : Option FieldType), 10, false, xi_99) := ⟨rfl, (fun h => by cases h), xd_99, by decide +kernel, by decide +kernel, by decide +kernel⟩
theorem xm_100 : x_mp ((⟨"PhaseReader$TokenRow", "joinAt", "(II)Z"⟩ : MethodName), prog_11_method_6_code, 9, ((some .boolean) : Option FieldType), 10, false, xi_100) := ⟨rfl, (fun h => by cases h), xd_100, by decide +kernel, by decide +kernel, by decide +kernel⟩
theorem xm_101 : x_mp ((⟨"PhaseReader$TokenRow", "lengthOf", "(J)I"⟩ : MethodName), prog_11_method_7_code, 3, ((some .int) : Option FieldType), 10, false, xi_101) := ⟨rfl, (fun h => by cases h), xd_101, by decide +kernel, by decide +kernel, by decide +kernel⟩
theorem xm_102 : x_mp ((⟨"PhaseReader$TokenRow", "letter", "(JI)I"⟩ : MethodName), prog_11_method_8_code, 4, ((some .int) : Option FieldType), 10, false, xi_102) := ⟨rfl, (fun h => by cases h), xd_102, by decide +kernel, by decide +kernel, by decide +kernel⟩
theorem xm_103 : x_mp ((⟨"PhaseReader$TokenRow", "spells", "(JLjava/lang/String;)Z"⟩ : MethodName), prog_11_method_9_code, 6, ((some .boolean) : Option FieldType), 10, false, xi_103) := ⟨rfl, (fun h => by cases h), xd_103, by decide +kernel, by decide +kernel, by decide +kernel⟩
theorem xm_104 : x_mp ((⟨"PhaseReader$TokenRow", "isWord", "(J)Z"⟩ : MethodName), prog_11_method_10_code, 3, ((some .boolean) : Option FieldType), 10, false, xi_104) := ⟨rfl, (fun h => by cases h), xd_104, by decide +kernel, by decide +kernel, by decide +kernel⟩
theorem xm_105 : x_mp ((⟨"PhaseReader$TokenRow", "isNumber", "(J)Z"⟩ : MethodName), prog_11_method_11_code, 4, ((some .boolean) : Option FieldType), 10, false, xi_105) := ⟨rfl, (fun h => by cases h), xd_105, by decide +kernel, by decide +kernel, by decide +kernel⟩
theorem xm_106 : x_mp ((⟨"PhaseReader$TokenRow", "isName", "(J)Z"⟩ : MethodName), prog_11_method_12_code, 4, ((some .boolean) : Option FieldType), 10, false, xi_106) := ⟨rfl, (fun h => by cases h), xd_106, by decide +kernel, by decide +kernel, by decide +kernel⟩
theorem xm_107 : x_mp ((⟨"PhaseReader$TokenRow", "firstLetter", "(J)J"⟩ : MethodName), prog_11_method_13_code, 5, ((some .long) : Option FieldType), 10, false, xi_107) := ⟨rfl, (fun h => by cases h), xd_107, by decide +kernel, by decide +kernel, by decide +kernel⟩
theorem xm_108 : x_mp ((⟨"PhaseReader$Tree", "<init>", "()V"⟩ : MethodName), prog_12_method_1_code, 1, (none : Option FieldType), 11, true, xi_108) := ⟨rfl, fun _ => rfl, xd_108, by decide +kernel, by decide +kernel, by decide +kernel⟩
theorem xm_109 : x_mp ((⟨"PhaseReader$Tree", "add", "(III)I"⟩ : MethodName), prog_12_method_2_code, 5, ((some .int) : Option FieldType), 11, false, xi_109) := ⟨rfl, (fun h => by cases h), xd_109, by decide +kernel, by decide +kernel, by decide +kernel⟩
theorem xm_110 : x_mp ((⟨"PhaseReader$Tree", "insert", "(IIII)V"⟩ : MethodName), prog_12_method_3_code, 5, (none : Option FieldType), 11, false, xi_110) := ⟨rfl, (fun h => by cases h), xd_110, by decide +kernel, by decide +kernel, by decide +kernel⟩
theorem xm_111 : x_mp ((⟨"PhaseReaderModel", "<init>", "()V"⟩ : MethodName), prog_14_method_1_code, 1, (none : Option FieldType), 12, true, xi_111) := ⟨rfl, fun _ => rfl, xd_111, by decide +kernel, by decide +kernel, by decide +kernel⟩
theorem xm_112 : x_mp ((⟨"PhaseReaderModel", "choose", "(I)Z"⟩ : MethodName), prog_14_method_2_code, 2, ((some .boolean) : Option FieldType), 12, false, xi_112) := ⟨rfl, (fun h => by cases h), xd_112, by decide +kernel, by decide +kernel, by decide +kernel⟩
theorem xm_113 : x_mp ((⟨"PhaseReaderModel", "write", "(C)Z"⟩ : MethodName), prog_14_method_3_code, 2, ((some .boolean) : Option FieldType), 12, false, xi_113) := ⟨rfl, (fun h => by cases h), xd_113, by decide +kernel, by decide +kernel, by decide +kernel⟩
theorem xm_114 : x_mp ((⟨"PhaseReaderModel", "clear", "()V"⟩ : MethodName), prog_14_method_4_code, 1, (none : Option FieldType), 12, false, xi_114) := ⟨rfl, (fun h => by cases h), xd_114, by decide +kernel, by decide +kernel, by decide +kernel⟩
theorem xm_115 : x_mp ((⟨"PhaseReaderModel", "length", "(I)I"⟩ : MethodName), prog_14_method_5_code, 2, ((some .int) : Option FieldType), 12, false, xi_115) := ⟨rfl, (fun h => by cases h), xd_115, by decide +kernel, by decide +kernel, by decide +kernel⟩
theorem xm_116 : x_mp ((⟨"PhaseReaderModel", "trigraph", "(I)I"⟩ : MethodName), prog_14_method_6_code, 1, ((some .int) : Option FieldType), 12, false, xi_116) := ⟨rfl, (fun h => by cases h), xd_116, by decide +kernel, by decide +kernel, by decide +kernel⟩
theorem xm_117 : x_mp ((⟨"PhaseReaderModel", "wordly", "(I)Z"⟩ : MethodName), prog_14_method_7_code, 1, ((some .boolean) : Option FieldType), 12, false, xi_117) := ⟨rfl, (fun h => by cases h), xd_117, by decide +kernel, by decide +kernel, by decide +kernel⟩
theorem xm_118 : x_mp ((⟨"PhaseReaderModel", "digit", "(I)Z"⟩ : MethodName), prog_14_method_8_code, 1, ((some .boolean) : Option FieldType), 12, false, xi_118) := ⟨rfl, (fun h => by cases h), xd_118, by decide +kernel, by decide +kernel, by decide +kernel⟩
theorem xm_119 : x_mp ((⟨"PhaseReaderModel", "point", "(I)Z"⟩ : MethodName), prog_14_method_9_code, 1, ((some .boolean) : Option FieldType), 12, false, xi_119) := ⟨rfl, (fun h => by cases h), xd_119, by decide +kernel, by decide +kernel, by decide +kernel⟩
theorem xm_120 : x_mp ((⟨"PhaseReaderModel", "letters", "(J)I"⟩ : MethodName), prog_14_method_10_code, 5, ((some .int) : Option FieldType), 12, false, xi_120) := ⟨rfl, (fun h => by cases h), xd_120, by decide +kernel, by decide +kernel, by decide +kernel⟩
theorem xm_121 : x_mp ((⟨"PhaseReaderModel", "letter", "(JI)I"⟩ : MethodName), prog_14_method_11_code, 4, ((some .int) : Option FieldType), 12, false, xi_121) := ⟨rfl, (fun h => by cases h), xd_121, by decide +kernel, by decide +kernel, by decide +kernel⟩
theorem xm_122 : x_mp ((⟨"PhaseReaderModel", "isNumber", "(J)Z"⟩ : MethodName), prog_14_method_12_code, 2, ((some .boolean) : Option FieldType), 12, false, xi_122) := ⟨rfl, (fun h => by cases h), xd_122, by decide +kernel, by decide +kernel, by decide +kernel⟩
theorem xm_123 : x_mp ((⟨"PhaseReaderModel", "isName", "(J)Z"⟩ : MethodName), prog_14_method_13_code, 2, ((some .boolean) : Option FieldType), 12, false, xi_123) := ⟨rfl, (fun h => by cases h), xd_123, by decide +kernel, by decide +kernel, by decide +kernel⟩
theorem xm_124 : x_mp ((⟨"PhaseReaderModel", "join", "(I)V"⟩ : MethodName), prog_14_method_14_code, 8, (none : Option FieldType), 12, false, xi_124) := ⟨rfl, (fun h => by cases h), xd_124, by decide +kernel, by decide +kernel, by decide +kernel⟩
theorem xm_125 : x_mp ((⟨"PhaseReaderModel", "end", "(I)I"⟩ : MethodName), prog_14_method_15_code, 5, ((some .int) : Option FieldType), 12, false, xi_125) := ⟨rfl, (fun h => by cases h), xd_125, by decide +kernel, by decide +kernel, by decide +kernel⟩
theorem xm_126 : x_mp ((⟨"PhaseReaderModel", "blank", "(I)I"⟩ : MethodName), prog_14_method_16_code, 4, ((some .int) : Option FieldType), 12, false, xi_126) := ⟨rfl, (fun h => by cases h), xd_126, by decide +kernel, by decide +kernel, by decide +kernel⟩
theorem xm_127 : x_mp ((⟨"PhaseReaderModel", "read", "(I)I"⟩ : MethodName), prog_14_method_17_code, 10, ((some .int) : Option FieldType), 12, false, xi_127) := ⟨rfl, (fun h => by cases h), xd_127, by decide +kernel, by decide +kernel, by decide +kernel⟩
theorem xm_128 : x_mp ((⟨"PhaseReaderModel", "skipping", "()Z"⟩ : MethodName), prog_14_method_18_code, 1, ((some .boolean) : Option FieldType), 12, false, xi_128) := ⟨rfl, (fun h => by cases h), xd_128, by decide +kernel, by decide +kernel, by decide +kernel⟩
theorem xm_129 : x_mp ((⟨"PhaseReaderModel", "row", "()I"⟩ : MethodName), prog_14_method_19_code, 4, ((some .int) : Option FieldType), 12, false, xi_129) := ⟨rfl, (fun h => by cases h), xd_129, by decide +kernel, by decide +kernel, by decide +kernel⟩
theorem xm_130 : x_mp ((⟨"PhaseReaderModel", "directive", "(II)I"⟩ : MethodName), prog_14_method_20_code, 10, ((some .int) : Option FieldType), 12, false, xi_130) := ⟨rfl, (fun h => by cases h), xd_130, by decide +kernel, by decide +kernel, by decide +kernel⟩
theorem xm_131 : x_mp ((⟨"PhaseReaderModel", "turn", "(Z)I"⟩ : MethodName), prog_14_method_21_code, 2, ((some .int) : Option FieldType), 12, false, xi_131) := ⟨rfl, (fun h => by cases h), xd_131, by decide +kernel, by decide +kernel, by decide +kernel⟩
theorem xm_132 : x_mp ((⟨"PhaseReaderModel", "include", "(II)I"⟩ : MethodName), prog_14_method_22_code, 4, ((some .int) : Option FieldType), 12, false, xi_132) := ⟨rfl, (fun h => by cases h), xd_132, by decide +kernel, by decide +kernel, by decide +kernel⟩
theorem xm_133 : x_mp ((⟨"PhaseReaderModel", "find", "(J)I"⟩ : MethodName), prog_14_method_23_code, 4, ((some .int) : Option FieldType), 12, false, xi_133) := ⟨rfl, (fun h => by cases h), xd_133, by decide +kernel, by decide +kernel, by decide +kernel⟩
theorem xm_134 : x_mp ((⟨"PhaseReaderModel", "parameters", "(II)I"⟩ : MethodName), prog_14_method_24_code, 6, ((some .int) : Option FieldType), 12, false, xi_134) := ⟨rfl, (fun h => by cases h), xd_134, by decide +kernel, by decide +kernel, by decide +kernel⟩
theorem xm_135 : x_mp ((⟨"PhaseReaderModel", "define", "(II)I"⟩ : MethodName), prog_14_method_25_code, 10, ((some .int) : Option FieldType), 12, false, xi_135) := ⟨rfl, (fun h => by cases h), xd_135, by decide +kernel, by decide +kernel, by decide +kernel⟩
theorem xm_136 : x_mp ((⟨"PhaseReaderModel", "expand", "()I"⟩ : MethodName), prog_14_method_26_code, 3, ((some .int) : Option FieldType), 12, false, xi_136) := ⟨rfl, (fun h => by cases h), xd_136, by decide +kernel, by decide +kernel, by decide +kernel⟩
theorem xm_137 : x_mp ((⟨"PhaseReaderModel", "lay", "(JI)V"⟩ : MethodName), prog_14_method_27_code, 4, (none : Option FieldType), 12, false, xi_137) := ⟨rfl, (fun h => by cases h), xd_137, by decide +kernel, by decide +kernel, by decide +kernel⟩
theorem xm_138 : x_mp ((⟨"PhaseReaderModel", "next", "()I"⟩ : MethodName), prog_14_method_28_code, 8, ((some .int) : Option FieldType), 12, false, xi_138) := ⟨rfl, (fun h => by cases h), xd_138, by decide +kernel, by decide +kernel, by decide +kernel⟩
theorem xm_139 : x_mp ((⟨"PhaseReaderModel", "arguments", "(I)I"⟩ : MethodName), prog_14_method_29_code, 8, ((some .int) : Option FieldType), 12, false, xi_139) := ⟨rfl, (fun h => by cases h), xd_139, by decide +kernel, by decide +kernel, by decide +kernel⟩
theorem xm_140 : x_mp ((⟨"PhaseReaderModel", "begin", "()I"⟩ : MethodName), prog_14_method_30_code, 5, ((some .int) : Option FieldType), 12, false, xi_140) := ⟨rfl, (fun h => by cases h), xd_140, by decide +kernel, by decide +kernel, by decide +kernel⟩
theorem xm_141 : x_mp ((⟨"PhaseReaderModel", "argumentEnds", "()I"⟩ : MethodName), prog_14_method_31_code, 1, ((some .int) : Option FieldType), 12, false, xi_141) := ⟨rfl, (fun h => by cases h), xd_141, by decide +kernel, by decide +kernel, by decide +kernel⟩
theorem xm_142 : x_mp ((⟨"PhaseReaderModel", "which", "(IJ)I"⟩ : MethodName), prog_14_method_32_code, 5, ((some .int) : Option FieldType), 12, false, xi_142) := ⟨rfl, (fun h => by cases h), xd_142, by decide +kernel, by decide +kernel, by decide +kernel⟩
theorem xm_143 : x_mp ((⟨"PhaseReaderModel", "replace", "()I"⟩ : MethodName), prog_14_method_33_code, 17, ((some .int) : Option FieldType), 12, false, xi_143) := ⟨rfl, (fun h => by cases h), xd_143, by decide +kernel, by decide +kernel, by decide +kernel⟩
theorem xm_144 : x_mp ((⟨"PhaseReaderModel", "paste", "(IJI)Z"⟩ : MethodName), prog_14_method_34_code, 11, ((some .boolean) : Option FieldType), 12, false, xi_144) := ⟨rfl, (fun h => by cases h), xd_144, by decide +kernel, by decide +kernel, by decide +kernel⟩
theorem xm_145 : x_mp ((⟨"PhaseReaderModel", "translate", "(I)I"⟩ : MethodName), prog_14_method_35_code, 3, ((some .int) : Option FieldType), 12, false, xi_145) := ⟨rfl, (fun h => by cases h), xd_145, by decide +kernel, by decide +kernel, by decide +kernel⟩
theorem xm_146 : x_mp ((⟨"PhaseReaderModel", "checked", "()I"⟩ : MethodName), prog_14_method_36_code, 7, ((some .int) : Option FieldType), 12, false, xi_146) := ⟨rfl, (fun h => by cases h), xd_146, by decide +kernel, by decide +kernel, by decide +kernel⟩
theorem xm_147 : x_mp ((⟨"PhaseReaderModel", "matched", "()Z"⟩ : MethodName), prog_14_method_37_code, 7, ((some .boolean) : Option FieldType), 12, false, xi_147) := ⟨rfl, (fun h => by cases h), xd_147, by decide +kernel, by decide +kernel, by decide +kernel⟩
theorem xm_148 : x_mp ((⟨"PhaseReaderModel", "isWord", "(I)Z"⟩ : MethodName), prog_14_method_38_code, 4, ((some .boolean) : Option FieldType), 12, false, xi_148) := ⟨rfl, (fun h => by cases h), xd_148, by decide +kernel, by decide +kernel, by decide +kernel⟩
theorem xm_149 : x_mp ((⟨"PhaseReaderModel", "type", "(I)Z"⟩ : MethodName), prog_14_method_39_code, 6, ((some .boolean) : Option FieldType), 12, false, xi_149) := ⟨rfl, (fun h => by cases h), xd_149, by decide +kernel, by decide +kernel, by decide +kernel⟩
theorem xm_150 : x_mp ((⟨"PhaseReaderModel", "grow", "(III)I"⟩ : MethodName), prog_14_method_40_code, 4, ((some .int) : Option FieldType), 12, false, xi_150) := ⟨rfl, (fun h => by cases h), xd_150, by decide +kernel, by decide +kernel, by decide +kernel⟩
theorem xm_151 : x_mp ((⟨"PhaseReaderModel", "push", "(IIIII)Z"⟩ : MethodName), prog_14_method_41_code, 6, ((some .boolean) : Option FieldType), 12, false, xi_151) := ⟨rfl, (fun h => by cases h), xd_151, by decide +kernel, by decide +kernel, by decide +kernel⟩
theorem xm_152 : x_mp ((⟨"PhaseReaderModel", "parsed", "()Z"⟩ : MethodName), prog_14_method_42_code, 8, ((some .boolean) : Option FieldType), 12, false, xi_152) := ⟨rfl, (fun h => by cases h), xd_152, by decide +kernel, by decide +kernel, by decide +kernel⟩
theorem xm_153 : x_mp ((⟨"PhaseReaderModel", "stop", "(II)I"⟩ : MethodName), prog_14_method_43_code, 4, ((some .int) : Option FieldType), 12, false, xi_153) := ⟨rfl, (fun h => by cases h), xd_153, by decide +kernel, by decide +kernel, by decide +kernel⟩
theorem xm_154 : x_mp ((⟨"PhaseReaderModel", "items", "(IIII)Z"⟩ : MethodName), prog_14_method_44_code, 11, ((some .boolean) : Option FieldType), 12, false, xi_154) := ⟨rfl, (fun h => by cases h), xd_154, by decide +kernel, by decide +kernel, by decide +kernel⟩
theorem xm_155 : x_mp ((⟨"PhaseReaderModel", "statement", "(IIII)Z"⟩ : MethodName), prog_14_method_45_code, 9, ((some .boolean) : Option FieldType), 12, false, xi_155) := ⟨rfl, (fun h => by cases h), xd_155, by decide +kernel, by decide +kernel, by decide +kernel⟩
theorem xm_156 : x_mp ((⟨"PhaseReaderModel", "seek", "(IIJ)I"⟩ : MethodName), prog_14_method_46_code, 6, ((some .int) : Option FieldType), 12, false, xi_156) := ⟨rfl, (fun h => by cases h), xd_156, by decide +kernel, by decide +kernel, by decide +kernel⟩
theorem xm_157 : x_mp ((⟨"PhaseReaderModel", "declarator", "(IIIII)Z"⟩ : MethodName), prog_14_method_47_code, 15, ((some .boolean) : Option FieldType), 12, false, xi_157) := ⟨rfl, (fun h => by cases h), xd_157, by decide +kernel, by decide +kernel, by decide +kernel⟩
theorem xm_158 : x_mp ((⟨"PhaseReaderModel", "forms", "(II)Z"⟩ : MethodName), prog_14_method_48_code, 5, ((some .boolean) : Option FieldType), 12, false, xi_158) := ⟨rfl, (fun h => by cases h), xd_158, by decide +kernel, by decide +kernel, by decide +kernel⟩
theorem xm_159 : x_mp ((⟨"PhaseReaderModel", "strength", "(J)I"⟩ : MethodName), prog_14_method_49_code, 2, ((some .int) : Option FieldType), 12, false, xi_159) := ⟨rfl, (fun h => by cases h), xd_159, by decide +kernel, by decide +kernel, by decide +kernel⟩
theorem xm_160 : x_mp ((⟨"PhaseReaderModel", "cast", "(I)Z"⟩ : MethodName), prog_14_method_50_code, 4, ((some .boolean) : Option FieldType), 12, false, xi_160) := ⟨rfl, (fun h => by cases h), xd_160, by decide +kernel, by decide +kernel, by decide +kernel⟩
theorem xm_161 : x_mp ((⟨"PhaseReaderModel", "cut", "(II)I"⟩ : MethodName), prog_14_method_51_code, 11, ((some .int) : Option FieldType), 12, false, xi_161) := ⟨rfl, (fun h => by cases h), xd_161, by decide +kernel, by decide +kernel, by decide +kernel⟩
theorem xm_162 : x_mp ((⟨"PhaseReaderModel", "value", "(III)Z"⟩ : MethodName), prog_14_method_52_code, 10, ((some .boolean) : Option FieldType), 12, false, xi_162) := ⟨rfl, (fun h => by cases h), xd_162, by decide +kernel, by decide +kernel, by decide +kernel⟩
theorem xm_163 : x_mp ((⟨"PhaseReaderModel", "values", "(III)V"⟩ : MethodName), prog_14_method_53_code, 6, (none : Option FieldType), 12, false, xi_163) := ⟨rfl, (fun h => by cases h), xd_163, by decide +kernel, by decide +kernel, by decide +kernel⟩
theorem xm_164 : x_mp ((⟨"PhaseReaderModel", "verdict", "()I"⟩ : MethodName), prog_14_method_54_code, 1, ((some .int) : Option FieldType), 12, false, xi_164) := ⟨rfl, (fun h => by cases h), xd_164, by decide +kernel, by decide +kernel, by decide +kernel⟩
theorem xm_165 : x_mp ((⟨"PhaseReaderModel", "tokens", "()I"⟩ : MethodName), prog_14_method_55_code, 1, ((some .int) : Option FieldType), 12, false, xi_165) := ⟨rfl, (fun h => by cases h), xd_165, by decide +kernel, by decide +kernel, by decide +kernel⟩
theorem xm_166 : x_mp ((⟨"PhaseReaderModel", "place", "(I)I"⟩ : MethodName), prog_14_method_56_code, 2, ((some .int) : Option FieldType), 12, false, xi_166) := ⟨rfl, (fun h => by cases h), xd_166, by decide +kernel, by decide +kernel, by decide +kernel⟩
theorem xm_167 : x_mp ((⟨"PhaseReaderModel", "spelling", "(II)I"⟩ : MethodName), prog_14_method_57_code, 3, ((some .int) : Option FieldType), 12, false, xi_167) := ⟨rfl, (fun h => by cases h), xd_167, by decide +kernel, by decide +kernel, by decide +kernel⟩
theorem xm_168 : x_mp ((⟨"PhaseReaderModel", "replaced", "()I"⟩ : MethodName), prog_14_method_58_code, 1, ((some .int) : Option FieldType), 12, false, xi_168) := ⟨rfl, (fun h => by cases h), xd_168, by decide +kernel, by decide +kernel, by decide +kernel⟩
theorem xm_169 : x_mp ((⟨"PhaseReaderModel", "macros", "()I"⟩ : MethodName), prog_14_method_59_code, 3, ((some .int) : Option FieldType), 12, false, xi_169) := ⟨rfl, (fun h => by cases h), xd_169, by decide +kernel, by decide +kernel, by decide +kernel⟩
theorem xm_170 : x_mp ((⟨"PhaseReaderModel", "nodes", "()I"⟩ : MethodName), prog_14_method_60_code, 1, ((some .int) : Option FieldType), 12, false, xi_170) := ⟨rfl, (fun h => by cases h), xd_170, by decide +kernel, by decide +kernel, by decide +kernel⟩
theorem xm_171 : x_mp ((⟨"PhaseReaderModel", "node", "(II)I"⟩ : MethodName), prog_14_method_61_code, 3, ((some .int) : Option FieldType), 12, false, xi_171) := ⟨rfl, (fun h => by cases h), xd_171, by decide +kernel, by decide +kernel, by decide +kernel⟩
theorem xm_172 : x_mp ((⟨"java/lang/String", "length", "()I"⟩ : MethodName), prog_17_method_54_code, 1, ((some .int) : Option FieldType), 14, false, xi_172) := ⟨rfl, (fun h => by cases h), xd_172, by decide +kernel, by decide +kernel, by decide +kernel⟩
theorem xm_173 : x_mp ((⟨"java/lang/String", "charAt", "(I)C"⟩ : MethodName), prog_17_method_56_code, 2, ((some .char) : Option FieldType), 14, false, xi_173) := ⟨rfl, (fun h => by cases h), xd_173, by decide +kernel, by decide +kernel, by decide +kernel⟩
theorem xm_174 : x_mp ((⟨"java/lang/String", "indexOf", "(I)I"⟩ : MethodName), prog_17_method_79_code, 2, ((some .int) : Option FieldType), 14, false, xi_174) := ⟨rfl, (fun h => by cases h), xd_174, by decide +kernel, by decide +kernel, by decide +kernel⟩
theorem xm_175 : x_mp ((⟨"java/lang/String", "indexOf", "(II)I"⟩ : MethodName), prog_17_method_80_code, 3, ((some .int) : Option FieldType), 14, false, xi_175) := ⟨rfl, (fun h => by cases h), xd_175, by decide +kernel, by decide +kernel, by decide +kernel⟩
theorem xm_176 : x_mp ((⟨"java/lang/String", "coder", "()B"⟩ : MethodName), prog_17_method_152_code, 1, ((some .byte) : Option FieldType), 14, false, xi_176) := ⟨rfl, (fun h => by cases h), xd_176, by decide +kernel, by decide +kernel, by decide +kernel⟩
theorem xm_177 : x_mp ((⟨"java/lang/String", "isLatin1", "()Z"⟩ : MethodName), prog_17_method_154_code, 1, ((some .boolean) : Option FieldType), 14, false, xi_177) := ⟨rfl, (fun h => by cases h), xd_177, by decide +kernel, by decide +kernel, by decide +kernel⟩
theorem xm_178 : x_mp ((⟨"java/lang/String", "checkIndex", "(II)V"⟩ : MethodName), prog_17_method_155_code, 2, (none : Option FieldType), 14, false, xi_178) := ⟨rfl, (fun h => by cases h), xd_178, by decide +kernel, by decide +kernel, by decide +kernel⟩
theorem xm_179 : x_mp ((⟨"java/lang/StringLatin1", "charAt", "([BI)C"⟩ : MethodName), prog_18_method_2_code, 2, ((some .char) : Option FieldType), 15, false, xi_179) := ⟨rfl, (fun h => by cases h), xd_179, by decide +kernel, by decide +kernel, by decide +kernel⟩
theorem xm_180 : x_mp ((⟨"java/lang/StringLatin1", "canEncode", "(I)Z"⟩ : MethodName), prog_18_method_4_code, 1, ((some .boolean) : Option FieldType), 15, false, xi_180) := ⟨rfl, (fun h => by cases h), xd_180, by decide +kernel, by decide +kernel, by decide +kernel⟩
theorem xm_181 : x_mp ((⟨"java/lang/StringLatin1", "indexOf", "([BIII)I"⟩ : MethodName), prog_18_method_22_code, 4, ((some .int) : Option FieldType), 15, false, xi_181) := ⟨rfl, (fun h => by cases h), xd_181, by decide +kernel, by decide +kernel, by decide +kernel⟩
theorem xm_182 : x_mp ((⟨"java/lang/StringLatin1", "indexOfChar", "([BIII)I"⟩ : MethodName), prog_18_method_23_code, 6, ((some .int) : Option FieldType), 15, false, xi_182) := ⟨rfl, (fun h => by cases h), xd_182, by decide +kernel, by decide +kernel, by decide +kernel⟩
theorem xm_183 : x_mp ((⟨"jdk/internal/util/Preconditions", "checkIndex", "(IILjava/util/function/BiFunction;)I"⟩ : MethodName), prog_21_method_11_code, 3, ((some .int) : Option FieldType), 16, false, xi_183) := ⟨rfl, (fun h => by cases h), xd_183, by decide +kernel, by decide +kernel, by decide +kernel⟩
def x_ml_0 : List x_MT := [((⟨"PhaseReaderLaw", "law", "([I)Z"⟩ : MethodName), code, 4, ((some .boolean) : Option FieldType), 13, false, xi_0), ((⟨"PhaseReader", "<init>", "()V"⟩ : MethodName), prog_1_method_1_code, 2, (none : Option FieldType), 0, true, xi_1), ((⟨"PhaseReader", "choose", "(I)Z"⟩ : MethodName), prog_1_method_2_code, 2, ((some .boolean) : Option FieldType), 0, false, xi_2), ((⟨"PhaseReader", "write", "(C)Z"⟩ : MethodName), prog_1_method_3_code, 2, ((some .boolean) : Option FieldType), 0, false, xi_3), ((⟨"PhaseReader", "clear", "()V"⟩ : MethodName), prog_1_method_4_code, 1, (none : Option FieldType), 0, false, xi_4), ((⟨"PhaseReader", "length", "(I)I"⟩ : MethodName), prog_1_method_5_code, 2, ((some .int) : Option FieldType), 0, false, xi_5), ((⟨"PhaseReader", "translate", "(I)I"⟩ : MethodName), prog_1_method_6_code, 2, ((some .int) : Option FieldType), 0, false, xi_6), ((⟨"PhaseReader", "verdict", "()I"⟩ : MethodName), prog_1_method_7_code, 1, ((some .int) : Option FieldType), 0, false, xi_7), ((⟨"PhaseReader", "tokens", "()I"⟩ : MethodName), prog_1_method_8_code, 1, ((some .int) : Option FieldType), 0, false, xi_8), ((⟨"PhaseReader", "place", "(I)I"⟩ : MethodName), prog_1_method_9_code, 2, ((some .int) : Option FieldType), 0, false, xi_9), ((⟨"PhaseReader", "spelling", "(II)I"⟩ : MethodName), prog_1_method_10_code, 3, ((some .int) : Option FieldType), 0, false, xi_10), ((⟨"PhaseReader", "replaced", "()I"⟩ : MethodName), prog_1_method_11_code, 1, ((some .int) : Option FieldType), 0, false, xi_11), ((⟨"PhaseReader", "macros", "()I"⟩ : MethodName), prog_1_method_12_code, 1, ((some .int) : Option FieldType), 0, false, xi_12), ((⟨"PhaseReader", "nodes", "()I"⟩ : MethodName), prog_1_method_13_code, 1, ((some .int) : Option FieldType), 0, false, xi_13), ((⟨"PhaseReader", "node", "(II)I"⟩ : MethodName), prog_1_method_14_code, 4, ((some .int) : Option FieldType), 0, false, xi_14)]
theorem x_ml_0_ok : ∀ e ∈ x_ml_0, x_mp e := List.forall_mem_cons.mpr ⟨xm_0, List.forall_mem_cons.mpr ⟨xm_1, List.forall_mem_cons.mpr ⟨xm_2, List.forall_mem_cons.mpr ⟨xm_3, List.forall_mem_cons.mpr ⟨xm_4, List.forall_mem_cons.mpr ⟨xm_5, List.forall_mem_cons.mpr ⟨xm_6, List.forall_mem_cons.mpr ⟨xm_7, List.forall_mem_cons.mpr ⟨xm_8, List.forall_mem_cons.mpr ⟨xm_9, List.forall_mem_cons.mpr ⟨xm_10, List.forall_mem_cons.mpr ⟨xm_11, List.forall_mem_cons.mpr ⟨xm_12, List.forall_mem_cons.mpr ⟨xm_13, List.forall_mem_cons.mpr ⟨xm_14, fun _ h => absurd h List.not_mem_nil⟩⟩⟩⟩⟩⟩⟩⟩⟩⟩⟩⟩⟩⟩⟩
def x_ml_1 : List x_MT := [((⟨"PhaseReader", "isFile", "(I)Z"⟩ : MethodName), prog_1_method_15_code, 1, ((some .boolean) : Option FieldType), 0, false, xi_15), ((⟨"PhaseReader", "isToken", "(I)Z"⟩ : MethodName), prog_1_method_16_code, 2, ((some .boolean) : Option FieldType), 0, false, xi_16), ((⟨"PhaseReader$Arguments", "<init>", "()V"⟩ : MethodName), prog_2_method_1_code, 1, (none : Option FieldType), 1, true, xi_17), ((⟨"PhaseReader$Arguments", "add", "(II)V"⟩ : MethodName), prog_2_method_2_code, 3, (none : Option FieldType), 1, false, xi_18), ((⟨"PhaseReader$Expander", "<init>", "()V"⟩ : MethodName), prog_3_method_1_code, 2, (none : Option FieldType), 2, true, xi_19), ((⟨"PhaseReader$Expander", "restart", "()V"⟩ : MethodName), prog_3_method_2_code, 1, (none : Option FieldType), 2, false, xi_20), ((⟨"PhaseReader$Expander", "expandGroup", "(LPhaseReader$TokenRow;II)I"⟩ : MethodName), prog_3_method_3_code, 6, ((some .int) : Option FieldType), 2, false, xi_21), ((⟨"PhaseReader$Expander", "expandList", "(II)I"⟩ : MethodName), prog_3_method_4_code, 6, ((some .int) : Option FieldType), 2, false, xi_22), ((⟨"PhaseReader$Expander", "macroOnTop", "(I)I"⟩ : MethodName), prog_3_method_5_code, 5, ((some .int) : Option FieldType), 2, false, xi_23), ((⟨"PhaseReader$Expander", "replaceTop", "(III)I"⟩ : MethodName), prog_3_method_6_code, 10, ((some .int) : Option FieldType), 2, false, xi_24), ((⟨"PhaseReader$Expander", "findArguments", "(LPhaseReader$Macro;LPhaseReader$Arguments;I)I"⟩ : MethodName), prog_3_method_7_code, 11, ((some .int) : Option FieldType), 2, false, xi_25), ((⟨"PhaseReader$Expander", "expandArgument", "(LPhaseReader$Arguments;II)I"⟩ : MethodName), prog_3_method_8_code, 7, ((some .int) : Option FieldType), 2, false, xi_26), ((⟨"PhaseReader$Expander", "makeReplacement", "(LPhaseReader$Macro;LPhaseReader$Arguments;I)I"⟩ : MethodName), prog_3_method_9_code, 9, ((some .int) : Option FieldType), 2, false, xi_27), ((⟨"PhaseReader$Expander", "addRow", "(LPhaseReader$Macro;ILPhaseReader$Arguments;I)V"⟩ : MethodName), prog_3_method_10_code, 7, (none : Option FieldType), 2, false, xi_28), ((⟨"PhaseReader$Expander", "pushReplacement", "(I)V"⟩ : MethodName), prog_3_method_11_code, 4, (none : Option FieldType), 2, false, xi_29)]
theorem x_ml_1_ok : ∀ e ∈ x_ml_1, x_mp e := List.forall_mem_cons.mpr ⟨xm_15, List.forall_mem_cons.mpr ⟨xm_16, List.forall_mem_cons.mpr ⟨xm_17, List.forall_mem_cons.mpr ⟨xm_18, List.forall_mem_cons.mpr ⟨xm_19, List.forall_mem_cons.mpr ⟨xm_20, List.forall_mem_cons.mpr ⟨xm_21, List.forall_mem_cons.mpr ⟨xm_22, List.forall_mem_cons.mpr ⟨xm_23, List.forall_mem_cons.mpr ⟨xm_24, List.forall_mem_cons.mpr ⟨xm_25, List.forall_mem_cons.mpr ⟨xm_26, List.forall_mem_cons.mpr ⟨xm_27, List.forall_mem_cons.mpr ⟨xm_28, List.forall_mem_cons.mpr ⟨xm_29, fun _ h => absurd h List.not_mem_nil⟩⟩⟩⟩⟩⟩⟩⟩⟩⟩⟩⟩⟩⟩⟩
def x_ml_2 : List x_MT := [((⟨"PhaseReader$Macro", "<init>", "()V"⟩ : MethodName), prog_4_method_1_code, 1, (none : Option FieldType), 3, true, xi_30), ((⟨"PhaseReader$Macro", "pastesAt", "(I)Z"⟩ : MethodName), prog_4_method_2_code, 2, ((some .boolean) : Option FieldType), 3, false, xi_31), ((⟨"PhaseReader$Macro", "parameterAt", "(I)I"⟩ : MethodName), prog_4_method_3_code, 3, ((some .int) : Option FieldType), 3, false, xi_32), ((⟨"PhaseReader$MacroTable", "<init>", "()V"⟩ : MethodName), prog_5_method_1_code, 2, (none : Option FieldType), 4, true, xi_33), ((⟨"PhaseReader$MacroTable", "find", "(J)I"⟩ : MethodName), prog_5_method_2_code, 4, ((some .int) : Option FieldType), 4, false, xi_34), ((⟨"PhaseReader$MacroTable", "define", "(LPhaseReader$TokenRow;IIII)I"⟩ : MethodName), prog_5_method_3_code, 10, ((some .int) : Option FieldType), 4, false, xi_35), ((⟨"PhaseReader$MacroTable", "undefine", "(J)V"⟩ : MethodName), prog_5_method_4_code, 5, (none : Option FieldType), 4, false, xi_36), ((⟨"PhaseReader$Parser", "<init>", "()V"⟩ : MethodName), prog_6_method_1_code, 1, (none : Option FieldType), 5, true, xi_37), ((⟨"PhaseReader$Parser", "parse", "(LPhaseReader$TokenRow;)I"⟩ : MethodName), prog_6_method_2_code, 2, ((some .int) : Option FieldType), 5, false, xi_38), ((⟨"PhaseReader$Parser", "load", "(LPhaseReader$TokenRow;)V"⟩ : MethodName), prog_6_method_3_code, 3, (none : Option FieldType), 5, false, xi_39), ((⟨"PhaseReader$Parser", "wordOf", "(J)I"⟩ : MethodName), prog_6_method_4_code, 2, ((some .int) : Option FieldType), 5, false, xi_40), ((⟨"PhaseReader$Parser", "hasOddNumber", "()Z"⟩ : MethodName), prog_6_method_5_code, 4, ((some .boolean) : Option FieldType), 5, false, xi_41), ((⟨"PhaseReader$Parser", "isTooDeep", "()Z"⟩ : MethodName), prog_6_method_6_code, 5, ((some .boolean) : Option FieldType), 5, false, xi_42), ((⟨"PhaseReader$Parser", "take", "(C)Z"⟩ : MethodName), prog_6_method_7_code, 3, ((some .boolean) : Option FieldType), 5, false, xi_43), ((⟨"PhaseReader$Parser", "isTypeAt", "(I)Z"⟩ : MethodName), prog_6_method_8_code, 3, ((some .boolean) : Option FieldType), 5, false, xi_44)]
theorem x_ml_2_ok : ∀ e ∈ x_ml_2, x_mp e := List.forall_mem_cons.mpr ⟨xm_30, List.forall_mem_cons.mpr ⟨xm_31, List.forall_mem_cons.mpr ⟨xm_32, List.forall_mem_cons.mpr ⟨xm_33, List.forall_mem_cons.mpr ⟨xm_34, List.forall_mem_cons.mpr ⟨xm_35, List.forall_mem_cons.mpr ⟨xm_36, List.forall_mem_cons.mpr ⟨xm_37, List.forall_mem_cons.mpr ⟨xm_38, List.forall_mem_cons.mpr ⟨xm_39, List.forall_mem_cons.mpr ⟨xm_40, List.forall_mem_cons.mpr ⟨xm_41, List.forall_mem_cons.mpr ⟨xm_42, List.forall_mem_cons.mpr ⟨xm_43, List.forall_mem_cons.mpr ⟨xm_44, fun _ h => absurd h List.not_mem_nil⟩⟩⟩⟩⟩⟩⟩⟩⟩⟩⟩⟩⟩⟩⟩
def x_ml_3 : List x_MT := [((⟨"PhaseReader$Parser", "startsDeclaration", "()Z"⟩ : MethodName), prog_6_method_9_code, 1, ((some .boolean) : Option FieldType), 5, false, xi_45), ((⟨"PhaseReader$Parser", "takeUnit", "()Z"⟩ : MethodName), prog_6_method_10_code, 2, ((some .boolean) : Option FieldType), 5, false, xi_46), ((⟨"PhaseReader$Parser", "takeDeclaration", "(ZI)Z"⟩ : MethodName), prog_6_method_11_code, 8, ((some .boolean) : Option FieldType), 5, false, xi_47), ((⟨"PhaseReader$Parser", "takeType", "()Z"⟩ : MethodName), prog_6_method_12_code, 1, ((some .boolean) : Option FieldType), 5, false, xi_48), ((⟨"PhaseReader$Parser", "declare", "(IZ)V"⟩ : MethodName), prog_6_method_13_code, 3, (none : Option FieldType), 5, false, xi_49), ((⟨"PhaseReader$Parser", "isFunction", "(I)Z"⟩ : MethodName), prog_6_method_14_code, 3, ((some .boolean) : Option FieldType), 5, false, xi_50), ((⟨"PhaseReader$Parser", "takeDeclarator", "(I)Z"⟩ : MethodName), prog_6_method_15_code, 5, ((some .boolean) : Option FieldType), 5, false, xi_51), ((⟨"PhaseReader$Parser", "takeForms", "()Z"⟩ : MethodName), prog_6_method_16_code, 4, ((some .boolean) : Option FieldType), 5, false, xi_52), ((⟨"PhaseReader$Parser", "takeBlock", "(I)Z"⟩ : MethodName), prog_6_method_17_code, 6, ((some .boolean) : Option FieldType), 5, false, xi_53), ((⟨"PhaseReader$Parser", "takeStatement", "(I)Z"⟩ : MethodName), prog_6_method_18_code, 4, ((some .boolean) : Option FieldType), 5, false, xi_54), ((⟨"PhaseReader$Parser", "takeExpression", "(I)Z"⟩ : MethodName), prog_6_method_19_code, 4, ((some .boolean) : Option FieldType), 5, false, xi_55), ((⟨"PhaseReader$Parser", "takeBinary", "(II)Z"⟩ : MethodName), prog_6_method_20_code, 5, ((some .boolean) : Option FieldType), 5, false, xi_56), ((⟨"PhaseReader$Parser", "strengthOf", "(J)I"⟩ : MethodName), prog_6_method_21_code, 2, ((some .int) : Option FieldType), 5, false, xi_57), ((⟨"PhaseReader$Parser", "takeOperand", "(I)Z"⟩ : MethodName), prog_6_method_22_code, 5, ((some .boolean) : Option FieldType), 5, false, xi_58), ((⟨"PhaseReader$Parser", "takeCast", "()Z"⟩ : MethodName), prog_6_method_23_code, 2, ((some .boolean) : Option FieldType), 5, false, xi_59)]
theorem x_ml_3_ok : ∀ e ∈ x_ml_3, x_mp e := List.forall_mem_cons.mpr ⟨xm_45, List.forall_mem_cons.mpr ⟨xm_46, List.forall_mem_cons.mpr ⟨xm_47, List.forall_mem_cons.mpr ⟨xm_48, List.forall_mem_cons.mpr ⟨xm_49, List.forall_mem_cons.mpr ⟨xm_50, List.forall_mem_cons.mpr ⟨xm_51, List.forall_mem_cons.mpr ⟨xm_52, List.forall_mem_cons.mpr ⟨xm_53, List.forall_mem_cons.mpr ⟨xm_54, List.forall_mem_cons.mpr ⟨xm_55, List.forall_mem_cons.mpr ⟨xm_56, List.forall_mem_cons.mpr ⟨xm_57, List.forall_mem_cons.mpr ⟨xm_58, List.forall_mem_cons.mpr ⟨xm_59, fun _ h => absurd h List.not_mem_nil⟩⟩⟩⟩⟩⟩⟩⟩⟩⟩⟩⟩⟩⟩⟩
def x_ml_4 : List x_MT := [((⟨"PhaseReader$Parser", "takePrimary", "(I)Z"⟩ : MethodName), prog_6_method_24_code, 4, ((some .boolean) : Option FieldType), 5, false, xi_60), ((⟨"PhaseReader$Parser", "takePostfixes", "(II)Z"⟩ : MethodName), prog_6_method_25_code, 5, ((some .boolean) : Option FieldType), 5, false, xi_61), ((⟨"PhaseReader$Parser", "takeArguments", "(II)Z"⟩ : MethodName), prog_6_method_26_code, 4, ((some .boolean) : Option FieldType), 5, false, xi_62), ((⟨"PhaseReader$Preprocessor", "<init>", "()V"⟩ : MethodName), prog_7_method_1_code, 2, (none : Option FieldType), 6, true, xi_63), ((⟨"PhaseReader$Preprocessor", "run", "([LPhaseReader$Text;I)I"⟩ : MethodName), prog_7_method_2_code, 6, ((some .int) : Option FieldType), 6, false, xi_64), ((⟨"PhaseReader$Preprocessor", "takeLine", "(LPhaseReader$Source;)I"⟩ : MethodName), prog_7_method_3_code, 5, ((some .int) : Option FieldType), 6, false, xi_65), ((⟨"PhaseReader$Preprocessor", "endFile", "(LPhaseReader$Source;)I"⟩ : MethodName), prog_7_method_4_code, 3, ((some .int) : Option FieldType), 6, false, xi_66), ((⟨"PhaseReader$Preprocessor", "obey", "(LPhaseReader$Source;II)I"⟩ : MethodName), prog_7_method_5_code, 7, ((some .int) : Option FieldType), 6, false, xi_67), ((⟨"PhaseReader$Preprocessor", "obeyNamed", "(LPhaseReader$Source;JJ)I"⟩ : MethodName), prog_7_method_6_code, 7, ((some .int) : Option FieldType), 6, false, xi_68), ((⟨"PhaseReader$Preprocessor", "include", "(LPhaseReader$TokenRow;II)I"⟩ : MethodName), prog_7_method_7_code, 6, ((some .int) : Option FieldType), 6, false, xi_69), ((⟨"PhaseReader$Preprocessor", "define", "(LPhaseReader$Source;II)I"⟩ : MethodName), prog_7_method_8_code, 8, ((some .int) : Option FieldType), 6, false, xi_70), ((⟨"PhaseReader$Preprocessor", "parametersEnd", "(LPhaseReader$TokenRow;II)I"⟩ : MethodName), prog_7_method_9_code, 4, ((some .int) : Option FieldType), 6, false, xi_71), ((⟨"PhaseReader$Preprocessor", "isRepeated", "(LPhaseReader$TokenRow;II)Z"⟩ : MethodName), prog_7_method_10_code, 4, ((some .boolean) : Option FieldType), 6, false, xi_72), ((⟨"PhaseReader$Preprocessor", "isBody", "(LPhaseReader$TokenRow;II)Z"⟩ : MethodName), prog_7_method_11_code, 6, ((some .boolean) : Option FieldType), 6, false, xi_73), ((⟨"PhaseReader$Scanner", "<init>", "()V"⟩ : MethodName), prog_8_method_1_code, 1, (none : Option FieldType), 7, true, xi_74)]
theorem x_ml_4_ok : ∀ e ∈ x_ml_4, x_mp e := List.forall_mem_cons.mpr ⟨xm_60, List.forall_mem_cons.mpr ⟨xm_61, List.forall_mem_cons.mpr ⟨xm_62, List.forall_mem_cons.mpr ⟨xm_63, List.forall_mem_cons.mpr ⟨xm_64, List.forall_mem_cons.mpr ⟨xm_65, List.forall_mem_cons.mpr ⟨xm_66, List.forall_mem_cons.mpr ⟨xm_67, List.forall_mem_cons.mpr ⟨xm_68, List.forall_mem_cons.mpr ⟨xm_69, List.forall_mem_cons.mpr ⟨xm_70, List.forall_mem_cons.mpr ⟨xm_71, List.forall_mem_cons.mpr ⟨xm_72, List.forall_mem_cons.mpr ⟨xm_73, List.forall_mem_cons.mpr ⟨xm_74, fun _ h => absurd h List.not_mem_nil⟩⟩⟩⟩⟩⟩⟩⟩⟩⟩⟩⟩⟩⟩⟩
def x_ml_5 : List x_MT := [((⟨"PhaseReader$Scanner", "read", "(LPhaseReader$Text;LPhaseReader$Source;)I"⟩ : MethodName), prog_8_method_2_code, 3, ((some .int) : Option FieldType), 7, false, xi_75), ((⟨"PhaseReader$Scanner", "replaceTrigraphs", "(LPhaseReader$Text;)V"⟩ : MethodName), prog_8_method_3_code, 6, (none : Option FieldType), 7, false, xi_76), ((⟨"PhaseReader$Scanner", "trigraphAt", "(LPhaseReader$Text;I)I"⟩ : MethodName), prog_8_method_4_code, 2, ((some .int) : Option FieldType), 7, false, xi_77), ((⟨"PhaseReader$Scanner", "joinLines", "()V"⟩ : MethodName), prog_8_method_5_code, 3, (none : Option FieldType), 7, false, xi_78), ((⟨"PhaseReader$Scanner", "split", "(LPhaseReader$Source;)I"⟩ : MethodName), prog_8_method_6_code, 9, ((some .int) : Option FieldType), 7, false, xi_79), ((⟨"PhaseReader$Scanner", "blankEnd", "(I)I"⟩ : MethodName), prog_8_method_7_code, 4, ((some .int) : Option FieldType), 7, false, xi_80), ((⟨"PhaseReader$Scanner", "longCommentEnd", "(I)I"⟩ : MethodName), prog_8_method_8_code, 3, ((some .int) : Option FieldType), 7, false, xi_81), ((⟨"PhaseReader$Scanner", "newlineFrom", "(I)I"⟩ : MethodName), prog_8_method_9_code, 3, ((some .int) : Option FieldType), 7, false, xi_82), ((⟨"PhaseReader$Scanner", "tokenEnd", "(I)I"⟩ : MethodName), prog_8_method_10_code, 4, ((some .int) : Option FieldType), 7, false, xi_83), ((⟨"PhaseReader$Scanner", "pack", "(II)J"⟩ : MethodName), prog_8_method_11_code, 6, ((some .long) : Option FieldType), 7, false, xi_84), ((⟨"PhaseReader$Source", "<init>", "()V"⟩ : MethodName), prog_9_method_1_code, 1, (none : Option FieldType), 8, true, xi_85), ((⟨"PhaseReader$Source", "restart", "(I)V"⟩ : MethodName), prog_9_method_2_code, 2, (none : Option FieldType), 8, false, xi_86), ((⟨"PhaseReader$Source", "add", "(JIIZ)V"⟩ : MethodName), prog_9_method_3_code, 7, (none : Option FieldType), 8, false, xi_87), ((⟨"PhaseReader$Source", "lineEnd", "(I)I"⟩ : MethodName), prog_9_method_4_code, 3, ((some .int) : Option FieldType), 8, false, xi_88), ((⟨"PhaseReader$Source", "leavesSkipping", "(II)Z"⟩ : MethodName), prog_9_method_5_code, 6, ((some .boolean) : Option FieldType), 8, false, xi_89)]
theorem x_ml_5_ok : ∀ e ∈ x_ml_5, x_mp e := List.forall_mem_cons.mpr ⟨xm_75, List.forall_mem_cons.mpr ⟨xm_76, List.forall_mem_cons.mpr ⟨xm_77, List.forall_mem_cons.mpr ⟨xm_78, List.forall_mem_cons.mpr ⟨xm_79, List.forall_mem_cons.mpr ⟨xm_80, List.forall_mem_cons.mpr ⟨xm_81, List.forall_mem_cons.mpr ⟨xm_82, List.forall_mem_cons.mpr ⟨xm_83, List.forall_mem_cons.mpr ⟨xm_84, List.forall_mem_cons.mpr ⟨xm_85, List.forall_mem_cons.mpr ⟨xm_86, List.forall_mem_cons.mpr ⟨xm_87, List.forall_mem_cons.mpr ⟨xm_88, List.forall_mem_cons.mpr ⟨xm_89, fun _ h => absurd h List.not_mem_nil⟩⟩⟩⟩⟩⟩⟩⟩⟩⟩⟩⟩⟩⟩⟩
def x_ml_6 : List x_MT := [((⟨"PhaseReader$Source", "openConditional", "(Z)I"⟩ : MethodName), prog_9_method_6_code, 2, ((some .int) : Option FieldType), 8, false, xi_90), ((⟨"PhaseReader$Source", "turnToElse", "()I"⟩ : MethodName), prog_9_method_7_code, 1, ((some .int) : Option FieldType), 8, false, xi_91), ((⟨"PhaseReader$Source", "closeConditional", "()I"⟩ : MethodName), prog_9_method_8_code, 1, ((some .int) : Option FieldType), 8, false, xi_92), ((⟨"PhaseReader$Text", "<init>", "()V"⟩ : MethodName), prog_10_method_1_code, 1, (none : Option FieldType), 9, true, xi_93), ((⟨"PhaseReader$Text", "add", "(C)Z"⟩ : MethodName), prog_10_method_2_code, 3, ((some .boolean) : Option FieldType), 9, false, xi_94), ((⟨"PhaseReader$TokenRow", "<init>", "(I)V"⟩ : MethodName), prog_11_method_1_code, 2, (none : Option FieldType), 10, true, xi_95), ((⟨"PhaseReader$TokenRow", "add", "(JII)V"⟩ : MethodName), prog_11_method_2_code, 5, (none : Option FieldType), 10, false, xi_96), ((⟨"PhaseReader$TokenRow", "placeAt", "(I)I"⟩ : MethodName), prog_11_method_3_code, 2, ((some .int) : Option FieldType), 10, false, xi_97), ((⟨"PhaseReader$TokenRow", "hideAt", "(I)I"⟩ : MethodName), prog_11_method_4_code, 2, ((some .int) : Option FieldType), 10, false, xi_98), ((⟨"PhaseReader$TokenRow", "addFrom", "(LPhaseReader$TokenRow;I)V"⟩ : MethodName), prog_11_method_5_code, 3, (none : Option FieldType), 10, false, xi_99), ((⟨"PhaseReader$TokenRow", "joinAt", "(II)Z"⟩ : MethodName), prog_11_method_6_code, 9, ((some .boolean) : Option FieldType), 10, false, xi_100), ((⟨"PhaseReader$TokenRow", "lengthOf", "(J)I"⟩ : MethodName), prog_11_method_7_code, 3, ((some .int) : Option FieldType), 10, false, xi_101), ((⟨"PhaseReader$TokenRow", "letter", "(JI)I"⟩ : MethodName), prog_11_method_8_code, 4, ((some .int) : Option FieldType), 10, false, xi_102), ((⟨"PhaseReader$TokenRow", "spells", "(JLjava/lang/String;)Z"⟩ : MethodName), prog_11_method_9_code, 6, ((some .boolean) : Option FieldType), 10, false, xi_103), ((⟨"PhaseReader$TokenRow", "isWord", "(J)Z"⟩ : MethodName), prog_11_method_10_code, 3, ((some .boolean) : Option FieldType), 10, false, xi_104)]
theorem x_ml_6_ok : ∀ e ∈ x_ml_6, x_mp e := List.forall_mem_cons.mpr ⟨xm_90, List.forall_mem_cons.mpr ⟨xm_91, List.forall_mem_cons.mpr ⟨xm_92, List.forall_mem_cons.mpr ⟨xm_93, List.forall_mem_cons.mpr ⟨xm_94, List.forall_mem_cons.mpr ⟨xm_95, List.forall_mem_cons.mpr ⟨xm_96, List.forall_mem_cons.mpr ⟨xm_97, List.forall_mem_cons.mpr ⟨xm_98, List.forall_mem_cons.mpr ⟨xm_99, List.forall_mem_cons.mpr ⟨xm_100, List.forall_mem_cons.mpr ⟨xm_101, List.forall_mem_cons.mpr ⟨xm_102, List.forall_mem_cons.mpr ⟨xm_103, List.forall_mem_cons.mpr ⟨xm_104, fun _ h => absurd h List.not_mem_nil⟩⟩⟩⟩⟩⟩⟩⟩⟩⟩⟩⟩⟩⟩⟩
def x_ml_7 : List x_MT := [((⟨"PhaseReader$TokenRow", "isNumber", "(J)Z"⟩ : MethodName), prog_11_method_11_code, 4, ((some .boolean) : Option FieldType), 10, false, xi_105), ((⟨"PhaseReader$TokenRow", "isName", "(J)Z"⟩ : MethodName), prog_11_method_12_code, 4, ((some .boolean) : Option FieldType), 10, false, xi_106), ((⟨"PhaseReader$TokenRow", "firstLetter", "(J)J"⟩ : MethodName), prog_11_method_13_code, 5, ((some .long) : Option FieldType), 10, false, xi_107), ((⟨"PhaseReader$Tree", "<init>", "()V"⟩ : MethodName), prog_12_method_1_code, 1, (none : Option FieldType), 11, true, xi_108), ((⟨"PhaseReader$Tree", "add", "(III)I"⟩ : MethodName), prog_12_method_2_code, 5, ((some .int) : Option FieldType), 11, false, xi_109), ((⟨"PhaseReader$Tree", "insert", "(IIII)V"⟩ : MethodName), prog_12_method_3_code, 5, (none : Option FieldType), 11, false, xi_110), ((⟨"PhaseReaderModel", "<init>", "()V"⟩ : MethodName), prog_14_method_1_code, 1, (none : Option FieldType), 12, true, xi_111), ((⟨"PhaseReaderModel", "choose", "(I)Z"⟩ : MethodName), prog_14_method_2_code, 2, ((some .boolean) : Option FieldType), 12, false, xi_112), ((⟨"PhaseReaderModel", "write", "(C)Z"⟩ : MethodName), prog_14_method_3_code, 2, ((some .boolean) : Option FieldType), 12, false, xi_113), ((⟨"PhaseReaderModel", "clear", "()V"⟩ : MethodName), prog_14_method_4_code, 1, (none : Option FieldType), 12, false, xi_114), ((⟨"PhaseReaderModel", "length", "(I)I"⟩ : MethodName), prog_14_method_5_code, 2, ((some .int) : Option FieldType), 12, false, xi_115), ((⟨"PhaseReaderModel", "trigraph", "(I)I"⟩ : MethodName), prog_14_method_6_code, 1, ((some .int) : Option FieldType), 12, false, xi_116), ((⟨"PhaseReaderModel", "wordly", "(I)Z"⟩ : MethodName), prog_14_method_7_code, 1, ((some .boolean) : Option FieldType), 12, false, xi_117), ((⟨"PhaseReaderModel", "digit", "(I)Z"⟩ : MethodName), prog_14_method_8_code, 1, ((some .boolean) : Option FieldType), 12, false, xi_118), ((⟨"PhaseReaderModel", "point", "(I)Z"⟩ : MethodName), prog_14_method_9_code, 1, ((some .boolean) : Option FieldType), 12, false, xi_119)]
theorem x_ml_7_ok : ∀ e ∈ x_ml_7, x_mp e := List.forall_mem_cons.mpr ⟨xm_105, List.forall_mem_cons.mpr ⟨xm_106, List.forall_mem_cons.mpr ⟨xm_107, List.forall_mem_cons.mpr ⟨xm_108, List.forall_mem_cons.mpr ⟨xm_109, List.forall_mem_cons.mpr ⟨xm_110, List.forall_mem_cons.mpr ⟨xm_111, List.forall_mem_cons.mpr ⟨xm_112, List.forall_mem_cons.mpr ⟨xm_113, List.forall_mem_cons.mpr ⟨xm_114, List.forall_mem_cons.mpr ⟨xm_115, List.forall_mem_cons.mpr ⟨xm_116, List.forall_mem_cons.mpr ⟨xm_117, List.forall_mem_cons.mpr ⟨xm_118, List.forall_mem_cons.mpr ⟨xm_119, fun _ h => absurd h List.not_mem_nil⟩⟩⟩⟩⟩⟩⟩⟩⟩⟩⟩⟩⟩⟩⟩
def x_ml_8 : List x_MT := [((⟨"PhaseReaderModel", "letters", "(J)I"⟩ : MethodName), prog_14_method_10_code, 5, ((some .int) : Option FieldType), 12, false, xi_120), ((⟨"PhaseReaderModel", "letter", "(JI)I"⟩ : MethodName), prog_14_method_11_code, 4, ((some .int) : Option FieldType), 12, false, xi_121), ((⟨"PhaseReaderModel", "isNumber", "(J)Z"⟩ : MethodName), prog_14_method_12_code, 2, ((some .boolean) : Option FieldType), 12, false, xi_122), ((⟨"PhaseReaderModel", "isName", "(J)Z"⟩ : MethodName), prog_14_method_13_code, 2, ((some .boolean) : Option FieldType), 12, false, xi_123), ((⟨"PhaseReaderModel", "join", "(I)V"⟩ : MethodName), prog_14_method_14_code, 8, (none : Option FieldType), 12, false, xi_124), ((⟨"PhaseReaderModel", "end", "(I)I"⟩ : MethodName), prog_14_method_15_code, 5, ((some .int) : Option FieldType), 12, false, xi_125), ((⟨"PhaseReaderModel", "blank", "(I)I"⟩ : MethodName), prog_14_method_16_code, 4, ((some .int) : Option FieldType), 12, false, xi_126), ((⟨"PhaseReaderModel", "read", "(I)I"⟩ : MethodName), prog_14_method_17_code, 10, ((some .int) : Option FieldType), 12, false, xi_127), ((⟨"PhaseReaderModel", "skipping", "()Z"⟩ : MethodName), prog_14_method_18_code, 1, ((some .boolean) : Option FieldType), 12, false, xi_128), ((⟨"PhaseReaderModel", "row", "()I"⟩ : MethodName), prog_14_method_19_code, 4, ((some .int) : Option FieldType), 12, false, xi_129), ((⟨"PhaseReaderModel", "directive", "(II)I"⟩ : MethodName), prog_14_method_20_code, 10, ((some .int) : Option FieldType), 12, false, xi_130), ((⟨"PhaseReaderModel", "turn", "(Z)I"⟩ : MethodName), prog_14_method_21_code, 2, ((some .int) : Option FieldType), 12, false, xi_131), ((⟨"PhaseReaderModel", "include", "(II)I"⟩ : MethodName), prog_14_method_22_code, 4, ((some .int) : Option FieldType), 12, false, xi_132), ((⟨"PhaseReaderModel", "find", "(J)I"⟩ : MethodName), prog_14_method_23_code, 4, ((some .int) : Option FieldType), 12, false, xi_133), ((⟨"PhaseReaderModel", "parameters", "(II)I"⟩ : MethodName), prog_14_method_24_code, 6, ((some .int) : Option FieldType), 12, false, xi_134)]
theorem x_ml_8_ok : ∀ e ∈ x_ml_8, x_mp e := List.forall_mem_cons.mpr ⟨xm_120, List.forall_mem_cons.mpr ⟨xm_121, List.forall_mem_cons.mpr ⟨xm_122, List.forall_mem_cons.mpr ⟨xm_123, List.forall_mem_cons.mpr ⟨xm_124, List.forall_mem_cons.mpr ⟨xm_125, List.forall_mem_cons.mpr ⟨xm_126, List.forall_mem_cons.mpr ⟨xm_127, List.forall_mem_cons.mpr ⟨xm_128, List.forall_mem_cons.mpr ⟨xm_129, List.forall_mem_cons.mpr ⟨xm_130, List.forall_mem_cons.mpr ⟨xm_131, List.forall_mem_cons.mpr ⟨xm_132, List.forall_mem_cons.mpr ⟨xm_133, List.forall_mem_cons.mpr ⟨xm_134, fun _ h => absurd h List.not_mem_nil⟩⟩⟩⟩⟩⟩⟩⟩⟩⟩⟩⟩⟩⟩⟩
def x_ml_9 : List x_MT := [((⟨"PhaseReaderModel", "define", "(II)I"⟩ : MethodName), prog_14_method_25_code, 10, ((some .int) : Option FieldType), 12, false, xi_135), ((⟨"PhaseReaderModel", "expand", "()I"⟩ : MethodName), prog_14_method_26_code, 3, ((some .int) : Option FieldType), 12, false, xi_136), ((⟨"PhaseReaderModel", "lay", "(JI)V"⟩ : MethodName), prog_14_method_27_code, 4, (none : Option FieldType), 12, false, xi_137), ((⟨"PhaseReaderModel", "next", "()I"⟩ : MethodName), prog_14_method_28_code, 8, ((some .int) : Option FieldType), 12, false, xi_138), ((⟨"PhaseReaderModel", "arguments", "(I)I"⟩ : MethodName), prog_14_method_29_code, 8, ((some .int) : Option FieldType), 12, false, xi_139), ((⟨"PhaseReaderModel", "begin", "()I"⟩ : MethodName), prog_14_method_30_code, 5, ((some .int) : Option FieldType), 12, false, xi_140), ((⟨"PhaseReaderModel", "argumentEnds", "()I"⟩ : MethodName), prog_14_method_31_code, 1, ((some .int) : Option FieldType), 12, false, xi_141), ((⟨"PhaseReaderModel", "which", "(IJ)I"⟩ : MethodName), prog_14_method_32_code, 5, ((some .int) : Option FieldType), 12, false, xi_142), ((⟨"PhaseReaderModel", "replace", "()I"⟩ : MethodName), prog_14_method_33_code, 17, ((some .int) : Option FieldType), 12, false, xi_143), ((⟨"PhaseReaderModel", "paste", "(IJI)Z"⟩ : MethodName), prog_14_method_34_code, 11, ((some .boolean) : Option FieldType), 12, false, xi_144), ((⟨"PhaseReaderModel", "translate", "(I)I"⟩ : MethodName), prog_14_method_35_code, 3, ((some .int) : Option FieldType), 12, false, xi_145), ((⟨"PhaseReaderModel", "checked", "()I"⟩ : MethodName), prog_14_method_36_code, 7, ((some .int) : Option FieldType), 12, false, xi_146), ((⟨"PhaseReaderModel", "matched", "()Z"⟩ : MethodName), prog_14_method_37_code, 7, ((some .boolean) : Option FieldType), 12, false, xi_147), ((⟨"PhaseReaderModel", "isWord", "(I)Z"⟩ : MethodName), prog_14_method_38_code, 4, ((some .boolean) : Option FieldType), 12, false, xi_148), ((⟨"PhaseReaderModel", "type", "(I)Z"⟩ : MethodName), prog_14_method_39_code, 6, ((some .boolean) : Option FieldType), 12, false, xi_149)]
theorem x_ml_9_ok : ∀ e ∈ x_ml_9, x_mp e := List.forall_mem_cons.mpr ⟨xm_135, List.forall_mem_cons.mpr ⟨xm_136, List.forall_mem_cons.mpr ⟨xm_137, List.forall_mem_cons.mpr ⟨xm_138, List.forall_mem_cons.mpr ⟨xm_139, List.forall_mem_cons.mpr ⟨xm_140, List.forall_mem_cons.mpr ⟨xm_141, List.forall_mem_cons.mpr ⟨xm_142, List.forall_mem_cons.mpr ⟨xm_143, List.forall_mem_cons.mpr ⟨xm_144, List.forall_mem_cons.mpr ⟨xm_145, List.forall_mem_cons.mpr ⟨xm_146, List.forall_mem_cons.mpr ⟨xm_147, List.forall_mem_cons.mpr ⟨xm_148, List.forall_mem_cons.mpr ⟨xm_149, fun _ h => absurd h List.not_mem_nil⟩⟩⟩⟩⟩⟩⟩⟩⟩⟩⟩⟩⟩⟩⟩
def x_ml_10 : List x_MT := [((⟨"PhaseReaderModel", "grow", "(III)I"⟩ : MethodName), prog_14_method_40_code, 4, ((some .int) : Option FieldType), 12, false, xi_150), ((⟨"PhaseReaderModel", "push", "(IIIII)Z"⟩ : MethodName), prog_14_method_41_code, 6, ((some .boolean) : Option FieldType), 12, false, xi_151), ((⟨"PhaseReaderModel", "parsed", "()Z"⟩ : MethodName), prog_14_method_42_code, 8, ((some .boolean) : Option FieldType), 12, false, xi_152), ((⟨"PhaseReaderModel", "stop", "(II)I"⟩ : MethodName), prog_14_method_43_code, 4, ((some .int) : Option FieldType), 12, false, xi_153), ((⟨"PhaseReaderModel", "items", "(IIII)Z"⟩ : MethodName), prog_14_method_44_code, 11, ((some .boolean) : Option FieldType), 12, false, xi_154), ((⟨"PhaseReaderModel", "statement", "(IIII)Z"⟩ : MethodName), prog_14_method_45_code, 9, ((some .boolean) : Option FieldType), 12, false, xi_155), ((⟨"PhaseReaderModel", "seek", "(IIJ)I"⟩ : MethodName), prog_14_method_46_code, 6, ((some .int) : Option FieldType), 12, false, xi_156), ((⟨"PhaseReaderModel", "declarator", "(IIIII)Z"⟩ : MethodName), prog_14_method_47_code, 15, ((some .boolean) : Option FieldType), 12, false, xi_157), ((⟨"PhaseReaderModel", "forms", "(II)Z"⟩ : MethodName), prog_14_method_48_code, 5, ((some .boolean) : Option FieldType), 12, false, xi_158), ((⟨"PhaseReaderModel", "strength", "(J)I"⟩ : MethodName), prog_14_method_49_code, 2, ((some .int) : Option FieldType), 12, false, xi_159), ((⟨"PhaseReaderModel", "cast", "(I)Z"⟩ : MethodName), prog_14_method_50_code, 4, ((some .boolean) : Option FieldType), 12, false, xi_160), ((⟨"PhaseReaderModel", "cut", "(II)I"⟩ : MethodName), prog_14_method_51_code, 11, ((some .int) : Option FieldType), 12, false, xi_161), ((⟨"PhaseReaderModel", "value", "(III)Z"⟩ : MethodName), prog_14_method_52_code, 10, ((some .boolean) : Option FieldType), 12, false, xi_162), ((⟨"PhaseReaderModel", "values", "(III)V"⟩ : MethodName), prog_14_method_53_code, 6, (none : Option FieldType), 12, false, xi_163), ((⟨"PhaseReaderModel", "verdict", "()I"⟩ : MethodName), prog_14_method_54_code, 1, ((some .int) : Option FieldType), 12, false, xi_164)]
theorem x_ml_10_ok : ∀ e ∈ x_ml_10, x_mp e := List.forall_mem_cons.mpr ⟨xm_150, List.forall_mem_cons.mpr ⟨xm_151, List.forall_mem_cons.mpr ⟨xm_152, List.forall_mem_cons.mpr ⟨xm_153, List.forall_mem_cons.mpr ⟨xm_154, List.forall_mem_cons.mpr ⟨xm_155, List.forall_mem_cons.mpr ⟨xm_156, List.forall_mem_cons.mpr ⟨xm_157, List.forall_mem_cons.mpr ⟨xm_158, List.forall_mem_cons.mpr ⟨xm_159, List.forall_mem_cons.mpr ⟨xm_160, List.forall_mem_cons.mpr ⟨xm_161, List.forall_mem_cons.mpr ⟨xm_162, List.forall_mem_cons.mpr ⟨xm_163, List.forall_mem_cons.mpr ⟨xm_164, fun _ h => absurd h List.not_mem_nil⟩⟩⟩⟩⟩⟩⟩⟩⟩⟩⟩⟩⟩⟩⟩
def x_ml_11 : List x_MT := [((⟨"PhaseReaderModel", "tokens", "()I"⟩ : MethodName), prog_14_method_55_code, 1, ((some .int) : Option FieldType), 12, false, xi_165), ((⟨"PhaseReaderModel", "place", "(I)I"⟩ : MethodName), prog_14_method_56_code, 2, ((some .int) : Option FieldType), 12, false, xi_166), ((⟨"PhaseReaderModel", "spelling", "(II)I"⟩ : MethodName), prog_14_method_57_code, 3, ((some .int) : Option FieldType), 12, false, xi_167), ((⟨"PhaseReaderModel", "replaced", "()I"⟩ : MethodName), prog_14_method_58_code, 1, ((some .int) : Option FieldType), 12, false, xi_168), ((⟨"PhaseReaderModel", "macros", "()I"⟩ : MethodName), prog_14_method_59_code, 3, ((some .int) : Option FieldType), 12, false, xi_169), ((⟨"PhaseReaderModel", "nodes", "()I"⟩ : MethodName), prog_14_method_60_code, 1, ((some .int) : Option FieldType), 12, false, xi_170), ((⟨"PhaseReaderModel", "node", "(II)I"⟩ : MethodName), prog_14_method_61_code, 3, ((some .int) : Option FieldType), 12, false, xi_171), ((⟨"java/lang/String", "length", "()I"⟩ : MethodName), prog_17_method_54_code, 1, ((some .int) : Option FieldType), 14, false, xi_172), ((⟨"java/lang/String", "charAt", "(I)C"⟩ : MethodName), prog_17_method_56_code, 2, ((some .char) : Option FieldType), 14, false, xi_173), ((⟨"java/lang/String", "indexOf", "(I)I"⟩ : MethodName), prog_17_method_79_code, 2, ((some .int) : Option FieldType), 14, false, xi_174), ((⟨"java/lang/String", "indexOf", "(II)I"⟩ : MethodName), prog_17_method_80_code, 3, ((some .int) : Option FieldType), 14, false, xi_175), ((⟨"java/lang/String", "coder", "()B"⟩ : MethodName), prog_17_method_152_code, 1, ((some .byte) : Option FieldType), 14, false, xi_176), ((⟨"java/lang/String", "isLatin1", "()Z"⟩ : MethodName), prog_17_method_154_code, 1, ((some .boolean) : Option FieldType), 14, false, xi_177), ((⟨"java/lang/String", "checkIndex", "(II)V"⟩ : MethodName), prog_17_method_155_code, 2, (none : Option FieldType), 14, false, xi_178), ((⟨"java/lang/StringLatin1", "charAt", "([BI)C"⟩ : MethodName), prog_18_method_2_code, 2, ((some .char) : Option FieldType), 15, false, xi_179)]
theorem x_ml_11_ok : ∀ e ∈ x_ml_11, x_mp e := List.forall_mem_cons.mpr ⟨xm_165, List.forall_mem_cons.mpr ⟨xm_166, List.forall_mem_cons.mpr ⟨xm_167, List.forall_mem_cons.mpr ⟨xm_168, List.forall_mem_cons.mpr ⟨xm_169, List.forall_mem_cons.mpr ⟨xm_170, List.forall_mem_cons.mpr ⟨xm_171, List.forall_mem_cons.mpr ⟨xm_172, List.forall_mem_cons.mpr ⟨xm_173, List.forall_mem_cons.mpr ⟨xm_174, List.forall_mem_cons.mpr ⟨xm_175, List.forall_mem_cons.mpr ⟨xm_176, List.forall_mem_cons.mpr ⟨xm_177, List.forall_mem_cons.mpr ⟨xm_178, List.forall_mem_cons.mpr ⟨xm_179, fun _ h => absurd h List.not_mem_nil⟩⟩⟩⟩⟩⟩⟩⟩⟩⟩⟩⟩⟩⟩⟩
def x_ml_12 : List x_MT := [((⟨"java/lang/StringLatin1", "canEncode", "(I)Z"⟩ : MethodName), prog_18_method_4_code, 1, ((some .boolean) : Option FieldType), 15, false, xi_180), ((⟨"java/lang/StringLatin1", "indexOf", "([BIII)I"⟩ : MethodName), prog_18_method_22_code, 4, ((some .int) : Option FieldType), 15, false, xi_181), ((⟨"java/lang/StringLatin1", "indexOfChar", "([BIII)I"⟩ : MethodName), prog_18_method_23_code, 6, ((some .int) : Option FieldType), 15, false, xi_182), ((⟨"jdk/internal/util/Preconditions", "checkIndex", "(IILjava/util/function/BiFunction;)I"⟩ : MethodName), prog_21_method_11_code, 3, ((some .int) : Option FieldType), 16, false, xi_183)]
theorem x_ml_12_ok : ∀ e ∈ x_ml_12, x_mp e := List.forall_mem_cons.mpr ⟨xm_180, List.forall_mem_cons.mpr ⟨xm_181, List.forall_mem_cons.mpr ⟨xm_182, List.forall_mem_cons.mpr ⟨xm_183, fun _ h => absurd h List.not_mem_nil⟩⟩⟩⟩
theorem x_ml_ok : ∀ e ∈ x_ml, x_mp e := by
  have h : x_ml = x_ml_0 ++ (x_ml_1 ++ (x_ml_2 ++ (x_ml_3 ++ (x_ml_4 ++ (x_ml_5 ++ (x_ml_6 ++ (x_ml_7 ++ (x_ml_8 ++ (x_ml_9 ++ (x_ml_10 ++ (x_ml_11 ++ (x_ml_12)))))))))))) := rfl
  rw [h]
  exact List.forall_mem_append.mpr ⟨x_ml_0_ok, List.forall_mem_append.mpr ⟨x_ml_1_ok, List.forall_mem_append.mpr ⟨x_ml_2_ok, List.forall_mem_append.mpr ⟨x_ml_3_ok, List.forall_mem_append.mpr ⟨x_ml_4_ok, List.forall_mem_append.mpr ⟨x_ml_5_ok, List.forall_mem_append.mpr ⟨x_ml_6_ok, List.forall_mem_append.mpr ⟨x_ml_7_ok, List.forall_mem_append.mpr ⟨x_ml_8_ok, List.forall_mem_append.mpr ⟨x_ml_9_ok, List.forall_mem_append.mpr ⟨x_ml_10_ok, List.forall_mem_append.mpr ⟨x_ml_11_ok, x_ml_12_ok⟩⟩⟩⟩⟩⟩⟩⟩⟩⟩⟩⟩
theorem x_me_in {k : Nat} (h : x_own k ≠ 99) : x_me k ∈ x_ml := by
  by_cases hk : k < x_ml.length
  · have e1 : x_me k = x_ml[k] := by
      unfold x_me
      rw [List.getD_eq_getElem?_getD, List.getElem?_eq_getElem hk]
      rfl
    rw [e1]
    exact List.getElem_mem hk
  · refine absurd ?_ h
    unfold x_own x_me
    rw [List.getD_eq_getElem?_getD, List.getElem?_eq_none (Nat.not_lt.mp hk)]
    rfl
theorem x_ins_in {k pc : Nat} {i : Instr} (h : x_ins k pc = some i) : x_me k ∈ x_ml := by
  by_cases hk : k < x_ml.length
  · have e1 : x_me k = x_ml[k] := by
      unfold x_me
      rw [List.getD_eq_getElem?_getD, List.getElem?_eq_getElem hk]
      rfl
    rw [e1]
    exact List.getElem_mem hk
  · have e1 : x_me k = (x, code, 0, none, 99, false, []) := by
      unfold x_me
      rw [List.getD_eq_getElem?_getD, List.getElem?_eq_none (Nat.not_lt.mp hk)]
      rfl
    unfold x_ins at h
    rw [e1] at h
    simp at h
theorem s_dec {k pc : Nat} {i : Instr} (h : x_ins k pc = some i) : ∃ len, decode (x_b k) pc = .ok (i, len) ∧ (x_sw i = false → len = x_len i) := by
  have h1 := (x_ml_ok _ (x_ins_in h)).2.2.1
  unfold x_ins at h
  split at h
  · rename_i j hj
    cases h
    exact x_chk_ok h1 hj
  · cases h
def x_fok (cn : String) (e : Nat × Nat × Nat × FieldType × Bool) : Prop := ∃ (C : String) (T : u_T) (N : Nat) (ty0 : Nat → FieldType), x_cl[e.2.1]? = some (C, T, N) ∧ e.2.2.1 < N ∧ (∀ w ∈ u_ws C T N, w ∈ x_w) ∧ (∀ j, j < N → parseFieldDescriptor (T j).2.2.1 = some (ty0 j)) ∧ (∀ a, a < N → ∀ b, b < N → a ≠ b → (T a).2.1 ≠ (T b).2.1) ∧ ty0 e.2.2.1 = e.2.2.2.1 ∧ (T e.2.2.1).2.2.2 = e.2.2.2.2 ∧ (T e.2.2.1).1 = x_cn.getD e.2.1 "" ∧ Jvm.Cond.fieldLink cn e.1 (T e.2.2.1).1 (T e.2.2.1).2.1 (T e.2.2.1).2.2.1 ∈ x_w
def fL_0_0 : List (Nat × Nat × Nat × FieldType × Bool) := [(11, 0, 0, (.array (.object "PhaseReader$Text")), true), (18, 0, 1, (.object "PhaseReader$Preprocessor"), true), (25, 0, 2, (.object "PhaseReader$Parser"), true), (34, 0, 3, .int, false), (42, 9, 1, .int, false), (49, 0, 4, .int, false), (52, 6, 0, (.object "PhaseReader$Expander"), true), (56, 2, 1, (.object "PhaseReader$TokenRow"), true), (66, 10, 2, .int, false), (69, 5, 0, (.object "PhaseReader$Tree"), true), (73, 11, 3, .int, false), (83, 10, 0, (.array .long), true)]
theorem fK_0_0 : ∀ e ∈ fL_0_0, x_fok "PhaseReader" e := List.forall_mem_cons.mpr ⟨⟨_, cT_0, 5, cY_0, rfl, by decide, cU_0, cP_0, cN_0, rfl, rfl, rfl, (tw_2 (i := 104) rfl rfl)⟩, List.forall_mem_cons.mpr ⟨⟨_, cT_0, 5, cY_0, rfl, by decide, cU_0, cP_0, cN_0, rfl, rfl, rfl, (tw_2 (i := 105) rfl rfl)⟩, List.forall_mem_cons.mpr ⟨⟨_, cT_0, 5, cY_0, rfl, by decide, cU_0, cP_0, cN_0, rfl, rfl, rfl, (tw_2 (i := 106) rfl rfl)⟩, List.forall_mem_cons.mpr ⟨⟨_, cT_0, 5, cY_0, rfl, by decide, cU_0, cP_0, cN_0, rfl, rfl, rfl, (tw_2 (i := 107) rfl rfl)⟩, List.forall_mem_cons.mpr ⟨⟨_, cT_9, 2, cY_9, rfl, by decide, cU_9, cP_9, cN_9, rfl, rfl, rfl, (tw_2 (i := 98) rfl rfl)⟩, List.forall_mem_cons.mpr ⟨⟨_, cT_0, 5, cY_0, rfl, by decide, cU_0, cP_0, cN_0, rfl, rfl, rfl, (tw_2 (i := 108) rfl rfl)⟩, List.forall_mem_cons.mpr ⟨⟨_, cT_6, 5, cY_6, rfl, by decide, cU_6, cP_6, cN_6, rfl, rfl, rfl, (tw_2 (i := 14) rfl rfl)⟩, List.forall_mem_cons.mpr ⟨⟨_, cT_2, 7, cY_2, rfl, by decide, cU_2, cP_2, cN_2, rfl, rfl, rfl, (tw_1 (i := 157) rfl rfl)⟩, List.forall_mem_cons.mpr ⟨⟨_, cT_10, 3, cY_10, rfl, by decide, cU_10, cP_10, cN_10, rfl, rfl, rfl, (tw_1 (i := 113) rfl rfl)⟩, List.forall_mem_cons.mpr ⟨⟨_, cT_5, 8, cY_5, rfl, by decide, cU_5, cP_5, cN_5, rfl, rfl, rfl, (tw_2 (i := 64) rfl rfl)⟩, List.forall_mem_cons.mpr ⟨⟨_, cT_11, 4, cY_11, rfl, by decide, cU_11, cP_11, cN_11, rfl, rfl, rfl, (tw_2 (i := 53) rfl rfl)⟩, List.forall_mem_cons.mpr ⟨⟨_, cT_10, 3, cY_10, rfl, by decide, cU_10, cP_10, cN_10, rfl, rfl, rfl, (tw_1 (i := 106) rfl rfl)⟩, fun _ h => absurd h List.not_mem_nil⟩⟩⟩⟩⟩⟩⟩⟩⟩⟩⟩⟩
def fL_0_1 : List (Nat × Nat × Nat × FieldType × Bool) := [(91, 2, 2, .int, false), (94, 2, 0, (.object "PhaseReader$MacroTable"), true), (98, 4, 1, .int, false), (101, 11, 0, (.array .int), true), (105, 11, 1, (.array .int), true), (108, 11, 2, (.array .int), true)]
theorem fK_0_1 : ∀ e ∈ fL_0_1, x_fok "PhaseReader" e := List.forall_mem_cons.mpr ⟨⟨_, cT_2, 7, cY_2, rfl, by decide, cU_2, cP_2, cN_2, rfl, rfl, rfl, (tw_1 (i := 159) rfl rfl)⟩, List.forall_mem_cons.mpr ⟨⟨_, cT_2, 7, cY_2, rfl, by decide, cU_2, cP_2, cN_2, rfl, rfl, rfl, (tw_1 (i := 155) rfl rfl)⟩, List.forall_mem_cons.mpr ⟨⟨_, cT_4, 2, cY_4, rfl, by decide, cU_4, cP_4, cN_4, rfl, rfl, rfl, (tw_1 (i := 88) rfl rfl)⟩, List.forall_mem_cons.mpr ⟨⟨_, cT_11, 4, cY_11, rfl, by decide, cU_11, cP_11, cN_11, rfl, rfl, rfl, (tw_2 (i := 44) rfl rfl)⟩, List.forall_mem_cons.mpr ⟨⟨_, cT_11, 4, cY_11, rfl, by decide, cU_11, cP_11, cN_11, rfl, rfl, rfl, (tw_2 (i := 47) rfl rfl)⟩, List.forall_mem_cons.mpr ⟨⟨_, cT_11, 4, cY_11, rfl, by decide, cU_11, cP_11, cN_11, rfl, rfl, rfl, (tw_2 (i := 50) rfl rfl)⟩, fun _ h => absurd h List.not_mem_nil⟩⟩⟩⟩⟩⟩
def fL_0 : List (Nat × Nat × Nat × FieldType × Bool) := [(11, 0, 0, (.array (.object "PhaseReader$Text")), true), (18, 0, 1, (.object "PhaseReader$Preprocessor"), true), (25, 0, 2, (.object "PhaseReader$Parser"), true), (34, 0, 3, .int, false), (42, 9, 1, .int, false), (49, 0, 4, .int, false), (52, 6, 0, (.object "PhaseReader$Expander"), true), (56, 2, 1, (.object "PhaseReader$TokenRow"), true), (66, 10, 2, .int, false), (69, 5, 0, (.object "PhaseReader$Tree"), true), (73, 11, 3, .int, false), (83, 10, 0, (.array .long), true), (91, 2, 2, .int, false), (94, 2, 0, (.object "PhaseReader$MacroTable"), true), (98, 4, 1, .int, false), (101, 11, 0, (.array .int), true), (105, 11, 1, (.array .int), true), (108, 11, 2, (.array .int), true)]
theorem fK_0 : ∀ e ∈ fL_0, x_fok "PhaseReader" e := by
  have h : fL_0 = fL_0_0 ++ (fL_0_1) := rfl
  rw [h]
  exact List.forall_mem_append.mpr ⟨fK_0_0, fK_0_1⟩
def fL_1_0 : List (Nat × Nat × Nat × FieldType × Bool) := [(9, 1, 0, (.array .int), true), (15, 1, 1, (.array .int), true), (18, 1, 2, (.array .int), true), (21, 1, 3, (.array .int), true), (24, 1, 4, .int, false)]
theorem fK_1_0 : ∀ e ∈ fL_1_0, x_fok "PhaseReader$Arguments" e := List.forall_mem_cons.mpr ⟨⟨_, cT_1, 6, cY_1, rfl, by decide, cU_1, cP_1, cN_1, rfl, rfl, rfl, (tw_1 (i := 129) rfl rfl)⟩, List.forall_mem_cons.mpr ⟨⟨_, cT_1, 6, cY_1, rfl, by decide, cU_1, cP_1, cN_1, rfl, rfl, rfl, (tw_1 (i := 131) rfl rfl)⟩, List.forall_mem_cons.mpr ⟨⟨_, cT_1, 6, cY_1, rfl, by decide, cU_1, cP_1, cN_1, rfl, rfl, rfl, (tw_1 (i := 133) rfl rfl)⟩, List.forall_mem_cons.mpr ⟨⟨_, cT_1, 6, cY_1, rfl, by decide, cU_1, cP_1, cN_1, rfl, rfl, rfl, (tw_1 (i := 135) rfl rfl)⟩, List.forall_mem_cons.mpr ⟨⟨_, cT_1, 6, cY_1, rfl, by decide, cU_1, cP_1, cN_1, rfl, rfl, rfl, (tw_1 (i := 137) rfl rfl)⟩, fun _ h => absurd h List.not_mem_nil⟩⟩⟩⟩⟩
def fL_1 : List (Nat × Nat × Nat × FieldType × Bool) := [(9, 1, 0, (.array .int), true), (15, 1, 1, (.array .int), true), (18, 1, 2, (.array .int), true), (21, 1, 3, (.array .int), true), (24, 1, 4, .int, false)]
theorem fK_1 : ∀ e ∈ fL_1, x_fok "PhaseReader$Arguments" e := by
  have h : fL_1 = fL_1_0 := rfl
  rw [h]
  exact fK_1_0
def fL_2_0 : List (Nat × Nat × Nat × FieldType × Bool) := [(16, 2, 0, (.object "PhaseReader$MacroTable"), true), (25, 2, 1, (.object "PhaseReader$TokenRow"), true), (29, 2, 3, (.object "PhaseReader$TokenRow"), true), (32, 2, 4, (.object "PhaseReader$TokenRow"), true), (37, 2, 5, (.object "PhaseReader$TokenRow"), true), (42, 2, 6, (.array (.object "PhaseReader$Arguments")), true), (47, 4, 1, .int, false), (51, 10, 2, .int, false), (52, 2, 2, .int, false), (71, 10, 0, (.array .long), true), (84, 4, 0, (.array (.object "PhaseReader$Macro")), true), (88, 3, 1, .boolean, false)]
theorem fK_2_0 : ∀ e ∈ fL_2_0, x_fok "PhaseReader$Expander" e := List.forall_mem_cons.mpr ⟨⟨_, cT_2, 7, cY_2, rfl, by decide, cU_2, cP_2, cN_2, rfl, rfl, rfl, (tw_1 (i := 153) rfl rfl)⟩, List.forall_mem_cons.mpr ⟨⟨_, cT_2, 7, cY_2, rfl, by decide, cU_2, cP_2, cN_2, rfl, rfl, rfl, (tw_1 (i := 156) rfl rfl)⟩, List.forall_mem_cons.mpr ⟨⟨_, cT_2, 7, cY_2, rfl, by decide, cU_2, cP_2, cN_2, rfl, rfl, rfl, (tw_1 (i := 160) rfl rfl)⟩, List.forall_mem_cons.mpr ⟨⟨_, cT_2, 7, cY_2, rfl, by decide, cU_2, cP_2, cN_2, rfl, rfl, rfl, (tw_1 (i := 161) rfl rfl)⟩, List.forall_mem_cons.mpr ⟨⟨_, cT_2, 7, cY_2, rfl, by decide, cU_2, cP_2, cN_2, rfl, rfl, rfl, (tw_1 (i := 162) rfl rfl)⟩, List.forall_mem_cons.mpr ⟨⟨_, cT_2, 7, cY_2, rfl, by decide, cU_2, cP_2, cN_2, rfl, rfl, rfl, (tw_1 (i := 163) rfl rfl)⟩, List.forall_mem_cons.mpr ⟨⟨_, cT_4, 2, cY_4, rfl, by decide, cU_4, cP_4, cN_4, rfl, rfl, rfl, (tw_1 (i := 87) rfl rfl)⟩, List.forall_mem_cons.mpr ⟨⟨_, cT_10, 3, cY_10, rfl, by decide, cU_10, cP_10, cN_10, rfl, rfl, rfl, (tw_1 (i := 109) rfl rfl)⟩, List.forall_mem_cons.mpr ⟨⟨_, cT_2, 7, cY_2, rfl, by decide, cU_2, cP_2, cN_2, rfl, rfl, rfl, (tw_1 (i := 158) rfl rfl)⟩, List.forall_mem_cons.mpr ⟨⟨_, cT_10, 3, cY_10, rfl, by decide, cU_10, cP_10, cN_10, rfl, rfl, rfl, (tw_1 (i := 105) rfl rfl)⟩, List.forall_mem_cons.mpr ⟨⟨_, cT_4, 2, cY_4, rfl, by decide, cU_4, cP_4, cN_4, rfl, rfl, rfl, (tw_1 (i := 85) rfl rfl)⟩, List.forall_mem_cons.mpr ⟨⟨_, cT_3, 6, cY_3, rfl, by decide, cU_3, cP_3, cN_3, rfl, rfl, rfl, (tw_1 (i := 58) rfl rfl)⟩, fun _ h => absurd h List.not_mem_nil⟩⟩⟩⟩⟩⟩⟩⟩⟩⟩⟩⟩
def fL_2_1 : List (Nat × Nat × Nat × FieldType × Bool) := [(92, 1, 4, .int, false), (95, 1, 5, .int, false), (102, 3, 2, .int, false), (126, 1, 0, (.array .int), true), (130, 1, 1, (.array .int), true), (133, 1, 2, (.array .int), true), (136, 1, 3, (.array .int), true), (139, 3, 4, .int, false), (155, 3, 5, (.array .long), true)]
theorem fK_2_1 : ∀ e ∈ fL_2_1, x_fok "PhaseReader$Expander" e := List.forall_mem_cons.mpr ⟨⟨_, cT_1, 6, cY_1, rfl, by decide, cU_1, cP_1, cN_1, rfl, rfl, rfl, (tw_1 (i := 138) rfl rfl)⟩, List.forall_mem_cons.mpr ⟨⟨_, cT_1, 6, cY_1, rfl, by decide, cU_1, cP_1, cN_1, rfl, rfl, rfl, (tw_1 (i := 139) rfl rfl)⟩, List.forall_mem_cons.mpr ⟨⟨_, cT_3, 6, cY_3, rfl, by decide, cU_3, cP_3, cN_3, rfl, rfl, rfl, (tw_1 (i := 61) rfl rfl)⟩, List.forall_mem_cons.mpr ⟨⟨_, cT_1, 6, cY_1, rfl, by decide, cU_1, cP_1, cN_1, rfl, rfl, rfl, (tw_1 (i := 130) rfl rfl)⟩, List.forall_mem_cons.mpr ⟨⟨_, cT_1, 6, cY_1, rfl, by decide, cU_1, cP_1, cN_1, rfl, rfl, rfl, (tw_1 (i := 132) rfl rfl)⟩, List.forall_mem_cons.mpr ⟨⟨_, cT_1, 6, cY_1, rfl, by decide, cU_1, cP_1, cN_1, rfl, rfl, rfl, (tw_1 (i := 134) rfl rfl)⟩, List.forall_mem_cons.mpr ⟨⟨_, cT_1, 6, cY_1, rfl, by decide, cU_1, cP_1, cN_1, rfl, rfl, rfl, (tw_1 (i := 136) rfl rfl)⟩, List.forall_mem_cons.mpr ⟨⟨_, cT_3, 6, cY_3, rfl, by decide, cU_3, cP_3, cN_3, rfl, rfl, rfl, (tw_1 (i := 66) rfl rfl)⟩, List.forall_mem_cons.mpr ⟨⟨_, cT_3, 6, cY_3, rfl, by decide, cU_3, cP_3, cN_3, rfl, rfl, rfl, (tw_1 (i := 69) rfl rfl)⟩, fun _ h => absurd h List.not_mem_nil⟩⟩⟩⟩⟩⟩⟩⟩⟩
def fL_2 : List (Nat × Nat × Nat × FieldType × Bool) := [(16, 2, 0, (.object "PhaseReader$MacroTable"), true), (25, 2, 1, (.object "PhaseReader$TokenRow"), true), (29, 2, 3, (.object "PhaseReader$TokenRow"), true), (32, 2, 4, (.object "PhaseReader$TokenRow"), true), (37, 2, 5, (.object "PhaseReader$TokenRow"), true), (42, 2, 6, (.array (.object "PhaseReader$Arguments")), true), (47, 4, 1, .int, false), (51, 10, 2, .int, false), (52, 2, 2, .int, false), (71, 10, 0, (.array .long), true), (84, 4, 0, (.array (.object "PhaseReader$Macro")), true), (88, 3, 1, .boolean, false), (92, 1, 4, .int, false), (95, 1, 5, .int, false), (102, 3, 2, .int, false), (126, 1, 0, (.array .int), true), (130, 1, 1, (.array .int), true), (133, 1, 2, (.array .int), true), (136, 1, 3, (.array .int), true), (139, 3, 4, .int, false), (155, 3, 5, (.array .long), true)]
theorem fK_2 : ∀ e ∈ fL_2, x_fok "PhaseReader$Expander" e := by
  have h : fL_2 = fL_2_0 ++ (fL_2_1) := rfl
  rw [h]
  exact List.forall_mem_append.mpr ⟨fK_2_0, fK_2_1⟩
def fL_3_0 : List (Nat × Nat × Nat × FieldType × Bool) := [(9, 3, 3, (.array .long), true), (13, 3, 5, (.array .long), true), (16, 3, 4, .int, false), (24, 3, 2, .int, false)]
theorem fK_3_0 : ∀ e ∈ fL_3_0, x_fok "PhaseReader$Macro" e := List.forall_mem_cons.mpr ⟨⟨_, cT_3, 6, cY_3, rfl, by decide, cU_3, cP_3, cN_3, rfl, rfl, rfl, (tw_1 (i := 62) rfl rfl)⟩, List.forall_mem_cons.mpr ⟨⟨_, cT_3, 6, cY_3, rfl, by decide, cU_3, cP_3, cN_3, rfl, rfl, rfl, (tw_1 (i := 67) rfl rfl)⟩, List.forall_mem_cons.mpr ⟨⟨_, cT_3, 6, cY_3, rfl, by decide, cU_3, cP_3, cN_3, rfl, rfl, rfl, (tw_1 (i := 64) rfl rfl)⟩, List.forall_mem_cons.mpr ⟨⟨_, cT_3, 6, cY_3, rfl, by decide, cU_3, cP_3, cN_3, rfl, rfl, rfl, (tw_1 (i := 59) rfl rfl)⟩, fun _ h => absurd h List.not_mem_nil⟩⟩⟩⟩
def fL_3 : List (Nat × Nat × Nat × FieldType × Bool) := [(9, 3, 3, (.array .long), true), (13, 3, 5, (.array .long), true), (16, 3, 4, .int, false), (24, 3, 2, .int, false)]
theorem fK_3 : ∀ e ∈ fL_3, x_fok "PhaseReader$Macro" e := by
  have h : fL_3 = fL_3_0 := rfl
  rw [h]
  exact fK_3_0
def fL_4_0 : List (Nat × Nat × Nat × FieldType × Bool) := [(13, 4, 0, (.array (.object "PhaseReader$Macro")), true), (18, 4, 1, .int, false), (22, 3, 0, .long, false), (26, 10, 0, (.array .long), true), (36, 3, 1, .boolean, false), (40, 3, 2, .int, false), (43, 3, 3, (.array .long), true), (46, 3, 4, .int, false), (47, 3, 5, (.array .long), true)]
theorem fK_4_0 : ∀ e ∈ fL_4_0, x_fok "PhaseReader$MacroTable" e := List.forall_mem_cons.mpr ⟨⟨_, cT_4, 2, cY_4, rfl, by decide, cU_4, cP_4, cN_4, rfl, rfl, rfl, (tw_1 (i := 84) rfl rfl)⟩, List.forall_mem_cons.mpr ⟨⟨_, cT_4, 2, cY_4, rfl, by decide, cU_4, cP_4, cN_4, rfl, rfl, rfl, (tw_1 (i := 86) rfl rfl)⟩, List.forall_mem_cons.mpr ⟨⟨_, cT_3, 6, cY_3, rfl, by decide, cU_3, cP_3, cN_3, rfl, rfl, rfl, (tw_1 (i := 56) rfl rfl)⟩, List.forall_mem_cons.mpr ⟨⟨_, cT_10, 3, cY_10, rfl, by decide, cU_10, cP_10, cN_10, rfl, rfl, rfl, (tw_1 (i := 101) rfl rfl)⟩, List.forall_mem_cons.mpr ⟨⟨_, cT_3, 6, cY_3, rfl, by decide, cU_3, cP_3, cN_3, rfl, rfl, rfl, (tw_1 (i := 57) rfl rfl)⟩, List.forall_mem_cons.mpr ⟨⟨_, cT_3, 6, cY_3, rfl, by decide, cU_3, cP_3, cN_3, rfl, rfl, rfl, (tw_1 (i := 60) rfl rfl)⟩, List.forall_mem_cons.mpr ⟨⟨_, cT_3, 6, cY_3, rfl, by decide, cU_3, cP_3, cN_3, rfl, rfl, rfl, (tw_1 (i := 63) rfl rfl)⟩, List.forall_mem_cons.mpr ⟨⟨_, cT_3, 6, cY_3, rfl, by decide, cU_3, cP_3, cN_3, rfl, rfl, rfl, (tw_1 (i := 65) rfl rfl)⟩, List.forall_mem_cons.mpr ⟨⟨_, cT_3, 6, cY_3, rfl, by decide, cU_3, cP_3, cN_3, rfl, rfl, rfl, (tw_1 (i := 68) rfl rfl)⟩, fun _ h => absurd h List.not_mem_nil⟩⟩⟩⟩⟩⟩⟩⟩⟩
def fL_4 : List (Nat × Nat × Nat × FieldType × Bool) := [(13, 4, 0, (.array (.object "PhaseReader$Macro")), true), (18, 4, 1, .int, false), (22, 3, 0, .long, false), (26, 10, 0, (.array .long), true), (36, 3, 1, .boolean, false), (40, 3, 2, .int, false), (43, 3, 3, (.array .long), true), (46, 3, 4, .int, false), (47, 3, 5, (.array .long), true)]
theorem fK_4 : ∀ e ∈ fL_4, x_fok "PhaseReader$MacroTable" e := by
  have h : fL_4 = fL_4_0 := rfl
  rw [h]
  exact fK_4_0
def fL_5_0 : List (Nat × Nat × Nat × FieldType × Bool) := [(14, 5, 0, (.object "PhaseReader$Tree"), true), (20, 5, 1, (.array .long), true), (24, 5, 2, (.array .int), true), (28, 5, 5, (.array .long), true), (31, 5, 6, (.array .boolean), true), (39, 11, 3, .int, false), (53, 10, 2, .int, false), (62, 5, 3, .int, false), (63, 10, 0, (.array .long), true), (68, 5, 4, .int, false), (71, 5, 7, .int, false), (127, 11, 2, (.array .int), true)]
theorem fK_5_0 : ∀ e ∈ fL_5_0, x_fok "PhaseReader$Parser" e := List.forall_mem_cons.mpr ⟨⟨_, cT_5, 8, cY_5, rfl, by decide, cU_5, cP_5, cN_5, rfl, rfl, rfl, (tw_2 (i := 63) rfl rfl)⟩, List.forall_mem_cons.mpr ⟨⟨_, cT_5, 8, cY_5, rfl, by decide, cU_5, cP_5, cN_5, rfl, rfl, rfl, (tw_2 (i := 65) rfl rfl)⟩, List.forall_mem_cons.mpr ⟨⟨_, cT_5, 8, cY_5, rfl, by decide, cU_5, cP_5, cN_5, rfl, rfl, rfl, (tw_2 (i := 66) rfl rfl)⟩, List.forall_mem_cons.mpr ⟨⟨_, cT_5, 8, cY_5, rfl, by decide, cU_5, cP_5, cN_5, rfl, rfl, rfl, (tw_2 (i := 69) rfl rfl)⟩, List.forall_mem_cons.mpr ⟨⟨_, cT_5, 8, cY_5, rfl, by decide, cU_5, cP_5, cN_5, rfl, rfl, rfl, (tw_2 (i := 70) rfl rfl)⟩, List.forall_mem_cons.mpr ⟨⟨_, cT_11, 4, cY_11, rfl, by decide, cU_11, cP_11, cN_11, rfl, rfl, rfl, (tw_2 (i := 52) rfl rfl)⟩, List.forall_mem_cons.mpr ⟨⟨_, cT_10, 3, cY_10, rfl, by decide, cU_10, cP_10, cN_10, rfl, rfl, rfl, (tw_1 (i := 112) rfl rfl)⟩, List.forall_mem_cons.mpr ⟨⟨_, cT_5, 8, cY_5, rfl, by decide, cU_5, cP_5, cN_5, rfl, rfl, rfl, (tw_2 (i := 67) rfl rfl)⟩, List.forall_mem_cons.mpr ⟨⟨_, cT_10, 3, cY_10, rfl, by decide, cU_10, cP_10, cN_10, rfl, rfl, rfl, (tw_1 (i := 102) rfl rfl)⟩, List.forall_mem_cons.mpr ⟨⟨_, cT_5, 8, cY_5, rfl, by decide, cU_5, cP_5, cN_5, rfl, rfl, rfl, (tw_2 (i := 68) rfl rfl)⟩, List.forall_mem_cons.mpr ⟨⟨_, cT_5, 8, cY_5, rfl, by decide, cU_5, cP_5, cN_5, rfl, rfl, rfl, (tw_2 (i := 71) rfl rfl)⟩, List.forall_mem_cons.mpr ⟨⟨_, cT_11, 4, cY_11, rfl, by decide, cU_11, cP_11, cN_11, rfl, rfl, rfl, (tw_2 (i := 49) rfl rfl)⟩, fun _ h => absurd h List.not_mem_nil⟩⟩⟩⟩⟩⟩⟩⟩⟩⟩⟩⟩
def fL_5_1 : List (Nat × Nat × Nat × FieldType × Bool) := [(140, 11, 0, (.array .int), true), (156, 11, 1, (.array .int), true)]
theorem fK_5_1 : ∀ e ∈ fL_5_1, x_fok "PhaseReader$Parser" e := List.forall_mem_cons.mpr ⟨⟨_, cT_11, 4, cY_11, rfl, by decide, cU_11, cP_11, cN_11, rfl, rfl, rfl, (tw_2 (i := 43) rfl rfl)⟩, List.forall_mem_cons.mpr ⟨⟨_, cT_11, 4, cY_11, rfl, by decide, cU_11, cP_11, cN_11, rfl, rfl, rfl, (tw_2 (i := 46) rfl rfl)⟩, fun _ h => absurd h List.not_mem_nil⟩⟩
def fL_5 : List (Nat × Nat × Nat × FieldType × Bool) := [(14, 5, 0, (.object "PhaseReader$Tree"), true), (20, 5, 1, (.array .long), true), (24, 5, 2, (.array .int), true), (28, 5, 5, (.array .long), true), (31, 5, 6, (.array .boolean), true), (39, 11, 3, .int, false), (53, 10, 2, .int, false), (62, 5, 3, .int, false), (63, 10, 0, (.array .long), true), (68, 5, 4, .int, false), (71, 5, 7, .int, false), (127, 11, 2, (.array .int), true), (140, 11, 0, (.array .int), true), (156, 11, 1, (.array .int), true)]
theorem fK_5 : ∀ e ∈ fL_5, x_fok "PhaseReader$Parser" e := by
  have h : fL_5 = fL_5_0 ++ (fL_5_1) := rfl
  rw [h]
  exact List.forall_mem_append.mpr ⟨fK_5_0, fK_5_1⟩
def fL_6_0 : List (Nat × Nat × Nat × FieldType × Bool) := [(16, 6, 0, (.object "PhaseReader$Expander"), true), (23, 6, 1, (.object "PhaseReader$Scanner"), true), (29, 6, 2, (.array (.object "PhaseReader$Source")), true), (37, 6, 4, .int, false), (41, 6, 3, .int, false), (47, 8, 1, .boolean, false), (51, 8, 0, .int, false), (58, 8, 7, .int, false), (61, 8, 2, (.object "PhaseReader$TokenRow"), true), (65, 10, 2, .int, false), (81, 8, 10, .boolean, false), (88, 8, 8, .int, false)]
theorem fK_6_0 : ∀ e ∈ fL_6_0, x_fok "PhaseReader$Preprocessor" e := List.forall_mem_cons.mpr ⟨⟨_, cT_6, 5, cY_6, rfl, by decide, cU_6, cP_6, cN_6, rfl, rfl, rfl, (tw_2 (i := 13) rfl rfl)⟩, List.forall_mem_cons.mpr ⟨⟨_, cT_6, 5, cY_6, rfl, by decide, cU_6, cP_6, cN_6, rfl, rfl, rfl, (tw_2 (i := 15) rfl rfl)⟩, List.forall_mem_cons.mpr ⟨⟨_, cT_6, 5, cY_6, rfl, by decide, cU_6, cP_6, cN_6, rfl, rfl, rfl, (tw_2 (i := 16) rfl rfl)⟩, List.forall_mem_cons.mpr ⟨⟨_, cT_6, 5, cY_6, rfl, by decide, cU_6, cP_6, cN_6, rfl, rfl, rfl, (tw_2 (i := 18) rfl rfl)⟩, List.forall_mem_cons.mpr ⟨⟨_, cT_6, 5, cY_6, rfl, by decide, cU_6, cP_6, cN_6, rfl, rfl, rfl, (tw_2 (i := 17) rfl rfl)⟩, List.forall_mem_cons.mpr ⟨⟨_, cT_8, 12, cY_8, rfl, by decide, cU_8, cP_8, cN_8, rfl, rfl, rfl, (tw_1 (i := 210) rfl rfl)⟩, List.forall_mem_cons.mpr ⟨⟨_, cT_8, 12, cY_8, rfl, by decide, cU_8, cP_8, cN_8, rfl, rfl, rfl, (tw_1 (i := 206) rfl rfl)⟩, List.forall_mem_cons.mpr ⟨⟨_, cT_8, 12, cY_8, rfl, by decide, cU_8, cP_8, cN_8, rfl, rfl, rfl, (tw_1 (i := 219) rfl rfl)⟩, List.forall_mem_cons.mpr ⟨⟨_, cT_8, 12, cY_8, rfl, by decide, cU_8, cP_8, cN_8, rfl, rfl, rfl, (tw_1 (i := 212) rfl rfl)⟩, List.forall_mem_cons.mpr ⟨⟨_, cT_10, 3, cY_10, rfl, by decide, cU_10, cP_10, cN_10, rfl, rfl, rfl, (tw_1 (i := 111) rfl rfl)⟩, List.forall_mem_cons.mpr ⟨⟨_, cT_8, 12, cY_8, rfl, by decide, cU_8, cP_8, cN_8, rfl, rfl, rfl, (tw_1 (i := 225) rfl rfl)⟩, List.forall_mem_cons.mpr ⟨⟨_, cT_8, 12, cY_8, rfl, by decide, cU_8, cP_8, cN_8, rfl, rfl, rfl, (tw_1 (i := 221) rfl rfl)⟩, fun _ h => absurd h List.not_mem_nil⟩⟩⟩⟩⟩⟩⟩⟩⟩⟩⟩⟩
def fL_6_1 : List (Nat × Nat × Nat × FieldType × Bool) := [(91, 10, 0, (.array .long), true), (105, 8, 9, .int, false), (141, 2, 0, (.object "PhaseReader$MacroTable"), true), (173, 8, 4, (.array .boolean), true)]
theorem fK_6_1 : ∀ e ∈ fL_6_1, x_fok "PhaseReader$Preprocessor" e := List.forall_mem_cons.mpr ⟨⟨_, cT_10, 3, cY_10, rfl, by decide, cU_10, cP_10, cN_10, rfl, rfl, rfl, (tw_1 (i := 103) rfl rfl)⟩, List.forall_mem_cons.mpr ⟨⟨_, cT_8, 12, cY_8, rfl, by decide, cU_8, cP_8, cN_8, rfl, rfl, rfl, (tw_1 (i := 223) rfl rfl)⟩, List.forall_mem_cons.mpr ⟨⟨_, cT_2, 7, cY_2, rfl, by decide, cU_2, cP_2, cN_2, rfl, rfl, rfl, (tw_1 (i := 154) rfl rfl)⟩, List.forall_mem_cons.mpr ⟨⟨_, cT_8, 12, cY_8, rfl, by decide, cU_8, cP_8, cN_8, rfl, rfl, rfl, (tw_1 (i := 215) rfl rfl)⟩, fun _ h => absurd h List.not_mem_nil⟩⟩⟩⟩
def fL_6 : List (Nat × Nat × Nat × FieldType × Bool) := [(16, 6, 0, (.object "PhaseReader$Expander"), true), (23, 6, 1, (.object "PhaseReader$Scanner"), true), (29, 6, 2, (.array (.object "PhaseReader$Source")), true), (37, 6, 4, .int, false), (41, 6, 3, .int, false), (47, 8, 1, .boolean, false), (51, 8, 0, .int, false), (58, 8, 7, .int, false), (61, 8, 2, (.object "PhaseReader$TokenRow"), true), (65, 10, 2, .int, false), (81, 8, 10, .boolean, false), (88, 8, 8, .int, false), (91, 10, 0, (.array .long), true), (105, 8, 9, .int, false), (141, 2, 0, (.object "PhaseReader$MacroTable"), true), (173, 8, 4, (.array .boolean), true)]
theorem fK_6 : ∀ e ∈ fL_6, x_fok "PhaseReader$Preprocessor" e := by
  have h : fL_6 = fL_6_0 ++ (fL_6_1) := rfl
  rw [h]
  exact List.forall_mem_append.mpr ⟨fK_6_0, fK_6_1⟩
def fL_7_0 : List (Nat × Nat × Nat × FieldType × Bool) := [(11, 7, 0, (.array .char), true), (17, 7, 1, (.array .int), true), (21, 8, 1, .boolean, false), (38, 7, 2, .int, false), (42, 9, 1, .int, false), (47, 9, 0, (.array .char), true), (70, 8, 0, .int, false)]
theorem fK_7_0 : ∀ e ∈ fL_7_0, x_fok "PhaseReader$Scanner" e := List.forall_mem_cons.mpr ⟨⟨_, cT_7, 3, cY_7, rfl, by decide, cU_7, cP_7, cN_7, rfl, rfl, rfl, (tw_1 (i := 185) rfl rfl)⟩, List.forall_mem_cons.mpr ⟨⟨_, cT_7, 3, cY_7, rfl, by decide, cU_7, cP_7, cN_7, rfl, rfl, rfl, (tw_1 (i := 186) rfl rfl)⟩, List.forall_mem_cons.mpr ⟨⟨_, cT_8, 12, cY_8, rfl, by decide, cU_8, cP_8, cN_8, rfl, rfl, rfl, (tw_1 (i := 208) rfl rfl)⟩, List.forall_mem_cons.mpr ⟨⟨_, cT_7, 3, cY_7, rfl, by decide, cU_7, cP_7, cN_7, rfl, rfl, rfl, (tw_1 (i := 187) rfl rfl)⟩, List.forall_mem_cons.mpr ⟨⟨_, cT_9, 2, cY_9, rfl, by decide, cU_9, cP_9, cN_9, rfl, rfl, rfl, (tw_2 (i := 97) rfl rfl)⟩, List.forall_mem_cons.mpr ⟨⟨_, cT_9, 2, cY_9, rfl, by decide, cU_9, cP_9, cN_9, rfl, rfl, rfl, (tw_2 (i := 95) rfl rfl)⟩, List.forall_mem_cons.mpr ⟨⟨_, cT_8, 12, cY_8, rfl, by decide, cU_8, cP_8, cN_8, rfl, rfl, rfl, (tw_1 (i := 207) rfl rfl)⟩, fun _ h => absurd h List.not_mem_nil⟩⟩⟩⟩⟩⟩⟩
def fL_7 : List (Nat × Nat × Nat × FieldType × Bool) := [(11, 7, 0, (.array .char), true), (17, 7, 1, (.array .int), true), (21, 8, 1, .boolean, false), (38, 7, 2, .int, false), (42, 9, 1, .int, false), (47, 9, 0, (.array .char), true), (70, 8, 0, .int, false)]
theorem fK_7 : ∀ e ∈ fL_7, x_fok "PhaseReader$Scanner" e := by
  have h : fL_7 = fL_7_0 := rfl
  rw [h]
  exact fK_7_0
def fL_8_0 : List (Nat × Nat × Nat × FieldType × Bool) := [(16, 8, 2, (.object "PhaseReader$TokenRow"), true), (22, 8, 3, (.array .int), true), (26, 8, 4, (.array .boolean), true), (30, 8, 5, (.array .boolean), true), (33, 8, 6, (.array .boolean), true), (36, 8, 0, .int, false), (40, 8, 1, .boolean, false), (44, 10, 2, .int, false), (47, 8, 7, .int, false), (50, 8, 8, .int, false), (53, 8, 9, .int, false), (56, 8, 10, .boolean, false)]
theorem fK_8_0 : ∀ e ∈ fL_8_0, x_fok "PhaseReader$Source" e := List.forall_mem_cons.mpr ⟨⟨_, cT_8, 12, cY_8, rfl, by decide, cU_8, cP_8, cN_8, rfl, rfl, rfl, (tw_1 (i := 211) rfl rfl)⟩, List.forall_mem_cons.mpr ⟨⟨_, cT_8, 12, cY_8, rfl, by decide, cU_8, cP_8, cN_8, rfl, rfl, rfl, (tw_1 (i := 213) rfl rfl)⟩, List.forall_mem_cons.mpr ⟨⟨_, cT_8, 12, cY_8, rfl, by decide, cU_8, cP_8, cN_8, rfl, rfl, rfl, (tw_1 (i := 214) rfl rfl)⟩, List.forall_mem_cons.mpr ⟨⟨_, cT_8, 12, cY_8, rfl, by decide, cU_8, cP_8, cN_8, rfl, rfl, rfl, (tw_1 (i := 216) rfl rfl)⟩, List.forall_mem_cons.mpr ⟨⟨_, cT_8, 12, cY_8, rfl, by decide, cU_8, cP_8, cN_8, rfl, rfl, rfl, (tw_1 (i := 217) rfl rfl)⟩, List.forall_mem_cons.mpr ⟨⟨_, cT_8, 12, cY_8, rfl, by decide, cU_8, cP_8, cN_8, rfl, rfl, rfl, (tw_1 (i := 205) rfl rfl)⟩, List.forall_mem_cons.mpr ⟨⟨_, cT_8, 12, cY_8, rfl, by decide, cU_8, cP_8, cN_8, rfl, rfl, rfl, (tw_1 (i := 209) rfl rfl)⟩, List.forall_mem_cons.mpr ⟨⟨_, cT_10, 3, cY_10, rfl, by decide, cU_10, cP_10, cN_10, rfl, rfl, rfl, (tw_1 (i := 110) rfl rfl)⟩, List.forall_mem_cons.mpr ⟨⟨_, cT_8, 12, cY_8, rfl, by decide, cU_8, cP_8, cN_8, rfl, rfl, rfl, (tw_1 (i := 218) rfl rfl)⟩, List.forall_mem_cons.mpr ⟨⟨_, cT_8, 12, cY_8, rfl, by decide, cU_8, cP_8, cN_8, rfl, rfl, rfl, (tw_1 (i := 220) rfl rfl)⟩, List.forall_mem_cons.mpr ⟨⟨_, cT_8, 12, cY_8, rfl, by decide, cU_8, cP_8, cN_8, rfl, rfl, rfl, (tw_1 (i := 222) rfl rfl)⟩, List.forall_mem_cons.mpr ⟨⟨_, cT_8, 12, cY_8, rfl, by decide, cU_8, cP_8, cN_8, rfl, rfl, rfl, (tw_1 (i := 224) rfl rfl)⟩, fun _ h => absurd h List.not_mem_nil⟩⟩⟩⟩⟩⟩⟩⟩⟩⟩⟩⟩
def fL_8_1 : List (Nat × Nat × Nat × FieldType × Bool) := [(59, 8, 11, .int, false), (66, 10, 0, (.array .long), true)]
theorem fK_8_1 : ∀ e ∈ fL_8_1, x_fok "PhaseReader$Source" e := List.forall_mem_cons.mpr ⟨⟨_, cT_8, 12, cY_8, rfl, by decide, cU_8, cP_8, cN_8, rfl, rfl, rfl, (tw_1 (i := 226) rfl rfl)⟩, List.forall_mem_cons.mpr ⟨⟨_, cT_10, 3, cY_10, rfl, by decide, cU_10, cP_10, cN_10, rfl, rfl, rfl, (tw_1 (i := 104) rfl rfl)⟩, fun _ h => absurd h List.not_mem_nil⟩⟩
def fL_8 : List (Nat × Nat × Nat × FieldType × Bool) := [(16, 8, 2, (.object "PhaseReader$TokenRow"), true), (22, 8, 3, (.array .int), true), (26, 8, 4, (.array .boolean), true), (30, 8, 5, (.array .boolean), true), (33, 8, 6, (.array .boolean), true), (36, 8, 0, .int, false), (40, 8, 1, .boolean, false), (44, 10, 2, .int, false), (47, 8, 7, .int, false), (50, 8, 8, .int, false), (53, 8, 9, .int, false), (56, 8, 10, .boolean, false), (59, 8, 11, .int, false), (66, 10, 0, (.array .long), true)]
theorem fK_8 : ∀ e ∈ fL_8, x_fok "PhaseReader$Source" e := by
  have h : fL_8 = fL_8_0 ++ (fL_8_1) := rfl
  rw [h]
  exact List.forall_mem_append.mpr ⟨fK_8_0, fK_8_1⟩
def fL_9_0 : List (Nat × Nat × Nat × FieldType × Bool) := [(9, 9, 0, (.array .char), true), (13, 9, 1, .int, false)]
theorem fK_9_0 : ∀ e ∈ fL_9_0, x_fok "PhaseReader$Text" e := List.forall_mem_cons.mpr ⟨⟨_, cT_9, 2, cY_9, rfl, by decide, cU_9, cP_9, cN_9, rfl, rfl, rfl, (tw_2 (i := 94) rfl rfl)⟩, List.forall_mem_cons.mpr ⟨⟨_, cT_9, 2, cY_9, rfl, by decide, cU_9, cP_9, cN_9, rfl, rfl, rfl, (tw_2 (i := 96) rfl rfl)⟩, fun _ h => absurd h List.not_mem_nil⟩⟩
def fL_9 : List (Nat × Nat × Nat × FieldType × Bool) := [(9, 9, 0, (.array .char), true), (13, 9, 1, .int, false)]
theorem fK_9 : ∀ e ∈ fL_9, x_fok "PhaseReader$Text" e := by
  have h : fL_9 = fL_9_0 := rfl
  rw [h]
  exact fK_9_0
def fL_10_0 : List (Nat × Nat × Nat × FieldType × Bool) := [(9, 10, 0, (.array .long), true), (13, 10, 1, (.array .int), true), (17, 10, 2, .int, false)]
theorem fK_10_0 : ∀ e ∈ fL_10_0, x_fok "PhaseReader$TokenRow" e := List.forall_mem_cons.mpr ⟨⟨_, cT_10, 3, cY_10, rfl, by decide, cU_10, cP_10, cN_10, rfl, rfl, rfl, (tw_1 (i := 100) rfl rfl)⟩, List.forall_mem_cons.mpr ⟨⟨_, cT_10, 3, cY_10, rfl, by decide, cU_10, cP_10, cN_10, rfl, rfl, rfl, (tw_1 (i := 107) rfl rfl)⟩, List.forall_mem_cons.mpr ⟨⟨_, cT_10, 3, cY_10, rfl, by decide, cU_10, cP_10, cN_10, rfl, rfl, rfl, (tw_1 (i := 108) rfl rfl)⟩, fun _ h => absurd h List.not_mem_nil⟩⟩⟩
def fL_10 : List (Nat × Nat × Nat × FieldType × Bool) := [(9, 10, 0, (.array .long), true), (13, 10, 1, (.array .int), true), (17, 10, 2, .int, false)]
theorem fK_10 : ∀ e ∈ fL_10, x_fok "PhaseReader$TokenRow" e := by
  have h : fL_10 = fL_10_0 := rfl
  rw [h]
  exact fK_10_0
def fL_11_0 : List (Nat × Nat × Nat × FieldType × Bool) := [(11, 11, 0, (.array .int), true), (15, 11, 1, (.array .int), true), (18, 11, 2, (.array .int), true), (21, 11, 3, .int, false)]
theorem fK_11_0 : ∀ e ∈ fL_11_0, x_fok "PhaseReader$Tree" e := List.forall_mem_cons.mpr ⟨⟨_, cT_11, 4, cY_11, rfl, by decide, cU_11, cP_11, cN_11, rfl, rfl, rfl, (tw_2 (i := 42) rfl rfl)⟩, List.forall_mem_cons.mpr ⟨⟨_, cT_11, 4, cY_11, rfl, by decide, cU_11, cP_11, cN_11, rfl, rfl, rfl, (tw_2 (i := 45) rfl rfl)⟩, List.forall_mem_cons.mpr ⟨⟨_, cT_11, 4, cY_11, rfl, by decide, cU_11, cP_11, cN_11, rfl, rfl, rfl, (tw_2 (i := 48) rfl rfl)⟩, List.forall_mem_cons.mpr ⟨⟨_, cT_11, 4, cY_11, rfl, by decide, cU_11, cP_11, cN_11, rfl, rfl, rfl, (tw_2 (i := 51) rfl rfl)⟩, fun _ h => absurd h List.not_mem_nil⟩⟩⟩⟩
def fL_11 : List (Nat × Nat × Nat × FieldType × Bool) := [(11, 11, 0, (.array .int), true), (15, 11, 1, (.array .int), true), (18, 11, 2, (.array .int), true), (21, 11, 3, .int, false)]
theorem fK_11 : ∀ e ∈ fL_11, x_fok "PhaseReader$Tree" e := by
  have h : fL_11 = fL_11_0 := rfl
  rw [h]
  exact fK_11_0
def fL_12_0 : List (Nat × Nat × Nat × FieldType × Bool) := [(7, 12, 0, (.array .int), true), (13, 12, 1, (.array .int), true), (16, 12, 3, (.array .int), true), (19, 12, 4, (.array .int), true), (22, 12, 6, (.array .long), true), (26, 12, 7, (.array .int), true), (29, 12, 8, (.array .int), true), (32, 12, 9, (.array .int), true), (35, 12, 10, (.array .int), true), (38, 12, 11, (.array .int), true), (41, 12, 14, (.array .boolean), true), (45, 12, 15, (.array .boolean), true)]
theorem fK_12_0 : ∀ e ∈ fL_12_0, x_fok "PhaseReaderModel" e := List.forall_mem_cons.mpr ⟨⟨_, cT_12, 72, cY_12, rfl, by decide, cU_12, cP_12, cN_12, rfl, rfl, rfl, (tw_4 (i := 204) rfl rfl)⟩, List.forall_mem_cons.mpr ⟨⟨_, cT_12, 72, cY_12, rfl, by decide, cU_12, cP_12, cN_12, rfl, rfl, rfl, (tw_4 (i := 205) rfl rfl)⟩, List.forall_mem_cons.mpr ⟨⟨_, cT_12, 72, cY_12, rfl, by decide, cU_12, cP_12, cN_12, rfl, rfl, rfl, (tw_4 (i := 207) rfl rfl)⟩, List.forall_mem_cons.mpr ⟨⟨_, cT_12, 72, cY_12, rfl, by decide, cU_12, cP_12, cN_12, rfl, rfl, rfl, (tw_4 (i := 208) rfl rfl)⟩, List.forall_mem_cons.mpr ⟨⟨_, cT_12, 72, cY_12, rfl, by decide, cU_12, cP_12, cN_12, rfl, rfl, rfl, (tw_4 (i := 210) rfl rfl)⟩, List.forall_mem_cons.mpr ⟨⟨_, cT_12, 72, cY_12, rfl, by decide, cU_12, cP_12, cN_12, rfl, rfl, rfl, (tw_4 (i := 211) rfl rfl)⟩, List.forall_mem_cons.mpr ⟨⟨_, cT_12, 72, cY_12, rfl, by decide, cU_12, cP_12, cN_12, rfl, rfl, rfl, (tw_4 (i := 212) rfl rfl)⟩, List.forall_mem_cons.mpr ⟨⟨_, cT_12, 72, cY_12, rfl, by decide, cU_12, cP_12, cN_12, rfl, rfl, rfl, (tw_4 (i := 213) rfl rfl)⟩, List.forall_mem_cons.mpr ⟨⟨_, cT_12, 72, cY_12, rfl, by decide, cU_12, cP_12, cN_12, rfl, rfl, rfl, (tw_4 (i := 214) rfl rfl)⟩, List.forall_mem_cons.mpr ⟨⟨_, cT_12, 72, cY_12, rfl, by decide, cU_12, cP_12, cN_12, rfl, rfl, rfl, (tw_4 (i := 215) rfl rfl)⟩, List.forall_mem_cons.mpr ⟨⟨_, cT_12, 72, cY_12, rfl, by decide, cU_12, cP_12, cN_12, rfl, rfl, rfl, (tw_4 (i := 218) rfl rfl)⟩, List.forall_mem_cons.mpr ⟨⟨_, cT_12, 72, cY_12, rfl, by decide, cU_12, cP_12, cN_12, rfl, rfl, rfl, (tw_4 (i := 219) rfl rfl)⟩, fun _ h => absurd h List.not_mem_nil⟩⟩⟩⟩⟩⟩⟩⟩⟩⟩⟩⟩
def fL_12_1 : List (Nat × Nat × Nat × FieldType × Bool) := [(48, 12, 18, (.array .long), true), (51, 12, 19, (.array .int), true), (54, 12, 20, (.array .long), true), (57, 12, 21, (.array .long), true), (60, 12, 22, (.array .int), true), (63, 12, 24, (.array .long), true), (66, 12, 25, (.array .int), true), (69, 12, 27, (.array .long), true), (72, 12, 28, (.array .int), true), (75, 12, 30, (.array .long), true), (78, 12, 31, (.array .int), true), (81, 12, 33, (.array .long), true)]
theorem fK_12_1 : ∀ e ∈ fL_12_1, x_fok "PhaseReaderModel" e := List.forall_mem_cons.mpr ⟨⟨_, cT_12, 72, cY_12, rfl, by decide, cU_12, cP_12, cN_12, rfl, rfl, rfl, (tw_4 (i := 222) rfl rfl)⟩, List.forall_mem_cons.mpr ⟨⟨_, cT_12, 72, cY_12, rfl, by decide, cU_12, cP_12, cN_12, rfl, rfl, rfl, (tw_4 (i := 223) rfl rfl)⟩, List.forall_mem_cons.mpr ⟨⟨_, cT_12, 72, cY_12, rfl, by decide, cU_12, cP_12, cN_12, rfl, rfl, rfl, (tw_4 (i := 224) rfl rfl)⟩, List.forall_mem_cons.mpr ⟨⟨_, cT_12, 72, cY_12, rfl, by decide, cU_12, cP_12, cN_12, rfl, rfl, rfl, (tw_4 (i := 225) rfl rfl)⟩, List.forall_mem_cons.mpr ⟨⟨_, cT_12, 72, cY_12, rfl, by decide, cU_12, cP_12, cN_12, rfl, rfl, rfl, (tw_4 (i := 226) rfl rfl)⟩, List.forall_mem_cons.mpr ⟨⟨_, cT_12, 72, cY_12, rfl, by decide, cU_12, cP_12, cN_12, rfl, rfl, rfl, (tw_4 (i := 228) rfl rfl)⟩, List.forall_mem_cons.mpr ⟨⟨_, cT_12, 72, cY_12, rfl, by decide, cU_12, cP_12, cN_12, rfl, rfl, rfl, (tw_4 (i := 229) rfl rfl)⟩, List.forall_mem_cons.mpr ⟨⟨_, cT_12, 72, cY_12, rfl, by decide, cU_12, cP_12, cN_12, rfl, rfl, rfl, (tw_4 (i := 231) rfl rfl)⟩, List.forall_mem_cons.mpr ⟨⟨_, cT_12, 72, cY_12, rfl, by decide, cU_12, cP_12, cN_12, rfl, rfl, rfl, (tw_4 (i := 232) rfl rfl)⟩, List.forall_mem_cons.mpr ⟨⟨_, cT_12, 72, cY_12, rfl, by decide, cU_12, cP_12, cN_12, rfl, rfl, rfl, (tw_4 (i := 234) rfl rfl)⟩, List.forall_mem_cons.mpr ⟨⟨_, cT_12, 72, cY_12, rfl, by decide, cU_12, cP_12, cN_12, rfl, rfl, rfl, (tw_4 (i := 235) rfl rfl)⟩, List.forall_mem_cons.mpr ⟨⟨_, cT_12, 72, cY_12, rfl, by decide, cU_12, cP_12, cN_12, rfl, rfl, rfl, (tw_4 (i := 237) rfl rfl)⟩, fun _ h => absurd h List.not_mem_nil⟩⟩⟩⟩⟩⟩⟩⟩⟩⟩⟩⟩
def fL_12_2 : List (Nat × Nat × Nat × FieldType × Bool) := [(84, 12, 34, (.array .int), true), (87, 12, 36, (.array .long), true), (90, 12, 37, (.array .int), true), (93, 12, 38, (.array .int), true), (96, 12, 39, (.array .int), true), (99, 12, 40, (.array .int), true), (102, 12, 41, (.array .int), true), (105, 12, 42, (.array .int), true), (108, 12, 43, (.array .int), true), (111, 12, 44, (.array .int), true), (114, 12, 45, (.array .int), true), (117, 12, 47, (.array .long), true)]
theorem fK_12_2 : ∀ e ∈ fL_12_2, x_fok "PhaseReaderModel" e := List.forall_mem_cons.mpr ⟨⟨_, cT_12, 72, cY_12, rfl, by decide, cU_12, cP_12, cN_12, rfl, rfl, rfl, (tw_4 (i := 238) rfl rfl)⟩, List.forall_mem_cons.mpr ⟨⟨_, cT_12, 72, cY_12, rfl, by decide, cU_12, cP_12, cN_12, rfl, rfl, rfl, (tw_5 (i := 0) rfl rfl)⟩, List.forall_mem_cons.mpr ⟨⟨_, cT_12, 72, cY_12, rfl, by decide, cU_12, cP_12, cN_12, rfl, rfl, rfl, (tw_5 (i := 1) rfl rfl)⟩, List.forall_mem_cons.mpr ⟨⟨_, cT_12, 72, cY_12, rfl, by decide, cU_12, cP_12, cN_12, rfl, rfl, rfl, (tw_5 (i := 2) rfl rfl)⟩, List.forall_mem_cons.mpr ⟨⟨_, cT_12, 72, cY_12, rfl, by decide, cU_12, cP_12, cN_12, rfl, rfl, rfl, (tw_5 (i := 3) rfl rfl)⟩, List.forall_mem_cons.mpr ⟨⟨_, cT_12, 72, cY_12, rfl, by decide, cU_12, cP_12, cN_12, rfl, rfl, rfl, (tw_5 (i := 4) rfl rfl)⟩, List.forall_mem_cons.mpr ⟨⟨_, cT_12, 72, cY_12, rfl, by decide, cU_12, cP_12, cN_12, rfl, rfl, rfl, (tw_5 (i := 5) rfl rfl)⟩, List.forall_mem_cons.mpr ⟨⟨_, cT_12, 72, cY_12, rfl, by decide, cU_12, cP_12, cN_12, rfl, rfl, rfl, (tw_5 (i := 6) rfl rfl)⟩, List.forall_mem_cons.mpr ⟨⟨_, cT_12, 72, cY_12, rfl, by decide, cU_12, cP_12, cN_12, rfl, rfl, rfl, (tw_5 (i := 7) rfl rfl)⟩, List.forall_mem_cons.mpr ⟨⟨_, cT_12, 72, cY_12, rfl, by decide, cU_12, cP_12, cN_12, rfl, rfl, rfl, (tw_5 (i := 8) rfl rfl)⟩, List.forall_mem_cons.mpr ⟨⟨_, cT_12, 72, cY_12, rfl, by decide, cU_12, cP_12, cN_12, rfl, rfl, rfl, (tw_5 (i := 9) rfl rfl)⟩, List.forall_mem_cons.mpr ⟨⟨_, cT_12, 72, cY_12, rfl, by decide, cU_12, cP_12, cN_12, rfl, rfl, rfl, (tw_5 (i := 11) rfl rfl)⟩, fun _ h => absurd h List.not_mem_nil⟩⟩⟩⟩⟩⟩⟩⟩⟩⟩⟩⟩
def fL_12_3 : List (Nat × Nat × Nat × FieldType × Bool) := [(120, 12, 48, (.array .int), true), (123, 12, 51, (.array .int), true), (126, 12, 52, (.array .int), true), (129, 12, 53, (.array .int), true), (132, 12, 54, (.array .int), true), (135, 12, 55, (.array .int), true), (138, 12, 56, .int, false), (142, 12, 57, (.array .long), true), (145, 12, 58, (.array .int), true), (148, 12, 59, (.array .int), true), (151, 12, 60, (.array .boolean), true), (154, 12, 62, (.array .int), true)]
theorem fK_12_3 : ∀ e ∈ fL_12_3, x_fok "PhaseReaderModel" e := List.forall_mem_cons.mpr ⟨⟨_, cT_12, 72, cY_12, rfl, by decide, cU_12, cP_12, cN_12, rfl, rfl, rfl, (tw_5 (i := 12) rfl rfl)⟩, List.forall_mem_cons.mpr ⟨⟨_, cT_12, 72, cY_12, rfl, by decide, cU_12, cP_12, cN_12, rfl, rfl, rfl, (tw_5 (i := 15) rfl rfl)⟩, List.forall_mem_cons.mpr ⟨⟨_, cT_12, 72, cY_12, rfl, by decide, cU_12, cP_12, cN_12, rfl, rfl, rfl, (tw_5 (i := 16) rfl rfl)⟩, List.forall_mem_cons.mpr ⟨⟨_, cT_12, 72, cY_12, rfl, by decide, cU_12, cP_12, cN_12, rfl, rfl, rfl, (tw_5 (i := 17) rfl rfl)⟩, List.forall_mem_cons.mpr ⟨⟨_, cT_12, 72, cY_12, rfl, by decide, cU_12, cP_12, cN_12, rfl, rfl, rfl, (tw_5 (i := 18) rfl rfl)⟩, List.forall_mem_cons.mpr ⟨⟨_, cT_12, 72, cY_12, rfl, by decide, cU_12, cP_12, cN_12, rfl, rfl, rfl, (tw_5 (i := 19) rfl rfl)⟩, List.forall_mem_cons.mpr ⟨⟨_, cT_12, 72, cY_12, rfl, by decide, cU_12, cP_12, cN_12, rfl, rfl, rfl, (tw_5 (i := 20) rfl rfl)⟩, List.forall_mem_cons.mpr ⟨⟨_, cT_12, 72, cY_12, rfl, by decide, cU_12, cP_12, cN_12, rfl, rfl, rfl, (tw_5 (i := 21) rfl rfl)⟩, List.forall_mem_cons.mpr ⟨⟨_, cT_12, 72, cY_12, rfl, by decide, cU_12, cP_12, cN_12, rfl, rfl, rfl, (tw_5 (i := 22) rfl rfl)⟩, List.forall_mem_cons.mpr ⟨⟨_, cT_12, 72, cY_12, rfl, by decide, cU_12, cP_12, cN_12, rfl, rfl, rfl, (tw_5 (i := 23) rfl rfl)⟩, List.forall_mem_cons.mpr ⟨⟨_, cT_12, 72, cY_12, rfl, by decide, cU_12, cP_12, cN_12, rfl, rfl, rfl, (tw_5 (i := 24) rfl rfl)⟩, List.forall_mem_cons.mpr ⟨⟨_, cT_12, 72, cY_12, rfl, by decide, cU_12, cP_12, cN_12, rfl, rfl, rfl, (tw_5 (i := 26) rfl rfl)⟩, fun _ h => absurd h List.not_mem_nil⟩⟩⟩⟩⟩⟩⟩⟩⟩⟩⟩⟩
def fL_12_4 : List (Nat × Nat × Nat × FieldType × Bool) := [(157, 12, 63, (.array .int), true), (160, 12, 64, (.array .int), true), (163, 12, 65, (.array .int), true), (166, 12, 66, (.array .int), true), (169, 12, 68, (.array .int), true), (172, 12, 69, (.array .int), true), (175, 12, 70, (.array .int), true), (178, 12, 71, (.array .int), true), (181, 12, 2, .int, false), (201, 12, 5, .int, false), (215, 12, 12, .int, false), (218, 12, 16, .int, false)]
theorem fK_12_4 : ∀ e ∈ fL_12_4, x_fok "PhaseReaderModel" e := List.forall_mem_cons.mpr ⟨⟨_, cT_12, 72, cY_12, rfl, by decide, cU_12, cP_12, cN_12, rfl, rfl, rfl, (tw_5 (i := 27) rfl rfl)⟩, List.forall_mem_cons.mpr ⟨⟨_, cT_12, 72, cY_12, rfl, by decide, cU_12, cP_12, cN_12, rfl, rfl, rfl, (tw_5 (i := 28) rfl rfl)⟩, List.forall_mem_cons.mpr ⟨⟨_, cT_12, 72, cY_12, rfl, by decide, cU_12, cP_12, cN_12, rfl, rfl, rfl, (tw_5 (i := 29) rfl rfl)⟩, List.forall_mem_cons.mpr ⟨⟨_, cT_12, 72, cY_12, rfl, by decide, cU_12, cP_12, cN_12, rfl, rfl, rfl, (tw_5 (i := 30) rfl rfl)⟩, List.forall_mem_cons.mpr ⟨⟨_, cT_12, 72, cY_12, rfl, by decide, cU_12, cP_12, cN_12, rfl, rfl, rfl, (tw_5 (i := 32) rfl rfl)⟩, List.forall_mem_cons.mpr ⟨⟨_, cT_12, 72, cY_12, rfl, by decide, cU_12, cP_12, cN_12, rfl, rfl, rfl, (tw_5 (i := 33) rfl rfl)⟩, List.forall_mem_cons.mpr ⟨⟨_, cT_12, 72, cY_12, rfl, by decide, cU_12, cP_12, cN_12, rfl, rfl, rfl, (tw_5 (i := 34) rfl rfl)⟩, List.forall_mem_cons.mpr ⟨⟨_, cT_12, 72, cY_12, rfl, by decide, cU_12, cP_12, cN_12, rfl, rfl, rfl, (tw_5 (i := 35) rfl rfl)⟩, List.forall_mem_cons.mpr ⟨⟨_, cT_12, 72, cY_12, rfl, by decide, cU_12, cP_12, cN_12, rfl, rfl, rfl, (tw_4 (i := 206) rfl rfl)⟩, List.forall_mem_cons.mpr ⟨⟨_, cT_12, 72, cY_12, rfl, by decide, cU_12, cP_12, cN_12, rfl, rfl, rfl, (tw_4 (i := 209) rfl rfl)⟩, List.forall_mem_cons.mpr ⟨⟨_, cT_12, 72, cY_12, rfl, by decide, cU_12, cP_12, cN_12, rfl, rfl, rfl, (tw_4 (i := 216) rfl rfl)⟩, List.forall_mem_cons.mpr ⟨⟨_, cT_12, 72, cY_12, rfl, by decide, cU_12, cP_12, cN_12, rfl, rfl, rfl, (tw_4 (i := 220) rfl rfl)⟩, fun _ h => absurd h List.not_mem_nil⟩⟩⟩⟩⟩⟩⟩⟩⟩⟩⟩⟩
def fL_12_5 : List (Nat × Nat × Nat × FieldType × Bool) := [(241, 12, 26, .int, false), (252, 12, 17, .int, false), (286, 12, 13, .int, false), (306, 12, 29, .int, false), (309, 12, 32, .int, false), (312, 12, 35, .int, false), (315, 12, 46, .int, false), (326, 12, 49, .int, false), (335, 12, 23, .int, false), (354, 12, 50, .int, false), (387, 12, 61, .int, false), (390, 12, 67, .int, false)]
theorem fK_12_5 : ∀ e ∈ fL_12_5, x_fok "PhaseReaderModel" e := List.forall_mem_cons.mpr ⟨⟨_, cT_12, 72, cY_12, rfl, by decide, cU_12, cP_12, cN_12, rfl, rfl, rfl, (tw_4 (i := 230) rfl rfl)⟩, List.forall_mem_cons.mpr ⟨⟨_, cT_12, 72, cY_12, rfl, by decide, cU_12, cP_12, cN_12, rfl, rfl, rfl, (tw_4 (i := 221) rfl rfl)⟩, List.forall_mem_cons.mpr ⟨⟨_, cT_12, 72, cY_12, rfl, by decide, cU_12, cP_12, cN_12, rfl, rfl, rfl, (tw_4 (i := 217) rfl rfl)⟩, List.forall_mem_cons.mpr ⟨⟨_, cT_12, 72, cY_12, rfl, by decide, cU_12, cP_12, cN_12, rfl, rfl, rfl, (tw_4 (i := 233) rfl rfl)⟩, List.forall_mem_cons.mpr ⟨⟨_, cT_12, 72, cY_12, rfl, by decide, cU_12, cP_12, cN_12, rfl, rfl, rfl, (tw_4 (i := 236) rfl rfl)⟩, List.forall_mem_cons.mpr ⟨⟨_, cT_12, 72, cY_12, rfl, by decide, cU_12, cP_12, cN_12, rfl, rfl, rfl, (tw_4 (i := 239) rfl rfl)⟩, List.forall_mem_cons.mpr ⟨⟨_, cT_12, 72, cY_12, rfl, by decide, cU_12, cP_12, cN_12, rfl, rfl, rfl, (tw_5 (i := 10) rfl rfl)⟩, List.forall_mem_cons.mpr ⟨⟨_, cT_12, 72, cY_12, rfl, by decide, cU_12, cP_12, cN_12, rfl, rfl, rfl, (tw_5 (i := 13) rfl rfl)⟩, List.forall_mem_cons.mpr ⟨⟨_, cT_12, 72, cY_12, rfl, by decide, cU_12, cP_12, cN_12, rfl, rfl, rfl, (tw_4 (i := 227) rfl rfl)⟩, List.forall_mem_cons.mpr ⟨⟨_, cT_12, 72, cY_12, rfl, by decide, cU_12, cP_12, cN_12, rfl, rfl, rfl, (tw_5 (i := 14) rfl rfl)⟩, List.forall_mem_cons.mpr ⟨⟨_, cT_12, 72, cY_12, rfl, by decide, cU_12, cP_12, cN_12, rfl, rfl, rfl, (tw_5 (i := 25) rfl rfl)⟩, List.forall_mem_cons.mpr ⟨⟨_, cT_12, 72, cY_12, rfl, by decide, cU_12, cP_12, cN_12, rfl, rfl, rfl, (tw_5 (i := 31) rfl rfl)⟩, fun _ h => absurd h List.not_mem_nil⟩⟩⟩⟩⟩⟩⟩⟩⟩⟩⟩⟩
def fL_12 : List (Nat × Nat × Nat × FieldType × Bool) := [(7, 12, 0, (.array .int), true), (13, 12, 1, (.array .int), true), (16, 12, 3, (.array .int), true), (19, 12, 4, (.array .int), true), (22, 12, 6, (.array .long), true), (26, 12, 7, (.array .int), true), (29, 12, 8, (.array .int), true), (32, 12, 9, (.array .int), true), (35, 12, 10, (.array .int), true), (38, 12, 11, (.array .int), true), (41, 12, 14, (.array .boolean), true), (45, 12, 15, (.array .boolean), true), (48, 12, 18, (.array .long), true), (51, 12, 19, (.array .int), true), (54, 12, 20, (.array .long), true), (57, 12, 21, (.array .long), true), (60, 12, 22, (.array .int), true), (63, 12, 24, (.array .long), true), (66, 12, 25, (.array .int), true), (69, 12, 27, (.array .long), true), (72, 12, 28, (.array .int), true), (75, 12, 30, (.array .long), true), (78, 12, 31, (.array .int), true), (81, 12, 33, (.array .long), true), (84, 12, 34, (.array .int), true), (87, 12, 36, (.array .long), true), (90, 12, 37, (.array .int), true), (93, 12, 38, (.array .int), true), (96, 12, 39, (.array .int), true), (99, 12, 40, (.array .int), true), (102, 12, 41, (.array .int), true), (105, 12, 42, (.array .int), true), (108, 12, 43, (.array .int), true), (111, 12, 44, (.array .int), true), (114, 12, 45, (.array .int), true), (117, 12, 47, (.array .long), true), (120, 12, 48, (.array .int), true), (123, 12, 51, (.array .int), true), (126, 12, 52, (.array .int), true), (129, 12, 53, (.array .int), true), (132, 12, 54, (.array .int), true), (135, 12, 55, (.array .int), true), (138, 12, 56, .int, false), (142, 12, 57, (.array .long), true), (145, 12, 58, (.array .int), true), (148, 12, 59, (.array .int), true), (151, 12, 60, (.array .boolean), true), (154, 12, 62, (.array .int), true), (157, 12, 63, (.array .int), true), (160, 12, 64, (.array .int), true), (163, 12, 65, (.array .int), true), (166, 12, 66, (.array .int), true), (169, 12, 68, (.array .int), true), (172, 12, 69, (.array .int), true), (175, 12, 70, (.array .int), true), (178, 12, 71, (.array .int), true), (181, 12, 2, .int, false), (201, 12, 5, .int, false), (215, 12, 12, .int, false), (218, 12, 16, .int, false), (241, 12, 26, .int, false), (252, 12, 17, .int, false), (286, 12, 13, .int, false), (306, 12, 29, .int, false), (309, 12, 32, .int, false), (312, 12, 35, .int, false), (315, 12, 46, .int, false), (326, 12, 49, .int, false), (335, 12, 23, .int, false), (354, 12, 50, .int, false), (387, 12, 61, .int, false), (390, 12, 67, .int, false)]
theorem fK_12 : ∀ e ∈ fL_12, x_fok "PhaseReaderModel" e := by
  have h : fL_12 = fL_12_0 ++ (fL_12_1 ++ (fL_12_2 ++ (fL_12_3 ++ (fL_12_4 ++ (fL_12_5))))) := rfl
  rw [h]
  exact List.forall_mem_append.mpr ⟨fK_12_0, List.forall_mem_append.mpr ⟨fK_12_1, List.forall_mem_append.mpr ⟨fK_12_2, List.forall_mem_append.mpr ⟨fK_12_3, List.forall_mem_append.mpr ⟨fK_12_4, fK_12_5⟩⟩⟩⟩⟩
def fL_13 : List (Nat × Nat × Nat × FieldType × Bool) := []
theorem fK_13 : ∀ e ∈ fL_13, x_fok "PhaseReaderLaw" e := fun _ h => absurd h List.not_mem_nil
def fL_14 : List (Nat × Nat × Nat × FieldType × Bool) := []
theorem fK_14 : ∀ e ∈ fL_14, x_fok "java/lang/String" e := fun _ h => absurd h List.not_mem_nil
def fL_15 : List (Nat × Nat × Nat × FieldType × Bool) := []
theorem fK_15 : ∀ e ∈ fL_15, x_fok "java/lang/StringLatin1" e := fun _ h => absurd h List.not_mem_nil
def fL_16 : List (Nat × Nat × Nat × FieldType × Bool) := []
theorem fK_16 : ∀ e ∈ fL_16, x_fok "jdk/internal/util/Preconditions" e := fun _ h => absurd h List.not_mem_nil
def x_FL : List (List (Nat × Nat × Nat × FieldType × Bool)) := [fL_0, fL_1, fL_2, fL_3, fL_4, fL_5, fL_6, fL_7, fL_8, fL_9, fL_10, fL_11, fL_12, fL_13, fL_14, fL_15, fL_16]
theorem x_FL_ok : ∀ (c : Nat) (l : List (Nat × Nat × Nat × FieldType × Bool)), x_FL[c]? = some l → ∀ e ∈ l, x_fok (x_cn.getD c "") e
  | 0, _, h => by cases h; exact fK_0
  | 1, _, h => by cases h; exact fK_1
  | 2, _, h => by cases h; exact fK_2
  | 3, _, h => by cases h; exact fK_3
  | 4, _, h => by cases h; exact fK_4
  | 5, _, h => by cases h; exact fK_5
  | 6, _, h => by cases h; exact fK_6
  | 7, _, h => by cases h; exact fK_7
  | 8, _, h => by cases h; exact fK_8
  | 9, _, h => by cases h; exact fK_9
  | 10, _, h => by cases h; exact fK_10
  | 11, _, h => by cases h; exact fK_11
  | 12, _, h => by cases h; exact fK_12
  | 13, _, h => by cases h; exact fK_13
  | 14, _, h => by cases h; exact fK_14
  | 15, _, h => by cases h; exact fK_15
  | 16, _, h => by cases h; exact fK_16
  | _ + 17, _, h => by cases h
def x_fl (k idx : Nat) : Option (Nat × Nat × FieldType × Bool) := (x_FL.getD (x_own k) []).lookup idx
def x_fld (k idx : Nat) : Option (Nat × Nat × FieldType × Nat) := match x_fl k idx with
  | some (ci, sl, ty, fin) => some (ci, sl, ty, match fin with
    | false => 0
    | true => if x_ini k = true ∧ ci = x_own k then 1 else 2)
  | none => none
theorem s_fld {k idx ci sl fl : Nat} {ty : FieldType} (h : x_fld k idx = some (ci, sl, ty, fl)) : ∃ (C : String) (T : u_T) (N : Nat) (ty0 : Nat → FieldType), x_cl[ci]? = some (C, T, N) ∧ sl < N ∧ (∀ w ∈ u_ws C T N, w ∈ x_w) ∧ (∀ j, j < N → parseFieldDescriptor (T j).2.2.1 = some (ty0 j)) ∧ (∀ a, a < N → ∀ b, b < N → a ≠ b → (T a).2.1 ≠ (T b).2.1) ∧ ty0 sl = ty ∧ (fl = 0 → (T sl).2.2.2 = false) ∧
    (fl = 1 → (T sl).2.2.2 = true ∧ (x_y k).name = "<init>" ∧ (T sl).1 = (x_y k).cls ∧ Jvm.Cond.fieldLink (x_y k).cls idx (T sl).1 (T sl).2.1 (T sl).2.2.1 ∈ x_w) ∧ (Jvm.Cond.fieldLink (x_y k).cls idx (T sl).1 (T sl).2.1 (T sl).2.2.1 ∈ x_w ∨ ∃ host, Jvm.Cond.fieldLinkNest (x_y k).cls idx (T sl).1 (T sl).2.1 (T sl).2.2.1 host ∈ x_nest) := by
  unfold x_fld at h
  split at h
  · rename_i ci' sl' ty' fin hl
    cases h
    unfold x_fl at hl
    have hm := lk_mem hl
    cases hF : x_FL[x_own k]? with
    | none =>
      rw [List.getD_eq_getElem?_getD, hF] at hm
      exact absurd hm List.not_mem_nil
    | some l =>
      rw [List.getD_eq_getElem?_getD, hF] at hm
      have hm : (idx, ci, sl, ty, fin) ∈ l := hm
      have hlt : x_own k ≠ 99 := by
        intro q
        rw [q] at hF
        cases hF
      have hin := x_ml_ok _ (x_me_in hlt)
      obtain ⟨C, T, N, ty0, h1, h2, h3, h4, h5, h6, h7, h8, h9⟩ := x_FL_ok _ _ hF _ hm
      have hcn : (x_y k).cls = x_cn.getD (x_own k) "" := hin.1
      rw [← hcn] at h9
      refine ⟨C, T, N, ty0, h1, h2, h3, h4, h5, h6, ?_, ?_, Or.inl h9⟩
      · intro q
        cases fin with
        | false => exact h7
        | true =>
          simp only at q
          split at q <;> cases q
      · intro q
        cases fin with
        | false => cases q
        | true =>
          simp only at q
          split at q
          · rename_i hq
            refine ⟨h7, hin.2.1 hq.1, ?_, h9⟩
            rw [hcn, ← hq.2]
            exact h8
          · cases q
  · cases h
end
section
def x_gn : Nat := 19
def x_gl : List Nat := [9, 9, 17, 5, 5, 6, 4, 6, 7, 4, 5, 5, 5, 6, 3, 4, 7, 6, 2]
def x_gb : List (List Int32) := [[61, 47, 39, 40, 41, 33, 60, 62, 45], [35, 92, 94, 91, 93, 124, 123, 125, 126], [40, 41, 91, 93, 123, 125, 59, 44, 61, 43, 45, 42, 47, 38, 60, 62, 35], [101, 110, 100, 105, 102], [105, 102, 100, 101, 102], [105, 102, 110, 100, 101, 102], [101, 108, 115, 101], [100, 101, 102, 105, 110, 101], [105, 110, 99, 108, 117, 100, 101], [101, 108, 115, 101], [101, 110, 100, 105, 102], [117, 110, 100, 101, 102], [105, 102, 100, 101, 102], [105, 102, 110, 100, 101, 102], [105, 110, 116], [99, 104, 97, 114], [116, 121, 112, 101, 100, 101, 102], [114, 101, 116, 117, 114, 110], [61, 61]]
def x_gr : List (String × Nat × String × Nat) := [("PhaseReader$Scanner", 56, "=/'()!<>-", 0), ("PhaseReader$Scanner", 48, "#\\^[]|{}~", 1), ("PhaseReader$Scanner", 87, "()[]{};,=+-*/&<>#", 2), ("PhaseReader$Source", 72, "endif", 3), ("PhaseReader$Source", 78, "ifdef", 4), ("PhaseReader$Source", 80, "ifndef", 5), ("PhaseReader$Source", 82, "else", 6), ("PhaseReader$Preprocessor", 108, "define", 7), ("PhaseReader$Preprocessor", 116, "include", 8), ("PhaseReader$Preprocessor", 120, "else", 9), ("PhaseReader$Preprocessor", 126, "endif", 10), ("PhaseReader$Preprocessor", 139, "undef", 11), ("PhaseReader$Preprocessor", 155, "ifdef", 12), ("PhaseReader$Preprocessor", 161, "ifndef", 13), ("PhaseReader$Parser", 81, "int", 14), ("PhaseReader$Parser", 87, "char", 15), ("PhaseReader$Parser", 89, "typedef", 16), ("PhaseReader$Parser", 91, "return", 17), ("PhaseReader$Parser", 195, "==", 18)]
theorem s_gr : ∀ e ∈ x_gr, Jvm.Cond.stringRef e.1 e.2.1 e.2.2.1 ∈ lw_tbl := List.forall_mem_cons.mpr ⟨List.mem_append_right _ (tm_2 (List.mem_of_getElem? (i := 170) rfl)), List.forall_mem_cons.mpr ⟨List.mem_append_right _ (tm_3 (List.mem_of_getElem? (i := 17) rfl)), List.forall_mem_cons.mpr ⟨List.mem_append_right _ (tm_3 (List.mem_of_getElem? (i := 62) rfl)), List.forall_mem_cons.mpr ⟨List.mem_append_right _ (tm_3 (List.mem_of_getElem? (i := 91) rfl)), List.forall_mem_cons.mpr ⟨List.mem_append_right _ (tm_3 (List.mem_of_getElem? (i := 97) rfl)), List.forall_mem_cons.mpr ⟨List.mem_append_right _ (tm_3 (List.mem_of_getElem? (i := 98) rfl)), List.forall_mem_cons.mpr ⟨List.mem_append_right _ (tm_3 (List.mem_of_getElem? (i := 99) rfl)), List.forall_mem_cons.mpr ⟨List.mem_append_right _ (tm_3 (List.mem_of_getElem? (i := 188) rfl)), List.forall_mem_cons.mpr ⟨List.mem_append_right _ (tm_3 (List.mem_of_getElem? (i := 222) rfl)), List.forall_mem_cons.mpr ⟨List.mem_append_right _ (tm_3 (List.mem_of_getElem? (i := 231) rfl)), List.forall_mem_cons.mpr ⟨List.mem_append_right _ (tm_3 (List.mem_of_getElem? (i := 236) rfl)), List.forall_mem_cons.mpr ⟨List.mem_append_right _ (tm_4 (List.mem_of_getElem? (i := 5) rfl)), List.forall_mem_cons.mpr ⟨List.mem_append_right _ (tm_4 (List.mem_of_getElem? (i := 11) rfl)), List.forall_mem_cons.mpr ⟨List.mem_append_right _ (tm_4 (List.mem_of_getElem? (i := 16) rfl)), List.forall_mem_cons.mpr ⟨List.mem_append_right _ (tm_4 (List.mem_of_getElem? (i := 37) rfl)), List.forall_mem_cons.mpr ⟨List.mem_append_right _ (tm_4 (List.mem_of_getElem? (i := 39) rfl)), List.forall_mem_cons.mpr ⟨List.mem_append_right _ (tm_4 (List.mem_of_getElem? (i := 40) rfl)), List.forall_mem_cons.mpr ⟨List.mem_append_right _ (tm_4 (List.mem_of_getElem? (i := 41) rfl)), List.forall_mem_cons.mpr ⟨List.mem_append_right _ (tm_4 (List.mem_of_getElem? (i := 157) rfl)), fun _ h => absurd h List.not_mem_nil⟩⟩⟩⟩⟩⟩⟩⟩⟩⟩⟩⟩⟩⟩⟩⟩⟩⟩⟩
def x_cok (cn : String) (e : Nat × Nat × List Value) : Prop := ∃ (C : String) (T : u_T) (N : Nat) (ty0 : Nat → FieldType), x_cl[e.2.1]? = some (C, T, N) ∧ (∀ w ∈ u_ws C T N, w ∈ x_w) ∧ (∀ j, j < N → parseFieldDescriptor (T j).2.2.1 = some (ty0 j)) ∧ Jvm.Cond.classLink cn e.1 C ∈ x_w ∧ Jvm.Cond.instantiable C N ∈ x_w ∧ Jvm.Cond.initialized C ∈ x_w ∧ e.2.2.length = N ∧ (∀ j, j < N → defaultValue (ty0 j) = vp_V e.2.2 j) ∧ ∀ v ∈ e.2.2, v = .int 0 ∨ v = .long 0 ∨ v = .null
def x_aok (cn : String) (e : Nat × Nat) : Prop := ∃ C, Jvm.Cond.classLink cn e.1 C ∈ x_w ∧ x_ty[e.2]? = some (.object C) ∧ C ∈ x_aos
def x_kok (cn : String) (e : Nat × Value) : Prop := (∀ v, e.2 = .int v → Jvm.Cond.constant cn e.1 v ∈ x_w) ∧ (∀ v, e.2 = .long v → Jvm.Cond.constantLong cn e.1 v ∈ x_w) ∧ ∀ v, e.2 = .retAddr v → ∃ (i : Nat) (t : String), v = 1 + i ∧ i < x_gn ∧ (cn, e.1, t, i) ∈ x_gr
def x_sok (cn : String) (e : Nat × Nat) : Prop := (e.2 = 0 ∧ Jvm.Cond.fieldLink cn e.1 "java/lang/String" "value" "[B" ∈ x_w) ∨ (e.2 = 1 ∧ Jvm.Cond.fieldLink cn e.1 "java/lang/String" "coder" "B" ∈ x_w)
def x_tok (cn : String) (e : Nat × Nat) : Prop := (e.2 = 0 ∧ Jvm.Cond.fieldLink cn e.1 "java/lang/String" "COMPACT_STRINGS" "Z" ∈ x_w) ∨ (e.2 = 1 ∧ Jvm.Cond.fieldLink cn e.1 "jdk/internal/util/Preconditions" "SIOOBE_FORMATTER" "Ljava/util/function/BiFunction;" ∈ x_w)
def oL_0_0 : List (Nat × Nat × List Value) := [(9, 9, [.null, .int 0]), (15, 6, [.null, .null, .null, .int 0, .int 0]), (22, 5, [.null, .null, .null, .int 0, .int 0, .null, .null, .int 0])]
theorem oK_0_0 : ∀ e ∈ oL_0_0, x_cok "PhaseReader" e := List.forall_mem_cons.mpr ⟨⟨_, cT_9, 2, cY_9, rfl, cU_9, cP_9, (tw_1 (i := 29) rfl rfl), (tw_2 (i := 89) rfl rfl), (tw_1 (i := 12) rfl rfl), rfl, by decide +kernel, by decide +kernel⟩, List.forall_mem_cons.mpr ⟨⟨_, cT_6, 5, cY_6, rfl, cU_6, cP_6, (tw_1 (i := 31) rfl rfl), (tw_1 (i := 32) rfl rfl), (tw_1 (i := 2) rfl rfl), rfl, by decide +kernel, by decide +kernel⟩, List.forall_mem_cons.mpr ⟨⟨_, cT_5, 8, cY_5, rfl, cU_5, cP_5, (tw_2 (i := 30) rfl rfl), (tw_2 (i := 31) rfl rfl), (tw_1 (i := 10) rfl rfl), rfl, by decide +kernel, by decide +kernel⟩, fun _ h => absurd h List.not_mem_nil⟩⟩⟩
def oL_0 : List (Nat × Nat × List Value) := [(9, 9, [.null, .int 0]), (15, 6, [.null, .null, .null, .int 0, .int 0]), (22, 5, [.null, .null, .null, .int 0, .int 0, .null, .null, .int 0])]
theorem oK_0 : ∀ e ∈ oL_0, x_cok "PhaseReader" e := by
  have h : oL_0 = oL_0_0 := rfl
  rw [h]
  exact oK_0_0
def aL_0_0 : List (Nat × Nat) := [(9, 8)]
theorem aK_0_0 : ∀ e ∈ aL_0_0, x_aok "PhaseReader" e := List.forall_mem_cons.mpr ⟨⟨_, (tw_1 (i := 29) rfl rfl), rfl, List.mem_of_getElem? (i := 3) rfl⟩, fun _ h => absurd h List.not_mem_nil⟩
def aL_0 : List (Nat × Nat) := [(9, 8)]
theorem aK_0 : ∀ e ∈ aL_0, x_aok "PhaseReader" e := by
  have h : aL_0 = aL_0_0 := rfl
  rw [h]
  exact aK_0_0
def kL_0 : List (Nat × Value) := []
theorem kK_0 : ∀ e ∈ kL_0, x_kok "PhaseReader" e := fun _ h => absurd h List.not_mem_nil
def sL_0 : List (Nat × Nat) := []
theorem sK_0 : ∀ e ∈ sL_0, x_sok "PhaseReader" e := fun _ h => absurd h List.not_mem_nil
def tL_0 : List (Nat × Nat) := []
theorem tK_0 : ∀ e ∈ tL_0, x_tok "PhaseReader" e := fun _ h => absurd h List.not_mem_nil
def oL_1 : List (Nat × Nat × List Value) := []
theorem oK_1 : ∀ e ∈ oL_1, x_cok "PhaseReader$Arguments" e := fun _ h => absurd h List.not_mem_nil
def aL_1 : List (Nat × Nat) := []
theorem aK_1 : ∀ e ∈ aL_1, x_aok "PhaseReader$Arguments" e := fun _ h => absurd h List.not_mem_nil
def kL_1 : List (Nat × Value) := []
theorem kK_1 : ∀ e ∈ kL_1, x_kok "PhaseReader$Arguments" e := fun _ h => absurd h List.not_mem_nil
def sL_1 : List (Nat × Nat) := []
theorem sK_1 : ∀ e ∈ sL_1, x_sok "PhaseReader$Arguments" e := fun _ h => absurd h List.not_mem_nil
def tL_1 : List (Nat × Nat) := []
theorem tK_1 : ∀ e ∈ tL_1, x_tok "PhaseReader$Arguments" e := fun _ h => absurd h List.not_mem_nil
def oL_2_0 : List (Nat × Nat × List Value) := [(13, 4, [.null, .int 0]), (20, 10, [.null, .null, .int 0]), (40, 1, [.null, .null, .null, .null, .int 0, .int 0])]
theorem oK_2_0 : ∀ e ∈ oL_2_0, x_cok "PhaseReader$Expander" e := List.forall_mem_cons.mpr ⟨⟨_, cT_4, 2, cY_4, rfl, cU_4, cP_4, (tw_1 (i := 43) rfl rfl), (tw_1 (i := 44) rfl rfl), (tw_1 (i := 4) rfl rfl), rfl, by decide +kernel, by decide +kernel⟩, List.forall_mem_cons.mpr ⟨⟨_, cT_10, 3, cY_10, rfl, cU_10, cP_10, (tw_1 (i := 94) rfl rfl), (tw_1 (i := 95) rfl rfl), (tw_1 (i := 6) rfl rfl), rfl, by decide +kernel, by decide +kernel⟩, List.forall_mem_cons.mpr ⟨⟨_, cT_1, 6, cY_1, rfl, cU_1, cP_1, (tw_1 (i := 122) rfl rfl), (tw_1 (i := 124) rfl rfl), (tw_1 (i := 7) rfl rfl), rfl, by decide +kernel, by decide +kernel⟩, fun _ h => absurd h List.not_mem_nil⟩⟩⟩
def oL_2 : List (Nat × Nat × List Value) := [(13, 4, [.null, .int 0]), (20, 10, [.null, .null, .int 0]), (40, 1, [.null, .null, .null, .null, .int 0, .int 0])]
theorem oK_2 : ∀ e ∈ oL_2, x_cok "PhaseReader$Expander" e := by
  have h : oL_2 = oL_2_0 := rfl
  rw [h]
  exact oK_2_0
def aL_2_0 : List (Nat × Nat) := [(40, 5)]
theorem aK_2_0 : ∀ e ∈ aL_2_0, x_aok "PhaseReader$Expander" e := List.forall_mem_cons.mpr ⟨⟨_, (tw_1 (i := 122) rfl rfl), rfl, List.mem_of_getElem? (i := 0) rfl⟩, fun _ h => absurd h List.not_mem_nil⟩
def aL_2 : List (Nat × Nat) := [(40, 5)]
theorem aK_2 : ∀ e ∈ aL_2, x_aok "PhaseReader$Expander" e := by
  have h : aL_2 = aL_2_0 := rfl
  rw [h]
  exact aK_2_0
def kL_2_0 : List (Nat × Value) := [(82, .long 40), (118, .long 41), (120, .long 44)]
theorem kK_2_0 : ∀ e ∈ kL_2_0, x_kok "PhaseReader$Expander" e := List.forall_mem_cons.mpr ⟨⟨(fun v h => by cases h), (fun v h => by cases h; exact (tw_3 (i := 125) rfl rfl)), (fun v h => by cases h)⟩, List.forall_mem_cons.mpr ⟨⟨(fun v h => by cases h), (fun v h => by cases h; exact (tw_3 (i := 134) rfl rfl)), (fun v h => by cases h)⟩, List.forall_mem_cons.mpr ⟨⟨(fun v h => by cases h), (fun v h => by cases h; exact (tw_3 (i := 135) rfl rfl)), (fun v h => by cases h)⟩, fun _ h => absurd h List.not_mem_nil⟩⟩⟩
def kL_2 : List (Nat × Value) := [(82, .long 40), (118, .long 41), (120, .long 44)]
theorem kK_2 : ∀ e ∈ kL_2, x_kok "PhaseReader$Expander" e := by
  have h : kL_2 = kL_2_0 := rfl
  rw [h]
  exact kK_2_0
def sL_2 : List (Nat × Nat) := []
theorem sK_2 : ∀ e ∈ sL_2, x_sok "PhaseReader$Expander" e := fun _ h => absurd h List.not_mem_nil
def tL_2 : List (Nat × Nat) := []
theorem tK_2 : ∀ e ∈ tL_2, x_tok "PhaseReader$Expander" e := fun _ h => absurd h List.not_mem_nil
def oL_3 : List (Nat × Nat × List Value) := []
theorem oK_3 : ∀ e ∈ oL_3, x_cok "PhaseReader$Macro" e := fun _ h => absurd h List.not_mem_nil
def aL_3 : List (Nat × Nat) := []
theorem aK_3 : ∀ e ∈ aL_3, x_aok "PhaseReader$Macro" e := fun _ h => absurd h List.not_mem_nil
def kL_3_0 : List (Nat × Value) := [(22, .long 4515)]
theorem kK_3_0 : ∀ e ∈ kL_3_0, x_kok "PhaseReader$Macro" e := List.forall_mem_cons.mpr ⟨⟨(fun v h => by cases h), (fun v h => by cases h; exact (tw_3 (i := 156) rfl rfl)), (fun v h => by cases h)⟩, fun _ h => absurd h List.not_mem_nil⟩
def kL_3 : List (Nat × Value) := [(22, .long 4515)]
theorem kK_3 : ∀ e ∈ kL_3, x_kok "PhaseReader$Macro" e := by
  have h : kL_3 = kL_3_0 := rfl
  rw [h]
  exact kK_3_0
def sL_3 : List (Nat × Nat) := []
theorem sK_3 : ∀ e ∈ sL_3, x_sok "PhaseReader$Macro" e := fun _ h => absurd h List.not_mem_nil
def tL_3 : List (Nat × Nat) := []
theorem tK_3 : ∀ e ∈ tL_3, x_tok "PhaseReader$Macro" e := fun _ h => absurd h List.not_mem_nil
def oL_4_0 : List (Nat × Nat × List Value) := [(11, 3, [.long 0, .int 0, .int 0, .null, .int 0, .null])]
theorem oK_4_0 : ∀ e ∈ oL_4_0, x_cok "PhaseReader$MacroTable" e := List.forall_mem_cons.mpr ⟨⟨_, cT_3, 6, cY_3, rfl, cU_3, cP_3, (tw_1 (i := 49) rfl rfl), (tw_1 (i := 51) rfl rfl), (tw_1 (i := 5) rfl rfl), rfl, by decide +kernel, by decide +kernel⟩, fun _ h => absurd h List.not_mem_nil⟩
def oL_4 : List (Nat × Nat × List Value) := [(11, 3, [.long 0, .int 0, .int 0, .null, .int 0, .null])]
theorem oK_4 : ∀ e ∈ oL_4, x_cok "PhaseReader$MacroTable" e := by
  have h : oL_4 = oL_4_0 := rfl
  rw [h]
  exact oK_4_0
def aL_4_0 : List (Nat × Nat) := [(11, 6)]
theorem aK_4_0 : ∀ e ∈ aL_4_0, x_aok "PhaseReader$MacroTable" e := List.forall_mem_cons.mpr ⟨⟨_, (tw_1 (i := 49) rfl rfl), rfl, List.mem_of_getElem? (i := 1) rfl⟩, fun _ h => absurd h List.not_mem_nil⟩
def aL_4 : List (Nat × Nat) := [(11, 6)]
theorem aK_4 : ∀ e ∈ aL_4, x_aok "PhaseReader$MacroTable" e := by
  have h : aL_4 = aL_4_0 := rfl
  rw [h]
  exact aK_4_0
def kL_4 : List (Nat × Value) := []
theorem kK_4 : ∀ e ∈ kL_4, x_kok "PhaseReader$MacroTable" e := fun _ h => absurd h List.not_mem_nil
def sL_4 : List (Nat × Nat) := []
theorem sK_4 : ∀ e ∈ sL_4, x_sok "PhaseReader$MacroTable" e := fun _ h => absurd h List.not_mem_nil
def tL_4 : List (Nat × Nat) := []
theorem tK_4 : ∀ e ∈ tL_4, x_tok "PhaseReader$MacroTable" e := fun _ h => absurd h List.not_mem_nil
def oL_5_0 : List (Nat × Nat × List Value) := [(11, 11, [.null, .null, .null, .int 0])]
theorem oK_5_0 : ∀ e ∈ oL_5_0, x_cok "PhaseReader$Parser" e := List.forall_mem_cons.mpr ⟨⟨_, cT_11, 4, cY_11, rfl, cU_11, cP_11, (tw_2 (i := 36) rfl rfl), (tw_2 (i := 37) rfl rfl), (tw_1 (i := 11) rfl rfl), rfl, by decide +kernel, by decide +kernel⟩, fun _ h => absurd h List.not_mem_nil⟩
def oL_5 : List (Nat × Nat × List Value) := [(11, 11, [.null, .null, .null, .int 0])]
theorem oK_5 : ∀ e ∈ oL_5, x_cok "PhaseReader$Parser" e := by
  have h : oL_5 = oL_5_0 := rfl
  rw [h]
  exact oK_5_0
def aL_5 : List (Nat × Nat) := []
theorem aK_5 : ∀ e ∈ aL_5, x_aok "PhaseReader$Parser" e := fun _ h => absurd h List.not_mem_nil
def kL_5_0 : List (Nat × Value) := [(81, .retAddr (1 + 14)), (87, .retAddr (1 + 15)), (89, .retAddr (1 + 16)), (91, .retAddr (1 + 17)), (195, .retAddr (1 + 18)), (100, .long 40), (102, .long 91), (104, .long 123), (106, .long 41), (108, .long 93), (110, .long 125), (159, .long 42)]
theorem kK_5_0 : ∀ e ∈ kL_5_0, x_kok "PhaseReader$Parser" e := List.forall_mem_cons.mpr ⟨⟨(fun v h => by cases h), (fun v h => by cases h), (fun v h => by cases h; exact ⟨14, _, rfl, by decide, List.mem_of_getElem? (i := 14) rfl⟩)⟩, List.forall_mem_cons.mpr ⟨⟨(fun v h => by cases h), (fun v h => by cases h), (fun v h => by cases h; exact ⟨15, _, rfl, by decide, List.mem_of_getElem? (i := 15) rfl⟩)⟩, List.forall_mem_cons.mpr ⟨⟨(fun v h => by cases h), (fun v h => by cases h), (fun v h => by cases h; exact ⟨16, _, rfl, by decide, List.mem_of_getElem? (i := 16) rfl⟩)⟩, List.forall_mem_cons.mpr ⟨⟨(fun v h => by cases h), (fun v h => by cases h), (fun v h => by cases h; exact ⟨17, _, rfl, by decide, List.mem_of_getElem? (i := 17) rfl⟩)⟩, List.forall_mem_cons.mpr ⟨⟨(fun v h => by cases h), (fun v h => by cases h), (fun v h => by cases h; exact ⟨18, _, rfl, by decide, List.mem_of_getElem? (i := 18) rfl⟩)⟩, List.forall_mem_cons.mpr ⟨⟨(fun v h => by cases h), (fun v h => by cases h; exact (tw_4 (i := 54) rfl rfl)), (fun v h => by cases h)⟩, List.forall_mem_cons.mpr ⟨⟨(fun v h => by cases h), (fun v h => by cases h; exact (tw_4 (i := 55) rfl rfl)), (fun v h => by cases h)⟩, List.forall_mem_cons.mpr ⟨⟨(fun v h => by cases h), (fun v h => by cases h; exact (tw_4 (i := 56) rfl rfl)), (fun v h => by cases h)⟩, List.forall_mem_cons.mpr ⟨⟨(fun v h => by cases h), (fun v h => by cases h; exact (tw_4 (i := 57) rfl rfl)), (fun v h => by cases h)⟩, List.forall_mem_cons.mpr ⟨⟨(fun v h => by cases h), (fun v h => by cases h; exact (tw_4 (i := 58) rfl rfl)), (fun v h => by cases h)⟩, List.forall_mem_cons.mpr ⟨⟨(fun v h => by cases h), (fun v h => by cases h; exact (tw_4 (i := 59) rfl rfl)), (fun v h => by cases h)⟩, List.forall_mem_cons.mpr ⟨⟨(fun v h => by cases h), (fun v h => by cases h; exact (tw_4 (i := 89) rfl rfl)), (fun v h => by cases h)⟩, fun _ h => absurd h List.not_mem_nil⟩⟩⟩⟩⟩⟩⟩⟩⟩⟩⟩⟩
def kL_5_1 : List (Nat × Value) := [(167, .long 59), (173, .long 61), (185, .long 47), (187, .long 43), (189, .long 45), (191, .long 60), (193, .long 62), (197, .long 38)]
theorem kK_5_1 : ∀ e ∈ kL_5_1, x_kok "PhaseReader$Parser" e := List.forall_mem_cons.mpr ⟨⟨(fun v h => by cases h), (fun v h => by cases h; exact (tw_4 (i := 114) rfl rfl)), (fun v h => by cases h)⟩, List.forall_mem_cons.mpr ⟨⟨(fun v h => by cases h), (fun v h => by cases h; exact (tw_4 (i := 158) rfl rfl)), (fun v h => by cases h)⟩, List.forall_mem_cons.mpr ⟨⟨(fun v h => by cases h), (fun v h => by cases h; exact (tw_4 (i := 153) rfl rfl)), (fun v h => by cases h)⟩, List.forall_mem_cons.mpr ⟨⟨(fun v h => by cases h), (fun v h => by cases h; exact (tw_4 (i := 154) rfl rfl)), (fun v h => by cases h)⟩, List.forall_mem_cons.mpr ⟨⟨(fun v h => by cases h), (fun v h => by cases h; exact (tw_4 (i := 127) rfl rfl)), (fun v h => by cases h)⟩, List.forall_mem_cons.mpr ⟨⟨(fun v h => by cases h), (fun v h => by cases h; exact (tw_4 (i := 155) rfl rfl)), (fun v h => by cases h)⟩, List.forall_mem_cons.mpr ⟨⟨(fun v h => by cases h), (fun v h => by cases h; exact (tw_4 (i := 156) rfl rfl)), (fun v h => by cases h)⟩, List.forall_mem_cons.mpr ⟨⟨(fun v h => by cases h), (fun v h => by cases h; exact (tw_4 (i := 128) rfl rfl)), (fun v h => by cases h)⟩, fun _ h => absurd h List.not_mem_nil⟩⟩⟩⟩⟩⟩⟩⟩
def kL_5 : List (Nat × Value) := [(81, .retAddr (1 + 14)), (87, .retAddr (1 + 15)), (89, .retAddr (1 + 16)), (91, .retAddr (1 + 17)), (195, .retAddr (1 + 18)), (100, .long 40), (102, .long 91), (104, .long 123), (106, .long 41), (108, .long 93), (110, .long 125), (159, .long 42), (167, .long 59), (173, .long 61), (185, .long 47), (187, .long 43), (189, .long 45), (191, .long 60), (193, .long 62), (197, .long 38)]
theorem kK_5 : ∀ e ∈ kL_5, x_kok "PhaseReader$Parser" e := by
  have h : kL_5 = kL_5_0 ++ (kL_5_1) := rfl
  rw [h]
  exact List.forall_mem_append.mpr ⟨kK_5_0, kK_5_1⟩
def sL_5 : List (Nat × Nat) := []
theorem sK_5 : ∀ e ∈ sL_5, x_sok "PhaseReader$Parser" e := fun _ h => absurd h List.not_mem_nil
def tL_5 : List (Nat × Nat) := []
theorem tK_5 : ∀ e ∈ tL_5, x_tok "PhaseReader$Parser" e := fun _ h => absurd h List.not_mem_nil
def oL_6_0 : List (Nat × Nat × List Value) := [(13, 2, [.null, .null, .int 0, .null, .null, .null, .null]), (20, 7, [.null, .null, .int 0]), (27, 8, [.int 0, .int 0, .null, .null, .null, .null, .null, .int 0, .int 0, .int 0, .int 0, .int 0])]
theorem oK_6_0 : ∀ e ∈ oL_6_0, x_cok "PhaseReader$Preprocessor" e := List.forall_mem_cons.mpr ⟨⟨_, cT_2, 7, cY_2, rfl, cU_2, cP_2, (tw_1 (i := 37) rfl rfl), (tw_1 (i := 38) rfl rfl), (tw_1 (i := 3) rfl rfl), rfl, by decide +kernel, by decide +kernel⟩, List.forall_mem_cons.mpr ⟨⟨_, cT_7, 3, cY_7, rfl, cU_7, cP_7, (tw_1 (i := 179) rfl rfl), (tw_1 (i := 180) rfl rfl), (tw_1 (i := 8) rfl rfl), rfl, by decide +kernel, by decide +kernel⟩, List.forall_mem_cons.mpr ⟨⟨_, cT_8, 12, cY_8, rfl, cU_8, cP_8, (tw_1 (i := 196) rfl rfl), (tw_1 (i := 198) rfl rfl), (tw_1 (i := 9) rfl rfl), rfl, by decide +kernel, by decide +kernel⟩, fun _ h => absurd h List.not_mem_nil⟩⟩⟩
def oL_6 : List (Nat × Nat × List Value) := [(13, 2, [.null, .null, .int 0, .null, .null, .null, .null]), (20, 7, [.null, .null, .int 0]), (27, 8, [.int 0, .int 0, .null, .null, .null, .null, .null, .int 0, .int 0, .int 0, .int 0, .int 0])]
theorem oK_6 : ∀ e ∈ oL_6, x_cok "PhaseReader$Preprocessor" e := by
  have h : oL_6 = oL_6_0 := rfl
  rw [h]
  exact oK_6_0
def aL_6_0 : List (Nat × Nat) := [(27, 7)]
theorem aK_6_0 : ∀ e ∈ aL_6_0, x_aok "PhaseReader$Preprocessor" e := List.forall_mem_cons.mpr ⟨⟨_, (tw_1 (i := 196) rfl rfl), rfl, List.mem_of_getElem? (i := 2) rfl⟩, fun _ h => absurd h List.not_mem_nil⟩
def aL_6 : List (Nat × Nat) := [(27, 7)]
theorem aK_6 : ∀ e ∈ aL_6, x_aok "PhaseReader$Preprocessor" e := by
  have h : aL_6 = aL_6_0 := rfl
  rw [h]
  exact aK_6_0
def kL_6_0 : List (Nat × Value) := [(108, .retAddr (1 + 7)), (116, .retAddr (1 + 8)), (120, .retAddr (1 + 9)), (126, .retAddr (1 + 10)), (139, .retAddr (1 + 11)), (155, .retAddr (1 + 12)), (161, .retAddr (1 + 13)), (95, .long 35), (163, .long 60), (165, .long 62), (167, .long 48), (169, .long 51)]
theorem kK_6_0 : ∀ e ∈ kL_6_0, x_kok "PhaseReader$Preprocessor" e := List.forall_mem_cons.mpr ⟨⟨(fun v h => by cases h), (fun v h => by cases h), (fun v h => by cases h; exact ⟨7, _, rfl, by decide, List.mem_of_getElem? (i := 7) rfl⟩)⟩, List.forall_mem_cons.mpr ⟨⟨(fun v h => by cases h), (fun v h => by cases h), (fun v h => by cases h; exact ⟨8, _, rfl, by decide, List.mem_of_getElem? (i := 8) rfl⟩)⟩, List.forall_mem_cons.mpr ⟨⟨(fun v h => by cases h), (fun v h => by cases h), (fun v h => by cases h; exact ⟨9, _, rfl, by decide, List.mem_of_getElem? (i := 9) rfl⟩)⟩, List.forall_mem_cons.mpr ⟨⟨(fun v h => by cases h), (fun v h => by cases h), (fun v h => by cases h; exact ⟨10, _, rfl, by decide, List.mem_of_getElem? (i := 10) rfl⟩)⟩, List.forall_mem_cons.mpr ⟨⟨(fun v h => by cases h), (fun v h => by cases h), (fun v h => by cases h; exact ⟨11, _, rfl, by decide, List.mem_of_getElem? (i := 11) rfl⟩)⟩, List.forall_mem_cons.mpr ⟨⟨(fun v h => by cases h), (fun v h => by cases h), (fun v h => by cases h; exact ⟨12, _, rfl, by decide, List.mem_of_getElem? (i := 12) rfl⟩)⟩, List.forall_mem_cons.mpr ⟨⟨(fun v h => by cases h), (fun v h => by cases h), (fun v h => by cases h; exact ⟨13, _, rfl, by decide, List.mem_of_getElem? (i := 13) rfl⟩)⟩, List.forall_mem_cons.mpr ⟨⟨(fun v h => by cases h), (fun v h => by cases h; exact (tw_3 (i := 100) rfl rfl)), (fun v h => by cases h)⟩, List.forall_mem_cons.mpr ⟨⟨(fun v h => by cases h), (fun v h => by cases h; exact (tw_3 (i := 227) rfl rfl)), (fun v h => by cases h)⟩, List.forall_mem_cons.mpr ⟨⟨(fun v h => by cases h), (fun v h => by cases h; exact (tw_3 (i := 228) rfl rfl)), (fun v h => by cases h)⟩, List.forall_mem_cons.mpr ⟨⟨(fun v h => by cases h), (fun v h => by cases h; exact (tw_3 (i := 229) rfl rfl)), (fun v h => by cases h)⟩, List.forall_mem_cons.mpr ⟨⟨(fun v h => by cases h), (fun v h => by cases h; exact (tw_3 (i := 230) rfl rfl)), (fun v h => by cases h)⟩, fun _ h => absurd h List.not_mem_nil⟩⟩⟩⟩⟩⟩⟩⟩⟩⟩⟩⟩
def kL_6_1 : List (Nat × Value) := [(171, .long 40), (187, .long 41), (192, .long 44), (194, .long 4515)]
theorem kK_6_1 : ∀ e ∈ kL_6_1, x_kok "PhaseReader$Preprocessor" e := List.forall_mem_cons.mpr ⟨⟨(fun v h => by cases h), (fun v h => by cases h; exact (tw_3 (i := 203) rfl rfl)), (fun v h => by cases h)⟩, List.forall_mem_cons.mpr ⟨⟨(fun v h => by cases h), (fun v h => by cases h; exact (tw_3 (i := 207) rfl rfl)), (fun v h => by cases h)⟩, List.forall_mem_cons.mpr ⟨⟨(fun v h => by cases h), (fun v h => by cases h; exact (tw_3 (i := 211) rfl rfl)), (fun v h => by cases h)⟩, List.forall_mem_cons.mpr ⟨⟨(fun v h => by cases h), (fun v h => by cases h; exact (tw_3 (i := 215) rfl rfl)), (fun v h => by cases h)⟩, fun _ h => absurd h List.not_mem_nil⟩⟩⟩⟩
def kL_6 : List (Nat × Value) := [(108, .retAddr (1 + 7)), (116, .retAddr (1 + 8)), (120, .retAddr (1 + 9)), (126, .retAddr (1 + 10)), (139, .retAddr (1 + 11)), (155, .retAddr (1 + 12)), (161, .retAddr (1 + 13)), (95, .long 35), (163, .long 60), (165, .long 62), (167, .long 48), (169, .long 51), (171, .long 40), (187, .long 41), (192, .long 44), (194, .long 4515)]
theorem kK_6 : ∀ e ∈ kL_6, x_kok "PhaseReader$Preprocessor" e := by
  have h : kL_6 = kL_6_0 ++ (kL_6_1) := rfl
  rw [h]
  exact List.forall_mem_append.mpr ⟨kK_6_0, kK_6_1⟩
def sL_6 : List (Nat × Nat) := []
theorem sK_6 : ∀ e ∈ sL_6, x_sok "PhaseReader$Preprocessor" e := fun _ h => absurd h List.not_mem_nil
def tL_6 : List (Nat × Nat) := []
theorem tK_6 : ∀ e ∈ tL_6, x_tok "PhaseReader$Preprocessor" e := fun _ h => absurd h List.not_mem_nil
def oL_7 : List (Nat × Nat × List Value) := []
theorem oK_7 : ∀ e ∈ oL_7, x_cok "PhaseReader$Scanner" e := fun _ h => absurd h List.not_mem_nil
def aL_7 : List (Nat × Nat) := []
theorem aK_7 : ∀ e ∈ aL_7, x_aok "PhaseReader$Scanner" e := fun _ h => absurd h List.not_mem_nil
def kL_7_0 : List (Nat × Value) := [(48, .retAddr (1 + 1)), (56, .retAddr (1 + 0)), (87, .retAddr (1 + 2))]
theorem kK_7_0 : ∀ e ∈ kL_7_0, x_kok "PhaseReader$Scanner" e := List.forall_mem_cons.mpr ⟨⟨(fun v h => by cases h), (fun v h => by cases h), (fun v h => by cases h; exact ⟨1, _, rfl, by decide, List.mem_of_getElem? (i := 1) rfl⟩)⟩, List.forall_mem_cons.mpr ⟨⟨(fun v h => by cases h), (fun v h => by cases h), (fun v h => by cases h; exact ⟨0, _, rfl, by decide, List.mem_of_getElem? (i := 0) rfl⟩)⟩, List.forall_mem_cons.mpr ⟨⟨(fun v h => by cases h), (fun v h => by cases h), (fun v h => by cases h; exact ⟨2, _, rfl, by decide, List.mem_of_getElem? (i := 2) rfl⟩)⟩, fun _ h => absurd h List.not_mem_nil⟩⟩⟩
def kL_7 : List (Nat × Value) := [(48, .retAddr (1 + 1)), (56, .retAddr (1 + 0)), (87, .retAddr (1 + 2))]
theorem kK_7 : ∀ e ∈ kL_7, x_kok "PhaseReader$Scanner" e := by
  have h : kL_7 = kL_7_0 := rfl
  rw [h]
  exact kK_7_0
def sL_7 : List (Nat × Nat) := []
theorem sK_7 : ∀ e ∈ sL_7, x_sok "PhaseReader$Scanner" e := fun _ h => absurd h List.not_mem_nil
def tL_7 : List (Nat × Nat) := []
theorem tK_7 : ∀ e ∈ tL_7, x_tok "PhaseReader$Scanner" e := fun _ h => absurd h List.not_mem_nil
def oL_8_0 : List (Nat × Nat × List Value) := [(11, 10, [.null, .null, .int 0])]
theorem oK_8_0 : ∀ e ∈ oL_8_0, x_cok "PhaseReader$Source" e := List.forall_mem_cons.mpr ⟨⟨_, cT_10, 3, cY_10, rfl, cU_10, cP_10, (tw_1 (i := 203) rfl rfl), (tw_1 (i := 95) rfl rfl), (tw_1 (i := 6) rfl rfl), rfl, by decide +kernel, by decide +kernel⟩, fun _ h => absurd h List.not_mem_nil⟩
def oL_8 : List (Nat × Nat × List Value) := [(11, 10, [.null, .null, .int 0])]
theorem oK_8 : ∀ e ∈ oL_8, x_cok "PhaseReader$Source" e := by
  have h : oL_8 = oL_8_0 := rfl
  rw [h]
  exact oK_8_0
def aL_8 : List (Nat × Nat) := []
theorem aK_8 : ∀ e ∈ aL_8, x_aok "PhaseReader$Source" e := fun _ h => absurd h List.not_mem_nil
def kL_8_0 : List (Nat × Value) := [(72, .retAddr (1 + 3)), (78, .retAddr (1 + 4)), (80, .retAddr (1 + 5)), (82, .retAddr (1 + 6)), (70, .long 35)]
theorem kK_8_0 : ∀ e ∈ kL_8_0, x_kok "PhaseReader$Source" e := List.forall_mem_cons.mpr ⟨⟨(fun v h => by cases h), (fun v h => by cases h), (fun v h => by cases h; exact ⟨3, _, rfl, by decide, List.mem_of_getElem? (i := 3) rfl⟩)⟩, List.forall_mem_cons.mpr ⟨⟨(fun v h => by cases h), (fun v h => by cases h), (fun v h => by cases h; exact ⟨4, _, rfl, by decide, List.mem_of_getElem? (i := 4) rfl⟩)⟩, List.forall_mem_cons.mpr ⟨⟨(fun v h => by cases h), (fun v h => by cases h), (fun v h => by cases h; exact ⟨5, _, rfl, by decide, List.mem_of_getElem? (i := 5) rfl⟩)⟩, List.forall_mem_cons.mpr ⟨⟨(fun v h => by cases h), (fun v h => by cases h), (fun v h => by cases h; exact ⟨6, _, rfl, by decide, List.mem_of_getElem? (i := 6) rfl⟩)⟩, List.forall_mem_cons.mpr ⟨⟨(fun v h => by cases h), (fun v h => by cases h; exact (tw_3 (i := 90) rfl rfl)), (fun v h => by cases h)⟩, fun _ h => absurd h List.not_mem_nil⟩⟩⟩⟩⟩
def kL_8 : List (Nat × Value) := [(72, .retAddr (1 + 3)), (78, .retAddr (1 + 4)), (80, .retAddr (1 + 5)), (82, .retAddr (1 + 6)), (70, .long 35)]
theorem kK_8 : ∀ e ∈ kL_8, x_kok "PhaseReader$Source" e := by
  have h : kL_8 = kL_8_0 := rfl
  rw [h]
  exact kK_8_0
def sL_8 : List (Nat × Nat) := []
theorem sK_8 : ∀ e ∈ sL_8, x_sok "PhaseReader$Source" e := fun _ h => absurd h List.not_mem_nil
def tL_8 : List (Nat × Nat) := []
theorem tK_8 : ∀ e ∈ tL_8, x_tok "PhaseReader$Source" e := fun _ h => absurd h List.not_mem_nil
def oL_9 : List (Nat × Nat × List Value) := []
theorem oK_9 : ∀ e ∈ oL_9, x_cok "PhaseReader$Text" e := fun _ h => absurd h List.not_mem_nil
def aL_9 : List (Nat × Nat) := []
theorem aK_9 : ∀ e ∈ aL_9, x_aok "PhaseReader$Text" e := fun _ h => absurd h List.not_mem_nil
def kL_9 : List (Nat × Value) := []
theorem kK_9 : ∀ e ∈ kL_9, x_kok "PhaseReader$Text" e := fun _ h => absurd h List.not_mem_nil
def sL_9 : List (Nat × Nat) := []
theorem sK_9 : ∀ e ∈ sL_9, x_sok "PhaseReader$Text" e := fun _ h => absurd h List.not_mem_nil
def tL_9 : List (Nat × Nat) := []
theorem tK_9 : ∀ e ∈ tL_9, x_tok "PhaseReader$Text" e := fun _ h => absurd h List.not_mem_nil
def oL_10 : List (Nat × Nat × List Value) := []
theorem oK_10 : ∀ e ∈ oL_10, x_cok "PhaseReader$TokenRow" e := fun _ h => absurd h List.not_mem_nil
def aL_10 : List (Nat × Nat) := []
theorem aK_10 : ∀ e ∈ aL_10, x_aok "PhaseReader$TokenRow" e := fun _ h => absurd h List.not_mem_nil
def kL_10_0 : List (Nat × Value) := [(25, .long 35), (27, .long 61), (57, .long 48), (59, .long 57), (61, .long 127)]
theorem kK_10_0 : ∀ e ∈ kL_10_0, x_kok "PhaseReader$TokenRow" e := List.forall_mem_cons.mpr ⟨⟨(fun v h => by cases h), (fun v h => by cases h; exact (tw_3 (i := 171) rfl rfl)), (fun v h => by cases h)⟩, List.forall_mem_cons.mpr ⟨⟨(fun v h => by cases h), (fun v h => by cases h; exact (tw_3 (i := 172) rfl rfl)), (fun v h => by cases h)⟩, List.forall_mem_cons.mpr ⟨⟨(fun v h => by cases h), (fun v h => by cases h; exact (tw_3 (i := 201) rfl rfl)), (fun v h => by cases h)⟩, List.forall_mem_cons.mpr ⟨⟨(fun v h => by cases h), (fun v h => by cases h; exact (tw_3 (i := 202) rfl rfl)), (fun v h => by cases h)⟩, List.forall_mem_cons.mpr ⟨⟨(fun v h => by cases h), (fun v h => by cases h; exact (tw_3 (i := 200) rfl rfl)), (fun v h => by cases h)⟩, fun _ h => absurd h List.not_mem_nil⟩⟩⟩⟩⟩
def kL_10 : List (Nat × Value) := [(25, .long 35), (27, .long 61), (57, .long 48), (59, .long 57), (61, .long 127)]
theorem kK_10 : ∀ e ∈ kL_10, x_kok "PhaseReader$TokenRow" e := by
  have h : kL_10 = kL_10_0 := rfl
  rw [h]
  exact kK_10_0
def sL_10 : List (Nat × Nat) := []
theorem sK_10 : ∀ e ∈ sL_10, x_sok "PhaseReader$TokenRow" e := fun _ h => absurd h List.not_mem_nil
def tL_10 : List (Nat × Nat) := []
theorem tK_10 : ∀ e ∈ tL_10, x_tok "PhaseReader$TokenRow" e := fun _ h => absurd h List.not_mem_nil
def oL_11 : List (Nat × Nat × List Value) := []
theorem oK_11 : ∀ e ∈ oL_11, x_cok "PhaseReader$Tree" e := fun _ h => absurd h List.not_mem_nil
def aL_11 : List (Nat × Nat) := []
theorem aK_11 : ∀ e ∈ aL_11, x_aok "PhaseReader$Tree" e := fun _ h => absurd h List.not_mem_nil
def kL_11 : List (Nat × Value) := []
theorem kK_11 : ∀ e ∈ kL_11, x_kok "PhaseReader$Tree" e := fun _ h => absurd h List.not_mem_nil
def sL_11 : List (Nat × Nat) := []
theorem sK_11 : ∀ e ∈ sL_11, x_sok "PhaseReader$Tree" e := fun _ h => absurd h List.not_mem_nil
def tL_11 : List (Nat × Nat) := []
theorem tK_11 : ∀ e ∈ tL_11, x_tok "PhaseReader$Tree" e := fun _ h => absurd h List.not_mem_nil
def oL_12 : List (Nat × Nat × List Value) := []
theorem oK_12 : ∀ e ∈ oL_12, x_cok "PhaseReaderModel" e := fun _ h => absurd h List.not_mem_nil
def aL_12 : List (Nat × Nat) := []
theorem aK_12 : ∀ e ∈ aL_12, x_aok "PhaseReaderModel" e := fun _ h => absurd h List.not_mem_nil
def kL_12_0 : List (Nat × Value) := [(188, .long 127), (231, .long 35), (244, .long 28401283814), (246, .long 3635385283302), (248, .long 213596645), (250, .long 27344319718), (255, .long 3463301461861), (260, .long 465601258418789), (273, .long 31639286502), (278, .long 60), (280, .long 62), (282, .long 48)]
theorem kK_12_0 : ∀ e ∈ kL_12_0, x_kok "PhaseReaderModel" e := List.forall_mem_cons.mpr ⟨⟨(fun v h => by cases h), (fun v h => by cases h; exact (tw_6 (i := 30) rfl rfl)), (fun v h => by cases h)⟩, List.forall_mem_cons.mpr ⟨⟨(fun v h => by cases h), (fun v h => by cases h; exact (tw_6 (i := 43) rfl rfl)), (fun v h => by cases h)⟩, List.forall_mem_cons.mpr ⟨⟨(fun v h => by cases h), (fun v h => by cases h; exact (tw_6 (i := 48) rfl rfl)), (fun v h => by cases h)⟩, List.forall_mem_cons.mpr ⟨⟨(fun v h => by cases h), (fun v h => by cases h; exact (tw_6 (i := 49) rfl rfl)), (fun v h => by cases h)⟩, List.forall_mem_cons.mpr ⟨⟨(fun v h => by cases h), (fun v h => by cases h; exact (tw_6 (i := 50) rfl rfl)), (fun v h => by cases h)⟩, List.forall_mem_cons.mpr ⟨⟨(fun v h => by cases h), (fun v h => by cases h; exact (tw_6 (i := 51) rfl rfl)), (fun v h => by cases h)⟩, List.forall_mem_cons.mpr ⟨⟨(fun v h => by cases h), (fun v h => by cases h; exact (tw_6 (i := 56) rfl rfl)), (fun v h => by cases h)⟩, List.forall_mem_cons.mpr ⟨⟨(fun v h => by cases h), (fun v h => by cases h; exact (tw_6 (i := 75) rfl rfl)), (fun v h => by cases h)⟩, List.forall_mem_cons.mpr ⟨⟨(fun v h => by cases h), (fun v h => by cases h; exact (tw_6 (i := 88) rfl rfl)), (fun v h => by cases h)⟩, List.forall_mem_cons.mpr ⟨⟨(fun v h => by cases h), (fun v h => by cases h; exact (tw_6 (i := 80) rfl rfl)), (fun v h => by cases h)⟩, List.forall_mem_cons.mpr ⟨⟨(fun v h => by cases h), (fun v h => by cases h; exact (tw_6 (i := 81) rfl rfl)), (fun v h => by cases h)⟩, List.forall_mem_cons.mpr ⟨⟨(fun v h => by cases h), (fun v h => by cases h; exact (tw_6 (i := 82) rfl rfl)), (fun v h => by cases h)⟩, fun _ h => absurd h List.not_mem_nil⟩⟩⟩⟩⟩⟩⟩⟩⟩⟩⟩⟩
def kL_12_1 : List (Nat × Value) := [(284, .long 50), (292, .long 41), (294, .long 44), (296, .long 40), (301, .long 4515), (352, .long 7869), (369, .long 91), (371, .long 123), (373, .long 93), (375, .long 125), (377, .long 2), (379, .long 1734516)]
theorem kK_12_1 : ∀ e ∈ kL_12_1, x_kok "PhaseReaderModel" e := List.forall_mem_cons.mpr ⟨⟨(fun v h => by cases h), (fun v h => by cases h; exact (tw_6 (i := 83) rfl rfl)), (fun v h => by cases h)⟩, List.forall_mem_cons.mpr ⟨⟨(fun v h => by cases h), (fun v h => by cases h; exact (tw_6 (i := 41) rfl rfl)), (fun v h => by cases h)⟩, List.forall_mem_cons.mpr ⟨⟨(fun v h => by cases h), (fun v h => by cases h; exact (tw_6 (i := 42) rfl rfl)), (fun v h => by cases h)⟩, List.forall_mem_cons.mpr ⟨⟨(fun v h => by cases h), (fun v h => by cases h; exact (tw_6 (i := 36) rfl rfl)), (fun v h => by cases h)⟩, List.forall_mem_cons.mpr ⟨⟨(fun v h => by cases h), (fun v h => by cases h; exact (tw_6 (i := 15) rfl rfl)), (fun v h => by cases h)⟩, List.forall_mem_cons.mpr ⟨⟨(fun v h => by cases h), (fun v h => by cases h; exact (tw_6 (i := 31) rfl rfl)), (fun v h => by cases h)⟩, List.forall_mem_cons.mpr ⟨⟨(fun v h => by cases h), (fun v h => by cases h; exact (tw_6 (i := 96) rfl rfl)), (fun v h => by cases h)⟩, List.forall_mem_cons.mpr ⟨⟨(fun v h => by cases h), (fun v h => by cases h; exact (tw_6 (i := 97) rfl rfl)), (fun v h => by cases h)⟩, List.forall_mem_cons.mpr ⟨⟨(fun v h => by cases h), (fun v h => by cases h; exact (tw_6 (i := 98) rfl rfl)), (fun v h => by cases h)⟩, List.forall_mem_cons.mpr ⟨⟨(fun v h => by cases h), (fun v h => by cases h; exact (tw_6 (i := 99) rfl rfl)), (fun v h => by cases h)⟩, List.forall_mem_cons.mpr ⟨⟨(fun v h => by cases h), (fun v h => by cases h; exact (tw_6 (i := 108) rfl rfl)), (fun v h => by cases h)⟩, List.forall_mem_cons.mpr ⟨⟨(fun v h => by cases h), (fun v h => by cases h; exact (tw_6 (i := 126) rfl rfl)), (fun v h => by cases h)⟩, fun _ h => absurd h List.not_mem_nil⟩⟩⟩⟩⟩⟩⟩⟩⟩⟩⟩⟩
def kL_12_2 : List (Nat × Value) := [(381, .long 209334514), (383, .long 514361201865446), (385, .long 3944367356270), (415, .long 59), (430, .long 61), (432, .long 42), (441, .long 43), (443, .long 45), (445, .long 47), (453, .long 38), (322, .int 100000)]
theorem kK_12_2 : ∀ e ∈ kL_12_2, x_kok "PhaseReaderModel" e := List.forall_mem_cons.mpr ⟨⟨(fun v h => by cases h), (fun v h => by cases h; exact (tw_6 (i := 127) rfl rfl)), (fun v h => by cases h)⟩, List.forall_mem_cons.mpr ⟨⟨(fun v h => by cases h), (fun v h => by cases h; exact (tw_6 (i := 121) rfl rfl)), (fun v h => by cases h)⟩, List.forall_mem_cons.mpr ⟨⟨(fun v h => by cases h), (fun v h => by cases h; exact (tw_6 (i := 132) rfl rfl)), (fun v h => by cases h)⟩, List.forall_mem_cons.mpr ⟨⟨(fun v h => by cases h), (fun v h => by cases h; exact (tw_6 (i := 137) rfl rfl)), (fun v h => by cases h)⟩, List.forall_mem_cons.mpr ⟨⟨(fun v h => by cases h), (fun v h => by cases h; exact (tw_6 (i := 149) rfl rfl)), (fun v h => by cases h)⟩, List.forall_mem_cons.mpr ⟨⟨(fun v h => by cases h), (fun v h => by cases h; exact (tw_6 (i := 152) rfl rfl)), (fun v h => by cases h)⟩, List.forall_mem_cons.mpr ⟨⟨(fun v h => by cases h), (fun v h => by cases h; exact (tw_6 (i := 150) rfl rfl)), (fun v h => by cases h)⟩, List.forall_mem_cons.mpr ⟨⟨(fun v h => by cases h), (fun v h => by cases h; exact (tw_6 (i := 151) rfl rfl)), (fun v h => by cases h)⟩, List.forall_mem_cons.mpr ⟨⟨(fun v h => by cases h), (fun v h => by cases h; exact (tw_6 (i := 153) rfl rfl)), (fun v h => by cases h)⟩, List.forall_mem_cons.mpr ⟨⟨(fun v h => by cases h), (fun v h => by cases h; exact (tw_6 (i := 158) rfl rfl)), (fun v h => by cases h)⟩, List.forall_mem_cons.mpr ⟨⟨(fun v h => by cases h; exact (tw_5 (i := 238) rfl rfl)), (fun v h => by cases h), (fun v h => by cases h)⟩, fun _ h => absurd h List.not_mem_nil⟩⟩⟩⟩⟩⟩⟩⟩⟩⟩⟩
def kL_12 : List (Nat × Value) := [(188, .long 127), (231, .long 35), (244, .long 28401283814), (246, .long 3635385283302), (248, .long 213596645), (250, .long 27344319718), (255, .long 3463301461861), (260, .long 465601258418789), (273, .long 31639286502), (278, .long 60), (280, .long 62), (282, .long 48), (284, .long 50), (292, .long 41), (294, .long 44), (296, .long 40), (301, .long 4515), (352, .long 7869), (369, .long 91), (371, .long 123), (373, .long 93), (375, .long 125), (377, .long 2), (379, .long 1734516), (381, .long 209334514), (383, .long 514361201865446), (385, .long 3944367356270), (415, .long 59), (430, .long 61), (432, .long 42), (441, .long 43), (443, .long 45), (445, .long 47), (453, .long 38), (322, .int 100000)]
theorem kK_12 : ∀ e ∈ kL_12, x_kok "PhaseReaderModel" e := by
  have h : kL_12 = kL_12_0 ++ (kL_12_1 ++ (kL_12_2)) := rfl
  rw [h]
  exact List.forall_mem_append.mpr ⟨kK_12_0, List.forall_mem_append.mpr ⟨kK_12_1, kK_12_2⟩⟩
def sL_12 : List (Nat × Nat) := []
theorem sK_12 : ∀ e ∈ sL_12, x_sok "PhaseReaderModel" e := fun _ h => absurd h List.not_mem_nil
def tL_12 : List (Nat × Nat) := []
theorem tK_12 : ∀ e ∈ tL_12, x_tok "PhaseReaderModel" e := fun _ h => absurd h List.not_mem_nil
def oL_13_0 : List (Nat × Nat × List Value) := [(7, 0, [.null, .null, .null, .int 0, .int 0]), (10, 12, [.null, .null, .int 0, .null, .null, .int 0, .null, .null, .null, .null, .null, .null, .int 0, .int 0, .null, .null, .int 0, .int 0, .null, .null, .null, .null, .null, .int 0, .null, .null, .int 0, .null, .null, .int 0, .null, .null, .int 0, .null, .null, .int 0, .null, .null, .null, .null, .null, .null, .null, .null, .null, .null, .int 0, .null, .null, .int 0, .int 0, .null, .null, .null, .null, .null, .int 0, .null, .null, .null, .null, .int 0, .null, .null, .null, .null, .null, .int 0, .null, .null, .null, .null])]
theorem oK_13_0 : ∀ e ∈ oL_13_0, x_cok "PhaseReaderLaw" e := List.forall_mem_cons.mpr ⟨⟨_, cT_0, 5, cY_0, rfl, cU_0, cP_0, (tw_1 (i := 21) rfl rfl), (tw_1 (i := 22) rfl rfl), (tw_1 (i := 1) rfl rfl), rfl, by decide +kernel, by decide +kernel⟩, List.forall_mem_cons.mpr ⟨⟨_, cT_12, 72, cY_12, rfl, cU_12, cP_12, (tw_4 (i := 198) rfl rfl), (tw_4 (i := 199) rfl rfl), (tw_1 (i := 13) rfl rfl), rfl, by decide +kernel, by decide +kernel⟩, fun _ h => absurd h List.not_mem_nil⟩⟩
def oL_13 : List (Nat × Nat × List Value) := [(7, 0, [.null, .null, .null, .int 0, .int 0]), (10, 12, [.null, .null, .int 0, .null, .null, .int 0, .null, .null, .null, .null, .null, .null, .int 0, .int 0, .null, .null, .int 0, .int 0, .null, .null, .null, .null, .null, .int 0, .null, .null, .int 0, .null, .null, .int 0, .null, .null, .int 0, .null, .null, .int 0, .null, .null, .null, .null, .null, .null, .null, .null, .null, .null, .int 0, .null, .null, .int 0, .int 0, .null, .null, .null, .null, .null, .int 0, .null, .null, .null, .null, .int 0, .null, .null, .null, .null, .null, .int 0, .null, .null, .null, .null])]
theorem oK_13 : ∀ e ∈ oL_13, x_cok "PhaseReaderLaw" e := by
  have h : oL_13 = oL_13_0 := rfl
  rw [h]
  exact oK_13_0
def aL_13 : List (Nat × Nat) := []
theorem aK_13 : ∀ e ∈ aL_13, x_aok "PhaseReaderLaw" e := fun _ h => absurd h List.not_mem_nil
def kL_13 : List (Nat × Value) := []
theorem kK_13 : ∀ e ∈ kL_13, x_kok "PhaseReaderLaw" e := fun _ h => absurd h List.not_mem_nil
def sL_13 : List (Nat × Nat) := []
theorem sK_13 : ∀ e ∈ sL_13, x_sok "PhaseReaderLaw" e := fun _ h => absurd h List.not_mem_nil
def tL_13 : List (Nat × Nat) := []
theorem tK_13 : ∀ e ∈ tL_13, x_tok "PhaseReaderLaw" e := fun _ h => absurd h List.not_mem_nil
def oL_14 : List (Nat × Nat × List Value) := []
theorem oK_14 : ∀ e ∈ oL_14, x_cok "java/lang/String" e := fun _ h => absurd h List.not_mem_nil
def aL_14 : List (Nat × Nat) := []
theorem aK_14 : ∀ e ∈ aL_14, x_aok "java/lang/String" e := fun _ h => absurd h List.not_mem_nil
def kL_14 : List (Nat × Value) := []
theorem kK_14 : ∀ e ∈ kL_14, x_kok "java/lang/String" e := fun _ h => absurd h List.not_mem_nil
def sL_14_0 : List (Nat × Nat) := [(9, 0), (15, 1)]
theorem sK_14_0 : ∀ e ∈ sL_14_0, x_sok "java/lang/String" e := List.forall_mem_cons.mpr ⟨Or.inl ⟨rfl, (tw_6 (i := 209) rfl rfl)⟩, List.forall_mem_cons.mpr ⟨Or.inr ⟨rfl, (tw_6 (i := 208) rfl rfl)⟩, fun _ h => absurd h List.not_mem_nil⟩⟩
def sL_14 : List (Nat × Nat) := [(9, 0), (15, 1)]
theorem sK_14 : ∀ e ∈ sL_14, x_sok "java/lang/String" e := by
  have h : sL_14 = sL_14_0 := rfl
  rw [h]
  exact sK_14_0
def tL_14_0 : List (Nat × Nat) := [(38, 0), (1053, 1)]
theorem tK_14_0 : ∀ e ∈ tL_14_0, x_tok "java/lang/String" e := List.forall_mem_cons.mpr ⟨Or.inl ⟨rfl, (tw_2 (i := 183) rfl rfl)⟩, List.forall_mem_cons.mpr ⟨Or.inr ⟨rfl, (tw_2 (i := 226) rfl rfl)⟩, fun _ h => absurd h List.not_mem_nil⟩⟩
def tL_14 : List (Nat × Nat) := [(38, 0), (1053, 1)]
theorem tK_14 : ∀ e ∈ tL_14, x_tok "java/lang/String" e := by
  have h : tL_14 = tL_14_0 := rfl
  rw [h]
  exact tK_14_0
def oL_15 : List (Nat × Nat × List Value) := []
theorem oK_15 : ∀ e ∈ oL_15, x_cok "java/lang/StringLatin1" e := fun _ h => absurd h List.not_mem_nil
def aL_15 : List (Nat × Nat) := []
theorem aK_15 : ∀ e ∈ aL_15, x_aok "java/lang/StringLatin1" e := fun _ h => absurd h List.not_mem_nil
def kL_15 : List (Nat × Value) := []
theorem kK_15 : ∀ e ∈ kL_15, x_kok "java/lang/StringLatin1" e := fun _ h => absurd h List.not_mem_nil
def sL_15 : List (Nat × Nat) := []
theorem sK_15 : ∀ e ∈ sL_15, x_sok "java/lang/StringLatin1" e := fun _ h => absurd h List.not_mem_nil
def tL_15 : List (Nat × Nat) := []
theorem tK_15 : ∀ e ∈ tL_15, x_tok "java/lang/StringLatin1" e := fun _ h => absurd h List.not_mem_nil
def oL_16 : List (Nat × Nat × List Value) := []
theorem oK_16 : ∀ e ∈ oL_16, x_cok "jdk/internal/util/Preconditions" e := fun _ h => absurd h List.not_mem_nil
def aL_16 : List (Nat × Nat) := []
theorem aK_16 : ∀ e ∈ aL_16, x_aok "jdk/internal/util/Preconditions" e := fun _ h => absurd h List.not_mem_nil
def kL_16 : List (Nat × Value) := []
theorem kK_16 : ∀ e ∈ kL_16, x_kok "jdk/internal/util/Preconditions" e := fun _ h => absurd h List.not_mem_nil
def sL_16 : List (Nat × Nat) := []
theorem sK_16 : ∀ e ∈ sL_16, x_sok "jdk/internal/util/Preconditions" e := fun _ h => absurd h List.not_mem_nil
def tL_16 : List (Nat × Nat) := []
theorem tK_16 : ∀ e ∈ tL_16, x_tok "jdk/internal/util/Preconditions" e := fun _ h => absurd h List.not_mem_nil
def x_oL : List (List (Nat × Nat × List Value)) := [oL_0, oL_1, oL_2, oL_3, oL_4, oL_5, oL_6, oL_7, oL_8, oL_9, oL_10, oL_11, oL_12, oL_13, oL_14, oL_15, oL_16]
theorem x_oL_ok : ∀ (c : Nat) (l : List (Nat × Nat × List Value)), x_oL[c]? = some l → ∀ e ∈ l, x_cok (x_cn.getD c "") e
  | 0, _, h => by cases h; exact oK_0
  | 1, _, h => by cases h; exact oK_1
  | 2, _, h => by cases h; exact oK_2
  | 3, _, h => by cases h; exact oK_3
  | 4, _, h => by cases h; exact oK_4
  | 5, _, h => by cases h; exact oK_5
  | 6, _, h => by cases h; exact oK_6
  | 7, _, h => by cases h; exact oK_7
  | 8, _, h => by cases h; exact oK_8
  | 9, _, h => by cases h; exact oK_9
  | 10, _, h => by cases h; exact oK_10
  | 11, _, h => by cases h; exact oK_11
  | 12, _, h => by cases h; exact oK_12
  | 13, _, h => by cases h; exact oK_13
  | 14, _, h => by cases h; exact oK_14
  | 15, _, h => by cases h; exact oK_15
  | 16, _, h => by cases h; exact oK_16
  | _ + 17, _, h => by cases h
theorem x_oL_use {k a : Nat} {b : Nat × List Value} (h : (x_oL.getD (x_own k) []).lookup a = some b) : x_cok (x_y k).cls (a, b) := by
  have hm := lk_mem h
  cases hF : x_oL[x_own k]? with
  | none =>
    rw [List.getD_eq_getElem?_getD, hF] at hm
    exact absurd hm List.not_mem_nil
  | some l =>
    rw [List.getD_eq_getElem?_getD, hF] at hm
    have hm : (a, b) ∈ l := hm
    have hlt : x_own k ≠ 99 := by
      intro q
      rw [q] at hF
      cases hF
    have hin := x_ml_ok _ (x_me_in hlt)
    have hcn : (x_y k).cls = x_cn.getD (x_own k) "" := hin.1
    rw [hcn]
    exact x_oL_ok _ _ hF _ hm
def x_aL : List (List (Nat × Nat)) := [aL_0, aL_1, aL_2, aL_3, aL_4, aL_5, aL_6, aL_7, aL_8, aL_9, aL_10, aL_11, aL_12, aL_13, aL_14, aL_15, aL_16]
theorem x_aL_ok : ∀ (c : Nat) (l : List (Nat × Nat)), x_aL[c]? = some l → ∀ e ∈ l, x_aok (x_cn.getD c "") e
  | 0, _, h => by cases h; exact aK_0
  | 1, _, h => by cases h; exact aK_1
  | 2, _, h => by cases h; exact aK_2
  | 3, _, h => by cases h; exact aK_3
  | 4, _, h => by cases h; exact aK_4
  | 5, _, h => by cases h; exact aK_5
  | 6, _, h => by cases h; exact aK_6
  | 7, _, h => by cases h; exact aK_7
  | 8, _, h => by cases h; exact aK_8
  | 9, _, h => by cases h; exact aK_9
  | 10, _, h => by cases h; exact aK_10
  | 11, _, h => by cases h; exact aK_11
  | 12, _, h => by cases h; exact aK_12
  | 13, _, h => by cases h; exact aK_13
  | 14, _, h => by cases h; exact aK_14
  | 15, _, h => by cases h; exact aK_15
  | 16, _, h => by cases h; exact aK_16
  | _ + 17, _, h => by cases h
theorem x_aL_use {k a : Nat} {b : Nat} (h : (x_aL.getD (x_own k) []).lookup a = some b) : x_aok (x_y k).cls (a, b) := by
  have hm := lk_mem h
  cases hF : x_aL[x_own k]? with
  | none =>
    rw [List.getD_eq_getElem?_getD, hF] at hm
    exact absurd hm List.not_mem_nil
  | some l =>
    rw [List.getD_eq_getElem?_getD, hF] at hm
    have hm : (a, b) ∈ l := hm
    have hlt : x_own k ≠ 99 := by
      intro q
      rw [q] at hF
      cases hF
    have hin := x_ml_ok _ (x_me_in hlt)
    have hcn : (x_y k).cls = x_cn.getD (x_own k) "" := hin.1
    rw [hcn]
    exact x_aL_ok _ _ hF _ hm
def x_kL : List (List (Nat × Value)) := [kL_0, kL_1, kL_2, kL_3, kL_4, kL_5, kL_6, kL_7, kL_8, kL_9, kL_10, kL_11, kL_12, kL_13, kL_14, kL_15, kL_16]
theorem x_kL_ok : ∀ (c : Nat) (l : List (Nat × Value)), x_kL[c]? = some l → ∀ e ∈ l, x_kok (x_cn.getD c "") e
  | 0, _, h => by cases h; exact kK_0
  | 1, _, h => by cases h; exact kK_1
  | 2, _, h => by cases h; exact kK_2
  | 3, _, h => by cases h; exact kK_3
  | 4, _, h => by cases h; exact kK_4
  | 5, _, h => by cases h; exact kK_5
  | 6, _, h => by cases h; exact kK_6
  | 7, _, h => by cases h; exact kK_7
  | 8, _, h => by cases h; exact kK_8
  | 9, _, h => by cases h; exact kK_9
  | 10, _, h => by cases h; exact kK_10
  | 11, _, h => by cases h; exact kK_11
  | 12, _, h => by cases h; exact kK_12
  | 13, _, h => by cases h; exact kK_13
  | 14, _, h => by cases h; exact kK_14
  | 15, _, h => by cases h; exact kK_15
  | 16, _, h => by cases h; exact kK_16
  | _ + 17, _, h => by cases h
theorem x_kL_use {k a : Nat} {b : Value} (h : (x_kL.getD (x_own k) []).lookup a = some b) : x_kok (x_y k).cls (a, b) := by
  have hm := lk_mem h
  cases hF : x_kL[x_own k]? with
  | none =>
    rw [List.getD_eq_getElem?_getD, hF] at hm
    exact absurd hm List.not_mem_nil
  | some l =>
    rw [List.getD_eq_getElem?_getD, hF] at hm
    have hm : (a, b) ∈ l := hm
    have hlt : x_own k ≠ 99 := by
      intro q
      rw [q] at hF
      cases hF
    have hin := x_ml_ok _ (x_me_in hlt)
    have hcn : (x_y k).cls = x_cn.getD (x_own k) "" := hin.1
    rw [hcn]
    exact x_kL_ok _ _ hF _ hm
def x_sL : List (List (Nat × Nat)) := [sL_0, sL_1, sL_2, sL_3, sL_4, sL_5, sL_6, sL_7, sL_8, sL_9, sL_10, sL_11, sL_12, sL_13, sL_14, sL_15, sL_16]
theorem x_sL_ok : ∀ (c : Nat) (l : List (Nat × Nat)), x_sL[c]? = some l → ∀ e ∈ l, x_sok (x_cn.getD c "") e
  | 0, _, h => by cases h; exact sK_0
  | 1, _, h => by cases h; exact sK_1
  | 2, _, h => by cases h; exact sK_2
  | 3, _, h => by cases h; exact sK_3
  | 4, _, h => by cases h; exact sK_4
  | 5, _, h => by cases h; exact sK_5
  | 6, _, h => by cases h; exact sK_6
  | 7, _, h => by cases h; exact sK_7
  | 8, _, h => by cases h; exact sK_8
  | 9, _, h => by cases h; exact sK_9
  | 10, _, h => by cases h; exact sK_10
  | 11, _, h => by cases h; exact sK_11
  | 12, _, h => by cases h; exact sK_12
  | 13, _, h => by cases h; exact sK_13
  | 14, _, h => by cases h; exact sK_14
  | 15, _, h => by cases h; exact sK_15
  | 16, _, h => by cases h; exact sK_16
  | _ + 17, _, h => by cases h
theorem x_sL_use {k a : Nat} {b : Nat} (h : (x_sL.getD (x_own k) []).lookup a = some b) : x_sok (x_y k).cls (a, b) := by
  have hm := lk_mem h
  cases hF : x_sL[x_own k]? with
  | none =>
    rw [List.getD_eq_getElem?_getD, hF] at hm
    exact absurd hm List.not_mem_nil
  | some l =>
    rw [List.getD_eq_getElem?_getD, hF] at hm
    have hm : (a, b) ∈ l := hm
    have hlt : x_own k ≠ 99 := by
      intro q
      rw [q] at hF
      cases hF
    have hin := x_ml_ok _ (x_me_in hlt)
    have hcn : (x_y k).cls = x_cn.getD (x_own k) "" := hin.1
    rw [hcn]
    exact x_sL_ok _ _ hF _ hm
def x_tL : List (List (Nat × Nat)) := [tL_0, tL_1, tL_2, tL_3, tL_4, tL_5, tL_6, tL_7, tL_8, tL_9, tL_10, tL_11, tL_12, tL_13, tL_14, tL_15, tL_16]
theorem x_tL_ok : ∀ (c : Nat) (l : List (Nat × Nat)), x_tL[c]? = some l → ∀ e ∈ l, x_tok (x_cn.getD c "") e
  | 0, _, h => by cases h; exact tK_0
  | 1, _, h => by cases h; exact tK_1
  | 2, _, h => by cases h; exact tK_2
  | 3, _, h => by cases h; exact tK_3
  | 4, _, h => by cases h; exact tK_4
  | 5, _, h => by cases h; exact tK_5
  | 6, _, h => by cases h; exact tK_6
  | 7, _, h => by cases h; exact tK_7
  | 8, _, h => by cases h; exact tK_8
  | 9, _, h => by cases h; exact tK_9
  | 10, _, h => by cases h; exact tK_10
  | 11, _, h => by cases h; exact tK_11
  | 12, _, h => by cases h; exact tK_12
  | 13, _, h => by cases h; exact tK_13
  | 14, _, h => by cases h; exact tK_14
  | 15, _, h => by cases h; exact tK_15
  | 16, _, h => by cases h; exact tK_16
  | _ + 17, _, h => by cases h
theorem x_tL_use {k a : Nat} {b : Nat} (h : (x_tL.getD (x_own k) []).lookup a = some b) : x_tok (x_y k).cls (a, b) := by
  have hm := lk_mem h
  cases hF : x_tL[x_own k]? with
  | none =>
    rw [List.getD_eq_getElem?_getD, hF] at hm
    exact absurd hm List.not_mem_nil
  | some l =>
    rw [List.getD_eq_getElem?_getD, hF] at hm
    have hm : (a, b) ∈ l := hm
    have hlt : x_own k ≠ 99 := by
      intro q
      rw [q] at hF
      cases hF
    have hin := x_ml_ok _ (x_me_in hlt)
    have hcn : (x_y k).cls = x_cn.getD (x_own k) "" := hin.1
    rw [hcn]
    exact x_tL_ok _ _ hF _ hm
def x_cls (k idx : Nat) : Option (Nat × List Value) := (x_oL.getD (x_own k) []).lookup idx
def x_anw (k idx : Nat) : Option Nat := (x_aL.getD (x_own k) []).lookup idx
def x_con (k idx : Nat) : Option Value := (x_kL.getD (x_own k) []).lookup idx
theorem s_cls {k idx ci : Nat} {fs : List Value} (h : x_cls k idx = some (ci, fs)) : ∃ (C : String) (T : u_T) (N : Nat) (ty0 : Nat → FieldType), x_cl[ci]? = some (C, T, N) ∧ (∀ w ∈ u_ws C T N, w ∈ x_w) ∧ (∀ j, j < N → parseFieldDescriptor (T j).2.2.1 = some (ty0 j)) ∧ Jvm.Cond.classLink (x_y k).cls idx C ∈ x_w ∧ Jvm.Cond.instantiable C N ∈ x_w ∧ Jvm.Cond.initialized C ∈ x_w ∧ fs.length = N ∧ (∀ j, j < N → defaultValue (ty0 j) = vp_V fs j) ∧ ∀ v ∈ fs, v = .int 0 ∨ v = .long 0 ∨ v = .null := x_oL_use h
theorem s_anw {k idx t : Nat} (h : x_anw k idx = some t) : ∃ C, Jvm.Cond.classLink (x_y k).cls idx C ∈ x_w ∧ x_ty[t]? = some (.object C) ∧ C ∈ x_aos := x_aL_use h
theorem s_coni {k idx : Nat} {v : Int32} (h : x_con k idx = some (.int v)) : Jvm.Cond.constant (x_y k).cls idx v ∈ x_w := (x_kL_use h).1 v rfl
theorem s_conl {k idx : Nat} {v : Int64} (h : x_con k idx = some (.long v)) : Jvm.Cond.constantLong (x_y k).cls idx v ∈ x_w := (x_kL_use h).2.1 v rfl
theorem s_cons {k idx v : Nat} (h : x_con k idx = some (.retAddr v)) : ∃ (i : Nat) (t : String), v = 1 + i ∧ i < x_gn ∧ ((x_y k).cls, idx, t, i) ∈ x_gr := (x_kL_use h).2.2 v rfl
def x_sfl (k idx : Nat) : Option Nat := (x_sL.getD (x_own k) []).lookup idx
def x_stt (k idx : Nat) : Option Nat := (x_tL.getD (x_own k) []).lookup idx
theorem s_sfl {k idx c : Nat} (h : x_sfl k idx = some c) : (c = 0 ∧ Jvm.Cond.fieldLink (x_y k).cls idx "java/lang/String" "value" "[B" ∈ x_w) ∨ (c = 1 ∧ Jvm.Cond.fieldLink (x_y k).cls idx "java/lang/String" "coder" "B" ∈ x_w) := x_sL_use h
theorem s_stt {k idx c : Nat} (h : x_stt k idx = some c) : (c = 0 ∧ Jvm.Cond.fieldLink (x_y k).cls idx "java/lang/String" "COMPACT_STRINGS" "Z" ∈ x_w) ∨ (c = 1 ∧ Jvm.Cond.fieldLink (x_y k).cls idx "jdk/internal/util/Preconditions" "SIOOBE_FORMATTER" "Ljava/util/function/BiFunction;" ∈ x_w) := x_tL_use h
end
section
def x_mok (k idx kc : Nat) : Prop := Jvm.Cond.code (x_y kc) (x_b kc) (x_nL kc) (x_rt kc) ∈ x_w ∧ Jvm.Cond.initialized (x_y kc).cls ∈ x_w ∧ ((x_y kc).cls ≠ "java/lang/invoke/MethodHandle" ∧ (x_y kc).cls ≠ "java/lang/invoke/VarHandle") ∧ x_nL kc ≤ 29 ∧ plainName (x_y kc).cls = true ∧ (Jvm.Cond.methodLink (x_y k).cls idx (x_y kc) ∈ x_w ∨ ∃ host, Jvm.Cond.methodLinkNest (x_y k).cls idx (x_y kc) host ∈ x_nest)
abbrev x_nd (kc n : Nat) : Prop := (parseMethodDescriptor (x_y kc).desc).map (fun d => d.parameters.length) = some n
def x_cde (kc : Nat) : Prop := Jvm.Cond.code (x_y kc) (x_b kc) (x_nL kc) (x_rt kc) ∈ x_w ∧ Jvm.Cond.initialized (x_y kc).cls ∈ x_w
def x_lnk (cn : String) (idx kc : Nat) : Prop := Jvm.Cond.methodLink cn idx (x_y kc) ∈ x_w ∨ ∃ host, Jvm.Cond.methodLinkNest cn idx (x_y kc) host ∈ x_nest
def x_lok (cn : String) (e : Nat × Nat × Nat × Nat) : Prop := match e.2.2.1 with
  | 0 => x_cde e.2.1 ∧ x_lnk cn e.1 e.2.1 ∧ Jvm.Cond.static (x_y e.2.1) ∈ x_w ∧ x_nd e.2.1 e.2.2.2
  | 1 => x_cde e.2.1 ∧ x_lnk cn e.1 e.2.1 ∧ Jvm.Cond.instanceMethod (x_y e.2.1) ∈ x_w ∧ x_nd e.2.1 e.2.2.2 ∧ ∃ C T N, x_cl[x_own e.2.1]? = some (C, T, N) ∧ Jvm.Cond.selects C (x_y e.2.1) (x_y e.2.1) ∈ x_w
  | 2 => x_cde e.2.1 ∧ x_lnk cn e.1 e.2.1 ∧ Jvm.Cond.instanceMethod (x_y e.2.1) ∈ x_w ∧ x_nd e.2.1 e.2.2.2 ∧ (x_y e.2.1).name = "<init>" ∧ x_rt e.2.1 = none
  | 3 => Jvm.Cond.methodLink cn e.1 objectInit ∈ x_w ∧ Jvm.Cond.instanceMethod objectInit ∈ x_w ∧ Jvm.Cond.code objectInit ⟨#[0xb1]⟩ 1 none ∈ x_w
  | 4 => Jvm.Cond.methodLink cn e.1 Lib.Math.min.name ∈ x_w ∧ Jvm.Cond.static Lib.Math.min.name ∈ x_w ∧ Jvm.Cond.initialized "java/lang/Math" ∈ x_w ∧ Jvm.Cond.code Lib.Math.min.name Lib.Math.min.code 2 (some .int) ∈ x_w
  | 6 => Jvm.Cond.methodLink cn e.1 Lib.Math.max.name ∈ x_w ∧ Jvm.Cond.static Lib.Math.max.name ∈ x_w ∧ Jvm.Cond.initialized "java/lang/Math" ∈ x_w ∧ Jvm.Cond.code Lib.Math.max.name Lib.Math.max.code 2 (some .int) ∈ x_w
  | 7 => x_cde e.2.1 ∧ x_lnk cn e.1 e.2.1 ∧ Jvm.Cond.instanceMethod (x_y e.2.1) ∈ x_w ∧ x_nd e.2.1 e.2.2.2 ∧ Jvm.Cond.selects "java/lang/String" (x_y e.2.1) (x_y e.2.1) ∈ x_w
  | 8 => Jvm.Cond.methodLink cn e.1 arraycopyName ∈ x_w ∧ Jvm.Cond.native arraycopyName ∈ x_w ∧ Jvm.Cond.static arraycopyName ∈ x_w ∧ Jvm.Cond.initialized "java/lang/System" ∈ x_w
  | _ => False
theorem xc_1 : x_cde 1 := ⟨(tw_1 (i := 25) rfl rfl), (tw_1 (i := 1) rfl rfl)⟩
theorem xc_2 : x_cde 2 := ⟨(tw_2 (i := 123) rfl rfl), (tw_1 (i := 1) rfl rfl)⟩
theorem xc_3 : x_cde 3 := ⟨(tw_2 (i := 130) rfl rfl), (tw_1 (i := 1) rfl rfl)⟩
theorem xc_4 : x_cde 4 := ⟨(tw_2 (i := 138) rfl rfl), (tw_1 (i := 1) rfl rfl)⟩
theorem xc_5 : x_cde 5 := ⟨(tw_2 (i := 142) rfl rfl), (tw_1 (i := 1) rfl rfl)⟩
theorem xc_6 : x_cde 6 := ⟨(tw_2 (i := 146) rfl rfl), (tw_1 (i := 1) rfl rfl)⟩
theorem xc_7 : x_cde 7 := ⟨(tw_4 (i := 163) rfl rfl), (tw_1 (i := 1) rfl rfl)⟩
theorem xc_8 : x_cde 8 := ⟨(tw_4 (i := 167) rfl rfl), (tw_1 (i := 1) rfl rfl)⟩
theorem xc_9 : x_cde 9 := ⟨(tw_4 (i := 171) rfl rfl), (tw_1 (i := 1) rfl rfl)⟩
theorem xc_10 : x_cde 10 := ⟨(tw_4 (i := 180) rfl rfl), (tw_1 (i := 1) rfl rfl)⟩
theorem xc_11 : x_cde 11 := ⟨(tw_4 (i := 185) rfl rfl), (tw_1 (i := 1) rfl rfl)⟩
theorem xc_12 : x_cde 12 := ⟨(tw_4 (i := 189) rfl rfl), (tw_1 (i := 1) rfl rfl)⟩
theorem xc_13 : x_cde 13 := ⟨(tw_4 (i := 193) rfl rfl), (tw_1 (i := 1) rfl rfl)⟩
theorem xc_14 : x_cde 14 := ⟨(tw_4 (i := 197) rfl rfl), (tw_1 (i := 1) rfl rfl)⟩
theorem xc_15 : x_cde 15 := ⟨(tw_2 (i := 126) rfl rfl), (tw_1 (i := 1) rfl rfl)⟩
theorem xc_16 : x_cde 16 := ⟨(tw_4 (i := 175) rfl rfl), (tw_1 (i := 1) rfl rfl)⟩
theorem xc_17 : x_cde 17 := ⟨(tw_1 (i := 127) rfl rfl), (tw_1 (i := 7) rfl rfl)⟩
theorem xc_18 : x_cde 18 := ⟨(tw_3 (i := 139) rfl rfl), (tw_1 (i := 7) rfl rfl)⟩
theorem xc_19 : x_cde 19 := ⟨(tw_1 (i := 41) rfl rfl), (tw_1 (i := 3) rfl rfl)⟩
theorem xc_20 : x_cde 20 := ⟨(tw_2 (i := 154) rfl rfl), (tw_1 (i := 3) rfl rfl)⟩
theorem xc_21 : x_cde 21 := ⟨(tw_3 (i := 104) rfl rfl), (tw_1 (i := 3) rfl rfl)⟩
theorem xc_22 : x_cde 22 := ⟨(tw_3 (i := 112) rfl rfl), (tw_1 (i := 3) rfl rfl)⟩
theorem xc_23 : x_cde 23 := ⟨(tw_3 (i := 116) rfl rfl), (tw_1 (i := 3) rfl rfl)⟩
theorem xc_24 : x_cde 24 := ⟨(tw_3 (i := 129) rfl rfl), (tw_1 (i := 3) rfl rfl)⟩
theorem xc_25 : x_cde 25 := ⟨(tw_3 (i := 133) rfl rfl), (tw_1 (i := 3) rfl rfl)⟩
theorem xc_26 : x_cde 26 := ⟨(tw_3 (i := 143) rfl rfl), (tw_1 (i := 3) rfl rfl)⟩
theorem xc_27 : x_cde 27 := ⟨(tw_3 (i := 151) rfl rfl), (tw_1 (i := 3) rfl rfl)⟩
theorem xc_28 : x_cde 28 := ⟨(tw_3 (i := 160) rfl rfl), (tw_1 (i := 3) rfl rfl)⟩
theorem xc_29 : x_cde 29 := ⟨(tw_3 (i := 183) rfl rfl), (tw_1 (i := 3) rfl rfl)⟩
theorem xc_30 : x_cde 30 := ⟨(tw_1 (i := 54) rfl rfl), (tw_1 (i := 5) rfl rfl)⟩
theorem xc_31 : x_cde 31 := ⟨(tw_3 (i := 155) rfl rfl), (tw_1 (i := 5) rfl rfl)⟩
theorem xc_32 : x_cde 32 := ⟨(tw_3 (i := 164) rfl rfl), (tw_1 (i := 5) rfl rfl)⟩
theorem xc_33 : x_cde 33 := ⟨(tw_1 (i := 47) rfl rfl), (tw_1 (i := 4) rfl rfl)⟩
theorem xc_34 : x_cde 34 := ⟨(tw_3 (i := 120) rfl rfl), (tw_1 (i := 4) rfl rfl)⟩
theorem xc_35 : x_cde 35 := ⟨(tw_3 (i := 219) rfl rfl), (tw_1 (i := 4) rfl rfl)⟩
theorem xc_36 : x_cde 36 := ⟨(tw_4 (i := 9) rfl rfl), (tw_1 (i := 4) rfl rfl)⟩
theorem xc_37 : x_cde 37 := ⟨(tw_2 (i := 34) rfl rfl), (tw_1 (i := 10) rfl rfl)⟩
theorem xc_38 : x_cde 38 := ⟨(tw_4 (i := 24) rfl rfl), (tw_1 (i := 10) rfl rfl)⟩
theorem xc_39 : x_cde 39 := ⟨(tw_4 (i := 28) rfl rfl), (tw_1 (i := 10) rfl rfl)⟩
theorem xc_40 : x_cde 40 := ⟨(tw_4 (i := 32) rfl rfl), (tw_1 (i := 10) rfl rfl)⟩
theorem xc_41 : x_cde 41 := ⟨(tw_4 (i := 45) rfl rfl), (tw_1 (i := 10) rfl rfl)⟩
theorem xc_42 : x_cde 42 := ⟨(tw_4 (i := 53) rfl rfl), (tw_1 (i := 10) rfl rfl)⟩
theorem xc_43 : x_cde 43 := ⟨(tw_4 (i := 93) rfl rfl), (tw_1 (i := 10) rfl rfl)⟩
theorem xc_44 : x_cde 44 := ⟨(tw_4 (i := 76) rfl rfl), (tw_1 (i := 10) rfl rfl)⟩
theorem xc_45 : x_cde 45 := ⟨(tw_4 (i := 72) rfl rfl), (tw_1 (i := 10) rfl rfl)⟩
theorem xc_46 : x_cde 46 := ⟨(tw_4 (i := 63) rfl rfl), (tw_1 (i := 10) rfl rfl)⟩
theorem xc_47 : x_cde 47 := ⟨(tw_4 (i := 80) rfl rfl), (tw_1 (i := 10) rfl rfl)⟩
theorem xc_48 : x_cde 48 := ⟨(tw_4 (i := 84) rfl rfl), (tw_1 (i := 10) rfl rfl)⟩
theorem xc_49 : x_cde 49 := ⟨(tw_4 (i := 101) rfl rfl), (tw_1 (i := 10) rfl rfl)⟩
theorem xc_50 : x_cde 50 := ⟨(tw_4 (i := 105) rfl rfl), (tw_1 (i := 10) rfl rfl)⟩
theorem xc_51 : x_cde 51 := ⟨(tw_4 (i := 88) rfl rfl), (tw_1 (i := 10) rfl rfl)⟩
theorem xc_52 : x_cde 52 := ⟨(tw_4 (i := 97) rfl rfl), (tw_1 (i := 10) rfl rfl)⟩
theorem xc_53 : x_cde 53 := ⟨(tw_4 (i := 109) rfl rfl), (tw_1 (i := 10) rfl rfl)⟩
theorem xc_54 : x_cde 54 := ⟨(tw_4 (i := 113) rfl rfl), (tw_1 (i := 10) rfl rfl)⟩
theorem xc_55 : x_cde 55 := ⟨(tw_4 (i := 118) rfl rfl), (tw_1 (i := 10) rfl rfl)⟩
theorem xc_56 : x_cde 56 := ⟨(tw_4 (i := 122) rfl rfl), (tw_1 (i := 10) rfl rfl)⟩
theorem xc_57 : x_cde 57 := ⟨(tw_4 (i := 152) rfl rfl), (tw_1 (i := 10) rfl rfl)⟩
theorem xc_58 : x_cde 58 := ⟨(tw_4 (i := 126) rfl rfl), (tw_1 (i := 10) rfl rfl)⟩
theorem xc_59 : x_cde 59 := ⟨(tw_4 (i := 132) rfl rfl), (tw_1 (i := 10) rfl rfl)⟩
theorem xc_60 : x_cde 60 := ⟨(tw_4 (i := 136) rfl rfl), (tw_1 (i := 10) rfl rfl)⟩
theorem xc_61 : x_cde 61 := ⟨(tw_4 (i := 140) rfl rfl), (tw_1 (i := 10) rfl rfl)⟩
theorem xc_62 : x_cde 62 := ⟨(tw_4 (i := 149) rfl rfl), (tw_1 (i := 10) rfl rfl)⟩
theorem xc_63 : x_cde 63 := ⟨(tw_1 (i := 35) rfl rfl), (tw_1 (i := 2) rfl rfl)⟩
theorem xc_64 : x_cde 64 := ⟨(tw_2 (i := 150) rfl rfl), (tw_1 (i := 2) rfl rfl)⟩
theorem xc_65 : x_cde 65 := ⟨(tw_3 (i := 81) rfl rfl), (tw_1 (i := 2) rfl rfl)⟩
theorem xc_66 : x_cde 66 := ⟨(tw_4 (i := 20) rfl rfl), (tw_1 (i := 2) rfl rfl)⟩
theorem xc_67 : x_cde 67 := ⟨(tw_3 (i := 187) rfl rfl), (tw_1 (i := 2) rfl rfl)⟩
theorem xc_68 : x_cde 68 := ⟨(tw_4 (i := 4) rfl rfl), (tw_1 (i := 2) rfl rfl)⟩
theorem xc_69 : x_cde 69 := ⟨(tw_3 (i := 226) rfl rfl), (tw_1 (i := 2) rfl rfl)⟩
theorem xc_70 : x_cde 70 := ⟨(tw_3 (i := 193) rfl rfl), (tw_1 (i := 2) rfl rfl)⟩
theorem xc_71 : x_cde 71 := ⟨(tw_3 (i := 206) rfl rfl), (tw_1 (i := 2) rfl rfl)⟩
theorem xc_72 : x_cde 72 := ⟨(tw_3 (i := 210) rfl rfl), (tw_1 (i := 2) rfl rfl)⟩
theorem xc_73 : x_cde 73 := ⟨(tw_3 (i := 214) rfl rfl), (tw_1 (i := 2) rfl rfl)⟩
theorem xc_74 : x_cde 74 := ⟨(tw_1 (i := 183) rfl rfl), (tw_1 (i := 8) rfl rfl)⟩
theorem xc_75 : x_cde 75 := ⟨(tw_2 (i := 162) rfl rfl), (tw_1 (i := 8) rfl rfl)⟩
theorem xc_76 : x_cde 76 := ⟨(tw_2 (i := 166) rfl rfl), (tw_1 (i := 8) rfl rfl)⟩
theorem xc_77 : x_cde 77 := ⟨(tw_2 (i := 169) rfl rfl), (tw_1 (i := 8) rfl rfl)⟩
theorem xc_78 : x_cde 78 := ⟨(tw_3 (i := 41) rfl rfl), (tw_1 (i := 8) rfl rfl)⟩
theorem xc_79 : x_cde 79 := ⟨(tw_3 (i := 45) rfl rfl), (tw_1 (i := 8) rfl rfl)⟩
theorem xc_80 : x_cde 80 := ⟨(tw_3 (i := 49) rfl rfl), (tw_1 (i := 8) rfl rfl)⟩
theorem xc_81 : x_cde 81 := ⟨(tw_3 (i := 53) rfl rfl), (tw_1 (i := 8) rfl rfl)⟩
theorem xc_82 : x_cde 82 := ⟨(tw_3 (i := 57) rfl rfl), (tw_1 (i := 8) rfl rfl)⟩
theorem xc_83 : x_cde 83 := ⟨(tw_3 (i := 61) rfl rfl), (tw_1 (i := 8) rfl rfl)⟩
theorem xc_84 : x_cde 84 := ⟨(tw_3 (i := 69) rfl rfl), (tw_1 (i := 8) rfl rfl)⟩
theorem xc_85 : x_cde 85 := ⟨(tw_1 (i := 201) rfl rfl), (tw_1 (i := 9) rfl rfl)⟩
theorem xc_86 : x_cde 86 := ⟨(tw_2 (i := 158) rfl rfl), (tw_1 (i := 9) rfl rfl)⟩
theorem xc_87 : x_cde 87 := ⟨(tw_3 (i := 73) rfl rfl), (tw_1 (i := 9) rfl rfl)⟩
theorem xc_88 : x_cde 88 := ⟨(tw_3 (i := 85) rfl rfl), (tw_1 (i := 9) rfl rfl)⟩
theorem xc_89 : x_cde 89 := ⟨(tw_3 (i := 89) rfl rfl), (tw_1 (i := 9) rfl rfl)⟩
theorem xc_90 : x_cde 90 := ⟨(tw_4 (i := 15) rfl rfl), (tw_1 (i := 9) rfl rfl)⟩
theorem xc_91 : x_cde 91 := ⟨(tw_3 (i := 235) rfl rfl), (tw_1 (i := 9) rfl rfl)⟩
theorem xc_92 : x_cde 92 := ⟨(tw_4 (i := 0) rfl rfl), (tw_1 (i := 9) rfl rfl)⟩
theorem xc_93 : x_cde 93 := ⟨(tw_2 (i := 92) rfl rfl), (tw_1 (i := 12) rfl rfl)⟩
theorem xc_94 : x_cde 94 := ⟨(tw_2 (i := 134) rfl rfl), (tw_1 (i := 12) rfl rfl)⟩
theorem xc_95 : x_cde 95 := ⟨(tw_1 (i := 98) rfl rfl), (tw_1 (i := 6) rfl rfl)⟩
theorem xc_96 : x_cde 96 := ⟨(tw_3 (i := 77) rfl rfl), (tw_1 (i := 6) rfl rfl)⟩
theorem xc_97 : x_cde 97 := ⟨(tw_3 (i := 147) rfl rfl), (tw_1 (i := 6) rfl rfl)⟩
theorem xc_98 : x_cde 98 := ⟨(tw_3 (i := 124) rfl rfl), (tw_1 (i := 6) rfl rfl)⟩
theorem xc_99 : x_cde 99 := ⟨(tw_3 (i := 108) rfl rfl), (tw_1 (i := 6) rfl rfl)⟩
theorem xc_100 : x_cde 100 := ⟨(tw_3 (i := 169) rfl rfl), (tw_1 (i := 6) rfl rfl)⟩
theorem xc_101 : x_cde 101 := ⟨(tw_3 (i := 175) rfl rfl), (tw_1 (i := 6) rfl rfl)⟩
theorem xc_102 : x_cde 102 := ⟨(tw_4 (i := 49) rfl rfl), (tw_1 (i := 6) rfl rfl)⟩
theorem xc_103 : x_cde 103 := ⟨(tw_3 (i := 94) rfl rfl), (tw_1 (i := 6) rfl rfl)⟩
theorem xc_104 : x_cde 104 := ⟨(tw_3 (i := 65) rfl rfl), (tw_1 (i := 6) rfl rfl)⟩
theorem xc_105 : x_cde 105 := ⟨(tw_4 (i := 36) rfl rfl), (tw_1 (i := 6) rfl rfl)⟩
theorem xc_106 : x_cde 106 := ⟨(tw_3 (i := 196) rfl rfl), (tw_1 (i := 6) rfl rfl)⟩
theorem xc_107 : x_cde 107 := ⟨(tw_3 (i := 199) rfl rfl), (tw_1 (i := 6) rfl rfl)⟩
theorem xc_108 : x_cde 108 := ⟨(tw_2 (i := 40) rfl rfl), (tw_1 (i := 11) rfl rfl)⟩
theorem xc_109 : x_cde 109 := ⟨(tw_4 (i := 67) rfl rfl), (tw_1 (i := 11) rfl rfl)⟩
theorem xc_110 : x_cde 110 := ⟨(tw_4 (i := 144) rfl rfl), (tw_1 (i := 11) rfl rfl)⟩
theorem xc_111 : x_cde 111 := ⟨(tw_4 (i := 202) rfl rfl), (tw_1 (i := 13) rfl rfl)⟩
theorem xc_112 : x_cde 112 := ⟨(tw_5 (i := 184) rfl rfl), (tw_1 (i := 13) rfl rfl)⟩
theorem xc_113 : x_cde 113 := ⟨(tw_5 (i := 188) rfl rfl), (tw_1 (i := 13) rfl rfl)⟩
theorem xc_114 : x_cde 114 := ⟨(tw_5 (i := 192) rfl rfl), (tw_1 (i := 13) rfl rfl)⟩
theorem xc_115 : x_cde 115 := ⟨(tw_5 (i := 196) rfl rfl), (tw_1 (i := 13) rfl rfl)⟩
theorem xc_116 : x_cde 116 := ⟨(tw_5 (i := 211) rfl rfl), (tw_1 (i := 13) rfl rfl)⟩
theorem xc_117 : x_cde 117 := ⟨(tw_5 (i := 222) rfl rfl), (tw_1 (i := 13) rfl rfl)⟩
theorem xc_118 : x_cde 118 := ⟨(tw_6 (i := 66) rfl rfl), (tw_1 (i := 13) rfl rfl)⟩
theorem xc_119 : x_cde 119 := ⟨(tw_5 (i := 225) rfl rfl), (tw_1 (i := 13) rfl rfl)⟩
theorem xc_120 : x_cde 120 := ⟨(tw_6 (i := 26) rfl rfl), (tw_1 (i := 13) rfl rfl)⟩
theorem xc_121 : x_cde 121 := ⟨(tw_6 (i := 29) rfl rfl), (tw_1 (i := 13) rfl rfl)⟩
theorem xc_122 : x_cde 122 := ⟨(tw_6 (i := 95) rfl rfl), (tw_1 (i := 13) rfl rfl)⟩
theorem xc_123 : x_cde 123 := ⟨(tw_6 (i := 63) rfl rfl), (tw_1 (i := 13) rfl rfl)⟩
theorem xc_124 : x_cde 124 := ⟨(tw_5 (i := 208) rfl rfl), (tw_1 (i := 13) rfl rfl)⟩
theorem xc_125 : x_cde 125 := ⟨(tw_5 (i := 219) rfl rfl), (tw_1 (i := 13) rfl rfl)⟩
theorem xc_126 : x_cde 126 := ⟨(tw_5 (i := 215) rfl rfl), (tw_1 (i := 13) rfl rfl)⟩
theorem xc_127 : x_cde 127 := ⟨(tw_5 (i := 204) rfl rfl), (tw_1 (i := 13) rfl rfl)⟩
theorem xc_128 : x_cde 128 := ⟨(tw_6 (i := 55) rfl rfl), (tw_1 (i := 13) rfl rfl)⟩
theorem xc_129 : x_cde 129 := ⟨(tw_5 (i := 229) rfl rfl), (tw_1 (i := 13) rfl rfl)⟩
theorem xc_130 : x_cde 130 := ⟨(tw_6 (i := 47) rfl rfl), (tw_1 (i := 13) rfl rfl)⟩
theorem xc_131 : x_cde 131 := ⟨(tw_6 (i := 87) rfl rfl), (tw_1 (i := 13) rfl rfl)⟩
theorem xc_132 : x_cde 132 := ⟨(tw_6 (i := 79) rfl rfl), (tw_1 (i := 13) rfl rfl)⟩
theorem xc_133 : x_cde 133 := ⟨(tw_6 (i := 35) rfl rfl), (tw_1 (i := 13) rfl rfl)⟩
theorem xc_134 : x_cde 134 := ⟨(tw_6 (i := 70) rfl rfl), (tw_1 (i := 13) rfl rfl)⟩
theorem xc_135 : x_cde 135 := ⟨(tw_6 (i := 60) rfl rfl), (tw_1 (i := 13) rfl rfl)⟩
theorem xc_136 : x_cde 136 := ⟨(tw_5 (i := 233) rfl rfl), (tw_1 (i := 13) rfl rfl)⟩
theorem xc_137 : x_cde 137 := ⟨(tw_5 (i := 237) rfl rfl), (tw_1 (i := 13) rfl rfl)⟩
theorem xc_138 : x_cde 138 := ⟨(tw_6 (i := 2) rfl rfl), (tw_1 (i := 13) rfl rfl)⟩
theorem xc_139 : x_cde 139 := ⟨(tw_6 (i := 40) rfl rfl), (tw_1 (i := 13) rfl rfl)⟩
theorem xc_140 : x_cde 140 := ⟨(tw_6 (i := 10) rfl rfl), (tw_1 (i := 13) rfl rfl)⟩
theorem xc_141 : x_cde 141 := ⟨(tw_6 (i := 6) rfl rfl), (tw_1 (i := 13) rfl rfl)⟩
theorem xc_142 : x_cde 142 := ⟨(tw_6 (i := 19) rfl rfl), (tw_1 (i := 13) rfl rfl)⟩
theorem xc_143 : x_cde 143 := ⟨(tw_6 (i := 14) rfl rfl), (tw_1 (i := 13) rfl rfl)⟩
theorem xc_144 : x_cde 144 := ⟨(tw_6 (i := 23) rfl rfl), (tw_1 (i := 13) rfl rfl)⟩
theorem xc_145 : x_cde 145 := ⟨(tw_5 (i := 200) rfl rfl), (tw_1 (i := 13) rfl rfl)⟩
theorem xc_146 : x_cde 146 := ⟨(tw_6 (i := 92) rfl rfl), (tw_1 (i := 13) rfl rfl)⟩
theorem xc_147 : x_cde 147 := ⟨(tw_6 (i := 107) rfl rfl), (tw_1 (i := 13) rfl rfl)⟩
theorem xc_148 : x_cde 148 := ⟨(tw_6 (i := 162) rfl rfl), (tw_1 (i := 13) rfl rfl)⟩
theorem xc_149 : x_cde 149 := ⟨(tw_6 (i := 125) rfl rfl), (tw_1 (i := 13) rfl rfl)⟩
theorem xc_150 : x_cde 150 := ⟨(tw_6 (i := 112) rfl rfl), (tw_1 (i := 13) rfl rfl)⟩
theorem xc_151 : x_cde 151 := ⟨(tw_6 (i := 116) rfl rfl), (tw_1 (i := 13) rfl rfl)⟩
theorem xc_152 : x_cde 152 := ⟨(tw_6 (i := 103) rfl rfl), (tw_1 (i := 13) rfl rfl)⟩
theorem xc_153 : x_cde 153 := ⟨(tw_6 (i := 136) rfl rfl), (tw_1 (i := 13) rfl rfl)⟩
theorem xc_154 : x_cde 154 := ⟨(tw_6 (i := 120) rfl rfl), (tw_1 (i := 13) rfl rfl)⟩
theorem xc_155 : x_cde 155 := ⟨(tw_6 (i := 131) rfl rfl), (tw_1 (i := 13) rfl rfl)⟩
theorem xc_156 : x_cde 156 := ⟨(tw_6 (i := 174) rfl rfl), (tw_1 (i := 13) rfl rfl)⟩
theorem xc_157 : x_cde 157 := ⟨(tw_6 (i := 170) rfl rfl), (tw_1 (i := 13) rfl rfl)⟩
theorem xc_158 : x_cde 158 := ⟨(tw_6 (i := 178) rfl rfl), (tw_1 (i := 13) rfl rfl)⟩
theorem xc_159 : x_cde 159 := ⟨(tw_6 (i := 148) rfl rfl), (tw_1 (i := 13) rfl rfl)⟩
theorem xc_160 : x_cde 160 := ⟨(tw_6 (i := 157) rfl rfl), (tw_1 (i := 13) rfl rfl)⟩
theorem xc_161 : x_cde 161 := ⟨(tw_6 (i := 145) rfl rfl), (tw_1 (i := 13) rfl rfl)⟩
theorem xc_162 : x_cde 162 := ⟨(tw_6 (i := 141) rfl rfl), (tw_1 (i := 13) rfl rfl)⟩
theorem xc_163 : x_cde 163 := ⟨(tw_6 (i := 166) rfl rfl), (tw_1 (i := 13) rfl rfl)⟩
theorem xc_164 : x_cde 164 := ⟨(tw_6 (i := 182) rfl rfl), (tw_1 (i := 13) rfl rfl)⟩
theorem xc_165 : x_cde 165 := ⟨(tw_6 (i := 186) rfl rfl), (tw_1 (i := 13) rfl rfl)⟩
theorem xc_166 : x_cde 166 := ⟨(tw_6 (i := 190) rfl rfl), (tw_1 (i := 13) rfl rfl)⟩
theorem xc_167 : x_cde 167 := ⟨(tw_6 (i := 194) rfl rfl), (tw_1 (i := 13) rfl rfl)⟩
theorem xc_168 : x_cde 168 := ⟨(tw_6 (i := 198) rfl rfl), (tw_1 (i := 13) rfl rfl)⟩
theorem xc_169 : x_cde 169 := ⟨(tw_6 (i := 74) rfl rfl), (tw_1 (i := 13) rfl rfl)⟩
theorem xc_170 : x_cde 170 := ⟨(tw_6 (i := 203) rfl rfl), (tw_1 (i := 13) rfl rfl)⟩
theorem xc_171 : x_cde 171 := ⟨(tw_6 (i := 207) rfl rfl), (tw_1 (i := 13) rfl rfl)⟩
theorem xc_172 : x_cde 172 := ⟨(tw_2 (i := 188) rfl rfl), (tw_1 (i := 14) rfl rfl)⟩
theorem xc_173 : x_cde 173 := ⟨(tw_3 (i := 21) rfl rfl), (tw_1 (i := 14) rfl rfl)⟩
theorem xc_174 : x_cde 174 := ⟨(tw_2 (i := 174) rfl rfl), (tw_1 (i := 14) rfl rfl)⟩
theorem xc_175 : x_cde 175 := ⟨(tw_2 (i := 178) rfl rfl), (tw_1 (i := 14) rfl rfl)⟩
theorem xc_176 : x_cde 176 := ⟨(tw_2 (i := 192) rfl rfl), (tw_1 (i := 14) rfl rfl)⟩
theorem xc_177 : x_cde 177 := ⟨(tw_2 (i := 182) rfl rfl), (tw_1 (i := 14) rfl rfl)⟩
theorem xc_178 : x_cde 178 := ⟨(tw_3 (i := 27) rfl rfl), (tw_1 (i := 14) rfl rfl)⟩
theorem xc_179 : x_cde 179 := ⟨(tw_3 (i := 24) rfl rfl), (tw_1 (i := 15) rfl rfl)⟩
theorem xc_180 : x_cde 180 := ⟨(tw_2 (i := 198) rfl rfl), (tw_1 (i := 15) rfl rfl)⟩
theorem xc_181 : x_cde 181 := ⟨(tw_2 (i := 195) rfl rfl), (tw_1 (i := 15) rfl rfl)⟩
theorem xc_182 : x_cde 182 := ⟨(tw_2 (i := 207) rfl rfl), (tw_1 (i := 15) rfl rfl)⟩
theorem xc_183 : x_cde 183 := ⟨(tw_3 (i := 30) rfl rfl), (tw_1 (i := 18) rfl rfl)⟩
def mL_0_0 : List (Nat × Nat × Nat × Nat) := [(1, 0, 3, 0), (17, 63, 2, 0), (24, 37, 2, 0), (29, 93, 2, 0), (30, 15, 0, 1), (38, 94, 1, 1), (45, 64, 1, 2), (62, 38, 1, 1), (76, 16, 1, 1), (79, 97, 1, 1), (87, 102, 0, 2)]
theorem mK_0_0 : ∀ e ∈ mL_0_0, x_lok "PhaseReader" e := List.forall_mem_cons.mpr ⟨⟨(tw_1 (i := 26) rfl rfl), (tw_1 (i := 27) rfl rfl), (tw_1 (i := 28) rfl rfl)⟩, List.forall_mem_cons.mpr ⟨⟨xc_63, Or.inl (tw_1 (i := 33) rfl rfl), (tw_1 (i := 34) rfl rfl), by decide +kernel, rfl, rfl⟩, List.forall_mem_cons.mpr ⟨⟨xc_37, Or.inr ⟨_, List.mem_of_getElem? (i := 0) rfl⟩, (tw_2 (i := 33) rfl rfl), by decide +kernel, rfl, rfl⟩, List.forall_mem_cons.mpr ⟨⟨xc_93, Or.inr ⟨_, List.mem_of_getElem? (i := 1) rfl⟩, (tw_2 (i := 91) rfl rfl), by decide +kernel, rfl, rfl⟩, List.forall_mem_cons.mpr ⟨⟨xc_15, Or.inl (tw_2 (i := 124) rfl rfl), (tw_2 (i := 125) rfl rfl), by decide +kernel⟩, List.forall_mem_cons.mpr ⟨⟨xc_94, Or.inl (tw_2 (i := 131) rfl rfl), (tw_2 (i := 132) rfl rfl), by decide +kernel, _, _, _, rfl, (tw_2 (i := 133) rfl rfl)⟩, List.forall_mem_cons.mpr ⟨⟨xc_64, Or.inl (tw_2 (i := 147) rfl rfl), (tw_2 (i := 148) rfl rfl), by decide +kernel, _, _, _, rfl, (tw_2 (i := 149) rfl rfl)⟩, List.forall_mem_cons.mpr ⟨⟨xc_38, Or.inl (tw_4 (i := 21) rfl rfl), (tw_4 (i := 22) rfl rfl), by decide +kernel, _, _, _, rfl, (tw_4 (i := 23) rfl rfl)⟩, List.forall_mem_cons.mpr ⟨⟨xc_16, Or.inl (tw_4 (i := 172) rfl rfl), (tw_4 (i := 174) rfl rfl), by decide +kernel, _, _, _, rfl, (tq_3 (i := 12) rfl)⟩, List.forall_mem_cons.mpr ⟨⟨xc_97, Or.inl (tw_4 (i := 176) rfl rfl), (tw_3 (i := 145) rfl rfl), by decide +kernel, _, _, _, rfl, (tw_3 (i := 146) rfl rfl)⟩, List.forall_mem_cons.mpr ⟨⟨xc_102, Or.inl (tw_4 (i := 181) rfl rfl), (tw_4 (i := 48) rfl rfl), by decide +kernel⟩, fun _ h => absurd h List.not_mem_nil⟩⟩⟩⟩⟩⟩⟩⟩⟩⟩⟩
def mL_0 : List (Nat × Nat × Nat × Nat) := [(1, 0, 3, 0), (17, 63, 2, 0), (24, 37, 2, 0), (29, 93, 2, 0), (30, 15, 0, 1), (38, 94, 1, 1), (45, 64, 1, 2), (62, 38, 1, 1), (76, 16, 1, 1), (79, 97, 1, 1), (87, 102, 0, 2)]
theorem mK_0 : ∀ e ∈ mL_0, x_lok "PhaseReader" e := by
  have h : mL_0 = mL_0_0 := rfl
  rw [h]
  exact mK_0_0
def mL_1_0 : List (Nat × Nat × Nat × Nat) := [(1, 0, 3, 0)]
theorem mK_1_0 : ∀ e ∈ mL_1_0, x_lok "PhaseReader$Arguments" e := List.forall_mem_cons.mpr ⟨⟨(tw_1 (i := 128) rfl rfl), (tw_1 (i := 27) rfl rfl), (tw_1 (i := 28) rfl rfl)⟩, fun _ h => absurd h List.not_mem_nil⟩
def mL_1 : List (Nat × Nat × Nat × Nat) := [(1, 0, 3, 0)]
theorem mK_1 : ∀ e ∈ mL_1, x_lok "PhaseReader$Arguments" e := by
  have h : mL_1 = mL_1_0 := rfl
  rw [h]
  exact mK_1_0
def mL_2_0 : List (Nat × Nat × Nat × Nat) := [(7, 0, 3, 0), (15, 33, 2, 0), (22, 95, 2, 1), (46, 17, 2, 0), (55, 99, 1, 2), (59, 22, 1, 2), (63, 23, 1, 1), (67, 24, 1, 3), (75, 34, 1, 1), (79, 98, 1, 1), (98, 25, 1, 3), (105, 26, 1, 3)]
theorem mK_2_0 : ∀ e ∈ mL_2_0, x_lok "PhaseReader$Expander" e := List.forall_mem_cons.mpr ⟨⟨(tw_1 (i := 42) rfl rfl), (tw_1 (i := 27) rfl rfl), (tw_1 (i := 28) rfl rfl)⟩, List.forall_mem_cons.mpr ⟨⟨xc_33, Or.inl (tw_1 (i := 45) rfl rfl), (tw_1 (i := 46) rfl rfl), by decide +kernel, rfl, rfl⟩, List.forall_mem_cons.mpr ⟨⟨xc_95, Or.inl (tw_1 (i := 96) rfl rfl), (tw_1 (i := 97) rfl rfl), by decide +kernel, rfl, rfl⟩, List.forall_mem_cons.mpr ⟨⟨xc_17, Or.inr ⟨_, List.mem_of_getElem? (i := 2) rfl⟩, (tw_1 (i := 126) rfl rfl), by decide +kernel, rfl, rfl⟩, List.forall_mem_cons.mpr ⟨⟨xc_99, Or.inl (tw_3 (i := 105) rfl rfl), (tw_3 (i := 106) rfl rfl), by decide +kernel, _, _, _, rfl, (tw_3 (i := 107) rfl rfl)⟩, List.forall_mem_cons.mpr ⟨⟨xc_22, Or.inl (tw_3 (i := 109) rfl rfl), (tw_3 (i := 111) rfl rfl), by decide +kernel, _, _, _, rfl, (tq_1 (i := 9) rfl)⟩, List.forall_mem_cons.mpr ⟨⟨xc_23, Or.inl (tw_3 (i := 113) rfl rfl), (tw_3 (i := 115) rfl rfl), by decide +kernel, _, _, _, rfl, (tq_1 (i := 10) rfl)⟩, List.forall_mem_cons.mpr ⟨⟨xc_24, Or.inl (tw_3 (i := 126) rfl rfl), (tw_3 (i := 128) rfl rfl), by decide +kernel, _, _, _, rfl, (tq_1 (i := 11) rfl)⟩, List.forall_mem_cons.mpr ⟨⟨xc_34, Or.inl (tw_3 (i := 117) rfl rfl), (tw_3 (i := 118) rfl rfl), by decide +kernel, _, _, _, rfl, (tw_3 (i := 119) rfl rfl)⟩, List.forall_mem_cons.mpr ⟨⟨xc_98, Or.inl (tw_3 (i := 121) rfl rfl), (tw_3 (i := 122) rfl rfl), by decide +kernel, _, _, _, rfl, (tw_3 (i := 123) rfl rfl)⟩, List.forall_mem_cons.mpr ⟨⟨xc_25, Or.inl (tw_3 (i := 130) rfl rfl), (tw_3 (i := 132) rfl rfl), by decide +kernel, _, _, _, rfl, (tq_1 (i := 12) rfl)⟩, List.forall_mem_cons.mpr ⟨⟨xc_26, Or.inl (tw_3 (i := 140) rfl rfl), (tw_3 (i := 142) rfl rfl), by decide +kernel, _, _, _, rfl, (tq_1 (i := 13) rfl)⟩, fun _ h => absurd h List.not_mem_nil⟩⟩⟩⟩⟩⟩⟩⟩⟩⟩⟩⟩
def mL_2_1 : List (Nat × Nat × Nat × Nat) := [(109, 97, 1, 1), (112, 27, 1, 3), (115, 29, 1, 1), (122, 18, 1, 2), (140, 31, 1, 1), (144, 28, 1, 4), (148, 100, 1, 2), (152, 32, 1, 1), (158, 96, 1, 3)]
theorem mK_2_1 : ∀ e ∈ mL_2_1, x_lok "PhaseReader$Expander" e := List.forall_mem_cons.mpr ⟨⟨xc_97, Or.inl (tw_3 (i := 144) rfl rfl), (tw_3 (i := 145) rfl rfl), by decide +kernel, _, _, _, rfl, (tw_3 (i := 146) rfl rfl)⟩, List.forall_mem_cons.mpr ⟨⟨xc_27, Or.inl (tw_3 (i := 148) rfl rfl), (tw_3 (i := 150) rfl rfl), by decide +kernel, _, _, _, rfl, (tq_1 (i := 14) rfl)⟩, List.forall_mem_cons.mpr ⟨⟨xc_29, Or.inl (tw_3 (i := 180) rfl rfl), (tw_3 (i := 182) rfl rfl), by decide +kernel, _, _, _, rfl, (tq_2 (i := 0) rfl)⟩, List.forall_mem_cons.mpr ⟨⟨xc_18, Or.inl (tw_3 (i := 136) rfl rfl), (tw_3 (i := 137) rfl rfl), by decide +kernel, _, _, _, rfl, (tw_3 (i := 138) rfl rfl)⟩, List.forall_mem_cons.mpr ⟨⟨xc_31, Or.inl (tw_3 (i := 152) rfl rfl), (tw_3 (i := 153) rfl rfl), by decide +kernel, _, _, _, rfl, (tw_3 (i := 154) rfl rfl)⟩, List.forall_mem_cons.mpr ⟨⟨xc_28, Or.inl (tw_3 (i := 157) rfl rfl), (tw_3 (i := 159) rfl rfl), by decide +kernel, _, _, _, rfl, (tq_1 (i := 15) rfl)⟩, List.forall_mem_cons.mpr ⟨⟨xc_100, Or.inl (tw_3 (i := 166) rfl rfl), (tw_3 (i := 167) rfl rfl), by decide +kernel, _, _, _, rfl, (tw_3 (i := 168) rfl rfl)⟩, List.forall_mem_cons.mpr ⟨⟨xc_32, Or.inl (tw_3 (i := 161) rfl rfl), (tw_3 (i := 162) rfl rfl), by decide +kernel, _, _, _, rfl, (tw_3 (i := 163) rfl rfl)⟩, List.forall_mem_cons.mpr ⟨⟨xc_96, Or.inl (tw_3 (i := 165) rfl rfl), (tw_3 (i := 75) rfl rfl), by decide +kernel, _, _, _, rfl, (tw_3 (i := 76) rfl rfl)⟩, fun _ h => absurd h List.not_mem_nil⟩⟩⟩⟩⟩⟩⟩⟩⟩
def mL_2 : List (Nat × Nat × Nat × Nat) := [(7, 0, 3, 0), (15, 33, 2, 0), (22, 95, 2, 1), (46, 17, 2, 0), (55, 99, 1, 2), (59, 22, 1, 2), (63, 23, 1, 1), (67, 24, 1, 3), (75, 34, 1, 1), (79, 98, 1, 1), (98, 25, 1, 3), (105, 26, 1, 3), (109, 97, 1, 1), (112, 27, 1, 3), (115, 29, 1, 1), (122, 18, 1, 2), (140, 31, 1, 1), (144, 28, 1, 4), (148, 100, 1, 2), (152, 32, 1, 1), (158, 96, 1, 3)]
theorem mK_2 : ∀ e ∈ mL_2, x_lok "PhaseReader$Expander" e := by
  have h : mL_2 = mL_2_0 ++ (mL_2_1) := rfl
  rw [h]
  exact List.forall_mem_append.mpr ⟨mK_2_0, mK_2_1⟩
def mL_3_0 : List (Nat × Nat × Nat × Nat) := [(1, 0, 3, 0)]
theorem mK_3_0 : ∀ e ∈ mL_3_0, x_lok "PhaseReader$Macro" e := List.forall_mem_cons.mpr ⟨⟨(tw_1 (i := 55) rfl rfl), (tw_1 (i := 27) rfl rfl), (tw_1 (i := 28) rfl rfl)⟩, fun _ h => absurd h List.not_mem_nil⟩
def mL_3 : List (Nat × Nat × Nat × Nat) := [(1, 0, 3, 0)]
theorem mK_3 : ∀ e ∈ mL_3, x_lok "PhaseReader$Macro" e := by
  have h : mL_3 = mL_3_0 := rfl
  rw [h]
  exact mK_3_0
def mL_4_0 : List (Nat × Nat × Nat × Nat) := [(3, 0, 3, 0), (17, 30, 2, 0), (32, 34, 1, 1), (50, 0, 8, 5)]
theorem mK_4_0 : ∀ e ∈ mL_4_0, x_lok "PhaseReader$MacroTable" e := List.forall_mem_cons.mpr ⟨⟨(tw_1 (i := 48) rfl rfl), (tw_1 (i := 27) rfl rfl), (tw_1 (i := 28) rfl rfl)⟩, List.forall_mem_cons.mpr ⟨⟨xc_30, Or.inr ⟨_, List.mem_of_getElem? (i := 3) rfl⟩, (tw_1 (i := 53) rfl rfl), by decide +kernel, rfl, rfl⟩, List.forall_mem_cons.mpr ⟨⟨xc_34, Or.inl (tw_3 (i := 220) rfl rfl), (tw_3 (i := 118) rfl rfl), by decide +kernel, _, _, _, rfl, (tw_3 (i := 119) rfl rfl)⟩, List.forall_mem_cons.mpr ⟨⟨(tw_3 (i := 221) rfl rfl), (tw_3 (i := 179) rfl rfl), (tw_3 (i := 178) rfl rfl), (tw_1 (i := 20) rfl rfl)⟩, fun _ h => absurd h List.not_mem_nil⟩⟩⟩⟩
def mL_4 : List (Nat × Nat × Nat × Nat) := [(3, 0, 3, 0), (17, 30, 2, 0), (32, 34, 1, 1), (50, 0, 8, 5)]
theorem mK_4 : ∀ e ∈ mL_4, x_lok "PhaseReader$MacroTable" e := by
  have h : mL_4 = mL_4_0 := rfl
  rw [h]
  exact mK_4_0
def mL_5_0 : List (Nat × Nat × Nat × Nat) := [(5, 0, 3, 0), (13, 108, 2, 0), (35, 39, 1, 1), (43, 41, 1, 0), (47, 42, 1, 0), (50, 46, 1, 0), (56, 0, 4, 2), (64, 40, 0, 1), (74, 104, 0, 1), (78, 105, 0, 1), (83, 103, 0, 2), (93, 101, 0, 1)]
theorem mK_5_0 : ∀ e ∈ mL_5_0, x_lok "PhaseReader$Parser" e := List.forall_mem_cons.mpr ⟨⟨(tw_2 (i := 35) rfl rfl), (tw_1 (i := 27) rfl rfl), (tw_1 (i := 28) rfl rfl)⟩, List.forall_mem_cons.mpr ⟨⟨xc_108, Or.inl (tw_2 (i := 38) rfl rfl), (tw_2 (i := 39) rfl rfl), by decide +kernel, rfl, rfl⟩, List.forall_mem_cons.mpr ⟨⟨xc_39, Or.inl (tw_4 (i := 25) rfl rfl), (tw_4 (i := 27) rfl rfl), by decide +kernel, _, _, _, rfl, (tq_2 (i := 6) rfl)⟩, List.forall_mem_cons.mpr ⟨⟨xc_41, Or.inl (tw_4 (i := 42) rfl rfl), (tw_4 (i := 44) rfl rfl), by decide +kernel, _, _, _, rfl, (tq_2 (i := 7) rfl)⟩, List.forall_mem_cons.mpr ⟨⟨xc_42, Or.inl (tw_4 (i := 50) rfl rfl), (tw_4 (i := 52) rfl rfl), by decide +kernel, _, _, _, rfl, (tq_2 (i := 8) rfl)⟩, List.forall_mem_cons.mpr ⟨⟨xc_46, Or.inl (tw_4 (i := 60) rfl rfl), (tw_4 (i := 62) rfl rfl), by decide +kernel, _, _, _, rfl, (tq_2 (i := 9) rfl)⟩, List.forall_mem_cons.mpr ⟨⟨(tw_4 (i := 29) rfl rfl), (tw_2 (i := 203) rfl rfl), (tw_1 (i := 16) rfl rfl), (tw_2 (i := 204) rfl rfl)⟩, List.forall_mem_cons.mpr ⟨⟨xc_40, Or.inl (tw_4 (i := 30) rfl rfl), (tw_4 (i := 31) rfl rfl), by decide +kernel⟩, List.forall_mem_cons.mpr ⟨⟨xc_104, Or.inl (tw_4 (i := 33) rfl rfl), (tw_3 (i := 64) rfl rfl), by decide +kernel⟩, List.forall_mem_cons.mpr ⟨⟨xc_105, Or.inl (tw_4 (i := 34) rfl rfl), (tw_4 (i := 35) rfl rfl), by decide +kernel⟩, List.forall_mem_cons.mpr ⟨⟨xc_103, Or.inl (tw_4 (i := 38) rfl rfl), (tw_3 (i := 93) rfl rfl), by decide +kernel⟩, List.forall_mem_cons.mpr ⟨⟨xc_101, Or.inl (tw_4 (i := 46) rfl rfl), (tw_3 (i := 174) rfl rfl), by decide +kernel⟩, fun _ h => absurd h List.not_mem_nil⟩⟩⟩⟩⟩⟩⟩⟩⟩⟩⟩⟩
def mL_5_1 : List (Nat × Nat × Nat × Nat) := [(96, 102, 0, 2), (112, 44, 1, 1), (116, 109, 1, 3), (120, 45, 1, 0), (123, 47, 1, 2), (130, 48, 1, 0), (133, 51, 1, 1), (136, 49, 1, 2), (143, 50, 1, 1), (146, 53, 1, 1), (149, 43, 1, 1), (153, 55, 1, 1)]
theorem mK_5_1 : ∀ e ∈ mL_5_1, x_lok "PhaseReader$Parser" e := List.forall_mem_cons.mpr ⟨⟨xc_102, Or.inl (tw_4 (i := 47) rfl rfl), (tw_4 (i := 48) rfl rfl), by decide +kernel⟩, List.forall_mem_cons.mpr ⟨⟨xc_44, Or.inl (tw_4 (i := 73) rfl rfl), (tw_4 (i := 75) rfl rfl), by decide +kernel, _, _, _, rfl, (tq_2 (i := 11) rfl)⟩, List.forall_mem_cons.mpr ⟨⟨xc_109, Or.inl (tw_4 (i := 64) rfl rfl), (tw_4 (i := 65) rfl rfl), by decide +kernel, _, _, _, rfl, (tw_4 (i := 66) rfl rfl)⟩, List.forall_mem_cons.mpr ⟨⟨xc_45, Or.inl (tw_4 (i := 69) rfl rfl), (tw_4 (i := 71) rfl rfl), by decide +kernel, _, _, _, rfl, (tq_2 (i := 10) rfl)⟩, List.forall_mem_cons.mpr ⟨⟨xc_47, Or.inl (tw_4 (i := 77) rfl rfl), (tw_4 (i := 79) rfl rfl), by decide +kernel, _, _, _, rfl, (tq_2 (i := 12) rfl)⟩, List.forall_mem_cons.mpr ⟨⟨xc_48, Or.inl (tw_4 (i := 81) rfl rfl), (tw_4 (i := 83) rfl rfl), by decide +kernel, _, _, _, rfl, (tq_2 (i := 13) rfl)⟩, List.forall_mem_cons.mpr ⟨⟨xc_51, Or.inl (tw_4 (i := 85) rfl rfl), (tw_4 (i := 87) rfl rfl), by decide +kernel, _, _, _, rfl, (tq_2 (i := 14) rfl)⟩, List.forall_mem_cons.mpr ⟨⟨xc_49, Or.inl (tw_4 (i := 98) rfl rfl), (tw_4 (i := 100) rfl rfl), by decide +kernel, _, _, _, rfl, (tq_3 (i := 1) rfl)⟩, List.forall_mem_cons.mpr ⟨⟨xc_50, Or.inl (tw_4 (i := 102) rfl rfl), (tw_4 (i := 104) rfl rfl), by decide +kernel, _, _, _, rfl, (tq_3 (i := 2) rfl)⟩, List.forall_mem_cons.mpr ⟨⟨xc_53, Or.inl (tw_4 (i := 106) rfl rfl), (tw_4 (i := 108) rfl rfl), by decide +kernel, _, _, _, rfl, (tq_3 (i := 3) rfl)⟩, List.forall_mem_cons.mpr ⟨⟨xc_43, Or.inl (tw_4 (i := 90) rfl rfl), (tw_4 (i := 92) rfl rfl), by decide +kernel, _, _, _, rfl, (tq_2 (i := 15) rfl)⟩, List.forall_mem_cons.mpr ⟨⟨xc_55, Or.inl (tw_4 (i := 115) rfl rfl), (tw_4 (i := 117) rfl rfl), by decide +kernel, _, _, _, rfl, (tq_3 (i := 5) rfl)⟩, fun _ h => absurd h List.not_mem_nil⟩⟩⟩⟩⟩⟩⟩⟩⟩⟩⟩⟩
def mL_5_2 : List (Nat × Nat × Nat × Nat) := [(161, 52, 1, 0), (164, 54, 1, 1), (169, 56, 1, 2), (175, 110, 1, 4), (179, 58, 1, 1), (182, 57, 0, 1), (199, 59, 1, 0), (202, 60, 1, 1), (205, 61, 1, 2), (208, 62, 1, 2)]
theorem mK_5_2 : ∀ e ∈ mL_5_2, x_lok "PhaseReader$Parser" e := List.forall_mem_cons.mpr ⟨⟨xc_52, Or.inl (tw_4 (i := 94) rfl rfl), (tw_4 (i := 96) rfl rfl), by decide +kernel, _, _, _, rfl, (tq_3 (i := 0) rfl)⟩, List.forall_mem_cons.mpr ⟨⟨xc_54, Or.inl (tw_4 (i := 110) rfl rfl), (tw_4 (i := 112) rfl rfl), by decide +kernel, _, _, _, rfl, (tq_3 (i := 4) rfl)⟩, List.forall_mem_cons.mpr ⟨⟨xc_56, Or.inl (tw_4 (i := 119) rfl rfl), (tw_4 (i := 121) rfl rfl), by decide +kernel, _, _, _, rfl, (tq_3 (i := 6) rfl)⟩, List.forall_mem_cons.mpr ⟨⟨xc_110, Or.inl (tw_4 (i := 141) rfl rfl), (tw_4 (i := 142) rfl rfl), by decide +kernel, _, _, _, rfl, (tw_4 (i := 143) rfl rfl)⟩, List.forall_mem_cons.mpr ⟨⟨xc_58, Or.inl (tw_4 (i := 123) rfl rfl), (tw_4 (i := 125) rfl rfl), by decide +kernel, _, _, _, rfl, (tq_3 (i := 7) rfl)⟩, List.forall_mem_cons.mpr ⟨⟨xc_57, Or.inl (tw_4 (i := 150) rfl rfl), (tw_4 (i := 151) rfl rfl), by decide +kernel⟩, List.forall_mem_cons.mpr ⟨⟨xc_59, Or.inl (tw_4 (i := 129) rfl rfl), (tw_4 (i := 131) rfl rfl), by decide +kernel, _, _, _, rfl, (tq_3 (i := 8) rfl)⟩, List.forall_mem_cons.mpr ⟨⟨xc_60, Or.inl (tw_4 (i := 133) rfl rfl), (tw_4 (i := 135) rfl rfl), by decide +kernel, _, _, _, rfl, (tq_3 (i := 9) rfl)⟩, List.forall_mem_cons.mpr ⟨⟨xc_61, Or.inl (tw_4 (i := 137) rfl rfl), (tw_4 (i := 139) rfl rfl), by decide +kernel, _, _, _, rfl, (tq_3 (i := 10) rfl)⟩, List.forall_mem_cons.mpr ⟨⟨xc_62, Or.inl (tw_4 (i := 146) rfl rfl), (tw_4 (i := 148) rfl rfl), by decide +kernel, _, _, _, rfl, (tq_3 (i := 11) rfl)⟩, fun _ h => absurd h List.not_mem_nil⟩⟩⟩⟩⟩⟩⟩⟩⟩⟩
def mL_5 : List (Nat × Nat × Nat × Nat) := [(5, 0, 3, 0), (13, 108, 2, 0), (35, 39, 1, 1), (43, 41, 1, 0), (47, 42, 1, 0), (50, 46, 1, 0), (56, 0, 4, 2), (64, 40, 0, 1), (74, 104, 0, 1), (78, 105, 0, 1), (83, 103, 0, 2), (93, 101, 0, 1), (96, 102, 0, 2), (112, 44, 1, 1), (116, 109, 1, 3), (120, 45, 1, 0), (123, 47, 1, 2), (130, 48, 1, 0), (133, 51, 1, 1), (136, 49, 1, 2), (143, 50, 1, 1), (146, 53, 1, 1), (149, 43, 1, 1), (153, 55, 1, 1), (161, 52, 1, 0), (164, 54, 1, 1), (169, 56, 1, 2), (175, 110, 1, 4), (179, 58, 1, 1), (182, 57, 0, 1), (199, 59, 1, 0), (202, 60, 1, 1), (205, 61, 1, 2), (208, 62, 1, 2)]
theorem mK_5 : ∀ e ∈ mL_5, x_lok "PhaseReader$Parser" e := by
  have h : mL_5 = mL_5_0 ++ (mL_5_1 ++ (mL_5_2)) := rfl
  rw [h]
  exact List.forall_mem_append.mpr ⟨mK_5_0, List.forall_mem_append.mpr ⟨mK_5_1, mK_5_2⟩⟩
def mL_6_0 : List (Nat × Nat × Nat × Nat) := [(7, 0, 3, 0), (15, 19, 2, 0), (22, 74, 2, 0), (33, 85, 2, 0), (34, 20, 1, 0), (44, 86, 1, 1), (54, 75, 1, 2), (70, 65, 1, 1), (74, 66, 1, 1), (77, 88, 1, 1), (84, 89, 1, 2), (97, 21, 1, 3)]
theorem mK_6_0 : ∀ e ∈ mL_6_0, x_lok "PhaseReader$Preprocessor" e := List.forall_mem_cons.mpr ⟨⟨(tw_1 (i := 36) rfl rfl), (tw_1 (i := 27) rfl rfl), (tw_1 (i := 28) rfl rfl)⟩, List.forall_mem_cons.mpr ⟨⟨xc_19, Or.inl (tw_1 (i := 39) rfl rfl), (tw_1 (i := 40) rfl rfl), by decide +kernel, rfl, rfl⟩, List.forall_mem_cons.mpr ⟨⟨xc_74, Or.inr ⟨_, List.mem_of_getElem? (i := 4) rfl⟩, (tw_1 (i := 182) rfl rfl), by decide +kernel, rfl, rfl⟩, List.forall_mem_cons.mpr ⟨⟨xc_85, Or.inr ⟨_, List.mem_of_getElem? (i := 5) rfl⟩, (tw_1 (i := 200) rfl rfl), by decide +kernel, rfl, rfl⟩, List.forall_mem_cons.mpr ⟨⟨xc_20, Or.inl (tw_2 (i := 151) rfl rfl), (tw_2 (i := 152) rfl rfl), by decide +kernel, _, _, _, rfl, (tw_2 (i := 153) rfl rfl)⟩, List.forall_mem_cons.mpr ⟨⟨xc_86, Or.inl (tw_2 (i := 155) rfl rfl), (tw_2 (i := 156) rfl rfl), by decide +kernel, _, _, _, rfl, (tw_2 (i := 157) rfl rfl)⟩, List.forall_mem_cons.mpr ⟨⟨xc_75, Or.inl (tw_2 (i := 159) rfl rfl), (tw_2 (i := 160) rfl rfl), by decide +kernel, _, _, _, rfl, (tw_2 (i := 161) rfl rfl)⟩, List.forall_mem_cons.mpr ⟨⟨xc_65, Or.inl (tw_3 (i := 78) rfl rfl), (tw_3 (i := 80) rfl rfl), by decide +kernel, _, _, _, rfl, (tq_1 (i := 8) rfl)⟩, List.forall_mem_cons.mpr ⟨⟨xc_66, Or.inl (tw_4 (i := 17) rfl rfl), (tw_4 (i := 19) rfl rfl), by decide +kernel, _, _, _, rfl, (tq_2 (i := 5) rfl)⟩, List.forall_mem_cons.mpr ⟨⟨xc_88, Or.inl (tw_3 (i := 82) rfl rfl), (tw_3 (i := 83) rfl rfl), by decide +kernel, _, _, _, rfl, (tw_3 (i := 84) rfl rfl)⟩, List.forall_mem_cons.mpr ⟨⟨xc_89, Or.inl (tw_3 (i := 86) rfl rfl), (tw_3 (i := 87) rfl rfl), by decide +kernel, _, _, _, rfl, (tw_3 (i := 88) rfl rfl)⟩, List.forall_mem_cons.mpr ⟨⟨xc_21, Or.inl (tw_3 (i := 101) rfl rfl), (tw_3 (i := 102) rfl rfl), by decide +kernel, _, _, _, rfl, (tw_3 (i := 103) rfl rfl)⟩, fun _ h => absurd h List.not_mem_nil⟩⟩⟩⟩⟩⟩⟩⟩⟩⟩⟩⟩
def mL_6_1 : List (Nat × Nat × Nat × Nat) := [(101, 67, 1, 3), (110, 103, 0, 2), (114, 70, 1, 3), (118, 69, 1, 3), (122, 91, 1, 0), (128, 92, 1, 0), (131, 106, 0, 1), (135, 68, 1, 3), (145, 36, 1, 1), (151, 34, 1, 1), (157, 90, 1, 1), (177, 71, 0, 3)]
theorem mK_6_1 : ∀ e ∈ mL_6_1, x_lok "PhaseReader$Preprocessor" e := List.forall_mem_cons.mpr ⟨⟨xc_67, Or.inl (tw_3 (i := 184) rfl rfl), (tw_3 (i := 186) rfl rfl), by decide +kernel, _, _, _, rfl, (tq_2 (i := 1) rfl)⟩, List.forall_mem_cons.mpr ⟨⟨xc_103, Or.inl (tw_3 (i := 189) rfl rfl), (tw_3 (i := 93) rfl rfl), by decide +kernel⟩, List.forall_mem_cons.mpr ⟨⟨xc_70, Or.inl (tw_3 (i := 190) rfl rfl), (tw_3 (i := 192) rfl rfl), by decide +kernel, _, _, _, rfl, (tq_2 (i := 2) rfl)⟩, List.forall_mem_cons.mpr ⟨⟨xc_69, Or.inl (tw_3 (i := 223) rfl rfl), (tw_3 (i := 225) rfl rfl), by decide +kernel, _, _, _, rfl, (tq_2 (i := 3) rfl)⟩, List.forall_mem_cons.mpr ⟨⟨xc_91, Or.inl (tw_3 (i := 232) rfl rfl), (tw_3 (i := 233) rfl rfl), by decide +kernel, _, _, _, rfl, (tw_3 (i := 234) rfl rfl)⟩, List.forall_mem_cons.mpr ⟨⟨xc_92, Or.inl (tw_3 (i := 237) rfl rfl), (tw_3 (i := 238) rfl rfl), by decide +kernel, _, _, _, rfl, (tw_3 (i := 239) rfl rfl)⟩, List.forall_mem_cons.mpr ⟨⟨xc_106, Or.inl (tw_3 (i := 194) rfl rfl), (tw_3 (i := 195) rfl rfl), by decide +kernel⟩, List.forall_mem_cons.mpr ⟨⟨xc_68, Or.inl (tw_4 (i := 1) rfl rfl), (tw_4 (i := 3) rfl rfl), by decide +kernel, _, _, _, rfl, (tq_2 (i := 4) rfl)⟩, List.forall_mem_cons.mpr ⟨⟨xc_36, Or.inl (tw_4 (i := 6) rfl rfl), (tw_4 (i := 7) rfl rfl), by decide +kernel, _, _, _, rfl, (tw_4 (i := 8) rfl rfl)⟩, List.forall_mem_cons.mpr ⟨⟨xc_34, Or.inl (tw_4 (i := 10) rfl rfl), (tw_3 (i := 118) rfl rfl), by decide +kernel, _, _, _, rfl, (tw_3 (i := 119) rfl rfl)⟩, List.forall_mem_cons.mpr ⟨⟨xc_90, Or.inl (tw_4 (i := 12) rfl rfl), (tw_4 (i := 13) rfl rfl), by decide +kernel, _, _, _, rfl, (tw_4 (i := 14) rfl rfl)⟩, List.forall_mem_cons.mpr ⟨⟨xc_71, Or.inl (tw_3 (i := 204) rfl rfl), (tw_3 (i := 205) rfl rfl), by decide +kernel⟩, fun _ h => absurd h List.not_mem_nil⟩⟩⟩⟩⟩⟩⟩⟩⟩⟩⟩⟩
def mL_6_2 : List (Nat × Nat × Nat × Nat) := [(180, 73, 0, 3), (184, 35, 1, 5), (189, 72, 0, 3)]
theorem mK_6_2 : ∀ e ∈ mL_6_2, x_lok "PhaseReader$Preprocessor" e := List.forall_mem_cons.mpr ⟨⟨xc_73, Or.inl (tw_3 (i := 212) rfl rfl), (tw_3 (i := 213) rfl rfl), by decide +kernel⟩, List.forall_mem_cons.mpr ⟨⟨xc_35, Or.inl (tw_3 (i := 216) rfl rfl), (tw_3 (i := 217) rfl rfl), by decide +kernel, _, _, _, rfl, (tw_3 (i := 218) rfl rfl)⟩, List.forall_mem_cons.mpr ⟨⟨xc_72, Or.inl (tw_3 (i := 208) rfl rfl), (tw_3 (i := 209) rfl rfl), by decide +kernel⟩, fun _ h => absurd h List.not_mem_nil⟩⟩⟩
def mL_6 : List (Nat × Nat × Nat × Nat) := [(7, 0, 3, 0), (15, 19, 2, 0), (22, 74, 2, 0), (33, 85, 2, 0), (34, 20, 1, 0), (44, 86, 1, 1), (54, 75, 1, 2), (70, 65, 1, 1), (74, 66, 1, 1), (77, 88, 1, 1), (84, 89, 1, 2), (97, 21, 1, 3), (101, 67, 1, 3), (110, 103, 0, 2), (114, 70, 1, 3), (118, 69, 1, 3), (122, 91, 1, 0), (128, 92, 1, 0), (131, 106, 0, 1), (135, 68, 1, 3), (145, 36, 1, 1), (151, 34, 1, 1), (157, 90, 1, 1), (177, 71, 0, 3), (180, 73, 0, 3), (184, 35, 1, 5), (189, 72, 0, 3)]
theorem mK_6 : ∀ e ∈ mL_6, x_lok "PhaseReader$Preprocessor" e := by
  have h : mL_6 = mL_6_0 ++ (mL_6_1 ++ (mL_6_2)) := rfl
  rw [h]
  exact List.forall_mem_append.mpr ⟨mK_6_0, List.forall_mem_append.mpr ⟨mK_6_1, mK_6_2⟩⟩
def mL_7_0 : List (Nat × Nat × Nat × Nat) := [(3, 0, 3, 0), (27, 76, 1, 1), (31, 78, 1, 0), (34, 79, 1, 1), (43, 77, 0, 2), (50, 173, 7, 1), (58, 174, 7, 1), (62, 80, 1, 1), (65, 83, 1, 1), (73, 84, 1, 2), (77, 87, 1, 4), (81, 81, 1, 1)]
theorem mK_7_0 : ∀ e ∈ mL_7_0, x_lok "PhaseReader$Scanner" e := List.forall_mem_cons.mpr ⟨⟨(tw_1 (i := 184) rfl rfl), (tw_1 (i := 27) rfl rfl), (tw_1 (i := 28) rfl rfl)⟩, List.forall_mem_cons.mpr ⟨⟨xc_76, Or.inl (tw_2 (i := 163) rfl rfl), (tw_2 (i := 165) rfl rfl), by decide +kernel, _, _, _, rfl, (tq_1 (i := 0) rfl)⟩, List.forall_mem_cons.mpr ⟨⟨xc_78, Or.inl (tw_3 (i := 38) rfl rfl), (tw_3 (i := 40) rfl rfl), by decide +kernel, _, _, _, rfl, (tq_1 (i := 1) rfl)⟩, List.forall_mem_cons.mpr ⟨⟨xc_79, Or.inl (tw_3 (i := 42) rfl rfl), (tw_3 (i := 44) rfl rfl), by decide +kernel, _, _, _, rfl, (tq_1 (i := 2) rfl)⟩, List.forall_mem_cons.mpr ⟨⟨xc_77, Or.inl (tw_2 (i := 167) rfl rfl), (tw_2 (i := 168) rfl rfl), by decide +kernel⟩, List.forall_mem_cons.mpr ⟨⟨xc_173, Or.inl (tw_3 (i := 18) rfl rfl), (tw_3 (i := 19) rfl rfl), by decide +kernel, (tw_3 (i := 20) rfl rfl)⟩, List.forall_mem_cons.mpr ⟨⟨xc_174, Or.inl (tw_2 (i := 171) rfl rfl), (tw_2 (i := 172) rfl rfl), by decide +kernel, (tw_2 (i := 173) rfl rfl)⟩, List.forall_mem_cons.mpr ⟨⟨xc_80, Or.inl (tw_3 (i := 46) rfl rfl), (tw_3 (i := 48) rfl rfl), by decide +kernel, _, _, _, rfl, (tq_1 (i := 3) rfl)⟩, List.forall_mem_cons.mpr ⟨⟨xc_83, Or.inl (tw_3 (i := 58) rfl rfl), (tw_3 (i := 60) rfl rfl), by decide +kernel, _, _, _, rfl, (tq_1 (i := 6) rfl)⟩, List.forall_mem_cons.mpr ⟨⟨xc_84, Or.inl (tw_3 (i := 66) rfl rfl), (tw_3 (i := 68) rfl rfl), by decide +kernel, _, _, _, rfl, (tq_1 (i := 7) rfl)⟩, List.forall_mem_cons.mpr ⟨⟨xc_87, Or.inl (tw_3 (i := 70) rfl rfl), (tw_3 (i := 71) rfl rfl), by decide +kernel, _, _, _, rfl, (tw_3 (i := 72) rfl rfl)⟩, List.forall_mem_cons.mpr ⟨⟨xc_81, Or.inl (tw_3 (i := 50) rfl rfl), (tw_3 (i := 52) rfl rfl), by decide +kernel, _, _, _, rfl, (tq_1 (i := 4) rfl)⟩, fun _ h => absurd h List.not_mem_nil⟩⟩⟩⟩⟩⟩⟩⟩⟩⟩⟩⟩
def mL_7_1 : List (Nat × Nat × Nat × Nat) := [(84, 82, 1, 1), (89, 104, 0, 1)]
theorem mK_7_1 : ∀ e ∈ mL_7_1, x_lok "PhaseReader$Scanner" e := List.forall_mem_cons.mpr ⟨⟨xc_82, Or.inl (tw_3 (i := 54) rfl rfl), (tw_3 (i := 56) rfl rfl), by decide +kernel, _, _, _, rfl, (tq_1 (i := 5) rfl)⟩, List.forall_mem_cons.mpr ⟨⟨xc_104, Or.inl (tw_3 (i := 63) rfl rfl), (tw_3 (i := 64) rfl rfl), by decide +kernel⟩, fun _ h => absurd h List.not_mem_nil⟩⟩
def mL_7 : List (Nat × Nat × Nat × Nat) := [(3, 0, 3, 0), (27, 76, 1, 1), (31, 78, 1, 0), (34, 79, 1, 1), (43, 77, 0, 2), (50, 173, 7, 1), (58, 174, 7, 1), (62, 80, 1, 1), (65, 83, 1, 1), (73, 84, 1, 2), (77, 87, 1, 4), (81, 81, 1, 1), (84, 82, 1, 1), (89, 104, 0, 1)]
theorem mK_7 : ∀ e ∈ mL_7, x_lok "PhaseReader$Scanner" e := by
  have h : mL_7 = mL_7_0 ++ (mL_7_1) := rfl
  rw [h]
  exact List.forall_mem_append.mpr ⟨mK_7_0, mK_7_1⟩
def mL_8_0 : List (Nat × Nat × Nat × Nat) := [(5, 0, 3, 0), (13, 95, 2, 1), (62, 96, 1, 3), (74, 103, 0, 2)]
theorem mK_8_0 : ∀ e ∈ mL_8_0, x_lok "PhaseReader$Source" e := List.forall_mem_cons.mpr ⟨⟨(tw_1 (i := 202) rfl rfl), (tw_1 (i := 27) rfl rfl), (tw_1 (i := 28) rfl rfl)⟩, List.forall_mem_cons.mpr ⟨⟨xc_95, Or.inl (tw_1 (i := 204) rfl rfl), (tw_1 (i := 97) rfl rfl), by decide +kernel, rfl, rfl⟩, List.forall_mem_cons.mpr ⟨⟨xc_96, Or.inl (tw_3 (i := 74) rfl rfl), (tw_3 (i := 75) rfl rfl), by decide +kernel, _, _, _, rfl, (tw_3 (i := 76) rfl rfl)⟩, List.forall_mem_cons.mpr ⟨⟨xc_103, Or.inl (tw_3 (i := 92) rfl rfl), (tw_3 (i := 93) rfl rfl), by decide +kernel⟩, fun _ h => absurd h List.not_mem_nil⟩⟩⟩⟩
def mL_8 : List (Nat × Nat × Nat × Nat) := [(5, 0, 3, 0), (13, 95, 2, 1), (62, 96, 1, 3), (74, 103, 0, 2)]
theorem mK_8 : ∀ e ∈ mL_8, x_lok "PhaseReader$Source" e := by
  have h : mL_8 = mL_8_0 := rfl
  rw [h]
  exact mK_8_0
def mL_9_0 : List (Nat × Nat × Nat × Nat) := [(1, 0, 3, 0)]
theorem mK_9_0 : ∀ e ∈ mL_9_0, x_lok "PhaseReader$Text" e := List.forall_mem_cons.mpr ⟨⟨(tw_2 (i := 93) rfl rfl), (tw_1 (i := 27) rfl rfl), (tw_1 (i := 28) rfl rfl)⟩, fun _ h => absurd h List.not_mem_nil⟩
def mL_9 : List (Nat × Nat × Nat × Nat) := [(1, 0, 3, 0)]
theorem mK_9 : ∀ e ∈ mL_9, x_lok "PhaseReader$Text" e := by
  have h : mL_9 = mL_9_0 := rfl
  rw [h]
  exact mK_9_0
def mL_10_0 : List (Nat × Nat × Nat × Nat) := [(3, 0, 3, 0), (21, 104, 0, 1), (29, 101, 0, 1), (33, 98, 1, 1), (37, 0, 8, 5), (43, 172, 7, 0), (49, 173, 7, 1), (53, 107, 0, 1)]
theorem mK_10_0 : ∀ e ∈ mL_10_0, x_lok "PhaseReader$TokenRow" e := List.forall_mem_cons.mpr ⟨⟨(tw_1 (i := 99) rfl rfl), (tw_1 (i := 27) rfl rfl), (tw_1 (i := 28) rfl rfl)⟩, List.forall_mem_cons.mpr ⟨⟨xc_104, Or.inl (tw_3 (i := 170) rfl rfl), (tw_3 (i := 64) rfl rfl), by decide +kernel⟩, List.forall_mem_cons.mpr ⟨⟨xc_101, Or.inl (tw_3 (i := 173) rfl rfl), (tw_3 (i := 174) rfl rfl), by decide +kernel⟩, List.forall_mem_cons.mpr ⟨⟨xc_98, Or.inl (tw_3 (i := 176) rfl rfl), (tw_3 (i := 122) rfl rfl), by decide +kernel, _, _, _, rfl, (tw_3 (i := 123) rfl rfl)⟩, List.forall_mem_cons.mpr ⟨⟨(tw_3 (i := 177) rfl rfl), (tw_3 (i := 179) rfl rfl), (tw_3 (i := 178) rfl rfl), (tw_1 (i := 20) rfl rfl)⟩, List.forall_mem_cons.mpr ⟨⟨xc_172, Or.inl (tw_3 (i := 95) rfl rfl), (tw_2 (i := 186) rfl rfl), by decide +kernel, (tw_2 (i := 187) rfl rfl)⟩, List.forall_mem_cons.mpr ⟨⟨xc_173, Or.inl (tw_3 (i := 96) rfl rfl), (tw_3 (i := 19) rfl rfl), by decide +kernel, (tw_3 (i := 20) rfl rfl)⟩, List.forall_mem_cons.mpr ⟨⟨xc_107, Or.inl (tw_3 (i := 197) rfl rfl), (tw_3 (i := 198) rfl rfl), by decide +kernel⟩, fun _ h => absurd h List.not_mem_nil⟩⟩⟩⟩⟩⟩⟩⟩
def mL_10 : List (Nat × Nat × Nat × Nat) := [(3, 0, 3, 0), (21, 104, 0, 1), (29, 101, 0, 1), (33, 98, 1, 1), (37, 0, 8, 5), (43, 172, 7, 0), (49, 173, 7, 1), (53, 107, 0, 1)]
theorem mK_10 : ∀ e ∈ mL_10, x_lok "PhaseReader$TokenRow" e := by
  have h : mL_10 = mL_10_0 := rfl
  rw [h]
  exact mK_10_0
def mL_11_0 : List (Nat × Nat × Nat × Nat) := [(3, 0, 3, 0), (25, 0, 4, 2), (31, 0, 8, 5)]
theorem mK_11_0 : ∀ e ∈ mL_11_0, x_lok "PhaseReader$Tree" e := List.forall_mem_cons.mpr ⟨⟨(tw_2 (i := 41) rfl rfl), (tw_1 (i := 27) rfl rfl), (tw_1 (i := 28) rfl rfl)⟩, List.forall_mem_cons.mpr ⟨⟨(tw_4 (i := 68) rfl rfl), (tw_2 (i := 203) rfl rfl), (tw_1 (i := 16) rfl rfl), (tw_2 (i := 204) rfl rfl)⟩, List.forall_mem_cons.mpr ⟨⟨(tw_4 (i := 145) rfl rfl), (tw_3 (i := 179) rfl rfl), (tw_3 (i := 178) rfl rfl), (tw_1 (i := 20) rfl rfl)⟩, fun _ h => absurd h List.not_mem_nil⟩⟩⟩
def mL_11 : List (Nat × Nat × Nat × Nat) := [(3, 0, 3, 0), (25, 0, 4, 2), (31, 0, 8, 5)]
theorem mK_11 : ∀ e ∈ mL_11, x_lok "PhaseReader$Tree" e := by
  have h : mL_11 = mL_11_0 := rfl
  rw [h]
  exact mK_11_0
def mL_12_0 : List (Nat × Nat × Nat × Nat) := [(1, 0, 3, 0), (184, 120, 0, 1), (190, 121, 0, 2), (194, 118, 0, 1), (198, 117, 0, 1), (204, 116, 0, 1), (208, 119, 0, 1), (211, 124, 1, 1), (221, 126, 1, 1), (224, 125, 1, 1), (227, 136, 1, 0), (233, 130, 1, 2)]
theorem mK_12_0 : ∀ e ∈ mL_12_0, x_lok "PhaseReaderModel" e := List.forall_mem_cons.mpr ⟨⟨(tw_4 (i := 203) rfl rfl), (tw_1 (i := 27) rfl rfl), (tw_1 (i := 28) rfl rfl)⟩, List.forall_mem_cons.mpr ⟨⟨xc_120, Or.inl (tw_6 (i := 24) rfl rfl), (tw_6 (i := 25) rfl rfl), by decide +kernel⟩, List.forall_mem_cons.mpr ⟨⟨xc_121, Or.inl (tw_6 (i := 27) rfl rfl), (tw_6 (i := 28) rfl rfl), by decide +kernel⟩, List.forall_mem_cons.mpr ⟨⟨xc_118, Or.inl (tw_6 (i := 64) rfl rfl), (tw_6 (i := 65) rfl rfl), by decide +kernel⟩, List.forall_mem_cons.mpr ⟨⟨xc_117, Or.inl (tw_5 (i := 220) rfl rfl), (tw_5 (i := 221) rfl rfl), by decide +kernel⟩, List.forall_mem_cons.mpr ⟨⟨xc_116, Or.inl (tw_5 (i := 209) rfl rfl), (tw_5 (i := 210) rfl rfl), by decide +kernel⟩, List.forall_mem_cons.mpr ⟨⟨xc_119, Or.inl (tw_5 (i := 223) rfl rfl), (tw_5 (i := 224) rfl rfl), by decide +kernel⟩, List.forall_mem_cons.mpr ⟨⟨xc_124, Or.inl (tw_5 (i := 205) rfl rfl), (tw_5 (i := 207) rfl rfl), by decide +kernel, _, _, _, rfl, (tq_3 (i := 14) rfl)⟩, List.forall_mem_cons.mpr ⟨⟨xc_126, Or.inl (tw_5 (i := 212) rfl rfl), (tw_5 (i := 214) rfl rfl), by decide +kernel, _, _, _, rfl, (tq_3 (i := 15) rfl)⟩, List.forall_mem_cons.mpr ⟨⟨xc_125, Or.inl (tw_5 (i := 216) rfl rfl), (tw_5 (i := 218) rfl rfl), by decide +kernel, _, _, _, rfl, (tq_4 (i := 0) rfl)⟩, List.forall_mem_cons.mpr ⟨⟨xc_136, Or.inl (tw_5 (i := 230) rfl rfl), (tw_5 (i := 232) rfl rfl), by decide +kernel, _, _, _, rfl, (tq_4 (i := 2) rfl)⟩, List.forall_mem_cons.mpr ⟨⟨xc_130, Or.inl (tw_6 (i := 44) rfl rfl), (tw_6 (i := 46) rfl rfl), by decide +kernel, _, _, _, rfl, (tq_4 (i := 12) rfl)⟩, fun _ h => absurd h List.not_mem_nil⟩⟩⟩⟩⟩⟩⟩⟩⟩⟩⟩⟩
def mL_12_1 : List (Nat × Nat × Nat × Nat) := [(237, 128, 1, 0), (257, 135, 1, 2), (262, 132, 1, 2), (265, 123, 0, 1), (269, 131, 1, 1), (275, 133, 1, 1), (289, 127, 1, 1), (298, 134, 1, 2), (303, 169, 1, 0), (318, 137, 1, 2), (323, 138, 1, 0), (329, 141, 1, 0)]
theorem mK_12_1 : ∀ e ∈ mL_12_1, x_lok "PhaseReaderModel" e := List.forall_mem_cons.mpr ⟨⟨xc_128, Or.inl (tw_6 (i := 52) rfl rfl), (tw_6 (i := 54) rfl rfl), by decide +kernel, _, _, _, rfl, (tq_4 (i := 13) rfl)⟩, List.forall_mem_cons.mpr ⟨⟨xc_135, Or.inl (tw_6 (i := 57) rfl rfl), (tw_6 (i := 59) rfl rfl), by decide +kernel, _, _, _, rfl, (tq_4 (i := 14) rfl)⟩, List.forall_mem_cons.mpr ⟨⟨xc_132, Or.inl (tw_6 (i := 76) rfl rfl), (tw_6 (i := 78) rfl rfl), by decide +kernel, _, _, _, rfl, (tq_5 (i := 0) rfl)⟩, List.forall_mem_cons.mpr ⟨⟨xc_123, Or.inl (tw_6 (i := 61) rfl rfl), (tw_6 (i := 62) rfl rfl), by decide +kernel⟩, List.forall_mem_cons.mpr ⟨⟨xc_131, Or.inl (tw_6 (i := 84) rfl rfl), (tw_6 (i := 86) rfl rfl), by decide +kernel, _, _, _, rfl, (tq_5 (i := 1) rfl)⟩, List.forall_mem_cons.mpr ⟨⟨xc_133, Or.inl (tw_6 (i := 32) rfl rfl), (tw_6 (i := 34) rfl rfl), by decide +kernel, _, _, _, rfl, (tq_4 (i := 10) rfl)⟩, List.forall_mem_cons.mpr ⟨⟨xc_127, Or.inl (tw_5 (i := 201) rfl rfl), (tw_5 (i := 203) rfl rfl), by decide +kernel, _, _, _, rfl, (tq_3 (i := 13) rfl)⟩, List.forall_mem_cons.mpr ⟨⟨xc_134, Or.inl (tw_6 (i := 67) rfl rfl), (tw_6 (i := 69) rfl rfl), by decide +kernel, _, _, _, rfl, (tq_4 (i := 15) rfl)⟩, List.forall_mem_cons.mpr ⟨⟨xc_169, Or.inl (tw_6 (i := 71) rfl rfl), (tw_6 (i := 72) rfl rfl), by decide +kernel, _, _, _, rfl, (tw_6 (i := 73) rfl rfl)⟩, List.forall_mem_cons.mpr ⟨⟨xc_137, Or.inl (tw_5 (i := 234) rfl rfl), (tw_5 (i := 236) rfl rfl), by decide +kernel, _, _, _, rfl, (tq_4 (i := 3) rfl)⟩, List.forall_mem_cons.mpr ⟨⟨xc_138, Or.inl (tw_5 (i := 239) rfl rfl), (tw_6 (i := 1) rfl rfl), by decide +kernel, _, _, _, rfl, (tq_4 (i := 4) rfl)⟩, List.forall_mem_cons.mpr ⟨⟨xc_141, Or.inl (tw_6 (i := 3) rfl rfl), (tw_6 (i := 5) rfl rfl), by decide +kernel, _, _, _, rfl, (tq_4 (i := 5) rfl)⟩, fun _ h => absurd h List.not_mem_nil⟩⟩⟩⟩⟩⟩⟩⟩⟩⟩⟩⟩
def mL_12_2 : List (Nat × Nat × Nat × Nat) := [(332, 139, 1, 1), (338, 140, 1, 0), (341, 143, 1, 0), (344, 142, 1, 2), (348, 144, 1, 3), (357, 129, 1, 0), (360, 146, 1, 0), (363, 152, 1, 0), (366, 122, 0, 1), (393, 147, 1, 0), (396, 150, 1, 3), (400, 151, 1, 5)]
theorem mK_12_2 : ∀ e ∈ mL_12_2, x_lok "PhaseReaderModel" e := List.forall_mem_cons.mpr ⟨⟨xc_139, Or.inl (tw_6 (i := 37) rfl rfl), (tw_6 (i := 39) rfl rfl), by decide +kernel, _, _, _, rfl, (tq_4 (i := 11) rfl)⟩, List.forall_mem_cons.mpr ⟨⟨xc_140, Or.inl (tw_6 (i := 7) rfl rfl), (tw_6 (i := 9) rfl rfl), by decide +kernel, _, _, _, rfl, (tq_4 (i := 6) rfl)⟩, List.forall_mem_cons.mpr ⟨⟨xc_143, Or.inl (tw_6 (i := 11) rfl rfl), (tw_6 (i := 13) rfl rfl), by decide +kernel, _, _, _, rfl, (tq_4 (i := 7) rfl)⟩, List.forall_mem_cons.mpr ⟨⟨xc_142, Or.inl (tw_6 (i := 16) rfl rfl), (tw_6 (i := 18) rfl rfl), by decide +kernel, _, _, _, rfl, (tq_4 (i := 8) rfl)⟩, List.forall_mem_cons.mpr ⟨⟨xc_144, Or.inl (tw_6 (i := 20) rfl rfl), (tw_6 (i := 22) rfl rfl), by decide +kernel, _, _, _, rfl, (tq_4 (i := 9) rfl)⟩, List.forall_mem_cons.mpr ⟨⟨xc_129, Or.inl (tw_5 (i := 226) rfl rfl), (tw_5 (i := 228) rfl rfl), by decide +kernel, _, _, _, rfl, (tq_4 (i := 1) rfl)⟩, List.forall_mem_cons.mpr ⟨⟨xc_146, Or.inl (tw_6 (i := 89) rfl rfl), (tw_6 (i := 91) rfl rfl), by decide +kernel, _, _, _, rfl, (tq_5 (i := 2) rfl)⟩, List.forall_mem_cons.mpr ⟨⟨xc_152, Or.inl (tw_6 (i := 100) rfl rfl), (tw_6 (i := 102) rfl rfl), by decide +kernel, _, _, _, rfl, (tq_5 (i := 3) rfl)⟩, List.forall_mem_cons.mpr ⟨⟨xc_122, Or.inl (tw_6 (i := 93) rfl rfl), (tw_6 (i := 94) rfl rfl), by decide +kernel⟩, List.forall_mem_cons.mpr ⟨⟨xc_147, Or.inl (tw_6 (i := 104) rfl rfl), (tw_6 (i := 106) rfl rfl), by decide +kernel, _, _, _, rfl, (tq_5 (i := 4) rfl)⟩, List.forall_mem_cons.mpr ⟨⟨xc_150, Or.inl (tw_6 (i := 109) rfl rfl), (tw_6 (i := 111) rfl rfl), by decide +kernel, _, _, _, rfl, (tq_5 (i := 5) rfl)⟩, List.forall_mem_cons.mpr ⟨⟨xc_151, Or.inl (tw_6 (i := 113) rfl rfl), (tw_6 (i := 115) rfl rfl), by decide +kernel, _, _, _, rfl, (tq_5 (i := 6) rfl)⟩, fun _ h => absurd h List.not_mem_nil⟩⟩⟩⟩⟩⟩⟩⟩⟩⟩⟩⟩
def mL_12_3 : List (Nat × Nat × Nat × Nat) := [(404, 154, 1, 4), (408, 162, 1, 3), (412, 157, 1, 5), (417, 149, 1, 1), (420, 155, 1, 4), (423, 153, 1, 2), (426, 156, 1, 3), (434, 148, 1, 1), (437, 158, 1, 2), (447, 159, 0, 1), (450, 160, 1, 1), (455, 161, 1, 2)]
theorem mK_12_3 : ∀ e ∈ mL_12_3, x_lok "PhaseReaderModel" e := List.forall_mem_cons.mpr ⟨⟨xc_154, Or.inl (tw_6 (i := 117) rfl rfl), (tw_6 (i := 119) rfl rfl), by decide +kernel, _, _, _, rfl, (tq_5 (i := 7) rfl)⟩, List.forall_mem_cons.mpr ⟨⟨xc_162, Or.inl (tw_6 (i := 138) rfl rfl), (tw_6 (i := 140) rfl rfl), by decide +kernel, _, _, _, rfl, (tq_5 (i := 11) rfl)⟩, List.forall_mem_cons.mpr ⟨⟨xc_157, Or.inl (tw_6 (i := 167) rfl rfl), (tw_6 (i := 169) rfl rfl), by decide +kernel, _, _, _, rfl, (tq_6 (i := 0) rfl)⟩, List.forall_mem_cons.mpr ⟨⟨xc_149, Or.inl (tw_6 (i := 122) rfl rfl), (tw_6 (i := 124) rfl rfl), by decide +kernel, _, _, _, rfl, (tq_5 (i := 8) rfl)⟩, List.forall_mem_cons.mpr ⟨⟨xc_155, Or.inl (tw_6 (i := 128) rfl rfl), (tw_6 (i := 130) rfl rfl), by decide +kernel, _, _, _, rfl, (tq_5 (i := 9) rfl)⟩, List.forall_mem_cons.mpr ⟨⟨xc_153, Or.inl (tw_6 (i := 133) rfl rfl), (tw_6 (i := 135) rfl rfl), by decide +kernel, _, _, _, rfl, (tq_5 (i := 10) rfl)⟩, List.forall_mem_cons.mpr ⟨⟨xc_156, Or.inl (tw_6 (i := 171) rfl rfl), (tw_6 (i := 173) rfl rfl), by decide +kernel, _, _, _, rfl, (tq_6 (i := 1) rfl)⟩, List.forall_mem_cons.mpr ⟨⟨xc_148, Or.inl (tw_6 (i := 159) rfl rfl), (tw_6 (i := 161) rfl rfl), by decide +kernel, _, _, _, rfl, (tq_5 (i := 14) rfl)⟩, List.forall_mem_cons.mpr ⟨⟨xc_158, Or.inl (tw_6 (i := 175) rfl rfl), (tw_6 (i := 177) rfl rfl), by decide +kernel, _, _, _, rfl, (tq_6 (i := 2) rfl)⟩, List.forall_mem_cons.mpr ⟨⟨xc_159, Or.inl (tw_6 (i := 146) rfl rfl), (tw_6 (i := 147) rfl rfl), by decide +kernel⟩, List.forall_mem_cons.mpr ⟨⟨xc_160, Or.inl (tw_6 (i := 154) rfl rfl), (tw_6 (i := 156) rfl rfl), by decide +kernel, _, _, _, rfl, (tq_5 (i := 13) rfl)⟩, List.forall_mem_cons.mpr ⟨⟨xc_161, Or.inl (tw_6 (i := 142) rfl rfl), (tw_6 (i := 144) rfl rfl), by decide +kernel, _, _, _, rfl, (tq_5 (i := 12) rfl)⟩, fun _ h => absurd h List.not_mem_nil⟩⟩⟩⟩⟩⟩⟩⟩⟩⟩⟩⟩
def mL_12_4 : List (Nat × Nat × Nat × Nat) := [(458, 163, 1, 3)]
theorem mK_12_4 : ∀ e ∈ mL_12_4, x_lok "PhaseReaderModel" e := List.forall_mem_cons.mpr ⟨⟨xc_163, Or.inl (tw_6 (i := 163) rfl rfl), (tw_6 (i := 165) rfl rfl), by decide +kernel, _, _, _, rfl, (tq_5 (i := 15) rfl)⟩, fun _ h => absurd h List.not_mem_nil⟩
def mL_12 : List (Nat × Nat × Nat × Nat) := [(1, 0, 3, 0), (184, 120, 0, 1), (190, 121, 0, 2), (194, 118, 0, 1), (198, 117, 0, 1), (204, 116, 0, 1), (208, 119, 0, 1), (211, 124, 1, 1), (221, 126, 1, 1), (224, 125, 1, 1), (227, 136, 1, 0), (233, 130, 1, 2), (237, 128, 1, 0), (257, 135, 1, 2), (262, 132, 1, 2), (265, 123, 0, 1), (269, 131, 1, 1), (275, 133, 1, 1), (289, 127, 1, 1), (298, 134, 1, 2), (303, 169, 1, 0), (318, 137, 1, 2), (323, 138, 1, 0), (329, 141, 1, 0), (332, 139, 1, 1), (338, 140, 1, 0), (341, 143, 1, 0), (344, 142, 1, 2), (348, 144, 1, 3), (357, 129, 1, 0), (360, 146, 1, 0), (363, 152, 1, 0), (366, 122, 0, 1), (393, 147, 1, 0), (396, 150, 1, 3), (400, 151, 1, 5), (404, 154, 1, 4), (408, 162, 1, 3), (412, 157, 1, 5), (417, 149, 1, 1), (420, 155, 1, 4), (423, 153, 1, 2), (426, 156, 1, 3), (434, 148, 1, 1), (437, 158, 1, 2), (447, 159, 0, 1), (450, 160, 1, 1), (455, 161, 1, 2), (458, 163, 1, 3)]
theorem mK_12 : ∀ e ∈ mL_12, x_lok "PhaseReaderModel" e := by
  have h : mL_12 = mL_12_0 ++ (mL_12_1 ++ (mL_12_2 ++ (mL_12_3 ++ (mL_12_4)))) := rfl
  rw [h]
  exact List.forall_mem_append.mpr ⟨mK_12_0, List.forall_mem_append.mpr ⟨mK_12_1, List.forall_mem_append.mpr ⟨mK_12_2, List.forall_mem_append.mpr ⟨mK_12_3, mK_12_4⟩⟩⟩⟩
def mL_13_0 : List (Nat × Nat × Nat × Nat) := [(9, 1, 2, 0), (12, 111, 2, 0), (13, 2, 1, 1), (17, 112, 1, 1), (18, 3, 1, 1), (22, 113, 1, 1), (23, 4, 1, 0), (26, 114, 1, 0), (27, 5, 1, 1), (31, 115, 1, 1), (32, 6, 1, 1), (35, 145, 1, 1)]
theorem mK_13_0 : ∀ e ∈ mL_13_0, x_lok "PhaseReaderLaw" e := List.forall_mem_cons.mpr ⟨⟨xc_1, Or.inl (tw_1 (i := 23) rfl rfl), (tw_1 (i := 24) rfl rfl), by decide +kernel, rfl, rfl⟩, List.forall_mem_cons.mpr ⟨⟨xc_111, Or.inl (tw_4 (i := 200) rfl rfl), (tw_4 (i := 201) rfl rfl), by decide +kernel, rfl, rfl⟩, List.forall_mem_cons.mpr ⟨⟨xc_2, Or.inl (tw_2 (i := 120) rfl rfl), (tw_2 (i := 121) rfl rfl), by decide +kernel, _, _, _, rfl, (tw_2 (i := 122) rfl rfl)⟩, List.forall_mem_cons.mpr ⟨⟨xc_112, Or.inl (tw_5 (i := 181) rfl rfl), (tw_5 (i := 182) rfl rfl), by decide +kernel, _, _, _, rfl, (tw_5 (i := 183) rfl rfl)⟩, List.forall_mem_cons.mpr ⟨⟨xc_3, Or.inl (tw_2 (i := 127) rfl rfl), (tw_2 (i := 128) rfl rfl), by decide +kernel, _, _, _, rfl, (tw_2 (i := 129) rfl rfl)⟩, List.forall_mem_cons.mpr ⟨⟨xc_113, Or.inl (tw_5 (i := 185) rfl rfl), (tw_5 (i := 186) rfl rfl), by decide +kernel, _, _, _, rfl, (tw_5 (i := 187) rfl rfl)⟩, List.forall_mem_cons.mpr ⟨⟨xc_4, Or.inl (tw_2 (i := 135) rfl rfl), (tw_2 (i := 136) rfl rfl), by decide +kernel, _, _, _, rfl, (tw_2 (i := 137) rfl rfl)⟩, List.forall_mem_cons.mpr ⟨⟨xc_114, Or.inl (tw_5 (i := 189) rfl rfl), (tw_5 (i := 190) rfl rfl), by decide +kernel, _, _, _, rfl, (tw_5 (i := 191) rfl rfl)⟩, List.forall_mem_cons.mpr ⟨⟨xc_5, Or.inl (tw_2 (i := 139) rfl rfl), (tw_2 (i := 140) rfl rfl), by decide +kernel, _, _, _, rfl, (tw_2 (i := 141) rfl rfl)⟩, List.forall_mem_cons.mpr ⟨⟨xc_115, Or.inl (tw_5 (i := 193) rfl rfl), (tw_5 (i := 194) rfl rfl), by decide +kernel, _, _, _, rfl, (tw_5 (i := 195) rfl rfl)⟩, List.forall_mem_cons.mpr ⟨⟨xc_6, Or.inl (tw_2 (i := 143) rfl rfl), (tw_2 (i := 144) rfl rfl), by decide +kernel, _, _, _, rfl, (tw_2 (i := 145) rfl rfl)⟩, List.forall_mem_cons.mpr ⟨⟨xc_145, Or.inl (tw_5 (i := 197) rfl rfl), (tw_5 (i := 198) rfl rfl), by decide +kernel, _, _, _, rfl, (tw_5 (i := 199) rfl rfl)⟩, fun _ h => absurd h List.not_mem_nil⟩⟩⟩⟩⟩⟩⟩⟩⟩⟩⟩⟩
def mL_13_1 : List (Nat × Nat × Nat × Nat) := [(36, 7, 1, 0), (40, 164, 1, 0), (41, 8, 1, 0), (44, 165, 1, 0), (45, 9, 1, 1), (48, 166, 1, 1), (49, 10, 1, 2), (53, 167, 1, 2), (54, 11, 1, 0), (57, 168, 1, 0), (58, 12, 1, 0), (61, 169, 1, 0)]
theorem mK_13_1 : ∀ e ∈ mL_13_1, x_lok "PhaseReaderLaw" e := List.forall_mem_cons.mpr ⟨⟨xc_7, Or.inl (tw_4 (i := 160) rfl rfl), (tw_4 (i := 161) rfl rfl), by decide +kernel, _, _, _, rfl, (tw_4 (i := 162) rfl rfl)⟩, List.forall_mem_cons.mpr ⟨⟨xc_164, Or.inl (tw_6 (i := 179) rfl rfl), (tw_6 (i := 180) rfl rfl), by decide +kernel, _, _, _, rfl, (tw_6 (i := 181) rfl rfl)⟩, List.forall_mem_cons.mpr ⟨⟨xc_8, Or.inl (tw_4 (i := 164) rfl rfl), (tw_4 (i := 165) rfl rfl), by decide +kernel, _, _, _, rfl, (tw_4 (i := 166) rfl rfl)⟩, List.forall_mem_cons.mpr ⟨⟨xc_165, Or.inl (tw_6 (i := 183) rfl rfl), (tw_6 (i := 184) rfl rfl), by decide +kernel, _, _, _, rfl, (tw_6 (i := 185) rfl rfl)⟩, List.forall_mem_cons.mpr ⟨⟨xc_9, Or.inl (tw_4 (i := 168) rfl rfl), (tw_4 (i := 169) rfl rfl), by decide +kernel, _, _, _, rfl, (tw_4 (i := 170) rfl rfl)⟩, List.forall_mem_cons.mpr ⟨⟨xc_166, Or.inl (tw_6 (i := 187) rfl rfl), (tw_6 (i := 188) rfl rfl), by decide +kernel, _, _, _, rfl, (tw_6 (i := 189) rfl rfl)⟩, List.forall_mem_cons.mpr ⟨⟨xc_10, Or.inl (tw_4 (i := 177) rfl rfl), (tw_4 (i := 178) rfl rfl), by decide +kernel, _, _, _, rfl, (tw_4 (i := 179) rfl rfl)⟩, List.forall_mem_cons.mpr ⟨⟨xc_167, Or.inl (tw_6 (i := 191) rfl rfl), (tw_6 (i := 192) rfl rfl), by decide +kernel, _, _, _, rfl, (tw_6 (i := 193) rfl rfl)⟩, List.forall_mem_cons.mpr ⟨⟨xc_11, Or.inl (tw_4 (i := 182) rfl rfl), (tw_4 (i := 183) rfl rfl), by decide +kernel, _, _, _, rfl, (tw_4 (i := 184) rfl rfl)⟩, List.forall_mem_cons.mpr ⟨⟨xc_168, Or.inl (tw_6 (i := 195) rfl rfl), (tw_6 (i := 196) rfl rfl), by decide +kernel, _, _, _, rfl, (tw_6 (i := 197) rfl rfl)⟩, List.forall_mem_cons.mpr ⟨⟨xc_12, Or.inl (tw_4 (i := 186) rfl rfl), (tw_4 (i := 187) rfl rfl), by decide +kernel, _, _, _, rfl, (tw_4 (i := 188) rfl rfl)⟩, List.forall_mem_cons.mpr ⟨⟨xc_169, Or.inl (tw_6 (i := 199) rfl rfl), (tw_6 (i := 72) rfl rfl), by decide +kernel, _, _, _, rfl, (tw_6 (i := 73) rfl rfl)⟩, fun _ h => absurd h List.not_mem_nil⟩⟩⟩⟩⟩⟩⟩⟩⟩⟩⟩⟩
def mL_13_2 : List (Nat × Nat × Nat × Nat) := [(62, 13, 1, 0), (65, 170, 1, 0), (66, 14, 1, 2), (69, 171, 1, 2)]
theorem mK_13_2 : ∀ e ∈ mL_13_2, x_lok "PhaseReaderLaw" e := List.forall_mem_cons.mpr ⟨⟨xc_13, Or.inl (tw_4 (i := 190) rfl rfl), (tw_4 (i := 191) rfl rfl), by decide +kernel, _, _, _, rfl, (tw_4 (i := 192) rfl rfl)⟩, List.forall_mem_cons.mpr ⟨⟨xc_170, Or.inl (tw_6 (i := 200) rfl rfl), (tw_6 (i := 201) rfl rfl), by decide +kernel, _, _, _, rfl, (tw_6 (i := 202) rfl rfl)⟩, List.forall_mem_cons.mpr ⟨⟨xc_14, Or.inl (tw_4 (i := 194) rfl rfl), (tw_4 (i := 195) rfl rfl), by decide +kernel, _, _, _, rfl, (tw_4 (i := 196) rfl rfl)⟩, List.forall_mem_cons.mpr ⟨⟨xc_171, Or.inl (tw_6 (i := 204) rfl rfl), (tw_6 (i := 205) rfl rfl), by decide +kernel, _, _, _, rfl, (tw_6 (i := 206) rfl rfl)⟩, fun _ h => absurd h List.not_mem_nil⟩⟩⟩⟩
def mL_13 : List (Nat × Nat × Nat × Nat) := [(9, 1, 2, 0), (12, 111, 2, 0), (13, 2, 1, 1), (17, 112, 1, 1), (18, 3, 1, 1), (22, 113, 1, 1), (23, 4, 1, 0), (26, 114, 1, 0), (27, 5, 1, 1), (31, 115, 1, 1), (32, 6, 1, 1), (35, 145, 1, 1), (36, 7, 1, 0), (40, 164, 1, 0), (41, 8, 1, 0), (44, 165, 1, 0), (45, 9, 1, 1), (48, 166, 1, 1), (49, 10, 1, 2), (53, 167, 1, 2), (54, 11, 1, 0), (57, 168, 1, 0), (58, 12, 1, 0), (61, 169, 1, 0), (62, 13, 1, 0), (65, 170, 1, 0), (66, 14, 1, 2), (69, 171, 1, 2)]
theorem mK_13 : ∀ e ∈ mL_13, x_lok "PhaseReaderLaw" e := by
  have h : mL_13 = mL_13_0 ++ (mL_13_1 ++ (mL_13_2)) := rfl
  rw [h]
  exact List.forall_mem_append.mpr ⟨mK_13_0, List.forall_mem_append.mpr ⟨mK_13_1, mK_13_2⟩⟩
def mL_14_0 : List (Nat × Nat × Nat × Nat) := [(335, 176, 7, 0), (492, 177, 7, 0), (495, 179, 0, 2), (505, 172, 7, 0), (633, 175, 7, 2), (637, 181, 0, 4), (1059, 183, 0, 3)]
theorem mK_14_0 : ∀ e ∈ mL_14_0, x_lok "java/lang/String" e := List.forall_mem_cons.mpr ⟨⟨xc_176, Or.inl (tw_2 (i := 189) rfl rfl), (tw_2 (i := 190) rfl rfl), by decide +kernel, (tw_2 (i := 191) rfl rfl)⟩, List.forall_mem_cons.mpr ⟨⟨xc_177, Or.inl (tw_2 (i := 179) rfl rfl), (tw_2 (i := 180) rfl rfl), by decide +kernel, (tw_2 (i := 181) rfl rfl)⟩, List.forall_mem_cons.mpr ⟨⟨xc_179, Or.inl (tw_3 (i := 22) rfl rfl), (tw_3 (i := 23) rfl rfl), by decide +kernel⟩, List.forall_mem_cons.mpr ⟨⟨xc_172, Or.inl (tw_2 (i := 185) rfl rfl), (tw_2 (i := 186) rfl rfl), by decide +kernel, (tw_2 (i := 187) rfl rfl)⟩, List.forall_mem_cons.mpr ⟨⟨xc_175, Or.inl (tw_2 (i := 175) rfl rfl), (tw_2 (i := 176) rfl rfl), by decide +kernel, (tw_2 (i := 177) rfl rfl)⟩, List.forall_mem_cons.mpr ⟨⟨xc_181, Or.inl (tw_2 (i := 193) rfl rfl), (tw_2 (i := 194) rfl rfl), by decide +kernel⟩, List.forall_mem_cons.mpr ⟨⟨xc_183, Or.inl (tw_3 (i := 28) rfl rfl), (tw_3 (i := 29) rfl rfl), by decide +kernel⟩, fun _ h => absurd h List.not_mem_nil⟩⟩⟩⟩⟩⟩⟩
def mL_14 : List (Nat × Nat × Nat × Nat) := [(335, 176, 7, 0), (492, 177, 7, 0), (495, 179, 0, 2), (505, 172, 7, 0), (633, 175, 7, 2), (637, 181, 0, 4), (1059, 183, 0, 3)]
theorem mK_14 : ∀ e ∈ mL_14, x_lok "java/lang/String" e := by
  have h : mL_14 = mL_14_0 := rfl
  rw [h]
  exact mK_14_0
def mL_15_0 : List (Nat × Nat × Nat × Nat) := [(9, 178, 0, 2), (38, 0, 4, 2), (88, 180, 0, 1), (92, 0, 6, 2), (95, 182, 0, 4)]
theorem mK_15_0 : ∀ e ∈ mL_15_0, x_lok "java/lang/StringLatin1" e := List.forall_mem_cons.mpr ⟨⟨xc_178, Or.inl (tw_3 (i := 25) rfl rfl), (tw_3 (i := 26) rfl rfl), by decide +kernel⟩, List.forall_mem_cons.mpr ⟨⟨(tw_2 (i := 202) rfl rfl), (tw_2 (i := 203) rfl rfl), (tw_1 (i := 16) rfl rfl), (tw_2 (i := 204) rfl rfl)⟩, List.forall_mem_cons.mpr ⟨⟨xc_180, Or.inl (tw_2 (i := 196) rfl rfl), (tw_2 (i := 197) rfl rfl), by decide +kernel⟩, List.forall_mem_cons.mpr ⟨⟨(tw_2 (i := 199) rfl rfl), (tw_2 (i := 200) rfl rfl), (tw_1 (i := 16) rfl rfl), (tw_2 (i := 201) rfl rfl)⟩, List.forall_mem_cons.mpr ⟨⟨xc_182, Or.inl (tw_2 (i := 205) rfl rfl), (tw_2 (i := 206) rfl rfl), by decide +kernel⟩, fun _ h => absurd h List.not_mem_nil⟩⟩⟩⟩⟩
def mL_15 : List (Nat × Nat × Nat × Nat) := [(9, 178, 0, 2), (38, 0, 4, 2), (88, 180, 0, 1), (92, 0, 6, 2), (95, 182, 0, 4)]
theorem mK_15 : ∀ e ∈ mL_15, x_lok "java/lang/StringLatin1" e := by
  have h : mL_15 = mL_15_0 := rfl
  rw [h]
  exact mK_15_0
def mL_16 : List (Nat × Nat × Nat × Nat) := []
theorem mK_16 : ∀ e ∈ mL_16, x_lok "jdk/internal/util/Preconditions" e := fun _ h => absurd h List.not_mem_nil
def x_mL : List (List (Nat × Nat × Nat × Nat)) := [mL_0, mL_1, mL_2, mL_3, mL_4, mL_5, mL_6, mL_7, mL_8, mL_9, mL_10, mL_11, mL_12, mL_13, mL_14, mL_15, mL_16]
theorem x_mL_ok : ∀ (c : Nat) (l : List (Nat × Nat × Nat × Nat)), x_mL[c]? = some l → ∀ e ∈ l, x_lok (x_cn.getD c "") e
  | 0, _, h => by cases h; exact mK_0
  | 1, _, h => by cases h; exact mK_1
  | 2, _, h => by cases h; exact mK_2
  | 3, _, h => by cases h; exact mK_3
  | 4, _, h => by cases h; exact mK_4
  | 5, _, h => by cases h; exact mK_5
  | 6, _, h => by cases h; exact mK_6
  | 7, _, h => by cases h; exact mK_7
  | 8, _, h => by cases h; exact mK_8
  | 9, _, h => by cases h; exact mK_9
  | 10, _, h => by cases h; exact mK_10
  | 11, _, h => by cases h; exact mK_11
  | 12, _, h => by cases h; exact mK_12
  | 13, _, h => by cases h; exact mK_13
  | 14, _, h => by cases h; exact mK_14
  | 15, _, h => by cases h; exact mK_15
  | 16, _, h => by cases h; exact mK_16
  | _ + 17, _, h => by cases h
theorem x_mL_use {k a : Nat} {b : Nat × Nat × Nat} (h : (x_mL.getD (x_own k) []).lookup a = some b) : x_lok (x_y k).cls (a, b) := by
  have hm := lk_mem h
  cases hF : x_mL[x_own k]? with
  | none =>
    rw [List.getD_eq_getElem?_getD, hF] at hm
    exact absurd hm List.not_mem_nil
  | some l =>
    rw [List.getD_eq_getElem?_getD, hF] at hm
    have hm : (a, b) ∈ l := hm
    have hlt : x_own k ≠ 99 := by
      intro q
      rw [q] at hF
      cases hF
    have hin := x_ml_ok _ (x_me_in hlt)
    have hcn : (x_y k).cls = x_cn.getD (x_own k) "" := hin.1
    rw [hcn]
    exact x_mL_ok _ _ hF _ hm
def x_mth (k idx : Nat) : Option (Nat × Nat × Nat) := (x_mL.getD (x_own k) []).lookup idx
theorem x_cde_lt {kc : Nat} (h : x_nL kc ≤ 29 ∧ plainName (x_y kc).cls = true ∧ ((x_y kc).cls ≠ "java/lang/invoke/MethodHandle" ∧ (x_y kc).cls ≠ "java/lang/invoke/VarHandle")) {k idx : Nat} (h1 : x_cde kc) (h2 : x_lnk (x_y k).cls idx kc) : x_mok k idx kc := ⟨h1.1, h1.2, h.2.2, h.1, h.2.1, h2⟩
theorem x_cde_ok (kc : Nat) : x_nL kc ≤ 29 ∧ plainName (x_y kc).cls = true ∧ ((x_y kc).cls ≠ "java/lang/invoke/MethodHandle" ∧ (x_y kc).cls ≠ "java/lang/invoke/VarHandle") := by
  by_cases hk : x_own kc = 99
  · by_cases hl : kc < x_ml.length
    · have e1 : x_me kc ∈ x_ml := by
        have e1 : x_me kc = x_ml[kc] := by
          unfold x_me
          rw [List.getD_eq_getElem?_getD, List.getElem?_eq_getElem hl]
          rfl
        rw [e1]
        exact List.getElem_mem hl
      have h := x_ml_ok _ e1
      exact ⟨h.2.2.2.2.2, h.2.2.2.1, h.2.2.2.2.1⟩
    · have e1 : x_me kc = (x, code, 0, none, 99, false, []) := by
        unfold x_me
        rw [List.getD_eq_getElem?_getD, List.getElem?_eq_none (Nat.not_lt.mp hl)]
        rfl
      unfold x_nL x_y
      rw [e1]
      exact ⟨by decide, by decide +kernel, by decide +kernel⟩
  · have h := x_ml_ok _ (x_me_in hk)
    exact ⟨h.2.2.2.2.2, h.2.2.2.1, h.2.2.2.2.1⟩
theorem s_m0 {k idx kc n : Nat} (h : x_mth k idx = some (kc, 0, n)) : x_mok k idx kc ∧ Jvm.Cond.static (x_y kc) ∈ x_w ∧ x_nd kc n := by
  have h1 : x_cde kc ∧ x_lnk (x_y k).cls idx kc ∧ Jvm.Cond.static (x_y kc) ∈ x_w ∧ x_nd kc n := x_mL_use h
  exact ⟨x_cde_lt (x_cde_ok kc) h1.1 h1.2.1, h1.2.2⟩
theorem s_m1 {k idx kc n : Nat} (h : x_mth k idx = some (kc, 1, n)) : x_mok k idx kc ∧ Jvm.Cond.instanceMethod (x_y kc) ∈ x_w ∧ x_nd kc n ∧ ∃ C T N, x_cl[x_own kc]? = some (C, T, N) ∧ Jvm.Cond.selects C (x_y kc) (x_y kc) ∈ x_w := by
  have h1 : x_cde kc ∧ x_lnk (x_y k).cls idx kc ∧ Jvm.Cond.instanceMethod (x_y kc) ∈ x_w ∧ x_nd kc n ∧ ∃ C T N, x_cl[x_own kc]? = some (C, T, N) ∧ Jvm.Cond.selects C (x_y kc) (x_y kc) ∈ x_w := x_mL_use h
  exact ⟨x_cde_lt (x_cde_ok kc) h1.1 h1.2.1, h1.2.2⟩
theorem s_m2 {k idx kc n : Nat} (h : x_mth k idx = some (kc, 2, n)) : x_mok k idx kc ∧ Jvm.Cond.instanceMethod (x_y kc) ∈ x_w ∧ x_nd kc n ∧ (x_y kc).name = "<init>" ∧ x_rt kc = none := by
  have h1 : x_cde kc ∧ x_lnk (x_y k).cls idx kc ∧ Jvm.Cond.instanceMethod (x_y kc) ∈ x_w ∧ x_nd kc n ∧ (x_y kc).name = "<init>" ∧ x_rt kc = none := x_mL_use h
  exact ⟨x_cde_lt (x_cde_ok kc) h1.1 h1.2.1, h1.2.2⟩
theorem s_m3 {k idx kc n : Nat} (h : x_mth k idx = some (kc, 3, n)) : Jvm.Cond.methodLink (x_y k).cls idx objectInit ∈ x_w ∧ Jvm.Cond.instanceMethod objectInit ∈ x_w ∧ Jvm.Cond.code objectInit ⟨#[0xb1]⟩ 1 none ∈ x_w := x_mL_use h
theorem s_m4 {k idx kc n : Nat} (h : x_mth k idx = some (kc, 4, n)) : Jvm.Cond.methodLink (x_y k).cls idx Lib.Math.min.name ∈ x_w ∧ Jvm.Cond.static Lib.Math.min.name ∈ x_w ∧ Jvm.Cond.initialized "java/lang/Math" ∈ x_w ∧ Jvm.Cond.code Lib.Math.min.name Lib.Math.min.code 2 (some .int) ∈ x_w := x_mL_use h
theorem s_m6 {k idx kc n : Nat} (h : x_mth k idx = some (kc, 6, n)) : Jvm.Cond.methodLink (x_y k).cls idx Lib.Math.max.name ∈ x_w ∧ Jvm.Cond.static Lib.Math.max.name ∈ x_w ∧ Jvm.Cond.initialized "java/lang/Math" ∈ x_w ∧ Jvm.Cond.code Lib.Math.max.name Lib.Math.max.code 2 (some .int) ∈ x_w := x_mL_use h
theorem s_m7 {k idx kc n : Nat} (h : x_mth k idx = some (kc, 7, n)) : x_mok k idx kc ∧ Jvm.Cond.instanceMethod (x_y kc) ∈ x_w ∧ x_nd kc n ∧ Jvm.Cond.selects "java/lang/String" (x_y kc) (x_y kc) ∈ x_w := by
  have h1 : x_cde kc ∧ x_lnk (x_y k).cls idx kc ∧ Jvm.Cond.instanceMethod (x_y kc) ∈ x_w ∧ x_nd kc n ∧ Jvm.Cond.selects "java/lang/String" (x_y kc) (x_y kc) ∈ x_w := x_mL_use h
  exact ⟨x_cde_lt (x_cde_ok kc) h1.1 h1.2.1, h1.2.2⟩
theorem s_m8 {k idx kc n : Nat} (h : x_mth k idx = some (kc, 8, n)) : Jvm.Cond.methodLink (x_y k).cls idx arraycopyName ∈ x_w ∧ Jvm.Cond.native arraycopyName ∈ x_w ∧ Jvm.Cond.static arraycopyName ∈ x_w ∧ Jvm.Cond.initialized "java/lang/System" ∈ x_w := x_mL_use h
def x_cmax : Nat := 600000
def x_smax : Nat := 7302250
theorem x_cok9 : x_cmax ≤ room_1.cells ∧ x_smax ≤ room_1.slots := by decide
end
section
/-! A machine of our own, over cells that are numbered from 0: what an instruction does to locals, operand stack and cells. The numbers of classes, fields, methods and constants come from the tables of part 02. -/
abbrev x_C : Type := (Nat × vp_A) ⊕ (Nat × List Value)
abbrev x_H : Type := (Nat → x_C) × Nat × Nat
abbrev x_L : Type := Nat → Option Value
abbrev x_Z : Type := Nat × (Nat → Int32)
abbrev x_S : Type := Option x_Z
def x_up (h : x_H) (a : Nat) (e : x_C) : x_H := (va_up h.1 a e, h.2.1, h.2.2)
def x_nw (h : x_H) (e : x_C) (k : Nat) : x_H := (va_up h.1 h.2.1 e, h.2.1 + 1, h.2.2 + k)
def x_get (h : x_H) (a : Nat) : Option x_C := if a < h.2.1 then some (h.1 a) else none
def x_k2 : Option Value → Option Value
  | some (.long _) => none
  | some (.double _) => none
  | o => o
def x_s1 (lv : x_L) (i : Nat) (v : Value) : x_L := fun j => if j = i then some v else if j + 1 = i then x_k2 (lv j) else lv j
def x_s2 (lv : x_L) (i : Nat) (v : Value) : x_L := fun j => if j = i then some v else if j = i + 1 then none else if j + 1 = i then x_k2 (lv j) else lv j
def x_en : Nat → List Value → x_L
  | _, [] => fun _ => none
  | i, v :: vs => fun j => if j = i then some v else x_en (if v.category = 2 then i + 2 else i + 1) vs j
def x_cs (st : List Value) : Nat := (st.map fun v => v.category).sum
def x_cc (c : Jvm.ClassFile.Cond) (x y : Int32) : Bool := match c with
  | .eq => decide (x = y)
  | .ne => decide (¬ x = y)
  | .lt => decide (x < y)
  | .ge => decide (y ≤ x)
  | .gt => decide (y < x)
  | .le => decide (x ≤ y)
def x_in (i : Int32) (n : Nat) : Bool := !decide (i < 0) && decide (i.toNatClampNeg < n)
def x_fit (ty : FieldType) (v : Value) : Bool := match ty, v with
  | .int, .int _ => true
  | .long, .long _ => true
  | .boolean, .int x => decide (x = 0) || decide (x = 1)
  | .object _, .ref _ => true
  | .array _, .ref _ => true
  | _, _ => false
/-- what only the operand stack sees -/
def x_i2 (f : Int32 → Int32 → Value) : List Value → Option (List Value)
  | .int y :: .int x :: r => some (f x y :: r)
  | _ => none
def x_l2 (f : Int64 → Int64 → Value) : List Value → Option (List Value)
  | .long y :: .long x :: r => some (f x y :: r)
  | _ => none
def x_li (f : Int64 → Int32 → Value) : List Value → Option (List Value)
  | .int y :: .long x :: r => some (f x y :: r)
  | _ => none
def x_i1 (f : Int32 → Value) : List Value → Option (List Value)
  | .int x :: r => some (f x :: r)
  | _ => none
def x_l1 (f : Int64 → Value) : List Value → Option (List Value)
  | .long x :: r => some (f x :: r)
  | _ => none
def x_idv (f : Int32 → Int32 → Value) : List Value → Option (List Value)
  | .int y :: .int x :: r => if y = 0 then none else some (f x y :: r)
  | _ => none
def x_ldv (f : Int64 → Int64 → Value) : List Value → Option (List Value)
  | .long y :: .long x :: r => if y = 0 then none else some (f x y :: r)
  | _ => none
def x_dup : List Value → Option (List Value)
  | v :: r => if v.category = 1 then some (v :: v :: r) else none
  | _ => none
def x_pp : List Value → Option (List Value)
  | v :: r => if v.category = 1 then some r else none
  | _ => none
def x_d2 : List Value → Option (List Value)
  | v :: w :: r => if v.category = 1 ∧ w.category = 1 then some (v :: w :: v :: w :: r) else none
  | _ => none
def x_dx1 : List Value → Option (List Value)
  | v :: w :: r => if v.category = 1 ∧ w.category = 1 then some (v :: w :: v :: r) else none
  | _ => none
def x_dx2 : List Value → Option (List Value)
  | v :: w :: u :: r => if v.category = 1 ∧ w.category = 1 ∧ u.category = 1 then some (v :: w :: u :: v :: r) else none
  | _ => none
def x_pop (i : Instr) (st : List Value) : Option (List Value) := match i with
  | .iconst n => some (.int (Int32.ofInt n) :: st)
  | .bipush n => some (.int (Int8.ofInt n).toInt32 :: st)
  | .sipush n => some (.int (Int16.ofInt n).toInt32 :: st)
  | .lconst n => some (.long (Int64.ofNat (n : Nat)) :: st)
  | .iadd => x_i2 (fun x y => .int (x + y)) st
  | .isub => x_i2 (fun x y => .int (x - y)) st
  | .imul => x_i2 (fun x y => .int (x * y)) st
  | .iand => x_i2 (fun x y => .int (x &&& y)) st
  | .ior => x_i2 (fun x y => .int (x ||| y)) st
  | .ixor => x_i2 (fun x y => .int (x ^^^ y)) st
  | .ishl => x_i2 (fun x y => .int (x <<< (y &&& 31))) st
  | .ishr => x_i2 (fun x y => .int (x >>> (y &&& 31))) st
  | .iushr => x_i2 (fun x y => .int (x.toUInt32 >>> (y.toUInt32 &&& Int32.toUInt32 31)).toInt32) st
  | .idiv => x_idv (fun x y => .int (x / y)) st
  | .irem => x_idv (fun x y => .int (x - x / y * y)) st
  | .ineg => x_i1 (fun x => .int (-x)) st
  | .i2l => x_i1 (fun x => .long x.toInt64) st
  | .i2b => x_i1 (fun x => .int x.toInt8.toInt32) st
  | .i2c => x_i1 (fun x => .int (x.toUInt32 % 65536).toInt32) st
  | .l2i => x_l1 (fun x => .int x.toInt32) st
  | .ladd => x_l2 (fun x y => .long (x + y)) st
  | .lsub => x_l2 (fun x y => .long (x - y)) st
  | .lmul => x_l2 (fun x y => .long (x * y)) st
  | .land => x_l2 (fun x y => .long (x &&& y)) st
  | .lor => x_l2 (fun x y => .long (x ||| y)) st
  | .ldiv => x_ldv (fun x y => .long (x / y)) st
  | .lrem => x_ldv (fun x y => .long (x - x / y * y)) st
  | .lcmp => x_l2 (fun x y => .int (lg_cmp x y)) st
  | .lshl => x_li (fun x y => .long (x <<< (y.toInt64 &&& 63))) st
  | .lshr => x_li (fun x y => .long (x >>> (y.toInt64 &&& 63))) st
  | .lushr => x_li (fun x y => .long (x.toUInt64 >>> (y.toInt64.toUInt64 &&& Int64.toUInt64 63)).toInt64) st
  | .dup => x_dup st
  | .pop => x_pp st
  | .dup2 => x_d2 st
  | .dup_x1 => x_dx1 st
  | .dup_x2 => x_dx2 st
  | _ => none
/-- loads and stores of locals -/
def x_ldi (o : Option Value) (st : List Value) : Option (List Value) := match o with
  | some (.int x) => some (.int x :: st)
  | _ => none
def x_ldl (o : Option Value) (st : List Value) : Option (List Value) := match o with
  | some (.long x) => some (.long x :: st)
  | _ => none
def x_lda (o : Option Value) (st : List Value) : Option (List Value) := match o with
  | some (.ref x) => some (.ref x :: st)
  | some (.retAddr x) => if x < 2000 then some (.retAddr x :: st) else none
  | _ => none
def x_lod (i : Instr) (lv : x_L) (st : List Value) : Option (List Value) := match i with
  | .iload j => x_ldi (lv j) st
  | .iload_n j => x_ldi (lv (j : Nat)) st
  | .lload j => x_ldl (lv j) st
  | .lload_n j => x_ldl (lv (j : Nat)) st
  | .aload j => x_lda (lv j) st
  | .aload_n j => x_lda (lv (j : Nat)) st
  | _ => none
def x_sti (nL i : Nat) (lv : x_L) (st : List Value) : Option (x_L × List Value) := match st with
  | .int x :: r => if i < nL then some (x_s1 lv i (.int x), r) else none
  | _ => none
def x_stl (nL i : Nat) (lv : x_L) (st : List Value) : Option (x_L × List Value) := match st with
  | .long x :: r => if i + 1 < nL then some (x_s2 lv i (.long x), r) else none
  | _ => none
def x_sta (nL i : Nat) (lv : x_L) (st : List Value) : Option (x_L × List Value) := match st with
  | .ref x :: r => if i < nL then some (x_s1 lv i (.ref x), r) else none
  | _ => none
def x_inc (nL i : Nat) (n : Int) (lv : x_L) (st : List Value) : Option (x_L × List Value) := match lv i with
  | some (.int x) => if i < nL then some (x_s1 lv i (.int (x + Int32.ofInt n)), st) else none
  | _ => none
def x_sto (nL : Nat) (i : Instr) (lv : x_L) (st : List Value) : Option (x_L × List Value) := match i with
  | .istore j => x_sti nL j lv st
  | .istore_n j => x_sti nL (j : Nat) lv st
  | .lstore j => x_stl nL j lv st
  | .lstore_n j => x_stl nL (j : Nat) lv st
  | .astore j => x_sta nL j lv st
  | .astore_n j => x_sta nL (j : Nat) lv st
  | .iinc j n => x_inc nL j n lv st
  | _ => none
/-- jumps: where to, and the stack behind -/
def x_gt (off : Int) (pc : Nat) (st : List Value) : Option (Nat × List Value) := if 0 ≤ (pc : Int) + off then some (((pc : Int) + off).toNat, st) else none
def x_if (c : Jvm.ClassFile.Cond) (off : Int) (pc : Nat) (st : List Value) : Option (Nat × List Value) := match st with
  | .int x :: r => if 0 ≤ (pc : Int) + off then (if x_cc c x 0 = true then some (((pc : Int) + off).toNat, r) else some (pc + 3, r)) else none
  | _ => none
def x_ic (c : Jvm.ClassFile.Cond) (off : Int) (pc : Nat) (st : List Value) : Option (Nat × List Value) := match st with
  | .int y :: .int x :: r => if 0 ≤ (pc : Int) + off then (if x_cc c x y = true then some (((pc : Int) + off).toNat, r) else some (pc + 3, r)) else none
  | _ => none
def x_ts (d lo hi : Int) (offs : Array Int) (pc : Nat) (st : List Value) : Option (Nat × List Value) := match st with
  | .int x :: r => if x.toInt < lo ∨ hi < x.toInt then x_gt d pc r else (match offs[(x.toInt - lo).toNat]? with
    | some off => x_gt off pc r
    | none => none)
  | _ => none
def x_jmp (i : Instr) (pc : Nat) (st : List Value) : Option (Nat × List Value) := match i with
  | .goto off => x_gt off pc st
  | .ifCond c off => x_if c off pc st
  | .if_icmp c off => x_ic c off pc st
  | .tableswitch d lo hi offs => x_ts d lo hi offs pc st
  | _ => none
/-- reads of cells -/
def x_gf (k idx : Nat) (st : List Value) (h : x_H) : Option (List Value) := match st with
  | .ref a :: r => (match x_get h a with
    | some (.inr (ci, fs)) => (match x_fld k idx with
      | some (cj, sl, _, _) => if ci = cj then (match fs[sl]? with
        | some v => some (v :: r)
        | none => none) else none
      | none => none)
    | _ => none)
  | _ => none
def x_ia (sc : x_S) (st : List Value) (h : x_H) : Option (List Value) := match st with
  | .int j :: .ref a :: r => (match x_get h a with
    | some (.inl (t, n, .inl f)) => if t = 0 ∧ x_in j n = true then some (.int (f j.toNatClampNeg) :: r) else none
    | _ => none)
  | .int j :: .retAddr q :: r => (match sc with
    | some z => if q = 0 ∧ x_in j z.1 = true then some (.int (z.2 j.toNatClampNeg) :: r) else none
    | none => none)
  | _ => none
def x_la (st : List Value) (h : x_H) : Option (List Value) := match st with
  | .int j :: .ref a :: r => (match x_get h a with
    | some (.inl (t, n, .inr (.inl f))) => if t = 1 ∧ x_in j n = true then some (.long (f j.toNatClampNeg) :: r) else none
    | _ => none)
  | _ => none
def x_ca (tt : Nat) (st : List Value) (h : x_H) : Option (List Value) := match st with
  | .int j :: .ref a :: r => (match x_get h a with
    | some (.inl (t, n, .inl f)) => if t = tt ∧ x_in j n = true then some (.int (f j.toNatClampNeg) :: r) else none
    | _ => none)
  | _ => none
def x_aa (st : List Value) (h : x_H) : Option (List Value) := match st with
  | .int j :: .ref a :: r => (match x_get h a with
    | some (.inl (t, n, .inr (.inr (.inr (.inr f))))) => (match x_cp t with
      | some _ => if x_in j n = true then some (va_rf (f j.toNatClampNeg) :: r) else none
      | none => none)
    | _ => none)
  | _ => none
def x_al (sc : x_S) (st : List Value) (h : x_H) : Option (List Value) := match st with
  | .ref a :: r => (match x_get h a with
    | some (.inl (t, n, _)) => if t < x_ty.length then some (.int (Int32.ofNat n) :: r) else none
    | _ => none)
  | .retAddr q :: r => (match sc with
    | some z => if q = 0 then some (.int (Int32.ofNat z.1) :: r) else none
    | none => none)
  | _ => none
def x_lc (k idx : Nat) (st : List Value) : Option (List Value) := match x_con k idx with
  | some (.int v) => some (.int v :: st)
  | _ => none
def x_lcs (k idx : Nat) (st : List Value) : Option (List Value) := match x_con k idx with
  | some (.retAddr v) => some (.retAddr v :: st)
  | _ => none
/-- String constants: .retAddr (1 + i), their bytes .retAddr (1000 + i) -/
def x_sg (k idx : Nat) (st : List Value) : Option (List Value) := match st with
  | .retAddr q :: r => (match x_sfl k idx with
    | some c => if 1 ≤ q ∧ q < 1 + x_gn then (if c = 0 then some (.retAddr (999 + q) :: r) else some (.int 0 :: r)) else none
    | none => none)
  | _ => none
def x_bb (st : List Value) : Option (List Value) := match st with
  | .int j :: .retAddr q :: r => if 1000 ≤ q ∧ q < 1000 + x_gn ∧ x_in j (x_gl.getD (q - 1000) 0) = true then some (.int ((x_gb.getD (q - 1000) []).getD j.toNatClampNeg 0) :: r) else none
  | _ => none
def x_bl (st : List Value) : Option (List Value) := match st with
  | .retAddr q :: r => if 1000 ≤ q ∧ q < 1000 + x_gn then some (.int (Int32.ofNat (x_gl.getD (q - 1000) 0)) :: r) else none
  | _ => none
def x_gs (k idx : Nat) (st : List Value) : Option (List Value) := match x_stt k idx with
  | some c => if c = 0 then some (.int 1 :: st) else some (.retAddr 2000 :: st)
  | none => none
def x_or {α : Type} (a b : Option α) : Option α := match a with
  | some x => some x
  | none => b
def x_ll2 (k idx : Nat) (st : List Value) : Option (List Value) := match x_con k idx with
  | some (.long v) => some (.long v :: st)
  | _ => none
def x_rd (sc : x_S) (k : Nat) (i : Instr) (st : List Value) (h : x_H) : Option (List Value) := match i with
  | .getfield idx => x_or (x_gf k idx st h) (x_sg k idx st)
  | .getstatic idx => x_gs k idx st
  | .iaload => x_ia sc st h
  | .laload => x_la st h
  | .caload => x_ca 2 st h
  | .baload => x_or (x_ca 3 st h) (x_bb st)
  | .aaload => x_aa st h
  | .arraylength => x_or (x_al sc st h) (x_bl st)
  | .ldc idx => x_or (x_lc k idx st) (x_lcs k idx st)
  | .ldc_w idx => x_lc k idx st
  | .ldc2_w idx => x_ll2 k idx st
  | _ => none
/-- writes to cells -/
def x_pf (k idx : Nat) (st : List Value) (h : x_H) : Option (List Value × x_H) := match st with
  | v :: .ref a :: r => (match x_get h a with
    | some (.inr (ci, fs)) => (match x_fld k idx with
      | some (cj, sl, ty, fl) => if ci = cj ∧ x_fit ty v = true ∧ sl < fs.length ∧ fl < 2 then some (r, x_up h a (.inr (ci, fs.set sl v))) else none
      | none => none)
    | _ => none)
  | _ => none
def x_is (tt : Nat) (g : Int32 → Int32) (st : List Value) (h : x_H) : Option (List Value × x_H) := match st with
  | .int x :: .int j :: .ref a :: r => (match x_get h a with
    | some (.inl (t, n, .inl f)) => if t = tt ∧ x_in j n = true then some (r, x_up h a (.inl (tt, n, .inl (upd f j.toNatClampNeg (g x))))) else none
    | _ => none)
  | _ => none
def x_ls (st : List Value) (h : x_H) : Option (List Value × x_H) := match st with
  | .long x :: .int j :: .ref a :: r => (match x_get h a with
    | some (.inl (t, n, .inr (.inl f))) => if t = 1 ∧ x_in j n = true then some (r, x_up h a (.inl (1, n, .inr (.inl (vp_updL f j.toNatClampNeg x))))) else none
    | _ => none)
  | _ => none
def x_as (st : List Value) (h : x_H) : Option (List Value × x_H) := match st with
  | .ref v :: .int j :: .ref a :: r => (match x_get h a with
    | some (.inl (t, n, .inr (.inr (.inr (.inr f))))) => (match x_get h v with
      | some (.inr (ci, _)) => if x_in j n = true ∧ x_cp t = some ci then some (r, x_up h a (.inl (t, n, .inr (.inr (.inr (.inr (va_up f j.toNatClampNeg (some v)))))))) else none
      | _ => none)
    | _ => none)
  | _ => none
/-- System.arraycopy of ints, of longs -/
def x_aok2 (d kd : Nat) (r : List Value) (sp dp n : Int32) (n0 n1 : Nat) : Bool := decide (kd = 8) && (decide (¬ d = 0) && (decide (x_cs r ≤ 8) && (decide (¬ sp < 0) && (decide (¬ dp < 0) && (decide (¬ n < 0) && (decide (sp.toNatClampNeg + n.toNatClampNeg ≤ n0) && decide (dp.toNatClampNeg + n.toNatClampNeg ≤ n1)))))))
def x_aci (d k idx : Nat) (st : List Value) (h : x_H) : Option (List Value × x_H) := match st with
  | .int n :: .int dp :: .ref a1 :: .int sp :: .ref a0 :: r => (match x_mth k idx with
    | some (_, kd, _) => (match x_get h a0 with
      | some (.inl (t0, n0, .inl f)) => (match x_get h a1 with
        | some (.inl (t1, n1, .inl g)) => if t0 = 0 ∧ t1 = 0 ∧ x_aok2 d kd r sp dp n n0 n1 = true then some (r, x_up h a1 (.inl (0, n1, .inl (va_cpy f g sp.toNatClampNeg dp.toNatClampNeg n.toNatClampNeg)))) else none
        | _ => none)
      | _ => none)
    | _ => none)
  | _ => none
def x_acl (d k idx : Nat) (st : List Value) (h : x_H) : Option (List Value × x_H) := match st with
  | .int n :: .int dp :: .ref a1 :: .int sp :: .ref a0 :: r => (match x_mth k idx with
    | some (_, kd, _) => (match x_get h a0 with
      | some (.inl (t0, n0, .inr (.inl f))) => (match x_get h a1 with
        | some (.inl (t1, n1, .inr (.inl g))) => if t0 = 1 ∧ t1 = 1 ∧ x_aok2 d kd r sp dp n n0 n1 = true then some (r, x_up h a1 (.inl (1, n1, .inr (.inl (va_cpy f g sp.toNatClampNeg dp.toNatClampNeg n.toNatClampNeg))))) else none
        | _ => none)
      | _ => none)
    | _ => none)
  | _ => none
def x_wr (d k : Nat) (i : Instr) (st : List Value) (h : x_H) : Option (List Value × x_H) := match i with
  | .invokestatic idx => x_or (x_aci d k idx st h) (x_acl d k idx st h)
  | .putfield idx => x_pf k idx st h
  | .iastore => x_is 0 (fun x => x) st h
  | .lastore => x_ls st h
  | .castore => x_is 2 (vp_nar .char) st h
  | .bastore => x_is 3 (vp_nar .boolean) st h
  | .aastore => x_as st h
  | _ => none
/-- new cells -/
def x_a0 (a : Jvm.ClassFile.ArrayType) (n : Nat) : Option x_C := match a with
  | .int => some (.inl (0, n, .inl (fun _ => 0)))
  | .long => some (.inl (1, n, .inr (.inl (fun _ => 0))))
  | .char => some (.inl (2, n, .inl (fun _ => 0)))
  | .boolean => some (.inl (3, n, .inl (fun _ => 0)))
  | _ => none
def x_no (k idx : Nat) (st : List Value) (h : x_H) : Option (List Value × x_H) := match x_cls k idx with
  | some (ci, fs) => some (.ref h.2.1 :: st, x_nw h (.inr (ci, fs)) fs.length)
  | none => none
def x_na (ty : Jvm.ClassFile.ArrayType) (st : List Value) (h : x_H) : Option (List Value × x_H) := match st with
  | .int n :: r => if n < 0 ∨ 65536 < n.toNatClampNeg then none else (match x_a0 ty n.toNatClampNeg with
    | some e => some (.ref h.2.1 :: r, x_nw h e n.toNatClampNeg)
    | none => none)
  | _ => none
def x_nr (k idx : Nat) (st : List Value) (h : x_H) : Option (List Value × x_H) := match st with
  | .int n :: r => if n < 0 ∨ 65536 < n.toNatClampNeg then none else (match x_anw k idx with
    | some t => some (.ref h.2.1 :: r, x_nw h (.inl (t, n.toNatClampNeg, .inr (.inr (.inr (.inr (fun _ => none)))))) n.toNatClampNeg)
    | none => none)
  | _ => none
def x_mk (k : Nat) (i : Instr) (st : List Value) (h : x_H) : Option (List Value × x_H) := match i with
  | .new idx => x_no k idx st h
  | .newarray ty => x_na ty st h
  | .anewarray idx => x_nr k idx st h
  | _ => none
/-- ends -/
def x_ri (rt : Option FieldType) (st : List Value) : Option (Option Value) := match st with
  | [.int x] => (match rt with
    | some .int => some (some (.int x))
    | some .boolean => if x &&& 1 = x then some (some (.int x)) else none
    | some .char => if vp_nar .char x = x then some (some (.int x)) else none
    | some .byte => if vp_nar .byte x = x then some (some (.int x)) else none
    | _ => none)
  | _ => none
def x_rl (rt : Option FieldType) (st : List Value) : Option (Option Value) := match st with
  | [.long x] => (match rt with
    | some .long => some (some (.long x))
    | _ => none)
  | _ => none
def x_ra (rt : Option FieldType) (st : List Value) : Option (Option Value) := match st with
  | [.ref a] => (match rt with
    | some (.object _) => some (some (.ref a))
    | some (.array _) => some (some (.ref a))
    | _ => none)
  | _ => none
def x_rv (rt : Option FieldType) (st : List Value) : Option (Option Value) := match st with
  | [] => (match rt with
    | none => some none
    | _ => none)
  | _ => none
def x_end (k : Nat) (i : Instr) (st : List Value) : Option (Option Value) := match i with
  | .ireturn => x_ri (x_rt k) st
  | .lreturn => x_rl (x_rt k) st
  | .areturn => x_ra (x_rt k) st
  | .return_ => x_rv (x_rt k) st
  | _ => none
/-- calls: the callee, its arguments, what stays on the stack -/
def x_c0 (k idx : Nat) (st : List Value) : Option (Nat × List Value × List Value) := match x_mth k idx with
  | some (kc, kd, n) => if kd = 0 ∧ n ≤ st.length ∧ x_cs (st.drop n) ≤ 8 then some (kc, (st.take n).reverse, st.drop n) else none
  | _ => none
def x_c1 (k idx : Nat) (st : List Value) (h : x_H) : Option (Nat × List Value × List Value) := match x_mth k idx with
  | some (kc, kd, n) => if kd = 1 ∧ n ≤ st.length then (match st.drop n with
    | .ref a :: r => (match x_get h a with
      | some (.inr (ci, _)) => if ci = x_own kc ∧ x_cs r ≤ 8 then some (kc, .ref a :: (st.take n).reverse, r) else none
      | _ => none)
    | _ => none) else none
  | _ => none
def x_c2 (k idx : Nat) (st : List Value) : Option (Nat × List Value × List Value) := match x_mth k idx with
  | some (kc, kd, n) => if kd = 2 ∧ n ≤ st.length then (match st.drop n with
    | .ref a :: r => if x_cs r ≤ 8 then some (kc, .ref a :: (st.take n).reverse, r) else none
    | _ => none) else none
  | _ => none
def x_c7 (k idx : Nat) (st : List Value) : Option (Nat × List Value × List Value) := match x_mth k idx with
  | some (kc, kd, n) => if kd = 7 ∧ n ≤ st.length then (match st.drop n with
    | .retAddr q :: r => if 1 ≤ q ∧ q < 1 + x_gn ∧ x_cs r ≤ 8 then some (kc, .retAddr q :: (st.take n).reverse, r) else none
    | _ => none) else none
  | _ => none
def x_cal (k : Nat) (i : Instr) (st : List Value) (h : x_H) : Option (Nat × List Value × List Value) := match i with
  | .invokestatic idx => x_c0 k idx st
  | .invokevirtual idx => x_or (x_c1 k idx st h) (x_c7 k idx st)
  | .invokespecial idx => x_c2 k idx st
  | _ => none
/-- calls that are done at once: Object's constructor, Math.min -/
def x_oi (d k idx : Nat) (st : List Value) : Option (List Value) := match x_mth k idx with
  | some (_, kd, _) => (match st with
    | .ref _ :: r => if kd = 3 ∧ ¬ d = 0 ∧ x_cs r ≤ 8 then some r else none
    | _ => none)
  | _ => none
def x_mm (d k idx : Nat) (st : List Value) : Option (List Value) := match x_mth k idx with
  | some (_, kd, _) => (match st with
    | .int y :: .int x :: r => if kd = 4 ∧ ¬ d = 0 ∧ x_cs r ≤ 8 then some (.int (if y < x then y else x) :: r) else none
    | _ => none)
  | _ => none
def x_mx (d k idx : Nat) (st : List Value) : Option (List Value) := match x_mth k idx with
  | some (_, kd, _) => (match st with
    | .int y :: .int x :: r => if kd = 6 ∧ ¬ d = 0 ∧ x_cs r ≤ 8 then some (.int (if x < y then y else x) :: r) else none
    | _ => none)
  | _ => none
def x_now (d k : Nat) (i : Instr) (st : List Value) : Option (List Value) := match i with
  | .invokespecial idx => x_oi d k idx st
  | .invokestatic idx => x_or (x_mm d k idx st) (x_mx d k idx st)
  | _ => none
/-- one instruction that stays in the method -/
def x_one (sc : x_S) (d k : Nat) (i : Instr) (pc : Nat) (lv : x_L) (st : List Value) (h : x_H) : Option (Nat × x_L × List Value × x_H) :=
  match x_pop i st with
  | some st' => some (pc + x_len i, lv, st', h)
  | none => match x_lod i lv st with
    | some st' => some (pc + x_len i, lv, st', h)
    | none => match x_sto (x_nL k) i lv st with
      | some (lv', st') => some (pc + x_len i, lv', st', h)
      | none => match x_jmp i pc st with
        | some (pc', st') => some (pc', lv, st', h)
        | none => match x_rd sc k i st h with
          | some st' => some (pc + x_len i, lv, st', h)
          | none => match x_wr d k i st h with
            | some (st', h') => some (pc + x_len i, lv, st', h')
            | none => match x_mk k i st h with
              | some (st', h') => some (pc + x_len i, lv, st', h')
              | none => match x_now d k i st with
                | some st' => some (pc + 3, lv, st', h)
                | none => none
abbrev x_F : Type := Nat → Nat → Nat → x_L → List Value → x_H → Option (Option Value × x_H)
def x_bd (sc : x_S) (F : x_F) (d k pc : Nat) (lv : x_L) (st : List Value) (h : x_H) : Option (Option Value × x_H) := match x_ins k pc with
  | none => none
  | some i => match x_one sc d k i pc lv st h with
    | some (pc', lv', st', h') => F d k pc' lv' st' h'
    | none => match x_end k i st with
      | some r => some (r, h)
      | none => match x_cal k i st h with
        | some (kc, as, r) => if x_cs as ≤ x_nL kc then (match d with
          | 0 => none
          | d' + 1 => match F d' kc 0 (x_en 0 as) [] h with
            | some (v, h') => F (d' + 1) k (pc + 3) lv (v.toList ++ r) h'
            | none => none) else none
        | none => none
def x_run (sc : x_S) : Nat → x_F
  | 0 => fun _ _ _ _ _ _ => none
  | f + 1 => fun d k pc lv st h => x_bd sc (x_run sc f) d k pc lv st h
end
section
/-! What the machine of part 03 does, the model does: cells 0, 1, .. of ours stand at b, b + 1, .. of the heap; .retAddr j of ours stands for the cell kad j, which is older. -/
def x_V (b : Nat) (kad : Nat → Option Nat) : Value → Value
  | .ref a => .ref (b + a)
  | .retAddr j => va_rf (kad j)
  | v => v
def x_A (b : Nat) : ((Nat → Int32) ⊕ (Nat → Int64) ⊕ (Nat → UInt32) ⊕ (Nat → UInt64) ⊕ (Nat → Option Nat)) → ((Nat → Int32) ⊕ (Nat → Int64) ⊕ (Nat → UInt32) ⊕ (Nat → UInt64) ⊕ (Nat → Option Nat))
  | .inr (.inr (.inr (.inr f))) => .inr (.inr (.inr (.inr (fun j => (f j).map (fun a => b + a)))))
  | x => x
def x_E (dA : Nat → ClassId) (b : Nat) (kad : Nat → Option Nat) : x_C → va_E
  | .inl (t, n, x) => .inl (dA t, n, x_A b x)
  | .inr (ci, fs) => .inr (ci, fs.map (x_V b kad))
def x_ws (dA : Nat → ClassId) (b : Nat) (kad : Nat → Option Nat) (h : x_H) : va_W := (List.range h.2.1).map (fun k => (b + k, x_E dA b kad (h.1 k)))
def x_tys (dA : Nat → ClassId) : List (ClassId × FieldType) := (List.range x_ty.length).map (fun t => (dA t, x_ty.getD t .int))
def x_LV (b : Nat) (kad : Nat → Option Nat) (ls : Array Slot) (nL : Nat) (lv : x_L) : Prop := ls.size = nL ∧ lv_wf ls ∧ ∀ (i : Nat) (v : Value), lv i = some v → ls[i]? = some (.val (x_V b kad v))
theorem x_rf_cat (r : Option Nat) : (va_rf r).category = 1 := by cases r <;> rfl
theorem x_V_cat (b : Nat) (kad : Nat → Option Nat) (v : Value) : (x_V b kad v).category = v.category := by
  cases v <;> first
    | rfl
    | exact x_rf_cat _
theorem x_V_rf (b : Nat) (kad : Nat → Option Nat) (r : Option Nat) : x_V b kad (va_rf r) = va_rf (r.map (fun a => b + a)) := by cases r <;> rfl
theorem x_cs_map (b : Nat) (kad : Nat → Option Nat) (st : List Value) : ((st.map (x_V b kad)).map fun v => v.category).sum = x_cs st := by
  unfold x_cs
  rw [List.map_map]
  congr 1
  apply List.map_congr_left
  intro v _
  exact x_V_cat b kad v
theorem x_in_vp {i : Int32} {n : Nat} (h : x_in i n = true) : vp_in i n := by
  unfold x_in at h
  simp only [Bool.and_eq_true, Bool.not_eq_true', decide_eq_false_iff_not, decide_eq_true_eq] at h
  intro q
  rcases q with q | q
  · exact h.1 q
  · omega
-- the list of cells
theorem x_ws_get {dA : Nat → ClassId} {b : Nat} {kad : Nat → Option Nat} {h : x_H} {a : Nat} (ha : a < h.2.1) : (x_ws dA b kad h)[a]? = some (b + a, x_E dA b kad (h.1 a)) := by
  unfold x_ws
  rw [List.getElem?_map, List.getElem?_range ha]
  rfl
theorem x_ws_inv {dA : Nat → ClassId} {b : Nat} {kad : Nat → Option Nat} {h : x_H} {a : Nat} {q : Nat × va_E} (hq : (x_ws dA b kad h)[a]? = some q) : a < h.2.1 ∧ q = (b + a, x_E dA b kad (h.1 a)) := by
  have hl : a < h.2.1 := by
    have := (List.getElem?_eq_some_iff.mp hq).1
    simpa [x_ws] using this
  refine ⟨hl, ?_⟩
  rw [x_ws_get hl] at hq
  exact (Option.some.inj hq).symm
theorem x_ws_D {dA : Nat → ClassId} {b : Nat} {kad : Nat → Option Nat} {h : x_H} : va_D (fun q => b ≤ q) (x_ws dA b kad h) := by
  refine ⟨fun i j p q hp hq he => ?_, fun k q hq => ?_⟩
  · obtain ⟨-, rfl⟩ := x_ws_inv hp
    obtain ⟨-, rfl⟩ := x_ws_inv hq
    have he : b + i = b + j := he
    omega
  · obtain ⟨-, rfl⟩ := x_ws_inv hq
    exact Nat.le_add_right _ _
theorem x_ws_len {dA : Nat → ClassId} {b : Nat} {kad : Nat → Option Nat} {h : x_H} : (x_ws dA b kad h).length = h.2.1 := by simp [x_ws]
theorem x_ws_up {dA : Nat → ClassId} {b : Nat} {kad : Nat → Option Nat} {h : x_H} {a : Nat} {e : x_C} (ha : a < h.2.1) : (x_ws dA b kad h).set a (b + a, x_E dA b kad e) = x_ws dA b kad (x_up h a e) := by
  apply List.ext_getElem?
  intro i
  rw [List.getElem?_set]
  by_cases hi : i < h.2.1
  · rw [x_ws_get (h := x_up h a e) (a := i) hi, x_ws_get hi, x_ws_len]
    by_cases e1 : a = i
    · subst e1
      simp [x_up, va_up, ha]
    · have e2 : ¬ i = a := fun q => e1 q.symm
      simp [e1, x_up, va_up, e2]
  · have h1 : (x_ws dA b kad (x_up h a e))[i]? = none := by
      apply List.getElem?_eq_none
      rw [x_ws_len]
      exact Nat.not_lt.mp hi
    have h2 : (x_ws dA b kad h)[i]? = none := by
      apply List.getElem?_eq_none
      rw [x_ws_len]
      exact Nat.not_lt.mp hi
    rw [h1, h2]
    have e1 : ¬ a = i := by omega
    simp [e1]
theorem x_ws_nw {dA : Nat → ClassId} {b : Nat} {kad : Nat → Option Nat} {h : x_H} {e : x_C} {k : Nat} : x_ws dA b kad (x_nw h e k) = x_ws dA b kad h ++ [(b + h.2.1, x_E dA b kad e)] := by
  unfold x_ws x_nw
  simp only
  rw [List.range_succ, List.map_append]
  congr 1
  · apply List.map_congr_left
    intro i hi
    have hi : i < h.2.1 := List.mem_range.mp hi
    have e2 : ¬ i = h.2.1 := by omega
    simp [va_up, e2]
  · simp [va_up]
theorem x_get_inv {h : x_H} {a : Nat} {e : x_C} (q : x_get h a = some e) : a < h.2.1 ∧ h.1 a = e := by
  unfold x_get at q
  split at q
  · rename_i h1
    exact ⟨h1, Option.some.inj q⟩
  · cases q
theorem x_get_ws {dA : Nat → ClassId} {b : Nat} {kad : Nat → Option Nat} {h : x_H} {a : Nat} {e : x_C} (q : x_get h a = some e) : (x_ws dA b kad h)[a]? = some (b + a, x_E dA b kad e) := by
  obtain ⟨h1, rfl⟩ := x_get_inv q
  exact x_ws_get h1
theorem x_tys_get {dA : Nat → ClassId} {t : Nat} {ty : FieldType} (ht : x_ty[t]? = some ty) : (x_tys dA)[t]? = some (dA t, ty) := by
  have hl : t < x_ty.length := (List.getElem?_eq_some_iff.mp ht).1
  unfold x_tys
  rw [List.getElem?_map, List.getElem?_range hl]
  have h1 : x_ty.getD t .int = ty := by rw [List.getD_eq_getElem?_getD, ht]; rfl
  show some (dA t, x_ty.getD t .int) = some (dA t, ty)
  rw [h1]
-- locals
def x_ll (b : Nat) (kad : Nat → Option Nat) (nL : Nat) (lv : x_L) : List (Nat × Value) := (List.range nL).filterMap (fun j => (lv j).map (fun v => (j, x_V b kad v)))
theorem x_ll_mem {b : Nat} {kad : Nat → Option Nat} {nL j : Nat} {lv : x_L} {v : Value} (hj : j < nL) (h : lv j = some v) : (j, x_V b kad v) ∈ x_ll b kad nL lv := by
  unfold x_ll
  rw [List.mem_filterMap]
  exact ⟨j, List.mem_range.mpr hj, by rw [h]; rfl⟩
theorem x_LV_has {b : Nat} {kad : Nat → Option Nat} {ls : Array Slot} {nL : Nat} {lv : x_L} (h : x_LV b kad ls nL lv) : lv_has ls nL (x_ll b kad nL lv) := by
  refine ⟨h.1, h.2.1, fun q hq => ?_⟩
  unfold x_ll at hq
  rw [List.mem_filterMap] at hq
  obtain ⟨j, -, hj⟩ := hq
  cases hv : lv j with
  | none => rw [hv] at hj; cases hj
  | some v =>
    rw [hv] at hj
    cases hj
    exact h.2.2 j v hv
theorem x_LV_lt {b : Nat} {kad : Nat → Option Nat} {ls : Array Slot} {nL : Nat} {lv : x_L} (h : x_LV b kad ls nL lv) {j : Nat} {v : Value} (hj : lv j = some v) : j < nL := by
  have := lv_lt (h.2.2 j v hj)
  rw [h.1] at this
  exact this
theorem x_k2_inv {o : Option Value} {v : Value} (h : x_k2 o = some v) : o = some v ∧ v.category = 1 := by
  unfold x_k2 at h
  split at h
  · cases h
  · cases h
  · rename_i h1 h2
    subst h
    refine ⟨rfl, ?_⟩
    cases v <;> first | rfl | exact absurd rfl (h1 _) | exact absurd rfl (h2 _)
theorem x_LV_s1 {b : Nat} {kad : Nat → Option Nat} {ls ls' : Array Slot} {nL i : Nat} {lv : x_L} {v : Value} (h : x_LV b kad ls nL lv) (h' : lv_has ls' nL ((i, x_V b kad v) :: (x_ll b kad nL lv).filter (fun q => !(q.1 == i) && !(q.1 + 1 == i && q.2.category == 2)))) : x_LV b kad ls' nL (x_s1 lv i v) := by
  refine ⟨h'.1, h'.2.1, fun j w hw => ?_⟩
  unfold x_s1 at hw
  by_cases e1 : j = i
  · rw [if_pos e1] at hw
    cases hw
    subst e1
    exact h'.2.2 _ List.mem_cons_self
  · rw [if_neg e1] at hw
    by_cases e2 : j + 1 = i
    · rw [if_pos e2] at hw
      obtain ⟨e3, e4⟩ := x_k2_inv hw
      refine h'.2.2 (j, x_V b kad w) (List.mem_cons_of_mem _ (List.mem_filter.mpr ⟨x_ll_mem (x_LV_lt h e3) e3, ?_⟩))
      simp [e1, x_V_cat, e4]
    · rw [if_neg e2] at hw
      refine h'.2.2 (j, x_V b kad w) (List.mem_cons_of_mem _ (List.mem_filter.mpr ⟨x_ll_mem (x_LV_lt h hw) hw, ?_⟩))
      simp [e1, e2]
theorem x_LV_s2 {b : Nat} {kad : Nat → Option Nat} {ls ls' : Array Slot} {nL i : Nat} {lv : x_L} {v : Value} (h : x_LV b kad ls nL lv) (h' : lv_has ls' nL ((i, x_V b kad v) :: (x_ll b kad nL lv).filter (fun q => !(q.1 == i) && (!(q.1 == i + 1) && !(q.1 + 1 == i && q.2.category == 2))))) : x_LV b kad ls' nL (x_s2 lv i v) := by
  refine ⟨h'.1, h'.2.1, fun j w hw => ?_⟩
  unfold x_s2 at hw
  by_cases e1 : j = i
  · rw [if_pos e1] at hw
    cases hw
    subst e1
    exact h'.2.2 _ List.mem_cons_self
  · rw [if_neg e1] at hw
    by_cases e0 : j = i + 1
    · rw [if_pos e0] at hw
      cases hw
    · rw [if_neg e0] at hw
      by_cases e2 : j + 1 = i
      · rw [if_pos e2] at hw
        obtain ⟨e3, e4⟩ := x_k2_inv hw
        refine h'.2.2 (j, x_V b kad w) (List.mem_cons_of_mem _ (List.mem_filter.mpr ⟨x_ll_mem (x_LV_lt h e3) e3, ?_⟩))
        simp [e1, e0, x_V_cat, e4]
      · rw [if_neg e2] at hw
        refine h'.2.2 (j, x_V b kad w) (List.mem_cons_of_mem _ (List.mem_filter.mpr ⟨x_ll_mem (x_LV_lt h hw) hw, ?_⟩))
        simp [e1, e0, e2]
theorem x_en_mem : ∀ (vs : List Value) (i j : Nat) (v : Value), x_en i vs j = some v → (j, v) ∈ lv_args i vs
  | [], _, _, _, h => by cases h
  | w :: vs, i, j, v, h => by
    unfold x_en at h
    unfold lv_args
    by_cases e1 : j = i
    · rw [if_pos e1] at h
      cases h
      rw [e1]
      exact List.mem_cons_self
    · rw [if_neg e1] at h
      exact List.mem_cons_of_mem _ (x_en_mem vs _ j v h)
theorem x_args_map (b : Nat) (kad : Nat → Option Nat) : ∀ (vs : List Value) (i j : Nat) (v : Value), (j, v) ∈ lv_args i vs → (j, x_V b kad v) ∈ lv_args i (vs.map (x_V b kad))
  | [], _, _, _, h => by cases h
  | w :: vs, i, j, v, h => by
    unfold lv_args at h
    rw [List.map_cons]
    unfold lv_args
    rw [x_V_cat]
    rcases List.mem_cons.mp h with h | h
    · cases h
      exact List.mem_cons_self
    · exact List.mem_cons_of_mem _ (x_args_map b kad vs _ j v h)
theorem x_LV_en {b : Nat} {kad : Nat → Option Nat} {vs : List Value} {n : Nat} {ls : Array Slot} (h : lv_has ls n (lv_args 0 (vs.map (x_V b kad)))) : x_LV b kad ls n (x_en 0 vs) :=
  ⟨h.1, h.2.1, fun i v hv => h.2.2 (i, x_V b kad v) (x_args_map b kad vs 0 i v (x_en_mem vs 0 i v hv))⟩
-- one instruction: the operand stack alone
theorem x_i2_inv {f : Int32 → Int32 → Value} {st st' : List Value} (h : x_i2 f st = some st') : ∃ (x y : Int32) (r : List Value), st = .int y :: .int x :: r ∧ st' = f x y :: r := by
  unfold x_i2 at h
  split at h
  · cases h
    exact ⟨_, _, _, rfl, rfl⟩
  · cases h
theorem x_l2_inv {f : Int64 → Int64 → Value} {st st' : List Value} (h : x_l2 f st = some st') : ∃ (x y : Int64) (r : List Value), st = .long y :: .long x :: r ∧ st' = f x y :: r := by
  unfold x_l2 at h
  split at h
  · cases h
    exact ⟨_, _, _, rfl, rfl⟩
  · cases h
theorem x_i1_inv {f : Int32 → Value} {st st' : List Value} (h : x_i1 f st = some st') : ∃ (x : Int32) (r : List Value), st = .int x :: r ∧ st' = f x :: r := by
  unfold x_i1 at h
  split at h
  · cases h
    exact ⟨_, _, rfl, rfl⟩
  · cases h
theorem x_l1_inv {f : Int64 → Value} {st st' : List Value} (h : x_l1 f st = some st') : ∃ (x : Int64) (r : List Value), st = .long x :: r ∧ st' = f x :: r := by
  unfold x_l1 at h
  split at h
  · cases h
    exact ⟨_, _, rfl, rfl⟩
  · cases h
theorem x_li_inv {f : Int64 → Int32 → Value} {st st' : List Value} (h : x_li f st = some st') : ∃ (x : Int64) (y : Int32) (r : List Value), st = .int y :: .long x :: r ∧ st' = f x y :: r := by
  unfold x_li at h
  split at h
  · cases h
    exact ⟨_, _, _, rfl, rfl⟩
  · cases h
theorem x_idv_inv {f : Int32 → Int32 → Value} {st st' : List Value} (h : x_idv f st = some st') : ∃ (x y : Int32) (r : List Value), st = .int y :: .int x :: r ∧ ¬ y = 0 ∧ st' = f x y :: r := by
  unfold x_idv at h
  split at h
  · split at h
    · cases h
    · rename_i hy
      cases h
      exact ⟨_, _, _, rfl, hy, rfl⟩
  · cases h
theorem x_ldv_inv {f : Int64 → Int64 → Value} {st st' : List Value} (h : x_ldv f st = some st') : ∃ (x y : Int64) (r : List Value), st = .long y :: .long x :: r ∧ ¬ y = 0 ∧ st' = f x y :: r := by
  unfold x_ldv at h
  split at h
  · split at h
    · cases h
    · rename_i hy
      cases h
      exact ⟨_, _, _, rfl, hy, rfl⟩
  · cases h
theorem x_dup_inv {st st' : List Value} (h : x_dup st = some st') : ∃ (v : Value) (r : List Value), st = v :: r ∧ v.category = 1 ∧ st' = v :: v :: r := by
  unfold x_dup at h
  split at h
  · split at h
    · rename_i hy
      cases h
      exact ⟨_, _, rfl, hy, rfl⟩
    · cases h
  · cases h
theorem x_pp_inv {st st' : List Value} (h : x_pp st = some st') : ∃ (v : Value) (r : List Value), st = v :: r ∧ v.category = 1 ∧ st' = r := by
  unfold x_pp at h
  split at h
  · split at h
    · rename_i hy
      cases h
      exact ⟨_, _, rfl, hy, rfl⟩
    · cases h
  · cases h
theorem x_d2_inv {st st' : List Value} (h : x_d2 st = some st') : ∃ (v w : Value) (r : List Value), st = v :: w :: r ∧ v.category = 1 ∧ w.category = 1 ∧ st' = v :: w :: v :: w :: r := by
  unfold x_d2 at h
  split at h
  · split at h
    · rename_i hy
      cases h
      exact ⟨_, _, _, rfl, hy.1, hy.2, rfl⟩
    · cases h
  · cases h
theorem x_dx1_inv {st st' : List Value} (h : x_dx1 st = some st') : ∃ (v w : Value) (r : List Value), st = v :: w :: r ∧ v.category = 1 ∧ w.category = 1 ∧ st' = v :: w :: v :: r := by
  unfold x_dx1 at h
  split at h
  · split at h
    · rename_i hy
      cases h
      exact ⟨_, _, _, rfl, hy.1, hy.2, rfl⟩
    · cases h
  · cases h
theorem x_dx2_inv {st st' : List Value} (h : x_dx2 st = some st') : ∃ (v w u : Value) (r : List Value), st = v :: w :: u :: r ∧ v.category = 1 ∧ w.category = 1 ∧ u.category = 1 ∧ st' = v :: w :: u :: v :: r := by
  unfold x_dx2 at h
  split at h
  · split at h
    · rename_i hy
      cases h
      exact ⟨_, _, _, _, rfl, hy.1, hy.2.1, hy.2.2, rfl⟩
    · cases h
  · cases h
section XS
variable {p : Program} {l : Launch} {e : Env} {R : Room} {s : State} {m : MethodId} {args : Array Value} {below : List Frame} {meth : Method} {c : Code} {H : Heap} {locs : List Loc} {cells slots : Nat} {Q : State → Prop}
variable {cc : ByteArray} {pc : Nat} {ls : Array Slot} {b : Nat} {kad : Nat → Option Nat}
set_option maxHeartbeats 4000000 in
theorem x_pop_ok (hexec : p.tables.exec = Jvm.exec) (hb : c.code = cc) {i : Instr} (hdg : decode cc pc = .ok (i, x_len i)) {st st' : List Value} (h : x_pop i st = some st')
    (kk : W p l e R s m args below meth c H locs cells slots Q (F0 m (pc + x_len i) ls (st'.map (x_V b kad)))) : W p l e R s m args below meth c H locs cells slots Q (F0 m pc ls (st.map (x_V b kad))) := by
  cases i <;> first
    | (simp [x_pop] at h; done)
    | skip
  case iconst n => 
    cases h
    exact lv_iconst hexec hb hdg rfl kk
  case bipush n => 
    cases h
    exact lv_bipush hexec hb hdg rfl kk
  case sipush n => 
    cases h
    exact lv_sipush hexec hb hdg rfl kk
  case lconst n => 
    cases h
    exact lv_lconst hexec hb hdg rfl kk
  case iadd => 
    obtain ⟨x, y, r, rfl, rfl⟩ := x_i2_inv h
    exact lv_iadd hexec hb hdg kk
  case isub => 
    obtain ⟨x, y, r, rfl, rfl⟩ := x_i2_inv h
    exact lv_isub hexec hb hdg kk
  case imul => 
    obtain ⟨x, y, r, rfl, rfl⟩ := x_i2_inv h
    exact lv_imul hexec hb hdg kk
  case iand => 
    obtain ⟨x, y, r, rfl, rfl⟩ := x_i2_inv h
    exact lv_iand hexec hb hdg kk
  case ior => 
    obtain ⟨x, y, r, rfl, rfl⟩ := x_i2_inv h
    exact lv_ior hexec hb hdg kk
  case ixor => 
    obtain ⟨x, y, r, rfl, rfl⟩ := x_i2_inv h
    exact lv_ixor hexec hb hdg kk
  case ishl => 
    obtain ⟨x, y, r, rfl, rfl⟩ := x_i2_inv h
    exact lv_ishl hexec hb hdg kk
  case ishr => 
    obtain ⟨x, y, r, rfl, rfl⟩ := x_i2_inv h
    exact lv_ishr hexec hb hdg kk
  case iushr => 
    obtain ⟨x, y, r, rfl, rfl⟩ := x_i2_inv h
    exact lv_iushr hexec hb hdg rfl kk
  case idiv => 
    obtain ⟨x, y, r, rfl, hy, rfl⟩ := x_idv_inv h
    exact lv_idiv hexec hb hdg hy kk
  case irem => 
    obtain ⟨x, y, r, rfl, hy, rfl⟩ := x_idv_inv h
    exact lv_irem hexec hb hdg hy kk
  case ineg => 
    obtain ⟨x, r, rfl, rfl⟩ := x_i1_inv h
    exact lv_ineg hexec hb hdg kk
  case i2l => 
    obtain ⟨x, r, rfl, rfl⟩ := x_i1_inv h
    exact lv_i2l hexec hb hdg rfl kk
  case i2b => 
    obtain ⟨x, r, rfl, rfl⟩ := x_i1_inv h
    exact lv_i2b hexec hb hdg rfl kk
  case i2c => 
    obtain ⟨x, r, rfl, rfl⟩ := x_i1_inv h
    exact lv_i2c hexec hb hdg rfl kk
  case l2i => 
    obtain ⟨x, r, rfl, rfl⟩ := x_l1_inv h
    exact lv_l2i hexec hb hdg rfl kk
  case ladd => 
    obtain ⟨x, y, r, rfl, rfl⟩ := x_l2_inv h
    exact lv_ladd hexec hb hdg kk
  case lsub => 
    obtain ⟨x, y, r, rfl, rfl⟩ := x_l2_inv h
    exact lv_lsub hexec hb hdg kk
  case lmul => 
    obtain ⟨x, y, r, rfl, rfl⟩ := x_l2_inv h
    exact lv_lmul hexec hb hdg kk
  case land => 
    obtain ⟨x, y, r, rfl, rfl⟩ := x_l2_inv h
    exact lv_land hexec hb hdg kk
  case lor => 
    obtain ⟨x, y, r, rfl, rfl⟩ := x_l2_inv h
    exact lv_lor hexec hb hdg kk
  case ldiv => 
    obtain ⟨x, y, r, rfl, hy, rfl⟩ := x_ldv_inv h
    exact lv_ldiv hexec hb hdg hy kk
  case lrem => 
    obtain ⟨x, y, r, rfl, hy, rfl⟩ := x_ldv_inv h
    exact lv_lrem hexec hb hdg hy kk
  case lcmp => 
    obtain ⟨x, y, r, rfl, rfl⟩ := x_l2_inv h
    exact W.lcmp hexec hb hdg kk
  case lshl => 
    obtain ⟨x, y, r, rfl, rfl⟩ := x_li_inv h
    exact lv_lshl hexec hb hdg rfl kk
  case lshr => 
    obtain ⟨x, y, r, rfl, rfl⟩ := x_li_inv h
    exact lv_lshr hexec hb hdg rfl kk
  case lushr => 
    obtain ⟨x, y, r, rfl, rfl⟩ := x_li_inv h
    exact lv_lushr hexec hb hdg rfl kk
  case dup => 
    obtain ⟨v, r, rfl, hv, rfl⟩ := x_dup_inv h
    exact lv_dup hexec hb hdg (by rw [x_V_cat]; exact hv) kk
  case pop => 
    obtain ⟨v, r, rfl, hv, rfl⟩ := x_pp_inv h
    exact lv_pop hexec hb hdg (va := x_V b kad v) (by rw [x_V_cat]; exact hv) kk
  case dup2 => 
    obtain ⟨v, u, r, rfl, hv, hu, rfl⟩ := x_d2_inv h
    exact lv_dup2_11 hexec hb hdg (va := x_V b kad v) (vb := x_V b kad u) (by rw [x_V_cat]; exact hv) (by rw [x_V_cat]; exact hu) kk
  case dup_x1 => 
    obtain ⟨v, u, r, rfl, hv, hu, rfl⟩ := x_dx1_inv h
    exact lv_dup_x1 hexec hb hdg (va := x_V b kad v) (vb := x_V b kad u) (by rw [x_V_cat]; exact hv) (by rw [x_V_cat]; exact hu) kk
  case dup_x2 => 
    obtain ⟨v, u, t, r, rfl, hv, hu, ht, rfl⟩ := x_dx2_inv h
    exact lv_dup_x2 hexec hb hdg (va := x_V b kad v) (vb := x_V b kad u) (vd := x_V b kad t) (by rw [x_V_cat]; exact hv) (by rw [x_V_cat]; exact hu) (by rw [x_V_cat]; exact ht) kk
theorem x_ldi_inv {o : Option Value} {st st' : List Value} (h : x_ldi o st = some st') : ∃ x : Int32, o = some (.int x) ∧ st' = .int x :: st := by
  unfold x_ldi at h
  split at h
  · cases h
    exact ⟨_, rfl, rfl⟩
  · cases h
theorem x_ldl_inv {o : Option Value} {st st' : List Value} (h : x_ldl o st = some st') : ∃ x : Int64, o = some (.long x) ∧ st' = .long x :: st := by
  unfold x_ldl at h
  split at h
  · cases h
    exact ⟨_, rfl, rfl⟩
  · cases h
theorem x_lda_inv {b : Nat} {kad : Nat → Option Nat} (hk : ∀ j, j < 2000 → ∃ q, kad j = some q) {o : Option Value} {st st' : List Value} (h : x_lda o st = some st') : ∃ (v : Value) (q : Nat), o = some v ∧ x_V b kad v = .ref q ∧ st' = v :: st := by
  unfold x_lda at h
  split at h
  · cases h
    exact ⟨_, _, rfl, rfl, rfl⟩
  · split at h
    · rename_i x hx
      cases h
      obtain ⟨q, hq⟩ := hk x hx
      exact ⟨_, q, rfl, by show va_rf (kad x) = .ref q; rw [hq]; rfl, rfl⟩
    · cases h
  · cases h
set_option maxHeartbeats 4000000 in
theorem x_lod_ok (hexec : p.tables.exec = Jvm.exec) (hb : c.code = cc) (hk : ∀ j, j < 2000 → ∃ q, kad j = some q) {i : Instr} (hdg : decode cc pc = .ok (i, x_len i)) {nL : Nat} {lv : x_L} (hl : x_LV b kad ls nL lv) {st st' : List Value} (h : x_lod i lv st = some st')
    (kk : W p l e R s m args below meth c H locs cells slots Q (F0 m (pc + x_len i) ls (st'.map (x_V b kad)))) : W p l e R s m args below meth c H locs cells slots Q (F0 m pc ls (st.map (x_V b kad))) := by
  cases i <;> first
    | (simp [x_lod] at h; done)
    | skip
  case iload j => 
    obtain ⟨x, e1, rfl⟩ := x_ldi_inv h
    exact lv_iload hexec hb hdg (hl.2.2 _ _ e1) kk
  case iload_n j => 
    obtain ⟨x, e1, rfl⟩ := x_ldi_inv h
    exact lv_iload_n hexec hb hdg rfl (hl.2.2 _ _ e1) kk
  case lload j => 
    obtain ⟨x, e1, rfl⟩ := x_ldl_inv h
    exact lv_lload hexec hb hdg (hl.2.2 _ _ e1) kk
  case lload_n j => 
    obtain ⟨x, e1, rfl⟩ := x_ldl_inv h
    exact lv_lload_n hexec hb hdg rfl (hl.2.2 _ _ e1) kk
  case aload j => 
    obtain ⟨v, q, e1, e2, rfl⟩ := x_lda_inv (b := b) (kad := kad) hk h
    have h1 := hl.2.2 _ _ e1
    rw [e2] at h1
    refine lv_aload hexec hb hdg h1 ?_
    rw [← e2]
    exact kk
  case aload_n j => 
    obtain ⟨v, q, e1, e2, rfl⟩ := x_lda_inv (b := b) (kad := kad) hk h
    have h1 := hl.2.2 _ _ e1
    rw [e2] at h1
    refine lv_aload_n hexec hb hdg rfl h1 ?_
    rw [← e2]
    exact kk
theorem x_sti_inv {nL i : Nat} {lv lv' : x_L} {st st' : List Value} (h : x_sti nL i lv st = some (lv', st')) : ∃ x : Int32, st = .int x :: st' ∧ i < nL ∧ lv' = x_s1 lv i (.int x) := by
  unfold x_sti at h
  split at h
  · split at h
    · rename_i hi
      cases h
      exact ⟨_, rfl, hi, rfl⟩
    · cases h
  · cases h
theorem x_stl_inv {nL i : Nat} {lv lv' : x_L} {st st' : List Value} (h : x_stl nL i lv st = some (lv', st')) : ∃ x : Int64, st = .long x :: st' ∧ i + 1 < nL ∧ lv' = x_s2 lv i (.long x) := by
  unfold x_stl at h
  split at h
  · split at h
    · rename_i hi
      cases h
      exact ⟨_, rfl, hi, rfl⟩
    · cases h
  · cases h
theorem x_sta_inv {nL i : Nat} {lv lv' : x_L} {st st' : List Value} (h : x_sta nL i lv st = some (lv', st')) : ∃ x : Nat, st = .ref x :: st' ∧ i < nL ∧ lv' = x_s1 lv i (.ref x) := by
  unfold x_sta at h
  split at h
  · split at h
    · rename_i hi
      cases h
      exact ⟨_, rfl, hi, rfl⟩
    · cases h
  · cases h
theorem x_inc_inv {nL i : Nat} {n : Int} {lv lv' : x_L} {st st' : List Value} (h : x_inc nL i n lv st = some (lv', st')) : ∃ x : Int32, lv i = some (.int x) ∧ st = st' ∧ i < nL ∧ lv' = x_s1 lv i (.int (x + Int32.ofInt n)) := by
  unfold x_inc at h
  split at h
  · rename_i x hx
    split at h
    · rename_i hi
      cases h
      exact ⟨_, hx, rfl, hi, rfl⟩
    · cases h
  · cases h
set_option maxHeartbeats 4000000 in
theorem x_sto_ok (hexec : p.tables.exec = Jvm.exec) (hb : c.code = cc) {i : Instr} (hdg : decode cc pc = .ok (i, x_len i)) {nL : Nat} {lv lv' : x_L} (hl : x_LV b kad ls nL lv) {st st' : List Value} (h : x_sto nL i lv st = some (lv', st'))
    (kk : ∀ ls' : Array Slot, x_LV b kad ls' nL lv' → W p l e R s m args below meth c H locs cells slots Q (F0 m (pc + x_len i) ls' (st'.map (x_V b kad)))) : W p l e R s m args below meth c H locs cells slots Q (F0 m pc ls (st.map (x_V b kad))) := by
  cases i <;> first
    | (simp [x_sto] at h; done)
    | skip
  case istore j => 
    obtain ⟨x, rfl, hi, rfl⟩ := x_sti_inv h
    exact lv_istore hexec hb hdg (x_LV_has hl) hi rfl (fun ls' h' => kk ls' (x_LV_s1 hl h'))
  case istore_n j => 
    obtain ⟨x, rfl, hi, rfl⟩ := x_sti_inv h
    exact lv_istore_n hexec hb hdg rfl (x_LV_has hl) hi rfl (fun ls' h' => kk ls' (x_LV_s1 hl h'))
  case lstore j => 
    obtain ⟨x, rfl, hi, rfl⟩ := x_stl_inv h
    exact lv_lstore hexec hb hdg (x_LV_has hl) hi rfl (fun ls' h' => kk ls' (x_LV_s2 hl h'))
  case lstore_n j => 
    obtain ⟨x, rfl, hi, rfl⟩ := x_stl_inv h
    exact lv_lstore_n hexec hb hdg rfl (x_LV_has hl) hi rfl (fun ls' h' => kk ls' (x_LV_s2 hl h'))
  case astore j => 
    obtain ⟨x, rfl, hi, rfl⟩ := x_sta_inv h
    exact lv_astore hexec hb hdg (x_LV_has hl) hi rfl (fun ls' h' => kk ls' (x_LV_s1 hl h'))
  case astore_n j => 
    obtain ⟨x, rfl, hi, rfl⟩ := x_sta_inv h
    exact lv_astore_n hexec hb hdg rfl (x_LV_has hl) hi rfl (fun ls' h' => kk ls' (x_LV_s1 hl h'))
  case iinc j n => 
    obtain ⟨x, e1, rfl, hi, rfl⟩ := x_inc_inv h
    obtain ⟨q, hq⟩ := List.getElem?_of_mem (x_ll_mem (b := b) (kad := kad) hi e1)
    exact lv_iinc hexec hb hdg (x_LV_has hl) hq rfl hi rfl (fun ls' h' => kk ls' (x_LV_s1 (v := .int (x + Int32.ofInt n)) hl h'))
theorem x_tg {pc : Nat} {off : Int} (h : 0 ≤ (pc : Int) + off) : (pc : Int) + off = ((((pc : Int) + off).toNat : Nat) : Int) := (Int.toNat_of_nonneg h).symm
theorem x_gt_inv {off : Int} {pc pc' : Nat} {st st' : List Value} (h : x_gt off pc st = some (pc', st')) : (pc : Int) + off = (pc' : Int) ∧ st' = st := by
  unfold x_gt at h
  split at h
  · rename_i h0
    cases h
    exact ⟨x_tg h0, rfl⟩
  · cases h
theorem x_if_inv {cd : Jvm.ClassFile.Cond} {off : Int} {pc pc' : Nat} {st st' : List Value} (h : x_if cd off pc st = some (pc', st')) : ∃ (x : Int32) (t : Nat), st = .int x :: st' ∧ (pc : Int) + off = (t : Int) ∧ (x_cc cd x 0 = true → pc' = t) ∧ (¬ x_cc cd x 0 = true → pc' = pc + 3) := by
  unfold x_if at h
  split at h
  · split at h
    · rename_i h0
      split at h
      · rename_i h1
        cases h
        exact ⟨_, _, rfl, x_tg h0, fun _ => rfl, fun q => absurd h1 q⟩
      · rename_i h1
        cases h
        exact ⟨_, _, rfl, x_tg h0, fun q => absurd q h1, fun _ => rfl⟩
    · cases h
  · cases h
theorem x_ic_inv {cd : Jvm.ClassFile.Cond} {off : Int} {pc pc' : Nat} {st st' : List Value} (h : x_ic cd off pc st = some (pc', st')) : ∃ (x y : Int32) (t : Nat), st = .int y :: .int x :: st' ∧ (pc : Int) + off = (t : Int) ∧ (x_cc cd x y = true → pc' = t) ∧ (¬ x_cc cd x y = true → pc' = pc + 3) := by
  unfold x_ic at h
  split at h
  · split at h
    · rename_i h0
      split at h
      · rename_i h1
        cases h
        exact ⟨_, _, _, rfl, x_tg h0, fun _ => rfl, fun q => absurd h1 q⟩
      · rename_i h1
        cases h
        exact ⟨_, _, _, rfl, x_tg h0, fun q => absurd q h1, fun _ => rfl⟩
    · cases h
  · cases h
set_option maxHeartbeats 4000000 in
theorem x_jmp_ok (hexec : p.tables.exec = Jvm.exec) (hb : c.code = cc) {i : Instr} {len : Nat} (hdg : decode cc pc = .ok (i, len)) (hlen : x_sw i = false → len = x_len i) {pc' : Nat} {st st' : List Value} (h : x_jmp i pc st = some (pc', st'))
    (kk : W p l e R s m args below meth c H locs cells slots Q (F0 m pc' ls (st'.map (x_V b kad)))) : W p l e R s m args below meth c H locs cells slots Q (F0 m pc ls (st.map (x_V b kad))) := by
  cases i <;> first
    | (simp [x_jmp] at h; done)
    | skip
  case goto off => 
    cases hlen rfl
    obtain ⟨ht, rfl⟩ := x_gt_inv h
    exact lv_goto hexec hb hdg ht kk
  case ifCond cd off => 
    cases hlen rfl
    obtain ⟨x, t, rfl, ht, h1, h2⟩ := x_if_inv h
    cases cd
    · refine lv_if_eq hexec hb hdg ht (fun q => ?_) (fun q => ?_)
      · have e1 := h1 (by simpa [x_cc] using q)
        rw [e1] at kk
        exact kk
      · have e1 := h2 (by simpa [x_cc] using q)
        rw [e1] at kk
        exact kk
    · refine lv_if_ne hexec hb hdg ht (fun q => ?_) (fun q => ?_)
      · have e1 := h1 (by simpa [x_cc] using q)
        rw [e1] at kk
        exact kk
      · have e1 := h2 (by simpa [x_cc] using q)
        rw [e1] at kk
        exact kk
    · refine lv_if_lt hexec hb hdg ht (fun q => ?_) (fun q => ?_)
      · have e1 := h1 (by simpa [x_cc] using q)
        rw [e1] at kk
        exact kk
      · have e1 := h2 (by simpa [x_cc] using q)
        rw [e1] at kk
        exact kk
    · refine lv_if_ge hexec hb hdg ht (fun q => ?_) (fun q => ?_)
      · have e1 := h1 (by simpa [x_cc] using q)
        rw [e1] at kk
        exact kk
      · have e1 := h2 (by simpa [x_cc] using q)
        rw [e1] at kk
        exact kk
    · refine lv_if_gt hexec hb hdg ht (fun q => ?_) (fun q => ?_)
      · have e1 := h1 (by simpa [x_cc] using q)
        rw [e1] at kk
        exact kk
      · have e1 := h2 (by simpa [x_cc] using q)
        rw [e1] at kk
        exact kk
    · refine lv_if_le hexec hb hdg ht (fun q => ?_) (fun q => ?_)
      · have e1 := h1 (by simpa [x_cc] using q)
        rw [e1] at kk
        exact kk
      · have e1 := h2 (by simpa [x_cc] using q)
        rw [e1] at kk
        exact kk
  case if_icmp cd off => 
    cases hlen rfl
    obtain ⟨x, y, t, rfl, ht, h1, h2⟩ := x_ic_inv h
    cases cd
    · refine lv_icmp_eq hexec hb hdg ht (fun q => ?_) (fun q => ?_)
      · have e1 := h1 (by simpa [x_cc] using q)
        rw [e1] at kk
        exact kk
      · have e1 := h2 (by simpa [x_cc] using q)
        rw [e1] at kk
        exact kk
    · refine lv_icmp_ne hexec hb hdg ht (fun q => ?_) (fun q => ?_)
      · have e1 := h1 (by simpa [x_cc] using q)
        rw [e1] at kk
        exact kk
      · have e1 := h2 (by simpa [x_cc] using q)
        rw [e1] at kk
        exact kk
    · refine lv_icmp_lt hexec hb hdg ht (fun q => ?_) (fun q => ?_)
      · have e1 := h1 (by simpa [x_cc] using q)
        rw [e1] at kk
        exact kk
      · have e1 := h2 (by simpa [x_cc] using q)
        rw [e1] at kk
        exact kk
    · refine lv_icmp_ge hexec hb hdg ht (fun q => ?_) (fun q => ?_)
      · have e1 := h1 (by simpa [x_cc] using q)
        rw [e1] at kk
        exact kk
      · have e1 := h2 (by simpa [x_cc] using q)
        rw [e1] at kk
        exact kk
    · refine lv_icmp_gt hexec hb hdg ht (fun q => ?_) (fun q => ?_)
      · have e1 := h1 (by simpa [x_cc] using q)
        rw [e1] at kk
        exact kk
      · have e1 := h2 (by simpa [x_cc] using q)
        rw [e1] at kk
        exact kk
    · refine lv_icmp_le hexec hb hdg ht (fun q => ?_) (fun q => ?_)
      · have e1 := h1 (by simpa [x_cc] using q)
        rw [e1] at kk
        exact kk
      · have e1 := h2 (by simpa [x_cc] using q)
        rw [e1] at kk
        exact kk
  case tableswitch d lo hi offs => 
    have h : x_ts d lo hi offs pc st = some (pc', st') := h
    unfold x_ts at h
    split at h
    · split at h
      · rename_i h1
        obtain ⟨ht, rfl⟩ := x_gt_inv h
        exact lv_tableOut hexec hb hdg h1 ht kk
      · rename_i h1
        split at h
        · rename_i off ho
          obtain ⟨ht, rfl⟩ := x_gt_inv h
          exact lv_tableIn hexec hb hdg (fun q => h1 (Or.inl q)) (fun q => h1 (Or.inr q)) ho ht kk
        · cases h
    · cases h
end XS
-- the context of a method's body
def x_wsk (k : Nat) : List Jvm.Cond := Jvm.Cond.code (x_y k) (x_b k) (x_nL k) (x_rt k) :: x_w
def x_VM (D : va_G) (dA : Nat → ClassId) (U : State) : Prop := va_K D x_cl (x_tys dA) U ∧ (∀ w ∈ x_nest, va_Nw w U) ∧ ∀ C ∈ x_aos, va_AO C U
theorem x_VM_warm {D : va_G} {dA : Nat → ClassId} {u U : State} (hW : u.WarmedH U.vm) (h : x_VM D dA u) : x_VM D dA U := by
  refine ⟨va_K.moved hW.alike h.1, fun w hw => ?_, fun C hC => va_AO.moved hW.alike (h.2.2 C hC)⟩
  have h1 := h.2.1 w hw
  rcases s_nest w hw with ⟨a, i, x, n, d, g, rfl⟩ | ⟨a, i, x, g, rfl⟩
  · exact va_Nw.warmF hW h1
  · exact va_Nw.warmM hW h1
theorem x_VM_same {D : va_G} {dA : Nat → ClassId} {u U : State} (hv : u.vm = U.vm) (h : x_VM D dA u) : x_VM D dA U := by
  have ha : u.vm.Alike U.vm := by rw [hv]; exact Vm.Alike.refl _
  refine ⟨va_K.moved ha h.1, fun w hw => ?_, fun C hC => va_AO.moved ha (h.2.2 C hC)⟩
  have h1 := h.2.1 w hw
  rcases s_nest w hw with ⟨a, i, x, n, d, g, rfl⟩ | ⟨a, i, x, g, rfl⟩
  · exact va_Nw.same rfl hv h1
  · exact va_Nw.same rfl hv h1
def x_KS (b : Nat) (kad : Nat → Option Nat) (U : State) : Prop :=
  (∀ e ∈ x_gr, ∃ q, kad (1 + e.2.2.2) = some q ∧ vk_R e.1 e.2.1 e.2.2.1 q U) ∧
  (∀ i, i < x_gn → ∃ qk qv, kad (1 + i) = some qk ∧ kad (1000 + i) = some qv ∧ va_O "java/lang/String" qk (fun q => b ≤ q) U U.heap ∧ va_OF "java/lang/String" "coder" "B" (.int 0) qk (fun q => b ≤ q) U U.heap ∧ va_OF "java/lang/String" "value" "[B" (.ref qv) qk (fun q => b ≤ q) U U.heap ∧ va_T .byte qv (x_gl.getD i 0) (fun j => .int ((x_gb.getD i []).getD j 0)) (fun q => b ≤ q) U U.heap) ∧
  va_Z "java/lang/String" "COMPACT_STRINGS" "Z" (.int 1) (fun q => b ≤ q) U U.heap ∧ va_Z "jdk/internal/util/Preconditions" "SIOOBE_FORMATTER" "Ljava/util/function/BiFunction;" (va_rf (kad 2000)) (fun q => b ≤ q) U U.heap
def x_KC (b : Nat) (kad : Nat → Option Nat) (sc : x_Z) (U : State) : Prop := x_KS b kad U ∧ (∃ sa, kad 0 = some sa ∧ va_X sa sc.1 sc.2 U U.heap ∧ sa < b) ∧ ∀ j, j < 2000 → ∃ q, kad j = some q
theorem x_KC_warm {b : Nat} {kad : Nat → Option Nat} {sc : x_Z} {s U : State} {locs : List Loc} (h : x_KC b kad sc s) (hb : b ≤ s.heap.size) (hW : s.WarmedH U.vm) (hS : va_S (fun q => b ≤ q) s.heap U.heap locs) : x_KC b kad sc U := by
  obtain ⟨⟨h1, h2, h3, h4⟩, ⟨sa, h5, h6, h7⟩, h8⟩ := h
  have hq : ∀ a : Nat, a < s.heap.size → ¬ (fun q => b ≤ q) a → U.heap[a]? = s.heap[a]? := fun a ha hn => hS.2.1 a ha hn
  refine ⟨⟨fun e he => ?_, fun i hi => ?_, va_Z.moved hW.alike (h3.kept hq), va_Z.moved hW.alike (h4.kept hq)⟩, ⟨sa, h5, va_X.moved hW.alike (va_X.kept h6 (hq sa (Nat.lt_of_lt_of_le h7 hb) (fun z => Nat.lt_irrefl _ (Nat.lt_of_lt_of_le h7 z)))), h7⟩, h8⟩
  · obtain ⟨q, e1, e2⟩ := h1 e he
    exact ⟨q, e1, vk_R.warm hW e2⟩
  · obtain ⟨qk, qv, e1, e2, e3, e4, e5, e6⟩ := h2 i hi
    exact ⟨qk, qv, e1, e2, va_O.moved hW.alike (e3.kept hq), va_OF.moved hW.alike (e4.kept hq), va_OF.moved hW.alike (e5.kept hq), va_T.moved hW.alike (e6.kept hq)⟩
theorem x_KC_same {b : Nat} {kad : Nat → Option Nat} {sc : x_Z} {u U : State} (h : x_KC b kad sc u) (hv : U.vm = u.vm) (hh : U.heap = u.heap) : x_KC b kad sc U := by
  have ha : u.vm.Alike U.vm := by rw [hv]; exact Vm.Alike.refl _
  obtain ⟨⟨h1, h2, h3, h4⟩, ⟨sa, h5, h6, h7⟩, h8⟩ := h
  refine ⟨⟨fun e he => ?_, fun i hi => ?_, ?_, ?_⟩, ⟨sa, h5, ?_, h7⟩, h8⟩
  · obtain ⟨q, e1, e2⟩ := h1 e he
    exact ⟨q, e1, vk_R.same hv e2⟩
  · obtain ⟨qk, qv, e1, e2, e3, e4, e5, e6⟩ := h2 i hi
    rw [hh]
    exact ⟨qk, qv, e1, e2, va_O.moved ha e3, va_OF.moved ha e4, va_OF.moved ha e5, va_T.moved ha e6⟩
  · rw [hh]; exact va_Z.moved ha h3
  · rw [hh]; exact va_Z.moved ha h4
  · rw [hh]; exact va_X.moved ha h6
def x_cx (D : va_G) (dA : Nat → ClassId) (b : Nat) (kad : Nat → Option Nat) (sc : x_Z) (k : Nat) (p : Program) (s : State) (m : MethodId) (args : Array Value) (meth : Method) (c : Code) : Prop :=
  (p.tables.exec = Jvm.exec ∧ c.code = x_b k ∧ c.maxLocals = x_nL k ∧ meth.sig.returnType = x_rt k ∧ meth.locks = false ∧ ((x_y k).name = "<init>" → meth.name = "<init>") ∧ s.vm.findClass (x_y k).cls = some m.cls) ∧
  (∀ w ∈ x_w, w.before args s = true) ∧ x_VM D dA s ∧ x_KC b kad sc s ∧ b ≤ s.heap.size
def x_Pc (D : va_G) (dA : Nat → ClassId) (b : Nat) (kad : Nat → Option Nat) (sc : x_Z) (as : List Value) (h : x_H) : Array Value → State → Prop := fun v U =>
  v = (as.map (x_V b kad)).toArray ∧ U.heap.size = b + h.2.1 ∧ va_P D x_cl (x_ws dA b kad h) U.heap ∧ x_VM D dA U ∧ x_KC b kad sc U
def x_Q (D : va_G) (dA : Nat → ClassId) (b : Nat) (kad : Nat → Option Nat) (r : Option Value) (h : x_H) : Array Value → State → Outcome → State → Prop := fun _ st oc t =>
  (oc = .returned (r.map (x_V b kad)) ∧ va_P D x_cl (x_ws dA b kad h) t.heap) ∧ va_F (fun q => b ≤ q) st t
def x_rm (d mc ms : Nat) : Room := { frames := d, cells := mc, slots := ms, locals := 48 * d }
theorem x_Pc_blind {D : va_G} {dA : Nat → ClassId} {b : Nat} {kad : Nat → Option Nat} {sc : x_Z} {as : List Value} {h : x_H} : FrameBlind (x_Pc D dA b kad sc as h) := by
  intro a U g mk q
  obtain ⟨q0, q1, q2, q3, q4⟩ := q
  exact ⟨q0, q1, q2, x_VM_same (u := U) (U := U.calling g mk a) rfl q3, x_KC_same (u := U) (U := U.calling g mk a) q4 rfl rfl⟩
theorem x_RA_eq {U : State} {c1 c2 : ClassId} {ty : FieldType} (h1 : va_RA U c1 ty) (h2 : va_RA U c2 ty) : c1 = c2 := by
  cases ty with
  | object C =>
    obtain ⟨_, _, -, -, -, e1⟩ := h1
    obtain ⟨_, _, -, -, -, e2⟩ := h2
    exact Option.some.inj (e1.symm.trans e2)
  | _ => exact Option.some.inj (Eq.trans (Eq.symm h1) h2)
theorem x_new_q {D : va_G} {dA : Nat → ClassId} {b : Nat} {kad : Nat → Option Nat} {h : x_H} {q : Nat} {e : va_E} {H1 : Heap} (hP : va_P D x_cl (x_ws dA b kad h ++ [(q, e)]) H1) (hD : va_D (fun q => b ≤ q) (x_ws dA b kad h ++ [(q, e)])) (hz : H1.size ≤ b + h.2.1 + 1) : q = b + h.2.1 := by
  have hg : (x_ws dA b kad h ++ [(q, e)])[h.2.1]? = some (q, e) := by
    rw [List.getElem?_append_right (by rw [x_ws_len]; exact Nat.le_refl _), x_ws_len]
    simp
  have h1 : q < H1.size := (hP _ _ hg).lt
  have h2 : b ≤ q := hD.2 _ _ hg
  by_cases h3 : q < b + h.2.1
  · have hi : q - b < h.2.1 := by omega
    have hg2 : (x_ws dA b kad h ++ [(q, e)])[q - b]? = some (b + (q - b), x_E dA b kad (h.1 (q - b))) := by
      rw [List.getElem?_append_left (by rw [x_ws_len]; exact hi)]
      exact x_ws_get hi
    have := hD.1 _ _ _ _ hg2 hg (show b + (q - b) = q by omega)
    omega
  · omega
theorem x_fit_ok {b : Nat} {kad : Nat → Option Nat} {ty : FieldType} {v : Value} (h : x_fit ty v = true) : narrow ty (x_V b kad v) = x_V b kad v ∧ fits ty (x_V b kad v) = true := by
  cases ty <;> cases v <;> first
    | (simp [x_fit] at h; done)
    | exact ⟨rfl, rfl⟩
    | skip
  rename_i x
  have h2 : x = 0 ∨ x = 1 := by simpa [x_fit] using h
  rcases h2 with rfl | rfl
  · exact ⟨rfl, rfl⟩
  · exact ⟨rfl, rfl⟩
theorem x_A_up {b j v : Nat} {f : Nat → Option Nat} : (fun i => (va_up f j (some v) i).map (fun a => b + a)) = va_up (fun i => (f i).map (fun a => b + a)) j (some (b + v)) := by
  funext i
  unfold va_up
  split <;> rfl
section XT
variable {p : Program} {l : Launch} {e : Env} {R : Room} {s : State} {m : MethodId} {args : Array Value} {below : List Frame} {meth : Method} {c : Code} {H : Heap} {locs : List Loc} {cells slots : Nat} {Q : State → Prop}
variable {pc : Nat} {ls : Array Slot} {b : Nat} {kad : Nat → Option Nat} {D : va_G} {dA : Nat → ClassId} {sc : x_Z} {k : Nat} {h : x_H}
theorem x_cap {g : JFrame} (kk : H.size ≤ s.heap.size + cells → W p l e R s m args below meth c H locs cells slots Q g) : W p l e R s m args below meth c H locs cells slots Q g := fun T hT X => kk (by
  have h1 := X.same.2.2.1
  have h2 : (T.setVm s.vm).heap = T.heap := rfl
  rw [h2, hT] at h1
  exact h1) T hT X
theorem x_size {n0 : Nat} (hP : va_P D x_cl (x_ws dA b kad h) H) (hn : s.heap.size = b + n0) (hl : n0 ≤ h.2.1) (hz : s.heap.size ≤ H.size) (hc : H.size ≤ s.heap.size + (h.2.1 - n0)) : H.size = b + h.2.1 := by
  by_cases h0 : h.2.1 = n0
  · omega
  · have h1 : h.2.1 - 1 < h.2.1 := by omega
    have h2 := (hP _ _ (x_ws_get h1)).lt
    have h2 : b + (h.2.1 - 1) < H.size := h2
    omega
theorem x_gf_inv {k idx : Nat} {st st' : List Value} {h : x_H} (q : x_gf k idx st h = some st') : ∃ (a : Nat) (r : List Value) (ci : Nat) (fs : List Value) (sl : Nat) (ty : FieldType) (fl : Nat) (v : Value), st = .ref a :: r ∧ x_get h a = some (.inr (ci, fs)) ∧ x_fld k idx = some (ci, sl, ty, fl) ∧ fs[sl]? = some v ∧ st' = v :: r := by
  unfold x_gf at q
  split at q
  · split at q
    · rename_i hg
      split at q
      · rename_i hf
        split at q
        · rename_i e1
          subst e1
          split at q
          · rename_i hv
            cases q
            exact ⟨_, _, _, _, _, _, _, _, rfl, hg, hf, hv, rfl⟩
          · cases q
        · cases q
      · cases q
    · cases q
  · cases q
theorem x_ia_inv {sc : x_S} {st st' : List Value} {h : x_H} (q : x_ia sc st h = some st') : (∃ (j : Int32) (a : Nat) (r : List Value) (n : Nat) (f : Nat → Int32), st = .int j :: .ref a :: r ∧ x_get h a = some (.inl (0, n, .inl f)) ∧ x_in j n = true ∧ st' = .int (f j.toNatClampNeg) :: r) ∨ (∃ (z : x_Z) (j : Int32) (r : List Value), sc = some z ∧ st = .int j :: .retAddr 0 :: r ∧ x_in j z.1 = true ∧ st' = .int (z.2 j.toNatClampNeg) :: r) := by
  unfold x_ia at q
  split at q
  · split at q
    · rename_i hg
      split at q
      · rename_i e1
        obtain ⟨rfl, e2⟩ := e1
        cases q
        exact Or.inl ⟨_, _, _, _, _, rfl, hg, e2, rfl⟩
      · cases q
    · cases q
  · split at q
    · split at q
      · rename_i e1
        obtain ⟨rfl, e2⟩ := e1
        cases q
        exact Or.inr ⟨_, _, _, rfl, rfl, e2, rfl⟩
      · cases q
    · cases q
  · cases q
theorem x_la_inv {st st' : List Value} {h : x_H} (q : x_la st h = some st') : ∃ (j : Int32) (a : Nat) (r : List Value) (n : Nat) (f : Nat → Int64), st = .int j :: .ref a :: r ∧ x_get h a = some (.inl (1, n, .inr (.inl f))) ∧ x_in j n = true ∧ st' = .long (f j.toNatClampNeg) :: r := by
  unfold x_la at q
  split at q
  · split at q
    · rename_i hg
      split at q
      · rename_i e1
        obtain ⟨rfl, e2⟩ := e1
        cases q
        exact ⟨_, _, _, _, _, rfl, hg, e2, rfl⟩
      · cases q
    · cases q
  · cases q
theorem x_ca_inv {tt : Nat} {st st' : List Value} {h : x_H} (q : x_ca tt st h = some st') : ∃ (j : Int32) (a : Nat) (r : List Value) (n : Nat) (f : Nat → Int32), st = .int j :: .ref a :: r ∧ x_get h a = some (.inl (tt, n, .inl f)) ∧ x_in j n = true ∧ st' = .int (f j.toNatClampNeg) :: r := by
  unfold x_ca at q
  split at q
  · split at q
    · rename_i hg
      split at q
      · rename_i e1
        obtain ⟨rfl, e2⟩ := e1
        cases q
        exact ⟨_, _, _, _, _, rfl, hg, e2, rfl⟩
      · cases q
    · cases q
  · cases q
theorem x_aa_inv {st st' : List Value} {h : x_H} (q : x_aa st h = some st') : ∃ (j : Int32) (a : Nat) (r : List Value) (t n : Nat) (f : Nat → Option Nat) (ci : Nat), st = .int j :: .ref a :: r ∧ x_get h a = some (.inl (t, n, .inr (.inr (.inr (.inr f))))) ∧ x_cp t = some ci ∧ x_in j n = true ∧ st' = va_rf (f j.toNatClampNeg) :: r := by
  unfold x_aa at q
  split at q
  · split at q
    · rename_i hg
      split at q
      · rename_i hc
        split at q
        · rename_i e1
          cases q
          exact ⟨_, _, _, _, _, _, _, rfl, hg, hc, e1, rfl⟩
        · cases q
      · cases q
    · cases q
  · cases q
theorem x_al_inv {sc : x_S} {st st' : List Value} {h : x_H} (q : x_al sc st h = some st') : (∃ (a : Nat) (r : List Value) (t n : Nat) (f : (Nat → Int32) ⊕ (Nat → Int64) ⊕ (Nat → UInt32) ⊕ (Nat → UInt64) ⊕ (Nat → Option Nat)), st = .ref a :: r ∧ x_get h a = some (.inl (t, n, f)) ∧ t < x_ty.length ∧ st' = .int (Int32.ofNat n) :: r) ∨ (∃ (z : x_Z) (r : List Value), sc = some z ∧ st = .retAddr 0 :: r ∧ st' = .int (Int32.ofNat z.1) :: r) := by
  unfold x_al at q
  split at q
  · split at q
    · rename_i hg
      split at q
      · rename_i e1
        cases q
        exact Or.inl ⟨_, _, _, _, _, rfl, hg, e1, rfl⟩
      · cases q
    · cases q
  · split at q
    · split at q
      · rename_i e1
        subst e1
        cases q
        exact Or.inr ⟨_, _, rfl, rfl, rfl⟩
      · cases q
    · cases q
  · cases q
theorem x_or_inv {α : Type} {a b : Option α} {y : α} (q : x_or a b = some y) : a = some y ∨ b = some y := by
  unfold x_or at q
  split at q
  · exact Or.inl q
  · exact Or.inr q
theorem x_sg_inv {k idx : Nat} {st st' : List Value} (q : x_sg k idx st = some st') : ∃ (i : Nat) (r : List Value) (c : Nat), st = .retAddr (1 + i) :: r ∧ x_sfl k idx = some c ∧ i < x_gn ∧ (c = 0 → st' = .retAddr (1000 + i) :: r) ∧ (¬ c = 0 → st' = .int 0 :: r) := by
  unfold x_sg at q
  split at q
  · rename_i q0 r
    split at q
    · rename_i c hc
      split at q
      · rename_i hq
        refine ⟨q0 - 1, r, c, by rw [show 1 + (q0 - 1) = q0 by omega], hc, by omega, fun e => ?_, fun e => ?_⟩
        · rw [if_pos e] at q
          cases q
          rw [show 1000 + (q0 - 1) = 999 + q0 by omega]
        · rw [if_neg e] at q
          cases q
          rfl
      · cases q
    · cases q
  · cases q
theorem x_bb_inv {st st' : List Value} (q : x_bb st = some st') : ∃ (i : Nat) (j : Int32) (r : List Value), st = .int j :: .retAddr (1000 + i) :: r ∧ i < x_gn ∧ x_in j (x_gl.getD i 0) = true ∧ st' = .int ((x_gb.getD i []).getD j.toNatClampNeg 0) :: r := by
  unfold x_bb at q
  split at q
  · rename_i j q0 r
    split at q
    · rename_i hq
      cases q
      exact ⟨q0 - 1000, j, r, by rw [show 1000 + (q0 - 1000) = q0 by omega], by omega, hq.2.2, rfl⟩
    · cases q
  · cases q
theorem x_bl_inv {st st' : List Value} (q : x_bl st = some st') : ∃ (i : Nat) (r : List Value), st = .retAddr (1000 + i) :: r ∧ i < x_gn ∧ st' = .int (Int32.ofNat (x_gl.getD i 0)) :: r := by
  unfold x_bl at q
  split at q
  · rename_i q0 r
    split at q
    · rename_i hq
      cases q
      exact ⟨q0 - 1000, r, by rw [show 1000 + (q0 - 1000) = q0 by omega], by omega, rfl⟩
    · cases q
  · cases q
theorem x_gs_inv {k idx : Nat} {st st' : List Value} (q : x_gs k idx st = some st') : ∃ c, x_stt k idx = some c ∧ (c = 0 → st' = .int 1 :: st) ∧ (¬ c = 0 → st' = .retAddr 2000 :: st) := by
  unfold x_gs at q
  split at q
  · rename_i c hc
    refine ⟨c, hc, fun e => ?_, fun e => ?_⟩
    · rw [if_pos e] at q
      cases q
      rfl
    · rw [if_neg e] at q
      cases q
      rfl
  · cases q
theorem x_lcs_inv {k idx : Nat} {st st' : List Value} (q : x_lcs k idx st = some st') : ∃ v : Nat, x_con k idx = some (.retAddr v) ∧ st' = .retAddr v :: st := by
  unfold x_lcs at q
  split at q
  · rename_i hc
    cases q
    exact ⟨_, hc, rfl⟩
  · cases q
theorem x_lc_inv {k idx : Nat} {st st' : List Value} (q : x_lc k idx st = some st') : ∃ v : Int32, x_con k idx = some (.int v) ∧ st' = .int v :: st := by
  unfold x_lc at q
  split at q
  · rename_i hc
    cases q
    exact ⟨_, hc, rfl⟩
  · cases q
theorem x_ll2_inv {k idx : Nat} {st st' : List Value} (q : x_ll2 k idx st = some st') : ∃ v : Int64, x_con k idx = some (.long v) ∧ st' = .long v :: st := by
  unfold x_ll2 at q
  split at q
  · rename_i hc
    cases q
    exact ⟨_, hc, rfl⟩
  · cases q
set_option maxHeartbeats 4000000 in
theorem x_rd_ok (X : x_cx D dA b kad sc k p s m args meth c) {i : Instr} (hdg : decode (x_b k) pc = .ok (i, x_len i)) (hP : va_P D x_cl (x_ws dA b kad h) H) (hS : va_S (fun q => b ≤ q) s.heap H locs) {st st' : List Value} (q : x_rd (some sc) k i st h = some st')
    (kk : W p l e R s m args below meth c H locs cells slots Q (F0 m (pc + x_len i) ls (st'.map (x_V b kad)))) : W p l e R s m args below meth c H locs cells slots Q (F0 m pc ls (st.map (x_V b kad))) := by
  obtain ⟨⟨hexec, hb, hml, hrt, hlk, hnm, hown⟩, hts, ⟨hK, hN, hAO⟩, hKC, hbz⟩ := X
  obtain ⟨⟨hsr, hst, hZ1, hZ2⟩, ⟨sa, hsa, hX, hk0⟩, hkj⟩ := hKC
  have hkA : ¬ (fun q => b ≤ q) sa := fun q => Nat.lt_irrefl _ (Nat.lt_of_lt_of_le hk0 q)
  have esa : va_rf (kad 0) = .ref sa := by rw [hsa]; rfl
  cases i <;> first
    | (simp [x_rd] at q; done)
    | skip
  case getfield idx => 
    rcases x_or_inv (show x_or (x_gf k idx st h) (x_sg k idx st) = some st' from q) with q | q
    case inr =>
      obtain ⟨i, r, c0, rfl, hf, hi, he⟩ := x_sg_inv q
      obtain ⟨qk, qv, e1, e2, e3, e4, e5, e6⟩ := hst i hi
      have ek : va_rf (kad (1 + i)) = .ref qk := by rw [e1]; rfl
      show W p l e R s m args below meth c H locs cells slots Q (F0 m pc ls (va_rf (kad (1 + i)) :: r.map (x_V b kad)))
      rw [ek]
      rcases s_sfl hf with ⟨rfl, hl⟩ | ⟨rfl, hl⟩
      · have he := he.1 rfl
        subst he
        have kk : W p l e R s m args below meth c H locs cells slots Q (F0 m (pc + 3) ls (va_rf (kad (1000 + i)) :: r.map (x_V b kad))) := kk
        rw [e2] at kk
        exact vk_getf hexec hb e5 hS hown (hts _ hl) (fun _ z => z) hdg kk
      · have he := he.2 (by decide)
        subst he
        exact vk_getf hexec hb e4 hS hown (hts _ hl) (fun _ z => z) hdg kk
    obtain ⟨a, r, ci, fs, sl, ty, fl, v, rfl, hg, hf, hv, rfl⟩ := x_gf_inv q
    obtain ⟨C, T, N, ty0, hC, hsl, hw, hty, hnm2, -, -, -, hlink⟩ := s_fld hf
    have hv2 : (fs.map (x_V b kad))[sl]? = some (x_V b kad v) := by rw [List.getElem?_map, hv]; rfl
    rcases hlink with hlink | ⟨host, hlink⟩
    · exact va_get (D := D) (Ts := x_w) hexec hb hts hw hown hK hP a (x_get_ws hg) hC sl hsl (hts _ hlink) (fun _ z => z) hv2 hdg kk
    · exact va_getN (D := D) (Ts := x_w) hexec hb hts hw hown hK hP a (x_get_ws hg) hC sl hsl (va_Nw.use rfl (hN _ hlink)) (fun _ z => z) hv2 hdg kk
  case iaload => 
    rcases x_ia_inv (show x_ia (some sc) st h = some st' from q) with ⟨j, a, r, n, f, rfl, hg, hj, rfl⟩ | ⟨z, j, r, hz, rfl, hj, rfl⟩
    · exact va_iald (D := D) hexec hb hK hP a 0 (x_get_ws hg) (x_tys_get s_t0) (x_in_vp hj) hdg kk
    · cases hz
      show W p l e R s m args below meth c H locs cells slots Q (F0 m pc ls (.int j :: va_rf (kad 0) :: r.map (x_V b kad)))
      rw [esa]
      exact va_sld hexec hb hX (Nat.lt_of_lt_of_le hk0 hbz) hkA hS (x_in_vp hj) hdg kk
  case laload => 
    obtain ⟨j, a, r, n, f, rfl, hg, hj, rfl⟩ := x_la_inv q
    exact va_lald (D := D) hexec hb hK hP a 1 (x_get_ws hg) (x_tys_get s_t1) (x_in_vp hj) hdg kk
  case caload => 
    obtain ⟨j, a, r, n, f, rfl, hg, hj, rfl⟩ := x_ca_inv q
    exact va_cald (D := D) hexec hb hK hP a 2 (x_get_ws hg) (x_tys_get s_t2) (x_in_vp hj) hdg kk
  case baload => 
    rcases x_or_inv (show x_or (x_ca 3 st h) (x_bb st) = some st' from q) with q | q
    case inr =>
      obtain ⟨i, j, r, rfl, hi, hj, rfl⟩ := x_bb_inv q
      obtain ⟨qk, qv, e1, e2, e3, e4, e5, e6⟩ := hst i hi
      have ek : va_rf (kad (1000 + i)) = .ref qv := by rw [e2]; rfl
      show W p l e R s m args below meth c H locs cells slots Q (F0 m pc ls (.int j :: va_rf (kad (1000 + i)) :: r.map (x_V b kad)))
      rw [ek]
      exact va_tb hexec hb e6 hS (x_in_vp hj) rfl hdg kk
    obtain ⟨j, a, r, n, f, rfl, hg, hj, rfl⟩ := x_ca_inv q
    exact va_zald (D := D) hexec hb hK hP a 3 (x_get_ws hg) (x_tys_get s_t3) (x_in_vp hj) hdg kk
  case aaload => 
    obtain ⟨j, a, r, t, n, f, ci, rfl, hg, hc, hj, rfl⟩ := x_aa_inv q
    obtain ⟨r0, -, ht⟩ := s_cp hc
    refine va_aldq (D := D) hexec hb hK hP a t (x_get_ws hg) (x_tys_get ht) (x_in_vp hj) hdg ?_
    have e1 := x_V_rf b kad (f j.toNatClampNeg)
    rw [← e1]
    exact kk
  case arraylength => 
    rcases x_or_inv (show x_or (x_al (some sc) st h) (x_bl st) = some st' from q) with q | q
    case inr =>
      obtain ⟨i, r, rfl, hi, rfl⟩ := x_bl_inv q
      obtain ⟨qk, qv, e1, e2, e3, e4, e5, e6⟩ := hst i hi
      have ek : va_rf (kad (1000 + i)) = .ref qv := by rw [e2]; rfl
      show W p l e R s m args below meth c H locs cells slots Q (F0 m pc ls (va_rf (kad (1000 + i)) :: r.map (x_V b kad)))
      rw [ek]
      exact va_tlen hexec hb e6 hS rfl hdg kk
    rcases x_al_inv q with ⟨a, r, t, n, f, rfl, hg, ht, rfl⟩ | ⟨z, r, hz, rfl, rfl⟩
    · exact va_alen (D := D) hexec hb hK hP a t (x_get_ws hg) (x_tys_get (List.getElem?_eq_getElem ht)) rfl hdg kk
    · cases hz
      show W p l e R s m args below meth c H locs cells slots Q (F0 m pc ls (va_rf (kad 0) :: r.map (x_V b kad)))
      rw [esa]
      exact va_slen hexec hb hX (Nat.lt_of_lt_of_le hk0 hbz) hkA hS hdg kk
  case getstatic idx => 
    obtain ⟨c0, hc, he⟩ := x_gs_inv q
    rcases s_stt hc with ⟨rfl, hl⟩ | ⟨rfl, hl⟩
    · have he := he.1 rfl
      subst he
      exact va_gets hexec hb hZ1 hS hown (hts _ hl) (fun _ z => z) hdg kk
    · have he := he.2 (by decide)
      subst he
      exact va_gets hexec hb hZ2 hS hown (hts _ hl) (fun _ z => z) hdg kk
  case ldc idx => 
    rcases x_or_inv (show x_or (x_lc k idx st) (x_lcs k idx st) = some st' from q) with q | q
    case inr =>
      obtain ⟨v, hc, rfl⟩ := x_lcs_inv q
      obtain ⟨i, t, rfl, hi, hm⟩ := s_cons hc
      obtain ⟨q2, e1, e2⟩ := hsr _ hm
      have ek : va_rf (kad (1 + i)) = .ref q2 := by rw [e1]; rfl
      have kk : W p l e R s m args below meth c H locs cells slots Q (F0 m (pc + 2) ls (va_rf (kad (1 + i)) :: st.map (x_V b kad))) := kk
      rw [ek] at kk
      exact va_ldcS hexec hb hown e2 hdg kk
    obtain ⟨v, hc, rfl⟩ := x_lc_inv q
    exact lv_ldc hexec hb hown (hts _ (s_coni hc)) hdg kk
  case ldc_w idx => 
    obtain ⟨v, hc, rfl⟩ := x_lc_inv q
    exact lv_ldcw hexec hb hown (hts _ (s_coni hc)) hdg kk
  case ldc2_w idx => 
    obtain ⟨v, hc, rfl⟩ := x_ll2_inv q
    exact lv_ldc2 hexec hb hown (hts _ (s_conl hc)) hdg kk
theorem x_pf_inv {k idx : Nat} {st st' : List Value} {h h' : x_H} (q : x_pf k idx st h = some (st', h')) : ∃ (v : Value) (a : Nat) (ci : Nat) (fs : List Value) (sl : Nat) (ty : FieldType) (fl : Nat), st = v :: .ref a :: st' ∧ x_get h a = some (.inr (ci, fs)) ∧ x_fld k idx = some (ci, sl, ty, fl) ∧ x_fit ty v = true ∧ sl < fs.length ∧ fl < 2 ∧ h' = x_up h a (.inr (ci, fs.set sl v)) := by
  unfold x_pf at q
  split at q
  · split at q
    · rename_i hg
      split at q
      · rename_i hf
        split at q
        · rename_i e1
          obtain ⟨rfl, e2, e3, e4⟩ := e1
          cases q
          exact ⟨_, _, _, _, _, _, _, rfl, hg, hf, e2, e3, e4, rfl⟩
        · cases q
      · cases q
    · cases q
  · cases q
theorem x_is_inv {tt : Nat} {g : Int32 → Int32} {st st' : List Value} {h h' : x_H} (q : x_is tt g st h = some (st', h')) : ∃ (x j : Int32) (a n : Nat) (f : Nat → Int32), st = .int x :: .int j :: .ref a :: st' ∧ x_get h a = some (.inl (tt, n, .inl f)) ∧ x_in j n = true ∧ h' = x_up h a (.inl (tt, n, .inl (upd f j.toNatClampNeg (g x)))) := by
  unfold x_is at q
  split at q
  · split at q
    · rename_i hg
      split at q
      · rename_i e1
        obtain ⟨rfl, e2⟩ := e1
        cases q
        exact ⟨_, _, _, _, _, rfl, hg, e2, rfl⟩
      · cases q
    · cases q
  · cases q
theorem x_ls_inv {st st' : List Value} {h h' : x_H} (q : x_ls st h = some (st', h')) : ∃ (x : Int64) (j : Int32) (a n : Nat) (f : Nat → Int64), st = .long x :: .int j :: .ref a :: st' ∧ x_get h a = some (.inl (1, n, .inr (.inl f))) ∧ x_in j n = true ∧ h' = x_up h a (.inl (1, n, .inr (.inl (vp_updL f j.toNatClampNeg x)))) := by
  unfold x_ls at q
  split at q
  · split at q
    · rename_i hg
      split at q
      · rename_i e1
        obtain ⟨rfl, e2⟩ := e1
        cases q
        exact ⟨_, _, _, _, _, rfl, hg, e2, rfl⟩
      · cases q
    · cases q
  · cases q
theorem x_aok2_inv {d kd : Nat} {r : List Value} {sp dp n : Int32} {n0 n1 : Nat} (q : x_aok2 d kd r sp dp n n0 n1 = true) : kd = 8 ∧ ¬ d = 0 ∧ x_cs r ≤ 8 ∧ ¬ sp < 0 ∧ ¬ dp < 0 ∧ ¬ n < 0 ∧ sp.toNatClampNeg + n.toNatClampNeg ≤ n0 ∧ dp.toNatClampNeg + n.toNatClampNeg ≤ n1 := by
  unfold x_aok2 at q
  simpa only [Bool.and_eq_true, decide_eq_true_eq] using q
theorem x_aci_inv {d k idx : Nat} {st st' : List Value} {h h' : x_H} (q : x_aci d k idx st h = some (st', h')) : ∃ (n dp : Int32) (a1 : Nat) (sp : Int32) (a0 kc kd z n0 n1 : Nat) (f g : Nat → Int32), st = .int n :: .int dp :: .ref a1 :: .int sp :: .ref a0 :: st' ∧ x_mth k idx = some (kc, kd, z) ∧ x_get h a0 = some (.inl (0, n0, .inl f)) ∧ x_get h a1 = some (.inl (0, n1, .inl g)) ∧ x_aok2 d kd st' sp dp n n0 n1 = true ∧ h' = x_up h a1 (.inl (0, n1, .inl (va_cpy f g sp.toNatClampNeg dp.toNatClampNeg n.toNatClampNeg))) := by
  unfold x_aci at q
  split at q
  · split at q
    · rename_i hm
      split at q
      · rename_i h0
        split at q
        · rename_i h1
          split at q
          · rename_i e1
            obtain ⟨rfl, rfl, e2⟩ := e1
            cases q
            exact ⟨_, _, _, _, _, _, _, _, _, _, _, _, rfl, hm, h0, h1, e2, rfl⟩
          · cases q
        · cases q
      · cases q
    · cases q
  · cases q
theorem x_acl_inv {d k idx : Nat} {st st' : List Value} {h h' : x_H} (q : x_acl d k idx st h = some (st', h')) : ∃ (n dp : Int32) (a1 : Nat) (sp : Int32) (a0 kc kd z n0 n1 : Nat) (f g : Nat → Int64), st = .int n :: .int dp :: .ref a1 :: .int sp :: .ref a0 :: st' ∧ x_mth k idx = some (kc, kd, z) ∧ x_get h a0 = some (.inl (1, n0, .inr (.inl f))) ∧ x_get h a1 = some (.inl (1, n1, .inr (.inl g))) ∧ x_aok2 d kd st' sp dp n n0 n1 = true ∧ h' = x_up h a1 (.inl (1, n1, .inr (.inl (va_cpy f g sp.toNatClampNeg dp.toNatClampNeg n.toNatClampNeg)))) := by
  unfold x_acl at q
  split at q
  · split at q
    · rename_i hm
      split at q
      · rename_i h0
        split at q
        · rename_i h1
          split at q
          · rename_i e1
            obtain ⟨rfl, rfl, e2⟩ := e1
            cases q
            exact ⟨_, _, _, _, _, _, _, _, _, _, _, _, rfl, hm, h0, h1, e2, rfl⟩
          · cases q
        · cases q
      · cases q
    · cases q
  · cases q
theorem x_as_inv {st st' : List Value} {h h' : x_H} (q : x_as st h = some (st', h')) : ∃ (v : Nat) (j : Int32) (a t n : Nat) (f : Nat → Option Nat) (ci : Nat) (vs : List Value), st = .ref v :: .int j :: .ref a :: st' ∧ x_get h a = some (.inl (t, n, .inr (.inr (.inr (.inr f))))) ∧ x_get h v = some (.inr (ci, vs)) ∧ x_in j n = true ∧ x_cp t = some ci ∧ h' = x_up h a (.inl (t, n, .inr (.inr (.inr (.inr (va_up f j.toNatClampNeg (some v))))))) := by
  unfold x_as at q
  split at q
  · split at q
    · rename_i hg
      split at q
      · rename_i hv
        split at q
        · rename_i e1
          obtain ⟨e2, e3⟩ := e1
          cases q
          exact ⟨_, _, _, _, _, _, _, _, rfl, hg, hv, e2, e3, rfl⟩
        · cases q
      · cases q
    · cases q
  · cases q
set_option maxHeartbeats 4000000 in
theorem x_wr_ok (X : x_cx D dA b kad sc k p s m args meth c) {i : Instr} (hdg : decode (x_b k) pc = .ok (i, x_len i)) (hP : va_P D x_cl (x_ws dA b kad h) H) (hS : va_S (fun q => b ≤ q) s.heap H locs) {h' : x_H} {st st' : List Value} (hls : ls.size = x_nL k) {d : Nat} (hR : d ≤ R.frames ∧ 48 * d ≤ R.locals) (q : x_wr d k i st h = some (st', h'))
    (kk : ∀ (H1 : Heap) (locs1 : List Loc), va_P D x_cl (x_ws dA b kad h') H1 → va_S (fun q => b ≤ q) s.heap H1 locs1 → W p l e R s m args below meth c H1 locs1 cells slots Q (F0 m (pc + x_len i) ls (st'.map (x_V b kad)))) : W p l e R s m args below meth c H locs cells slots Q (F0 m pc ls (st.map (x_V b kad))) := by
  obtain ⟨⟨hexec, hb, hml, hrt, hlk, hnm, hown⟩, hts, ⟨hK, hN, hAO⟩, hKC, hbz⟩ := X
  cases i <;> first
    | (simp [x_wr] at q; done)
    | skip
  case putfield idx => 
    obtain ⟨v, a, ci, fs, sl, ty, fl, rfl, hg, hf, hfit, hl, hfl, rfl⟩ := x_pf_inv q
    obtain ⟨C, T, N, ty0, hC, hsl, hw, hty, hnm2, ety, hf0, hf1, hlink⟩ := s_fld hf
    obtain ⟨ha, -⟩ := x_get_inv hg
    have hl2 : sl < (fs.map (x_V b kad)).length := by rw [List.length_map]; exact hl
    obtain ⟨hn1, hn2⟩ := x_fit_ok (b := b) (kad := kad) hfit
    have hd : parseFieldDescriptor (T sl).2.2.1 = some ty := by rw [hty sl hsl, ety]
    have hin : ∀ w ∈ u_ws C T N, w ∈ x_w := hw
    have kk2 : ∀ (H1 : Heap) (locs1 : List Loc), va_P D x_cl ((x_ws dA b kad h).set a (b + a, .inr (ci, (fs.map (x_V b kad)).set sl (x_V b kad v)))) H1 → va_D (fun q => b ≤ q) ((x_ws dA b kad h).set a (b + a, .inr (ci, (fs.map (x_V b kad)).set sl (x_V b kad v)))) → va_S (fun q => b ≤ q) s.heap H1 locs1 → W p l e R s m args below meth c H1 locs1 cells slots Q (F0 m (pc + 3) ls (st'.map (x_V b kad))) := fun H1 locs1 hP1 _ hS1 => by
      refine kk H1 locs1 ?_ hS1
      rw [← x_ws_up ha]
      have e1 : x_E dA b kad (.inr (ci, fs.set sl v)) = .inr (ci, (fs.map (x_V b kad)).set sl (x_V b kad v)) := by simp [x_E, List.map_set]
      rw [e1]
      exact hP1
    by_cases h0 : fl = 0
    · rcases hlink with hlink | ⟨host, hlink⟩
      · exact va_put (D := D) (Ts := x_w) hexec hb hts hin ty0 hty hnm2 hown hK hP x_ws_D hS a (x_get_ws hg) hC sl hsl (hts _ hlink) (fun _ z => z) (hf0 h0) hd hn1 hn2 hl2 hdg kk2
      · exact va_putN (D := D) (Ts := x_w) hexec hb hts hin ty0 hty hnm2 hown hK hP x_ws_D hS a (x_get_ws hg) hC sl hsl (va_Nw.use rfl (hN _ hlink)) (fun _ z => z) (hf0 h0) hd hn1 hn2 hl2 hdg kk2
    · obtain ⟨g1, g2, g3, g4⟩ := hf1 (by omega)
      exact va_putF (D := D) (Ts := x_w) hexec hb hts hin ty0 hty hnm2 hown hK hP x_ws_D hS a (x_get_ws hg) hC sl hsl (hts _ g4) (fun _ z => z) g1 (hnm g2) g3 hd hn1 hn2 hl2 hdg kk2
  case invokestatic idx => 
    rcases x_or_inv (show x_or (x_aci d k idx st h) (x_acl d k idx st h) = some (st', h') from q) with q | q
    case inl =>
      replace q := x_aci_inv q
      obtain ⟨n, dp, a1, sp, a0, kc, kd, z, n0, n1, f, g, rfl, hm, g0, g1, hok, rfl⟩ := q
      obtain ⟨rfl, hd, hr, h1, h2, h3, h4, h5⟩ := x_aok2_inv hok
      obtain ⟨m1, m2, m3, m4⟩ := s_m8 hm
      obtain ⟨ha, -⟩ := x_get_inv g1
      have hr2 : ((st'.map (x_V b kad)).map fun v => v.category).sum ≤ 8 := by rw [x_cs_map]; exact hr
      refine va_copyi (D := D) hexec hb (by rw [hml, hls]) hown (hts _ m1) (hts _ m2) (hts _ m3) (hts _ m4) hK hP x_ws_D hS a0 a1 0 0 (x_get_ws g0) (x_get_ws g1) (x_tys_get s_t0) (x_tys_get s_t0) rfl h1 h2 h3 h4 h5 (fun _ _ => rfl) (by omega) (by show _ + (7 + 11) ≤ _; omega) hdg (fun H1 locs1 hP1 _ hS1 => kk H1 locs1 ?_ hS1)
      rw [← x_ws_up ha]
      exact hP1
    case inr =>
      replace q := x_acl_inv q
      obtain ⟨n, dp, a1, sp, a0, kc, kd, z, n0, n1, f, g, rfl, hm, g0, g1, hok, rfl⟩ := q
      obtain ⟨rfl, hd, hr, h1, h2, h3, h4, h5⟩ := x_aok2_inv hok
      obtain ⟨m1, m2, m3, m4⟩ := s_m8 hm
      obtain ⟨ha, -⟩ := x_get_inv g1
      have hr2 : ((st'.map (x_V b kad)).map fun v => v.category).sum ≤ 8 := by rw [x_cs_map]; exact hr
      refine va_copyl (D := D) hexec hb (by rw [hml, hls]) hown (hts _ m1) (hts _ m2) (hts _ m3) (hts _ m4) hK hP x_ws_D hS a0 a1 1 1 (x_get_ws g0) (x_get_ws g1) (x_tys_get s_t1) (x_tys_get s_t1) rfl h1 h2 h3 h4 h5 (fun _ _ => rfl) (by omega) (by show _ + (7 + 11) ≤ _; omega) hdg (fun H1 locs1 hP1 _ hS1 => kk H1 locs1 ?_ hS1)
      rw [← x_ws_up ha]
      exact hP1
  case iastore => 
    obtain ⟨x, j, a, n, f, rfl, hg, hj, rfl⟩ := x_is_inv q
    obtain ⟨ha, -⟩ := x_get_inv hg
    refine va_iast (D := D) hexec hb hK hP x_ws_D hS a 0 (x_get_ws hg) (x_tys_get s_t0) (x_in_vp hj) hdg (fun H1 locs1 hP1 _ hS1 => kk H1 locs1 ?_ hS1)
    rw [← x_ws_up ha]
    exact hP1
  case castore => 
    obtain ⟨x, j, a, n, f, rfl, hg, hj, rfl⟩ := x_is_inv q
    obtain ⟨ha, -⟩ := x_get_inv hg
    refine va_cast (D := D) hexec hb hK hP x_ws_D hS a 2 (x_get_ws hg) (x_tys_get s_t2) (x_in_vp hj) hdg (fun H1 locs1 hP1 _ hS1 => kk H1 locs1 ?_ hS1)
    rw [← x_ws_up ha]
    exact hP1
  case bastore => 
    obtain ⟨x, j, a, n, f, rfl, hg, hj, rfl⟩ := x_is_inv q
    obtain ⟨ha, -⟩ := x_get_inv hg
    refine va_zast (D := D) hexec hb hK hP x_ws_D hS a 3 (x_get_ws hg) (x_tys_get s_t3) (x_in_vp hj) hdg (fun H1 locs1 hP1 _ hS1 => kk H1 locs1 ?_ hS1)
    rw [← x_ws_up ha]
    exact hP1
  case lastore => 
    obtain ⟨x, j, a, n, f, rfl, hg, hj, rfl⟩ := x_ls_inv q
    obtain ⟨ha, -⟩ := x_get_inv hg
    refine va_last (D := D) hexec hb hK hP x_ws_D hS a 1 (x_get_ws hg) (x_tys_get s_t1) (x_in_vp hj) hdg (fun H1 locs1 hP1 _ hS1 => kk H1 locs1 ?_ hS1)
    rw [← x_ws_up ha]
    exact hP1
  case aastore => 
    obtain ⟨v, j, a, t, n, f, ci, vs, rfl, hg, hv, hj, hc, rfl⟩ := x_as_inv q
    obtain ⟨ha, -⟩ := x_get_inv hg
    obtain ⟨r0, hr0, ht⟩ := s_cp hc
    refine va_astq (D := D) hexec hb hK hP x_ws_D hS a t v ci (x_get_ws hg) (x_tys_get ht) (x_get_ws hv) hr0 (x_in_vp hj) hdg (fun H1 locs1 hP1 _ hS1 => kk H1 locs1 ?_ hS1)
    rw [← x_ws_up ha]
    have e1 : x_E dA b kad (.inl (t, n, .inr (.inr (.inr (.inr (va_up f j.toNatClampNeg (some v))))))) = .inl (dA t, n, .inr (.inr (.inr (.inr (va_up (fun i => (f i).map (fun a => b + a)) j.toNatClampNeg (some (b + v))))))) := by
      simp only [x_E, x_A]
      rw [x_A_up]
    rw [e1]
    exact hP1
theorem x_no_inv {k idx : Nat} {st st' : List Value} {h h' : x_H} (q : x_no k idx st h = some (st', h')) : ∃ (ci : Nat) (fs : List Value), x_cls k idx = some (ci, fs) ∧ st' = .ref h.2.1 :: st ∧ h' = x_nw h (.inr (ci, fs)) fs.length := by
  unfold x_no at q
  split at q
  · rename_i hc
    cases q
    exact ⟨_, _, hc, rfl, rfl⟩
  · cases q
theorem x_na_inv {ty : Jvm.ClassFile.ArrayType} {st st' : List Value} {h h' : x_H} (q : x_na ty st h = some (st', h')) : ∃ (n : Int32) (r : List Value) (e : x_C), st = .int n :: r ∧ ¬ n < 0 ∧ n.toNatClampNeg ≤ 65536 ∧ x_a0 ty n.toNatClampNeg = some e ∧ st' = .ref h.2.1 :: r ∧ h' = x_nw h e n.toNatClampNeg := by
  unfold x_na at q
  split at q
  · split at q
    · cases q
    · rename_i hn
      split at q
      · rename_i he
        cases q
        exact ⟨_, _, _, rfl, fun z => hn (Or.inl z), Nat.not_lt.mp (fun z => hn (Or.inr z)), he, rfl, rfl⟩
      · cases q
  · cases q
theorem x_nr_inv {k idx : Nat} {st st' : List Value} {h h' : x_H} (q : x_nr k idx st h = some (st', h')) : ∃ (n : Int32) (r : List Value) (t : Nat), st = .int n :: r ∧ ¬ n < 0 ∧ n.toNatClampNeg ≤ 65536 ∧ x_anw k idx = some t ∧ st' = .ref h.2.1 :: r ∧ h' = x_nw h (.inl (t, n.toNatClampNeg, .inr (.inr (.inr (.inr (fun _ => none)))))) n.toNatClampNeg := by
  unfold x_nr at q
  split at q
  · split at q
    · cases q
    · rename_i hn
      split at q
      · rename_i he
        cases q
        exact ⟨_, _, _, rfl, fun z => hn (Or.inl z), Nat.not_lt.mp (fun z => hn (Or.inr z)), he, rfl, rfl⟩
      · cases q
  · cases q
theorem x_K_last {D : va_G} {dA : Nat → ClassId} {U : State} {t : Nat} {ty : FieldType} {cA : ClassId} (hK : va_K D x_cl (x_tys dA) U) (hK2 : va_K D x_cl (x_tys dA ++ [(cA, ty)]) U) (ht : x_ty[t]? = some ty) : cA = dA t := by
  have h1 := (hK.2 t _ (x_tys_get ht)).2
  have h2 := (hK2.2 (x_tys dA).length (cA, ty) (by simp)).2
  exact x_RA_eq h2 h1
set_option maxHeartbeats 4000000 in
theorem x_mk_ok (X : x_cx D dA b kad sc k p s m args meth c) {i : Instr} (hdg : decode (x_b k) pc = .ok (i, x_len i)) {n0 s0 : Nat} (hz : s.heap.size = b + n0) (hn0 : n0 ≤ h.2.1) (hs0 : s0 ≤ h.2.2) (hP : va_P D x_cl (x_ws dA b kad h) H) (hS : va_S (fun q => b ≤ q) s.heap H locs) {h' : x_H} {st st' : List Value} (q : x_mk k i st h = some (st', h')) (hc : h'.2.1 - n0 ≤ R.cells ∧ h'.2.2 - s0 ≤ R.slots)
    (kk : ∀ (H1 : Heap), va_P D x_cl (x_ws dA b kad h') H1 → va_S (fun q => b ≤ q) s.heap H1 locs → W p l e R s m args below meth c H1 locs (h'.2.1 - n0) (h'.2.2 - s0) Q (F0 m (pc + x_len i) ls (st'.map (x_V b kad)))) : W p l e R s m args below meth c H locs (h.2.1 - n0) (h.2.2 - s0) Q (F0 m pc ls (st.map (x_V b kad))) := by
  obtain ⟨⟨hexec, hb, hml, hrt, hlk, hnm, hown⟩, hts, ⟨hK, hN, hAO⟩, hKC, hbz⟩ := X
  have hA : ∀ q : Nat, s.heap.size ≤ q → (fun q => b ≤ q) q := fun q z => Nat.le_trans hbz z
  cases i <;> first
    | (simp [x_mk] at q; done)
    | skip
  case new idx => 
    obtain ⟨ci, fs, hcl, rfl, rfl⟩ := x_no_inv q
    obtain ⟨C, T, N, ty0, hC, hw, hty, hlink, hinst, hini, hlen, hfs, hnr⟩ := s_cls hcl
    subst hlen
    have h1 : (x_nw h (.inr (ci, fs)) fs.length).2.1 = h.2.1 + 1 := rfl
    have h2 : (x_nw h (.inr (ci, fs)) fs.length).2.2 = h.2.2 + fs.length := rfl
    rw [h1, h2] at hc
    have em : fs.map (x_V b kad) = fs := by
      conv => rhs; rw [← List.map_id fs]
      apply List.map_congr_left
      intro v hv
      rcases hnr v hv with rfl | rfl | rfl <;> rfl
    refine va_new (D := D) (Ts := x_w) hexec hb hts hw ty0 hty hown (hts _ hlink) (hts _ hinst) (hts _ hini) hK hP x_ws_D hS hA hC hfs (by omega) (by omega) hdg (fun q1 H1 hP1 hD1 hS1 => ?_)
    refine x_cap (fun hcap => ?_)
    have e1 : q1 = b + h.2.1 := x_new_q hP1 hD1 (by omega)
    subst e1
    refine W.widen (k := (x_nw h (.inr (ci, fs)) fs.length).2.1 - n0) (n := (x_nw h (.inr (ci, fs)) fs.length).2.2 - s0) (by rw [h1]; omega) (by rw [h2]; omega) ?_
    refine kk H1 ?_ hS1
    rw [x_ws_nw]
    have e2 : x_E dA b kad (.inr (ci, fs)) = .inr (ci, fs) := by simp only [x_E]; rw [em]
    rw [e2]
    exact hP1
  case newarray ty => 
    obtain ⟨n, r, e0, rfl, hn, hn2, he, rfl, rfl⟩ := x_na_inv q
    have h1 : (x_nw h e0 n.toNatClampNeg).2.1 = h.2.1 + 1 := rfl
    have h2 : (x_nw h e0 n.toNatClampNeg).2.2 = h.2.2 + n.toNatClampNeg := rfl
    rw [h1, h2] at hc
    have fin : ∀ (t : Nat) (ty1 : FieldType) (a0 : vp_A), x_ty[t]? = some ty1 → e0 = .inl (t, a0) → x_E dA b kad (.inl (t, a0)) = .inl (dA t, a0) → ∀ (q1 : Nat) (cA : ClassId) (H1 : Heap), va_K D x_cl (x_tys dA ++ [(cA, ty1)]) s → va_P D x_cl (x_ws dA b kad h ++ [(q1, .inl (cA, a0))]) H1 → va_D (fun q => b ≤ q) (x_ws dA b kad h ++ [(q1, .inl (cA, a0))]) → va_S (fun q => b ≤ q) s.heap H1 locs → W p l e R s m args below meth c H1 locs (h.2.1 - n0 + 1) (h.2.2 - s0 + n.toNatClampNeg) Q (F0 m (pc + 2) ls (.ref q1 :: r.map (x_V b kad))) := fun t ty1 a0 ht e1 ex q1 cA H1 hK1 hP1 hD1 hS1 => by
      refine x_cap (fun hcap => ?_)
      have e2 : q1 = b + h.2.1 := x_new_q hP1 hD1 (by omega)
      have e3 : cA = dA t := x_K_last hK hK1 ht
      subst e2
      subst e3
      refine W.widen (k := (x_nw h e0 n.toNatClampNeg).2.1 - n0) (n := (x_nw h e0 n.toNatClampNeg).2.2 - s0) (by rw [h1]; omega) (by rw [h2]; omega) ?_
      refine kk H1 ?_ hS1
      rw [x_ws_nw, e1, ex]
      exact hP1
    cases ty <;> first
      | (simp [x_a0] at he; done)
      | skip
    · have he : some (Sum.inl (3, n.toNatClampNeg, .inl (fun _ => 0))) = some e0 := he
      exact va_newa (D := D) (atype := .boolean) (a0 := (n.toNatClampNeg, .inl (fun _ => 0))) hexec hb (hts _ s_a3) rfl hK hP x_ws_D hS hA (fun _ => rfl) hn rfl (show n.toNatClampNeg * 1 ≤ 536870912 by omega) (by omega) (by omega) hdg (fin 3 .boolean (n.toNatClampNeg, .inl (fun _ => 0)) s_t3 (Option.some.inj he).symm rfl)
    · have he : some (Sum.inl (2, n.toNatClampNeg, .inl (fun _ => 0))) = some e0 := he
      exact va_newa (D := D) (atype := .char) (a0 := (n.toNatClampNeg, .inl (fun _ => 0))) hexec hb (hts _ s_a2) rfl hK hP x_ws_D hS hA (fun _ => rfl) hn rfl (show n.toNatClampNeg * 2 ≤ 536870912 by omega) (by omega) (by omega) hdg (fin 2 .char (n.toNatClampNeg, .inl (fun _ => 0)) s_t2 (Option.some.inj he).symm rfl)
    · have he : some (Sum.inl (0, n.toNatClampNeg, .inl (fun _ => 0))) = some e0 := he
      exact va_newa (D := D) (atype := .int) (a0 := (n.toNatClampNeg, .inl (fun _ => 0))) hexec hb (hts _ s_a0) rfl hK hP x_ws_D hS hA (fun _ => rfl) hn rfl (show n.toNatClampNeg * 4 ≤ 536870912 by omega) (by omega) (by omega) hdg (fin 0 .int (n.toNatClampNeg, .inl (fun _ => 0)) s_t0 (Option.some.inj he).symm rfl)
    · have he : some (Sum.inl (1, n.toNatClampNeg, .inr (.inl (fun _ => 0)))) = some e0 := he
      exact va_newa (D := D) (atype := .long) (a0 := (n.toNatClampNeg, .inr (.inl (fun _ => 0)))) hexec hb (hts _ s_a1) rfl hK hP x_ws_D hS hA (fun _ => rfl) hn rfl (show n.toNatClampNeg * 8 ≤ 536870912 by omega) (by omega) (by omega) hdg (fin 1 .long (n.toNatClampNeg, .inr (.inl (fun _ => 0))) s_t1 (Option.some.inj he).symm rfl)
  case anewarray idx => 
    obtain ⟨n, r, t, rfl, hn, hn2, ht0, rfl, rfl⟩ := x_nr_inv q
    obtain ⟨C, hlink, ht, hao⟩ := s_anw ht0
    have h1 : (x_nw h (.inl (t, n.toNatClampNeg, .inr (.inr (.inr (.inr (fun _ => none)))))) n.toNatClampNeg).2.1 = h.2.1 + 1 := rfl
    have h2 : (x_nw h (.inl (t, n.toNatClampNeg, .inr (.inr (.inr (.inr (fun _ => none)))))) n.toNatClampNeg).2.2 = h.2.2 + n.toNatClampNeg := rfl
    rw [h1, h2] at hc
    refine va_newq (D := D) hexec hb hown (hts _ hlink) (hAO _ hao) hK hP x_ws_D hS hA hn rfl (by omega) (by omega) (by omega) hdg (fun q1 cA H1 hK1 hP1 hD1 hS1 => ?_)
    refine x_cap (fun hcap => ?_)
    have e2 : q1 = b + h.2.1 := x_new_q hP1 hD1 (by omega)
    have e3 : cA = dA t := x_K_last hK hK1 ht
    subst e2
    subst e3
    refine W.widen (k := (x_nw h (.inl (t, n.toNatClampNeg, .inr (.inr (.inr (.inr (fun _ => none)))))) n.toNatClampNeg).2.1 - n0) (n := (x_nw h (.inl (t, n.toNatClampNeg, .inr (.inr (.inr (.inr (fun _ => none)))))) n.toNatClampNeg).2.2 - s0) (by rw [h1]; omega) (by rw [h2]; omega) ?_
    refine kk H1 ?_ hS1
    rw [x_ws_nw]
    exact hP1
theorem x_oi_inv {d k idx : Nat} {st st' : List Value} (q : x_oi d k idx st = some st') : ∃ (a kc n : Nat), st = .ref a :: st' ∧ x_mth k idx = some (kc, 3, n) ∧ ¬ d = 0 ∧ x_cs st' ≤ 8 := by
  unfold x_oi at q
  split at q
  · rename_i hm
    split at q
    · split at q
      · rename_i e1
        obtain ⟨rfl, e2, e3⟩ := e1
        cases q
        exact ⟨_, _, _, rfl, hm, e2, e3⟩
      · cases q
    · cases q
  · cases q
theorem x_mm_inv {d k idx : Nat} {st st' : List Value} (q : x_mm d k idx st = some st') : ∃ (x y : Int32) (r : List Value) (kc n : Nat), st = .int y :: .int x :: r ∧ x_mth k idx = some (kc, 4, n) ∧ ¬ d = 0 ∧ x_cs r ≤ 8 ∧ st' = .int (if y < x then y else x) :: r := by
  unfold x_mm at q
  split at q
  · rename_i hm
    split at q
    · split at q
      · rename_i e1
        obtain ⟨rfl, e2, e3⟩ := e1
        cases q
        exact ⟨_, _, _, _, _, rfl, hm, e2, e3, rfl⟩
      · cases q
    · cases q
  · cases q
theorem x_mx_inv {d k idx : Nat} {st st' : List Value} (q : x_mx d k idx st = some st') : ∃ (x y : Int32) (r : List Value) (kc n : Nat), st = .int y :: .int x :: r ∧ x_mth k idx = some (kc, 6, n) ∧ ¬ d = 0 ∧ x_cs r ≤ 8 ∧ st' = .int (if x < y then y else x) :: r := by
  unfold x_mx at q
  split at q
  · rename_i hm
    split at q
    · split at q
      · rename_i e1
        obtain ⟨rfl, e2, e3⟩ := e1
        cases q
        exact ⟨_, _, _, _, _, rfl, hm, e2, e3, rfl⟩
      · cases q
    · cases q
  · cases q
set_option maxHeartbeats 4000000 in
theorem x_now_ok (X : x_cx D dA b kad sc k p s m args meth c) {i : Instr} (hdg : decode (x_b k) pc = .ok (i, x_len i)) (hls : ls.size = x_nL k) {d : Nat} (hR : d ≤ R.frames ∧ 48 * d ≤ R.locals) (hc : cells ≤ R.cells ∧ slots ≤ R.slots) {st st' : List Value} (q : x_now d k i st = some st')
    (kk : W p l e R s m args below meth c H locs cells slots Q (F0 m (pc + 3) ls (st'.map (x_V b kad)))) : W p l e R s m args below meth c H locs cells slots Q (F0 m pc ls (st.map (x_V b kad))) := by
  obtain ⟨⟨hexec, hb, hml, hrt, hlk, hnm, hown⟩, hts, ⟨hK, hN, hAO⟩, hKC, hbz⟩ := X
  cases i <;> first
    | (simp [x_now] at q; done)
    | skip
  case invokespecial idx => 
    obtain ⟨a, kc, n, rfl, hm, hd, hr⟩ := x_oi_inv q
    obtain ⟨g1, g2, g3⟩ := s_m3 hm
    have hr2 : ((st'.map (x_V b kad)).map fun v => v.category).sum ≤ 8 := by rw [x_cs_map]; exact hr
    exact W.objInit hexec hb hown (hts _ g1) (hts _ g2) (hts _ g3) rfl (by rw [hml]; exact hls) rfl hdg (by omega) (by show 2 * 0 + _ + 12 ≤ _; omega) kk
  case invokestatic idx => 
    rcases x_or_inv (show x_or (x_mm d k idx st) (x_mx d k idx st) = some st' from q) with q | q
    case inl =>
      obtain ⟨x, y, r, kc, n, rfl, hm, hd, hr, rfl⟩ := x_mm_inv q
      obtain ⟨g1, g2, g3, g4⟩ := s_m4 hm
      have hr2 : ((r.map (x_V b kad)).map fun v => v.category).sum ≤ 8 := by rw [x_cs_map]; exact hr
      exact va_mmin hexec hb (by rw [hml, hls]) hown (hts _ g1) (hts _ g2) (hts _ g3) (hts _ g4) (by omega) (by omega) hc.1 hc.2 hdg kk
    case inr =>
      obtain ⟨x, y, r, kc, n, rfl, hm, hd, hr, rfl⟩ := x_mx_inv q
      obtain ⟨g1, g2, g3, g4⟩ := s_m6 hm
      have hr2 : ((r.map (x_V b kad)).map fun v => v.category).sum ≤ 8 := by rw [x_cs_map]; exact hr
      exact va_mmax hexec hb (by rw [hml, hls]) hown (hts _ g1) (hts _ g2) (hts _ g3) (hts _ g4) (by omega) (by omega) hc.1 hc.2 hdg kk
end XT
section XU
variable {p : Program} {l : Launch} {e : Env} {R : Room} {s : State} {m : MethodId} {args : Array Value} {below : List Frame} {meth : Method} {c : Code} {H : Heap} {locs : List Loc} {cells slots : Nat} {Q : State → Prop}
variable {pc : Nat} {ls : Array Slot} {b : Nat} {kad : Nat → Option Nat} {D : va_G} {dA : Nat → ClassId} {sc : x_Z} {k : Nat} {h : x_H}
theorem x_one_inv {sc : x_S} {d k : Nat} {i : Instr} {pc pc' : Nat} {lv lv' : x_L} {st st' : List Value} {h h' : x_H} (q : x_one sc d k i pc lv st h = some (pc', lv', st', h')) :
    (x_pop i st = some st' ∧ pc' = pc + x_len i ∧ lv' = lv ∧ h' = h) ∨ (x_lod i lv st = some st' ∧ pc' = pc + x_len i ∧ lv' = lv ∧ h' = h) ∨ (x_sto (x_nL k) i lv st = some (lv', st') ∧ pc' = pc + x_len i ∧ h' = h) ∨ (x_jmp i pc st = some (pc', st') ∧ lv' = lv ∧ h' = h) ∨
    (x_rd sc k i st h = some st' ∧ pc' = pc + x_len i ∧ lv' = lv ∧ h' = h) ∨ (x_wr d k i st h = some (st', h') ∧ pc' = pc + x_len i ∧ lv' = lv) ∨ (x_mk k i st h = some (st', h') ∧ pc' = pc + x_len i ∧ lv' = lv) ∨ (x_now d k i st = some st' ∧ pc' = pc + 3 ∧ lv' = lv ∧ h' = h) := by
  unfold x_one at q
  split at q
  · rename_i e1
    cases q
    exact Or.inl ⟨e1, rfl, rfl, rfl⟩
  · split at q
    · rename_i e1
      cases q
      exact Or.inr (Or.inl ⟨e1, rfl, rfl, rfl⟩)
    · split at q
      · rename_i e1
        cases q
        exact Or.inr (Or.inr (Or.inl ⟨e1, rfl, rfl⟩))
      · split at q
        · rename_i e1
          cases q
          exact Or.inr (Or.inr (Or.inr (Or.inl ⟨e1, rfl, rfl⟩)))
        · split at q
          · rename_i e1
            cases q
            exact Or.inr (Or.inr (Or.inr (Or.inr (Or.inl ⟨e1, rfl, rfl, rfl⟩))))
          · split at q
            · rename_i e1
              cases q
              exact Or.inr (Or.inr (Or.inr (Or.inr (Or.inr (Or.inl ⟨e1, rfl, rfl⟩)))))
            · split at q
              · rename_i e1
                cases q
                exact Or.inr (Or.inr (Or.inr (Or.inr (Or.inr (Or.inr (Or.inl ⟨e1, rfl, rfl⟩))))))
              · split at q
                · rename_i e1
                  cases q
                  exact Or.inr (Or.inr (Or.inr (Or.inr (Or.inr (Or.inr (Or.inr ⟨e1, rfl, rfl, rfl⟩))))))
                · cases q
theorem x_wr_mono {d k : Nat} {i : Instr} {st st' : List Value} {h h' : x_H} (q : x_wr d k i st h = some (st', h')) : h'.2 = h.2 := by
  cases i <;> first
    | (simp [x_wr] at q; done)
    | (obtain ⟨_, _, _, _, _, _, _, _, _, _, _, _, _, rfl⟩ := x_pf_inv q; rfl)
    | (obtain ⟨_, _, _, _, _, _, _, _, rfl⟩ := x_is_inv q; rfl)
    | (obtain ⟨_, _, _, _, _, _, _, _, rfl⟩ := x_ls_inv q; rfl)
    | (obtain ⟨_, _, _, _, _, _, _, _, _, _, _, _, _, rfl⟩ := x_as_inv q; rfl)
    | (rcases x_or_inv q with q | q; (obtain ⟨_, _, _, _, _, _, _, _, _, _, _, _, _, _, _, _, _, rfl⟩ := x_aci_inv q; rfl); (obtain ⟨_, _, _, _, _, _, _, _, _, _, _, _, _, _, _, _, _, rfl⟩ := x_acl_inv q; rfl))
theorem x_mk_mono {k : Nat} {i : Instr} {st st' : List Value} {h h' : x_H} (q : x_mk k i st h = some (st', h')) : h.2.1 ≤ h'.2.1 ∧ h.2.2 ≤ h'.2.2 := by
  cases i <;> first
    | (simp [x_mk] at q; done)
    | (obtain ⟨_, _, _, _, rfl⟩ := x_no_inv q; exact ⟨Nat.le_succ _, Nat.le_add_right _ _⟩)
    | (obtain ⟨_, _, _, _, _, _, _, _, rfl⟩ := x_na_inv q; exact ⟨Nat.le_succ _, Nat.le_add_right _ _⟩)
    | (obtain ⟨_, _, _, _, _, _, _, _, rfl⟩ := x_nr_inv q; exact ⟨Nat.le_succ _, Nat.le_add_right _ _⟩)
theorem x_one_mono {sc : x_S} {d k : Nat} {i : Instr} {pc pc' : Nat} {lv lv' : x_L} {st st' : List Value} {h h' : x_H} (q : x_one sc d k i pc lv st h = some (pc', lv', st', h')) : h.2.1 ≤ h'.2.1 ∧ h.2.2 ≤ h'.2.2 := by
  rcases x_one_inv q with ⟨-, -, -, rfl⟩ | ⟨-, -, -, rfl⟩ | ⟨-, -, rfl⟩ | ⟨-, -, rfl⟩ | ⟨-, -, -, rfl⟩ | ⟨q1, -, -⟩ | ⟨q1, -, -⟩ | ⟨-, -, -, rfl⟩
  · exact ⟨Nat.le_refl _, Nat.le_refl _⟩
  · exact ⟨Nat.le_refl _, Nat.le_refl _⟩
  · exact ⟨Nat.le_refl _, Nat.le_refl _⟩
  · exact ⟨Nat.le_refl _, Nat.le_refl _⟩
  · exact ⟨Nat.le_refl _, Nat.le_refl _⟩
  · rw [x_wr_mono q1]
    exact ⟨Nat.le_refl _, Nat.le_refl _⟩
  · exact x_mk_mono q1
  · exact ⟨Nat.le_refl _, Nat.le_refl _⟩
theorem x_run_mono {sc : x_S} : ∀ (f d k pc : Nat) (lv : x_L) (st : List Value) (h : x_H) (r : Option Value) (h' : x_H), x_run sc f d k pc lv st h = some (r, h') → h.2.1 ≤ h'.2.1 ∧ h.2.2 ≤ h'.2.2
  | 0, d, k, pc, lv, st, h, r, h', q => by cases q
  | f + 1, d, k, pc, lv, st, h, r, h', q => by
    have q : x_bd sc (x_run sc f) d k pc lv st h = some (r, h') := q
    unfold x_bd at q
    split at q
    · cases q
    · split at q
      · rename_i e1
        have a1 := x_one_mono e1
        have a2 := x_run_mono f _ _ _ _ _ _ _ _ q
        exact ⟨Nat.le_trans a1.1 a2.1, Nat.le_trans a1.2 a2.2⟩
      · split at q
        · cases q
          exact ⟨Nat.le_refl _, Nat.le_refl _⟩
        · split at q
          · split at q
            · split at q
              · cases q
              · split at q
                · rename_i e1
                  have a1 := x_run_mono f _ _ _ _ _ _ _ _ e1
                  have a2 := x_run_mono f _ _ _ _ _ _ _ _ q
                  exact ⟨Nat.le_trans a1.1 a2.1, Nat.le_trans a1.2 a2.2⟩
                · cases q
            · cases q
          · cases q
theorem x_len_sl (vs : List Value) : (lg_sl vs).length = x_cs vs := by
  induction vs with
  | nil => rfl
  | cons v vs ih =>
    have h1 : lg_sl (v :: vs) = (if v.category = 2 then [Slot.val v, .second] else [.val v]) ++ lg_sl vs := rfl
    have h2 : x_cs (v :: vs) = v.category + x_cs vs := by simp [x_cs]
    rw [h1, h2, List.length_append, ih]
    rcases lv_cat v with e | e
    · simp [e]
    · simp [e]
theorem x_ri_inv {rt : Option FieldType} {st : List Value} {r : Option Value} (q : x_ri rt st = some r) : ∃ x : Int32, st = [.int x] ∧ r = some (.int x) ∧ (rt = some .int ∨ ∃ ty, rt = some ty ∧ narrow ty (.int x) = .int x) := by
  unfold x_ri at q
  split at q
  · split at q
    · cases q
      exact ⟨_, rfl, rfl, Or.inl rfl⟩
    · split at q
      · rename_i e1
        cases q
        exact ⟨_, rfl, rfl, Or.inr ⟨_, rfl, congrArg Value.int e1⟩⟩
      · cases q
    · split at q
      · rename_i e1
        cases q
        exact ⟨_, rfl, rfl, Or.inr ⟨_, rfl, congrArg Value.int e1⟩⟩
      · cases q
    · split at q
      · rename_i e1
        cases q
        exact ⟨_, rfl, rfl, Or.inr ⟨_, rfl, congrArg Value.int e1⟩⟩
      · cases q
    · cases q
  · cases q
theorem x_rl_inv {rt : Option FieldType} {st : List Value} {r : Option Value} (q : x_rl rt st = some r) : ∃ x : Int64, st = [.long x] ∧ r = some (.long x) ∧ rt = some .long := by
  unfold x_rl at q
  split at q
  · split at q
    · cases q
      exact ⟨_, rfl, rfl, rfl⟩
    · cases q
  · cases q
theorem x_ra_inv {rt : Option FieldType} {st : List Value} {r : Option Value} (q : x_ra rt st = some r) : ∃ (a : Nat) (ty : FieldType), st = [.ref a] ∧ r = some (.ref a) ∧ rt = some ty ∧ ((∃ n, ty = .object n) ∨ ∃ t, ty = .array t) := by
  unfold x_ra at q
  split at q
  · split at q
    · cases q
      exact ⟨_, _, rfl, rfl, rfl, Or.inl ⟨_, rfl⟩⟩
    · cases q
      exact ⟨_, _, rfl, rfl, rfl, Or.inr ⟨_, rfl⟩⟩
    · cases q
  · cases q
theorem x_rv_inv {rt : Option FieldType} {st : List Value} {r : Option Value} (q : x_rv rt st = some r) : st = [] ∧ r = none ∧ rt = none := by
  unfold x_rv at q
  split at q
  · split at q
    · cases q
      exact ⟨rfl, rfl, rfl⟩
    · cases q
  · cases q
set_option maxHeartbeats 4000000 in
theorem x_end_ok (X : x_cx D dA b kad sc k p s m args meth c) {i : Instr} (hdg : decode (x_b k) pc = .ok (i, x_len i)) (hP : va_P D x_cl (x_ws dA b kad h) H) (hS : va_S (fun q => b ≤ q) s.heap H locs) {st : List Value} {r : Option Value} (q : x_end k i st = some r) :
    W p l e R s m args below meth c H locs cells slots (MQ below (x_Q D dA b kad r h) args s cells slots (fun q => b ≤ q)) (F0 m pc ls (st.map (x_V b kad))) := by
  obtain ⟨⟨hexec, hb, hml, hrt, hlk, hnm, hown⟩, hts, ⟨hK, hN, hAO⟩, hKC, hbz⟩ := X
  cases i <;> first
    | (simp [x_end] at q; done)
    | skip
  case areturn => 
    obtain ⟨a, ty, rfl, rfl, e1, e2⟩ := x_ra_inv q
    rw [e1] at hrt
    exact W.aret (v := .ref (b + a)) hexec hb hrt e2 (Or.inr ⟨_, rfl⟩) (fun t ht _ => ⟨⟨rfl, by rw [ht]; exact hP⟩, hS.F ht⟩) hS.2.2 hdg hlk
  case ireturn => 
    obtain ⟨x, rfl, rfl, e1 | ⟨ty, e1, e2⟩⟩ := x_ri_inv q
    · rw [e1] at hrt
      exact W.iret hexec hb hrt (fun t ht _ => ⟨⟨rfl, by rw [ht]; exact hP⟩, hS.F ht⟩) hS.2.2 hdg hlk
    · rw [e1] at hrt
      exact W.zret hexec hb hrt e2 (fun t ht _ => ⟨⟨rfl, by rw [ht]; exact hP⟩, hS.F ht⟩) hS.2.2 hdg hlk
  case lreturn => 
    obtain ⟨x, rfl, rfl, e1⟩ := x_rl_inv q
    rw [e1] at hrt
    exact W.lret hexec hb hrt (fun t ht _ => ⟨⟨rfl, by rw [ht]; exact hP⟩, hS.F ht⟩) hS.2.2 hdg hlk
  case return_ => 
    obtain ⟨rfl, rfl, e1⟩ := x_rv_inv q
    rw [e1] at hrt
    exact W.vret hexec hb hrt (fun t ht _ => ⟨⟨rfl, by rw [ht]; exact hP⟩, hS.F ht⟩) hS.2.2 hdg hlk
theorem x_callk {pc : Nat} {rest st0 : List Value} {a : Array Value} {mc ms : Nat} {v : Option Value} {h1 : x_H} (hr : va_Run p l e R s m args below meth c H locs cells slots mc ms (F0 m pc ls st0) rest (x_Q D dA b kad v h1 a) (fun q => b ≤ q)) (hS : va_S (fun q => b ≤ q) s.heap H locs)
    (kk : ∀ (H1 : Heap) (locs1 : List Loc), va_P D x_cl (x_ws dA b kad h1) H1 → va_S (fun q => b ≤ q) s.heap H1 locs1 → W p l e R s m args below meth c H1 locs1 (cells + mc) (slots + ms) Q (F0 m (pc + 3) ls ((v.map (x_V b kad)).toList ++ rest))) : W p l e R s m args below meth c H locs cells slots Q (F0 m pc ls st0) := by
  intro T hT X
  obtain ⟨v', st₀, t, T', L, h0, X', hL, e1, e2, ⟨⟨hv, hp⟩, hz, hk⟩, st⟩ := hr T hT X
  cases hv
  rw [h0] at hz hk
  obtain ⟨t2, a1, b1⟩ := kk T'.heap (locs ++ L) (by rw [e1]; exact hp)
    ⟨Nat.le_trans hS.1 (by rw [e1]; exact hz), fun q h1 h2 => by rw [e1, hk q (Nat.lt_of_lt_of_le h1 hS.1) h2]; exact hS.2.1 q h1 h2, fun q hq => by
      rcases List.mem_append.mp hq with h | h
      · exact hS.2.2 q h
      · exact hL q h⟩ T' rfl X'
  exact ⟨t2, st t2 a1, b1⟩
theorem x_good (kc : Nat) (hc : Jvm.Cond.code (x_y kc) (x_b kc) (x_nL kc) (x_rt kc) ∈ x_w) : GoodIn x_w (x_wsk kc) := by
  intro w hw
  have hw2 : w ∈ x_w := by
    rcases List.mem_cons.mp hw with rfl | h1
    · exact hc
    · exact h1
  exact ⟨hw2, s_good w hw2⟩
theorem x_pre (X : x_cx D dA b kad sc k p s m args meth c) {as : List Value} (hz : H.size = b + h.2.1) (hP : va_P D x_cl (x_ws dA b kad h) H) (hS : va_S (fun q => b ≤ q) s.heap H locs) : PreS s H (x_Pc D dA b kad sc as h) (as.map (x_V b kad)) := by
  obtain ⟨-, -, hVM, hKC, hbz⟩ := X
  exact ⟨x_Pc_blind, fun U hU hW => ⟨rfl, by rw [hU]; exact hz, by rw [hU]; exact hP, x_VM_warm hW hVM, x_KC_warm hKC hbz hW (by rw [hU]; exact hS)⟩⟩
theorem x_c0_inv {k idx kc : Nat} {st as r : List Value} (q : x_c0 k idx st = some (kc, as, r)) : x_mth k idx = some (kc, 0, as.length) ∧ st = as.reverse ++ r ∧ x_cs r ≤ 8 := by
  unfold x_c0 at q
  split at q
  · rename_i hm
    split at q
    · rename_i e1
      obtain ⟨rfl, e2, e3⟩ := e1
      cases q
      refine ⟨?_, ?_, e3⟩
      · rw [hm]
        simp [Nat.min_eq_left e2]
      · rw [List.reverse_reverse, List.take_append_drop]
    · cases q
  · cases q
theorem x_c1_inv {k idx kc : Nat} {st as r : List Value} {h : x_H} (q : x_c1 k idx st h = some (kc, as, r)) : ∃ (a : Nat) (as2 : List Value) (fs : List Value), as = .ref a :: as2 ∧ x_mth k idx = some (kc, 1, as2.length) ∧ st = as2.reverse ++ .ref a :: r ∧ x_get h a = some (.inr (x_own kc, fs)) ∧ x_cs r ≤ 8 := by
  unfold x_c1 at q
  split at q
  · rename_i hm
    split at q
    · rename_i e1
      obtain ⟨rfl, e2⟩ := e1
      split at q
      · rename_i a r0 hd
        split at q
        · rename_i hg
          split at q
          · rename_i e3
            obtain ⟨rfl, e4⟩ := e3
            cases q
            refine ⟨_, _, _, rfl, ?_, ?_, hg, e4⟩
            · rw [hm]
              simp [Nat.min_eq_left e2]
            · rw [List.reverse_reverse, ← hd, List.take_append_drop]
          · cases q
        · cases q
      · cases q
    · cases q
  · cases q
theorem x_c2_inv {k idx kc : Nat} {st as r : List Value} (q : x_c2 k idx st = some (kc, as, r)) : ∃ (a : Nat) (as2 : List Value), as = .ref a :: as2 ∧ x_mth k idx = some (kc, 2, as2.length) ∧ st = as2.reverse ++ .ref a :: r ∧ x_cs r ≤ 8 := by
  unfold x_c2 at q
  split at q
  · rename_i hm
    split at q
    · rename_i e1
      obtain ⟨rfl, e2⟩ := e1
      split at q
      · rename_i a r0 hd
        split at q
        · rename_i e4
          cases q
          refine ⟨_, _, rfl, ?_, ?_, e4⟩
          · rw [hm]
            simp [Nat.min_eq_left e2]
          · rw [List.reverse_reverse, ← hd, List.take_append_drop]
        · cases q
      · cases q
    · cases q
  · cases q
theorem x_c7_inv {k idx kc : Nat} {st as r : List Value} (q : x_c7 k idx st = some (kc, as, r)) : ∃ (i : Nat) (as2 : List Value), as = .retAddr (1 + i) :: as2 ∧ x_mth k idx = some (kc, 7, as2.length) ∧ st = as2.reverse ++ .retAddr (1 + i) :: r ∧ i < x_gn ∧ x_cs r ≤ 8 := by
  unfold x_c7 at q
  split at q
  · rename_i hm
    split at q
    · rename_i e1
      obtain ⟨rfl, e2⟩ := e1
      split at q
      · rename_i q0 r0 hd
        split at q
        · rename_i e3
          obtain ⟨e4, e5, e6⟩ := e3
          cases q
          have e7 : 1 + (q0 - 1) = q0 := by omega
          refine ⟨q0 - 1, _, by rw [e7], ?_, ?_, by omega, e6⟩
          · rw [hm]
            simp [Nat.min_eq_left e2]
          · rw [e7, List.reverse_reverse, ← hd, List.take_append_drop]
        · cases q
      · cases q
    · cases q
  · cases q
theorem x_cal_ok0 {k kc : Nat} {i : Instr} {st as r : List Value} {h : x_H} (q : x_cal k i st h = some (kc, as, r)) : x_mok k (match i with | .invokestatic j => j | .invokevirtual j => j | .invokespecial j => j | _ => 0) kc := by
  cases i <;> first
    | (simp [x_cal] at q; done)
    | skip
  case invokestatic idx =>
    obtain ⟨hm, -⟩ := x_c0_inv q
    exact (s_m0 hm).1
  case invokevirtual idx =>
    rcases x_or_inv (show x_or (x_c1 k idx st h) (x_c7 k idx st) = some (kc, as, r) from q) with q | q
    · obtain ⟨_, _, _, -, hm, -⟩ := x_c1_inv q
      exact (s_m1 hm).1
    · obtain ⟨_, _, -, hm, -⟩ := x_c7_inv q
      exact (s_m7 hm).1
  case invokespecial idx =>
    obtain ⟨_, _, -, hm, -⟩ := x_c2_inv q
    exact (s_m2 hm).1
set_option maxHeartbeats 4000000 in
theorem x_cal_ok (X : x_cx D dA b kad sc k p s m args meth c) {i : Instr} (hdg : decode (x_b k) pc = .ok (i, x_len i)) (hls : ls.size = x_nL k) (hz : H.size = b + h.2.1) (hP : va_P D x_cl (x_ws dA b kad h) H) (hS : va_S (fun q => b ≤ q) s.heap H locs) {d kc mc ms : Nat} {st as r : List Value} {v : Option Value} {h1 : x_H} (q : x_cal k i st h = some (kc, as, r)) (hR : d + 1 ≤ R.frames ∧ 48 * (d + 1) ≤ R.locals)
    (hM : Met l (x_y kc) (x_wsk kc) (x_rm d mc ms) (x_Pc D dA b kad sc as h) (x_Q D dA b kad v h1) mc ms (fun q => b ≤ q)) (hc : cells + mc ≤ R.cells ∧ slots + ms ≤ R.slots)
    (kk : ∀ (H1 : Heap) (locs1 : List Loc), va_P D x_cl (x_ws dA b kad h1) H1 → va_S (fun q => b ≤ q) s.heap H1 locs1 → W p l e R s m args below meth c H1 locs1 (cells + mc) (slots + ms) Q (F0 m (pc + 3) ls ((v.toList ++ r).map (x_V b kad)))) : W p l e R s m args below meth c H locs cells slots Q (F0 m pc ls (st.map (x_V b kad))) := by
  have hpre := x_pre X (as := as) hz hP hS
  obtain ⟨⟨hexec, hb, hml, hrt, hlk, hnm, hown⟩, hts, ⟨hK, hN, hAO⟩, hKC, hbz⟩ := X
  have hmok := x_cal_ok0 q
  obtain ⟨c1, c2, c3, c4, c5, c6⟩ := hmok
  have hG := x_good kc c1
  have hini : (Jvm.Cond.initialized (x_y kc).cls).before args s = true := hts _ c2
  have hRR : (x_rm d mc ms).frames + 1 ≤ R.frames ∧ 8 + (x_nL kc + 11) + (x_rm d mc ms).locals ≤ R.locals := by
    show d + 1 ≤ R.frames ∧ 8 + (x_nL kc + 11) + 48 * d ≤ R.locals
    omega
  have ev : (v.toList ++ r).map (x_V b kad) = (v.map (x_V b kad)).toList ++ r.map (x_V b kad) := by
    cases v <;> simp
  rw [ev] at kk
  have hF : CallFix p m c (x_b k) (x_nL k) s args x_w (x_y k).cls := ⟨hexec, hb, hml, hown, hts⟩
  cases i <;> first
    | (simp [x_cal] at q; done)
    | skip
  case invokestatic idx => 
    obtain ⟨hm, rfl, hr⟩ := x_c0_inv q
    obtain ⟨-, g1⟩ := s_m0 hm
    have c6 : Jvm.Cond.methodLink (x_y k).cls idx (x_y kc) ∈ x_w ∨ ∃ host, Jvm.Cond.methodLinkNest (x_y k).cls idx (x_y kc) host ∈ x_nest := c6
    have hd3 := (s_m0 hm).2.2
    have hst := hts _ g1.1
    have hrm := lv_room (m := m) (pc := pc) (ls := ls) (rest := ((as.reverse ++ r).map (x_V b kad))) (st := r.map (x_V b kad)) (by rw [x_cs_map]; exact hr)
    have hsk : (F0 m pc ls ((as.reverse ++ r).map (x_V b kad))).stack = (as.map (x_V b kad)).reverse ++ r.map (x_V b kad) := by show (as.reverse ++ r).map (x_V b kad) = _; rw [List.map_append, List.map_reverse]
    rcases c6 with hl | ⟨host, hl⟩
    · exact x_callk (va_runS hF hM ⟨callB_of as.length hts hG rfl rfl rfl hini (hts _ hl) ⟨c3.1, c3.2, hd3⟩ hRR, hst⟩ hpre rfl (by rw [List.length_map]) hls hsk hrm hdg hc) hS kk
    · exact x_callk (va_runSN hF hM ⟨va_cnB as.length hts hG rfl rfl rfl (hN _ hl) hini ⟨c3.1, c3.2, hd3⟩ hRR, hst, trivial⟩ hpre rfl (by rw [List.length_map]) hls hsk hrm hdg hc) hS kk
  case invokevirtual idx => 
    rcases x_or_inv (show x_or (x_c1 k idx st h) (x_c7 k idx st) = some (kc, as, r) from q) with q | q
    case inr =>
      obtain ⟨i, as2, rfl, hm, rfl, hi, hr⟩ := x_c7_inv q
      obtain ⟨-, g1, g2, hsel⟩ := s_m7 hm
      have c6 : Jvm.Cond.methodLink (x_y k).cls idx (x_y kc) ∈ x_w ∨ ∃ host, Jvm.Cond.methodLinkNest (x_y k).cls idx (x_y kc) host ∈ x_nest := c6
      have hin := hts _ g1
      have hsl := hts _ hsel
      obtain ⟨qk, qv, e1, -, e3, -⟩ := hKC.1.2.1 i hi
      have ek : x_V b kad (.retAddr (1 + i)) = .ref qk := by show va_rf (kad (1 + i)) = _; rw [e1]; rfl
      have hrm := lv_room (m := m) (pc := pc) (ls := ls) (rest := ((as2.reverse ++ .retAddr (1 + i) :: r).map (x_V b kad))) (st := r.map (x_V b kad)) (by rw [x_cs_map]; exact hr)
      have hsk : (F0 m pc ls ((as2.reverse ++ .retAddr (1 + i) :: r).map (x_V b kad))).stack = (as2.map (x_V b kad)).reverse ++ .ref qk :: r.map (x_V b kad) := by show (as2.reverse ++ .retAddr (1 + i) :: r).map (x_V b kad) = _; rw [List.map_append, List.map_reverse, List.map_cons, ek]
      have hrc : ∃ cell : Cell, H[qk]? = some cell ∧ cell.vm.isStatics = false ∧ s.vm.findClass "java/lang/String" = some cell.cls := by
        obtain ⟨cell, f1, f2, f3, f4⟩ := e3
        have hlt : qk < s.heap.size := (Array.getElem?_eq_some_iff.mp f1).1
        exact ⟨cell, by rw [hS.2.1 qk hlt f4]; exact f1, f2, f3⟩
      have hpre : PreS s H (x_Pc D dA b kad sc (.retAddr (1 + i) :: as2) h) (.ref qk :: as2.map (x_V b kad)) := by
        rw [List.map_cons, ek] at hpre
        exact hpre
      rcases c6 with hl | ⟨host, hl⟩
      · exact x_callk (va_runV (C := "java/lang/String") hF hM ⟨callB_of as2.length hts hG rfl rfl rfl hini (hts _ hl) ⟨c3.1, c3.2, g2⟩ hRR, hin, hsl⟩ ⟨hpre.1, hrc, hpre.2⟩ rfl (by rw [List.length_map]) hls hsk hrm hdg hc) hS kk
      · exact x_callk (va_runVN (C := "java/lang/String") hF hM ⟨va_cnB as2.length hts hG rfl rfl rfl (hN _ hl) hini ⟨c3.1, c3.2, g2⟩ hRR, hin, hsl⟩ ⟨hpre.1, hrc, hpre.2⟩ rfl (by rw [List.length_map]) hls hsk hrm hdg hc) hS kk
    obtain ⟨a, as2, fs, rfl, hm, rfl, hg, hr⟩ := x_c1_inv q
    obtain ⟨-, g1, g2, C, T, N, hC, hsel⟩ := s_m1 hm
    have c6 : Jvm.Cond.methodLink (x_y k).cls idx (x_y kc) ∈ x_w ∨ ∃ host, Jvm.Cond.methodLinkNest (x_y k).cls idx (x_y kc) host ∈ x_nest := c6
    have hin := hts _ g1
    have hsl := hts _ hsel
    have hrm := lv_room (m := m) (pc := pc) (ls := ls) (rest := ((as2.reverse ++ .ref a :: r).map (x_V b kad))) (st := r.map (x_V b kad)) (by rw [x_cs_map]; exact hr)
    have hsk : (F0 m pc ls ((as2.reverse ++ .ref a :: r).map (x_V b kad))).stack = (as2.map (x_V b kad)).reverse ++ .ref (b + a) :: r.map (x_V b kad) := by show (as2.reverse ++ .ref a :: r).map (x_V b kad) = _; rw [List.map_append, List.map_reverse]; rfl
    have hrc := va_recv (D := D) hK hP hC (x_get_ws hg)
    rcases c6 with hl | ⟨host, hl⟩
    · exact x_callk (va_runV (C := C) hF hM ⟨callB_of as2.length hts hG rfl rfl rfl hini (hts _ hl) ⟨c3.1, c3.2, g2⟩ hRR, hin, hsl⟩ ⟨hpre.1, hrc, hpre.2⟩ rfl (by rw [List.length_map]) hls hsk hrm hdg hc) hS kk
    · exact x_callk (va_runVN (C := C) hF hM ⟨va_cnB as2.length hts hG rfl rfl rfl (hN _ hl) hini ⟨c3.1, c3.2, g2⟩ hRR, hin, hsl⟩ ⟨hpre.1, hrc, hpre.2⟩ rfl (by rw [List.length_map]) hls hsk hrm hdg hc) hS kk
  case invokespecial idx => 
    obtain ⟨a, as2, rfl, hm, rfl, hr⟩ := x_c2_inv q
    obtain ⟨-, g1, g2, g3, g4⟩ := s_m2 hm
    have c6 : Jvm.Cond.methodLink (x_y k).cls idx (x_y kc) ∈ x_w ∨ ∃ host, Jvm.Cond.methodLinkNest (x_y k).cls idx (x_y kc) host ∈ x_nest := c6
    have hin := hts _ g1
    have hrm := lv_room (m := m) (pc := pc) (ls := ls) (rest := ((as2.reverse ++ .ref a :: r).map (x_V b kad))) (st := r.map (x_V b kad)) (by rw [x_cs_map]; exact hr)
    have hsk : (F0 m pc ls ((as2.reverse ++ .ref a :: r).map (x_V b kad))).stack = (as2.map (x_V b kad)).reverse ++ .ref (b + a) :: r.map (x_V b kad) := by show (as2.reverse ++ .ref a :: r).map (x_V b kad) = _; rw [List.map_append, List.map_reverse]; rfl
    have hw0 : x_wsk kc = Jvm.Cond.code (x_y kc) (x_b kc) (x_nL kc) none :: x_w := by unfold x_wsk; rw [g4]
    rcases c6 with hl | ⟨host, hl⟩
    · exact x_callk (va_runI hF hM ⟨callB_of as2.length hts hG hw0 rfl rfl hini (hts _ hl) ⟨c3.1, c3.2, g2⟩ hRR, g3, hin⟩ hpre rfl (by rw [List.length_map]) hls hsk hrm hdg hc) hS kk
    · exact x_callk (va_runIN hF hM ⟨va_cnB as2.length hts hG hw0 rfl rfl (hN _ hl) hini ⟨c3.1, c3.2, g2⟩ hRR, g3, hin⟩ hpre rfl (by rw [List.length_map]) hls hsk hrm hdg hc) hS kk
end XU
/-- what x_sim says of a body at fuel f -/
def x_SM (l : Launch) (D : va_G) (dA : Nat → ClassId) (b : Nat) (kad : Nat → Option Nat) (sc : x_Z) (f : Nat) : Prop := ∀ (d k pc : Nat) (lv : x_L) (st : List Value) (h : x_H) (r : Option Value) (h' : x_H), x_run (some sc) f d k pc lv st h = some (r, h') →
  ∀ (p : Program) (e : Env) (R : Room) (s : State) (m : MethodId) (args : Array Value) (below : List Frame) (meth : Method) (c : Code) (H : Heap) (locs : List Loc) (ls : Array Slot) (n0 s0 : Nat), x_cx D dA b kad sc k p s m args meth c → s.heap.size = b + n0 → n0 ≤ h.2.1 → s0 ≤ h.2.2 → x_LV b kad ls (x_nL k) lv → va_P D x_cl (x_ws dA b kad h) H → va_S (fun q => b ≤ q) s.heap H locs → d ≤ R.frames ∧ 48 * d ≤ R.locals → h'.2.1 - n0 ≤ R.cells ∧ h'.2.2 - s0 ≤ R.slots →
  W p l e R s m args below meth c H locs (h.2.1 - n0) (h.2.2 - s0) (MQ below (x_Q D dA b kad r h') args s (h'.2.1 - n0) (h'.2.2 - s0) (fun q => b ≤ q)) (F0 m pc ls (st.map (x_V b kad)))
theorem x_met {l : Launch} {D : va_G} {dA : Nat → ClassId} {b : Nat} {kad : Nat → Option Nat} {sc : x_Z} {f : Nat} (ih : x_SM l D dA b kad sc f) {d kc : Nat} {as : List Value} {h h1 : x_H} {v : Option Value} (hp : plainName (x_y kc).cls = true) (has : x_cs as ≤ x_nL kc) (q : x_run (some sc) f d kc 0 (x_en 0 as) [] h = some (v, h1)) :
    Met l (x_y kc) (x_wsk kc) (x_rm d (h1.2.1 - h.2.1) (h1.2.2 - h.2.2)) (x_Pc D dA b kad sc as h) (x_Q D dA b kad v h1) (h1.2.1 - h.2.1) (h1.2.2 - h.2.2) (fun q => b ≤ q) := by
  refine Met.ofW (cc := x_b kc) (maxL := x_nL kc) (ret := x_rt kc) hp rfl ?_
  intro p e s m args below meth c s₁ B hml hv
  obtain ⟨rfl, hsz, hP, hVM, hKC⟩ := hv
  have hts : ∀ w ∈ x_w, w.before (as.map (x_V b kad)).toArray s = true := fun w hw => atoms_spec (ws := x_wsk kc) B.pre w (List.mem_cons_of_mem _ hw)
  have hown : s.vm.findClass (x_y kc).cls = some m.cls := findClass_of_methodNamed B.named
  have hl := lv_entry (as.map (x_V b kad)) (n := x_nL kc) (by
    rw [x_len_sl]
    have e1 : x_cs (as.map (x_V b kad)) = x_cs as := x_cs_map b kad as
    rw [e1]
    exact has)
  rw [lg_entry_eq]
  generalize (lg_sl (as.map (x_V b kad)) ++ List.replicate (x_nL kc - (lg_sl (as.map (x_V b kad))).length) Slot.unset).toArray = ls at hl ⊢
  have hW := ih d kc 0 (x_en 0 as) [] h v h1 q p e (headSpec (x_wsk kc) (x_rm d (h1.2.1 - h.2.1) (h1.2.2 - h.2.2))).room s m (as.map (x_V b kad)).toArray below meth c s.heap [] ls h.2.1 h.2.2
    ⟨⟨B.exec, B.bytes, hml, B.returns, B.notSynchronized, fun hh => (name_of_methodNamed B.named B.method).1.trans hh, hown⟩, hts, hVM, hKC, by rw [hsz]; exact Nat.le_add_right _ _⟩ hsz (Nat.le_refl _) (Nat.le_refl _) (x_LV_en hl) hP va_S.rf ⟨Nat.le_refl _, Nat.le_refl _⟩ ⟨Nat.le_refl _, Nat.le_refl _⟩
  rw [Nat.sub_self, Nat.sub_self] at hW
  exact hW
set_option maxHeartbeats 4000000 in
theorem x_sim {l : Launch} {D : va_G} {dA : Nat → ClassId} {b : Nat} {kad : Nat → Option Nat} {sc : x_Z} : ∀ f : Nat, x_SM l D dA b kad sc f
  | 0 => by
    intro d k pc lv st h r h' q
    cases q
  | f + 1 => by
    have ih := x_sim (l := l) (D := D) (dA := dA) (b := b) (kad := kad) (sc := sc) f
    intro d k pc lv st h r h' q p e R s m args below meth c H locs ls n0 s0 X hz hn0 hs0 hl hP hS hR hc
    have q : x_bd (some sc) (x_run (some sc) f) d k pc lv st h = some (r, h') := q
    unfold x_bd at q
    split at q
    · cases q
    · rename_i i hi
      obtain ⟨len, hdg, hlen⟩ := s_dec hi
      split at q
      · rename_i pc' lv' st' h2 e1
        have hm1 := x_one_mono e1
        have hm2 := x_run_mono f _ _ _ _ _ _ _ _ q
        have go : ∀ (H1 : Heap) (locs1 : List Loc) (ls1 : Array Slot), x_LV b kad ls1 (x_nL k) lv' → va_P D x_cl (x_ws dA b kad h2) H1 → va_S (fun q => b ≤ q) s.heap H1 locs1 → W p l e R s m args below meth c H1 locs1 (h2.2.1 - n0) (h2.2.2 - s0) (MQ below (x_Q D dA b kad r h') args s (h'.2.1 - n0) (h'.2.2 - s0) (fun q => b ≤ q)) (F0 m pc' ls1 (st'.map (x_V b kad))) := fun H1 locs1 ls1 a1 a2 a3 =>
          ih d k pc' lv' st' h2 r h' q p e R s m args below meth c H1 locs1 ls1 n0 s0 X hz (Nat.le_trans hn0 hm1.1) (Nat.le_trans hs0 hm1.2) a1 a2 a3 hR hc
        have hexec := X.1.1
        have hb := X.1.2.1
        rcases x_one_inv e1 with ⟨q1, rfl, rfl, rfl⟩ | ⟨q1, rfl, rfl, rfl⟩ | ⟨q1, rfl, rfl⟩ | ⟨q1, rfl, rfl⟩ | ⟨q1, rfl, rfl, rfl⟩ | ⟨q1, rfl, rfl⟩ | ⟨q1, rfl, rfl⟩ | ⟨q1, rfl, rfl, rfl⟩
        · have hsw : x_sw i = false := by cases i <;> first | rfl | (simp [x_pop] at q1; done)
          cases hlen hsw
          exact x_pop_ok hexec hb hdg q1 (go H locs ls hl hP hS)
        · have hsw : x_sw i = false := by cases i <;> first | rfl | (simp [x_lod] at q1; done)
          cases hlen hsw
          exact x_lod_ok hexec hb X.2.2.2.1.2.2 hdg hl q1 (go H locs ls hl hP hS)
        · have hsw : x_sw i = false := by cases i <;> first | rfl | (simp [x_sto] at q1; done)
          cases hlen hsw
          exact x_sto_ok hexec hb hdg hl q1 (fun ls1 a1 => go H locs ls1 a1 hP hS)
        · exact x_jmp_ok hexec hb hdg hlen q1 (go H locs ls hl hP hS)
        · have hsw : x_sw i = false := by cases i <;> first | rfl | (simp [x_rd] at q1; done)
          cases hlen hsw
          exact x_rd_ok X hdg hP hS q1 (go H locs ls hl hP hS)
        · have hsw : x_sw i = false := by cases i <;> first | rfl | (simp [x_wr] at q1; done)
          cases hlen hsw
          have e2 := x_wr_mono q1
          refine x_wr_ok X hdg hP hS hl.1 hR q1 (fun H1 locs1 a1 a2 => ?_)
          have a3 := go H1 locs1 ls hl a1 a2
          rw [e2] at a3
          exact a3
        · have hsw : x_sw i = false := by cases i <;> first | rfl | (simp [x_mk] at q1; done)
          cases hlen hsw
          exact x_mk_ok X hdg hz hn0 hs0 hP hS q1 ⟨by omega, by omega⟩ (fun H1 a1 a2 => go H1 locs ls hl a1 a2)
        · have hsw : x_sw i = false := by cases i <;> first | rfl | (simp [x_now] at q1; done)
          cases hlen hsw
          exact x_now_ok X hdg hl.1 hR ⟨by omega, by omega⟩ q1 (go H locs ls hl hP hS)
      · split at q
        · rename_i r2 e1
          cases q
          have hsw : x_sw i = false := by cases i <;> first | rfl | (simp [x_end] at e1; done)
          cases hlen hsw
          exact x_end_ok X hdg hP hS e1
        · split at q
          · rename_i kc as r2 e1
            have hsw : x_sw i = false := by cases i <;> first | rfl | (simp [x_cal] at e1; done)
            cases hlen hsw
            split at q
            · rename_i has
              split at q
              · cases q
              · rename_i d'
                split at q
                · rename_i v h1 e2
                  have hm1 := x_run_mono f _ _ _ _ _ _ _ _ e2
                  have hm2 := x_run_mono f _ _ _ _ _ _ _ _ q
                  have hM := x_met ih (x_cal_ok0 e1).2.2.2.2.1 has e2
                  refine x_cap (fun hcap => ?_)
                  have hsz := x_size hP hz hn0 hS.1 hcap
                  refine x_cal_ok X hdg hl.1 hsz hP hS e1 hR hM ⟨by omega, by omega⟩ (fun H1 locs1 a1 a2 => ?_)
                  have a3 := ih _ _ _ _ _ _ _ _ q p e R s m args below meth c H1 locs1 ls n0 s0 X hz (by omega) (by omega) hl a1 a2 hR hc
                  refine W.widen (k := h1.2.1 - n0) (n := h1.2.2 - s0) (by omega) (by omega) ?_
                  exact a3
                · cases q
            · cases q
          · cases q
end
section
/-! Walking by the machine of part 03: x_T sc d k pc lv st h Q: from here the method ends, and Q holds of its answer and the cells. -/
def x_T (sc : x_S) (d k pc : Nat) (lv : x_L) (st : List Value) (h : x_H) (Q : Option Value → x_H → Prop) : Prop := ∃ (f : Nat) (r : Option Value) (h' : x_H), x_run sc f d k pc lv st h = some (r, h') ∧ Q r h'
theorem x_one_end {sc : x_S} {d k pc : Nat} {i : Instr} {lv : x_L} {st : List Value} {h : x_H} {r : Option Value} (q : x_end k i st = some r) : x_one sc d k i pc lv st h = none := by
  cases i <;> first
    | (simp [x_end] at q; done)
    | rfl
theorem x_cal_end {k : Nat} {i : Instr} {st : List Value} {h : x_H} {y : Nat × List Value × List Value} (q : x_cal k i st h = some y) : x_end k i st = none := by
  cases i <;> first
    | (simp [x_cal] at q; done)
    | rfl
theorem x_one_cal {sc sc' : x_S} {d k pc : Nat} {i : Instr} {lv : x_L} {st : List Value} {h : x_H} {y : Nat × List Value × List Value} (h1 : x_one sc d k i pc lv st h = none) (q : x_cal k i st h = some y) : x_one sc' d k i pc lv st h = none := by
  cases i <;> first
    | (simp [x_cal] at q; done)
    | exact h1
theorem x_ia_sc {sc' : x_S} {st st' : List Value} {h : x_H} (q : x_ia none st h = some st') : x_ia sc' st h = some st' := by
  rcases x_ia_inv q with ⟨j, a, r, n, f, rfl, hg, hj, rfl⟩ | ⟨z, j, r, hz, -⟩
  · simp [x_ia, hg, hj]
  · cases hz
theorem x_al_sc {sc' : x_S} {st st' : List Value} {h : x_H} (q : x_al none st h = some st') : x_al sc' st h = some st' := by
  rcases x_al_inv q with ⟨a, r, t, n, f, rfl, hg, ht, rfl⟩ | ⟨z, r, hz, -⟩
  · simp [x_al, hg, ht]
  · cases hz
theorem x_rl_sc {sc' : x_S} {st st' : List Value} {h : x_H} (q : x_or (x_al none st h) (x_bl st) = some st') : x_or (x_al sc' st h) (x_bl st) = some st' := by
  rcases x_or_inv q with q1 | q1
  · rw [x_al_sc (sc' := sc') q1]
    rfl
  · obtain ⟨i, r, rfl, hi, rfl⟩ := x_bl_inv q1
    have e : x_al sc' (.retAddr (1000 + i) :: r) h = none := by
      unfold x_al
      simp only
      split
      · split
        · omega
        · rfl
      · rfl
    rw [e]
    exact q1
theorem x_one_sc {sc sc' : x_S} (hs : sc = none ∨ sc = sc') {d k pc : Nat} {i : Instr} {lv : x_L} {st : List Value} {h : x_H} {y : Nat × x_L × List Value × x_H} (h1 : x_one sc d k i pc lv st h = some y) : x_one sc' d k i pc lv st h = some y := by
  rcases hs with rfl | rfl
  · cases i <;> first
      | exact h1
      | skip
    case arraylength =>
      cases hq : x_or (x_al none st h) (x_bl st) with
      | none => simp [x_one, x_pop, x_lod, x_sto, x_jmp, x_rd, x_wr, x_mk, x_now, hq] at h1
      | some st' =>
        have h2 := x_rl_sc (sc' := sc') hq
        simp [x_one, x_pop, x_lod, x_sto, x_jmp, x_rd, hq] at h1
        simp [x_one, x_pop, x_lod, x_sto, x_jmp, x_rd, h2, h1]
    case iaload =>
      cases hq : x_ia none st h with
      | none => simp [x_one, x_pop, x_lod, x_sto, x_jmp, x_rd, x_wr, x_mk, x_now, hq] at h1
      | some st' =>
        have h2 := x_ia_sc (sc' := sc') hq
        simp [x_one, x_pop, x_lod, x_sto, x_jmp, x_rd, hq] at h1
        simp [x_one, x_pop, x_lod, x_sto, x_jmp, x_rd, h2, h1]
  · exact h1
theorem x_bd_mono {sc sc' : x_S} {F G : x_F} (hs : sc = none ∨ sc = sc') (hFG : ∀ d k pc lv st h x, F d k pc lv st h = some x → G d k pc lv st h = some x) {d k pc : Nat} {lv : x_L} {st : List Value} {h : x_H} {x : Option Value × x_H} (q : x_bd sc F d k pc lv st h = some x) : x_bd sc' G d k pc lv st h = some x := by
  unfold x_bd at q ⊢
  cases hi : x_ins k pc with
  | none => rw [hi] at q; cases q
  | some i =>
    rw [hi] at q
    simp only at q ⊢
    cases h1 : x_one sc d k i pc lv st h with
    | some y =>
      have h2 : x_one sc' d k i pc lv st h = some y := x_one_sc hs h1
      rw [h1] at q
      rw [h2]
      exact hFG _ _ _ _ _ _ _ q
    | none =>
      rw [h1] at q
      simp only at q
      cases h3 : x_end k i st with
      | some r =>
        rw [h3] at q
        have h2 : x_one sc' d k i pc lv st h = none := x_one_end h3
        rw [h2]
        exact q
      | none =>
        rw [h3] at q
        simp only at q
        cases h4 : x_cal k i st h with
        | none => rw [h4] at q; cases q
        | some y =>
          obtain ⟨kc, as, r⟩ := y
          rw [h4] at q
          have h2 : x_one sc' d k i pc lv st h = none := x_one_cal h1 h4
          rw [h2]
          simp only at q ⊢
          split at q
          · rename_i h5
            rw [if_pos h5]
            cases d with
            | zero => cases q
            | succ d' =>
              simp only at q ⊢
              cases h6 : F d' kc 0 (x_en 0 as) [] h with
              | none => rw [h6] at q; cases q
              | some y =>
                rw [h6] at q
                rw [hFG _ _ _ _ _ _ _ h6]
                exact hFG _ _ _ _ _ _ _ q
          · cases q
theorem x_run_up {sc sc' : x_S} (hs : sc = none ∨ sc = sc') : ∀ (f n d k pc : Nat) (lv : x_L) (st : List Value) (h : x_H) (x : Option Value × x_H), x_run sc f d k pc lv st h = some x → x_run sc' (f + n) d k pc lv st h = some x
  | 0, n, d, k, pc, lv, st, h, x, q => by cases q
  | f + 1, n, d, k, pc, lv, st, h, x, q => by
    have e1 : f + 1 + n = (f + n) + 1 := by omega
    rw [e1]
    exact x_bd_mono hs (fun d k pc lv st h x q => x_run_up hs f n d k pc lv st h x q) q
section XW
variable {sc : x_S} {d k pc : Nat} {lv : x_L} {st : List Value} {h : x_H} {Q : Option Value → x_H → Prop}
theorem x_T_none {sc : x_S} (t : x_T none d k pc lv st h Q) : x_T sc d k pc lv st h Q := by
  obtain ⟨f, r, h', q, hq⟩ := t
  exact ⟨f, r, h', x_run_up (Or.inl rfl) f 0 d k pc lv st h _ q, hq⟩
theorem x_T_mono {Q' : Option Value → x_H → Prop} (t : x_T sc d k pc lv st h Q) (hQ : ∀ r h', Q r h' → Q' r h') : x_T sc d k pc lv st h Q' := by
  obtain ⟨f, r, h', q, hq⟩ := t
  exact ⟨f, r, h', q, hQ _ _ hq⟩
theorem x_T_step {i : Instr} {pc' : Nat} {lv' : x_L} {st' : List Value} {h' : x_H} (hi : x_ins k pc = some i) (h1 : x_one sc d k i pc lv st h = some (pc', lv', st', h')) (t : x_T sc d k pc' lv' st' h' Q) : x_T sc d k pc lv st h Q := by
  obtain ⟨f, r, h2, q, hq⟩ := t
  refine ⟨f + 1, r, h2, ?_, hq⟩
  show x_bd sc (x_run sc f) d k pc lv st h = some (r, h2)
  unfold x_bd
  rw [hi]
  simp only
  rw [h1]
  exact q
theorem x_T_end {i : Instr} {r : Option Value} (hi : x_ins k pc = some i) (h3 : x_end k i st = some r) (hq : Q r h) : x_T sc d k pc lv st h Q := by
  refine ⟨1, r, h, ?_, hq⟩
  show x_bd sc (x_run sc 0) d k pc lv st h = some (r, h)
  unfold x_bd
  rw [hi]
  simp only
  rw [x_one_end h3]
  simp only
  rw [h3]
theorem x_T_call {i : Instr} {kc : Nat} {as r : List Value} {Q1 : Option Value → x_H → Prop} (hi : x_ins k pc = some i) (h1 : x_one sc (d + 1) k i pc lv st h = none) (h4 : x_cal k i st h = some (kc, as, r)) (ha : x_cs as ≤ x_nL kc) (t : x_T sc d kc 0 (x_en 0 as) [] h Q1) (kk : ∀ (v : Option Value) (h' : x_H), Q1 v h' → x_T sc (d + 1) k (pc + 3) lv (v.toList ++ r) h' Q) : x_T sc (d + 1) k pc lv st h Q := by
  obtain ⟨f, v, h', q, hq⟩ := t
  obtain ⟨f2, v2, h2, q2, hq2⟩ := kk v h' hq
  refine ⟨f + f2 + 1, v2, h2, ?_, hq2⟩
  show x_bd sc (x_run sc (f + f2)) (d + 1) k pc lv st h = some (v2, h2)
  unfold x_bd
  rw [hi]
  simp only
  rw [h1, x_cal_end h4]
  simp only
  rw [h4]
  simp only
  rw [if_pos ha, x_run_up (Or.inr rfl) f f2 d kc 0 (x_en 0 as) [] h _ q]
  simp only
  have e1 : f + f2 = f2 + f := by omega
  rw [e1]
  exact x_run_up (Or.inr rfl) f2 f (d + 1) k (pc + 3) lv (v.toList ++ r) h' _ q2
theorem x_T_iadd {x y : Int32} {st : List Value} {pc2 : Nat} (hi : x_ins k pc = some .iadd) (hn : pc + 1 = pc2) (t : x_T sc d k pc2 lv (.int (x + y) :: st) h Q) : x_T sc d k pc lv (.int y :: .int x :: st) h Q := by
  subst hn
  exact x_T_step hi rfl t
theorem x_T_isub {x y : Int32} {st : List Value} {pc2 : Nat} (hi : x_ins k pc = some .isub) (hn : pc + 1 = pc2) (t : x_T sc d k pc2 lv (.int (x - y) :: st) h Q) : x_T sc d k pc lv (.int y :: .int x :: st) h Q := by
  subst hn
  exact x_T_step hi rfl t
theorem x_T_imul {x y : Int32} {st : List Value} {pc2 : Nat} (hi : x_ins k pc = some .imul) (hn : pc + 1 = pc2) (t : x_T sc d k pc2 lv (.int (x * y) :: st) h Q) : x_T sc d k pc lv (.int y :: .int x :: st) h Q := by
  subst hn
  exact x_T_step hi rfl t
theorem x_T_iand {x y : Int32} {st : List Value} {pc2 : Nat} (hi : x_ins k pc = some .iand) (hn : pc + 1 = pc2) (t : x_T sc d k pc2 lv (.int (x &&& y) :: st) h Q) : x_T sc d k pc lv (.int y :: .int x :: st) h Q := by
  subst hn
  exact x_T_step hi rfl t
theorem x_T_ior {x y : Int32} {st : List Value} {pc2 : Nat} (hi : x_ins k pc = some .ior) (hn : pc + 1 = pc2) (t : x_T sc d k pc2 lv (.int (x ||| y) :: st) h Q) : x_T sc d k pc lv (.int y :: .int x :: st) h Q := by
  subst hn
  exact x_T_step hi rfl t
theorem x_T_ishl {x y : Int32} {st : List Value} {pc2 : Nat} (hi : x_ins k pc = some .ishl) (hn : pc + 1 = pc2) (t : x_T sc d k pc2 lv (.int (x <<< (y &&& 31)) :: st) h Q) : x_T sc d k pc lv (.int y :: .int x :: st) h Q := by
  subst hn
  exact x_T_step hi rfl t
theorem x_T_ishr {x y : Int32} {st : List Value} {pc2 : Nat} (hi : x_ins k pc = some .ishr) (hn : pc + 1 = pc2) (t : x_T sc d k pc2 lv (.int (x >>> (y &&& 31)) :: st) h Q) : x_T sc d k pc lv (.int y :: .int x :: st) h Q := by
  subst hn
  exact x_T_step hi rfl t
theorem x_T_ladd {x y : Int64} {st : List Value} {pc2 : Nat} (hi : x_ins k pc = some .ladd) (hn : pc + 1 = pc2) (t : x_T sc d k pc2 lv (.long (x + y) :: st) h Q) : x_T sc d k pc lv (.long y :: .long x :: st) h Q := by
  subst hn
  exact x_T_step hi rfl t
theorem x_T_lsub {x y : Int64} {st : List Value} {pc2 : Nat} (hi : x_ins k pc = some .lsub) (hn : pc + 1 = pc2) (t : x_T sc d k pc2 lv (.long (x - y) :: st) h Q) : x_T sc d k pc lv (.long y :: .long x :: st) h Q := by
  subst hn
  exact x_T_step hi rfl t
theorem x_T_lmul {x y : Int64} {st : List Value} {pc2 : Nat} (hi : x_ins k pc = some .lmul) (hn : pc + 1 = pc2) (t : x_T sc d k pc2 lv (.long (x * y) :: st) h Q) : x_T sc d k pc lv (.long y :: .long x :: st) h Q := by
  subst hn
  exact x_T_step hi rfl t
theorem x_T_land {x y : Int64} {st : List Value} {pc2 : Nat} (hi : x_ins k pc = some .land) (hn : pc + 1 = pc2) (t : x_T sc d k pc2 lv (.long (x &&& y) :: st) h Q) : x_T sc d k pc lv (.long y :: .long x :: st) h Q := by
  subst hn
  exact x_T_step hi rfl t
theorem x_T_lor {x y : Int64} {st : List Value} {pc2 : Nat} (hi : x_ins k pc = some .lor) (hn : pc + 1 = pc2) (t : x_T sc d k pc2 lv (.long (x ||| y) :: st) h Q) : x_T sc d k pc lv (.long y :: .long x :: st) h Q := by
  subst hn
  exact x_T_step hi rfl t
theorem x_T_lcmp {x y : Int64} {st : List Value} {pc2 : Nat} (hi : x_ins k pc = some .lcmp) (hn : pc + 1 = pc2) (t : x_T sc d k pc2 lv (.int (lg_cmp x y) :: st) h Q) : x_T sc d k pc lv (.long y :: .long x :: st) h Q := by
  subst hn
  exact x_T_step hi rfl t
theorem x_T_lshl {x : Int64} {y : Int32} {st : List Value} {pc2 : Nat} (hi : x_ins k pc = some .lshl) (hn : pc + 1 = pc2) (t : x_T sc d k pc2 lv (.long (x <<< (y.toInt64 &&& 63)) :: st) h Q) : x_T sc d k pc lv (.int y :: .long x :: st) h Q := by
  subst hn
  exact x_T_step hi rfl t
theorem x_T_lshr {x : Int64} {y : Int32} {st : List Value} {pc2 : Nat} (hi : x_ins k pc = some .lshr) (hn : pc + 1 = pc2) (t : x_T sc d k pc2 lv (.long (x >>> (y.toInt64 &&& 63)) :: st) h Q) : x_T sc d k pc lv (.int y :: .long x :: st) h Q := by
  subst hn
  exact x_T_step hi rfl t
theorem x_T_i2l {x : Int32} {st : List Value} {pc2 : Nat} (hi : x_ins k pc = some .i2l) (hn : pc + 1 = pc2) (t : x_T sc d k pc2 lv (.long x.toInt64 :: st) h Q) : x_T sc d k pc lv (.int x :: st) h Q := by
  subst hn
  exact x_T_step hi rfl t
theorem x_T_i2c {x : Int32} {st : List Value} {pc2 : Nat} (hi : x_ins k pc = some .i2c) (hn : pc + 1 = pc2) (t : x_T sc d k pc2 lv (.int (x.toUInt32 % 65536).toInt32 :: st) h Q) : x_T sc d k pc lv (.int x :: st) h Q := by
  subst hn
  exact x_T_step hi rfl t
theorem x_T_l2i {x : Int64} {st : List Value} {pc2 : Nat} (hi : x_ins k pc = some .l2i) (hn : pc + 1 = pc2) (t : x_T sc d k pc2 lv (.int x.toInt32 :: st) h Q) : x_T sc d k pc lv (.long x :: st) h Q := by
  subst hn
  exact x_T_step hi rfl t
theorem x_T_ineg {x : Int32} {st : List Value} {pc2 : Nat} (hi : x_ins k pc = some .ineg) (hn : pc + 1 = pc2) (t : x_T sc d k pc2 lv (.int (-x) :: st) h Q) : x_T sc d k pc lv (.int x :: st) h Q := by
  subst hn
  exact x_T_step hi rfl t
theorem x_T_idiv {x y : Int32} {st : List Value} {pc2 : Nat} (hi : x_ins k pc = some .idiv) (hy : ¬ y = 0) (hn : pc + 1 = pc2) (t : x_T sc d k pc2 lv (.int (x / y) :: st) h Q) : x_T sc d k pc lv (.int y :: .int x :: st) h Q := by
  subst hn
  refine x_T_step hi ?_ t
  simp [x_one, x_pop, x_idv, hy, x_len]
theorem x_T_irem {x y : Int32} {st : List Value} {pc2 : Nat} (hi : x_ins k pc = some .irem) (hy : ¬ y = 0) (hn : pc + 1 = pc2) (t : x_T sc d k pc2 lv (.int (x - x / y * y) :: st) h Q) : x_T sc d k pc lv (.int y :: .int x :: st) h Q := by
  subst hn
  refine x_T_step hi ?_ t
  simp [x_one, x_pop, x_idv, hy, x_len]
theorem x_T_iconst {n : Int} {v : Int32} {pc2 : Nat} (hi : x_ins k pc = some (.iconst n)) (hv : Int32.ofInt n = v) (hn : pc + 1 = pc2) (t : x_T sc d k pc2 lv (.int v :: st) h Q) : x_T sc d k pc lv st h Q := by
  subst hn hv
  exact x_T_step hi rfl t
theorem x_T_bipush {n : Int} {v : Int32} {pc2 : Nat} (hi : x_ins k pc = some (.bipush n)) (hv : (Int8.ofInt n).toInt32 = v) (hn : pc + 2 = pc2) (t : x_T sc d k pc2 lv (.int v :: st) h Q) : x_T sc d k pc lv st h Q := by
  subst hn hv
  exact x_T_step hi rfl t
theorem x_T_sipush {n : Int} {v : Int32} {pc2 : Nat} (hi : x_ins k pc = some (.sipush n)) (hv : (Int16.ofInt n).toInt32 = v) (hn : pc + 3 = pc2) (t : x_T sc d k pc2 lv (.int v :: st) h Q) : x_T sc d k pc lv st h Q := by
  subst hn hv
  exact x_T_step hi rfl t
theorem x_T_lconst {n : Fin 2} {v : Int64} {pc2 : Nat} (hi : x_ins k pc = some (.lconst n)) (hv : Int64.ofNat (n : Nat) = v) (hn : pc + 1 = pc2) (t : x_T sc d k pc2 lv (.long v :: st) h Q) : x_T sc d k pc lv st h Q := by
  subst hn hv
  exact x_T_step hi rfl t
theorem x_T_dup {v : Value} {st : List Value} {pc2 : Nat} (hi : x_ins k pc = some .dup) (hv : v.category = 1) (hn : pc + 1 = pc2) (t : x_T sc d k pc2 lv (v :: v :: st) h Q) : x_T sc d k pc lv (v :: st) h Q := by
  subst hn
  refine x_T_step hi ?_ t
  simp [x_one, x_pop, x_dup, hv, x_len]
theorem x_T_pop {v : Value} {st : List Value} {pc2 : Nat} (hi : x_ins k pc = some .pop) (hv : v.category = 1) (hn : pc + 1 = pc2) (t : x_T sc d k pc2 lv st h Q) : x_T sc d k pc lv (v :: st) h Q := by
  subst hn
  refine x_T_step hi ?_ t
  simp [x_one, x_pop, x_pp, hv, x_len]
theorem x_T_dup2 {v u : Value} {st : List Value} {pc2 : Nat} (hi : x_ins k pc = some .dup2) (hv : v.category = 1) (hu : u.category = 1) (hn : pc + 1 = pc2) (t : x_T sc d k pc2 lv (v :: u :: v :: u :: st) h Q) : x_T sc d k pc lv (v :: u :: st) h Q := by
  subst hn
  refine x_T_step hi ?_ t
  simp [x_one, x_pop, x_d2, hv, hu, x_len]
theorem x_T_iload {j : Nat} {x : Int32} {pc2 : Nat} (hi : x_ins k pc = some (.iload j)) (hl : lv j = some (.int x)) (hn : pc + 2 = pc2) (t : x_T sc d k pc2 lv (.int x :: st) h Q) : x_T sc d k pc lv st h Q := by
  subst hn
  refine x_T_step hi ?_ t
  simp [x_one, x_pop, x_lod, x_ldi, hl, x_len]
theorem x_T_iload_n {j : Fin 4} {x : Int32} {pc2 : Nat} (hi : x_ins k pc = some (.iload_n j)) (hl : lv (j : Nat) = some (.int x)) (hn : pc + 1 = pc2) (t : x_T sc d k pc2 lv (.int x :: st) h Q) : x_T sc d k pc lv st h Q := by
  subst hn
  refine x_T_step hi ?_ t
  simp [x_one, x_pop, x_lod, x_ldi, hl, x_len]
theorem x_T_lload {j : Nat} {x : Int64} {pc2 : Nat} (hi : x_ins k pc = some (.lload j)) (hl : lv j = some (.long x)) (hn : pc + 2 = pc2) (t : x_T sc d k pc2 lv (.long x :: st) h Q) : x_T sc d k pc lv st h Q := by
  subst hn
  refine x_T_step hi ?_ t
  simp [x_one, x_pop, x_lod, x_ldl, hl, x_len]
theorem x_T_lload_n {j : Fin 4} {x : Int64} {pc2 : Nat} (hi : x_ins k pc = some (.lload_n j)) (hl : lv (j : Nat) = some (.long x)) (hn : pc + 1 = pc2) (t : x_T sc d k pc2 lv (.long x :: st) h Q) : x_T sc d k pc lv st h Q := by
  subst hn
  refine x_T_step hi ?_ t
  simp [x_one, x_pop, x_lod, x_ldl, hl, x_len]
theorem x_T_aload {j : Nat} {x : Nat} {pc2 : Nat} (hi : x_ins k pc = some (.aload j)) (hl : lv j = some (.ref x)) (hn : pc + 2 = pc2) (t : x_T sc d k pc2 lv (.ref x :: st) h Q) : x_T sc d k pc lv st h Q := by
  subst hn
  refine x_T_step hi ?_ t
  simp [x_one, x_pop, x_lod, x_lda, hl, x_len]
theorem x_T_aload_n {j : Fin 4} {x : Nat} {pc2 : Nat} (hi : x_ins k pc = some (.aload_n j)) (hl : lv (j : Nat) = some (.ref x)) (hn : pc + 1 = pc2) (t : x_T sc d k pc2 lv (.ref x :: st) h Q) : x_T sc d k pc lv st h Q := by
  subst hn
  refine x_T_step hi ?_ t
  simp [x_one, x_pop, x_lod, x_lda, hl, x_len]
theorem x_T_istore {j : Nat} {x : Int32} {st : List Value} {pc2 : Nat} (hi : x_ins k pc = some (.istore j)) (hb : j < x_nL k) (hn : pc + 2 = pc2) (t : x_T sc d k pc2 (x_s1 lv j (.int x)) st h Q) : x_T sc d k pc lv (.int x :: st) h Q := by
  subst hn
  refine x_T_step hi ?_ t
  simp [x_one, x_pop, x_lod, x_sto, x_sti, hb, x_len]
theorem x_T_istore_n {j : Fin 4} {x : Int32} {st : List Value} {pc2 : Nat} (hi : x_ins k pc = some (.istore_n j)) (hb : (j : Nat) < x_nL k) (hn : pc + 1 = pc2) (t : x_T sc d k pc2 (x_s1 lv (j : Nat) (.int x)) st h Q) : x_T sc d k pc lv (.int x :: st) h Q := by
  subst hn
  refine x_T_step hi ?_ t
  simp [x_one, x_pop, x_lod, x_sto, x_sti, hb, x_len]
theorem x_T_lstore {j : Nat} {x : Int64} {st : List Value} {pc2 : Nat} (hi : x_ins k pc = some (.lstore j)) (hb : j + 1 < x_nL k) (hn : pc + 2 = pc2) (t : x_T sc d k pc2 (x_s2 lv j (.long x)) st h Q) : x_T sc d k pc lv (.long x :: st) h Q := by
  subst hn
  refine x_T_step hi ?_ t
  simp [x_one, x_pop, x_lod, x_sto, x_stl, hb, x_len]
theorem x_T_lstore_n {j : Fin 4} {x : Int64} {st : List Value} {pc2 : Nat} (hi : x_ins k pc = some (.lstore_n j)) (hb : (j : Nat) + 1 < x_nL k) (hn : pc + 1 = pc2) (t : x_T sc d k pc2 (x_s2 lv (j : Nat) (.long x)) st h Q) : x_T sc d k pc lv (.long x :: st) h Q := by
  subst hn
  refine x_T_step hi ?_ t
  simp [x_one, x_pop, x_lod, x_sto, x_stl, hb, x_len]
theorem x_T_astore {j : Nat} {x : Nat} {st : List Value} {pc2 : Nat} (hi : x_ins k pc = some (.astore j)) (hb : j < x_nL k) (hn : pc + 2 = pc2) (t : x_T sc d k pc2 (x_s1 lv j (.ref x)) st h Q) : x_T sc d k pc lv (.ref x :: st) h Q := by
  subst hn
  refine x_T_step hi ?_ t
  simp [x_one, x_pop, x_lod, x_sto, x_sta, hb, x_len]
theorem x_T_astore_n {j : Fin 4} {x : Nat} {st : List Value} {pc2 : Nat} (hi : x_ins k pc = some (.astore_n j)) (hb : (j : Nat) < x_nL k) (hn : pc + 1 = pc2) (t : x_T sc d k pc2 (x_s1 lv (j : Nat) (.ref x)) st h Q) : x_T sc d k pc lv (.ref x :: st) h Q := by
  subst hn
  refine x_T_step hi ?_ t
  simp [x_one, x_pop, x_lod, x_sto, x_sta, hb, x_len]
theorem x_T_iinc {j : Nat} {n : Int} {x v : Int32} {pc2 : Nat} (hi : x_ins k pc = some (.iinc j n)) (hl : lv j = some (.int x)) (hb : j < x_nL k) (hv : Int32.ofInt n = v) (hn : pc + 3 = pc2) (t : x_T sc d k pc2 (x_s1 lv j (.int (x + v))) st h Q) : x_T sc d k pc lv st h Q := by
  subst hn hv
  refine x_T_step hi ?_ t
  simp [x_one, x_pop, x_lod, x_sto, x_inc, hl, hb, x_len]
theorem x_T_goto {off : Int} {pc2 : Nat} (hi : x_ins k pc = some (.goto off)) (hn : (pc : Int) + off = (pc2 : Int)) (t : x_T sc d k pc2 lv st h Q) : x_T sc d k pc lv st h Q := by
  refine x_T_step hi ?_ t
  have h0 : 0 ≤ (pc : Int) + off := by omega
  have h1 : ((pc : Int) + off).toNat = pc2 := by omega
  simp [x_one, x_pop, x_lod, x_sto, x_jmp, x_gt, h0, h1]
theorem x_T_if {cd : Jvm.ClassFile.Cond} {off : Int} {x : Int32} {st : List Value} {pc2 pc3 : Nat} (hi : x_ins k pc = some (.ifCond cd off)) (hn : (pc : Int) + off = (pc2 : Int)) (hm : pc + 3 = pc3) (t : x_cc cd x 0 = true → x_T sc d k pc2 lv st h Q) (f : ¬ x_cc cd x 0 = true → x_T sc d k pc3 lv st h Q) : x_T sc d k pc lv (.int x :: st) h Q := by
  have h0 : 0 ≤ (pc : Int) + off := by omega
  have h1 : ((pc : Int) + off).toNat = pc2 := by omega
  subst hm
  by_cases hc : x_cc cd x 0 = true
  · refine x_T_step hi ?_ (t hc)
    simp [x_one, x_pop, x_lod, x_sto, x_jmp, x_if, h0, h1, hc]
  · refine x_T_step hi ?_ (f hc)
    simp [x_one, x_pop, x_lod, x_sto, x_jmp, x_if, h0, hc]
theorem x_T_ic {cd : Jvm.ClassFile.Cond} {off : Int} {x y : Int32} {st : List Value} {pc2 pc3 : Nat} (hi : x_ins k pc = some (.if_icmp cd off)) (hn : (pc : Int) + off = (pc2 : Int)) (hm : pc + 3 = pc3) (t : x_cc cd x y = true → x_T sc d k pc2 lv st h Q) (f : ¬ x_cc cd x y = true → x_T sc d k pc3 lv st h Q) : x_T sc d k pc lv (.int y :: .int x :: st) h Q := by
  have h0 : 0 ≤ (pc : Int) + off := by omega
  have h1 : ((pc : Int) + off).toNat = pc2 := by omega
  subst hm
  by_cases hc : x_cc cd x y = true
  · refine x_T_step hi ?_ (t hc)
    simp [x_one, x_pop, x_lod, x_sto, x_jmp, x_ic, h0, h1, hc]
  · refine x_T_step hi ?_ (f hc)
    simp [x_one, x_pop, x_lod, x_sto, x_jmp, x_ic, h0, hc]
end XW
end
section
/-! Walking: cells and calls. -/
theorem x_get_up_s {h : x_H} {a : Nat} {e : x_C} (ha : a < h.2.1) : x_get (x_up h a e) a = some e := by
  simp [x_get, x_up, va_up, ha]
theorem x_get_up_n {h : x_H} {a c : Nat} {e : x_C} (hc : ¬ c = a) : x_get (x_up h a e) c = x_get h c := by
  simp [x_get, x_up, va_up, hc]
theorem x_get_lt {h : x_H} {a : Nat} {e : x_C} (q : x_get h a = some e) : a < h.2.1 := (x_get_inv q).1
theorem x_aci_no {d k idx kc kd n : Nat} {st : List Value} {h : x_H} (hm : x_mth k idx = some (kc, kd, n)) (hk : ¬ kd = 8) : x_aci d k idx st h = none := by
  cases hq : x_aci d k idx st h with
  | none => rfl
  | some y =>
    obtain ⟨st', h'⟩ := y
    obtain ⟨_, _, _, _, _, _, kd', _, _, _, _, _, -, hm2, -, -, hok, -⟩ := x_aci_inv hq
    rw [hm] at hm2
    cases hm2
    exact absurd (x_aok2_inv hok).1 hk
theorem x_acl_no {d k idx kc kd n : Nat} {st : List Value} {h : x_H} (hm : x_mth k idx = some (kc, kd, n)) (hk : ¬ kd = 8) : x_acl d k idx st h = none := by
  cases hq : x_acl d k idx st h with
  | none => rfl
  | some y =>
    obtain ⟨st', h'⟩ := y
    obtain ⟨_, _, _, _, _, _, kd', _, _, _, _, _, -, hm2, -, -, hok, -⟩ := x_acl_inv hq
    rw [hm] at hm2
    cases hm2
    exact absurd (x_aok2_inv hok).1 hk
theorem x_mm_no {d k idx kc kd n : Nat} {st : List Value} (hm : x_mth k idx = some (kc, kd, n)) (hk : ¬ kd = 4) : x_mm d k idx st = none := by
  cases hq : x_mm d k idx st with
  | none => rfl
  | some y =>
    obtain ⟨_, _, _, _, _, -, hm2, -⟩ := x_mm_inv hq
    rw [hm] at hm2
    cases hm2
    exact absurd rfl hk
theorem x_mx_no {d k idx kc kd n : Nat} {st : List Value} (hm : x_mth k idx = some (kc, kd, n)) (hk : ¬ kd = 6) : x_mx d k idx st = none := by
  cases hq : x_mx d k idx st with
  | none => rfl
  | some y =>
    obtain ⟨_, _, _, _, _, -, hm2, -⟩ := x_mx_inv hq
    rw [hm] at hm2
    cases hm2
    exact absurd rfl hk
theorem x_oi_no {d k idx kc kd n : Nat} {st : List Value} (hm : x_mth k idx = some (kc, kd, n)) (hk : ¬ kd = 3) : x_oi d k idx st = none := by
  cases hq : x_oi d k idx st with
  | none => rfl
  | some y =>
    obtain ⟨_, _, _, -, hm2, -⟩ := x_oi_inv hq
    rw [hm] at hm2
    cases hm2
    exact absurd rfl hk
section XX
variable {sc : x_S} {d k pc : Nat} {lv : x_L} {st : List Value} {h : x_H} {Q : Option Value → x_H → Prop}
theorem x_T_getf {idx a ci sl fl pc2 : Nat} {ty : FieldType} {fs st : List Value} {v : Value} (hi : x_ins k pc = some (.getfield idx)) (hf : x_fld k idx = some (ci, sl, ty, fl)) (hg : x_get h a = some (.inr (ci, fs))) (hv : fs[sl]? = some v) (hn : pc + 3 = pc2) (t : x_T sc d k pc2 lv (v :: st) h Q) : x_T sc d k pc lv (.ref a :: st) h Q := by
  subst hn
  refine x_T_step hi ?_ t
  simp [x_one, x_pop, x_lod, x_sto, x_jmp, x_rd, x_or, x_gf, hg, hf, hv, x_len]
theorem x_T_putf {idx a ci sl fl pc2 : Nat} {ty : FieldType} {fs st : List Value} {v : Value} (hi : x_ins k pc = some (.putfield idx)) (hf : x_fld k idx = some (ci, sl, ty, fl)) (hg : x_get h a = some (.inr (ci, fs))) (hv : x_fit ty v = true) (hl : sl < fs.length) (hfl : fl < 2) (hn : pc + 3 = pc2) (t : x_T sc d k pc2 lv st (x_up h a (.inr (ci, fs.set sl v))) Q) : x_T sc d k pc lv (v :: .ref a :: st) h Q := by
  subst hn
  refine x_T_step hi ?_ t
  simp [x_one, x_pop, x_lod, x_sto, x_jmp, x_rd, x_wr, x_pf, hg, hf, hv, hl, hfl, x_len]
theorem x_T_iald {v : Int32} {j : Int32} {a n pc2 : Nat} {f : Nat → Int32} {st : List Value} (hi : x_ins k pc = some .iaload) (hg : x_get h a = some (.inl (0, n, .inl f))) (hj : x_in j n = true) (hv : f j.toNatClampNeg = v) (hn : pc + 1 = pc2) (t : x_T sc d k pc2 lv (.int v :: st) h Q) : x_T sc d k pc lv (.int j :: .ref a :: st) h Q := by
  subst hn hv
  refine x_T_step hi ?_ t
  simp [x_one, x_pop, x_lod, x_sto, x_jmp, x_rd, x_ia, hg, hj, x_len]
theorem x_T_scld {z : x_Z} {j v : Int32} {pc2 : Nat} {st : List Value} (hi : x_ins k pc = some .iaload) (hj : x_in j z.1 = true) (hv : z.2 j.toNatClampNeg = v) (hn : pc + 1 = pc2) (t : x_T (some z) d k pc2 lv (.int v :: st) h Q) : x_T (some z) d k pc lv (.int j :: .retAddr 0 :: st) h Q := by
  subst hn hv
  refine x_T_step hi ?_ t
  simp [x_one, x_pop, x_lod, x_sto, x_jmp, x_rd, x_ia, hj, x_len]
theorem x_T_sclen {z : x_Z} {pc2 : Nat} {st : List Value} (hi : x_ins k pc = some .arraylength) (hn : pc + 1 = pc2) (t : x_T (some z) d k pc2 lv (.int (Int32.ofNat z.1) :: st) h Q) : x_T (some z) d k pc lv (.retAddr 0 :: st) h Q := by
  subst hn
  refine x_T_step hi ?_ t
  simp [x_one, x_pop, x_lod, x_sto, x_jmp, x_rd, x_or, x_al, x_len]
theorem x_T_aload_k {j : Nat} {x : Nat} {pc2 : Nat} (hi : x_ins k pc = some (.aload j)) (hl : lv j = some (.retAddr x)) (hx : x < 2000) (hn : pc + 2 = pc2) (t : x_T sc d k pc2 lv (.retAddr x :: st) h Q) : x_T sc d k pc lv st h Q := by
  subst hn
  refine x_T_step hi ?_ t
  simp [x_one, x_pop, x_lod, x_lda, hl, hx, x_len]
theorem x_T_aload_nk {j : Fin 4} {x : Nat} {pc2 : Nat} (hi : x_ins k pc = some (.aload_n j)) (hl : lv (j : Nat) = some (.retAddr x)) (hx : x < 2000) (hn : pc + 1 = pc2) (t : x_T sc d k pc2 lv (.retAddr x :: st) h Q) : x_T sc d k pc lv st h Q := by
  subst hn
  refine x_T_step hi ?_ t
  simp [x_one, x_pop, x_lod, x_lda, hl, hx, x_len]
theorem x_T_lald {v : Int64} {j : Int32} {a n pc2 : Nat} {f : Nat → Int64} {st : List Value} (hi : x_ins k pc = some .laload) (hg : x_get h a = some (.inl (1, n, .inr (.inl f)))) (hj : x_in j n = true) (hv : f j.toNatClampNeg = v) (hn : pc + 1 = pc2) (t : x_T sc d k pc2 lv (.long v :: st) h Q) : x_T sc d k pc lv (.int j :: .ref a :: st) h Q := by
  subst hn hv
  refine x_T_step hi ?_ t
  simp [x_one, x_pop, x_lod, x_sto, x_jmp, x_rd, x_la, hg, hj, x_len]
theorem x_T_cald {v : Int32} {j : Int32} {a n pc2 : Nat} {f : Nat → Int32} {st : List Value} (hi : x_ins k pc = some .caload) (hg : x_get h a = some (.inl (2, n, .inl f))) (hj : x_in j n = true) (hv : f j.toNatClampNeg = v) (hn : pc + 1 = pc2) (t : x_T sc d k pc2 lv (.int v :: st) h Q) : x_T sc d k pc lv (.int j :: .ref a :: st) h Q := by
  subst hn hv
  refine x_T_step hi ?_ t
  simp [x_one, x_pop, x_lod, x_sto, x_jmp, x_rd, x_or, x_ca, hg, hj, x_len]
theorem x_T_bald {v : Int32} {j : Int32} {a n pc2 : Nat} {f : Nat → Int32} {st : List Value} (hi : x_ins k pc = some .baload) (hg : x_get h a = some (.inl (3, n, .inl f))) (hj : x_in j n = true) (hv : f j.toNatClampNeg = v) (hn : pc + 1 = pc2) (t : x_T sc d k pc2 lv (.int v :: st) h Q) : x_T sc d k pc lv (.int j :: .ref a :: st) h Q := by
  subst hn hv
  refine x_T_step hi ?_ t
  simp [x_one, x_pop, x_lod, x_sto, x_jmp, x_rd, x_or, x_ca, hg, hj, x_len]
theorem x_T_aald {j : Int32} {a t0 n ci y pc2 : Nat} {f : Nat → Option Nat} {st : List Value} (hi : x_ins k pc = some .aaload) (hg : x_get h a = some (.inl (t0, n, .inr (.inr (.inr (.inr f)))))) (hc : x_cp t0 = some ci) (hj : x_in j n = true) (hy : f j.toNatClampNeg = some y) (hn : pc + 1 = pc2) (t : x_T sc d k pc2 lv (.ref y :: st) h Q) : x_T sc d k pc lv (.int j :: .ref a :: st) h Q := by
  subst hn
  refine x_T_step hi ?_ t
  simp [x_one, x_pop, x_lod, x_sto, x_jmp, x_rd, x_aa, hg, hc, hj, hy, va_rf, x_len]
theorem x_T_alen {a t0 n pc2 : Nat} {f : (Nat → Int32) ⊕ (Nat → Int64) ⊕ (Nat → UInt32) ⊕ (Nat → UInt64) ⊕ (Nat → Option Nat)} {st : List Value} (hi : x_ins k pc = some .arraylength) (hg : x_get h a = some (.inl (t0, n, f))) (ht : t0 < x_ty.length) (hn : pc + 1 = pc2) (t : x_T sc d k pc2 lv (.int (Int32.ofNat n) :: st) h Q) : x_T sc d k pc lv (.ref a :: st) h Q := by
  subst hn
  refine x_T_step hi ?_ t
  simp [x_one, x_pop, x_lod, x_sto, x_jmp, x_rd, x_or, x_al, hg, ht, x_len]
theorem x_T_iast {x j : Int32} {a n pc2 : Nat} {f : Nat → Int32} {st : List Value} (hi : x_ins k pc = some .iastore) (hg : x_get h a = some (.inl (0, n, .inl f))) (hj : x_in j n = true) (hn : pc + 1 = pc2) (t : x_T sc d k pc2 lv st (x_up h a (.inl (0, n, .inl (upd f j.toNatClampNeg x)))) Q) : x_T sc d k pc lv (.int x :: .int j :: .ref a :: st) h Q := by
  subst hn
  refine x_T_step hi ?_ t
  simp [x_one, x_pop, x_lod, x_sto, x_jmp, x_rd, x_wr, x_is, hg, hj, x_len]
theorem x_T_cast {x j : Int32} {a n pc2 : Nat} {f : Nat → Int32} {st : List Value} (hi : x_ins k pc = some .castore) (hg : x_get h a = some (.inl (2, n, .inl f))) (hj : x_in j n = true) (hn : pc + 1 = pc2) (t : x_T sc d k pc2 lv st (x_up h a (.inl (2, n, .inl (upd f j.toNatClampNeg (vp_nar .char x))))) Q) : x_T sc d k pc lv (.int x :: .int j :: .ref a :: st) h Q := by
  subst hn
  refine x_T_step hi ?_ t
  simp [x_one, x_pop, x_lod, x_sto, x_jmp, x_rd, x_wr, x_is, hg, hj, x_len]
theorem x_T_bast {x j : Int32} {a n pc2 : Nat} {f : Nat → Int32} {st : List Value} (hi : x_ins k pc = some .bastore) (hg : x_get h a = some (.inl (3, n, .inl f))) (hj : x_in j n = true) (hn : pc + 1 = pc2) (t : x_T sc d k pc2 lv st (x_up h a (.inl (3, n, .inl (upd f j.toNatClampNeg (vp_nar .boolean x))))) Q) : x_T sc d k pc lv (.int x :: .int j :: .ref a :: st) h Q := by
  subst hn
  refine x_T_step hi ?_ t
  simp [x_one, x_pop, x_lod, x_sto, x_jmp, x_rd, x_wr, x_is, hg, hj, x_len]
theorem x_T_last {x : Int64} {j : Int32} {a n pc2 : Nat} {f : Nat → Int64} {st : List Value} (hi : x_ins k pc = some .lastore) (hg : x_get h a = some (.inl (1, n, .inr (.inl f)))) (hj : x_in j n = true) (hn : pc + 1 = pc2) (t : x_T sc d k pc2 lv st (x_up h a (.inl (1, n, .inr (.inl (vp_updL f j.toNatClampNeg x))))) Q) : x_T sc d k pc lv (.long x :: .int j :: .ref a :: st) h Q := by
  subst hn
  refine x_T_step hi ?_ t
  simp [x_one, x_pop, x_lod, x_sto, x_jmp, x_rd, x_wr, x_ls, hg, hj, x_len]
theorem x_T_ts {dl lo hh : Int} {offs : Array Int} {x : Int32} {pc2 : Nat} {st : List Value} (hi : x_ins k pc = some (.tableswitch dl lo hh offs)) (hq : x_ts dl lo hh offs pc [.int x] = some (pc2, [])) (t : x_T sc d k pc2 lv st h Q) : x_T sc d k pc lv (.int x :: st) h Q := by
  refine x_T_step hi ?_ t
  have h1 : x_ts dl lo hh offs pc (.int x :: st) = some (pc2, st) := by
    unfold x_ts x_gt at hq ⊢
    simp only at hq ⊢
    split at hq
    · rename_i h1
      rw [if_pos h1]
      split at hq
      · rename_i h2
        rw [if_pos h2]
        cases hq
        rfl
      · cases hq
    · rename_i h1
      rw [if_neg h1]
      split at hq
      · rename_i off ho
        split at hq
        · rename_i h2
          rw [if_pos h2]
          cases hq
          rfl
        · cases hq
      · cases hq
  simp [x_one, x_pop, x_lod, x_sto, x_jmp, h1]
theorem x_T_iret {x : Int32} (hi : x_ins k pc = some .ireturn) (hr : x_rt k = some .int) (hq : Q (some (.int x)) h) : x_T sc d k pc lv [.int x] h Q := x_T_end hi (by simp [x_end, x_ri, hr]) hq
theorem x_T_zret {x : Int32} (hi : x_ins k pc = some .ireturn) (hr : x_rt k = some .boolean) (hx : x &&& 1 = x) (hq : Q (some (.int x)) h) : x_T sc d k pc lv [.int x] h Q := x_T_end hi (by simp [x_end, x_ri, hr, hx]) hq
theorem x_T_lret {x : Int64} (hi : x_ins k pc = some .lreturn) (hr : x_rt k = some .long) (hq : Q (some (.long x)) h) : x_T sc d k pc lv [.long x] h Q := x_T_end hi (by simp [x_end, x_rl, hr]) hq
theorem x_T_vret (hi : x_ins k pc = some .return_) (hr : x_rt k = none) (hq : Q none h) : x_T sc d k pc lv [] h Q := x_T_end hi (by simp [x_end, x_rv, hr]) hq
/-- a call; the callee's walk ends in what comes behind the call -/
theorem x_T_cs {idx kc n : Nat} {as r : List Value} (hi : x_ins k pc = some (.invokestatic idx)) (hm : x_mth k idx = some (kc, 0, n)) (hn : as.length = n) (hst : st = as.reverse ++ r) (hr : x_cs r ≤ 8) (ha : x_cs as ≤ x_nL kc) (t : x_T sc d kc 0 (x_en 0 as) [] h (fun v h' => x_T sc (d + 1) k (pc + 3) lv (v.toList ++ r) h' Q)) : x_T sc (d + 1) k pc lv st h Q := by
  subst hst hn
  have hd : (as.reverse ++ r).drop as.length = r := by
    rw [← List.length_reverse, List.drop_left]
  have ht : (as.reverse ++ r).take as.length = as.reverse := by
    rw [← List.length_reverse, List.take_left]
  refine x_T_call hi ?_ (r := r) (as := as) (kc := kc) ?_ ha t (fun v h' q => q)
  · simp [x_one, x_pop, x_lod, x_sto, x_jmp, x_rd, x_wr, x_or, x_mk, x_now, x_aci_no hm (by decide), x_acl_no hm (by decide), x_mm_no hm (by decide), x_mx_no hm (by decide)]
  · simp [x_cal, x_c0, hm, hd, ht, hr]
theorem x_T_cv {idx kc a n : Nat} {as r fs : List Value} (hi : x_ins k pc = some (.invokevirtual idx)) (hm : x_mth k idx = some (kc, 1, n)) (hn : as.length = n) (hst : st = as.reverse ++ .ref a :: r) (hg : x_get h a = some (.inr (x_own kc, fs))) (hr : x_cs r ≤ 8) (ha : x_cs (.ref a :: as) ≤ x_nL kc) (t : x_T sc d kc 0 (x_en 0 (.ref a :: as)) [] h (fun v h' => x_T sc (d + 1) k (pc + 3) lv (v.toList ++ r) h' Q)) : x_T sc (d + 1) k pc lv st h Q := by
  subst hst hn
  have hd : (as.reverse ++ .ref a :: r).drop as.length = .ref a :: r := by
    rw [← List.length_reverse, List.drop_left]
  have ht : (as.reverse ++ .ref a :: r).take as.length = as.reverse := by
    rw [← List.length_reverse, List.take_left]
  refine x_T_call hi rfl (r := r) (as := .ref a :: as) (kc := kc) ?_ ha t (fun v h' q => q)
  simp [x_cal, x_or, x_c1, hm, hd, ht, hr, hg]
theorem x_T_ci {idx kc a n : Nat} {as r : List Value} (hi : x_ins k pc = some (.invokespecial idx)) (hm : x_mth k idx = some (kc, 2, n)) (hn : as.length = n) (hst : st = as.reverse ++ .ref a :: r) (hr : x_cs r ≤ 8) (ha : x_cs (.ref a :: as) ≤ x_nL kc) (t : x_T sc d kc 0 (x_en 0 (.ref a :: as)) [] h (fun v h' => x_T sc (d + 1) k (pc + 3) lv (v.toList ++ r) h' Q)) : x_T sc (d + 1) k pc lv st h Q := by
  subst hst hn
  have hd : (as.reverse ++ .ref a :: r).drop as.length = .ref a :: r := by
    rw [← List.length_reverse, List.drop_left]
  have ht : (as.reverse ++ .ref a :: r).take as.length = as.reverse := by
    rw [← List.length_reverse, List.take_left]
  refine x_T_call hi ?_ (r := r) (as := .ref a :: as) (kc := kc) ?_ ha t (fun v h' q => q)
  · simp [x_one, x_pop, x_lod, x_sto, x_jmp, x_rd, x_wr, x_mk, x_now, x_oi_no hm (by decide)]
  · simp [x_cal, x_c2, hm, hd, ht, hr]
theorem x_T_new {idx ci pc2 : Nat} {fs : List Value} (hi : x_ins k pc = some (.new idx)) (hc : x_cls k idx = some (ci, fs)) (hn : pc + 3 = pc2) (t : x_T sc d k pc2 lv (.ref h.2.1 :: st) (x_nw h (.inr (ci, fs)) fs.length) Q) : x_T sc d k pc lv st h Q := by
  subst hn
  refine x_T_step hi ?_ t
  simp [x_one, x_pop, x_lod, x_sto, x_jmp, x_rd, x_wr, x_mk, x_no, hc, x_len]
end XX
/-- what a program can read off closed cells -/
def x_obj (h : x_H) (a : Nat) : Option (Nat × List Value) := match x_get h a with
  | some (.inr o) => some o
  | _ => none
def x_ari (h : x_H) (a : Nat) : Option (Nat × Nat) := match x_get h a with
  | some (.inl (t, n, .inl _)) => some (t, n)
  | _ => none
def x_ati (h : x_H) (a j : Nat) : Int32 := match x_get h a with
  | some (.inl (_, _, .inl f)) => f j
  | _ => 0
def x_arr (h : x_H) (a : Nat) : Option (Nat × Nat × List (Option Nat)) := match x_get h a with
  | some (.inl (t, n, .inr (.inr (.inr (.inr f))))) => some (t, n, (List.range n).map f)
  | _ => none
theorem x_obj_get {h : x_H} {a : Nat} {o : Nat × List Value} (q : x_obj h a = some o) : x_get h a = some (.inr o) := by
  unfold x_obj at q
  split at q
  · rename_i hg
    cases q
    exact hg
  · cases q
theorem x_ari_get {h : x_H} {a t n : Nat} (q : x_ari h a = some (t, n)) : ∃ f : Nat → Int32, x_get h a = some (.inl (t, n, .inl f)) ∧ ∀ j, f j = x_ati h a j := by
  unfold x_ari at q
  split at q
  · rename_i f hg
    cases q
    refine ⟨f, hg, fun j => ?_⟩
    simp [x_ati, hg]
  · cases q
theorem x_arr_get {h : x_H} {a t n : Nat} {l : List (Option Nat)} (q : x_arr h a = some (t, n, l)) : ∃ f : Nat → Option Nat, x_get h a = some (.inl (t, n, .inr (.inr (.inr (.inr f))))) ∧ (List.range n).map f = l := by
  unfold x_arr at q
  split at q
  · rename_i f hg
    cases q
    exact ⟨f, hg, rfl⟩
  · cases q
/-- a closed run, by its answer -/
def x_h00 : x_H := (fun _ => .inr (0, []), 0, 0)
def x_hp (o : Option (Option Value × x_H)) : x_H := match o with
  | some (_, h) => h
  | none => x_h00
def x_vl (o : Option (Option Value × x_H)) : Option (Option Value) := match o with
  | some (v, _) => some v
  | none => none
theorem x_T_closed {d k pc : Nat} {lv : x_L} {st : List Value} {h : x_H} (f : Nat) {v : Option Value} (q : x_vl (x_run none f d k pc lv st h) = some v) {sc : x_S} {Q : Option Value → x_H → Prop} (hQ : Q v (x_hp (x_run none f d k pc lv st h))) : x_T sc d k pc lv st h Q := by
  refine x_T_none ⟨f, v, x_hp (x_run none f d k pc lv st h), ?_, hQ⟩
  cases hr : x_run none f d k pc lv st h with
  | none => rw [hr] at q; cases q
  | some y =>
    obtain ⟨v2, h2⟩ := y
    rw [hr] at q
    cases q
    rfl
section XV
variable {sc : x_S} {d k pc : Nat} {lv : x_L} {h : x_H} {Q : Option Value → x_H → Prop}
theorem x_T_putfV {idx a ci sl fl pc2 : Nat} {ty : FieldType} {fs st : List Value} {v : Value} (hi : x_ins k pc = some (.putfield idx)) (hf : x_fld k idx = some (ci, sl, ty, fl)) (hg : x_get h a = some (.inr (ci, fs))) (hv : x_fit ty v = true) (hl : sl < fs.length) (hfl : fl < 2) (hn : pc + 3 = pc2) (t : ∀ h2 : x_H, x_get h2 a = some (.inr (ci, fs.set sl v)) → (∀ c, ¬ c = a → x_get h2 c = x_get h c) → h2.2 = h.2 → x_T sc d k pc2 lv st h2 Q) : x_T sc d k pc lv (v :: .ref a :: st) h Q :=
  x_T_putf hi hf hg hv hl hfl hn (t _ (x_get_up_s (x_get_lt hg)) (fun _ hc => x_get_up_n hc) rfl)
theorem x_T_iastV {x j : Int32} {a n pc2 : Nat} {f : Nat → Int32} {st : List Value} (hi : x_ins k pc = some .iastore) (hg : x_get h a = some (.inl (0, n, .inl f))) (hj : x_in j n = true) (hn : pc + 1 = pc2) (t : ∀ h2 : x_H, x_get h2 a = some (.inl (0, n, .inl (upd f j.toNatClampNeg x))) → (∀ c, ¬ c = a → x_get h2 c = x_get h c) → h2.2 = h.2 → x_T sc d k pc2 lv st h2 Q) : x_T sc d k pc lv (.int x :: .int j :: .ref a :: st) h Q :=
  x_T_iast hi hg hj hn (t _ (x_get_up_s (x_get_lt hg)) (fun _ hc => x_get_up_n hc) rfl)
theorem x_T_castV {x j : Int32} {a n pc2 : Nat} {f : Nat → Int32} {st : List Value} (hi : x_ins k pc = some .castore) (hg : x_get h a = some (.inl (2, n, .inl f))) (hj : x_in j n = true) (hn : pc + 1 = pc2) (t : ∀ h2 : x_H, x_get h2 a = some (.inl (2, n, .inl (upd f j.toNatClampNeg (vp_nar .char x)))) → (∀ c, ¬ c = a → x_get h2 c = x_get h c) → h2.2 = h.2 → x_T sc d k pc2 lv st h2 Q) : x_T sc d k pc lv (.int x :: .int j :: .ref a :: st) h Q :=
  x_T_cast hi hg hj hn (t _ (x_get_up_s (x_get_lt hg)) (fun _ hc => x_get_up_n hc) rfl)
end XV
end
section
/-! Numbers: an int as 'iZ z', z a whole number; sums and differences need no side goal, compares and indices are linear. -/
def iZ (z : Int) : Int32 := Int32.ofInt z
def iR (z : Int) : Prop := -2147483648 ≤ z ∧ z < 2147483648
theorem iZ_toInt {z : Int} (h : iR z) : (iZ z).toInt = z := by
  unfold iZ
  rw [Int32.toInt_ofInt_of_le (by have := h.1; omega) (by have := h.2; omega)]
theorem iZ_of (x : Int32) : x = iZ x.toInt := by
  unfold iZ
  exact (Int32.ofInt_toInt x).symm
theorem iR_of (x : Int32) : iR x.toInt := ⟨Int32.le_toInt x, Int32.toInt_lt x⟩
theorem iZ_add (a b : Int) : iZ a + iZ b = iZ (a + b) := by
  unfold iZ
  exact (Int32.ofInt_add a b).symm
theorem iZ_sub (a b : Int) : iZ a - iZ b = iZ (a - b) := by
  unfold iZ
  exact (Int32.ofInt_sub a b).symm
theorem iZ_mul (a b : Int) : iZ a * iZ b = iZ (a * b) := by
  unfold iZ
  exact (Int32.ofInt_mul a b).symm
theorem iZ_lt {a b : Int} (ha : iR a) (hb : iR b) : iZ a < iZ b ↔ a < b := by
  rw [Int32.lt_iff_toInt_lt, iZ_toInt ha, iZ_toInt hb]
theorem iZ_le {a b : Int} (ha : iR a) (hb : iR b) : iZ a ≤ iZ b ↔ a ≤ b := by
  rw [Int32.le_iff_toInt_le, iZ_toInt ha, iZ_toInt hb]
theorem iZ_eq {a b : Int} (ha : iR a) (hb : iR b) : iZ a = iZ b ↔ a = b := by
  constructor
  · intro h
    have h1 := congrArg Int32.toInt h
    rw [iZ_toInt ha, iZ_toInt hb] at h1
    exact h1
  · intro h
    rw [h]
theorem iZ_clamp {a : Int} (ha : iR a) : (iZ a).toNatClampNeg = a.toNat := by
  unfold Int32.toNatClampNeg
  rw [iZ_toInt ha]
theorem iZ_in {a : Int} {n : Nat} (h0 : 0 ≤ a) (h1 : a < n) (hn : (n : Int) ≤ 2147483648) : x_in (iZ a) n = true := by
  have ha : iR a := ⟨by omega, by omega⟩
  unfold x_in
  rw [iZ_clamp ha]
  have e0 : ¬ iZ a < 0 := by
    have : (0 : Int32) = iZ 0 := by decide
    rw [this, iZ_lt ha ⟨by decide, by decide⟩]
    omega
  simp only [Bool.and_eq_true, Bool.not_eq_true', decide_eq_false_iff_not, decide_eq_true_eq]
  exact ⟨e0, by omega⟩
section XZ
variable {sc : x_S} {d k pc : Nat} {lv : x_L} {h : x_H} {Q : Option Value → x_H → Prop} {a b : Int} {st : List Value} {pc2 pc3 : Nat}
theorem z_iconst {n : Int} {st : List Value} (hi : x_ins k pc = some (.iconst n)) (hn : pc + 1 = pc2) (t : x_T sc d k pc2 lv (.int (iZ n) :: st) h Q) : x_T sc d k pc lv st h Q := x_T_iconst hi rfl hn t
theorem z_bipush {n : Int} (hi : x_ins k pc = some (.bipush n)) (hv : (Int8.ofInt n).toInt32 = iZ n) (hn : pc + 2 = pc2) (t : x_T sc d k pc2 lv (.int (iZ n) :: st) h Q) : x_T sc d k pc lv st h Q := x_T_bipush hi hv hn t
theorem z_sipush {n : Int} (hi : x_ins k pc = some (.sipush n)) (hv : (Int16.ofInt n).toInt32 = iZ n) (hn : pc + 3 = pc2) (t : x_T sc d k pc2 lv (.int (iZ n) :: st) h Q) : x_T sc d k pc lv st h Q := x_T_sipush hi hv hn t
theorem z_iadd (hi : x_ins k pc = some .iadd) (hn : pc + 1 = pc2) (t : x_T sc d k pc2 lv (.int (iZ (a + b)) :: st) h Q) : x_T sc d k pc lv (.int (iZ b) :: .int (iZ a) :: st) h Q := x_T_iadd hi hn (by rw [iZ_add]; exact t)
theorem z_isub (hi : x_ins k pc = some .isub) (hn : pc + 1 = pc2) (t : x_T sc d k pc2 lv (.int (iZ (a - b)) :: st) h Q) : x_T sc d k pc lv (.int (iZ b) :: .int (iZ a) :: st) h Q := x_T_isub hi hn (by rw [iZ_sub]; exact t)
theorem z_imul (hi : x_ins k pc = some .imul) (hn : pc + 1 = pc2) (t : x_T sc d k pc2 lv (.int (iZ (a * b)) :: st) h Q) : x_T sc d k pc lv (.int (iZ b) :: .int (iZ a) :: st) h Q := x_T_imul hi hn (by rw [iZ_mul]; exact t)
theorem z_iinc {j : Nat} {n : Int} (hi : x_ins k pc = some (.iinc j n)) (hl : lv j = some (.int (iZ a))) (hb : j < x_nL k) (hn : pc + 3 = pc2) (t : x_T sc d k pc2 (x_s1 lv j (.int (iZ (a + n)))) st h Q) : x_T sc d k pc lv st h Q := x_T_iinc hi hl hb rfl hn (by
  have e : iZ a + Int32.ofInt n = iZ (a + n) := iZ_add a n
  rw [e]
  exact t)
theorem z_goto {off : Int} {st : List Value} (hi : x_ins k pc = some (.goto off)) (hn : (pc : Int) + off = (pc2 : Int)) (t : x_T sc d k pc2 lv st h Q) : x_T sc d k pc lv st h Q := x_T_goto hi hn t
theorem z_ic_lt {off : Int} (hi : x_ins k pc = some (.if_icmp .lt off)) (hn : (pc : Int) + off = (pc2 : Int)) (hm : pc + 3 = pc3) (ha : iR a) (hb : iR b) (t : a < b → x_T sc d k pc2 lv st h Q) (f : b ≤ a → x_T sc d k pc3 lv st h Q) : x_T sc d k pc lv (.int (iZ b) :: .int (iZ a) :: st) h Q :=
  x_T_ic hi hn hm (fun q => t ((iZ_lt ha hb).mp (by simpa only [x_cc, decide_eq_true_eq] using q))) (fun q => f (by
    have q2 : ¬ iZ a < iZ b := by simpa only [x_cc, decide_eq_true_eq] using q
    rw [iZ_lt ha hb] at q2
    omega))
theorem z_ic_ge {off : Int} (hi : x_ins k pc = some (.if_icmp .ge off)) (hn : (pc : Int) + off = (pc2 : Int)) (hm : pc + 3 = pc3) (ha : iR a) (hb : iR b) (t : b ≤ a → x_T sc d k pc2 lv st h Q) (f : a < b → x_T sc d k pc3 lv st h Q) : x_T sc d k pc lv (.int (iZ b) :: .int (iZ a) :: st) h Q :=
  x_T_ic hi hn hm (fun q => t ((iZ_le hb ha).mp (by simpa only [x_cc, decide_eq_true_eq] using q))) (fun q => f (by
    have q2 : ¬ iZ b ≤ iZ a := by simpa only [x_cc, decide_eq_true_eq] using q
    rw [iZ_le hb ha] at q2
    omega))
theorem z_ic_gt {off : Int} (hi : x_ins k pc = some (.if_icmp .gt off)) (hn : (pc : Int) + off = (pc2 : Int)) (hm : pc + 3 = pc3) (ha : iR a) (hb : iR b) (t : b < a → x_T sc d k pc2 lv st h Q) (f : a ≤ b → x_T sc d k pc3 lv st h Q) : x_T sc d k pc lv (.int (iZ b) :: .int (iZ a) :: st) h Q :=
  x_T_ic hi hn hm (fun q => t ((iZ_lt hb ha).mp (by simpa only [x_cc, decide_eq_true_eq] using q))) (fun q => f (by
    have q2 : ¬ iZ b < iZ a := by simpa only [x_cc, decide_eq_true_eq] using q
    rw [iZ_lt hb ha] at q2
    omega))
theorem z_ic_le {off : Int} (hi : x_ins k pc = some (.if_icmp .le off)) (hn : (pc : Int) + off = (pc2 : Int)) (hm : pc + 3 = pc3) (ha : iR a) (hb : iR b) (t : a ≤ b → x_T sc d k pc2 lv st h Q) (f : b < a → x_T sc d k pc3 lv st h Q) : x_T sc d k pc lv (.int (iZ b) :: .int (iZ a) :: st) h Q :=
  x_T_ic hi hn hm (fun q => t ((iZ_le ha hb).mp (by simpa only [x_cc, decide_eq_true_eq] using q))) (fun q => f (by
    have q2 : ¬ iZ a ≤ iZ b := by simpa only [x_cc, decide_eq_true_eq] using q
    rw [iZ_le ha hb] at q2
    omega))
theorem z_ic_eq {off : Int} (hi : x_ins k pc = some (.if_icmp .eq off)) (hn : (pc : Int) + off = (pc2 : Int)) (hm : pc + 3 = pc3) (ha : iR a) (hb : iR b) (t : a = b → x_T sc d k pc2 lv st h Q) (f : ¬ a = b → x_T sc d k pc3 lv st h Q) : x_T sc d k pc lv (.int (iZ b) :: .int (iZ a) :: st) h Q :=
  x_T_ic hi hn hm (fun q => t ((iZ_eq ha hb).mp (by simpa only [x_cc, decide_eq_true_eq] using q))) (fun q => f (fun z => q (by simpa only [x_cc, decide_eq_true_eq] using (iZ_eq ha hb).mpr z)))
theorem z_ic_ne {off : Int} (hi : x_ins k pc = some (.if_icmp .ne off)) (hn : (pc : Int) + off = (pc2 : Int)) (hm : pc + 3 = pc3) (ha : iR a) (hb : iR b) (t : ¬ a = b → x_T sc d k pc2 lv st h Q) (f : a = b → x_T sc d k pc3 lv st h Q) : x_T sc d k pc lv (.int (iZ b) :: .int (iZ a) :: st) h Q :=
  x_T_ic hi hn hm (fun q => t (fun z => by
    have q2 : ¬ iZ a = iZ b := by simpa only [x_cc, decide_eq_true_eq] using q
    exact q2 ((iZ_eq ha hb).mpr z))) (fun q => f (by
    have q2 : ¬ ¬ iZ a = iZ b := by simpa only [x_cc, decide_eq_true_eq] using q
    exact (iZ_eq ha hb).mp (Decidable.byContradiction q2)))
theorem iR_0 : iR 0 := ⟨by decide, by decide⟩
theorem z_if0 {cd : Jvm.ClassFile.Cond} {x : Int32} : x_cc cd x 0 = x_cc cd x (iZ 0) := rfl
theorem z_if_lt {off : Int} (hi : x_ins k pc = some (.ifCond .lt off)) (hn : (pc : Int) + off = (pc2 : Int)) (hm : pc + 3 = pc3) (ha : iR a) (t : a < 0 → x_T sc d k pc2 lv st h Q) (f : 0 ≤ a → x_T sc d k pc3 lv st h Q) : x_T sc d k pc lv (.int (iZ a) :: st) h Q :=
  x_T_if hi hn hm (fun q => t ((iZ_lt ha iR_0).mp (by rw [z_if0] at q; simpa only [x_cc, decide_eq_true_eq] using q))) (fun q => f (by
    rw [z_if0] at q
    have q2 : ¬ iZ a < iZ 0 := by simpa only [x_cc, decide_eq_true_eq] using q
    rw [iZ_lt ha iR_0] at q2
    omega))
theorem z_if_ge {off : Int} (hi : x_ins k pc = some (.ifCond .ge off)) (hn : (pc : Int) + off = (pc2 : Int)) (hm : pc + 3 = pc3) (ha : iR a) (t : 0 ≤ a → x_T sc d k pc2 lv st h Q) (f : a < 0 → x_T sc d k pc3 lv st h Q) : x_T sc d k pc lv (.int (iZ a) :: st) h Q :=
  x_T_if hi hn hm (fun q => t ((iZ_le iR_0 ha).mp (by rw [z_if0] at q; simpa only [x_cc, decide_eq_true_eq] using q))) (fun q => f (by
    rw [z_if0] at q
    have q2 : ¬ iZ 0 ≤ iZ a := by simpa only [x_cc, decide_eq_true_eq] using q
    rw [iZ_le iR_0 ha] at q2
    omega))
theorem z_if_gt {off : Int} (hi : x_ins k pc = some (.ifCond .gt off)) (hn : (pc : Int) + off = (pc2 : Int)) (hm : pc + 3 = pc3) (ha : iR a) (t : 0 < a → x_T sc d k pc2 lv st h Q) (f : a ≤ 0 → x_T sc d k pc3 lv st h Q) : x_T sc d k pc lv (.int (iZ a) :: st) h Q :=
  x_T_if hi hn hm (fun q => t ((iZ_lt iR_0 ha).mp (by rw [z_if0] at q; simpa only [x_cc, decide_eq_true_eq] using q))) (fun q => f (by
    rw [z_if0] at q
    have q2 : ¬ iZ 0 < iZ a := by simpa only [x_cc, decide_eq_true_eq] using q
    rw [iZ_lt iR_0 ha] at q2
    omega))
theorem z_if_le {off : Int} (hi : x_ins k pc = some (.ifCond .le off)) (hn : (pc : Int) + off = (pc2 : Int)) (hm : pc + 3 = pc3) (ha : iR a) (t : a ≤ 0 → x_T sc d k pc2 lv st h Q) (f : 0 < a → x_T sc d k pc3 lv st h Q) : x_T sc d k pc lv (.int (iZ a) :: st) h Q :=
  x_T_if hi hn hm (fun q => t ((iZ_le ha iR_0).mp (by rw [z_if0] at q; simpa only [x_cc, decide_eq_true_eq] using q))) (fun q => f (by
    rw [z_if0] at q
    have q2 : ¬ iZ a ≤ iZ 0 := by simpa only [x_cc, decide_eq_true_eq] using q
    rw [iZ_le ha iR_0] at q2
    omega))
theorem z_if_eq {off : Int} (hi : x_ins k pc = some (.ifCond .eq off)) (hn : (pc : Int) + off = (pc2 : Int)) (hm : pc + 3 = pc3) (ha : iR a) (t : a = 0 → x_T sc d k pc2 lv st h Q) (f : ¬ a = 0 → x_T sc d k pc3 lv st h Q) : x_T sc d k pc lv (.int (iZ a) :: st) h Q :=
  x_T_if hi hn hm (fun q => t ((iZ_eq ha iR_0).mp (by rw [z_if0] at q; simpa only [x_cc, decide_eq_true_eq] using q))) (fun q => f (fun z => q (by rw [z_if0]; simpa only [x_cc, decide_eq_true_eq] using (iZ_eq ha iR_0).mpr z)))
theorem z_if_ne {off : Int} (hi : x_ins k pc = some (.ifCond .ne off)) (hn : (pc : Int) + off = (pc2 : Int)) (hm : pc + 3 = pc3) (ha : iR a) (t : ¬ a = 0 → x_T sc d k pc2 lv st h Q) (f : a = 0 → x_T sc d k pc3 lv st h Q) : x_T sc d k pc lv (.int (iZ a) :: st) h Q :=
  x_T_if hi hn hm (fun q => t (fun z => by
    rw [z_if0] at q
    have q2 : ¬ iZ a = iZ 0 := by simpa only [x_cc, decide_eq_true_eq] using q
    exact q2 ((iZ_eq ha iR_0).mpr z))) (fun q => f (by
    rw [z_if0] at q
    have q2 : ¬ ¬ iZ a = iZ 0 := by simpa only [x_cc, decide_eq_true_eq] using q
    exact (iZ_eq ha iR_0).mp (Decidable.byContradiction q2)))
end XZ
/-- a compare of two longs, then a jump on it -/
theorem lg_ne0 {x y : Int64} : x_cc .ne (lg_cmp x y) 0 = true ↔ ¬ x = y := by
  unfold lg_cmp
  by_cases h1 : y < x
  · have h2 : ¬ x = y := fun z => by rw [z] at h1; exact Int64.lt_irrefl h1
    simp [x_cc, h1, h2]
  · by_cases h2 : x = y
    · simp [x_cc, h2]
    · simp [x_cc, h1, h2]
theorem lg_eq0 {x y : Int64} : x_cc .eq (lg_cmp x y) 0 = true ↔ x = y := by
  have h := lg_ne0 (x := x) (y := y)
  have e : x_cc .eq (lg_cmp x y) 0 = !x_cc .ne (lg_cmp x y) 0 := by
    simp [x_cc]
  rw [e]
  by_cases hx : x = y
  · have : ¬ x_cc .ne (lg_cmp x y) 0 = true := fun z => h.mp z hx
    simp only [Bool.not_eq_true] at this
    rw [this]
    simp [hx]
  · rw [h.mpr hx]
    simp [hx]
section XL
variable {sc : x_S} {d k pc : Nat} {lv : x_L} {h : x_H} {Q : Option Value → x_H → Prop} {st : List Value} {pc2 pc3 : Nat}
theorem z_l_ne {x y : Int64} {off : Int} (hi0 : x_ins k pc = some .lcmp) (hi : x_ins k (pc + 1) = some (.ifCond .ne off)) (hn : ((pc + 1 : Nat) : Int) + off = (pc2 : Int)) (hm : pc + 1 + 3 = pc3) (t : ¬ x = y → x_T sc d k pc2 lv st h Q) (f : x = y → x_T sc d k pc3 lv st h Q) : x_T sc d k pc lv (.long y :: .long x :: st) h Q :=
  x_T_lcmp hi0 rfl (x_T_if hi hn hm (fun q => t (lg_ne0.mp q)) (fun q => f (Decidable.byContradiction (fun z => q (lg_ne0.mpr z)))))
theorem z_l_eq {x y : Int64} {off : Int} (hi0 : x_ins k pc = some .lcmp) (hi : x_ins k (pc + 1) = some (.ifCond .eq off)) (hn : ((pc + 1 : Nat) : Int) + off = (pc2 : Int)) (hm : pc + 1 + 3 = pc3) (t : x = y → x_T sc d k pc2 lv st h Q) (f : ¬ x = y → x_T sc d k pc3 lv st h Q) : x_T sc d k pc lv (.long y :: .long x :: st) h Q :=
  x_T_lcmp hi0 rfl (x_T_if hi hn hm (fun q => t (lg_eq0.mp q)) (fun q => f (fun z => q (lg_eq0.mpr z))))
end XL
end
section
/-! The world between calls: 305 cells of a fixed shape (class 0 .. 248, reference 249 .. 304); what may change in them is a state of functions. -/
def w_sh : List (Nat × Nat × Nat × List (Nat × Nat)) := [
  (0, 0, 0, [(0, 1), (0, 2), (0, 234), (1, 0), (1, 0)]),
  (3, 8, 3, []),
  (0, 6, 0, [(0, 3), (0, 198), (0, 201), (1, 0), (1, 0)]),
  (0, 2, 0, [(0, 4), (0, 30), (1, 0), (0, 33), (0, 36), (0, 39), (0, 42)]),
  (0, 4, 0, [(0, 5), (1, 0)]),
  (3, 6, 8, []),
  (0, 3, 0, [(2, 0), (1, 0), (1, 0), (0, 7), (1, 0), (0, 8)]),
  (2, 1, 3, []),
  (2, 1, 12, []),
  (0, 3, 0, [(2, 0), (1, 0), (1, 0), (0, 10), (1, 0), (0, 11)]),
  (2, 1, 3, []),
  (2, 1, 12, []),
  (0, 3, 0, [(2, 0), (1, 0), (1, 0), (0, 13), (1, 0), (0, 14)]),
  (2, 1, 3, []),
  (2, 1, 12, []),
  (0, 3, 0, [(2, 0), (1, 0), (1, 0), (0, 16), (1, 0), (0, 17)]),
  (2, 1, 3, []),
  (2, 1, 12, []),
  (0, 3, 0, [(2, 0), (1, 0), (1, 0), (0, 19), (1, 0), (0, 20)]),
  (2, 1, 3, []),
  (2, 1, 12, []),
  (0, 3, 0, [(2, 0), (1, 0), (1, 0), (0, 22), (1, 0), (0, 23)]),
  (2, 1, 3, []),
  (2, 1, 12, []),
  (0, 3, 0, [(2, 0), (1, 0), (1, 0), (0, 25), (1, 0), (0, 26)]),
  (2, 1, 3, []),
  (2, 1, 12, []),
  (0, 3, 0, [(2, 0), (1, 0), (1, 0), (0, 28), (1, 0), (0, 29)]),
  (2, 1, 3, []),
  (2, 1, 12, []),
  (0, 10, 0, [(0, 31), (0, 32), (1, 0)]),
  (2, 1, 100, []),
  (1, 0, 100, []),
  (0, 10, 0, [(0, 34), (0, 35), (1, 0)]),
  (2, 1, 1360, []),
  (1, 0, 1360, []),
  (0, 10, 0, [(0, 37), (0, 38), (1, 0)]),
  (2, 1, 1360, []),
  (1, 0, 1360, []),
  (0, 10, 0, [(0, 40), (0, 41), (1, 0)]),
  (2, 1, 480, []),
  (1, 0, 480, []),
  (3, 5, 31, []),
  (0, 1, 0, [(0, 44), (0, 45), (0, 46), (0, 47), (1, 0), (1, 0)]),
  (1, 0, 3, []),
  (1, 0, 3, []),
  (1, 0, 3, []),
  (1, 0, 3, []),
  (0, 1, 0, [(0, 49), (0, 50), (0, 51), (0, 52), (1, 0), (1, 0)]),
  (1, 0, 3, []),
  (1, 0, 3, []),
  (1, 0, 3, []),
  (1, 0, 3, []),
  (0, 1, 0, [(0, 54), (0, 55), (0, 56), (0, 57), (1, 0), (1, 0)]),
  (1, 0, 3, []),
  (1, 0, 3, []),
  (1, 0, 3, []),
  (1, 0, 3, []),
  (0, 1, 0, [(0, 59), (0, 60), (0, 61), (0, 62), (1, 0), (1, 0)]),
  (1, 0, 3, []),
  (1, 0, 3, []),
  (1, 0, 3, []),
  (1, 0, 3, []),
  (0, 1, 0, [(0, 64), (0, 65), (0, 66), (0, 67), (1, 0), (1, 0)]),
  (1, 0, 3, []),
  (1, 0, 3, []),
  (1, 0, 3, []),
  (1, 0, 3, []),
  (0, 1, 0, [(0, 69), (0, 70), (0, 71), (0, 72), (1, 0), (1, 0)]),
  (1, 0, 3, []),
  (1, 0, 3, []),
  (1, 0, 3, []),
  (1, 0, 3, []),
  (0, 1, 0, [(0, 74), (0, 75), (0, 76), (0, 77), (1, 0), (1, 0)]),
  (1, 0, 3, []),
  (1, 0, 3, []),
  (1, 0, 3, []),
  (1, 0, 3, []),
  (0, 1, 0, [(0, 79), (0, 80), (0, 81), (0, 82), (1, 0), (1, 0)]),
  (1, 0, 3, []),
  (1, 0, 3, []),
  (1, 0, 3, []),
  (1, 0, 3, []),
  (0, 1, 0, [(0, 84), (0, 85), (0, 86), (0, 87), (1, 0), (1, 0)]),
  (1, 0, 3, []),
  (1, 0, 3, []),
  (1, 0, 3, []),
  (1, 0, 3, []),
  (0, 1, 0, [(0, 89), (0, 90), (0, 91), (0, 92), (1, 0), (1, 0)]),
  (1, 0, 3, []),
  (1, 0, 3, []),
  (1, 0, 3, []),
  (1, 0, 3, []),
  (0, 1, 0, [(0, 94), (0, 95), (0, 96), (0, 97), (1, 0), (1, 0)]),
  (1, 0, 3, []),
  (1, 0, 3, []),
  (1, 0, 3, []),
  (1, 0, 3, []),
  (0, 1, 0, [(0, 99), (0, 100), (0, 101), (0, 102), (1, 0), (1, 0)]),
  (1, 0, 3, []),
  (1, 0, 3, []),
  (1, 0, 3, []),
  (1, 0, 3, []),
  (0, 1, 0, [(0, 104), (0, 105), (0, 106), (0, 107), (1, 0), (1, 0)]),
  (1, 0, 3, []),
  (1, 0, 3, []),
  (1, 0, 3, []),
  (1, 0, 3, []),
  (0, 1, 0, [(0, 109), (0, 110), (0, 111), (0, 112), (1, 0), (1, 0)]),
  (1, 0, 3, []),
  (1, 0, 3, []),
  (1, 0, 3, []),
  (1, 0, 3, []),
  (0, 1, 0, [(0, 114), (0, 115), (0, 116), (0, 117), (1, 0), (1, 0)]),
  (1, 0, 3, []),
  (1, 0, 3, []),
  (1, 0, 3, []),
  (1, 0, 3, []),
  (0, 1, 0, [(0, 119), (0, 120), (0, 121), (0, 122), (1, 0), (1, 0)]),
  (1, 0, 3, []),
  (1, 0, 3, []),
  (1, 0, 3, []),
  (1, 0, 3, []),
  (0, 1, 0, [(0, 124), (0, 125), (0, 126), (0, 127), (1, 0), (1, 0)]),
  (1, 0, 3, []),
  (1, 0, 3, []),
  (1, 0, 3, []),
  (1, 0, 3, []),
  (0, 1, 0, [(0, 129), (0, 130), (0, 131), (0, 132), (1, 0), (1, 0)]),
  (1, 0, 3, []),
  (1, 0, 3, []),
  (1, 0, 3, []),
  (1, 0, 3, []),
  (0, 1, 0, [(0, 134), (0, 135), (0, 136), (0, 137), (1, 0), (1, 0)]),
  (1, 0, 3, []),
  (1, 0, 3, []),
  (1, 0, 3, []),
  (1, 0, 3, []),
  (0, 1, 0, [(0, 139), (0, 140), (0, 141), (0, 142), (1, 0), (1, 0)]),
  (1, 0, 3, []),
  (1, 0, 3, []),
  (1, 0, 3, []),
  (1, 0, 3, []),
  (0, 1, 0, [(0, 144), (0, 145), (0, 146), (0, 147), (1, 0), (1, 0)]),
  (1, 0, 3, []),
  (1, 0, 3, []),
  (1, 0, 3, []),
  (1, 0, 3, []),
  (0, 1, 0, [(0, 149), (0, 150), (0, 151), (0, 152), (1, 0), (1, 0)]),
  (1, 0, 3, []),
  (1, 0, 3, []),
  (1, 0, 3, []),
  (1, 0, 3, []),
  (0, 1, 0, [(0, 154), (0, 155), (0, 156), (0, 157), (1, 0), (1, 0)]),
  (1, 0, 3, []),
  (1, 0, 3, []),
  (1, 0, 3, []),
  (1, 0, 3, []),
  (0, 1, 0, [(0, 159), (0, 160), (0, 161), (0, 162), (1, 0), (1, 0)]),
  (1, 0, 3, []),
  (1, 0, 3, []),
  (1, 0, 3, []),
  (1, 0, 3, []),
  (0, 1, 0, [(0, 164), (0, 165), (0, 166), (0, 167), (1, 0), (1, 0)]),
  (1, 0, 3, []),
  (1, 0, 3, []),
  (1, 0, 3, []),
  (1, 0, 3, []),
  (0, 1, 0, [(0, 169), (0, 170), (0, 171), (0, 172), (1, 0), (1, 0)]),
  (1, 0, 3, []),
  (1, 0, 3, []),
  (1, 0, 3, []),
  (1, 0, 3, []),
  (0, 1, 0, [(0, 174), (0, 175), (0, 176), (0, 177), (1, 0), (1, 0)]),
  (1, 0, 3, []),
  (1, 0, 3, []),
  (1, 0, 3, []),
  (1, 0, 3, []),
  (0, 1, 0, [(0, 179), (0, 180), (0, 181), (0, 182), (1, 0), (1, 0)]),
  (1, 0, 3, []),
  (1, 0, 3, []),
  (1, 0, 3, []),
  (1, 0, 3, []),
  (0, 1, 0, [(0, 184), (0, 185), (0, 186), (0, 187), (1, 0), (1, 0)]),
  (1, 0, 3, []),
  (1, 0, 3, []),
  (1, 0, 3, []),
  (1, 0, 3, []),
  (0, 1, 0, [(0, 189), (0, 190), (0, 191), (0, 192), (1, 0), (1, 0)]),
  (1, 0, 3, []),
  (1, 0, 3, []),
  (1, 0, 3, []),
  (1, 0, 3, []),
  (0, 1, 0, [(0, 194), (0, 195), (0, 196), (0, 197), (1, 0), (1, 0)]),
  (1, 0, 3, []),
  (1, 0, 3, []),
  (1, 0, 3, []),
  (1, 0, 3, []),
  (0, 7, 0, [(0, 199), (0, 200), (1, 0)]),
  (1, 2, 161, []),
  (1, 0, 161, []),
  (3, 7, 4, []),
  (0, 8, 0, [(1, 0), (1, 0), (0, 203), (0, 206), (0, 207), (0, 208), (0, 209), (1, 0), (1, 0), (1, 0), (1, 0), (1, 0)]),
  (0, 10, 0, [(0, 204), (0, 205), (1, 0)]),
  (2, 1, 160, []),
  (1, 0, 160, []),
  (1, 0, 160, []),
  (1, 3, 160, []),
  (1, 3, 18, []),
  (1, 3, 18, []),
  (0, 8, 0, [(1, 0), (1, 0), (0, 211), (0, 214), (0, 215), (0, 216), (0, 217), (1, 0), (1, 0), (1, 0), (1, 0), (1, 0)]),
  (0, 10, 0, [(0, 212), (0, 213), (1, 0)]),
  (2, 1, 160, []),
  (1, 0, 160, []),
  (1, 0, 160, []),
  (1, 3, 160, []),
  (1, 3, 18, []),
  (1, 3, 18, []),
  (0, 8, 0, [(1, 0), (1, 0), (0, 219), (0, 222), (0, 223), (0, 224), (0, 225), (1, 0), (1, 0), (1, 0), (1, 0), (1, 0)]),
  (0, 10, 0, [(0, 220), (0, 221), (1, 0)]),
  (2, 1, 160, []),
  (1, 0, 160, []),
  (1, 0, 160, []),
  (1, 3, 160, []),
  (1, 3, 18, []),
  (1, 3, 18, []),
  (0, 8, 0, [(1, 0), (1, 0), (0, 227), (0, 230), (0, 231), (0, 232), (0, 233), (1, 0), (1, 0), (1, 0), (1, 0), (1, 0)]),
  (0, 10, 0, [(0, 228), (0, 229), (1, 0)]),
  (2, 1, 160, []),
  (1, 0, 160, []),
  (1, 0, 160, []),
  (1, 3, 160, []),
  (1, 3, 18, []),
  (1, 3, 18, []),
  (0, 5, 0, [(0, 235), (0, 239), (0, 240), (1, 0), (1, 0), (0, 241), (0, 242), (1, 0)]),
  (0, 11, 0, [(0, 236), (0, 237), (0, 238), (1, 0)]),
  (1, 0, 201, []),
  (1, 0, 201, []),
  (1, 0, 201, []),
  (2, 1, 101, []),
  (1, 0, 101, []),
  (2, 1, 100, []),
  (1, 3, 100, []),
  (0, 9, 0, [(0, 244), (1, 0)]),
  (1, 2, 160, []),
  (0, 9, 0, [(0, 246), (1, 0)]),
  (1, 2, 160, []),
  (0, 9, 0, [(0, 248), (1, 0)]),
  (1, 2, 160, []),
  (0, 12, 0, [(0, 250), (0, 251), (1, 0), (0, 252), (0, 253), (1, 0), (0, 254), (0, 255), (0, 256), (0, 257), (0, 258), (0, 259), (1, 0), (1, 0), (0, 260), (0, 261), (1, 0), (1, 0), (0, 262), (0, 263), (0, 264), (0, 265), (0, 266), (1, 0), (0, 267), (0, 268), (1, 0), (0, 269), (0, 270), (1, 0), (0, 271), (0, 272), (1, 0), (0, 273), (0, 274), (1, 0), (0, 275), (0, 276), (0, 277), (0, 278), (0, 279), (0, 280), (0, 281), (0, 282), (0, 283), (0, 284), (1, 0), (0, 285), (0, 286), (1, 0), (1, 0), (0, 287), (0, 288), (0, 289), (0, 290), (0, 291), (1, 0), (0, 292), (0, 293), (0, 294), (0, 295), (1, 0), (0, 296), (0, 297), (0, 298), (0, 299), (0, 300), (1, 0), (0, 301), (0, 302), (0, 303), (0, 304)]),
  (1, 0, 480, []),
  (1, 0, 3, []),
  (1, 0, 162, []),
  (1, 0, 162, []),
  (2, 1, 644, []),
  (1, 0, 644, []),
  (1, 0, 644, []),
  (1, 0, 4, []),
  (1, 0, 4, []),
  (1, 0, 4, []),
  (1, 3, 80, []),
  (1, 3, 80, []),
  (2, 1, 8, []),
  (1, 0, 8, []),
  (2, 1, 24, []),
  (2, 1, 96, []),
  (1, 0, 8, []),
  (2, 1, 160, []),
  (1, 0, 160, []),
  (2, 1, 1361, []),
  (1, 0, 1361, []),
  (2, 1, 2561, []),
  (1, 0, 2561, []),
  (2, 1, 1201, []),
  (1, 0, 1201, []),
  (2, 1, 481, []),
  (1, 0, 481, []),
  (1, 0, 32, []),
  (1, 0, 32, []),
  (1, 0, 32, []),
  (1, 0, 32, []),
  (1, 0, 32, []),
  (1, 0, 32, []),
  (1, 0, 128, []),
  (1, 0, 128, []),
  (2, 1, 100, []),
  (1, 0, 100, []),
  (1, 0, 100, []),
  (1, 0, 101, []),
  (1, 0, 202, []),
  (1, 0, 202, []),
  (1, 0, 202, []),
  (2, 1, 100, []),
  (1, 0, 100, []),
  (1, 0, 100, []),
  (1, 3, 100, []),
  (1, 0, 300, []),
  (1, 0, 300, []),
  (1, 0, 300, []),
  (1, 0, 300, []),
  (1, 0, 300, []),
  (1, 0, 8, []),
  (1, 0, 8, []),
  (1, 0, 8, []),
  (1, 0, 8, [])]
abbrev w_S : Type := (Nat → Nat → Int) × (Nat → Nat → Int64) × (Nat → Int → Int) × (Nat → Int → Int64) × (Nat → Int → Option Nat)
abbrev sv (S : w_S) : Nat → Nat → Int := S.1
abbrev sl (S : w_S) : Nat → Nat → Int64 := S.2.1
abbrev sA (S : w_S) : Nat → Int → Int := S.2.2.1
abbrev sL (S : w_S) : Nat → Int → Int64 := S.2.2.2.1
abbrev sR (S : w_S) : Nat → Int → Option Nat := S.2.2.2.2
def w_u {α : Type} (f : Int → α) (i : Int) (x : α) : Int → α := fun j => if j = i then x else f j
def w_cp {α : Type} (f g : Int → α) (sp dp n : Int) : Int → α := fun k => if dp ≤ k ∧ k < dp + n then f (sp + (k - dp)) else g k
theorem w_u_self {α : Type} (f : Int → α) (i : Int) (x : α) : w_u f i x i = x := by simp [w_u]
theorem w_u_ne {α : Type} (f : Int → α) {i j : Int} (x : α) (h : ¬ j = i) : w_u f i x j = f j := by simp [w_u, h]
def w_fv (S : w_S) (a k : Nat) (q : Nat × Nat) : Value := match q.1 with
  | 0 => .ref q.2
  | 1 => .int (iZ (S.1 a k))
  | _ => .long (S.2.1 a k)
def w_fd (S : w_S) (a : Nat) : Nat → List (Nat × Nat) → List Value
  | _, [] => []
  | k, q :: t => w_fv S a k q :: w_fd S a (k + 1) t
def w_cl (S : w_S) (a : Nat) : Option (Nat × Nat × Nat × List (Nat × Nat)) → x_C
  | some (0, ci, _, fs) => .inr (ci, w_fd S a 0 fs)
  | some (1, t, n, _) => .inl (t, n, .inl (fun j => iZ (S.2.2.1 a (j : Int))))
  | some (2, t, n, _) => .inl (t, n, .inr (.inl (fun j => S.2.2.2.1 a (j : Int))))
  | some (_, t, n, _) => .inl (t, n, .inr (.inr (.inr (.inr (fun j => S.2.2.2.2 a (j : Int))))))
  | none => .inr (0, [])
def w_W (h : x_H) (S : w_S) : Prop := h.2.1 = 305 ∧ h.2.2 = 30037 ∧ ∀ a, a < 305 → h.1 a = w_cl S a w_sh[a]?
/-- the changes of a state -/
def w_v (S : w_S) (a k : Nat) (z : Int) : w_S := (fun b j => if b = a ∧ j = k then z else S.1 b j, S.2)
def w_l (S : w_S) (a k : Nat) (z : Int64) : w_S := (S.1, fun b j => if b = a ∧ j = k then z else S.2.1 b j, S.2.2)
def w_A (S : w_S) (a : Nat) (f : Int → Int) : w_S := (S.1, S.2.1, fun b => if b = a then f else S.2.2.1 b, S.2.2.2)
def w_L (S : w_S) (a : Nat) (f : Int → Int64) : w_S := (S.1, S.2.1, S.2.2.1, fun b => if b = a then f else S.2.2.2.1 b, S.2.2.2.2)
def w_R (S : w_S) (a : Nat) (f : Int → Option Nat) : w_S := (S.1, S.2.1, S.2.2.1, S.2.2.2.1, fun b => if b = a then f else S.2.2.2.2 b)
set_option maxRecDepth 100000 in
theorem w_len : w_sh.length = 305 := by decide +kernel
theorem w_lt {a : Nat} {e : Nat × Nat × Nat × List (Nat × Nat)} (hs : w_sh[a]? = some e) : a < 305 := by
  have h1 := (List.getElem?_eq_some_iff.mp hs).1
  rw [w_len] at h1
  exact h1
theorem w_get {h : x_H} {S : w_S} (hW : w_W h S) {a : Nat} {e : Nat × Nat × Nat × List (Nat × Nat)} (hs : w_sh[a]? = some e) : x_get h a = some (w_cl S a (some e)) := by
  have hl := w_lt hs
  unfold x_get
  rw [hW.1, if_pos hl, hW.2.2 a hl, hs]
theorem w_fd_get (S : w_S) (a : Nat) : ∀ (fs : List (Nat × Nat)) (k i : Nat) (q : Nat × Nat), fs[i]? = some q → (w_fd S a k fs)[i]? = some (w_fv S a (k + i) q)
  | [], _, _, _, h => by simp at h
  | p :: t, k, 0, q, h => by
    cases h
    rfl
  | p :: t, k, i + 1, q, h => by
    have h : t[i]? = some q := h
    have e := w_fd_get S a t (k + 1) i q h
    rw [show k + (i + 1) = k + 1 + i by omega]
    exact e
theorem w_fd_len (S : w_S) (a : Nat) : ∀ (fs : List (Nat × Nat)) (k : Nat), (w_fd S a k fs).length = fs.length
  | [], _ => rfl
  | p :: t, k => by
    show (w_fd S a (k + 1) t).length + 1 = t.length + 1
    rw [w_fd_len S a t (k + 1)]
theorem w_fd_cong {S S' : w_S} {a : Nat} : ∀ (fs : List (Nat × Nat)) (k : Nat), (∀ i q, fs[i]? = some q → w_fv S a (k + i) q = w_fv S' a (k + i) q) → w_fd S a k fs = w_fd S' a k fs
  | [], _, _ => rfl
  | p :: t, k, h => by
    show w_fv S a k p :: w_fd S a (k + 1) t = w_fv S' a k p :: w_fd S' a (k + 1) t
    have h0 := h 0 p rfl
    have h0 : w_fv S a k p = w_fv S' a k p := h0
    have e := w_fd_cong (S := S) (S' := S') (a := a) t (k + 1) (fun i q hq => by
      have h1 := h (i + 1) q hq
      rw [show k + (i + 1) = k + 1 + i by omega] at h1
      exact h1)
    rw [h0, e]
theorem w_fd_set {S S' : w_S} {a : Nat} {v : Value} : ∀ (fs : List (Nat × Nat)) (k i : Nat), (∀ j q, fs[j]? = some q → w_fv S' a (k + j) q = if j = i then v else w_fv S a (k + j) q) → (w_fd S a k fs).set i v = w_fd S' a k fs
  | [], _, _, _ => rfl
  | p :: t, k, 0, h => by
    have h0 := h 0 p rfl
    have h0 : w_fv S' a k p = v := by simpa using h0
    show v :: w_fd S a (k + 1) t = w_fv S' a k p :: w_fd S' a (k + 1) t
    have e := w_fd_cong (S := S) (S' := S') (a := a) t (k + 1) (fun j q hq => by
      have h1 := h (j + 1) q hq
      rw [show k + (j + 1) = k + 1 + j by omega, if_neg (by omega)] at h1
      exact h1.symm)
    rw [h0, e]
  | p :: t, k, i + 1, h => by
    have h0 := h 0 p rfl
    have h0 : w_fv S' a k p = w_fv S a k p := by simpa using h0
    show w_fv S a k p :: (w_fd S a (k + 1) t).set i v = w_fv S' a k p :: w_fd S' a (k + 1) t
    have e := w_fd_set (S := S) (S' := S') (a := a) (v := v) t (k + 1) i (fun j q hq => by
      have h1 := h (j + 1) q hq
      rw [show k + (j + 1) = k + 1 + j by omega] at h1
      rw [h1]
      by_cases e : j = i
      · rw [if_pos e, if_pos (by omega)]
      · rw [if_neg e, if_neg (by omega)])
    rw [h0, e]
/-- a cell is changed: the world with the changed state -/
theorem w_up {h : x_H} {S S' : w_S} (hW : w_W h S) {a : Nat} {e : x_C} (he : e = w_cl S' a w_sh[a]?) (ho : ∀ b, ¬ b = a → w_cl S b w_sh[b]? = w_cl S' b w_sh[b]?) : w_W (x_up h a e) S' := by
  refine ⟨hW.1, hW.2.1, fun b hb => ?_⟩
  by_cases eb : b = a
  · subst eb
    show va_up h.1 b e b = _
    rw [va_up_self, he]
  · show va_up h.1 a e b = _
    rw [va_up_ne _ _ eb, hW.2.2 b hb]
    exact ho b eb
theorem w_cl_cong {S S' : w_S} {b : Nat} (h1 : ∀ k, S.1 b k = S'.1 b k) (h2 : ∀ k, S.2.1 b k = S'.2.1 b k) (h3 : S.2.2.1 b = S'.2.2.1 b) (h4 : S.2.2.2.1 b = S'.2.2.2.1 b) (h5 : S.2.2.2.2 b = S'.2.2.2.2 b) (o : Option (Nat × Nat × Nat × List (Nat × Nat))) : w_cl S b o = w_cl S' b o := by
  unfold w_cl
  split
  · rw [w_fd_cong (S := S) (S' := S') (a := b) _ 0 (fun i q _ => by unfold w_fv; split <;> simp [h1, h2])]
  · rw [h3]
  · rw [h4]
  · rw [h5]
  · rfl
/-- walking over a state -/
def w_T (sc : x_S) (d k pc : Nat) (lv : x_L) (st : List Value) (S : w_S) (Q : Option Value → w_S → Prop) : Prop := ∀ h, w_W h S → x_T sc d k pc lv st h (fun r h' => ∃ S', w_W h' S' ∧ Q r S')
section WR
variable {sc : x_S} {d k pc : Nat} {lv : x_L} {st : List Value} {S : w_S} {Q : Option Value → w_S → Prop} {pc2 pc3 : Nat}
theorem w_getf {idx a ci sl fl n : Nat} {ty : FieldType} {fs : List (Nat × Nat)} {q : Nat × Nat} {v : Value} (hi : x_ins k pc = some (.getfield idx)) (hf : x_fld k idx = some (ci, sl, ty, fl)) (hs : w_sh[a]? = some (0, ci, n, fs)) (hq : fs[sl]? = some q) (hv : w_fv S a sl q = v) (hn : pc + 3 = pc2) (t : w_T sc d k pc2 lv (v :: st) S Q) : w_T sc d k pc lv (.ref a :: st) S Q := by
  intro h hW
  have e := w_fd_get S a fs 0 sl q hq
  rw [Nat.zero_add, hv] at e
  exact x_T_getf hi hf (w_get hW hs) e hn (t h hW)
theorem w_putf {idx a ci sl fl n : Nat} {ty : FieldType} {fs : List (Nat × Nat)} {r : Nat} {z : Int} (hi : x_ins k pc = some (.putfield idx)) (hf : x_fld k idx = some (ci, sl, ty, fl)) (hs : w_sh[a]? = some (0, ci, n, fs)) (hq : fs[sl]? = some (1, r)) (hv : x_fit ty (.int (iZ z)) = true) (hfl : fl < 2) (hn : pc + 3 = pc2) (t : w_T sc d k pc2 lv st (w_v S a sl z) Q) : w_T sc d k pc lv (.int (iZ z) :: .ref a :: st) S Q := by
  intro h hW
  have hl : sl < (w_fd S a 0 fs).length := by
    rw [w_fd_len]
    exact (List.getElem?_eq_some_iff.mp hq).1
  refine x_T_putf hi hf (w_get hW hs) hv hl hfl hn (t _ (w_up hW ?_ (fun b hb => w_cl_cong (S := S) (S' := w_v S a sl z) (b := b) (fun j => by simp [w_v, hb]) (fun _ => rfl) rfl rfl rfl _)))
  rw [hs]
  show Sum.inr (ci, (w_fd S a 0 fs).set sl (.int (iZ z))) = Sum.inr (ci, w_fd (w_v S a sl z) a 0 fs)
  rw [w_fd_set fs 0 sl (S' := w_v S a sl z) (fun j q hj => ?_)]
  rw [Nat.zero_add]
  by_cases e : j = sl
  · subst e
    rw [hq] at hj
    cases hj
    simp [w_fv, w_v]
  · rw [if_neg e]
    unfold w_fv w_v
    split <;> simp [e]
theorem w_putl {idx a ci sl fl n : Nat} {fs : List (Nat × Nat)} {r : Nat} {z : Int64} (hi : x_ins k pc = some (.putfield idx)) (hf : x_fld k idx = some (ci, sl, .long, fl)) (hs : w_sh[a]? = some (0, ci, n, fs)) (hq : fs[sl]? = some (2, r)) (hfl : fl < 2) (hn : pc + 3 = pc2) (t : w_T sc d k pc2 lv st (w_l S a sl z) Q) : w_T sc d k pc lv (.long z :: .ref a :: st) S Q := by
  intro h hW
  have hl : sl < (w_fd S a 0 fs).length := by
    rw [w_fd_len]
    exact (List.getElem?_eq_some_iff.mp hq).1
  refine x_T_putf hi hf (w_get hW hs) rfl hl hfl hn (t _ (w_up hW ?_ (fun b hb => w_cl_cong (S := S) (S' := w_l S a sl z) (b := b) (fun _ => rfl) (fun j => by simp [w_l, hb]) rfl rfl rfl _)))
  rw [hs]
  show Sum.inr (ci, (w_fd S a 0 fs).set sl (.long z)) = Sum.inr (ci, w_fd (w_l S a sl z) a 0 fs)
  rw [w_fd_set fs 0 sl (S' := w_l S a sl z) (fun j q hj => ?_)]
  rw [Nat.zero_add]
  by_cases e : j = sl
  · subst e
    rw [hq] at hj
    cases hj
    simp [w_fv, w_l]
  · rw [if_neg e]
    unfold w_fv w_l
    split <;> simp [e]
theorem w_getI {idx a ci sl fl n r : Nat} {ty : FieldType} {fs : List (Nat × Nat)} {z : Int} (hi : x_ins k pc = some (.getfield idx)) (hf : x_fld k idx = some (ci, sl, ty, fl)) (hs : w_sh[a]? = some (0, ci, n, fs)) (hq : fs[sl]? = some (1, r)) (hv : sv S a sl = z) (hn : pc + 3 = pc2) (t : w_T sc d k pc2 lv (.int (iZ z) :: st) S Q) : w_T sc d k pc lv (.ref a :: st) S Q := w_getf hi hf hs hq (by rw [← hv]; rfl) hn t
theorem w_getL {idx a ci sl fl n r : Nat} {ty : FieldType} {fs : List (Nat × Nat)} {z : Int64} (hi : x_ins k pc = some (.getfield idx)) (hf : x_fld k idx = some (ci, sl, ty, fl)) (hs : w_sh[a]? = some (0, ci, n, fs)) (hq : fs[sl]? = some (2, r)) (hv : S.2.1 a sl = z) (hn : pc + 3 = pc2) (t : w_T sc d k pc2 lv (.long z :: st) S Q) : w_T sc d k pc lv (.ref a :: st) S Q := w_getf hi hf hs hq (by rw [← hv]; rfl) hn t
theorem w_getR {idx a ci sl fl n r : Nat} {ty : FieldType} {fs : List (Nat × Nat)} (hi : x_ins k pc = some (.getfield idx)) (hf : x_fld k idx = some (ci, sl, ty, fl)) (hs : w_sh[a]? = some (0, ci, n, fs)) (hq : fs[sl]? = some (0, r)) (hn : pc + 3 = pc2) (t : w_T sc d k pc2 lv (.ref r :: st) S Q) : w_T sc d k pc lv (.ref a :: st) S Q := w_getf hi hf hs hq rfl hn t
theorem w_iald {a n : Nat} {i z : Int} {fs : List (Nat × Nat)} (hi : x_ins k pc = some .iaload) (hs : w_sh[a]? = some (1, 0, n, fs)) (h0 : 0 ≤ i) (h1 : i < n) (h2 : (n : Int) ≤ 2147483648) (hv : sA S a i = z) (hn : pc + 1 = pc2) (t : w_T sc d k pc2 lv (.int (iZ z) :: st) S Q) : w_T sc d k pc lv (.int (iZ i) :: .ref a :: st) S Q := by
  intro h hW
  exact x_T_iald hi (w_get hW hs) (iZ_in h0 h1 h2) (by rw [iZ_clamp ⟨by omega, by omega⟩, Int.toNat_of_nonneg h0, ← hv]) hn (t h hW)
theorem w_cald {a n : Nat} {i z : Int} {fs : List (Nat × Nat)} (hi : x_ins k pc = some .caload) (hs : w_sh[a]? = some (1, 2, n, fs)) (h0 : 0 ≤ i) (h1 : i < n) (h2 : (n : Int) ≤ 2147483648) (hv : sA S a i = z) (hn : pc + 1 = pc2) (t : w_T sc d k pc2 lv (.int (iZ z) :: st) S Q) : w_T sc d k pc lv (.int (iZ i) :: .ref a :: st) S Q := by
  intro h hW
  exact x_T_cald hi (w_get hW hs) (iZ_in h0 h1 h2) (by rw [iZ_clamp ⟨by omega, by omega⟩, Int.toNat_of_nonneg h0, ← hv]) hn (t h hW)
theorem w_bald {a n : Nat} {i z : Int} {fs : List (Nat × Nat)} (hi : x_ins k pc = some .baload) (hs : w_sh[a]? = some (1, 3, n, fs)) (h0 : 0 ≤ i) (h1 : i < n) (h2 : (n : Int) ≤ 2147483648) (hv : sA S a i = z) (hn : pc + 1 = pc2) (t : w_T sc d k pc2 lv (.int (iZ z) :: st) S Q) : w_T sc d k pc lv (.int (iZ i) :: .ref a :: st) S Q := by
  intro h hW
  exact x_T_bald hi (w_get hW hs) (iZ_in h0 h1 h2) (by rw [iZ_clamp ⟨by omega, by omega⟩, Int.toNat_of_nonneg h0, ← hv]) hn (t h hW)
theorem w_lald {a n : Nat} {i : Int} {z : Int64} {fs : List (Nat × Nat)} (hi : x_ins k pc = some .laload) (hs : w_sh[a]? = some (2, 1, n, fs)) (h0 : 0 ≤ i) (h1 : i < n) (h2 : (n : Int) ≤ 2147483648) (hv : sL S a i = z) (hn : pc + 1 = pc2) (t : w_T sc d k pc2 lv (.long z :: st) S Q) : w_T sc d k pc lv (.int (iZ i) :: .ref a :: st) S Q := by
  intro h hW
  exact x_T_lald hi (w_get hW hs) (iZ_in h0 h1 h2) (by rw [iZ_clamp ⟨by omega, by omega⟩, Int.toNat_of_nonneg h0, ← hv]) hn (t h hW)
theorem w_aald {a n t0 ci y : Nat} {i : Int} {fs : List (Nat × Nat)} (hi : x_ins k pc = some .aaload) (hs : w_sh[a]? = some (3, t0, n, fs)) (hc : x_cp t0 = some ci) (h0 : 0 ≤ i) (h1 : i < n) (h2 : (n : Int) ≤ 2147483648) (hy : sR S a i = some y) (hn : pc + 1 = pc2) (t : w_T sc d k pc2 lv (.ref y :: st) S Q) : w_T sc d k pc lv (.int (iZ i) :: .ref a :: st) S Q := by
  intro h hW
  exact x_T_aald hi (w_get hW hs) hc (iZ_in h0 h1 h2) (by rw [iZ_clamp ⟨by omega, by omega⟩, Int.toNat_of_nonneg h0]; exact hy) hn (t h hW)
theorem w_iast {a n : Nat} {i z : Int} {fs : List (Nat × Nat)} (hi : x_ins k pc = some .iastore) (hs : w_sh[a]? = some (1, 0, n, fs)) (h0 : 0 ≤ i) (h1 : i < n) (h2 : (n : Int) ≤ 2147483648) (hn : pc + 1 = pc2) (t : w_T sc d k pc2 lv st (w_A S a (w_u (sA S a) i z)) Q) : w_T sc d k pc lv (.int (iZ z) :: .int (iZ i) :: .ref a :: st) S Q := by
  intro h hW
  refine x_T_iast hi (w_get hW hs) (iZ_in h0 h1 h2) hn (t _ (w_up hW ?_ (fun b hb => w_cl_cong (S := S) (S' := w_A S a (w_u (sA S a) i z)) (b := b) (fun _ => rfl) (fun _ => rfl) (by simp [w_A, hb]) rfl rfl _)))
  rw [hs, iZ_clamp ⟨by omega, by omega⟩]
  show Sum.inl (0, n, Sum.inl (upd _ _ _)) = Sum.inl (0, n, Sum.inl _)
  congr 4
  funext j
  by_cases e : j = i.toNat
  · have e2 : (j : Int) = i := by omega
    simp [upd, w_A, w_u, e, e2, Int.toNat_of_nonneg h0]
  · have e2 : ¬ (j : Int) = i := by omega
    simp [upd, w_A, w_u, e, e2]
theorem w_cast {a n : Nat} {i z : Int} {fs : List (Nat × Nat)} (hi : x_ins k pc = some .castore) (hs : w_sh[a]? = some (1, 2, n, fs)) (h0 : 0 ≤ i) (h1 : i < n) (h2 : (n : Int) ≤ 2147483648) (hz : vp_nar .char (iZ z) = iZ z) (hn : pc + 1 = pc2) (t : w_T sc d k pc2 lv st (w_A S a (w_u (sA S a) i z)) Q) : w_T sc d k pc lv (.int (iZ z) :: .int (iZ i) :: .ref a :: st) S Q := by
  intro h hW
  refine x_T_cast hi (w_get hW hs) (iZ_in h0 h1 h2) hn (t _ (w_up hW ?_ (fun b hb => w_cl_cong (S := S) (S' := w_A S a (w_u (sA S a) i z)) (b := b) (fun _ => rfl) (fun _ => rfl) (by simp [w_A, hb]) rfl rfl _)))
  rw [hs, iZ_clamp ⟨by omega, by omega⟩, hz]
  show Sum.inl (2, n, Sum.inl (upd _ _ _)) = Sum.inl (2, n, Sum.inl _)
  congr 4
  funext j
  by_cases e : j = i.toNat
  · have e2 : (j : Int) = i := by omega
    simp [upd, w_A, w_u, e, e2, Int.toNat_of_nonneg h0]
  · have e2 : ¬ (j : Int) = i := by omega
    simp [upd, w_A, w_u, e, e2]
theorem w_bast {a n : Nat} {i z : Int} {fs : List (Nat × Nat)} (hi : x_ins k pc = some .bastore) (hs : w_sh[a]? = some (1, 3, n, fs)) (h0 : 0 ≤ i) (h1 : i < n) (h2 : (n : Int) ≤ 2147483648) (hz : vp_nar .boolean (iZ z) = iZ z) (hn : pc + 1 = pc2) (t : w_T sc d k pc2 lv st (w_A S a (w_u (sA S a) i z)) Q) : w_T sc d k pc lv (.int (iZ z) :: .int (iZ i) :: .ref a :: st) S Q := by
  intro h hW
  refine x_T_bast hi (w_get hW hs) (iZ_in h0 h1 h2) hn (t _ (w_up hW ?_ (fun b hb => w_cl_cong (S := S) (S' := w_A S a (w_u (sA S a) i z)) (b := b) (fun _ => rfl) (fun _ => rfl) (by simp [w_A, hb]) rfl rfl _)))
  rw [hs, iZ_clamp ⟨by omega, by omega⟩, hz]
  show Sum.inl (3, n, Sum.inl (upd _ _ _)) = Sum.inl (3, n, Sum.inl _)
  congr 4
  funext j
  by_cases e : j = i.toNat
  · have e2 : (j : Int) = i := by omega
    simp [upd, w_A, w_u, e, e2, Int.toNat_of_nonneg h0]
  · have e2 : ¬ (j : Int) = i := by omega
    simp [upd, w_A, w_u, e, e2]
theorem w_last {a n : Nat} {i : Int} {z : Int64} {fs : List (Nat × Nat)} (hi : x_ins k pc = some .lastore) (hs : w_sh[a]? = some (2, 1, n, fs)) (h0 : 0 ≤ i) (h1 : i < n) (h2 : (n : Int) ≤ 2147483648) (hn : pc + 1 = pc2) (t : w_T sc d k pc2 lv st (w_L S a (w_u (sL S a) i z)) Q) : w_T sc d k pc lv (.long z :: .int (iZ i) :: .ref a :: st) S Q := by
  intro h hW
  refine x_T_last hi (w_get hW hs) (iZ_in h0 h1 h2) hn (t _ (w_up hW ?_ (fun b hb => w_cl_cong (S := S) (S' := w_L S a (w_u (sL S a) i z)) (b := b) (fun _ => rfl) (fun _ => rfl) rfl (by simp [w_L, hb]) rfl _)))
  rw [hs, iZ_clamp ⟨by omega, by omega⟩]
  show Sum.inl (1, n, Sum.inr (Sum.inl (vp_updL _ _ _))) = Sum.inl (1, n, Sum.inr (Sum.inl _))
  congr 5
  funext j
  by_cases e : j = i.toNat
  · have e2 : (j : Int) = i := by omega
    simp [vp_updL, w_L, w_u, e, e2, Int.toNat_of_nonneg h0]
  · have e2 : ¬ (j : Int) = i := by omega
    simp [vp_updL, w_L, w_u, e, e2]
theorem w_aast {a n t0 ci y nn : Nat} {i : Int} {fs gs : List (Nat × Nat)} (hi : x_ins k pc = some .aastore) (hs : w_sh[a]? = some (3, t0, n, fs)) (hs2 : w_sh[y]? = some (0, ci, nn, gs)) (hc : x_cp t0 = some ci) (h0 : 0 ≤ i) (h1 : i < n) (h2 : (n : Int) ≤ 2147483648) (hn : pc + 1 = pc2) (t : w_T sc d k pc2 lv st (w_R S a (w_u (sR S a) i (some y))) Q) : w_T sc d k pc lv (.ref y :: .int (iZ i) :: .ref a :: st) S Q := by
  subst hn
  intro h hW
  refine x_T_step hi ?_ (t _ (w_up hW (a := a) (e := .inl (t0, n, .inr (.inr (.inr (.inr (va_up (fun j => S.2.2.2.2 a (j : Int)) i.toNat (some y))))))) ?_ (fun b hb => w_cl_cong (S := S) (S' := w_R S a (w_u (sR S a) i (some y))) (b := b) (fun _ => rfl) (fun _ => rfl) rfl rfl (by simp [w_R, hb]) _)))
  · have g1 := w_get hW hs
    have g2 := w_get hW hs2
    simp only [w_cl] at g1 g2
    have hj := iZ_in h0 h1 h2
    have hc2 := iZ_clamp (a := i) ⟨by omega, by omega⟩
    simp [x_one, x_pop, x_lod, x_sto, x_jmp, x_rd, x_wr, x_as, g1, g2, hj, hc, hc2, x_len]
  · rw [hs]
    show Sum.inl (t0, n, Sum.inr (Sum.inr (Sum.inr (Sum.inr (va_up _ _ _))))) = Sum.inl (t0, n, Sum.inr (Sum.inr (Sum.inr (Sum.inr _))))
    congr 7
    funext j
    by_cases e : j = i.toNat
    · have e2 : (j : Int) = i := by omega
      simp [va_up, w_R, w_u, e, e2, Int.toNat_of_nonneg h0]
    · have e2 : ¬ (j : Int) = i := by omega
      simp [va_up, w_R, w_u, e, e2]
theorem w_acpi {idx a0 a1 n0 n1 qq mm : Nat} {sp dp n : Int} {f0 f1 : List (Nat × Nat)} (hi : x_ins k pc = some (.invokestatic idx)) (hm : x_mth k idx = some (qq, 8, mm)) (hs0 : w_sh[a0]? = some (1, 0, n0, f0)) (hs1 : w_sh[a1]? = some (1, 0, n1, f1)) (h0 : 0 ≤ sp) (h1 : 0 ≤ dp) (h2 : 0 ≤ n) (h3 : sp + n ≤ n0) (h4 : dp + n ≤ n1) (h5 : (n0 : Int) < 2147483648) (h6 : (n1 : Int) < 2147483648) (hd : ¬ d = 0) (hr : x_cs st ≤ 8) (hn : pc + 3 = pc2) (t : w_T sc d k pc2 lv st (w_A S a1 (w_cp (sA S a0) (sA S a1) sp dp n)) Q) : w_T sc d k pc lv (.int (iZ n) :: .int (iZ dp) :: .ref a1 :: .int (iZ sp) :: .ref a0 :: st) S Q := by
  subst hn
  intro h hW
  refine x_T_step hi ?_ (t _ (w_up hW (a := a1) (e := .inl (0, n1, .inl (va_cpy (fun j => iZ (S.2.2.1 a0 (j : Int))) (fun j => iZ (S.2.2.1 a1 (j : Int))) sp.toNat dp.toNat n.toNat))) ?_ (fun b hb => w_cl_cong (S := S) (S' := w_A S a1 (w_cp (sA S a0) (sA S a1) sp dp n)) (b := b) (fun _ => rfl) (fun _ => rfl) (by simp [w_A, hb]) rfl rfl _)))
  · have g1 := w_get hW hs0
    have g2 := w_get hW hs1
    simp only [w_cl] at g1 g2
    have c1 := iZ_clamp (a := sp) ⟨by omega, by omega⟩
    have c2 := iZ_clamp (a := dp) ⟨by omega, by omega⟩
    have c3 := iZ_clamp (a := n) ⟨by omega, by omega⟩
    have z0 : ∀ {x : Int}, 0 ≤ x → x < 2147483648 → ¬ iZ x < 0 := fun {x} p q => by
      rw [show (0 : Int32) = iZ 0 by decide, iZ_lt ⟨by omega, by omega⟩ iR_0]
      omega
    have ok : x_aok2 d 8 st (iZ sp) (iZ dp) (iZ n) n0 n1 = true := by
      simp [x_aok2, hd, hr, c1, c2, c3]
      refine ⟨?_, ?_, ?_, by omega, by omega⟩
      · exact Int32.not_lt.mp (z0 h0 (by omega))
      · exact Int32.not_lt.mp (z0 h1 (by omega))
      · exact Int32.not_lt.mp (z0 h2 (by omega))
    simp [x_one, x_pop, x_lod, x_sto, x_jmp, x_rd, x_wr, x_or, x_aci, hm, g1, g2, ok, c1, c2, c3, x_len]
  · rw [hs1]
    show Sum.inl (0, n1, Sum.inl (va_cpy _ _ _ _ _)) = Sum.inl (0, n1, Sum.inl _)
    congr 4
    funext j
    simp only [va_cpy, w_A, if_true, w_cp]
    by_cases e : dp.toNat ≤ j ∧ j < dp.toNat + n.toNat
    · rw [if_pos e, if_pos ⟨by omega, by omega⟩]
      rw [show ((sp.toNat + (j - dp.toNat) : Nat) : Int) = sp + ((j : Int) - dp) by omega]
    · rw [if_neg e, if_neg (fun q => e ⟨by omega, by omega⟩)]
theorem w_acpl {idx a0 a1 n0 n1 qq mm : Nat} {sp dp n : Int} {f0 f1 : List (Nat × Nat)} (hi : x_ins k pc = some (.invokestatic idx)) (hm : x_mth k idx = some (qq, 8, mm)) (hs0 : w_sh[a0]? = some (2, 1, n0, f0)) (hs1 : w_sh[a1]? = some (2, 1, n1, f1)) (h0 : 0 ≤ sp) (h1 : 0 ≤ dp) (h2 : 0 ≤ n) (h3 : sp + n ≤ n0) (h4 : dp + n ≤ n1) (h5 : (n0 : Int) < 2147483648) (h6 : (n1 : Int) < 2147483648) (hd : ¬ d = 0) (hr : x_cs st ≤ 8) (hn : pc + 3 = pc2) (t : w_T sc d k pc2 lv st (w_L S a1 (w_cp (sL S a0) (sL S a1) sp dp n)) Q) : w_T sc d k pc lv (.int (iZ n) :: .int (iZ dp) :: .ref a1 :: .int (iZ sp) :: .ref a0 :: st) S Q := by
  subst hn
  intro h hW
  refine x_T_step hi ?_ (t _ (w_up hW (a := a1) (e := .inl (1, n1, .inr (.inl (va_cpy (fun j => S.2.2.2.1 a0 (j : Int)) (fun j => S.2.2.2.1 a1 (j : Int)) sp.toNat dp.toNat n.toNat)))) ?_ (fun b hb => w_cl_cong (S := S) (S' := w_L S a1 (w_cp (sL S a0) (sL S a1) sp dp n)) (b := b) (fun _ => rfl) (fun _ => rfl) rfl (by simp [w_L, hb]) rfl _)))
  · have g1 := w_get hW hs0
    have g2 := w_get hW hs1
    simp only [w_cl] at g1 g2
    have c1 := iZ_clamp (a := sp) ⟨by omega, by omega⟩
    have c2 := iZ_clamp (a := dp) ⟨by omega, by omega⟩
    have c3 := iZ_clamp (a := n) ⟨by omega, by omega⟩
    have z0 : ∀ {x : Int}, 0 ≤ x → x < 2147483648 → ¬ iZ x < 0 := fun {x} p q => by
      rw [show (0 : Int32) = iZ 0 by decide, iZ_lt ⟨by omega, by omega⟩ iR_0]
      omega
    have ok : x_aok2 d 8 st (iZ sp) (iZ dp) (iZ n) n0 n1 = true := by
      simp [x_aok2, hd, hr, c1, c2, c3]
      refine ⟨?_, ?_, ?_, by omega, by omega⟩
      · exact Int32.not_lt.mp (z0 h0 (by omega))
      · exact Int32.not_lt.mp (z0 h1 (by omega))
      · exact Int32.not_lt.mp (z0 h2 (by omega))
    simp [x_one, x_pop, x_lod, x_sto, x_jmp, x_rd, x_wr, x_or, x_aci, x_acl, hm, g1, g2, ok, c1, c2, c3, x_len]
  · rw [hs1]
    show Sum.inl (1, n1, Sum.inr (Sum.inl (va_cpy _ _ _ _ _))) = Sum.inl (1, n1, Sum.inr (Sum.inl _))
    congr 5
    funext j
    simp only [va_cpy, w_L, if_true, w_cp]
    by_cases e : dp.toNat ≤ j ∧ j < dp.toNat + n.toNat
    · rw [if_pos e, if_pos ⟨by omega, by omega⟩]
      rw [show ((sp.toNat + (j - dp.toNat) : Nat) : Int) = sp + ((j : Int) - dp) by omega]
    · rw [if_neg e, if_neg (fun q => e ⟨by omega, by omega⟩)]
end WR
end
section
/-! The rows that leave the cells alone, calls and ends, over the state. -/
section WE
variable {sc : x_S} {d k pc : Nat} {lv : x_L} {st : List Value} {S : w_S} {Q : Option Value → w_S → Prop} {pc2 pc3 : Nat}
theorem w_mono {Q1 : Option Value → w_S → Prop} (t : w_T sc d k pc lv st S Q1) (hQ : ∀ r S2, Q1 r S2 → Q r S2) : w_T sc d k pc lv st S Q := fun h hW => x_T_mono (t h hW) (fun r h2 ⟨S2, a, b⟩ => ⟨S2, a, hQ r S2 b⟩)
theorem w_iload {j : Nat} {x : Int32} (hi : x_ins k pc = some (.iload j)) (hl : lv j = some (.int x)) (hn : pc + 2 = pc2) (t : w_T sc d k pc2 lv (.int x :: st) S Q) : w_T sc d k pc lv st S Q := fun h hW => x_T_iload hi hl hn (t h hW)
theorem w_iload_n {j : Fin 4} {x : Int32} (hi : x_ins k pc = some (.iload_n j)) (hl : lv (j : Nat) = some (.int x)) (hn : pc + 1 = pc2) (t : w_T sc d k pc2 lv (.int x :: st) S Q) : w_T sc d k pc lv st S Q := fun h hW => x_T_iload_n hi hl hn (t h hW)
theorem w_lload {j : Nat} {x : Int64} (hi : x_ins k pc = some (.lload j)) (hl : lv j = some (.long x)) (hn : pc + 2 = pc2) (t : w_T sc d k pc2 lv (.long x :: st) S Q) : w_T sc d k pc lv st S Q := fun h hW => x_T_lload hi hl hn (t h hW)
theorem w_lload_n {j : Fin 4} {x : Int64} (hi : x_ins k pc = some (.lload_n j)) (hl : lv (j : Nat) = some (.long x)) (hn : pc + 1 = pc2) (t : w_T sc d k pc2 lv (.long x :: st) S Q) : w_T sc d k pc lv st S Q := fun h hW => x_T_lload_n hi hl hn (t h hW)
theorem w_aload {j : Nat} {x : Nat} (hi : x_ins k pc = some (.aload j)) (hl : lv j = some (.ref x)) (hn : pc + 2 = pc2) (t : w_T sc d k pc2 lv (.ref x :: st) S Q) : w_T sc d k pc lv st S Q := fun h hW => x_T_aload hi hl hn (t h hW)
theorem w_aload_n {j : Fin 4} {x : Nat} (hi : x_ins k pc = some (.aload_n j)) (hl : lv (j : Nat) = some (.ref x)) (hn : pc + 1 = pc2) (t : w_T sc d k pc2 lv (.ref x :: st) S Q) : w_T sc d k pc lv st S Q := fun h hW => x_T_aload_n hi hl hn (t h hW)
theorem w_istore {j : Nat} {x : Int32} {st : List Value} (hi : x_ins k pc = some (.istore j)) (hb : j < x_nL k) (hn : pc + 2 = pc2) (t : w_T sc d k pc2 (x_s1 lv j (.int x)) st S Q) : w_T sc d k pc lv (.int x :: st) S Q := fun h hW => x_T_istore hi hb hn (t h hW)
theorem w_istore_n {j : Fin 4} {x : Int32} {st : List Value} (hi : x_ins k pc = some (.istore_n j)) (hb : (j : Nat) < x_nL k) (hn : pc + 1 = pc2) (t : w_T sc d k pc2 (x_s1 lv (j : Nat) (.int x)) st S Q) : w_T sc d k pc lv (.int x :: st) S Q := fun h hW => x_T_istore_n hi hb hn (t h hW)
theorem w_lstore {j : Nat} {x : Int64} {st : List Value} (hi : x_ins k pc = some (.lstore j)) (hb : j + 1 < x_nL k) (hn : pc + 2 = pc2) (t : w_T sc d k pc2 (x_s2 lv j (.long x)) st S Q) : w_T sc d k pc lv (.long x :: st) S Q := fun h hW => x_T_lstore hi hb hn (t h hW)
theorem w_lstore_n {j : Fin 4} {x : Int64} {st : List Value} (hi : x_ins k pc = some (.lstore_n j)) (hb : (j : Nat) + 1 < x_nL k) (hn : pc + 1 = pc2) (t : w_T sc d k pc2 (x_s2 lv (j : Nat) (.long x)) st S Q) : w_T sc d k pc lv (.long x :: st) S Q := fun h hW => x_T_lstore_n hi hb hn (t h hW)
theorem w_astore {j : Nat} {x : Nat} {st : List Value} (hi : x_ins k pc = some (.astore j)) (hb : j < x_nL k) (hn : pc + 2 = pc2) (t : w_T sc d k pc2 (x_s1 lv j (.ref x)) st S Q) : w_T sc d k pc lv (.ref x :: st) S Q := fun h hW => x_T_astore hi hb hn (t h hW)
theorem w_astore_n {j : Fin 4} {x : Nat} {st : List Value} (hi : x_ins k pc = some (.astore_n j)) (hb : (j : Nat) < x_nL k) (hn : pc + 1 = pc2) (t : w_T sc d k pc2 (x_s1 lv (j : Nat) (.ref x)) st S Q) : w_T sc d k pc lv (.ref x :: st) S Q := fun h hW => x_T_astore_n hi hb hn (t h hW)
theorem w_iinc {j : Nat} {n a : Int} (hi : x_ins k pc = some (.iinc j n)) (hl : lv j = some (.int (iZ a))) (hb : j < x_nL k) (hn : pc + 3 = pc2) (t : w_T sc d k pc2 (x_s1 lv j (.int (iZ (a + n)))) st S Q) : w_T sc d k pc lv st S Q := fun h hW => z_iinc hi hl hb hn (t h hW)
theorem w_iconst {n : Int} (hi : x_ins k pc = some (.iconst n))  (hn : pc + 1 = pc2) (t : w_T sc d k pc2 lv (.int (iZ n) :: st) S Q) : w_T sc d k pc lv st S Q := fun h hW => z_iconst hi hn (t h hW)
theorem w_bipush {n : Int} (hi : x_ins k pc = some (.bipush n)) (hv : (Int8.ofInt n).toInt32 = iZ n) (hn : pc + 2 = pc2) (t : w_T sc d k pc2 lv (.int (iZ n) :: st) S Q) : w_T sc d k pc lv st S Q := fun h hW => z_bipush hi hv hn (t h hW)
theorem w_sipush {n : Int} (hi : x_ins k pc = some (.sipush n)) (hv : (Int16.ofInt n).toInt32 = iZ n) (hn : pc + 3 = pc2) (t : w_T sc d k pc2 lv (.int (iZ n) :: st) S Q) : w_T sc d k pc lv st S Q := fun h hW => z_sipush hi hv hn (t h hW)
theorem w_lconst {n : Fin 2} {v : Int64} (hi : x_ins k pc = some (.lconst n)) (hv : Int64.ofNat (n : Nat) = v) (hn : pc + 1 = pc2) (t : w_T sc d k pc2 lv (.long v :: st) S Q) : w_T sc d k pc lv st S Q := fun h hW => x_T_lconst hi hv hn (t h hW)
theorem w_iadd {a b : Int} {st : List Value} (hi : x_ins k pc = some .iadd)  (hn : pc + 1 = pc2) (t : w_T sc d k pc2 lv (.int (iZ (a + b)) :: st) S Q) : w_T sc d k pc lv (.int (iZ b) :: .int (iZ a) :: st) S Q := fun h hW => z_iadd hi hn (t h hW)
theorem w_isub {a b : Int} {st : List Value} (hi : x_ins k pc = some .isub)  (hn : pc + 1 = pc2) (t : w_T sc d k pc2 lv (.int (iZ (a - b)) :: st) S Q) : w_T sc d k pc lv (.int (iZ b) :: .int (iZ a) :: st) S Q := fun h hW => z_isub hi hn (t h hW)
theorem w_imul {a b : Int} {st : List Value} (hi : x_ins k pc = some .imul)  (hn : pc + 1 = pc2) (t : w_T sc d k pc2 lv (.int (iZ (a * b)) :: st) S Q) : w_T sc d k pc lv (.int (iZ b) :: .int (iZ a) :: st) S Q := fun h hW => z_imul hi hn (t h hW)
theorem w_iand {x y : Int32} {st : List Value} (hi : x_ins k pc = some .iand)  (hn : pc + 1 = pc2) (t : w_T sc d k pc2 lv (.int (x &&& y) :: st) S Q) : w_T sc d k pc lv (.int y :: .int x :: st) S Q := fun h hW => x_T_iand hi hn (t h hW)
theorem w_ior {x y : Int32} {st : List Value} (hi : x_ins k pc = some .ior)  (hn : pc + 1 = pc2) (t : w_T sc d k pc2 lv (.int (x ||| y) :: st) S Q) : w_T sc d k pc lv (.int y :: .int x :: st) S Q := fun h hW => x_T_ior hi hn (t h hW)
theorem w_ishl {x y : Int32} {st : List Value} (hi : x_ins k pc = some .ishl)  (hn : pc + 1 = pc2) (t : w_T sc d k pc2 lv (.int (x <<< (y &&& 31)) :: st) S Q) : w_T sc d k pc lv (.int y :: .int x :: st) S Q := fun h hW => x_T_ishl hi hn (t h hW)
theorem w_ishr {x y : Int32} {st : List Value} (hi : x_ins k pc = some .ishr)  (hn : pc + 1 = pc2) (t : w_T sc d k pc2 lv (.int (x >>> (y &&& 31)) :: st) S Q) : w_T sc d k pc lv (.int y :: .int x :: st) S Q := fun h hW => x_T_ishr hi hn (t h hW)
theorem w_ladd {x y : Int64} {st : List Value} (hi : x_ins k pc = some .ladd)  (hn : pc + 1 = pc2) (t : w_T sc d k pc2 lv (.long (x + y) :: st) S Q) : w_T sc d k pc lv (.long y :: .long x :: st) S Q := fun h hW => x_T_ladd hi hn (t h hW)
theorem w_lsub {x y : Int64} {st : List Value} (hi : x_ins k pc = some .lsub)  (hn : pc + 1 = pc2) (t : w_T sc d k pc2 lv (.long (x - y) :: st) S Q) : w_T sc d k pc lv (.long y :: .long x :: st) S Q := fun h hW => x_T_lsub hi hn (t h hW)
theorem w_land {x y : Int64} {st : List Value} (hi : x_ins k pc = some .land)  (hn : pc + 1 = pc2) (t : w_T sc d k pc2 lv (.long (x &&& y) :: st) S Q) : w_T sc d k pc lv (.long y :: .long x :: st) S Q := fun h hW => x_T_land hi hn (t h hW)
theorem w_lor {x y : Int64} {st : List Value} (hi : x_ins k pc = some .lor)  (hn : pc + 1 = pc2) (t : w_T sc d k pc2 lv (.long (x ||| y) :: st) S Q) : w_T sc d k pc lv (.long y :: .long x :: st) S Q := fun h hW => x_T_lor hi hn (t h hW)
theorem w_lshl {x : Int64} {y : Int32} {st : List Value} (hi : x_ins k pc = some .lshl)  (hn : pc + 1 = pc2) (t : w_T sc d k pc2 lv (.long (x <<< (y.toInt64 &&& 63)) :: st) S Q) : w_T sc d k pc lv (.int y :: .long x :: st) S Q := fun h hW => x_T_lshl hi hn (t h hW)
theorem w_lshr {x : Int64} {y : Int32} {st : List Value} (hi : x_ins k pc = some .lshr)  (hn : pc + 1 = pc2) (t : w_T sc d k pc2 lv (.long (x >>> (y.toInt64 &&& 63)) :: st) S Q) : w_T sc d k pc lv (.int y :: .long x :: st) S Q := fun h hW => x_T_lshr hi hn (t h hW)
theorem w_lcmp {x y : Int64} {st : List Value} (hi : x_ins k pc = some .lcmp)  (hn : pc + 1 = pc2) (t : w_T sc d k pc2 lv (.int (lg_cmp x y) :: st) S Q) : w_T sc d k pc lv (.long y :: .long x :: st) S Q := fun h hW => x_T_lcmp hi hn (t h hW)
theorem w_i2l {x : Int32} {st : List Value} (hi : x_ins k pc = some .i2l)  (hn : pc + 1 = pc2) (t : w_T sc d k pc2 lv (.long x.toInt64 :: st) S Q) : w_T sc d k pc lv (.int x :: st) S Q := fun h hW => x_T_i2l hi hn (t h hW)
theorem w_i2c {x : Int32} {st : List Value} (hi : x_ins k pc = some .i2c)  (hn : pc + 1 = pc2) (t : w_T sc d k pc2 lv (.int (x.toUInt32 % 65536).toInt32 :: st) S Q) : w_T sc d k pc lv (.int x :: st) S Q := fun h hW => x_T_i2c hi hn (t h hW)
theorem w_l2i {x : Int64} {st : List Value} (hi : x_ins k pc = some .l2i)  (hn : pc + 1 = pc2) (t : w_T sc d k pc2 lv (.int x.toInt32 :: st) S Q) : w_T sc d k pc lv (.long x :: st) S Q := fun h hW => x_T_l2i hi hn (t h hW)
theorem w_idiv {x y : Int32} {st : List Value} (hi : x_ins k pc = some .idiv) (hy : ¬ y = 0) (hn : pc + 1 = pc2) (t : w_T sc d k pc2 lv (.int (x / y) :: st) S Q) : w_T sc d k pc lv (.int y :: .int x :: st) S Q := fun h hW => x_T_idiv hi hy hn (t h hW)
theorem w_irem {x y : Int32} {st : List Value} (hi : x_ins k pc = some .irem) (hy : ¬ y = 0) (hn : pc + 1 = pc2) (t : w_T sc d k pc2 lv (.int (x - x / y * y) :: st) S Q) : w_T sc d k pc lv (.int y :: .int x :: st) S Q := fun h hW => x_T_irem hi hy hn (t h hW)
theorem w_dup {v : Value} {st : List Value} (hi : x_ins k pc = some .dup) (hv : v.category = 1) (hn : pc + 1 = pc2) (t : w_T sc d k pc2 lv (v :: v :: st) S Q) : w_T sc d k pc lv (v :: st) S Q := fun h hW => x_T_dup hi hv hn (t h hW)
theorem w_pop {v : Value} {st : List Value} (hi : x_ins k pc = some .pop) (hv : v.category = 1) (hn : pc + 1 = pc2) (t : w_T sc d k pc2 lv st S Q) : w_T sc d k pc lv (v :: st) S Q := fun h hW => x_T_pop hi hv hn (t h hW)
theorem w_dup2 {v u : Value} {st : List Value} (hi : x_ins k pc = some .dup2) (hv : v.category = 1) (hu : u.category = 1) (hn : pc + 1 = pc2) (t : w_T sc d k pc2 lv (v :: u :: v :: u :: st) S Q) : w_T sc d k pc lv (v :: u :: st) S Q := fun h hW => x_T_dup2 hi hv hu hn (t h hW)
theorem w_goto {off : Int} (hi : x_ins k pc = some (.goto off)) (hn : (pc : Int) + off = (pc2 : Int)) (t : w_T sc d k pc2 lv st S Q) : w_T sc d k pc lv st S Q := fun h hW => x_T_goto hi hn (t h hW)
theorem w_ic_lt {a b : Int} {st : List Value} {off : Int} (hi : x_ins k pc = some (.if_icmp .lt off)) (hn : (pc : Int) + off = (pc2 : Int)) (hm : pc + 3 = pc3) (ha : iR a) (hb : iR b) (t : a < b → w_T sc d k pc2 lv st S Q) (f : b ≤ a → w_T sc d k pc3 lv st S Q) : w_T sc d k pc lv (.int (iZ b) :: .int (iZ a) :: st) S Q := fun h hW => z_ic_lt hi hn hm ha hb (fun q => t q h hW) (fun q => f q h hW)
theorem w_if_lt {a : Int} {st : List Value} {off : Int} (hi : x_ins k pc = some (.ifCond .lt off)) (hn : (pc : Int) + off = (pc2 : Int)) (hm : pc + 3 = pc3) (ha : iR a) (t : a < 0 → w_T sc d k pc2 lv st S Q) (f : 0 ≤ a → w_T sc d k pc3 lv st S Q) : w_T sc d k pc lv (.int (iZ a) :: st) S Q := fun h hW => z_if_lt hi hn hm ha (fun q => t q h hW) (fun q => f q h hW)
theorem w_ic_ge {a b : Int} {st : List Value} {off : Int} (hi : x_ins k pc = some (.if_icmp .ge off)) (hn : (pc : Int) + off = (pc2 : Int)) (hm : pc + 3 = pc3) (ha : iR a) (hb : iR b) (t : b ≤ a → w_T sc d k pc2 lv st S Q) (f : a < b → w_T sc d k pc3 lv st S Q) : w_T sc d k pc lv (.int (iZ b) :: .int (iZ a) :: st) S Q := fun h hW => z_ic_ge hi hn hm ha hb (fun q => t q h hW) (fun q => f q h hW)
theorem w_if_ge {a : Int} {st : List Value} {off : Int} (hi : x_ins k pc = some (.ifCond .ge off)) (hn : (pc : Int) + off = (pc2 : Int)) (hm : pc + 3 = pc3) (ha : iR a) (t : 0 ≤ a → w_T sc d k pc2 lv st S Q) (f : a < 0 → w_T sc d k pc3 lv st S Q) : w_T sc d k pc lv (.int (iZ a) :: st) S Q := fun h hW => z_if_ge hi hn hm ha (fun q => t q h hW) (fun q => f q h hW)
theorem w_ic_gt {a b : Int} {st : List Value} {off : Int} (hi : x_ins k pc = some (.if_icmp .gt off)) (hn : (pc : Int) + off = (pc2 : Int)) (hm : pc + 3 = pc3) (ha : iR a) (hb : iR b) (t : b < a → w_T sc d k pc2 lv st S Q) (f : a ≤ b → w_T sc d k pc3 lv st S Q) : w_T sc d k pc lv (.int (iZ b) :: .int (iZ a) :: st) S Q := fun h hW => z_ic_gt hi hn hm ha hb (fun q => t q h hW) (fun q => f q h hW)
theorem w_if_gt {a : Int} {st : List Value} {off : Int} (hi : x_ins k pc = some (.ifCond .gt off)) (hn : (pc : Int) + off = (pc2 : Int)) (hm : pc + 3 = pc3) (ha : iR a) (t : 0 < a → w_T sc d k pc2 lv st S Q) (f : a ≤ 0 → w_T sc d k pc3 lv st S Q) : w_T sc d k pc lv (.int (iZ a) :: st) S Q := fun h hW => z_if_gt hi hn hm ha (fun q => t q h hW) (fun q => f q h hW)
theorem w_ic_le {a b : Int} {st : List Value} {off : Int} (hi : x_ins k pc = some (.if_icmp .le off)) (hn : (pc : Int) + off = (pc2 : Int)) (hm : pc + 3 = pc3) (ha : iR a) (hb : iR b) (t : a ≤ b → w_T sc d k pc2 lv st S Q) (f : b < a → w_T sc d k pc3 lv st S Q) : w_T sc d k pc lv (.int (iZ b) :: .int (iZ a) :: st) S Q := fun h hW => z_ic_le hi hn hm ha hb (fun q => t q h hW) (fun q => f q h hW)
theorem w_if_le {a : Int} {st : List Value} {off : Int} (hi : x_ins k pc = some (.ifCond .le off)) (hn : (pc : Int) + off = (pc2 : Int)) (hm : pc + 3 = pc3) (ha : iR a) (t : a ≤ 0 → w_T sc d k pc2 lv st S Q) (f : 0 < a → w_T sc d k pc3 lv st S Q) : w_T sc d k pc lv (.int (iZ a) :: st) S Q := fun h hW => z_if_le hi hn hm ha (fun q => t q h hW) (fun q => f q h hW)
theorem w_ic_eq {a b : Int} {st : List Value} {off : Int} (hi : x_ins k pc = some (.if_icmp .eq off)) (hn : (pc : Int) + off = (pc2 : Int)) (hm : pc + 3 = pc3) (ha : iR a) (hb : iR b) (t : a = b → w_T sc d k pc2 lv st S Q) (f : ¬ a = b → w_T sc d k pc3 lv st S Q) : w_T sc d k pc lv (.int (iZ b) :: .int (iZ a) :: st) S Q := fun h hW => z_ic_eq hi hn hm ha hb (fun q => t q h hW) (fun q => f q h hW)
theorem w_if_eq {a : Int} {st : List Value} {off : Int} (hi : x_ins k pc = some (.ifCond .eq off)) (hn : (pc : Int) + off = (pc2 : Int)) (hm : pc + 3 = pc3) (ha : iR a) (t : a = 0 → w_T sc d k pc2 lv st S Q) (f : ¬ a = 0 → w_T sc d k pc3 lv st S Q) : w_T sc d k pc lv (.int (iZ a) :: st) S Q := fun h hW => z_if_eq hi hn hm ha (fun q => t q h hW) (fun q => f q h hW)
theorem w_ic_ne {a b : Int} {st : List Value} {off : Int} (hi : x_ins k pc = some (.if_icmp .ne off)) (hn : (pc : Int) + off = (pc2 : Int)) (hm : pc + 3 = pc3) (ha : iR a) (hb : iR b) (t : ¬ a = b → w_T sc d k pc2 lv st S Q) (f : a = b → w_T sc d k pc3 lv st S Q) : w_T sc d k pc lv (.int (iZ b) :: .int (iZ a) :: st) S Q := fun h hW => z_ic_ne hi hn hm ha hb (fun q => t q h hW) (fun q => f q h hW)
theorem w_if_ne {a : Int} {st : List Value} {off : Int} (hi : x_ins k pc = some (.ifCond .ne off)) (hn : (pc : Int) + off = (pc2 : Int)) (hm : pc + 3 = pc3) (ha : iR a) (t : ¬ a = 0 → w_T sc d k pc2 lv st S Q) (f : a = 0 → w_T sc d k pc3 lv st S Q) : w_T sc d k pc lv (.int (iZ a) :: st) S Q := fun h hW => z_if_ne hi hn hm ha (fun q => t q h hW) (fun q => f q h hW)
theorem w_l_ne {x y : Int64} {st : List Value} {off : Int} (hi0 : x_ins k pc = some .lcmp) (hi : x_ins k (pc + 1) = some (.ifCond .ne off)) (hn : ((pc + 1 : Nat) : Int) + off = (pc2 : Int)) (hm : pc + 1 + 3 = pc3) (t : ¬ x = y → w_T sc d k pc2 lv st S Q) (f : x = y → w_T sc d k pc3 lv st S Q) : w_T sc d k pc lv (.long y :: .long x :: st) S Q := fun h hW => z_l_ne hi0 hi hn hm (fun q => t q h hW) (fun q => f q h hW)
theorem w_l_eq {x y : Int64} {st : List Value} {off : Int} (hi0 : x_ins k pc = some .lcmp) (hi : x_ins k (pc + 1) = some (.ifCond .eq off)) (hn : ((pc + 1 : Nat) : Int) + off = (pc2 : Int)) (hm : pc + 1 + 3 = pc3) (t : x = y → w_T sc d k pc2 lv st S Q) (f : ¬ x = y → w_T sc d k pc3 lv st S Q) : w_T sc d k pc lv (.long y :: .long x :: st) S Q := fun h hW => z_l_eq hi0 hi hn hm (fun q => t q h hW) (fun q => f q h hW)
theorem w_ldc2 {idx : Nat} {v : Int64} (hi : x_ins k pc = some (.ldc2_w idx)) (hc : x_con k idx = some (.long v)) (hn : pc + 3 = pc2) (t : w_T sc d k pc2 lv (.long v :: st) S Q) : w_T sc d k pc lv st S Q := by
  subst hn
  intro h hW
  refine x_T_step hi ?_ (t h hW)
  simp [x_one, x_pop, x_lod, x_sto, x_jmp, x_rd, x_ll2, hc, x_len]
theorem w_alen {a t0 n kd : Nat} {fs : List (Nat × Nat)} {st : List Value} (hi : x_ins k pc = some .arraylength) (hs : w_sh[a]? = some (kd, t0, n, fs)) (hk : ¬ kd = 0) (ht : t0 < x_ty.length) (hn : pc + 1 = pc2) (t : w_T sc d k pc2 lv (.int (iZ n) :: st) S Q) : w_T sc d k pc lv (.ref a :: st) S Q := by
  intro h hW
  have hg := w_get hW hs
  unfold w_cl at hg
  split at hg
  · rename_i e
    cases e
    exact absurd rfl hk
  · rename_i e
    cases e
    exact x_T_alen hi hg ht hn (t h hW)
  · rename_i e
    cases e
    exact x_T_alen hi hg ht hn (t h hW)
  · rename_i e
    cases e
    exact x_T_alen hi hg ht hn (t h hW)
  · rename_i e
    cases e
theorem w_iret {x : Int32} (hi : x_ins k pc = some .ireturn) (hr : x_rt k = some .int) (hq : Q (some (.int x)) S) : w_T sc d k pc lv [.int x] S Q := fun h hW => x_T_iret hi hr ⟨S, hW, hq⟩
theorem w_zret {x : Int32} (hi : x_ins k pc = some .ireturn) (hr : x_rt k = some .boolean) (hx : x &&& 1 = x) (hq : Q (some (.int x)) S) : w_T sc d k pc lv [.int x] S Q := fun h hW => x_T_zret hi hr hx ⟨S, hW, hq⟩
theorem w_lret {x : Int64} (hi : x_ins k pc = some .lreturn) (hr : x_rt k = some .long) (hq : Q (some (.long x)) S) : w_T sc d k pc lv [.long x] S Q := fun h hW => x_T_lret hi hr ⟨S, hW, hq⟩
theorem w_vret (hi : x_ins k pc = some .return_) (hr : x_rt k = none) (hq : Q none S) : w_T sc d k pc lv [] S Q := fun h hW => x_T_vret hi hr ⟨S, hW, hq⟩
theorem w_cs {idx kc n : Nat} {as r : List Value} (hi : x_ins k pc = some (.invokestatic idx)) (hm : x_mth k idx = some (kc, 0, n)) (hn : as.length = n) (hst : st = as.reverse ++ r) (hr : x_cs r ≤ 8) (ha : x_cs as ≤ x_nL kc) (t : w_T sc d kc 0 (x_en 0 as) [] S (fun v S2 => w_T sc (d + 1) k (pc + 3) lv (v.toList ++ r) S2 Q)) : w_T sc (d + 1) k pc lv st S Q := fun h hW => x_T_cs hi hm hn hst hr ha (x_T_mono (t h hW) (fun v h2 ⟨S2, a, b⟩ => b h2 a))
theorem w_cv {idx kc a n nn : Nat} {fs : List (Nat × Nat)} {as r : List Value} (hi : x_ins k pc = some (.invokevirtual idx)) (hm : x_mth k idx = some (kc, 1, n)) (hn : as.length = n) (hst : st = as.reverse ++ .ref a :: r) (hs : w_sh[a]? = some (0, x_own kc, nn, fs)) (hr : x_cs r ≤ 8) (ha : x_cs (.ref a :: as) ≤ x_nL kc) (t : w_T sc d kc 0 (x_en 0 (.ref a :: as)) [] S (fun v S2 => w_T sc (d + 1) k (pc + 3) lv (v.toList ++ r) S2 Q)) : w_T sc (d + 1) k pc lv st S Q := fun h hW => x_T_cv hi hm hn hst (w_get hW hs) hr ha (x_T_mono (t h hW) (fun v h2 ⟨S2, a, b⟩ => b h2 a))
end WE
end
section
/-! More rows over the state: bits, longs, truth values, calls by contract, Strings. -/
def zB (b : Bool) : Int := if b then 1 else 0
theorem zB_t {b : Bool} (h : b = true) : zB b = 1 := by rw [h]; rfl
theorem zB_f {b : Bool} (h : b = false) : zB b = 0 := by rw [h]; rfl
theorem zB_R (b : Bool) : iR (zB b) := by cases b <;> exact ⟨by decide, by decide⟩
theorem zB_0 (b : Bool) : 0 ≤ zB b := by cases b <;> decide
theorem zB_1 (b : Bool) : zB b ≤ 1 := by cases b <;> decide
theorem zB_and (b : Bool) : iZ (zB b) &&& 1 = iZ (zB b) := by cases b <;> decide
theorem zB_fit (b : Bool) : x_fit .boolean (.int (iZ (zB b))) = true := by cases b <;> decide
theorem zB_nar (b : Bool) : vp_nar .boolean (iZ (zB b)) = iZ (zB b) := by cases b <;> decide
theorem zB_eq0 {b : Bool} : zB b = 0 ↔ b = false := by cases b <;> decide
theorem zB_ne0 {b : Bool} : ¬ zB b = 0 ↔ b = true := by cases b <;> decide
def zand (a b : Int) : Int := (iZ a &&& iZ b).toInt
def zor (a b : Int) : Int := (iZ a ||| iZ b).toInt
def zshl (a b : Int) : Int := (iZ a <<< (iZ b &&& 31)).toInt
def zshr (a b : Int) : Int := (iZ a >>> (iZ b &&& 31)).toInt
def zdiv (a b : Int) : Int := (iZ a / iZ b).toInt
def zrem (a b : Int) : Int := (iZ a - iZ a / iZ b * iZ b).toInt
def zi2c (a : Int) : Int := ((iZ a).toUInt32 % 65536).toInt32.toInt
def zl2i (x : Int64) : Int := x.toInt32.toInt
def li2l (a : Int) : Int64 := (iZ a).toInt64
def lshl (x : Int64) (a : Int) : Int64 := x <<< ((iZ a).toInt64 &&& 63)
def lshr (x : Int64) (a : Int) : Int64 := x >>> ((iZ a).toInt64 &&& 63)
theorem iZ_back (x : Int32) : iZ x.toInt = x := (iZ_of x).symm
theorem zand_R (a b : Int) : iR (zand a b) := iR_of _
theorem zor_R (a b : Int) : iR (zor a b) := iR_of _
theorem zshl_R (a b : Int) : iR (zshl a b) := iR_of _
theorem zshr_R (a b : Int) : iR (zshr a b) := iR_of _
theorem zdiv_R (a b : Int) : iR (zdiv a b) := iR_of _
theorem zrem_R (a b : Int) : iR (zrem a b) := iR_of _
theorem zi2c_R (a : Int) : iR (zi2c a) := iR_of _
theorem zl2i_R (a : Int64) : iR (zl2i a) := iR_of _
/-- a compare of two longs, by order -/
theorem lg_lt0 {x y : Int64} : x_cc .lt (lg_cmp x y) 0 = true ↔ x < y := by
  unfold lg_cmp
  by_cases h1 : y < x
  · have h2 : ¬ x < y := fun z => Int64.lt_irrefl (Int64.lt_trans h1 z)
    simp [x_cc, h1, h2]
  · by_cases h2 : x = y
    · subst h2
      simp [x_cc, Int64.lt_irrefl]
    · have h3 : x < y := by
        rw [Int64.lt_iff_toInt_lt] at h1 ⊢
        have : ¬ x.toInt = y.toInt := fun z => h2 (Int64.toInt_inj.mp z)
        omega
      simp [x_cc, h1, h2, h3]
theorem lg_gt0 {x y : Int64} : x_cc .gt (lg_cmp x y) 0 = true ↔ y < x := by
  unfold lg_cmp
  by_cases h1 : y < x
  · simp [x_cc, h1]
  · by_cases h2 : x = y
    · subst h2
      simp [x_cc, Int64.lt_irrefl]
    · simp [x_cc, h1, h2]
theorem lg_ge0 {x y : Int64} : x_cc .ge (lg_cmp x y) 0 = true ↔ ¬ x < y := by
  have h := lg_lt0 (x := x) (y := y)
  have e : x_cc .ge (lg_cmp x y) 0 = !x_cc .lt (lg_cmp x y) 0 := by
    unfold lg_cmp
    split
    · decide
    · split <;> decide
  rw [e]
  simp [← h]
theorem lg_le0 {x y : Int64} : x_cc .le (lg_cmp x y) 0 = true ↔ ¬ y < x := by
  have h := lg_gt0 (x := x) (y := y)
  have e : x_cc .le (lg_cmp x y) 0 = !x_cc .gt (lg_cmp x y) 0 := by
    unfold lg_cmp
    split
    · decide
    · split <;> decide
  rw [e]
  simp [← h]
section WF
variable {sc : x_S} {d k pc : Nat} {lv : x_L} {st : List Value} {S : w_S} {Q : Option Value → w_S → Prop} {pc2 pc3 : Nat}
theorem w_l_lt {x y : Int64} {off : Int} (hi0 : x_ins k pc = some .lcmp) (hi : x_ins k (pc + 1) = some (.ifCond .lt off)) (hn : ((pc + 1 : Nat) : Int) + off = (pc2 : Int)) (hm : pc + 1 + 3 = pc3) (t : x < y → w_T sc d k pc2 lv st S Q) (f : ¬ x < y → w_T sc d k pc3 lv st S Q) : w_T sc d k pc lv (.long y :: .long x :: st) S Q := fun h hW => x_T_lcmp hi0 rfl (x_T_if hi hn hm (fun q => t (lg_lt0.mp q) h hW) (fun q => f (fun z => q (lg_lt0.mpr z)) h hW))
theorem w_l_gt {x y : Int64} {off : Int} (hi0 : x_ins k pc = some .lcmp) (hi : x_ins k (pc + 1) = some (.ifCond .gt off)) (hn : ((pc + 1 : Nat) : Int) + off = (pc2 : Int)) (hm : pc + 1 + 3 = pc3) (t : y < x → w_T sc d k pc2 lv st S Q) (f : ¬ y < x → w_T sc d k pc3 lv st S Q) : w_T sc d k pc lv (.long y :: .long x :: st) S Q := fun h hW => x_T_lcmp hi0 rfl (x_T_if hi hn hm (fun q => t (lg_gt0.mp q) h hW) (fun q => f (fun z => q (lg_gt0.mpr z)) h hW))
theorem w_l_ge {x y : Int64} {off : Int} (hi0 : x_ins k pc = some .lcmp) (hi : x_ins k (pc + 1) = some (.ifCond .ge off)) (hn : ((pc + 1 : Nat) : Int) + off = (pc2 : Int)) (hm : pc + 1 + 3 = pc3) (t : ¬ x < y → w_T sc d k pc2 lv st S Q) (f : x < y → w_T sc d k pc3 lv st S Q) : w_T sc d k pc lv (.long y :: .long x :: st) S Q := fun h hW => x_T_lcmp hi0 rfl (x_T_if hi hn hm (fun q => t (lg_ge0.mp q) h hW) (fun q => f (Decidable.byContradiction (fun z => q (lg_ge0.mpr z))) h hW))
theorem w_l_le {x y : Int64} {off : Int} (hi0 : x_ins k pc = some .lcmp) (hi : x_ins k (pc + 1) = some (.ifCond .le off)) (hn : ((pc + 1 : Nat) : Int) + off = (pc2 : Int)) (hm : pc + 1 + 3 = pc3) (t : ¬ y < x → w_T sc d k pc2 lv st S Q) (f : y < x → w_T sc d k pc3 lv st S Q) : w_T sc d k pc lv (.long y :: .long x :: st) S Q := fun h hW => x_T_lcmp hi0 rfl (x_T_if hi hn hm (fun q => t (lg_le0.mp q) h hW) (fun q => f (Decidable.byContradiction (fun z => q (lg_le0.mpr z))) h hW))
theorem w_zand {a b : Int} (hi : x_ins k pc = some .iand) (hn : pc + 1 = pc2) (t : w_T sc d k pc2 lv (.int (iZ (zand a b)) :: st) S Q) : w_T sc d k pc lv (.int (iZ b) :: .int (iZ a) :: st) S Q := w_iand hi hn (by unfold zand at t; rw [iZ_back] at t; exact t)
theorem w_zor {a b : Int} (hi : x_ins k pc = some .ior) (hn : pc + 1 = pc2) (t : w_T sc d k pc2 lv (.int (iZ (zor a b)) :: st) S Q) : w_T sc d k pc lv (.int (iZ b) :: .int (iZ a) :: st) S Q := w_ior hi hn (by unfold zor at t; rw [iZ_back] at t; exact t)
theorem w_zshl {a b : Int} (hi : x_ins k pc = some .ishl) (hn : pc + 1 = pc2) (t : w_T sc d k pc2 lv (.int (iZ (zshl a b)) :: st) S Q) : w_T sc d k pc lv (.int (iZ b) :: .int (iZ a) :: st) S Q := w_ishl hi hn (by unfold zshl at t; rw [iZ_back] at t; exact t)
theorem w_zshr {a b : Int} (hi : x_ins k pc = some .ishr) (hn : pc + 1 = pc2) (t : w_T sc d k pc2 lv (.int (iZ (zshr a b)) :: st) S Q) : w_T sc d k pc lv (.int (iZ b) :: .int (iZ a) :: st) S Q := w_ishr hi hn (by unfold zshr at t; rw [iZ_back] at t; exact t)
theorem w_zdiv {a b : Int} (hi : x_ins k pc = some .idiv) (hy : ¬ iZ b = 0) (hn : pc + 1 = pc2) (t : w_T sc d k pc2 lv (.int (iZ (zdiv a b)) :: st) S Q) : w_T sc d k pc lv (.int (iZ b) :: .int (iZ a) :: st) S Q := w_idiv hi hy hn (by unfold zdiv at t; rw [iZ_back] at t; exact t)
theorem w_zrem {a b : Int} (hi : x_ins k pc = some .irem) (hy : ¬ iZ b = 0) (hn : pc + 1 = pc2) (t : w_T sc d k pc2 lv (.int (iZ (zrem a b)) :: st) S Q) : w_T sc d k pc lv (.int (iZ b) :: .int (iZ a) :: st) S Q := w_irem hi hy hn (by unfold zrem at t; rw [iZ_back] at t; exact t)
theorem w_zi2c {a : Int} (hi : x_ins k pc = some .i2c) (hn : pc + 1 = pc2) (t : w_T sc d k pc2 lv (.int (iZ (zi2c a)) :: st) S Q) : w_T sc d k pc lv (.int (iZ a) :: st) S Q := w_i2c hi hn (by unfold zi2c at t; rw [iZ_back] at t; exact t)
theorem w_zl2i {x : Int64} (hi : x_ins k pc = some .l2i) (hn : pc + 1 = pc2) (t : w_T sc d k pc2 lv (.int (iZ (zl2i x)) :: st) S Q) : w_T sc d k pc lv (.long x :: st) S Q := w_l2i hi hn (by unfold zl2i at t; rw [iZ_back] at t; exact t)
theorem w_zi2l {a : Int} (hi : x_ins k pc = some .i2l) (hn : pc + 1 = pc2) (t : w_T sc d k pc2 lv (.long (li2l a) :: st) S Q) : w_T sc d k pc lv (.int (iZ a) :: st) S Q := w_i2l hi hn t
theorem w_zlshl {x : Int64} {a : Int} (hi : x_ins k pc = some .lshl) (hn : pc + 1 = pc2) (t : w_T sc d k pc2 lv (.long (lshl x a) :: st) S Q) : w_T sc d k pc lv (.int (iZ a) :: .long x :: st) S Q := w_lshl hi hn t
theorem w_zlshr {x : Int64} {a : Int} (hi : x_ins k pc = some .lshr) (hn : pc + 1 = pc2) (t : w_T sc d k pc2 lv (.long (lshr x a) :: st) S Q) : w_T sc d k pc lv (.int (iZ a) :: .long x :: st) S Q := w_lshr hi hn t
/-- truth values -/
theorem w_b_eq {b : Bool} {off : Int} (hi : x_ins k pc = some (.ifCond .eq off)) (hn : (pc : Int) + off = (pc2 : Int)) (hm : pc + 3 = pc3) (t : b = false → w_T sc d k pc2 lv st S Q) (f : b = true → w_T sc d k pc3 lv st S Q) : w_T sc d k pc lv (.int (iZ (zB b)) :: st) S Q := w_if_eq hi hn hm (zB_R b) (fun q => t (zB_eq0.mp q)) (fun q => f (zB_ne0.mp q))
theorem w_b_ne {b : Bool} {off : Int} (hi : x_ins k pc = some (.ifCond .ne off)) (hn : (pc : Int) + off = (pc2 : Int)) (hm : pc + 3 = pc3) (t : b = true → w_T sc d k pc2 lv st S Q) (f : b = false → w_T sc d k pc3 lv st S Q) : w_T sc d k pc lv (.int (iZ (zB b)) :: st) S Q := w_if_ne hi hn hm (zB_R b) (fun q => t (zB_ne0.mp q)) (fun q => f (zB_eq0.mp q))
theorem w_p_eq {p : Prop} [Decidable p] {off : Int} (hi : x_ins k pc = some (.ifCond .eq off)) (hn : (pc : Int) + off = (pc2 : Int)) (hm : pc + 3 = pc3) (t : ¬ p → w_T sc d k pc2 lv st S Q) (f : p → w_T sc d k pc3 lv st S Q) : w_T sc d k pc lv (.int (iZ (zB (decide p))) :: st) S Q := w_b_eq hi hn hm (fun q => t (of_decide_eq_false q)) (fun q => f (of_decide_eq_true q))
theorem w_p_ne {p : Prop} [Decidable p] {off : Int} (hi : x_ins k pc = some (.ifCond .ne off)) (hn : (pc : Int) + off = (pc2 : Int)) (hm : pc + 3 = pc3) (t : p → w_T sc d k pc2 lv st S Q) (f : ¬ p → w_T sc d k pc3 lv st S Q) : w_T sc d k pc lv (.int (iZ (zB (decide p))) :: st) S Q := w_b_ne hi hn hm (fun q => t (of_decide_eq_true q)) (fun q => f (of_decide_eq_false q))
theorem w_bret {b : Bool} (hi : x_ins k pc = some .ireturn) (hr : x_rt k = some .boolean) (hq : Q (some (.int (iZ (zB b)))) S) : w_T sc d k pc lv [.int (iZ (zB b))] S Q := w_zret hi hr (zB_and b) hq
/-- a join: the value that all roads bring -/
theorem w_j1 {p : Prop} [Decidable p] (hp : p) (t : w_T sc d k pc lv (.int (iZ (zB (decide p))) :: st) S Q) : w_T sc d k pc lv (.int (iZ 1) :: st) S Q := by
  rw [zB_t (decide_eq_true hp)] at t
  exact t
theorem w_j0 {p : Prop} [Decidable p] (hp : ¬ p) (t : w_T sc d k pc lv (.int (iZ (zB (decide p))) :: st) S Q) : w_T sc d k pc lv (.int (iZ 0) :: st) S Q := by
  rw [zB_f (decide_eq_false hp)] at t
  exact t
theorem w_ji1 {p : Prop} [Decidable p] {a b : Int} (hp : p) (t : w_T sc d k pc lv (.int (iZ (if p then a else b)) :: st) S Q) : w_T sc d k pc lv (.int (iZ a) :: st) S Q := by
  rw [if_pos hp] at t
  exact t
theorem w_ji0 {p : Prop} [Decidable p] {a b : Int} (hp : ¬ p) (t : w_T sc d k pc lv (.int (iZ (if p then a else b)) :: st) S Q) : w_T sc d k pc lv (.int (iZ b) :: st) S Q := by
  rw [if_neg hp] at t
  exact t
theorem w_jl1 {p : Prop} [Decidable p] {a b : Int64} (hp : p) (t : w_T sc d k pc lv (.long (if p then a else b) :: st) S Q) : w_T sc d k pc lv (.long a :: st) S Q := by
  rw [if_pos hp] at t
  exact t
theorem w_jl0 {p : Prop} [Decidable p] {a b : Int64} (hp : ¬ p) (t : w_T sc d k pc lv (.long (if p then a else b) :: st) S Q) : w_T sc d k pc lv (.long b :: st) S Q := by
  rw [if_neg hp] at t
  exact t
/-- calls by contract -/
theorem w_CS {idx kc n : Nat} {as r : List Value} {Q1 : Option Value → w_S → Prop} (hi : x_ins k pc = some (.invokestatic idx)) (hm : x_mth k idx = some (kc, 0, n)) (hn : as.length = n) (hst : st = as.reverse ++ r) (hr : x_cs r ≤ 8) (ha : x_cs as ≤ x_nL kc) (hd : 0 < d) (hp : pc + 3 = pc2) (c : w_T sc (d - 1) kc 0 (x_en 0 as) [] S Q1) (t : ∀ v S2, Q1 v S2 → w_T sc d k pc2 lv (v.toList ++ r) S2 Q) : w_T sc d k pc lv st S Q := by
  subst hp
  obtain ⟨e, rfl⟩ : ∃ e, d = e + 1 := ⟨d - 1, by omega⟩
  exact w_cs hi hm hn hst hr ha (w_mono c t)
theorem w_CV {idx kc a n nn : Nat} {fs : List (Nat × Nat)} {as r : List Value} {Q1 : Option Value → w_S → Prop} (hi : x_ins k pc = some (.invokevirtual idx)) (hm : x_mth k idx = some (kc, 1, n)) (hn : as.length = n) (hst : st = as.reverse ++ .ref a :: r) (hs : w_sh[a]? = some (0, x_own kc, nn, fs)) (hr : x_cs r ≤ 8) (ha : x_cs (.ref a :: as) ≤ x_nL kc) (hd : 0 < d) (hp : pc + 3 = pc2) (c : w_T sc (d - 1) kc 0 (x_en 0 (.ref a :: as)) [] S Q1) (t : ∀ v S2, Q1 v S2 → w_T sc d k pc2 lv (v.toList ++ r) S2 Q) : w_T sc d k pc lv st S Q := by
  subst hp
  obtain ⟨e, rfl⟩ : ∃ e, d = e + 1 := ⟨d - 1, by omega⟩
  exact w_cv hi hm hn hst hs hr ha (w_mono c t)
theorem w_C7 {idx kc q n : Nat} {as r : List Value} {Q1 : Option Value → w_S → Prop} (hi : x_ins k pc = some (.invokevirtual idx)) (hm : x_mth k idx = some (kc, 7, n)) (hn : as.length = n) (hst : st = as.reverse ++ .retAddr q :: r) (hq : 1 ≤ q ∧ q < 1 + x_gn) (hr : x_cs r ≤ 8) (ha : x_cs (.retAddr q :: as) ≤ x_nL kc) (hd : 0 < d) (hp : pc + 3 = pc2) (c : w_T sc (d - 1) kc 0 (x_en 0 (.retAddr q :: as)) [] S Q1) (t : ∀ v S2, Q1 v S2 → w_T sc d k pc2 lv (v.toList ++ r) S2 Q) : w_T sc d k pc lv st S Q := by
  subst hp
  obtain ⟨e, rfl⟩ : ∃ e, d = e + 1 := ⟨d - 1, by omega⟩
  subst hst hn
  intro h hW
  have hd : (as.reverse ++ .retAddr q :: r).drop as.length = .retAddr q :: r := by
    rw [← List.length_reverse, List.drop_left]
  have ht : (as.reverse ++ .retAddr q :: r).take as.length = as.reverse := by
    rw [← List.length_reverse, List.take_left]
  refine x_T_call hi rfl (r := r) (as := .retAddr q :: as) (kc := kc) ?_ ha (c h hW) (fun v h' q => ?_)
  · simp [x_cal, x_or, x_c1, x_c7, hm, hd, ht, hr, hq]
  · obtain ⟨S2, a, b⟩ := q
    exact t v S2 b h' a
theorem w_min {a b : Int} {idx qq nn : Nat} (hi : x_ins k pc = some (.invokestatic idx)) (hm : x_mth k idx = some (qq, 4, nn)) (ha : iR a) (hb : iR b) (hd : ¬ d = 0) (hr : x_cs st ≤ 8) (hn : pc + 3 = pc2) (t : w_T sc d k pc2 lv (.int (iZ (if b < a then b else a)) :: st) S Q) : w_T sc d k pc lv (.int (iZ b) :: .int (iZ a) :: st) S Q := by
  subst hn
  intro h hW
  refine x_T_step hi ?_ (t h hW)
  have e : (if iZ b < iZ a then iZ b else iZ a) = iZ (if b < a then b else a) := by
    by_cases hc : b < a
    · rw [if_pos hc, if_pos ((iZ_lt hb ha).mpr hc)]
    · rw [if_neg hc, if_neg (fun z => hc ((iZ_lt hb ha).mp z))]
  simp [x_one, x_pop, x_lod, x_sto, x_jmp, x_rd, x_wr, x_or, x_aci_no hm (by decide), x_acl_no hm (by decide), x_mk, x_now, x_mm, hm, hd, hr, e]
theorem w_ldci {idx : Nat} {v : Int} (hi : x_ins k pc = some (.ldc idx)) (hc : x_con k idx = some (.int (iZ v))) (hn : pc + 2 = pc2) (t : w_T sc d k pc2 lv (.int (iZ v) :: st) S Q) : w_T sc d k pc lv st S Q := by
  subst hn
  intro h hW
  refine x_T_step hi ?_ (t h hW)
  simp [x_one, x_pop, x_lod, x_sto, x_jmp, x_rd, x_or, x_lc, hc, x_len]
theorem w_ldcw {idx : Nat} {v : Int} (hi : x_ins k pc = some (.ldc_w idx)) (hc : x_con k idx = some (.int (iZ v))) (hn : pc + 3 = pc2) (t : w_T sc d k pc2 lv (.int (iZ v) :: st) S Q) : w_T sc d k pc lv st S Q := by
  subst hn
  intro h hW
  refine x_T_step hi ?_ (t h hW)
  simp [x_one, x_pop, x_lod, x_sto, x_jmp, x_rd, x_or, x_lc, hc, x_len]
theorem w_ldcs {idx q : Nat} (hi : x_ins k pc = some (.ldc idx)) (hc : x_con k idx = some (.retAddr q)) (hn : pc + 2 = pc2) (t : w_T sc d k pc2 lv (.retAddr q :: st) S Q) : w_T sc d k pc lv st S Q := by
  subst hn
  intro h hW
  refine x_T_step hi ?_ (t h hW)
  simp [x_one, x_pop, x_lod, x_sto, x_jmp, x_rd, x_or, x_lc, x_lcs, hc, x_len]
theorem w_aloadk {j x : Nat} (hi : x_ins k pc = some (.aload j)) (hl : lv j = some (.retAddr x)) (hx : x < 2000) (hn : pc + 2 = pc2) (t : w_T sc d k pc2 lv (.retAddr x :: st) S Q) : w_T sc d k pc lv st S Q := fun h hW => x_T_aload_k hi hl hx hn (t h hW)
theorem w_aloadk_n {j : Fin 4} {x : Nat} (hi : x_ins k pc = some (.aload_n j)) (hl : lv (j : Nat) = some (.retAddr x)) (hx : x < 2000) (hn : pc + 1 = pc2) (t : w_T sc d k pc2 lv (.retAddr x :: st) S Q) : w_T sc d k pc lv st S Q := fun h hW => x_T_aload_nk hi hl hx hn (t h hW)
theorem w_sgetv {idx q : Nat} (hi : x_ins k pc = some (.getfield idx)) (hf : x_sfl k idx = some 0) (hq : 1 ≤ q ∧ q < 1 + x_gn) (hn : pc + 3 = pc2) (t : w_T sc d k pc2 lv (.retAddr (999 + q) :: st) S Q) : w_T sc d k pc lv (.retAddr q :: st) S Q := by
  subst hn
  intro h hW
  refine x_T_step hi ?_ (t h hW)
  simp [x_one, x_pop, x_lod, x_sto, x_jmp, x_rd, x_or, x_gf, x_sg, hf, hq, x_len]
theorem w_sgetc {idx q : Nat} (hi : x_ins k pc = some (.getfield idx)) (hf : x_sfl k idx = some 1) (hq : 1 ≤ q ∧ q < 1 + x_gn) (hn : pc + 3 = pc2) (t : w_T sc d k pc2 lv (.int (iZ 0) :: st) S Q) : w_T sc d k pc lv (.retAddr q :: st) S Q := by
  subst hn
  intro h hW
  refine x_T_step hi ?_ (t h hW)
  have e : iZ 0 = 0 := by decide
  simp [x_one, x_pop, x_lod, x_sto, x_jmp, x_rd, x_or, x_gf, x_sg, hf, hq, x_len, e]
theorem w_sstat {idx : Nat} (hi : x_ins k pc = some (.getstatic idx)) (hf : x_stt k idx = some 0) (hn : pc + 3 = pc2) (t : w_T sc d k pc2 lv (.int (iZ 1) :: st) S Q) : w_T sc d k pc lv st S Q := by
  subst hn
  intro h hW
  refine x_T_step hi ?_ (t h hW)
  have e : iZ 1 = 1 := by decide
  simp [x_one, x_pop, x_lod, x_sto, x_jmp, x_rd, x_gs, hf, x_len, e]
theorem w_sstat1 {idx : Nat} (hi : x_ins k pc = some (.getstatic idx)) (hf : x_stt k idx = some 1) (hn : pc + 3 = pc2) (t : w_T sc d k pc2 lv (.retAddr 2000 :: st) S Q) : w_T sc d k pc lv st S Q := by
  subst hn
  intro h hW
  refine x_T_step hi ?_ (t h hW)
  simp [x_one, x_pop, x_lod, x_sto, x_jmp, x_rd, x_gs, hf, x_len]
/-- the letters of the constants -/
def sgl (q : Nat) : Int := (x_gl.getD (q - 1) 0 : Nat)
def sgb (q : Nat) (i : Int) : Int := ((x_gb.getD (q - 1) []).getD i.toNat 0).toInt
theorem w_sbald {q : Nat} {i : Int} (hi : x_ins k pc = some .baload) (hq : 1 ≤ q ∧ q < 1 + x_gn) (h0 : 0 ≤ i) (h1 : i < sgl q) (h2 : i < 2147483648) (hn : pc + 1 = pc2) (t : w_T sc d k pc2 lv (.int (iZ (sgb q i)) :: st) S Q) : w_T sc d k pc lv (.int (iZ i) :: .retAddr (999 + q) :: st) S Q := by
  subst hn
  intro h hW
  refine x_T_step hi ?_ (t h hW)
  have c1 := iZ_clamp (a := i) ⟨by omega, by omega⟩
  have e : 999 + q - 1000 = q - 1 := by omega
  have h3 : x_in (iZ i) (x_gl.getD (q - 1) 0) = true := by
    have z0 : ¬ iZ i < 0 := by
      rw [show (0 : Int32) = iZ 0 by decide, iZ_lt ⟨by omega, by omega⟩ iR_0]
      omega
    unfold sgl at h1
    unfold x_in
    rw [c1]
    simp only [Bool.and_eq_true, Bool.not_eq_true', decide_eq_false_iff_not, decide_eq_true_eq]
    exact ⟨z0, by omega⟩
  have h4 : 1000 ≤ 999 + q ∧ 999 + q < 1000 + x_gn := ⟨by omega, by omega⟩
  have h5 : iZ (sgb q i) = (x_gb.getD (q - 1) []).getD i.toNat 0 := by
    unfold sgb
    exact iZ_back _
  have h6 : x_ca 3 (.int (iZ i) :: .retAddr (999 + q) :: st) h = none := rfl
  have h7 : x_bb (.int (iZ i) :: .retAddr (999 + q) :: st) = some (.int (iZ (sgb q i)) :: st) := by
    show (if 1000 ≤ 999 + q ∧ 999 + q < 1000 + x_gn ∧ x_in (iZ i) (x_gl.getD (999 + q - 1000) 0) = true then some (.int ((x_gb.getD (999 + q - 1000) []).getD (iZ i).toNatClampNeg 0) :: st) else none) = _
    rw [e, c1, if_pos ⟨h4.1, h4.2, h3⟩, h5]
  simp only [x_one, x_pop, x_lod, x_sto, x_jmp, x_rd, x_or, h6, h7, x_len]
theorem w_salen {q : Nat} (hi : x_ins k pc = some .arraylength) (hq : 1 ≤ q ∧ q < 1 + x_gn) (hn : pc + 1 = pc2) (t : w_T sc d k pc2 lv (.int (iZ (sgl q)) :: st) S Q) : w_T sc d k pc lv (.retAddr (999 + q) :: st) S Q := by
  subst hn
  intro h hW
  refine x_T_step hi ?_ (t h hW)
  have e : 999 + q - 1000 = q - 1 := by omega
  have h4 : 1000 ≤ 999 + q ∧ 999 + q < 1000 + x_gn := ⟨by omega, by omega⟩
  have h6 : x_al sc (.retAddr (999 + q) :: st) h = none := by
    unfold x_al
    cases sc with
    | none => rfl
    | some z =>
      show (if 999 + q = 0 then _ else none) = none
      rw [if_neg (by omega)]
  have h7 : x_bl (.retAddr (999 + q) :: st) = some (.int (iZ (sgl q)) :: st) := by
    show (if 1000 ≤ 999 + q ∧ 999 + q < 1000 + x_gn then some (.int (Int32.ofNat (x_gl.getD (999 + q - 1000) 0)) :: st) else none) = _
    rw [e, if_pos h4]
    rfl
  simp only [x_one, x_pop, x_lod, x_sto, x_jmp, x_rd, x_or, h6, h7, x_len]
theorem w_ts {dl lo hh : Int} {offs : Array Int} {z : Int} (hi : x_ins k pc = some (.tableswitch dl lo hh offs)) (hq : x_ts dl lo hh offs pc [.int (iZ z)] = some (pc2, [])) (t : w_T sc d k pc2 lv st S Q) : w_T sc d k pc lv (.int (iZ z) :: st) S Q := fun h hW => x_T_ts hi hq (t h hW)
end WF
/-- reading behind a change -/
theorem rv_self (S : w_S) (a k : Nat) (z : Int) : sv (w_v S a k z) a k = z := by simp [sv, w_v]
theorem rv_ne {S : w_S} {a k b j : Nat} {z : Int} (h : ¬ (b = a ∧ j = k)) : sv (w_v S a k z) b j = sv S b j := by simp only [sv, w_v, if_neg h]
theorem rl_self (S : w_S) (a k : Nat) (z : Int64) : sl (w_l S a k z) a k = z := by simp [sl, w_l]
theorem rl_ne {S : w_S} {a k b j : Nat} {z : Int64} (h : ¬ (b = a ∧ j = k)) : sl (w_l S a k z) b j = sl S b j := by simp only [sl, w_l, if_neg h]
theorem rA_self (S : w_S) (a : Nat) (f : Int → Int) : sA (w_A S a f) a = f := by simp [sA, w_A]
theorem rA_ne {S : w_S} {a b : Nat} {f : Int → Int} (h : ¬ b = a) : sA (w_A S a f) b = sA S b := by simp only [sA, w_A, if_neg h]
theorem rL_self (S : w_S) (a : Nat) (f : Int → Int64) : sL (w_L S a f) a = f := by simp [sL, w_L]
theorem rL_ne {S : w_S} {a b : Nat} {f : Int → Int64} (h : ¬ b = a) : sL (w_L S a f) b = sL S b := by simp only [sL, w_L, if_neg h]
theorem rR_self (S : w_S) (a : Nat) (f : Int → Option Nat) : sR (w_R S a f) a = f := by simp [sR, w_R]
theorem rR_ne {S : w_S} {a b : Nat} {f : Int → Option Nat} (h : ¬ b = a) : sR (w_R S a f) b = sR S b := by simp only [sR, w_R, if_neg h]
end
section
/-! THE CLAIM OUT OF ONE WALK OF THE LAW'S BODY. Your part is whole_start (and what it stands on); all else here is the same for every law, but numbers. -/
def R_law : String := "PhaseReaderLaw"
def lw_P (b : Addr) (xs : List Int32) (args : Array Value) (s : State) : Prop := args = #[.ref b] ∧ s.IntsAt b xs ∧ xs.length ≤ 1536 ∧ (Jvm.Cond.and given_1 narrow_1).before args s = true
def lw_Q (_ : Array Value) (s : State) (o : Outcome) (t : State) : Prop := o = .returned (some (.int 1)) ∧ Framed s o t [] 600000 7302250
def lw_Z (below : List Frame) (a : Array Value) (s : State) : State → Prop := fun t => ∃ o, t.status = .running ∧ Ended t below o ∧ lw_Q a s o t
/-- the law's own end, with 1 on the stack, nothing written that was there before, its room as the claim has it -/
theorem lw_ret {p : Program} {l : Launch} {e : Env} {s : State} {m : MethodId} {below : List Frame} {meth : Method} {c : Code} {b : Nat} (hx : p.tables.exec = Jvm.exec) (hb : c.code = code) (hr : meth.sig.returnType = ret) (hlocks : meth.locks = false) {pc : Nat} {H : Heap} {ls : Array Slot} (hdg : decode code pc = .ok (.ireturn, 1)) : W p l e room_1 s m #[Value.ref b] below meth c H [] 600000 7302250 (lw_Z below #[Value.ref b] s) (F0 m pc ls [.int 1]) := by
  intro T hT X
  obtain ⟨fs, hret, hrun, hended, hW, hframe⟩ := X.leave (v := some (.int 1)) (hlocks := hlocks) (fun h => by rw [hr] at h; cases h)
  have hmeth' : T.vm.method? m = some meth := X.method'
  refine ⟨T.setFrames fs, ?_, .returned (some (.int 1)), hrun, hended, rfl, ⟨_, rfl⟩, hW, hframe⟩
  jvm_step X.here [X.here.top, hx, hb, hdg, hmeth', hr, ret, narrow_b1]
  (try refine ⟨rfl, ?_⟩); (try refine ⟨rfl, ?_⟩)
  first | (intro acts; rw [hret _ acts rfl rfl rfl]) | rw [hret _ _ rfl rfl rfl]
  exact Steps.refl _
/-- what holds at the law's entry: the machine, the code, the tables' words (any of lw_tbl by 'hts w (by decide +kernel)'), the script of L ints xs at the cell b, what the Statement gives of the start (any of its parts by flat_of_before) -/
def lw_At (p : Program) (s : State) (m : MethodId) (meth : Method) (c : Code) (b L : Nat) (xs : Nat → Int32) : Prop :=
  p.tables.exec = Jvm.exec ∧ c.code = code ∧ meth.sig.returnType = ret ∧ c.maxLocals = 4 ∧ s.vm.findClass R_law = some m.cls ∧ (∀ w ∈ lw_tbl, w.before #[Value.ref b] s = true) ∧ va_X b L xs s s.heap ∧ b < s.heap.size ∧ meth.locks = false ∧ (Jvm.Cond.and given_1 narrow_1).before #[Value.ref b] s = true
end
section
/-! The law's body by the machine of part 03. -/
def x_h0 : x_H := (fun _ => .inr (0, []), 0, 0)
def ks_P (own : String) (idx i : Nat) (args : Array Value) (s : State) : Prop := ∃ qk qv : Nat, (Term.string own idx).eval args s none [] s = some (.ref qk) ∧ va_O "java/lang/String" qk (fun q => s.heap.size ≤ q) s s.heap ∧ va_OF "java/lang/String" "coder" "B" (.int 0) qk (fun q => s.heap.size ≤ q) s s.heap ∧ va_OF "java/lang/String" "value" "[B" (.ref qv) qk (fun q => s.heap.size ≤ q) s s.heap ∧ va_T .byte qv (x_gl.getD i 0) (fun j => .int ((x_gb.getD i []).getD j 0)) (fun q => s.heap.size ≤ q) s s.heap
theorem ks_of {own : String} {idx i : Nat} {args : Array Value} {s : State} (hn : x_gl.getD i 0 < 2 ^ 31) (h1 : (Jvm.Cond.exactly (.string own idx) "java/lang/String").before args s = true) (h2 : (Jvm.Cond.eq (.field (.string own idx) "java/lang/String" "coder" "B") (.int 0)).before args s = true) (h3 : (Jvm.Cond.arrayOf (.field (.string own idx) "java/lang/String" "value" "[B") .byte).before args s = true) (h4 : (Jvm.Cond.eq (.length (.field (.string own idx) "java/lang/String" "value" "[B")) (.int (Int32.ofNat (x_gl.getD i 0)))).before args s = true)
    (h5 : ∀ j : Nat, j < x_gl.getD i 0 → (Jvm.Cond.eq (.elem (.field (.string own idx) "java/lang/String" "value" "[B") (.int (Int32.ofNat j))) (.int ((x_gb.getD i []).getD j 0))).before args s = true) : ks_P own idx i args s := by
  obtain ⟨adK, adV, ⟨hv, -⟩, he⟩ := vk_Sof (N := 1) (tm := fun _ => Term.string own idx) (len := [x_gl.getD i 0]) (byt := [x_gb.getD i []]) (A := fun q => s.heap.size ≤ q)
    (fun z hz => by cases Nat.lt_one_iff.mp hz; exact hn) (fun z hz => h1) (fun z hz => h2) (fun z hz => h3) (fun z hz => by cases Nat.lt_one_iff.mp hz; exact h4) (fun z hz j hj => by cases Nat.lt_one_iff.mp hz; exact h5 j hj) (fun z y hz hy hn => absurd ((Nat.lt_one_iff.mp hz).trans (Nat.lt_one_iff.mp hy).symm) hn) (fun a ha => Nat.not_le.mpr ha)
  obtain ⟨e1, e2, e3, e4⟩ := hv 0 Nat.zero_lt_one
  exact ⟨adK 0, adV 0, he 0 Nat.zero_lt_one, e1, e2, e3, e4⟩
section KS
variable {args : Array Value} {s : State}
theorem ks_0 (hs : ∀ c ∈ flatC (Jvm.Cond.and given_1 narrow_1), c.before args s = true) : ks_P "PhaseReader$Scanner" 56 0 args s := by
  refine ks_of (by decide) (hs _ (List.mem_of_getElem? (i := 9) rfl)) (hs _ (List.mem_of_getElem? (i := 10) rfl)) (hs _ (List.mem_of_getElem? (i := 11) rfl)) (hs _ (List.mem_of_getElem? (i := 12) rfl)) (fun j hj => ?_)
  have hj : j < 9 := hj
  rcases (show j = 0 ∨ j = 1 ∨ j = 2 ∨ j = 3 ∨ j = 4 ∨ j = 5 ∨ j = 6 ∨ j = 7 ∨ j = 8 by omega) with rfl | rfl | rfl | rfl | rfl | rfl | rfl | rfl | rfl
  · exact (hs _ (List.mem_of_getElem? (i := 13) rfl))
  · exact (hs _ (List.mem_of_getElem? (i := 14) rfl))
  · exact (hs _ (List.mem_of_getElem? (i := 15) rfl))
  · exact (hs _ (List.mem_of_getElem? (i := 16) rfl))
  · exact (hs _ (List.mem_of_getElem? (i := 17) rfl))
  · exact (hs _ (List.mem_of_getElem? (i := 18) rfl))
  · exact (hs _ (List.mem_of_getElem? (i := 19) rfl))
  · exact (hs _ (List.mem_of_getElem? (i := 20) rfl))
  · exact (hs _ (List.mem_of_getElem? (i := 21) rfl))
theorem ks_1 (hs : ∀ c ∈ flatC (Jvm.Cond.and given_1 narrow_1), c.before args s = true) : ks_P "PhaseReader$Scanner" 48 1 args s := by
  refine ks_of (by decide) (hs _ (List.mem_of_getElem? (i := 22) rfl)) (hs _ (List.mem_of_getElem? (i := 23) rfl)) (hs _ (List.mem_of_getElem? (i := 24) rfl)) (hs _ (List.mem_of_getElem? (i := 25) rfl)) (fun j hj => ?_)
  have hj : j < 9 := hj
  rcases (show j = 0 ∨ j = 1 ∨ j = 2 ∨ j = 3 ∨ j = 4 ∨ j = 5 ∨ j = 6 ∨ j = 7 ∨ j = 8 by omega) with rfl | rfl | rfl | rfl | rfl | rfl | rfl | rfl | rfl
  · exact (hs _ (List.mem_of_getElem? (i := 26) rfl))
  · exact (hs _ (List.mem_of_getElem? (i := 27) rfl))
  · exact (hs _ (List.mem_of_getElem? (i := 28) rfl))
  · exact (hs _ (List.mem_of_getElem? (i := 29) rfl))
  · exact (hs _ (List.mem_of_getElem? (i := 30) rfl))
  · exact (hs _ (List.mem_of_getElem? (i := 31) rfl))
  · exact (hs _ (List.mem_of_getElem? (i := 32) rfl))
  · exact (hs _ (List.mem_of_getElem? (i := 33) rfl))
  · exact (hs _ (List.mem_of_getElem? (i := 34) rfl))
theorem ks_2 (hs : ∀ c ∈ flatC (Jvm.Cond.and given_1 narrow_1), c.before args s = true) : ks_P "PhaseReader$Scanner" 87 2 args s := by
  refine ks_of (by decide) (hs _ (List.mem_of_getElem? (i := 36) rfl)) (hs _ (List.mem_of_getElem? (i := 37) rfl)) (hs _ (List.mem_of_getElem? (i := 38) rfl)) (hs _ (List.mem_of_getElem? (i := 39) rfl)) (fun j hj => ?_)
  have hj : j < 17 := hj
  rcases (show j = 0 ∨ j = 1 ∨ j = 2 ∨ j = 3 ∨ j = 4 ∨ j = 5 ∨ j = 6 ∨ j = 7 ∨ j = 8 ∨ j = 9 ∨ j = 10 ∨ j = 11 ∨ j = 12 ∨ j = 13 ∨ j = 14 ∨ j = 15 ∨ j = 16 by omega) with rfl | rfl | rfl | rfl | rfl | rfl | rfl | rfl | rfl | rfl | rfl | rfl | rfl | rfl | rfl | rfl | rfl
  · exact (hs _ (List.mem_of_getElem? (i := 40) rfl))
  · exact (hs _ (List.mem_of_getElem? (i := 41) rfl))
  · exact (hs _ (List.mem_of_getElem? (i := 42) rfl))
  · exact (hs _ (List.mem_of_getElem? (i := 43) rfl))
  · exact (hs _ (List.mem_of_getElem? (i := 44) rfl))
  · exact (hs _ (List.mem_of_getElem? (i := 45) rfl))
  · exact (hs _ (List.mem_of_getElem? (i := 46) rfl))
  · exact (hs _ (List.mem_of_getElem? (i := 47) rfl))
  · exact (hs _ (List.mem_of_getElem? (i := 48) rfl))
  · exact (hs _ (List.mem_of_getElem? (i := 49) rfl))
  · exact (hs _ (List.mem_of_getElem? (i := 50) rfl))
  · exact (hs _ (List.mem_of_getElem? (i := 51) rfl))
  · exact (hs _ (List.mem_of_getElem? (i := 52) rfl))
  · exact (hs _ (List.mem_of_getElem? (i := 53) rfl))
  · exact (hs _ (List.mem_of_getElem? (i := 54) rfl))
  · exact (hs _ (List.mem_of_getElem? (i := 55) rfl))
  · exact (hs _ (List.mem_of_getElem? (i := 56) rfl))
theorem ks_3 (hs : ∀ c ∈ flatC (Jvm.Cond.and given_1 narrow_1), c.before args s = true) : ks_P "PhaseReader$Source" 72 3 args s := by
  refine ks_of (by decide) (hs _ (List.mem_of_getElem? (i := 59) rfl)) (hs _ (List.mem_of_getElem? (i := 60) rfl)) (hs _ (List.mem_of_getElem? (i := 61) rfl)) (hs _ (List.mem_of_getElem? (i := 62) rfl)) (fun j hj => ?_)
  have hj : j < 5 := hj
  rcases (show j = 0 ∨ j = 1 ∨ j = 2 ∨ j = 3 ∨ j = 4 by omega) with rfl | rfl | rfl | rfl | rfl
  · exact (hs _ (List.mem_of_getElem? (i := 63) rfl))
  · exact (hs _ (List.mem_of_getElem? (i := 64) rfl))
  · exact (hs _ (List.mem_of_getElem? (i := 65) rfl))
  · exact (hs _ (List.mem_of_getElem? (i := 66) rfl))
  · exact (hs _ (List.mem_of_getElem? (i := 67) rfl))
theorem ks_4 (hs : ∀ c ∈ flatC (Jvm.Cond.and given_1 narrow_1), c.before args s = true) : ks_P "PhaseReader$Source" 78 4 args s := by
  refine ks_of (by decide) (hs _ (List.mem_of_getElem? (i := 71) rfl)) (hs _ (List.mem_of_getElem? (i := 72) rfl)) (hs _ (List.mem_of_getElem? (i := 73) rfl)) (hs _ (List.mem_of_getElem? (i := 74) rfl)) (fun j hj => ?_)
  have hj : j < 5 := hj
  rcases (show j = 0 ∨ j = 1 ∨ j = 2 ∨ j = 3 ∨ j = 4 by omega) with rfl | rfl | rfl | rfl | rfl
  · exact (hs _ (List.mem_of_getElem? (i := 75) rfl))
  · exact (hs _ (List.mem_of_getElem? (i := 76) rfl))
  · exact (hs _ (List.mem_of_getElem? (i := 77) rfl))
  · exact (hs _ (List.mem_of_getElem? (i := 78) rfl))
  · exact (hs _ (List.mem_of_getElem? (i := 79) rfl))
theorem ks_5 (hs : ∀ c ∈ flatC (Jvm.Cond.and given_1 narrow_1), c.before args s = true) : ks_P "PhaseReader$Source" 80 5 args s := by
  refine ks_of (by decide) (hs _ (List.mem_of_getElem? (i := 84) rfl)) (hs _ (List.mem_of_getElem? (i := 85) rfl)) (hs _ (List.mem_of_getElem? (i := 86) rfl)) (hs _ (List.mem_of_getElem? (i := 87) rfl)) (fun j hj => ?_)
  have hj : j < 6 := hj
  rcases (show j = 0 ∨ j = 1 ∨ j = 2 ∨ j = 3 ∨ j = 4 ∨ j = 5 by omega) with rfl | rfl | rfl | rfl | rfl | rfl
  · exact (hs _ (List.mem_of_getElem? (i := 88) rfl))
  · exact (hs _ (List.mem_of_getElem? (i := 89) rfl))
  · exact (hs _ (List.mem_of_getElem? (i := 90) rfl))
  · exact (hs _ (List.mem_of_getElem? (i := 91) rfl))
  · exact (hs _ (List.mem_of_getElem? (i := 92) rfl))
  · exact (hs _ (List.mem_of_getElem? (i := 93) rfl))
theorem ks_6 (hs : ∀ c ∈ flatC (Jvm.Cond.and given_1 narrow_1), c.before args s = true) : ks_P "PhaseReader$Source" 82 6 args s := by
  refine ks_of (by decide) (hs _ (List.mem_of_getElem? (i := 99) rfl)) (hs _ (List.mem_of_getElem? (i := 100) rfl)) (hs _ (List.mem_of_getElem? (i := 101) rfl)) (hs _ (List.mem_of_getElem? (i := 102) rfl)) (fun j hj => ?_)
  have hj : j < 4 := hj
  rcases (show j = 0 ∨ j = 1 ∨ j = 2 ∨ j = 3 by omega) with rfl | rfl | rfl | rfl
  · exact (hs _ (List.mem_of_getElem? (i := 103) rfl))
  · exact (hs _ (List.mem_of_getElem? (i := 104) rfl))
  · exact (hs _ (List.mem_of_getElem? (i := 105) rfl))
  · exact (hs _ (List.mem_of_getElem? (i := 106) rfl))
theorem ks_7 (hs : ∀ c ∈ flatC (Jvm.Cond.and given_1 narrow_1), c.before args s = true) : ks_P "PhaseReader$Preprocessor" 108 7 args s := by
  refine ks_of (by decide) (hs _ (List.mem_of_getElem? (i := 113) rfl)) (hs _ (List.mem_of_getElem? (i := 114) rfl)) (hs _ (List.mem_of_getElem? (i := 115) rfl)) (hs _ (List.mem_of_getElem? (i := 116) rfl)) (fun j hj => ?_)
  have hj : j < 6 := hj
  rcases (show j = 0 ∨ j = 1 ∨ j = 2 ∨ j = 3 ∨ j = 4 ∨ j = 5 by omega) with rfl | rfl | rfl | rfl | rfl | rfl
  · exact (hs _ (List.mem_of_getElem? (i := 117) rfl))
  · exact (hs _ (List.mem_of_getElem? (i := 118) rfl))
  · exact (hs _ (List.mem_of_getElem? (i := 119) rfl))
  · exact (hs _ (List.mem_of_getElem? (i := 120) rfl))
  · exact (hs _ (List.mem_of_getElem? (i := 121) rfl))
  · exact (hs _ (List.mem_of_getElem? (i := 122) rfl))
theorem ks_8 (hs : ∀ c ∈ flatC (Jvm.Cond.and given_1 narrow_1), c.before args s = true) : ks_P "PhaseReader$Preprocessor" 116 8 args s := by
  refine ks_of (by decide) (hs _ (List.mem_of_getElem? (i := 130) rfl)) (hs _ (List.mem_of_getElem? (i := 131) rfl)) (hs _ (List.mem_of_getElem? (i := 132) rfl)) (hs _ (List.mem_of_getElem? (i := 133) rfl)) (fun j hj => ?_)
  have hj : j < 7 := hj
  rcases (show j = 0 ∨ j = 1 ∨ j = 2 ∨ j = 3 ∨ j = 4 ∨ j = 5 ∨ j = 6 by omega) with rfl | rfl | rfl | rfl | rfl | rfl | rfl
  · exact (hs _ (List.mem_of_getElem? (i := 134) rfl))
  · exact (hs _ (List.mem_of_getElem? (i := 135) rfl))
  · exact (hs _ (List.mem_of_getElem? (i := 136) rfl))
  · exact (hs _ (List.mem_of_getElem? (i := 137) rfl))
  · exact (hs _ (List.mem_of_getElem? (i := 138) rfl))
  · exact (hs _ (List.mem_of_getElem? (i := 139) rfl))
  · exact (hs _ (List.mem_of_getElem? (i := 140) rfl))
theorem ks_9 (hs : ∀ c ∈ flatC (Jvm.Cond.and given_1 narrow_1), c.before args s = true) : ks_P "PhaseReader$Preprocessor" 120 9 args s := by
  refine ks_of (by decide) (hs _ (List.mem_of_getElem? (i := 149) rfl)) (hs _ (List.mem_of_getElem? (i := 150) rfl)) (hs _ (List.mem_of_getElem? (i := 151) rfl)) (hs _ (List.mem_of_getElem? (i := 152) rfl)) (fun j hj => ?_)
  have hj : j < 4 := hj
  rcases (show j = 0 ∨ j = 1 ∨ j = 2 ∨ j = 3 by omega) with rfl | rfl | rfl | rfl
  · exact (hs _ (List.mem_of_getElem? (i := 153) rfl))
  · exact (hs _ (List.mem_of_getElem? (i := 154) rfl))
  · exact (hs _ (List.mem_of_getElem? (i := 155) rfl))
  · exact (hs _ (List.mem_of_getElem? (i := 156) rfl))
theorem ks_10 (hs : ∀ c ∈ flatC (Jvm.Cond.and given_1 narrow_1), c.before args s = true) : ks_P "PhaseReader$Preprocessor" 126 10 args s := by
  refine ks_of (by decide) (hs _ (List.mem_of_getElem? (i := 166) rfl)) (hs _ (List.mem_of_getElem? (i := 167) rfl)) (hs _ (List.mem_of_getElem? (i := 168) rfl)) (hs _ (List.mem_of_getElem? (i := 169) rfl)) (fun j hj => ?_)
  have hj : j < 5 := hj
  rcases (show j = 0 ∨ j = 1 ∨ j = 2 ∨ j = 3 ∨ j = 4 by omega) with rfl | rfl | rfl | rfl | rfl
  · exact (hs _ (List.mem_of_getElem? (i := 170) rfl))
  · exact (hs _ (List.mem_of_getElem? (i := 171) rfl))
  · exact (hs _ (List.mem_of_getElem? (i := 172) rfl))
  · exact (hs _ (List.mem_of_getElem? (i := 173) rfl))
  · exact (hs _ (List.mem_of_getElem? (i := 174) rfl))
theorem ks_11 (hs : ∀ c ∈ flatC (Jvm.Cond.and given_1 narrow_1), c.before args s = true) : ks_P "PhaseReader$Preprocessor" 139 11 args s := by
  refine ks_of (by decide) (hs _ (List.mem_of_getElem? (i := 185) rfl)) (hs _ (List.mem_of_getElem? (i := 186) rfl)) (hs _ (List.mem_of_getElem? (i := 187) rfl)) (hs _ (List.mem_of_getElem? (i := 188) rfl)) (fun j hj => ?_)
  have hj : j < 5 := hj
  rcases (show j = 0 ∨ j = 1 ∨ j = 2 ∨ j = 3 ∨ j = 4 by omega) with rfl | rfl | rfl | rfl | rfl
  · exact (hs _ (List.mem_of_getElem? (i := 189) rfl))
  · exact (hs _ (List.mem_of_getElem? (i := 190) rfl))
  · exact (hs _ (List.mem_of_getElem? (i := 191) rfl))
  · exact (hs _ (List.mem_of_getElem? (i := 192) rfl))
  · exact (hs _ (List.mem_of_getElem? (i := 193) rfl))
theorem ks_12 (hs : ∀ c ∈ flatC (Jvm.Cond.and given_1 narrow_1), c.before args s = true) : ks_P "PhaseReader$Preprocessor" 155 12 args s := by
  refine ks_of (by decide) (hs _ (List.mem_of_getElem? (i := 205) rfl)) (hs _ (List.mem_of_getElem? (i := 206) rfl)) (hs _ (List.mem_of_getElem? (i := 207) rfl)) (hs _ (List.mem_of_getElem? (i := 208) rfl)) (fun j hj => ?_)
  have hj : j < 5 := hj
  rcases (show j = 0 ∨ j = 1 ∨ j = 2 ∨ j = 3 ∨ j = 4 by omega) with rfl | rfl | rfl | rfl | rfl
  · exact (hs _ (List.mem_of_getElem? (i := 209) rfl))
  · exact (hs _ (List.mem_of_getElem? (i := 210) rfl))
  · exact (hs _ (List.mem_of_getElem? (i := 211) rfl))
  · exact (hs _ (List.mem_of_getElem? (i := 212) rfl))
  · exact (hs _ (List.mem_of_getElem? (i := 213) rfl))
theorem ks_13 (hs : ∀ c ∈ flatC (Jvm.Cond.and given_1 narrow_1), c.before args s = true) : ks_P "PhaseReader$Preprocessor" 161 13 args s := by
  refine ks_of (by decide) (hs _ (List.mem_of_getElem? (i := 226) rfl)) (hs _ (List.mem_of_getElem? (i := 227) rfl)) (hs _ (List.mem_of_getElem? (i := 228) rfl)) (hs _ (List.mem_of_getElem? (i := 229) rfl)) (fun j hj => ?_)
  have hj : j < 6 := hj
  rcases (show j = 0 ∨ j = 1 ∨ j = 2 ∨ j = 3 ∨ j = 4 ∨ j = 5 by omega) with rfl | rfl | rfl | rfl | rfl | rfl
  · exact (hs _ (List.mem_of_getElem? (i := 230) rfl))
  · exact (hs _ (List.mem_of_getElem? (i := 231) rfl))
  · exact (hs _ (List.mem_of_getElem? (i := 232) rfl))
  · exact (hs _ (List.mem_of_getElem? (i := 233) rfl))
  · exact (hs _ (List.mem_of_getElem? (i := 234) rfl))
  · exact (hs _ (List.mem_of_getElem? (i := 235) rfl))
theorem ks_14 (hs : ∀ c ∈ flatC (Jvm.Cond.and given_1 narrow_1), c.before args s = true) : ks_P "PhaseReader$Parser" 81 14 args s := by
  refine ks_of (by decide) (hs _ (List.mem_of_getElem? (i := 249) rfl)) (hs _ (List.mem_of_getElem? (i := 250) rfl)) (hs _ (List.mem_of_getElem? (i := 251) rfl)) (hs _ (List.mem_of_getElem? (i := 252) rfl)) (fun j hj => ?_)
  have hj : j < 3 := hj
  rcases (show j = 0 ∨ j = 1 ∨ j = 2 by omega) with rfl | rfl | rfl
  · exact (hs _ (List.mem_of_getElem? (i := 253) rfl))
  · exact (hs _ (List.mem_of_getElem? (i := 254) rfl))
  · exact (hs _ (List.mem_of_getElem? (i := 255) rfl))
theorem ks_15 (hs : ∀ c ∈ flatC (Jvm.Cond.and given_1 narrow_1), c.before args s = true) : ks_P "PhaseReader$Parser" 87 15 args s := by
  refine ks_of (by decide) (hs _ (List.mem_of_getElem? (i := 270) rfl)) (hs _ (List.mem_of_getElem? (i := 271) rfl)) (hs _ (List.mem_of_getElem? (i := 272) rfl)) (hs _ (List.mem_of_getElem? (i := 273) rfl)) (fun j hj => ?_)
  have hj : j < 4 := hj
  rcases (show j = 0 ∨ j = 1 ∨ j = 2 ∨ j = 3 by omega) with rfl | rfl | rfl | rfl
  · exact (hs _ (List.mem_of_getElem? (i := 274) rfl))
  · exact (hs _ (List.mem_of_getElem? (i := 275) rfl))
  · exact (hs _ (List.mem_of_getElem? (i := 276) rfl))
  · exact (hs _ (List.mem_of_getElem? (i := 277) rfl))
theorem ks_16 (hs : ∀ c ∈ flatC (Jvm.Cond.and given_1 narrow_1), c.before args s = true) : ks_P "PhaseReader$Parser" 89 16 args s := by
  refine ks_of (by decide) (hs _ (List.mem_of_getElem? (i := 293) rfl)) (hs _ (List.mem_of_getElem? (i := 294) rfl)) (hs _ (List.mem_of_getElem? (i := 295) rfl)) (hs _ (List.mem_of_getElem? (i := 296) rfl)) (fun j hj => ?_)
  have hj : j < 7 := hj
  rcases (show j = 0 ∨ j = 1 ∨ j = 2 ∨ j = 3 ∨ j = 4 ∨ j = 5 ∨ j = 6 by omega) with rfl | rfl | rfl | rfl | rfl | rfl | rfl
  · exact (hs _ (List.mem_of_getElem? (i := 297) rfl))
  · exact (hs _ (List.mem_of_getElem? (i := 298) rfl))
  · exact (hs _ (List.mem_of_getElem? (i := 299) rfl))
  · exact (hs _ (List.mem_of_getElem? (i := 300) rfl))
  · exact (hs _ (List.mem_of_getElem? (i := 301) rfl))
  · exact (hs _ (List.mem_of_getElem? (i := 302) rfl))
  · exact (hs _ (List.mem_of_getElem? (i := 303) rfl))
theorem ks_17 (hs : ∀ c ∈ flatC (Jvm.Cond.and given_1 narrow_1), c.before args s = true) : ks_P "PhaseReader$Parser" 91 17 args s := by
  refine ks_of (by decide) (hs _ (List.mem_of_getElem? (i := 320) rfl)) (hs _ (List.mem_of_getElem? (i := 321) rfl)) (hs _ (List.mem_of_getElem? (i := 322) rfl)) (hs _ (List.mem_of_getElem? (i := 323) rfl)) (fun j hj => ?_)
  have hj : j < 6 := hj
  rcases (show j = 0 ∨ j = 1 ∨ j = 2 ∨ j = 3 ∨ j = 4 ∨ j = 5 by omega) with rfl | rfl | rfl | rfl | rfl | rfl
  · exact (hs _ (List.mem_of_getElem? (i := 324) rfl))
  · exact (hs _ (List.mem_of_getElem? (i := 325) rfl))
  · exact (hs _ (List.mem_of_getElem? (i := 326) rfl))
  · exact (hs _ (List.mem_of_getElem? (i := 327) rfl))
  · exact (hs _ (List.mem_of_getElem? (i := 328) rfl))
  · exact (hs _ (List.mem_of_getElem? (i := 329) rfl))
theorem ks_18 (hs : ∀ c ∈ flatC (Jvm.Cond.and given_1 narrow_1), c.before args s = true) : ks_P "PhaseReader$Parser" 195 18 args s := by
  refine ks_of (by decide) (hs _ (List.mem_of_getElem? (i := 347) rfl)) (hs _ (List.mem_of_getElem? (i := 348) rfl)) (hs _ (List.mem_of_getElem? (i := 349) rfl)) (hs _ (List.mem_of_getElem? (i := 350) rfl)) (fun j hj => ?_)
  have hj : j < 2 := hj
  rcases (show j = 0 ∨ j = 1 by omega) with rfl | rfl
  · exact (hs _ (List.mem_of_getElem? (i := 351) rfl))
  · exact (hs _ (List.mem_of_getElem? (i := 352) rfl))
theorem ks_all (hs : ∀ c ∈ flatC (Jvm.Cond.and given_1 narrow_1), c.before args s = true) : ∀ e ∈ x_gr, ks_P e.1 e.2.1 e.2.2.2 args s := List.forall_mem_cons.mpr ⟨ks_0 hs, List.forall_mem_cons.mpr ⟨ks_1 hs, List.forall_mem_cons.mpr ⟨ks_2 hs, List.forall_mem_cons.mpr ⟨ks_3 hs, List.forall_mem_cons.mpr ⟨ks_4 hs, List.forall_mem_cons.mpr ⟨ks_5 hs, List.forall_mem_cons.mpr ⟨ks_6 hs, List.forall_mem_cons.mpr ⟨ks_7 hs, List.forall_mem_cons.mpr ⟨ks_8 hs, List.forall_mem_cons.mpr ⟨ks_9 hs, List.forall_mem_cons.mpr ⟨ks_10 hs, List.forall_mem_cons.mpr ⟨ks_11 hs, List.forall_mem_cons.mpr ⟨ks_12 hs, List.forall_mem_cons.mpr ⟨ks_13 hs, List.forall_mem_cons.mpr ⟨ks_14 hs, List.forall_mem_cons.mpr ⟨ks_15 hs, List.forall_mem_cons.mpr ⟨ks_16 hs, List.forall_mem_cons.mpr ⟨ks_17 hs, List.forall_mem_cons.mpr ⟨ks_18 hs, fun _ h => absurd h List.not_mem_nil⟩⟩⟩⟩⟩⟩⟩⟩⟩⟩⟩⟩⟩⟩⟩⟩⟩⟩⟩
theorem x_gr_at {i : Nat} (hi : i < x_gn) : ∃ e, e ∈ x_gr ∧ e.2.2.2 = i := by
  have h : ∀ i, i < x_gn → (x_gr.map (fun e => e.2.2.2))[i]? = some i := by decide
  have h1 := h i hi
  rw [List.getElem?_map] at h1
  cases hq : x_gr[i]? with
  | none => rw [hq] at h1; cases h1
  | some e =>
    rw [hq] at h1
    exact ⟨e, List.mem_of_getElem? hq, Option.some.inj h1⟩
theorem x_gr_uniq : ∀ e ∈ x_gr, ∀ e' ∈ x_gr, e.2.2.2 = e'.2.2.2 → e = e' := by decide +kernel
theorem x_gr_lt : ∀ e ∈ x_gr, e.2.2.2 < x_gn := by decide
theorem x_KC_start {b L : Nat} {xs : Nat → Int32} (hts : ∀ w ∈ lw_tbl, w.before args s = true) (hs : ∀ c ∈ flatC (Jvm.Cond.and given_1 narrow_1), c.before args s = true) (hX : va_X b L xs s s.heap) (hb : b < s.heap.size) : ∃ kad : Nat → Option Nat, kad 0 = some b ∧ x_KC s.heap.size kad (L, xs) s := by
  have hA : ∀ a : Nat, a < s.heap.size → ¬ (fun q => s.heap.size ≤ q) a := fun a ha => Nat.not_le.mpr ha
  have hZ1 := va_Zof (A := fun q => s.heap.size ≤ q) (hts _ (List.mem_append_right _ (tm_2 (List.mem_of_getElem? (i := 184) rfl)))) (hts _ (s_sub _ (tw_1 (i := 14) rfl rfl))) (va_eqi (hs _ (List.mem_of_getElem? (i := 4) rfl))) hA
  have hZ2 := va_Zqof (A := fun q => s.heap.size ≤ q) (hts _ (List.mem_append_right _ (tm_2 (List.mem_of_getElem? (i := 227) rfl)))) (hts _ (s_sub _ (tw_1 (i := 18) rfl rfl))) (hs _ (List.mem_of_getElem? (i := 5) rfl)) hA
  have hf : ∃ f : Option Nat, va_Z "jdk/internal/util/Preconditions" "SIOOBE_FORMATTER" "Ljava/util/function/BiFunction;" (va_rf f) (fun q => s.heap.size ≤ q) s s.heap := by
    rcases hZ2 with h | ⟨t, h⟩
    · exact ⟨none, h⟩
    · exact ⟨some t, h⟩
  obtain ⟨f, hf⟩ := hf
  have hc : ∀ i : Nat, ∃ p : Nat × Nat, ∀ e ∈ x_gr, e.2.2.2 = i → (Term.string e.1 e.2.1).eval args s none [] s = some (.ref p.1) ∧ va_O "java/lang/String" p.1 (fun q => s.heap.size ≤ q) s s.heap ∧ va_OF "java/lang/String" "coder" "B" (.int 0) p.1 (fun q => s.heap.size ≤ q) s s.heap ∧ va_OF "java/lang/String" "value" "[B" (.ref p.2) p.1 (fun q => s.heap.size ≤ q) s s.heap ∧ va_T .byte p.2 (x_gl.getD i 0) (fun j => .int ((x_gb.getD i []).getD j 0)) (fun q => s.heap.size ≤ q) s s.heap := by
    intro i
    by_cases hi : ∃ e ∈ x_gr, e.2.2.2 = i
    · obtain ⟨e, he, hei⟩ := hi
      obtain ⟨qk, qv, h1, h2, h3, h4, h5⟩ := ks_all hs e he
      refine ⟨(qk, qv), fun e' he' hei' => ?_⟩
      have ee : e' = e := x_gr_uniq e' he' e he (hei'.trans hei.symm)
      subst ee
      rw [hei] at h5
      exact ⟨h1, h2, h3, h4, h5⟩
    · exact ⟨(0, 0), fun e he hei => absurd ⟨e, he, hei⟩ hi⟩
  refine ⟨fun j => if j = 0 then some b else if j < 1000 then some (Classical.choose (hc (j - 1))).1 else if j < 2000 then some (Classical.choose (hc (j - 1000))).2 else f, rfl, ⟨fun e he => ?_, fun i hi => ?_, hZ1, hf⟩, ⟨b, rfl, hX, hb⟩, fun j hj => ?_⟩
  · have hl := x_gr_lt e he
    have hl : e.2.2.2 < 19 := hl
    refine ⟨(Classical.choose (hc e.2.2.2)).1, ?_, vk_R.of (hts _ (s_gr e he)) (Classical.choose_spec (hc e.2.2.2) e he rfl).1⟩
    show (if 1 + e.2.2.2 = 0 then some b else if 1 + e.2.2.2 < 1000 then some (Classical.choose (hc (1 + e.2.2.2 - 1))).1 else _) = _
    rw [if_neg (by omega), if_pos (by omega), show 1 + e.2.2.2 - 1 = e.2.2.2 by omega]
  · obtain ⟨e, he, hei⟩ := x_gr_at hi
    have hi : i < 19 := hi
    have h := Classical.choose_spec (hc i) e he hei
    refine ⟨(Classical.choose (hc i)).1, (Classical.choose (hc i)).2, ?_, ?_, h.2.1, h.2.2.1, h.2.2.2.1, h.2.2.2.2⟩
    · show (if 1 + i = 0 then some b else if 1 + i < 1000 then some (Classical.choose (hc (1 + i - 1))).1 else _) = _
      rw [if_neg (by omega), if_pos (by omega), show 1 + i - 1 = i by omega]
    · show (if 1000 + i = 0 then some b else if 1000 + i < 1000 then some (Classical.choose (hc (1000 + i - 1))).1 else if 1000 + i < 2000 then some (Classical.choose (hc (1000 + i - 1000))).2 else f) = _
      rw [if_neg (by omega), if_neg (by omega), if_pos (by omega), show 1000 + i - 1000 = i by omega]
  · by_cases h0 : j = 0
    · exact ⟨b, by simp [h0]⟩
    · by_cases h1 : j < 1000
      · exact ⟨(Classical.choose (hc (j - 1))).1, by simp only [h0, h1, if_false, if_true]⟩
      · exact ⟨(Classical.choose (hc (j - 1000))).2, by simp only [h0, h1, hj, if_false, if_true]⟩
end KS
theorem x_known {s : State} {args : Array Value} (hts : ∀ w ∈ lw_tbl, w.before args s = true) : ∃ (D : va_G) (dA : Nat → ClassId), x_VM D dA s := by
  have h1 : ∀ c : Nat, ∃ (cC : ClassId) (iS : Nat → Nat), ∀ q : vw_C, x_cl[c]? = some q → u_Kn s q.1 q.2.1 q.2.2 cC iS := by
    intro c
    cases hq : x_cl[c]? with
    | none => exact ⟨0, fun _ => 0, fun q h => by cases h⟩
    | some q =>
      obtain ⟨a1, a2⟩ := s_cl hq
      obtain ⟨cC, iS, hK⟩ := u_known (ws := lw_tbl) hts (fun w hw => s_sub w (a1 w hw)) (hts _ (s_sub _ a2))
      exact ⟨cC, iS, fun q' h => by cases h; exact hK⟩
  have h2 : ∀ t : Nat, ∃ cA : ClassId, ∀ ty : FieldType, x_ty[t]? = some ty → ArrOfT s cA ty ∧ va_RA s cA ty := by
    intro t
    cases ht : x_ty[t]? with
    | none => exact ⟨0, fun q h => by cases h⟩
    | some ty =>
      rcases s_tyw ht with ⟨a1, a2⟩ | ⟨C, rfl, a1⟩
      · obtain ⟨cA, kA, comp, f1, f2, f3⟩ := Cond.arrayClass_spec (hts _ (s_sub _ a1))
        refine ⟨cA, fun q h => ?_⟩
        cases h
        refine ⟨fun N z => ⟨(fun k h => by cases h), kA, f2, comp, f3⟩, ?_⟩
        cases ty <;> first
          | exact f1
          | exact absurd rfl (a2 _)
      · obtain ⟨comp, cA, kA, f1, -, f2, f3, f4⟩ := Cond.arrayOver_spec (hts _ (s_ao _ a1))
        refine ⟨cA, fun q h => ?_⟩
        cases h
        exact ⟨fun N z => ⟨(fun k h => by cases h), kA, f2, comp, f3⟩, kA, comp, f2, f3, f1, f4⟩
  refine ⟨(fun c => Classical.choose (h1 c), fun c => Classical.choose (Classical.choose_spec (h1 c))), fun t => Classical.choose (h2 t), ⟨fun c q hq => Classical.choose_spec (Classical.choose_spec (h1 c)) q hq, fun k q hq => ?_⟩, fun w hw => ?_, fun C hC => va_AO.of (hts _ (s_ao _ hC))⟩
  · have hl : k < x_ty.length := by
      have := (List.getElem?_eq_some_iff.mp hq).1
      simpa [x_tys] using this
    have ht : x_ty[k]? = some (x_ty.getD k .int) := by
      rw [List.getD_eq_getElem?_getD, List.getElem?_eq_getElem hl]
      rfl
    have e1 := x_tys_get (dA := fun t => Classical.choose (h2 t)) ht
    rw [e1] at hq
    cases hq
    exact Classical.choose_spec (h2 k) _ ht
  · rcases s_nest w hw with ⟨a, i, x, n, d, g, rfl⟩ | ⟨a, i, x, g, rfl⟩
    · exact va_Nw.of rfl (hts _ (s_nt _ hw))
    · exact va_Nw.of rfl (hts _ (s_nt _ hw))
set_option maxHeartbeats 4000000 in
theorem x_law {p : Program} {e : Env} {s : State} {m : MethodId} {below : List Frame} {meth : Method} {c : Code} (l : Launch) {b L : Nat} {xs : Nat → Int32} (C0 : lw_At p s m meth c b L xs) {d f : Nat} {h' : x_H} (hrun : x_run (some (L, xs)) f d 0 0 (x_en 0 [.retAddr 0]) [] x_h0 = some (some (.int 1), h')) (hd : d ≤ room_1.frames ∧ 48 * d ≤ room_1.locals) (hc : h'.2.1 ≤ x_cmax ∧ h'.2.2 ≤ x_smax) :
    W p l e room_1 s m #[Value.ref b] below meth c s.heap [] 0 0 (lw_Z below #[Value.ref b] s) (entryFrame m ([Value.ref b] : List Value).toArray (x_nL 0)) := by
  obtain ⟨hexec, hb, hr, hml, hown, hts, hX, hbl, hlk, hgv⟩ := C0
  obtain ⟨kad, hk0, hKC⟩ := x_KC_start hts (flat_of_before _ hgv) hX hbl
  obtain ⟨D, dA, hVM⟩ := x_known hts
  have hX2 : x_cx D dA s.heap.size kad (L, xs) 0 p s m #[Value.ref b] meth c := ⟨⟨hexec, hb, hml, hr, hlk, fun hh => absurd hh (by decide), hown⟩, fun w hw => hts w (s_sub w hw), hVM, hKC, Nat.le_refl _⟩
  have hl := lv_entry ([Value.ref b]) (n := x_nL 0) (Nat.le_of_ble_eq_true rfl)
  rw [lg_entry_eq]
  generalize (lg_sl ([Value.ref b]) ++ List.replicate (x_nL 0 - (lg_sl ([Value.ref b])).length) Slot.unset).toArray = ls at hl ⊢
  have hW := x_sim (l := l) (D := D) (dA := dA) (b := s.heap.size) (kad := kad) (sc := (L, xs)) f d 0 0 (x_en 0 [.retAddr 0]) [] x_h0 (some (.int 1)) h' hrun p e room_1 s m #[Value.ref b] below meth c s.heap [] ls 0 0 hX2 rfl (Nat.le_refl _) (Nat.le_refl _) (x_LV_en (vs := [.retAddr 0]) (by show lv_has ls (x_nL 0) (lv_args 0 [va_rf (kad 0)]); rw [hk0]; exact hl)) (fun k q hq => by simp [x_ws, x_h0] at hq) va_S.rf hd ⟨Nat.le_trans (Nat.sub_le _ _) (Nat.le_trans hc.1 x_cok9.1), Nat.le_trans (Nat.sub_le _ _) (Nat.le_trans hc.2 x_cok9.2)⟩
  intro T hT X
  obtain ⟨t, st, o, h1, h2, ⟨⟨h3, -⟩, -⟩, Lc, ⟨h4, h5, h6⟩, h7⟩ := hW T hT X
  refine ⟨t, st, o, h1, h2, h3, h4, h5, h6.weaken (fun y hy hlt => absurd hlt (Nat.not_lt.mpr (h7 y hy))) ?_ ?_⟩
  · exact Nat.le_trans (Nat.sub_le _ _) hc.1
  · exact Nat.le_trans (Nat.sub_le _ _) hc.2
end
section
/-! The shapes of the cells, one by one; joins of roads. -/
theorem sh_0 : w_sh[0]? = some (0, 0, 0, [(0, 1), (0, 2), (0, 234), (1, 0), (1, 0)]) := by decide +kernel
theorem sh_1 : w_sh[1]? = some (3, 8, 3, []) := by decide +kernel
theorem sh_2 : w_sh[2]? = some (0, 6, 0, [(0, 3), (0, 198), (0, 201), (1, 0), (1, 0)]) := by decide +kernel
theorem sh_3 : w_sh[3]? = some (0, 2, 0, [(0, 4), (0, 30), (1, 0), (0, 33), (0, 36), (0, 39), (0, 42)]) := by decide +kernel
theorem sh_4 : w_sh[4]? = some (0, 4, 0, [(0, 5), (1, 0)]) := by decide +kernel
theorem sh_5 : w_sh[5]? = some (3, 6, 8, []) := by decide +kernel
theorem sh_6 : w_sh[6]? = some (0, 3, 0, [(2, 0), (1, 0), (1, 0), (0, 7), (1, 0), (0, 8)]) := by decide +kernel
theorem sh_7 : w_sh[7]? = some (2, 1, 3, []) := by decide +kernel
theorem sh_8 : w_sh[8]? = some (2, 1, 12, []) := by decide +kernel
theorem sh_9 : w_sh[9]? = some (0, 3, 0, [(2, 0), (1, 0), (1, 0), (0, 10), (1, 0), (0, 11)]) := by decide +kernel
theorem sh_10 : w_sh[10]? = some (2, 1, 3, []) := by decide +kernel
theorem sh_11 : w_sh[11]? = some (2, 1, 12, []) := by decide +kernel
theorem sh_12 : w_sh[12]? = some (0, 3, 0, [(2, 0), (1, 0), (1, 0), (0, 13), (1, 0), (0, 14)]) := by decide +kernel
theorem sh_13 : w_sh[13]? = some (2, 1, 3, []) := by decide +kernel
theorem sh_14 : w_sh[14]? = some (2, 1, 12, []) := by decide +kernel
theorem sh_15 : w_sh[15]? = some (0, 3, 0, [(2, 0), (1, 0), (1, 0), (0, 16), (1, 0), (0, 17)]) := by decide +kernel
theorem sh_16 : w_sh[16]? = some (2, 1, 3, []) := by decide +kernel
theorem sh_17 : w_sh[17]? = some (2, 1, 12, []) := by decide +kernel
theorem sh_18 : w_sh[18]? = some (0, 3, 0, [(2, 0), (1, 0), (1, 0), (0, 19), (1, 0), (0, 20)]) := by decide +kernel
theorem sh_19 : w_sh[19]? = some (2, 1, 3, []) := by decide +kernel
theorem sh_20 : w_sh[20]? = some (2, 1, 12, []) := by decide +kernel
theorem sh_21 : w_sh[21]? = some (0, 3, 0, [(2, 0), (1, 0), (1, 0), (0, 22), (1, 0), (0, 23)]) := by decide +kernel
theorem sh_22 : w_sh[22]? = some (2, 1, 3, []) := by decide +kernel
theorem sh_23 : w_sh[23]? = some (2, 1, 12, []) := by decide +kernel
theorem sh_24 : w_sh[24]? = some (0, 3, 0, [(2, 0), (1, 0), (1, 0), (0, 25), (1, 0), (0, 26)]) := by decide +kernel
theorem sh_25 : w_sh[25]? = some (2, 1, 3, []) := by decide +kernel
theorem sh_26 : w_sh[26]? = some (2, 1, 12, []) := by decide +kernel
theorem sh_27 : w_sh[27]? = some (0, 3, 0, [(2, 0), (1, 0), (1, 0), (0, 28), (1, 0), (0, 29)]) := by decide +kernel
theorem sh_28 : w_sh[28]? = some (2, 1, 3, []) := by decide +kernel
theorem sh_29 : w_sh[29]? = some (2, 1, 12, []) := by decide +kernel
theorem sh_30 : w_sh[30]? = some (0, 10, 0, [(0, 31), (0, 32), (1, 0)]) := by decide +kernel
theorem sh_31 : w_sh[31]? = some (2, 1, 100, []) := by decide +kernel
theorem sh_32 : w_sh[32]? = some (1, 0, 100, []) := by decide +kernel
theorem sh_33 : w_sh[33]? = some (0, 10, 0, [(0, 34), (0, 35), (1, 0)]) := by decide +kernel
theorem sh_34 : w_sh[34]? = some (2, 1, 1360, []) := by decide +kernel
theorem sh_35 : w_sh[35]? = some (1, 0, 1360, []) := by decide +kernel
theorem sh_36 : w_sh[36]? = some (0, 10, 0, [(0, 37), (0, 38), (1, 0)]) := by decide +kernel
theorem sh_37 : w_sh[37]? = some (2, 1, 1360, []) := by decide +kernel
theorem sh_38 : w_sh[38]? = some (1, 0, 1360, []) := by decide +kernel
theorem sh_39 : w_sh[39]? = some (0, 10, 0, [(0, 40), (0, 41), (1, 0)]) := by decide +kernel
theorem sh_40 : w_sh[40]? = some (2, 1, 480, []) := by decide +kernel
theorem sh_41 : w_sh[41]? = some (1, 0, 480, []) := by decide +kernel
theorem sh_42 : w_sh[42]? = some (3, 5, 31, []) := by decide +kernel
theorem sh_43 : w_sh[43]? = some (0, 1, 0, [(0, 44), (0, 45), (0, 46), (0, 47), (1, 0), (1, 0)]) := by decide +kernel
theorem sh_44 : w_sh[44]? = some (1, 0, 3, []) := by decide +kernel
theorem sh_45 : w_sh[45]? = some (1, 0, 3, []) := by decide +kernel
theorem sh_46 : w_sh[46]? = some (1, 0, 3, []) := by decide +kernel
theorem sh_47 : w_sh[47]? = some (1, 0, 3, []) := by decide +kernel
theorem sh_48 : w_sh[48]? = some (0, 1, 0, [(0, 49), (0, 50), (0, 51), (0, 52), (1, 0), (1, 0)]) := by decide +kernel
theorem sh_49 : w_sh[49]? = some (1, 0, 3, []) := by decide +kernel
theorem sh_50 : w_sh[50]? = some (1, 0, 3, []) := by decide +kernel
theorem sh_51 : w_sh[51]? = some (1, 0, 3, []) := by decide +kernel
theorem sh_52 : w_sh[52]? = some (1, 0, 3, []) := by decide +kernel
theorem sh_53 : w_sh[53]? = some (0, 1, 0, [(0, 54), (0, 55), (0, 56), (0, 57), (1, 0), (1, 0)]) := by decide +kernel
theorem sh_54 : w_sh[54]? = some (1, 0, 3, []) := by decide +kernel
theorem sh_55 : w_sh[55]? = some (1, 0, 3, []) := by decide +kernel
theorem sh_56 : w_sh[56]? = some (1, 0, 3, []) := by decide +kernel
theorem sh_57 : w_sh[57]? = some (1, 0, 3, []) := by decide +kernel
theorem sh_58 : w_sh[58]? = some (0, 1, 0, [(0, 59), (0, 60), (0, 61), (0, 62), (1, 0), (1, 0)]) := by decide +kernel
theorem sh_59 : w_sh[59]? = some (1, 0, 3, []) := by decide +kernel
theorem sh_60 : w_sh[60]? = some (1, 0, 3, []) := by decide +kernel
theorem sh_61 : w_sh[61]? = some (1, 0, 3, []) := by decide +kernel
theorem sh_62 : w_sh[62]? = some (1, 0, 3, []) := by decide +kernel
theorem sh_63 : w_sh[63]? = some (0, 1, 0, [(0, 64), (0, 65), (0, 66), (0, 67), (1, 0), (1, 0)]) := by decide +kernel
theorem sh_64 : w_sh[64]? = some (1, 0, 3, []) := by decide +kernel
theorem sh_65 : w_sh[65]? = some (1, 0, 3, []) := by decide +kernel
theorem sh_66 : w_sh[66]? = some (1, 0, 3, []) := by decide +kernel
theorem sh_67 : w_sh[67]? = some (1, 0, 3, []) := by decide +kernel
theorem sh_68 : w_sh[68]? = some (0, 1, 0, [(0, 69), (0, 70), (0, 71), (0, 72), (1, 0), (1, 0)]) := by decide +kernel
theorem sh_69 : w_sh[69]? = some (1, 0, 3, []) := by decide +kernel
theorem sh_70 : w_sh[70]? = some (1, 0, 3, []) := by decide +kernel
theorem sh_71 : w_sh[71]? = some (1, 0, 3, []) := by decide +kernel
theorem sh_72 : w_sh[72]? = some (1, 0, 3, []) := by decide +kernel
theorem sh_73 : w_sh[73]? = some (0, 1, 0, [(0, 74), (0, 75), (0, 76), (0, 77), (1, 0), (1, 0)]) := by decide +kernel
theorem sh_74 : w_sh[74]? = some (1, 0, 3, []) := by decide +kernel
theorem sh_75 : w_sh[75]? = some (1, 0, 3, []) := by decide +kernel
theorem sh_76 : w_sh[76]? = some (1, 0, 3, []) := by decide +kernel
theorem sh_77 : w_sh[77]? = some (1, 0, 3, []) := by decide +kernel
theorem sh_78 : w_sh[78]? = some (0, 1, 0, [(0, 79), (0, 80), (0, 81), (0, 82), (1, 0), (1, 0)]) := by decide +kernel
theorem sh_79 : w_sh[79]? = some (1, 0, 3, []) := by decide +kernel
theorem sh_80 : w_sh[80]? = some (1, 0, 3, []) := by decide +kernel
theorem sh_81 : w_sh[81]? = some (1, 0, 3, []) := by decide +kernel
theorem sh_82 : w_sh[82]? = some (1, 0, 3, []) := by decide +kernel
theorem sh_83 : w_sh[83]? = some (0, 1, 0, [(0, 84), (0, 85), (0, 86), (0, 87), (1, 0), (1, 0)]) := by decide +kernel
theorem sh_84 : w_sh[84]? = some (1, 0, 3, []) := by decide +kernel
theorem sh_85 : w_sh[85]? = some (1, 0, 3, []) := by decide +kernel
theorem sh_86 : w_sh[86]? = some (1, 0, 3, []) := by decide +kernel
theorem sh_87 : w_sh[87]? = some (1, 0, 3, []) := by decide +kernel
theorem sh_88 : w_sh[88]? = some (0, 1, 0, [(0, 89), (0, 90), (0, 91), (0, 92), (1, 0), (1, 0)]) := by decide +kernel
theorem sh_89 : w_sh[89]? = some (1, 0, 3, []) := by decide +kernel
theorem sh_90 : w_sh[90]? = some (1, 0, 3, []) := by decide +kernel
theorem sh_91 : w_sh[91]? = some (1, 0, 3, []) := by decide +kernel
theorem sh_92 : w_sh[92]? = some (1, 0, 3, []) := by decide +kernel
theorem sh_93 : w_sh[93]? = some (0, 1, 0, [(0, 94), (0, 95), (0, 96), (0, 97), (1, 0), (1, 0)]) := by decide +kernel
theorem sh_94 : w_sh[94]? = some (1, 0, 3, []) := by decide +kernel
theorem sh_95 : w_sh[95]? = some (1, 0, 3, []) := by decide +kernel
theorem sh_96 : w_sh[96]? = some (1, 0, 3, []) := by decide +kernel
theorem sh_97 : w_sh[97]? = some (1, 0, 3, []) := by decide +kernel
theorem sh_98 : w_sh[98]? = some (0, 1, 0, [(0, 99), (0, 100), (0, 101), (0, 102), (1, 0), (1, 0)]) := by decide +kernel
theorem sh_99 : w_sh[99]? = some (1, 0, 3, []) := by decide +kernel
theorem sh_100 : w_sh[100]? = some (1, 0, 3, []) := by decide +kernel
theorem sh_101 : w_sh[101]? = some (1, 0, 3, []) := by decide +kernel
theorem sh_102 : w_sh[102]? = some (1, 0, 3, []) := by decide +kernel
theorem sh_103 : w_sh[103]? = some (0, 1, 0, [(0, 104), (0, 105), (0, 106), (0, 107), (1, 0), (1, 0)]) := by decide +kernel
theorem sh_104 : w_sh[104]? = some (1, 0, 3, []) := by decide +kernel
theorem sh_105 : w_sh[105]? = some (1, 0, 3, []) := by decide +kernel
theorem sh_106 : w_sh[106]? = some (1, 0, 3, []) := by decide +kernel
theorem sh_107 : w_sh[107]? = some (1, 0, 3, []) := by decide +kernel
theorem sh_108 : w_sh[108]? = some (0, 1, 0, [(0, 109), (0, 110), (0, 111), (0, 112), (1, 0), (1, 0)]) := by decide +kernel
theorem sh_109 : w_sh[109]? = some (1, 0, 3, []) := by decide +kernel
theorem sh_110 : w_sh[110]? = some (1, 0, 3, []) := by decide +kernel
theorem sh_111 : w_sh[111]? = some (1, 0, 3, []) := by decide +kernel
theorem sh_112 : w_sh[112]? = some (1, 0, 3, []) := by decide +kernel
theorem sh_113 : w_sh[113]? = some (0, 1, 0, [(0, 114), (0, 115), (0, 116), (0, 117), (1, 0), (1, 0)]) := by decide +kernel
theorem sh_114 : w_sh[114]? = some (1, 0, 3, []) := by decide +kernel
theorem sh_115 : w_sh[115]? = some (1, 0, 3, []) := by decide +kernel
theorem sh_116 : w_sh[116]? = some (1, 0, 3, []) := by decide +kernel
theorem sh_117 : w_sh[117]? = some (1, 0, 3, []) := by decide +kernel
theorem sh_118 : w_sh[118]? = some (0, 1, 0, [(0, 119), (0, 120), (0, 121), (0, 122), (1, 0), (1, 0)]) := by decide +kernel
theorem sh_119 : w_sh[119]? = some (1, 0, 3, []) := by decide +kernel
theorem sh_120 : w_sh[120]? = some (1, 0, 3, []) := by decide +kernel
theorem sh_121 : w_sh[121]? = some (1, 0, 3, []) := by decide +kernel
theorem sh_122 : w_sh[122]? = some (1, 0, 3, []) := by decide +kernel
theorem sh_123 : w_sh[123]? = some (0, 1, 0, [(0, 124), (0, 125), (0, 126), (0, 127), (1, 0), (1, 0)]) := by decide +kernel
theorem sh_124 : w_sh[124]? = some (1, 0, 3, []) := by decide +kernel
theorem sh_125 : w_sh[125]? = some (1, 0, 3, []) := by decide +kernel
theorem sh_126 : w_sh[126]? = some (1, 0, 3, []) := by decide +kernel
theorem sh_127 : w_sh[127]? = some (1, 0, 3, []) := by decide +kernel
theorem sh_128 : w_sh[128]? = some (0, 1, 0, [(0, 129), (0, 130), (0, 131), (0, 132), (1, 0), (1, 0)]) := by decide +kernel
theorem sh_129 : w_sh[129]? = some (1, 0, 3, []) := by decide +kernel
theorem sh_130 : w_sh[130]? = some (1, 0, 3, []) := by decide +kernel
theorem sh_131 : w_sh[131]? = some (1, 0, 3, []) := by decide +kernel
theorem sh_132 : w_sh[132]? = some (1, 0, 3, []) := by decide +kernel
theorem sh_133 : w_sh[133]? = some (0, 1, 0, [(0, 134), (0, 135), (0, 136), (0, 137), (1, 0), (1, 0)]) := by decide +kernel
theorem sh_134 : w_sh[134]? = some (1, 0, 3, []) := by decide +kernel
theorem sh_135 : w_sh[135]? = some (1, 0, 3, []) := by decide +kernel
theorem sh_136 : w_sh[136]? = some (1, 0, 3, []) := by decide +kernel
theorem sh_137 : w_sh[137]? = some (1, 0, 3, []) := by decide +kernel
theorem sh_138 : w_sh[138]? = some (0, 1, 0, [(0, 139), (0, 140), (0, 141), (0, 142), (1, 0), (1, 0)]) := by decide +kernel
theorem sh_139 : w_sh[139]? = some (1, 0, 3, []) := by decide +kernel
theorem sh_140 : w_sh[140]? = some (1, 0, 3, []) := by decide +kernel
theorem sh_141 : w_sh[141]? = some (1, 0, 3, []) := by decide +kernel
theorem sh_142 : w_sh[142]? = some (1, 0, 3, []) := by decide +kernel
theorem sh_143 : w_sh[143]? = some (0, 1, 0, [(0, 144), (0, 145), (0, 146), (0, 147), (1, 0), (1, 0)]) := by decide +kernel
theorem sh_144 : w_sh[144]? = some (1, 0, 3, []) := by decide +kernel
theorem sh_145 : w_sh[145]? = some (1, 0, 3, []) := by decide +kernel
theorem sh_146 : w_sh[146]? = some (1, 0, 3, []) := by decide +kernel
theorem sh_147 : w_sh[147]? = some (1, 0, 3, []) := by decide +kernel
theorem sh_148 : w_sh[148]? = some (0, 1, 0, [(0, 149), (0, 150), (0, 151), (0, 152), (1, 0), (1, 0)]) := by decide +kernel
theorem sh_149 : w_sh[149]? = some (1, 0, 3, []) := by decide +kernel
theorem sh_150 : w_sh[150]? = some (1, 0, 3, []) := by decide +kernel
theorem sh_151 : w_sh[151]? = some (1, 0, 3, []) := by decide +kernel
theorem sh_152 : w_sh[152]? = some (1, 0, 3, []) := by decide +kernel
theorem sh_153 : w_sh[153]? = some (0, 1, 0, [(0, 154), (0, 155), (0, 156), (0, 157), (1, 0), (1, 0)]) := by decide +kernel
theorem sh_154 : w_sh[154]? = some (1, 0, 3, []) := by decide +kernel
theorem sh_155 : w_sh[155]? = some (1, 0, 3, []) := by decide +kernel
theorem sh_156 : w_sh[156]? = some (1, 0, 3, []) := by decide +kernel
theorem sh_157 : w_sh[157]? = some (1, 0, 3, []) := by decide +kernel
theorem sh_158 : w_sh[158]? = some (0, 1, 0, [(0, 159), (0, 160), (0, 161), (0, 162), (1, 0), (1, 0)]) := by decide +kernel
theorem sh_159 : w_sh[159]? = some (1, 0, 3, []) := by decide +kernel
theorem sh_160 : w_sh[160]? = some (1, 0, 3, []) := by decide +kernel
theorem sh_161 : w_sh[161]? = some (1, 0, 3, []) := by decide +kernel
theorem sh_162 : w_sh[162]? = some (1, 0, 3, []) := by decide +kernel
theorem sh_163 : w_sh[163]? = some (0, 1, 0, [(0, 164), (0, 165), (0, 166), (0, 167), (1, 0), (1, 0)]) := by decide +kernel
theorem sh_164 : w_sh[164]? = some (1, 0, 3, []) := by decide +kernel
theorem sh_165 : w_sh[165]? = some (1, 0, 3, []) := by decide +kernel
theorem sh_166 : w_sh[166]? = some (1, 0, 3, []) := by decide +kernel
theorem sh_167 : w_sh[167]? = some (1, 0, 3, []) := by decide +kernel
theorem sh_168 : w_sh[168]? = some (0, 1, 0, [(0, 169), (0, 170), (0, 171), (0, 172), (1, 0), (1, 0)]) := by decide +kernel
theorem sh_169 : w_sh[169]? = some (1, 0, 3, []) := by decide +kernel
theorem sh_170 : w_sh[170]? = some (1, 0, 3, []) := by decide +kernel
theorem sh_171 : w_sh[171]? = some (1, 0, 3, []) := by decide +kernel
theorem sh_172 : w_sh[172]? = some (1, 0, 3, []) := by decide +kernel
theorem sh_173 : w_sh[173]? = some (0, 1, 0, [(0, 174), (0, 175), (0, 176), (0, 177), (1, 0), (1, 0)]) := by decide +kernel
theorem sh_174 : w_sh[174]? = some (1, 0, 3, []) := by decide +kernel
theorem sh_175 : w_sh[175]? = some (1, 0, 3, []) := by decide +kernel
theorem sh_176 : w_sh[176]? = some (1, 0, 3, []) := by decide +kernel
theorem sh_177 : w_sh[177]? = some (1, 0, 3, []) := by decide +kernel
theorem sh_178 : w_sh[178]? = some (0, 1, 0, [(0, 179), (0, 180), (0, 181), (0, 182), (1, 0), (1, 0)]) := by decide +kernel
theorem sh_179 : w_sh[179]? = some (1, 0, 3, []) := by decide +kernel
theorem sh_180 : w_sh[180]? = some (1, 0, 3, []) := by decide +kernel
theorem sh_181 : w_sh[181]? = some (1, 0, 3, []) := by decide +kernel
theorem sh_182 : w_sh[182]? = some (1, 0, 3, []) := by decide +kernel
theorem sh_183 : w_sh[183]? = some (0, 1, 0, [(0, 184), (0, 185), (0, 186), (0, 187), (1, 0), (1, 0)]) := by decide +kernel
theorem sh_184 : w_sh[184]? = some (1, 0, 3, []) := by decide +kernel
theorem sh_185 : w_sh[185]? = some (1, 0, 3, []) := by decide +kernel
theorem sh_186 : w_sh[186]? = some (1, 0, 3, []) := by decide +kernel
theorem sh_187 : w_sh[187]? = some (1, 0, 3, []) := by decide +kernel
theorem sh_188 : w_sh[188]? = some (0, 1, 0, [(0, 189), (0, 190), (0, 191), (0, 192), (1, 0), (1, 0)]) := by decide +kernel
theorem sh_189 : w_sh[189]? = some (1, 0, 3, []) := by decide +kernel
theorem sh_190 : w_sh[190]? = some (1, 0, 3, []) := by decide +kernel
theorem sh_191 : w_sh[191]? = some (1, 0, 3, []) := by decide +kernel
theorem sh_192 : w_sh[192]? = some (1, 0, 3, []) := by decide +kernel
theorem sh_193 : w_sh[193]? = some (0, 1, 0, [(0, 194), (0, 195), (0, 196), (0, 197), (1, 0), (1, 0)]) := by decide +kernel
theorem sh_194 : w_sh[194]? = some (1, 0, 3, []) := by decide +kernel
theorem sh_195 : w_sh[195]? = some (1, 0, 3, []) := by decide +kernel
theorem sh_196 : w_sh[196]? = some (1, 0, 3, []) := by decide +kernel
theorem sh_197 : w_sh[197]? = some (1, 0, 3, []) := by decide +kernel
theorem sh_198 : w_sh[198]? = some (0, 7, 0, [(0, 199), (0, 200), (1, 0)]) := by decide +kernel
theorem sh_199 : w_sh[199]? = some (1, 2, 161, []) := by decide +kernel
theorem sh_200 : w_sh[200]? = some (1, 0, 161, []) := by decide +kernel
theorem sh_201 : w_sh[201]? = some (3, 7, 4, []) := by decide +kernel
theorem sh_202 : w_sh[202]? = some (0, 8, 0, [(1, 0), (1, 0), (0, 203), (0, 206), (0, 207), (0, 208), (0, 209), (1, 0), (1, 0), (1, 0), (1, 0), (1, 0)]) := by decide +kernel
theorem sh_203 : w_sh[203]? = some (0, 10, 0, [(0, 204), (0, 205), (1, 0)]) := by decide +kernel
theorem sh_204 : w_sh[204]? = some (2, 1, 160, []) := by decide +kernel
theorem sh_205 : w_sh[205]? = some (1, 0, 160, []) := by decide +kernel
theorem sh_206 : w_sh[206]? = some (1, 0, 160, []) := by decide +kernel
theorem sh_207 : w_sh[207]? = some (1, 3, 160, []) := by decide +kernel
theorem sh_208 : w_sh[208]? = some (1, 3, 18, []) := by decide +kernel
theorem sh_209 : w_sh[209]? = some (1, 3, 18, []) := by decide +kernel
theorem sh_210 : w_sh[210]? = some (0, 8, 0, [(1, 0), (1, 0), (0, 211), (0, 214), (0, 215), (0, 216), (0, 217), (1, 0), (1, 0), (1, 0), (1, 0), (1, 0)]) := by decide +kernel
theorem sh_211 : w_sh[211]? = some (0, 10, 0, [(0, 212), (0, 213), (1, 0)]) := by decide +kernel
theorem sh_212 : w_sh[212]? = some (2, 1, 160, []) := by decide +kernel
theorem sh_213 : w_sh[213]? = some (1, 0, 160, []) := by decide +kernel
theorem sh_214 : w_sh[214]? = some (1, 0, 160, []) := by decide +kernel
theorem sh_215 : w_sh[215]? = some (1, 3, 160, []) := by decide +kernel
theorem sh_216 : w_sh[216]? = some (1, 3, 18, []) := by decide +kernel
theorem sh_217 : w_sh[217]? = some (1, 3, 18, []) := by decide +kernel
theorem sh_218 : w_sh[218]? = some (0, 8, 0, [(1, 0), (1, 0), (0, 219), (0, 222), (0, 223), (0, 224), (0, 225), (1, 0), (1, 0), (1, 0), (1, 0), (1, 0)]) := by decide +kernel
theorem sh_219 : w_sh[219]? = some (0, 10, 0, [(0, 220), (0, 221), (1, 0)]) := by decide +kernel
theorem sh_220 : w_sh[220]? = some (2, 1, 160, []) := by decide +kernel
theorem sh_221 : w_sh[221]? = some (1, 0, 160, []) := by decide +kernel
theorem sh_222 : w_sh[222]? = some (1, 0, 160, []) := by decide +kernel
theorem sh_223 : w_sh[223]? = some (1, 3, 160, []) := by decide +kernel
theorem sh_224 : w_sh[224]? = some (1, 3, 18, []) := by decide +kernel
theorem sh_225 : w_sh[225]? = some (1, 3, 18, []) := by decide +kernel
theorem sh_226 : w_sh[226]? = some (0, 8, 0, [(1, 0), (1, 0), (0, 227), (0, 230), (0, 231), (0, 232), (0, 233), (1, 0), (1, 0), (1, 0), (1, 0), (1, 0)]) := by decide +kernel
theorem sh_227 : w_sh[227]? = some (0, 10, 0, [(0, 228), (0, 229), (1, 0)]) := by decide +kernel
theorem sh_228 : w_sh[228]? = some (2, 1, 160, []) := by decide +kernel
theorem sh_229 : w_sh[229]? = some (1, 0, 160, []) := by decide +kernel
theorem sh_230 : w_sh[230]? = some (1, 0, 160, []) := by decide +kernel
theorem sh_231 : w_sh[231]? = some (1, 3, 160, []) := by decide +kernel
theorem sh_232 : w_sh[232]? = some (1, 3, 18, []) := by decide +kernel
theorem sh_233 : w_sh[233]? = some (1, 3, 18, []) := by decide +kernel
theorem sh_234 : w_sh[234]? = some (0, 5, 0, [(0, 235), (0, 239), (0, 240), (1, 0), (1, 0), (0, 241), (0, 242), (1, 0)]) := by decide +kernel
theorem sh_235 : w_sh[235]? = some (0, 11, 0, [(0, 236), (0, 237), (0, 238), (1, 0)]) := by decide +kernel
theorem sh_236 : w_sh[236]? = some (1, 0, 201, []) := by decide +kernel
theorem sh_237 : w_sh[237]? = some (1, 0, 201, []) := by decide +kernel
theorem sh_238 : w_sh[238]? = some (1, 0, 201, []) := by decide +kernel
theorem sh_239 : w_sh[239]? = some (2, 1, 101, []) := by decide +kernel
theorem sh_240 : w_sh[240]? = some (1, 0, 101, []) := by decide +kernel
theorem sh_241 : w_sh[241]? = some (2, 1, 100, []) := by decide +kernel
theorem sh_242 : w_sh[242]? = some (1, 3, 100, []) := by decide +kernel
theorem sh_243 : w_sh[243]? = some (0, 9, 0, [(0, 244), (1, 0)]) := by decide +kernel
theorem sh_244 : w_sh[244]? = some (1, 2, 160, []) := by decide +kernel
theorem sh_245 : w_sh[245]? = some (0, 9, 0, [(0, 246), (1, 0)]) := by decide +kernel
theorem sh_246 : w_sh[246]? = some (1, 2, 160, []) := by decide +kernel
theorem sh_247 : w_sh[247]? = some (0, 9, 0, [(0, 248), (1, 0)]) := by decide +kernel
theorem sh_248 : w_sh[248]? = some (1, 2, 160, []) := by decide +kernel
theorem sh_249 : w_sh[249]? = some (0, 12, 0, [(0, 250), (0, 251), (1, 0), (0, 252), (0, 253), (1, 0), (0, 254), (0, 255), (0, 256), (0, 257), (0, 258), (0, 259), (1, 0), (1, 0), (0, 260), (0, 261), (1, 0), (1, 0), (0, 262), (0, 263), (0, 264), (0, 265), (0, 266), (1, 0), (0, 267), (0, 268), (1, 0), (0, 269), (0, 270), (1, 0), (0, 271), (0, 272), (1, 0), (0, 273), (0, 274), (1, 0), (0, 275), (0, 276), (0, 277), (0, 278), (0, 279), (0, 280), (0, 281), (0, 282), (0, 283), (0, 284), (1, 0), (0, 285), (0, 286), (1, 0), (1, 0), (0, 287), (0, 288), (0, 289), (0, 290), (0, 291), (1, 0), (0, 292), (0, 293), (0, 294), (0, 295), (1, 0), (0, 296), (0, 297), (0, 298), (0, 299), (0, 300), (1, 0), (0, 301), (0, 302), (0, 303), (0, 304)]) := by decide +kernel
theorem sh_250 : w_sh[250]? = some (1, 0, 480, []) := by decide +kernel
theorem sh_251 : w_sh[251]? = some (1, 0, 3, []) := by decide +kernel
theorem sh_252 : w_sh[252]? = some (1, 0, 162, []) := by decide +kernel
theorem sh_253 : w_sh[253]? = some (1, 0, 162, []) := by decide +kernel
theorem sh_254 : w_sh[254]? = some (2, 1, 644, []) := by decide +kernel
theorem sh_255 : w_sh[255]? = some (1, 0, 644, []) := by decide +kernel
theorem sh_256 : w_sh[256]? = some (1, 0, 644, []) := by decide +kernel
theorem sh_257 : w_sh[257]? = some (1, 0, 4, []) := by decide +kernel
theorem sh_258 : w_sh[258]? = some (1, 0, 4, []) := by decide +kernel
theorem sh_259 : w_sh[259]? = some (1, 0, 4, []) := by decide +kernel
theorem sh_260 : w_sh[260]? = some (1, 3, 80, []) := by decide +kernel
theorem sh_261 : w_sh[261]? = some (1, 3, 80, []) := by decide +kernel
theorem sh_262 : w_sh[262]? = some (2, 1, 8, []) := by decide +kernel
theorem sh_263 : w_sh[263]? = some (1, 0, 8, []) := by decide +kernel
theorem sh_264 : w_sh[264]? = some (2, 1, 24, []) := by decide +kernel
theorem sh_265 : w_sh[265]? = some (2, 1, 96, []) := by decide +kernel
theorem sh_266 : w_sh[266]? = some (1, 0, 8, []) := by decide +kernel
theorem sh_267 : w_sh[267]? = some (2, 1, 160, []) := by decide +kernel
theorem sh_268 : w_sh[268]? = some (1, 0, 160, []) := by decide +kernel
theorem sh_269 : w_sh[269]? = some (2, 1, 1361, []) := by decide +kernel
theorem sh_270 : w_sh[270]? = some (1, 0, 1361, []) := by decide +kernel
theorem sh_271 : w_sh[271]? = some (2, 1, 2561, []) := by decide +kernel
theorem sh_272 : w_sh[272]? = some (1, 0, 2561, []) := by decide +kernel
theorem sh_273 : w_sh[273]? = some (2, 1, 1201, []) := by decide +kernel
theorem sh_274 : w_sh[274]? = some (1, 0, 1201, []) := by decide +kernel
theorem sh_275 : w_sh[275]? = some (2, 1, 481, []) := by decide +kernel
theorem sh_276 : w_sh[276]? = some (1, 0, 481, []) := by decide +kernel
theorem sh_277 : w_sh[277]? = some (1, 0, 32, []) := by decide +kernel
theorem sh_278 : w_sh[278]? = some (1, 0, 32, []) := by decide +kernel
theorem sh_279 : w_sh[279]? = some (1, 0, 32, []) := by decide +kernel
theorem sh_280 : w_sh[280]? = some (1, 0, 32, []) := by decide +kernel
theorem sh_281 : w_sh[281]? = some (1, 0, 32, []) := by decide +kernel
theorem sh_282 : w_sh[282]? = some (1, 0, 32, []) := by decide +kernel
theorem sh_283 : w_sh[283]? = some (1, 0, 128, []) := by decide +kernel
theorem sh_284 : w_sh[284]? = some (1, 0, 128, []) := by decide +kernel
theorem sh_285 : w_sh[285]? = some (2, 1, 100, []) := by decide +kernel
theorem sh_286 : w_sh[286]? = some (1, 0, 100, []) := by decide +kernel
theorem sh_287 : w_sh[287]? = some (1, 0, 100, []) := by decide +kernel
theorem sh_288 : w_sh[288]? = some (1, 0, 101, []) := by decide +kernel
theorem sh_289 : w_sh[289]? = some (1, 0, 202, []) := by decide +kernel
theorem sh_290 : w_sh[290]? = some (1, 0, 202, []) := by decide +kernel
theorem sh_291 : w_sh[291]? = some (1, 0, 202, []) := by decide +kernel
theorem sh_292 : w_sh[292]? = some (2, 1, 100, []) := by decide +kernel
theorem sh_293 : w_sh[293]? = some (1, 0, 100, []) := by decide +kernel
theorem sh_294 : w_sh[294]? = some (1, 0, 100, []) := by decide +kernel
theorem sh_295 : w_sh[295]? = some (1, 3, 100, []) := by decide +kernel
theorem sh_296 : w_sh[296]? = some (1, 0, 300, []) := by decide +kernel
theorem sh_297 : w_sh[297]? = some (1, 0, 300, []) := by decide +kernel
theorem sh_298 : w_sh[298]? = some (1, 0, 300, []) := by decide +kernel
theorem sh_299 : w_sh[299]? = some (1, 0, 300, []) := by decide +kernel
theorem sh_300 : w_sh[300]? = some (1, 0, 300, []) := by decide +kernel
theorem sh_301 : w_sh[301]? = some (1, 0, 8, []) := by decide +kernel
theorem sh_302 : w_sh[302]? = some (1, 0, 8, []) := by decide +kernel
theorem sh_303 : w_sh[303]? = some (1, 0, 8, []) := by decide +kernel
theorem sh_304 : w_sh[304]? = some (1, 0, 8, []) := by decide +kernel
theorem fa_of {n : Nat} {p : Nat → Prop} [DecidablePred p] (h : (List.range n).all (fun l => decide (p l)) = true) {l : Nat} (hl : l < n) : p l := of_decide_eq_true (List.all_eq_true.mp h l (List.mem_range.mpr hl))
theorem sh_src {l : Nat} (h : l < 4) : w_sh[202 + 8 * l]? = some (0, 8, 0, [(1, 0), (1, 0), (0, 203 + 8 * l), (0, 206 + 8 * l), (0, 207 + 8 * l), (0, 208 + 8 * l), (0, 209 + 8 * l), (1, 0), (1, 0), (1, 0), (1, 0), (1, 0)]) := fa_of (p := fun l => w_sh[202 + 8 * l]? = some (0, 8, 0, [(1, 0), (1, 0), (0, 203 + 8 * l), (0, 206 + 8 * l), (0, 207 + 8 * l), (0, 208 + 8 * l), (0, 209 + 8 * l), (1, 0), (1, 0), (1, 0), (1, 0), (1, 0)])) (by decide +kernel) h
def w_row (a n : Nat) : Prop := w_sh[a]? = some (0, 10, 0, [(0, a + 1), (0, a + 2), (1, 0)]) ∧ w_sh[a + 1]? = some (2, 1, n, []) ∧ w_sh[a + 2]? = some (1, 0, n, [])
set_option maxRecDepth 4000 in
theorem sh_srow {l : Nat} (h : l < 4) : w_sh[203 + 8 * l]? = some (0, 10, 0, [(0, 204 + 8 * l), (0, 205 + 8 * l), (1, 0)]) ∧ w_sh[204 + 8 * l]? = some (2, 1, 160, []) ∧ w_sh[205 + 8 * l]? = some (1, 0, 160, []) := by
  match l, h with
  | 0, _ => exact ⟨rfl, rfl, rfl⟩
  | 1, _ => exact ⟨rfl, rfl, rfl⟩
  | 2, _ => exact ⟨rfl, rfl, rfl⟩
  | 3, _ => exact ⟨rfl, rfl, rfl⟩
theorem row_src {l : Nat} (h : l < 4) : w_row (203 + 8 * l) 160 := by
  have e1 : 203 + 8 * l + 1 = 204 + 8 * l := by omega
  have e2 : 203 + 8 * l + 2 = 205 + 8 * l := by omega
  unfold w_row
  rw [e1, e2]
  exact sh_srow h
theorem sh_src4 {l : Nat} (h : l < 4) : w_sh[206 + 8 * l]? = some (1, 0, 160, []) := fa_of (p := fun l => w_sh[206 + 8 * l]? = some (1, 0, 160, [])) (by decide +kernel) h
theorem sh_src5 {l : Nat} (h : l < 4) : w_sh[207 + 8 * l]? = some (1, 3, 160, []) := fa_of (p := fun l => w_sh[207 + 8 * l]? = some (1, 3, 160, [])) (by decide +kernel) h
theorem sh_src6 {l : Nat} (h : l < 4) : w_sh[208 + 8 * l]? = some (1, 3, 18, []) := fa_of (p := fun l => w_sh[208 + 8 * l]? = some (1, 3, 18, [])) (by decide +kernel) h
theorem sh_src7 {l : Nat} (h : l < 4) : w_sh[209 + 8 * l]? = some (1, 3, 18, []) := fa_of (p := fun l => w_sh[209 + 8 * l]? = some (1, 3, 18, [])) (by decide +kernel) h
theorem sh_mac {i : Nat} (h : i < 8) : w_sh[6 + 3 * i]? = some (0, 3, 0, [(2, 0), (1, 0), (1, 0), (0, 7 + 3 * i), (1, 0), (0, 8 + 3 * i)]) := fa_of (p := fun i => w_sh[6 + 3 * i]? = some (0, 3, 0, [(2, 0), (1, 0), (1, 0), (0, 7 + 3 * i), (1, 0), (0, 8 + 3 * i)])) (by decide +kernel) h
theorem sh_mac1 {i : Nat} (h : i < 8) : w_sh[7 + 3 * i]? = some (2, 1, 3, []) := fa_of (p := fun i => w_sh[7 + 3 * i]? = some (2, 1, 3, [])) (by decide +kernel) h
theorem sh_mac2 {i : Nat} (h : i < 8) : w_sh[8 + 3 * i]? = some (2, 1, 12, []) := fa_of (p := fun i => w_sh[8 + 3 * i]? = some (2, 1, 12, [])) (by decide +kernel) h
theorem sh_arg {q : Nat} (h : q < 31) : w_sh[43 + 5 * q]? = some (0, 1, 0, [(0, 44 + 5 * q), (0, 45 + 5 * q), (0, 46 + 5 * q), (0, 47 + 5 * q), (1, 0), (1, 0)]) := fa_of (p := fun q => w_sh[43 + 5 * q]? = some (0, 1, 0, [(0, 44 + 5 * q), (0, 45 + 5 * q), (0, 46 + 5 * q), (0, 47 + 5 * q), (1, 0), (1, 0)])) (by decide +kernel) h
theorem sh_arg1 {q : Nat} (h : q < 31) : w_sh[44 + 5 * q]? = some (1, 0, 3, []) := fa_of (p := fun q => w_sh[44 + 5 * q]? = some (1, 0, 3, [])) (by decide +kernel) h
theorem sh_arg2 {q : Nat} (h : q < 31) : w_sh[45 + 5 * q]? = some (1, 0, 3, []) := fa_of (p := fun q => w_sh[45 + 5 * q]? = some (1, 0, 3, [])) (by decide +kernel) h
theorem sh_arg3 {q : Nat} (h : q < 31) : w_sh[46 + 5 * q]? = some (1, 0, 3, []) := fa_of (p := fun q => w_sh[46 + 5 * q]? = some (1, 0, 3, [])) (by decide +kernel) h
theorem sh_arg4 {q : Nat} (h : q < 31) : w_sh[47 + 5 * q]? = some (1, 0, 3, []) := fa_of (p := fun q => w_sh[47 + 5 * q]? = some (1, 0, 3, [])) (by decide +kernel) h
theorem sh_txt {f : Nat} (h : f < 3) : w_sh[243 + 2 * f]? = some (0, 9, 0, [(0, 244 + 2 * f), (1, 0)]) := fa_of (p := fun f => w_sh[243 + 2 * f]? = some (0, 9, 0, [(0, 244 + 2 * f), (1, 0)])) (by decide +kernel) h
theorem sh_txt1 {f : Nat} (h : f < 3) : w_sh[244 + 2 * f]? = some (1, 2, 160, []) := fa_of (p := fun f => w_sh[244 + 2 * f]? = some (1, 2, 160, [])) (by decide +kernel) h
theorem row_30 : w_row 30 100 := ⟨rfl, rfl, rfl⟩
theorem row_33 : w_row 33 1360 := ⟨rfl, rfl, rfl⟩
theorem row_36 : w_row 36 1360 := ⟨rfl, rfl, rfl⟩
theorem row_39 : w_row 39 480 := ⟨rfl, rfl, rfl⟩
theorem w_br {A B G : Prop} (P : Prop) (g : (P → A) → (¬ P → B) → G) (a : P → A) (b : ¬ P → B) : G := g a b
theorem w_jn {A G : Prop} (g : A → G) (a : A) : G := g a
theorem w_jri {sc : x_S} {d k pc : Nat} {lv : x_L} {st : List Value} {S : w_S} {Q : Option Value → w_S → Prop} {a b : Int} (h : a = b) (t : w_T sc d k pc lv (.int (iZ a) :: st) S Q) : w_T sc d k pc lv (.int (iZ b) :: st) S Q := h ▸ t
theorem w_jrl {sc : x_S} {d k pc : Nat} {lv : x_L} {st : List Value} {S : w_S} {Q : Option Value → w_S → Prop} {a b : Int64} (h : a = b) (t : w_T sc d k pc lv (.long a :: st) S Q) : w_T sc d k pc lv (.long b :: st) S Q := h ▸ t
theorem q_i {S : w_S} {a b : Int} (h : a = b) : some (Value.int (iZ a)) = some (Value.int (iZ b)) ∧ S = S := by rw [h]; exact ⟨rfl, rfl⟩
theorem q_b {S : w_S} {a b : Bool} (h : a = b) : some (Value.int (iZ (zB a))) = some (Value.int (iZ (zB b))) ∧ S = S := by rw [h]; exact ⟨rfl, rfl⟩
theorem q_1 {S : w_S} {b : Bool} (h : b = true) : some (Value.int (iZ 1)) = some (Value.int (iZ (zB b))) ∧ S = S := by rw [h]; exact ⟨rfl, rfl⟩
theorem q_0 {S : w_S} {b : Bool} (h : b = false) : some (Value.int (iZ 0)) = some (Value.int (iZ (zB b))) ∧ S = S := by rw [h]; exact ⟨rfl, rfl⟩
theorem q_l {S : w_S} {a b : Int64} (h : a = b) : some (Value.long a) = some (Value.long b) ∧ S = S := by rw [h]; exact ⟨rfl, rfl⟩
end
