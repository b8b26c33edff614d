theorem in_t0 {w : Cond} (h : w ∈ k2_sels lw_privs) : w ∈ lw_tbl := List.mem_append_left _ h
theorem in_t1 {w : Cond} (h : w ∈ tables_1_1) : w ∈ lw_tbl := List.mem_append_right _ (List.mem_append_left _ h)
theorem in_t2 {w : Cond} (h : w ∈ tables_1_2) : w ∈ lw_tbl := List.mem_append_right _ (List.mem_append_right _ (List.mem_append_left _ h))
theorem in_t3 {w : Cond} (h : w ∈ tables_1_3) : w ∈ lw_tbl := List.mem_append_right _ (List.mem_append_right _ (List.mem_append_right _ (List.mem_append_left _ h)))
theorem in_t4 {w : Cond} (h : w ∈ tables_1_4) : w ∈ lw_tbl := List.mem_append_right _ (List.mem_append_right _ (List.mem_append_right _ (List.mem_append_right _ (List.mem_append_left _ h))))
theorem in_t5 {w : Cond} (h : w ∈ tables_1_5) : w ∈ lw_tbl := List.mem_append_right _ (List.mem_append_right _ (List.mem_append_right _ (List.mem_append_right _ (List.mem_append_right _ h))))
theorem gu {w : Cond} (h : w ∈ lw_tbl) (hg : goodWord w = true) : w ∈ gtbl := List.mem_filter.mpr ⟨h, hg⟩
theorem nu {w : Cond} (h : w ∈ lw_tbl) (hg : isN w = true) : w ∈ ntbl := List.mem_filter.mpr ⟨h, hg⟩
theorem w0 : (Cond.selects "java/lang/Throwable" (⟨"java/lang/Throwable", "fillInStackTrace", "(I)Ljava/lang/Throwable;"⟩ : MethodName) (⟨"java/lang/Throwable", "fillInStackTrace", "(I)Ljava/lang/Throwable;"⟩ : MethodName)) ∈ gtbl := gu (in_t0 (List.mem_of_getElem? (i := 0) (by decide +kernel))) rfl
theorem w1 : (Cond.selects "BoundCode" (⟨"BoundCode", "known", "(I)LBoundCode$Method;"⟩ : MethodName) (⟨"BoundCode", "known", "(I)LBoundCode$Method;"⟩ : MethodName)) ∈ gtbl := gu (in_t0 (List.mem_of_getElem? (i := 1) (by decide +kernel))) rfl
theorem w2 : (Cond.selects "BoundCode" (⟨"BoundCode", "knownWith", "(II)LBoundCode$Method;"⟩ : MethodName) (⟨"BoundCode", "knownWith", "(II)LBoundCode$Method;"⟩ : MethodName)) ∈ gtbl := gu (in_t0 (List.mem_of_getElem? (i := 2) (by decide +kernel))) rfl
theorem w3 : (Cond.selects "BoundCode$Checker" (⟨"BoundCode$Checker", "inspect", "(LBoundCode$Method;)V"⟩ : MethodName) (⟨"BoundCode$Checker", "inspect", "(LBoundCode$Method;)V"⟩ : MethodName)) ∈ gtbl := gu (in_t0 (List.mem_of_getElem? (i := 3) (by decide +kernel))) rfl
theorem w4 : (Cond.selects "BoundCode$Checker" (⟨"BoundCode$Checker", "pairLoops", "(LBoundCode$Method;)V"⟩ : MethodName) (⟨"BoundCode$Checker", "pairLoops", "(LBoundCode$Method;)V"⟩ : MethodName)) ∈ gtbl := gu (in_t0 (List.mem_of_getElem? (i := 4) (by decide +kernel))) rfl
theorem w5 : (Cond.selects "BoundCode$Checker" (⟨"BoundCode$Checker", "findFaultOfForm", "(LBoundCode$Method;)V"⟩ : MethodName) (⟨"BoundCode$Checker", "findFaultOfForm", "(LBoundCode$Method;)V"⟩ : MethodName)) ∈ gtbl := gu (in_t0 (List.mem_of_getElem? (i := 5) (by decide +kernel))) rfl
theorem w6 : (Cond.selects "BoundCode$Checker" (⟨"BoundCode$Checker", "faultOfForm", "(LBoundCode$Method;I)I"⟩ : MethodName) (⟨"BoundCode$Checker", "faultOfForm", "(LBoundCode$Method;I)I"⟩ : MethodName)) ∈ gtbl := gu (in_t0 (List.mem_of_getElem? (i := 6) (by decide +kernel))) rfl
theorem w7 : (Cond.selects "BoundCode$Checker" (⟨"BoundCode$Checker", "hasForm", "(LBoundCode$Method;IJ)Z"⟩ : MethodName) (⟨"BoundCode$Checker", "hasForm", "(LBoundCode$Method;IJ)Z"⟩ : MethodName)) ∈ gtbl := gu (in_t0 (List.mem_of_getElem? (i := 7) (by decide +kernel))) rfl
theorem w8 : (Cond.selects "BoundCode$Checker" (⟨"BoundCode$Checker", "findHeights", "(LBoundCode$Method;)V"⟩ : MethodName) (⟨"BoundCode$Checker", "findHeights", "(LBoundCode$Method;)V"⟩ : MethodName)) ∈ gtbl := gu (in_t0 (List.mem_of_getElem? (i := 8) (by decide +kernel))) rfl
theorem w9 : (Cond.selects "BoundCode$Checker" (⟨"BoundCode$Checker", "faultOfHeight", "(LBoundCode$Method;I)I"⟩ : MethodName) (⟨"BoundCode$Checker", "faultOfHeight", "(LBoundCode$Method;I)I"⟩ : MethodName)) ∈ gtbl := gu (in_t0 (List.mem_of_getElem? (i := 9) (by decide +kernel))) rfl
theorem w10 : (Cond.selects "BoundCode$Checker" (⟨"BoundCode$Checker", "takenBy", "(LBoundCode$Method;I)I"⟩ : MethodName) (⟨"BoundCode$Checker", "takenBy", "(LBoundCode$Method;I)I"⟩ : MethodName)) ∈ gtbl := gu (in_t0 (List.mem_of_getElem? (i := 10) (by decide +kernel))) rfl
theorem w11 : (Cond.selects "BoundCode$Checker" (⟨"BoundCode$Checker", "givenBy", "(LBoundCode$Method;I)I"⟩ : MethodName) (⟨"BoundCode$Checker", "givenBy", "(LBoundCode$Method;I)I"⟩ : MethodName)) ∈ gtbl := gu (in_t0 (List.mem_of_getElem? (i := 11) (by decide +kernel))) rfl
theorem w12 : (Cond.selects "BoundCode$Checker" (⟨"BoundCode$Checker", "lead", "(LBoundCode$Method;JI)I"⟩ : MethodName) (⟨"BoundCode$Checker", "lead", "(LBoundCode$Method;JI)I"⟩ : MethodName)) ∈ gtbl := gu (in_t0 (List.mem_of_getElem? (i := 12) (by decide +kernel))) rfl
theorem w13 : (Cond.selects "BoundCode$Analyser" (⟨"BoundCode$Analyser", "followCalls", "()V"⟩ : MethodName) (⟨"BoundCode$Analyser", "followCalls", "()V"⟩ : MethodName)) ∈ gtbl := gu (in_t0 (List.mem_of_getElem? (i := 13) (by decide +kernel))) rfl
theorem w14 : (Cond.selects "BoundCode$Analyser" (⟨"BoundCode$Analyser", "callsOf", "(LBoundCode$Method;)I"⟩ : MethodName) (⟨"BoundCode$Analyser", "callsOf", "(LBoundCode$Method;)I"⟩ : MethodName)) ∈ gtbl := gu (in_t0 (List.mem_of_getElem? (i := 14) (by decide +kernel))) rfl
theorem w15 : (Cond.selects "BoundCode$Analyser" (⟨"BoundCode$Analyser", "faultyOnes", "()I"⟩ : MethodName) (⟨"BoundCode$Analyser", "faultyOnes", "()I"⟩ : MethodName)) ∈ gtbl := gu (in_t0 (List.mem_of_getElem? (i := 15) (by decide +kernel))) rfl
theorem w16 : (Cond.selects "BoundCode$Analyser" (⟨"BoundCode$Analyser", "circularOnes", "()I"⟩ : MethodName) (⟨"BoundCode$Analyser", "circularOnes", "()I"⟩ : MethodName)) ∈ gtbl := gu (in_t0 (List.mem_of_getElem? (i := 16) (by decide +kernel))) rfl
theorem w17 : (Cond.selects "BoundCode$Analyser" (⟨"BoundCode$Analyser", "countBounds", "()Z"⟩ : MethodName) (⟨"BoundCode$Analyser", "countBounds", "()Z"⟩ : MethodName)) ∈ gtbl := gu (in_t0 (List.mem_of_getElem? (i := 17) (by decide +kernel))) rfl
theorem w18 : (Cond.selects "BoundCode$Bounds" (⟨"BoundCode$Bounds", "stackOfCall", "(LBoundCode$Method;I)J"⟩ : MethodName) (⟨"BoundCode$Bounds", "stackOfCall", "(LBoundCode$Method;I)J"⟩ : MethodName)) ∈ gtbl := gu (in_t0 (List.mem_of_getElem? (i := 18) (by decide +kernel))) rfl
theorem w19 : (Cond.selects "BoundCode$Bounds" (⟨"BoundCode$Bounds", "lengthen", "(LBoundCode$Method;I)V"⟩ : MethodName) (⟨"BoundCode$Bounds", "lengthen", "(LBoundCode$Method;I)V"⟩ : MethodName)) ∈ gtbl := gu (in_t0 (List.mem_of_getElem? (i := 19) (by decide +kernel))) rfl
theorem w20 : (Cond.selects "BoundCode$Bounds" (⟨"BoundCode$Bounds", "goTo", "(IJI)V"⟩ : MethodName) (⟨"BoundCode$Bounds", "goTo", "(IJI)V"⟩ : MethodName)) ∈ gtbl := gu (in_t0 (List.mem_of_getElem? (i := 20) (by decide +kernel))) rfl
theorem w21 : (Cond.selects "BoundCode$Bounds" (⟨"BoundCode$Bounds", "goThrough", "(LBoundCode$Method;IJ)V"⟩ : MethodName) (⟨"BoundCode$Bounds", "goThrough", "(LBoundCode$Method;IJ)V"⟩ : MethodName)) ∈ gtbl := gu (in_t0 (List.mem_of_getElem? (i := 21) (by decide +kernel))) rfl
theorem w22 : (Cond.selects "BoundCode$Bounds" (⟨"BoundCode$Bounds", "timeOfCall", "(LBoundCode$Method;I)J"⟩ : MethodName) (⟨"BoundCode$Bounds", "timeOfCall", "(LBoundCode$Method;I)J"⟩ : MethodName)) ∈ gtbl := gu (in_t0 (List.mem_of_getElem? (i := 22) (by decide +kernel))) rfl
theorem w23 : (Cond.selects "BoundCode$Machine" (⟨"BoundCode$Machine", "reset", "()V"⟩ : MethodName) (⟨"BoundCode$Machine", "reset", "()V"⟩ : MethodName)) ∈ gtbl := gu (in_t0 (List.mem_of_getElem? (i := 23) (by decide +kernel))) rfl
theorem w24 : (Cond.selects "BoundCode$Machine" (⟨"BoundCode$Machine", "push", "(J)V"⟩ : MethodName) (⟨"BoundCode$Machine", "push", "(J)V"⟩ : MethodName)) ∈ gtbl := gu (in_t0 (List.mem_of_getElem? (i := 24) (by decide +kernel))) rfl
theorem w25 : (Cond.selects "BoundCode$Machine" (⟨"BoundCode$Machine", "write", "(IJ)V"⟩ : MethodName) (⟨"BoundCode$Machine", "write", "(IJ)V"⟩ : MethodName)) ∈ gtbl := gu (in_t0 (List.mem_of_getElem? (i := 25) (by decide +kernel))) rfl
theorem w26 : (Cond.selects "BoundCode$Machine" (⟨"BoundCode$Machine", "enter", "(LBoundCode$Method;I)V"⟩ : MethodName) (⟨"BoundCode$Machine", "enter", "(LBoundCode$Method;I)V"⟩ : MethodName)) ∈ gtbl := gu (in_t0 (List.mem_of_getElem? (i := 26) (by decide +kernel))) rfl
theorem w27 : (Cond.selects "BoundCode$Machine" (⟨"BoundCode$Machine", "countWords", "()V"⟩ : MethodName) (⟨"BoundCode$Machine", "countWords", "()V"⟩ : MethodName)) ∈ gtbl := gu (in_t0 (List.mem_of_getElem? (i := 27) (by decide +kernel))) rfl
theorem w28 : (Cond.selects "BoundCode$Machine" (⟨"BoundCode$Machine", "doNext", "()I"⟩ : MethodName) (⟨"BoundCode$Machine", "doNext", "()I"⟩ : MethodName)) ∈ gtbl := gu (in_t0 (List.mem_of_getElem? (i := 28) (by decide +kernel))) rfl
theorem w29 : (Cond.selects "BoundCode$Machine" (⟨"BoundCode$Machine", "refuse", "(LBoundCode$Method;)I"⟩ : MethodName) (⟨"BoundCode$Machine", "refuse", "(LBoundCode$Method;)I"⟩ : MethodName)) ∈ gtbl := gu (in_t0 (List.mem_of_getElem? (i := 29) (by decide +kernel))) rfl
theorem w30 : (Cond.selects "BoundCode$Machine" (⟨"BoundCode$Machine", "leave", "(LBoundCode$Method;)I"⟩ : MethodName) (⟨"BoundCode$Machine", "leave", "(LBoundCode$Method;)I"⟩ : MethodName)) ∈ gtbl := gu (in_t0 (List.mem_of_getElem? (i := 30) (by decide +kernel))) rfl
theorem w31 : (Cond.selects "BoundCode$Machine" (⟨"BoundCode$Machine", "pop", "()J"⟩ : MethodName) (⟨"BoundCode$Machine", "pop", "()J"⟩ : MethodName)) ∈ gtbl := gu (in_t0 (List.mem_of_getElem? (i := 31) (by decide +kernel))) rfl
theorem w32 : (Cond.selects "BoundCode$Machine" (⟨"BoundCode$Machine", "read", "(I)J"⟩ : MethodName) (⟨"BoundCode$Machine", "read", "(I)J"⟩ : MethodName)) ∈ gtbl := gu (in_t0 (List.mem_of_getElem? (i := 32) (by decide +kernel))) rfl
theorem w33 : (Cond.selects "BoundCode$Machine" (⟨"BoundCode$Machine", "flow", "(LBoundCode$Method;I)V"⟩ : MethodName) (⟨"BoundCode$Machine", "flow", "(LBoundCode$Method;I)V"⟩ : MethodName)) ∈ gtbl := gu (in_t0 (List.mem_of_getElem? (i := 33) (by decide +kernel))) rfl
theorem w34 : (Cond.selects "BoundCode$Machine" (⟨"BoundCode$Machine", "opensLoop", "(I)Z"⟩ : MethodName) (⟨"BoundCode$Machine", "opensLoop", "(I)Z"⟩ : MethodName)) ∈ gtbl := gu (in_t0 (List.mem_of_getElem? (i := 34) (by decide +kernel))) rfl
theorem w35 : (Cond.selects "BoundCode$Machine" (⟨"BoundCode$Machine", "goesRound", "()Z"⟩ : MethodName) (⟨"BoundCode$Machine", "goesRound", "()Z"⟩ : MethodName)) ∈ gtbl := gu (in_t0 (List.mem_of_getElem? (i := 35) (by decide +kernel))) rfl
theorem w36 : (Cond.selects "BoundCode$Machine" (⟨"BoundCode$Machine", "handle", "(IJ)V"⟩ : MethodName) (⟨"BoundCode$Machine", "handle", "(IJ)V"⟩ : MethodName)) ∈ gtbl := gu (in_t0 (List.mem_of_getElem? (i := 36) (by decide +kernel))) rfl
theorem w37 : (Cond.selects "BoundCode$Machine" (⟨"BoundCode$Machine", "swap", "()V"⟩ : MethodName) (⟨"BoundCode$Machine", "swap", "()V"⟩ : MethodName)) ∈ gtbl := gu (in_t0 (List.mem_of_getElem? (i := 37) (by decide +kernel))) rfl
theorem w38 : (Cond.selects "BoundCodeModel" (⟨"BoundCodeModel", "noMethod", "(I)Z"⟩ : MethodName) (⟨"BoundCodeModel", "noMethod", "(I)Z"⟩ : MethodName)) ∈ gtbl := gu (in_t0 (List.mem_of_getElem? (i := 38) (by decide +kernel))) rfl
theorem w39 : (Cond.selects "BoundCodeModel" (⟨"BoundCodeModel", "examine", "(I)V"⟩ : MethodName) (⟨"BoundCodeModel", "examine", "(I)V"⟩ : MethodName)) ∈ gtbl := gu (in_t0 (List.mem_of_getElem? (i := 39) (by decide +kernel))) rfl
theorem w40 : (Cond.selects "BoundCodeModel" (⟨"BoundCodeModel", "forms", "(I)V"⟩ : MethodName) (⟨"BoundCodeModel", "forms", "(I)V"⟩ : MethodName)) ∈ gtbl := gu (in_t0 (List.mem_of_getElem? (i := 40) (by decide +kernel))) rfl
theorem w41 : (Cond.selects "BoundCodeModel" (⟨"BoundCodeModel", "brackets", "(I)V"⟩ : MethodName) (⟨"BoundCodeModel", "brackets", "(I)V"⟩ : MethodName)) ∈ gtbl := gu (in_t0 (List.mem_of_getElem? (i := 41) (by decide +kernel))) rfl
theorem w42 : (Cond.selects "BoundCodeModel" (⟨"BoundCodeModel", "badArg", "(II)Z"⟩ : MethodName) (⟨"BoundCodeModel", "badArg", "(II)Z"⟩ : MethodName)) ∈ gtbl := gu (in_t0 (List.mem_of_getElem? (i := 42) (by decide +kernel))) rfl
theorem w43 : (Cond.selects "BoundCodeModel" (⟨"BoundCodeModel", "fault", "(III)V"⟩ : MethodName) (⟨"BoundCodeModel", "fault", "(III)V"⟩ : MethodName)) ∈ gtbl := gu (in_t0 (List.mem_of_getElem? (i := 43) (by decide +kernel))) rfl
theorem w44 : (Cond.selects "BoundCodeModel" (⟨"BoundCodeModel", "heights", "(I)V"⟩ : MethodName) (⟨"BoundCodeModel", "heights", "(I)V"⟩ : MethodName)) ∈ gtbl := gu (in_t0 (List.mem_of_getElem? (i := 44) (by decide +kernel))) rfl
theorem w45 : (Cond.selects "BoundCodeModel" (⟨"BoundCodeModel", "grows", "(II)I"⟩ : MethodName) (⟨"BoundCodeModel", "grows", "(II)I"⟩ : MethodName)) ∈ gtbl := gu (in_t0 (List.mem_of_getElem? (i := 45) (by decide +kernel))) rfl
theorem w46 : (Cond.selects "BoundCodeModel" (⟨"BoundCodeModel", "onward", "(II)I"⟩ : MethodName) (⟨"BoundCodeModel", "onward", "(II)I"⟩ : MethodName)) ∈ gtbl := gu (in_t0 (List.mem_of_getElem? (i := 46) (by decide +kernel))) rfl
theorem w47 : (Cond.selects "BoundCodeModel" (⟨"BoundCodeModel", "isOther", "(III)Z"⟩ : MethodName) (⟨"BoundCodeModel", "isOther", "(III)Z"⟩ : MethodName)) ∈ gtbl := gu (in_t0 (List.mem_of_getElem? (i := 47) (by decide +kernel))) rfl
theorem w48 : (Cond.selects "BoundCodeModel" (⟨"BoundCodeModel", "takes", "(II)I"⟩ : MethodName) (⟨"BoundCodeModel", "takes", "(II)I"⟩ : MethodName)) ∈ gtbl := gu (in_t0 (List.mem_of_getElem? (i := 48) (by decide +kernel))) rfl
theorem w49 : (Cond.selects "BoundCodeModel" (⟨"BoundCodeModel", "tell", "(III)V"⟩ : MethodName) (⟨"BoundCodeModel", "tell", "(III)V"⟩ : MethodName)) ∈ gtbl := gu (in_t0 (List.mem_of_getElem? (i := 49) (by decide +kernel))) rfl
theorem w50 : (Cond.selects "BoundCodeModel" (⟨"BoundCodeModel", "analyseFrom", "(I)I"⟩ : MethodName) (⟨"BoundCodeModel", "analyseFrom", "(I)I"⟩ : MethodName)) ∈ gtbl := gu (in_t0 (List.mem_of_getElem? (i := 50) (by decide +kernel))) rfl
theorem w51 : (Cond.selects "BoundCodeModel" (⟨"BoundCodeModel", "examineAll", "()V"⟩ : MethodName) (⟨"BoundCodeModel", "examineAll", "()V"⟩ : MethodName)) ∈ gtbl := gu (in_t0 (List.mem_of_getElem? (i := 51) (by decide +kernel))) rfl
theorem w52 : (Cond.selects "BoundCodeModel" (⟨"BoundCodeModel", "calls", "(II)Z"⟩ : MethodName) (⟨"BoundCodeModel", "calls", "(II)Z"⟩ : MethodName)) ∈ gtbl := gu (in_t0 (List.mem_of_getElem? (i := 52) (by decide +kernel))) rfl
theorem w53 : (Cond.selects "BoundCodeModel" (⟨"BoundCodeModel", "isRound", "()Z"⟩ : MethodName) (⟨"BoundCodeModel", "isRound", "()Z"⟩ : MethodName)) ∈ gtbl := gu (in_t0 (List.mem_of_getElem? (i := 53) (by decide +kernel))) rfl
theorem w54 : (Cond.selects "BoundCodeModel" (⟨"BoundCodeModel", "boundAll", "()I"⟩ : MethodName) (⟨"BoundCodeModel", "boundAll", "()I"⟩ : MethodName)) ∈ gtbl := gu (in_t0 (List.mem_of_getElem? (i := 54) (by decide +kernel))) rfl
theorem w55 : (Cond.selects "BoundCodeModel" (⟨"BoundCodeModel", "boundOne", "(I)V"⟩ : MethodName) (⟨"BoundCodeModel", "boundOne", "(I)V"⟩ : MethodName)) ∈ gtbl := gu (in_t0 (List.mem_of_getElem? (i := 55) (by decide +kernel))) rfl
theorem w56 : (Cond.selects "BoundCodeModel" (⟨"BoundCodeModel", "region", "(II)J"⟩ : MethodName) (⟨"BoundCodeModel", "region", "(II)J"⟩ : MethodName)) ∈ gtbl := gu (in_t0 (List.mem_of_getElem? (i := 56) (by decide +kernel))) rfl
theorem w57 : (Cond.selects "BoundCodeModel" (⟨"BoundCodeModel", "reach", "(IJ)V"⟩ : MethodName) (⟨"BoundCodeModel", "reach", "(IJ)V"⟩ : MethodName)) ∈ gtbl := gu (in_t0 (List.mem_of_getElem? (i := 57) (by decide +kernel))) rfl
theorem w58 : (Cond.selects "BoundCodeModel" (⟨"BoundCodeModel", "enter", "(I)V"⟩ : MethodName) (⟨"BoundCodeModel", "enter", "(I)V"⟩ : MethodName)) ∈ gtbl := gu (in_t0 (List.mem_of_getElem? (i := 58) (by decide +kernel))) rfl
theorem w59 : (Cond.selects "BoundCodeModel" (⟨"BoundCodeModel", "doOne", "(II)V"⟩ : MethodName) (⟨"BoundCodeModel", "doOne", "(II)V"⟩ : MethodName)) ∈ gtbl := gu (in_t0 (List.mem_of_getElem? (i := 59) (by decide +kernel))) rfl
theorem w60 : (Cond.selects "BoundCodeModel" (⟨"BoundCodeModel", "push", "(J)V"⟩ : MethodName) (⟨"BoundCodeModel", "push", "(J)V"⟩ : MethodName)) ∈ gtbl := gu (in_t0 (List.mem_of_getElem? (i := 60) (by decide +kernel))) rfl
theorem w61 : (Cond.selects "BoundCodeModel" (⟨"BoundCodeModel", "take", "()J"⟩ : MethodName) (⟨"BoundCodeModel", "take", "()J"⟩ : MethodName)) ∈ gtbl := gu (in_t0 (List.mem_of_getElem? (i := 61) (by decide +kernel))) rfl
theorem w62 : (Cond.selects "BoundCodeModel" (⟨"BoundCodeModel", "call", "(I)V"⟩ : MethodName) (⟨"BoundCodeModel", "call", "(I)V"⟩ : MethodName)) ∈ gtbl := gu (in_t0 (List.mem_of_getElem? (i := 62) (by decide +kernel))) rfl
theorem w63 : (Cond.selects "BoundCodeModel" (⟨"BoundCodeModel", "back", "(I)V"⟩ : MethodName) (⟨"BoundCodeModel", "back", "(I)V"⟩ : MethodName)) ∈ gtbl := gu (in_t0 (List.mem_of_getElem? (i := 63) (by decide +kernel))) rfl
theorem w64 : (Cond.initialized "BoundCodeLaw") ∈ gtbl := gu (in_t1 (List.mem_of_getElem? (i := 0) (by decide +kernel))) rfl
theorem w65 : (Cond.initialized "BoundCode") ∈ gtbl := gu (in_t1 (List.mem_of_getElem? (i := 1) (by decide +kernel))) rfl
theorem w66 : (Cond.initialized "BoundCode$Program") ∈ gtbl := gu (in_t1 (List.mem_of_getElem? (i := 2) (by decide +kernel))) rfl
theorem w67 : (Cond.initialized "java/util/Arrays") ∈ gtbl := gu (in_t1 (List.mem_of_getElem? (i := 3) (by decide +kernel))) rfl
theorem w68 : (Cond.initialized "BoundCode$Checker") ∈ gtbl := gu (in_t1 (List.mem_of_getElem? (i := 4) (by decide +kernel))) rfl
theorem w69 : (Cond.initialized "BoundCode$Analyser") ∈ gtbl := gu (in_t1 (List.mem_of_getElem? (i := 5) (by decide +kernel))) rfl
theorem w70 : (Cond.initialized "BoundCode$Bounds") ∈ gtbl := gu (in_t1 (List.mem_of_getElem? (i := 6) (by decide +kernel))) rfl
theorem w71 : (Cond.initialized "BoundCode$Machine") ∈ gtbl := gu (in_t1 (List.mem_of_getElem? (i := 7) (by decide +kernel))) rfl
theorem w72 : (Cond.initialized "BoundCodeModel") ∈ gtbl := gu (in_t1 (List.mem_of_getElem? (i := 8) (by decide +kernel))) rfl
theorem w73 : (Cond.initialized "java/lang/Throwable") ∈ gtbl := gu (in_t1 (List.mem_of_getElem? (i := 9) (by decide +kernel))) rfl
theorem w74 : (Cond.initialized "java/lang/Exception") ∈ gtbl := gu (in_t1 (List.mem_of_getElem? (i := 10) (by decide +kernel))) rfl
theorem w75 : (Cond.initialized "java/lang/RuntimeException") ∈ gtbl := gu (in_t1 (List.mem_of_getElem? (i := 11) (by decide +kernel))) rfl
theorem w76 : (Cond.initialized "java/lang/IllegalArgumentException") ∈ gtbl := gu (in_t1 (List.mem_of_getElem? (i := 12) (by decide +kernel))) rfl
theorem w77 : (Cond.initialized "BoundCode$Method") ∈ gtbl := gu (in_t1 (List.mem_of_getElem? (i := 13) (by decide +kernel))) rfl
theorem w78 : (Cond.initialized "java/lang/IndexOutOfBoundsException") ∈ gtbl := gu (in_t1 (List.mem_of_getElem? (i := 14) (by decide +kernel))) rfl
theorem w79 : (Cond.initialized "java/lang/Math") ∈ gtbl := gu (in_t1 (List.mem_of_getElem? (i := 15) (by decide +kernel))) rfl
theorem w80 : (Cond.initialized "java/lang/IllegalStateException") ∈ gtbl := gu (in_t1 (List.mem_of_getElem? (i := 16) (by decide +kernel))) rfl
theorem w81 : (Cond.classLink "BoundCodeLaw" 8 "BoundCode") ∈ gtbl := gu (in_t1 (List.mem_of_getElem? (i := 17) (by decide +kernel))) rfl
theorem w82 : (Cond.instantiable "BoundCode" 7) ∈ gtbl := gu (in_t1 (List.mem_of_getElem? (i := 18) (by decide +kernel))) rfl
theorem w83 : (Cond.methodLink "BoundCodeLaw" 62 (⟨"BoundCode", "<init>", "()V"⟩ : MethodName)) ∈ gtbl := gu (in_t1 (List.mem_of_getElem? (i := 19) (by decide +kernel))) rfl
theorem w84 : (Cond.instanceMethod (⟨"BoundCode", "<init>", "()V"⟩ : MethodName)) ∈ gtbl := gu (in_t1 (List.mem_of_getElem? (i := 20) (by decide +kernel))) rfl
theorem w85 : (Cond.code (⟨"BoundCode", "<init>", "()V"⟩ : MethodName) prog_1_method_1_code 1 (none : Option FieldType)) ∈ gtbl := gu (in_t1 (List.mem_of_getElem? (i := 21) (by decide +kernel))) rfl
theorem w86 : (Cond.methodLink "BoundCode" 1 (⟨"java/lang/Object", "<init>", "()V"⟩ : MethodName)) ∈ gtbl := gu (in_t1 (List.mem_of_getElem? (i := 22) (by decide +kernel))) rfl
theorem w87 : (Cond.instanceMethod (⟨"java/lang/Object", "<init>", "()V"⟩ : MethodName)) ∈ gtbl := gu (in_t1 (List.mem_of_getElem? (i := 23) (by decide +kernel))) rfl
theorem w88 : (Cond.code (⟨"java/lang/Object", "<init>", "()V"⟩ : MethodName) object_method_1_code 1 (none : Option FieldType)) ∈ gtbl := gu (in_t1 (List.mem_of_getElem? (i := 24) (by decide +kernel))) rfl
theorem w89 : (Cond.classLink "BoundCode" 7 "BoundCode$Program") ∈ gtbl := gu (in_t1 (List.mem_of_getElem? (i := 25) (by decide +kernel))) rfl
theorem w90 : (Cond.instantiable "BoundCode$Program" 3) ∈ gtbl := gu (in_t1 (List.mem_of_getElem? (i := 26) (by decide +kernel))) rfl
theorem w91 : (Cond.methodLink "BoundCode" 9 (⟨"BoundCode$Program", "<init>", "()V"⟩ : MethodName)) ∈ gtbl := gu (in_t1 (List.mem_of_getElem? (i := 27) (by decide +kernel))) rfl
theorem w92 : (Cond.instanceMethod (⟨"BoundCode$Program", "<init>", "()V"⟩ : MethodName)) ∈ gtbl := gu (in_t1 (List.mem_of_getElem? (i := 28) (by decide +kernel))) rfl
theorem w93 : (Cond.code (⟨"BoundCode$Program", "<init>", "()V"⟩ : MethodName) prog_7_method_1_code 1 (none : Option FieldType)) ∈ gtbl := gu (in_t1 (List.mem_of_getElem? (i := 29) (by decide +kernel))) rfl
theorem w94 : (Cond.methodLink "BoundCode$Program" 3 (⟨"java/lang/Object", "<init>", "()V"⟩ : MethodName)) ∈ gtbl := gu (in_t1 (List.mem_of_getElem? (i := 30) (by decide +kernel))) rfl
theorem w95 : (Cond.classLink "BoundCode$Program" 9 "BoundCode$Method") ∈ gtbl := gu (in_t1 (List.mem_of_getElem? (i := 31) (by decide +kernel))) rfl
theorem w97 : (Cond.methodLink "BoundCode$Program" 21 (⟨"java/util/Arrays", "fill", "([II)V"⟩ : MethodName)) ∈ gtbl := gu (in_t1 (List.mem_of_getElem? (i := 33) (by decide +kernel))) rfl
theorem w98 : (Cond.static (⟨"java/util/Arrays", "fill", "([II)V"⟩ : MethodName)) ∈ gtbl := gu (in_t1 (List.mem_of_getElem? (i := 34) (by decide +kernel))) rfl
theorem w99 : (Cond.code (⟨"java/util/Arrays", "fill", "([II)V"⟩ : MethodName) prog_18_method_103_code 4 (none : Option FieldType)) ∈ gtbl := gu (in_t1 (List.mem_of_getElem? (i := 35) (by decide +kernel))) rfl
theorem w100 : (Cond.fieldLink "BoundCode$Program" 11 "BoundCode$Program" "methods" "[LBoundCode$Method;") ∈ gtbl := gu (in_t1 (List.mem_of_getElem? (i := 36) (by decide +kernel))) rfl
theorem w101 : (Cond.fieldLink "BoundCode$Program" 17 "BoundCode$Program" "costs" "[I") ∈ gtbl := gu (in_t1 (List.mem_of_getElem? (i := 37) (by decide +kernel))) rfl
theorem w102 : (Cond.fieldLink "BoundCode$Program" 27 "BoundCode$Program" "count" "I") ∈ gtbl := gu (in_t1 (List.mem_of_getElem? (i := 38) (by decide +kernel))) rfl
theorem w103 : (Cond.fieldLinkNest "BoundCode$Checker" 25 "BoundCode$Program" "count" "I" "BoundCode") ∈ ntbl := nu (in_t1 (List.mem_of_getElem? (i := 39) (by decide +kernel))) rfl
theorem w104 : (Cond.fieldLinkNest "BoundCode$Analyser" 75 "BoundCode$Program" "count" "I" "BoundCode") ∈ ntbl := nu (in_t1 (List.mem_of_getElem? (i := 40) (by decide +kernel))) rfl
theorem w112 : (Cond.arrayClass FieldType.int) ∈ gtbl := gu (in_t1 (List.mem_of_getElem? (i := 48) (by decide +kernel))) rfl
theorem w113 : (Cond.classLink "BoundCode" 16 "BoundCode$Checker") ∈ gtbl := gu (in_t1 (List.mem_of_getElem? (i := 49) (by decide +kernel))) rfl
theorem w114 : (Cond.instantiable "BoundCode$Checker" 4) ∈ gtbl := gu (in_t1 (List.mem_of_getElem? (i := 50) (by decide +kernel))) rfl
theorem w115 : (Cond.methodLink "BoundCode" 18 (⟨"BoundCode$Checker", "<init>", "(LBoundCode$Program;)V"⟩ : MethodName)) ∈ gtbl := gu (in_t1 (List.mem_of_getElem? (i := 51) (by decide +kernel))) rfl
theorem w116 : (Cond.instanceMethod (⟨"BoundCode$Checker", "<init>", "(LBoundCode$Program;)V"⟩ : MethodName)) ∈ gtbl := gu (in_t1 (List.mem_of_getElem? (i := 52) (by decide +kernel))) rfl
theorem w117 : (Cond.code (⟨"BoundCode$Checker", "<init>", "(LBoundCode$Program;)V"⟩ : MethodName) prog_4_method_1_code 2 (none : Option FieldType)) ∈ gtbl := gu (in_t1 (List.mem_of_getElem? (i := 53) (by decide +kernel))) rfl
theorem w118 : (Cond.methodLink "BoundCode$Checker" 3 (⟨"java/lang/Object", "<init>", "()V"⟩ : MethodName)) ∈ gtbl := gu (in_t1 (List.mem_of_getElem? (i := 54) (by decide +kernel))) rfl
theorem w119 : (Cond.fieldLink "BoundCode$Checker" 9 "BoundCode$Checker" "program" "LBoundCode$Program;") ∈ gtbl := gu (in_t1 (List.mem_of_getElem? (i := 55) (by decide +kernel))) rfl
theorem w120 : (Cond.fieldLink "BoundCode$Checker" 15 "BoundCode$Checker" "inside" "[I") ∈ gtbl := gu (in_t1 (List.mem_of_getElem? (i := 56) (by decide +kernel))) rfl
theorem w121 : (Cond.fieldLink "BoundCode$Checker" 19 "BoundCode$Checker" "depths" "[I") ∈ gtbl := gu (in_t1 (List.mem_of_getElem? (i := 57) (by decide +kernel))) rfl
theorem w122 : (Cond.fieldLink "BoundCode$Checker" 22 "BoundCode$Checker" "open" "[I") ∈ gtbl := gu (in_t1 (List.mem_of_getElem? (i := 58) (by decide +kernel))) rfl
theorem w132 : (Cond.classLink "BoundCode" 25 "BoundCode$Analyser") ∈ gtbl := gu (in_t1 (List.mem_of_getElem? (i := 68) (by decide +kernel))) rfl
theorem w133 : (Cond.instantiable "BoundCode$Analyser" 7) ∈ gtbl := gu (in_t1 (List.mem_of_getElem? (i := 69) (by decide +kernel))) rfl
theorem w134 : (Cond.methodLink "BoundCode" 27 (⟨"BoundCode$Analyser", "<init>", "(LBoundCode$Program;)V"⟩ : MethodName)) ∈ gtbl := gu (in_t1 (List.mem_of_getElem? (i := 70) (by decide +kernel))) rfl
theorem w135 : (Cond.instanceMethod (⟨"BoundCode$Analyser", "<init>", "(LBoundCode$Program;)V"⟩ : MethodName)) ∈ gtbl := gu (in_t1 (List.mem_of_getElem? (i := 71) (by decide +kernel))) rfl
theorem w136 : (Cond.code (⟨"BoundCode$Analyser", "<init>", "(LBoundCode$Program;)V"⟩ : MethodName) prog_2_method_1_code 2 (none : Option FieldType)) ∈ gtbl := gu (in_t1 (List.mem_of_getElem? (i := 72) (by decide +kernel))) rfl
theorem w137 : (Cond.methodLink "BoundCode$Analyser" 3 (⟨"java/lang/Object", "<init>", "()V"⟩ : MethodName)) ∈ gtbl := gu (in_t1 (List.mem_of_getElem? (i := 73) (by decide +kernel))) rfl
theorem w138 : (Cond.classLink "BoundCode$Analyser" 15 "BoundCode$Bounds") ∈ gtbl := gu (in_t1 (List.mem_of_getElem? (i := 74) (by decide +kernel))) rfl
theorem w139 : (Cond.instantiable "BoundCode$Bounds" 5) ∈ gtbl := gu (in_t1 (List.mem_of_getElem? (i := 75) (by decide +kernel))) rfl
theorem w140 : (Cond.methodLink "BoundCode$Analyser" 17 (⟨"BoundCode$Bounds", "<init>", "(LBoundCode$Program;)V"⟩ : MethodName)) ∈ gtbl := gu (in_t1 (List.mem_of_getElem? (i := 76) (by decide +kernel))) rfl
theorem w141 : (Cond.instanceMethod (⟨"BoundCode$Bounds", "<init>", "(LBoundCode$Program;)V"⟩ : MethodName)) ∈ gtbl := gu (in_t1 (List.mem_of_getElem? (i := 77) (by decide +kernel))) rfl
theorem w142 : (Cond.code (⟨"BoundCode$Bounds", "<init>", "(LBoundCode$Program;)V"⟩ : MethodName) prog_3_method_1_code 2 (none : Option FieldType)) ∈ gtbl := gu (in_t1 (List.mem_of_getElem? (i := 78) (by decide +kernel))) rfl
theorem w143 : (Cond.methodLink "BoundCode$Bounds" 3 (⟨"java/lang/Object", "<init>", "()V"⟩ : MethodName)) ∈ gtbl := gu (in_t1 (List.mem_of_getElem? (i := 79) (by decide +kernel))) rfl
theorem w144 : (Cond.fieldLink "BoundCode$Bounds" 9 "BoundCode$Bounds" "program" "LBoundCode$Program;") ∈ gtbl := gu (in_t1 (List.mem_of_getElem? (i := 80) (by decide +kernel))) rfl
theorem w145 : (Cond.fieldLink "BoundCode$Bounds" 15 "BoundCode$Bounds" "stacks" "[J") ∈ gtbl := gu (in_t1 (List.mem_of_getElem? (i := 81) (by decide +kernel))) rfl
theorem w146 : (Cond.fieldLinkNest "BoundCode$Analyser" 66 "BoundCode$Bounds" "stacks" "[J" "BoundCode") ∈ ntbl := nu (in_t1 (List.mem_of_getElem? (i := 82) (by decide +kernel))) rfl
theorem w147 : (Cond.fieldLink "BoundCode$Bounds" 19 "BoundCode$Bounds" "times" "[J") ∈ gtbl := gu (in_t1 (List.mem_of_getElem? (i := 83) (by decide +kernel))) rfl
theorem w148 : (Cond.fieldLinkNest "BoundCode$Analyser" 70 "BoundCode$Bounds" "times" "[J" "BoundCode") ∈ ntbl := nu (in_t1 (List.mem_of_getElem? (i := 84) (by decide +kernel))) rfl
theorem w149 : (Cond.fieldLink "BoundCode$Bounds" 22 "BoundCode$Bounds" "toEnd" "[J") ∈ gtbl := gu (in_t1 (List.mem_of_getElem? (i := 85) (by decide +kernel))) rfl
theorem w150 : (Cond.fieldLink "BoundCode$Bounds" 25 "BoundCode$Bounds" "toReturn" "[J") ∈ gtbl := gu (in_t1 (List.mem_of_getElem? (i := 86) (by decide +kernel))) rfl
theorem w162 : (Cond.arrayClass FieldType.long) ∈ gtbl := gu (in_t1 (List.mem_of_getElem? (i := 98) (by decide +kernel))) rfl
theorem w163 : (Cond.fieldLink "BoundCode$Analyser" 9 "BoundCode$Analyser" "program" "LBoundCode$Program;") ∈ gtbl := gu (in_t1 (List.mem_of_getElem? (i := 99) (by decide +kernel))) rfl
theorem w164 : (Cond.fieldLink "BoundCode$Analyser" 20 "BoundCode$Analyser" "bounds" "LBoundCode$Bounds;") ∈ gtbl := gu (in_t1 (List.mem_of_getElem? (i := 100) (by decide +kernel))) rfl
theorem w165 : (Cond.fieldLink "BoundCode$Analyser" 24 "BoundCode$Analyser" "comesTo" "[I") ∈ gtbl := gu (in_t1 (List.mem_of_getElem? (i := 101) (by decide +kernel))) rfl
theorem w166 : (Cond.fieldLink "BoundCode$Analyser" 28 "BoundCode$Analyser" "reached" "I") ∈ gtbl := gu (in_t1 (List.mem_of_getElem? (i := 102) (by decide +kernel))) rfl
theorem w167 : (Cond.fieldLink "BoundCode$Analyser" 32 "BoundCode$Analyser" "faulty" "I") ∈ gtbl := gu (in_t1 (List.mem_of_getElem? (i := 103) (by decide +kernel))) rfl
theorem w168 : (Cond.fieldLink "BoundCode$Analyser" 35 "BoundCode$Analyser" "circular" "I") ∈ gtbl := gu (in_t1 (List.mem_of_getElem? (i := 104) (by decide +kernel))) rfl
theorem w169 : (Cond.fieldLink "BoundCode$Analyser" 38 "BoundCode$Analyser" "isBounded" "Z") ∈ gtbl := gu (in_t1 (List.mem_of_getElem? (i := 105) (by decide +kernel))) rfl
theorem w185 : (Cond.classLink "BoundCode" 32 "BoundCode$Machine") ∈ gtbl := gu (in_t1 (List.mem_of_getElem? (i := 121) (by decide +kernel))) rfl
theorem w186 : (Cond.instantiable "BoundCode$Machine" 15) ∈ gtbl := gu (in_t1 (List.mem_of_getElem? (i := 122) (by decide +kernel))) rfl
theorem w187 : (Cond.methodLink "BoundCode" 34 (⟨"BoundCode$Machine", "<init>", "(LBoundCode$Program;)V"⟩ : MethodName)) ∈ gtbl := gu (in_t1 (List.mem_of_getElem? (i := 123) (by decide +kernel))) rfl
theorem w188 : (Cond.instanceMethod (⟨"BoundCode$Machine", "<init>", "(LBoundCode$Program;)V"⟩ : MethodName)) ∈ gtbl := gu (in_t1 (List.mem_of_getElem? (i := 124) (by decide +kernel))) rfl
theorem w189 : (Cond.code (⟨"BoundCode$Machine", "<init>", "(LBoundCode$Program;)V"⟩ : MethodName) prog_5_method_1_code 2 (none : Option FieldType)) ∈ gtbl := gu (in_t1 (List.mem_of_getElem? (i := 125) (by decide +kernel))) rfl
theorem w190 : (Cond.methodLink "BoundCode$Machine" 3 (⟨"java/lang/Object", "<init>", "()V"⟩ : MethodName)) ∈ gtbl := gu (in_t1 (List.mem_of_getElem? (i := 126) (by decide +kernel))) rfl
theorem w191 : (Cond.classLink "BoundCode$Machine" 23 "BoundCode$Method") ∈ gtbl := gu (in_t1 (List.mem_of_getElem? (i := 127) (by decide +kernel))) rfl
theorem w192 : (Cond.fieldLink "BoundCode$Machine" 9 "BoundCode$Machine" "program" "LBoundCode$Program;") ∈ gtbl := gu (in_t1 (List.mem_of_getElem? (i := 128) (by decide +kernel))) rfl
theorem w193 : (Cond.fieldLink "BoundCode$Machine" 15 "BoundCode$Machine" "words" "[J") ∈ gtbl := gu (in_t1 (List.mem_of_getElem? (i := 129) (by decide +kernel))) rfl
theorem w194 : (Cond.fieldLink "BoundCode$Machine" 19 "BoundCode$Machine" "rounds" "[I") ∈ gtbl := gu (in_t1 (List.mem_of_getElem? (i := 130) (by decide +kernel))) rfl
theorem w195 : (Cond.fieldLink "BoundCode$Machine" 25 "BoundCode$Machine" "doing" "[LBoundCode$Method;") ∈ gtbl := gu (in_t1 (List.mem_of_getElem? (i := 131) (by decide +kernel))) rfl
theorem w196 : (Cond.fieldLink "BoundCode$Machine" 29 "BoundCode$Machine" "nexts" "[I") ∈ gtbl := gu (in_t1 (List.mem_of_getElem? (i := 132) (by decide +kernel))) rfl
theorem w197 : (Cond.fieldLink "BoundCode$Machine" 32 "BoundCode$Machine" "bases" "[I") ∈ gtbl := gu (in_t1 (List.mem_of_getElem? (i := 133) (by decide +kernel))) rfl
theorem w198 : (Cond.fieldLink "BoundCode$Machine" 35 "BoundCode$Machine" "loopBases" "[I") ∈ gtbl := gu (in_t1 (List.mem_of_getElem? (i := 134) (by decide +kernel))) rfl
theorem w199 : (Cond.fieldLink "BoundCode$Machine" 83 "BoundCode$Machine" "depth" "I") ∈ gtbl := gu (in_t1 (List.mem_of_getElem? (i := 135) (by decide +kernel))) rfl
theorem w200 : (Cond.fieldLink "BoundCode$Machine" 77 "BoundCode$Machine" "top" "I") ∈ gtbl := gu (in_t1 (List.mem_of_getElem? (i := 136) (by decide +kernel))) rfl
theorem w201 : (Cond.fieldLink "BoundCode$Machine" 80 "BoundCode$Machine" "loops" "I") ∈ gtbl := gu (in_t1 (List.mem_of_getElem? (i := 137) (by decide +kernel))) rfl
theorem w202 : (Cond.fieldLink "BoundCode$Machine" 38 "BoundCode$Machine" "result" "J") ∈ gtbl := gu (in_t1 (List.mem_of_getElem? (i := 138) (by decide +kernel))) rfl
theorem w203 : (Cond.fieldLink "BoundCode$Machine" 42 "BoundCode$Machine" "cycles" "J") ∈ gtbl := gu (in_t1 (List.mem_of_getElem? (i := 139) (by decide +kernel))) rfl
theorem w204 : (Cond.fieldLink "BoundCode$Machine" 45 "BoundCode$Machine" "mostWords" "I") ∈ gtbl := gu (in_t1 (List.mem_of_getElem? (i := 140) (by decide +kernel))) rfl
theorem w205 : (Cond.fieldLink "BoundCode$Machine" 49 "BoundCode$Machine" "done" "I") ∈ gtbl := gu (in_t1 (List.mem_of_getElem? (i := 141) (by decide +kernel))) rfl
theorem w206 : (Cond.fieldLink "BoundCode$Machine" 52 "BoundCode$Machine" "calls" "I") ∈ gtbl := gu (in_t1 (List.mem_of_getElem? (i := 142) (by decide +kernel))) rfl
theorem w238 : (Cond.fieldLink "BoundCode" 10 "BoundCode" "program" "LBoundCode$Program;") ∈ gtbl := gu (in_t1 (List.mem_of_getElem? (i := 174) (by decide +kernel))) rfl
theorem w239 : (Cond.fieldLink "BoundCode" 21 "BoundCode" "checker" "LBoundCode$Checker;") ∈ gtbl := gu (in_t1 (List.mem_of_getElem? (i := 175) (by decide +kernel))) rfl
theorem w240 : (Cond.fieldLink "BoundCode" 28 "BoundCode" "analyser" "LBoundCode$Analyser;") ∈ gtbl := gu (in_t1 (List.mem_of_getElem? (i := 176) (by decide +kernel))) rfl
theorem w241 : (Cond.fieldLink "BoundCode" 35 "BoundCode" "machine" "LBoundCode$Machine;") ∈ gtbl := gu (in_t1 (List.mem_of_getElem? (i := 177) (by decide +kernel))) rfl
theorem w242 : (Cond.fieldLink "BoundCode" 39 "BoundCode" "given" "[J") ∈ gtbl := gu (in_t1 (List.mem_of_getElem? (i := 178) (by decide +kernel))) rfl
theorem w243 : (Cond.fieldLink "BoundCode" 43 "BoundCode" "amountGiven" "I") ∈ gtbl := gu (in_t1 (List.mem_of_getElem? (i := 179) (by decide +kernel))) rfl
theorem w244 : (Cond.fieldLink "BoundCode" 47 "BoundCode" "faultPlace" "I") ∈ gtbl := gu (in_t1 (List.mem_of_getElem? (i := 180) (by decide +kernel))) rfl
theorem w260 : (Cond.methodLink "BoundCodeLaw" 94 (⟨"BoundCode", "place", "()I"⟩ : MethodName)) ∈ gtbl := gu (in_t1 (List.mem_of_getElem? (i := 196) (by decide +kernel))) rfl
theorem w261 : (Cond.instanceMethod (⟨"BoundCode", "place", "()I"⟩ : MethodName)) ∈ gtbl := gu (in_t1 (List.mem_of_getElem? (i := 197) (by decide +kernel))) rfl
theorem w262 : (Cond.selects "BoundCode" (⟨"BoundCode", "place", "()I"⟩ : MethodName) (⟨"BoundCode", "place", "()I"⟩ : MethodName)) ∈ gtbl := gu (in_t1 (List.mem_of_getElem? (i := 198) (by decide +kernel))) rfl
theorem w263 : (Cond.code (⟨"BoundCode", "place", "()I"⟩ : MethodName) prog_1_method_7_code 1 (some FieldType.int)) ∈ gtbl := gu (in_t1 (List.mem_of_getElem? (i := 199) (by decide +kernel))) rfl
theorem w264 : (Cond.methodLink "BoundCodeLaw" 66 (⟨"BoundCodeLaw", "method", "(LBoundCode;III[J)I"⟩ : MethodName)) ∈ gtbl := gu (in_t1 (List.mem_of_getElem? (i := 200) (by decide +kernel))) rfl
theorem w265 : (Cond.static (⟨"BoundCodeLaw", "method", "(LBoundCode;III[J)I"⟩ : MethodName)) ∈ gtbl := gu (in_t1 (List.mem_of_getElem? (i := 201) (by decide +kernel))) rfl
theorem w266 : (Cond.codeWith (⟨"BoundCodeLaw", "method", "(LBoundCode;III[J)I"⟩ : MethodName) method_3_code 6 (some FieldType.int) [(0, 12, 15, 13)]) ∈ gtbl := gu (in_t1 (List.mem_of_getElem? (i := 202) (by decide +kernel))) rfl
theorem w267 : (Cond.classLink "BoundCodeLaw" 13 "java/lang/IllegalArgumentException") ∈ gtbl := gu (in_t1 (List.mem_of_getElem? (i := 203) (by decide +kernel))) rfl
theorem w268 : (Cond.methodLink "BoundCodeLaw" 7 (⟨"BoundCode", "method", "(III)I"⟩ : MethodName)) ∈ gtbl := gu (in_t1 (List.mem_of_getElem? (i := 204) (by decide +kernel))) rfl
theorem w269 : (Cond.instanceMethod (⟨"BoundCode", "method", "(III)I"⟩ : MethodName)) ∈ gtbl := gu (in_t1 (List.mem_of_getElem? (i := 205) (by decide +kernel))) rfl
theorem w270 : (Cond.selects "BoundCode" (⟨"BoundCode", "method", "(III)I"⟩ : MethodName) (⟨"BoundCode", "method", "(III)I"⟩ : MethodName)) ∈ gtbl := gu (in_t1 (List.mem_of_getElem? (i := 206) (by decide +kernel))) rfl
theorem w271 : (Cond.code (⟨"BoundCode", "method", "(III)I"⟩ : MethodName) prog_1_method_2_code 4 (some FieldType.int)) ∈ gtbl := gu (in_t1 (List.mem_of_getElem? (i := 207) (by decide +kernel))) rfl
theorem w272 : (Cond.classLink "BoundCode" 50 "java/lang/IllegalArgumentException") ∈ gtbl := gu (in_t1 (List.mem_of_getElem? (i := 208) (by decide +kernel))) rfl
theorem w273 : (Cond.instantiable "java/lang/IllegalArgumentException" 6) ∈ gtbl := gu (in_t1 (List.mem_of_getElem? (i := 209) (by decide +kernel))) rfl
theorem w274 : (Cond.castable "java/lang/IllegalArgumentException" "java/lang/IllegalArgumentException") ∈ ntbl := nu (in_t1 (List.mem_of_getElem? (i := 210) (by decide +kernel))) rfl
theorem w281 : (Cond.selects "java/lang/IllegalArgumentException" (⟨"java/lang/Throwable", "fillInStackTrace", "(I)Ljava/lang/Throwable;"⟩ : MethodName) (⟨"java/lang/Throwable", "fillInStackTrace", "(I)Ljava/lang/Throwable;"⟩ : MethodName)) ∈ gtbl := gu (in_t1 (List.mem_of_getElem? (i := 217) (by decide +kernel))) rfl
theorem w282 : (Cond.selects "java/lang/IllegalArgumentException" (⟨"java/lang/Throwable", "fillInStackTrace", "()Ljava/lang/Throwable;"⟩ : MethodName) (⟨"java/lang/Throwable", "fillInStackTrace", "()Ljava/lang/Throwable;"⟩ : MethodName)) ∈ gtbl := gu (in_t1 (List.mem_of_getElem? (i := 218) (by decide +kernel))) rfl
theorem w293 : (Cond.fieldLink "java/lang/Throwable" 198 "java/lang/Throwable" "backtrace" "Ljava/lang/Object;") ∈ gtbl := gu (in_t1 (List.mem_of_getElem? (i := 229) (by decide +kernel))) rfl
theorem w295 : (Cond.instanceMethod (⟨"java/lang/Throwable", "<init>", "()V"⟩ : MethodName)) ∈ gtbl := gu (in_t1 (List.mem_of_getElem? (i := 231) (by decide +kernel))) rfl
theorem w296 : (Cond.code (⟨"java/lang/Throwable", "<init>", "()V"⟩ : MethodName) prog_17_method_1_code 1 (none : Option FieldType)) ∈ gtbl := gu (in_t1 (List.mem_of_getElem? (i := 232) (by decide +kernel))) rfl
theorem w297 : (Cond.methodLink "java/lang/Throwable" 1 (⟨"java/lang/Object", "<init>", "()V"⟩ : MethodName)) ∈ gtbl := gu (in_t1 (List.mem_of_getElem? (i := 233) (by decide +kernel))) rfl
theorem w298 : (Cond.fieldLink "java/lang/Throwable" 13 "java/lang/Throwable" "UNASSIGNED_STACK" "[Ljava/lang/StackTraceElement;") ∈ gtbl := gu (in_t1 (List.mem_of_getElem? (i := 234) (by decide +kernel))) rfl
theorem w300 : (Cond.fieldLink "java/lang/Throwable" 20 "java/lang/Throwable" "SUPPRESSED_SENTINEL" "Ljava/util/List;") ∈ gtbl := gu (in_t1 (List.mem_of_getElem? (i := 236) (by decide +kernel))) rfl
theorem w302 : (Cond.methodLink "java/lang/Throwable" 27 (⟨"java/lang/Throwable", "fillInStackTrace", "()Ljava/lang/Throwable;"⟩ : MethodName)) ∈ gtbl := gu (in_t1 (List.mem_of_getElem? (i := 238) (by decide +kernel))) rfl
theorem w303 : (Cond.instanceMethod (⟨"java/lang/Throwable", "fillInStackTrace", "()Ljava/lang/Throwable;"⟩ : MethodName)) ∈ gtbl := gu (in_t1 (List.mem_of_getElem? (i := 239) (by decide +kernel))) rfl
theorem w305 : (Cond.selects "java/lang/IllegalStateException" (⟨"java/lang/Throwable", "fillInStackTrace", "()Ljava/lang/Throwable;"⟩ : MethodName) (⟨"java/lang/Throwable", "fillInStackTrace", "()Ljava/lang/Throwable;"⟩ : MethodName)) ∈ gtbl := gu (in_t2 (List.mem_of_getElem? (i := 1) (by decide +kernel))) rfl
theorem w306 : (Cond.selects "java/lang/IndexOutOfBoundsException" (⟨"java/lang/Throwable", "fillInStackTrace", "()Ljava/lang/Throwable;"⟩ : MethodName) (⟨"java/lang/Throwable", "fillInStackTrace", "()Ljava/lang/Throwable;"⟩ : MethodName)) ∈ gtbl := gu (in_t2 (List.mem_of_getElem? (i := 2) (by decide +kernel))) rfl
theorem w308 : (Cond.methodLink "java/lang/Throwable" 202 (⟨"java/lang/Throwable", "fillInStackTrace", "(I)Ljava/lang/Throwable;"⟩ : MethodName)) ∈ gtbl := gu (in_t2 (List.mem_of_getElem? (i := 4) (by decide +kernel))) rfl
theorem w310 : (Cond.instanceMethod (⟨"java/lang/Throwable", "fillInStackTrace", "(I)Ljava/lang/Throwable;"⟩ : MethodName)) ∈ gtbl := gu (in_t2 (List.mem_of_getElem? (i := 6) (by decide +kernel))) rfl
theorem w311 : (Cond.instantiable "java/lang/Throwable" 6) ∈ gtbl := gu (in_t2 (List.mem_of_getElem? (i := 7) (by decide +kernel))) rfl
theorem w313 : (Cond.stringRef "BoundCode" 52 "ARGUMENTS are 0 .. 8") ∈ lw_tbl := in_t2 (List.mem_of_getElem? (i := 9) (by decide +kernel))
theorem w314 : (Cond.methodLink "BoundCode" 54 (⟨"java/lang/IllegalArgumentException", "<init>", "(Ljava/lang/String;)V"⟩ : MethodName)) ∈ gtbl := gu (in_t2 (List.mem_of_getElem? (i := 10) (by decide +kernel))) rfl
theorem w315 : (Cond.instanceMethod (⟨"java/lang/IllegalArgumentException", "<init>", "(Ljava/lang/String;)V"⟩ : MethodName)) ∈ gtbl := gu (in_t2 (List.mem_of_getElem? (i := 11) (by decide +kernel))) rfl
theorem w316 : (Cond.code (⟨"java/lang/IllegalArgumentException", "<init>", "(Ljava/lang/String;)V"⟩ : MethodName) prog_11_method_2_code 2 (none : Option FieldType)) ∈ gtbl := gu (in_t2 (List.mem_of_getElem? (i := 12) (by decide +kernel))) rfl
theorem w317 : (Cond.methodLink "java/lang/IllegalArgumentException" 7 (⟨"java/lang/RuntimeException", "<init>", "(Ljava/lang/String;)V"⟩ : MethodName)) ∈ gtbl := gu (in_t2 (List.mem_of_getElem? (i := 13) (by decide +kernel))) rfl
theorem w318 : (Cond.instanceMethod (⟨"java/lang/RuntimeException", "<init>", "(Ljava/lang/String;)V"⟩ : MethodName)) ∈ gtbl := gu (in_t2 (List.mem_of_getElem? (i := 14) (by decide +kernel))) rfl
theorem w319 : (Cond.code (⟨"java/lang/RuntimeException", "<init>", "(Ljava/lang/String;)V"⟩ : MethodName) prog_15_method_2_code 2 (none : Option FieldType)) ∈ gtbl := gu (in_t2 (List.mem_of_getElem? (i := 15) (by decide +kernel))) rfl
theorem w320 : (Cond.methodLink "java/lang/RuntimeException" 7 (⟨"java/lang/Exception", "<init>", "(Ljava/lang/String;)V"⟩ : MethodName)) ∈ gtbl := gu (in_t2 (List.mem_of_getElem? (i := 16) (by decide +kernel))) rfl
theorem w321 : (Cond.instanceMethod (⟨"java/lang/Exception", "<init>", "(Ljava/lang/String;)V"⟩ : MethodName)) ∈ gtbl := gu (in_t2 (List.mem_of_getElem? (i := 17) (by decide +kernel))) rfl
theorem w322 : (Cond.code (⟨"java/lang/Exception", "<init>", "(Ljava/lang/String;)V"⟩ : MethodName) prog_10_method_2_code 2 (none : Option FieldType)) ∈ gtbl := gu (in_t2 (List.mem_of_getElem? (i := 18) (by decide +kernel))) rfl
theorem w323 : (Cond.methodLink "java/lang/Exception" 7 (⟨"java/lang/Throwable", "<init>", "(Ljava/lang/String;)V"⟩ : MethodName)) ∈ gtbl := gu (in_t2 (List.mem_of_getElem? (i := 19) (by decide +kernel))) rfl
theorem w324 : (Cond.instanceMethod (⟨"java/lang/Throwable", "<init>", "(Ljava/lang/String;)V"⟩ : MethodName)) ∈ gtbl := gu (in_t2 (List.mem_of_getElem? (i := 20) (by decide +kernel))) rfl
theorem w325 : (Cond.code (⟨"java/lang/Throwable", "<init>", "(Ljava/lang/String;)V"⟩ : MethodName) prog_17_method_2_code 2 (none : Option FieldType)) ∈ gtbl := gu (in_t2 (List.mem_of_getElem? (i := 21) (by decide +kernel))) rfl
theorem w327 : (Cond.fieldLink "java/lang/Throwable" 31 "java/lang/Throwable" "detailMessage" "Ljava/lang/String;") ∈ gtbl := gu (in_t2 (List.mem_of_getElem? (i := 23) (by decide +kernel))) rfl
theorem w328 : (Cond.fieldLink "java/lang/Throwable" 7 "java/lang/Throwable" "cause" "Ljava/lang/Throwable;") ∈ gtbl := gu (in_t2 (List.mem_of_getElem? (i := 24) (by decide +kernel))) rfl
theorem w329 : (Cond.fieldLink "java/lang/Throwable" 17 "java/lang/Throwable" "stackTrace" "[Ljava/lang/StackTraceElement;") ∈ gtbl := gu (in_t2 (List.mem_of_getElem? (i := 25) (by decide +kernel))) rfl
theorem w330 : (Cond.fieldLink "java/lang/Throwable" 24 "java/lang/Throwable" "suppressedExceptions" "Ljava/util/List;") ∈ gtbl := gu (in_t2 (List.mem_of_getElem? (i := 26) (by decide +kernel))) rfl
theorem w339 : (Cond.arrayClass FieldType.byte) ∈ gtbl := gu (in_t2 (List.mem_of_getElem? (i := 35) (by decide +kernel))) rfl
theorem w340 : (Cond.stringRef "BoundCode" 57 "RESULTS are 0 or 1") ∈ lw_tbl := in_t2 (List.mem_of_getElem? (i := 36) (by decide +kernel))
theorem w341 : (Cond.stringRef "BoundCode" 59 "LOCALS are from the ARGUMENTS up to 16") ∈ lw_tbl := in_t2 (List.mem_of_getElem? (i := 37) (by decide +kernel))
theorem w342 : (Cond.methodLink "BoundCode" 61 (⟨"BoundCode$Program", "isFull", "()Z"⟩ : MethodName)) ∈ gtbl := gu (in_t2 (List.mem_of_getElem? (i := 38) (by decide +kernel))) rfl
theorem w343 : (Cond.instanceMethod (⟨"BoundCode$Program", "isFull", "()Z"⟩ : MethodName)) ∈ gtbl := gu (in_t2 (List.mem_of_getElem? (i := 39) (by decide +kernel))) rfl
theorem w344 : (Cond.selects "BoundCode$Program" (⟨"BoundCode$Program", "isFull", "()Z"⟩ : MethodName) (⟨"BoundCode$Program", "isFull", "()Z"⟩ : MethodName)) ∈ gtbl := gu (in_t2 (List.mem_of_getElem? (i := 40) (by decide +kernel))) rfl
theorem w345 : (Cond.code (⟨"BoundCode$Program", "isFull", "()Z"⟩ : MethodName) prog_7_method_2_code 1 (some FieldType.boolean)) ∈ gtbl := gu (in_t2 (List.mem_of_getElem? (i := 41) (by decide +kernel))) rfl
theorem w346 : (Cond.classLink "BoundCode" 65 "BoundCode$Method") ∈ gtbl := gu (in_t2 (List.mem_of_getElem? (i := 42) (by decide +kernel))) rfl
theorem w347 : (Cond.instantiable "BoundCode$Method" 11) ∈ gtbl := gu (in_t2 (List.mem_of_getElem? (i := 43) (by decide +kernel))) rfl
theorem w348 : (Cond.methodLink "BoundCode" 67 (⟨"BoundCode$Method", "<init>", "(III)V"⟩ : MethodName)) ∈ gtbl := gu (in_t2 (List.mem_of_getElem? (i := 44) (by decide +kernel))) rfl
theorem w349 : (Cond.instanceMethod (⟨"BoundCode$Method", "<init>", "(III)V"⟩ : MethodName)) ∈ gtbl := gu (in_t2 (List.mem_of_getElem? (i := 45) (by decide +kernel))) rfl
theorem w350 : (Cond.code (⟨"BoundCode$Method", "<init>", "(III)V"⟩ : MethodName) prog_6_method_1_code 4 (none : Option FieldType)) ∈ gtbl := gu (in_t2 (List.mem_of_getElem? (i := 46) (by decide +kernel))) rfl
theorem w351 : (Cond.methodLink "BoundCode$Method" 3 (⟨"java/lang/Object", "<init>", "()V"⟩ : MethodName)) ∈ gtbl := gu (in_t2 (List.mem_of_getElem? (i := 47) (by decide +kernel))) rfl
theorem w352 : (Cond.fieldLink "BoundCode$Method" 9 "BoundCode$Method" "arguments" "I") ∈ gtbl := gu (in_t2 (List.mem_of_getElem? (i := 48) (by decide +kernel))) rfl
theorem w353 : (Cond.fieldLinkNest "BoundCode$Machine" 62 "BoundCode$Method" "arguments" "I" "BoundCode") ∈ ntbl := nu (in_t2 (List.mem_of_getElem? (i := 49) (by decide +kernel))) rfl
theorem w354 : (Cond.fieldLinkNest "BoundCode$Bounds" 67 "BoundCode$Method" "arguments" "I" "BoundCode") ∈ ntbl := nu (in_t2 (List.mem_of_getElem? (i := 50) (by decide +kernel))) rfl
theorem w355 : (Cond.fieldLinkNest "BoundCode$Checker" 123 "BoundCode$Method" "arguments" "I" "BoundCode") ∈ ntbl := nu (in_t2 (List.mem_of_getElem? (i := 51) (by decide +kernel))) rfl
theorem w356 : (Cond.fieldLinkNest "BoundCode" 139 "BoundCode$Method" "arguments" "I" "BoundCode") ∈ ntbl := nu (in_t2 (List.mem_of_getElem? (i := 52) (by decide +kernel))) rfl
theorem w357 : (Cond.fieldLink "BoundCode$Method" 15 "BoundCode$Method" "results" "I") ∈ gtbl := gu (in_t2 (List.mem_of_getElem? (i := 53) (by decide +kernel))) rfl
theorem w358 : (Cond.fieldLinkNest "BoundCode$Machine" 126 "BoundCode$Method" "results" "I" "BoundCode") ∈ ntbl := nu (in_t2 (List.mem_of_getElem? (i := 54) (by decide +kernel))) rfl
theorem w359 : (Cond.fieldLinkNest "BoundCode$Checker" 126 "BoundCode$Method" "results" "I" "BoundCode") ∈ ntbl := nu (in_t2 (List.mem_of_getElem? (i := 55) (by decide +kernel))) rfl
theorem w360 : (Cond.fieldLink "BoundCode$Method" 18 "BoundCode$Method" "locals" "I") ∈ gtbl := gu (in_t2 (List.mem_of_getElem? (i := 56) (by decide +kernel))) rfl
theorem w361 : (Cond.fieldLinkNest "BoundCode$Bounds" 38 "BoundCode$Method" "locals" "I" "BoundCode") ∈ ntbl := nu (in_t2 (List.mem_of_getElem? (i := 57) (by decide +kernel))) rfl
theorem w362 : (Cond.fieldLinkNest "BoundCode$Machine" 123 "BoundCode$Method" "locals" "I" "BoundCode") ∈ ntbl := nu (in_t2 (List.mem_of_getElem? (i := 58) (by decide +kernel))) rfl
theorem w363 : (Cond.fieldLinkNest "BoundCode$Checker" 82 "BoundCode$Method" "locals" "I" "BoundCode") ∈ ntbl := nu (in_t2 (List.mem_of_getElem? (i := 59) (by decide +kernel))) rfl
theorem w364 : (Cond.fieldLink "BoundCode$Method" 21 "BoundCode$Method" "operations" "[I") ∈ gtbl := gu (in_t2 (List.mem_of_getElem? (i := 60) (by decide +kernel))) rfl
theorem w365 : (Cond.fieldLinkNest "BoundCode$Bounds" 55 "BoundCode$Method" "operations" "[I" "BoundCode") ∈ ntbl := nu (in_t2 (List.mem_of_getElem? (i := 61) (by decide +kernel))) rfl
theorem w366 : (Cond.fieldLinkNest "BoundCode$Checker" 67 "BoundCode$Method" "operations" "[I" "BoundCode") ∈ ntbl := nu (in_t2 (List.mem_of_getElem? (i := 62) (by decide +kernel))) rfl
theorem w367 : (Cond.fieldLinkNest "BoundCode$Machine" 90 "BoundCode$Method" "operations" "[I" "BoundCode") ∈ ntbl := nu (in_t2 (List.mem_of_getElem? (i := 63) (by decide +kernel))) rfl
theorem w368 : (Cond.fieldLinkNest "BoundCode$Analyser" 96 "BoundCode$Method" "operations" "[I" "BoundCode") ∈ ntbl := nu (in_t2 (List.mem_of_getElem? (i := 64) (by decide +kernel))) rfl
theorem w369 : (Cond.fieldLink "BoundCode$Method" 25 "BoundCode$Method" "args" "[J") ∈ gtbl := gu (in_t2 (List.mem_of_getElem? (i := 65) (by decide +kernel))) rfl
theorem w370 : (Cond.fieldLinkNest "BoundCode$Bounds" 58 "BoundCode$Method" "args" "[J" "BoundCode") ∈ ntbl := nu (in_t2 (List.mem_of_getElem? (i := 66) (by decide +kernel))) rfl
theorem w371 : (Cond.fieldLinkNest "BoundCode$Machine" 93 "BoundCode$Method" "args" "[J" "BoundCode") ∈ ntbl := nu (in_t2 (List.mem_of_getElem? (i := 67) (by decide +kernel))) rfl
theorem w372 : (Cond.fieldLinkNest "BoundCode$Checker" 74 "BoundCode$Method" "args" "[J" "BoundCode") ∈ ntbl := nu (in_t2 (List.mem_of_getElem? (i := 68) (by decide +kernel))) rfl
theorem w373 : (Cond.fieldLinkNest "BoundCode$Analyser" 103 "BoundCode$Method" "args" "[J" "BoundCode") ∈ ntbl := nu (in_t2 (List.mem_of_getElem? (i := 69) (by decide +kernel))) rfl
theorem w374 : (Cond.fieldLink "BoundCode$Method" 29 "BoundCode$Method" "mates" "[I") ∈ gtbl := gu (in_t2 (List.mem_of_getElem? (i := 70) (by decide +kernel))) rfl
theorem w375 : (Cond.fieldLinkNest "BoundCode$Checker" 64 "BoundCode$Method" "mates" "[I" "BoundCode") ∈ ntbl := nu (in_t2 (List.mem_of_getElem? (i := 71) (by decide +kernel))) rfl
theorem w376 : (Cond.fieldLinkNest "BoundCode$Bounds" 88 "BoundCode$Method" "mates" "[I" "BoundCode") ∈ ntbl := nu (in_t2 (List.mem_of_getElem? (i := 72) (by decide +kernel))) rfl
theorem w377 : (Cond.fieldLinkNest "BoundCode$Machine" 133 "BoundCode$Method" "mates" "[I" "BoundCode") ∈ ntbl := nu (in_t2 (List.mem_of_getElem? (i := 73) (by decide +kernel))) rfl
theorem w378 : (Cond.fieldLink "BoundCode$Method" 32 "BoundCode$Method" "heights" "[I") ∈ gtbl := gu (in_t2 (List.mem_of_getElem? (i := 74) (by decide +kernel))) rfl
theorem w379 : (Cond.fieldLinkNest "BoundCode$Bounds" 41 "BoundCode$Method" "heights" "[I" "BoundCode") ∈ ntbl := nu (in_t2 (List.mem_of_getElem? (i := 75) (by decide +kernel))) rfl
theorem w380 : (Cond.fieldLinkNest "BoundCode$Checker" 97 "BoundCode$Method" "heights" "[I" "BoundCode") ∈ ntbl := nu (in_t2 (List.mem_of_getElem? (i := 76) (by decide +kernel))) rfl
theorem w381 : (Cond.fieldLink "BoundCode$Method" 35 "BoundCode$Method" "size" "I") ∈ gtbl := gu (in_t2 (List.mem_of_getElem? (i := 77) (by decide +kernel))) rfl
theorem w382 : (Cond.fieldLinkNest "BoundCode$Bounds" 28 "BoundCode$Method" "size" "I" "BoundCode") ∈ ntbl := nu (in_t2 (List.mem_of_getElem? (i := 78) (by decide +kernel))) rfl
theorem w383 : (Cond.fieldLinkNest "BoundCode$Checker" 61 "BoundCode$Method" "size" "I" "BoundCode") ∈ ntbl := nu (in_t2 (List.mem_of_getElem? (i := 79) (by decide +kernel))) rfl
theorem w384 : (Cond.fieldLinkNest "BoundCode$Analyser" 93 "BoundCode$Method" "size" "I" "BoundCode") ∈ ntbl := nu (in_t2 (List.mem_of_getElem? (i := 80) (by decide +kernel))) rfl
theorem w385 : (Cond.fieldLink "BoundCode$Method" 38 "BoundCode$Method" "fault" "I") ∈ gtbl := gu (in_t2 (List.mem_of_getElem? (i := 81) (by decide +kernel))) rfl
theorem w386 : (Cond.fieldLinkNest "BoundCode" 110 "BoundCode$Method" "fault" "I" "BoundCode") ∈ ntbl := nu (in_t2 (List.mem_of_getElem? (i := 82) (by decide +kernel))) rfl
theorem w387 : (Cond.fieldLink "BoundCode$Method" 41 "BoundCode$Method" "faultPlace" "I") ∈ gtbl := gu (in_t2 (List.mem_of_getElem? (i := 83) (by decide +kernel))) rfl
theorem w388 : (Cond.fieldLinkNest "BoundCode" 109 "BoundCode$Method" "faultPlace" "I" "BoundCode") ∈ ntbl := nu (in_t2 (List.mem_of_getElem? (i := 84) (by decide +kernel))) rfl
theorem w389 : (Cond.fieldLink "BoundCode$Method" 44 "BoundCode$Method" "checkedAmong" "I") ∈ gtbl := gu (in_t2 (List.mem_of_getElem? (i := 85) (by decide +kernel))) rfl
theorem w390 : (Cond.fieldLinkNest "BoundCode$Checker" 35 "BoundCode$Method" "checkedAmong" "I" "BoundCode") ∈ ntbl := nu (in_t2 (List.mem_of_getElem? (i := 86) (by decide +kernel))) rfl
theorem w414 : (Cond.methodLink "BoundCode" 70 (⟨"BoundCode$Program", "include", "(LBoundCode$Method;)I"⟩ : MethodName)) ∈ gtbl := gu (in_t2 (List.mem_of_getElem? (i := 110) (by decide +kernel))) rfl
theorem w415 : (Cond.instanceMethod (⟨"BoundCode$Program", "include", "(LBoundCode$Method;)I"⟩ : MethodName)) ∈ gtbl := gu (in_t2 (List.mem_of_getElem? (i := 111) (by decide +kernel))) rfl
theorem w416 : (Cond.selects "BoundCode$Program" (⟨"BoundCode$Program", "include", "(LBoundCode$Method;)I"⟩ : MethodName) (⟨"BoundCode$Program", "include", "(LBoundCode$Method;)I"⟩ : MethodName)) ∈ gtbl := gu (in_t2 (List.mem_of_getElem? (i := 112) (by decide +kernel))) rfl
theorem w417 : (Cond.code (⟨"BoundCode$Program", "include", "(LBoundCode$Method;)I"⟩ : MethodName) prog_7_method_3_code 2 (some FieldType.int)) ∈ gtbl := gu (in_t2 (List.mem_of_getElem? (i := 113) (by decide +kernel))) rfl
theorem w418 : (Cond.methodLink "BoundCode$Program" 31 (⟨"BoundCode$Program", "isFull", "()Z"⟩ : MethodName)) ∈ gtbl := gu (in_t2 (List.mem_of_getElem? (i := 114) (by decide +kernel))) rfl
theorem w419 : (Cond.methodLink "BoundCodeLaw" 78 (⟨"BoundCodeLaw", "add", "(LBoundCode;IIJ[J)I"⟩ : MethodName)) ∈ gtbl := gu (in_t2 (List.mem_of_getElem? (i := 115) (by decide +kernel))) rfl
theorem w420 : (Cond.static (⟨"BoundCodeLaw", "add", "(LBoundCode;IIJ[J)I"⟩ : MethodName)) ∈ gtbl := gu (in_t2 (List.mem_of_getElem? (i := 116) (by decide +kernel))) rfl
theorem w421 : (Cond.codeWith (⟨"BoundCodeLaw", "add", "(LBoundCode;IIJ[J)I"⟩ : MethodName) method_4_code 7 (some FieldType.int) [(0, 12, 15, 19)]) ∈ gtbl := gu (in_t2 (List.mem_of_getElem? (i := 117) (by decide +kernel))) rfl
theorem w422 : (Cond.classLink "BoundCodeLaw" 19 "java/lang/IndexOutOfBoundsException") ∈ gtbl := gu (in_t2 (List.mem_of_getElem? (i := 118) (by decide +kernel))) rfl
theorem w423 : (Cond.methodLink "BoundCodeLaw" 15 (⟨"BoundCode", "add", "(IIJ)I"⟩ : MethodName)) ∈ gtbl := gu (in_t2 (List.mem_of_getElem? (i := 119) (by decide +kernel))) rfl
theorem w424 : (Cond.instanceMethod (⟨"BoundCode", "add", "(IIJ)I"⟩ : MethodName)) ∈ gtbl := gu (in_t2 (List.mem_of_getElem? (i := 120) (by decide +kernel))) rfl
theorem w425 : (Cond.selects "BoundCode" (⟨"BoundCode", "add", "(IIJ)I"⟩ : MethodName) (⟨"BoundCode", "add", "(IIJ)I"⟩ : MethodName)) ∈ gtbl := gu (in_t2 (List.mem_of_getElem? (i := 121) (by decide +kernel))) rfl
theorem w426 : (Cond.code (⟨"BoundCode", "add", "(IIJ)I"⟩ : MethodName) prog_1_method_3_code 5 (some FieldType.int)) ∈ gtbl := gu (in_t2 (List.mem_of_getElem? (i := 122) (by decide +kernel))) rfl
theorem w427 : (Cond.methodLink "BoundCode" 74 (⟨"BoundCode", "known", "(I)LBoundCode$Method;"⟩ : MethodName)) ∈ gtbl := gu (in_t2 (List.mem_of_getElem? (i := 123) (by decide +kernel))) rfl
theorem w429 : (Cond.instanceMethod (⟨"BoundCode", "known", "(I)LBoundCode$Method;"⟩ : MethodName)) ∈ gtbl := gu (in_t2 (List.mem_of_getElem? (i := 125) (by decide +kernel))) rfl
theorem w430 : (Cond.code (⟨"BoundCode", "known", "(I)LBoundCode$Method;"⟩ : MethodName) prog_1_method_16_code 3 (some (FieldType.object "BoundCode$Method"))) ∈ gtbl := gu (in_t2 (List.mem_of_getElem? (i := 126) (by decide +kernel))) rfl
theorem w431 : (Cond.methodLink "BoundCode" 160 (⟨"BoundCode$Program", "find", "(J)LBoundCode$Method;"⟩ : MethodName)) ∈ gtbl := gu (in_t2 (List.mem_of_getElem? (i := 127) (by decide +kernel))) rfl
theorem w432 : (Cond.instanceMethod (⟨"BoundCode$Program", "find", "(J)LBoundCode$Method;"⟩ : MethodName)) ∈ gtbl := gu (in_t2 (List.mem_of_getElem? (i := 128) (by decide +kernel))) rfl
theorem w433 : (Cond.selects "BoundCode$Program" (⟨"BoundCode$Program", "find", "(J)LBoundCode$Method;"⟩ : MethodName) (⟨"BoundCode$Program", "find", "(J)LBoundCode$Method;"⟩ : MethodName)) ∈ gtbl := gu (in_t2 (List.mem_of_getElem? (i := 129) (by decide +kernel))) rfl
theorem w434 : (Cond.code (⟨"BoundCode$Program", "find", "(J)LBoundCode$Method;"⟩ : MethodName) prog_7_method_4_code 3 (some (FieldType.object "BoundCode$Method"))) ∈ gtbl := gu (in_t2 (List.mem_of_getElem? (i := 130) (by decide +kernel))) rfl
theorem w435 : (Cond.classLink "BoundCode" 94 "java/lang/IndexOutOfBoundsException") ∈ gtbl := gu (in_t2 (List.mem_of_getElem? (i := 131) (by decide +kernel))) rfl
theorem w436 : (Cond.instantiable "java/lang/IndexOutOfBoundsException" 6) ∈ gtbl := gu (in_t2 (List.mem_of_getElem? (i := 132) (by decide +kernel))) rfl
theorem w437 : (Cond.castable "java/lang/IndexOutOfBoundsException" "java/lang/IndexOutOfBoundsException") ∈ ntbl := nu (in_t2 (List.mem_of_getElem? (i := 133) (by decide +kernel))) rfl
theorem w438 : (Cond.selects "java/lang/IndexOutOfBoundsException" (⟨"java/lang/Throwable", "fillInStackTrace", "(I)Ljava/lang/Throwable;"⟩ : MethodName) (⟨"java/lang/Throwable", "fillInStackTrace", "(I)Ljava/lang/Throwable;"⟩ : MethodName)) ∈ gtbl := gu (in_t2 (List.mem_of_getElem? (i := 134) (by decide +kernel))) rfl
theorem w444 : (Cond.stringRef "BoundCode" 164 "there is no such METHOD") ∈ lw_tbl := in_t2 (List.mem_of_getElem? (i := 140) (by decide +kernel))
theorem w445 : (Cond.methodLink "BoundCode" 98 (⟨"java/lang/IndexOutOfBoundsException", "<init>", "(Ljava/lang/String;)V"⟩ : MethodName)) ∈ gtbl := gu (in_t2 (List.mem_of_getElem? (i := 141) (by decide +kernel))) rfl
theorem w446 : (Cond.instanceMethod (⟨"java/lang/IndexOutOfBoundsException", "<init>", "(Ljava/lang/String;)V"⟩ : MethodName)) ∈ gtbl := gu (in_t2 (List.mem_of_getElem? (i := 142) (by decide +kernel))) rfl
theorem w447 : (Cond.code (⟨"java/lang/IndexOutOfBoundsException", "<init>", "(Ljava/lang/String;)V"⟩ : MethodName) prog_13_method_2_code 2 (none : Option FieldType)) ∈ gtbl := gu (in_t2 (List.mem_of_getElem? (i := 143) (by decide +kernel))) rfl
theorem w448 : (Cond.methodLink "java/lang/IndexOutOfBoundsException" 7 (⟨"java/lang/RuntimeException", "<init>", "(Ljava/lang/String;)V"⟩ : MethodName)) ∈ gtbl := gu (in_t2 (List.mem_of_getElem? (i := 144) (by decide +kernel))) rfl
theorem w451 : (Cond.methodLink "BoundCode" 78 (⟨"BoundCode$Method", "append", "(IJ)I"⟩ : MethodName)) ∈ gtbl := gu (in_t2 (List.mem_of_getElem? (i := 147) (by decide +kernel))) rfl
theorem w452 : (Cond.instanceMethod (⟨"BoundCode$Method", "append", "(IJ)I"⟩ : MethodName)) ∈ gtbl := gu (in_t2 (List.mem_of_getElem? (i := 148) (by decide +kernel))) rfl
theorem w453 : (Cond.selects "BoundCode$Method" (⟨"BoundCode$Method", "append", "(IJ)I"⟩ : MethodName) (⟨"BoundCode$Method", "append", "(IJ)I"⟩ : MethodName)) ∈ gtbl := gu (in_t2 (List.mem_of_getElem? (i := 149) (by decide +kernel))) rfl
theorem w454 : (Cond.code (⟨"BoundCode$Method", "append", "(IJ)I"⟩ : MethodName) prog_6_method_6_code 5 (some FieldType.int)) ∈ gtbl := gu (in_t2 (List.mem_of_getElem? (i := 150) (by decide +kernel))) rfl
theorem w455 : (Cond.methodLink "BoundCode$Method" 55 (⟨"BoundCode$Method", "replace", "(IIJ)I"⟩ : MethodName)) ∈ gtbl := gu (in_t2 (List.mem_of_getElem? (i := 151) (by decide +kernel))) rfl
theorem w456 : (Cond.instanceMethod (⟨"BoundCode$Method", "replace", "(IIJ)I"⟩ : MethodName)) ∈ gtbl := gu (in_t2 (List.mem_of_getElem? (i := 152) (by decide +kernel))) rfl
theorem w457 : (Cond.selects "BoundCode$Method" (⟨"BoundCode$Method", "replace", "(IIJ)I"⟩ : MethodName) (⟨"BoundCode$Method", "replace", "(IIJ)I"⟩ : MethodName)) ∈ gtbl := gu (in_t2 (List.mem_of_getElem? (i := 153) (by decide +kernel))) rfl
theorem w458 : (Cond.code (⟨"BoundCode$Method", "replace", "(IIJ)I"⟩ : MethodName) prog_6_method_7_code 6 (some FieldType.int)) ∈ gtbl := gu (in_t2 (List.mem_of_getElem? (i := 154) (by decide +kernel))) rfl
theorem w459 : (Cond.methodLink "BoundCode$Method" 47 (⟨"BoundCode$Method", "has", "(J)Z"⟩ : MethodName)) ∈ gtbl := gu (in_t2 (List.mem_of_getElem? (i := 155) (by decide +kernel))) rfl
theorem w460 : (Cond.instanceMethod (⟨"BoundCode$Method", "has", "(J)Z"⟩ : MethodName)) ∈ gtbl := gu (in_t2 (List.mem_of_getElem? (i := 156) (by decide +kernel))) rfl
theorem w461 : (Cond.selects "BoundCode$Method" (⟨"BoundCode$Method", "has", "(J)Z"⟩ : MethodName) (⟨"BoundCode$Method", "has", "(J)Z"⟩ : MethodName)) ∈ gtbl := gu (in_t2 (List.mem_of_getElem? (i := 157) (by decide +kernel))) rfl
theorem w462 : (Cond.code (⟨"BoundCode$Method", "has", "(J)Z"⟩ : MethodName) prog_6_method_2_code 3 (some FieldType.boolean)) ∈ gtbl := gu (in_t2 (List.mem_of_getElem? (i := 158) (by decide +kernel))) rfl
theorem w463 : (Cond.methodLink "BoundCodeLaw" 82 (⟨"BoundCodeLaw", "change", "(LBoundCode;IIIJ[J)I"⟩ : MethodName)) ∈ gtbl := gu (in_t2 (List.mem_of_getElem? (i := 159) (by decide +kernel))) rfl
theorem w464 : (Cond.static (⟨"BoundCodeLaw", "change", "(LBoundCode;IIIJ[J)I"⟩ : MethodName)) ∈ gtbl := gu (in_t2 (List.mem_of_getElem? (i := 160) (by decide +kernel))) rfl
theorem w465 : (Cond.codeWith (⟨"BoundCodeLaw", "change", "(LBoundCode;IIIJ[J)I"⟩ : MethodName) method_5_code 8 (some FieldType.int) [(0, 14, 17, 19)]) ∈ gtbl := gu (in_t2 (List.mem_of_getElem? (i := 161) (by decide +kernel))) rfl
theorem w466 : (Cond.methodLink "BoundCodeLaw" 21 (⟨"BoundCode", "change", "(IIIJ)I"⟩ : MethodName)) ∈ gtbl := gu (in_t2 (List.mem_of_getElem? (i := 162) (by decide +kernel))) rfl
theorem w467 : (Cond.instanceMethod (⟨"BoundCode", "change", "(IIIJ)I"⟩ : MethodName)) ∈ gtbl := gu (in_t2 (List.mem_of_getElem? (i := 163) (by decide +kernel))) rfl
theorem w468 : (Cond.selects "BoundCode" (⟨"BoundCode", "change", "(IIIJ)I"⟩ : MethodName) (⟨"BoundCode", "change", "(IIIJ)I"⟩ : MethodName)) ∈ gtbl := gu (in_t2 (List.mem_of_getElem? (i := 164) (by decide +kernel))) rfl
theorem w469 : (Cond.code (⟨"BoundCode", "change", "(IIIJ)I"⟩ : MethodName) prog_1_method_4_code 6 (some FieldType.int)) ∈ gtbl := gu (in_t2 (List.mem_of_getElem? (i := 165) (by decide +kernel))) rfl
theorem w470 : (Cond.methodLink "BoundCode" 82 (⟨"BoundCode", "knownWith", "(II)LBoundCode$Method;"⟩ : MethodName)) ∈ gtbl := gu (in_t2 (List.mem_of_getElem? (i := 166) (by decide +kernel))) rfl
theorem w472 : (Cond.instanceMethod (⟨"BoundCode", "knownWith", "(II)LBoundCode$Method;"⟩ : MethodName)) ∈ gtbl := gu (in_t2 (List.mem_of_getElem? (i := 168) (by decide +kernel))) rfl
theorem w473 : (Cond.code (⟨"BoundCode", "knownWith", "(II)LBoundCode$Method;"⟩ : MethodName) prog_1_method_17_code 4 (some (FieldType.object "BoundCode$Method"))) ∈ gtbl := gu (in_t2 (List.mem_of_getElem? (i := 169) (by decide +kernel))) rfl
theorem w474 : (Cond.methodLink "BoundCode" 166 (⟨"BoundCode$Method", "has", "(J)Z"⟩ : MethodName)) ∈ gtbl := gu (in_t2 (List.mem_of_getElem? (i := 170) (by decide +kernel))) rfl
theorem w475 : (Cond.stringRef "BoundCode" 170 "there is no such INSTRUCTION") ∈ lw_tbl := in_t2 (List.mem_of_getElem? (i := 171) (by decide +kernel))
theorem w476 : (Cond.methodLink "BoundCode" 86 (⟨"BoundCode$Method", "replace", "(IIJ)I"⟩ : MethodName)) ∈ gtbl := gu (in_t2 (List.mem_of_getElem? (i := 172) (by decide +kernel))) rfl
theorem w477 : (Cond.methodLink "BoundCodeLaw" 86 (⟨"BoundCodeLaw", "cost", "(LBoundCode;II[J)I"⟩ : MethodName)) ∈ gtbl := gu (in_t2 (List.mem_of_getElem? (i := 173) (by decide +kernel))) rfl
theorem w478 : (Cond.static (⟨"BoundCodeLaw", "cost", "(LBoundCode;II[J)I"⟩ : MethodName)) ∈ gtbl := gu (in_t2 (List.mem_of_getElem? (i := 174) (by decide +kernel))) rfl
theorem w479 : (Cond.codeWith (⟨"BoundCodeLaw", "cost", "(LBoundCode;II[J)I"⟩ : MethodName) method_6_code 5 (some FieldType.int) [(0, 10, 13, 19), (0, 10, 17, 13)]) ∈ gtbl := gu (in_t2 (List.mem_of_getElem? (i := 175) (by decide +kernel))) rfl
theorem w480 : (Cond.methodLink "BoundCodeLaw" 25 (⟨"BoundCode", "cost", "(II)I"⟩ : MethodName)) ∈ gtbl := gu (in_t2 (List.mem_of_getElem? (i := 176) (by decide +kernel))) rfl
theorem w481 : (Cond.instanceMethod (⟨"BoundCode", "cost", "(II)I"⟩ : MethodName)) ∈ gtbl := gu (in_t2 (List.mem_of_getElem? (i := 177) (by decide +kernel))) rfl
theorem w482 : (Cond.selects "BoundCode" (⟨"BoundCode", "cost", "(II)I"⟩ : MethodName) (⟨"BoundCode", "cost", "(II)I"⟩ : MethodName)) ∈ gtbl := gu (in_t2 (List.mem_of_getElem? (i := 178) (by decide +kernel))) rfl
theorem w483 : (Cond.code (⟨"BoundCode", "cost", "(II)I"⟩ : MethodName) prog_1_method_5_code 3 (some FieldType.int)) ∈ gtbl := gu (in_t2 (List.mem_of_getElem? (i := 179) (by decide +kernel))) rfl
theorem w484 : (Cond.methodLink "BoundCode" 90 (⟨"BoundCode", "isOperation", "(I)Z"⟩ : MethodName)) ∈ gtbl := gu (in_t2 (List.mem_of_getElem? (i := 180) (by decide +kernel))) rfl
theorem w485 : (Cond.static (⟨"BoundCode", "isOperation", "(I)Z"⟩ : MethodName)) ∈ gtbl := gu (in_t2 (List.mem_of_getElem? (i := 181) (by decide +kernel))) rfl
theorem w486 : (Cond.code (⟨"BoundCode", "isOperation", "(I)Z"⟩ : MethodName) prog_1_method_18_code 1 (some FieldType.boolean)) ∈ gtbl := gu (in_t2 (List.mem_of_getElem? (i := 182) (by decide +kernel))) rfl
theorem w487 : (Cond.stringRef "BoundCode" 96 "OPERATIONS are 0 .. 17") ∈ lw_tbl := in_t2 (List.mem_of_getElem? (i := 183) (by decide +kernel))
theorem w488 : (Cond.constant "BoundCode" 99 1000000) ∈ gtbl := gu (in_t2 (List.mem_of_getElem? (i := 184) (by decide +kernel))) rfl
theorem w489 : (Cond.stringRef "BoundCode" 100 "a COST is 0 .. 1000000") ∈ lw_tbl := in_t2 (List.mem_of_getElem? (i := 185) (by decide +kernel))
theorem w490 : (Cond.methodLink "BoundCode" 102 (⟨"BoundCode$Program", "price", "(II)I"⟩ : MethodName)) ∈ gtbl := gu (in_t2 (List.mem_of_getElem? (i := 186) (by decide +kernel))) rfl
theorem w491 : (Cond.instanceMethod (⟨"BoundCode$Program", "price", "(II)I"⟩ : MethodName)) ∈ gtbl := gu (in_t2 (List.mem_of_getElem? (i := 187) (by decide +kernel))) rfl
theorem w492 : (Cond.selects "BoundCode$Program" (⟨"BoundCode$Program", "price", "(II)I"⟩ : MethodName) (⟨"BoundCode$Program", "price", "(II)I"⟩ : MethodName)) ∈ gtbl := gu (in_t2 (List.mem_of_getElem? (i := 188) (by decide +kernel))) rfl
theorem w493 : (Cond.code (⟨"BoundCode$Program", "price", "(II)I"⟩ : MethodName) prog_7_method_6_code 4 (some FieldType.int)) ∈ gtbl := gu (in_t2 (List.mem_of_getElem? (i := 189) (by decide +kernel))) rfl
theorem w494 : (Cond.methodLink "BoundCode$Program" 39 (⟨"BoundCode$Program", "costOf", "(I)I"⟩ : MethodName)) ∈ gtbl := gu (in_t2 (List.mem_of_getElem? (i := 190) (by decide +kernel))) rfl
theorem w495 : (Cond.instanceMethod (⟨"BoundCode$Program", "costOf", "(I)I"⟩ : MethodName)) ∈ gtbl := gu (in_t2 (List.mem_of_getElem? (i := 191) (by decide +kernel))) rfl
theorem w496 : (Cond.selects "BoundCode$Program" (⟨"BoundCode$Program", "costOf", "(I)I"⟩ : MethodName) (⟨"BoundCode$Program", "costOf", "(I)I"⟩ : MethodName)) ∈ gtbl := gu (in_t2 (List.mem_of_getElem? (i := 192) (by decide +kernel))) rfl
theorem w497 : (Cond.code (⟨"BoundCode$Program", "costOf", "(I)I"⟩ : MethodName) prog_7_method_5_code 2 (some FieldType.int)) ∈ gtbl := gu (in_t2 (List.mem_of_getElem? (i := 193) (by decide +kernel))) rfl
theorem w498 : (Cond.methodLinkNest "BoundCode$Program" 35 (⟨"BoundCode", "isOperation", "(I)Z"⟩ : MethodName) "BoundCode") ∈ ntbl := nu (in_t2 (List.mem_of_getElem? (i := 194) (by decide +kernel))) rfl
theorem w499 : (Cond.methodLink "BoundCodeLaw" 90 (⟨"BoundCodeLaw", "check", "(LBoundCode;I[J)I"⟩ : MethodName)) ∈ gtbl := gu (in_t2 (List.mem_of_getElem? (i := 195) (by decide +kernel))) rfl
theorem w500 : (Cond.static (⟨"BoundCodeLaw", "check", "(LBoundCode;I[J)I"⟩ : MethodName)) ∈ gtbl := gu (in_t2 (List.mem_of_getElem? (i := 196) (by decide +kernel))) rfl
theorem w501 : (Cond.codeWith (⟨"BoundCodeLaw", "check", "(LBoundCode;I[J)I"⟩ : MethodName) method_7_code 4 (some FieldType.int) [(0, 9, 12, 19)]) ∈ gtbl := gu (in_t2 (List.mem_of_getElem? (i := 197) (by decide +kernel))) rfl
theorem w502 : (Cond.methodLink "BoundCodeLaw" 29 (⟨"BoundCode", "check", "(I)I"⟩ : MethodName)) ∈ gtbl := gu (in_t2 (List.mem_of_getElem? (i := 198) (by decide +kernel))) rfl
theorem w503 : (Cond.instanceMethod (⟨"BoundCode", "check", "(I)I"⟩ : MethodName)) ∈ gtbl := gu (in_t2 (List.mem_of_getElem? (i := 199) (by decide +kernel))) rfl
theorem w504 : (Cond.selects "BoundCode" (⟨"BoundCode", "check", "(I)I"⟩ : MethodName) (⟨"BoundCode", "check", "(I)I"⟩ : MethodName)) ∈ gtbl := gu (in_t2 (List.mem_of_getElem? (i := 200) (by decide +kernel))) rfl
theorem w505 : (Cond.code (⟨"BoundCode", "check", "(I)I"⟩ : MethodName) prog_1_method_6_code 3 (some FieldType.int)) ∈ gtbl := gu (in_t2 (List.mem_of_getElem? (i := 201) (by decide +kernel))) rfl
theorem w506 : (Cond.methodLink "BoundCode" 106 (⟨"BoundCode$Checker", "refresh", "()V"⟩ : MethodName)) ∈ gtbl := gu (in_t2 (List.mem_of_getElem? (i := 202) (by decide +kernel))) rfl
theorem w507 : (Cond.instanceMethod (⟨"BoundCode$Checker", "refresh", "()V"⟩ : MethodName)) ∈ gtbl := gu (in_t2 (List.mem_of_getElem? (i := 203) (by decide +kernel))) rfl
theorem w508 : (Cond.selects "BoundCode$Checker" (⟨"BoundCode$Checker", "refresh", "()V"⟩ : MethodName) (⟨"BoundCode$Checker", "refresh", "()V"⟩ : MethodName)) ∈ gtbl := gu (in_t2 (List.mem_of_getElem? (i := 204) (by decide +kernel))) rfl
theorem w509 : (Cond.code (⟨"BoundCode$Checker", "refresh", "()V"⟩ : MethodName) prog_4_method_2_code 3 (none : Option FieldType)) ∈ gtbl := gu (in_t2 (List.mem_of_getElem? (i := 205) (by decide +kernel))) rfl
theorem w510 : (Cond.methodLink "BoundCode$Checker" 31 (⟨"BoundCode$Program", "find", "(J)LBoundCode$Method;"⟩ : MethodName)) ∈ gtbl := gu (in_t2 (List.mem_of_getElem? (i := 206) (by decide +kernel))) rfl
theorem w511 : (Cond.methodLink "BoundCode$Checker" 40 (⟨"BoundCode$Checker", "inspect", "(LBoundCode$Method;)V"⟩ : MethodName)) ∈ gtbl := gu (in_t2 (List.mem_of_getElem? (i := 207) (by decide +kernel))) rfl
theorem w513 : (Cond.instanceMethod (⟨"BoundCode$Checker", "inspect", "(LBoundCode$Method;)V"⟩ : MethodName)) ∈ gtbl := gu (in_t2 (List.mem_of_getElem? (i := 209) (by decide +kernel))) rfl
theorem w514 : (Cond.code (⟨"BoundCode$Checker", "inspect", "(LBoundCode$Method;)V"⟩ : MethodName) prog_4_method_3_code 2 (none : Option FieldType)) ∈ gtbl := gu (in_t2 (List.mem_of_getElem? (i := 210) (by decide +kernel))) rfl
theorem w515 : (Cond.methodLink "BoundCode$Checker" 44 (⟨"BoundCode$Method", "fail", "(II)V"⟩ : MethodName)) ∈ gtbl := gu (in_t2 (List.mem_of_getElem? (i := 211) (by decide +kernel))) rfl
theorem w516 : (Cond.instanceMethod (⟨"BoundCode$Method", "fail", "(II)V"⟩ : MethodName)) ∈ gtbl := gu (in_t2 (List.mem_of_getElem? (i := 212) (by decide +kernel))) rfl
theorem w517 : (Cond.selects "BoundCode$Method" (⟨"BoundCode$Method", "fail", "(II)V"⟩ : MethodName) (⟨"BoundCode$Method", "fail", "(II)V"⟩ : MethodName)) ∈ gtbl := gu (in_t2 (List.mem_of_getElem? (i := 213) (by decide +kernel))) rfl
theorem w518 : (Cond.code (⟨"BoundCode$Method", "fail", "(II)V"⟩ : MethodName) prog_6_method_8_code 3 (none : Option FieldType)) ∈ gtbl := gu (in_t2 (List.mem_of_getElem? (i := 214) (by decide +kernel))) rfl
theorem w519 : (Cond.methodLink "BoundCode$Checker" 48 (⟨"BoundCode$Checker", "pairLoops", "(LBoundCode$Method;)V"⟩ : MethodName)) ∈ gtbl := gu (in_t2 (List.mem_of_getElem? (i := 215) (by decide +kernel))) rfl
theorem w521 : (Cond.instanceMethod (⟨"BoundCode$Checker", "pairLoops", "(LBoundCode$Method;)V"⟩ : MethodName)) ∈ gtbl := gu (in_t2 (List.mem_of_getElem? (i := 217) (by decide +kernel))) rfl
theorem w522 : (Cond.code (⟨"BoundCode$Checker", "pairLoops", "(LBoundCode$Method;)V"⟩ : MethodName) prog_4_method_4_code 4 (none : Option FieldType)) ∈ gtbl := gu (in_t2 (List.mem_of_getElem? (i := 218) (by decide +kernel))) rfl
theorem w523 : (Cond.methodLink "BoundCode$Checker" 51 (⟨"BoundCode$Checker", "findFaultOfForm", "(LBoundCode$Method;)V"⟩ : MethodName)) ∈ gtbl := gu (in_t2 (List.mem_of_getElem? (i := 219) (by decide +kernel))) rfl
theorem w525 : (Cond.instanceMethod (⟨"BoundCode$Checker", "findFaultOfForm", "(LBoundCode$Method;)V"⟩ : MethodName)) ∈ gtbl := gu (in_t2 (List.mem_of_getElem? (i := 221) (by decide +kernel))) rfl
theorem w526 : (Cond.code (⟨"BoundCode$Checker", "findFaultOfForm", "(LBoundCode$Method;)V"⟩ : MethodName) prog_4_method_5_code 4 (none : Option FieldType)) ∈ gtbl := gu (in_t2 (List.mem_of_getElem? (i := 222) (by decide +kernel))) rfl
theorem w527 : (Cond.methodLink "BoundCode$Checker" 70 (⟨"BoundCode$Checker", "faultOfForm", "(LBoundCode$Method;I)I"⟩ : MethodName)) ∈ gtbl := gu (in_t2 (List.mem_of_getElem? (i := 223) (by decide +kernel))) rfl
theorem w529 : (Cond.instanceMethod (⟨"BoundCode$Checker", "faultOfForm", "(LBoundCode$Method;I)I"⟩ : MethodName)) ∈ gtbl := gu (in_t2 (List.mem_of_getElem? (i := 225) (by decide +kernel))) rfl
theorem w530 : (Cond.code (⟨"BoundCode$Checker", "faultOfForm", "(LBoundCode$Method;I)I"⟩ : MethodName) prog_4_method_6_code 5 (some FieldType.int)) ∈ gtbl := gu (in_t2 (List.mem_of_getElem? (i := 226) (by decide +kernel))) rfl
theorem w531 : (Cond.methodLink "BoundCode$Checker" 78 (⟨"BoundCode$Checker", "hasForm", "(LBoundCode$Method;IJ)Z"⟩ : MethodName)) ∈ gtbl := gu (in_t2 (List.mem_of_getElem? (i := 227) (by decide +kernel))) rfl
theorem w533 : (Cond.instanceMethod (⟨"BoundCode$Checker", "hasForm", "(LBoundCode$Method;IJ)Z"⟩ : MethodName)) ∈ gtbl := gu (in_t2 (List.mem_of_getElem? (i := 229) (by decide +kernel))) rfl
theorem w534 : (Cond.code (⟨"BoundCode$Checker", "hasForm", "(LBoundCode$Method;IJ)Z"⟩ : MethodName) prog_4_method_7_code 5 (some FieldType.boolean)) ∈ gtbl := gu (in_t2 (List.mem_of_getElem? (i := 230) (by decide +kernel))) rfl
theorem w535 : (Cond.constantLong "BoundCode$Checker" 85 100) ∈ gtbl := gu (in_t2 (List.mem_of_getElem? (i := 231) (by decide +kernel))) rfl
theorem w536 : (Cond.methodLink "BoundCode$Checker" 87 (⟨"BoundCode$Method", "has", "(J)Z"⟩ : MethodName)) ∈ gtbl := gu (in_t2 (List.mem_of_getElem? (i := 232) (by decide +kernel))) rfl
theorem w537 : (Cond.constantLong "BoundCode$Checker" 91 1000000000) ∈ gtbl := gu (in_t2 (List.mem_of_getElem? (i := 233) (by decide +kernel))) rfl
theorem w538 : (Cond.methodLinkNest "BoundCode$Checker" 93 (⟨"BoundCode", "isOperation", "(I)Z"⟩ : MethodName) "BoundCode") ∈ ntbl := nu (in_t2 (List.mem_of_getElem? (i := 234) (by decide +kernel))) rfl
theorem w539 : (Cond.methodLink "BoundCode$Checker" 54 (⟨"BoundCode$Method", "isSound", "()Z"⟩ : MethodName)) ∈ gtbl := gu (in_t2 (List.mem_of_getElem? (i := 235) (by decide +kernel))) rfl
theorem w540 : (Cond.instanceMethod (⟨"BoundCode$Method", "isSound", "()Z"⟩ : MethodName)) ∈ gtbl := gu (in_t2 (List.mem_of_getElem? (i := 236) (by decide +kernel))) rfl
theorem w541 : (Cond.selects "BoundCode$Method" (⟨"BoundCode$Method", "isSound", "()Z"⟩ : MethodName) (⟨"BoundCode$Method", "isSound", "()Z"⟩ : MethodName)) ∈ gtbl := gu (in_t2 (List.mem_of_getElem? (i := 237) (by decide +kernel))) rfl
theorem w542 : (Cond.code (⟨"BoundCode$Method", "isSound", "()Z"⟩ : MethodName) prog_6_method_5_code 1 (some FieldType.boolean)) ∈ gtbl := gu (in_t2 (List.mem_of_getElem? (i := 238) (by decide +kernel))) rfl
theorem w543 : (Cond.methodLink "BoundCode$Checker" 58 (⟨"BoundCode$Checker", "findHeights", "(LBoundCode$Method;)V"⟩ : MethodName)) ∈ gtbl := gu (in_t2 (List.mem_of_getElem? (i := 239) (by decide +kernel))) rfl
theorem w545 : (Cond.instanceMethod (⟨"BoundCode$Checker", "findHeights", "(LBoundCode$Method;)V"⟩ : MethodName)) ∈ gtbl := gu (in_t3 (List.mem_of_getElem? (i := 1) (by decide +kernel))) rfl
theorem w546 : (Cond.code (⟨"BoundCode$Checker", "findHeights", "(LBoundCode$Method;)V"⟩ : MethodName) prog_4_method_8_code 4 (none : Option FieldType)) ∈ gtbl := gu (in_t3 (List.mem_of_getElem? (i := 2) (by decide +kernel))) rfl
theorem w547 : (Cond.methodLink "BoundCode$Checker" 100 (⟨"java/util/Arrays", "fill", "([II)V"⟩ : MethodName)) ∈ gtbl := gu (in_t3 (List.mem_of_getElem? (i := 3) (by decide +kernel))) rfl
theorem w548 : (Cond.methodLink "BoundCode$Checker" 106 (⟨"BoundCode$Checker", "faultOfHeight", "(LBoundCode$Method;I)I"⟩ : MethodName)) ∈ gtbl := gu (in_t3 (List.mem_of_getElem? (i := 4) (by decide +kernel))) rfl
theorem w550 : (Cond.instanceMethod (⟨"BoundCode$Checker", "faultOfHeight", "(LBoundCode$Method;I)I"⟩ : MethodName)) ∈ gtbl := gu (in_t3 (List.mem_of_getElem? (i := 6) (by decide +kernel))) rfl
theorem w551 : (Cond.code (⟨"BoundCode$Checker", "faultOfHeight", "(LBoundCode$Method;I)I"⟩ : MethodName) prog_4_method_9_code 7 (some FieldType.int)) ∈ gtbl := gu (in_t3 (List.mem_of_getElem? (i := 7) (by decide +kernel))) rfl
theorem w552 : (Cond.methodLink "BoundCode$Checker" 109 (⟨"BoundCode$Checker", "takenBy", "(LBoundCode$Method;I)I"⟩ : MethodName)) ∈ gtbl := gu (in_t3 (List.mem_of_getElem? (i := 8) (by decide +kernel))) rfl
theorem w554 : (Cond.instanceMethod (⟨"BoundCode$Checker", "takenBy", "(LBoundCode$Method;I)I"⟩ : MethodName)) ∈ gtbl := gu (in_t3 (List.mem_of_getElem? (i := 10) (by decide +kernel))) rfl
theorem w555 : (Cond.code (⟨"BoundCode$Checker", "takenBy", "(LBoundCode$Method;I)I"⟩ : MethodName) prog_4_method_11_code 4 (some FieldType.int)) ∈ gtbl := gu (in_t3 (List.mem_of_getElem? (i := 11) (by decide +kernel))) rfl
theorem w556 : (Cond.fieldLink "BoundCode$Checker" 129 "BoundCode$Checker" "TAKES" "[I") ∈ gtbl := gu (in_t3 (List.mem_of_getElem? (i := 12) (by decide +kernel))) rfl
theorem w558 : (Cond.methodLink "BoundCode$Checker" 112 (⟨"BoundCode$Checker", "givenBy", "(LBoundCode$Method;I)I"⟩ : MethodName)) ∈ gtbl := gu (in_t3 (List.mem_of_getElem? (i := 14) (by decide +kernel))) rfl
theorem w560 : (Cond.instanceMethod (⟨"BoundCode$Checker", "givenBy", "(LBoundCode$Method;I)I"⟩ : MethodName)) ∈ gtbl := gu (in_t3 (List.mem_of_getElem? (i := 16) (by decide +kernel))) rfl
theorem w561 : (Cond.code (⟨"BoundCode$Checker", "givenBy", "(LBoundCode$Method;I)I"⟩ : MethodName) prog_4_method_12_code 4 (some FieldType.int)) ∈ gtbl := gu (in_t3 (List.mem_of_getElem? (i := 17) (by decide +kernel))) rfl
theorem w562 : (Cond.fieldLink "BoundCode$Checker" 132 "BoundCode$Checker" "GIVES" "[I") ∈ gtbl := gu (in_t3 (List.mem_of_getElem? (i := 18) (by decide +kernel))) rfl
theorem w564 : (Cond.methodLink "BoundCode$Checker" 115 (⟨"BoundCode$Checker", "lead", "(LBoundCode$Method;JI)I"⟩ : MethodName)) ∈ gtbl := gu (in_t3 (List.mem_of_getElem? (i := 20) (by decide +kernel))) rfl
theorem w566 : (Cond.instanceMethod (⟨"BoundCode$Checker", "lead", "(LBoundCode$Method;JI)I"⟩ : MethodName)) ∈ gtbl := gu (in_t3 (List.mem_of_getElem? (i := 22) (by decide +kernel))) rfl
theorem w567 : (Cond.code (⟨"BoundCode$Checker", "lead", "(LBoundCode$Method;JI)I"⟩ : MethodName) prog_4_method_10_code 6 (some FieldType.int)) ∈ gtbl := gu (in_t3 (List.mem_of_getElem? (i := 23) (by decide +kernel))) rfl
theorem w568 : (Cond.methodLink "BoundCode$Checker" 119 (⟨"BoundCode$Method", "heightAt", "(I)I"⟩ : MethodName)) ∈ gtbl := gu (in_t3 (List.mem_of_getElem? (i := 24) (by decide +kernel))) rfl
theorem w569 : (Cond.instanceMethod (⟨"BoundCode$Method", "heightAt", "(I)I"⟩ : MethodName)) ∈ gtbl := gu (in_t3 (List.mem_of_getElem? (i := 25) (by decide +kernel))) rfl
theorem w570 : (Cond.selects "BoundCode$Method" (⟨"BoundCode$Method", "heightAt", "(I)I"⟩ : MethodName) (⟨"BoundCode$Method", "heightAt", "(I)I"⟩ : MethodName)) ∈ gtbl := gu (in_t3 (List.mem_of_getElem? (i := 26) (by decide +kernel))) rfl
theorem w571 : (Cond.code (⟨"BoundCode$Method", "heightAt", "(I)I"⟩ : MethodName) prog_6_method_3_code 2 (some FieldType.int)) ∈ gtbl := gu (in_t3 (List.mem_of_getElem? (i := 27) (by decide +kernel))) rfl
theorem w572 : (Cond.methodLink "BoundCodeLaw" 98 (⟨"BoundCodeLaw", "height", "(LBoundCode;II[J)I"⟩ : MethodName)) ∈ gtbl := gu (in_t3 (List.mem_of_getElem? (i := 28) (by decide +kernel))) rfl
theorem w573 : (Cond.static (⟨"BoundCodeLaw", "height", "(LBoundCode;II[J)I"⟩ : MethodName)) ∈ gtbl := gu (in_t3 (List.mem_of_getElem? (i := 29) (by decide +kernel))) rfl
theorem w574 : (Cond.codeWith (⟨"BoundCodeLaw", "height", "(LBoundCode;II[J)I"⟩ : MethodName) method_8_code 5 (some FieldType.int) [(0, 10, 13, 19)]) ∈ gtbl := gu (in_t3 (List.mem_of_getElem? (i := 30) (by decide +kernel))) rfl
theorem w575 : (Cond.methodLink "BoundCodeLaw" 33 (⟨"BoundCode", "height", "(II)I"⟩ : MethodName)) ∈ gtbl := gu (in_t3 (List.mem_of_getElem? (i := 31) (by decide +kernel))) rfl
theorem w576 : (Cond.instanceMethod (⟨"BoundCode", "height", "(II)I"⟩ : MethodName)) ∈ gtbl := gu (in_t3 (List.mem_of_getElem? (i := 32) (by decide +kernel))) rfl
theorem w577 : (Cond.selects "BoundCode" (⟨"BoundCode", "height", "(II)I"⟩ : MethodName) (⟨"BoundCode", "height", "(II)I"⟩ : MethodName)) ∈ gtbl := gu (in_t3 (List.mem_of_getElem? (i := 33) (by decide +kernel))) rfl
theorem w578 : (Cond.code (⟨"BoundCode", "height", "(II)I"⟩ : MethodName) prog_1_method_8_code 4 (some FieldType.int)) ∈ gtbl := gu (in_t3 (List.mem_of_getElem? (i := 34) (by decide +kernel))) rfl
theorem w579 : (Cond.methodLink "BoundCode" 113 (⟨"BoundCode$Method", "isSound", "()Z"⟩ : MethodName)) ∈ gtbl := gu (in_t3 (List.mem_of_getElem? (i := 35) (by decide +kernel))) rfl
theorem w580 : (Cond.methodLink "BoundCode" 116 (⟨"BoundCode$Method", "heightAt", "(I)I"⟩ : MethodName)) ∈ gtbl := gu (in_t3 (List.mem_of_getElem? (i := 36) (by decide +kernel))) rfl
theorem w581 : (Cond.methodLink "BoundCodeLaw" 101 (⟨"BoundCodeLaw", "analyse", "(LBoundCode;I[J)I"⟩ : MethodName)) ∈ gtbl := gu (in_t3 (List.mem_of_getElem? (i := 37) (by decide +kernel))) rfl
theorem w582 : (Cond.static (⟨"BoundCodeLaw", "analyse", "(LBoundCode;I[J)I"⟩ : MethodName)) ∈ gtbl := gu (in_t3 (List.mem_of_getElem? (i := 38) (by decide +kernel))) rfl
theorem w583 : (Cond.codeWith (⟨"BoundCodeLaw", "analyse", "(LBoundCode;I[J)I"⟩ : MethodName) method_9_code 4 (some FieldType.int) [(0, 9, 12, 19)]) ∈ gtbl := gu (in_t3 (List.mem_of_getElem? (i := 39) (by decide +kernel))) rfl
theorem w584 : (Cond.methodLink "BoundCodeLaw" 36 (⟨"BoundCode", "analyse", "(I)I"⟩ : MethodName)) ∈ gtbl := gu (in_t3 (List.mem_of_getElem? (i := 40) (by decide +kernel))) rfl
theorem w585 : (Cond.instanceMethod (⟨"BoundCode", "analyse", "(I)I"⟩ : MethodName)) ∈ gtbl := gu (in_t3 (List.mem_of_getElem? (i := 41) (by decide +kernel))) rfl
theorem w586 : (Cond.selects "BoundCode" (⟨"BoundCode", "analyse", "(I)I"⟩ : MethodName) (⟨"BoundCode", "analyse", "(I)I"⟩ : MethodName)) ∈ gtbl := gu (in_t3 (List.mem_of_getElem? (i := 42) (by decide +kernel))) rfl
theorem w587 : (Cond.code (⟨"BoundCode", "analyse", "(I)I"⟩ : MethodName) prog_1_method_9_code 2 (some FieldType.int)) ∈ gtbl := gu (in_t3 (List.mem_of_getElem? (i := 43) (by decide +kernel))) rfl
theorem w588 : (Cond.methodLink "BoundCode" 120 (⟨"BoundCode$Analyser", "analyseFrom", "(I)I"⟩ : MethodName)) ∈ gtbl := gu (in_t3 (List.mem_of_getElem? (i := 44) (by decide +kernel))) rfl
theorem w589 : (Cond.instanceMethod (⟨"BoundCode$Analyser", "analyseFrom", "(I)I"⟩ : MethodName)) ∈ gtbl := gu (in_t3 (List.mem_of_getElem? (i := 45) (by decide +kernel))) rfl
theorem w590 : (Cond.selects "BoundCode$Analyser" (⟨"BoundCode$Analyser", "analyseFrom", "(I)I"⟩ : MethodName) (⟨"BoundCode$Analyser", "analyseFrom", "(I)I"⟩ : MethodName)) ∈ gtbl := gu (in_t3 (List.mem_of_getElem? (i := 46) (by decide +kernel))) rfl
theorem w591 : (Cond.code (⟨"BoundCode$Analyser", "analyseFrom", "(I)I"⟩ : MethodName) prog_2_method_2_code 2 (some FieldType.int)) ∈ gtbl := gu (in_t3 (List.mem_of_getElem? (i := 47) (by decide +kernel))) rfl
theorem w592 : (Cond.methodLink "BoundCode$Analyser" 42 (⟨"BoundCode$Analyser", "followCalls", "()V"⟩ : MethodName)) ∈ gtbl := gu (in_t3 (List.mem_of_getElem? (i := 48) (by decide +kernel))) rfl
theorem w594 : (Cond.instanceMethod (⟨"BoundCode$Analyser", "followCalls", "()V"⟩ : MethodName)) ∈ gtbl := gu (in_t3 (List.mem_of_getElem? (i := 50) (by decide +kernel))) rfl
theorem w595 : (Cond.code (⟨"BoundCode$Analyser", "followCalls", "()V"⟩ : MethodName) prog_2_method_5_code 3 (none : Option FieldType)) ∈ gtbl := gu (in_t3 (List.mem_of_getElem? (i := 51) (by decide +kernel))) rfl
theorem w596 : (Cond.methodLink "BoundCode$Analyser" 80 (⟨"BoundCode$Program", "find", "(J)LBoundCode$Method;"⟩ : MethodName)) ∈ gtbl := gu (in_t3 (List.mem_of_getElem? (i := 52) (by decide +kernel))) rfl
theorem w597 : (Cond.methodLink "BoundCode$Analyser" 84 (⟨"BoundCode$Analyser", "callsOf", "(LBoundCode$Method;)I"⟩ : MethodName)) ∈ gtbl := gu (in_t3 (List.mem_of_getElem? (i := 53) (by decide +kernel))) rfl
theorem w599 : (Cond.instanceMethod (⟨"BoundCode$Analyser", "callsOf", "(LBoundCode$Method;)I"⟩ : MethodName)) ∈ gtbl := gu (in_t3 (List.mem_of_getElem? (i := 55) (by decide +kernel))) rfl
theorem w600 : (Cond.code (⟨"BoundCode$Analyser", "callsOf", "(LBoundCode$Method;)I"⟩ : MethodName) prog_2_method_6_code 4 (some FieldType.int)) ∈ gtbl := gu (in_t3 (List.mem_of_getElem? (i := 56) (by decide +kernel))) rfl
theorem w601 : (Cond.methodLink "BoundCode$Analyser" 88 (⟨"BoundCode$Method", "isSound", "()Z"⟩ : MethodName)) ∈ gtbl := gu (in_t3 (List.mem_of_getElem? (i := 57) (by decide +kernel))) rfl
theorem w602 : (Cond.methodLink "BoundCode$Analyser" 99 (⟨"BoundCode$Method", "isMet", "(I)Z"⟩ : MethodName)) ∈ gtbl := gu (in_t3 (List.mem_of_getElem? (i := 58) (by decide +kernel))) rfl
theorem w603 : (Cond.instanceMethod (⟨"BoundCode$Method", "isMet", "(I)Z"⟩ : MethodName)) ∈ gtbl := gu (in_t3 (List.mem_of_getElem? (i := 59) (by decide +kernel))) rfl
theorem w604 : (Cond.selects "BoundCode$Method" (⟨"BoundCode$Method", "isMet", "(I)Z"⟩ : MethodName) (⟨"BoundCode$Method", "isMet", "(I)Z"⟩ : MethodName)) ∈ gtbl := gu (in_t3 (List.mem_of_getElem? (i := 60) (by decide +kernel))) rfl
theorem w605 : (Cond.code (⟨"BoundCode$Method", "isMet", "(I)Z"⟩ : MethodName) prog_6_method_4_code 2 (some FieldType.boolean)) ∈ gtbl := gu (in_t3 (List.mem_of_getElem? (i := 61) (by decide +kernel))) rfl
theorem w606 : (Cond.methodLink "BoundCode$Method" 51 (⟨"BoundCode$Method", "heightAt", "(I)I"⟩ : MethodName)) ∈ gtbl := gu (in_t3 (List.mem_of_getElem? (i := 62) (by decide +kernel))) rfl
theorem w607 : (Cond.methodLink "BoundCode$Analyser" 45 (⟨"BoundCode$Analyser", "bit", "(I)I"⟩ : MethodName)) ∈ gtbl := gu (in_t3 (List.mem_of_getElem? (i := 63) (by decide +kernel))) rfl
theorem w608 : (Cond.static (⟨"BoundCode$Analyser", "bit", "(I)I"⟩ : MethodName)) ∈ gtbl := gu (in_t3 (List.mem_of_getElem? (i := 64) (by decide +kernel))) rfl
theorem w609 : (Cond.code (⟨"BoundCode$Analyser", "bit", "(I)I"⟩ : MethodName) prog_2_method_10_code 1 (some FieldType.int)) ∈ gtbl := gu (in_t3 (List.mem_of_getElem? (i := 65) (by decide +kernel))) rfl
theorem w610 : (Cond.methodLink "BoundCode$Analyser" 60 (⟨"BoundCode$Analyser", "isIn", "(II)Z"⟩ : MethodName)) ∈ gtbl := gu (in_t3 (List.mem_of_getElem? (i := 66) (by decide +kernel))) rfl
theorem w611 : (Cond.static (⟨"BoundCode$Analyser", "isIn", "(II)Z"⟩ : MethodName)) ∈ gtbl := gu (in_t3 (List.mem_of_getElem? (i := 67) (by decide +kernel))) rfl
theorem w612 : (Cond.code (⟨"BoundCode$Analyser", "isIn", "(II)Z"⟩ : MethodName) prog_2_method_11_code 2 (some FieldType.boolean)) ∈ gtbl := gu (in_t3 (List.mem_of_getElem? (i := 68) (by decide +kernel))) rfl
theorem w613 : (Cond.methodLink "BoundCode$Analyser" 49 (⟨"BoundCode$Analyser", "faultyOnes", "()I"⟩ : MethodName)) ∈ gtbl := gu (in_t3 (List.mem_of_getElem? (i := 69) (by decide +kernel))) rfl
theorem w615 : (Cond.instanceMethod (⟨"BoundCode$Analyser", "faultyOnes", "()I"⟩ : MethodName)) ∈ gtbl := gu (in_t3 (List.mem_of_getElem? (i := 71) (by decide +kernel))) rfl
theorem w616 : (Cond.code (⟨"BoundCode$Analyser", "faultyOnes", "()I"⟩ : MethodName) prog_2_method_7_code 4 (some FieldType.int)) ∈ gtbl := gu (in_t3 (List.mem_of_getElem? (i := 72) (by decide +kernel))) rfl
theorem w617 : (Cond.methodLink "BoundCode$Analyser" 53 (⟨"BoundCode$Analyser", "circularOnes", "()I"⟩ : MethodName)) ∈ gtbl := gu (in_t3 (List.mem_of_getElem? (i := 73) (by decide +kernel))) rfl
theorem w619 : (Cond.instanceMethod (⟨"BoundCode$Analyser", "circularOnes", "()I"⟩ : MethodName)) ∈ gtbl := gu (in_t3 (List.mem_of_getElem? (i := 75) (by decide +kernel))) rfl
theorem w620 : (Cond.code (⟨"BoundCode$Analyser", "circularOnes", "()I"⟩ : MethodName) prog_2_method_8_code 3 (some FieldType.int)) ∈ gtbl := gu (in_t3 (List.mem_of_getElem? (i := 76) (by decide +kernel))) rfl
theorem w621 : (Cond.methodLink "BoundCode$Analyser" 56 (⟨"BoundCode$Analyser", "countBounds", "()Z"⟩ : MethodName)) ∈ gtbl := gu (in_t3 (List.mem_of_getElem? (i := 77) (by decide +kernel))) rfl
theorem w623 : (Cond.instanceMethod (⟨"BoundCode$Analyser", "countBounds", "()Z"⟩ : MethodName)) ∈ gtbl := gu (in_t3 (List.mem_of_getElem? (i := 79) (by decide +kernel))) rfl
theorem w624 : (Cond.code (⟨"BoundCode$Analyser", "countBounds", "()Z"⟩ : MethodName) prog_2_method_9_code 6 (some FieldType.boolean)) ∈ gtbl := gu (in_t3 (List.mem_of_getElem? (i := 80) (by decide +kernel))) rfl
theorem w625 : (Cond.methodLink "BoundCode$Analyser" 106 (⟨"BoundCode$Bounds", "stackOf", "(LBoundCode$Method;)J"⟩ : MethodName)) ∈ gtbl := gu (in_t3 (List.mem_of_getElem? (i := 81) (by decide +kernel))) rfl
theorem w626 : (Cond.instanceMethod (⟨"BoundCode$Bounds", "stackOf", "(LBoundCode$Method;)J"⟩ : MethodName)) ∈ gtbl := gu (in_t3 (List.mem_of_getElem? (i := 82) (by decide +kernel))) rfl
theorem w627 : (Cond.selects "BoundCode$Bounds" (⟨"BoundCode$Bounds", "stackOf", "(LBoundCode$Method;)J"⟩ : MethodName) (⟨"BoundCode$Bounds", "stackOf", "(LBoundCode$Method;)J"⟩ : MethodName)) ∈ gtbl := gu (in_t3 (List.mem_of_getElem? (i := 83) (by decide +kernel))) rfl
theorem w628 : (Cond.code (⟨"BoundCode$Bounds", "stackOf", "(LBoundCode$Method;)J"⟩ : MethodName) prog_3_method_2_code 5 (some FieldType.long)) ∈ gtbl := gu (in_t3 (List.mem_of_getElem? (i := 84) (by decide +kernel))) rfl
theorem w629 : (Cond.methodLink "BoundCode$Bounds" 34 (⟨"BoundCode$Method", "isMet", "(I)Z"⟩ : MethodName)) ∈ gtbl := gu (in_t3 (List.mem_of_getElem? (i := 85) (by decide +kernel))) rfl
theorem w630 : (Cond.methodLink "BoundCode$Bounds" 45 (⟨"java/lang/Math", "max", "(JJ)J"⟩ : MethodName)) ∈ gtbl := gu (in_t3 (List.mem_of_getElem? (i := 86) (by decide +kernel))) rfl
theorem w631 : (Cond.static (⟨"java/lang/Math", "max", "(JJ)J"⟩ : MethodName)) ∈ gtbl := gu (in_t3 (List.mem_of_getElem? (i := 87) (by decide +kernel))) rfl
theorem w632 : (Cond.code (⟨"java/lang/Math", "max", "(JJ)J"⟩ : MethodName) prog_14_method_66_code 4 (some FieldType.long)) ∈ gtbl := gu (in_t3 (List.mem_of_getElem? (i := 88) (by decide +kernel))) rfl
theorem w633 : (Cond.methodLink "BoundCode$Bounds" 51 (⟨"BoundCode$Bounds", "stackOfCall", "(LBoundCode$Method;I)J"⟩ : MethodName)) ∈ gtbl := gu (in_t3 (List.mem_of_getElem? (i := 89) (by decide +kernel))) rfl
theorem w635 : (Cond.instanceMethod (⟨"BoundCode$Bounds", "stackOfCall", "(LBoundCode$Method;I)J"⟩ : MethodName)) ∈ gtbl := gu (in_t3 (List.mem_of_getElem? (i := 91) (by decide +kernel))) rfl
theorem w636 : (Cond.code (⟨"BoundCode$Bounds", "stackOfCall", "(LBoundCode$Method;I)J"⟩ : MethodName) prog_3_method_3_code 4 (some FieldType.long)) ∈ gtbl := gu (in_t3 (List.mem_of_getElem? (i := 92) (by decide +kernel))) rfl
theorem w637 : (Cond.methodLink "BoundCode$Bounds" 61 (⟨"BoundCode$Program", "find", "(J)LBoundCode$Method;"⟩ : MethodName)) ∈ gtbl := gu (in_t3 (List.mem_of_getElem? (i := 93) (by decide +kernel))) rfl
theorem w638 : (Cond.methodLink "BoundCode$Analyser" 110 (⟨"BoundCode$Bounds", "timeOf", "(LBoundCode$Method;)J"⟩ : MethodName)) ∈ gtbl := gu (in_t3 (List.mem_of_getElem? (i := 94) (by decide +kernel))) rfl
theorem w639 : (Cond.instanceMethod (⟨"BoundCode$Bounds", "timeOf", "(LBoundCode$Method;)J"⟩ : MethodName)) ∈ gtbl := gu (in_t3 (List.mem_of_getElem? (i := 95) (by decide +kernel))) rfl
theorem w640 : (Cond.selects "BoundCode$Bounds" (⟨"BoundCode$Bounds", "timeOf", "(LBoundCode$Method;)J"⟩ : MethodName) (⟨"BoundCode$Bounds", "timeOf", "(LBoundCode$Method;)J"⟩ : MethodName)) ∈ gtbl := gu (in_t3 (List.mem_of_getElem? (i := 96) (by decide +kernel))) rfl
theorem w641 : (Cond.code (⟨"BoundCode$Bounds", "timeOf", "(LBoundCode$Method;)J"⟩ : MethodName) prog_3_method_4_code 3 (some FieldType.long)) ∈ gtbl := gu (in_t3 (List.mem_of_getElem? (i := 97) (by decide +kernel))) rfl
theorem w642 : (Cond.constantLong "BoundCode$Bounds" 70 (-1)) ∈ gtbl := gu (in_t3 (List.mem_of_getElem? (i := 98) (by decide +kernel))) rfl
theorem w643 : (Cond.methodLink "BoundCode$Bounds" 72 (⟨"BoundCode$Bounds", "lengthen", "(LBoundCode$Method;I)V"⟩ : MethodName)) ∈ gtbl := gu (in_t3 (List.mem_of_getElem? (i := 99) (by decide +kernel))) rfl
theorem w645 : (Cond.instanceMethod (⟨"BoundCode$Bounds", "lengthen", "(LBoundCode$Method;I)V"⟩ : MethodName)) ∈ gtbl := gu (in_t3 (List.mem_of_getElem? (i := 101) (by decide +kernel))) rfl
theorem w646 : (Cond.code (⟨"BoundCode$Bounds", "lengthen", "(LBoundCode$Method;I)V"⟩ : MethodName) prog_3_method_5_code 5 (none : Option FieldType)) ∈ gtbl := gu (in_t3 (List.mem_of_getElem? (i := 102) (by decide +kernel))) rfl
theorem w647 : (Cond.methodLink "BoundCode$Bounds" 76 (⟨"BoundCode$Program", "costOf", "(I)I"⟩ : MethodName)) ∈ gtbl := gu (in_t3 (List.mem_of_getElem? (i := 103) (by decide +kernel))) rfl
theorem w648 : (Cond.methodLink "BoundCode$Bounds" 80 (⟨"BoundCode$Bounds", "goTo", "(IJI)V"⟩ : MethodName)) ∈ gtbl := gu (in_t3 (List.mem_of_getElem? (i := 104) (by decide +kernel))) rfl
theorem w650 : (Cond.instanceMethod (⟨"BoundCode$Bounds", "goTo", "(IJI)V"⟩ : MethodName)) ∈ gtbl := gu (in_t3 (List.mem_of_getElem? (i := 106) (by decide +kernel))) rfl
theorem w651 : (Cond.code (⟨"BoundCode$Bounds", "goTo", "(IJI)V"⟩ : MethodName) prog_3_method_7_code 5 (none : Option FieldType)) ∈ gtbl := gu (in_t3 (List.mem_of_getElem? (i := 107) (by decide +kernel))) rfl
theorem w652 : (Cond.methodLink "BoundCode$Bounds" 94 (⟨"BoundCode$Bounds", "plus", "(JJ)J"⟩ : MethodName)) ∈ gtbl := gu (in_t3 (List.mem_of_getElem? (i := 108) (by decide +kernel))) rfl
theorem w653 : (Cond.static (⟨"BoundCode$Bounds", "plus", "(JJ)J"⟩ : MethodName)) ∈ gtbl := gu (in_t3 (List.mem_of_getElem? (i := 109) (by decide +kernel))) rfl
theorem w654 : (Cond.code (⟨"BoundCode$Bounds", "plus", "(JJ)J"⟩ : MethodName) prog_3_method_9_code 4 (some FieldType.long)) ∈ gtbl := gu (in_t3 (List.mem_of_getElem? (i := 110) (by decide +kernel))) rfl
theorem w655 : (Cond.constantLong "BoundCode$Bounds" 103 (-2)) ∈ gtbl := gu (in_t3 (List.mem_of_getElem? (i := 111) (by decide +kernel))) rfl
theorem w656 : (Cond.methodLink "BoundCode$Bounds" 97 (⟨"BoundCode$Bounds", "greater", "(JJ)J"⟩ : MethodName)) ∈ gtbl := gu (in_t3 (List.mem_of_getElem? (i := 112) (by decide +kernel))) rfl
theorem w657 : (Cond.static (⟨"BoundCode$Bounds", "greater", "(JJ)J"⟩ : MethodName)) ∈ gtbl := gu (in_t3 (List.mem_of_getElem? (i := 113) (by decide +kernel))) rfl
theorem w658 : (Cond.code (⟨"BoundCode$Bounds", "greater", "(JJ)J"⟩ : MethodName) prog_3_method_11_code 4 (some FieldType.long)) ∈ gtbl := gu (in_t3 (List.mem_of_getElem? (i := 114) (by decide +kernel))) rfl
theorem w659 : (Cond.methodLink "BoundCode$Bounds" 84 (⟨"BoundCode$Bounds", "goThrough", "(LBoundCode$Method;IJ)V"⟩ : MethodName)) ∈ gtbl := gu (in_t3 (List.mem_of_getElem? (i := 115) (by decide +kernel))) rfl
theorem w661 : (Cond.instanceMethod (⟨"BoundCode$Bounds", "goThrough", "(LBoundCode$Method;IJ)V"⟩ : MethodName)) ∈ gtbl := gu (in_t3 (List.mem_of_getElem? (i := 117) (by decide +kernel))) rfl
theorem w662 : (Cond.code (⟨"BoundCode$Bounds", "goThrough", "(LBoundCode$Method;IJ)V"⟩ : MethodName) prog_3_method_8_code 12 (none : Option FieldType)) ∈ gtbl := gu (in_t3 (List.mem_of_getElem? (i := 118) (by decide +kernel))) rfl
theorem w663 : (Cond.methodLink "BoundCode$Bounds" 100 (⟨"BoundCode$Bounds", "repeated", "(JJ)J"⟩ : MethodName)) ∈ gtbl := gu (in_t3 (List.mem_of_getElem? (i := 119) (by decide +kernel))) rfl
theorem w664 : (Cond.static (⟨"BoundCode$Bounds", "repeated", "(JJ)J"⟩ : MethodName)) ∈ gtbl := gu (in_t3 (List.mem_of_getElem? (i := 120) (by decide +kernel))) rfl
theorem w665 : (Cond.code (⟨"BoundCode$Bounds", "repeated", "(JJ)J"⟩ : MethodName) prog_3_method_10_code 4 (some FieldType.long)) ∈ gtbl := gu (in_t3 (List.mem_of_getElem? (i := 121) (by decide +kernel))) rfl
theorem w666 : (Cond.constantLong "BoundCode$Bounds" 107 9223372036854775807) ∈ gtbl := gu (in_t3 (List.mem_of_getElem? (i := 122) (by decide +kernel))) rfl
theorem w667 : (Cond.methodLink "BoundCode$Bounds" 91 (⟨"BoundCode$Bounds", "timeOfCall", "(LBoundCode$Method;I)J"⟩ : MethodName)) ∈ gtbl := gu (in_t3 (List.mem_of_getElem? (i := 123) (by decide +kernel))) rfl
theorem w669 : (Cond.instanceMethod (⟨"BoundCode$Bounds", "timeOfCall", "(LBoundCode$Method;I)J"⟩ : MethodName)) ∈ gtbl := gu (in_t3 (List.mem_of_getElem? (i := 125) (by decide +kernel))) rfl
theorem w670 : (Cond.code (⟨"BoundCode$Bounds", "timeOfCall", "(LBoundCode$Method;I)J"⟩ : MethodName) prog_3_method_6_code 3 (some FieldType.long)) ∈ gtbl := gu (in_t3 (List.mem_of_getElem? (i := 126) (by decide +kernel))) rfl
theorem w671 : (Cond.constantLong "BoundCode$Analyser" 73 (-2)) ∈ gtbl := gu (in_t3 (List.mem_of_getElem? (i := 127) (by decide +kernel))) rfl
theorem w672 : (Cond.methodLink "BoundCodeLaw" 104 (⟨"BoundCodeLaw", "told", "(LBoundCode;II[J)I"⟩ : MethodName)) ∈ gtbl := gu (in_t3 (List.mem_of_getElem? (i := 128) (by decide +kernel))) rfl
theorem w673 : (Cond.static (⟨"BoundCodeLaw", "told", "(LBoundCode;II[J)I"⟩ : MethodName)) ∈ gtbl := gu (in_t3 (List.mem_of_getElem? (i := 129) (by decide +kernel))) rfl
theorem w674 : (Cond.codeWith (⟨"BoundCodeLaw", "told", "(LBoundCode;II[J)I"⟩ : MethodName) method_10_code 5 (some FieldType.int) [(0, 10, 13, 19)]) ∈ gtbl := gu (in_t3 (List.mem_of_getElem? (i := 130) (by decide +kernel))) rfl
theorem w675 : (Cond.methodLink "BoundCodeLaw" 39 (⟨"BoundCode", "told", "(II)I"⟩ : MethodName)) ∈ gtbl := gu (in_t3 (List.mem_of_getElem? (i := 131) (by decide +kernel))) rfl
theorem w676 : (Cond.instanceMethod (⟨"BoundCode", "told", "(II)I"⟩ : MethodName)) ∈ gtbl := gu (in_t3 (List.mem_of_getElem? (i := 132) (by decide +kernel))) rfl
theorem w677 : (Cond.selects "BoundCode" (⟨"BoundCode", "told", "(II)I"⟩ : MethodName) (⟨"BoundCode", "told", "(II)I"⟩ : MethodName)) ∈ gtbl := gu (in_t3 (List.mem_of_getElem? (i := 133) (by decide +kernel))) rfl
theorem w678 : (Cond.code (⟨"BoundCode", "told", "(II)I"⟩ : MethodName) prog_1_method_10_code 3 (some FieldType.int)) ∈ gtbl := gu (in_t3 (List.mem_of_getElem? (i := 134) (by decide +kernel))) rfl
theorem w679 : (Cond.stringRef "BoundCode" 123 "what is 0 .. 2") ∈ lw_tbl := in_t3 (List.mem_of_getElem? (i := 135) (by decide +kernel))
theorem w680 : (Cond.methodLink "BoundCode" 125 (⟨"BoundCode$Analyser", "answer", "(II)I"⟩ : MethodName)) ∈ gtbl := gu (in_t3 (List.mem_of_getElem? (i := 136) (by decide +kernel))) rfl
theorem w681 : (Cond.instanceMethod (⟨"BoundCode$Analyser", "answer", "(II)I"⟩ : MethodName)) ∈ gtbl := gu (in_t3 (List.mem_of_getElem? (i := 137) (by decide +kernel))) rfl
theorem w682 : (Cond.selects "BoundCode$Analyser" (⟨"BoundCode$Analyser", "answer", "(II)I"⟩ : MethodName) (⟨"BoundCode$Analyser", "answer", "(II)I"⟩ : MethodName)) ∈ gtbl := gu (in_t3 (List.mem_of_getElem? (i := 138) (by decide +kernel))) rfl
theorem w683 : (Cond.code (⟨"BoundCode$Analyser", "answer", "(II)I"⟩ : MethodName) prog_2_method_3_code 3 (some FieldType.int)) ∈ gtbl := gu (in_t3 (List.mem_of_getElem? (i := 139) (by decide +kernel))) rfl
theorem w684 : (Cond.methodLink "BoundCodeLaw" 107 (⟨"BoundCodeLaw", "bound", "(LBoundCode;II[J)I"⟩ : MethodName)) ∈ gtbl := gu (in_t3 (List.mem_of_getElem? (i := 140) (by decide +kernel))) rfl
theorem w685 : (Cond.static (⟨"BoundCodeLaw", "bound", "(LBoundCode;II[J)I"⟩ : MethodName)) ∈ gtbl := gu (in_t3 (List.mem_of_getElem? (i := 141) (by decide +kernel))) rfl
theorem w686 : (Cond.codeWith (⟨"BoundCodeLaw", "bound", "(LBoundCode;II[J)I"⟩ : MethodName) method_11_code 5 (some FieldType.int) [(0, 9, 12, 19)]) ∈ gtbl := gu (in_t3 (List.mem_of_getElem? (i := 142) (by decide +kernel))) rfl
theorem w687 : (Cond.methodLink "BoundCodeLaw" 42 (⟨"BoundCode", "bound", "(II)J"⟩ : MethodName)) ∈ gtbl := gu (in_t3 (List.mem_of_getElem? (i := 143) (by decide +kernel))) rfl
theorem w688 : (Cond.instanceMethod (⟨"BoundCode", "bound", "(II)J"⟩ : MethodName)) ∈ gtbl := gu (in_t3 (List.mem_of_getElem? (i := 144) (by decide +kernel))) rfl
theorem w689 : (Cond.selects "BoundCode" (⟨"BoundCode", "bound", "(II)J"⟩ : MethodName) (⟨"BoundCode", "bound", "(II)J"⟩ : MethodName)) ∈ gtbl := gu (in_t3 (List.mem_of_getElem? (i := 145) (by decide +kernel))) rfl
theorem w690 : (Cond.code (⟨"BoundCode", "bound", "(II)J"⟩ : MethodName) prog_1_method_11_code 3 (some FieldType.long)) ∈ gtbl := gu (in_t3 (List.mem_of_getElem? (i := 146) (by decide +kernel))) rfl
theorem w691 : (Cond.stringRef "BoundCode" 128 "what is 0 or 1") ∈ lw_tbl := in_t3 (List.mem_of_getElem? (i := 147) (by decide +kernel))
theorem w692 : (Cond.methodLink "BoundCode" 130 (⟨"BoundCode$Analyser", "boundOf", "(II)J"⟩ : MethodName)) ∈ gtbl := gu (in_t3 (List.mem_of_getElem? (i := 148) (by decide +kernel))) rfl
theorem w693 : (Cond.instanceMethod (⟨"BoundCode$Analyser", "boundOf", "(II)J"⟩ : MethodName)) ∈ gtbl := gu (in_t3 (List.mem_of_getElem? (i := 149) (by decide +kernel))) rfl
theorem w694 : (Cond.selects "BoundCode$Analyser" (⟨"BoundCode$Analyser", "boundOf", "(II)J"⟩ : MethodName) (⟨"BoundCode$Analyser", "boundOf", "(II)J"⟩ : MethodName)) ∈ gtbl := gu (in_t3 (List.mem_of_getElem? (i := 150) (by decide +kernel))) rfl
theorem w695 : (Cond.code (⟨"BoundCode$Analyser", "boundOf", "(II)J"⟩ : MethodName) prog_2_method_4_code 5 (some FieldType.long)) ∈ gtbl := gu (in_t3 (List.mem_of_getElem? (i := 151) (by decide +kernel))) rfl
theorem w696 : (Cond.constantLong "BoundCode$Analyser" 64 (-1)) ∈ gtbl := gu (in_t3 (List.mem_of_getElem? (i := 152) (by decide +kernel))) rfl
theorem w697 : (Cond.methodLink "BoundCodeLaw" 110 (⟨"BoundCodeLaw", "argument", "(LBoundCode;J[J)I"⟩ : MethodName)) ∈ gtbl := gu (in_t3 (List.mem_of_getElem? (i := 153) (by decide +kernel))) rfl
theorem w698 : (Cond.static (⟨"BoundCodeLaw", "argument", "(LBoundCode;J[J)I"⟩ : MethodName)) ∈ gtbl := gu (in_t3 (List.mem_of_getElem? (i := 154) (by decide +kernel))) rfl
theorem w699 : (Cond.codeWith (⟨"BoundCodeLaw", "argument", "(LBoundCode;J[J)I"⟩ : MethodName) method_12_code 5 (some FieldType.int) [(0, 9, 12, 50)]) ∈ gtbl := gu (in_t3 (List.mem_of_getElem? (i := 155) (by decide +kernel))) rfl
theorem w700 : (Cond.classLink "BoundCodeLaw" 50 "java/lang/IllegalStateException") ∈ gtbl := gu (in_t3 (List.mem_of_getElem? (i := 156) (by decide +kernel))) rfl
theorem w701 : (Cond.methodLink "BoundCodeLaw" 46 (⟨"BoundCode", "argument", "(J)I"⟩ : MethodName)) ∈ gtbl := gu (in_t3 (List.mem_of_getElem? (i := 157) (by decide +kernel))) rfl
theorem w702 : (Cond.instanceMethod (⟨"BoundCode", "argument", "(J)I"⟩ : MethodName)) ∈ gtbl := gu (in_t3 (List.mem_of_getElem? (i := 158) (by decide +kernel))) rfl
theorem w703 : (Cond.selects "BoundCode" (⟨"BoundCode", "argument", "(J)I"⟩ : MethodName) (⟨"BoundCode", "argument", "(J)I"⟩ : MethodName)) ∈ gtbl := gu (in_t3 (List.mem_of_getElem? (i := 159) (by decide +kernel))) rfl
theorem w704 : (Cond.code (⟨"BoundCode", "argument", "(J)I"⟩ : MethodName) prog_1_method_12_code 3 (some FieldType.int)) ∈ gtbl := gu (in_t3 (List.mem_of_getElem? (i := 160) (by decide +kernel))) rfl
theorem w705 : (Cond.classLink "BoundCode" 134 "java/lang/IllegalStateException") ∈ gtbl := gu (in_t3 (List.mem_of_getElem? (i := 161) (by decide +kernel))) rfl
theorem w706 : (Cond.instantiable "java/lang/IllegalStateException" 6) ∈ gtbl := gu (in_t3 (List.mem_of_getElem? (i := 162) (by decide +kernel))) rfl
theorem w707 : (Cond.castable "java/lang/IllegalStateException" "java/lang/IllegalStateException") ∈ ntbl := nu (in_t3 (List.mem_of_getElem? (i := 163) (by decide +kernel))) rfl
theorem w708 : (Cond.selects "java/lang/IllegalStateException" (⟨"java/lang/Throwable", "fillInStackTrace", "(I)Ljava/lang/Throwable;"⟩ : MethodName) (⟨"java/lang/Throwable", "fillInStackTrace", "(I)Ljava/lang/Throwable;"⟩ : MethodName)) ∈ gtbl := gu (in_t3 (List.mem_of_getElem? (i := 164) (by decide +kernel))) rfl
theorem w714 : (Cond.stringRef "BoundCode" 136 "there are eight words") ∈ lw_tbl := in_t3 (List.mem_of_getElem? (i := 170) (by decide +kernel))
theorem w715 : (Cond.methodLink "BoundCode" 138 (⟨"java/lang/IllegalStateException", "<init>", "(Ljava/lang/String;)V"⟩ : MethodName)) ∈ gtbl := gu (in_t3 (List.mem_of_getElem? (i := 171) (by decide +kernel))) rfl
theorem w716 : (Cond.instanceMethod (⟨"java/lang/IllegalStateException", "<init>", "(Ljava/lang/String;)V"⟩ : MethodName)) ∈ gtbl := gu (in_t3 (List.mem_of_getElem? (i := 172) (by decide +kernel))) rfl
theorem w717 : (Cond.code (⟨"java/lang/IllegalStateException", "<init>", "(Ljava/lang/String;)V"⟩ : MethodName) prog_12_method_2_code 2 (none : Option FieldType)) ∈ gtbl := gu (in_t3 (List.mem_of_getElem? (i := 173) (by decide +kernel))) rfl
theorem w718 : (Cond.methodLink "java/lang/IllegalStateException" 7 (⟨"java/lang/RuntimeException", "<init>", "(Ljava/lang/String;)V"⟩ : MethodName)) ∈ gtbl := gu (in_t3 (List.mem_of_getElem? (i := 174) (by decide +kernel))) rfl
theorem w721 : (Cond.methodLink "BoundCodeLaw" 114 (⟨"BoundCodeLaw", "run", "(LBoundCode;II[J)I"⟩ : MethodName)) ∈ gtbl := gu (in_t3 (List.mem_of_getElem? (i := 177) (by decide +kernel))) rfl
theorem w722 : (Cond.static (⟨"BoundCodeLaw", "run", "(LBoundCode;II[J)I"⟩ : MethodName)) ∈ gtbl := gu (in_t3 (List.mem_of_getElem? (i := 178) (by decide +kernel))) rfl
theorem w723 : (Cond.codeWith (⟨"BoundCodeLaw", "run", "(LBoundCode;II[J)I"⟩ : MethodName) method_13_code 5 (some FieldType.int) [(0, 10, 13, 19), (0, 10, 17, 13)]) ∈ gtbl := gu (in_t3 (List.mem_of_getElem? (i := 179) (by decide +kernel))) rfl
theorem w724 : (Cond.methodLink "BoundCodeLaw" 52 (⟨"BoundCode", "run", "(II)I"⟩ : MethodName)) ∈ gtbl := gu (in_t3 (List.mem_of_getElem? (i := 180) (by decide +kernel))) rfl
theorem w725 : (Cond.instanceMethod (⟨"BoundCode", "run", "(II)I"⟩ : MethodName)) ∈ gtbl := gu (in_t3 (List.mem_of_getElem? (i := 181) (by decide +kernel))) rfl
theorem w726 : (Cond.selects "BoundCode" (⟨"BoundCode", "run", "(II)I"⟩ : MethodName) (⟨"BoundCode", "run", "(II)I"⟩ : MethodName)) ∈ gtbl := gu (in_t3 (List.mem_of_getElem? (i := 182) (by decide +kernel))) rfl
theorem w727 : (Cond.code (⟨"BoundCode", "run", "(II)I"⟩ : MethodName) prog_1_method_13_code 4 (some FieldType.int)) ∈ gtbl := gu (in_t3 (List.mem_of_getElem? (i := 183) (by decide +kernel))) rfl
theorem w728 : (Cond.stringRef "BoundCode" 142 "there are not as many words as ARGUMENTS") ∈ lw_tbl := in_t3 (List.mem_of_getElem? (i := 184) (by decide +kernel))
theorem w729 : (Cond.constant "BoundCode" 144 100000) ∈ gtbl := gu (in_t3 (List.mem_of_getElem? (i := 185) (by decide +kernel))) rfl
theorem w730 : (Cond.stringRef "BoundCode" 145 "most is 0 .. 100000") ∈ lw_tbl := in_t3 (List.mem_of_getElem? (i := 186) (by decide +kernel))
theorem w731 : (Cond.methodLink "BoundCode" 147 (⟨"BoundCode$Machine", "perform", "(LBoundCode$Method;[JI)I"⟩ : MethodName)) ∈ gtbl := gu (in_t3 (List.mem_of_getElem? (i := 187) (by decide +kernel))) rfl
theorem w732 : (Cond.instanceMethod (⟨"BoundCode$Machine", "perform", "(LBoundCode$Method;[JI)I"⟩ : MethodName)) ∈ gtbl := gu (in_t3 (List.mem_of_getElem? (i := 188) (by decide +kernel))) rfl
theorem w733 : (Cond.selects "BoundCode$Machine" (⟨"BoundCode$Machine", "perform", "(LBoundCode$Method;[JI)I"⟩ : MethodName) (⟨"BoundCode$Machine", "perform", "(LBoundCode$Method;[JI)I"⟩ : MethodName)) ∈ gtbl := gu (in_t3 (List.mem_of_getElem? (i := 189) (by decide +kernel))) rfl
theorem w734 : (Cond.code (⟨"BoundCode$Machine", "perform", "(LBoundCode$Method;[JI)I"⟩ : MethodName) prog_5_method_3_code 6 (some FieldType.int)) ∈ gtbl := gu (in_t3 (List.mem_of_getElem? (i := 190) (by decide +kernel))) rfl
theorem w735 : (Cond.methodLink "BoundCode$Machine" 55 (⟨"BoundCode$Machine", "reset", "()V"⟩ : MethodName)) ∈ gtbl := gu (in_t3 (List.mem_of_getElem? (i := 191) (by decide +kernel))) rfl
theorem w737 : (Cond.instanceMethod (⟨"BoundCode$Machine", "reset", "()V"⟩ : MethodName)) ∈ gtbl := gu (in_t3 (List.mem_of_getElem? (i := 193) (by decide +kernel))) rfl
theorem w738 : (Cond.code (⟨"BoundCode$Machine", "reset", "()V"⟩ : MethodName) prog_5_method_4_code 1 (none : Option FieldType)) ∈ gtbl := gu (in_t3 (List.mem_of_getElem? (i := 194) (by decide +kernel))) rfl
theorem w739 : (Cond.methodLink "BoundCode$Machine" 58 (⟨"BoundCode$Method", "isSound", "()Z"⟩ : MethodName)) ∈ gtbl := gu (in_t3 (List.mem_of_getElem? (i := 195) (by decide +kernel))) rfl
theorem w740 : (Cond.methodLink "BoundCode$Machine" 65 (⟨"BoundCode$Machine", "push", "(J)V"⟩ : MethodName)) ∈ gtbl := gu (in_t3 (List.mem_of_getElem? (i := 196) (by decide +kernel))) rfl
theorem w742 : (Cond.instanceMethod (⟨"BoundCode$Machine", "push", "(J)V"⟩ : MethodName)) ∈ gtbl := gu (in_t3 (List.mem_of_getElem? (i := 198) (by decide +kernel))) rfl
theorem w743 : (Cond.code (⟨"BoundCode$Machine", "push", "(J)V"⟩ : MethodName) prog_5_method_15_code 3 (none : Option FieldType)) ∈ gtbl := gu (in_t3 (List.mem_of_getElem? (i := 199) (by decide +kernel))) rfl
theorem w744 : (Cond.methodLink "BoundCode$Machine" 150 (⟨"BoundCode$Machine", "write", "(IJ)V"⟩ : MethodName)) ∈ gtbl := gu (in_t3 (List.mem_of_getElem? (i := 200) (by decide +kernel))) rfl
theorem w746 : (Cond.instanceMethod (⟨"BoundCode$Machine", "write", "(IJ)V"⟩ : MethodName)) ∈ gtbl := gu (in_t3 (List.mem_of_getElem? (i := 202) (by decide +kernel))) rfl
theorem w747 : (Cond.code (⟨"BoundCode$Machine", "write", "(IJ)V"⟩ : MethodName) prog_5_method_18_code 4 (none : Option FieldType)) ∈ gtbl := gu (in_t3 (List.mem_of_getElem? (i := 203) (by decide +kernel))) rfl
theorem w748 : (Cond.methodLink "BoundCode$Machine" 69 (⟨"BoundCode$Machine", "enter", "(LBoundCode$Method;I)V"⟩ : MethodName)) ∈ gtbl := gu (in_t3 (List.mem_of_getElem? (i := 204) (by decide +kernel))) rfl
theorem w750 : (Cond.instanceMethod (⟨"BoundCode$Machine", "enter", "(LBoundCode$Method;I)V"⟩ : MethodName)) ∈ gtbl := gu (in_t3 (List.mem_of_getElem? (i := 206) (by decide +kernel))) rfl
theorem w751 : (Cond.code (⟨"BoundCode$Machine", "enter", "(LBoundCode$Method;I)V"⟩ : MethodName) prog_5_method_7_code 4 (none : Option FieldType)) ∈ gtbl := gu (in_t3 (List.mem_of_getElem? (i := 207) (by decide +kernel))) rfl
theorem w752 : (Cond.methodLink "BoundCode$Machine" 120 (⟨"BoundCode$Machine", "countWords", "()V"⟩ : MethodName)) ∈ gtbl := gu (in_t3 (List.mem_of_getElem? (i := 208) (by decide +kernel))) rfl
theorem w754 : (Cond.instanceMethod (⟨"BoundCode$Machine", "countWords", "()V"⟩ : MethodName)) ∈ gtbl := gu (in_t3 (List.mem_of_getElem? (i := 210) (by decide +kernel))) rfl
theorem w755 : (Cond.code (⟨"BoundCode$Machine", "countWords", "()V"⟩ : MethodName) prog_5_method_19_code 1 (none : Option FieldType)) ∈ gtbl := gu (in_t3 (List.mem_of_getElem? (i := 211) (by decide +kernel))) rfl
theorem w756 : (Cond.methodLink "BoundCode$Machine" 157 (⟨"java/lang/Math", "max", "(II)I"⟩ : MethodName)) ∈ gtbl := gu (in_t3 (List.mem_of_getElem? (i := 212) (by decide +kernel))) rfl
theorem w757 : (Cond.static (⟨"java/lang/Math", "max", "(II)I"⟩ : MethodName)) ∈ gtbl := gu (in_t3 (List.mem_of_getElem? (i := 213) (by decide +kernel))) rfl
theorem w758 : (Cond.code (⟨"java/lang/Math", "max", "(II)I"⟩ : MethodName) prog_14_method_65_code 2 (some FieldType.int)) ∈ gtbl := gu (in_t3 (List.mem_of_getElem? (i := 214) (by decide +kernel))) rfl
theorem w759 : (Cond.methodLink "BoundCode$Machine" 73 (⟨"BoundCode$Machine", "doNext", "()I"⟩ : MethodName)) ∈ gtbl := gu (in_t3 (List.mem_of_getElem? (i := 215) (by decide +kernel))) rfl
theorem w761 : (Cond.instanceMethod (⟨"BoundCode$Machine", "doNext", "()I"⟩ : MethodName)) ∈ gtbl := gu (in_t3 (List.mem_of_getElem? (i := 217) (by decide +kernel))) rfl
theorem w762 : (Cond.code (⟨"BoundCode$Machine", "doNext", "()I"⟩ : MethodName) prog_5_method_5_code 6 (some FieldType.int)) ∈ gtbl := gu (in_t3 (List.mem_of_getElem? (i := 218) (by decide +kernel))) rfl
theorem w763 : (Cond.methodLink "BoundCode$Machine" 86 (⟨"BoundCode$Method", "has", "(J)Z"⟩ : MethodName)) ∈ gtbl := gu (in_t3 (List.mem_of_getElem? (i := 219) (by decide +kernel))) rfl
theorem w764 : (Cond.methodLink "BoundCode$Machine" 96 (⟨"BoundCode$Program", "find", "(J)LBoundCode$Method;"⟩ : MethodName)) ∈ gtbl := gu (in_t3 (List.mem_of_getElem? (i := 220) (by decide +kernel))) rfl
theorem w765 : (Cond.methodLink "BoundCode$Machine" 102 (⟨"BoundCode$Machine", "refuse", "(LBoundCode$Method;)I"⟩ : MethodName)) ∈ gtbl := gu (in_t3 (List.mem_of_getElem? (i := 221) (by decide +kernel))) rfl
theorem w767 : (Cond.instanceMethod (⟨"BoundCode$Machine", "refuse", "(LBoundCode$Method;)I"⟩ : MethodName)) ∈ gtbl := gu (in_t3 (List.mem_of_getElem? (i := 223) (by decide +kernel))) rfl
theorem w768 : (Cond.code (⟨"BoundCode$Machine", "refuse", "(LBoundCode$Method;)I"⟩ : MethodName) prog_5_method_6_code 2 (some FieldType.int)) ∈ gtbl := gu (in_t3 (List.mem_of_getElem? (i := 224) (by decide +kernel))) rfl
theorem w769 : (Cond.methodLink "BoundCode$Machine" 106 (⟨"BoundCode$Program", "costOf", "(I)I"⟩ : MethodName)) ∈ gtbl := gu (in_t3 (List.mem_of_getElem? (i := 225) (by decide +kernel))) rfl
theorem w770 : (Cond.methodLink "BoundCode$Machine" 110 (⟨"BoundCode$Machine", "leave", "(LBoundCode$Method;)I"⟩ : MethodName)) ∈ gtbl := gu (in_t3 (List.mem_of_getElem? (i := 226) (by decide +kernel))) rfl
theorem w772 : (Cond.instanceMethod (⟨"BoundCode$Machine", "leave", "(LBoundCode$Method;)I"⟩ : MethodName)) ∈ gtbl := gu (in_t3 (List.mem_of_getElem? (i := 228) (by decide +kernel))) rfl
theorem w773 : (Cond.code (⟨"BoundCode$Machine", "leave", "(LBoundCode$Method;)I"⟩ : MethodName) prog_5_method_8_code 4 (some FieldType.int)) ∈ gtbl := gu (in_t3 (List.mem_of_getElem? (i := 229) (by decide +kernel))) rfl
theorem w774 : (Cond.methodLink "BoundCode$Machine" 129 (⟨"BoundCode$Machine", "pop", "()J"⟩ : MethodName)) ∈ gtbl := gu (in_t3 (List.mem_of_getElem? (i := 230) (by decide +kernel))) rfl
theorem w776 : (Cond.instanceMethod (⟨"BoundCode$Machine", "pop", "()J"⟩ : MethodName)) ∈ gtbl := gu (in_t3 (List.mem_of_getElem? (i := 232) (by decide +kernel))) rfl
theorem w777 : (Cond.code (⟨"BoundCode$Machine", "pop", "()J"⟩ : MethodName) prog_5_method_16_code 1 (some FieldType.long)) ∈ gtbl := gu (in_t3 (List.mem_of_getElem? (i := 233) (by decide +kernel))) rfl
theorem w778 : (Cond.methodLink "BoundCode$Machine" 143 (⟨"BoundCode$Machine", "read", "(I)J"⟩ : MethodName)) ∈ gtbl := gu (in_t3 (List.mem_of_getElem? (i := 234) (by decide +kernel))) rfl
theorem w780 : (Cond.instanceMethod (⟨"BoundCode$Machine", "read", "(I)J"⟩ : MethodName)) ∈ gtbl := gu (in_t3 (List.mem_of_getElem? (i := 236) (by decide +kernel))) rfl
theorem w781 : (Cond.code (⟨"BoundCode$Machine", "read", "(I)J"⟩ : MethodName) prog_5_method_17_code 2 (some FieldType.long)) ∈ gtbl := gu (in_t3 (List.mem_of_getElem? (i := 237) (by decide +kernel))) rfl
theorem w782 : (Cond.methodLink "BoundCode$Machine" 113 (⟨"BoundCode$Machine", "flow", "(LBoundCode$Method;I)V"⟩ : MethodName)) ∈ gtbl := gu (in_t3 (List.mem_of_getElem? (i := 238) (by decide +kernel))) rfl
theorem w784 : (Cond.instanceMethod (⟨"BoundCode$Machine", "flow", "(LBoundCode$Method;I)V"⟩ : MethodName)) ∈ gtbl := gu (in_t4 (List.mem_of_getElem? (i := 0) (by decide +kernel))) rfl
theorem w785 : (Cond.code (⟨"BoundCode$Machine", "flow", "(LBoundCode$Method;I)V"⟩ : MethodName) prog_5_method_9_code 5 (none : Option FieldType)) ∈ gtbl := gu (in_t4 (List.mem_of_getElem? (i := 1) (by decide +kernel))) rfl
theorem w786 : (Cond.methodLink "BoundCode$Machine" 136 (⟨"BoundCode$Machine", "opensLoop", "(I)Z"⟩ : MethodName)) ∈ gtbl := gu (in_t4 (List.mem_of_getElem? (i := 2) (by decide +kernel))) rfl
theorem w788 : (Cond.instanceMethod (⟨"BoundCode$Machine", "opensLoop", "(I)Z"⟩ : MethodName)) ∈ gtbl := gu (in_t4 (List.mem_of_getElem? (i := 4) (by decide +kernel))) rfl
theorem w789 : (Cond.code (⟨"BoundCode$Machine", "opensLoop", "(I)Z"⟩ : MethodName) prog_5_method_10_code 2 (some FieldType.boolean)) ∈ gtbl := gu (in_t4 (List.mem_of_getElem? (i := 5) (by decide +kernel))) rfl
theorem w790 : (Cond.methodLink "BoundCode$Machine" 140 (⟨"BoundCode$Machine", "goesRound", "()Z"⟩ : MethodName)) ∈ gtbl := gu (in_t4 (List.mem_of_getElem? (i := 6) (by decide +kernel))) rfl
theorem w792 : (Cond.instanceMethod (⟨"BoundCode$Machine", "goesRound", "()Z"⟩ : MethodName)) ∈ gtbl := gu (in_t4 (List.mem_of_getElem? (i := 8) (by decide +kernel))) rfl
theorem w793 : (Cond.code (⟨"BoundCode$Machine", "goesRound", "()Z"⟩ : MethodName) prog_5_method_11_code 1 (some FieldType.boolean)) ∈ gtbl := gu (in_t4 (List.mem_of_getElem? (i := 9) (by decide +kernel))) rfl
theorem w794 : (Cond.methodLink "BoundCode$Machine" 116 (⟨"BoundCode$Machine", "handle", "(IJ)V"⟩ : MethodName)) ∈ gtbl := gu (in_t4 (List.mem_of_getElem? (i := 10) (by decide +kernel))) rfl
theorem w796 : (Cond.instanceMethod (⟨"BoundCode$Machine", "handle", "(IJ)V"⟩ : MethodName)) ∈ gtbl := gu (in_t4 (List.mem_of_getElem? (i := 12) (by decide +kernel))) rfl
theorem w797 : (Cond.code (⟨"BoundCode$Machine", "handle", "(IJ)V"⟩ : MethodName) prog_5_method_12_code 6 (none : Option FieldType)) ∈ gtbl := gu (in_t4 (List.mem_of_getElem? (i := 13) (by decide +kernel))) rfl
theorem w798 : (Cond.methodLink "BoundCode$Machine" 147 (⟨"BoundCode$Machine", "swap", "()V"⟩ : MethodName)) ∈ gtbl := gu (in_t4 (List.mem_of_getElem? (i := 14) (by decide +kernel))) rfl
theorem w800 : (Cond.instanceMethod (⟨"BoundCode$Machine", "swap", "()V"⟩ : MethodName)) ∈ gtbl := gu (in_t4 (List.mem_of_getElem? (i := 16) (by decide +kernel))) rfl
theorem w801 : (Cond.code (⟨"BoundCode$Machine", "swap", "()V"⟩ : MethodName) prog_5_method_13_code 5 (none : Option FieldType)) ∈ gtbl := gu (in_t4 (List.mem_of_getElem? (i := 17) (by decide +kernel))) rfl
theorem w802 : (Cond.methodLink "BoundCode$Machine" 153 (⟨"BoundCode$Machine", "compute", "(IJJ)J"⟩ : MethodName)) ∈ gtbl := gu (in_t4 (List.mem_of_getElem? (i := 18) (by decide +kernel))) rfl
theorem w803 : (Cond.static (⟨"BoundCode$Machine", "compute", "(IJJ)J"⟩ : MethodName)) ∈ gtbl := gu (in_t4 (List.mem_of_getElem? (i := 19) (by decide +kernel))) rfl
theorem w804 : (Cond.code (⟨"BoundCode$Machine", "compute", "(IJJ)J"⟩ : MethodName) prog_5_method_14_code 5 (some FieldType.long)) ∈ gtbl := gu (in_t4 (List.mem_of_getElem? (i := 20) (by decide +kernel))) rfl
theorem w805 : (Cond.methodLink "BoundCodeLaw" 117 (⟨"BoundCodeLaw", "ran", "(LBoundCode;I[J)I"⟩ : MethodName)) ∈ gtbl := gu (in_t4 (List.mem_of_getElem? (i := 21) (by decide +kernel))) rfl
theorem w806 : (Cond.static (⟨"BoundCodeLaw", "ran", "(LBoundCode;I[J)I"⟩ : MethodName)) ∈ gtbl := gu (in_t4 (List.mem_of_getElem? (i := 22) (by decide +kernel))) rfl
theorem w807 : (Cond.codeWith (⟨"BoundCodeLaw", "ran", "(LBoundCode;I[J)I"⟩ : MethodName) method_14_code 4 (some FieldType.int) [(0, 8, 11, 19)]) ∈ gtbl := gu (in_t4 (List.mem_of_getElem? (i := 23) (by decide +kernel))) rfl
theorem w808 : (Cond.methodLink "BoundCodeLaw" 55 (⟨"BoundCode", "ran", "(I)J"⟩ : MethodName)) ∈ gtbl := gu (in_t4 (List.mem_of_getElem? (i := 24) (by decide +kernel))) rfl
theorem w809 : (Cond.instanceMethod (⟨"BoundCode", "ran", "(I)J"⟩ : MethodName)) ∈ gtbl := gu (in_t4 (List.mem_of_getElem? (i := 25) (by decide +kernel))) rfl
theorem w810 : (Cond.selects "BoundCode" (⟨"BoundCode", "ran", "(I)J"⟩ : MethodName) (⟨"BoundCode", "ran", "(I)J"⟩ : MethodName)) ∈ gtbl := gu (in_t4 (List.mem_of_getElem? (i := 26) (by decide +kernel))) rfl
theorem w811 : (Cond.code (⟨"BoundCode", "ran", "(I)J"⟩ : MethodName) prog_1_method_14_code 2 (some FieldType.long)) ∈ gtbl := gu (in_t4 (List.mem_of_getElem? (i := 27) (by decide +kernel))) rfl
theorem w812 : (Cond.stringRef "BoundCode" 151 "what is 0 .. 4") ∈ lw_tbl := in_t4 (List.mem_of_getElem? (i := 28) (by decide +kernel))
theorem w813 : (Cond.methodLink "BoundCode" 153 (⟨"BoundCode$Machine", "answer", "(I)J"⟩ : MethodName)) ∈ gtbl := gu (in_t4 (List.mem_of_getElem? (i := 29) (by decide +kernel))) rfl
theorem w814 : (Cond.instanceMethod (⟨"BoundCode$Machine", "answer", "(I)J"⟩ : MethodName)) ∈ gtbl := gu (in_t4 (List.mem_of_getElem? (i := 30) (by decide +kernel))) rfl
theorem w815 : (Cond.selects "BoundCode$Machine" (⟨"BoundCode$Machine", "answer", "(I)J"⟩ : MethodName) (⟨"BoundCode$Machine", "answer", "(I)J"⟩ : MethodName)) ∈ gtbl := gu (in_t4 (List.mem_of_getElem? (i := 31) (by decide +kernel))) rfl
theorem w816 : (Cond.code (⟨"BoundCode$Machine", "answer", "(I)J"⟩ : MethodName) prog_5_method_2_code 2 (some FieldType.long)) ∈ gtbl := gu (in_t4 (List.mem_of_getElem? (i := 32) (by decide +kernel))) rfl
theorem w817 : (Cond.methodLink "BoundCodeLaw" 120 (⟨"BoundCodeLaw", "about", "(LBoundCode;II[J)I"⟩ : MethodName)) ∈ gtbl := gu (in_t4 (List.mem_of_getElem? (i := 33) (by decide +kernel))) rfl
theorem w818 : (Cond.static (⟨"BoundCodeLaw", "about", "(LBoundCode;II[J)I"⟩ : MethodName)) ∈ gtbl := gu (in_t4 (List.mem_of_getElem? (i := 34) (by decide +kernel))) rfl
theorem w819 : (Cond.codeWith (⟨"BoundCodeLaw", "about", "(LBoundCode;II[J)I"⟩ : MethodName) method_15_code 5 (some FieldType.int) [(0, 10, 13, 19)]) ∈ gtbl := gu (in_t4 (List.mem_of_getElem? (i := 35) (by decide +kernel))) rfl
theorem w820 : (Cond.methodLink "BoundCodeLaw" 59 (⟨"BoundCode", "about", "(II)I"⟩ : MethodName)) ∈ gtbl := gu (in_t4 (List.mem_of_getElem? (i := 36) (by decide +kernel))) rfl
theorem w821 : (Cond.instanceMethod (⟨"BoundCode", "about", "(II)I"⟩ : MethodName)) ∈ gtbl := gu (in_t4 (List.mem_of_getElem? (i := 37) (by decide +kernel))) rfl
theorem w822 : (Cond.selects "BoundCode" (⟨"BoundCode", "about", "(II)I"⟩ : MethodName) (⟨"BoundCode", "about", "(II)I"⟩ : MethodName)) ∈ gtbl := gu (in_t4 (List.mem_of_getElem? (i := 38) (by decide +kernel))) rfl
theorem w823 : (Cond.code (⟨"BoundCode", "about", "(II)I"⟩ : MethodName) prog_1_method_15_code 4 (some FieldType.int)) ∈ gtbl := gu (in_t4 (List.mem_of_getElem? (i := 39) (by decide +kernel))) rfl
theorem w824 : (Cond.stringRef "BoundCode" 156 "what is 0 .. 3") ∈ lw_tbl := in_t4 (List.mem_of_getElem? (i := 40) (by decide +kernel))
theorem w825 : (Cond.methodLink "BoundCode" 158 (⟨"BoundCode$Method", "answer", "(I)I"⟩ : MethodName)) ∈ gtbl := gu (in_t4 (List.mem_of_getElem? (i := 41) (by decide +kernel))) rfl
theorem w826 : (Cond.instanceMethod (⟨"BoundCode$Method", "answer", "(I)I"⟩ : MethodName)) ∈ gtbl := gu (in_t4 (List.mem_of_getElem? (i := 42) (by decide +kernel))) rfl
theorem w827 : (Cond.selects "BoundCode$Method" (⟨"BoundCode$Method", "answer", "(I)I"⟩ : MethodName) (⟨"BoundCode$Method", "answer", "(I)I"⟩ : MethodName)) ∈ gtbl := gu (in_t4 (List.mem_of_getElem? (i := 43) (by decide +kernel))) rfl
theorem w828 : (Cond.code (⟨"BoundCode$Method", "answer", "(I)I"⟩ : MethodName) prog_6_method_9_code 2 (some FieldType.int)) ∈ gtbl := gu (in_t4 (List.mem_of_getElem? (i := 44) (by decide +kernel))) rfl
theorem w829 : (Cond.classLink "BoundCodeLaw" 63 "BoundCodeModel") ∈ gtbl := gu (in_t4 (List.mem_of_getElem? (i := 45) (by decide +kernel))) rfl
theorem w830 : (Cond.instantiable "BoundCodeModel" 41) ∈ gtbl := gu (in_t4 (List.mem_of_getElem? (i := 46) (by decide +kernel))) rfl
theorem w831 : (Cond.methodLink "BoundCodeLaw" 65 (⟨"BoundCodeModel", "<init>", "()V"⟩ : MethodName)) ∈ gtbl := gu (in_t4 (List.mem_of_getElem? (i := 47) (by decide +kernel))) rfl
theorem w832 : (Cond.instanceMethod (⟨"BoundCodeModel", "<init>", "()V"⟩ : MethodName)) ∈ gtbl := gu (in_t4 (List.mem_of_getElem? (i := 48) (by decide +kernel))) rfl
theorem w833 : (Cond.code (⟨"BoundCodeModel", "<init>", "()V"⟩ : MethodName) prog_9_method_1_code 2 (none : Option FieldType)) ∈ gtbl := gu (in_t4 (List.mem_of_getElem? (i := 49) (by decide +kernel))) rfl
theorem w834 : (Cond.methodLink "BoundCodeModel" 1 (⟨"java/lang/Object", "<init>", "()V"⟩ : MethodName)) ∈ gtbl := gu (in_t4 (List.mem_of_getElem? (i := 50) (by decide +kernel))) rfl
theorem w835 : (Cond.fieldLink "BoundCodeModel" 7 "BoundCodeModel" "args" "[I") ∈ gtbl := gu (in_t4 (List.mem_of_getElem? (i := 51) (by decide +kernel))) rfl
theorem w836 : (Cond.fieldLink "BoundCodeModel" 13 "BoundCodeModel" "results" "[I") ∈ gtbl := gu (in_t4 (List.mem_of_getElem? (i := 52) (by decide +kernel))) rfl
theorem w837 : (Cond.fieldLink "BoundCodeModel" 16 "BoundCodeModel" "locals" "[I") ∈ gtbl := gu (in_t4 (List.mem_of_getElem? (i := 53) (by decide +kernel))) rfl
theorem w838 : (Cond.fieldLink "BoundCodeModel" 19 "BoundCodeModel" "size" "[I") ∈ gtbl := gu (in_t4 (List.mem_of_getElem? (i := 54) (by decide +kernel))) rfl
theorem w839 : (Cond.fieldLink "BoundCodeModel" 109 "BoundCodeModel" "methods" "I") ∈ gtbl := gu (in_t4 (List.mem_of_getElem? (i := 55) (by decide +kernel))) rfl
theorem w840 : (Cond.fieldLink "BoundCodeModel" 22 "BoundCodeModel" "op" "[I") ∈ gtbl := gu (in_t4 (List.mem_of_getElem? (i := 56) (by decide +kernel))) rfl
theorem w841 : (Cond.fieldLink "BoundCodeModel" 25 "BoundCodeModel" "arg" "[J") ∈ gtbl := gu (in_t4 (List.mem_of_getElem? (i := 57) (by decide +kernel))) rfl
theorem w842 : (Cond.fieldLink "BoundCodeModel" 29 "BoundCodeModel" "costs" "[J") ∈ gtbl := gu (in_t4 (List.mem_of_getElem? (i := 58) (by decide +kernel))) rfl
theorem w843 : (Cond.fieldLink "BoundCodeModel" 32 "BoundCodeModel" "place" "I") ∈ gtbl := gu (in_t4 (List.mem_of_getElem? (i := 59) (by decide +kernel))) rfl
theorem w844 : (Cond.fieldLink "BoundCodeModel" 106 "BoundCodeModel" "thrown" "I") ∈ gtbl := gu (in_t4 (List.mem_of_getElem? (i := 60) (by decide +kernel))) rfl
theorem w845 : (Cond.fieldLink "BoundCodeModel" 36 "BoundCodeModel" "height" "[I") ∈ gtbl := gu (in_t4 (List.mem_of_getElem? (i := 61) (by decide +kernel))) rfl
theorem w846 : (Cond.fieldLink "BoundCodeModel" 39 "BoundCodeModel" "around" "[I") ∈ gtbl := gu (in_t4 (List.mem_of_getElem? (i := 62) (by decide +kernel))) rfl
theorem w847 : (Cond.fieldLink "BoundCodeModel" 42 "BoundCodeModel" "partner" "[I") ∈ gtbl := gu (in_t4 (List.mem_of_getElem? (i := 63) (by decide +kernel))) rfl
theorem w848 : (Cond.fieldLink "BoundCodeModel" 45 "BoundCodeModel" "deep" "[I") ∈ gtbl := gu (in_t4 (List.mem_of_getElem? (i := 64) (by decide +kernel))) rfl
theorem w849 : (Cond.fieldLink "BoundCodeModel" 48 "BoundCodeModel" "faultOf" "[I") ∈ gtbl := gu (in_t4 (List.mem_of_getElem? (i := 65) (by decide +kernel))) rfl
theorem w850 : (Cond.fieldLink "BoundCodeModel" 51 "BoundCodeModel" "placeOf" "[I") ∈ gtbl := gu (in_t4 (List.mem_of_getElem? (i := 66) (by decide +kernel))) rfl
theorem w851 : (Cond.fieldLink "BoundCodeModel" 54 "BoundCodeModel" "reached" "[Z") ∈ gtbl := gu (in_t4 (List.mem_of_getElem? (i := 67) (by decide +kernel))) rfl
theorem w852 : (Cond.fieldLink "BoundCodeModel" 58 "BoundCodeModel" "faulty" "[Z") ∈ gtbl := gu (in_t4 (List.mem_of_getElem? (i := 68) (by decide +kernel))) rfl
theorem w853 : (Cond.fieldLink "BoundCodeModel" 61 "BoundCodeModel" "round" "[Z") ∈ gtbl := gu (in_t4 (List.mem_of_getElem? (i := 69) (by decide +kernel))) rfl
theorem w854 : (Cond.fieldLink "BoundCodeModel" 64 "BoundCodeModel" "bounded" "[Z") ∈ gtbl := gu (in_t4 (List.mem_of_getElem? (i := 70) (by decide +kernel))) rfl
theorem w855 : (Cond.fieldLink "BoundCodeModel" 67 "BoundCodeModel" "stackOf" "[J") ∈ gtbl := gu (in_t4 (List.mem_of_getElem? (i := 71) (by decide +kernel))) rfl
theorem w856 : (Cond.fieldLink "BoundCodeModel" 70 "BoundCodeModel" "timeOf" "[J") ∈ gtbl := gu (in_t4 (List.mem_of_getElem? (i := 72) (by decide +kernel))) rfl
theorem w857 : (Cond.fieldLink "BoundCodeModel" 73 "BoundCodeModel" "sum" "[J") ∈ gtbl := gu (in_t4 (List.mem_of_getElem? (i := 73) (by decide +kernel))) rfl
theorem w858 : (Cond.fieldLink "BoundCodeModel" 76 "BoundCodeModel" "through" "[J") ∈ gtbl := gu (in_t4 (List.mem_of_getElem? (i := 74) (by decide +kernel))) rfl
theorem w859 : (Cond.fieldLink "BoundCodeModel" 79 "BoundCodeModel" "leaves" "[J") ∈ gtbl := gu (in_t4 (List.mem_of_getElem? (i := 75) (by decide +kernel))) rfl
theorem w860 : (Cond.fieldLink "BoundCodeModel" 82 "BoundCodeModel" "comes" "[Z") ∈ gtbl := gu (in_t4 (List.mem_of_getElem? (i := 76) (by decide +kernel))) rfl
theorem w861 : (Cond.fieldLink "BoundCodeModel" 85 "BoundCodeModel" "told" "[J") ∈ gtbl := gu (in_t4 (List.mem_of_getElem? (i := 77) (by decide +kernel))) rfl
theorem w862 : (Cond.fieldLink "BoundCodeModel" 206 "BoundCodeModel" "tolds" "I") ∈ gtbl := gu (in_t4 (List.mem_of_getElem? (i := 78) (by decide +kernel))) rfl
theorem w863 : (Cond.fieldLink "BoundCodeModel" 88 "BoundCodeModel" "frameMethod" "[I") ∈ gtbl := gu (in_t4 (List.mem_of_getElem? (i := 79) (by decide +kernel))) rfl
theorem w864 : (Cond.fieldLink "BoundCodeModel" 91 "BoundCodeModel" "frameAt" "[I") ∈ gtbl := gu (in_t4 (List.mem_of_getElem? (i := 80) (by decide +kernel))) rfl
theorem w865 : (Cond.fieldLink "BoundCodeModel" 94 "BoundCodeModel" "frameHeight" "[I") ∈ gtbl := gu (in_t4 (List.mem_of_getElem? (i := 81) (by decide +kernel))) rfl
theorem w866 : (Cond.fieldLink "BoundCodeModel" 97 "BoundCodeModel" "local" "[J") ∈ gtbl := gu (in_t4 (List.mem_of_getElem? (i := 82) (by decide +kernel))) rfl
theorem w867 : (Cond.fieldLink "BoundCodeModel" 100 "BoundCodeModel" "word" "[J") ∈ gtbl := gu (in_t4 (List.mem_of_getElem? (i := 83) (by decide +kernel))) rfl
theorem w868 : (Cond.fieldLink "BoundCodeModel" 103 "BoundCodeModel" "turns" "[J") ∈ gtbl := gu (in_t4 (List.mem_of_getElem? (i := 84) (by decide +kernel))) rfl
theorem w869 : (Cond.fieldLink "BoundCodeModel" 209 "BoundCodeModel" "frames" "I") ∈ gtbl := gu (in_t4 (List.mem_of_getElem? (i := 85) (by decide +kernel))) rfl
theorem w870 : (Cond.fieldLink "BoundCodeModel" 212 "BoundCodeModel" "words" "I") ∈ gtbl := gu (in_t4 (List.mem_of_getElem? (i := 86) (by decide +kernel))) rfl
theorem w871 : (Cond.fieldLink "BoundCodeModel" 215 "BoundCodeModel" "most" "I") ∈ gtbl := gu (in_t4 (List.mem_of_getElem? (i := 87) (by decide +kernel))) rfl
theorem w872 : (Cond.fieldLink "BoundCodeModel" 227 "BoundCodeModel" "result" "J") ∈ gtbl := gu (in_t4 (List.mem_of_getElem? (i := 88) (by decide +kernel))) rfl
theorem w873 : (Cond.fieldLink "BoundCodeModel" 246 "BoundCodeModel" "cycles" "J") ∈ gtbl := gu (in_t4 (List.mem_of_getElem? (i := 89) (by decide +kernel))) rfl
theorem w874 : (Cond.fieldLink "BoundCodeModel" 249 "BoundCodeModel" "done" "I") ∈ gtbl := gu (in_t4 (List.mem_of_getElem? (i := 90) (by decide +kernel))) rfl
theorem w875 : (Cond.fieldLink "BoundCodeModel" 221 "BoundCodeModel" "calls" "I") ∈ gtbl := gu (in_t4 (List.mem_of_getElem? (i := 91) (by decide +kernel))) rfl
theorem w959 : (Cond.arrayClass FieldType.boolean) ∈ gtbl := gu (in_t4 (List.mem_of_getElem? (i := 175) (by decide +kernel))) rfl
theorem w960 : (Cond.methodLink "BoundCodeLaw" 72 (⟨"BoundCodeModel", "thrown", "()I"⟩ : MethodName)) ∈ gtbl := gu (in_t4 (List.mem_of_getElem? (i := 176) (by decide +kernel))) rfl
theorem w961 : (Cond.instanceMethod (⟨"BoundCodeModel", "thrown", "()I"⟩ : MethodName)) ∈ gtbl := gu (in_t4 (List.mem_of_getElem? (i := 177) (by decide +kernel))) rfl
theorem w962 : (Cond.selects "BoundCodeModel" (⟨"BoundCodeModel", "thrown", "()I"⟩ : MethodName) (⟨"BoundCodeModel", "thrown", "()I"⟩ : MethodName)) ∈ gtbl := gu (in_t4 (List.mem_of_getElem? (i := 178) (by decide +kernel))) rfl
theorem w963 : (Cond.code (⟨"BoundCodeModel", "thrown", "()I"⟩ : MethodName) prog_9_method_2_code 1 (some FieldType.int)) ∈ gtbl := gu (in_t4 (List.mem_of_getElem? (i := 179) (by decide +kernel))) rfl
theorem w964 : (Cond.methodLink "BoundCodeLaw" 71 (⟨"BoundCodeModel", "method", "(III)I"⟩ : MethodName)) ∈ gtbl := gu (in_t4 (List.mem_of_getElem? (i := 180) (by decide +kernel))) rfl
theorem w965 : (Cond.instanceMethod (⟨"BoundCodeModel", "method", "(III)I"⟩ : MethodName)) ∈ gtbl := gu (in_t4 (List.mem_of_getElem? (i := 181) (by decide +kernel))) rfl
theorem w966 : (Cond.selects "BoundCodeModel" (⟨"BoundCodeModel", "method", "(III)I"⟩ : MethodName) (⟨"BoundCodeModel", "method", "(III)I"⟩ : MethodName)) ∈ gtbl := gu (in_t4 (List.mem_of_getElem? (i := 182) (by decide +kernel))) rfl
theorem w967 : (Cond.code (⟨"BoundCodeModel", "method", "(III)I"⟩ : MethodName) prog_9_method_4_code 4 (some FieldType.int)) ∈ gtbl := gu (in_t4 (List.mem_of_getElem? (i := 183) (by decide +kernel))) rfl
theorem w968 : (Cond.methodLink "BoundCodeLaw" 81 (⟨"BoundCodeModel", "add", "(IIJ)I"⟩ : MethodName)) ∈ gtbl := gu (in_t4 (List.mem_of_getElem? (i := 184) (by decide +kernel))) rfl
theorem w969 : (Cond.instanceMethod (⟨"BoundCodeModel", "add", "(IIJ)I"⟩ : MethodName)) ∈ gtbl := gu (in_t4 (List.mem_of_getElem? (i := 185) (by decide +kernel))) rfl
theorem w970 : (Cond.selects "BoundCodeModel" (⟨"BoundCodeModel", "add", "(IIJ)I"⟩ : MethodName) (⟨"BoundCodeModel", "add", "(IIJ)I"⟩ : MethodName)) ∈ gtbl := gu (in_t4 (List.mem_of_getElem? (i := 186) (by decide +kernel))) rfl
theorem w971 : (Cond.code (⟨"BoundCodeModel", "add", "(IIJ)I"⟩ : MethodName) prog_9_method_5_code 5 (some FieldType.int)) ∈ gtbl := gu (in_t4 (List.mem_of_getElem? (i := 187) (by decide +kernel))) rfl
theorem w972 : (Cond.methodLink "BoundCodeModel" 112 (⟨"BoundCodeModel", "noMethod", "(I)Z"⟩ : MethodName)) ∈ gtbl := gu (in_t4 (List.mem_of_getElem? (i := 188) (by decide +kernel))) rfl
theorem w974 : (Cond.instanceMethod (⟨"BoundCodeModel", "noMethod", "(I)Z"⟩ : MethodName)) ∈ gtbl := gu (in_t4 (List.mem_of_getElem? (i := 190) (by decide +kernel))) rfl
theorem w975 : (Cond.code (⟨"BoundCodeModel", "noMethod", "(I)Z"⟩ : MethodName) prog_9_method_3_code 2 (some FieldType.boolean)) ∈ gtbl := gu (in_t4 (List.mem_of_getElem? (i := 191) (by decide +kernel))) rfl
theorem w976 : (Cond.methodLink "BoundCodeLaw" 85 (⟨"BoundCodeModel", "change", "(IIIJ)I"⟩ : MethodName)) ∈ gtbl := gu (in_t4 (List.mem_of_getElem? (i := 192) (by decide +kernel))) rfl
theorem w977 : (Cond.instanceMethod (⟨"BoundCodeModel", "change", "(IIIJ)I"⟩ : MethodName)) ∈ gtbl := gu (in_t4 (List.mem_of_getElem? (i := 193) (by decide +kernel))) rfl
theorem w978 : (Cond.selects "BoundCodeModel" (⟨"BoundCodeModel", "change", "(IIIJ)I"⟩ : MethodName) (⟨"BoundCodeModel", "change", "(IIIJ)I"⟩ : MethodName)) ∈ gtbl := gu (in_t4 (List.mem_of_getElem? (i := 194) (by decide +kernel))) rfl
theorem w979 : (Cond.code (⟨"BoundCodeModel", "change", "(IIIJ)I"⟩ : MethodName) prog_9_method_6_code 7 (some FieldType.int)) ∈ gtbl := gu (in_t4 (List.mem_of_getElem? (i := 195) (by decide +kernel))) rfl
theorem w980 : (Cond.methodLink "BoundCodeLaw" 89 (⟨"BoundCodeModel", "cost", "(II)I"⟩ : MethodName)) ∈ gtbl := gu (in_t4 (List.mem_of_getElem? (i := 196) (by decide +kernel))) rfl
theorem w981 : (Cond.instanceMethod (⟨"BoundCodeModel", "cost", "(II)I"⟩ : MethodName)) ∈ gtbl := gu (in_t4 (List.mem_of_getElem? (i := 197) (by decide +kernel))) rfl
theorem w982 : (Cond.selects "BoundCodeModel" (⟨"BoundCodeModel", "cost", "(II)I"⟩ : MethodName) (⟨"BoundCodeModel", "cost", "(II)I"⟩ : MethodName)) ∈ gtbl := gu (in_t4 (List.mem_of_getElem? (i := 198) (by decide +kernel))) rfl
theorem w983 : (Cond.code (⟨"BoundCodeModel", "cost", "(II)I"⟩ : MethodName) prog_9_method_7_code 4 (some FieldType.int)) ∈ gtbl := gu (in_t4 (List.mem_of_getElem? (i := 199) (by decide +kernel))) rfl
theorem w984 : (Cond.constant "BoundCodeModel" 116 1000000) ∈ gtbl := gu (in_t4 (List.mem_of_getElem? (i := 200) (by decide +kernel))) rfl
theorem w985 : (Cond.methodLink "BoundCodeLaw" 93 (⟨"BoundCodeModel", "check", "(I)I"⟩ : MethodName)) ∈ gtbl := gu (in_t4 (List.mem_of_getElem? (i := 201) (by decide +kernel))) rfl
theorem w986 : (Cond.instanceMethod (⟨"BoundCodeModel", "check", "(I)I"⟩ : MethodName)) ∈ gtbl := gu (in_t4 (List.mem_of_getElem? (i := 202) (by decide +kernel))) rfl
theorem w987 : (Cond.selects "BoundCodeModel" (⟨"BoundCodeModel", "check", "(I)I"⟩ : MethodName) (⟨"BoundCodeModel", "check", "(I)I"⟩ : MethodName)) ∈ gtbl := gu (in_t4 (List.mem_of_getElem? (i := 203) (by decide +kernel))) rfl
theorem w988 : (Cond.code (⟨"BoundCodeModel", "check", "(I)I"⟩ : MethodName) prog_9_method_20_code 2 (some FieldType.int)) ∈ gtbl := gu (in_t4 (List.mem_of_getElem? (i := 204) (by decide +kernel))) rfl
theorem w989 : (Cond.methodLink "BoundCodeModel" 156 (⟨"BoundCodeModel", "examine", "(I)V"⟩ : MethodName)) ∈ gtbl := gu (in_t4 (List.mem_of_getElem? (i := 205) (by decide +kernel))) rfl
theorem w991 : (Cond.instanceMethod (⟨"BoundCodeModel", "examine", "(I)V"⟩ : MethodName)) ∈ gtbl := gu (in_t4 (List.mem_of_getElem? (i := 207) (by decide +kernel))) rfl
theorem w992 : (Cond.code (⟨"BoundCodeModel", "examine", "(I)V"⟩ : MethodName) prog_9_method_18_code 2 (none : Option FieldType)) ∈ gtbl := gu (in_t4 (List.mem_of_getElem? (i := 208) (by decide +kernel))) rfl
theorem w993 : (Cond.methodLink "BoundCodeModel" 150 (⟨"BoundCodeModel", "forms", "(I)V"⟩ : MethodName)) ∈ gtbl := gu (in_t4 (List.mem_of_getElem? (i := 209) (by decide +kernel))) rfl
theorem w995 : (Cond.instanceMethod (⟨"BoundCodeModel", "forms", "(I)V"⟩ : MethodName)) ∈ gtbl := gu (in_t4 (List.mem_of_getElem? (i := 211) (by decide +kernel))) rfl
theorem w996 : (Cond.code (⟨"BoundCodeModel", "forms", "(I)V"⟩ : MethodName) prog_9_method_11_code 5 (none : Option FieldType)) ∈ gtbl := gu (in_t4 (List.mem_of_getElem? (i := 212) (by decide +kernel))) rfl
theorem w997 : (Cond.methodLink "BoundCodeModel" 121 (⟨"BoundCodeModel", "brackets", "(I)V"⟩ : MethodName)) ∈ gtbl := gu (in_t4 (List.mem_of_getElem? (i := 213) (by decide +kernel))) rfl
theorem w999 : (Cond.instanceMethod (⟨"BoundCodeModel", "brackets", "(I)V"⟩ : MethodName)) ∈ gtbl := gu (in_t4 (List.mem_of_getElem? (i := 215) (by decide +kernel))) rfl
theorem w1000 : (Cond.code (⟨"BoundCodeModel", "brackets", "(I)V"⟩ : MethodName) prog_9_method_9_code 5 (none : Option FieldType)) ∈ gtbl := gu (in_t4 (List.mem_of_getElem? (i := 216) (by decide +kernel))) rfl
theorem w1001 : (Cond.methodLink "BoundCodeModel" 125 (⟨"BoundCodeModel", "badArg", "(II)Z"⟩ : MethodName)) ∈ gtbl := gu (in_t4 (List.mem_of_getElem? (i := 217) (by decide +kernel))) rfl
theorem w1003 : (Cond.instanceMethod (⟨"BoundCodeModel", "badArg", "(II)Z"⟩ : MethodName)) ∈ gtbl := gu (in_t4 (List.mem_of_getElem? (i := 219) (by decide +kernel))) rfl
theorem w1004 : (Cond.code (⟨"BoundCodeModel", "badArg", "(II)Z"⟩ : MethodName) prog_9_method_10_code 6 (some FieldType.boolean)) ∈ gtbl := gu (in_t4 (List.mem_of_getElem? (i := 220) (by decide +kernel))) rfl
theorem w1005 : (Cond.constantLong "BoundCodeModel" 117 100) ∈ gtbl := gu (in_t4 (List.mem_of_getElem? (i := 221) (by decide +kernel))) rfl
theorem w1006 : (Cond.constantLong "BoundCodeModel" 119 1000000000) ∈ gtbl := gu (in_t4 (List.mem_of_getElem? (i := 222) (by decide +kernel))) rfl
theorem w1007 : (Cond.methodLink "BoundCodeModel" 129 (⟨"BoundCodeModel", "fault", "(III)V"⟩ : MethodName)) ∈ gtbl := gu (in_t4 (List.mem_of_getElem? (i := 223) (by decide +kernel))) rfl
theorem w1009 : (Cond.instanceMethod (⟨"BoundCodeModel", "fault", "(III)V"⟩ : MethodName)) ∈ gtbl := gu (in_t4 (List.mem_of_getElem? (i := 225) (by decide +kernel))) rfl
theorem w1010 : (Cond.code (⟨"BoundCodeModel", "fault", "(III)V"⟩ : MethodName) prog_9_method_8_code 4 (none : Option FieldType)) ∈ gtbl := gu (in_t4 (List.mem_of_getElem? (i := 226) (by decide +kernel))) rfl
theorem w1011 : (Cond.methodLink "BoundCodeModel" 153 (⟨"BoundCodeModel", "heights", "(I)V"⟩ : MethodName)) ∈ gtbl := gu (in_t4 (List.mem_of_getElem? (i := 227) (by decide +kernel))) rfl
theorem w1013 : (Cond.instanceMethod (⟨"BoundCodeModel", "heights", "(I)V"⟩ : MethodName)) ∈ gtbl := gu (in_t4 (List.mem_of_getElem? (i := 229) (by decide +kernel))) rfl
theorem w1014 : (Cond.code (⟨"BoundCodeModel", "heights", "(I)V"⟩ : MethodName) prog_9_method_17_code 10 (none : Option FieldType)) ∈ gtbl := gu (in_t4 (List.mem_of_getElem? (i := 230) (by decide +kernel))) rfl
theorem w1015 : (Cond.methodLink "BoundCodeModel" 133 (⟨"BoundCodeModel", "grows", "(II)I"⟩ : MethodName)) ∈ gtbl := gu (in_t4 (List.mem_of_getElem? (i := 231) (by decide +kernel))) rfl
theorem w1017 : (Cond.instanceMethod (⟨"BoundCodeModel", "grows", "(II)I"⟩ : MethodName)) ∈ gtbl := gu (in_t4 (List.mem_of_getElem? (i := 233) (by decide +kernel))) rfl
theorem w1018 : (Cond.code (⟨"BoundCodeModel", "grows", "(II)I"⟩ : MethodName) prog_9_method_13_code 3 (some FieldType.int)) ∈ gtbl := gu (in_t4 (List.mem_of_getElem? (i := 234) (by decide +kernel))) rfl
theorem w1019 : (Cond.methodLink "BoundCodeModel" 137 (⟨"BoundCodeModel", "onward", "(II)I"⟩ : MethodName)) ∈ gtbl := gu (in_t4 (List.mem_of_getElem? (i := 235) (by decide +kernel))) rfl
theorem w1021 : (Cond.instanceMethod (⟨"BoundCodeModel", "onward", "(II)I"⟩ : MethodName)) ∈ gtbl := gu (in_t4 (List.mem_of_getElem? (i := 237) (by decide +kernel))) rfl
theorem w1022 : (Cond.code (⟨"BoundCodeModel", "onward", "(II)I"⟩ : MethodName) prog_9_method_16_code 4 (some FieldType.int)) ∈ gtbl := gu (in_t4 (List.mem_of_getElem? (i := 238) (by decide +kernel))) rfl
theorem w1023 : (Cond.methodLink "BoundCodeModel" 140 (⟨"BoundCodeModel", "isOther", "(III)Z"⟩ : MethodName)) ∈ gtbl := gu (in_t4 (List.mem_of_getElem? (i := 239) (by decide +kernel))) rfl
theorem w1025 : (Cond.instanceMethod (⟨"BoundCodeModel", "isOther", "(III)Z"⟩ : MethodName)) ∈ gtbl := gu (in_t5 (List.mem_of_getElem? (i := 1) (by decide +kernel))) rfl
theorem w1026 : (Cond.code (⟨"BoundCodeModel", "isOther", "(III)Z"⟩ : MethodName) prog_9_method_14_code 4 (some FieldType.boolean)) ∈ gtbl := gu (in_t5 (List.mem_of_getElem? (i := 2) (by decide +kernel))) rfl
theorem w1027 : (Cond.methodLink "BoundCodeModel" 144 (⟨"BoundCodeModel", "takes", "(II)I"⟩ : MethodName)) ∈ gtbl := gu (in_t5 (List.mem_of_getElem? (i := 3) (by decide +kernel))) rfl
theorem w1029 : (Cond.instanceMethod (⟨"BoundCodeModel", "takes", "(II)I"⟩ : MethodName)) ∈ gtbl := gu (in_t5 (List.mem_of_getElem? (i := 5) (by decide +kernel))) rfl
theorem w1030 : (Cond.code (⟨"BoundCodeModel", "takes", "(II)I"⟩ : MethodName) prog_9_method_12_code 3 (some FieldType.int)) ∈ gtbl := gu (in_t5 (List.mem_of_getElem? (i := 6) (by decide +kernel))) rfl
theorem w1031 : (Cond.methodLink "BoundCodeModel" 147 (⟨"BoundCodeModel", "tell", "(III)V"⟩ : MethodName)) ∈ gtbl := gu (in_t5 (List.mem_of_getElem? (i := 7) (by decide +kernel))) rfl
theorem w1033 : (Cond.instanceMethod (⟨"BoundCodeModel", "tell", "(III)V"⟩ : MethodName)) ∈ gtbl := gu (in_t5 (List.mem_of_getElem? (i := 9) (by decide +kernel))) rfl
theorem w1034 : (Cond.code (⟨"BoundCodeModel", "tell", "(III)V"⟩ : MethodName) prog_9_method_15_code 4 (none : Option FieldType)) ∈ gtbl := gu (in_t5 (List.mem_of_getElem? (i := 10) (by decide +kernel))) rfl
theorem w1035 : (Cond.methodLink "BoundCodeLaw" 97 (⟨"BoundCodeModel", "place", "()I"⟩ : MethodName)) ∈ gtbl := gu (in_t5 (List.mem_of_getElem? (i := 11) (by decide +kernel))) rfl
theorem w1036 : (Cond.instanceMethod (⟨"BoundCodeModel", "place", "()I"⟩ : MethodName)) ∈ gtbl := gu (in_t5 (List.mem_of_getElem? (i := 12) (by decide +kernel))) rfl
theorem w1037 : (Cond.selects "BoundCodeModel" (⟨"BoundCodeModel", "place", "()I"⟩ : MethodName) (⟨"BoundCodeModel", "place", "()I"⟩ : MethodName)) ∈ gtbl := gu (in_t5 (List.mem_of_getElem? (i := 13) (by decide +kernel))) rfl
theorem w1038 : (Cond.code (⟨"BoundCodeModel", "place", "()I"⟩ : MethodName) prog_9_method_21_code 1 (some FieldType.int)) ∈ gtbl := gu (in_t5 (List.mem_of_getElem? (i := 14) (by decide +kernel))) rfl
theorem w1039 : (Cond.methodLink "BoundCodeLaw" 100 (⟨"BoundCodeModel", "height", "(II)I"⟩ : MethodName)) ∈ gtbl := gu (in_t5 (List.mem_of_getElem? (i := 15) (by decide +kernel))) rfl
theorem w1040 : (Cond.instanceMethod (⟨"BoundCodeModel", "height", "(II)I"⟩ : MethodName)) ∈ gtbl := gu (in_t5 (List.mem_of_getElem? (i := 16) (by decide +kernel))) rfl
theorem w1041 : (Cond.selects "BoundCodeModel" (⟨"BoundCodeModel", "height", "(II)I"⟩ : MethodName) (⟨"BoundCodeModel", "height", "(II)I"⟩ : MethodName)) ∈ gtbl := gu (in_t5 (List.mem_of_getElem? (i := 17) (by decide +kernel))) rfl
theorem w1042 : (Cond.code (⟨"BoundCodeModel", "height", "(II)I"⟩ : MethodName) prog_9_method_22_code 3 (some FieldType.int)) ∈ gtbl := gu (in_t5 (List.mem_of_getElem? (i := 18) (by decide +kernel))) rfl
theorem w1043 : (Cond.methodLink "BoundCodeLaw" 103 (⟨"BoundCodeModel", "analyse", "(I)I"⟩ : MethodName)) ∈ gtbl := gu (in_t5 (List.mem_of_getElem? (i := 19) (by decide +kernel))) rfl
theorem w1044 : (Cond.instanceMethod (⟨"BoundCodeModel", "analyse", "(I)I"⟩ : MethodName)) ∈ gtbl := gu (in_t5 (List.mem_of_getElem? (i := 20) (by decide +kernel))) rfl
theorem w1045 : (Cond.selects "BoundCodeModel" (⟨"BoundCodeModel", "analyse", "(I)I"⟩ : MethodName) (⟨"BoundCodeModel", "analyse", "(I)I"⟩ : MethodName)) ∈ gtbl := gu (in_t5 (List.mem_of_getElem? (i := 21) (by decide +kernel))) rfl
theorem w1046 : (Cond.code (⟨"BoundCodeModel", "analyse", "(I)I"⟩ : MethodName) prog_9_method_33_code 2 (some FieldType.int)) ∈ gtbl := gu (in_t5 (List.mem_of_getElem? (i := 22) (by decide +kernel))) rfl
theorem w1047 : (Cond.methodLink "BoundCodeModel" 202 (⟨"BoundCodeModel", "analyseFrom", "(I)I"⟩ : MethodName)) ∈ gtbl := gu (in_t5 (List.mem_of_getElem? (i := 23) (by decide +kernel))) rfl
theorem w1049 : (Cond.instanceMethod (⟨"BoundCodeModel", "analyseFrom", "(I)I"⟩ : MethodName)) ∈ gtbl := gu (in_t5 (List.mem_of_getElem? (i := 25) (by decide +kernel))) rfl
theorem w1050 : (Cond.code (⟨"BoundCodeModel", "analyseFrom", "(I)I"⟩ : MethodName) prog_9_method_30_code 6 (some FieldType.int)) ∈ gtbl := gu (in_t5 (List.mem_of_getElem? (i := 26) (by decide +kernel))) rfl
theorem w1051 : (Cond.methodLink "BoundCodeModel" 185 (⟨"BoundCodeModel", "examineAll", "()V"⟩ : MethodName)) ∈ gtbl := gu (in_t5 (List.mem_of_getElem? (i := 27) (by decide +kernel))) rfl
theorem w1053 : (Cond.instanceMethod (⟨"BoundCodeModel", "examineAll", "()V"⟩ : MethodName)) ∈ gtbl := gu (in_t5 (List.mem_of_getElem? (i := 29) (by decide +kernel))) rfl
theorem w1054 : (Cond.code (⟨"BoundCodeModel", "examineAll", "()V"⟩ : MethodName) prog_9_method_19_code 2 (none : Option FieldType)) ∈ gtbl := gu (in_t5 (List.mem_of_getElem? (i := 30) (by decide +kernel))) rfl
theorem w1055 : (Cond.methodLink "BoundCodeModel" 188 (⟨"BoundCodeModel", "calls", "(II)Z"⟩ : MethodName)) ∈ gtbl := gu (in_t5 (List.mem_of_getElem? (i := 31) (by decide +kernel))) rfl
theorem w1057 : (Cond.instanceMethod (⟨"BoundCodeModel", "calls", "(II)Z"⟩ : MethodName)) ∈ gtbl := gu (in_t5 (List.mem_of_getElem? (i := 33) (by decide +kernel))) rfl
theorem w1058 : (Cond.code (⟨"BoundCodeModel", "calls", "(II)Z"⟩ : MethodName) prog_9_method_29_code 5 (some FieldType.boolean)) ∈ gtbl := gu (in_t5 (List.mem_of_getElem? (i := 34) (by decide +kernel))) rfl
theorem w1059 : (Cond.methodLink "BoundCodeModel" 191 (⟨"BoundCodeModel", "isRound", "()Z"⟩ : MethodName)) ∈ gtbl := gu (in_t5 (List.mem_of_getElem? (i := 35) (by decide +kernel))) rfl
theorem w1061 : (Cond.instanceMethod (⟨"BoundCodeModel", "isRound", "()Z"⟩ : MethodName)) ∈ gtbl := gu (in_t5 (List.mem_of_getElem? (i := 37) (by decide +kernel))) rfl
theorem w1062 : (Cond.code (⟨"BoundCodeModel", "isRound", "()Z"⟩ : MethodName) prog_9_method_31_code 4 (some FieldType.boolean)) ∈ gtbl := gu (in_t5 (List.mem_of_getElem? (i := 38) (by decide +kernel))) rfl
theorem w1063 : (Cond.methodLink "BoundCodeModel" 195 (⟨"BoundCodeModel", "boundAll", "()I"⟩ : MethodName)) ∈ gtbl := gu (in_t5 (List.mem_of_getElem? (i := 39) (by decide +kernel))) rfl
theorem w1065 : (Cond.instanceMethod (⟨"BoundCodeModel", "boundAll", "()I"⟩ : MethodName)) ∈ gtbl := gu (in_t5 (List.mem_of_getElem? (i := 41) (by decide +kernel))) rfl
theorem w1066 : (Cond.code (⟨"BoundCodeModel", "boundAll", "()I"⟩ : MethodName) prog_9_method_32_code 5 (some FieldType.int)) ∈ gtbl := gu (in_t5 (List.mem_of_getElem? (i := 42) (by decide +kernel))) rfl
theorem w1067 : (Cond.methodLink "BoundCodeModel" 199 (⟨"BoundCodeModel", "boundOne", "(I)V"⟩ : MethodName)) ∈ gtbl := gu (in_t5 (List.mem_of_getElem? (i := 43) (by decide +kernel))) rfl
theorem w1069 : (Cond.instanceMethod (⟨"BoundCodeModel", "boundOne", "(I)V"⟩ : MethodName)) ∈ gtbl := gu (in_t5 (List.mem_of_getElem? (i := 45) (by decide +kernel))) rfl
theorem w1070 : (Cond.code (⟨"BoundCodeModel", "boundOne", "(I)V"⟩ : MethodName) prog_9_method_28_code 10 (none : Option FieldType)) ∈ gtbl := gu (in_t5 (List.mem_of_getElem? (i := 46) (by decide +kernel))) rfl
theorem w1071 : (Cond.methodLink "BoundCodeModel" 179 (⟨"BoundCodeModel", "region", "(II)J"⟩ : MethodName)) ∈ gtbl := gu (in_t5 (List.mem_of_getElem? (i := 47) (by decide +kernel))) rfl
theorem w1073 : (Cond.instanceMethod (⟨"BoundCodeModel", "region", "(II)J"⟩ : MethodName)) ∈ gtbl := gu (in_t5 (List.mem_of_getElem? (i := 49) (by decide +kernel))) rfl
theorem w1074 : (Cond.code (⟨"BoundCodeModel", "region", "(II)J"⟩ : MethodName) prog_9_method_27_code 14 (some FieldType.long)) ∈ gtbl := gu (in_t5 (List.mem_of_getElem? (i := 50) (by decide +kernel))) rfl
theorem w1075 : (Cond.constantLong "BoundCodeModel" 167 (-1)) ∈ gtbl := gu (in_t5 (List.mem_of_getElem? (i := 51) (by decide +kernel))) rfl
theorem w1076 : (Cond.methodLink "BoundCodeModel" 169 (⟨"BoundCodeModel", "plus", "(JJ)J"⟩ : MethodName)) ∈ gtbl := gu (in_t5 (List.mem_of_getElem? (i := 52) (by decide +kernel))) rfl
theorem w1077 : (Cond.static (⟨"BoundCodeModel", "plus", "(JJ)J"⟩ : MethodName)) ∈ gtbl := gu (in_t5 (List.mem_of_getElem? (i := 53) (by decide +kernel))) rfl
theorem w1078 : (Cond.code (⟨"BoundCodeModel", "plus", "(JJ)J"⟩ : MethodName) prog_9_method_23_code 6 (some FieldType.long)) ∈ gtbl := gu (in_t5 (List.mem_of_getElem? (i := 54) (by decide +kernel))) rfl
theorem w1079 : (Cond.constantLong "BoundCodeModel" 159 (-2)) ∈ gtbl := gu (in_t5 (List.mem_of_getElem? (i := 55) (by decide +kernel))) rfl
theorem w1080 : (Cond.methodLink "BoundCodeModel" 163 (⟨"BoundCodeModel", "greater", "(JJ)J"⟩ : MethodName)) ∈ gtbl := gu (in_t5 (List.mem_of_getElem? (i := 56) (by decide +kernel))) rfl
theorem w1081 : (Cond.static (⟨"BoundCodeModel", "greater", "(JJ)J"⟩ : MethodName)) ∈ gtbl := gu (in_t5 (List.mem_of_getElem? (i := 57) (by decide +kernel))) rfl
theorem w1082 : (Cond.code (⟨"BoundCodeModel", "greater", "(JJ)J"⟩ : MethodName) prog_9_method_25_code 4 (some FieldType.long)) ∈ gtbl := gu (in_t5 (List.mem_of_getElem? (i := 58) (by decide +kernel))) rfl
theorem w1083 : (Cond.methodLink "BoundCodeModel" 172 (⟨"BoundCodeModel", "times", "(JJ)J"⟩ : MethodName)) ∈ gtbl := gu (in_t5 (List.mem_of_getElem? (i := 59) (by decide +kernel))) rfl
theorem w1084 : (Cond.static (⟨"BoundCodeModel", "times", "(JJ)J"⟩ : MethodName)) ∈ gtbl := gu (in_t5 (List.mem_of_getElem? (i := 60) (by decide +kernel))) rfl
theorem w1085 : (Cond.code (⟨"BoundCodeModel", "times", "(JJ)J"⟩ : MethodName) prog_9_method_24_code 4 (some FieldType.long)) ∈ gtbl := gu (in_t5 (List.mem_of_getElem? (i := 61) (by decide +kernel))) rfl
theorem w1086 : (Cond.constantLong "BoundCodeModel" 161 9223372036854775807) ∈ gtbl := gu (in_t5 (List.mem_of_getElem? (i := 62) (by decide +kernel))) rfl
theorem w1087 : (Cond.methodLink "BoundCodeModel" 175 (⟨"BoundCodeModel", "reach", "(IJ)V"⟩ : MethodName)) ∈ gtbl := gu (in_t5 (List.mem_of_getElem? (i := 63) (by decide +kernel))) rfl
theorem w1089 : (Cond.instanceMethod (⟨"BoundCodeModel", "reach", "(IJ)V"⟩ : MethodName)) ∈ gtbl := gu (in_t5 (List.mem_of_getElem? (i := 65) (by decide +kernel))) rfl
theorem w1090 : (Cond.code (⟨"BoundCodeModel", "reach", "(IJ)V"⟩ : MethodName) prog_9_method_26_code 4 (none : Option FieldType)) ∈ gtbl := gu (in_t5 (List.mem_of_getElem? (i := 66) (by decide +kernel))) rfl
theorem w1091 : (Cond.constantLong "BoundCodeModel" 183 2) ∈ gtbl := gu (in_t5 (List.mem_of_getElem? (i := 67) (by decide +kernel))) rfl
theorem w1092 : (Cond.methodLink "BoundCodeLaw" 106 (⟨"BoundCodeModel", "told", "(II)I"⟩ : MethodName)) ∈ gtbl := gu (in_t5 (List.mem_of_getElem? (i := 68) (by decide +kernel))) rfl
theorem w1093 : (Cond.instanceMethod (⟨"BoundCodeModel", "told", "(II)I"⟩ : MethodName)) ∈ gtbl := gu (in_t5 (List.mem_of_getElem? (i := 69) (by decide +kernel))) rfl
theorem w1094 : (Cond.selects "BoundCodeModel" (⟨"BoundCodeModel", "told", "(II)I"⟩ : MethodName) (⟨"BoundCodeModel", "told", "(II)I"⟩ : MethodName)) ∈ gtbl := gu (in_t5 (List.mem_of_getElem? (i := 70) (by decide +kernel))) rfl
theorem w1095 : (Cond.code (⟨"BoundCodeModel", "told", "(II)I"⟩ : MethodName) prog_9_method_34_code 3 (some FieldType.int)) ∈ gtbl := gu (in_t5 (List.mem_of_getElem? (i := 71) (by decide +kernel))) rfl
theorem w1096 : (Cond.methodLink "BoundCodeLaw" 109 (⟨"BoundCodeModel", "bound", "(II)J"⟩ : MethodName)) ∈ gtbl := gu (in_t5 (List.mem_of_getElem? (i := 72) (by decide +kernel))) rfl
theorem w1097 : (Cond.instanceMethod (⟨"BoundCodeModel", "bound", "(II)J"⟩ : MethodName)) ∈ gtbl := gu (in_t5 (List.mem_of_getElem? (i := 73) (by decide +kernel))) rfl
theorem w1098 : (Cond.selects "BoundCodeModel" (⟨"BoundCodeModel", "bound", "(II)J"⟩ : MethodName) (⟨"BoundCodeModel", "bound", "(II)J"⟩ : MethodName)) ∈ gtbl := gu (in_t5 (List.mem_of_getElem? (i := 74) (by decide +kernel))) rfl
theorem w1099 : (Cond.code (⟨"BoundCodeModel", "bound", "(II)J"⟩ : MethodName) prog_9_method_35_code 5 (some FieldType.long)) ∈ gtbl := gu (in_t5 (List.mem_of_getElem? (i := 75) (by decide +kernel))) rfl
theorem w1100 : (Cond.methodLink "BoundCodeLaw" 113 (⟨"BoundCodeModel", "argument", "(J)I"⟩ : MethodName)) ∈ gtbl := gu (in_t5 (List.mem_of_getElem? (i := 76) (by decide +kernel))) rfl
theorem w1101 : (Cond.instanceMethod (⟨"BoundCodeModel", "argument", "(J)I"⟩ : MethodName)) ∈ gtbl := gu (in_t5 (List.mem_of_getElem? (i := 77) (by decide +kernel))) rfl
theorem w1102 : (Cond.selects "BoundCodeModel" (⟨"BoundCodeModel", "argument", "(J)I"⟩ : MethodName) (⟨"BoundCodeModel", "argument", "(J)I"⟩ : MethodName)) ∈ gtbl := gu (in_t5 (List.mem_of_getElem? (i := 78) (by decide +kernel))) rfl
theorem w1103 : (Cond.code (⟨"BoundCodeModel", "argument", "(J)I"⟩ : MethodName) prog_9_method_36_code 3 (some FieldType.int)) ∈ gtbl := gu (in_t5 (List.mem_of_getElem? (i := 79) (by decide +kernel))) rfl
theorem w1104 : (Cond.methodLink "BoundCodeLaw" 116 (⟨"BoundCodeModel", "run", "(II)I"⟩ : MethodName)) ∈ gtbl := gu (in_t5 (List.mem_of_getElem? (i := 80) (by decide +kernel))) rfl
theorem w1105 : (Cond.instanceMethod (⟨"BoundCodeModel", "run", "(II)I"⟩ : MethodName)) ∈ gtbl := gu (in_t5 (List.mem_of_getElem? (i := 81) (by decide +kernel))) rfl
theorem w1106 : (Cond.selects "BoundCodeModel" (⟨"BoundCodeModel", "run", "(II)I"⟩ : MethodName) (⟨"BoundCodeModel", "run", "(II)I"⟩ : MethodName)) ∈ gtbl := gu (in_t5 (List.mem_of_getElem? (i := 82) (by decide +kernel))) rfl
theorem w1107 : (Cond.code (⟨"BoundCodeModel", "run", "(II)I"⟩ : MethodName) prog_9_method_44_code 7 (some FieldType.int)) ∈ gtbl := gu (in_t5 (List.mem_of_getElem? (i := 83) (by decide +kernel))) rfl
theorem w1108 : (Cond.constant "BoundCodeModel" 245 100000) ∈ gtbl := gu (in_t5 (List.mem_of_getElem? (i := 84) (by decide +kernel))) rfl
theorem w1109 : (Cond.methodLink "BoundCodeModel" 218 (⟨"BoundCodeModel", "enter", "(I)V"⟩ : MethodName)) ∈ gtbl := gu (in_t5 (List.mem_of_getElem? (i := 85) (by decide +kernel))) rfl
theorem w1111 : (Cond.instanceMethod (⟨"BoundCodeModel", "enter", "(I)V"⟩ : MethodName)) ∈ gtbl := gu (in_t5 (List.mem_of_getElem? (i := 87) (by decide +kernel))) rfl
theorem w1112 : (Cond.code (⟨"BoundCodeModel", "enter", "(I)V"⟩ : MethodName) prog_9_method_37_code 3 (none : Option FieldType)) ∈ gtbl := gu (in_t5 (List.mem_of_getElem? (i := 88) (by decide +kernel))) rfl
theorem w1113 : (Cond.methodLink "BoundCodeModel" 252 (⟨"BoundCodeModel", "doOne", "(II)V"⟩ : MethodName)) ∈ gtbl := gu (in_t5 (List.mem_of_getElem? (i := 89) (by decide +kernel))) rfl
theorem w1115 : (Cond.instanceMethod (⟨"BoundCodeModel", "doOne", "(II)V"⟩ : MethodName)) ∈ gtbl := gu (in_t5 (List.mem_of_getElem? (i := 91) (by decide +kernel))) rfl
theorem w1116 : (Cond.code (⟨"BoundCodeModel", "doOne", "(II)V"⟩ : MethodName) prog_9_method_43_code 14 (none : Option FieldType)) ∈ gtbl := gu (in_t5 (List.mem_of_getElem? (i := 92) (by decide +kernel))) rfl
theorem w1117 : (Cond.methodLink "BoundCodeModel" 231 (⟨"BoundCodeModel", "push", "(J)V"⟩ : MethodName)) ∈ gtbl := gu (in_t5 (List.mem_of_getElem? (i := 93) (by decide +kernel))) rfl
theorem w1119 : (Cond.instanceMethod (⟨"BoundCodeModel", "push", "(J)V"⟩ : MethodName)) ∈ gtbl := gu (in_t5 (List.mem_of_getElem? (i := 95) (by decide +kernel))) rfl
theorem w1120 : (Cond.code (⟨"BoundCodeModel", "push", "(J)V"⟩ : MethodName) prog_9_method_38_code 4 (none : Option FieldType)) ∈ gtbl := gu (in_t5 (List.mem_of_getElem? (i := 96) (by decide +kernel))) rfl
theorem w1121 : (Cond.methodLink "BoundCodeModel" 223 (⟨"BoundCodeModel", "take", "()J"⟩ : MethodName)) ∈ gtbl := gu (in_t5 (List.mem_of_getElem? (i := 97) (by decide +kernel))) rfl
theorem w1123 : (Cond.instanceMethod (⟨"BoundCodeModel", "take", "()J"⟩ : MethodName)) ∈ gtbl := gu (in_t5 (List.mem_of_getElem? (i := 99) (by decide +kernel))) rfl
theorem w1124 : (Cond.code (⟨"BoundCodeModel", "take", "()J"⟩ : MethodName) prog_9_method_39_code 2 (some FieldType.long)) ∈ gtbl := gu (in_t5 (List.mem_of_getElem? (i := 100) (by decide +kernel))) rfl
theorem w1125 : (Cond.methodLink "BoundCodeModel" 235 (⟨"BoundCodeModel", "call", "(I)V"⟩ : MethodName)) ∈ gtbl := gu (in_t5 (List.mem_of_getElem? (i := 101) (by decide +kernel))) rfl
theorem w1127 : (Cond.instanceMethod (⟨"BoundCodeModel", "call", "(I)V"⟩ : MethodName)) ∈ gtbl := gu (in_t5 (List.mem_of_getElem? (i := 103) (by decide +kernel))) rfl
theorem w1128 : (Cond.code (⟨"BoundCodeModel", "call", "(I)V"⟩ : MethodName) prog_9_method_41_code 5 (none : Option FieldType)) ∈ gtbl := gu (in_t5 (List.mem_of_getElem? (i := 104) (by decide +kernel))) rfl
theorem w1129 : (Cond.methodLink "BoundCodeModel" 238 (⟨"BoundCodeModel", "back", "(I)V"⟩ : MethodName)) ∈ gtbl := gu (in_t5 (List.mem_of_getElem? (i := 105) (by decide +kernel))) rfl
theorem w1131 : (Cond.instanceMethod (⟨"BoundCodeModel", "back", "(I)V"⟩ : MethodName)) ∈ gtbl := gu (in_t5 (List.mem_of_getElem? (i := 107) (by decide +kernel))) rfl
theorem w1132 : (Cond.code (⟨"BoundCodeModel", "back", "(I)V"⟩ : MethodName) prog_9_method_42_code 4 (none : Option FieldType)) ∈ gtbl := gu (in_t5 (List.mem_of_getElem? (i := 108) (by decide +kernel))) rfl
theorem w1133 : (Cond.methodLink "BoundCodeModel" 241 (⟨"BoundCodeModel", "work", "(IJJ)J"⟩ : MethodName)) ∈ gtbl := gu (in_t5 (List.mem_of_getElem? (i := 109) (by decide +kernel))) rfl
theorem w1134 : (Cond.static (⟨"BoundCodeModel", "work", "(IJJ)J"⟩ : MethodName)) ∈ gtbl := gu (in_t5 (List.mem_of_getElem? (i := 110) (by decide +kernel))) rfl
theorem w1135 : (Cond.code (⟨"BoundCodeModel", "work", "(IJJ)J"⟩ : MethodName) prog_9_method_40_code 5 (some FieldType.long)) ∈ gtbl := gu (in_t5 (List.mem_of_getElem? (i := 111) (by decide +kernel))) rfl
theorem w1136 : (Cond.methodLink "BoundCodeLaw" 119 (⟨"BoundCodeModel", "ran", "(I)J"⟩ : MethodName)) ∈ gtbl := gu (in_t5 (List.mem_of_getElem? (i := 112) (by decide +kernel))) rfl
theorem w1137 : (Cond.instanceMethod (⟨"BoundCodeModel", "ran", "(I)J"⟩ : MethodName)) ∈ gtbl := gu (in_t5 (List.mem_of_getElem? (i := 113) (by decide +kernel))) rfl
theorem w1138 : (Cond.selects "BoundCodeModel" (⟨"BoundCodeModel", "ran", "(I)J"⟩ : MethodName) (⟨"BoundCodeModel", "ran", "(I)J"⟩ : MethodName)) ∈ gtbl := gu (in_t5 (List.mem_of_getElem? (i := 114) (by decide +kernel))) rfl
theorem w1139 : (Cond.code (⟨"BoundCodeModel", "ran", "(I)J"⟩ : MethodName) prog_9_method_45_code 2 (some FieldType.long)) ∈ gtbl := gu (in_t5 (List.mem_of_getElem? (i := 115) (by decide +kernel))) rfl
theorem w1140 : (Cond.methodLink "BoundCodeLaw" 122 (⟨"BoundCodeModel", "about", "(II)I"⟩ : MethodName)) ∈ gtbl := gu (in_t5 (List.mem_of_getElem? (i := 116) (by decide +kernel))) rfl
theorem w1141 : (Cond.instanceMethod (⟨"BoundCodeModel", "about", "(II)I"⟩ : MethodName)) ∈ gtbl := gu (in_t5 (List.mem_of_getElem? (i := 117) (by decide +kernel))) rfl
theorem w1142 : (Cond.selects "BoundCodeModel" (⟨"BoundCodeModel", "about", "(II)I"⟩ : MethodName) (⟨"BoundCodeModel", "about", "(II)I"⟩ : MethodName)) ∈ gtbl := gu (in_t5 (List.mem_of_getElem? (i := 118) (by decide +kernel))) rfl
theorem w1143 : (Cond.code (⟨"BoundCodeModel", "about", "(II)I"⟩ : MethodName) prog_9_method_46_code 3 (some FieldType.int)) ∈ gtbl := gu (in_t5 (List.mem_of_getElem? (i := 119) (by decide +kernel))) rfl
theorem w1144 : (Cond.constantLong "BoundCodeLaw" 76 4294967295) ∈ gtbl := gu (in_t5 (List.mem_of_getElem? (i := 120) (by decide +kernel))) rfl
