/-- a private method of a class that the tables say can be made, by its rows of tables_1 -/
def lw_okq (q : MethodName × Nat) : Prop := (q.1.cls ≠ "java/lang/invoke/MethodHandle" ∧ q.1.cls ≠ "java/lang/invoke/VarHandle") ∧ Cond.instantiable q.1.cls q.2 ∈ tables_1 ∧ Cond.privateMethod q.1 ∈ tables_1 ∧ Cond.instanceMethod q.1 ∈ tables_1
theorem tT_1 : ∀ w ∈ tables_1_1, w ∈ tables_1 := fun w h => by
  show w ∈ tables_1_1 ++ (tables_1_2 ++ (tables_1_3 ++ (tables_1_4 ++ (tables_1_5 ++ (tables_1_6 ++ (tables_1_7 ++ (tables_1_8)))))))
  exact List.mem_append_left _ h
theorem tT_2 : ∀ w ∈ tables_1_2, w ∈ tables_1 := fun w h => by
  show w ∈ tables_1_1 ++ (tables_1_2 ++ (tables_1_3 ++ (tables_1_4 ++ (tables_1_5 ++ (tables_1_6 ++ (tables_1_7 ++ (tables_1_8)))))))
  exact List.mem_append_right _ (List.mem_append_left _ h)
theorem tT_3 : ∀ w ∈ tables_1_3, w ∈ tables_1 := fun w h => by
  show w ∈ tables_1_1 ++ (tables_1_2 ++ (tables_1_3 ++ (tables_1_4 ++ (tables_1_5 ++ (tables_1_6 ++ (tables_1_7 ++ (tables_1_8)))))))
  exact List.mem_append_right _ (List.mem_append_right _ (List.mem_append_left _ h))
theorem tT_4 : ∀ w ∈ tables_1_4, w ∈ tables_1 := fun w h => by
  show w ∈ tables_1_1 ++ (tables_1_2 ++ (tables_1_3 ++ (tables_1_4 ++ (tables_1_5 ++ (tables_1_6 ++ (tables_1_7 ++ (tables_1_8)))))))
  exact List.mem_append_right _ (List.mem_append_right _ (List.mem_append_right _ (List.mem_append_left _ h)))
theorem tT_5 : ∀ w ∈ tables_1_5, w ∈ tables_1 := fun w h => by
  show w ∈ tables_1_1 ++ (tables_1_2 ++ (tables_1_3 ++ (tables_1_4 ++ (tables_1_5 ++ (tables_1_6 ++ (tables_1_7 ++ (tables_1_8)))))))
  exact List.mem_append_right _ (List.mem_append_right _ (List.mem_append_right _ (List.mem_append_right _ (List.mem_append_left _ h))))
theorem tT_6 : ∀ w ∈ tables_1_6, w ∈ tables_1 := fun w h => by
  show w ∈ tables_1_1 ++ (tables_1_2 ++ (tables_1_3 ++ (tables_1_4 ++ (tables_1_5 ++ (tables_1_6 ++ (tables_1_7 ++ (tables_1_8)))))))
  exact List.mem_append_right _ (List.mem_append_right _ (List.mem_append_right _ (List.mem_append_right _ (List.mem_append_right _ (List.mem_append_left _ h)))))
theorem tT_7 : ∀ w ∈ tables_1_7, w ∈ tables_1 := fun w h => by
  show w ∈ tables_1_1 ++ (tables_1_2 ++ (tables_1_3 ++ (tables_1_4 ++ (tables_1_5 ++ (tables_1_6 ++ (tables_1_7 ++ (tables_1_8)))))))
  exact List.mem_append_right _ (List.mem_append_right _ (List.mem_append_right _ (List.mem_append_right _ (List.mem_append_right _ (List.mem_append_right _ (List.mem_append_left _ h))))))
theorem tT_8 : ∀ w ∈ tables_1_8, w ∈ tables_1 := fun w h => by
  show w ∈ tables_1_1 ++ (tables_1_2 ++ (tables_1_3 ++ (tables_1_4 ++ (tables_1_5 ++ (tables_1_6 ++ (tables_1_7 ++ (tables_1_8)))))))
  exact List.mem_append_right _ (List.mem_append_right _ (List.mem_append_right _ (List.mem_append_right _ (List.mem_append_right _ (List.mem_append_right _ (List.mem_append_right _ (h)))))))
theorem nM_0 : ("InquiryBench$Doubt" : String) ≠ "java/lang/invoke/MethodHandle" ∧ ("InquiryBench$Doubt" : String) ≠ "java/lang/invoke/VarHandle" := ⟨by decide +kernel, by decide +kernel⟩
theorem nM_1 : ("InquiryBench$Clocks" : String) ≠ "java/lang/invoke/MethodHandle" ∧ ("InquiryBench$Clocks" : String) ≠ "java/lang/invoke/VarHandle" := ⟨by decide +kernel, by decide +kernel⟩
theorem nM_2 : ("InquiryBench$Sight" : String) ≠ "java/lang/invoke/MethodHandle" ∧ ("InquiryBench$Sight" : String) ≠ "java/lang/invoke/VarHandle" := ⟨by decide +kernel, by decide +kernel⟩
theorem nM_3 : ("InquiryBench" : String) ≠ "java/lang/invoke/MethodHandle" ∧ ("InquiryBench" : String) ≠ "java/lang/invoke/VarHandle" := ⟨by decide +kernel, by decide +kernel⟩
theorem nM_4 : ("InquiryBench$Rules" : String) ≠ "java/lang/invoke/MethodHandle" ∧ ("InquiryBench$Rules" : String) ≠ "java/lang/invoke/VarHandle" := ⟨by decide +kernel, by decide +kernel⟩
theorem nM_5 : ("InquiryBench$Tape" : String) ≠ "java/lang/invoke/MethodHandle" ∧ ("InquiryBench$Tape" : String) ≠ "java/lang/invoke/VarHandle" := ⟨by decide +kernel, by decide +kernel⟩
theorem nM_6 : ("InquiryBench$Talk" : String) ≠ "java/lang/invoke/MethodHandle" ∧ ("InquiryBench$Talk" : String) ≠ "java/lang/invoke/VarHandle" := ⟨by decide +kernel, by decide +kernel⟩
theorem nM_7 : ("InquiryBench$Round" : String) ≠ "java/lang/invoke/MethodHandle" ∧ ("InquiryBench$Round" : String) ≠ "java/lang/invoke/VarHandle" := ⟨by decide +kernel, by decide +kernel⟩
theorem nM_8 : ("InquiryBench$Deale\x72" : String) ≠ "java/lang/invoke/MethodHandle" ∧ ("InquiryBench$Deale\x72" : String) ≠ "java/lang/invoke/VarHandle" := ⟨by decide +kernel, by decide +kernel⟩
theorem nM_9 : ("InquiryBenchModel" : String) ≠ "java/lang/invoke/MethodHandle" ∧ ("InquiryBenchModel" : String) ≠ "java/lang/invoke/VarHandle" := ⟨by decide +kernel, by decide +kernel⟩
theorem lw_p0 : lw_okq (⟨"InquiryBench$Doubt", "search", "(IIII)V"⟩, 5) := ⟨nM_0, tT_1 _ (List.mem_of_getElem? (i := 183) rfl), tT_3 _ (List.mem_of_getElem? (i := 91) rfl), tT_3 _ (List.mem_of_getElem? (i := 92) rfl)⟩
theorem lw_p1 : lw_okq (⟨"InquiryBench$Doubt", "holdOrLeave", "(IIII)V"⟩, 5) := ⟨nM_0, tT_1 _ (List.mem_of_getElem? (i := 183) rfl), tT_3 _ (List.mem_of_getElem? (i := 95) rfl), tT_3 _ (List.mem_of_getElem? (i := 96) rfl)⟩
theorem lw_p2 : lw_okq (⟨"InquiryBench$Doubt", "isRight", "(ILInquiryBench$Clocks;)Z"⟩, 5) := ⟨nM_0, tT_1 _ (List.mem_of_getElem? (i := 183) rfl), tT_3 _ (List.mem_of_getElem? (i := 106) rfl), tT_3 _ (List.mem_of_getElem? (i := 107) rfl)⟩
theorem lw_p3 : lw_okq (⟨"InquiryBench$Clocks", "narrow", "(III)Z"⟩, 1) := ⟨nM_1, tT_1 _ (List.mem_of_getElem? (i := 145) rfl), tT_3 _ (List.mem_of_getElem? (i := 116) rfl), tT_3 _ (List.mem_of_getElem? (i := 117) rfl)⟩
theorem lw_p4 : lw_okq (⟨"InquiryBench$Sight", "boundHours", "()V"⟩, 9) := ⟨nM_2, tT_1 _ (List.mem_of_getElem? (i := 139) rfl), tT_3 _ (List.mem_of_getElem? (i := 131) rfl), tT_3 _ (List.mem_of_getElem? (i := 132) rfl)⟩
theorem lw_p5 : lw_okq (⟨"InquiryBench$Sight", "trueHou\x72", "(IZ)I"⟩, 9) := ⟨nM_2, tT_1 _ (List.mem_of_getElem? (i := 139) rfl), tT_3 _ (List.mem_of_getElem? (i := 135) rfl), tT_3 _ (List.mem_of_getElem? (i := 136) rfl)⟩
theorem lw_p6 : lw_okq (⟨"InquiryBench$Sight", "readBetween", "(II)I"⟩, 9) := ⟨nM_2, tT_1 _ (List.mem_of_getElem? (i := 139) rfl), tT_3 _ (List.mem_of_getElem? (i := 188) rfl), tT_3 _ (List.mem_of_getElem? (i := 189) rfl)⟩
theorem lw_p7 : lw_okq (⟨"InquiryBench$Sight", "clockOf", "(I)I"⟩, 9) := ⟨nM_2, tT_1 _ (List.mem_of_getElem? (i := 139) rfl), tT_3 _ (List.mem_of_getElem? (i := 192) rfl), tT_3 _ (List.mem_of_getElem? (i := 193) rfl)⟩
theorem lw_p8 : lw_okq (⟨"InquiryBench", "knownFrom", "(IIII)I"⟩, 11) := ⟨nM_3, tT_1 _ (List.mem_of_getElem? (i := 22) rfl), tT_3 _ (List.mem_of_getElem? (i := 210) rfl), tT_3 _ (List.mem_of_getElem? (i := 211) rfl)⟩
theorem lw_p9 : lw_okq (⟨"InquiryBench$Rules", "holds", "(I)Z"⟩, 7) := ⟨nM_4, tT_1 _ (List.mem_of_getElem? (i := 208) rfl), tT_3 _ (List.mem_of_getElem? (i := 237) rfl), tT_3 _ (List.mem_of_getElem? (i := 238) rfl)⟩
theorem lw_p10 : lw_okq (⟨"InquiryBench$Rules", "isSo", "(I)Z"⟩, 7) := ⟨nM_4, tT_1 _ (List.mem_of_getElem? (i := 208) rfl), tT_4 _ (List.mem_of_getElem? (i := 1) rfl), tT_4 _ (List.mem_of_getElem? (i := 2) rfl)⟩
theorem lw_p11 : lw_okq (⟨"InquiryBench$Rules", "tellEarlie\x72", "()Z"⟩, 7) := ⟨nM_4, tT_1 _ (List.mem_of_getElem? (i := 208) rfl), tT_4 _ (List.mem_of_getElem? (i := 6) rfl), tT_4 _ (List.mem_of_getElem? (i := 7) rfl)⟩
theorem lw_p12 : lw_okq (⟨"InquiryBench$Rules", "thingOf", "(I)I"⟩, 7) := ⟨nM_4, tT_1 _ (List.mem_of_getElem? (i := 208) rfl), tT_4 _ (List.mem_of_getElem? (i := 10) rfl), tT_4 _ (List.mem_of_getElem? (i := 11) rfl)⟩
theorem lw_p13 : lw_okq (⟨"InquiryBench$Rules", "hourBy", "(I)I"⟩, 7) := ⟨nM_4, tT_1 _ (List.mem_of_getElem? (i := 208) rfl), tT_4 _ (List.mem_of_getElem? (i := 16) rfl), tT_4 _ (List.mem_of_getElem? (i := 17) rfl)⟩
theorem lw_p14 : lw_okq (⟨"InquiryBench$Tape", "advance", "()V"⟩, 8) := ⟨nM_5, tT_2 _ (List.mem_of_getElem? (i := 21) rfl), tT_4 _ (List.mem_of_getElem? (i := 51) rfl), tT_4 _ (List.mem_of_getElem? (i := 52) rfl)⟩
theorem lw_p15 : lw_okq (⟨"InquiryBench$Tape", "byteAt", "(I)I"⟩, 8) := ⟨nM_5, tT_2 _ (List.mem_of_getElem? (i := 21) rfl), tT_4 _ (List.mem_of_getElem? (i := 55) rfl), tT_4 _ (List.mem_of_getElem? (i := 56) rfl)⟩
def lw_privs_1 : List (MethodName × Nat) := [(⟨"InquiryBench$Doubt", "search", "(IIII)V"⟩, 5), (⟨"InquiryBench$Doubt", "holdOrLeave", "(IIII)V"⟩, 5), (⟨"InquiryBench$Doubt", "isRight", "(ILInquiryBench$Clocks;)Z"⟩, 5), (⟨"InquiryBench$Clocks", "narrow", "(III)Z"⟩, 1), (⟨"InquiryBench$Sight", "boundHours", "()V"⟩, 9), (⟨"InquiryBench$Sight", "trueHou\x72", "(IZ)I"⟩, 9), (⟨"InquiryBench$Sight", "readBetween", "(II)I"⟩, 9), (⟨"InquiryBench$Sight", "clockOf", "(I)I"⟩, 9), (⟨"InquiryBench", "knownFrom", "(IIII)I"⟩, 11), (⟨"InquiryBench$Rules", "holds", "(I)Z"⟩, 7), (⟨"InquiryBench$Rules", "isSo", "(I)Z"⟩, 7), (⟨"InquiryBench$Rules", "tellEarlie\x72", "()Z"⟩, 7), (⟨"InquiryBench$Rules", "thingOf", "(I)I"⟩, 7), (⟨"InquiryBench$Rules", "hourBy", "(I)I"⟩, 7), (⟨"InquiryBench$Tape", "advance", "()V"⟩, 8), (⟨"InquiryBench$Tape", "byteAt", "(I)I"⟩, 8)]
theorem lw_r1 : ∀ q ∈ lw_privs_1, lw_okq q := List.forall_mem_cons.mpr ⟨lw_p0, List.forall_mem_cons.mpr ⟨lw_p1, List.forall_mem_cons.mpr ⟨lw_p2, List.forall_mem_cons.mpr ⟨lw_p3, List.forall_mem_cons.mpr ⟨lw_p4, List.forall_mem_cons.mpr ⟨lw_p5, List.forall_mem_cons.mpr ⟨lw_p6, List.forall_mem_cons.mpr ⟨lw_p7, List.forall_mem_cons.mpr ⟨lw_p8, List.forall_mem_cons.mpr ⟨lw_p9, List.forall_mem_cons.mpr ⟨lw_p10, List.forall_mem_cons.mpr ⟨lw_p11, List.forall_mem_cons.mpr ⟨lw_p12, List.forall_mem_cons.mpr ⟨lw_p13, List.forall_mem_cons.mpr ⟨lw_p14, List.forall_mem_cons.mpr ⟨lw_p15, fun _ h => absurd h List.not_mem_nil⟩⟩⟩⟩⟩⟩⟩⟩⟩⟩⟩⟩⟩⟩⟩⟩
theorem lw_p16 : lw_okq (⟨"InquiryBench$Tape", "takesLine", "()Z"⟩, 8) := ⟨nM_5, tT_2 _ (List.mem_of_getElem? (i := 21) rfl), tT_4 _ (List.mem_of_getElem? (i := 66) rfl), tT_4 _ (List.mem_of_getElem? (i := 67) rfl)⟩
theorem lw_p17 : lw_okq (⟨"InquiryBench$Tape", "refuse", "()Z"⟩, 8) := ⟨nM_5, tT_2 _ (List.mem_of_getElem? (i := 21) rfl), tT_4 _ (List.mem_of_getElem? (i := 71) rfl), tT_4 _ (List.mem_of_getElem? (i := 72) rfl)⟩
theorem lw_p18 : lw_okq (⟨"InquiryBench$Tape", "sortHere", "()I"⟩, 8) := ⟨nM_5, tT_2 _ (List.mem_of_getElem? (i := 21) rfl), tT_4 _ (List.mem_of_getElem? (i := 77) rfl), tT_4 _ (List.mem_of_getElem? (i := 78) rfl)⟩
theorem lw_p19 : lw_okq (⟨"InquiryBench$Tape", "isName", "(Ljava/lang/String;)Z"⟩, 8) := ⟨nM_5, tT_2 _ (List.mem_of_getElem? (i := 21) rfl), tT_4 _ (List.mem_of_getElem? (i := 82) rfl), tT_4 _ (List.mem_of_getElem? (i := 83) rfl)⟩
theorem lw_p20 : lw_okq (⟨"InquiryBench$Tape", "takesHead", "(II)Z"⟩, 8) := ⟨nM_5, tT_2 _ (List.mem_of_getElem? (i := 21) rfl), tT_4 _ (List.mem_of_getElem? (i := 137) rfl), tT_4 _ (List.mem_of_getElem? (i := 138) rfl)⟩
theorem lw_p21 : lw_okq (⟨"InquiryBench$Tape", "takesNumbe\x72", "(III)Z"⟩, 8) := ⟨nM_5, tT_2 _ (List.mem_of_getElem? (i := 21) rfl), tT_4 _ (List.mem_of_getElem? (i := 141) rfl), tT_4 _ (List.mem_of_getElem? (i := 142) rfl)⟩
theorem lw_p22 : lw_okq (⟨"InquiryBench$Tape", "numberHere", "()I"⟩, 8) := ⟨nM_5, tT_2 _ (List.mem_of_getElem? (i := 21) rfl), tT_4 _ (List.mem_of_getElem? (i := 145) rfl), tT_4 _ (List.mem_of_getElem? (i := 146) rfl)⟩
theorem lw_p23 : lw_okq (⟨"InquiryBench$Tape", "takesName", "(Ljava/lang/String;)Z"⟩, 8) := ⟨nM_5, tT_2 _ (List.mem_of_getElem? (i := 21) rfl), tT_4 _ (List.mem_of_getElem? (i := 150) rfl), tT_4 _ (List.mem_of_getElem? (i := 151) rfl)⟩
theorem lw_p24 : lw_okq (⟨"InquiryBench$Tape", "takesCond", "(I)Z"⟩, 8) := ⟨nM_5, tT_2 _ (List.mem_of_getElem? (i := 21) rfl), tT_4 _ (List.mem_of_getElem? (i := 157) rfl), tT_4 _ (List.mem_of_getElem? (i := 158) rfl)⟩
theorem lw_p25 : lw_okq (⟨"InquiryBench$Tape", "takesAll", "(I)Z"⟩, 8) := ⟨nM_5, tT_2 _ (List.mem_of_getElem? (i := 21) rfl), tT_4 _ (List.mem_of_getElem? (i := 161) rfl), tT_4 _ (List.mem_of_getElem? (i := 162) rfl)⟩
theorem lw_p26 : lw_okq (⟨"InquiryBench$Tape", "takesOne", "(I)Z"⟩, 8) := ⟨nM_5, tT_2 _ (List.mem_of_getElem? (i := 21) rfl), tT_4 _ (List.mem_of_getElem? (i := 165) rfl), tT_4 _ (List.mem_of_getElem? (i := 166) rfl)⟩
theorem lw_p27 : lw_okq (⟨"InquiryBench$Tape", "takesComparison", "()Z"⟩, 8) := ⟨nM_5, tT_2 _ (List.mem_of_getElem? (i := 21) rfl), tT_4 _ (List.mem_of_getElem? (i := 170) rfl), tT_4 _ (List.mem_of_getElem? (i := 171) rfl)⟩
theorem lw_p28 : lw_okq (⟨"InquiryBench$Tape", "factHere", "()I"⟩, 8) := ⟨nM_5, tT_2 _ (List.mem_of_getElem? (i := 21) rfl), tT_4 _ (List.mem_of_getElem? (i := 174) rfl), tT_4 _ (List.mem_of_getElem? (i := 175) rfl)⟩
theorem lw_p29 : lw_okq (⟨"InquiryBench$Tape", "signHere", "()I"⟩, 8) := ⟨nM_5, tT_2 _ (List.mem_of_getElem? (i := 21) rfl), tT_4 _ (List.mem_of_getElem? (i := 183) rfl), tT_4 _ (List.mem_of_getElem? (i := 184) rfl)⟩
theorem lw_p30 : lw_okq (⟨"InquiryBench$Tape", "addStep", "(I)V"⟩, 8) := ⟨nM_5, tT_2 _ (List.mem_of_getElem? (i := 21) rfl), tT_4 _ (List.mem_of_getElem? (i := 187) rfl), tT_4 _ (List.mem_of_getElem? (i := 188) rfl)⟩
theorem lw_p31 : lw_okq (⟨"InquiryBench$Tape", "takesByte", "(I)Z"⟩, 8) := ⟨nM_5, tT_2 _ (List.mem_of_getElem? (i := 21) rfl), tT_4 _ (List.mem_of_getElem? (i := 191) rfl), tT_4 _ (List.mem_of_getElem? (i := 192) rfl)⟩
def lw_privs_2 : List (MethodName × Nat) := [(⟨"InquiryBench$Tape", "takesLine", "()Z"⟩, 8), (⟨"InquiryBench$Tape", "refuse", "()Z"⟩, 8), (⟨"InquiryBench$Tape", "sortHere", "()I"⟩, 8), (⟨"InquiryBench$Tape", "isName", "(Ljava/lang/String;)Z"⟩, 8), (⟨"InquiryBench$Tape", "takesHead", "(II)Z"⟩, 8), (⟨"InquiryBench$Tape", "takesNumbe\x72", "(III)Z"⟩, 8), (⟨"InquiryBench$Tape", "numberHere", "()I"⟩, 8), (⟨"InquiryBench$Tape", "takesName", "(Ljava/lang/String;)Z"⟩, 8), (⟨"InquiryBench$Tape", "takesCond", "(I)Z"⟩, 8), (⟨"InquiryBench$Tape", "takesAll", "(I)Z"⟩, 8), (⟨"InquiryBench$Tape", "takesOne", "(I)Z"⟩, 8), (⟨"InquiryBench$Tape", "takesComparison", "()Z"⟩, 8), (⟨"InquiryBench$Tape", "factHere", "()I"⟩, 8), (⟨"InquiryBench$Tape", "signHere", "()I"⟩, 8), (⟨"InquiryBench$Tape", "addStep", "(I)V"⟩, 8), (⟨"InquiryBench$Tape", "takesByte", "(I)Z"⟩, 8)]
theorem lw_r2 : ∀ q ∈ lw_privs_2, lw_okq q := List.forall_mem_cons.mpr ⟨lw_p16, List.forall_mem_cons.mpr ⟨lw_p17, List.forall_mem_cons.mpr ⟨lw_p18, List.forall_mem_cons.mpr ⟨lw_p19, List.forall_mem_cons.mpr ⟨lw_p20, List.forall_mem_cons.mpr ⟨lw_p21, List.forall_mem_cons.mpr ⟨lw_p22, List.forall_mem_cons.mpr ⟨lw_p23, List.forall_mem_cons.mpr ⟨lw_p24, List.forall_mem_cons.mpr ⟨lw_p25, List.forall_mem_cons.mpr ⟨lw_p26, List.forall_mem_cons.mpr ⟨lw_p27, List.forall_mem_cons.mpr ⟨lw_p28, List.forall_mem_cons.mpr ⟨lw_p29, List.forall_mem_cons.mpr ⟨lw_p30, List.forall_mem_cons.mpr ⟨lw_p31, fun _ h => absurd h List.not_mem_nil⟩⟩⟩⟩⟩⟩⟩⟩⟩⟩⟩⟩⟩⟩⟩⟩
theorem lw_p32 : lw_okq (⟨"InquiryBench$Talk", "bound", "(II)V"⟩, 6) := ⟨nM_6, tT_1 _ (List.mem_of_getElem? (i := 236) rfl), tT_4 _ (List.mem_of_getElem? (i := 231) rfl), tT_4 _ (List.mem_of_getElem? (i := 232) rfl)⟩
theorem lw_p33 : lw_okq (⟨"InquiryBench$Talk", "weightAgainst", "(IIII)I"⟩, 6) := ⟨nM_6, tT_1 _ (List.mem_of_getElem? (i := 236) rfl), tT_4 _ (List.mem_of_getElem? (i := 237) rfl), tT_4 _ (List.mem_of_getElem? (i := 238) rfl)⟩
theorem lw_p34 : lw_okq (⟨"InquiryBench$Talk", "isOn", "(IIII)Z"⟩, 6) := ⟨nM_6, tT_1 _ (List.mem_of_getElem? (i := 236) rfl), tT_5 _ (List.mem_of_getElem? (i := 2) rfl), tT_5 _ (List.mem_of_getElem? (i := 3) rfl)⟩
theorem lw_p35 : lw_okq (⟨"InquiryBench", "stands", "(II)Z"⟩, 11) := ⟨nM_3, tT_1 _ (List.mem_of_getElem? (i := 22) rfl), tT_5 _ (List.mem_of_getElem? (i := 33) rfl), tT_5 _ (List.mem_of_getElem? (i := 34) rfl)⟩
theorem lw_p36 : lw_okq (⟨"InquiryBench", "leansOn", "(II)I"⟩, 11) := ⟨nM_3, tT_1 _ (List.mem_of_getElem? (i := 22) rfl), tT_5 _ (List.mem_of_getElem? (i := 37) rfl), tT_5 _ (List.mem_of_getElem? (i := 38) rfl)⟩
theorem lw_p37 : lw_okq (⟨"InquiryBench", "isBarred", "(III)Z"⟩, 11) := ⟨nM_3, tT_1 _ (List.mem_of_getElem? (i := 22) rfl), tT_5 _ (List.mem_of_getElem? (i := 41) rfl), tT_5 _ (List.mem_of_getElem? (i := 42) rfl)⟩
theorem lw_p38 : lw_okq (⟨"InquiryBench$Round", "nextBehind", "(I)I"⟩, 6) := ⟨nM_7, tT_2 _ (List.mem_of_getElem? (i := 54) rfl), tT_5 _ (List.mem_of_getElem? (i := 75) rfl), tT_5 _ (List.mem_of_getElem? (i := 76) rfl)⟩
theorem lw_p39 : lw_okq (⟨"InquiryBench$Round", "costBehind", "(II)I"⟩, 6) := ⟨nM_7, tT_2 _ (List.mem_of_getElem? (i := 54) rfl), tT_5 _ (List.mem_of_getElem? (i := 81) rfl), tT_5 _ (List.mem_of_getElem? (i := 82) rfl)⟩
theorem lw_p40 : lw_okq (⟨"InquiryBench$Round", "lengthOf", "(I)I"⟩, 6) := ⟨nM_7, tT_2 _ (List.mem_of_getElem? (i := 54) rfl), tT_5 _ (List.mem_of_getElem? (i := 85) rfl), tT_5 _ (List.mem_of_getElem? (i := 86) rfl)⟩
theorem lw_p41 : lw_okq (⟨"InquiryBench$Round", "tellRows", "()V"⟩, 6) := ⟨nM_7, tT_2 _ (List.mem_of_getElem? (i := 54) rfl), tT_5 _ (List.mem_of_getElem? (i := 92) rfl), tT_5 _ (List.mem_of_getElem? (i := 93) rfl)⟩
theorem lw_p42 : lw_okq (⟨"InquiryBench$Deale\x72", "kindOfPape\x72", "(I)I"⟩, 8) := ⟨nM_8, tT_2 _ (List.mem_of_getElem? (i := 107) rfl), tT_5 _ (List.mem_of_getElem? (i := 191) rfl), tT_5 _ (List.mem_of_getElem? (i := 192) rfl)⟩
theorem lw_p43 : lw_okq (⟨"InquiryBench$Deale\x72", "dealAs", "(IIII)I"⟩, 8) := ⟨nM_8, tT_2 _ (List.mem_of_getElem? (i := 107) rfl), tT_5 _ (List.mem_of_getElem? (i := 215) rfl), tT_5 _ (List.mem_of_getElem? (i := 216) rfl)⟩
theorem lw_p44 : lw_okq (⟨"InquiryBench$Deale\x72", "run", "(IIII)I"⟩, 8) := ⟨nM_8, tT_2 _ (List.mem_of_getElem? (i := 107) rfl), tT_5 _ (List.mem_of_getElem? (i := 221) rfl), tT_5 _ (List.mem_of_getElem? (i := 222) rfl)⟩
theorem lw_p45 : lw_okq (⟨"InquiryBench$Deale\x72", "quotient", "(I)I"⟩, 8) := ⟨nM_8, tT_2 _ (List.mem_of_getElem? (i := 107) rfl), tT_5 _ (List.mem_of_getElem? (i := 225) rfl), tT_5 _ (List.mem_of_getElem? (i := 226) rfl)⟩
theorem lw_p46 : lw_okq (⟨"InquiryBench$Deale\x72", "uppe\x72", "(IIII)I"⟩, 8) := ⟨nM_8, tT_2 _ (List.mem_of_getElem? (i := 107) rfl), tT_5 _ (List.mem_of_getElem? (i := 229) rfl), tT_5 _ (List.mem_of_getElem? (i := 230) rfl)⟩
theorem lw_p47 : lw_okq (⟨"InquiryBench", "countStanding", "(I)I"⟩, 11) := ⟨nM_3, tT_1 _ (List.mem_of_getElem? (i := 22) rfl), tT_6 _ (List.mem_of_getElem? (i := 13) rfl), tT_6 _ (List.mem_of_getElem? (i := 14) rfl)⟩
def lw_privs_3 : List (MethodName × Nat) := [(⟨"InquiryBench$Talk", "bound", "(II)V"⟩, 6), (⟨"InquiryBench$Talk", "weightAgainst", "(IIII)I"⟩, 6), (⟨"InquiryBench$Talk", "isOn", "(IIII)Z"⟩, 6), (⟨"InquiryBench", "stands", "(II)Z"⟩, 11), (⟨"InquiryBench", "leansOn", "(II)I"⟩, 11), (⟨"InquiryBench", "isBarred", "(III)Z"⟩, 11), (⟨"InquiryBench$Round", "nextBehind", "(I)I"⟩, 6), (⟨"InquiryBench$Round", "costBehind", "(II)I"⟩, 6), (⟨"InquiryBench$Round", "lengthOf", "(I)I"⟩, 6), (⟨"InquiryBench$Round", "tellRows", "()V"⟩, 6), (⟨"InquiryBench$Deale\x72", "kindOfPape\x72", "(I)I"⟩, 8), (⟨"InquiryBench$Deale\x72", "dealAs", "(IIII)I"⟩, 8), (⟨"InquiryBench$Deale\x72", "run", "(IIII)I"⟩, 8), (⟨"InquiryBench$Deale\x72", "quotient", "(I)I"⟩, 8), (⟨"InquiryBench$Deale\x72", "uppe\x72", "(IIII)I"⟩, 8), (⟨"InquiryBench", "countStanding", "(I)I"⟩, 11)]
theorem lw_r3 : ∀ q ∈ lw_privs_3, lw_okq q := List.forall_mem_cons.mpr ⟨lw_p32, List.forall_mem_cons.mpr ⟨lw_p33, List.forall_mem_cons.mpr ⟨lw_p34, List.forall_mem_cons.mpr ⟨lw_p35, List.forall_mem_cons.mpr ⟨lw_p36, List.forall_mem_cons.mpr ⟨lw_p37, List.forall_mem_cons.mpr ⟨lw_p38, List.forall_mem_cons.mpr ⟨lw_p39, List.forall_mem_cons.mpr ⟨lw_p40, List.forall_mem_cons.mpr ⟨lw_p41, List.forall_mem_cons.mpr ⟨lw_p42, List.forall_mem_cons.mpr ⟨lw_p43, List.forall_mem_cons.mpr ⟨lw_p44, List.forall_mem_cons.mpr ⟨lw_p45, List.forall_mem_cons.mpr ⟨lw_p46, List.forall_mem_cons.mpr ⟨lw_p47, fun _ h => absurd h List.not_mem_nil⟩⟩⟩⟩⟩⟩⟩⟩⟩⟩⟩⟩⟩⟩⟩⟩
theorem lw_p48 : lw_okq (⟨"InquiryBenchModel", "inView", "()I"⟩, 41) := ⟨nM_9, tT_6 _ (List.mem_of_getElem? (i := 34) rfl), tT_6 _ (List.mem_of_getElem? (i := 182) rfl), tT_6 _ (List.mem_of_getElem? (i := 183) rfl)⟩
theorem lw_p49 : lw_okq (⟨"InquiryBenchModel", "isIn", "(I)Z"⟩, 41) := ⟨nM_9, tT_6 _ (List.mem_of_getElem? (i := 34) rfl), tT_6 _ (List.mem_of_getElem? (i := 186) rfl), tT_6 _ (List.mem_of_getElem? (i := 187) rfl)⟩
theorem lw_p50 : lw_okq (⟨"InquiryBenchModel", "pape\x72", "(II)I"⟩, 41) := ⟨nM_9, tT_6 _ (List.mem_of_getElem? (i := 34) rfl), tT_6 _ (List.mem_of_getElem? (i := 190) rfl), tT_6 _ (List.mem_of_getElem? (i := 191) rfl)⟩
theorem lw_p51 : lw_okq (⟨"InquiryBenchModel", "day", "()I"⟩, 41) := ⟨nM_9, tT_6 _ (List.mem_of_getElem? (i := 34) rfl), tT_6 _ (List.mem_of_getElem? (i := 194) rfl), tT_6 _ (List.mem_of_getElem? (i := 195) rfl)⟩
theorem lw_p52 : lw_okq (⟨"InquiryBenchModel", "is", "(II)Z"⟩, 41) := ⟨nM_9, tT_6 _ (List.mem_of_getElem? (i := 34) rfl), tT_6 _ (List.mem_of_getElem? (i := 212) rfl), tT_6 _ (List.mem_of_getElem? (i := 213) rfl)⟩
theorem lw_p53 : lw_okq (⟨"InquiryBenchModel", "papersOf", "(IZ)I"⟩, 41) := ⟨nM_9, tT_6 _ (List.mem_of_getElem? (i := 34) rfl), tT_6 _ (List.mem_of_getElem? (i := 216) rfl), tT_6 _ (List.mem_of_getElem? (i := 217) rfl)⟩
theorem lw_p54 : lw_okq (⟨"InquiryBenchModel", "saidBy", "(I)I"⟩, 41) := ⟨nM_9, tT_6 _ (List.mem_of_getElem? (i := 34) rfl), tT_6 _ (List.mem_of_getElem? (i := 220) rfl), tT_6 _ (List.mem_of_getElem? (i := 221) rfl)⟩
theorem lw_p55 : lw_okq (⟨"InquiryBenchModel", "doesCount", "(I)Z"⟩, 41) := ⟨nM_9, tT_6 _ (List.mem_of_getElem? (i := 34) rfl), tT_6 _ (List.mem_of_getElem? (i := 224) rfl), tT_6 _ (List.mem_of_getElem? (i := 225) rfl)⟩
theorem lw_p56 : lw_okq (⟨"InquiryBenchModel", "saying", "(II)I"⟩, 41) := ⟨nM_9, tT_6 _ (List.mem_of_getElem? (i := 34) rfl), tT_6 _ (List.mem_of_getElem? (i := 228) rfl), tT_6 _ (List.mem_of_getElem? (i := 229) rfl)⟩
theorem lw_p57 : lw_okq (⟨"InquiryBenchModel", "stampsOf", "(I)I"⟩, 41) := ⟨nM_9, tT_6 _ (List.mem_of_getElem? (i := 34) rfl), tT_7 _ (List.mem_of_getElem? (i := 4) rfl), tT_7 _ (List.mem_of_getElem? (i := 5) rfl)⟩
theorem lw_p58 : lw_okq (⟨"InquiryBenchModel", "stamped", "(III)V"⟩, 41) := ⟨nM_9, tT_6 _ (List.mem_of_getElem? (i := 34) rfl), tT_7 _ (List.mem_of_getElem? (i := 12) rfl), tT_7 _ (List.mem_of_getElem? (i := 13) rfl)⟩
theorem lw_p59 : lw_okq (⟨"InquiryBenchModel", "doubt", "()I"⟩, 41) := ⟨nM_9, tT_6 _ (List.mem_of_getElem? (i := 34) rfl), tT_7 _ (List.mem_of_getElem? (i := 24) rfl), tT_7 _ (List.mem_of_getElem? (i := 25) rfl)⟩
theorem lw_p60 : lw_okq (⟨"InquiryBenchModel", "findClocks", "()Z"⟩, 41) := ⟨nM_9, tT_6 _ (List.mem_of_getElem? (i := 34) rfl), tT_7 _ (List.mem_of_getElem? (i := 28) rfl), tT_7 _ (List.mem_of_getElem? (i := 29) rfl)⟩
theorem lw_p61 : lw_okq (⟨"InquiryBenchModel", "stampAt", "(II)I"⟩, 41) := ⟨nM_9, tT_6 _ (List.mem_of_getElem? (i := 34) rfl), tT_7 _ (List.mem_of_getElem? (i := 32) rfl), tT_7 _ (List.mem_of_getElem? (i := 33) rfl)⟩
theorem lw_p62 : lw_okq (⟨"InquiryBenchModel", "atMost", "(III)V"⟩, 41) := ⟨nM_9, tT_6 _ (List.mem_of_getElem? (i := 34) rfl), tT_7 _ (List.mem_of_getElem? (i := 36) rfl), tT_7 _ (List.mem_of_getElem? (i := 37) rfl)⟩
theorem lw_p63 : lw_okq (⟨"InquiryBenchModel", "greatest", "(I)I"⟩, 41) := ⟨nM_9, tT_6 _ (List.mem_of_getElem? (i := 34) rfl), tT_7 _ (List.mem_of_getElem? (i := 45) rfl), tT_7 _ (List.mem_of_getElem? (i := 46) rfl)⟩
def lw_privs_4 : List (MethodName × Nat) := [(⟨"InquiryBenchModel", "inView", "()I"⟩, 41), (⟨"InquiryBenchModel", "isIn", "(I)Z"⟩, 41), (⟨"InquiryBenchModel", "pape\x72", "(II)I"⟩, 41), (⟨"InquiryBenchModel", "day", "()I"⟩, 41), (⟨"InquiryBenchModel", "is", "(II)Z"⟩, 41), (⟨"InquiryBenchModel", "papersOf", "(IZ)I"⟩, 41), (⟨"InquiryBenchModel", "saidBy", "(I)I"⟩, 41), (⟨"InquiryBenchModel", "doesCount", "(I)Z"⟩, 41), (⟨"InquiryBenchModel", "saying", "(II)I"⟩, 41), (⟨"InquiryBenchModel", "stampsOf", "(I)I"⟩, 41), (⟨"InquiryBenchModel", "stamped", "(III)V"⟩, 41), (⟨"InquiryBenchModel", "doubt", "()I"⟩, 41), (⟨"InquiryBenchModel", "findClocks", "()Z"⟩, 41), (⟨"InquiryBenchModel", "stampAt", "(II)I"⟩, 41), (⟨"InquiryBenchModel", "atMost", "(III)V"⟩, 41), (⟨"InquiryBenchModel", "greatest", "(I)I"⟩, 41)]
theorem lw_r4 : ∀ q ∈ lw_privs_4, lw_okq q := List.forall_mem_cons.mpr ⟨lw_p48, List.forall_mem_cons.mpr ⟨lw_p49, List.forall_mem_cons.mpr ⟨lw_p50, List.forall_mem_cons.mpr ⟨lw_p51, List.forall_mem_cons.mpr ⟨lw_p52, List.forall_mem_cons.mpr ⟨lw_p53, List.forall_mem_cons.mpr ⟨lw_p54, List.forall_mem_cons.mpr ⟨lw_p55, List.forall_mem_cons.mpr ⟨lw_p56, List.forall_mem_cons.mpr ⟨lw_p57, List.forall_mem_cons.mpr ⟨lw_p58, List.forall_mem_cons.mpr ⟨lw_p59, List.forall_mem_cons.mpr ⟨lw_p60, List.forall_mem_cons.mpr ⟨lw_p61, List.forall_mem_cons.mpr ⟨lw_p62, List.forall_mem_cons.mpr ⟨lw_p63, fun _ h => absurd h List.not_mem_nil⟩⟩⟩⟩⟩⟩⟩⟩⟩⟩⟩⟩⟩⟩⟩⟩
theorem lw_p64 : lw_okq (⟨"InquiryBenchModel", "least", "(I)I"⟩, 41) := ⟨nM_9, tT_6 _ (List.mem_of_getElem? (i := 34) rfl), tT_7 _ (List.mem_of_getElem? (i := 49) rfl), tT_7 _ (List.mem_of_getElem? (i := 50) rfl)⟩
theorem lw_p65 : lw_okq (⟨"InquiryBenchModel", "hours", "(IZZ)Z"⟩, 41) := ⟨nM_9, tT_6 _ (List.mem_of_getElem? (i := 34) rfl), tT_7 _ (List.mem_of_getElem? (i := 57) rfl), tT_7 _ (List.mem_of_getElem? (i := 58) rfl)⟩
theorem lw_p66 : lw_okq (⟨"InquiryBenchModel", "inHand", "(IIZ)Z"⟩, 41) := ⟨nM_9, tT_6 _ (List.mem_of_getElem? (i := 34) rfl), tT_7 _ (List.mem_of_getElem? (i := 65) rfl), tT_7 _ (List.mem_of_getElem? (i := 66) rfl)⟩
theorem lw_p67 : lw_okq (⟨"InquiryBenchModel", "fromOf", "(III)I"⟩, 41) := ⟨nM_9, tT_6 _ (List.mem_of_getElem? (i := 34) rfl), tT_7 _ (List.mem_of_getElem? (i := 77) rfl), tT_7 _ (List.mem_of_getElem? (i := 78) rfl)⟩
theorem lw_p68 : lw_okq (⟨"InquiryBenchModel", "knewBy", "(IIZ)I"⟩, 41) := ⟨nM_9, tT_6 _ (List.mem_of_getElem? (i := 34) rfl), tT_7 _ (List.mem_of_getElem? (i := 81) rfl), tT_7 _ (List.mem_of_getElem? (i := 82) rfl)⟩
theorem lw_p69 : lw_okq (⟨"InquiryBenchModel", "findShould", "(I)V"⟩, 41) := ⟨nM_9, tT_6 _ (List.mem_of_getElem? (i := 34) rfl), tT_7 _ (List.mem_of_getElem? (i := 86) rfl), tT_7 _ (List.mem_of_getElem? (i := 87) rfl)⟩
theorem lw_p70 : lw_okq (⟨"InquiryBenchModel", "rules", "()I"⟩, 41) := ⟨nM_9, tT_6 _ (List.mem_of_getElem? (i := 34) rfl), tT_7 _ (List.mem_of_getElem? (i := 90) rfl), tT_7 _ (List.mem_of_getElem? (i := 91) rfl)⟩
theorem lw_p71 : lw_okq (⟨"InquiryBenchModel", "linesOf", "(I)I"⟩, 41) := ⟨nM_9, tT_6 _ (List.mem_of_getElem? (i := 34) rfl), tT_7 _ (List.mem_of_getElem? (i := 94) rfl), tT_7 _ (List.mem_of_getElem? (i := 95) rfl)⟩
theorem lw_p72 : lw_okq (⟨"InquiryBenchModel", "fromLine", "(III)I"⟩, 41) := ⟨nM_9, tT_6 _ (List.mem_of_getElem? (i := 34) rfl), tT_7 _ (List.mem_of_getElem? (i := 98) rfl), tT_7 _ (List.mem_of_getElem? (i := 99) rfl)⟩
theorem lw_p73 : lw_okq (⟨"InquiryBenchModel", "lineOf", "(III)I"⟩, 41) := ⟨nM_9, tT_6 _ (List.mem_of_getElem? (i := 34) rfl), tT_7 _ (List.mem_of_getElem? (i := 102) rfl), tT_7 _ (List.mem_of_getElem? (i := 103) rfl)⟩
theorem lw_p74 : lw_okq (⟨"InquiryBenchModel", "holds", "(III)Z"⟩, 41) := ⟨nM_9, tT_6 _ (List.mem_of_getElem? (i := 34) rfl), tT_7 _ (List.mem_of_getElem? (i := 106) rfl), tT_7 _ (List.mem_of_getElem? (i := 107) rfl)⟩
theorem lw_p75 : lw_okq (⟨"InquiryBenchModel", "factOf", "(II)I"⟩, 41) := ⟨nM_9, tT_6 _ (List.mem_of_getElem? (i := 34) rfl), tT_7 _ (List.mem_of_getElem? (i := 110) rfl), tT_7 _ (List.mem_of_getElem? (i := 111) rfl)⟩
theorem lw_p76 : lw_okq (⟨"InquiryBenchModel", "thingOf", "(II)I"⟩, 41) := ⟨nM_9, tT_6 _ (List.mem_of_getElem? (i := 34) rfl), tT_7 _ (List.mem_of_getElem? (i := 114) rfl), tT_7 _ (List.mem_of_getElem? (i := 115) rfl)⟩
theorem lw_p77 : lw_okq (⟨"InquiryBenchModel", "next", "()V"⟩, 41) := ⟨nM_9, tT_6 _ (List.mem_of_getElem? (i := 34) rfl), tT_7 _ (List.mem_of_getElem? (i := 131) rfl), tT_7 _ (List.mem_of_getElem? (i := 132) rfl)⟩
theorem lw_p78 : lw_okq (⟨"InquiryBenchModel", "isIn", "(III)Z"⟩, 41) := ⟨nM_9, tT_6 _ (List.mem_of_getElem? (i := 34) rfl), tT_7 _ (List.mem_of_getElem? (i := 135) rfl), tT_7 _ (List.mem_of_getElem? (i := 136) rfl)⟩
theorem lw_p79 : lw_okq (⟨"InquiryBenchModel", "lineAt", "(I)V"⟩, 41) := ⟨nM_9, tT_6 _ (List.mem_of_getElem? (i := 34) rfl), tT_7 _ (List.mem_of_getElem? (i := 139) rfl), tT_7 _ (List.mem_of_getElem? (i := 140) rfl)⟩
def lw_privs_5 : List (MethodName × Nat) := [(⟨"InquiryBenchModel", "least", "(I)I"⟩, 41), (⟨"InquiryBenchModel", "hours", "(IZZ)Z"⟩, 41), (⟨"InquiryBenchModel", "inHand", "(IIZ)Z"⟩, 41), (⟨"InquiryBenchModel", "fromOf", "(III)I"⟩, 41), (⟨"InquiryBenchModel", "knewBy", "(IIZ)I"⟩, 41), (⟨"InquiryBenchModel", "findShould", "(I)V"⟩, 41), (⟨"InquiryBenchModel", "rules", "()I"⟩, 41), (⟨"InquiryBenchModel", "linesOf", "(I)I"⟩, 41), (⟨"InquiryBenchModel", "fromLine", "(III)I"⟩, 41), (⟨"InquiryBenchModel", "lineOf", "(III)I"⟩, 41), (⟨"InquiryBenchModel", "holds", "(III)Z"⟩, 41), (⟨"InquiryBenchModel", "factOf", "(II)I"⟩, 41), (⟨"InquiryBenchModel", "thingOf", "(II)I"⟩, 41), (⟨"InquiryBenchModel", "next", "()V"⟩, 41), (⟨"InquiryBenchModel", "isIn", "(III)Z"⟩, 41), (⟨"InquiryBenchModel", "lineAt", "(I)V"⟩, 41)]
theorem lw_r5 : ∀ q ∈ lw_privs_5, lw_okq q := List.forall_mem_cons.mpr ⟨lw_p64, List.forall_mem_cons.mpr ⟨lw_p65, List.forall_mem_cons.mpr ⟨lw_p66, List.forall_mem_cons.mpr ⟨lw_p67, List.forall_mem_cons.mpr ⟨lw_p68, List.forall_mem_cons.mpr ⟨lw_p69, List.forall_mem_cons.mpr ⟨lw_p70, List.forall_mem_cons.mpr ⟨lw_p71, List.forall_mem_cons.mpr ⟨lw_p72, List.forall_mem_cons.mpr ⟨lw_p73, List.forall_mem_cons.mpr ⟨lw_p74, List.forall_mem_cons.mpr ⟨lw_p75, List.forall_mem_cons.mpr ⟨lw_p76, List.forall_mem_cons.mpr ⟨lw_p77, List.forall_mem_cons.mpr ⟨lw_p78, List.forall_mem_cons.mpr ⟨lw_p79, fun _ h => absurd h List.not_mem_nil⟩⟩⟩⟩⟩⟩⟩⟩⟩⟩⟩⟩⟩⟩⟩⟩
theorem lw_p80 : lw_okq (⟨"InquiryBenchModel", "isName", "(Ljava/lang/String;)Z"⟩, 41) := ⟨nM_9, tT_6 _ (List.mem_of_getElem? (i := 34) rfl), tT_7 _ (List.mem_of_getElem? (i := 144) rfl), tT_7 _ (List.mem_of_getElem? (i := 145) rfl)⟩
theorem lw_p81 : lw_okq (⟨"InquiryBenchModel", "need", "(Z)V"⟩, 41) := ⟨nM_9, tT_6 _ (List.mem_of_getElem? (i := 34) rfl), tT_7 _ (List.mem_of_getElem? (i := 153) rfl), tT_7 _ (List.mem_of_getElem? (i := 154) rfl)⟩
theorem lw_p82 : lw_okq (⟨"InquiryBenchModel", "numbe\x72", "(I)I"⟩, 41) := ⟨nM_9, tT_6 _ (List.mem_of_getElem? (i := 34) rfl), tT_7 _ (List.mem_of_getElem? (i := 157) rfl), tT_7 _ (List.mem_of_getElem? (i := 158) rfl)⟩
theorem lw_p83 : lw_okq (⟨"InquiryBenchModel", "eithe\x72", "()V"⟩, 41) := ⟨nM_9, tT_6 _ (List.mem_of_getElem? (i := 34) rfl), tT_7 _ (List.mem_of_getElem? (i := 165) rfl), tT_7 _ (List.mem_of_getElem? (i := 166) rfl)⟩
theorem lw_p84 : lw_okq (⟨"InquiryBenchModel", "all", "()V"⟩, 41) := ⟨nM_9, tT_6 _ (List.mem_of_getElem? (i := 34) rfl), tT_7 _ (List.mem_of_getElem? (i := 169) rfl), tT_7 _ (List.mem_of_getElem? (i := 170) rfl)⟩
theorem lw_p85 : lw_okq (⟨"InquiryBenchModel", "one", "()V"⟩, 41) := ⟨nM_9, tT_6 _ (List.mem_of_getElem? (i := 34) rfl), tT_7 _ (List.mem_of_getElem? (i := 173) rfl), tT_7 _ (List.mem_of_getElem? (i := 174) rfl)⟩
theorem lw_p86 : lw_okq (⟨"InquiryBenchModel", "isSign", "(I)Z"⟩, 41) := ⟨nM_9, tT_6 _ (List.mem_of_getElem? (i := 34) rfl), tT_7 _ (List.mem_of_getElem? (i := 178) rfl), tT_7 _ (List.mem_of_getElem? (i := 179) rfl)⟩
theorem lw_p87 : lw_okq (⟨"InquiryBenchModel", "codes", "(I)V"⟩, 41) := ⟨nM_9, tT_6 _ (List.mem_of_getElem? (i := 34) rfl), tT_7 _ (List.mem_of_getElem? (i := 182) rfl), tT_7 _ (List.mem_of_getElem? (i := 183) rfl)⟩
theorem lw_p88 : lw_okq (⟨"InquiryBenchModel", "findHours", "(IIZ)V"⟩, 41) := ⟨nM_9, tT_6 _ (List.mem_of_getElem? (i := 34) rfl), tT_7 _ (List.mem_of_getElem? (i := 200) rfl), tT_7 _ (List.mem_of_getElem? (i := 201) rfl)⟩
theorem lw_p89 : lw_okq (⟨"InquiryBenchModel", "isAgainst", "(II)Z"⟩, 41) := ⟨nM_9, tT_6 _ (List.mem_of_getElem? (i := 34) rfl), tT_7 _ (List.mem_of_getElem? (i := 204) rfl), tT_7 _ (List.mem_of_getElem? (i := 205) rfl)⟩
theorem lw_p90 : lw_okq (⟨"InquiryBenchModel", "stands", "(I)Z"⟩, 41) := ⟨nM_9, tT_6 _ (List.mem_of_getElem? (i := 34) rfl), tT_7 _ (List.mem_of_getElem? (i := 220) rfl), tT_7 _ (List.mem_of_getElem? (i := 221) rfl)⟩
theorem lw_p91 : lw_okq (⟨"InquiryBenchModel", "leans", "(I)I"⟩, 41) := ⟨nM_9, tT_6 _ (List.mem_of_getElem? (i := 34) rfl), tT_7 _ (List.mem_of_getElem? (i := 224) rfl), tT_7 _ (List.mem_of_getElem? (i := 225) rfl)⟩
theorem lw_p92 : lw_okq (⟨"InquiryBenchModel", "isBarred", "(I)Z"⟩, 41) := ⟨nM_9, tT_6 _ (List.mem_of_getElem? (i := 34) rfl), tT_7 _ (List.mem_of_getElem? (i := 228) rfl), tT_7 _ (List.mem_of_getElem? (i := 229) rfl)⟩
theorem lw_p93 : lw_okq (⟨"InquiryBenchModel", "asked", "(II)I"⟩, 41) := ⟨nM_9, tT_6 _ (List.mem_of_getElem? (i := 34) rfl), tT_7 _ (List.mem_of_getElem? (i := 232) rfl), tT_7 _ (List.mem_of_getElem? (i := 233) rfl)⟩
theorem lw_p94 : lw_okq (⟨"InquiryBenchModel", "go", "(IIIII)V"⟩, 41) := ⟨nM_9, tT_6 _ (List.mem_of_getElem? (i := 34) rfl), tT_8 _ (List.mem_of_getElem? (i := 9) rfl), tT_8 _ (List.mem_of_getElem? (i := 10) rfl)⟩
theorem lw_p95 : lw_okq (⟨"InquiryBenchModel", "isRow", "(II)Z"⟩, 41) := ⟨nM_9, tT_6 _ (List.mem_of_getElem? (i := 34) rfl), tT_8 _ (List.mem_of_getElem? (i := 17) rfl), tT_8 _ (List.mem_of_getElem? (i := 18) rfl)⟩
def lw_privs_6 : List (MethodName × Nat) := [(⟨"InquiryBenchModel", "isName", "(Ljava/lang/String;)Z"⟩, 41), (⟨"InquiryBenchModel", "need", "(Z)V"⟩, 41), (⟨"InquiryBenchModel", "numbe\x72", "(I)I"⟩, 41), (⟨"InquiryBenchModel", "eithe\x72", "()V"⟩, 41), (⟨"InquiryBenchModel", "all", "()V"⟩, 41), (⟨"InquiryBenchModel", "one", "()V"⟩, 41), (⟨"InquiryBenchModel", "isSign", "(I)Z"⟩, 41), (⟨"InquiryBenchModel", "codes", "(I)V"⟩, 41), (⟨"InquiryBenchModel", "findHours", "(IIZ)V"⟩, 41), (⟨"InquiryBenchModel", "isAgainst", "(II)Z"⟩, 41), (⟨"InquiryBenchModel", "stands", "(I)Z"⟩, 41), (⟨"InquiryBenchModel", "leans", "(I)I"⟩, 41), (⟨"InquiryBenchModel", "isBarred", "(I)Z"⟩, 41), (⟨"InquiryBenchModel", "asked", "(II)I"⟩, 41), (⟨"InquiryBenchModel", "go", "(IIIII)V"⟩, 41), (⟨"InquiryBenchModel", "isRow", "(II)Z"⟩, 41)]
theorem lw_r6 : ∀ q ∈ lw_privs_6, lw_okq q := List.forall_mem_cons.mpr ⟨lw_p80, List.forall_mem_cons.mpr ⟨lw_p81, List.forall_mem_cons.mpr ⟨lw_p82, List.forall_mem_cons.mpr ⟨lw_p83, List.forall_mem_cons.mpr ⟨lw_p84, List.forall_mem_cons.mpr ⟨lw_p85, List.forall_mem_cons.mpr ⟨lw_p86, List.forall_mem_cons.mpr ⟨lw_p87, List.forall_mem_cons.mpr ⟨lw_p88, List.forall_mem_cons.mpr ⟨lw_p89, List.forall_mem_cons.mpr ⟨lw_p90, List.forall_mem_cons.mpr ⟨lw_p91, List.forall_mem_cons.mpr ⟨lw_p92, List.forall_mem_cons.mpr ⟨lw_p93, List.forall_mem_cons.mpr ⟨lw_p94, List.forall_mem_cons.mpr ⟨lw_p95, fun _ h => absurd h List.not_mem_nil⟩⟩⟩⟩⟩⟩⟩⟩⟩⟩⟩⟩⟩⟩⟩⟩
theorem lw_p96 : lw_okq (⟨"InquiryBenchModel", "notThere", "(IIII)I"⟩, 41) := ⟨nM_9, tT_6 _ (List.mem_of_getElem? (i := 34) rfl), tT_8 _ (List.mem_of_getElem? (i := 48) rfl), tT_8 _ (List.mem_of_getElem? (i := 49) rfl)⟩
theorem lw_p97 : lw_okq (⟨"InquiryBenchModel", "kindOn", "(I)I"⟩, 41) := ⟨nM_9, tT_6 _ (List.mem_of_getElem? (i := 34) rfl), tT_8 _ (List.mem_of_getElem? (i := 65) rfl), tT_8 _ (List.mem_of_getElem? (i := 66) rfl)⟩
theorem lw_p98 : lw_okq (⟨"InquiryBenchModel", "dealt", "(II)I"⟩, 41) := ⟨nM_9, tT_6 _ (List.mem_of_getElem? (i := 34) rfl), tT_8 _ (List.mem_of_getElem? (i := 76) rfl), tT_8 _ (List.mem_of_getElem? (i := 77) rfl)⟩
theorem lw_p99 : lw_okq (⟨"InquiryBenchModel", "bodyFrom", "(III)I"⟩, 41) := ⟨nM_9, tT_6 _ (List.mem_of_getElem? (i := 34) rfl), tT_8 _ (List.mem_of_getElem? (i := 80) rfl), tT_8 _ (List.mem_of_getElem? (i := 81) rfl)⟩
theorem lw_p100 : lw_okq (⟨"InquiryBenchModel", "body", "(III)I"⟩, 41) := ⟨nM_9, tT_6 _ (List.mem_of_getElem? (i := 34) rfl), tT_8 _ (List.mem_of_getElem? (i := 87) rfl), tT_8 _ (List.mem_of_getElem? (i := 88) rfl)⟩
theorem lw_p101 : lw_okq (⟨"InquiryBenchModel", "began", "(I)V"⟩, 41) := ⟨nM_9, tT_6 _ (List.mem_of_getElem? (i := 34) rfl), tT_8 _ (List.mem_of_getElem? (i := 91) rfl), tT_8 _ (List.mem_of_getElem? (i := 92) rfl)⟩
def lw_privs_7 : List (MethodName × Nat) := [(⟨"InquiryBenchModel", "notThere", "(IIII)I"⟩, 41), (⟨"InquiryBenchModel", "kindOn", "(I)I"⟩, 41), (⟨"InquiryBenchModel", "dealt", "(II)I"⟩, 41), (⟨"InquiryBenchModel", "bodyFrom", "(III)I"⟩, 41), (⟨"InquiryBenchModel", "body", "(III)I"⟩, 41), (⟨"InquiryBenchModel", "began", "(I)V"⟩, 41)]
theorem lw_r7 : ∀ q ∈ lw_privs_7, lw_okq q := List.forall_mem_cons.mpr ⟨lw_p96, List.forall_mem_cons.mpr ⟨lw_p97, List.forall_mem_cons.mpr ⟨lw_p98, List.forall_mem_cons.mpr ⟨lw_p99, List.forall_mem_cons.mpr ⟨lw_p100, List.forall_mem_cons.mpr ⟨lw_p101, fun _ h => absurd h List.not_mem_nil⟩⟩⟩⟩⟩⟩
def lw_privs : List (MethodName × Nat) := lw_privs_1 ++ (lw_privs_2 ++ (lw_privs_3 ++ (lw_privs_4 ++ (lw_privs_5 ++ (lw_privs_6 ++ (lw_privs_7))))))
def lw_tbl : List Cond := k2_sels lw_privs ++ tables_1
theorem lw_privs_ok : ∀ q ∈ lw_privs, lw_okq q := by
  show ∀ q ∈ lw_privs_1 ++ (lw_privs_2 ++ (lw_privs_3 ++ (lw_privs_4 ++ (lw_privs_5 ++ (lw_privs_6 ++ (lw_privs_7)))))), lw_okq q
  exact List.forall_mem_append.mpr ⟨lw_r1, List.forall_mem_append.mpr ⟨lw_r2, List.forall_mem_append.mpr ⟨lw_r3, List.forall_mem_append.mpr ⟨lw_r4, List.forall_mem_append.mpr ⟨lw_r5, List.forall_mem_append.mpr ⟨lw_r6, lw_r7⟩⟩⟩⟩⟩⟩
theorem goodIn_r {big : List Cond} (ws : List Cond) (ps : List Nat) (hp : ws = ps.filterMap (fun i => big[i]?)) (h : ws.all goodWord = true) : GoodIn big ws := by
  intro w hw
  have h1 := List.all_eq_true.mp h w hw
  rw [hp] at hw
  obtain ⟨i, -, hi⟩ := List.mem_filterMap.mp hw
  have hm : w ∈ big := by first | exact List.mem_of_getElem? hi | exact List.getElem?_mem hi
  exact ⟨hm, good_of_word h1⟩
theorem goodIn_app {big a b : List Cond} (ha : GoodIn big a) (hb : GoodIn big b) : GoodIn big (a ++ b) := fun w h => (List.mem_append.mp h).elim (ha w) (hb w)
theorem goodIn_ca {big a b : List Cond} {c : Cond} (ha : GoodIn big (c :: a)) (hb : GoodIn big b) : GoodIn big (c :: (a ++ b)) := fun w h => (List.mem_cons.mp h).elim (fun e => ha w (List.mem_cons.mpr (Or.inl e))) (fun h => (List.mem_append.mp h).elim (fun h => ha w (List.mem_cons.mpr (Or.inr h))) (hb w))
theorem goodIn_sub {big ws : List Cond} (hm : ∀ w ∈ ws, w ∈ big) (h : ws.all goodWord = true) : GoodIn big ws := fun w hw => ⟨hm w hw, good_of_word (List.all_eq_true.mp h w hw)⟩
def RX0 : String := "InquiryBench$Book"
def TX0 : u_T := fun k => match k with
  | 0 => ("InquiryBench$Book", "persons", "LInquiryBench$Table;", true)
  | 1 => ("InquiryBench$Book", "papers", "LInquiryBench$Table;", true)
  | 2 => ("InquiryBench$Book", "stamps", "LInquiryBench$Table;", true)
  | 3 => ("InquiryBench$Book", "versions", "LInquiryBench$Table;", true)
  | 4 => ("InquiryBench$Book", "lines", "LInquiryBench$Table;", true)
  | 5 => ("InquiryBench$Book", "steps", "LInquiryBench$Table;", true)
  | 6 => ("InquiryBench$Book", "sayings", "LInquiryBench$Table;", true)
  | 7 => ("InquiryBench$Book", "findings", "LInquiryBench$Table;", true)
  | 8 => ("InquiryBench$Book", "warnings", "LInquiryBench$Table;", true)
  | 9 => ("InquiryBench$Book", "questions", "LInquiryBench$Table;", true)
  | 10 => ("InquiryBench$Book", "today", "I", false)
  | 11 => ("InquiryBench$Book", "viewDay", "I", false)
  | 12 => ("InquiryBench$Book", "viewLevel", "I", false)
  | _ => ("InquiryBench$Book", "gap", "I", false)
def tyX0 : Nat → FieldType := fun k => match k with
  | 0 => .object "InquiryBench$Table"
  | 1 => .object "InquiryBench$Table"
  | 2 => .object "InquiryBench$Table"
  | 3 => .object "InquiryBench$Table"
  | 4 => .object "InquiryBench$Table"
  | 5 => .object "InquiryBench$Table"
  | 6 => .object "InquiryBench$Table"
  | 7 => .object "InquiryBench$Table"
  | 8 => .object "InquiryBench$Table"
  | 9 => .object "InquiryBench$Table"
  | 10 => .int
  | 11 => .int
  | 12 => .int
  | _ => .int
abbrev wsX00 : List Cond := u_ws RX0 TX0 14
theorem nmX0 : ∀ a, a < 14 → ∀ b, b < 14 → a ≠ b → (TX0 a).2.1 ≠ (TX0 b).2.1 := by decide +kernel
theorem tyX0_ok : ∀ k, k < 14 → parseFieldDescriptor (TX0 k).2.2.1 = some (tyX0 k) := by decide +kernel
abbrev cX0_init : ByteArray := prog_2_method_1_code
def yX0_init : MethodName := ⟨RX0, "<init>", "()V"⟩
abbrev cX0_copy : ByteArray := prog_2_method_2_code
def yX0_copy : MethodName := ⟨RX0, "copy", "(LInquiryBench$Book;)V"⟩
abbrev cX0_viewedDay : ByteArray := prog_2_method_3_code
def yX0_viewedDay : MethodName := ⟨RX0, "viewedDay", "()I"⟩
abbrev cX0_inView : ByteArray := prog_2_method_4_code
def yX0_inView : MethodName := ⟨RX0, "inView", "()I"⟩
abbrev cX0_countTo : ByteArray := prog_2_method_5_code
def yX0_countTo : MethodName := ⟨RX0, "countTo", "(II)I"⟩
abbrev cX0_countBy : ByteArray := prog_2_method_6_code
def yX0_countBy : MethodName := ⟨RX0, "countBy", "(II)I"⟩
abbrev cX0_addStamp : ByteArray := prog_2_method_7_code
def yX0_addStamp : MethodName := ⟨RX0, "addStamp", "(III)I"⟩
abbrev cX0_countStamps : ByteArray := prog_2_method_8_code
def yX0_countStamps : MethodName := ⟨RX0, "countStamps", "(I)I"⟩
abbrev cX0_counts : ByteArray := prog_2_method_9_code
def yX0_counts : MethodName := ⟨RX0, "counts", "(II)Z"⟩
abbrev cX0_countSayings : ByteArray := prog_2_method_10_code
def yX0_countSayings : MethodName := ⟨RX0, "countSayings", "(I)I"⟩
abbrev cX0_countSayingsBy : ByteArray := prog_2_method_11_code
def yX0_countSayingsBy : MethodName := ⟨RX0, "countSayingsBy", "(II)I"⟩
abbrev cX0_ruling : ByteArray := prog_2_method_12_code
def yX0_ruling : MethodName := ⟨RX0, "ruling", "()I"⟩
abbrev cX0_isWarned : ByteArray := prog_2_method_13_code
def yX0_isWarned : MethodName := ⟨RX0, "isWarned", "(III)Z"⟩
def RX1 : String := "InquiryBench$Clocks"
def TX1 : u_T := fun k => match k with
  | _ => ("InquiryBench$Clocks", "most", "[I", true)
def tyX1 : Nat → FieldType := fun k => match k with
  | _ => .array .int
abbrev wsX10 : List Cond := u_ws RX1 TX1 1
theorem nmX1 : ∀ a, a < 1 → ∀ b, b < 1 → a ≠ b → (TX1 a).2.1 ≠ (TX1 b).2.1 := by decide +kernel
theorem tyX1_ok : ∀ k, k < 1 → parseFieldDescriptor (TX1 k).2.2.1 = some (tyX1 k) := by decide +kernel
abbrev cX1_init : ByteArray := prog_3_method_1_code
def yX1_init : MethodName := ⟨RX1, "<init>", "()V"⟩
abbrev cX1_free : ByteArray := prog_3_method_2_code
def yX1_free : MethodName := ⟨RX1, "free", "()V"⟩
abbrev cX1_copy : ByteArray := prog_3_method_3_code
def yX1_copy : MethodName := ⟨RX1, "copy", "(LInquiryBench$Clocks;)V"⟩
abbrev cX1_mostAhead : ByteArray := prog_3_method_4_code
def yX1_mostAhead : MethodName := ⟨RX1, "mostAhead", "(II)I"⟩
abbrev cX1_follow : ByteArray := prog_3_method_5_code
def yX1_follow : MethodName := ⟨RX1, "follow", "(LInquiryBench$Table;III)Z"⟩
abbrev cX1_narrow : ByteArray := prog_3_method_6_code
def yX1_narrow : MethodName := ⟨RX1, "narrow", "(III)Z"⟩
def RX2 : String := "InquiryBench$Deale\x72"
def TX2 : u_T := fun k => match k with
  | 0 => ("InquiryBench$Deale\x72", "book", "LInquiryBench$Book;", true)
  | 1 => ("InquiryBench$Deale\x72", "trace", "[I", true)
  | 2 => ("InquiryBench$Deale\x72", "ran", "I", false)
  | 3 => ("InquiryBench$Deale\x72", "kind", "I", false)
  | 4 => ("InquiryBench$Deale\x72", "n", "I", false)
  | 5 => ("InquiryBench$Deale\x72", "p", "I", false)
  | 6 => ("InquiryBench$Deale\x72", "a", "I", false)
  | _ => ("InquiryBench$Deale\x72", "parted", "Z", false)
def tyX2 : Nat → FieldType := fun k => match k with
  | 0 => .object "InquiryBench$Book"
  | 1 => .array .int
  | 2 => .int
  | 3 => .int
  | 4 => .int
  | 5 => .int
  | 6 => .int
  | _ => .boolean
abbrev wsX20 : List Cond := u_ws RX2 TX2 8
theorem nmX2 : ∀ a, a < 8 → ∀ b, b < 8 → a ≠ b → (TX2 a).2.1 ≠ (TX2 b).2.1 := by decide +kernel
theorem tyX2_ok : ∀ k, k < 8 → parseFieldDescriptor (TX2 k).2.2.1 = some (tyX2 k) := by decide +kernel
abbrev cX2_init : ByteArray := prog_4_method_1_code
def yX2_init : MethodName := ⟨RX2, "<init>", "(LInquiryBench$Book;)V"⟩
abbrev cX2_ran : ByteArray := prog_4_method_2_code
def yX2_ran : MethodName := ⟨RX2, "ran", "()I"⟩
abbrev cX2_traced : ByteArray := prog_4_method_3_code
def yX2_traced : MethodName := ⟨RX2, "traced", "(I)I"⟩
abbrev cX2_clearTrace : ByteArray := prog_4_method_4_code
def yX2_clearTrace : MethodName := ⟨RX2, "clearTrace", "()V"⟩
abbrev cX2_grasp : ByteArray := prog_4_method_5_code
def yX2_grasp : MethodName := ⟨RX2, "grasp", "(II)V"⟩
abbrev cX2_kindOfPaper : ByteArray := prog_4_method_6_code
def yX2_kindOfPaper : MethodName := ⟨RX2, "kindOfPape\x72", "(I)I"⟩
abbrev cX2_isUnder : ByteArray := prog_4_method_7_code
def yX2_isUnder : MethodName := ⟨RX2, "isUnde\x72", "(I)Z"⟩
abbrev cX2_answer : ByteArray := prog_4_method_8_code
def yX2_answer : MethodName := ⟨RX2, "answe\x72", "(II)I"⟩
abbrev cX2_dealAs : ByteArray := prog_4_method_9_code
def yX2_dealAs : MethodName := ⟨RX2, "dealAs", "(IIII)I"⟩
abbrev cX2_upper : ByteArray := prog_4_method_10_code
def yX2_upper : MethodName := ⟨RX2, "uppe\x72", "(IIII)I"⟩
abbrev cX2_run : ByteArray := prog_4_method_11_code
def yX2_run : MethodName := ⟨RX2, "run", "(IIII)I"⟩
abbrev cX2_quotient : ByteArray := prog_4_method_12_code
def yX2_quotient : MethodName := ⟨RX2, "quotient", "(I)I"⟩
def RX3 : String := "InquiryBench$Doubt"
def TX3 : u_T := fun k => match k with
  | 0 => ("InquiryBench$Doubt", "book", "LInquiryBench$Book;", true)
  | 1 => ("InquiryBench$Doubt", "held", "[LInquiryBench$Clocks;", true)
  | 2 => ("InquiryBench$Doubt", "bound", "I", false)
  | 3 => ("InquiryBench$Doubt", "least", "I", false)
  | _ => ("InquiryBench$Doubt", "bits", "I", false)
def tyX3 : Nat → FieldType := fun k => match k with
  | 0 => .object "InquiryBench$Book"
  | 1 => .array (.object "InquiryBench$Clocks")
  | 2 => .int
  | 3 => .int
  | _ => .int
abbrev wsX30 : List Cond := u_ws RX3 TX3 5
theorem nmX3 : ∀ a, a < 5 → ∀ b, b < 5 → a ≠ b → (TX3 a).2.1 ≠ (TX3 b).2.1 := by decide +kernel
theorem tyX3_ok : ∀ k, k < 5 → parseFieldDescriptor (TX3 k).2.2.1 = some (tyX3 k) := by decide +kernel
abbrev cX3_init : ByteArray := prog_5_method_1_code
def yX3_init : MethodName := ⟨RX3, "<init>", "(LInquiryBench$Book;)V"⟩
abbrev cX3_fewest : ByteArray := prog_5_method_2_code
def yX3_fewest : MethodName := ⟨RX3, "fewest", "(I)I"⟩
abbrev cX3_search : ByteArray := prog_5_method_3_code
def yX3_search : MethodName := ⟨RX3, "search", "(IIII)V"⟩
abbrev cX3_holdOrLeave : ByteArray := prog_5_method_4_code
def yX3_holdOrLeave : MethodName := ⟨RX3, "holdOrLeave", "(IIII)V"⟩
abbrev cX3_isRight : ByteArray := prog_5_method_5_code
def yX3_isRight : MethodName := ⟨RX3, "isRight", "(ILInquiryBench$Clocks;)Z"⟩
def RX4 : String := "InquiryBench$Host"
def TX4 : u_T := fun k => match k with
  | 0 => ("InquiryBench$Host", "sorts", "[I", true)
  | 1 => ("InquiryBench$Host", "sizes", "[I", true)
  | 2 => ("InquiryBench$Host", "items", "[I", true)
  | 3 => ("InquiryBench$Host", "what", "[I", true)
  | 4 => ("InquiryBench$Host", "numbe\x72", "[I", true)
  | _ => ("InquiryBench$Host", "sort", "[I", true)
def tyX4 : Nat → FieldType := fun k => match k with
  | 0 => .array .int
  | 1 => .array .int
  | 2 => .array .int
  | 3 => .array .int
  | 4 => .array .int
  | _ => .array .int
abbrev wsX40 : List Cond := u_ws RX4 TX4 6
theorem nmX4 : ∀ a, a < 6 → ∀ b, b < 6 → a ≠ b → (TX4 a).2.1 ≠ (TX4 b).2.1 := by decide +kernel
theorem tyX4_ok : ∀ k, k < 6 → parseFieldDescriptor (TX4 k).2.2.1 = some (tyX4 k) := by decide +kernel
abbrev cX4_init : ByteArray := prog_6_method_1_code
def yX4_init : MethodName := ⟨RX4, "<init>", "()V"⟩
abbrev cX4_sort : ByteArray := prog_6_method_2_code
def yX4_sort : MethodName := ⟨RX4, "sort", "(I)I"⟩
abbrev cX4_size : ByteArray := prog_6_method_3_code
def yX4_size : MethodName := ⟨RX4, "size", "(I)I"⟩
abbrev cX4_clear : ByteArray := prog_6_method_4_code
def yX4_clear : MethodName := ⟨RX4, "clea\x72", "(I)V"⟩
abbrev cX4_lay : ByteArray := prog_6_method_5_code
def yX4_lay : MethodName := ⟨RX4, "lay", "(III)V"⟩
abbrev cX4_refusal : ByteArray := prog_6_method_6_code
def yX4_refusal : MethodName := ⟨RX4, "refusal", "(II)I"⟩
abbrev cX4_at : ByteArray := prog_6_method_7_code
def yX4_at : MethodName := ⟨RX4, "at", "(II)I"⟩
abbrev cX4_write : ByteArray := prog_6_method_8_code
def yX4_write : MethodName := ⟨RX4, "write", "(III)V"⟩
abbrev cX4_hold : ByteArray := prog_6_method_9_code
def yX4_hold : MethodName := ⟨RX4, "hold", "(III)V"⟩
abbrev cX4_holdRow : ByteArray := prog_6_method_10_code
def yX4_holdRow : MethodName := ⟨RX4, "holdRow", "(II)V"⟩
abbrev cX4_held : ByteArray := prog_6_method_11_code
def yX4_held : MethodName := ⟨RX4, "held", "(ILInquiryBench$Book;)I"⟩
abbrev cX4_heldNumber : ByteArray := prog_6_method_12_code
def yX4_heldNumber : MethodName := ⟨RX4, "heldNumbe\x72", "(I)I"⟩
abbrev cX4_heldSort : ByteArray := prog_6_method_13_code
def yX4_heldSort : MethodName := ⟨RX4, "heldSort", "(I)I"⟩
def RX5 : String := "InquiryBench$Round"
def TX5 : u_T := fun k => match k with
  | 0 => ("InquiryBench$Round", "book", "LInquiryBench$Book;", true)
  | 1 => ("InquiryBench$Round", "rows", "LInquiryBench$Table;", true)
  | 2 => ("InquiryBench$Round", "toCome", "[I", true)
  | 3 => ("InquiryBench$Round", "asked", "I", false)
  | 4 => ("InquiryBench$Round", "start", "I", false)
  | _ => ("InquiryBench$Round", "told", "Z", false)
def tyX5 : Nat → FieldType := fun k => match k with
  | 0 => .object "InquiryBench$Book"
  | 1 => .object "InquiryBench$Table"
  | 2 => .array .int
  | 3 => .int
  | 4 => .int
  | _ => .boolean
abbrev wsX50 : List Cond := u_ws RX5 TX5 6
theorem nmX5 : ∀ a, a < 6 → ∀ b, b < 6 → a ≠ b → (TX5 a).2.1 ≠ (TX5 b).2.1 := by decide +kernel
theorem tyX5_ok : ∀ k, k < 6 → parseFieldDescriptor (TX5 k).2.2.1 = some (tyX5 k) := by decide +kernel
abbrev cX5_init : ByteArray := prog_7_method_1_code
def yX5_init : MethodName := ⟨RX5, "<init>", "(LInquiryBench$Book;)V"⟩
abbrev cX5_isTold : ByteArray := prog_7_method_2_code
def yX5_isTold : MethodName := ⟨RX5, "isTold", "()Z"⟩
abbrev cX5_lengthOf : ByteArray := prog_7_method_3_code
def yX5_lengthOf : MethodName := ⟨RX5, "lengthOf", "(I)I"⟩
abbrev cX5_order : ByteArray := prog_7_method_4_code
def yX5_order : MethodName := ⟨RX5, "orde\x72", "(I)I"⟩
abbrev cX5_costBehind : ByteArray := prog_7_method_5_code
def yX5_costBehind : MethodName := ⟨RX5, "costBehind", "(II)I"⟩
abbrev cX5_nextBehind : ByteArray := prog_7_method_6_code
def yX5_nextBehind : MethodName := ⟨RX5, "nextBehind", "(I)I"⟩
abbrev cX5_tellRows : ByteArray := prog_7_method_7_code
def yX5_tellRows : MethodName := ⟨RX5, "tellRows", "()V"⟩
abbrev cX5_firstWrong : ByteArray := prog_7_method_8_code
def yX5_firstWrong : MethodName := ⟨RX5, "firstWrong", "()I"⟩
def RX6 : String := "InquiryBench$Rules"
def TX6 : u_T := fun k => match k with
  | 0 => ("InquiryBench$Rules", "book", "LInquiryBench$Book;", true)
  | 1 => ("InquiryBench$Rules", "sight", "LInquiryBench$Sight;", true)
  | 2 => ("InquiryBench$Rules", "facts", "[I", true)
  | 3 => ("InquiryBench$Rules", "should", "[I", true)
  | 4 => ("InquiryBench$Rules", "first", "I", false)
  | 5 => ("InquiryBench$Rules", "count", "I", false)
  | _ => ("InquiryBench$Rules", "holding", "I", false)
def tyX6 : Nat → FieldType := fun k => match k with
  | 0 => .object "InquiryBench$Book"
  | 1 => .object "InquiryBench$Sight"
  | 2 => .array .int
  | 3 => .array .int
  | 4 => .int
  | 5 => .int
  | _ => .int
abbrev wsX60 : List Cond := u_ws RX6 TX6 7
theorem nmX6 : ∀ a, a < 7 → ∀ b, b < 7 → a ≠ b → (TX6 a).2.1 ≠ (TX6 b).2.1 := by decide +kernel
theorem tyX6_ok : ∀ k, k < 7 → parseFieldDescriptor (TX6 k).2.2.1 = some (tyX6 k) := by decide +kernel
abbrev cX6_init : ByteArray := prog_8_method_1_code
def yX6_init : MethodName := ⟨RX6, "<init>", "(LInquiryBench$Book;LInquiryBench$Sight;)V"⟩
abbrev cX6_consider : ByteArray := prog_8_method_2_code
def yX6_consider : MethodName := ⟨RX6, "conside\x72", "(II)V"⟩
abbrev cX6_holds : ByteArray := prog_8_method_3_code
def yX6_holds : MethodName := ⟨RX6, "holds", "(I)Z"⟩
abbrev cX6_isSo : ByteArray := prog_8_method_4_code
def yX6_isSo : MethodName := ⟨RX6, "isSo", "(I)Z"⟩
abbrev cX6_settle : ByteArray := prog_8_method_5_code
def yX6_settle : MethodName := ⟨RX6, "settle", "(II)V"⟩
abbrev cX6_tellEarlier : ByteArray := prog_8_method_6_code
def yX6_tellEarlier : MethodName := ⟨RX6, "tellEarlie\x72", "()Z"⟩
abbrev cX6_thingOf : ByteArray := prog_8_method_7_code
def yX6_thingOf : MethodName := ⟨RX6, "thingOf", "(I)I"⟩
abbrev cX6_hourBy : ByteArray := prog_8_method_8_code
def yX6_hourBy : MethodName := ⟨RX6, "hourBy", "(I)I"⟩
abbrev cX6_shouldHour : ByteArray := prog_8_method_9_code
def yX6_shouldHour : MethodName := ⟨RX6, "shouldHou\x72", "(I)I"⟩
abbrev cX6_firstLineFor : ByteArray := prog_8_method_10_code
def yX6_firstLineFor : MethodName := ⟨RX6, "firstLineFo\x72", "(I)I"⟩
abbrev cX6_warnDays : ByteArray := prog_8_method_11_code
def yX6_warnDays : MethodName := ⟨RX6, "warnDays", "()I"⟩
abbrev cX6_leastHeard : ByteArray := prog_8_method_12_code
def yX6_leastHeard : MethodName := ⟨RX6, "leastHeard", "()I"⟩
def RX7 : String := "InquiryBench$Sight"
def TX7 : u_T := fun k => match k with
  | 0 => ("InquiryBench$Sight", "book", "LInquiryBench$Book;", true)
  | 1 => ("InquiryBench$Sight", "clocks", "LInquiryBench$Clocks;", true)
  | 2 => ("InquiryBench$Sight", "first", "[I", true)
  | 3 => ("InquiryBench$Sight", "last", "[I", true)
  | 4 => ("InquiryBench$Sight", "madeLeast", "[I", true)
  | 5 => ("InquiryBench$Sight", "madeMost", "[I", true)
  | 6 => ("InquiryBench$Sight", "sentLeast", "[I", true)
  | 7 => ("InquiryBench$Sight", "sentMost", "[I", true)
  | _ => ("InquiryBench$Sight", "clash", "Z", false)
def tyX7 : Nat → FieldType := fun k => match k with
  | 0 => .object "InquiryBench$Book"
  | 1 => .object "InquiryBench$Clocks"
  | 2 => .array .int
  | 3 => .array .int
  | 4 => .array .int
  | 5 => .array .int
  | 6 => .array .int
  | 7 => .array .int
  | _ => .boolean
abbrev wsX70 : List Cond := u_ws RX7 TX7 9
theorem nmX7 : ∀ a, a < 9 → ∀ b, b < 9 → a ≠ b → (TX7 a).2.1 ≠ (TX7 b).2.1 := by decide +kernel
theorem tyX7_ok : ∀ k, k < 9 → parseFieldDescriptor (TX7 k).2.2.1 = some (tyX7 k) := by decide +kernel
abbrev cX7_init : ByteArray := prog_9_method_1_code
def yX7_init : MethodName := ⟨RX7, "<init>", "(LInquiryBench$Book;)V"⟩
abbrev cX7_look : ByteArray := prog_9_method_2_code
def yX7_look : MethodName := ⟨RX7, "look", "(I)V"⟩
abbrev cX7_boundHours : ByteArray := prog_9_method_3_code
def yX7_boundHours : MethodName := ⟨RX7, "boundHours", "()V"⟩
abbrev cX7_clashes : ByteArray := prog_9_method_4_code
def yX7_clashes : MethodName := ⟨RX7, "clashes", "()Z"⟩
abbrev cX7_ahead : ByteArray := prog_9_method_5_code
def yX7_ahead : MethodName := ⟨RX7, "ahead", "(IZ)I"⟩
abbrev cX7_isSent : ByteArray := prog_9_method_6_code
def yX7_isSent : MethodName := ⟨RX7, "isSent", "(I)Z"⟩
abbrev cX7_sentHour : ByteArray := prog_9_method_7_code
def yX7_sentHour : MethodName := ⟨RX7, "sentHou\x72", "(IZ)I"⟩
abbrev cX7_trueHour : ByteArray := prog_9_method_8_code
def yX7_trueHour : MethodName := ⟨RX7, "trueHou\x72", "(IZ)I"⟩
abbrev cX7_isInHand : ByteArray := prog_9_method_9_code
def yX7_isInHand : MethodName := ⟨RX7, "isInHand", "(II)Z"⟩
abbrev cX7_handHour : ByteArray := prog_9_method_10_code
def yX7_handHour : MethodName := ⟨RX7, "handHou\x72", "(IIZ)I"⟩
abbrev cX7_toldHour : ByteArray := prog_9_method_11_code
def yX7_toldHour : MethodName := ⟨RX7, "toldHou\x72", "(IIZ)I"⟩
abbrev cX7_leastBetween : ByteArray := prog_9_method_12_code
def yX7_leastBetween : MethodName := ⟨RX7, "leastBetween", "(II)I"⟩
abbrev cX7_mostBetween : ByteArray := prog_9_method_13_code
def yX7_mostBetween : MethodName := ⟨RX7, "mostBetween", "(II)I"⟩
abbrev cX7_readBetween : ByteArray := prog_9_method_14_code
def yX7_readBetween : MethodName := ⟨RX7, "readBetween", "(II)I"⟩
abbrev cX7_clockOf : ByteArray := prog_9_method_15_code
def yX7_clockOf : MethodName := ⟨RX7, "clockOf", "(I)I"⟩
def RX8 : String := "InquiryBench$Table"
def TX8 : u_T := fun k => match k with
  | 0 => ("InquiryBench$Table", "room", "I", true)
  | 1 => ("InquiryBench$Table", "width", "I", true)
  | 2 => ("InquiryBench$Table", "cells", "[I", true)
  | _ => ("InquiryBench$Table", "count", "I", false)
def tyX8 : Nat → FieldType := fun k => match k with
  | 0 => .int
  | 1 => .int
  | 2 => .array .int
  | _ => .int
abbrev wsX80 : List Cond := u_ws RX8 TX8 4
theorem nmX8 : ∀ a, a < 4 → ∀ b, b < 4 → a ≠ b → (TX8 a).2.1 ≠ (TX8 b).2.1 := by decide +kernel
theorem tyX8_ok : ∀ k, k < 4 → parseFieldDescriptor (TX8 k).2.2.1 = some (tyX8 k) := by decide +kernel
abbrev cX8_init : ByteArray := prog_10_method_1_code
def yX8_init : MethodName := ⟨RX8, "<init>", "(II)V"⟩
abbrev cX8_count : ByteArray := prog_10_method_2_code
def yX8_count : MethodName := ⟨RX8, "count", "()I"⟩
abbrev cX8_isFull : ByteArray := prog_10_method_3_code
def yX8_isFull : MethodName := ⟨RX8, "isFull", "()Z"⟩
abbrev cX8_has : ByteArray := prog_10_method_4_code
def yX8_has : MethodName := ⟨RX8, "has", "(I)Z"⟩
abbrev cX8_hasAll : ByteArray := prog_10_method_5_code
def yX8_hasAll : MethodName := ⟨RX8, "hasAll", "(I)Z"⟩
abbrev cX8_at : ByteArray := prog_10_method_6_code
def yX8_at : MethodName := ⟨RX8, "at", "(II)I"⟩
abbrev cX8_set : ByteArray := prog_10_method_7_code
def yX8_set : MethodName := ⟨RX8, "set", "(III)V"⟩
abbrev cX8_append : ByteArray := prog_10_method_8_code
def yX8_append : MethodName := ⟨RX8, "append", "()I"⟩
abbrev cX8_cut : ByteArray := prog_10_method_9_code
def yX8_cut : MethodName := ⟨RX8, "cut", "(I)V"⟩
abbrev cX8_copy : ByteArray := prog_10_method_10_code
def yX8_copy : MethodName := ⟨RX8, "copy", "(LInquiryBench$Table;)V"⟩
def RX9 : String := "InquiryBench$Talk"
def TX9 : u_T := fun k => match k with
  | 0 => ("InquiryBench$Talk", "book", "LInquiryBench$Book;", true)
  | 1 => ("InquiryBench$Talk", "sight", "LInquiryBench$Sight;", true)
  | 2 => ("InquiryBench$Talk", "from", "I", false)
  | 3 => ("InquiryBench$Talk", "to", "I", false)
  | 4 => ("InquiryBench$Talk", "least", "I", false)
  | _ => ("InquiryBench$Talk", "believed", "I", false)
def tyX9 : Nat → FieldType := fun k => match k with
  | 0 => .object "InquiryBench$Book"
  | 1 => .object "InquiryBench$Sight"
  | 2 => .int
  | 3 => .int
  | 4 => .int
  | _ => .int
abbrev wsX90 : List Cond := u_ws RX9 TX9 6
theorem nmX9 : ∀ a, a < 6 → ∀ b, b < 6 → a ≠ b → (TX9 a).2.1 ≠ (TX9 b).2.1 := by decide +kernel
theorem tyX9_ok : ∀ k, k < 6 → parseFieldDescriptor (TX9 k).2.2.1 = some (tyX9 k) := by decide +kernel
abbrev cX9_init : ByteArray := prog_11_method_1_code
def yX9_init : MethodName := ⟨RX9, "<init>", "(LInquiryBench$Book;LInquiryBench$Sight;)V"⟩
abbrev cX9_leastWeight : ByteArray := prog_11_method_2_code
def yX9_leastWeight : MethodName := ⟨RX9, "leastWeight", "()I"⟩
abbrev cX9_believedHour : ByteArray := prog_11_method_3_code
def yX9_believedHour : MethodName := ⟨RX9, "believedHou\x72", "()I"⟩
abbrev cX9_bound : ByteArray := prog_11_method_4_code
def yX9_bound : MethodName := ⟨RX9, "bound", "(II)V"⟩
abbrev cX9_isOn : ByteArray := prog_11_method_5_code
def yX9_isOn : MethodName := ⟨RX9, "isOn", "(IIII)Z"⟩
abbrev cX9_weigh : ByteArray := prog_11_method_6_code
def yX9_weigh : MethodName := ⟨RX9, "weigh", "(III)V"⟩
abbrev cX9_weightAgainst : ByteArray := prog_11_method_7_code
def yX9_weightAgainst : MethodName := ⟨RX9, "weightAgainst", "(IIII)I"⟩
abbrev cX9_impossibleOnes : ByteArray := prog_11_method_8_code
def yX9_impossibleOnes : MethodName := ⟨RX9, "impossibleOnes", "(I)I"⟩
def RX10 : String := "InquiryBench$Tape"
def TX10 : u_T := fun k => match k with
  | 0 => ("InquiryBench$Tape", "bytes", "[I", true)
  | 1 => ("InquiryBench$Tape", "count", "I", false)
  | 2 => ("InquiryBench$Tape", "lines", "LInquiryBench$Table;", true)
  | 3 => ("InquiryBench$Tape", "steps", "LInquiryBench$Table;", true)
  | 4 => ("InquiryBench$Tape", "kind", "I", false)
  | 5 => ("InquiryBench$Tape", "start", "I", false)
  | 6 => ("InquiryBench$Tape", "next", "I", false)
  | _ => ("InquiryBench$Tape", "fault", "I", false)
def tyX10 : Nat → FieldType := fun k => match k with
  | 0 => .array .int
  | 1 => .int
  | 2 => .object "InquiryBench$Table"
  | 3 => .object "InquiryBench$Table"
  | 4 => .int
  | 5 => .int
  | 6 => .int
  | _ => .int
abbrev wsX100 : List Cond := u_ws RX10 TX10 8
theorem nmX10 : ∀ a, a < 8 → ∀ b, b < 8 → a ≠ b → (TX10 a).2.1 ≠ (TX10 b).2.1 := by decide +kernel
theorem tyX10_ok : ∀ k, k < 8 → parseFieldDescriptor (TX10 k).2.2.1 = some (tyX10 k) := by decide +kernel
abbrev cX10_init : ByteArray := prog_12_method_1_code
def yX10_init : MethodName := ⟨RX10, "<init>", "()V"⟩
abbrev cX10_count : ByteArray := prog_12_method_2_code
def yX10_count : MethodName := ⟨RX10, "count", "()I"⟩
abbrev cX10_append : ByteArray := prog_12_method_3_code
def yX10_append : MethodName := ⟨RX10, "append", "(I)V"⟩
abbrev cX10_clear : ByteArray := prog_12_method_4_code
def yX10_clear : MethodName := ⟨RX10, "clea\x72", "()V"⟩
abbrev cX10_scan : ByteArray := prog_12_method_5_code
def yX10_scan : MethodName := ⟨RX10, "scan", "()I"⟩
abbrev cX10_store : ByteArray := prog_12_method_6_code
def yX10_store : MethodName := ⟨RX10, "store", "(LInquiryBench$Book;)I"⟩
abbrev cX10_byteAt : ByteArray := prog_12_method_7_code
def yX10_byteAt : MethodName := ⟨RX10, "byteAt", "(I)I"⟩
abbrev cX10_advance : ByteArray := prog_12_method_8_code
def yX10_advance : MethodName := ⟨RX10, "advance", "()V"⟩
abbrev cX10_isLetter : ByteArray := prog_12_method_9_code
def yX10_isLetter : MethodName := ⟨RX10, "isLette\x72", "(I)Z"⟩
abbrev cX10_isDigit : ByteArray := prog_12_method_10_code
def yX10_isDigit : MethodName := ⟨RX10, "isDigit", "(I)Z"⟩
abbrev cX10_refuse : ByteArray := prog_12_method_11_code
def yX10_refuse : MethodName := ⟨RX10, "refuse", "()Z"⟩
abbrev cX10_isName : ByteArray := prog_12_method_12_code
def yX10_isName : MethodName := ⟨RX10, "isName", "(Ljava/lang/String;)Z"⟩
abbrev cX10_takesName : ByteArray := prog_12_method_13_code
def yX10_takesName : MethodName := ⟨RX10, "takesName", "(Ljava/lang/String;)Z"⟩
abbrev cX10_takesByte : ByteArray := prog_12_method_14_code
def yX10_takesByte : MethodName := ⟨RX10, "takesByte", "(I)Z"⟩
abbrev cX10_numberHere : ByteArray := prog_12_method_15_code
def yX10_numberHere : MethodName := ⟨RX10, "numberHere", "()I"⟩
abbrev cX10_takesNumber : ByteArray := prog_12_method_16_code
def yX10_takesNumber : MethodName := ⟨RX10, "takesNumbe\x72", "(III)Z"⟩
abbrev cX10_takesLine : ByteArray := prog_12_method_17_code
def yX10_takesLine : MethodName := ⟨RX10, "takesLine", "()Z"⟩
abbrev cX10_sortHere : ByteArray := prog_12_method_18_code
def yX10_sortHere : MethodName := ⟨RX10, "sortHere", "()I"⟩
abbrev cX10_takesHead : ByteArray := prog_12_method_19_code
def yX10_takesHead : MethodName := ⟨RX10, "takesHead", "(II)Z"⟩
abbrev cX10_addStep : ByteArray := prog_12_method_20_code
def yX10_addStep : MethodName := ⟨RX10, "addStep", "(I)V"⟩
abbrev cX10_takesCond : ByteArray := prog_12_method_21_code
def yX10_takesCond : MethodName := ⟨RX10, "takesCond", "(I)Z"⟩
abbrev cX10_takesAll : ByteArray := prog_12_method_22_code
def yX10_takesAll : MethodName := ⟨RX10, "takesAll", "(I)Z"⟩
abbrev cX10_takesOne : ByteArray := prog_12_method_23_code
def yX10_takesOne : MethodName := ⟨RX10, "takesOne", "(I)Z"⟩
abbrev cX10_takesComparison : ByteArray := prog_12_method_24_code
def yX10_takesComparison : MethodName := ⟨RX10, "takesComparison", "()Z"⟩
abbrev cX10_factHere : ByteArray := prog_12_method_25_code
def yX10_factHere : MethodName := ⟨RX10, "factHere", "()I"⟩
abbrev cX10_signHere : ByteArray := prog_12_method_26_code
def yX10_signHere : MethodName := ⟨RX10, "signHere", "()I"⟩
def RX11 : String := "InquiryBench"
def TX11 : u_T := fun k => match k with
  | 0 => ("InquiryBench", "book", "LInquiryBench$Book;", true)
  | 1 => ("InquiryBench", "kept", "LInquiryBench$Book;", true)
  | 2 => ("InquiryBench", "isKept", "Z", false)
  | 3 => ("InquiryBench", "sight", "LInquiryBench$Sight;", true)
  | 4 => ("InquiryBench", "doubt", "LInquiryBench$Doubt;", true)
  | 5 => ("InquiryBench", "rules", "LInquiryBench$Rules;", true)
  | 6 => ("InquiryBench", "talk", "LInquiryBench$Talk;", true)
  | 7 => ("InquiryBench", "tape", "LInquiryBench$Tape;", true)
  | 8 => ("InquiryBench", "best", "LInquiryBench$Round;", true)
  | 9 => ("InquiryBench", "host", "LInquiryBench$Host;", true)
  | _ => ("InquiryBench", "deale\x72", "LInquiryBench$Dealer;", true)
def tyX11 : Nat → FieldType := fun k => match k with
  | 0 => .object "InquiryBench$Book"
  | 1 => .object "InquiryBench$Book"
  | 2 => .boolean
  | 3 => .object "InquiryBench$Sight"
  | 4 => .object "InquiryBench$Doubt"
  | 5 => .object "InquiryBench$Rules"
  | 6 => .object "InquiryBench$Talk"
  | 7 => .object "InquiryBench$Tape"
  | 8 => .object "InquiryBench$Round"
  | 9 => .object "InquiryBench$Host"
  | _ => .object "InquiryBench$Deale\x72"
abbrev wsX110 : List Cond := u_ws RX11 TX11 11
theorem nmX11 : ∀ a, a < 11 → ∀ b, b < 11 → a ≠ b → (TX11 a).2.1 ≠ (TX11 b).2.1 := by decide +kernel
theorem tyX11_ok : ∀ k, k < 11 → parseFieldDescriptor (TX11 k).2.2.1 = some (tyX11 k) := by decide +kernel
abbrev cX11_init : ByteArray := prog_1_method_1_code
def yX11_init : MethodName := ⟨RX11, "<init>", "()V"⟩
abbrev cX11_days : ByteArray := prog_1_method_2_code
def yX11_days : MethodName := ⟨RX11, "days", "(I)I"⟩
abbrev cX11_view : ByteArray := prog_1_method_3_code
def yX11_view : MethodName := ⟨RX11, "view", "(II)I"⟩
abbrev cX11_person : ByteArray := prog_1_method_4_code
def yX11_person : MethodName := ⟨RX11, "person", "(II)I"⟩
abbrev cX11_personOf : ByteArray := prog_1_method_5_code
def yX11_personOf : MethodName := ⟨RX11, "personOf", "(II)I"⟩
abbrev cX11_paper : ByteArray := prog_1_method_6_code
def yX11_paper : MethodName := ⟨RX11, "pape\x72", "(IIII)I"⟩
abbrev cX11_lose : ByteArray := prog_1_method_7_code
def yX11_lose : MethodName := ⟨RX11, "lose", "(I)I"⟩
abbrev cX11_paperOf : ByteArray := prog_1_method_8_code
def yX11_paperOf : MethodName := ⟨RX11, "paperOf", "(II)I"⟩
abbrev cX11_stamp : ByteArray := prog_1_method_9_code
def yX11_stamp : MethodName := ⟨RX11, "stamp", "(III)I"⟩
abbrev cX11_stamps : ByteArray := prog_1_method_10_code
def yX11_stamps : MethodName := ⟨RX11, "stamps", "(IIII)I"⟩
abbrev cX11_gap : ByteArray := prog_1_method_11_code
def yX11_gap : MethodName := ⟨RX11, "gap", "(I)I"⟩
abbrev cX11_clash : ByteArray := prog_1_method_12_code
def yX11_clash : MethodName := ⟨RX11, "clash", "(I)I"⟩
abbrev cX11_span : ByteArray := prog_1_method_13_code
def yX11_span : MethodName := ⟨RX11, "span", "(IZ)I"⟩
abbrev cX11_sent : ByteArray := prog_1_method_14_code
def yX11_sent : MethodName := ⟨RX11, "sent", "(IZ)I"⟩
abbrev cX11_hand : ByteArray := prog_1_method_15_code
def yX11_hand : MethodName := ⟨RX11, "hand", "(IIZ)I"⟩
abbrev cX11_before : ByteArray := prog_1_method_16_code
def yX11_before : MethodName := ⟨RX11, "before", "(II)I"⟩
abbrev cX11_knew : ByteArray := prog_1_method_17_code
def yX11_knew : MethodName := ⟨RX11, "knew", "(III)I"⟩
abbrev cX11_feed : ByteArray := prog_1_method_18_code
def yX11_feed : MethodName := ⟨RX11, "feed", "(JI)I"⟩
abbrev cX11_read : ByteArray := prog_1_method_19_code
def yX11_read : MethodName := ⟨RX11, "read", "()I"⟩
abbrev cX11_line : ByteArray := prog_1_method_20_code
def yX11_line : MethodName := ⟨RX11, "line", "(III)I"⟩
abbrev cX11_why : ByteArray := prog_1_method_21_code
def yX11_why : MethodName := ⟨RX11, "why", "(II)I"⟩
abbrev cX11_saying : ByteArray := prog_1_method_22_code
def yX11_saying : MethodName := ⟨RX11, "saying", "(IIIIZI)I"⟩
abbrev cX11_quarrel : ByteArray := prog_1_method_23_code
def yX11_quarrel : MethodName := ⟨RX11, "quarrel", "(III)I"⟩
abbrev cX11_impossible : ByteArray := prog_1_method_24_code
def yX11_impossible : MethodName := ⟨RX11, "impossible", "()I"⟩
abbrev cX11_finding : ByteArray := prog_1_method_25_code
def yX11_finding : MethodName := ⟨RX11, "finding", "(IIII)I"⟩
abbrev cX11_findingOf : ByteArray := prog_1_method_26_code
def yX11_findingOf : MethodName := ⟨RX11, "findingOf", "(II)I"⟩
abbrev cX11_warn : ByteArray := prog_1_method_27_code
def yX11_warn : MethodName := ⟨RX11, "warn", "(II)I"⟩
abbrev cX11_question : ByteArray := prog_1_method_28_code
def yX11_question : MethodName := ⟨RX11, "question", "(II)I"⟩
abbrev cX11_round : ByteArray := prog_1_method_29_code
def yX11_round : MethodName := ⟨RX11, "round", "(I)I"⟩
abbrev cX11_row : ByteArray := prog_1_method_30_code
def yX11_row : MethodName := ⟨RX11, "row", "(II)I"⟩
abbrev cX11_alterRow : ByteArray := prog_1_method_31_code
def yX11_alterRow : MethodName := ⟨RX11, "alterRow", "(III)I"⟩
abbrev cX11_dropRow : ByteArray := prog_1_method_32_code
def yX11_dropRow : MethodName := ⟨RX11, "dropRow", "()I"⟩
abbrev cX11_judge : ByteArray := prog_1_method_33_code
def yX11_judge : MethodName := ⟨RX11, "judge", "()I"⟩
abbrev cX11_sheet : ByteArray := prog_1_method_34_code
def yX11_sheet : MethodName := ⟨RX11, "sheet", "(III)I"⟩
abbrev cX11_put : ByteArray := prog_1_method_35_code
def yX11_put : MethodName := ⟨RX11, "put", "(III)I"⟩
abbrev cX11_item : ByteArray := prog_1_method_36_code
def yX11_item : MethodName := ⟨RX11, "item", "(III)I"⟩
abbrev cX11_shelf : ByteArray := prog_1_method_37_code
def yX11_shelf : MethodName := ⟨RX11, "shelf", "(III)I"⟩
abbrev cX11_taken : ByteArray := prog_1_method_38_code
def yX11_taken : MethodName := ⟨RX11, "taken", "(II)I"⟩
abbrev cX11_deal : ByteArray := prog_1_method_39_code
def yX11_deal : MethodName := ⟨RX11, "deal", "(III)I"⟩
abbrev cX11_trace : ByteArray := prog_1_method_40_code
def yX11_trace : MethodName := ⟨RX11, "trace", "(I)I"⟩
abbrev cX11_many : ByteArray := prog_1_method_41_code
def yX11_many : MethodName := ⟨RX11, "many", "(I)I"⟩
abbrev cX11_keep : ByteArray := prog_1_method_42_code
def yX11_keep : MethodName := ⟨RX11, "keep", "()I"⟩
abbrev cX11_again : ByteArray := prog_1_method_43_code
def yX11_again : MethodName := ⟨RX11, "again", "()I"⟩
abbrev cX11_within : ByteArray := prog_1_method_44_code
def yX11_within : MethodName := ⟨RX11, "within", "(III)Z"⟩
abbrev cX11_hasBit : ByteArray := prog_1_method_45_code
def yX11_hasBit : MethodName := ⟨RX11, "hasBit", "(II)Z"⟩
abbrev cX11_isThing : ByteArray := prog_1_method_46_code
def yX11_isThing : MethodName := ⟨RX11, "isThing", "(I)Z"⟩
abbrev cX11_isWay : ByteArray := prog_1_method_47_code
def yX11_isWay : MethodName := ⟨RX11, "isWay", "(I)Z"⟩
abbrev cX11_isStamp : ByteArray := prog_1_method_48_code
def yX11_isStamp : MethodName := ⟨RX11, "isStamp", "(II)Z"⟩
abbrev cX11_isSheet : ByteArray := prog_1_method_49_code
def yX11_isSheet : MethodName := ⟨RX11, "isSheet", "(I)Z"⟩
abbrev cX11_isShelf : ByteArray := prog_1_method_50_code
def yX11_isShelf : MethodName := ⟨RX11, "isShelf", "(I)Z"⟩
abbrev cX11_isSort : ByteArray := prog_1_method_51_code
def yX11_isSort : MethodName := ⟨RX11, "isSort", "(I)Z"⟩
abbrev cX11_knownFrom : ByteArray := prog_1_method_52_code
def yX11_knownFrom : MethodName := ⟨RX11, "knownFrom", "(IIII)I"⟩
abbrev cX11_stands : ByteArray := prog_1_method_53_code
def yX11_stands : MethodName := ⟨RX11, "stands", "(II)Z"⟩
abbrev cX11_countStanding : ByteArray := prog_1_method_54_code
def yX11_countStanding : MethodName := ⟨RX11, "countStanding", "(I)I"⟩
abbrev cX11_leansOn : ByteArray := prog_1_method_55_code
def yX11_leansOn : MethodName := ⟨RX11, "leansOn", "(II)I"⟩
abbrev cX11_isBarred : ByteArray := prog_1_method_56_code
def yX11_isBarred : MethodName := ⟨RX11, "isBarred", "(III)Z"⟩
def RX12 : String := "InquiryBenchModel"
def TX12 : u_T := fun k => match k with
  | 0 => ("InquiryBenchModel", "now", "[I", true)
  | 1 => ("InquiryBenchModel", "kept", "[I", true)
  | 2 => ("InquiryBenchModel", "hasKept", "Z", false)
  | 3 => ("InquiryBenchModel", "tape", "[I", true)
  | 4 => ("InquiryBenchModel", "taped", "I", false)
  | 5 => ("InquiryBenchModel", "rows", "[I", true)
  | 6 => ("InquiryBenchModel", "rowMany", "I", false)
  | 7 => ("InquiryBenchModel", "roundOf", "I", false)
  | 8 => ("InquiryBenchModel", "roundFrom", "I", false)
  | 9 => ("InquiryBenchModel", "outs", "I", false)
  | 10 => ("InquiryBenchModel", "more", "[I", true)
  | 11 => ("InquiryBenchModel", "fromHou\x72", "I", false)
  | 12 => ("InquiryBenchModel", "toHou\x72", "I", false)
  | 13 => ("InquiryBenchModel", "should", "[I", true)
  | 14 => ("InquiryBenchModel", "from", "I", false)
  | 15 => ("InquiryBenchModel", "to", "I", false)
  | 16 => ("InquiryBenchModel", "sort", "I", false)
  | 17 => ("InquiryBenchModel", "isFault", "Z", false)
  | 18 => ("InquiryBenchModel", "deep", "I", false)
  | 19 => ("InquiryBenchModel", "coded", "I", false)
  | 20 => ("InquiryBenchModel", "lines", "I", false)
  | 21 => ("InquiryBenchModel", "line", "[I", true)
  | 22 => ("InquiryBenchModel", "code", "[I", true)
  | 23 => ("InquiryBenchModel", "FACTS", "[Ljava/lang/String;", true)
  | 24 => ("InquiryBenchModel", "pile", "[I", true)
  | 25 => ("InquiryBenchModel", "trial", "[I", true)
  | 26 => ("InquiryBenchModel", "best", "[I", true)
  | 27 => ("InquiryBenchModel", "bestCost", "I", false)
  | 28 => ("InquiryBenchModel", "sorts", "[I", true)
  | 29 => ("InquiryBenchModel", "sizes", "[I", true)
  | 30 => ("InquiryBenchModel", "items", "[I", true)
  | 31 => ("InquiryBenchModel", "shelves", "[I", true)
  | 32 => ("InquiryBenchModel", "shelfOf", "[I", true)
  | 33 => ("InquiryBenchModel", "shelfSize", "[I", true)
  | 34 => ("InquiryBenchModel", "trace", "[I", true)
  | 35 => ("InquiryBenchModel", "traced", "I", false)
  | 36 => ("InquiryBenchModel", "deale\x72", "I", false)
  | 37 => ("InquiryBenchModel", "numbe\x72", "I", false)
  | 38 => ("InquiryBenchModel", "whose", "I", false)
  | 39 => ("InquiryBenchModel", "size", "I", false)
  | _ => ("InquiryBenchModel", "isParted", "Z", false)
def tyX12 : Nat → FieldType := fun k => match k with
  | 0 => .array .int
  | 1 => .array .int
  | 2 => .boolean
  | 3 => .array .int
  | 4 => .int
  | 5 => .array .int
  | 6 => .int
  | 7 => .int
  | 8 => .int
  | 9 => .int
  | 10 => .array .int
  | 11 => .int
  | 12 => .int
  | 13 => .array .int
  | 14 => .int
  | 15 => .int
  | 16 => .int
  | 17 => .boolean
  | 18 => .int
  | 19 => .int
  | 20 => .int
  | 21 => .array .int
  | 22 => .array .int
  | 23 => .array (.object "java/lang/String")
  | 24 => .array .int
  | 25 => .array .int
  | 26 => .array .int
  | 27 => .int
  | 28 => .array .int
  | 29 => .array .int
  | 30 => .array .int
  | 31 => .array .int
  | 32 => .array .int
  | 33 => .array .int
  | 34 => .array .int
  | 35 => .int
  | 36 => .int
  | 37 => .int
  | 38 => .int
  | 39 => .int
  | _ => .boolean
abbrev wsX120 : List Cond := u_ws RX12 TX12 41
theorem nmX12 : ∀ a, a < 41 → ∀ b, b < 41 → a ≠ b → (TX12 a).2.1 ≠ (TX12 b).2.1 := by decide +kernel
theorem tyX12_ok : ∀ k, k < 41 → parseFieldDescriptor (TX12 k).2.2.1 = some (tyX12 k) := by decide +kernel
abbrev cX12_init : ByteArray := prog_14_method_1_code
def yX12_init : MethodName := ⟨RX12, "<init>", "()V"⟩
abbrev cX12_within : ByteArray := prog_14_method_2_code
def yX12_within : MethodName := ⟨RX12, "within", "(III)Z"⟩
abbrev cX12_is : ByteArray := prog_14_method_3_code
def yX12_is : MethodName := ⟨RX12, "is", "(II)Z"⟩
abbrev cX12_has : ByteArray := prog_14_method_4_code
def yX12_has : MethodName := ⟨RX12, "has", "(II)Z"⟩
abbrev cX12_bits : ByteArray := prog_14_method_5_code
def yX12_bits : MethodName := ⟨RX12, "bits", "(I)I"⟩
abbrev cX12_paper : ByteArray := prog_14_method_6_code
def yX12_paper : MethodName := ⟨RX12, "pape\x72", "(II)I"⟩
abbrev cX12_saying : ByteArray := prog_14_method_7_code
def yX12_saying : MethodName := ⟨RX12, "saying", "(II)I"⟩
abbrev cX12_days : ByteArray := prog_14_method_8_code
def yX12_days : MethodName := ⟨RX12, "days", "(I)I"⟩
abbrev cX12_day : ByteArray := prog_14_method_9_code
def yX12_day : MethodName := ⟨RX12, "day", "()I"⟩
abbrev cX12_isIn : ByteArray := prog_14_method_10_code
def yX12_isIn : MethodName := ⟨RX12, "isIn", "(I)Z"⟩
abbrev cX12_inView : ByteArray := prog_14_method_11_code
def yX12_inView : MethodName := ⟨RX12, "inView", "()I"⟩
abbrev cX12_view : ByteArray := prog_14_method_12_code
def yX12_view : MethodName := ⟨RX12, "view", "(II)I"⟩
abbrev cX12_person : ByteArray := prog_14_method_13_code
def yX12_person : MethodName := ⟨RX12, "person", "(II)I"⟩
abbrev cX12_papersOf : ByteArray := prog_14_method_14_code
def yX12_papersOf : MethodName := ⟨RX12, "papersOf", "(IZ)I"⟩
abbrev cX12_doesCount : ByteArray := prog_14_method_15_code
def yX12_doesCount : MethodName := ⟨RX12, "doesCount", "(I)Z"⟩
abbrev cX12_saidBy : ByteArray := prog_14_method_16_code
def yX12_saidBy : MethodName := ⟨RX12, "saidBy", "(I)I"⟩
abbrev cX12_personOf : ByteArray := prog_14_method_17_code
def yX12_personOf : MethodName := ⟨RX12, "personOf", "(II)I"⟩
abbrev cX12_paper_ : ByteArray := prog_14_method_18_code
def yX12_paper_ : MethodName := ⟨RX12, "pape\x72", "(IIII)I"⟩
abbrev cX12_lose : ByteArray := prog_14_method_19_code
def yX12_lose : MethodName := ⟨RX12, "lose", "(I)I"⟩
abbrev cX12_stampAt : ByteArray := prog_14_method_20_code
def yX12_stampAt : MethodName := ⟨RX12, "stampAt", "(II)I"⟩
abbrev cX12_stampsOf : ByteArray := prog_14_method_21_code
def yX12_stampsOf : MethodName := ⟨RX12, "stampsOf", "(I)I"⟩
abbrev cX12_paperOf : ByteArray := prog_14_method_22_code
def yX12_paperOf : MethodName := ⟨RX12, "paperOf", "(II)I"⟩
abbrev cX12_stamped : ByteArray := prog_14_method_23_code
def yX12_stamped : MethodName := ⟨RX12, "stamped", "(III)V"⟩
abbrev cX12_stamp : ByteArray := prog_14_method_24_code
def yX12_stamp : MethodName := ⟨RX12, "stamp", "(III)I"⟩
abbrev cX12_gap : ByteArray := prog_14_method_25_code
def yX12_gap : MethodName := ⟨RX12, "gap", "(I)I"⟩
abbrev cX12_atMost : ByteArray := prog_14_method_26_code
def yX12_atMost : MethodName := ⟨RX12, "atMost", "(III)V"⟩
abbrev cX12_findClocks : ByteArray := prog_14_method_27_code
def yX12_findClocks : MethodName := ⟨RX12, "findClocks", "()Z"⟩
abbrev cX12_greatest : ByteArray := prog_14_method_28_code
def yX12_greatest : MethodName := ⟨RX12, "greatest", "(I)I"⟩
abbrev cX12_least : ByteArray := prog_14_method_29_code
def yX12_least : MethodName := ⟨RX12, "least", "(I)I"⟩
abbrev cX12_doubt : ByteArray := prog_14_method_30_code
def yX12_doubt : MethodName := ⟨RX12, "doubt", "()I"⟩
abbrev cX12_clash : ByteArray := prog_14_method_31_code
def yX12_clash : MethodName := ⟨RX12, "clash", "(I)I"⟩
abbrev cX12_span : ByteArray := prog_14_method_32_code
def yX12_span : MethodName := ⟨RX12, "span", "(IZ)I"⟩
abbrev cX12_hours : ByteArray := prog_14_method_33_code
def yX12_hours : MethodName := ⟨RX12, "hours", "(IZZ)Z"⟩
abbrev cX12_sent : ByteArray := prog_14_method_34_code
def yX12_sent : MethodName := ⟨RX12, "sent", "(IZ)I"⟩
abbrev cX12_inHand : ByteArray := prog_14_method_35_code
def yX12_inHand : MethodName := ⟨RX12, "inHand", "(IIZ)Z"⟩
abbrev cX12_hand : ByteArray := prog_14_method_36_code
def yX12_hand : MethodName := ⟨RX12, "hand", "(IIZ)I"⟩
abbrev cX12_before : ByteArray := prog_14_method_37_code
def yX12_before : MethodName := ⟨RX12, "before", "(II)I"⟩
abbrev cX12_knewBy : ByteArray := prog_14_method_38_code
def yX12_knewBy : MethodName := ⟨RX12, "knewBy", "(IIZ)I"⟩
abbrev cX12_findShould : ByteArray := prog_14_method_39_code
def yX12_findShould : MethodName := ⟨RX12, "findShould", "(I)V"⟩
abbrev cX12_fromLine : ByteArray := prog_14_method_40_code
def yX12_fromLine : MethodName := ⟨RX12, "fromLine", "(III)I"⟩
abbrev cX12_thingOf : ByteArray := prog_14_method_41_code
def yX12_thingOf : MethodName := ⟨RX12, "thingOf", "(II)I"⟩
abbrev cX12_fromOf : ByteArray := prog_14_method_42_code
def yX12_fromOf : MethodName := ⟨RX12, "fromOf", "(III)I"⟩
abbrev cX12_knew : ByteArray := prog_14_method_43_code
def yX12_knew : MethodName := ⟨RX12, "knew", "(III)I"⟩
abbrev cX12_why : ByteArray := prog_14_method_44_code
def yX12_why : MethodName := ⟨RX12, "why", "(II)I"⟩
abbrev cX12_feed : ByteArray := prog_14_method_45_code
def yX12_feed : MethodName := ⟨RX12, "feed", "(JI)I"⟩
abbrev cX12_isIn_ : ByteArray := prog_14_method_46_code
def yX12_isIn_ : MethodName := ⟨RX12, "isIn", "(III)Z"⟩
abbrev cX12_next : ByteArray := prog_14_method_47_code
def yX12_next : MethodName := ⟨RX12, "next", "()V"⟩
abbrev cX12_isName : ByteArray := prog_14_method_48_code
def yX12_isName : MethodName := ⟨RX12, "isName", "(Ljava/lang/String;)Z"⟩
abbrev cX12_isSign : ByteArray := prog_14_method_49_code
def yX12_isSign : MethodName := ⟨RX12, "isSign", "(I)Z"⟩
abbrev cX12_need : ByteArray := prog_14_method_50_code
def yX12_need : MethodName := ⟨RX12, "need", "(Z)V"⟩
abbrev cX12_number : ByteArray := prog_14_method_51_code
def yX12_number : MethodName := ⟨RX12, "numbe\x72", "(I)I"⟩
abbrev cX12_codes : ByteArray := prog_14_method_52_code
def yX12_codes : MethodName := ⟨RX12, "codes", "(I)V"⟩
abbrev cX12_either : ByteArray := prog_14_method_53_code
def yX12_either : MethodName := ⟨RX12, "eithe\x72", "()V"⟩
abbrev cX12_all : ByteArray := prog_14_method_54_code
def yX12_all : MethodName := ⟨RX12, "all", "()V"⟩
abbrev cX12_one : ByteArray := prog_14_method_55_code
def yX12_one : MethodName := ⟨RX12, "one", "()V"⟩
abbrev cX12_lineAt : ByteArray := prog_14_method_56_code
def yX12_lineAt : MethodName := ⟨RX12, "lineAt", "(I)V"⟩
abbrev cX12_read : ByteArray := prog_14_method_57_code
def yX12_read : MethodName := ⟨RX12, "read", "()I"⟩
abbrev cX12_lineOf : ByteArray := prog_14_method_58_code
def yX12_lineOf : MethodName := ⟨RX12, "lineOf", "(III)I"⟩
abbrev cX12_linesOf : ByteArray := prog_14_method_59_code
def yX12_linesOf : MethodName := ⟨RX12, "linesOf", "(I)I"⟩
abbrev cX12_line : ByteArray := prog_14_method_60_code
def yX12_line : MethodName := ⟨RX12, "line", "(III)I"⟩
abbrev cX12_rules : ByteArray := prog_14_method_61_code
def yX12_rules : MethodName := ⟨RX12, "rules", "()I"⟩
abbrev cX12_factOf : ByteArray := prog_14_method_62_code
def yX12_factOf : MethodName := ⟨RX12, "factOf", "(II)I"⟩
abbrev cX12_holds : ByteArray := prog_14_method_63_code
def yX12_holds : MethodName := ⟨RX12, "holds", "(III)Z"⟩
abbrev cX12_saying_ : ByteArray := prog_14_method_64_code
def yX12_saying_ : MethodName := ⟨RX12, "saying", "(IIIIZI)I"⟩
abbrev cX12_isAgainst : ByteArray := prog_14_method_65_code
def yX12_isAgainst : MethodName := ⟨RX12, "isAgainst", "(II)Z"⟩
abbrev cX12_findHours : ByteArray := prog_14_method_66_code
def yX12_findHours : MethodName := ⟨RX12, "findHours", "(IIZ)V"⟩
abbrev cX12_quarrel : ByteArray := prog_14_method_67_code
def yX12_quarrel : MethodName := ⟨RX12, "quarrel", "(III)I"⟩
abbrev cX12_impossible : ByteArray := prog_14_method_68_code
def yX12_impossible : MethodName := ⟨RX12, "impossible", "()I"⟩
abbrev cX12_finding : ByteArray := prog_14_method_69_code
def yX12_finding : MethodName := ⟨RX12, "finding", "(IIII)I"⟩
abbrev cX12_stands : ByteArray := prog_14_method_70_code
def yX12_stands : MethodName := ⟨RX12, "stands", "(I)Z"⟩
abbrev cX12_leans : ByteArray := prog_14_method_71_code
def yX12_leans : MethodName := ⟨RX12, "leans", "(I)I"⟩
abbrev cX12_asked : ByteArray := prog_14_method_72_code
def yX12_asked : MethodName := ⟨RX12, "asked", "(II)I"⟩
abbrev cX12_isBarred : ByteArray := prog_14_method_73_code
def yX12_isBarred : MethodName := ⟨RX12, "isBarred", "(I)Z"⟩
abbrev cX12_findingOf : ByteArray := prog_14_method_74_code
def yX12_findingOf : MethodName := ⟨RX12, "findingOf", "(II)I"⟩
abbrev cX12_warn : ByteArray := prog_14_method_75_code
def yX12_warn : MethodName := ⟨RX12, "warn", "(II)I"⟩
abbrev cX12_question : ByteArray := prog_14_method_76_code
def yX12_question : MethodName := ⟨RX12, "question", "(II)I"⟩
abbrev cX12_go : ByteArray := prog_14_method_77_code
def yX12_go : MethodName := ⟨RX12, "go", "(IIIII)V"⟩
abbrev cX12_round : ByteArray := prog_14_method_78_code
def yX12_round : MethodName := ⟨RX12, "round", "(I)I"⟩
abbrev cX12_isRow : ByteArray := prog_14_method_79_code
def yX12_isRow : MethodName := ⟨RX12, "isRow", "(II)Z"⟩
abbrev cX12_row : ByteArray := prog_14_method_80_code
def yX12_row : MethodName := ⟨RX12, "row", "(II)I"⟩
abbrev cX12_alterRow : ByteArray := prog_14_method_81_code
def yX12_alterRow : MethodName := ⟨RX12, "alterRow", "(III)I"⟩
abbrev cX12_dropRow : ByteArray := prog_14_method_82_code
def yX12_dropRow : MethodName := ⟨RX12, "dropRow", "()I"⟩
abbrev cX12_judge : ByteArray := prog_14_method_83_code
def yX12_judge : MethodName := ⟨RX12, "judge", "()I"⟩
abbrev cX12_isFour : ByteArray := prog_14_method_84_code
def yX12_isFour : MethodName := ⟨RX12, "isFou\x72", "(I)Z"⟩
abbrev cX12_sheet : ByteArray := prog_14_method_85_code
def yX12_sheet : MethodName := ⟨RX12, "sheet", "(III)I"⟩
abbrev cX12_put : ByteArray := prog_14_method_86_code
def yX12_put : MethodName := ⟨RX12, "put", "(III)I"⟩
abbrev cX12_notThere : ByteArray := prog_14_method_87_code
def yX12_notThere : MethodName := ⟨RX12, "notThere", "(IIII)I"⟩
abbrev cX12_item : ByteArray := prog_14_method_88_code
def yX12_item : MethodName := ⟨RX12, "item", "(III)I"⟩
abbrev cX12_stamps : ByteArray := prog_14_method_89_code
def yX12_stamps : MethodName := ⟨RX12, "stamps", "(IIII)I"⟩
abbrev cX12_shelf : ByteArray := prog_14_method_90_code
def yX12_shelf : MethodName := ⟨RX12, "shelf", "(III)I"⟩
abbrev cX12_kindOn : ByteArray := prog_14_method_91_code
def yX12_kindOn : MethodName := ⟨RX12, "kindOn", "(I)I"⟩
abbrev cX12_above : ByteArray := prog_14_method_92_code
def yX12_above : MethodName := ⟨RX12, "above", "(I)I"⟩
abbrev cX12_taken : ByteArray := prog_14_method_93_code
def yX12_taken : MethodName := ⟨RX12, "taken", "(II)I"⟩
abbrev cX12_began : ByteArray := prog_14_method_94_code
def yX12_began : MethodName := ⟨RX12, "began", "(I)V"⟩
abbrev cX12_hasOwn : ByteArray := prog_14_method_95_code
def yX12_hasOwn : MethodName := ⟨RX12, "hasOwn", "(II)Z"⟩
abbrev cX12_dealt : ByteArray := prog_14_method_96_code
def yX12_dealt : MethodName := ⟨RX12, "dealt", "(II)I"⟩
abbrev cX12_bodyFrom : ByteArray := prog_14_method_97_code
def yX12_bodyFrom : MethodName := ⟨RX12, "bodyFrom", "(III)I"⟩
abbrev cX12_body : ByteArray := prog_14_method_98_code
def yX12_body : MethodName := ⟨RX12, "body", "(III)I"⟩
abbrev cX12_deal : ByteArray := prog_14_method_99_code
def yX12_deal : MethodName := ⟨RX12, "deal", "(III)I"⟩
abbrev cX12_trace : ByteArray := prog_14_method_100_code
def yX12_trace : MethodName := ⟨RX12, "trace", "(I)I"⟩
abbrev cX12_many : ByteArray := prog_14_method_101_code
def yX12_many : MethodName := ⟨RX12, "many", "(I)I"⟩
abbrev cX12_keep : ByteArray := prog_14_method_102_code
def yX12_keep : MethodName := ⟨RX12, "keep", "()I"⟩
abbrev cX12_again : ByteArray := prog_14_method_103_code
def yX12_again : MethodName := ⟨RX12, "again", "()I"⟩
def RJ6 : String := "java/lang/Intege\x72"
def TJ6 : u_T := fun k => match k with
  | _ => ("", "", "", false)
def tyJ6 : Nat → FieldType := fun k => match k with
  | _ => .int
abbrev wsJ60 : List Cond := u_ws RJ6 TJ6 0
theorem nmJ6 : ∀ a, a < 0 → ∀ b, b < 0 → a ≠ b → (TJ6 a).2.1 ≠ (TJ6 b).2.1 := by decide +kernel
theorem tyJ6_ok : ∀ k, k < 0 → parseFieldDescriptor (TJ6 k).2.2.1 = some (tyJ6 k) := by decide +kernel
abbrev cJ6_bitCount_0f7a4 : ByteArray := prog_15_method_49_code
def yJ6_bitCount_0f7a4 : MethodName := ⟨RJ6, "bitCount", "(I)I"⟩
def RJ9 : String := "java/lang/Math"
def TJ9 : u_T := fun k => match k with
  | _ => ("", "", "", false)
def tyJ9 : Nat → FieldType := fun k => match k with
  | _ => .int
abbrev wsJ90 : List Cond := u_ws RJ9 TJ9 0
theorem nmJ9 : ∀ a, a < 0 → ∀ b, b < 0 → a ≠ b → (TJ9 a).2.1 ≠ (TJ9 b).2.1 := by decide +kernel
theorem tyJ9_ok : ∀ k, k < 0 → parseFieldDescriptor (TJ9 k).2.2.1 = some (tyJ9 k) := by decide +kernel
abbrev cJ9_max_7cf53 : ByteArray := prog_16_method_65_code
def yJ9_max_7cf53 : MethodName := ⟨RJ9, "max", "(II)I"⟩
abbrev cJ9_min_7cf53 : ByteArray := prog_16_method_69_code
def yJ9_min_7cf53 : MethodName := ⟨RJ9, "min", "(II)I"⟩
def RJ0 : String := "java/lang/String"
def TJ0 : u_T := fun k => match k with
  | _ => ("", "", "", false)
def tyJ0 : Nat → FieldType := fun k => match k with
  | _ => .int
abbrev wsJ00 : List Cond := u_ws RJ0 TJ0 0
theorem nmJ0 : ∀ a, a < 0 → ∀ b, b < 0 → a ≠ b → (TJ0 a).2.1 ≠ (TJ0 b).2.1 := by decide +kernel
theorem tyJ0_ok : ∀ k, k < 0 → parseFieldDescriptor (TJ0 k).2.2.1 = some (tyJ0 k) := by decide +kernel
abbrev cJ0_length_8abf5 : ByteArray := prog_17_method_54_code
def yJ0_length_8abf5 : MethodName := ⟨RJ0, "length", "()I"⟩
abbrev cJ0_charAt_5068e : ByteArray := prog_17_method_56_code
def yJ0_charAt_5068e : MethodName := ⟨RJ0, "charAt", "(I)C"⟩
abbrev cJ0_coder_7d493 : ByteArray := prog_17_method_152_code
def yJ0_coder_7d493 : MethodName := ⟨RJ0, "code\x72", "()B"⟩
abbrev cJ0_isLatin1_aae02 : ByteArray := prog_17_method_154_code
def yJ0_isLatin1_aae02 : MethodName := ⟨RJ0, "isLatin1", "()Z"⟩
abbrev cJ0_checkIndex_df160 : ByteArray := prog_17_method_155_code
def yJ0_checkIndex_df160 : MethodName := ⟨RJ0, "checkIndex", "(II)V"⟩
def RJ1 : String := "java/lang/StringLatin1"
def TJ1 : u_T := fun k => match k with
  | _ => ("", "", "", false)
def tyJ1 : Nat → FieldType := fun k => match k with
  | _ => .int
abbrev wsJ10 : List Cond := u_ws RJ1 TJ1 0
theorem nmJ1 : ∀ a, a < 0 → ∀ b, b < 0 → a ≠ b → (TJ1 a).2.1 ≠ (TJ1 b).2.1 := by decide +kernel
theorem tyJ1_ok : ∀ k, k < 0 → parseFieldDescriptor (TJ1 k).2.2.1 = some (tyJ1 k) := by decide +kernel
abbrev cJ1_charAt_3b067 : ByteArray := prog_18_method_2_code
def yJ1_charAt_3b067 : MethodName := ⟨RJ1, "charAt", "([BI)C"⟩
def RJ2 : String := "java/lang/StringUTF16"
def TJ2 : u_T := fun k => match k with
  | _ => ("", "", "", false)
def tyJ2 : Nat → FieldType := fun k => match k with
  | _ => .int
abbrev wsJ20 : List Cond := u_ws RJ2 TJ2 0
theorem nmJ2 : ∀ a, a < 0 → ∀ b, b < 0 → a ≠ b → (TJ2 a).2.1 ≠ (TJ2 b).2.1 := by decide +kernel
theorem tyJ2_ok : ∀ k, k < 0 → parseFieldDescriptor (TJ2 k).2.2.1 = some (tyJ2 k) := by decide +kernel
abbrev cJ2_getChar_3b067 : ByteArray := prog_19_method_5_code
def yJ2_getChar_3b067 : MethodName := ⟨RJ2, "getCha\x72", "([BI)C"⟩
abbrev cJ2_length_9d52b : ByteArray := prog_19_method_6_code
def yJ2_length_9d52b : MethodName := ⟨RJ2, "length", "([B)I"⟩
abbrev cJ2_charAt_3b067 : ByteArray := prog_19_method_83_code
def yJ2_charAt_3b067 : MethodName := ⟨RJ2, "charAt", "([BI)C"⟩
abbrev cJ2_checkIndex_2214a : ByteArray := prog_19_method_91_code
def yJ2_checkIndex_2214a : MethodName := ⟨RJ2, "checkIndex", "(I[B)V"⟩
def RJ10 : String := "java/lang/System"
def TJ10 : u_T := fun k => match k with
  | _ => ("", "", "", false)
def tyJ10 : Nat → FieldType := fun k => match k with
  | _ => .int
abbrev wsJ100 : List Cond := u_ws RJ10 TJ10 0
theorem nmJ10 : ∀ a, a < 0 → ∀ b, b < 0 → a ≠ b → (TJ10 a).2.1 ≠ (TJ10 b).2.1 := by decide +kernel
theorem tyJ10_ok : ∀ k, k < 0 → parseFieldDescriptor (TJ10 k).2.2.1 = some (tyJ10 k) := by decide +kernel
def RJ3 : String := "jdk/internal/util/Preconditions"
def TJ3 : u_T := fun k => match k with
  | _ => ("", "", "", false)
def tyJ3 : Nat → FieldType := fun k => match k with
  | _ => .int
abbrev wsJ30 : List Cond := u_ws RJ3 TJ3 0
theorem nmJ3 : ∀ a, a < 0 → ∀ b, b < 0 → a ≠ b → (TJ3 a).2.1 ≠ (TJ3 b).2.1 := by decide +kernel
theorem tyJ3_ok : ∀ k, k < 0 → parseFieldDescriptor (TJ3 k).2.2.1 = some (tyJ3 k) := by decide +kernel
abbrev cJ3_checkIndex_8e157 : ByteArray := prog_21_method_11_code
def yJ3_checkIndex_8e157 : MethodName := ⟨RJ3, "checkIndex", "(IILjava/util/function/BiFunction;)I"⟩
def RL : String := "InquiryBenchLaw"
abbrev cL_law : ByteArray := code
def yL_law : MethodName := ⟨RL, "law", "([I)Z"⟩
abbrev vwCl : List vw_C := [(RX0, TX0, 14), (RX1, TX1, 1), (RX2, TX2, 8), (RX3, TX3, 5), (RX4, TX4, 6), (RX5, TX5, 6), (RX6, TX6, 7), (RX7, TX7, 9), (RX8, TX8, 4), (RX9, TX9, 6), (RX10, TX10, 8), (RX11, TX11, 11), (RX12, TX12, 41)]
def pk : List Nat → List Cond → List Cond
  | [], _ => []
  | g :: gs, l => match l.drop g with
    | [] => []
    | w :: r => w :: pk gs r
theorem pk_mem : ∀ (gs : List Nat) (l : List Cond) (w : Cond), w ∈ pk gs l → w ∈ l := by
  intro gs
  induction gs with
  | nil => intro l w h; exact absurd h List.not_mem_nil
  | cons g gs ih =>
    intro l w h
    unfold pk at h
    cases hd : l.drop g with
    | nil => rw [hd] at h; exact absurd h List.not_mem_nil
    | cons x r =>
      rw [hd] at h
      have hr : w ∈ l.drop g := by
        rw [hd]
        rcases List.mem_cons.mp h with h | h
        · exact List.mem_cons.mpr (Or.inl h)
        · exact List.mem_cons.mpr (Or.inr (ih r w h))
      exact List.mem_of_mem_drop hr
theorem goodIn_pk {big : List Cond} (ws : List Cond) (gs : List Nat) (hp : ws = pk gs big) (h : ws.all goodWord = true) : GoodIn big ws := fun w hw => ⟨pk_mem gs big w (by rw [← hp]; exact hw), good_of_word (List.all_eq_true.mp h w hw)⟩
theorem goodIn_up {a b ws : List Cond} (h : ∀ w ∈ a, w ∈ b) (g : GoodIn a ws) : GoodIn b ws := fun w hw => ⟨h w (g w hw).1, (g w hw).2⟩
theorem tL_0 : ∀ w ∈ k2_sels lw_privs, w ∈ lw_tbl := fun w h => List.mem_append_left _ h
theorem tL_1 : ∀ w ∈ tables_1_1, w ∈ lw_tbl := fun w h => List.mem_append_right _ (tT_1 w h)
theorem tL_2 : ∀ w ∈ tables_1_2, w ∈ lw_tbl := fun w h => List.mem_append_right _ (tT_2 w h)
theorem tL_3 : ∀ w ∈ tables_1_3, w ∈ lw_tbl := fun w h => List.mem_append_right _ (tT_3 w h)
theorem tL_4 : ∀ w ∈ tables_1_4, w ∈ lw_tbl := fun w h => List.mem_append_right _ (tT_4 w h)
theorem tL_5 : ∀ w ∈ tables_1_5, w ∈ lw_tbl := fun w h => List.mem_append_right _ (tT_5 w h)
theorem tL_6 : ∀ w ∈ tables_1_6, w ∈ lw_tbl := fun w h => List.mem_append_right _ (tT_6 w h)
theorem tL_7 : ∀ w ∈ tables_1_7, w ∈ lw_tbl := fun w h => List.mem_append_right _ (tT_7 w h)
theorem tL_8 : ∀ w ∈ tables_1_8, w ∈ lw_tbl := fun w h => List.mem_append_right _ (tT_8 w h)
def BW0 : List Cond := [Cond.selects RX3 yX3_search yX3_search, Cond.selects RX3 yX3_holdOrLeave yX3_holdOrLeave, Cond.selects RX3 yX3_isRight yX3_isRight, Cond.selects RX1 yX1_narrow yX1_narrow, Cond.selects RX7 yX7_boundHours yX7_boundHours, Cond.selects RX7 yX7_trueHour yX7_trueHour, Cond.selects RX7 yX7_readBetween yX7_readBetween, Cond.selects RX7 yX7_clockOf yX7_clockOf, Cond.selects RX11 yX11_knownFrom yX11_knownFrom, Cond.selects RX6 yX6_holds yX6_holds, Cond.selects RX6 yX6_isSo yX6_isSo, Cond.selects RX6 yX6_tellEarlier yX6_tellEarlier, Cond.selects RX6 yX6_thingOf yX6_thingOf, Cond.selects RX6 yX6_hourBy yX6_hourBy, Cond.selects RX10 yX10_advance yX10_advance, Cond.selects RX10 yX10_byteAt yX10_byteAt, Cond.selects RX10 yX10_takesLine yX10_takesLine, Cond.selects RX10 yX10_refuse yX10_refuse, Cond.selects RX10 yX10_sortHere yX10_sortHere, Cond.selects RX10 yX10_isName yX10_isName]
set_option maxRecDepth 100000 in
theorem gBW0 : GoodIn lw_tbl BW0 := goodIn_up tL_0 (goodIn_pk (big := k2_sels lw_privs) _ [0, 0, 0, 0, 0, 0, 0, 0, 0, 0, 0, 0, 0, 0, 0, 0, 0, 0, 0, 0] (by exact Eq.refl _) (by decide +kernel))
def BW1 : List Cond := [Cond.selects RX10 yX10_takesHead yX10_takesHead, Cond.selects RX10 yX10_takesNumber yX10_takesNumber, Cond.selects RX10 yX10_numberHere yX10_numberHere, Cond.selects RX10 yX10_takesName yX10_takesName, Cond.selects RX10 yX10_takesCond yX10_takesCond, Cond.selects RX10 yX10_takesAll yX10_takesAll, Cond.selects RX10 yX10_takesOne yX10_takesOne, Cond.selects RX10 yX10_takesComparison yX10_takesComparison, Cond.selects RX10 yX10_factHere yX10_factHere, Cond.selects RX10 yX10_signHere yX10_signHere, Cond.selects RX10 yX10_addStep yX10_addStep, Cond.selects RX10 yX10_takesByte yX10_takesByte, Cond.selects RX9 yX9_bound yX9_bound, Cond.selects RX9 yX9_weightAgainst yX9_weightAgainst, Cond.selects RX9 yX9_isOn yX9_isOn, Cond.selects RX11 yX11_stands yX11_stands, Cond.selects RX11 yX11_leansOn yX11_leansOn, Cond.selects RX11 yX11_isBarred yX11_isBarred, Cond.selects RX5 yX5_nextBehind yX5_nextBehind, Cond.selects RX5 yX5_costBehind yX5_costBehind]
set_option maxRecDepth 100000 in
theorem gBW1 : GoodIn lw_tbl BW1 := goodIn_up tL_0 (goodIn_pk (big := k2_sels lw_privs) _ [20, 0, 0, 0, 0, 0, 0, 0, 0, 0, 0, 0, 0, 0, 0, 0, 0, 0, 0, 0] (by exact Eq.refl _) (by decide +kernel))
def BW2 : List Cond := [Cond.selects RX5 yX5_lengthOf yX5_lengthOf, Cond.selects RX5 yX5_tellRows yX5_tellRows, Cond.selects RX2 yX2_kindOfPaper yX2_kindOfPaper, Cond.selects RX2 yX2_dealAs yX2_dealAs, Cond.selects RX2 yX2_run yX2_run, Cond.selects RX2 yX2_quotient yX2_quotient, Cond.selects RX2 yX2_upper yX2_upper, Cond.selects RX11 yX11_countStanding yX11_countStanding, Cond.selects RX12 yX12_inView yX12_inView, Cond.selects RX12 yX12_isIn yX12_isIn, Cond.selects RX12 yX12_paper yX12_paper, Cond.selects RX12 yX12_day yX12_day, Cond.selects RX12 yX12_is yX12_is, Cond.selects RX12 yX12_papersOf yX12_papersOf, Cond.selects RX12 yX12_saidBy yX12_saidBy, Cond.selects RX12 yX12_doesCount yX12_doesCount, Cond.selects RX12 yX12_saying yX12_saying, Cond.selects RX12 yX12_stampsOf yX12_stampsOf, Cond.selects RX12 yX12_stamped yX12_stamped, Cond.selects RX12 yX12_doubt yX12_doubt]
set_option maxRecDepth 100000 in
theorem gBW2 : GoodIn lw_tbl BW2 := goodIn_up tL_0 (goodIn_pk (big := k2_sels lw_privs) _ [40, 0, 0, 0, 0, 0, 0, 0, 0, 0, 0, 0, 0, 0, 0, 0, 0, 0, 0, 0] (by exact Eq.refl _) (by decide +kernel))
def BW3 : List Cond := [Cond.selects RX12 yX12_findClocks yX12_findClocks, Cond.selects RX12 yX12_stampAt yX12_stampAt, Cond.selects RX12 yX12_atMost yX12_atMost, Cond.selects RX12 yX12_greatest yX12_greatest, Cond.selects RX12 yX12_least yX12_least, Cond.selects RX12 yX12_hours yX12_hours, Cond.selects RX12 yX12_inHand yX12_inHand, Cond.selects RX12 yX12_fromOf yX12_fromOf, Cond.selects RX12 yX12_knewBy yX12_knewBy, Cond.selects RX12 yX12_findShould yX12_findShould, Cond.selects RX12 yX12_rules yX12_rules, Cond.selects RX12 yX12_linesOf yX12_linesOf, Cond.selects RX12 yX12_fromLine yX12_fromLine, Cond.selects RX12 yX12_lineOf yX12_lineOf, Cond.selects RX12 yX12_holds yX12_holds, Cond.selects RX12 yX12_factOf yX12_factOf, Cond.selects RX12 yX12_thingOf yX12_thingOf, Cond.selects RX12 yX12_next yX12_next, Cond.selects RX12 yX12_isIn_ yX12_isIn_, Cond.selects RX12 yX12_lineAt yX12_lineAt]
set_option maxRecDepth 100000 in
theorem gBW3 : GoodIn lw_tbl BW3 := goodIn_up tL_0 (goodIn_pk (big := k2_sels lw_privs) _ [60, 0, 0, 0, 0, 0, 0, 0, 0, 0, 0, 0, 0, 0, 0, 0, 0, 0, 0, 0] (by exact Eq.refl _) (by decide +kernel))
def BW4 : List Cond := [Cond.selects RX12 yX12_isName yX12_isName, Cond.selects RX12 yX12_need yX12_need, Cond.selects RX12 yX12_number yX12_number, Cond.selects RX12 yX12_either yX12_either, Cond.selects RX12 yX12_all yX12_all, Cond.selects RX12 yX12_one yX12_one, Cond.selects RX12 yX12_isSign yX12_isSign, Cond.selects RX12 yX12_codes yX12_codes, Cond.selects RX12 yX12_findHours yX12_findHours, Cond.selects RX12 yX12_isAgainst yX12_isAgainst, Cond.selects RX12 yX12_stands yX12_stands, Cond.selects RX12 yX12_leans yX12_leans, Cond.selects RX12 yX12_isBarred yX12_isBarred, Cond.selects RX12 yX12_asked yX12_asked, Cond.selects RX12 yX12_go yX12_go, Cond.selects RX12 yX12_isRow yX12_isRow, Cond.selects RX12 yX12_notThere yX12_notThere, Cond.selects RX12 yX12_kindOn yX12_kindOn, Cond.selects RX12 yX12_dealt yX12_dealt, Cond.selects RX12 yX12_bodyFrom yX12_bodyFrom]
set_option maxRecDepth 100000 in
theorem gBW4 : GoodIn lw_tbl BW4 := goodIn_up tL_0 (goodIn_pk (big := k2_sels lw_privs) _ [80, 0, 0, 0, 0, 0, 0, 0, 0, 0, 0, 0, 0, 0, 0, 0, 0, 0, 0, 0] (by exact Eq.refl _) (by decide +kernel))
def BW5 : List Cond := [Cond.selects RX12 yX12_body yX12_body, Cond.selects RX12 yX12_began yX12_began]
set_option maxRecDepth 100000 in
theorem gBW5 : GoodIn lw_tbl BW5 := goodIn_up tL_0 (goodIn_pk (big := k2_sels lw_privs) _ [100, 0] (by exact Eq.refl _) (by decide +kernel))
def BW6 : List Cond := [Cond.initialized RX11, Cond.initialized RX0, Cond.initialized RX8, Cond.initialized "java/lang/Math", Cond.initialized RX7, Cond.initialized RX1, Cond.initialized RX3, Cond.initialized RX6, Cond.initialized RX9, Cond.initialized RX10, Cond.initialized RX5, Cond.initialized RX4, Cond.initialized RX2, Cond.initialized RX12, Cond.initialized RJ6, Cond.initialized "java/lang/System", Cond.initialized RJ0, Cond.initialized RJ1, Cond.initialized RJ3, Cond.initialized RJ2]
set_option maxRecDepth 100000 in
theorem gBW6 : GoodIn lw_tbl BW6 := goodIn_up tL_1 (goodIn_pk (big := tables_1_1) _ [1, 0, 0, 0, 0, 0, 0, 0, 0, 0, 0, 0, 0, 0, 0, 0, 0, 0, 0, 0] (by exact Eq.refl _) (by decide +kernel))
def BW7 : List Cond := [Cond.classLink RL 7 RX11, Cond.instantiable RX11 11, Cond.methodLink RL 9 yX11_init, Cond.instanceMethod yX11_init, Cond.code yX11_init cX11_init 3 none, Cond.methodLink RX11 1 objectInit, Cond.instanceMethod objectInit, Cond.code objectInit ⟨#[0xb1]⟩ 1 none, Cond.classLink RX11 7 RX0, Cond.instantiable RX0 14, Cond.instanceMethod yX0_init, Cond.code yX0_init cX0_init 1 none, Cond.methodLink RX0 3 objectInit, Cond.classLink RX0 9 RX8, Cond.instantiable RX8 4, Cond.methodLink RX0 11 yX8_init, Cond.instanceMethod yX8_init, Cond.code yX8_init cX8_init 3 none, Cond.methodLink RX8 3 objectInit, Cond.methodLink RX8 9 Lib.Math.max.name]
set_option maxRecDepth 100000 in
theorem gBW7 : GoodIn lw_tbl BW7 := goodIn_up tL_1 (goodIn_pk (big := tables_1_1) _ [21, 0, 0, 0, 0, 0, 0, 0, 0, 0, 1, 0, 0, 0, 0, 0, 0, 0, 0, 0] (by exact Eq.refl _) (by decide +kernel))
def BW8 : List Cond := [Cond.static Lib.Math.max.name, Cond.code Lib.Math.max.name Lib.Math.max.code 2 (some .int), Cond.fieldLink RX8 15 "InquiryBench$Table" "room" "I", Cond.fieldLink RX8 21 "InquiryBench$Table" "width" "I", Cond.fieldLink RX8 24 "InquiryBench$Table" "cells" "[I", Cond.fieldLink RX8 28 "InquiryBench$Table" "count" "I", Cond.arrayClass .int, Cond.fieldLink RX0 14 "InquiryBench$Book" "persons" "LInquiryBench$Table;", Cond.fieldLink RX0 20 "InquiryBench$Book" "papers" "LInquiryBench$Table;", Cond.fieldLink RX0 23 "InquiryBench$Book" "stamps" "LInquiryBench$Table;", Cond.fieldLink RX0 26 "InquiryBench$Book" "versions" "LInquiryBench$Table;", Cond.fieldLink RX0 29 "InquiryBench$Book" "lines" "LInquiryBench$Table;", Cond.fieldLink RX0 32 "InquiryBench$Book" "steps" "LInquiryBench$Table;", Cond.fieldLink RX0 35 "InquiryBench$Book" "sayings" "LInquiryBench$Table;", Cond.fieldLink RX0 38 "InquiryBench$Book" "findings" "LInquiryBench$Table;", Cond.fieldLink RX0 41 "InquiryBench$Book" "warnings" "LInquiryBench$Table;", Cond.fieldLink RX0 44 "InquiryBench$Book" "questions" "LInquiryBench$Table;", Cond.fieldLink RX0 47 "InquiryBench$Book" "today" "I", Cond.fieldLink RX0 51 "InquiryBench$Book" "viewDay" "I", Cond.fieldLink RX0 54 "InquiryBench$Book" "viewLevel" "I"]
set_option maxRecDepth 100000 in
theorem gBW8 : GoodIn lw_tbl BW8 := goodIn_up tL_1 (goodIn_pk (big := tables_1_1) _ [42, 0, 0, 0, 0, 0, 9, 0, 3, 5, 3, 3, 3, 2, 4, 3, 1, 2, 3, 1] (by exact Eq.refl _) (by decide +kernel))
def BW9 : List Cond := [Cond.fieldLink RX0 57 "InquiryBench$Book" "gap" "I", Cond.classLink RX11 10 RX7, Cond.instantiable RX7 9, Cond.methodLink RX11 12 yX7_init, Cond.instanceMethod yX7_init, Cond.code yX7_init cX7_init 2 none, Cond.methodLink RX7 3 objectInit, Cond.classLink RX7 9 RX1, Cond.instantiable RX1 1, Cond.instanceMethod yX1_init, Cond.code yX1_init cX1_init 1 none, Cond.methodLink RX1 3 objectInit, Cond.fieldLink RX1 9 "InquiryBench$Clocks" "most" "[I", Cond.fieldLink RX7 37 "InquiryBench$Sight" "book" "LInquiryBench$Book;", Cond.fieldLink RX7 12 "InquiryBench$Sight" "clocks" "LInquiryBench$Clocks;", Cond.fieldLink RX7 18 "InquiryBench$Sight" "first" "[I", Cond.fieldLink RX7 22 "InquiryBench$Sight" "last" "[I", Cond.fieldLink RX7 25 "InquiryBench$Sight" "madeLeast" "[I", Cond.fieldLink RX7 28 "InquiryBench$Sight" "madeMost" "[I", Cond.fieldLink RX7 31 "InquiryBench$Sight" "sentLeast" "[I"]
set_option maxRecDepth 100000 in
theorem gBW9 : GoodIn lw_tbl BW9 := goodIn_up tL_1 (goodIn_pk (big := tables_1_1) _ [105, 32, 0, 0, 0, 0, 0, 0, 0, 1, 0, 0, 0, 3, 0, 0, 0, 0, 0, 0] (by exact Eq.refl _) (by decide +kernel))
def BW10 : List Cond := [Cond.fieldLink RX7 34 "InquiryBench$Sight" "sentMost" "[I", Cond.fieldLink RX7 41 "InquiryBench$Sight" "clash" "Z", Cond.classLink RX11 32 RX3, Cond.instantiable RX3 5, Cond.methodLink RX11 34 yX3_init, Cond.instanceMethod yX3_init, Cond.code yX3_init cX3_init 3 none, Cond.methodLink RX3 3 objectInit, Cond.classLink RX3 9 RX1, Cond.fieldLink RX3 17 "InquiryBench$Doubt" "book" "LInquiryBench$Book;", Cond.fieldLink RX3 11 "InquiryBench$Doubt" "held" "[LInquiryBench$Clocks;", Cond.fieldLink RX3 22 "InquiryBench$Doubt" "bound" "I", Cond.fieldLink RX3 26 "InquiryBench$Doubt" "least" "I", Cond.fieldLink RX3 29 "InquiryBench$Doubt" "bits" "I", Cond.classLink RX11 39 RX6, Cond.instantiable RX6 7, Cond.methodLink RX11 41 yX6_init, Cond.instanceMethod yX6_init, Cond.code yX6_init cX6_init 3 none, Cond.methodLink RX6 3 objectInit]
set_option maxRecDepth 100000 in
theorem gBW10 : GoodIn lw_tbl BW10 := goodIn_up tL_1 (goodIn_pk (big := tables_1_1) _ [161, 0, 19, 0, 0, 0, 0, 0, 0, 2, 0, 0, 0, 0, 11, 0, 0, 0, 0, 0] (by exact Eq.refl _) (by decide +kernel))
def BW11 : List Cond := [Cond.fieldLink RX6 18 "InquiryBench$Rules" "book" "LInquiryBench$Book;", Cond.fieldLink RX6 22 "InquiryBench$Rules" "sight" "LInquiryBench$Sight;", Cond.fieldLink RX6 9 "InquiryBench$Rules" "facts" "[I", Cond.fieldLink RX6 15 "InquiryBench$Rules" "should" "[I", Cond.fieldLink RX6 26 "InquiryBench$Rules" "first" "I", Cond.fieldLink RX6 30 "InquiryBench$Rules" "count" "I", Cond.fieldLink RX6 33 "InquiryBench$Rules" "holding" "I", Cond.classLink RX11 48 RX9, Cond.instantiable RX9 6, Cond.methodLink RX11 50 yX9_init, Cond.instanceMethod yX9_init, Cond.code yX9_init cX9_init 3 none]
set_option maxRecDepth 100000 in
theorem gBW11 : GoodIn lw_tbl BW11 := goodIn_up tL_1 (goodIn_pk (big := tables_1_1) _ [213, 0, 0, 0, 0, 0, 0, 15, 0, 0, 0, 0] (by exact Eq.refl _) (by decide +kernel))
def BW12 : List Cond := [Cond.methodLink RX9 3 objectInit, Cond.fieldLink RX9 9 "InquiryBench$Talk" "book" "LInquiryBench$Book;", Cond.fieldLink RX9 15 "InquiryBench$Talk" "sight" "LInquiryBench$Sight;", Cond.fieldLink RX9 19 "InquiryBench$Talk" "from" "I", Cond.fieldLink RX9 23 "InquiryBench$Talk" "to" "I", Cond.fieldLink RX9 26 "InquiryBench$Talk" "least" "I", Cond.fieldLink RX9 29 "InquiryBench$Talk" "believed" "I", Cond.classLink RX11 55 RX10, Cond.instantiable RX10 8, Cond.methodLink RX11 57 yX10_init, Cond.instanceMethod yX10_init, Cond.code yX10_init cX10_init 1 none, Cond.methodLink RX10 3 objectInit, Cond.classLink RX10 15 RX8, Cond.methodLink RX10 17 yX8_init, Cond.fieldLink RX10 9 "InquiryBench$Tape" "bytes" "[I", Cond.fieldLink RX10 27 "InquiryBench$Tape" "count" "I", Cond.fieldLink RX10 20 "InquiryBench$Tape" "lines" "LInquiryBench$Table;", Cond.fieldLink RX10 24 "InquiryBench$Tape" "steps" "LInquiryBench$Table;", Cond.fieldLink RX10 31 "InquiryBench$Tape" "kind" "I"]
set_option maxRecDepth 100000 in
theorem gBW12 : GoodIn lw_tbl BW12 := goodIn_up tL_2 (goodIn_pk (big := tables_1_2) _ [0, 0, 0, 0, 0, 0, 0, 13, 0, 0, 0, 0, 0, 0, 0, 0, 0, 0, 0, 0] (by exact Eq.refl _) (by decide +kernel))
def BW13 : List Cond := [Cond.fieldLink RX10 34 "InquiryBench$Tape" "start" "I", Cond.fieldLink RX10 37 "InquiryBench$Tape" "next" "I", Cond.fieldLink RX10 40 "InquiryBench$Tape" "fault" "I", Cond.classLink RX11 62 RX5, Cond.instantiable RX5 6, Cond.methodLink RX11 64 yX5_init, Cond.instanceMethod yX5_init, Cond.code yX5_init cX5_init 2 none, Cond.methodLink RX5 3 objectInit, Cond.classLink RX5 9 RX8, Cond.methodLink RX5 11 yX8_init, Cond.fieldLink RX5 24 "InquiryBench$Round" "book" "LInquiryBench$Book;", Cond.fieldLink RX5 14 "InquiryBench$Round" "rows" "LInquiryBench$Table;", Cond.fieldLink RX5 20 "InquiryBench$Round" "toCome" "[I", Cond.fieldLink RX5 28 "InquiryBench$Round" "asked" "I", Cond.fieldLink RX5 32 "InquiryBench$Round" "start" "I", Cond.fieldLink RX5 35 "InquiryBench$Round" "told" "Z", Cond.classLink RX11 69 RX4, Cond.instantiable RX4 6, Cond.methodLink RX11 71 yX4_init]
set_option maxRecDepth 100000 in
theorem gBW13 : GoodIn lw_tbl BW13 := goodIn_up tL_2 (goodIn_pk (big := tables_1_2) _ [33, 0, 0, 17, 0, 0, 0, 0, 0, 0, 0, 0, 0, 1, 0, 0, 0, 13, 0, 0] (by exact Eq.refl _) (by decide +kernel))
def BW14 : List Cond := [Cond.instanceMethod yX4_init, Cond.code yX4_init cX4_init 2 none, Cond.methodLink RX4 3 objectInit, Cond.fieldLink RX4 11 "InquiryBench$Host" "sorts" "[I", Cond.fieldLink RX4 15 "InquiryBench$Host" "sizes" "[I", Cond.fieldLink RX4 18 "InquiryBench$Host" "items" "[I", Cond.fieldLink RX4 21 "InquiryBench$Host" "what" "[I", Cond.fieldLink RX4 24 "InquiryBench$Host" "numbe\x72" "[I", Cond.fieldLink RX4 27 "InquiryBench$Host" "sort" "[I", Cond.classLink RX11 76 RX2, Cond.instantiable RX2 8, Cond.methodLink RX11 78 yX2_init, Cond.instanceMethod yX2_init, Cond.code yX2_init cX2_init 2 none, Cond.methodLink RX2 3 objectInit, Cond.fieldLink RX2 15 "InquiryBench$Deale\x72" "book" "LInquiryBench$Book;", Cond.fieldLink RX2 11 "InquiryBench$Deale\x72" "trace" "[I", Cond.fieldLink RX2 19 "InquiryBench$Deale\x72" "ran" "I", Cond.fieldLink RX2 23 "InquiryBench$Deale\x72" "kind" "I", Cond.fieldLink RX2 26 "InquiryBench$Deale\x72" "n" "I"]
set_option maxRecDepth 100000 in
theorem gBW14 : GoodIn lw_tbl BW14 := goodIn_up tL_2 (goodIn_pk (big := tables_1_2) _ [84, 0, 0, 0, 0, 0, 0, 0, 0, 13, 0, 0, 0, 0, 0, 0, 0, 0, 0, 0] (by exact Eq.refl _) (by decide +kernel))
def BW15 : List Cond := [Cond.fieldLink RX2 29 "InquiryBench$Deale\x72" "p" "I", Cond.fieldLink RX2 32 "InquiryBench$Deale\x72" "a" "I", Cond.fieldLink RX2 35 "InquiryBench$Deale\x72" "parted" "Z", Cond.fieldLink RX11 15 "InquiryBench" "book" "LInquiryBench$Book;", Cond.fieldLink RX11 21 "InquiryBench" "kept" "LInquiryBench$Book;", Cond.fieldLink RX11 24 "InquiryBench" "isKept" "Z", Cond.fieldLink RX11 28 "InquiryBench" "sight" "LInquiryBench$Sight;", Cond.fieldLink RX11 35 "InquiryBench" "doubt" "LInquiryBench$Doubt;", Cond.fieldLink RX11 44 "InquiryBench" "rules" "LInquiryBench$Rules;", Cond.fieldLink RX11 51 "InquiryBench" "talk" "LInquiryBench$Talk;", Cond.fieldLink RX11 58 "InquiryBench" "tape" "LInquiryBench$Tape;", Cond.fieldLink RX11 65 "InquiryBench" "best" "LInquiryBench$Round;", Cond.fieldLink RX11 72 "InquiryBench" "host" "LInquiryBench$Host;", Cond.fieldLink RX11 79 "InquiryBench" "deale\x72" "LInquiryBench$Dealer;", Cond.methodLink RL 13 yX11_days, Cond.instanceMethod yX11_days, Cond.selects RX11 yX11_days yX11_days, Cond.code yX11_days cX11_days 2 (some .int), Cond.methodLink RX11 83 yX11_within, Cond.static yX11_within]
set_option maxRecDepth 100000 in
theorem gBW15 : GoodIn lw_tbl BW15 := goodIn_up tL_2 (goodIn_pk (big := tables_1_2) _ [117, 0, 0, 17, 0, 0, 0, 0, 0, 0, 0, 0, 0, 0, 23, 0, 0, 0, 0, 0] (by exact Eq.refl _) (by decide +kernel))
def BW16 : List Cond := [Cond.code yX11_within cX11_within 3 (some .boolean), Cond.methodLink RL 18 yX11_view, Cond.instanceMethod yX11_view, Cond.selects RX11 yX11_view yX11_view, Cond.code yX11_view cX11_view 3 (some .int), Cond.methodLink RX11 97 yX0_inView, Cond.instanceMethod yX0_inView, Cond.selects RX0 yX0_inView yX0_inView, Cond.code yX0_inView cX0_inView 6 (some .int), Cond.methodLink RX0 64 yX0_viewedDay, Cond.instanceMethod yX0_viewedDay, Cond.selects RX0 yX0_viewedDay yX0_viewedDay, Cond.code yX0_viewedDay cX0_viewedDay 1 (some .int), Cond.methodLink RX0 68 yX8_count, Cond.instanceMethod yX8_count, Cond.selects RX8 yX8_count yX8_count, Cond.code yX8_count cX8_count 1 (some .int), Cond.methodLink RX0 71 yX8_at, Cond.instanceMethod yX8_at, Cond.selects RX8 yX8_at yX8_at]
set_option maxRecDepth 100000 in
theorem gBW16 : GoodIn lw_tbl BW16 := goodIn_up tL_2 (goodIn_pk (big := tables_1_2) _ [177, 0, 0, 0, 0, 0, 0, 0, 0, 0, 0, 0, 0, 0, 0, 0, 0, 0, 0, 0] (by exact Eq.refl _) (by decide +kernel))
def BW17 : List Cond := [Cond.code yX8_at cX8_at 3 (some .int), Cond.methodLink RX11 101 yJ6_bitCount_0f7a4, Cond.static yJ6_bitCount_0f7a4, Cond.code yJ6_bitCount_0f7a4 cJ6_bitCount_0f7a4 1 (some .int), Cond.constant RJ6 265 (1431655765), Cond.constant RJ6 266 (858993459), Cond.constant RJ6 267 (252645135), Cond.methodLink RL 23 yX11_person, Cond.instanceMethod yX11_person, Cond.selects RX11 yX11_person yX11_person, Cond.code yX11_person cX11_person 4 (some .int), Cond.methodLink RX11 111 yX8_isFull, Cond.instanceMethod yX8_isFull, Cond.selects RX8 yX8_isFull yX8_isFull, Cond.code yX8_isFull cX8_isFull 1 (some .boolean), Cond.methodLink RX11 117 yX8_append, Cond.instanceMethod yX8_append, Cond.selects RX8 yX8_append yX8_append, Cond.code yX8_append cX8_append 1 (some .int), Cond.methodLink RX11 120 yX8_set]
set_option maxRecDepth 100000 in
theorem gBW17 : GoodIn lw_tbl BW17 := goodIn_up tL_2 (goodIn_pk (big := tables_1_2) _ [197, 0, 0, 0, 0, 0, 0, 0, 0, 0, 0, 0, 0, 0, 0, 0, 0, 0, 0, 0] (by exact Eq.refl _) (by decide +kernel))
def BW18 : List Cond := [Cond.instanceMethod yX8_set, Cond.selects RX8 yX8_set yX8_set, Cond.code yX8_set cX8_set 4 none, Cond.methodLink RL 27 yX11_personOf, Cond.instanceMethod yX11_personOf, Cond.selects RX11 yX11_personOf yX11_personOf, Cond.code yX11_personOf cX11_personOf 3 (some .int), Cond.methodLink RX11 124 yX8_has, Cond.instanceMethod yX8_has, Cond.selects RX8 yX8_has yX8_has, Cond.code yX8_has cX8_has 2 (some .boolean), Cond.methodLink RX11 128 yX8_at, Cond.methodLink RX11 132 yX0_countTo, Cond.instanceMethod yX0_countTo, Cond.selects RX0 yX0_countTo yX0_countTo, Cond.code yX0_countTo cX0_countTo 5 (some .int), Cond.static yX11_hasBit, Cond.code yX11_hasBit cX11_hasBit 2 (some .boolean), Cond.methodLink RX11 135 yX0_countBy, Cond.instanceMethod yX0_countBy]
set_option maxRecDepth 100000 in
theorem gBW18 : GoodIn lw_tbl BW18 := goodIn_up tL_2 (goodIn_pk (big := tables_1_2) _ [217, 0, 0, 0, 0, 0, 0, 0, 0, 0, 0, 0, 0, 0, 0, 0, 1, 0, 0, 0] (by exact Eq.refl _) (by decide +kernel))
def BW19 : List Cond := [Cond.selects RX0 yX0_countBy yX0_countBy, Cond.code yX0_countBy cX0_countBy 5 (some .int)]
set_option maxRecDepth 100000 in
theorem gBW19 : GoodIn lw_tbl BW19 := goodIn_up tL_2 (goodIn_pk (big := tables_1_2) _ [238, 0] (by exact Eq.refl _) (by decide +kernel))
def BW20 : List Cond := [Cond.methodLink RX11 138 yX0_countSayingsBy, Cond.instanceMethod yX0_countSayingsBy, Cond.selects RX0 yX0_countSayingsBy yX0_countSayingsBy, Cond.code yX0_countSayingsBy cX0_countSayingsBy 5 (some .int), Cond.methodLink RX0 86 yX0_counts, Cond.instanceMethod yX0_counts, Cond.selects RX0 yX0_counts yX0_counts, Cond.code yX0_counts cX0_counts 3 (some .boolean), Cond.methodLink RL 31 yX11_paper, Cond.instanceMethod yX11_paper, Cond.selects RX11 yX11_paper yX11_paper, Cond.code yX11_paper cX11_paper 6 (some .int), Cond.methodLink RX11 141 yX8_hasAll, Cond.instanceMethod yX8_hasAll, Cond.selects RX8 yX8_hasAll yX8_hasAll, Cond.code yX8_hasAll cX8_hasAll 2 (some .boolean), Cond.methodLink RX8 31 Lib.Math.min.name, Cond.static Lib.Math.min.name, Cond.code Lib.Math.min.name Lib.Math.min.code 2 (some .int), Cond.methodLink RL 36 yX11_lose]
set_option maxRecDepth 100000 in
theorem gBW20 : GoodIn lw_tbl BW20 := goodIn_up tL_3 (goodIn_pk (big := tables_1_3) _ [0, 0, 0, 0, 0, 0, 0, 0, 0, 0, 0, 0, 0, 0, 0, 0, 0, 0, 0, 0] (by exact Eq.refl _) (by decide +kernel))
def BW21 : List Cond := [Cond.instanceMethod yX11_lose, Cond.selects RX11 yX11_lose yX11_lose, Cond.code yX11_lose cX11_lose 2 (some .int), Cond.methodLink RL 40 yX11_paperOf, Cond.instanceMethod yX11_paperOf, Cond.selects RX11 yX11_paperOf yX11_paperOf, Cond.code yX11_paperOf cX11_paperOf 3 (some .int), Cond.methodLink RX11 147 yX0_countStamps, Cond.instanceMethod yX0_countStamps, Cond.selects RX0 yX0_countStamps yX0_countStamps, Cond.code yX0_countStamps cX0_countStamps 4 (some .int), Cond.methodLink RX11 150 yX11_hasBit, Cond.methodLink RL 44 yX11_stamp, Cond.instanceMethod yX11_stamp, Cond.selects RX11 yX11_stamp yX11_stamp, Cond.code yX11_stamp cX11_stamp 4 (some .int), Cond.methodLink RX11 154 yX11_isStamp, Cond.static yX11_isStamp, Cond.code yX11_isStamp cX11_isStamp 2 (some .boolean), Cond.methodLink RX11 160 yX0_addStamp]
set_option maxRecDepth 100000 in
theorem gBW21 : GoodIn lw_tbl BW21 := goodIn_up tL_3 (goodIn_pk (big := tables_1_3) _ [20, 0, 0, 0, 0, 0, 0, 0, 0, 0, 0, 0, 0, 0, 0, 0, 0, 0, 0, 0] (by exact Eq.refl _) (by decide +kernel))
def BW22 : List Cond := [Cond.instanceMethod yX0_addStamp, Cond.selects RX0 yX0_addStamp yX0_addStamp, Cond.code yX0_addStamp cX0_addStamp 5 (some .int), Cond.methodLink RX0 79 yX8_append, Cond.methodLink RX0 82 yX8_set, Cond.methodLink RL 49 yX11_stamps, Cond.instanceMethod yX11_stamps, Cond.selects RX11 yX11_stamps yX11_stamps, Cond.code yX11_stamps cX11_stamps 7 (some .int), Cond.methodLink RX11 164 yX11_isSheet, Cond.static yX11_isSheet, Cond.code yX11_isSheet cX11_isSheet 1 (some .boolean), Cond.methodLink RX11 167 yX4_refusal, Cond.instanceMethod yX4_refusal, Cond.selects RX4 yX4_refusal yX4_refusal, Cond.code yX4_refusal cX4_refusal 4 (some .int), Cond.methodLink RX4 38 yX4_sort, Cond.instanceMethod yX4_sort, Cond.selects RX4 yX4_sort yX4_sort, Cond.code yX4_sort cX4_sort 2 (some .int)]
set_option maxRecDepth 100000 in
theorem gBW22 : GoodIn lw_tbl BW22 := goodIn_up tL_3 (goodIn_pk (big := tables_1_3) _ [40, 0, 0, 0, 0, 0, 0, 0, 0, 0, 0, 0, 0, 0, 0, 0, 0, 0, 0, 0] (by exact Eq.refl _) (by decide +kernel))
def BW23 : List Cond := [Cond.methodLink RX11 170 yX4_size, Cond.instanceMethod yX4_size, Cond.selects RX4 yX4_size yX4_size, Cond.code yX4_size cX4_size 2 (some .int), Cond.methodLink RX11 173 yX4_at, Cond.instanceMethod yX4_at, Cond.selects RX4 yX4_at yX4_at, Cond.code yX4_at cX4_at 3 (some .int), Cond.methodLink RX11 174 yX8_count, Cond.methodLink RL 53 yX11_gap, Cond.instanceMethod yX11_gap, Cond.selects RX11 yX11_gap yX11_gap, Cond.code yX11_gap cX11_gap 3 (some .int), Cond.methodLink RL 57 yX11_clash, Cond.instanceMethod yX11_clash, Cond.selects RX11 yX11_clash yX11_clash, Cond.code yX11_clash cX11_clash 2 (some .int), Cond.methodLink RX11 180 yX3_fewest, Cond.instanceMethod yX3_fewest, Cond.selects RX3 yX3_fewest yX3_fewest]
set_option maxRecDepth 100000 in
theorem gBW23 : GoodIn lw_tbl BW23 := goodIn_up tL_3 (goodIn_pk (big := tables_1_3) _ [61, 0, 0, 0, 0, 0, 0, 0, 1, 0, 0, 0, 0, 0, 0, 0, 0, 0, 0, 0] (by exact Eq.refl _) (by decide +kernel))
def BW24 : List Cond := [Cond.code yX3_fewest cX3_fewest 3 (some .int), Cond.methodLink RX3 38 yX8_count, Cond.methodLink RX3 48 yX0_countStamps, Cond.methodLink RX3 52 yX1_free, Cond.instanceMethod yX1_free, Cond.selects RX1 yX1_free yX1_free, Cond.code yX1_free cX1_free 4 none, Cond.methodLink RX3 55 yX3_search, Cond.instanceMethod yX3_search, Cond.code yX3_search cX3_search 6 none, Cond.methodLink RX3 59 yX3_holdOrLeave, Cond.instanceMethod yX3_holdOrLeave, Cond.code yX3_holdOrLeave cX3_holdOrLeave 5 none, Cond.methodLink RX3 62 yX1_copy, Cond.instanceMethod yX1_copy, Cond.selects RX1 yX1_copy yX1_copy, Cond.code yX1_copy cX1_copy 2 none, Cond.methodLink RX1 15 arraycopyName, Cond.static arraycopyName, Cond.native arraycopyName]
set_option maxRecDepth 100000 in
theorem gBW24 : GoodIn lw_tbl BW24 := goodIn_up tL_3 (goodIn_pk (big := tables_1_3) _ [82, 0, 1, 0, 0, 0, 0, 0, 1, 0, 0, 1, 0, 0, 0, 0, 0, 0, 0, 0] (by exact Eq.refl _) (by decide +kernel))
def BW25 : List Cond := [Cond.methodLink RX3 66 yX3_isRight, Cond.instanceMethod yX3_isRight, Cond.code yX3_isRight cX3_isRight 5 (some .boolean), Cond.methodLink RX3 73 yX8_at, Cond.methodLink RX3 80 yX1_follow, Cond.instanceMethod yX1_follow, Cond.selects RX1 yX1_follow yX1_follow, Cond.code yX1_follow cX1_follow 8 (some .boolean), Cond.methodLink RX1 21 yX8_at, Cond.methodLink RX1 27 yX1_narrow, Cond.instanceMethod yX1_narrow, Cond.code yX1_narrow cX1_narrow 8 (some .boolean), Cond.methodLink RX11 183 yX7_look, Cond.instanceMethod yX7_look, Cond.selects RX7 yX7_look yX7_look, Cond.code yX7_look cX7_look 4 none, Cond.methodLink RX7 45 yX1_free, Cond.methodLink RX7 54 yX8_count, Cond.methodLink RX7 60 yX8_at, Cond.methodLink RX7 76 yX1_follow]
set_option maxRecDepth 100000 in
theorem gBW25 : GoodIn lw_tbl BW25 := goodIn_up tL_3 (goodIn_pk (big := tables_1_3) _ [105, 1, 0, 0, 0, 0, 0, 0, 0, 0, 1, 0, 1, 0, 0, 0, 0, 0, 0, 2] (by exact Eq.refl _) (by decide +kernel))
def BW26 : List Cond := [Cond.methodLink RX7 80 yX7_boundHours, Cond.instanceMethod yX7_boundHours, Cond.code yX7_boundHours cX7_boundHours 2 none, Cond.methodLink RX7 83 yX7_trueHour, Cond.instanceMethod yX7_trueHour, Cond.code yX7_trueHour cX7_trueHour 5 (some .int), Cond.methodLink RX7 87 yX1_mostAhead, Cond.instanceMethod yX1_mostAhead, Cond.selects RX1 yX1_mostAhead yX1_mostAhead, Cond.code yX1_mostAhead cX1_mostAhead 3 (some .int), Cond.methodLink RX11 187 yX7_clashes, Cond.instanceMethod yX7_clashes, Cond.selects RX7 yX7_clashes yX7_clashes, Cond.code yX7_clashes cX7_clashes 1 (some .boolean), Cond.methodLink RL 61 yX11_span, Cond.instanceMethod yX11_span, Cond.selects RX11 yX11_span yX11_span, Cond.code yX11_span cX11_span 3 (some .int), Cond.methodLink RX11 190 yX7_ahead, Cond.instanceMethod yX7_ahead]
set_option maxRecDepth 100000 in
theorem gBW26 : GoodIn lw_tbl BW26 := goodIn_up tL_3 (goodIn_pk (big := tables_1_3) _ [130, 1, 0, 0, 1, 0, 0, 0, 0, 0, 0, 0, 0, 0, 0, 0, 0, 0, 0, 0] (by exact Eq.refl _) (by decide +kernel))
def BW27 : List Cond := [Cond.selects RX7 yX7_ahead yX7_ahead, Cond.code yX7_ahead cX7_ahead 3 (some .int), Cond.methodLink RL 66 yX11_sent, Cond.instanceMethod yX11_sent, Cond.selects RX11 yX11_sent yX11_sent, Cond.code yX11_sent cX11_sent 3 (some .int), Cond.methodLink RX11 194 yX7_isSent, Cond.instanceMethod yX7_isSent, Cond.selects RX7 yX7_isSent yX7_isSent, Cond.code yX7_isSent cX7_isSent 2 (some .boolean), Cond.methodLink RX11 197 yX7_sentHour, Cond.instanceMethod yX7_sentHour, Cond.selects RX7 yX7_sentHour yX7_sentHour, Cond.code yX7_sentHour cX7_sentHour 3 (some .int), Cond.methodLink RX7 90 yX7_isSent, Cond.methodLink RL 70 yX11_hand, Cond.instanceMethod yX11_hand, Cond.selects RX11 yX11_hand yX11_hand, Cond.code yX11_hand cX11_hand 4 (some .int), Cond.methodLink RX11 200 yX7_isInHand]
set_option maxRecDepth 100000 in
theorem gBW27 : GoodIn lw_tbl BW27 := goodIn_up tL_3 (goodIn_pk (big := tables_1_3) _ [152, 0, 0, 0, 0, 0, 0, 0, 0, 0, 0, 0, 0, 0, 0, 0, 0, 0, 0, 0] (by exact Eq.refl _) (by decide +kernel))
def BW28 : List Cond := [Cond.instanceMethod yX7_isInHand, Cond.selects RX7 yX7_isInHand yX7_isInHand, Cond.code yX7_isInHand cX7_isInHand 3 (some .boolean), Cond.methodLink RX11 203 yX7_handHour, Cond.instanceMethod yX7_handHour, Cond.selects RX7 yX7_handHour yX7_handHour, Cond.code yX7_handHour cX7_handHour 4 (some .int), Cond.methodLink RL 75 yX11_before, Cond.instanceMethod yX11_before, Cond.selects RX11 yX11_before yX11_before, Cond.code yX11_before cX11_before 3 (some .int), Cond.methodLink RX11 207 yX7_leastBetween, Cond.instanceMethod yX7_leastBetween, Cond.selects RX7 yX7_leastBetween yX7_leastBetween, Cond.code yX7_leastBetween cX7_leastBetween 3 (some .int), Cond.methodLink RX7 113 yX7_readBetween, Cond.instanceMethod yX7_readBetween, Cond.code yX7_readBetween cX7_readBetween 3 (some .int), Cond.methodLink RX7 116 yX7_clockOf, Cond.instanceMethod yX7_clockOf]
set_option maxRecDepth 100000 in
theorem gBW28 : GoodIn lw_tbl BW28 := goodIn_up tL_3 (goodIn_pk (big := tables_1_3) _ [172, 0, 0, 0, 0, 0, 0, 0, 0, 0, 0, 0, 0, 0, 0, 0, 1, 0, 0, 1] (by exact Eq.refl _) (by decide +kernel))
def BW29 : List Cond := [Cond.code yX7_clockOf cX7_clockOf 2 (some .int), Cond.methodLink RX11 210 yX7_mostBetween, Cond.instanceMethod yX7_mostBetween, Cond.selects RX7 yX7_mostBetween yX7_mostBetween, Cond.code yX7_mostBetween cX7_mostBetween 3 (some .int), Cond.methodLink RL 79 yX11_knew, Cond.instanceMethod yX11_knew, Cond.selects RX11 yX11_knew yX11_knew, Cond.code yX11_knew cX11_knew 5 (some .int), Cond.methodLink RX11 213 yX11_isThing, Cond.static yX11_isThing, Cond.code yX11_isThing cX11_isThing 1 (some .boolean), Cond.methodLink RX11 216 yX11_isWay, Cond.static yX11_isWay, Cond.code yX11_isWay cX11_isWay 1 (some .boolean), Cond.methodLink RX11 219 yX11_knownFrom, Cond.instanceMethod yX11_knownFrom, Cond.code yX11_knownFrom cX11_knownFrom 5 (some .int), Cond.methodLink RX11 250 yX7_toldHour, Cond.instanceMethod yX7_toldHour]
set_option maxRecDepth 100000 in
theorem gBW29 : GoodIn lw_tbl BW29 := goodIn_up tL_3 (goodIn_pk (big := tables_1_3) _ [194, 0, 0, 0, 0, 0, 0, 0, 0, 0, 0, 0, 0, 0, 0, 0, 1, 0, 0, 0] (by exact Eq.refl _) (by decide +kernel))
def BW30 : List Cond := [Cond.selects RX7 yX7_toldHour yX7_toldHour, Cond.code yX7_toldHour cX7_toldHour 6 (some .int), Cond.constant RX7 100 (1000000), Cond.methodLink RX7 101 yX7_isInHand, Cond.methodLink RX7 104 yX7_handHour, Cond.methodLink RX7 108 Lib.Math.min.name, Cond.methodLink RX11 243 yX6_settle, Cond.instanceMethod yX6_settle, Cond.selects RX6 yX6_settle yX6_settle, Cond.code yX6_settle cX6_settle 5 none, Cond.methodLink RX6 74 yX6_consider, Cond.instanceMethod yX6_consider, Cond.selects RX6 yX6_consider yX6_consider, Cond.code yX6_consider cX6_consider 5 none, Cond.methodLink RX6 36 yX0_ruling, Cond.instanceMethod yX0_ruling, Cond.selects RX0 yX0_ruling yX0_ruling, Cond.code yX0_ruling cX0_ruling 4 (some .int), Cond.methodLink RX6 46 yX8_at, Cond.methodLink RX6 55 yX0_countTo]
set_option maxRecDepth 100000 in
theorem gBW30 : GoodIn lw_tbl BW30 := goodIn_up tL_3 (goodIn_pk (big := tables_1_3) _ [215, 0, 0, 0, 0, 0, 0, 0, 0, 0, 0, 0, 0, 0, 0, 0, 0, 0, 0, 0] (by exact Eq.refl _) (by decide +kernel))
def BW31 : List Cond := [Cond.methodLink RX6 58 yX0_countBy, Cond.methodLink RX6 61 yX6_holds, Cond.instanceMethod yX6_holds, Cond.code yX6_holds cX6_holds 8 (some .boolean)]
set_option maxRecDepth 100000 in
theorem gBW31 : GoodIn lw_tbl BW31 := goodIn_up tL_3 (goodIn_pk (big := tables_1_3) _ [235, 0, 1, 0] (by exact Eq.refl _) (by decide +kernel))
def BW32 : List Cond := [Cond.methodLink RX6 71 yX6_isSo, Cond.instanceMethod yX6_isSo, Cond.code yX6_isSo cX6_isSo 5 (some .boolean), Cond.methodLink RX6 78 yX7_toldHour, Cond.methodLink RX6 84 yX6_tellEarlier, Cond.instanceMethod yX6_tellEarlier, Cond.code yX6_tellEarlier cX6_tellEarlier 4 (some .boolean), Cond.methodLink RX6 88 yX6_thingOf, Cond.instanceMethod yX6_thingOf, Cond.code yX6_thingOf cX6_thingOf 3 (some .int), Cond.methodLink RX6 95 yX6_hourBy, Cond.instanceMethod yX6_hourBy, Cond.code yX6_hourBy cX6_hourBy 4 (some .int), Cond.methodLink RX6 102 yX6_shouldHour, Cond.instanceMethod yX6_shouldHour, Cond.selects RX6 yX6_shouldHour yX6_shouldHour, Cond.code yX6_shouldHour cX6_shouldHour 2 (some .int), Cond.constant RX6 105 (1000000), Cond.methodLink RX11 247 yX6_shouldHour, Cond.constant RX11 223 (1000000)]
set_option maxRecDepth 100000 in
theorem gBW32 : GoodIn lw_tbl BW32 := goodIn_up tL_4 (goodIn_pk (big := tables_1_4) _ [0, 1, 0, 0, 0, 1, 0, 0, 1, 0, 2, 1, 0, 0, 0, 0, 0, 0, 0, 0] (by exact Eq.refl _) (by decide +kernel))
def BW33 : List Cond := [Cond.methodLink RL 85 yX11_feed, Cond.instanceMethod yX11_feed, Cond.selects RX11 yX11_feed yX11_feed, Cond.code yX11_feed cX11_feed 5 (some .int), Cond.methodLink RX11 224 yX10_count, Cond.instanceMethod yX10_count, Cond.selects RX10 yX10_count yX10_count, Cond.code yX10_count cX10_count 1 (some .int), Cond.methodLink RX11 225 yX10_append, Cond.instanceMethod yX10_append, Cond.selects RX10 yX10_append yX10_append, Cond.code yX10_append cX10_append 2 none, Cond.methodLink RL 90 yX11_read, Cond.instanceMethod yX11_read, Cond.selects RX11 yX11_read yX11_read, Cond.code yX11_read cX11_read 2 (some .int), Cond.methodLink RX11 227 yX10_scan, Cond.instanceMethod yX10_scan, Cond.selects RX10 yX10_scan yX10_scan, Cond.code yX10_scan cX10_scan 2 (some .int)]
set_option maxRecDepth 100000 in
theorem gBW33 : GoodIn lw_tbl BW33 := goodIn_up tL_4 (goodIn_pk (big := tables_1_4) _ [26, 0, 0, 0, 0, 0, 0, 0, 0, 0, 0, 0, 0, 0, 0, 0, 0, 0, 0, 0] (by exact Eq.refl _) (by decide +kernel))
def BW34 : List Cond := [Cond.methodLink RX10 43 yX8_cut, Cond.instanceMethod yX8_cut, Cond.selects RX8 yX8_cut yX8_cut, Cond.code yX8_cut cX8_cut 2 none, Cond.methodLink RX10 47 yX10_advance, Cond.instanceMethod yX10_advance, Cond.code yX10_advance cX10_advance 1 none, Cond.methodLink RX10 78 yX10_byteAt, Cond.instanceMethod yX10_byteAt, Cond.code yX10_byteAt cX10_byteAt 2 (some .int), Cond.methodLink RX10 82 yX10_isLetter, Cond.static yX10_isLetter, Cond.code yX10_isLetter cX10_isLetter 1 (some .boolean), Cond.methodLink RX10 86 yX10_isDigit, Cond.static yX10_isDigit, Cond.code yX10_isDigit cX10_isDigit 1 (some .boolean), Cond.methodLink RX10 50 yX10_takesLine, Cond.instanceMethod yX10_takesLine, Cond.code yX10_takesLine cX10_takesLine 3 (some .boolean), Cond.methodLink RX10 59 yX8_append]
set_option maxRecDepth 100000 in
theorem gBW34 : GoodIn lw_tbl BW34 := goodIn_up tL_4 (goodIn_pk (big := tables_1_4) _ [46, 0, 0, 0, 0, 1, 0, 0, 1, 0, 0, 0, 0, 1, 0, 0, 0, 1, 0, 0] (by exact Eq.refl _) (by decide +kernel))
def BW35 : List Cond := [Cond.methodLink RX10 106 yX10_refuse, Cond.instanceMethod yX10_refuse, Cond.code yX10_refuse cX10_refuse 1 (some .boolean), Cond.methodLink RX10 66 yX8_set, Cond.methodLink RX10 71 yX8_count, Cond.methodLink RX10 112 yX10_sortHere, Cond.instanceMethod yX10_sortHere, Cond.code yX10_sortHere cX10_sortHere 1 (some .int), Cond.methodLink RX10 102 yX10_isName, Cond.instanceMethod yX10_isName, Cond.code yX10_isName cX10_isName 3 (some .boolean), Cond.methodLink RX10 93 yJ0_length_8abf5, Cond.instanceMethod yJ0_length_8abf5, Cond.selects RJ0 yJ0_length_8abf5 yJ0_length_8abf5, Cond.code yJ0_length_8abf5 cJ0_length_8abf5 1 (some .int), Cond.methodLink RJ0 335 yJ0_coder_7d493, Cond.instanceMethod yJ0_coder_7d493, Cond.selects RJ0 yJ0_coder_7d493 yJ0_coder_7d493, Cond.code yJ0_coder_7d493 cJ0_coder_7d493 1 (some .byte), Cond.fieldLink RJ0 38 "java/lang/String" "COMPACT_STRINGS" "Z"]
set_option maxRecDepth 100000 in
theorem gBW35 : GoodIn lw_tbl BW35 := goodIn_up tL_4 (goodIn_pk (big := tables_1_4) _ [70, 1, 0, 0, 0, 0, 1, 0, 1, 1, 0, 0, 0, 0, 0, 0, 0, 0, 0, 0] (by exact Eq.refl _) (by decide +kernel))
def BW36 : List Cond := [Cond.methodLink RX10 98 yJ0_charAt_5068e, Cond.instanceMethod yJ0_charAt_5068e, Cond.selects RJ0 yJ0_charAt_5068e yJ0_charAt_5068e, Cond.code yJ0_charAt_5068e cJ0_charAt_5068e 2 (some .char), Cond.methodLink RJ0 492 yJ0_isLatin1_aae02, Cond.instanceMethod yJ0_isLatin1_aae02, Cond.selects RJ0 yJ0_isLatin1_aae02 yJ0_isLatin1_aae02, Cond.code yJ0_isLatin1_aae02 cJ0_isLatin1_aae02 1 (some .boolean), Cond.methodLink RJ0 495 yJ1_charAt_3b067, Cond.static yJ1_charAt_3b067, Cond.code yJ1_charAt_3b067 cJ1_charAt_3b067 2 (some .char), Cond.methodLink RJ1 9 yJ0_checkIndex_df160, Cond.static yJ0_checkIndex_df160, Cond.code yJ0_checkIndex_df160 cJ0_checkIndex_df160 2 none, Cond.fieldLink RJ0 1053 "jdk/internal/util/Preconditions" "SIOOBE_FORMATTER" "Ljava/util/function/BiFunction;", Cond.methodLink RJ0 1059 yJ3_checkIndex_8e157, Cond.static yJ3_checkIndex_8e157, Cond.code yJ3_checkIndex_8e157 cJ3_checkIndex_8e157 3 (some .int), Cond.methodLink RJ0 498 yJ2_charAt_3b067, Cond.static yJ2_charAt_3b067]
set_option maxRecDepth 100000 in
theorem gBW36 : GoodIn lw_tbl BW36 := goodIn_up tL_4 (goodIn_pk (big := tables_1_4) _ [95, 0, 0, 0, 0, 0, 0, 0, 0, 0, 0, 0, 0, 0, 0, 1, 0, 0, 0, 0] (by exact Eq.refl _) (by decide +kernel))
def BW37 : List Cond := [Cond.code yJ2_charAt_3b067 cJ2_charAt_3b067 2 (some .char), Cond.methodLink RJ2 67 yJ2_checkIndex_2214a, Cond.static yJ2_checkIndex_2214a, Cond.code yJ2_checkIndex_2214a cJ2_checkIndex_2214a 2 none, Cond.methodLink RJ2 48 yJ2_length_9d52b, Cond.static yJ2_length_9d52b, Cond.code yJ2_length_9d52b cJ2_length_9d52b 1 (some .int), Cond.methodLink RJ2 414 yJ0_checkIndex_df160, Cond.methodLink RJ2 71 yJ2_getChar_3b067, Cond.static yJ2_getChar_3b067, Cond.code yJ2_getChar_3b067 cJ2_getChar_3b067 2 (some .char), Cond.fieldLink RJ2 44 "java/lang/StringUTF16" "$assertionsDisabled" "Z", Cond.fieldLink RJ2 59 "java/lang/StringUTF16" "HI_BYTE_SHIFT" "I", Cond.fieldLink RJ2 63 "java/lang/StringUTF16" "LO_BYTE_SHIFT" "I", Cond.methodLink RX10 115 yX10_takesHead, Cond.instanceMethod yX10_takesHead, Cond.code yX10_takesHead cX10_takesHead 3 (some .boolean), Cond.methodLink RX10 135 yX10_takesNumber, Cond.instanceMethod yX10_takesNumber, Cond.code yX10_takesNumber cX10_takesNumber 5 (some .boolean)]
set_option maxRecDepth 100000 in
theorem gBW37 : GoodIn lw_tbl BW37 := goodIn_up tL_4 (goodIn_pk (big := tables_1_4) _ [116, 0, 0, 0, 0, 0, 0, 0, 0, 0, 0, 0, 1, 1, 4, 1, 0, 0, 1, 0] (by exact Eq.refl _) (by decide +kernel))
def BW38 : List Cond := [Cond.methodLink RX10 109 yX10_numberHere, Cond.instanceMethod yX10_numberHere, Cond.code yX10_numberHere cX10_numberHere 3 (some .int), Cond.methodLink RX10 140 yX10_takesName, Cond.instanceMethod yX10_takesName, Cond.code yX10_takesName cX10_takesName 2 (some .boolean), Cond.methodLink RX10 121 yX10_takesCond, Cond.instanceMethod yX10_takesCond, Cond.code yX10_takesCond cX10_takesCond 3 (some .boolean), Cond.methodLink RX10 147 yX10_takesAll, Cond.instanceMethod yX10_takesAll, Cond.code yX10_takesAll cX10_takesAll 3 (some .boolean), Cond.methodLink RX10 155 yX10_takesOne, Cond.instanceMethod yX10_takesOne, Cond.code yX10_takesOne cX10_takesOne 4 (some .boolean), Cond.methodLink RX10 162 yX10_takesComparison, Cond.instanceMethod yX10_takesComparison, Cond.code yX10_takesComparison cX10_takesComparison 4 (some .boolean), Cond.methodLink RX10 165 yX10_factHere, Cond.instanceMethod yX10_factHere]
set_option maxRecDepth 100000 in
theorem gBW38 : GoodIn lw_tbl BW38 := goodIn_up tL_4 (goodIn_pk (big := tables_1_4) _ [144, 1, 0, 1, 1, 0, 3, 1, 0, 0, 1, 0, 0, 1, 0, 1, 1, 0, 0, 1] (by exact Eq.refl _) (by decide +kernel))
def BW39 : List Cond := [Cond.code yX10_factHere cX10_factHere 1 (some .int), Cond.methodLink RX10 168 yX10_signHere, Cond.instanceMethod yX10_signHere, Cond.code yX10_signHere cX10_signHere 1 (some .int), Cond.methodLink RX10 152 yX10_addStep, Cond.instanceMethod yX10_addStep, Cond.code yX10_addStep cX10_addStep 2 none, Cond.methodLink RX10 124 yX10_takesByte, Cond.instanceMethod yX10_takesByte, Cond.code yX10_takesByte cX10_takesByte 2 (some .boolean), Cond.methodLink RX10 74 yX8_at, Cond.methodLink RX11 230 yX10_clear, Cond.instanceMethod yX10_clear, Cond.selects RX10 yX10_clear yX10_clear, Cond.code yX10_clear cX10_clear 1 none, Cond.methodLink RX11 236 yX10_store, Cond.instanceMethod yX10_store, Cond.selects RX10 yX10_store yX10_store, Cond.code yX10_store cX10_store 7 (some .int), Cond.methodLink RL 95 yX11_line]
set_option maxRecDepth 100000 in
theorem gBW39 : GoodIn lw_tbl BW39 := goodIn_up tL_4 (goodIn_pk (big := tables_1_4) _ [176, 5, 1, 0, 0, 1, 0, 0, 1, 0, 2, 0, 0, 0, 0, 0, 0, 0, 0, 1] (by exact Eq.refl _) (by decide +kernel))
def BW40 : List Cond := [Cond.instanceMethod yX11_line, Cond.selects RX11 yX11_line yX11_line, Cond.code yX11_line cX11_line 5 (some .int), Cond.methodLink RL 99 yX11_why, Cond.instanceMethod yX11_why, Cond.selects RX11 yX11_why yX11_why, Cond.code yX11_why cX11_why 5 (some .int), Cond.methodLink RX11 253 yX6_firstLineFor, Cond.instanceMethod yX6_firstLineFor, Cond.selects RX6 yX6_firstLineFor yX6_firstLineFor, Cond.code yX6_firstLineFor cX6_firstLineFor 3 (some .int), Cond.methodLink RL 103 yX11_saying, Cond.instanceMethod yX11_saying, Cond.selects RX11 yX11_saying yX11_saying, Cond.code yX11_saying cX11_saying 8 (some .int), Cond.methodLink RL 108 yX11_quarrel, Cond.instanceMethod yX11_quarrel, Cond.selects RX11 yX11_quarrel yX11_quarrel, Cond.code yX11_quarrel cX11_quarrel 5 (some .int), Cond.methodLink RX11 259 yX9_weigh]
set_option maxRecDepth 100000 in
theorem gBW40 : GoodIn lw_tbl BW40 := goodIn_up tL_4 (goodIn_pk (big := tables_1_4) _ [207, 0, 0, 0, 0, 0, 0, 0, 0, 0, 0, 0, 0, 0, 0, 0, 0, 0, 0, 0] (by exact Eq.refl _) (by decide +kernel))
def BW41 : List Cond := [Cond.instanceMethod yX9_weigh, Cond.selects RX9 yX9_weigh yX9_weigh, Cond.code yX9_weigh cX9_weigh 7 none, Cond.methodLink RX9 57 yX9_bound, Cond.instanceMethod yX9_bound, Cond.code yX9_bound cX9_bound 4 none, Cond.methodLink RX9 32 yX7_isInHand, Cond.methodLink RX9 38 yX7_handHour, Cond.methodLink RX9 61 yX9_weightAgainst, Cond.instanceMethod yX9_weightAgainst, Cond.code yX9_weightAgainst cX9_weightAgainst 9 (some .int)]
set_option maxRecDepth 100000 in
theorem gBW41 : GoodIn lw_tbl BW41 := goodIn_up tL_4 (goodIn_pk (big := tables_1_4) _ [227, 0, 0, 0, 1, 0, 0, 0, 0, 1, 0] (by exact Eq.refl _) (by decide +kernel))
def BW42 : List Cond := [Cond.methodLink RX9 65 yX8_count, Cond.methodLink RX9 73 yX9_isOn, Cond.instanceMethod yX9_isOn, Cond.code yX9_isOn cX9_isOn 5 (some .boolean), Cond.methodLink RX9 48 yX8_at, Cond.methodLink RX9 54 yX0_counts, Cond.methodLink RX11 262 yX9_leastWeight, Cond.instanceMethod yX9_leastWeight, Cond.selects RX9 yX9_leastWeight yX9_leastWeight, Cond.code yX9_leastWeight cX9_leastWeight 1 (some .int), Cond.methodLink RX11 265 yX9_believedHour, Cond.instanceMethod yX9_believedHour, Cond.selects RX9 yX9_believedHour yX9_believedHour, Cond.code yX9_believedHour cX9_believedHour 1 (some .int), Cond.methodLink RL 112 yX11_impossible, Cond.instanceMethod yX11_impossible, Cond.selects RX11 yX11_impossible yX11_impossible, Cond.code yX11_impossible cX11_impossible 2 (some .int), Cond.methodLink RX11 268 yX9_impossibleOnes, Cond.instanceMethod yX9_impossibleOnes]
set_option maxRecDepth 100000 in
theorem gBW42 : GoodIn lw_tbl BW42 := goodIn_up tL_5 (goodIn_pk (big := tables_1_5) _ [0, 0, 1, 0, 0, 0, 1, 0, 0, 0, 0, 0, 0, 0, 0, 0, 0, 0, 0, 0] (by exact Eq.refl _) (by decide +kernel))
def BW43 : List Cond := [Cond.selects RX9 yX9_impossibleOnes yX9_impossibleOnes, Cond.code yX9_impossibleOnes cX9_impossibleOnes 6 (some .int), Cond.methodLink RL 116 yX11_finding, Cond.instanceMethod yX11_finding, Cond.selects RX11 yX11_finding yX11_finding, Cond.code yX11_finding cX11_finding 6 (some .int), Cond.methodLink RL 120 yX11_findingOf, Cond.instanceMethod yX11_findingOf, Cond.selects RX11 yX11_findingOf yX11_findingOf, Cond.code yX11_findingOf cX11_findingOf 4 (some .int), Cond.methodLink RX11 274 yX11_stands, Cond.instanceMethod yX11_stands, Cond.code yX11_stands cX11_stands 6 (some .boolean), Cond.methodLink RX11 277 yX11_leansOn, Cond.instanceMethod yX11_leansOn, Cond.code yX11_leansOn cX11_leansOn 5 (some .int), Cond.methodLink RX11 280 yX11_isBarred, Cond.instanceMethod yX11_isBarred, Cond.code yX11_isBarred cX11_isBarred 7 (some .boolean), Cond.methodLink RX11 364 yX6_consider]
set_option maxRecDepth 100000 in
theorem gBW43 : GoodIn lw_tbl BW43 := goodIn_up tL_5 (goodIn_pk (big := tables_1_5) _ [22, 0, 0, 0, 0, 0, 0, 0, 0, 0, 0, 1, 0, 0, 1, 0, 0, 1, 0, 0] (by exact Eq.refl _) (by decide +kernel))
def BW44 : List Cond := [Cond.methodLink RX11 367 yX6_leastHeard, Cond.instanceMethod yX6_leastHeard, Cond.selects RX6 yX6_leastHeard yX6_leastHeard, Cond.code yX6_leastHeard cX6_leastHeard 3 (some .int), Cond.methodLink RX11 370 yX0_viewedDay, Cond.methodLink RX11 373 yX6_warnDays, Cond.instanceMethod yX6_warnDays, Cond.selects RX6 yX6_warnDays yX6_warnDays, Cond.code yX6_warnDays cX6_warnDays 3 (some .int), Cond.methodLink RX11 376 yX0_isWarned, Cond.instanceMethod yX0_isWarned, Cond.selects RX0 yX0_isWarned yX0_isWarned, Cond.code yX0_isWarned cX0_isWarned 5 (some .boolean), Cond.methodLink RL 124 yX11_warn, Cond.instanceMethod yX11_warn, Cond.selects RX11 yX11_warn yX11_warn, Cond.code yX11_warn cX11_warn 4 (some .int), Cond.methodLink RL 128 yX11_question, Cond.instanceMethod yX11_question, Cond.selects RX11 yX11_question yX11_question]
set_option maxRecDepth 100000 in
theorem gBW44 : GoodIn lw_tbl BW44 := goodIn_up tL_5 (goodIn_pk (big := tables_1_5) _ [45, 0, 0, 0, 0, 0, 0, 0, 0, 0, 0, 0, 0, 0, 0, 0, 0, 0, 0, 0] (by exact Eq.refl _) (by decide +kernel))
def BW45 : List Cond := [Cond.code yX11_question cX11_question 4 (some .int), Cond.methodLink RL 132 yX11_round, Cond.instanceMethod yX11_round, Cond.selects RX11 yX11_round yX11_round, Cond.code yX11_round cX11_round 2 (some .int), Cond.methodLink RX11 289 yX5_order, Cond.instanceMethod yX5_order, Cond.selects RX5 yX5_order yX5_order, Cond.code yX5_order cX5_order 3 (some .int), Cond.methodLink RX5 51 yX5_nextBehind, Cond.instanceMethod yX5_nextBehind, Cond.code yX5_nextBehind cX5_nextBehind 6 (some .int), Cond.constant RX5 77 (1000000), Cond.methodLink RX5 55 yX5_costBehind, Cond.instanceMethod yX5_costBehind, Cond.code yX5_costBehind cX5_costBehind 7 (some .int), Cond.methodLink RX5 61 yX5_lengthOf, Cond.instanceMethod yX5_lengthOf, Cond.code yX5_lengthOf cX5_lengthOf 2 (some .int), Cond.methodLink RX5 44 yX8_at]
set_option maxRecDepth 100000 in
theorem gBW45 : GoodIn lw_tbl BW45 := goodIn_up tL_5 (goodIn_pk (big := tables_1_5) _ [65, 0, 0, 0, 0, 0, 0, 0, 0, 0, 1, 0, 0, 1, 1, 0, 0, 1, 0, 0] (by exact Eq.refl _) (by decide +kernel))
def BW46 : List Cond := [Cond.methodLink RX5 68 yJ6_bitCount_0f7a4, Cond.methodLink RX5 58 yX5_tellRows, Cond.instanceMethod yX5_tellRows, Cond.code yX5_tellRows cX5_tellRows 6 none, Cond.methodLink RX5 78 yX8_cut, Cond.methodLink RX5 82 yX8_append, Cond.methodLink RX5 86 yX8_set, Cond.methodLink RL 136 yX11_row, Cond.instanceMethod yX11_row, Cond.selects RX11 yX11_row yX11_row, Cond.code yX11_row cX11_row 3 (some .int), Cond.methodLink RL 140 yX11_alterRow, Cond.instanceMethod yX11_alterRow, Cond.selects RX11 yX11_alterRow yX11_alterRow, Cond.code yX11_alterRow cX11_alterRow 5 (some .int), Cond.methodLink RL 144 yX11_dropRow, Cond.instanceMethod yX11_dropRow, Cond.selects RX11 yX11_dropRow yX11_dropRow, Cond.code yX11_dropRow cX11_dropRow 1 (some .int), Cond.methodLink RX11 295 yX8_cut]
set_option maxRecDepth 100000 in
theorem gBW46 : GoodIn lw_tbl BW46 := goodIn_up tL_5 (goodIn_pk (big := tables_1_5) _ [89, 1, 1, 0, 0, 0, 0, 0, 0, 0, 0, 0, 0, 0, 0, 0, 0, 0, 0, 0] (by exact Eq.refl _) (by decide +kernel))
def BW47 : List Cond := [Cond.methodLink RL 148 yX11_judge, Cond.instanceMethod yX11_judge, Cond.selects RX11 yX11_judge yX11_judge, Cond.code yX11_judge cX11_judge 1 (some .int), Cond.methodLink RX11 298 yX5_isTold, Cond.instanceMethod yX5_isTold, Cond.selects RX5 yX5_isTold yX5_isTold, Cond.code yX5_isTold cX5_isTold 1 (some .boolean), Cond.methodLink RX11 301 yX5_firstWrong, Cond.instanceMethod yX5_firstWrong, Cond.selects RX5 yX5_firstWrong yX5_firstWrong, Cond.code yX5_firstWrong cX5_firstWrong 5 (some .int), Cond.methodLink RX5 90 yX8_count, Cond.methodLink RL 152 yX11_sheet, Cond.instanceMethod yX11_sheet, Cond.selects RX11 yX11_sheet yX11_sheet, Cond.code yX11_sheet cX11_sheet 4 (some .int), Cond.methodLink RX11 304 yX4_clear, Cond.instanceMethod yX4_clear, Cond.selects RX4 yX4_clear yX4_clear]
set_option maxRecDepth 100000 in
theorem gBW47 : GoodIn lw_tbl BW47 := goodIn_up tL_5 (goodIn_pk (big := tables_1_5) _ [111, 0, 0, 0, 0, 0, 0, 0, 0, 0, 0, 0, 0, 0, 0, 0, 0, 0, 0, 0] (by exact Eq.refl _) (by decide +kernel))
def BW48 : List Cond := [Cond.code yX4_clear cX4_clear 2 none, Cond.methodLink RX11 306 yX4_lay, Cond.instanceMethod yX4_lay, Cond.selects RX4 yX4_lay yX4_lay, Cond.code yX4_lay cX4_lay 5 none, Cond.methodLink RL 156 yX11_put, Cond.instanceMethod yX11_put, Cond.selects RX11 yX11_put yX11_put, Cond.code yX11_put cX11_put 4 (some .int), Cond.methodLink RX11 309 yX4_sort, Cond.methodLink RX11 312 yX4_write, Cond.instanceMethod yX4_write, Cond.selects RX4 yX4_write yX4_write, Cond.code yX4_write cX4_write 5 none, Cond.methodLink RL 160 yX11_item, Cond.instanceMethod yX11_item, Cond.selects RX11 yX11_item yX11_item, Cond.code yX11_item cX11_item 5 (some .int), Cond.methodLink RX11 315 yX11_isSort, Cond.static yX11_isSort]
set_option maxRecDepth 100000 in
theorem gBW48 : GoodIn lw_tbl BW48 := goodIn_up tL_5 (goodIn_pk (big := tables_1_5) _ [131, 0, 0, 0, 0, 0, 0, 0, 0, 0, 0, 0, 0, 0, 0, 0, 0, 0, 0, 0] (by exact Eq.refl _) (by decide +kernel))
def BW49 : List Cond := [Cond.code yX11_isSort cX11_isSort 1 (some .boolean), Cond.methodLink RL 164 yX11_shelf, Cond.instanceMethod yX11_shelf, Cond.selects RX11 yX11_shelf yX11_shelf, Cond.code yX11_shelf cX11_shelf 4 (some .int), Cond.methodLink RX11 318 yX11_isShelf, Cond.static yX11_isShelf, Cond.code yX11_isShelf cX11_isShelf 1 (some .boolean), Cond.methodLink RX11 321 yX4_holdRow, Cond.instanceMethod yX4_holdRow, Cond.selects RX4 yX4_holdRow yX4_holdRow, Cond.code yX4_holdRow cX4_holdRow 3 none, Cond.methodLink RX4 44 yX4_size, Cond.methodLink RX11 324 yX4_hold, Cond.instanceMethod yX4_hold, Cond.selects RX4 yX4_hold yX4_hold, Cond.code yX4_hold cX4_hold 4 none, Cond.methodLink RL 168 yX11_taken, Cond.instanceMethod yX11_taken, Cond.selects RX11 yX11_taken yX11_taken]
set_option maxRecDepth 100000 in
theorem gBW49 : GoodIn lw_tbl BW49 := goodIn_up tL_5 (goodIn_pk (big := tables_1_5) _ [151, 0, 0, 0, 0, 0, 0, 0, 0, 0, 0, 0, 1, 0, 0, 0, 0, 0, 0, 0] (by exact Eq.refl _) (by decide +kernel))
def BW50 : List Cond := [Cond.code yX11_taken cX11_taken 4 (some .int), Cond.methodLink RX11 327 yX4_held, Cond.instanceMethod yX4_held, Cond.selects RX4 yX4_held yX4_held, Cond.code yX4_held cX4_held 4 (some .int), Cond.methodLink RX4 53 yX8_has, Cond.methodLink RX11 331 yX4_heldSort, Cond.instanceMethod yX4_heldSort, Cond.selects RX4 yX4_heldSort yX4_heldSort, Cond.code yX4_heldSort cX4_heldSort 2 (some .int), Cond.methodLink RX11 334 yX4_heldNumber, Cond.instanceMethod yX4_heldNumber, Cond.selects RX4 yX4_heldNumber yX4_heldNumber, Cond.code yX4_heldNumber cX4_heldNumber 2 (some .int), Cond.methodLink RX11 337 yX2_grasp, Cond.instanceMethod yX2_grasp, Cond.selects RX2 yX2_grasp yX2_grasp, Cond.code yX2_grasp cX2_grasp 3 none, Cond.methodLink RX2 39 yX2_kindOfPaper, Cond.instanceMethod yX2_kindOfPaper]
set_option maxRecDepth 100000 in
theorem gBW50 : GoodIn lw_tbl BW50 := goodIn_up tL_5 (goodIn_pk (big := tables_1_5) _ [172, 0, 0, 0, 0, 0, 0, 0, 0, 0, 0, 0, 0, 0, 0, 0, 0, 0, 0, 1] (by exact Eq.refl _) (by decide +kernel))
def BW51 : List Cond := [Cond.code yX2_kindOfPaper cX2_kindOfPaper 3 (some .int), Cond.methodLink RX2 49 yX8_at, Cond.methodLink RX11 340 yX2_isUnder, Cond.instanceMethod yX2_isUnder, Cond.selects RX2 yX2_isUnder yX2_isUnder, Cond.code yX2_isUnder cX2_isUnder 4 (some .boolean), Cond.fieldLink RX2 65 "InquiryBench$Deale\x72" "ABOVE" "[I", Cond.methodLink RL 172 yX11_deal, Cond.instanceMethod yX11_deal, Cond.selects RX11 yX11_deal yX11_deal, Cond.code yX11_deal cX11_deal 5 (some .int), Cond.methodLink RX11 343 yX2_clearTrace, Cond.instanceMethod yX2_clearTrace, Cond.selects RX2 yX2_clearTrace yX2_clearTrace, Cond.code yX2_clearTrace cX2_clearTrace 1 none, Cond.methodLink RX11 346 yX2_answer, Cond.instanceMethod yX2_answer, Cond.selects RX2 yX2_answer yX2_answer, Cond.code yX2_answer cX2_answer 4 (some .int), Cond.methodLink RX2 68 yX2_dealAs]
set_option maxRecDepth 100000 in
theorem gBW51 : GoodIn lw_tbl BW51 := goodIn_up tL_5 (goodIn_pk (big := tables_1_5) _ [193, 0, 0, 0, 0, 0, 1, 1, 0, 0, 0, 0, 0, 0, 0, 0, 0, 0, 0, 0] (by exact Eq.refl _) (by decide +kernel))
def BW52 : List Cond := [Cond.instanceMethod yX2_dealAs, Cond.code yX2_dealAs cX2_dealAs 8 (some .int), Cond.fieldLink RX2 72 "InquiryBench$Deale\x72" "BODIES" "[I", Cond.methodLink RX2 75 yX2_run, Cond.instanceMethod yX2_run, Cond.code yX2_run cX2_run 7 (some .int), Cond.methodLink RX2 78 yX2_quotient, Cond.instanceMethod yX2_quotient, Cond.code yX2_quotient cX2_quotient 3 (some .int), Cond.methodLink RX2 81 yX2_upper, Cond.instanceMethod yX2_upper, Cond.code yX2_upper cX2_upper 5 (some .int), Cond.methodLink RL 176 yX11_trace, Cond.instanceMethod yX11_trace, Cond.selects RX11 yX11_trace yX11_trace, Cond.code yX11_trace cX11_trace 2 (some .int), Cond.methodLink RX11 349 yX2_ran, Cond.instanceMethod yX2_ran, Cond.selects RX2 yX2_ran yX2_ran, Cond.code yX2_ran cX2_ran 1 (some .int)]
set_option maxRecDepth 100000 in
theorem gBW52 : GoodIn lw_tbl BW52 := goodIn_up tL_5 (goodIn_pk (big := tables_1_5) _ [216, 0, 0, 1, 1, 0, 0, 1, 0, 0, 1, 0, 0, 0, 0, 0, 0, 0, 0, 0] (by exact Eq.refl _) (by decide +kernel))
def BW53 : List Cond := [Cond.methodLink RX11 352 yX2_traced, Cond.instanceMethod yX2_traced, Cond.selects RX2 yX2_traced yX2_traced, Cond.code yX2_traced cX2_traced 2 (some .int), Cond.methodLink RL 180 yX11_many, Cond.instanceMethod yX11_many, Cond.selects RX11 yX11_many yX11_many, Cond.code yX11_many cX11_many 2 (some .int), Cond.methodLink RX11 355 yX0_countSayings, Cond.instanceMethod yX0_countSayings, Cond.selects RX0 yX0_countSayings yX0_countSayings, Cond.code yX0_countSayings cX0_countSayings 4 (some .int), Cond.methodLink RX11 358 yX11_countStanding, Cond.instanceMethod yX11_countStanding, Cond.code yX11_countStanding cX11_countStanding 4 (some .int), Cond.methodLink RL 184 yX11_keep, Cond.instanceMethod yX11_keep, Cond.selects RX11 yX11_keep yX11_keep, Cond.code yX11_keep cX11_keep 1 (some .int), Cond.methodLink RX11 361 yX0_copy]
set_option maxRecDepth 100000 in
theorem gBW53 : GoodIn lw_tbl BW53 := goodIn_up tL_6 (goodIn_pk (big := tables_1_6) _ [0, 0, 0, 0, 0, 0, 0, 0, 0, 0, 0, 0, 0, 1, 0, 0, 0, 0, 0, 0] (by exact Eq.refl _) (by decide +kernel))
def BW54 : List Cond := [Cond.instanceMethod yX0_copy, Cond.selects RX0 yX0_copy yX0_copy, Cond.code yX0_copy cX0_copy 2 none, Cond.methodLink RX0 60 yX8_copy, Cond.instanceMethod yX8_copy, Cond.selects RX8 yX8_copy yX8_copy, Cond.code yX8_copy cX8_copy 3 none, Cond.methodLink RX8 34 arraycopyName, Cond.methodLink RL 188 yX11_again, Cond.instanceMethod yX11_again, Cond.selects RX11 yX11_again yX11_again, Cond.code yX11_again cX11_again 1 (some .int), Cond.classLink RL 10 RX12, Cond.instantiable RX12 41, Cond.methodLink RL 12 yX12_init, Cond.instanceMethod yX12_init, Cond.code yX12_init cX12_init 2 none, Cond.methodLink RX12 1 objectInit, Cond.classLink RX12 38 RJ0, Cond.fieldLink RX12 9 "InquiryBenchModel" "now" "[I"]
set_option maxRecDepth 100000 in
theorem gBW54 : GoodIn lw_tbl BW54 := goodIn_up tL_6 (goodIn_pk (big := tables_1_6) _ [21, 0, 0, 0, 0, 0, 0, 0, 0, 0, 0, 0, 0, 0, 0, 0, 0, 0, 0, 6] (by exact Eq.refl _) (by decide +kernel))
def BW55 : List Cond := [Cond.fieldLink RX12 13 "InquiryBenchModel" "kept" "[I", Cond.fieldLink RX12 383 "InquiryBenchModel" "hasKept" "Z", Cond.fieldLink RX12 16 "InquiryBenchModel" "tape" "[I", Cond.fieldLink RX12 206 "InquiryBenchModel" "taped" "I", Cond.fieldLink RX12 19 "InquiryBenchModel" "rows" "[I", Cond.fieldLink RX12 327 "InquiryBenchModel" "rowMany" "I", Cond.fieldLink RX12 22 "InquiryBenchModel" "roundOf" "I", Cond.fieldLink RX12 330 "InquiryBenchModel" "roundFrom" "I", Cond.fieldLink RX12 96 "InquiryBenchModel" "outs" "I", Cond.fieldLink RX12 26 "InquiryBenchModel" "more" "[I", Cond.fieldLink RX12 161 "InquiryBenchModel" "fromHou\x72" "I", Cond.fieldLink RX12 164 "InquiryBenchModel" "toHou\x72" "I", Cond.fieldLink RX12 29 "InquiryBenchModel" "should" "[I", Cond.fieldLink RX12 214 "InquiryBenchModel" "from" "I", Cond.fieldLink RX12 211 "InquiryBenchModel" "to" "I", Cond.fieldLink RX12 217 "InquiryBenchModel" "sort" "I", Cond.fieldLink RX12 222 "InquiryBenchModel" "isFault" "Z", Cond.fieldLink RX12 265 "InquiryBenchModel" "deep" "I", Cond.fieldLink RX12 240 "InquiryBenchModel" "coded" "I", Cond.fieldLink RX12 289 "InquiryBenchModel" "lines" "I"]
set_option maxRecDepth 100000 in
theorem gBW55 : GoodIn lw_tbl BW55 := goodIn_up tL_6 (goodIn_pk (big := tables_1_6) _ [47, 0, 0, 0, 0, 0, 0, 0, 0, 0, 0, 0, 0, 0, 0, 0, 0, 0, 0, 0] (by exact Eq.refl _) (by decide +kernel))
def BW56 : List Cond := [Cond.fieldLink RX12 32 "InquiryBenchModel" "line" "[I", Cond.fieldLink RX12 35 "InquiryBenchModel" "code" "[I", Cond.fieldLink RX12 50 "InquiryBenchModel" "FACTS" "[Ljava/lang/String;", Cond.fieldLink RX12 54 "InquiryBenchModel" "pile" "[I", Cond.fieldLink RX12 57 "InquiryBenchModel" "trial" "[I", Cond.fieldLink RX12 60 "InquiryBenchModel" "best" "[I", Cond.fieldLink RX12 320 "InquiryBenchModel" "bestCost" "I", Cond.fieldLink RX12 63 "InquiryBenchModel" "sorts" "[I", Cond.fieldLink RX12 66 "InquiryBenchModel" "sizes" "[I", Cond.fieldLink RX12 69 "InquiryBenchModel" "items" "[I", Cond.fieldLink RX12 72 "InquiryBenchModel" "shelves" "[I", Cond.fieldLink RX12 75 "InquiryBenchModel" "shelfOf" "[I", Cond.fieldLink RX12 78 "InquiryBenchModel" "shelfSize" "[I", Cond.fieldLink RX12 81 "InquiryBenchModel" "trace" "[I", Cond.fieldLink RX12 351 "InquiryBenchModel" "traced" "I", Cond.fieldLink RX12 354 "InquiryBenchModel" "deale\x72" "I", Cond.fieldLink RX12 378 "InquiryBenchModel" "numbe\x72" "I", Cond.fieldLink RX12 375 "InquiryBenchModel" "whose" "I", Cond.fieldLink RX12 369 "InquiryBenchModel" "size" "I", Cond.fieldLink RX12 380 "InquiryBenchModel" "isParted" "Z"]
set_option maxRecDepth 100000 in
theorem gBW56 : GoodIn lw_tbl BW56 := goodIn_up tL_6 (goodIn_pk (big := tables_1_6) _ [67, 0, 0, 0, 0, 0, 0, 0, 0, 0, 0, 0, 0, 0, 0, 0, 0, 0, 0, 0] (by exact Eq.refl _) (by decide +kernel))
def BW57 : List Cond := [Cond.methodLink RL 17 yX12_days, Cond.instanceMethod yX12_days, Cond.selects RX12 yX12_days yX12_days, Cond.code yX12_days cX12_days 2 (some .int), Cond.methodLink RX12 84 yX12_within, Cond.static yX12_within, Cond.code yX12_within cX12_within 3 (some .boolean), Cond.methodLink RL 22 yX12_view, Cond.instanceMethod yX12_view, Cond.selects RX12 yX12_view yX12_view, Cond.code yX12_view cX12_view 3 (some .int), Cond.methodLink RX12 107 yX12_inView, Cond.instanceMethod yX12_inView, Cond.code yX12_inView cX12_inView 3 (some .int), Cond.methodLink RX12 103 yX12_isIn, Cond.instanceMethod yX12_isIn, Cond.code yX12_isIn cX12_isIn 3 (some .boolean), Cond.methodLink RX12 88 yX12_paper, Cond.instanceMethod yX12_paper, Cond.code yX12_paper cX12_paper 3 (some .int)]
set_option maxRecDepth 100000 in
theorem gBW57 : GoodIn lw_tbl BW57 := goodIn_up tL_6 (goodIn_pk (big := tables_1_6) _ [170, 0, 0, 0, 0, 0, 0, 0, 0, 0, 0, 0, 1, 0, 0, 1, 0, 0, 1, 0] (by exact Eq.refl _) (by decide +kernel))
def BW58 : List Cond := [Cond.methodLink RX12 92 yX12_day, Cond.instanceMethod yX12_day, Cond.code yX12_day cX12_day 1 (some .int), Cond.methodLink RX12 99 yX12_has, Cond.static yX12_has, Cond.code yX12_has cX12_has 2 (some .boolean), Cond.methodLink RX12 110 yX12_bits, Cond.static yX12_bits, Cond.code yX12_bits cX12_bits 3 (some .int), Cond.methodLink RL 26 yX12_person, Cond.instanceMethod yX12_person, Cond.selects RX12 yX12_person yX12_person, Cond.code yX12_person cX12_person 4 (some .int), Cond.methodLink RL 30 yX12_personOf, Cond.instanceMethod yX12_personOf, Cond.selects RX12 yX12_personOf yX12_personOf, Cond.code yX12_personOf cX12_personOf 3 (some .int), Cond.methodLink RX12 120 yX12_is, Cond.instanceMethod yX12_is, Cond.code yX12_is cX12_is 3 (some .boolean)]
set_option maxRecDepth 100000 in
theorem gBW58 : GoodIn lw_tbl BW58 := goodIn_up tL_6 (goodIn_pk (big := tables_1_6) _ [193, 1, 0, 0, 0, 0, 0, 0, 0, 0, 0, 0, 0, 0, 0, 0, 0, 0, 1, 0] (by exact Eq.refl _) (by decide +kernel))
def BW59 : List Cond := [Cond.methodLink RX12 123 yX12_papersOf, Cond.instanceMethod yX12_papersOf, Cond.code yX12_papersOf cX12_papersOf 5 (some .int), Cond.methodLink RX12 127 yX12_saidBy, Cond.instanceMethod yX12_saidBy, Cond.code yX12_saidBy cX12_saidBy 4 (some .int), Cond.methodLink RX12 117 yX12_doesCount, Cond.instanceMethod yX12_doesCount, Cond.code yX12_doesCount cX12_doesCount 2 (some .boolean), Cond.methodLink RX12 114 yX12_saying, Cond.instanceMethod yX12_saying, Cond.code yX12_saying cX12_saying 3 (some .int), Cond.methodLink RL 35 yX12_paper_, Cond.instanceMethod yX12_paper_, Cond.selects RX12 yX12_paper_ yX12_paper_, Cond.code yX12_paper_ cX12_paper_ 7 (some .int), Cond.methodLink RL 39 yX12_lose, Cond.instanceMethod yX12_lose, Cond.selects RX12 yX12_lose yX12_lose, Cond.code yX12_lose cX12_lose 2 (some .int)]
set_option maxRecDepth 100000 in
theorem gBW59 : GoodIn lw_tbl BW59 := goodIn_up tL_6 (goodIn_pk (big := tables_1_6) _ [215, 1, 0, 0, 1, 0, 0, 1, 0, 0, 1, 0, 0, 0, 0, 0, 0, 0, 0, 0] (by exact Eq.refl _) (by decide +kernel))
def BW60 : List Cond := [Cond.methodLink RL 43 yX12_paperOf]
set_option maxRecDepth 100000 in
theorem gBW60 : GoodIn lw_tbl BW60 := goodIn_up tL_6 (goodIn_pk (big := tables_1_6) _ [239] (by exact Eq.refl _) (by decide +kernel))
def BW61 : List Cond := [Cond.instanceMethod yX12_paperOf, Cond.selects RX12 yX12_paperOf yX12_paperOf, Cond.code yX12_paperOf cX12_paperOf 3 (some .int), Cond.methodLink RX12 130 yX12_stampsOf, Cond.instanceMethod yX12_stampsOf, Cond.code yX12_stampsOf cX12_stampsOf 4 (some .int), Cond.methodLink RL 48 yX12_stamp, Cond.instanceMethod yX12_stamp, Cond.selects RX12 yX12_stamp yX12_stamp, Cond.code yX12_stamp cX12_stamp 4 (some .int), Cond.methodLink RX12 133 yX12_stamped, Cond.instanceMethod yX12_stamped, Cond.code yX12_stamped cX12_stamped 5 none, Cond.methodLink RL 56 yX12_gap, Cond.instanceMethod yX12_gap, Cond.selects RX12 yX12_gap yX12_gap, Cond.code yX12_gap cX12_gap 3 (some .int), Cond.methodLink RL 60 yX12_clash, Cond.instanceMethod yX12_clash, Cond.selects RX12 yX12_clash yX12_clash]
set_option maxRecDepth 100000 in
theorem gBW61 : GoodIn lw_tbl BW61 := goodIn_up tL_7 (goodIn_pk (big := tables_1_7) _ [0, 0, 0, 0, 1, 0, 0, 0, 0, 0, 0, 1, 0, 0, 0, 0, 0, 0, 0, 0] (by exact Eq.refl _) (by decide +kernel))
def BW62 : List Cond := [Cond.code yX12_clash cX12_clash 2 (some .int), Cond.methodLink RX12 152 yX12_doubt, Cond.instanceMethod yX12_doubt, Cond.code yX12_doubt cX12_doubt 6 (some .int), Cond.methodLink RX12 148 yX12_findClocks, Cond.instanceMethod yX12_findClocks, Cond.code yX12_findClocks cX12_findClocks 7 (some .boolean), Cond.methodLink RX12 142 yX12_stampAt, Cond.instanceMethod yX12_stampAt, Cond.code yX12_stampAt cX12_stampAt 5 (some .int), Cond.methodLink RX12 145 yX12_atMost, Cond.instanceMethod yX12_atMost, Cond.code yX12_atMost cX12_atMost 4 none, Cond.methodLink RX12 137 Lib.Math.min.name, Cond.methodLink RL 65 yX12_span, Cond.instanceMethod yX12_span, Cond.selects RX12 yX12_span yX12_span, Cond.code yX12_span cX12_span 3 (some .int), Cond.methodLink RX12 155 yX12_greatest, Cond.instanceMethod yX12_greatest]
set_option maxRecDepth 100000 in
theorem gBW62 : GoodIn lw_tbl BW62 := goodIn_up tL_7 (goodIn_pk (big := tables_1_7) _ [22, 0, 1, 0, 0, 1, 0, 0, 1, 0, 0, 1, 0, 0, 0, 0, 0, 0, 0, 1] (by exact Eq.refl _) (by decide +kernel))
def BW63 : List Cond := [Cond.code yX12_greatest cX12_greatest 2 (some .int), Cond.methodLink RX12 158 yX12_least, Cond.instanceMethod yX12_least, Cond.code yX12_least cX12_least 2 (some .int), Cond.methodLink RL 69 yX12_sent, Cond.instanceMethod yX12_sent, Cond.selects RX12 yX12_sent yX12_sent, Cond.code yX12_sent cX12_sent 3 (some .int), Cond.methodLink RX12 167 yX12_hours, Cond.instanceMethod yX12_hours, Cond.code yX12_hours cX12_hours 6 (some .boolean), Cond.methodLink RL 74 yX12_hand, Cond.instanceMethod yX12_hand, Cond.selects RX12 yX12_hand yX12_hand, Cond.code yX12_hand cX12_hand 4 (some .int), Cond.methodLink RX12 171 yX12_inHand, Cond.instanceMethod yX12_inHand, Cond.code yX12_inHand cX12_inHand 4 (some .boolean), Cond.methodLink RL 78 yX12_before, Cond.instanceMethod yX12_before]
set_option maxRecDepth 100000 in
theorem gBW63 : GoodIn lw_tbl BW63 := goodIn_up tL_7 (goodIn_pk (big := tables_1_7) _ [47, 0, 1, 0, 0, 0, 0, 0, 0, 1, 0, 0, 0, 0, 0, 0, 1, 0, 0, 0] (by exact Eq.refl _) (by decide +kernel))
def BW64 : List Cond := [Cond.selects RX12 yX12_before yX12_before, Cond.code yX12_before cX12_before 9 (some .int), Cond.methodLink RL 82 yX12_knew, Cond.instanceMethod yX12_knew, Cond.selects RX12 yX12_knew yX12_knew, Cond.code yX12_knew cX12_knew 5 (some .int), Cond.methodLink RX12 203 yX12_fromOf, Cond.instanceMethod yX12_fromOf, Cond.code yX12_fromOf cX12_fromOf 4 (some .int), Cond.methodLink RX12 176 yX12_knewBy, Cond.instanceMethod yX12_knewBy, Cond.code yX12_knewBy cX12_knewBy 7 (some .int), Cond.constant RX12 175 (100000), Cond.methodLink RX12 199 yX12_findShould, Cond.instanceMethod yX12_findShould, Cond.code yX12_findShould cX12_findShould 7 none, Cond.methodLink RX12 180 yX12_rules, Cond.instanceMethod yX12_rules, Cond.code yX12_rules cX12_rules 3 (some .int), Cond.methodLink RX12 183 yX12_linesOf]
set_option maxRecDepth 100000 in
theorem gBW64 : GoodIn lw_tbl BW64 := goodIn_up tL_7 (goodIn_pk (big := tables_1_7) _ [70, 0, 0, 0, 0, 0, 0, 1, 0, 0, 1, 0, 0, 0, 1, 0, 0, 1, 0, 0] (by exact Eq.refl _) (by decide +kernel))
def BW65 : List Cond := [Cond.instanceMethod yX12_linesOf, Cond.code yX12_linesOf cX12_linesOf 2 (some .int), Cond.methodLink RX12 186 yX12_fromLine, Cond.instanceMethod yX12_fromLine, Cond.code yX12_fromLine cX12_fromLine 6 (some .int), Cond.methodLink RX12 193 yX12_lineOf, Cond.instanceMethod yX12_lineOf, Cond.code yX12_lineOf cX12_lineOf 4 (some .int), Cond.methodLink RX12 196 yX12_holds, Cond.instanceMethod yX12_holds, Cond.code yX12_holds cX12_holds 12 (some .boolean), Cond.methodLink RX12 295 yX12_factOf, Cond.instanceMethod yX12_factOf, Cond.code yX12_factOf cX12_factOf 3 (some .int), Cond.methodLink RX12 190 yX12_thingOf, Cond.instanceMethod yX12_thingOf, Cond.code yX12_thingOf cX12_thingOf 4 (some .int), Cond.methodLink RL 102 yX12_why, Cond.instanceMethod yX12_why, Cond.selects RX12 yX12_why yX12_why]
set_option maxRecDepth 100000 in
theorem gBW65 : GoodIn lw_tbl BW65 := goodIn_up tL_7 (goodIn_pk (big := tables_1_7) _ [95, 0, 0, 1, 0, 0, 1, 0, 0, 1, 0, 0, 1, 0, 0, 1, 0, 0, 0, 0] (by exact Eq.refl _) (by decide +kernel))
def BW66 : List Cond := [Cond.code yX12_why cX12_why 5 (some .int), Cond.methodLink RL 89 yX12_feed, Cond.instanceMethod yX12_feed, Cond.selects RX12 yX12_feed yX12_feed, Cond.code yX12_feed cX12_feed 5 (some .int), Cond.constantLong RX12 209 (255), Cond.methodLink RL 94 yX12_read, Cond.instanceMethod yX12_read, Cond.selects RX12 yX12_read yX12_read, Cond.code yX12_read cX12_read 5 (some .int), Cond.methodLink RX12 233 yX12_next, Cond.instanceMethod yX12_next, Cond.code yX12_next cX12_next 1 none, Cond.methodLink RX12 220 yX12_isIn_, Cond.instanceMethod yX12_isIn_, Cond.code yX12_isIn_ cX12_isIn_ 4 (some .boolean), Cond.methodLink RX12 292 yX12_lineAt, Cond.instanceMethod yX12_lineAt, Cond.code yX12_lineAt cX12_lineAt 3 none, Cond.methodLink RX12 248 yX12_isName]
set_option maxRecDepth 100000 in
theorem gBW66 : GoodIn lw_tbl BW66 := goodIn_up tL_7 (goodIn_pk (big := tables_1_7) _ [120, 0, 0, 0, 0, 0, 0, 0, 0, 0, 0, 1, 0, 0, 1, 0, 0, 1, 0, 1] (by exact Eq.refl _) (by decide +kernel))
def BW67 : List Cond := [Cond.instanceMethod yX12_isName, Cond.code yX12_isName cX12_isName 4 (some .boolean), Cond.methodLink RX12 226 yJ0_length_8abf5, Cond.methodLink RX12 229 yJ0_charAt_5068e, Cond.methodLink RX12 236 yX12_need, Cond.instanceMethod yX12_need, Cond.code yX12_need cX12_need 2 none, Cond.methodLink RX12 271 yX12_number, Cond.instanceMethod yX12_number, Cond.code yX12_number cX12_number 5 (some .int), Cond.methodLink RX12 268 yX12_either, Cond.instanceMethod yX12_either, Cond.code yX12_either cX12_either 1 none, Cond.methodLink RX12 243 yX12_all, Cond.instanceMethod yX12_all, Cond.code yX12_all cX12_all 1 none, Cond.methodLink RX12 255 yX12_one, Cond.instanceMethod yX12_one, Cond.code yX12_one cX12_one 5 none, Cond.methodLink RX12 262 yX12_isSign]
set_option maxRecDepth 100000 in
theorem gBW67 : GoodIn lw_tbl BW67 := goodIn_up tL_7 (goodIn_pk (big := tables_1_7) _ [145, 0, 0, 0, 3, 1, 0, 0, 1, 0, 4, 1, 0, 0, 1, 0, 0, 1, 0, 1] (by exact Eq.refl _) (by decide +kernel))
def BW68 : List Cond := [Cond.instanceMethod yX12_isSign, Cond.code yX12_isSign cX12_isSign 2 (some .boolean), Cond.methodLink RX12 252 yX12_codes, Cond.instanceMethod yX12_codes, Cond.code yX12_codes cX12_codes 2 none, Cond.methodLink RL 98 yX12_line, Cond.instanceMethod yX12_line, Cond.selects RX12 yX12_line yX12_line, Cond.code yX12_line cX12_line 4 (some .int), Cond.methodLink RL 107 yX12_saying_, Cond.instanceMethod yX12_saying_, Cond.selects RX12 yX12_saying_ yX12_saying_, Cond.code yX12_saying_ cX12_saying_ 10 (some .int), Cond.methodLink RL 111 yX12_quarrel, Cond.instanceMethod yX12_quarrel, Cond.selects RX12 yX12_quarrel yX12_quarrel, Cond.code yX12_quarrel cX12_quarrel 10 (some .int), Cond.methodLink RX12 298 yX12_findHours, Cond.instanceMethod yX12_findHours, Cond.code yX12_findHours cX12_findHours 4 none]
set_option maxRecDepth 100000 in
theorem gBW68 : GoodIn lw_tbl BW68 := goodIn_up tL_7 (goodIn_pk (big := tables_1_7) _ [179, 0, 0, 1, 0, 2, 0, 0, 0, 0, 0, 0, 0, 0, 0, 0, 0, 0, 1, 0] (by exact Eq.refl _) (by decide +kernel))
def BW69 : List Cond := [Cond.methodLink RX12 302 yX12_isAgainst, Cond.instanceMethod yX12_isAgainst, Cond.code yX12_isAgainst cX12_isAgainst 3 (some .boolean), Cond.methodLink RL 115 yX12_impossible, Cond.instanceMethod yX12_impossible, Cond.selects RX12 yX12_impossible yX12_impossible, Cond.code yX12_impossible cX12_impossible 6 (some .int), Cond.methodLink RL 119 yX12_finding, Cond.instanceMethod yX12_finding, Cond.selects RX12 yX12_finding yX12_finding, Cond.code yX12_finding cX12_finding 7 (some .int), Cond.methodLink RL 123 yX12_findingOf, Cond.instanceMethod yX12_findingOf, Cond.selects RX12 yX12_findingOf yX12_findingOf, Cond.code yX12_findingOf cX12_findingOf 3 (some .int), Cond.methodLink RX12 305 yX12_stands, Cond.instanceMethod yX12_stands, Cond.code yX12_stands cX12_stands 3 (some .boolean), Cond.methodLink RX12 311 yX12_leans, Cond.instanceMethod yX12_leans]
set_option maxRecDepth 100000 in
theorem gBW69 : GoodIn lw_tbl BW69 := goodIn_up tL_7 (goodIn_pk (big := tables_1_7) _ [203, 1, 0, 0, 0, 0, 0, 0, 0, 0, 0, 0, 0, 0, 0, 0, 1, 0, 0, 1] (by exact Eq.refl _) (by decide +kernel))
def BW70 : List Cond := [Cond.code yX12_leans cX12_leans 5 (some .int), Cond.methodLink RX12 317 yX12_isBarred, Cond.instanceMethod yX12_isBarred, Cond.code yX12_isBarred cX12_isBarred 8 (some .boolean), Cond.methodLink RX12 314 yX12_asked, Cond.instanceMethod yX12_asked, Cond.code yX12_asked cX12_asked 7 (some .int), Cond.methodLink RX12 308 Lib.Math.max.name, Cond.methodLink RL 127 yX12_warn, Cond.instanceMethod yX12_warn, Cond.selects RX12 yX12_warn yX12_warn, Cond.code yX12_warn cX12_warn 4 (some .int)]
set_option maxRecDepth 100000 in
theorem gBW70 : GoodIn lw_tbl BW70 := goodIn_up tL_7 (goodIn_pk (big := tables_1_7) _ [226, 0, 1, 0, 0, 1, 0, 0, 0, 0, 0, 0] (by exact Eq.refl _) (by decide +kernel))
def BW71 : List Cond := [Cond.methodLink RL 131 yX12_question, Cond.instanceMethod yX12_question, Cond.selects RX12 yX12_question yX12_question, Cond.code yX12_question cX12_question 4 (some .int), Cond.methodLink RL 135 yX12_round, Cond.instanceMethod yX12_round, Cond.selects RX12 yX12_round yX12_round, Cond.code yX12_round cX12_round 4 (some .int), Cond.methodLink RX12 323 yX12_go, Cond.instanceMethod yX12_go, Cond.code yX12_go cX12_go 9 none, Cond.methodLink RL 139 yX12_row, Cond.instanceMethod yX12_row, Cond.selects RX12 yX12_row yX12_row, Cond.code yX12_row cX12_row 3 (some .int), Cond.methodLink RX12 333 yX12_isRow, Cond.instanceMethod yX12_isRow, Cond.code yX12_isRow cX12_isRow 3 (some .boolean), Cond.methodLink RL 143 yX12_alterRow, Cond.instanceMethod yX12_alterRow]
set_option maxRecDepth 100000 in
theorem gBW71 : GoodIn lw_tbl BW71 := goodIn_up tL_8 (goodIn_pk (big := tables_1_8) _ [0, 0, 0, 0, 0, 0, 0, 0, 0, 1, 0, 0, 0, 0, 0, 0, 1, 0, 0, 0] (by exact Eq.refl _) (by decide +kernel))
def BW72 : List Cond := [Cond.selects RX12 yX12_alterRow yX12_alterRow, Cond.code yX12_alterRow cX12_alterRow 5 (some .int), Cond.methodLink RL 147 yX12_dropRow, Cond.instanceMethod yX12_dropRow, Cond.selects RX12 yX12_dropRow yX12_dropRow, Cond.code yX12_dropRow cX12_dropRow 1 (some .int), Cond.methodLink RL 151 yX12_judge, Cond.instanceMethod yX12_judge, Cond.selects RX12 yX12_judge yX12_judge, Cond.code yX12_judge cX12_judge 5 (some .int), Cond.methodLink RL 155 yX12_sheet, Cond.instanceMethod yX12_sheet, Cond.selects RX12 yX12_sheet yX12_sheet, Cond.code yX12_sheet cX12_sheet 5 (some .int), Cond.methodLink RX12 336 yX12_isFour, Cond.static yX12_isFour, Cond.code yX12_isFour cX12_isFour 1 (some .boolean), Cond.methodLink RL 159 yX12_put, Cond.instanceMethod yX12_put, Cond.selects RX12 yX12_put yX12_put]
set_option maxRecDepth 100000 in
theorem gBW72 : GoodIn lw_tbl BW72 := goodIn_up tL_8 (goodIn_pk (big := tables_1_8) _ [22, 0, 0, 0, 0, 0, 0, 0, 0, 0, 0, 0, 0, 0, 0, 0, 0, 0, 0, 0] (by exact Eq.refl _) (by decide +kernel))
def BW73 : List Cond := [Cond.code yX12_put cX12_put 4 (some .int), Cond.methodLink RL 163 yX12_item, Cond.instanceMethod yX12_item, Cond.selects RX12 yX12_item yX12_item, Cond.code yX12_item cX12_item 5 (some .int), Cond.methodLink RX12 339 yX12_notThere, Cond.instanceMethod yX12_notThere, Cond.code yX12_notThere cX12_notThere 5 (some .int), Cond.methodLink RL 52 yX12_stamps, Cond.instanceMethod yX12_stamps, Cond.selects RX12 yX12_stamps yX12_stamps, Cond.code yX12_stamps cX12_stamps 9 (some .int), Cond.constantLong RX12 343 (2), Cond.methodLink RL 167 yX12_shelf, Cond.instanceMethod yX12_shelf, Cond.selects RX12 yX12_shelf yX12_shelf, Cond.code yX12_shelf cX12_shelf 6 (some .int), Cond.methodLink RL 171 yX12_taken, Cond.instanceMethod yX12_taken, Cond.selects RX12 yX12_taken yX12_taken]
set_option maxRecDepth 100000 in
theorem gBW73 : GoodIn lw_tbl BW73 := goodIn_up tL_8 (goodIn_pk (big := tables_1_8) _ [42, 0, 0, 0, 0, 0, 1, 0, 0, 0, 0, 0, 0, 0, 0, 0, 0, 0, 0, 0] (by exact Eq.refl _) (by decide +kernel))
def BW74 : List Cond := [Cond.code yX12_taken cX12_taken 4 (some .int), Cond.methodLink RX12 345 yX12_kindOn, Cond.instanceMethod yX12_kindOn, Cond.code yX12_kindOn cX12_kindOn 4 (some .int), Cond.methodLink RX12 348 yX12_above, Cond.static yX12_above, Cond.code yX12_above cX12_above 1 (some .int), Cond.methodLink RL 175 yX12_deal, Cond.instanceMethod yX12_deal, Cond.selects RX12 yX12_deal yX12_deal, Cond.code yX12_deal cX12_deal 8 (some .int), Cond.methodLink RX12 372 yX12_dealt, Cond.instanceMethod yX12_dealt, Cond.code yX12_dealt cX12_dealt 3 (some .int), Cond.methodLink RX12 357 yX12_bodyFrom, Cond.instanceMethod yX12_bodyFrom, Cond.code yX12_bodyFrom cX12_bodyFrom 5 (some .int), Cond.methodLink RX12 360 yX12_hasOwn, Cond.static yX12_hasOwn, Cond.code yX12_hasOwn cX12_hasOwn 2 (some .boolean)]
set_option maxRecDepth 100000 in
theorem gBW74 : GoodIn lw_tbl BW74 := goodIn_up tL_8 (goodIn_pk (big := tables_1_8) _ [63, 0, 1, 0, 0, 0, 0, 0, 0, 0, 0, 0, 1, 0, 0, 1, 0, 0, 0, 0] (by exact Eq.refl _) (by decide +kernel))
def BW75 : List Cond := [Cond.methodLink RX12 363 yX12_body, Cond.instanceMethod yX12_body, Cond.code yX12_body cX12_body 6 (some .int), Cond.methodLink RX12 366 yX12_began, Cond.instanceMethod yX12_began, Cond.code yX12_began cX12_began 2 none, Cond.methodLink RL 179 yX12_trace, Cond.instanceMethod yX12_trace, Cond.selects RX12 yX12_trace yX12_trace, Cond.code yX12_trace cX12_trace 2 (some .int), Cond.methodLink RL 183 yX12_many, Cond.instanceMethod yX12_many, Cond.selects RX12 yX12_many yX12_many, Cond.code yX12_many cX12_many 4 (some .int), Cond.methodLink RL 187 yX12_keep, Cond.instanceMethod yX12_keep, Cond.selects RX12 yX12_keep yX12_keep, Cond.code yX12_keep cX12_keep 2 (some .int), Cond.methodLink RL 191 yX12_again, Cond.instanceMethod yX12_again]
set_option maxRecDepth 100000 in
theorem gBW75 : GoodIn lw_tbl BW75 := goodIn_up tL_8 (goodIn_pk (big := tables_1_8) _ [86, 1, 0, 0, 1, 0, 0, 0, 0, 0, 0, 0, 0, 0, 0, 0, 0, 0, 0, 0] (by exact Eq.refl _) (by decide +kernel))
def BW76 : List Cond := [Cond.selects RX12 yX12_again yX12_again, Cond.code yX12_again cX12_again 2 (some .int), Cond.constantLong RL 83 (4294967295), Cond.fieldLink RJ0 9 "java/lang/String" "value" "[B", Cond.fieldLink RJ0 15 "java/lang/String" "code\x72" "B"]
set_option maxRecDepth 100000 in
theorem gBW76 : GoodIn lw_tbl BW76 := goodIn_up tL_8 (goodIn_pk (big := tables_1_8) _ [108, 0, 0, 0, 0] (by exact Eq.refl _) (by decide +kernel))
set_option maxRecDepth 100000 in
theorem g_wsX110 : GoodIn lw_tbl wsX110 := goodIn_up tL_2 (goodIn_pk (big := tables_1_2) _ [148, 1, 1, 1, 1, 1, 1, 1, 1, 1, 1] (by exact Eq.refl _) (by decide +kernel))
set_option maxRecDepth 100000 in
theorem g_wsX120 : GoodIn lw_tbl wsX120 := goodIn_up tL_6 (goodIn_pk (big := tables_1_6) _ [87, 1, 1, 1, 1, 1, 1, 1, 1, 1, 1, 1, 1, 1, 1, 1, 1, 1, 1, 1, 1, 1, 1, 1, 1, 1, 1, 1, 1, 1, 1, 1, 1, 1, 1, 1, 1, 1, 1, 1, 1] (by exact Eq.refl _) (by decide +kernel))
set_option maxRecDepth 100000 in
theorem g_wsX00 : GoodIn lw_tbl wsX00 := goodIn_up tL_1 (goodIn_pk (big := tables_1_1) _ [109, 1, 1, 1, 1, 1, 1, 1, 1, 1, 1, 1, 1, 1] (by exact Eq.refl _) (by decide +kernel))
set_option maxRecDepth 100000 in
theorem g_wsX70 : GoodIn lw_tbl wsX70 := goodIn_up tL_1 (goodIn_pk (big := tables_1_1) _ [163, 1, 1, 1, 1, 1, 1, 1, 1] (by exact Eq.refl _) (by decide +kernel))
set_option maxRecDepth 100000 in
theorem g_wsX30 : GoodIn lw_tbl wsX30 := goodIn_up tL_1 (goodIn_pk (big := tables_1_1) _ [196, 1, 1, 1, 1] (by exact Eq.refl _) (by decide +kernel))
set_option maxRecDepth 100000 in
theorem g_wsX60 : GoodIn lw_tbl wsX60 := goodIn_up tL_1 (goodIn_pk (big := tables_1_1) _ [220, 1, 1, 1, 1, 1, 1] (by exact Eq.refl _) (by decide +kernel))
set_option maxRecDepth 100000 in
theorem g_wsX90 : GoodIn lw_tbl wsX90 := goodIn_up tL_2 (goodIn_pk (big := tables_1_2) _ [7, 1, 1, 1, 1, 1] (by exact Eq.refl _) (by decide +kernel))
set_option maxRecDepth 100000 in
theorem g_wsX100 : GoodIn lw_tbl wsX100 := goodIn_up tL_2 (goodIn_pk (big := tables_1_2) _ [36, 1, 1, 1, 1, 1, 1, 1] (by exact Eq.refl _) (by decide +kernel))
set_option maxRecDepth 100000 in
theorem g_wsX50 : GoodIn lw_tbl wsX50 := goodIn_up tL_2 (goodIn_pk (big := tables_1_2) _ [68, 1, 1, 1, 1, 1] (by exact Eq.refl _) (by decide +kernel))
set_option maxRecDepth 100000 in
theorem g_wsX40 : GoodIn lw_tbl wsX40 := goodIn_up tL_2 (goodIn_pk (big := tables_1_2) _ [93, 1, 1, 1, 1, 1] (by exact Eq.refl _) (by decide +kernel))
set_option maxRecDepth 100000 in
theorem g_wsX20 : GoodIn lw_tbl wsX20 := goodIn_up tL_2 (goodIn_pk (big := tables_1_2) _ [120, 1, 1, 1, 1, 1, 1, 1] (by exact Eq.refl _) (by decide +kernel))
set_option maxRecDepth 100000 in
theorem g_wsX80 : GoodIn lw_tbl wsX80 := goodIn_up tL_1 (goodIn_pk (big := tables_1_1) _ [48, 1, 1, 1] (by exact Eq.refl _) (by decide +kernel))
set_option maxRecDepth 100000 in
theorem g_wsX10 : GoodIn lw_tbl wsX10 := goodIn_up tL_1 (goodIn_pk (big := tables_1_1) _ [151] (by exact Eq.refl _) (by decide +kernel))
def BWt89 : List Cond := wsX10
def BWt88 : List Cond := wsX80 ++ BWt89
def BWt87 : List Cond := wsX20 ++ BWt88
def BWt86 : List Cond := wsX40 ++ BWt87
def BWt85 : List Cond := wsX50 ++ BWt86
def BWt84 : List Cond := wsX100 ++ BWt85
def BWt83 : List Cond := wsX90 ++ BWt84
def BWt82 : List Cond := wsX60 ++ BWt83
def BWt81 : List Cond := wsX30 ++ BWt82
def BWt80 : List Cond := wsX70 ++ BWt81
def BWt79 : List Cond := wsX00 ++ BWt80
def BWt78 : List Cond := wsX120 ++ BWt79
def BWt77 : List Cond := wsX110 ++ BWt78
def BWt76 : List Cond := BW76 ++ BWt77
def BWt75 : List Cond := BW75 ++ BWt76
def BWt74 : List Cond := BW74 ++ BWt75
def BWt73 : List Cond := BW73 ++ BWt74
def BWt72 : List Cond := BW72 ++ BWt73
def BWt71 : List Cond := BW71 ++ BWt72
def BWt70 : List Cond := BW70 ++ BWt71
def BWt69 : List Cond := BW69 ++ BWt70
def BWt68 : List Cond := BW68 ++ BWt69
def BWt67 : List Cond := BW67 ++ BWt68
def BWt66 : List Cond := BW66 ++ BWt67
def BWt65 : List Cond := BW65 ++ BWt66
def BWt64 : List Cond := BW64 ++ BWt65
def BWt63 : List Cond := BW63 ++ BWt64
def BWt62 : List Cond := BW62 ++ BWt63
def BWt61 : List Cond := BW61 ++ BWt62
def BWt60 : List Cond := BW60 ++ BWt61
def BWt59 : List Cond := BW59 ++ BWt60
def BWt58 : List Cond := BW58 ++ BWt59
def BWt57 : List Cond := BW57 ++ BWt58
def BWt56 : List Cond := BW56 ++ BWt57
def BWt55 : List Cond := BW55 ++ BWt56
def BWt54 : List Cond := BW54 ++ BWt55
def BWt53 : List Cond := BW53 ++ BWt54
def BWt52 : List Cond := BW52 ++ BWt53
def BWt51 : List Cond := BW51 ++ BWt52
def BWt50 : List Cond := BW50 ++ BWt51
def BWt49 : List Cond := BW49 ++ BWt50
def BWt48 : List Cond := BW48 ++ BWt49
def BWt47 : List Cond := BW47 ++ BWt48
def BWt46 : List Cond := BW46 ++ BWt47
def BWt45 : List Cond := BW45 ++ BWt46
def BWt44 : List Cond := BW44 ++ BWt45
def BWt43 : List Cond := BW43 ++ BWt44
def BWt42 : List Cond := BW42 ++ BWt43
def BWt41 : List Cond := BW41 ++ BWt42
def BWt40 : List Cond := BW40 ++ BWt41
def BWt39 : List Cond := BW39 ++ BWt40
def BWt38 : List Cond := BW38 ++ BWt39
def BWt37 : List Cond := BW37 ++ BWt38
def BWt36 : List Cond := BW36 ++ BWt37
def BWt35 : List Cond := BW35 ++ BWt36
def BWt34 : List Cond := BW34 ++ BWt35
def BWt33 : List Cond := BW33 ++ BWt34
def BWt32 : List Cond := BW32 ++ BWt33
def BWt31 : List Cond := BW31 ++ BWt32
def BWt30 : List Cond := BW30 ++ BWt31
def BWt29 : List Cond := BW29 ++ BWt30
def BWt28 : List Cond := BW28 ++ BWt29
def BWt27 : List Cond := BW27 ++ BWt28
def BWt26 : List Cond := BW26 ++ BWt27
def BWt25 : List Cond := BW25 ++ BWt26
def BWt24 : List Cond := BW24 ++ BWt25
def BWt23 : List Cond := BW23 ++ BWt24
def BWt22 : List Cond := BW22 ++ BWt23
def BWt21 : List Cond := BW21 ++ BWt22
def BWt20 : List Cond := BW20 ++ BWt21
def BWt19 : List Cond := BW19 ++ BWt20
def BWt18 : List Cond := BW18 ++ BWt19
def BWt17 : List Cond := BW17 ++ BWt18
def BWt16 : List Cond := BW16 ++ BWt17
def BWt15 : List Cond := BW15 ++ BWt16
def BWt14 : List Cond := BW14 ++ BWt15
def BWt13 : List Cond := BW13 ++ BWt14
def BWt12 : List Cond := BW12 ++ BWt13
def BWt11 : List Cond := BW11 ++ BWt12
def BWt10 : List Cond := BW10 ++ BWt11
def BWt9 : List Cond := BW9 ++ BWt10
def BWt8 : List Cond := BW8 ++ BWt9
def BWt7 : List Cond := BW7 ++ BWt8
def BWt6 : List Cond := BW6 ++ BWt7
def BWt5 : List Cond := BW5 ++ BWt6
def BWt4 : List Cond := BW4 ++ BWt5
def BWt3 : List Cond := BW3 ++ BWt4
def BWt2 : List Cond := BW2 ++ BWt3
def BWt1 : List Cond := BW1 ++ BWt2
def BWt0 : List Cond := BW0 ++ BWt1
abbrev BW : List Cond := BWt0
theorem gBWt89 : GoodIn lw_tbl BWt89 := g_wsX10
theorem gBWt88 : GoodIn lw_tbl BWt88 := goodIn_app g_wsX80 gBWt89
theorem gBWt87 : GoodIn lw_tbl BWt87 := goodIn_app g_wsX20 gBWt88
theorem gBWt86 : GoodIn lw_tbl BWt86 := goodIn_app g_wsX40 gBWt87
theorem gBWt85 : GoodIn lw_tbl BWt85 := goodIn_app g_wsX50 gBWt86
theorem gBWt84 : GoodIn lw_tbl BWt84 := goodIn_app g_wsX100 gBWt85
theorem gBWt83 : GoodIn lw_tbl BWt83 := goodIn_app g_wsX90 gBWt84
theorem gBWt82 : GoodIn lw_tbl BWt82 := goodIn_app g_wsX60 gBWt83
theorem gBWt81 : GoodIn lw_tbl BWt81 := goodIn_app g_wsX30 gBWt82
theorem gBWt80 : GoodIn lw_tbl BWt80 := goodIn_app g_wsX70 gBWt81
theorem gBWt79 : GoodIn lw_tbl BWt79 := goodIn_app g_wsX00 gBWt80
theorem gBWt78 : GoodIn lw_tbl BWt78 := goodIn_app g_wsX120 gBWt79
theorem gBWt77 : GoodIn lw_tbl BWt77 := goodIn_app g_wsX110 gBWt78
theorem gBWt76 : GoodIn lw_tbl BWt76 := goodIn_app gBW76 gBWt77
theorem gBWt75 : GoodIn lw_tbl BWt75 := goodIn_app gBW75 gBWt76
theorem gBWt74 : GoodIn lw_tbl BWt74 := goodIn_app gBW74 gBWt75
theorem gBWt73 : GoodIn lw_tbl BWt73 := goodIn_app gBW73 gBWt74
theorem gBWt72 : GoodIn lw_tbl BWt72 := goodIn_app gBW72 gBWt73
theorem gBWt71 : GoodIn lw_tbl BWt71 := goodIn_app gBW71 gBWt72
theorem gBWt70 : GoodIn lw_tbl BWt70 := goodIn_app gBW70 gBWt71
theorem gBWt69 : GoodIn lw_tbl BWt69 := goodIn_app gBW69 gBWt70
theorem gBWt68 : GoodIn lw_tbl BWt68 := goodIn_app gBW68 gBWt69
theorem gBWt67 : GoodIn lw_tbl BWt67 := goodIn_app gBW67 gBWt68
theorem gBWt66 : GoodIn lw_tbl BWt66 := goodIn_app gBW66 gBWt67
theorem gBWt65 : GoodIn lw_tbl BWt65 := goodIn_app gBW65 gBWt66
theorem gBWt64 : GoodIn lw_tbl BWt64 := goodIn_app gBW64 gBWt65
theorem gBWt63 : GoodIn lw_tbl BWt63 := goodIn_app gBW63 gBWt64
theorem gBWt62 : GoodIn lw_tbl BWt62 := goodIn_app gBW62 gBWt63
theorem gBWt61 : GoodIn lw_tbl BWt61 := goodIn_app gBW61 gBWt62
theorem gBWt60 : GoodIn lw_tbl BWt60 := goodIn_app gBW60 gBWt61
theorem gBWt59 : GoodIn lw_tbl BWt59 := goodIn_app gBW59 gBWt60
theorem gBWt58 : GoodIn lw_tbl BWt58 := goodIn_app gBW58 gBWt59
theorem gBWt57 : GoodIn lw_tbl BWt57 := goodIn_app gBW57 gBWt58
theorem gBWt56 : GoodIn lw_tbl BWt56 := goodIn_app gBW56 gBWt57
theorem gBWt55 : GoodIn lw_tbl BWt55 := goodIn_app gBW55 gBWt56
theorem gBWt54 : GoodIn lw_tbl BWt54 := goodIn_app gBW54 gBWt55
theorem gBWt53 : GoodIn lw_tbl BWt53 := goodIn_app gBW53 gBWt54
theorem gBWt52 : GoodIn lw_tbl BWt52 := goodIn_app gBW52 gBWt53
theorem gBWt51 : GoodIn lw_tbl BWt51 := goodIn_app gBW51 gBWt52
theorem gBWt50 : GoodIn lw_tbl BWt50 := goodIn_app gBW50 gBWt51
theorem gBWt49 : GoodIn lw_tbl BWt49 := goodIn_app gBW49 gBWt50
theorem gBWt48 : GoodIn lw_tbl BWt48 := goodIn_app gBW48 gBWt49
theorem gBWt47 : GoodIn lw_tbl BWt47 := goodIn_app gBW47 gBWt48
theorem gBWt46 : GoodIn lw_tbl BWt46 := goodIn_app gBW46 gBWt47
theorem gBWt45 : GoodIn lw_tbl BWt45 := goodIn_app gBW45 gBWt46
theorem gBWt44 : GoodIn lw_tbl BWt44 := goodIn_app gBW44 gBWt45
theorem gBWt43 : GoodIn lw_tbl BWt43 := goodIn_app gBW43 gBWt44
theorem gBWt42 : GoodIn lw_tbl BWt42 := goodIn_app gBW42 gBWt43
theorem gBWt41 : GoodIn lw_tbl BWt41 := goodIn_app gBW41 gBWt42
theorem gBWt40 : GoodIn lw_tbl BWt40 := goodIn_app gBW40 gBWt41
theorem gBWt39 : GoodIn lw_tbl BWt39 := goodIn_app gBW39 gBWt40
theorem gBWt38 : GoodIn lw_tbl BWt38 := goodIn_app gBW38 gBWt39
theorem gBWt37 : GoodIn lw_tbl BWt37 := goodIn_app gBW37 gBWt38
theorem gBWt36 : GoodIn lw_tbl BWt36 := goodIn_app gBW36 gBWt37
theorem gBWt35 : GoodIn lw_tbl BWt35 := goodIn_app gBW35 gBWt36
theorem gBWt34 : GoodIn lw_tbl BWt34 := goodIn_app gBW34 gBWt35
theorem gBWt33 : GoodIn lw_tbl BWt33 := goodIn_app gBW33 gBWt34
theorem gBWt32 : GoodIn lw_tbl BWt32 := goodIn_app gBW32 gBWt33
theorem gBWt31 : GoodIn lw_tbl BWt31 := goodIn_app gBW31 gBWt32
theorem gBWt30 : GoodIn lw_tbl BWt30 := goodIn_app gBW30 gBWt31
theorem gBWt29 : GoodIn lw_tbl BWt29 := goodIn_app gBW29 gBWt30
theorem gBWt28 : GoodIn lw_tbl BWt28 := goodIn_app gBW28 gBWt29
theorem gBWt27 : GoodIn lw_tbl BWt27 := goodIn_app gBW27 gBWt28
theorem gBWt26 : GoodIn lw_tbl BWt26 := goodIn_app gBW26 gBWt27
theorem gBWt25 : GoodIn lw_tbl BWt25 := goodIn_app gBW25 gBWt26
theorem gBWt24 : GoodIn lw_tbl BWt24 := goodIn_app gBW24 gBWt25
theorem gBWt23 : GoodIn lw_tbl BWt23 := goodIn_app gBW23 gBWt24
theorem gBWt22 : GoodIn lw_tbl BWt22 := goodIn_app gBW22 gBWt23
theorem gBWt21 : GoodIn lw_tbl BWt21 := goodIn_app gBW21 gBWt22
theorem gBWt20 : GoodIn lw_tbl BWt20 := goodIn_app gBW20 gBWt21
theorem gBWt19 : GoodIn lw_tbl BWt19 := goodIn_app gBW19 gBWt20
theorem gBWt18 : GoodIn lw_tbl BWt18 := goodIn_app gBW18 gBWt19
theorem gBWt17 : GoodIn lw_tbl BWt17 := goodIn_app gBW17 gBWt18
theorem gBWt16 : GoodIn lw_tbl BWt16 := goodIn_app gBW16 gBWt17
theorem gBWt15 : GoodIn lw_tbl BWt15 := goodIn_app gBW15 gBWt16
theorem gBWt14 : GoodIn lw_tbl BWt14 := goodIn_app gBW14 gBWt15
theorem gBWt13 : GoodIn lw_tbl BWt13 := goodIn_app gBW13 gBWt14
theorem gBWt12 : GoodIn lw_tbl BWt12 := goodIn_app gBW12 gBWt13
theorem gBWt11 : GoodIn lw_tbl BWt11 := goodIn_app gBW11 gBWt12
theorem gBWt10 : GoodIn lw_tbl BWt10 := goodIn_app gBW10 gBWt11
theorem gBWt9 : GoodIn lw_tbl BWt9 := goodIn_app gBW9 gBWt10
theorem gBWt8 : GoodIn lw_tbl BWt8 := goodIn_app gBW8 gBWt9
theorem gBWt7 : GoodIn lw_tbl BWt7 := goodIn_app gBW7 gBWt8
theorem gBWt6 : GoodIn lw_tbl BWt6 := goodIn_app gBW6 gBWt7
theorem gBWt5 : GoodIn lw_tbl BWt5 := goodIn_app gBW5 gBWt6
theorem gBWt4 : GoodIn lw_tbl BWt4 := goodIn_app gBW4 gBWt5
theorem gBWt3 : GoodIn lw_tbl BWt3 := goodIn_app gBW3 gBWt4
theorem gBWt2 : GoodIn lw_tbl BWt2 := goodIn_app gBW2 gBWt3
theorem gBWt1 : GoodIn lw_tbl BWt1 := goodIn_app gBW1 gBWt2
theorem gBWt0 : GoodIn lw_tbl BWt0 := goodIn_app gBW0 gBWt1
theorem gBW : GoodIn lw_tbl BW := gBWt0
theorem iBt0 : ∀ w ∈ BWt0, w ∈ BW := fun w h => h
theorem iB_BW0 : ∀ w ∈ BW0, w ∈ BW := fun w h => iBt0 w (List.mem_append_left _ h)
theorem iBt1 : ∀ w ∈ BWt1, w ∈ BW := fun w h => iBt0 w (List.mem_append_right _ h)
theorem iB_BW1 : ∀ w ∈ BW1, w ∈ BW := fun w h => iBt1 w (List.mem_append_left _ h)
theorem iBt2 : ∀ w ∈ BWt2, w ∈ BW := fun w h => iBt1 w (List.mem_append_right _ h)
theorem iB_BW2 : ∀ w ∈ BW2, w ∈ BW := fun w h => iBt2 w (List.mem_append_left _ h)
theorem iBt3 : ∀ w ∈ BWt3, w ∈ BW := fun w h => iBt2 w (List.mem_append_right _ h)
theorem iB_BW3 : ∀ w ∈ BW3, w ∈ BW := fun w h => iBt3 w (List.mem_append_left _ h)
theorem iBt4 : ∀ w ∈ BWt4, w ∈ BW := fun w h => iBt3 w (List.mem_append_right _ h)
theorem iB_BW4 : ∀ w ∈ BW4, w ∈ BW := fun w h => iBt4 w (List.mem_append_left _ h)
theorem iBt5 : ∀ w ∈ BWt5, w ∈ BW := fun w h => iBt4 w (List.mem_append_right _ h)
theorem iB_BW5 : ∀ w ∈ BW5, w ∈ BW := fun w h => iBt5 w (List.mem_append_left _ h)
theorem iBt6 : ∀ w ∈ BWt6, w ∈ BW := fun w h => iBt5 w (List.mem_append_right _ h)
theorem iB_BW6 : ∀ w ∈ BW6, w ∈ BW := fun w h => iBt6 w (List.mem_append_left _ h)
theorem iBt7 : ∀ w ∈ BWt7, w ∈ BW := fun w h => iBt6 w (List.mem_append_right _ h)
theorem iB_BW7 : ∀ w ∈ BW7, w ∈ BW := fun w h => iBt7 w (List.mem_append_left _ h)
theorem iBt8 : ∀ w ∈ BWt8, w ∈ BW := fun w h => iBt7 w (List.mem_append_right _ h)
theorem iB_BW8 : ∀ w ∈ BW8, w ∈ BW := fun w h => iBt8 w (List.mem_append_left _ h)
theorem iBt9 : ∀ w ∈ BWt9, w ∈ BW := fun w h => iBt8 w (List.mem_append_right _ h)
theorem iB_BW9 : ∀ w ∈ BW9, w ∈ BW := fun w h => iBt9 w (List.mem_append_left _ h)
theorem iBt10 : ∀ w ∈ BWt10, w ∈ BW := fun w h => iBt9 w (List.mem_append_right _ h)
theorem iB_BW10 : ∀ w ∈ BW10, w ∈ BW := fun w h => iBt10 w (List.mem_append_left _ h)
theorem iBt11 : ∀ w ∈ BWt11, w ∈ BW := fun w h => iBt10 w (List.mem_append_right _ h)
theorem iB_BW11 : ∀ w ∈ BW11, w ∈ BW := fun w h => iBt11 w (List.mem_append_left _ h)
theorem iBt12 : ∀ w ∈ BWt12, w ∈ BW := fun w h => iBt11 w (List.mem_append_right _ h)
theorem iB_BW12 : ∀ w ∈ BW12, w ∈ BW := fun w h => iBt12 w (List.mem_append_left _ h)
theorem iBt13 : ∀ w ∈ BWt13, w ∈ BW := fun w h => iBt12 w (List.mem_append_right _ h)
theorem iB_BW13 : ∀ w ∈ BW13, w ∈ BW := fun w h => iBt13 w (List.mem_append_left _ h)
theorem iBt14 : ∀ w ∈ BWt14, w ∈ BW := fun w h => iBt13 w (List.mem_append_right _ h)
theorem iB_BW14 : ∀ w ∈ BW14, w ∈ BW := fun w h => iBt14 w (List.mem_append_left _ h)
theorem iBt15 : ∀ w ∈ BWt15, w ∈ BW := fun w h => iBt14 w (List.mem_append_right _ h)
theorem iB_BW15 : ∀ w ∈ BW15, w ∈ BW := fun w h => iBt15 w (List.mem_append_left _ h)
theorem iBt16 : ∀ w ∈ BWt16, w ∈ BW := fun w h => iBt15 w (List.mem_append_right _ h)
theorem iB_BW16 : ∀ w ∈ BW16, w ∈ BW := fun w h => iBt16 w (List.mem_append_left _ h)
theorem iBt17 : ∀ w ∈ BWt17, w ∈ BW := fun w h => iBt16 w (List.mem_append_right _ h)
theorem iB_BW17 : ∀ w ∈ BW17, w ∈ BW := fun w h => iBt17 w (List.mem_append_left _ h)
theorem iBt18 : ∀ w ∈ BWt18, w ∈ BW := fun w h => iBt17 w (List.mem_append_right _ h)
theorem iB_BW18 : ∀ w ∈ BW18, w ∈ BW := fun w h => iBt18 w (List.mem_append_left _ h)
theorem iBt19 : ∀ w ∈ BWt19, w ∈ BW := fun w h => iBt18 w (List.mem_append_right _ h)
theorem iB_BW19 : ∀ w ∈ BW19, w ∈ BW := fun w h => iBt19 w (List.mem_append_left _ h)
theorem iBt20 : ∀ w ∈ BWt20, w ∈ BW := fun w h => iBt19 w (List.mem_append_right _ h)
theorem iB_BW20 : ∀ w ∈ BW20, w ∈ BW := fun w h => iBt20 w (List.mem_append_left _ h)
theorem iBt21 : ∀ w ∈ BWt21, w ∈ BW := fun w h => iBt20 w (List.mem_append_right _ h)
theorem iB_BW21 : ∀ w ∈ BW21, w ∈ BW := fun w h => iBt21 w (List.mem_append_left _ h)
theorem iBt22 : ∀ w ∈ BWt22, w ∈ BW := fun w h => iBt21 w (List.mem_append_right _ h)
theorem iB_BW22 : ∀ w ∈ BW22, w ∈ BW := fun w h => iBt22 w (List.mem_append_left _ h)
theorem iBt23 : ∀ w ∈ BWt23, w ∈ BW := fun w h => iBt22 w (List.mem_append_right _ h)
theorem iB_BW23 : ∀ w ∈ BW23, w ∈ BW := fun w h => iBt23 w (List.mem_append_left _ h)
theorem iBt24 : ∀ w ∈ BWt24, w ∈ BW := fun w h => iBt23 w (List.mem_append_right _ h)
theorem iB_BW24 : ∀ w ∈ BW24, w ∈ BW := fun w h => iBt24 w (List.mem_append_left _ h)
theorem iBt25 : ∀ w ∈ BWt25, w ∈ BW := fun w h => iBt24 w (List.mem_append_right _ h)
theorem iB_BW25 : ∀ w ∈ BW25, w ∈ BW := fun w h => iBt25 w (List.mem_append_left _ h)
theorem iBt26 : ∀ w ∈ BWt26, w ∈ BW := fun w h => iBt25 w (List.mem_append_right _ h)
theorem iB_BW26 : ∀ w ∈ BW26, w ∈ BW := fun w h => iBt26 w (List.mem_append_left _ h)
theorem iBt27 : ∀ w ∈ BWt27, w ∈ BW := fun w h => iBt26 w (List.mem_append_right _ h)
theorem iB_BW27 : ∀ w ∈ BW27, w ∈ BW := fun w h => iBt27 w (List.mem_append_left _ h)
theorem iBt28 : ∀ w ∈ BWt28, w ∈ BW := fun w h => iBt27 w (List.mem_append_right _ h)
theorem iB_BW28 : ∀ w ∈ BW28, w ∈ BW := fun w h => iBt28 w (List.mem_append_left _ h)
theorem iBt29 : ∀ w ∈ BWt29, w ∈ BW := fun w h => iBt28 w (List.mem_append_right _ h)
theorem iB_BW29 : ∀ w ∈ BW29, w ∈ BW := fun w h => iBt29 w (List.mem_append_left _ h)
theorem iBt30 : ∀ w ∈ BWt30, w ∈ BW := fun w h => iBt29 w (List.mem_append_right _ h)
theorem iB_BW30 : ∀ w ∈ BW30, w ∈ BW := fun w h => iBt30 w (List.mem_append_left _ h)
theorem iBt31 : ∀ w ∈ BWt31, w ∈ BW := fun w h => iBt30 w (List.mem_append_right _ h)
theorem iB_BW31 : ∀ w ∈ BW31, w ∈ BW := fun w h => iBt31 w (List.mem_append_left _ h)
theorem iBt32 : ∀ w ∈ BWt32, w ∈ BW := fun w h => iBt31 w (List.mem_append_right _ h)
theorem iB_BW32 : ∀ w ∈ BW32, w ∈ BW := fun w h => iBt32 w (List.mem_append_left _ h)
theorem iBt33 : ∀ w ∈ BWt33, w ∈ BW := fun w h => iBt32 w (List.mem_append_right _ h)
theorem iB_BW33 : ∀ w ∈ BW33, w ∈ BW := fun w h => iBt33 w (List.mem_append_left _ h)
theorem iBt34 : ∀ w ∈ BWt34, w ∈ BW := fun w h => iBt33 w (List.mem_append_right _ h)
theorem iB_BW34 : ∀ w ∈ BW34, w ∈ BW := fun w h => iBt34 w (List.mem_append_left _ h)
theorem iBt35 : ∀ w ∈ BWt35, w ∈ BW := fun w h => iBt34 w (List.mem_append_right _ h)
theorem iB_BW35 : ∀ w ∈ BW35, w ∈ BW := fun w h => iBt35 w (List.mem_append_left _ h)
theorem iBt36 : ∀ w ∈ BWt36, w ∈ BW := fun w h => iBt35 w (List.mem_append_right _ h)
theorem iB_BW36 : ∀ w ∈ BW36, w ∈ BW := fun w h => iBt36 w (List.mem_append_left _ h)
theorem iBt37 : ∀ w ∈ BWt37, w ∈ BW := fun w h => iBt36 w (List.mem_append_right _ h)
theorem iB_BW37 : ∀ w ∈ BW37, w ∈ BW := fun w h => iBt37 w (List.mem_append_left _ h)
theorem iBt38 : ∀ w ∈ BWt38, w ∈ BW := fun w h => iBt37 w (List.mem_append_right _ h)
theorem iB_BW38 : ∀ w ∈ BW38, w ∈ BW := fun w h => iBt38 w (List.mem_append_left _ h)
theorem iBt39 : ∀ w ∈ BWt39, w ∈ BW := fun w h => iBt38 w (List.mem_append_right _ h)
theorem iB_BW39 : ∀ w ∈ BW39, w ∈ BW := fun w h => iBt39 w (List.mem_append_left _ h)
theorem iBt40 : ∀ w ∈ BWt40, w ∈ BW := fun w h => iBt39 w (List.mem_append_right _ h)
theorem iB_BW40 : ∀ w ∈ BW40, w ∈ BW := fun w h => iBt40 w (List.mem_append_left _ h)
theorem iBt41 : ∀ w ∈ BWt41, w ∈ BW := fun w h => iBt40 w (List.mem_append_right _ h)
theorem iB_BW41 : ∀ w ∈ BW41, w ∈ BW := fun w h => iBt41 w (List.mem_append_left _ h)
theorem iBt42 : ∀ w ∈ BWt42, w ∈ BW := fun w h => iBt41 w (List.mem_append_right _ h)
theorem iB_BW42 : ∀ w ∈ BW42, w ∈ BW := fun w h => iBt42 w (List.mem_append_left _ h)
theorem iBt43 : ∀ w ∈ BWt43, w ∈ BW := fun w h => iBt42 w (List.mem_append_right _ h)
theorem iB_BW43 : ∀ w ∈ BW43, w ∈ BW := fun w h => iBt43 w (List.mem_append_left _ h)
theorem iBt44 : ∀ w ∈ BWt44, w ∈ BW := fun w h => iBt43 w (List.mem_append_right _ h)
theorem iB_BW44 : ∀ w ∈ BW44, w ∈ BW := fun w h => iBt44 w (List.mem_append_left _ h)
theorem iBt45 : ∀ w ∈ BWt45, w ∈ BW := fun w h => iBt44 w (List.mem_append_right _ h)
theorem iB_BW45 : ∀ w ∈ BW45, w ∈ BW := fun w h => iBt45 w (List.mem_append_left _ h)
theorem iBt46 : ∀ w ∈ BWt46, w ∈ BW := fun w h => iBt45 w (List.mem_append_right _ h)
theorem iB_BW46 : ∀ w ∈ BW46, w ∈ BW := fun w h => iBt46 w (List.mem_append_left _ h)
theorem iBt47 : ∀ w ∈ BWt47, w ∈ BW := fun w h => iBt46 w (List.mem_append_right _ h)
theorem iB_BW47 : ∀ w ∈ BW47, w ∈ BW := fun w h => iBt47 w (List.mem_append_left _ h)
theorem iBt48 : ∀ w ∈ BWt48, w ∈ BW := fun w h => iBt47 w (List.mem_append_right _ h)
theorem iB_BW48 : ∀ w ∈ BW48, w ∈ BW := fun w h => iBt48 w (List.mem_append_left _ h)
theorem iBt49 : ∀ w ∈ BWt49, w ∈ BW := fun w h => iBt48 w (List.mem_append_right _ h)
theorem iB_BW49 : ∀ w ∈ BW49, w ∈ BW := fun w h => iBt49 w (List.mem_append_left _ h)
theorem iBt50 : ∀ w ∈ BWt50, w ∈ BW := fun w h => iBt49 w (List.mem_append_right _ h)
theorem iB_BW50 : ∀ w ∈ BW50, w ∈ BW := fun w h => iBt50 w (List.mem_append_left _ h)
theorem iBt51 : ∀ w ∈ BWt51, w ∈ BW := fun w h => iBt50 w (List.mem_append_right _ h)
theorem iB_BW51 : ∀ w ∈ BW51, w ∈ BW := fun w h => iBt51 w (List.mem_append_left _ h)
theorem iBt52 : ∀ w ∈ BWt52, w ∈ BW := fun w h => iBt51 w (List.mem_append_right _ h)
theorem iB_BW52 : ∀ w ∈ BW52, w ∈ BW := fun w h => iBt52 w (List.mem_append_left _ h)
theorem iBt53 : ∀ w ∈ BWt53, w ∈ BW := fun w h => iBt52 w (List.mem_append_right _ h)
theorem iB_BW53 : ∀ w ∈ BW53, w ∈ BW := fun w h => iBt53 w (List.mem_append_left _ h)
theorem iBt54 : ∀ w ∈ BWt54, w ∈ BW := fun w h => iBt53 w (List.mem_append_right _ h)
theorem iB_BW54 : ∀ w ∈ BW54, w ∈ BW := fun w h => iBt54 w (List.mem_append_left _ h)
theorem iBt55 : ∀ w ∈ BWt55, w ∈ BW := fun w h => iBt54 w (List.mem_append_right _ h)
theorem iB_BW55 : ∀ w ∈ BW55, w ∈ BW := fun w h => iBt55 w (List.mem_append_left _ h)
theorem iBt56 : ∀ w ∈ BWt56, w ∈ BW := fun w h => iBt55 w (List.mem_append_right _ h)
theorem iB_BW56 : ∀ w ∈ BW56, w ∈ BW := fun w h => iBt56 w (List.mem_append_left _ h)
theorem iBt57 : ∀ w ∈ BWt57, w ∈ BW := fun w h => iBt56 w (List.mem_append_right _ h)
theorem iB_BW57 : ∀ w ∈ BW57, w ∈ BW := fun w h => iBt57 w (List.mem_append_left _ h)
theorem iBt58 : ∀ w ∈ BWt58, w ∈ BW := fun w h => iBt57 w (List.mem_append_right _ h)
theorem iB_BW58 : ∀ w ∈ BW58, w ∈ BW := fun w h => iBt58 w (List.mem_append_left _ h)
theorem iBt59 : ∀ w ∈ BWt59, w ∈ BW := fun w h => iBt58 w (List.mem_append_right _ h)
theorem iB_BW59 : ∀ w ∈ BW59, w ∈ BW := fun w h => iBt59 w (List.mem_append_left _ h)
theorem iBt60 : ∀ w ∈ BWt60, w ∈ BW := fun w h => iBt59 w (List.mem_append_right _ h)
theorem iB_BW60 : ∀ w ∈ BW60, w ∈ BW := fun w h => iBt60 w (List.mem_append_left _ h)
theorem iBt61 : ∀ w ∈ BWt61, w ∈ BW := fun w h => iBt60 w (List.mem_append_right _ h)
theorem iB_BW61 : ∀ w ∈ BW61, w ∈ BW := fun w h => iBt61 w (List.mem_append_left _ h)
theorem iBt62 : ∀ w ∈ BWt62, w ∈ BW := fun w h => iBt61 w (List.mem_append_right _ h)
theorem iB_BW62 : ∀ w ∈ BW62, w ∈ BW := fun w h => iBt62 w (List.mem_append_left _ h)
theorem iBt63 : ∀ w ∈ BWt63, w ∈ BW := fun w h => iBt62 w (List.mem_append_right _ h)
theorem iB_BW63 : ∀ w ∈ BW63, w ∈ BW := fun w h => iBt63 w (List.mem_append_left _ h)
theorem iBt64 : ∀ w ∈ BWt64, w ∈ BW := fun w h => iBt63 w (List.mem_append_right _ h)
theorem iB_BW64 : ∀ w ∈ BW64, w ∈ BW := fun w h => iBt64 w (List.mem_append_left _ h)
theorem iBt65 : ∀ w ∈ BWt65, w ∈ BW := fun w h => iBt64 w (List.mem_append_right _ h)
theorem iB_BW65 : ∀ w ∈ BW65, w ∈ BW := fun w h => iBt65 w (List.mem_append_left _ h)
theorem iBt66 : ∀ w ∈ BWt66, w ∈ BW := fun w h => iBt65 w (List.mem_append_right _ h)
theorem iB_BW66 : ∀ w ∈ BW66, w ∈ BW := fun w h => iBt66 w (List.mem_append_left _ h)
theorem iBt67 : ∀ w ∈ BWt67, w ∈ BW := fun w h => iBt66 w (List.mem_append_right _ h)
theorem iB_BW67 : ∀ w ∈ BW67, w ∈ BW := fun w h => iBt67 w (List.mem_append_left _ h)
theorem iBt68 : ∀ w ∈ BWt68, w ∈ BW := fun w h => iBt67 w (List.mem_append_right _ h)
theorem iB_BW68 : ∀ w ∈ BW68, w ∈ BW := fun w h => iBt68 w (List.mem_append_left _ h)
theorem iBt69 : ∀ w ∈ BWt69, w ∈ BW := fun w h => iBt68 w (List.mem_append_right _ h)
theorem iB_BW69 : ∀ w ∈ BW69, w ∈ BW := fun w h => iBt69 w (List.mem_append_left _ h)
theorem iBt70 : ∀ w ∈ BWt70, w ∈ BW := fun w h => iBt69 w (List.mem_append_right _ h)
theorem iB_BW70 : ∀ w ∈ BW70, w ∈ BW := fun w h => iBt70 w (List.mem_append_left _ h)
theorem iBt71 : ∀ w ∈ BWt71, w ∈ BW := fun w h => iBt70 w (List.mem_append_right _ h)
theorem iB_BW71 : ∀ w ∈ BW71, w ∈ BW := fun w h => iBt71 w (List.mem_append_left _ h)
theorem iBt72 : ∀ w ∈ BWt72, w ∈ BW := fun w h => iBt71 w (List.mem_append_right _ h)
theorem iB_BW72 : ∀ w ∈ BW72, w ∈ BW := fun w h => iBt72 w (List.mem_append_left _ h)
theorem iBt73 : ∀ w ∈ BWt73, w ∈ BW := fun w h => iBt72 w (List.mem_append_right _ h)
theorem iB_BW73 : ∀ w ∈ BW73, w ∈ BW := fun w h => iBt73 w (List.mem_append_left _ h)
theorem iBt74 : ∀ w ∈ BWt74, w ∈ BW := fun w h => iBt73 w (List.mem_append_right _ h)
theorem iB_BW74 : ∀ w ∈ BW74, w ∈ BW := fun w h => iBt74 w (List.mem_append_left _ h)
theorem iBt75 : ∀ w ∈ BWt75, w ∈ BW := fun w h => iBt74 w (List.mem_append_right _ h)
theorem iB_BW75 : ∀ w ∈ BW75, w ∈ BW := fun w h => iBt75 w (List.mem_append_left _ h)
theorem iBt76 : ∀ w ∈ BWt76, w ∈ BW := fun w h => iBt75 w (List.mem_append_right _ h)
theorem iB_BW76 : ∀ w ∈ BW76, w ∈ BW := fun w h => iBt76 w (List.mem_append_left _ h)
theorem iBt77 : ∀ w ∈ BWt77, w ∈ BW := fun w h => iBt76 w (List.mem_append_right _ h)
theorem iB_wsX110 : ∀ w ∈ wsX110, w ∈ BW := fun w h => iBt77 w (List.mem_append_left _ h)
theorem iBt78 : ∀ w ∈ BWt78, w ∈ BW := fun w h => iBt77 w (List.mem_append_right _ h)
theorem iB_wsX120 : ∀ w ∈ wsX120, w ∈ BW := fun w h => iBt78 w (List.mem_append_left _ h)
theorem iBt79 : ∀ w ∈ BWt79, w ∈ BW := fun w h => iBt78 w (List.mem_append_right _ h)
theorem iB_wsX00 : ∀ w ∈ wsX00, w ∈ BW := fun w h => iBt79 w (List.mem_append_left _ h)
theorem iBt80 : ∀ w ∈ BWt80, w ∈ BW := fun w h => iBt79 w (List.mem_append_right _ h)
theorem iB_wsX70 : ∀ w ∈ wsX70, w ∈ BW := fun w h => iBt80 w (List.mem_append_left _ h)
theorem iBt81 : ∀ w ∈ BWt81, w ∈ BW := fun w h => iBt80 w (List.mem_append_right _ h)
theorem iB_wsX30 : ∀ w ∈ wsX30, w ∈ BW := fun w h => iBt81 w (List.mem_append_left _ h)
theorem iBt82 : ∀ w ∈ BWt82, w ∈ BW := fun w h => iBt81 w (List.mem_append_right _ h)
theorem iB_wsX60 : ∀ w ∈ wsX60, w ∈ BW := fun w h => iBt82 w (List.mem_append_left _ h)
theorem iBt83 : ∀ w ∈ BWt83, w ∈ BW := fun w h => iBt82 w (List.mem_append_right _ h)
theorem iB_wsX90 : ∀ w ∈ wsX90, w ∈ BW := fun w h => iBt83 w (List.mem_append_left _ h)
theorem iBt84 : ∀ w ∈ BWt84, w ∈ BW := fun w h => iBt83 w (List.mem_append_right _ h)
theorem iB_wsX100 : ∀ w ∈ wsX100, w ∈ BW := fun w h => iBt84 w (List.mem_append_left _ h)
theorem iBt85 : ∀ w ∈ BWt85, w ∈ BW := fun w h => iBt84 w (List.mem_append_right _ h)
theorem iB_wsX50 : ∀ w ∈ wsX50, w ∈ BW := fun w h => iBt85 w (List.mem_append_left _ h)
theorem iBt86 : ∀ w ∈ BWt86, w ∈ BW := fun w h => iBt85 w (List.mem_append_right _ h)
theorem iB_wsX40 : ∀ w ∈ wsX40, w ∈ BW := fun w h => iBt86 w (List.mem_append_left _ h)
theorem iBt87 : ∀ w ∈ BWt87, w ∈ BW := fun w h => iBt86 w (List.mem_append_right _ h)
theorem iB_wsX20 : ∀ w ∈ wsX20, w ∈ BW := fun w h => iBt87 w (List.mem_append_left _ h)
theorem iBt88 : ∀ w ∈ BWt88, w ∈ BW := fun w h => iBt87 w (List.mem_append_right _ h)
theorem iB_wsX80 : ∀ w ∈ wsX80, w ∈ BW := fun w h => iBt88 w (List.mem_append_left _ h)
theorem iBt89 : ∀ w ∈ BWt89, w ∈ BW := fun w h => iBt88 w (List.mem_append_right _ h)
theorem iB_wsX10 : ∀ w ∈ wsX10, w ∈ BW := fun w h => iBt89 w (h)
theorem gBB : GoodIn BW BW := fun w h => ⟨h, (gBW w h).2⟩
def NestW : List Cond := [.methodLinkNest RX11 9 yX0_init RX11, .fieldLinkNest RX6 52 RX0 "persons" "LInquiryBench$Table;" RX11, .fieldLinkNest RX11 107 RX0 "persons" "LInquiryBench$Table;" RX11, .fieldLinkNest RX7 97 RX0 "persons" "LInquiryBench$Table;" RX11, .fieldLinkNest RX3 32 RX0 "papers" "LInquiryBench$Table;" RX11, .fieldLinkNest RX2 43 RX0 "papers" "LInquiryBench$Table;" RX11, .fieldLinkNest RX11 144 RX0 "papers" "LInquiryBench$Table;" RX11, .fieldLinkNest RX7 94 RX0 "papers" "LInquiryBench$Table;" RX11, .fieldLinkNest RX4 47 RX0 "papers" "LInquiryBench$Table;" RX11, .fieldLinkNest RX7 48 RX0 "stamps" "LInquiryBench$Table;" RX11, .fieldLinkNest RX3 70 RX0 "stamps" "LInquiryBench$Table;" RX11, .fieldLinkNest RX11 157 RX0 "stamps" "LInquiryBench$Table;" RX11, .fieldLinkNest RX6 42 RX0 "versions" "LInquiryBench$Table;" RX11, .fieldLinkNest RX10 54 RX0 "versions" "LInquiryBench$Table;" RX11, .fieldLinkNest RX11 233 RX0 "versions" "LInquiryBench$Table;" RX11, .fieldLinkNest RX6 65 RX0 "lines" "LInquiryBench$Table;" RX11, .fieldLinkNest RX10 70 RX0 "lines" "LInquiryBench$Table;" RX11, .fieldLinkNest RX11 240 RX0 "lines" "LInquiryBench$Table;" RX11, .fieldLinkNest RX6 68 RX0 "steps" "LInquiryBench$Table;" RX11, .fieldLinkNest RX10 73 RX0 "steps" "LInquiryBench$Table;" RX11, .fieldLinkNest RX9 42 RX0 "sayings" "LInquiryBench$Table;" RX11, .fieldLinkNest RX2 55 RX0 "sayings" "LInquiryBench$Table;" RX11, .fieldLinkNest RX4 58 RX0 "sayings" "LInquiryBench$Table;" RX11, .fieldLinkNest RX11 256 RX0 "sayings" "LInquiryBench$Table;" RX11, .fieldLinkNest RX2 58 RX0 "findings" "LInquiryBench$Table;" RX11, .fieldLinkNest RX4 61 RX0 "findings" "LInquiryBench$Table;" RX11, .fieldLinkNest RX11 271 RX0 "findings" "LInquiryBench$Table;" RX11, .fieldLinkNest RX11 283 RX0 "warnings" "LInquiryBench$Table;" RX11, .fieldLinkNest RX5 39 RX0 "questions" "LInquiryBench$Table;" RX11, .fieldLinkNest RX11 286 RX0 "questions" "LInquiryBench$Table;" RX11, .fieldLinkNest RX11 87 RX0 "today" "I" RX11, .fieldLinkNest RX5 48 RX0 "today" "I" RX11, .fieldLinkNest RX10 63 RX0 "today" "I" RX11, .fieldLinkNest RX11 91 RX0 "viewDay" "I" RX11, .fieldLinkNest RX11 94 RX0 "viewLevel" "I" RX11, .fieldLinkNest RX7 72 RX0 "gap" "I" RX11, .fieldLinkNest RX3 77 RX0 "gap" "I" RX11, .fieldLinkNest RX11 177 RX0 "gap" "I" RX11, .methodLinkNest RX7 11 yX1_init RX11, .methodLinkNest RX3 21 yX1_init RX11, .fieldLinkNest RX11 292 RX5 "rows" "LInquiryBench$Table;" RX11, .methodLinkNest RX0 75 yX11_hasBit RX11, .methodLinkNest RX4 30 yX11_isSheet RX11, .methodLinkNest RX4 34 yX11_within RX11, .methodLinkNest RX3 44 yX11_hasBit RX11, .methodLinkNest RX1 31 yX11_within RX11, .methodLinkNest RX7 64 yX11_within RX11, .methodLinkNest RX7 68 yX11_hasBit RX11, .methodLinkNest RX6 98 yX11_hasBit RX11, .methodLinkNest RX6 92 yX11_isThing RX11, .methodLinkNest RX10 89 yX11_within RX11, .methodLinkNest RX9 69 yX11_within RX11, .methodLinkNest RX5 64 yX11_hasBit RX11, .methodLinkNest RX5 73 yX11_within RX11, .methodLinkNest RX4 41 yX11_isShelf RX11, .methodLinkNest RX2 61 yX11_within RX11]
def NestW1 : List Cond := [.methodLinkNest RX11 9 yX0_init RX11, .fieldLinkNest RX6 52 RX0 "persons" "LInquiryBench$Table;" RX11, .fieldLinkNest RX11 107 RX0 "persons" "LInquiryBench$Table;" RX11, .fieldLinkNest RX7 97 RX0 "persons" "LInquiryBench$Table;" RX11, .fieldLinkNest RX3 32 RX0 "papers" "LInquiryBench$Table;" RX11, .fieldLinkNest RX2 43 RX0 "papers" "LInquiryBench$Table;" RX11, .fieldLinkNest RX11 144 RX0 "papers" "LInquiryBench$Table;" RX11, .fieldLinkNest RX7 94 RX0 "papers" "LInquiryBench$Table;" RX11, .fieldLinkNest RX4 47 RX0 "papers" "LInquiryBench$Table;" RX11, .fieldLinkNest RX7 48 RX0 "stamps" "LInquiryBench$Table;" RX11, .fieldLinkNest RX3 70 RX0 "stamps" "LInquiryBench$Table;" RX11, .fieldLinkNest RX11 157 RX0 "stamps" "LInquiryBench$Table;" RX11, .fieldLinkNest RX6 42 RX0 "versions" "LInquiryBench$Table;" RX11, .fieldLinkNest RX10 54 RX0 "versions" "LInquiryBench$Table;" RX11, .fieldLinkNest RX11 233 RX0 "versions" "LInquiryBench$Table;" RX11, .fieldLinkNest RX6 65 RX0 "lines" "LInquiryBench$Table;" RX11, .fieldLinkNest RX10 70 RX0 "lines" "LInquiryBench$Table;" RX11, .fieldLinkNest RX11 240 RX0 "lines" "LInquiryBench$Table;" RX11, .fieldLinkNest RX6 68 RX0 "steps" "LInquiryBench$Table;" RX11, .fieldLinkNest RX10 73 RX0 "steps" "LInquiryBench$Table;" RX11, .fieldLinkNest RX9 42 RX0 "sayings" "LInquiryBench$Table;" RX11, .fieldLinkNest RX2 55 RX0 "sayings" "LInquiryBench$Table;" RX11, .fieldLinkNest RX4 58 RX0 "sayings" "LInquiryBench$Table;" RX11, .fieldLinkNest RX11 256 RX0 "sayings" "LInquiryBench$Table;" RX11, .fieldLinkNest RX2 58 RX0 "findings" "LInquiryBench$Table;" RX11, .fieldLinkNest RX4 61 RX0 "findings" "LInquiryBench$Table;" RX11, .fieldLinkNest RX11 271 RX0 "findings" "LInquiryBench$Table;" RX11, .fieldLinkNest RX11 283 RX0 "warnings" "LInquiryBench$Table;" RX11, .fieldLinkNest RX5 39 RX0 "questions" "LInquiryBench$Table;" RX11, .fieldLinkNest RX11 286 RX0 "questions" "LInquiryBench$Table;" RX11, .fieldLinkNest RX11 87 RX0 "today" "I" RX11, .fieldLinkNest RX5 48 RX0 "today" "I" RX11, .fieldLinkNest RX10 63 RX0 "today" "I" RX11, .fieldLinkNest RX11 91 RX0 "viewDay" "I" RX11, .fieldLinkNest RX11 94 RX0 "viewLevel" "I" RX11, .fieldLinkNest RX7 72 RX0 "gap" "I" RX11, .fieldLinkNest RX3 77 RX0 "gap" "I" RX11, .fieldLinkNest RX11 177 RX0 "gap" "I" RX11, .methodLinkNest RX7 11 yX1_init RX11, .methodLinkNest RX3 21 yX1_init RX11]
set_option maxRecDepth 100000 in
theorem nest_e1 : NestW1 = pk [31, 27, 0, 0, 1, 0, 0, 0, 0, 1, 0, 0, 1, 0, 0, 1, 0, 0, 1, 0, 1, 0, 0, 0, 1, 0, 0, 1, 1, 0, 1, 0, 0, 1, 1, 1, 0, 0, 37, 43] tables_1_1 := by exact Eq.refl _
theorem nest_in1 : ∀ w ∈ NestW1, w ∈ lw_tbl := fun w h => tL_1 w (pk_mem [31, 27, 0, 0, 1, 0, 0, 0, 0, 1, 0, 0, 1, 0, 0, 1, 0, 0, 1, 0, 1, 0, 0, 0, 1, 0, 0, 1, 1, 0, 1, 0, 0, 1, 1, 1, 0, 0, 37, 43] tables_1_1 w (by rw [← nest_e1]; exact h))
def NestW2 : List Cond := [.fieldLinkNest RX11 292 RX5 "rows" "LInquiryBench$Table;" RX11, .methodLinkNest RX0 75 yX11_hasBit RX11]
set_option maxRecDepth 100000 in
theorem nest_e2 : NestW2 = pk [63, 169] tables_1_2 := by exact Eq.refl _
theorem nest_in2 : ∀ w ∈ NestW2, w ∈ lw_tbl := fun w h => tL_2 w (pk_mem [63, 169] tables_1_2 w (by rw [← nest_e2]; exact h))
def NestW3 : List Cond := [.methodLinkNest RX4 30 yX11_isSheet RX11, .methodLinkNest RX4 34 yX11_within RX11, .methodLinkNest RX3 44 yX11_hasBit RX11, .methodLinkNest RX1 31 yX11_within RX11, .methodLinkNest RX7 64 yX11_within RX11, .methodLinkNest RX7 68 yX11_hasBit RX11]
set_option maxRecDepth 100000 in
theorem nest_e3 : NestW3 = pk [60, 8, 14, 34, 7, 0] tables_1_3 := by exact Eq.refl _
theorem nest_in3 : ∀ w ∈ NestW3, w ∈ lw_tbl := fun w h => tL_3 w (pk_mem [60, 8, 14, 34, 7, 0] tables_1_3 w (by rw [← nest_e3]; exact h))
def NestW4 : List Cond := [.methodLinkNest RX6 98 yX11_hasBit RX11, .methodLinkNest RX6 92 yX11_isThing RX11, .methodLinkNest RX10 89 yX11_within RX11]
set_option maxRecDepth 100000 in
theorem nest_e4 : NestW4 = pk [13, 0, 46] tables_1_4 := by exact Eq.refl _
theorem nest_in4 : ∀ w ∈ NestW4, w ∈ lw_tbl := fun w h => tL_4 w (pk_mem [13, 0, 46] tables_1_4 w (by rw [← nest_e4]; exact h))
def NestW5 : List Cond := [.methodLinkNest RX9 69 yX11_within RX11, .methodLinkNest RX5 64 yX11_hasBit RX11, .methodLinkNest RX5 73 yX11_within RX11, .methodLinkNest RX4 41 yX11_isShelf RX11, .methodLinkNest RX2 61 yX11_within RX11]
set_option maxRecDepth 100000 in
theorem nest_e5 : NestW5 = pk [7, 71, 10, 72, 35] tables_1_5 := by exact Eq.refl _
theorem nest_in5 : ∀ w ∈ NestW5, w ∈ lw_tbl := fun w h => tL_5 w (pk_mem [7, 71, 10, 72, 35] tables_1_5 w (by rw [← nest_e5]; exact h))
theorem nest_in : ∀ w ∈ NestW, w ∈ lw_tbl := by
  show ∀ w ∈ NestW1 ++ (NestW2 ++ (NestW3 ++ (NestW4 ++ (NestW5)))), w ∈ lw_tbl
  exact List.forall_mem_append.mpr ⟨nest_in1, List.forall_mem_append.mpr ⟨nest_in2, List.forall_mem_append.mpr ⟨nest_in3, List.forall_mem_append.mpr ⟨nest_in4, nest_in5⟩⟩⟩⟩
