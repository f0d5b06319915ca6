section WR
variable {p : Program} {l : Launch} {e : Env} {R : Room} {s : State} {m : MethodId} {args : Array Value} {below : List Frame} {meth : Method} {c : Code} {H : Heap} {locs : List Loc} {cells slots : Nat} {Q : State → Prop}
variable {pc : Nat} {ls : Array Slot} {rest : List Value} {G : GG} {ws : va_W} {A : Nat → Prop} {y0 : MethodName} {b0 : ByteArray} {mL0 : Nat} {rt0 : Option FieldType} {a : Nat} {H0 : Heap}
theorem dX10_takesHead_0 : decode cX10_takesHead 0 = .ok (.iload_n 2, 1) := by decide +kernel
theorem dX10_takesHead_1 : decode cX10_takesHead 1 = .ok (.tableswitch 131 0 2 #[27, 84, 93], 27) := by decide +kernel
theorem dX10_takesHead_28 : decode cX10_takesHead 28 = .ok (.aload_n 0, 1) := by decide +kernel
theorem dX10_takesHead_29 : decode cX10_takesHead 29 = .ok (.iload_n 1, 1) := by decide +kernel
theorem dX10_takesHead_30 : decode cX10_takesHead 30 = .ok (.iconst 1, 1) := by decide +kernel
theorem dX10_takesHead_31 : decode cX10_takesHead 31 = .ok (.bipush 99, 2) := by decide +kernel
theorem dX10_takesHead_33 : decode cX10_takesHead 33 = .ok (.invokevirtual 135, 3) := by decide +kernel
theorem m_853 : Cond.code yX10_takesNumber cX10_takesNumber 5 (some .boolean) ∈ BW := List.mem_of_getElem? (i := 853) (by decide +kernel)
theorem m_850 : Cond.methodLink RX10 135 yX10_takesNumber ∈ BW := List.mem_of_getElem? (i := 850) (by decide +kernel)
theorem m_851 : Cond.instanceMethod yX10_takesNumber ∈ BW := List.mem_of_getElem? (i := 851) (by decide +kernel)
theorem m_852 : Cond.selects RX10 yX10_takesNumber yX10_takesNumber ∈ BW := List.mem_of_getElem? (i := 852) (by decide +kernel)
theorem si_X10_135 : SV RX10 RX10 135 yX10_takesNumber cX10_takesNumber 5 (some .boolean) 3 := ⟨⟨m_850, m_851, m_852, m_37, m_853⟩, rfl, by decide +kernel, by decide +kernel, by decide +kernel⟩
theorem dX10_takesHead_36 : decode cX10_takesHead 36 = .ok (.ifCond .eq 47, 3) := by decide +kernel
theorem dX10_takesHead_39 : decode cX10_takesHead 39 = .ok (.aload_n 0, 1) := by decide +kernel
theorem dX10_takesHead_40 : decode cX10_takesHead 40 = .ok (.ldc 138, 2) := by decide +kernel
theorem dX10_takesHead_42 : decode cX10_takesHead 42 = .ok (.invokevirtual 140, 3) := by decide +kernel
theorem m_861 : Cond.code yX10_takesName cX10_takesName 2 (some .boolean) ∈ BW := List.mem_of_getElem? (i := 861) (by decide +kernel)
theorem m_858 : Cond.methodLink RX10 140 yX10_takesName ∈ BW := List.mem_of_getElem? (i := 858) (by decide +kernel)
theorem m_859 : Cond.instanceMethod yX10_takesName ∈ BW := List.mem_of_getElem? (i := 859) (by decide +kernel)
theorem m_860 : Cond.selects RX10 yX10_takesName yX10_takesName ∈ BW := List.mem_of_getElem? (i := 860) (by decide +kernel)
theorem si_X10_140 : SV RX10 RX10 140 yX10_takesName cX10_takesName 2 (some .boolean) 1 := ⟨⟨m_858, m_859, m_860, m_37, m_861⟩, rfl, by decide +kernel, by decide +kernel, by decide +kernel⟩
theorem dX10_takesHead_45 : decode cX10_takesHead 45 = .ok (.ifCond .eq 38, 3) := by decide +kernel
theorem dX10_takesHead_48 : decode cX10_takesHead 48 = .ok (.aload_n 0, 1) := by decide +kernel
theorem dX10_takesHead_49 : decode cX10_takesHead 49 = .ok (.iload_n 1, 1) := by decide +kernel
theorem dX10_takesHead_50 : decode cX10_takesHead 50 = .ok (.iconst 2, 1) := by decide +kernel
theorem dX10_takesHead_51 : decode cX10_takesHead 51 = .ok (.bipush 7, 2) := by decide +kernel
theorem dX10_takesHead_53 : decode cX10_takesHead 53 = .ok (.invokevirtual 135, 3) := by decide +kernel
theorem dX10_takesHead_56 : decode cX10_takesHead 56 = .ok (.ifCond .eq 27, 3) := by decide +kernel
theorem dX10_takesHead_59 : decode cX10_takesHead 59 = .ok (.aload_n 0, 1) := by decide +kernel
theorem dX10_takesHead_60 : decode cX10_takesHead 60 = .ok (.ldc 143, 2) := by decide +kernel
theorem dX10_takesHead_62 : decode cX10_takesHead 62 = .ok (.invokevirtual 140, 3) := by decide +kernel
theorem dX10_takesHead_65 : decode cX10_takesHead 65 = .ok (.ifCond .eq 18, 3) := by decide +kernel
theorem dX10_takesHead_68 : decode cX10_takesHead 68 = .ok (.aload_n 0, 1) := by decide +kernel
theorem dX10_takesHead_69 : decode cX10_takesHead 69 = .ok (.iload_n 1, 1) := by decide +kernel
theorem dX10_takesHead_70 : decode cX10_takesHead 70 = .ok (.iconst 3, 1) := by decide +kernel
theorem dX10_takesHead_71 : decode cX10_takesHead 71 = .ok (.bipush 7, 2) := by decide +kernel
theorem dX10_takesHead_73 : decode cX10_takesHead 73 = .ok (.invokevirtual 135, 3) := by decide +kernel
theorem dX10_takesHead_76 : decode cX10_takesHead 76 = .ok (.ifCond .eq 7, 3) := by decide +kernel
theorem dX10_takesHead_79 : decode cX10_takesHead 79 = .ok (.iconst 1, 1) := by decide +kernel
theorem dX10_takesHead_80 : decode cX10_takesHead 80 = .ok (.goto 4, 3) := by decide +kernel
theorem dX10_takesHead_84 : decode cX10_takesHead 84 = .ok (.ireturn, 1) := by decide +kernel
theorem dX10_takesHead_83 : decode cX10_takesHead 83 = .ok (.iconst 0, 1) := by decide +kernel
theorem dX10_takesHead_85 : decode cX10_takesHead 85 = .ok (.aload_n 0, 1) := by decide +kernel
theorem dX10_takesHead_86 : decode cX10_takesHead 86 = .ok (.iload_n 1, 1) := by decide +kernel
theorem dX10_takesHead_87 : decode cX10_takesHead 87 = .ok (.iconst 1, 1) := by decide +kernel
theorem dX10_takesHead_88 : decode cX10_takesHead 88 = .ok (.bipush 99, 2) := by decide +kernel
theorem dX10_takesHead_90 : decode cX10_takesHead 90 = .ok (.invokevirtual 135, 3) := by decide +kernel
theorem dX10_takesHead_93 : decode cX10_takesHead 93 = .ok (.ireturn, 1) := by decide +kernel
theorem dX10_takesHead_94 : decode cX10_takesHead 94 = .ok (.aload_n 0, 1) := by decide +kernel
theorem dX10_takesHead_95 : decode cX10_takesHead 95 = .ok (.iload_n 1, 1) := by decide +kernel
theorem dX10_takesHead_96 : decode cX10_takesHead 96 = .ok (.iconst 1, 1) := by decide +kernel
theorem dX10_takesHead_97 : decode cX10_takesHead 97 = .ok (.bipush 7, 2) := by decide +kernel
theorem dX10_takesHead_99 : decode cX10_takesHead 99 = .ok (.invokevirtual 135, 3) := by decide +kernel
theorem dX10_takesHead_102 : decode cX10_takesHead 102 = .ok (.ifCond .eq 28, 3) := by decide +kernel
theorem dX10_takesHead_105 : decode cX10_takesHead 105 = .ok (.aload_n 0, 1) := by decide +kernel
theorem dX10_takesHead_106 : decode cX10_takesHead 106 = .ok (.ldc 145, 2) := by decide +kernel
theorem dX10_takesHead_108 : decode cX10_takesHead 108 = .ok (.invokevirtual 140, 3) := by decide +kernel
theorem dX10_takesHead_111 : decode cX10_takesHead 111 = .ok (.ifCond .eq 19, 3) := by decide +kernel
theorem dX10_takesHead_114 : decode cX10_takesHead 114 = .ok (.aload_n 0, 1) := by decide +kernel
theorem dX10_takesHead_115 : decode cX10_takesHead 115 = .ok (.iload_n 1, 1) := by decide +kernel
theorem dX10_takesHead_116 : decode cX10_takesHead 116 = .ok (.iconst 2, 1) := by decide +kernel
theorem dX10_takesHead_117 : decode cX10_takesHead 117 = .ok (.sipush 999, 3) := by decide +kernel
theorem dX10_takesHead_120 : decode cX10_takesHead 120 = .ok (.invokevirtual 135, 3) := by decide +kernel
theorem dX10_takesHead_123 : decode cX10_takesHead 123 = .ok (.ifCond .eq 7, 3) := by decide +kernel
theorem dX10_takesHead_126 : decode cX10_takesHead 126 = .ok (.iconst 1, 1) := by decide +kernel
theorem dX10_takesHead_127 : decode cX10_takesHead 127 = .ok (.goto 4, 3) := by decide +kernel
theorem dX10_takesHead_131 : decode cX10_takesHead 131 = .ok (.ireturn, 1) := by decide +kernel
theorem dX10_takesHead_130 : decode cX10_takesHead 130 = .ok (.iconst 0, 1) := by decide +kernel
theorem sw_0_2 {x : Int32} : ¬ x = 0 → ¬ x = 1 → ¬ x = 2 →  (x.toInt < 0 ∨ 2 < x.toInt) := by
  intros
  simp only [← Int32.toInt_inj] at *
  have hk : ∀ k : Int, x.toInt = k → x.toInt = k := fun _ h => h
  have k0 : (0 : Int32).toInt = 0 := by decide
  have k1 : (1 : Int32).toInt = 1 := by decide
  have k2 : (2 : Int32).toInt = 2 := by decide
  omega
theorem dX10_takesHead_132 : decode cX10_takesHead 132 = .ok (.aload_n 0, 1) := by decide +kernel
theorem dX10_takesHead_133 : decode cX10_takesHead 133 = .ok (.iload_n 1, 1) := by decide +kernel
theorem dX10_takesHead_134 : decode cX10_takesHead 134 = .ok (.iconst 1, 1) := by decide +kernel
theorem dX10_takesHead_135 : decode cX10_takesHead 135 = .ok (.bipush 9, 2) := by decide +kernel
theorem dX10_takesHead_137 : decode cX10_takesHead 137 = .ok (.invokevirtual 135, 3) := by decide +kernel
theorem dX10_takesHead_140 : decode cX10_takesHead 140 = .ok (.ireturn, 1) := by decide +kernel
theorem dX10_takesLine_0 : decode cX10_takesLine 0 = .ok (.aload_n 0, 1) := by decide +kernel
theorem dX10_takesLine_1 : decode cX10_takesLine 1 = .ok (.getfield 20, 3) := by decide +kernel
theorem dX10_takesLine_4 : decode cX10_takesLine 4 = .ok (.invokevirtual 59, 3) := by decide +kernel
theorem dX10_takesLine_7 : decode cX10_takesLine 7 = .ok (.istore_n 1, 1) := by decide +kernel
theorem dX10_takesLine_8 : decode cX10_takesLine 8 = .ok (.iload_n 1, 1) := by decide +kernel
theorem dX10_takesLine_9 : decode cX10_takesLine 9 = .ok (.ifCond .ge 8, 3) := by decide +kernel
theorem dX10_takesLine_17 : decode cX10_takesLine 17 = .ok (.iconst 1, 1) := by decide +kernel
theorem dX10_takesLine_18 : decode cX10_takesLine 18 = .ok (.istore_n 2, 1) := by decide +kernel
theorem dX10_takesLine_19 : decode cX10_takesLine 19 = .ok (.iload_n 2, 1) := by decide +kernel
theorem dX10_takesLine_20 : decode cX10_takesLine 20 = .ok (.iconst 3, 1) := by decide +kernel
theorem dX10_takesLine_21 : decode cX10_takesLine 21 = .ok (.if_icmp .gt 20, 3) := by decide +kernel
theorem dX10_takesLine_24 : decode cX10_takesLine 24 = .ok (.aload_n 0, 1) := by decide +kernel
theorem dX10_takesLine_25 : decode cX10_takesLine 25 = .ok (.getfield 20, 3) := by decide +kernel
theorem dX10_takesLine_28 : decode cX10_takesLine 28 = .ok (.iload_n 1, 1) := by decide +kernel
theorem dX10_takesLine_29 : decode cX10_takesLine 29 = .ok (.iload_n 2, 1) := by decide +kernel
theorem dX10_takesLine_30 : decode cX10_takesLine 30 = .ok (.bipush (-9), 2) := by decide +kernel
theorem dX10_takesLine_32 : decode cX10_takesLine 32 = .ok (.invokevirtual 66, 3) := by decide +kernel
theorem dX10_takesLine_35 : decode cX10_takesLine 35 = .ok (.iinc 2 1, 3) := by decide +kernel
theorem dX10_takesLine_38 : decode cX10_takesLine 38 = .ok (.goto (-19), 3) := by decide +kernel
theorem dX10_takesLine_41 : decode cX10_takesLine 41 = .ok (.aload_n 0, 1) := by decide +kernel
theorem dX10_takesLine_42 : decode cX10_takesLine 42 = .ok (.getfield 20, 3) := by decide +kernel
theorem dX10_takesLine_45 : decode cX10_takesLine 45 = .ok (.iload_n 1, 1) := by decide +kernel
theorem dX10_takesLine_46 : decode cX10_takesLine 46 = .ok (.iconst 4, 1) := by decide +kernel
theorem dX10_takesLine_47 : decode cX10_takesLine 47 = .ok (.iconst 0, 1) := by decide +kernel
theorem dX10_takesLine_48 : decode cX10_takesLine 48 = .ok (.invokevirtual 66, 3) := by decide +kernel
theorem dX10_takesLine_51 : decode cX10_takesLine 51 = .ok (.aload_n 0, 1) := by decide +kernel
theorem dX10_takesLine_52 : decode cX10_takesLine 52 = .ok (.getfield 20, 3) := by decide +kernel
theorem dX10_takesLine_55 : decode cX10_takesLine 55 = .ok (.iload_n 1, 1) := by decide +kernel
theorem dX10_takesLine_56 : decode cX10_takesLine 56 = .ok (.iconst 5, 1) := by decide +kernel
theorem dX10_takesLine_57 : decode cX10_takesLine 57 = .ok (.aload_n 0, 1) := by decide +kernel
theorem dX10_takesLine_58 : decode cX10_takesLine 58 = .ok (.getfield 24, 3) := by decide +kernel
theorem dX10_takesLine_61 : decode cX10_takesLine 61 = .ok (.invokevirtual 71, 3) := by decide +kernel
theorem m_788 : Cond.methodLink RX10 71 yX8_count ∈ BW := List.mem_of_getElem? (i := 788) (by decide +kernel)
theorem si_X10_71 : SV RX10 RX8 71 yX8_count cX8_count 1 (some .int) 0 := ⟨⟨m_788, m_235, m_236, m_56, m_237⟩, rfl, by decide +kernel, by decide +kernel, by decide +kernel⟩
theorem dX10_takesLine_64 : decode cX10_takesLine 64 = .ok (.invokevirtual 66, 3) := by decide +kernel
theorem dX10_takesLine_67 : decode cX10_takesLine 67 = .ok (.aload_n 0, 1) := by decide +kernel
theorem dX10_takesLine_68 : decode cX10_takesLine 68 = .ok (.getfield 20, 3) := by decide +kernel
theorem dX10_takesLine_71 : decode cX10_takesLine 71 = .ok (.iload_n 1, 1) := by decide +kernel
theorem dX10_takesLine_72 : decode cX10_takesLine 72 = .ok (.bipush 6, 2) := by decide +kernel
theorem dX10_takesLine_74 : decode cX10_takesLine 74 = .ok (.iconst 0, 1) := by decide +kernel
theorem dX10_takesLine_75 : decode cX10_takesLine 75 = .ok (.invokevirtual 66, 3) := by decide +kernel
theorem dX10_takesLine_78 : decode cX10_takesLine 78 = .ok (.aload_n 0, 1) := by decide +kernel
theorem dX10_takesLine_79 : decode cX10_takesLine 79 = .ok (.invokevirtual 112, 3) := by decide +kernel
theorem m_792 : Cond.code yX10_sortHere cX10_sortHere 1 (some .int) ∈ BW := List.mem_of_getElem? (i := 792) (by decide +kernel)
theorem m_789 : Cond.methodLink RX10 112 yX10_sortHere ∈ BW := List.mem_of_getElem? (i := 789) (by decide +kernel)
theorem m_790 : Cond.instanceMethod yX10_sortHere ∈ BW := List.mem_of_getElem? (i := 790) (by decide +kernel)
theorem m_791 : Cond.selects RX10 yX10_sortHere yX10_sortHere ∈ BW := List.mem_of_getElem? (i := 791) (by decide +kernel)
theorem si_X10_112 : SV RX10 RX10 112 yX10_sortHere cX10_sortHere 1 (some .int) 0 := ⟨⟨m_789, m_790, m_791, m_37, m_792⟩, rfl, by decide +kernel, by decide +kernel, by decide +kernel⟩
theorem dX10_takesLine_82 : decode cX10_takesLine 82 = .ok (.istore_n 2, 1) := by decide +kernel
theorem dX10_takesLine_83 : decode cX10_takesLine 83 = .ok (.iload_n 2, 1) := by decide +kernel
theorem dX10_takesLine_84 : decode cX10_takesLine 84 = .ok (.ifCond .ge 8, 3) := by decide +kernel
theorem dX10_takesLine_92 : decode cX10_takesLine 92 = .ok (.aload_n 0, 1) := by decide +kernel
theorem dX10_takesLine_93 : decode cX10_takesLine 93 = .ok (.getfield 20, 3) := by decide +kernel
theorem dX10_takesLine_96 : decode cX10_takesLine 96 = .ok (.iload_n 1, 1) := by decide +kernel
theorem dX10_takesLine_97 : decode cX10_takesLine 97 = .ok (.iconst 0, 1) := by decide +kernel
theorem dX10_takesLine_98 : decode cX10_takesLine 98 = .ok (.iload_n 2, 1) := by decide +kernel
theorem dX10_takesLine_99 : decode cX10_takesLine 99 = .ok (.invokevirtual 66, 3) := by decide +kernel
theorem dX10_takesLine_102 : decode cX10_takesLine 102 = .ok (.aload_n 0, 1) := by decide +kernel
theorem dX10_takesLine_103 : decode cX10_takesLine 103 = .ok (.invokevirtual 47, 3) := by decide +kernel
theorem dX10_takesLine_106 : decode cX10_takesLine 106 = .ok (.aload_n 0, 1) := by decide +kernel
theorem dX10_takesLine_107 : decode cX10_takesLine 107 = .ok (.iload_n 1, 1) := by decide +kernel
theorem dX10_takesLine_108 : decode cX10_takesLine 108 = .ok (.iload_n 2, 1) := by decide +kernel
theorem dX10_takesLine_109 : decode cX10_takesLine 109 = .ok (.invokevirtual 115, 3) := by decide +kernel
theorem m_849 : Cond.code yX10_takesHead cX10_takesHead 3 (some .boolean) ∈ BW := List.mem_of_getElem? (i := 849) (by decide +kernel)
theorem m_846 : Cond.methodLink RX10 115 yX10_takesHead ∈ BW := List.mem_of_getElem? (i := 846) (by decide +kernel)
theorem m_847 : Cond.instanceMethod yX10_takesHead ∈ BW := List.mem_of_getElem? (i := 847) (by decide +kernel)
theorem m_848 : Cond.selects RX10 yX10_takesHead yX10_takesHead ∈ BW := List.mem_of_getElem? (i := 848) (by decide +kernel)
theorem si_X10_115 : SV RX10 RX10 115 yX10_takesHead cX10_takesHead 3 (some .boolean) 2 := ⟨⟨m_846, m_847, m_848, m_37, m_849⟩, rfl, by decide +kernel, by decide +kernel, by decide +kernel⟩
theorem dX10_takesLine_112 : decode cX10_takesLine 112 = .ok (.ifCond .ne 5, 3) := by decide +kernel
theorem dX10_takesLine_117 : decode cX10_takesLine 117 = .ok (.iload_n 2, 1) := by decide +kernel
theorem dX10_takesLine_118 : decode cX10_takesLine 118 = .ok (.iconst 3, 1) := by decide +kernel
theorem dX10_takesLine_119 : decode cX10_takesLine 119 = .ok (.if_icmp .eq 63, 3) := by decide +kernel
theorem dX10_takesLine_182 : decode cX10_takesLine 182 = .ok (.aload_n 0, 1) := by decide +kernel
theorem dX10_takesLine_183 : decode cX10_takesLine 183 = .ok (.bipush 59, 2) := by decide +kernel
theorem dX10_takesLine_185 : decode cX10_takesLine 185 = .ok (.invokevirtual 124, 3) := by decide +kernel
theorem dX10_takesLine_188 : decode cX10_takesLine 188 = .ok (.ireturn, 1) := by decide +kernel
theorem dX10_takesLine_122 : decode cX10_takesLine 122 = .ok (.aload_n 0, 1) := by decide +kernel
theorem dX10_takesLine_123 : decode cX10_takesLine 123 = .ok (.ldc 119, 2) := by decide +kernel
theorem dX10_takesLine_125 : decode cX10_takesLine 125 = .ok (.invokevirtual 102, 3) := by decide +kernel
theorem dX10_takesLine_128 : decode cX10_takesLine 128 = .ok (.ifCond .eq 54, 3) := by decide +kernel
theorem dX10_takesLine_131 : decode cX10_takesLine 131 = .ok (.aload_n 0, 1) := by decide +kernel
theorem dX10_takesLine_132 : decode cX10_takesLine 132 = .ok (.invokevirtual 47, 3) := by decide +kernel
theorem dX10_takesLine_135 : decode cX10_takesLine 135 = .ok (.aload_n 0, 1) := by decide +kernel
theorem dX10_takesLine_136 : decode cX10_takesLine 136 = .ok (.getfield 20, 3) := by decide +kernel
theorem dX10_takesLine_139 : decode cX10_takesLine 139 = .ok (.iload_n 1, 1) := by decide +kernel
theorem dX10_takesLine_140 : decode cX10_takesLine 140 = .ok (.iconst 4, 1) := by decide +kernel
theorem dX10_takesLine_141 : decode cX10_takesLine 141 = .ok (.iconst 1, 1) := by decide +kernel
theorem dX10_takesLine_142 : decode cX10_takesLine 142 = .ok (.invokevirtual 66, 3) := by decide +kernel
theorem dX10_takesLine_145 : decode cX10_takesLine 145 = .ok (.aload_n 0, 1) := by decide +kernel
theorem dX10_takesLine_146 : decode cX10_takesLine 146 = .ok (.iconst 0, 1) := by decide +kernel
theorem dX10_takesLine_147 : decode cX10_takesLine 147 = .ok (.invokevirtual 121, 3) := by decide +kernel
theorem dX10_takesLine_150 : decode cX10_takesLine 150 = .ok (.ifCond .ne 5, 3) := by decide +kernel
theorem dX10_takesLine_155 : decode cX10_takesLine 155 = .ok (.aload_n 0, 1) := by decide +kernel
theorem dX10_takesLine_156 : decode cX10_takesLine 156 = .ok (.getfield 20, 3) := by decide +kernel
theorem dX10_takesLine_159 : decode cX10_takesLine 159 = .ok (.iload_n 1, 1) := by decide +kernel
theorem dX10_takesLine_160 : decode cX10_takesLine 160 = .ok (.bipush 6, 2) := by decide +kernel
theorem dX10_takesLine_162 : decode cX10_takesLine 162 = .ok (.aload_n 0, 1) := by decide +kernel
theorem dX10_takesLine_163 : decode cX10_takesLine 163 = .ok (.getfield 24, 3) := by decide +kernel
theorem dX10_takesLine_166 : decode cX10_takesLine 166 = .ok (.invokevirtual 71, 3) := by decide +kernel
theorem dX10_takesLine_169 : decode cX10_takesLine 169 = .ok (.aload_n 0, 1) := by decide +kernel
theorem dX10_takesLine_170 : decode cX10_takesLine 170 = .ok (.getfield 20, 3) := by decide +kernel
theorem dX10_takesLine_173 : decode cX10_takesLine 173 = .ok (.iload_n 1, 1) := by decide +kernel
theorem dX10_takesLine_174 : decode cX10_takesLine 174 = .ok (.iconst 5, 1) := by decide +kernel
theorem dX10_takesLine_175 : decode cX10_takesLine 175 = .ok (.invokevirtual 74, 3) := by decide +kernel
theorem m_894 : Cond.methodLink RX10 74 yX8_at ∈ BW := List.mem_of_getElem? (i := 894) (by decide +kernel)
theorem si_X10_74 : SV RX10 RX8 74 yX8_at cX8_at 3 (some .int) 2 := ⟨⟨m_894, m_239, m_240, m_56, m_241⟩, rfl, by decide +kernel, by decide +kernel, by decide +kernel⟩
theorem dX10_takesLine_178 : decode cX10_takesLine 178 = .ok (.isub, 1) := by decide +kernel
theorem dX10_takesLine_179 : decode cX10_takesLine 179 = .ok (.invokevirtual 66, 3) := by decide +kernel
theorem dX10_takesLine_153 : decode cX10_takesLine 153 = .ok (.iconst 0, 1) := by decide +kernel
theorem dX10_takesLine_154 : decode cX10_takesLine 154 = .ok (.ireturn, 1) := by decide +kernel
theorem dX10_takesLine_115 : decode cX10_takesLine 115 = .ok (.iconst 0, 1) := by decide +kernel
theorem dX10_takesLine_116 : decode cX10_takesLine 116 = .ok (.ireturn, 1) := by decide +kernel
theorem dX10_takesLine_87 : decode cX10_takesLine 87 = .ok (.aload_n 0, 1) := by decide +kernel
theorem dX10_takesLine_88 : decode cX10_takesLine 88 = .ok (.invokevirtual 106, 3) := by decide +kernel
theorem dX10_takesLine_91 : decode cX10_takesLine 91 = .ok (.ireturn, 1) := by decide +kernel
theorem dX10_takesLine_12 : decode cX10_takesLine 12 = .ok (.aload_n 0, 1) := by decide +kernel
theorem dX10_takesLine_13 : decode cX10_takesLine 13 = .ok (.invokevirtual 106, 3) := by decide +kernel
theorem dX10_takesLine_16 : decode cX10_takesLine 16 = .ok (.ireturn, 1) := by decide +kernel
theorem dX10_scan_0 : decode cX10_scan 0 = .ok (.aload_n 0, 1) := by decide +kernel
theorem dX10_scan_1 : decode cX10_scan 1 = .ok (.getfield 20, 3) := by decide +kernel
theorem dX10_scan_4 : decode cX10_scan 4 = .ok (.iconst 0, 1) := by decide +kernel
theorem dX10_scan_5 : decode cX10_scan 5 = .ok (.invokevirtual 43, 3) := by decide +kernel
theorem m_760 : Cond.methodLink RX10 43 yX8_cut ∈ BW := List.mem_of_getElem? (i := 760) (by decide +kernel)
theorem si_X10_43 : SV RX10 RX8 43 yX8_cut cX8_cut 2 none 1 := ⟨⟨m_760, m_761, m_762, m_56, m_763⟩, rfl, by decide +kernel, by decide +kernel, by decide +kernel⟩
theorem dX10_scan_8 : decode cX10_scan 8 = .ok (.aload_n 0, 1) := by decide +kernel
theorem dX10_scan_9 : decode cX10_scan 9 = .ok (.getfield 24, 3) := by decide +kernel
theorem dX10_scan_12 : decode cX10_scan 12 = .ok (.iconst 0, 1) := by decide +kernel
theorem dX10_scan_13 : decode cX10_scan 13 = .ok (.invokevirtual 43, 3) := by decide +kernel
theorem dX10_scan_16 : decode cX10_scan 16 = .ok (.aload_n 0, 1) := by decide +kernel
theorem dX10_scan_17 : decode cX10_scan 17 = .ok (.iconst (-1), 1) := by decide +kernel
theorem dX10_scan_18 : decode cX10_scan 18 = .ok (.putfield 40, 3) := by decide +kernel
theorem dX10_scan_21 : decode cX10_scan 21 = .ok (.aload_n 0, 1) := by decide +kernel
theorem dX10_scan_22 : decode cX10_scan 22 = .ok (.iconst 0, 1) := by decide +kernel
theorem dX10_scan_23 : decode cX10_scan 23 = .ok (.putfield 37, 3) := by decide +kernel
theorem dX10_scan_26 : decode cX10_scan 26 = .ok (.aload_n 0, 1) := by decide +kernel
theorem dX10_scan_27 : decode cX10_scan 27 = .ok (.invokevirtual 47, 3) := by decide +kernel
theorem dX10_scan_30 : decode cX10_scan 30 = .ok (.iconst 0, 1) := by decide +kernel
theorem dX10_scan_31 : decode cX10_scan 31 = .ok (.istore_n 1, 1) := by decide +kernel
theorem dX10_scan_32 : decode cX10_scan 32 = .ok (.iload_n 1, 1) := by decide +kernel
theorem dX10_scan_33 : decode cX10_scan 33 = .ok (.bipush 9, 2) := by decide +kernel
theorem dX10_scan_35 : decode cX10_scan 35 = .ok (.if_icmp .gt 29, 3) := by decide +kernel
theorem dX10_scan_64 : decode cX10_scan 64 = .ok (.aload_n 0, 1) := by decide +kernel
theorem dX10_scan_65 : decode cX10_scan 65 = .ok (.getfield 40, 3) := by decide +kernel
theorem gf_X10_40 (hC : CX p s m meth c y0 b0 mL0 rt0 args) (hy0 : y0.cls = RX10) (hK : KK G s) (hP : va_P G.1 vwCl ws H) (q0 : Nat) {fs : List Value} {v : Value} (he : ws[q0]? = some (a, .inr (10, fs))) (hv : fs[7]? = some v) (hdg : decode b0 pc = .ok (.getfield 40, 3)) (kk : W p l e R s m args below meth c H locs cells slots Q (F0 m (pc + 3) ls (v :: rest))) : W p l e R s m args below meth c H locs cells slots Q (F0 m pc ls (.ref a :: rest)) := by
  obtain ⟨hx, hb, hr, hml, hB, hown, hlocks, hnm⟩ := hC
  rw [hy0] at hown
  exact va_get (ci := 10) (C := RX10) (T := TX10) (N := 8) hx hb hB in_X10 hown hK.1 hP q0 he rfl 7 (by decide) (hB _ m_147) (fun _ h => h) hv hdg kk
theorem dX10_scan_68 : decode cX10_scan 68 = .ok (.ireturn, 1) := by decide +kernel
theorem dX10_scan_38 : decode cX10_scan 38 = .ok (.aload_n 0, 1) := by decide +kernel
theorem dX10_scan_39 : decode cX10_scan 39 = .ok (.getfield 31, 3) := by decide +kernel
theorem dX10_scan_42 : decode cX10_scan 42 = .ok (.iconst (-1), 1) := by decide +kernel
theorem dX10_scan_43 : decode cX10_scan 43 = .ok (.if_icmp .eq 21, 3) := by decide +kernel
theorem dX10_scan_46 : decode cX10_scan 46 = .ok (.aload_n 0, 1) := by decide +kernel
theorem dX10_scan_47 : decode cX10_scan 47 = .ok (.invokevirtual 50, 3) := by decide +kernel
theorem m_781 : Cond.code yX10_takesLine cX10_takesLine 3 (some .boolean) ∈ BW := List.mem_of_getElem? (i := 781) (by decide +kernel)
theorem m_778 : Cond.methodLink RX10 50 yX10_takesLine ∈ BW := List.mem_of_getElem? (i := 778) (by decide +kernel)
theorem m_779 : Cond.instanceMethod yX10_takesLine ∈ BW := List.mem_of_getElem? (i := 779) (by decide +kernel)
theorem m_780 : Cond.selects RX10 yX10_takesLine yX10_takesLine ∈ BW := List.mem_of_getElem? (i := 780) (by decide +kernel)
theorem si_X10_50 : SV RX10 RX10 50 yX10_takesLine cX10_takesLine 3 (some .boolean) 0 := ⟨⟨m_778, m_779, m_780, m_37, m_781⟩, rfl, by decide +kernel, by decide +kernel, by decide +kernel⟩
theorem dX10_scan_50 : decode cX10_scan 50 = .ok (.ifCond .ne 8, 3) := by decide +kernel
theorem dX10_scan_58 : decode cX10_scan 58 = .ok (.iinc 1 1, 3) := by decide +kernel
theorem dX10_scan_61 : decode cX10_scan 61 = .ok (.goto (-29), 3) := by decide +kernel
theorem dX10_scan_53 : decode cX10_scan 53 = .ok (.aload_n 0, 1) := by decide +kernel
theorem dX10_scan_54 : decode cX10_scan 54 = .ok (.getfield 40, 3) := by decide +kernel
theorem dX10_scan_57 : decode cX10_scan 57 = .ok (.ireturn, 1) := by decide +kernel
theorem dX10_store_0 : decode cX10_store 0 = .ok (.aload_n 1, 1) := by decide +kernel
theorem dX10_store_1 : decode cX10_store 1 = .ok (.getfield 54, 3) := by decide +kernel
theorem nm_13 : Cond.fieldLinkNest RX10 54 RX0 "versions" "LInquiryBench$Table;" RX11 ∈ NestW := List.mem_of_getElem? (i := 13) (by decide +kernel)
theorem gf_X10_54 (hC : CX p s m meth c y0 b0 mL0 rt0 args) (hy0 : y0.cls = RX10) (hK : KK G s) (hP : va_P G.1 vwCl ws H) (q0 : Nat) {fs : List Value} {v : Value} (he : ws[q0]? = some (a, .inr (0, fs))) (hv : fs[3]? = some v) (hdg : decode b0 pc = .ok (.getfield 54, 3)) (kk : W p l e R s m args below meth c H locs cells slots Q (F0 m (pc + 3) ls (v :: rest))) : W p l e R s m args below meth c H locs cells slots Q (F0 m pc ls (.ref a :: rest)) := by
  obtain ⟨hx, hb, hr, hml, hB, hown, hlocks, hnm⟩ := hC
  rw [hy0] at hown
  exact va_getN (ci := 0) (C := RX0) (T := TX0) (N := 14) hx hb hB in_X0 hown hK.1 hP q0 he rfl 3 (by decide) (va_Nw.use rfl (hK.2.1 _ nm_13)) (fun _ h => h) hv hdg kk
theorem dX10_store_4 : decode cX10_store 4 = .ok (.invokevirtual 59, 3) := by decide +kernel
theorem dX10_store_7 : decode cX10_store 7 = .ok (.istore_n 2, 1) := by decide +kernel
theorem dX10_store_8 : decode cX10_store 8 = .ok (.aload_n 1, 1) := by decide +kernel
theorem dX10_store_9 : decode cX10_store 9 = .ok (.getfield 54, 3) := by decide +kernel
theorem dX10_store_12 : decode cX10_store 12 = .ok (.iload_n 2, 1) := by decide +kernel
theorem dX10_store_13 : decode cX10_store 13 = .ok (.iconst 0, 1) := by decide +kernel
theorem dX10_store_14 : decode cX10_store 14 = .ok (.aload_n 1, 1) := by decide +kernel
theorem dX10_store_15 : decode cX10_store 15 = .ok (.getfield 63, 3) := by decide +kernel
theorem nm_32 : Cond.fieldLinkNest RX10 63 RX0 "today" "I" RX11 ∈ NestW := List.mem_of_getElem? (i := 32) (by decide +kernel)
theorem gf_X10_63 (hC : CX p s m meth c y0 b0 mL0 rt0 args) (hy0 : y0.cls = RX10) (hK : KK G s) (hP : va_P G.1 vwCl ws H) (q0 : Nat) {fs : List Value} {v : Value} (he : ws[q0]? = some (a, .inr (0, fs))) (hv : fs[10]? = some v) (hdg : decode b0 pc = .ok (.getfield 63, 3)) (kk : W p l e R s m args below meth c H locs cells slots Q (F0 m (pc + 3) ls (v :: rest))) : W p l e R s m args below meth c H locs cells slots Q (F0 m pc ls (.ref a :: rest)) := by
  obtain ⟨hx, hb, hr, hml, hB, hown, hlocks, hnm⟩ := hC
  rw [hy0] at hown
  exact va_getN (ci := 0) (C := RX0) (T := TX0) (N := 14) hx hb hB in_X0 hown hK.1 hP q0 he rfl 10 (by decide) (va_Nw.use rfl (hK.2.1 _ nm_32)) (fun _ h => h) hv hdg kk
theorem dX10_store_18 : decode cX10_store 18 = .ok (.invokevirtual 66, 3) := by decide +kernel
theorem dX10_store_21 : decode cX10_store 21 = .ok (.aload_n 1, 1) := by decide +kernel
theorem dX10_store_22 : decode cX10_store 22 = .ok (.getfield 54, 3) := by decide +kernel
theorem dX10_store_25 : decode cX10_store 25 = .ok (.iload_n 2, 1) := by decide +kernel
theorem dX10_store_26 : decode cX10_store 26 = .ok (.iconst 1, 1) := by decide +kernel
theorem dX10_store_27 : decode cX10_store 27 = .ok (.aload_n 1, 1) := by decide +kernel
theorem dX10_store_28 : decode cX10_store 28 = .ok (.getfield 70, 3) := by decide +kernel
theorem nm_16 : Cond.fieldLinkNest RX10 70 RX0 "lines" "LInquiryBench$Table;" RX11 ∈ NestW := List.mem_of_getElem? (i := 16) (by decide +kernel)
theorem gf_X10_70 (hC : CX p s m meth c y0 b0 mL0 rt0 args) (hy0 : y0.cls = RX10) (hK : KK G s) (hP : va_P G.1 vwCl ws H) (q0 : Nat) {fs : List Value} {v : Value} (he : ws[q0]? = some (a, .inr (0, fs))) (hv : fs[4]? = some v) (hdg : decode b0 pc = .ok (.getfield 70, 3)) (kk : W p l e R s m args below meth c H locs cells slots Q (F0 m (pc + 3) ls (v :: rest))) : W p l e R s m args below meth c H locs cells slots Q (F0 m pc ls (.ref a :: rest)) := by
  obtain ⟨hx, hb, hr, hml, hB, hown, hlocks, hnm⟩ := hC
  rw [hy0] at hown
  exact va_getN (ci := 0) (C := RX0) (T := TX0) (N := 14) hx hb hB in_X0 hown hK.1 hP q0 he rfl 4 (by decide) (va_Nw.use rfl (hK.2.1 _ nm_16)) (fun _ h => h) hv hdg kk
theorem dX10_store_31 : decode cX10_store 31 = .ok (.invokevirtual 71, 3) := by decide +kernel
theorem dX10_store_34 : decode cX10_store 34 = .ok (.invokevirtual 66, 3) := by decide +kernel
theorem dX10_store_37 : decode cX10_store 37 = .ok (.aload_n 1, 1) := by decide +kernel
theorem dX10_store_38 : decode cX10_store 38 = .ok (.getfield 54, 3) := by decide +kernel
theorem dX10_store_41 : decode cX10_store 41 = .ok (.iload_n 2, 1) := by decide +kernel
theorem dX10_store_42 : decode cX10_store 42 = .ok (.iconst 2, 1) := by decide +kernel
theorem dX10_store_43 : decode cX10_store 43 = .ok (.aload_n 0, 1) := by decide +kernel
theorem dX10_store_44 : decode cX10_store 44 = .ok (.getfield 20, 3) := by decide +kernel
theorem dX10_store_47 : decode cX10_store 47 = .ok (.invokevirtual 71, 3) := by decide +kernel
theorem dX10_store_50 : decode cX10_store 50 = .ok (.invokevirtual 66, 3) := by decide +kernel
theorem dX10_store_53 : decode cX10_store 53 = .ok (.aload_n 1, 1) := by decide +kernel
theorem dX10_store_54 : decode cX10_store 54 = .ok (.getfield 73, 3) := by decide +kernel
theorem nm_19 : Cond.fieldLinkNest RX10 73 RX0 "steps" "LInquiryBench$Table;" RX11 ∈ NestW := List.mem_of_getElem? (i := 19) (by decide +kernel)
theorem gf_X10_73 (hC : CX p s m meth c y0 b0 mL0 rt0 args) (hy0 : y0.cls = RX10) (hK : KK G s) (hP : va_P G.1 vwCl ws H) (q0 : Nat) {fs : List Value} {v : Value} (he : ws[q0]? = some (a, .inr (0, fs))) (hv : fs[5]? = some v) (hdg : decode b0 pc = .ok (.getfield 73, 3)) (kk : W p l e R s m args below meth c H locs cells slots Q (F0 m (pc + 3) ls (v :: rest))) : W p l e R s m args below meth c H locs cells slots Q (F0 m pc ls (.ref a :: rest)) := by
  obtain ⟨hx, hb, hr, hml, hB, hown, hlocks, hnm⟩ := hC
  rw [hy0] at hown
  exact va_getN (ci := 0) (C := RX0) (T := TX0) (N := 14) hx hb hB in_X0 hown hK.1 hP q0 he rfl 5 (by decide) (va_Nw.use rfl (hK.2.1 _ nm_19)) (fun _ h => h) hv hdg kk
theorem dX10_store_57 : decode cX10_store 57 = .ok (.invokevirtual 71, 3) := by decide +kernel
theorem dX10_store_60 : decode cX10_store 60 = .ok (.istore_n 3, 1) := by decide +kernel
theorem dX10_store_61 : decode cX10_store 61 = .ok (.iconst 0, 1) := by decide +kernel
theorem dX10_store_62 : decode cX10_store 62 = .ok (.istore 4, 2) := by decide +kernel
theorem dX10_store_64 : decode cX10_store 64 = .ok (.iload 4, 2) := by decide +kernel
theorem dX10_store_66 : decode cX10_store 66 = .ok (.aload_n 0, 1) := by decide +kernel
theorem dX10_store_67 : decode cX10_store 67 = .ok (.getfield 20, 3) := by decide +kernel
theorem dX10_store_70 : decode cX10_store 70 = .ok (.invokevirtual 71, 3) := by decide +kernel
theorem dX10_store_73 : decode cX10_store 73 = .ok (.if_icmp .ge 78, 3) := by decide +kernel
theorem dX10_store_151 : decode cX10_store 151 = .ok (.iconst 0, 1) := by decide +kernel
theorem dX10_store_152 : decode cX10_store 152 = .ok (.istore 4, 2) := by decide +kernel
theorem dX10_store_154 : decode cX10_store 154 = .ok (.iload 4, 2) := by decide +kernel
theorem dX10_store_156 : decode cX10_store 156 = .ok (.aload_n 0, 1) := by decide +kernel
theorem dX10_store_157 : decode cX10_store 157 = .ok (.getfield 24, 3) := by decide +kernel
theorem dX10_store_160 : decode cX10_store 160 = .ok (.invokevirtual 71, 3) := by decide +kernel
theorem dX10_store_163 : decode cX10_store 163 = .ok (.if_icmp .ge 34, 3) := by decide +kernel
theorem dX10_store_197 : decode cX10_store 197 = .ok (.iload_n 2, 1) := by decide +kernel
theorem dX10_store_198 : decode cX10_store 198 = .ok (.ireturn, 1) := by decide +kernel
theorem dX10_store_166 : decode cX10_store 166 = .ok (.aload_n 1, 1) := by decide +kernel
theorem dX10_store_167 : decode cX10_store 167 = .ok (.getfield 73, 3) := by decide +kernel
theorem dX10_store_170 : decode cX10_store 170 = .ok (.aload_n 1, 1) := by decide +kernel
theorem dX10_store_171 : decode cX10_store 171 = .ok (.getfield 73, 3) := by decide +kernel
theorem dX10_store_174 : decode cX10_store 174 = .ok (.invokevirtual 59, 3) := by decide +kernel
theorem dX10_store_177 : decode cX10_store 177 = .ok (.iconst 0, 1) := by decide +kernel
theorem dX10_store_178 : decode cX10_store 178 = .ok (.aload_n 0, 1) := by decide +kernel
theorem dX10_store_179 : decode cX10_store 179 = .ok (.getfield 24, 3) := by decide +kernel
theorem dX10_store_182 : decode cX10_store 182 = .ok (.iload 4, 2) := by decide +kernel
theorem dX10_store_184 : decode cX10_store 184 = .ok (.iconst 0, 1) := by decide +kernel
theorem dX10_store_185 : decode cX10_store 185 = .ok (.invokevirtual 74, 3) := by decide +kernel
theorem dX10_store_188 : decode cX10_store 188 = .ok (.invokevirtual 66, 3) := by decide +kernel
theorem dX10_store_191 : decode cX10_store 191 = .ok (.iinc 4 1, 3) := by decide +kernel
theorem dX10_store_194 : decode cX10_store 194 = .ok (.goto (-40), 3) := by decide +kernel
theorem dX10_store_76 : decode cX10_store 76 = .ok (.aload_n 1, 1) := by decide +kernel
theorem dX10_store_77 : decode cX10_store 77 = .ok (.getfield 70, 3) := by decide +kernel
theorem dX10_store_80 : decode cX10_store 80 = .ok (.invokevirtual 59, 3) := by decide +kernel
theorem dX10_store_83 : decode cX10_store 83 = .ok (.istore 5, 2) := by decide +kernel
theorem dX10_store_85 : decode cX10_store 85 = .ok (.iconst 0, 1) := by decide +kernel
theorem dX10_store_86 : decode cX10_store 86 = .ok (.istore 6, 2) := by decide +kernel
theorem dX10_store_88 : decode cX10_store 88 = .ok (.iload 6, 2) := by decide +kernel
theorem dX10_store_90 : decode cX10_store 90 = .ok (.bipush 6, 2) := by decide +kernel
theorem dX10_store_92 : decode cX10_store 92 = .ok (.if_icmp .gt 31, 3) := by decide +kernel
theorem dX10_store_95 : decode cX10_store 95 = .ok (.aload_n 1, 1) := by decide +kernel
theorem dX10_store_96 : decode cX10_store 96 = .ok (.getfield 70, 3) := by decide +kernel
theorem dX10_store_99 : decode cX10_store 99 = .ok (.iload 5, 2) := by decide +kernel
theorem dX10_store_101 : decode cX10_store 101 = .ok (.iload 6, 2) := by decide +kernel
theorem dX10_store_103 : decode cX10_store 103 = .ok (.aload_n 0, 1) := by decide +kernel
theorem dX10_store_104 : decode cX10_store 104 = .ok (.getfield 20, 3) := by decide +kernel
theorem dX10_store_107 : decode cX10_store 107 = .ok (.iload 4, 2) := by decide +kernel
theorem dX10_store_109 : decode cX10_store 109 = .ok (.iload 6, 2) := by decide +kernel
theorem dX10_store_111 : decode cX10_store 111 = .ok (.invokevirtual 74, 3) := by decide +kernel
theorem dX10_store_114 : decode cX10_store 114 = .ok (.invokevirtual 66, 3) := by decide +kernel
theorem dX10_store_117 : decode cX10_store 117 = .ok (.iinc 6 1, 3) := by decide +kernel
theorem dX10_store_120 : decode cX10_store 120 = .ok (.goto (-32), 3) := by decide +kernel
theorem dX10_store_123 : decode cX10_store 123 = .ok (.aload_n 1, 1) := by decide +kernel
theorem dX10_store_124 : decode cX10_store 124 = .ok (.getfield 70, 3) := by decide +kernel
theorem dX10_store_127 : decode cX10_store 127 = .ok (.iload 5, 2) := by decide +kernel
theorem dX10_store_129 : decode cX10_store 129 = .ok (.iconst 5, 1) := by decide +kernel
theorem dX10_store_130 : decode cX10_store 130 = .ok (.aload_n 0, 1) := by decide +kernel
theorem dX10_store_131 : decode cX10_store 131 = .ok (.getfield 20, 3) := by decide +kernel
theorem dX10_store_134 : decode cX10_store 134 = .ok (.iload 4, 2) := by decide +kernel
theorem dX10_store_136 : decode cX10_store 136 = .ok (.iconst 5, 1) := by decide +kernel
theorem dX10_store_137 : decode cX10_store 137 = .ok (.invokevirtual 74, 3) := by decide +kernel
theorem dX10_store_140 : decode cX10_store 140 = .ok (.iload_n 3, 1) := by decide +kernel
theorem dX10_store_141 : decode cX10_store 141 = .ok (.iadd, 1) := by decide +kernel
theorem dX10_store_142 : decode cX10_store 142 = .ok (.invokevirtual 66, 3) := by decide +kernel
theorem dX10_store_145 : decode cX10_store 145 = .ok (.iinc 4 1, 3) := by decide +kernel
theorem dX10_store_148 : decode cX10_store 148 = .ok (.goto (-84), 3) := by decide +kernel
theorem dX11_read_0 : decode cX11_read 0 = .ok (.aload_n 0, 1) := by decide +kernel
theorem dX11_read_1 : decode cX11_read 1 = .ok (.getfield 58, 3) := by decide +kernel
theorem dX11_read_4 : decode cX11_read 4 = .ok (.invokevirtual 227, 3) := by decide +kernel
theorem m_759 : Cond.code yX10_scan cX10_scan 2 (some .int) ∈ BW := List.mem_of_getElem? (i := 759) (by decide +kernel)
theorem m_756 : Cond.methodLink RX11 227 yX10_scan ∈ BW := List.mem_of_getElem? (i := 756) (by decide +kernel)
theorem m_757 : Cond.instanceMethod yX10_scan ∈ BW := List.mem_of_getElem? (i := 757) (by decide +kernel)
theorem m_758 : Cond.selects RX10 yX10_scan yX10_scan ∈ BW := List.mem_of_getElem? (i := 758) (by decide +kernel)
theorem si_X11_227 : SV RX11 RX10 227 yX10_scan cX10_scan 2 (some .int) 0 := ⟨⟨m_756, m_757, m_758, m_37, m_759⟩, rfl, by decide +kernel, by decide +kernel, by decide +kernel⟩
theorem dX11_read_7 : decode cX11_read 7 = .ok (.istore_n 1, 1) := by decide +kernel
theorem dX11_read_8 : decode cX11_read 8 = .ok (.aload_n 0, 1) := by decide +kernel
theorem dX11_read_9 : decode cX11_read 9 = .ok (.getfield 58, 3) := by decide +kernel
theorem dX11_read_12 : decode cX11_read 12 = .ok (.invokevirtual 230, 3) := by decide +kernel
theorem m_898 : Cond.code yX10_clear cX10_clear 1 none ∈ BW := List.mem_of_getElem? (i := 898) (by decide +kernel)
theorem m_895 : Cond.methodLink RX11 230 yX10_clear ∈ BW := List.mem_of_getElem? (i := 895) (by decide +kernel)
theorem m_896 : Cond.instanceMethod yX10_clear ∈ BW := List.mem_of_getElem? (i := 896) (by decide +kernel)
theorem m_897 : Cond.selects RX10 yX10_clear yX10_clear ∈ BW := List.mem_of_getElem? (i := 897) (by decide +kernel)
theorem si_X11_230 : SV RX11 RX10 230 yX10_clear cX10_clear 1 none 0 := ⟨⟨m_895, m_896, m_897, m_37, m_898⟩, rfl, by decide +kernel, by decide +kernel, by decide +kernel⟩
theorem dX11_read_15 : decode cX11_read 15 = .ok (.iload_n 1, 1) := by decide +kernel
theorem dX11_read_16 : decode cX11_read 16 = .ok (.ifCond .lt 8, 3) := by decide +kernel
theorem dX11_read_24 : decode cX11_read 24 = .ok (.aload_n 0, 1) := by decide +kernel
theorem dX11_read_25 : decode cX11_read 25 = .ok (.getfield 15, 3) := by decide +kernel
theorem dX11_read_28 : decode cX11_read 28 = .ok (.getfield 233, 3) := by decide +kernel
theorem dX11_read_31 : decode cX11_read 31 = .ok (.invokevirtual 111, 3) := by decide +kernel
theorem dX11_read_34 : decode cX11_read 34 = .ok (.ifCond .eq 6, 3) := by decide +kernel
theorem dX11_read_37 : decode cX11_read 37 = .ok (.bipush (-2), 2) := by decide +kernel
theorem dX11_read_39 : decode cX11_read 39 = .ok (.ireturn, 1) := by decide +kernel
theorem dX11_read_40 : decode cX11_read 40 = .ok (.aload_n 0, 1) := by decide +kernel
theorem dX11_read_41 : decode cX11_read 41 = .ok (.getfield 58, 3) := by decide +kernel
theorem dX11_read_44 : decode cX11_read 44 = .ok (.aload_n 0, 1) := by decide +kernel
theorem dX11_read_45 : decode cX11_read 45 = .ok (.getfield 15, 3) := by decide +kernel
theorem dX11_read_48 : decode cX11_read 48 = .ok (.invokevirtual 236, 3) := by decide +kernel
theorem m_902 : Cond.code yX10_store cX10_store 7 (some .int) ∈ BW := List.mem_of_getElem? (i := 902) (by decide +kernel)
theorem m_899 : Cond.methodLink RX11 236 yX10_store ∈ BW := List.mem_of_getElem? (i := 899) (by decide +kernel)
theorem m_900 : Cond.instanceMethod yX10_store ∈ BW := List.mem_of_getElem? (i := 900) (by decide +kernel)
theorem m_901 : Cond.selects RX10 yX10_store yX10_store ∈ BW := List.mem_of_getElem? (i := 901) (by decide +kernel)
theorem si_X11_236 : SV RX11 RX10 236 yX10_store cX10_store 7 (some .int) 1 := ⟨⟨m_899, m_900, m_901, m_37, m_902⟩, rfl, by decide +kernel, by decide +kernel, by decide +kernel⟩
theorem dX11_read_51 : decode cX11_read 51 = .ok (.ireturn, 1) := by decide +kernel
theorem dX11_read_19 : decode cX11_read 19 = .ok (.bipush (-100), 2) := by decide +kernel
theorem dX11_read_21 : decode cX11_read 21 = .ok (.iload_n 1, 1) := by decide +kernel
theorem dX11_read_22 : decode cX11_read 22 = .ok (.isub, 1) := by decide +kernel
theorem dX11_read_23 : decode cX11_read 23 = .ok (.ireturn, 1) := by decide +kernel
end WR
set_option maxHeartbeats 4000000 in
set_option maxRecDepth 100000 in
theorem t_takesHead (l : Launch) (G : GG) (K : OO) (h0 : Nat) (li : Int32) (so : Int32) (tby : Nat) (kt : Nat) (tln : Nat) (tsp : Nat) (tkd : Int32) (ks : Nat) (kn : Nat) (tf9 : Int32) (fby : Nat → Int32) (tlnc : Nat) (kln : Nat) (ftln : Nat → Int32) (hkt : kt ≤ 240) (hks : ks ≤ 240) (hkn : kn ≤ 240) (hkln : kln ≤ 9) : MIo l G K yX10_takesHead cX10_takesHead 3 (some .boolean) 8 0 0 [.ref h0, .int li, .int so] [(h0, .inr (10, [.ref tby, .int (nI kt), .ref tln, .ref tsp, .int tkd, .int (nI ks), .int (nI kn), .int tf9])), (tby, .inl (G.2.1, 240, .inl fby)), (tln, .inr (8, [.int 9, .int 7, .ref tlnc, .int (nI kln)])), (tlnc, .inl (G.2.1, 63, .inl ftln))] (fun (r : Int32) (u : Int32 × Nat × Nat × Int32 × (Nat → Int32)) => (r = 1 ∨ r = 0) ∧ (u.2.1 ≤ 240 ∧ u.2.2.1 ≤ 240)) (fun u : Int32 × Nat × Nat × Int32 × (Nat → Int32) => [(h0, .inr (10, [.ref tby, .int (nI kt), .ref tln, .ref tsp, .int u.1, .int (nI u.2.1), .int (nI u.2.2.1), .int u.2.2.2.1])), (tby, .inl (G.2.1, 240, .inl fby)), (tln, .inr (8, [.int 9, .int 7, .ref tlnc, .int (nI kln)])), (tlnc, .inl (G.2.1, 63, .inl u.2.2.2.2))]) := by
  refine MIo.start (by decide +kernel) (Nat.le_of_ble_eq_true rfl) ?_
  intro p e s m below meth c A ls hC hK hP hD hS hA hl hO
  have hl : lv_has ls 3 [(0, .ref h0), (1, .int li), (2, .int so)] := hl
  obtain ⟨hx, hb, hr, hml, hB, hown, hlocks, hnm⟩ := id hC
  refine lv_iload_n hx hb dX10_takesHead_0 rfl (lv_at hl 2 rfl) ?_
  by_cases c_1_3683 : so = 0
  · refine lv_tableIn (tgt := 28) hx hb dX10_takesHead_1 (by rw [c_1_3683]; decide) (by rw [c_1_3683]; decide) (by rw [c_1_3683]; rfl) (by decide) ?_
    refine lv_aload_n hx hb dX10_takesHead_28 rfl (lv_at hl 0 rfl) ?_
    refine lv_iload_n hx hb dX10_takesHead_29 rfl (lv_at hl 1 rfl) ?_
    refine lv_iconst (v := 1) hx hb dX10_takesHead_30 (by decide) ?_
    refine lv_bipush (v := 99) hx hb dX10_takesHead_31 (by decide) ?_
    refine iV (wr := []) hC hK hl hP hD hS hA (t_takesNumber l G h0 li 1 99 tby kt tln tsp tkd ks kn tf9 fby tlnc kln ftln (by omega) (by omega) (by omega) (by omega)) si_X10_135 [0, 1, 2, 3] [] rfl rfl (by decide) rfl (by decide) (by decide) rfl rfl rfl rfl rfl (Nat.le_of_ble_eq_true rfl) ⟨Nat.le_of_ble_eq_true rfl, Nat.le_of_ble_eq_true rfl⟩ ⟨Nat.le_of_ble_eq_true rfl, Nat.le_of_ble_eq_true rfl⟩ dX10_takesHead_33 (fun r3684 u3685 H locs hr3684 hP hD hS => ?_)
    obtain ⟨kd13686, ks13687, kn13688, tf13689, gtln3690⟩ := u3685
    try dsimp only at hr3684
    have hP : va_P G.1 vwCl [(h0, .inr (10, [.ref tby, .int (nI kt), .ref tln, .ref tsp, .int kd13686, .int (nI ks13687), .int (nI kn13688), .int tf13689])), (tby, .inl (G.2.1, 240, .inl fby)), (tln, .inr (8, [.int 9, .int 7, .ref tlnc, .int (nI kln)])), (tlnc, .inl (G.2.1, 63, .inl gtln3690))] H := hP
    have hD : va_D A [(h0, .inr (10, [.ref tby, .int (nI kt), .ref tln, .ref tsp, .int kd13686, .int (nI ks13687), .int (nI kn13688), .int tf13689])), (tby, .inl (G.2.1, 240, .inl fby)), (tln, .inr (8, [.int 9, .int 7, .ref tlnc, .int (nI kln)])), (tlnc, .inl (G.2.1, 63, .inl gtln3690))] := hD
    obtain ⟨hr3684, w3691⟩ := hr3684
    rcases hr3684 with rfl | rfl
    · refine lv_if_eq (tgt := 83) hx hb dX10_takesHead_36 (by decide) (fun c9 => absurd c9 (by decide)) (fun _ => ?_)
      refine lv_aload_n hx hb dX10_takesHead_39 rfl (lv_at hl 0 rfl) ?_
      refine va_ldcS (index := 138) (tx := "of") hx hb hown (hO.2.1 5 (by decide)) dX10_takesHead_40 ?_
      refine iVo (wr := [(tln, .inr (8, [.int 9, .int 7, .ref tlnc, .int (nI kln)])), (tlnc, .inl (G.2.1, 63, .inl gtln3690))]) hO hC hK hl hP hD hS hA (t_takesName l G K 5 h0 tby kt tln tsp kd13686 ks13687 kn13688 tf13689 fby (by omega) (by omega) (by omega) ((by decide))) si_X10_140 [0, 1] [2, 3] rfl rfl (by decide) rfl (by decide) (by decide) rfl rfl rfl rfl rfl (Nat.le_of_ble_eq_true rfl) ⟨Nat.le_of_ble_eq_true rfl, Nat.le_of_ble_eq_true rfl⟩ ⟨Nat.le_of_ble_eq_true rfl, Nat.le_of_ble_eq_true rfl⟩ dX10_takesHead_42 (fun r3693 u3694 H locs hr3693 hP hD hS => ?_)
      obtain ⟨kd13695, ks13696, kn13697, tf13698⟩ := u3694
      try dsimp only at hr3693
      have hP : va_P G.1 vwCl [(tln, .inr (8, [.int 9, .int 7, .ref tlnc, .int (nI kln)])), (tlnc, .inl (G.2.1, 63, .inl gtln3690)), (h0, .inr (10, [.ref tby, .int (nI kt), .ref tln, .ref tsp, .int kd13695, .int (nI ks13696), .int (nI kn13697), .int tf13698])), (tby, .inl (G.2.1, 240, .inl fby))] H := hP
      have hD : va_D A [(tln, .inr (8, [.int 9, .int 7, .ref tlnc, .int (nI kln)])), (tlnc, .inl (G.2.1, 63, .inl gtln3690)), (h0, .inr (10, [.ref tby, .int (nI kt), .ref tln, .ref tsp, .int kd13695, .int (nI ks13696), .int (nI kn13697), .int tf13698])), (tby, .inl (G.2.1, 240, .inl fby))] := hD
      obtain ⟨hr3693, w3699⟩ := hr3693
      rcases hr3693 with rfl | rfl
      · refine lv_if_eq (tgt := 83) hx hb dX10_takesHead_45 (by decide) (fun c9 => absurd c9 (by decide)) (fun _ => ?_)
        refine lv_aload_n hx hb dX10_takesHead_48 rfl (lv_at hl 0 rfl) ?_
        refine lv_iload_n hx hb dX10_takesHead_49 rfl (lv_at hl 1 rfl) ?_
        refine lv_iconst (v := 2) hx hb dX10_takesHead_50 (by decide) ?_
        refine lv_bipush (v := 7) hx hb dX10_takesHead_51 (by decide) ?_
        refine iV (wr := []) hC hK hl hP hD hS hA (t_takesNumber l G h0 li 2 7 tby kt tln tsp kd13695 ks13696 kn13697 tf13698 fby tlnc kln gtln3690 (by omega) (by omega) (by omega) (by omega)) si_X10_135 [2, 3, 0, 1] [] rfl rfl (by decide) rfl (by decide) (by decide) rfl rfl rfl rfl rfl (Nat.le_of_ble_eq_true rfl) ⟨Nat.le_of_ble_eq_true rfl, Nat.le_of_ble_eq_true rfl⟩ ⟨Nat.le_of_ble_eq_true rfl, Nat.le_of_ble_eq_true rfl⟩ dX10_takesHead_53 (fun r3701 u3702 H locs hr3701 hP hD hS => ?_)
        obtain ⟨kd13703, ks13704, kn13705, tf13706, gtln3707⟩ := u3702
        try dsimp only at hr3701
        have hP : va_P G.1 vwCl [(h0, .inr (10, [.ref tby, .int (nI kt), .ref tln, .ref tsp, .int kd13703, .int (nI ks13704), .int (nI kn13705), .int tf13706])), (tby, .inl (G.2.1, 240, .inl fby)), (tln, .inr (8, [.int 9, .int 7, .ref tlnc, .int (nI kln)])), (tlnc, .inl (G.2.1, 63, .inl gtln3707))] H := hP
        have hD : va_D A [(h0, .inr (10, [.ref tby, .int (nI kt), .ref tln, .ref tsp, .int kd13703, .int (nI ks13704), .int (nI kn13705), .int tf13706])), (tby, .inl (G.2.1, 240, .inl fby)), (tln, .inr (8, [.int 9, .int 7, .ref tlnc, .int (nI kln)])), (tlnc, .inl (G.2.1, 63, .inl gtln3707))] := hD
        obtain ⟨hr3701, w3708⟩ := hr3701
        rcases hr3701 with rfl | rfl
        · refine lv_if_eq (tgt := 83) hx hb dX10_takesHead_56 (by decide) (fun c9 => absurd c9 (by decide)) (fun _ => ?_)
          refine lv_aload_n hx hb dX10_takesHead_59 rfl (lv_at hl 0 rfl) ?_
          refine va_ldcS (index := 143) (tx := "from") hx hb hown (hO.2.1 6 (by decide)) dX10_takesHead_60 ?_
          refine iVo (wr := [(tln, .inr (8, [.int 9, .int 7, .ref tlnc, .int (nI kln)])), (tlnc, .inl (G.2.1, 63, .inl gtln3707))]) hO hC hK hl hP hD hS hA (t_takesName l G K 6 h0 tby kt tln tsp kd13703 ks13704 kn13705 tf13706 fby (by omega) (by omega) (by omega) ((by decide))) si_X10_140 [0, 1] [2, 3] rfl rfl (by decide) rfl (by decide) (by decide) rfl rfl rfl rfl rfl (Nat.le_of_ble_eq_true rfl) ⟨Nat.le_of_ble_eq_true rfl, Nat.le_of_ble_eq_true rfl⟩ ⟨Nat.le_of_ble_eq_true rfl, Nat.le_of_ble_eq_true rfl⟩ dX10_takesHead_62 (fun r3710 u3711 H locs hr3710 hP hD hS => ?_)
          obtain ⟨kd13712, ks13713, kn13714, tf13715⟩ := u3711
          try dsimp only at hr3710
          have hP : va_P G.1 vwCl [(tln, .inr (8, [.int 9, .int 7, .ref tlnc, .int (nI kln)])), (tlnc, .inl (G.2.1, 63, .inl gtln3707)), (h0, .inr (10, [.ref tby, .int (nI kt), .ref tln, .ref tsp, .int kd13712, .int (nI ks13713), .int (nI kn13714), .int tf13715])), (tby, .inl (G.2.1, 240, .inl fby))] H := hP
          have hD : va_D A [(tln, .inr (8, [.int 9, .int 7, .ref tlnc, .int (nI kln)])), (tlnc, .inl (G.2.1, 63, .inl gtln3707)), (h0, .inr (10, [.ref tby, .int (nI kt), .ref tln, .ref tsp, .int kd13712, .int (nI ks13713), .int (nI kn13714), .int tf13715])), (tby, .inl (G.2.1, 240, .inl fby))] := hD
          obtain ⟨hr3710, w3716⟩ := hr3710
          rcases hr3710 with rfl | rfl
          · refine lv_if_eq (tgt := 83) hx hb dX10_takesHead_65 (by decide) (fun c9 => absurd c9 (by decide)) (fun _ => ?_)
            refine lv_aload_n hx hb dX10_takesHead_68 rfl (lv_at hl 0 rfl) ?_
            refine lv_iload_n hx hb dX10_takesHead_69 rfl (lv_at hl 1 rfl) ?_
            refine lv_iconst (v := 3) hx hb dX10_takesHead_70 (by decide) ?_
            refine lv_bipush (v := 7) hx hb dX10_takesHead_71 (by decide) ?_
            refine iV (wr := []) hC hK hl hP hD hS hA (t_takesNumber l G h0 li 3 7 tby kt tln tsp kd13712 ks13713 kn13714 tf13715 fby tlnc kln gtln3707 (by omega) (by omega) (by omega) (by omega)) si_X10_135 [2, 3, 0, 1] [] rfl rfl (by decide) rfl (by decide) (by decide) rfl rfl rfl rfl rfl (Nat.le_of_ble_eq_true rfl) ⟨Nat.le_of_ble_eq_true rfl, Nat.le_of_ble_eq_true rfl⟩ ⟨Nat.le_of_ble_eq_true rfl, Nat.le_of_ble_eq_true rfl⟩ dX10_takesHead_73 (fun r3718 u3719 H locs hr3718 hP hD hS => ?_)
            obtain ⟨kd13720, ks13721, kn13722, tf13723, gtln3724⟩ := u3719
            try dsimp only at hr3718
            have hP : va_P G.1 vwCl [(h0, .inr (10, [.ref tby, .int (nI kt), .ref tln, .ref tsp, .int kd13720, .int (nI ks13721), .int (nI kn13722), .int tf13723])), (tby, .inl (G.2.1, 240, .inl fby)), (tln, .inr (8, [.int 9, .int 7, .ref tlnc, .int (nI kln)])), (tlnc, .inl (G.2.1, 63, .inl gtln3724))] H := hP
            have hD : va_D A [(h0, .inr (10, [.ref tby, .int (nI kt), .ref tln, .ref tsp, .int kd13720, .int (nI ks13721), .int (nI kn13722), .int tf13723])), (tby, .inl (G.2.1, 240, .inl fby)), (tln, .inr (8, [.int 9, .int 7, .ref tlnc, .int (nI kln)])), (tlnc, .inl (G.2.1, 63, .inl gtln3724))] := hD
            obtain ⟨hr3718, w3725⟩ := hr3718
            rcases hr3718 with rfl | rfl
            · refine lv_if_eq (tgt := 83) hx hb dX10_takesHead_76 (by decide) (fun c9 => absurd c9 (by decide)) (fun _ => ?_)
              refine lv_iconst (v := 1) hx hb dX10_takesHead_79 (by decide) ?_
              refine lv_goto (tgt := 84) hx hb dX10_takesHead_80 (by decide) ?_
              exact RI (v := 1) hC hP hD hS [0, 1, 2, 3] (kd13720, ks13721, kn13722, tf13723, gtln3724) rfl rfl (by decide) (⟨Or.inl (rfl), by dsimp only; omega⟩) (by decide +kernel) dX10_takesHead_84
            · refine lv_if_eq (tgt := 83) hx hb dX10_takesHead_76 (by decide) (fun _ => ?_) (fun c9 => absurd (by decide) c9)
              refine lv_iconst (v := 0) hx hb dX10_takesHead_83 (by decide) ?_
              exact RI (v := 0) hC hP hD hS [0, 1, 2, 3] (kd13720, ks13721, kn13722, tf13723, gtln3724) rfl rfl (by decide) (⟨Or.inr (rfl), by dsimp only; omega⟩) (by decide +kernel) dX10_takesHead_84
          · refine lv_if_eq (tgt := 83) hx hb dX10_takesHead_65 (by decide) (fun _ => ?_) (fun c9 => absurd (by decide) c9)
            refine lv_iconst (v := 0) hx hb dX10_takesHead_83 (by decide) ?_
            exact RI (v := 0) hC hP hD hS [2, 3, 0, 1] (kd13712, ks13713, kn13714, tf13715, gtln3707) rfl rfl (by decide) (⟨Or.inr (rfl), by dsimp only; omega⟩) (by decide +kernel) dX10_takesHead_84
        · refine lv_if_eq (tgt := 83) hx hb dX10_takesHead_56 (by decide) (fun _ => ?_) (fun c9 => absurd (by decide) c9)
          refine lv_iconst (v := 0) hx hb dX10_takesHead_83 (by decide) ?_
          exact RI (v := 0) hC hP hD hS [0, 1, 2, 3] (kd13703, ks13704, kn13705, tf13706, gtln3707) rfl rfl (by decide) (⟨Or.inr (rfl), by dsimp only; omega⟩) (by decide +kernel) dX10_takesHead_84
      · refine lv_if_eq (tgt := 83) hx hb dX10_takesHead_45 (by decide) (fun _ => ?_) (fun c9 => absurd (by decide) c9)
        refine lv_iconst (v := 0) hx hb dX10_takesHead_83 (by decide) ?_
        exact RI (v := 0) hC hP hD hS [2, 3, 0, 1] (kd13695, ks13696, kn13697, tf13698, gtln3690) rfl rfl (by decide) (⟨Or.inr (rfl), by dsimp only; omega⟩) (by decide +kernel) dX10_takesHead_84
    · refine lv_if_eq (tgt := 83) hx hb dX10_takesHead_36 (by decide) (fun _ => ?_) (fun c9 => absurd (by decide) c9)
      refine lv_iconst (v := 0) hx hb dX10_takesHead_83 (by decide) ?_
      exact RI (v := 0) hC hP hD hS [0, 1, 2, 3] (kd13686, ks13687, kn13688, tf13689, gtln3690) rfl rfl (by decide) (⟨Or.inr (rfl), by dsimp only; omega⟩) (by decide +kernel) dX10_takesHead_84
  by_cases c_1_3727 : so = 1
  · refine lv_tableIn (tgt := 85) hx hb dX10_takesHead_1 (by rw [c_1_3727]; decide) (by rw [c_1_3727]; decide) (by rw [c_1_3727]; rfl) (by decide) ?_
    refine lv_aload_n hx hb dX10_takesHead_85 rfl (lv_at hl 0 rfl) ?_
    refine lv_iload_n hx hb dX10_takesHead_86 rfl (lv_at hl 1 rfl) ?_
    refine lv_iconst (v := 1) hx hb dX10_takesHead_87 (by decide) ?_
    refine lv_bipush (v := 99) hx hb dX10_takesHead_88 (by decide) ?_
    refine iV (wr := []) hC hK hl hP hD hS hA (t_takesNumber l G h0 li 1 99 tby kt tln tsp tkd ks kn tf9 fby tlnc kln ftln (by omega) (by omega) (by omega) (by omega)) si_X10_135 [0, 1, 2, 3] [] rfl rfl (by decide) rfl (by decide) (by decide) rfl rfl rfl rfl rfl (Nat.le_of_ble_eq_true rfl) ⟨Nat.le_of_ble_eq_true rfl, Nat.le_of_ble_eq_true rfl⟩ ⟨Nat.le_of_ble_eq_true rfl, Nat.le_of_ble_eq_true rfl⟩ dX10_takesHead_90 (fun r3728 u3729 H locs hr3728 hP hD hS => ?_)
    obtain ⟨kd13730, ks13731, kn13732, tf13733, gtln3734⟩ := u3729
    try dsimp only at hr3728
    have hP : va_P G.1 vwCl [(h0, .inr (10, [.ref tby, .int (nI kt), .ref tln, .ref tsp, .int kd13730, .int (nI ks13731), .int (nI kn13732), .int tf13733])), (tby, .inl (G.2.1, 240, .inl fby)), (tln, .inr (8, [.int 9, .int 7, .ref tlnc, .int (nI kln)])), (tlnc, .inl (G.2.1, 63, .inl gtln3734))] H := hP
    have hD : va_D A [(h0, .inr (10, [.ref tby, .int (nI kt), .ref tln, .ref tsp, .int kd13730, .int (nI ks13731), .int (nI kn13732), .int tf13733])), (tby, .inl (G.2.1, 240, .inl fby)), (tln, .inr (8, [.int 9, .int 7, .ref tlnc, .int (nI kln)])), (tlnc, .inl (G.2.1, 63, .inl gtln3734))] := hD
    obtain ⟨hr3728, w3735⟩ := hr3728
    rcases hr3728 with rfl | rfl
    · exact RI (v := 1) hC hP hD hS [0, 1, 2, 3] (kd13730, ks13731, kn13732, tf13733, gtln3734) rfl rfl (by decide) (⟨Or.inl (rfl), by dsimp only; omega⟩) (by decide +kernel) dX10_takesHead_93
    · exact RI (v := 0) hC hP hD hS [0, 1, 2, 3] (kd13730, ks13731, kn13732, tf13733, gtln3734) rfl rfl (by decide) (⟨Or.inr (rfl), by dsimp only; omega⟩) (by decide +kernel) dX10_takesHead_93
  by_cases c_1_3737 : so = 2
  · refine lv_tableIn (tgt := 94) hx hb dX10_takesHead_1 (by rw [c_1_3737]; decide) (by rw [c_1_3737]; decide) (by rw [c_1_3737]; rfl) (by decide) ?_
    refine lv_aload_n hx hb dX10_takesHead_94 rfl (lv_at hl 0 rfl) ?_
    refine lv_iload_n hx hb dX10_takesHead_95 rfl (lv_at hl 1 rfl) ?_
    refine lv_iconst (v := 1) hx hb dX10_takesHead_96 (by decide) ?_
    refine lv_bipush (v := 7) hx hb dX10_takesHead_97 (by decide) ?_
    refine iV (wr := []) hC hK hl hP hD hS hA (t_takesNumber l G h0 li 1 7 tby kt tln tsp tkd ks kn tf9 fby tlnc kln ftln (by omega) (by omega) (by omega) (by omega)) si_X10_135 [0, 1, 2, 3] [] rfl rfl (by decide) rfl (by decide) (by decide) rfl rfl rfl rfl rfl (Nat.le_of_ble_eq_true rfl) ⟨Nat.le_of_ble_eq_true rfl, Nat.le_of_ble_eq_true rfl⟩ ⟨Nat.le_of_ble_eq_true rfl, Nat.le_of_ble_eq_true rfl⟩ dX10_takesHead_99 (fun r3738 u3739 H locs hr3738 hP hD hS => ?_)
    obtain ⟨kd13740, ks13741, kn13742, tf13743, gtln3744⟩ := u3739
    try dsimp only at hr3738
    have hP : va_P G.1 vwCl [(h0, .inr (10, [.ref tby, .int (nI kt), .ref tln, .ref tsp, .int kd13740, .int (nI ks13741), .int (nI kn13742), .int tf13743])), (tby, .inl (G.2.1, 240, .inl fby)), (tln, .inr (8, [.int 9, .int 7, .ref tlnc, .int (nI kln)])), (tlnc, .inl (G.2.1, 63, .inl gtln3744))] H := hP
    have hD : va_D A [(h0, .inr (10, [.ref tby, .int (nI kt), .ref tln, .ref tsp, .int kd13740, .int (nI ks13741), .int (nI kn13742), .int tf13743])), (tby, .inl (G.2.1, 240, .inl fby)), (tln, .inr (8, [.int 9, .int 7, .ref tlnc, .int (nI kln)])), (tlnc, .inl (G.2.1, 63, .inl gtln3744))] := hD
    obtain ⟨hr3738, w3745⟩ := hr3738
    rcases hr3738 with rfl | rfl
    · refine lv_if_eq (tgt := 130) hx hb dX10_takesHead_102 (by decide) (fun c9 => absurd c9 (by decide)) (fun _ => ?_)
      refine lv_aload_n hx hb dX10_takesHead_105 rfl (lv_at hl 0 rfl) ?_
      refine va_ldcS (index := 145) (tx := "by") hx hb hown (hO.2.1 7 (by decide)) dX10_takesHead_106 ?_
      refine iVo (wr := [(tln, .inr (8, [.int 9, .int 7, .ref tlnc, .int (nI kln)])), (tlnc, .inl (G.2.1, 63, .inl gtln3744))]) hO hC hK hl hP hD hS hA (t_takesName l G K 7 h0 tby kt tln tsp kd13740 ks13741 kn13742 tf13743 fby (by omega) (by omega) (by omega) ((by decide))) si_X10_140 [0, 1] [2, 3] rfl rfl (by decide) rfl (by decide) (by decide) rfl rfl rfl rfl rfl (Nat.le_of_ble_eq_true rfl) ⟨Nat.le_of_ble_eq_true rfl, Nat.le_of_ble_eq_true rfl⟩ ⟨Nat.le_of_ble_eq_true rfl, Nat.le_of_ble_eq_true rfl⟩ dX10_takesHead_108 (fun r3747 u3748 H locs hr3747 hP hD hS => ?_)
      obtain ⟨kd13749, ks13750, kn13751, tf13752⟩ := u3748
      try dsimp only at hr3747
      have hP : va_P G.1 vwCl [(tln, .inr (8, [.int 9, .int 7, .ref tlnc, .int (nI kln)])), (tlnc, .inl (G.2.1, 63, .inl gtln3744)), (h0, .inr (10, [.ref tby, .int (nI kt), .ref tln, .ref tsp, .int kd13749, .int (nI ks13750), .int (nI kn13751), .int tf13752])), (tby, .inl (G.2.1, 240, .inl fby))] H := hP
      have hD : va_D A [(tln, .inr (8, [.int 9, .int 7, .ref tlnc, .int (nI kln)])), (tlnc, .inl (G.2.1, 63, .inl gtln3744)), (h0, .inr (10, [.ref tby, .int (nI kt), .ref tln, .ref tsp, .int kd13749, .int (nI ks13750), .int (nI kn13751), .int tf13752])), (tby, .inl (G.2.1, 240, .inl fby))] := hD
      obtain ⟨hr3747, w3753⟩ := hr3747
      rcases hr3747 with rfl | rfl
      · refine lv_if_eq (tgt := 130) hx hb dX10_takesHead_111 (by decide) (fun c9 => absurd c9 (by decide)) (fun _ => ?_)
        refine lv_aload_n hx hb dX10_takesHead_114 rfl (lv_at hl 0 rfl) ?_
        refine lv_iload_n hx hb dX10_takesHead_115 rfl (lv_at hl 1 rfl) ?_
        refine lv_iconst (v := 2) hx hb dX10_takesHead_116 (by decide) ?_
        refine lv_sipush (v := 999) hx hb dX10_takesHead_117 (by decide) ?_
        refine iV (wr := []) hC hK hl hP hD hS hA (t_takesNumber l G h0 li 2 999 tby kt tln tsp kd13749 ks13750 kn13751 tf13752 fby tlnc kln gtln3744 (by omega) (by omega) (by omega) (by omega)) si_X10_135 [2, 3, 0, 1] [] rfl rfl (by decide) rfl (by decide) (by decide) rfl rfl rfl rfl rfl (Nat.le_of_ble_eq_true rfl) ⟨Nat.le_of_ble_eq_true rfl, Nat.le_of_ble_eq_true rfl⟩ ⟨Nat.le_of_ble_eq_true rfl, Nat.le_of_ble_eq_true rfl⟩ dX10_takesHead_120 (fun r3755 u3756 H locs hr3755 hP hD hS => ?_)
        obtain ⟨kd13757, ks13758, kn13759, tf13760, gtln3761⟩ := u3756
        try dsimp only at hr3755
        have hP : va_P G.1 vwCl [(h0, .inr (10, [.ref tby, .int (nI kt), .ref tln, .ref tsp, .int kd13757, .int (nI ks13758), .int (nI kn13759), .int tf13760])), (tby, .inl (G.2.1, 240, .inl fby)), (tln, .inr (8, [.int 9, .int 7, .ref tlnc, .int (nI kln)])), (tlnc, .inl (G.2.1, 63, .inl gtln3761))] H := hP
        have hD : va_D A [(h0, .inr (10, [.ref tby, .int (nI kt), .ref tln, .ref tsp, .int kd13757, .int (nI ks13758), .int (nI kn13759), .int tf13760])), (tby, .inl (G.2.1, 240, .inl fby)), (tln, .inr (8, [.int 9, .int 7, .ref tlnc, .int (nI kln)])), (tlnc, .inl (G.2.1, 63, .inl gtln3761))] := hD
        obtain ⟨hr3755, w3762⟩ := hr3755
        rcases hr3755 with rfl | rfl
        · refine lv_if_eq (tgt := 130) hx hb dX10_takesHead_123 (by decide) (fun c9 => absurd c9 (by decide)) (fun _ => ?_)
          refine lv_iconst (v := 1) hx hb dX10_takesHead_126 (by decide) ?_
          refine lv_goto (tgt := 131) hx hb dX10_takesHead_127 (by decide) ?_
          exact RI (v := 1) hC hP hD hS [0, 1, 2, 3] (kd13757, ks13758, kn13759, tf13760, gtln3761) rfl rfl (by decide) (⟨Or.inl (rfl), by dsimp only; omega⟩) (by decide +kernel) dX10_takesHead_131
        · refine lv_if_eq (tgt := 130) hx hb dX10_takesHead_123 (by decide) (fun _ => ?_) (fun c9 => absurd (by decide) c9)
          refine lv_iconst (v := 0) hx hb dX10_takesHead_130 (by decide) ?_
          exact RI (v := 0) hC hP hD hS [0, 1, 2, 3] (kd13757, ks13758, kn13759, tf13760, gtln3761) rfl rfl (by decide) (⟨Or.inr (rfl), by dsimp only; omega⟩) (by decide +kernel) dX10_takesHead_131
      · refine lv_if_eq (tgt := 130) hx hb dX10_takesHead_111 (by decide) (fun _ => ?_) (fun c9 => absurd (by decide) c9)
        refine lv_iconst (v := 0) hx hb dX10_takesHead_130 (by decide) ?_
        exact RI (v := 0) hC hP hD hS [2, 3, 0, 1] (kd13749, ks13750, kn13751, tf13752, gtln3744) rfl rfl (by decide) (⟨Or.inr (rfl), by dsimp only; omega⟩) (by decide +kernel) dX10_takesHead_131
    · refine lv_if_eq (tgt := 130) hx hb dX10_takesHead_102 (by decide) (fun _ => ?_) (fun c9 => absurd (by decide) c9)
      refine lv_iconst (v := 0) hx hb dX10_takesHead_130 (by decide) ?_
      exact RI (v := 0) hC hP hD hS [0, 1, 2, 3] (kd13740, ks13741, kn13742, tf13743, gtln3744) rfl rfl (by decide) (⟨Or.inr (rfl), by dsimp only; omega⟩) (by decide +kernel) dX10_takesHead_131
  refine lv_tableOut (tgt := 132) hx hb dX10_takesHead_1 (by have q9 := sw_0_2 (x := so); simp only [c_1_3683, c_1_3727, c_1_3737, not_false_eq_true, true_implies] at q9; exact q9) (by decide) ?_
  refine lv_aload_n hx hb dX10_takesHead_132 rfl (lv_at hl 0 rfl) ?_
  refine lv_iload_n hx hb dX10_takesHead_133 rfl (lv_at hl 1 rfl) ?_
  refine lv_iconst (v := 1) hx hb dX10_takesHead_134 (by decide) ?_
  refine lv_bipush (v := 9) hx hb dX10_takesHead_135 (by decide) ?_
  refine iV (wr := []) hC hK hl hP hD hS hA (t_takesNumber l G h0 li 1 9 tby kt tln tsp tkd ks kn tf9 fby tlnc kln ftln (by omega) (by omega) (by omega) (by omega)) si_X10_135 [0, 1, 2, 3] [] rfl rfl (by decide) rfl (by decide) (by decide) rfl rfl rfl rfl rfl (Nat.le_of_ble_eq_true rfl) ⟨Nat.le_of_ble_eq_true rfl, Nat.le_of_ble_eq_true rfl⟩ ⟨Nat.le_of_ble_eq_true rfl, Nat.le_of_ble_eq_true rfl⟩ dX10_takesHead_137 (fun r3764 u3765 H locs hr3764 hP hD hS => ?_)
  obtain ⟨kd13766, ks13767, kn13768, tf13769, gtln3770⟩ := u3765
  try dsimp only at hr3764
  have hP : va_P G.1 vwCl [(h0, .inr (10, [.ref tby, .int (nI kt), .ref tln, .ref tsp, .int kd13766, .int (nI ks13767), .int (nI kn13768), .int tf13769])), (tby, .inl (G.2.1, 240, .inl fby)), (tln, .inr (8, [.int 9, .int 7, .ref tlnc, .int (nI kln)])), (tlnc, .inl (G.2.1, 63, .inl gtln3770))] H := hP
  have hD : va_D A [(h0, .inr (10, [.ref tby, .int (nI kt), .ref tln, .ref tsp, .int kd13766, .int (nI ks13767), .int (nI kn13768), .int tf13769])), (tby, .inl (G.2.1, 240, .inl fby)), (tln, .inr (8, [.int 9, .int 7, .ref tlnc, .int (nI kln)])), (tlnc, .inl (G.2.1, 63, .inl gtln3770))] := hD
  obtain ⟨hr3764, w3771⟩ := hr3764
  rcases hr3764 with rfl | rfl
  · exact RI (v := 1) hC hP hD hS [0, 1, 2, 3] (kd13766, ks13767, kn13768, tf13769, gtln3770) rfl rfl (by decide) (⟨Or.inl (rfl), by dsimp only; omega⟩) (by decide +kernel) dX10_takesHead_140
  · exact RI (v := 0) hC hP hD hS [0, 1, 2, 3] (kd13766, ks13767, kn13768, tf13769, gtln3770) rfl rfl (by decide) (⟨Or.inr (rfl), by dsimp only; omega⟩) (by decide +kernel) dX10_takesHead_140
set_option maxHeartbeats 4000000 in
set_option maxRecDepth 100000 in
theorem t_takesLine (l : Launch) (G : GG) (K : OO) (h0 : Nat) (tby : Nat) (kt : Nat) (tln : Nat) (tsp : Nat) (tkd : Int32) (ks : Nat) (kn : Nat) (tf9 : Int32) (fby : Nat → Int32) (tlnc : Nat) (kln : Nat) (ftln : Nat → Int32) (tspc : Nat) (ksp : Nat) (ftsp : Nat → Int32) (hkt : kt ≤ 240) (hks : ks ≤ 240) (hkn : kn ≤ 240) (hkln : kln ≤ 9) (hksp : ksp ≤ 120) : MIo l G K yX10_takesLine cX10_takesLine 3 (some .boolean) 30 0 0 [.ref h0] [(h0, .inr (10, [.ref tby, .int (nI kt), .ref tln, .ref tsp, .int tkd, .int (nI ks), .int (nI kn), .int tf9])), (tby, .inl (G.2.1, 240, .inl fby)), (tln, .inr (8, [.int 9, .int 7, .ref tlnc, .int (nI kln)])), (tlnc, .inl (G.2.1, 63, .inl ftln)), (tsp, .inr (8, [.int 120, .int 1, .ref tspc, .int (nI ksp)])), (tspc, .inl (G.2.1, 120, .inl ftsp))] (fun (r : Int32) (u : Int32 × Nat × Nat × Int32 × Nat × (Nat → Int32) × Nat × (Nat → Int32)) => (r = 1 ∨ r = 0) ∧ (u.2.1 ≤ 240 ∧ u.2.2.1 ≤ 240 ∧ u.2.2.2.2.1 ≤ 9 ∧ u.2.2.2.2.2.2.1 ≤ 120)) (fun u : Int32 × Nat × Nat × Int32 × Nat × (Nat → Int32) × Nat × (Nat → Int32) => [(h0, .inr (10, [.ref tby, .int (nI kt), .ref tln, .ref tsp, .int u.1, .int (nI u.2.1), .int (nI u.2.2.1), .int u.2.2.2.1])), (tby, .inl (G.2.1, 240, .inl fby)), (tln, .inr (8, [.int 9, .int 7, .ref tlnc, .int (nI u.2.2.2.2.1)])), (tlnc, .inl (G.2.1, 63, .inl u.2.2.2.2.2.1)), (tsp, .inr (8, [.int 120, .int 1, .ref tspc, .int (nI u.2.2.2.2.2.2.1)])), (tspc, .inl (G.2.1, 120, .inl u.2.2.2.2.2.2.2))]) := by
  refine MIo.start (by decide +kernel) (Nat.le_of_ble_eq_true rfl) ?_
  intro p e s m below meth c A ls hC hK hP hD hS hA hl hO
  have hl : lv_has ls 3 [(0, .ref h0)] := hl
  obtain ⟨hx, hb, hr, hml, hB, hown, hlocks, hnm⟩ := id hC
  refine lv_aload_n hx hb dX10_takesLine_0 rfl (lv_at hl 0 rfl) ?_
  refine gf_X10_20 hC rfl hK hP 0 rfl rfl dX10_takesLine_1 ?_
  rcases Nat.lt_or_ge kln 9 with hcap9 | hcap9
  · refine iV (wr := [(h0, .inr (10, [.ref tby, .int (nI kt), .ref tln, .ref tsp, .int tkd, .int (nI ks), .int (nI kn), .int tf9])), (tby, .inl (G.2.1, 240, .inl fby)), (tlnc, .inl (G.2.1, 63, .inl ftln)), (tsp, .inr (8, [.int 120, .int 1, .ref tspc, .int (nI ksp)])), (tspc, .inl (G.2.1, 120, .inl ftsp))]) hC hK hl hP hD hS hA (c_T_append l G tln 9 7 tlnc kln (by omega) (by omega)) si_X10_59 [2] [0, 1, 3, 4, 5] rfl rfl (by decide) rfl (by decide) (by decide) rfl rfl rfl rfl rfl (Nat.le_of_ble_eq_true rfl) ⟨Nat.le_of_ble_eq_true rfl, Nat.le_of_ble_eq_true rfl⟩ ⟨Nat.le_of_ble_eq_true rfl, Nat.le_of_ble_eq_true rfl⟩ dX10_takesLine_4 (fun r3773 u3774 H locs hr3773 hP hD hS => ?_)
    have hP : va_P G.1 vwCl [(h0, .inr (10, [.ref tby, .int (nI kt), .ref tln, .ref tsp, .int tkd, .int (nI ks), .int (nI kn), .int tf9])), (tby, .inl (G.2.1, 240, .inl fby)), (tlnc, .inl (G.2.1, 63, .inl ftln)), (tsp, .inr (8, [.int 120, .int 1, .ref tspc, .int (nI ksp)])), (tspc, .inl (G.2.1, 120, .inl ftsp)), (tln, .inr (8, [.int 9, .int 7, .ref tlnc, .int (nI (kln + 1))]))] H := hP
    have hD : va_D A [(h0, .inr (10, [.ref tby, .int (nI kt), .ref tln, .ref tsp, .int tkd, .int (nI ks), .int (nI kn), .int tf9])), (tby, .inl (G.2.1, 240, .inl fby)), (tlnc, .inl (G.2.1, 63, .inl ftln)), (tsp, .inr (8, [.int 120, .int 1, .ref tspc, .int (nI ksp)])), (tspc, .inl (G.2.1, 120, .inl ftsp)), (tln, .inr (8, [.int 9, .int 7, .ref tlnc, .int (nI (kln + 1))]))] := hD
    obtain rfl := hr3773
    refine lv_istore_n (lv' := [(1, .int (nI kln)), (0, .ref h0)]) hx hb dX10_takesLine_7 rfl hl (by decide) rfl (fun ls hl => ?_)
    refine lv_iload_n hx hb dX10_takesLine_8 rfl (lv_at hl 0 rfl) ?_
    refine lv_if_ge (tgt := 17) hx hb dX10_takesLine_9 (by decide) (fun _ => ?_) (fun c9 => absurd (nI_pos' (by omega)) c9)
    refine lv_iconst (v := 1) hx hb dX10_takesLine_17 (by decide) ?_
    refine lv_istore_n (lv' := [(2, .int 1), (1, .int (nI kln)), (0, .ref h0)]) hx hb dX10_takesLine_18 rfl hl (by decide) rfl (fun ls hl => ?_)
    refine lv_iload_n hx hb dX10_takesLine_19 rfl (lv_at hl 0 rfl) ?_
    refine lv_iconst (v := 3) hx hb dX10_takesLine_20 (by decide) ?_
    refine lv_icmp_gt (tgt := 41) hx hb dX10_takesLine_21 (by decide) (fun c9 => absurd c9 (by decide)) (fun _ => ?_)
    refine lv_aload_n hx hb dX10_takesLine_24 rfl (lv_at hl 2 rfl) ?_
    refine gf_X10_20 hC rfl hK hP 0 rfl rfl dX10_takesLine_25 ?_
    refine lv_iload_n hx hb dX10_takesLine_28 rfl (lv_at hl 1 rfl) ?_
    refine lv_iload_n hx hb dX10_takesLine_29 rfl (lv_at hl 0 rfl) ?_
    refine lv_bipush (v := (-9)) hx hb dX10_takesLine_30 (by decide) ?_
    refine vV (wr := [(h0, .inr (10, [.ref tby, .int (nI kt), .ref tln, .ref tsp, .int tkd, .int (nI ks), .int (nI kn), .int tf9])), (tby, .inl (G.2.1, 240, .inl fby)), (tsp, .inr (8, [.int 120, .int 1, .ref tspc, .int (nI ksp)])), (tspc, .inl (G.2.1, 120, .inl ftsp))]) hC hK hl hP hD hS hA (c_T_set l G tln (nI kln) 1 (-9) 9 7 tlnc (kln + 1) ftln (by omega) (by omega) (by omega)) si_X10_66 [5, 2] [0, 1, 3, 4] rfl rfl (by decide) rfl (by decide) (by decide) rfl rfl rfl rfl rfl (Nat.le_of_ble_eq_true rfl) ⟨Nat.le_of_ble_eq_true rfl, Nat.le_of_ble_eq_true rfl⟩ ⟨Nat.le_of_ble_eq_true rfl, Nat.le_of_ble_eq_true rfl⟩ dX10_takesLine_32 (fun u3777 H locs hr3776 hP hD hS => ?_)
    obtain ⟨f13778, rfl⟩ : ∃ z9, z9 = u3777 := ⟨_, rfl⟩
    try dsimp only at hr3776
    have hP : va_P G.1 vwCl [(h0, .inr (10, [.ref tby, .int (nI kt), .ref tln, .ref tsp, .int tkd, .int (nI ks), .int (nI kn), .int tf9])), (tby, .inl (G.2.1, 240, .inl fby)), (tsp, .inr (8, [.int 120, .int 1, .ref tspc, .int (nI ksp)])), (tspc, .inl (G.2.1, 120, .inl ftsp)), (tln, .inr (8, [.int 9, .int 7, .ref tlnc, .int (nI (kln + 1))])), (tlnc, .inl (G.2.1, 63, .inl f13778))] H := hP
    have hD : va_D A [(h0, .inr (10, [.ref tby, .int (nI kt), .ref tln, .ref tsp, .int tkd, .int (nI ks), .int (nI kn), .int tf9])), (tby, .inl (G.2.1, 240, .inl fby)), (tsp, .inr (8, [.int 120, .int 1, .ref tspc, .int (nI ksp)])), (tspc, .inl (G.2.1, 120, .inl ftsp)), (tln, .inr (8, [.int 9, .int 7, .ref tlnc, .int (nI (kln + 1))])), (tlnc, .inl (G.2.1, 63, .inl f13778))] := hD
    have w3779 := hr3776
    refine lv_iinc (v := 2) (lv' := [(2, .int 2), (1, .int (nI kln)), (0, .ref h0)]) hx hb dX10_takesLine_35 hl (k := 0) rfl (by decide) (by decide) rfl (fun ls hl => ?_)
    refine lv_goto (tgt := 19) hx hb dX10_takesLine_38 (by decide) ?_
    refine lv_iload_n hx hb dX10_takesLine_19 rfl (lv_at hl 0 rfl) ?_
    refine lv_iconst (v := 3) hx hb dX10_takesLine_20 (by decide) ?_
    refine lv_icmp_gt (tgt := 41) hx hb dX10_takesLine_21 (by decide) (fun c9 => absurd c9 (by decide)) (fun _ => ?_)
    refine lv_aload_n hx hb dX10_takesLine_24 rfl (lv_at hl 2 rfl) ?_
    refine gf_X10_20 hC rfl hK hP 0 rfl rfl dX10_takesLine_25 ?_
    refine lv_iload_n hx hb dX10_takesLine_28 rfl (lv_at hl 1 rfl) ?_
    refine lv_iload_n hx hb dX10_takesLine_29 rfl (lv_at hl 0 rfl) ?_
    refine lv_bipush (v := (-9)) hx hb dX10_takesLine_30 (by decide) ?_
    refine vV (wr := [(h0, .inr (10, [.ref tby, .int (nI kt), .ref tln, .ref tsp, .int tkd, .int (nI ks), .int (nI kn), .int tf9])), (tby, .inl (G.2.1, 240, .inl fby)), (tsp, .inr (8, [.int 120, .int 1, .ref tspc, .int (nI ksp)])), (tspc, .inl (G.2.1, 120, .inl ftsp))]) hC hK hl hP hD hS hA (c_T_set l G tln (nI kln) 2 (-9) 9 7 tlnc (kln + 1) f13778 (by omega) (by omega) (by omega)) si_X10_66 [4, 5] [0, 1, 2, 3] rfl rfl (by decide) rfl (by decide) (by decide) rfl rfl rfl rfl rfl (Nat.le_of_ble_eq_true rfl) ⟨Nat.le_of_ble_eq_true rfl, Nat.le_of_ble_eq_true rfl⟩ ⟨Nat.le_of_ble_eq_true rfl, Nat.le_of_ble_eq_true rfl⟩ dX10_takesLine_32 (fun u3781 H locs hr3780 hP hD hS => ?_)
    obtain ⟨f13782, rfl⟩ : ∃ z9, z9 = u3781 := ⟨_, rfl⟩
    try dsimp only at hr3780
    have hP : va_P G.1 vwCl [(h0, .inr (10, [.ref tby, .int (nI kt), .ref tln, .ref tsp, .int tkd, .int (nI ks), .int (nI kn), .int tf9])), (tby, .inl (G.2.1, 240, .inl fby)), (tsp, .inr (8, [.int 120, .int 1, .ref tspc, .int (nI ksp)])), (tspc, .inl (G.2.1, 120, .inl ftsp)), (tln, .inr (8, [.int 9, .int 7, .ref tlnc, .int (nI (kln + 1))])), (tlnc, .inl (G.2.1, 63, .inl f13782))] H := hP
    have hD : va_D A [(h0, .inr (10, [.ref tby, .int (nI kt), .ref tln, .ref tsp, .int tkd, .int (nI ks), .int (nI kn), .int tf9])), (tby, .inl (G.2.1, 240, .inl fby)), (tsp, .inr (8, [.int 120, .int 1, .ref tspc, .int (nI ksp)])), (tspc, .inl (G.2.1, 120, .inl ftsp)), (tln, .inr (8, [.int 9, .int 7, .ref tlnc, .int (nI (kln + 1))])), (tlnc, .inl (G.2.1, 63, .inl f13782))] := hD
    have w3783 := hr3780
    refine lv_iinc (v := 3) (lv' := [(2, .int 3), (1, .int (nI kln)), (0, .ref h0)]) hx hb dX10_takesLine_35 hl (k := 0) rfl (by decide) (by decide) rfl (fun ls hl => ?_)
    refine lv_goto (tgt := 19) hx hb dX10_takesLine_38 (by decide) ?_
    refine lv_iload_n hx hb dX10_takesLine_19 rfl (lv_at hl 0 rfl) ?_
    refine lv_iconst (v := 3) hx hb dX10_takesLine_20 (by decide) ?_
    refine lv_icmp_gt (tgt := 41) hx hb dX10_takesLine_21 (by decide) (fun c9 => absurd c9 (by decide)) (fun _ => ?_)
    refine lv_aload_n hx hb dX10_takesLine_24 rfl (lv_at hl 2 rfl) ?_
    refine gf_X10_20 hC rfl hK hP 0 rfl rfl dX10_takesLine_25 ?_
    refine lv_iload_n hx hb dX10_takesLine_28 rfl (lv_at hl 1 rfl) ?_
    refine lv_iload_n hx hb dX10_takesLine_29 rfl (lv_at hl 0 rfl) ?_
    refine lv_bipush (v := (-9)) hx hb dX10_takesLine_30 (by decide) ?_
    refine vV (wr := [(h0, .inr (10, [.ref tby, .int (nI kt), .ref tln, .ref tsp, .int tkd, .int (nI ks), .int (nI kn), .int tf9])), (tby, .inl (G.2.1, 240, .inl fby)), (tsp, .inr (8, [.int 120, .int 1, .ref tspc, .int (nI ksp)])), (tspc, .inl (G.2.1, 120, .inl ftsp))]) hC hK hl hP hD hS hA (c_T_set l G tln (nI kln) 3 (-9) 9 7 tlnc (kln + 1) f13782 (by omega) (by omega) (by omega)) si_X10_66 [4, 5] [0, 1, 2, 3] rfl rfl (by decide) rfl (by decide) (by decide) rfl rfl rfl rfl rfl (Nat.le_of_ble_eq_true rfl) ⟨Nat.le_of_ble_eq_true rfl, Nat.le_of_ble_eq_true rfl⟩ ⟨Nat.le_of_ble_eq_true rfl, Nat.le_of_ble_eq_true rfl⟩ dX10_takesLine_32 (fun u3785 H locs hr3784 hP hD hS => ?_)
    obtain ⟨f13786, rfl⟩ : ∃ z9, z9 = u3785 := ⟨_, rfl⟩
    try dsimp only at hr3784
    have hP : va_P G.1 vwCl [(h0, .inr (10, [.ref tby, .int (nI kt), .ref tln, .ref tsp, .int tkd, .int (nI ks), .int (nI kn), .int tf9])), (tby, .inl (G.2.1, 240, .inl fby)), (tsp, .inr (8, [.int 120, .int 1, .ref tspc, .int (nI ksp)])), (tspc, .inl (G.2.1, 120, .inl ftsp)), (tln, .inr (8, [.int 9, .int 7, .ref tlnc, .int (nI (kln + 1))])), (tlnc, .inl (G.2.1, 63, .inl f13786))] H := hP
    have hD : va_D A [(h0, .inr (10, [.ref tby, .int (nI kt), .ref tln, .ref tsp, .int tkd, .int (nI ks), .int (nI kn), .int tf9])), (tby, .inl (G.2.1, 240, .inl fby)), (tsp, .inr (8, [.int 120, .int 1, .ref tspc, .int (nI ksp)])), (tspc, .inl (G.2.1, 120, .inl ftsp)), (tln, .inr (8, [.int 9, .int 7, .ref tlnc, .int (nI (kln + 1))])), (tlnc, .inl (G.2.1, 63, .inl f13786))] := hD
    have w3787 := hr3784
    refine lv_iinc (v := 4) (lv' := [(2, .int 4), (1, .int (nI kln)), (0, .ref h0)]) hx hb dX10_takesLine_35 hl (k := 0) rfl (by decide) (by decide) rfl (fun ls hl => ?_)
    refine lv_goto (tgt := 19) hx hb dX10_takesLine_38 (by decide) ?_
    refine lv_iload_n hx hb dX10_takesLine_19 rfl (lv_at hl 0 rfl) ?_
    refine lv_iconst (v := 3) hx hb dX10_takesLine_20 (by decide) ?_
    refine lv_icmp_gt (tgt := 41) hx hb dX10_takesLine_21 (by decide) (fun _ => ?_) (fun c9 => absurd (by decide) c9)
    refine lv_aload_n hx hb dX10_takesLine_41 rfl (lv_at hl 2 rfl) ?_
    refine gf_X10_20 hC rfl hK hP 0 rfl rfl dX10_takesLine_42 ?_
    refine lv_iload_n hx hb dX10_takesLine_45 rfl (lv_at hl 1 rfl) ?_
    refine lv_iconst (v := 4) hx hb dX10_takesLine_46 (by decide) ?_
    refine lv_iconst (v := 0) hx hb dX10_takesLine_47 (by decide) ?_
    refine vV (wr := [(h0, .inr (10, [.ref tby, .int (nI kt), .ref tln, .ref tsp, .int tkd, .int (nI ks), .int (nI kn), .int tf9])), (tby, .inl (G.2.1, 240, .inl fby)), (tsp, .inr (8, [.int 120, .int 1, .ref tspc, .int (nI ksp)])), (tspc, .inl (G.2.1, 120, .inl ftsp))]) hC hK hl hP hD hS hA (c_T_set l G tln (nI kln) 4 0 9 7 tlnc (kln + 1) f13786 (by omega) (by omega) (by omega)) si_X10_66 [4, 5] [0, 1, 2, 3] rfl rfl (by decide) rfl (by decide) (by decide) rfl rfl rfl rfl rfl (Nat.le_of_ble_eq_true rfl) ⟨Nat.le_of_ble_eq_true rfl, Nat.le_of_ble_eq_true rfl⟩ ⟨Nat.le_of_ble_eq_true rfl, Nat.le_of_ble_eq_true rfl⟩ dX10_takesLine_48 (fun u3789 H locs hr3788 hP hD hS => ?_)
    obtain ⟨f13790, rfl⟩ : ∃ z9, z9 = u3789 := ⟨_, rfl⟩
    try dsimp only at hr3788
    have hP : va_P G.1 vwCl [(h0, .inr (10, [.ref tby, .int (nI kt), .ref tln, .ref tsp, .int tkd, .int (nI ks), .int (nI kn), .int tf9])), (tby, .inl (G.2.1, 240, .inl fby)), (tsp, .inr (8, [.int 120, .int 1, .ref tspc, .int (nI ksp)])), (tspc, .inl (G.2.1, 120, .inl ftsp)), (tln, .inr (8, [.int 9, .int 7, .ref tlnc, .int (nI (kln + 1))])), (tlnc, .inl (G.2.1, 63, .inl f13790))] H := hP
    have hD : va_D A [(h0, .inr (10, [.ref tby, .int (nI kt), .ref tln, .ref tsp, .int tkd, .int (nI ks), .int (nI kn), .int tf9])), (tby, .inl (G.2.1, 240, .inl fby)), (tsp, .inr (8, [.int 120, .int 1, .ref tspc, .int (nI ksp)])), (tspc, .inl (G.2.1, 120, .inl ftsp)), (tln, .inr (8, [.int 9, .int 7, .ref tlnc, .int (nI (kln + 1))])), (tlnc, .inl (G.2.1, 63, .inl f13790))] := hD
    have w3791 := hr3788
    refine lv_aload_n hx hb dX10_takesLine_51 rfl (lv_at hl 2 rfl) ?_
    refine gf_X10_20 hC rfl hK hP 0 rfl rfl dX10_takesLine_52 ?_
    refine lv_iload_n hx hb dX10_takesLine_55 rfl (lv_at hl 1 rfl) ?_
    refine lv_iconst (v := 5) hx hb dX10_takesLine_56 (by decide) ?_
    refine lv_aload_n hx hb dX10_takesLine_57 rfl (lv_at hl 2 rfl) ?_
    refine gf_X10_24 hC rfl hK hP 0 rfl rfl dX10_takesLine_58 ?_
    refine pV hC hK hl hP hD (c_T_count l G tsp 120 1 tspc ksp) si_X10_71 [2] rfl rfl (by decide) rfl rfl rfl rfl rfl (Nat.le_of_ble_eq_true rfl) ⟨Nat.le_of_ble_eq_true rfl, Nat.le_of_ble_eq_true rfl⟩ ⟨by first | exact Nat.le_of_ble_eq_true rfl | exact Nat.zero_le _, by first | exact Nat.le_of_ble_eq_true rfl | exact Nat.zero_le _⟩ dX10_takesLine_61 (fun r3792 hr3792 => ?_)
    obtain rfl := hr3792
    refine vV (wr := [(h0, .inr (10, [.ref tby, .int (nI kt), .ref tln, .ref tsp, .int tkd, .int (nI ks), .int (nI kn), .int tf9])), (tby, .inl (G.2.1, 240, .inl fby)), (tsp, .inr (8, [.int 120, .int 1, .ref tspc, .int (nI ksp)])), (tspc, .inl (G.2.1, 120, .inl ftsp))]) hC hK hl hP hD hS hA (c_T_set l G tln (nI kln) 5 (nI ksp) 9 7 tlnc (kln + 1) f13790 (by omega) (by omega) (by omega)) si_X10_66 [4, 5] [0, 1, 2, 3] rfl rfl (by decide) rfl (by decide) (by decide) rfl rfl rfl rfl rfl (Nat.le_of_ble_eq_true rfl) ⟨Nat.le_of_ble_eq_true rfl, Nat.le_of_ble_eq_true rfl⟩ ⟨Nat.le_of_ble_eq_true rfl, Nat.le_of_ble_eq_true rfl⟩ dX10_takesLine_64 (fun u3795 H locs hr3794 hP hD hS => ?_)
    obtain ⟨f13796, rfl⟩ : ∃ z9, z9 = u3795 := ⟨_, rfl⟩
    try dsimp only at hr3794
    have hP : va_P G.1 vwCl [(h0, .inr (10, [.ref tby, .int (nI kt), .ref tln, .ref tsp, .int tkd, .int (nI ks), .int (nI kn), .int tf9])), (tby, .inl (G.2.1, 240, .inl fby)), (tsp, .inr (8, [.int 120, .int 1, .ref tspc, .int (nI ksp)])), (tspc, .inl (G.2.1, 120, .inl ftsp)), (tln, .inr (8, [.int 9, .int 7, .ref tlnc, .int (nI (kln + 1))])), (tlnc, .inl (G.2.1, 63, .inl f13796))] H := hP
    have hD : va_D A [(h0, .inr (10, [.ref tby, .int (nI kt), .ref tln, .ref tsp, .int tkd, .int (nI ks), .int (nI kn), .int tf9])), (tby, .inl (G.2.1, 240, .inl fby)), (tsp, .inr (8, [.int 120, .int 1, .ref tspc, .int (nI ksp)])), (tspc, .inl (G.2.1, 120, .inl ftsp)), (tln, .inr (8, [.int 9, .int 7, .ref tlnc, .int (nI (kln + 1))])), (tlnc, .inl (G.2.1, 63, .inl f13796))] := hD
    have w3797 := hr3794
    refine lv_aload_n hx hb dX10_takesLine_67 rfl (lv_at hl 2 rfl) ?_
    refine gf_X10_20 hC rfl hK hP 0 rfl rfl dX10_takesLine_68 ?_
    refine lv_iload_n hx hb dX10_takesLine_71 rfl (lv_at hl 1 rfl) ?_
    refine lv_bipush (v := 6) hx hb dX10_takesLine_72 (by decide) ?_
    refine lv_iconst (v := 0) hx hb dX10_takesLine_74 (by decide) ?_
    refine vV (wr := [(h0, .inr (10, [.ref tby, .int (nI kt), .ref tln, .ref tsp, .int tkd, .int (nI ks), .int (nI kn), .int tf9])), (tby, .inl (G.2.1, 240, .inl fby)), (tsp, .inr (8, [.int 120, .int 1, .ref tspc, .int (nI ksp)])), (tspc, .inl (G.2.1, 120, .inl ftsp))]) hC hK hl hP hD hS hA (c_T_set l G tln (nI kln) 6 0 9 7 tlnc (kln + 1) f13796 (by omega) (by omega) (by omega)) si_X10_66 [4, 5] [0, 1, 2, 3] rfl rfl (by decide) rfl (by decide) (by decide) rfl rfl rfl rfl rfl (Nat.le_of_ble_eq_true rfl) ⟨Nat.le_of_ble_eq_true rfl, Nat.le_of_ble_eq_true rfl⟩ ⟨Nat.le_of_ble_eq_true rfl, Nat.le_of_ble_eq_true rfl⟩ dX10_takesLine_75 (fun u3799 H locs hr3798 hP hD hS => ?_)
    obtain ⟨f13800, rfl⟩ : ∃ z9, z9 = u3799 := ⟨_, rfl⟩
    try dsimp only at hr3798
    have hP : va_P G.1 vwCl [(h0, .inr (10, [.ref tby, .int (nI kt), .ref tln, .ref tsp, .int tkd, .int (nI ks), .int (nI kn), .int tf9])), (tby, .inl (G.2.1, 240, .inl fby)), (tsp, .inr (8, [.int 120, .int 1, .ref tspc, .int (nI ksp)])), (tspc, .inl (G.2.1, 120, .inl ftsp)), (tln, .inr (8, [.int 9, .int 7, .ref tlnc, .int (nI (kln + 1))])), (tlnc, .inl (G.2.1, 63, .inl f13800))] H := hP
    have hD : va_D A [(h0, .inr (10, [.ref tby, .int (nI kt), .ref tln, .ref tsp, .int tkd, .int (nI ks), .int (nI kn), .int tf9])), (tby, .inl (G.2.1, 240, .inl fby)), (tsp, .inr (8, [.int 120, .int 1, .ref tspc, .int (nI ksp)])), (tspc, .inl (G.2.1, 120, .inl ftsp)), (tln, .inr (8, [.int 9, .int 7, .ref tlnc, .int (nI (kln + 1))])), (tlnc, .inl (G.2.1, 63, .inl f13800))] := hD
    have w3801 := hr3798
    refine lv_aload_n hx hb dX10_takesLine_78 rfl (lv_at hl 2 rfl) ?_
    refine pVo hO hS hC hK hl hP hD (t_sortHere l G K h0 tby kt tln tsp tkd ks kn tf9 fby (by omega) (by omega) (by omega)) si_X10_112 [0, 1] rfl rfl (by decide) rfl rfl rfl rfl rfl (Nat.le_of_ble_eq_true rfl) ⟨Nat.le_of_ble_eq_true rfl, Nat.le_of_ble_eq_true rfl⟩ ⟨by first | exact Nat.le_of_ble_eq_true rfl | exact Nat.zero_le _, by first | exact Nat.le_of_ble_eq_true rfl | exact Nat.zero_le _⟩ dX10_takesLine_79 (fun r3802 hr3802 => ?_)
    refine lv_istore_n (lv' := [(2, .int r3802), (1, .int (nI kln)), (0, .ref h0)]) hx hb dX10_takesLine_82 rfl hl (by decide) rfl (fun ls hl => ?_)
    refine lv_iload_n hx hb dX10_takesLine_83 rfl (lv_at hl 0 rfl) ?_
    refine lv_if_ge (tgt := 92) hx hb dX10_takesLine_84 (by decide) (fun c_84_3803 => ?_) (fun c_84_3803 => ?_)
    · refine lv_aload_n hx hb dX10_takesLine_92 rfl (lv_at hl 2 rfl) ?_
      refine gf_X10_20 hC rfl hK hP 0 rfl rfl dX10_takesLine_93 ?_
      refine lv_iload_n hx hb dX10_takesLine_96 rfl (lv_at hl 1 rfl) ?_
      refine lv_iconst (v := 0) hx hb dX10_takesLine_97 (by decide) ?_
      refine lv_iload_n hx hb dX10_takesLine_98 rfl (lv_at hl 0 rfl) ?_
      refine vV (wr := [(h0, .inr (10, [.ref tby, .int (nI kt), .ref tln, .ref tsp, .int tkd, .int (nI ks), .int (nI kn), .int tf9])), (tby, .inl (G.2.1, 240, .inl fby)), (tsp, .inr (8, [.int 120, .int 1, .ref tspc, .int (nI ksp)])), (tspc, .inl (G.2.1, 120, .inl ftsp))]) hC hK hl hP hD hS hA (c_T_set l G tln (nI kln) 0 r3802 9 7 tlnc (kln + 1) f13800 (by omega) (by omega) (by omega)) si_X10_66 [4, 5] [0, 1, 2, 3] rfl rfl (by decide) rfl (by decide) (by decide) rfl rfl rfl rfl rfl (Nat.le_of_ble_eq_true rfl) ⟨Nat.le_of_ble_eq_true rfl, Nat.le_of_ble_eq_true rfl⟩ ⟨Nat.le_of_ble_eq_true rfl, Nat.le_of_ble_eq_true rfl⟩ dX10_takesLine_99 (fun u3805 H locs hr3804 hP hD hS => ?_)
      obtain ⟨f13806, rfl⟩ : ∃ z9, z9 = u3805 := ⟨_, rfl⟩
      try dsimp only at hr3804
      have hP : va_P G.1 vwCl [(h0, .inr (10, [.ref tby, .int (nI kt), .ref tln, .ref tsp, .int tkd, .int (nI ks), .int (nI kn), .int tf9])), (tby, .inl (G.2.1, 240, .inl fby)), (tsp, .inr (8, [.int 120, .int 1, .ref tspc, .int (nI ksp)])), (tspc, .inl (G.2.1, 120, .inl ftsp)), (tln, .inr (8, [.int 9, .int 7, .ref tlnc, .int (nI (kln + 1))])), (tlnc, .inl (G.2.1, 63, .inl f13806))] H := hP
      have hD : va_D A [(h0, .inr (10, [.ref tby, .int (nI kt), .ref tln, .ref tsp, .int tkd, .int (nI ks), .int (nI kn), .int tf9])), (tby, .inl (G.2.1, 240, .inl fby)), (tsp, .inr (8, [.int 120, .int 1, .ref tspc, .int (nI ksp)])), (tspc, .inl (G.2.1, 120, .inl ftsp)), (tln, .inr (8, [.int 9, .int 7, .ref tlnc, .int (nI (kln + 1))])), (tlnc, .inl (G.2.1, 63, .inl f13806))] := hD
      have w3807 := hr3804
      refine lv_aload_n hx hb dX10_takesLine_102 rfl (lv_at hl 2 rfl) ?_
      refine vV (wr := [(tsp, .inr (8, [.int 120, .int 1, .ref tspc, .int (nI ksp)])), (tspc, .inl (G.2.1, 120, .inl ftsp)), (tln, .inr (8, [.int 9, .int 7, .ref tlnc, .int (nI (kln + 1))])), (tlnc, .inl (G.2.1, 63, .inl f13806))]) hC hK hl hP hD hS hA (t_advance l G h0 tby kt tln tsp tkd ks kn tf9 fby (by omega) (by omega) (by omega)) si_X10_47 [0, 1] [2, 3, 4, 5] rfl rfl (by decide) rfl (by decide) (by decide) rfl rfl rfl rfl rfl (Nat.le_of_ble_eq_true rfl) ⟨Nat.le_of_ble_eq_true rfl, Nat.le_of_ble_eq_true rfl⟩ ⟨Nat.le_of_ble_eq_true rfl, Nat.le_of_ble_eq_true rfl⟩ dX10_takesLine_103 (fun u3809 H locs hr3808 hP hD hS => ?_)
      obtain ⟨kd13810, ks13811, kn13812⟩ := u3809
      try dsimp only at hr3808
      have hP : va_P G.1 vwCl [(tsp, .inr (8, [.int 120, .int 1, .ref tspc, .int (nI ksp)])), (tspc, .inl (G.2.1, 120, .inl ftsp)), (tln, .inr (8, [.int 9, .int 7, .ref tlnc, .int (nI (kln + 1))])), (tlnc, .inl (G.2.1, 63, .inl f13806)), (h0, .inr (10, [.ref tby, .int (nI kt), .ref tln, .ref tsp, .int kd13810, .int (nI ks13811), .int (nI kn13812), .int tf9])), (tby, .inl (G.2.1, 240, .inl fby))] H := hP
      have hD : va_D A [(tsp, .inr (8, [.int 120, .int 1, .ref tspc, .int (nI ksp)])), (tspc, .inl (G.2.1, 120, .inl ftsp)), (tln, .inr (8, [.int 9, .int 7, .ref tlnc, .int (nI (kln + 1))])), (tlnc, .inl (G.2.1, 63, .inl f13806)), (h0, .inr (10, [.ref tby, .int (nI kt), .ref tln, .ref tsp, .int kd13810, .int (nI ks13811), .int (nI kn13812), .int tf9])), (tby, .inl (G.2.1, 240, .inl fby))] := hD
      have w3813 := hr3808
      refine lv_aload_n hx hb dX10_takesLine_106 rfl (lv_at hl 2 rfl) ?_
      refine lv_iload_n hx hb dX10_takesLine_107 rfl (lv_at hl 1 rfl) ?_
      refine lv_iload_n hx hb dX10_takesLine_108 rfl (lv_at hl 0 rfl) ?_
      refine iVo (wr := [(tsp, .inr (8, [.int 120, .int 1, .ref tspc, .int (nI ksp)])), (tspc, .inl (G.2.1, 120, .inl ftsp))]) hO hC hK hl hP hD hS hA (t_takesHead l G K h0 (nI kln) r3802 tby kt tln tsp kd13810 ks13811 kn13812 tf9 fby tlnc (kln + 1) f13806 (by omega) (by omega) (by omega) (by omega)) si_X10_115 [4, 5, 2, 3] [0, 1] rfl rfl (by decide) rfl (by decide) (by decide) rfl rfl rfl rfl rfl (Nat.le_of_ble_eq_true rfl) ⟨Nat.le_of_ble_eq_true rfl, Nat.le_of_ble_eq_true rfl⟩ ⟨Nat.le_of_ble_eq_true rfl, Nat.le_of_ble_eq_true rfl⟩ dX10_takesLine_109 (fun r3814 u3815 H locs hr3814 hP hD hS => ?_)
      obtain ⟨kd13816, ks13817, kn13818, tf13819, gtln3820⟩ := u3815
      try dsimp only at hr3814
      have hP : va_P G.1 vwCl [(tsp, .inr (8, [.int 120, .int 1, .ref tspc, .int (nI ksp)])), (tspc, .inl (G.2.1, 120, .inl ftsp)), (h0, .inr (10, [.ref tby, .int (nI kt), .ref tln, .ref tsp, .int kd13816, .int (nI ks13817), .int (nI kn13818), .int tf13819])), (tby, .inl (G.2.1, 240, .inl fby)), (tln, .inr (8, [.int 9, .int 7, .ref tlnc, .int (nI (kln + 1))])), (tlnc, .inl (G.2.1, 63, .inl gtln3820))] H := hP
      have hD : va_D A [(tsp, .inr (8, [.int 120, .int 1, .ref tspc, .int (nI ksp)])), (tspc, .inl (G.2.1, 120, .inl ftsp)), (h0, .inr (10, [.ref tby, .int (nI kt), .ref tln, .ref tsp, .int kd13816, .int (nI ks13817), .int (nI kn13818), .int tf13819])), (tby, .inl (G.2.1, 240, .inl fby)), (tln, .inr (8, [.int 9, .int 7, .ref tlnc, .int (nI (kln + 1))])), (tlnc, .inl (G.2.1, 63, .inl gtln3820))] := hD
      obtain ⟨hr3814, w3821⟩ := hr3814
      rcases hr3814 with rfl | rfl
      · refine lv_if_ne (tgt := 117) hx hb dX10_takesLine_112 (by decide) (fun _ => ?_) (fun c9 => absurd c9 (by decide))
        refine lv_iload_n hx hb dX10_takesLine_117 rfl (lv_at hl 0 rfl) ?_
        refine lv_iconst (v := 3) hx hb dX10_takesLine_118 (by decide) ?_
        refine lv_icmp_eq (tgt := 182) hx hb dX10_takesLine_119 (by decide) (fun c_119_3823 => ?_) (fun c_119_3823 => ?_)
        · refine lv_aload_n hx hb dX10_takesLine_182 rfl (lv_at hl 2 rfl) ?_
          refine lv_bipush (v := 59) hx hb dX10_takesLine_183 (by decide) ?_
          refine iV (wr := [(tsp, .inr (8, [.int 120, .int 1, .ref tspc, .int (nI ksp)])), (tspc, .inl (G.2.1, 120, .inl ftsp)), (tln, .inr (8, [.int 9, .int 7, .ref tlnc, .int (nI (kln + 1))])), (tlnc, .inl (G.2.1, 63, .inl gtln3820))]) hC hK hl hP hD hS hA (t_takesByte l G h0 59 tby kt tln tsp kd13816 ks13817 kn13818 tf13819 fby (by omega) (by omega) (by omega)) si_X10_124 [2, 3] [0, 1, 4, 5] rfl rfl (by decide) rfl (by decide) (by decide) rfl rfl rfl rfl rfl (Nat.le_of_ble_eq_true rfl) ⟨Nat.le_of_ble_eq_true rfl, Nat.le_of_ble_eq_true rfl⟩ ⟨Nat.le_of_ble_eq_true rfl, Nat.le_of_ble_eq_true rfl⟩ dX10_takesLine_185 (fun r3824 u3825 H locs hr3824 hP hD hS => ?_)
          obtain ⟨kd13826, ks13827, kn13828, tf13829⟩ := u3825
          try dsimp only at hr3824
          have hP : va_P G.1 vwCl [(tsp, .inr (8, [.int 120, .int 1, .ref tspc, .int (nI ksp)])), (tspc, .inl (G.2.1, 120, .inl ftsp)), (tln, .inr (8, [.int 9, .int 7, .ref tlnc, .int (nI (kln + 1))])), (tlnc, .inl (G.2.1, 63, .inl gtln3820)), (h0, .inr (10, [.ref tby, .int (nI kt), .ref tln, .ref tsp, .int kd13826, .int (nI ks13827), .int (nI kn13828), .int tf13829])), (tby, .inl (G.2.1, 240, .inl fby))] H := hP
          have hD : va_D A [(tsp, .inr (8, [.int 120, .int 1, .ref tspc, .int (nI ksp)])), (tspc, .inl (G.2.1, 120, .inl ftsp)), (tln, .inr (8, [.int 9, .int 7, .ref tlnc, .int (nI (kln + 1))])), (tlnc, .inl (G.2.1, 63, .inl gtln3820)), (h0, .inr (10, [.ref tby, .int (nI kt), .ref tln, .ref tsp, .int kd13826, .int (nI ks13827), .int (nI kn13828), .int tf13829])), (tby, .inl (G.2.1, 240, .inl fby))] := hD
          obtain ⟨hr3824, w3830⟩ := hr3824
          rcases hr3824 with rfl | rfl
          · exact RI (v := 1) hC hP hD hS [4, 5, 2, 3, 0, 1] (kd13826, ks13827, kn13828, tf13829, (kln + 1), gtln3820, ksp, ftsp) rfl rfl (by decide) (⟨Or.inl (rfl), by dsimp only; omega⟩) (by decide +kernel) dX10_takesLine_188
          · exact RI (v := 0) hC hP hD hS [4, 5, 2, 3, 0, 1] (kd13826, ks13827, kn13828, tf13829, (kln + 1), gtln3820, ksp, ftsp) rfl rfl (by decide) (⟨Or.inr (rfl), by dsimp only; omega⟩) (by decide +kernel) dX10_takesLine_188
        · refine lv_aload_n hx hb dX10_takesLine_122 rfl (lv_at hl 2 rfl) ?_
          refine va_ldcS (index := 119) (tx := "if") hx hb hown (hO.2.1 0 (by decide)) dX10_takesLine_123 ?_
          refine pVo hO hS hC hK hl hP hD (t_isName l G K 0 h0 tby kt tln tsp kd13816 ks13817 kn13818 tf13819 fby (by omega) (by omega) (by omega) ((by decide))) si_X10_102 [2, 3] rfl rfl (by decide) rfl rfl rfl rfl rfl (Nat.le_of_ble_eq_true rfl) ⟨Nat.le_of_ble_eq_true rfl, Nat.le_of_ble_eq_true rfl⟩ ⟨by first | exact Nat.le_of_ble_eq_true rfl | exact Nat.zero_le _, by first | exact Nat.le_of_ble_eq_true rfl | exact Nat.zero_le _⟩ dX10_takesLine_125 (fun r3832 hr3832 => ?_)
          rcases hr3832 with rfl | rfl
          · refine lv_if_eq (tgt := 182) hx hb dX10_takesLine_128 (by decide) (fun c9 => absurd c9 (by decide)) (fun _ => ?_)
            refine lv_aload_n hx hb dX10_takesLine_131 rfl (lv_at hl 2 rfl) ?_
            refine vV (wr := [(tsp, .inr (8, [.int 120, .int 1, .ref tspc, .int (nI ksp)])), (tspc, .inl (G.2.1, 120, .inl ftsp)), (tln, .inr (8, [.int 9, .int 7, .ref tlnc, .int (nI (kln + 1))])), (tlnc, .inl (G.2.1, 63, .inl gtln3820))]) hC hK hl hP hD hS hA (t_advance l G h0 tby kt tln tsp kd13816 ks13817 kn13818 tf13819 fby (by omega) (by omega) (by omega)) si_X10_47 [2, 3] [0, 1, 4, 5] rfl rfl (by decide) rfl (by decide) (by decide) rfl rfl rfl rfl rfl (Nat.le_of_ble_eq_true rfl) ⟨Nat.le_of_ble_eq_true rfl, Nat.le_of_ble_eq_true rfl⟩ ⟨Nat.le_of_ble_eq_true rfl, Nat.le_of_ble_eq_true rfl⟩ dX10_takesLine_132 (fun u3835 H locs hr3834 hP hD hS => ?_)
            obtain ⟨kd13836, ks13837, kn13838⟩ := u3835
            try dsimp only at hr3834
            have hP : va_P G.1 vwCl [(tsp, .inr (8, [.int 120, .int 1, .ref tspc, .int (nI ksp)])), (tspc, .inl (G.2.1, 120, .inl ftsp)), (tln, .inr (8, [.int 9, .int 7, .ref tlnc, .int (nI (kln + 1))])), (tlnc, .inl (G.2.1, 63, .inl gtln3820)), (h0, .inr (10, [.ref tby, .int (nI kt), .ref tln, .ref tsp, .int kd13836, .int (nI ks13837), .int (nI kn13838), .int tf13819])), (tby, .inl (G.2.1, 240, .inl fby))] H := hP
            have hD : va_D A [(tsp, .inr (8, [.int 120, .int 1, .ref tspc, .int (nI ksp)])), (tspc, .inl (G.2.1, 120, .inl ftsp)), (tln, .inr (8, [.int 9, .int 7, .ref tlnc, .int (nI (kln + 1))])), (tlnc, .inl (G.2.1, 63, .inl gtln3820)), (h0, .inr (10, [.ref tby, .int (nI kt), .ref tln, .ref tsp, .int kd13836, .int (nI ks13837), .int (nI kn13838), .int tf13819])), (tby, .inl (G.2.1, 240, .inl fby))] := hD
            have w3839 := hr3834
            refine lv_aload_n hx hb dX10_takesLine_135 rfl (lv_at hl 2 rfl) ?_
            refine gf_X10_20 hC rfl hK hP 4 rfl rfl dX10_takesLine_136 ?_
            refine lv_iload_n hx hb dX10_takesLine_139 rfl (lv_at hl 1 rfl) ?_
            refine lv_iconst (v := 4) hx hb dX10_takesLine_140 (by decide) ?_
            refine lv_iconst (v := 1) hx hb dX10_takesLine_141 (by decide) ?_
            refine vV (wr := [(tsp, .inr (8, [.int 120, .int 1, .ref tspc, .int (nI ksp)])), (tspc, .inl (G.2.1, 120, .inl ftsp)), (h0, .inr (10, [.ref tby, .int (nI kt), .ref tln, .ref tsp, .int kd13836, .int (nI ks13837), .int (nI kn13838), .int tf13819])), (tby, .inl (G.2.1, 240, .inl fby))]) hC hK hl hP hD hS hA (c_T_set l G tln (nI kln) 4 1 9 7 tlnc (kln + 1) gtln3820 (by omega) (by omega) (by omega)) si_X10_66 [2, 3] [0, 1, 4, 5] rfl rfl (by decide) rfl (by decide) (by decide) rfl rfl rfl rfl rfl (Nat.le_of_ble_eq_true rfl) ⟨Nat.le_of_ble_eq_true rfl, Nat.le_of_ble_eq_true rfl⟩ ⟨Nat.le_of_ble_eq_true rfl, Nat.le_of_ble_eq_true rfl⟩ dX10_takesLine_142 (fun u3841 H locs hr3840 hP hD hS => ?_)
            obtain ⟨f13842, rfl⟩ : ∃ z9, z9 = u3841 := ⟨_, rfl⟩
            try dsimp only at hr3840
            have hP : va_P G.1 vwCl [(tsp, .inr (8, [.int 120, .int 1, .ref tspc, .int (nI ksp)])), (tspc, .inl (G.2.1, 120, .inl ftsp)), (h0, .inr (10, [.ref tby, .int (nI kt), .ref tln, .ref tsp, .int kd13836, .int (nI ks13837), .int (nI kn13838), .int tf13819])), (tby, .inl (G.2.1, 240, .inl fby)), (tln, .inr (8, [.int 9, .int 7, .ref tlnc, .int (nI (kln + 1))])), (tlnc, .inl (G.2.1, 63, .inl f13842))] H := hP
            have hD : va_D A [(tsp, .inr (8, [.int 120, .int 1, .ref tspc, .int (nI ksp)])), (tspc, .inl (G.2.1, 120, .inl ftsp)), (h0, .inr (10, [.ref tby, .int (nI kt), .ref tln, .ref tsp, .int kd13836, .int (nI ks13837), .int (nI kn13838), .int tf13819])), (tby, .inl (G.2.1, 240, .inl fby)), (tln, .inr (8, [.int 9, .int 7, .ref tlnc, .int (nI (kln + 1))])), (tlnc, .inl (G.2.1, 63, .inl f13842))] := hD
            have w3843 := hr3840
            refine lv_aload_n hx hb dX10_takesLine_145 rfl (lv_at hl 2 rfl) ?_
            refine lv_iconst (v := 0) hx hb dX10_takesLine_146 (by decide) ?_
            refine iVo (wr := [(tln, .inr (8, [.int 9, .int 7, .ref tlnc, .int (nI (kln + 1))])), (tlnc, .inl (G.2.1, 63, .inl f13842))]) hO hC hK hl hP hD hS hA (t_cond0 l G K h0 tby kt tln tsp kd13836 ks13837 kn13838 tf13819 fby tspc ksp ftsp (by omega) (by omega) (by omega) (by omega)) si_X10_121 [2, 3, 0, 1] [4, 5] rfl rfl (by decide) rfl (by decide) (by decide) rfl rfl rfl rfl rfl (Nat.le_of_ble_eq_true rfl) ⟨Nat.le_of_ble_eq_true rfl, Nat.le_of_ble_eq_true rfl⟩ ⟨Nat.le_of_ble_eq_true rfl, Nat.le_of_ble_eq_true rfl⟩ dX10_takesLine_147 (fun r3844 u3845 H locs hr3844 hP hD hS => ?_)
            obtain ⟨kd13846, ks13847, kn13848, tf13849, ksp13850, gtsp3851⟩ := u3845
            try dsimp only at hr3844
            have hP : va_P G.1 vwCl [(tln, .inr (8, [.int 9, .int 7, .ref tlnc, .int (nI (kln + 1))])), (tlnc, .inl (G.2.1, 63, .inl f13842)), (h0, .inr (10, [.ref tby, .int (nI kt), .ref tln, .ref tsp, .int kd13846, .int (nI ks13847), .int (nI kn13848), .int tf13849])), (tby, .inl (G.2.1, 240, .inl fby)), (tsp, .inr (8, [.int 120, .int 1, .ref tspc, .int (nI ksp13850)])), (tspc, .inl (G.2.1, 120, .inl gtsp3851))] H := hP
            have hD : va_D A [(tln, .inr (8, [.int 9, .int 7, .ref tlnc, .int (nI (kln + 1))])), (tlnc, .inl (G.2.1, 63, .inl f13842)), (h0, .inr (10, [.ref tby, .int (nI kt), .ref tln, .ref tsp, .int kd13846, .int (nI ks13847), .int (nI kn13848), .int tf13849])), (tby, .inl (G.2.1, 240, .inl fby)), (tsp, .inr (8, [.int 120, .int 1, .ref tspc, .int (nI ksp13850)])), (tspc, .inl (G.2.1, 120, .inl gtsp3851))] := hD
            obtain ⟨hr3844, w3852⟩ := hr3844
            rcases hr3844 with rfl | rfl
            · refine lv_if_ne (tgt := 155) hx hb dX10_takesLine_150 (by decide) (fun _ => ?_) (fun c9 => absurd c9 (by decide))
              refine lv_aload_n hx hb dX10_takesLine_155 rfl (lv_at hl 2 rfl) ?_
              refine gf_X10_20 hC rfl hK hP 2 rfl rfl dX10_takesLine_156 ?_
              refine lv_iload_n hx hb dX10_takesLine_159 rfl (lv_at hl 1 rfl) ?_
              refine lv_bipush (v := 6) hx hb dX10_takesLine_160 (by decide) ?_
              refine lv_aload_n hx hb dX10_takesLine_162 rfl (lv_at hl 2 rfl) ?_
              refine gf_X10_24 hC rfl hK hP 2 rfl rfl dX10_takesLine_163 ?_
              refine pV hC hK hl hP hD (c_T_count l G tsp 120 1 tspc ksp13850) si_X10_71 [4] rfl rfl (by decide) rfl rfl rfl rfl rfl (Nat.le_of_ble_eq_true rfl) ⟨Nat.le_of_ble_eq_true rfl, Nat.le_of_ble_eq_true rfl⟩ ⟨by first | exact Nat.le_of_ble_eq_true rfl | exact Nat.zero_le _, by first | exact Nat.le_of_ble_eq_true rfl | exact Nat.zero_le _⟩ dX10_takesLine_166 (fun r3854 hr3854 => ?_)
              obtain rfl := hr3854
              refine lv_aload_n hx hb dX10_takesLine_169 rfl (lv_at hl 2 rfl) ?_
              refine gf_X10_20 hC rfl hK hP 2 rfl rfl dX10_takesLine_170 ?_
              refine lv_iload_n hx hb dX10_takesLine_173 rfl (lv_at hl 1 rfl) ?_
              refine lv_iconst (v := 5) hx hb dX10_takesLine_174 (by decide) ?_
              refine pV hC hK hl hP hD (c_T_at l G tln (nI kln) 5 9 7 tlnc (kln + 1) f13842 (by omega) (by omega) (by omega)) si_X10_74 [0, 1] rfl rfl (by decide) rfl rfl rfl rfl rfl (Nat.le_of_ble_eq_true rfl) ⟨Nat.le_of_ble_eq_true rfl, Nat.le_of_ble_eq_true rfl⟩ ⟨by first | exact Nat.le_of_ble_eq_true rfl | exact Nat.zero_le _, by first | exact Nat.le_of_ble_eq_true rfl | exact Nat.zero_le _⟩ dX10_takesLine_175 (fun r3856 hr3856 => ?_)
              refine lv_isub hx hb dX10_takesLine_178 ?_
              refine vV (wr := [(h0, .inr (10, [.ref tby, .int (nI kt), .ref tln, .ref tsp, .int kd13846, .int (nI ks13847), .int (nI kn13848), .int tf13849])), (tby, .inl (G.2.1, 240, .inl fby)), (tsp, .inr (8, [.int 120, .int 1, .ref tspc, .int (nI ksp13850)])), (tspc, .inl (G.2.1, 120, .inl gtsp3851))]) hC hK hl hP hD hS hA (c_T_set l G tln (nI kln) 6 ((nI ksp13850) - r3856) 9 7 tlnc (kln + 1) f13842 (by omega) (by omega) (by omega)) si_X10_66 [0, 1] [2, 3, 4, 5] rfl rfl (by decide) rfl (by decide) (by decide) rfl rfl rfl rfl rfl (Nat.le_of_ble_eq_true rfl) ⟨Nat.le_of_ble_eq_true rfl, Nat.le_of_ble_eq_true rfl⟩ ⟨Nat.le_of_ble_eq_true rfl, Nat.le_of_ble_eq_true rfl⟩ dX10_takesLine_179 (fun u3859 H locs hr3858 hP hD hS => ?_)
              obtain ⟨f13860, rfl⟩ : ∃ z9, z9 = u3859 := ⟨_, rfl⟩
              try dsimp only at hr3858
              have hP : va_P G.1 vwCl [(h0, .inr (10, [.ref tby, .int (nI kt), .ref tln, .ref tsp, .int kd13846, .int (nI ks13847), .int (nI kn13848), .int tf13849])), (tby, .inl (G.2.1, 240, .inl fby)), (tsp, .inr (8, [.int 120, .int 1, .ref tspc, .int (nI ksp13850)])), (tspc, .inl (G.2.1, 120, .inl gtsp3851)), (tln, .inr (8, [.int 9, .int 7, .ref tlnc, .int (nI (kln + 1))])), (tlnc, .inl (G.2.1, 63, .inl f13860))] H := hP
              have hD : va_D A [(h0, .inr (10, [.ref tby, .int (nI kt), .ref tln, .ref tsp, .int kd13846, .int (nI ks13847), .int (nI kn13848), .int tf13849])), (tby, .inl (G.2.1, 240, .inl fby)), (tsp, .inr (8, [.int 120, .int 1, .ref tspc, .int (nI ksp13850)])), (tspc, .inl (G.2.1, 120, .inl gtsp3851)), (tln, .inr (8, [.int 9, .int 7, .ref tlnc, .int (nI (kln + 1))])), (tlnc, .inl (G.2.1, 63, .inl f13860))] := hD
              have w3861 := hr3858
              refine lv_aload_n hx hb dX10_takesLine_182 rfl (lv_at hl 2 rfl) ?_
              refine lv_bipush (v := 59) hx hb dX10_takesLine_183 (by decide) ?_
              refine iV (wr := [(tsp, .inr (8, [.int 120, .int 1, .ref tspc, .int (nI ksp13850)])), (tspc, .inl (G.2.1, 120, .inl gtsp3851)), (tln, .inr (8, [.int 9, .int 7, .ref tlnc, .int (nI (kln + 1))])), (tlnc, .inl (G.2.1, 63, .inl f13860))]) hC hK hl hP hD hS hA (t_takesByte l G h0 59 tby kt tln tsp kd13846 ks13847 kn13848 tf13849 fby (by omega) (by omega) (by omega)) si_X10_124 [0, 1] [2, 3, 4, 5] rfl rfl (by decide) rfl (by decide) (by decide) rfl rfl rfl rfl rfl (Nat.le_of_ble_eq_true rfl) ⟨Nat.le_of_ble_eq_true rfl, Nat.le_of_ble_eq_true rfl⟩ ⟨Nat.le_of_ble_eq_true rfl, Nat.le_of_ble_eq_true rfl⟩ dX10_takesLine_185 (fun r3862 u3863 H locs hr3862 hP hD hS => ?_)
              obtain ⟨kd13864, ks13865, kn13866, tf13867⟩ := u3863
              try dsimp only at hr3862
              have hP : va_P G.1 vwCl [(tsp, .inr (8, [.int 120, .int 1, .ref tspc, .int (nI ksp13850)])), (tspc, .inl (G.2.1, 120, .inl gtsp3851)), (tln, .inr (8, [.int 9, .int 7, .ref tlnc, .int (nI (kln + 1))])), (tlnc, .inl (G.2.1, 63, .inl f13860)), (h0, .inr (10, [.ref tby, .int (nI kt), .ref tln, .ref tsp, .int kd13864, .int (nI ks13865), .int (nI kn13866), .int tf13867])), (tby, .inl (G.2.1, 240, .inl fby))] H := hP
              have hD : va_D A [(tsp, .inr (8, [.int 120, .int 1, .ref tspc, .int (nI ksp13850)])), (tspc, .inl (G.2.1, 120, .inl gtsp3851)), (tln, .inr (8, [.int 9, .int 7, .ref tlnc, .int (nI (kln + 1))])), (tlnc, .inl (G.2.1, 63, .inl f13860)), (h0, .inr (10, [.ref tby, .int (nI kt), .ref tln, .ref tsp, .int kd13864, .int (nI ks13865), .int (nI kn13866), .int tf13867])), (tby, .inl (G.2.1, 240, .inl fby))] := hD
              obtain ⟨hr3862, w3868⟩ := hr3862
              rcases hr3862 with rfl | rfl
              · exact RI (v := 1) hC hP hD hS [4, 5, 2, 3, 0, 1] (kd13864, ks13865, kn13866, tf13867, (kln + 1), f13860, ksp13850, gtsp3851) rfl rfl (by decide) (⟨Or.inl (rfl), by dsimp only; omega⟩) (by decide +kernel) dX10_takesLine_188
              · exact RI (v := 0) hC hP hD hS [4, 5, 2, 3, 0, 1] (kd13864, ks13865, kn13866, tf13867, (kln + 1), f13860, ksp13850, gtsp3851) rfl rfl (by decide) (⟨Or.inr (rfl), by dsimp only; omega⟩) (by decide +kernel) dX10_takesLine_188
            · refine lv_if_ne (tgt := 155) hx hb dX10_takesLine_150 (by decide) (fun c9 => absurd (by decide) c9) (fun _ => ?_)
              refine lv_iconst (v := 0) hx hb dX10_takesLine_153 (by decide) ?_
              exact RI (v := 0) hC hP hD hS [2, 3, 0, 1, 4, 5] (kd13846, ks13847, kn13848, tf13849, (kln + 1), f13842, ksp13850, gtsp3851) rfl rfl (by decide) (⟨Or.inr (rfl), by dsimp only; omega⟩) (by decide +kernel) dX10_takesLine_154
          · refine lv_if_eq (tgt := 182) hx hb dX10_takesLine_128 (by decide) (fun _ => ?_) (fun c9 => absurd (by decide) c9)
            refine lv_aload_n hx hb dX10_takesLine_182 rfl (lv_at hl 2 rfl) ?_
            refine lv_bipush (v := 59) hx hb dX10_takesLine_183 (by decide) ?_
            refine iV (wr := [(tsp, .inr (8, [.int 120, .int 1, .ref tspc, .int (nI ksp)])), (tspc, .inl (G.2.1, 120, .inl ftsp)), (tln, .inr (8, [.int 9, .int 7, .ref tlnc, .int (nI (kln + 1))])), (tlnc, .inl (G.2.1, 63, .inl gtln3820))]) hC hK hl hP hD hS hA (t_takesByte l G h0 59 tby kt tln tsp kd13816 ks13817 kn13818 tf13819 fby (by omega) (by omega) (by omega)) si_X10_124 [2, 3] [0, 1, 4, 5] rfl rfl (by decide) rfl (by decide) (by decide) rfl rfl rfl rfl rfl (Nat.le_of_ble_eq_true rfl) ⟨Nat.le_of_ble_eq_true rfl, Nat.le_of_ble_eq_true rfl⟩ ⟨Nat.le_of_ble_eq_true rfl, Nat.le_of_ble_eq_true rfl⟩ dX10_takesLine_185 (fun r3870 u3871 H locs hr3870 hP hD hS => ?_)
            obtain ⟨kd13872, ks13873, kn13874, tf13875⟩ := u3871
            try dsimp only at hr3870
            have hP : va_P G.1 vwCl [(tsp, .inr (8, [.int 120, .int 1, .ref tspc, .int (nI ksp)])), (tspc, .inl (G.2.1, 120, .inl ftsp)), (tln, .inr (8, [.int 9, .int 7, .ref tlnc, .int (nI (kln + 1))])), (tlnc, .inl (G.2.1, 63, .inl gtln3820)), (h0, .inr (10, [.ref tby, .int (nI kt), .ref tln, .ref tsp, .int kd13872, .int (nI ks13873), .int (nI kn13874), .int tf13875])), (tby, .inl (G.2.1, 240, .inl fby))] H := hP
            have hD : va_D A [(tsp, .inr (8, [.int 120, .int 1, .ref tspc, .int (nI ksp)])), (tspc, .inl (G.2.1, 120, .inl ftsp)), (tln, .inr (8, [.int 9, .int 7, .ref tlnc, .int (nI (kln + 1))])), (tlnc, .inl (G.2.1, 63, .inl gtln3820)), (h0, .inr (10, [.ref tby, .int (nI kt), .ref tln, .ref tsp, .int kd13872, .int (nI ks13873), .int (nI kn13874), .int tf13875])), (tby, .inl (G.2.1, 240, .inl fby))] := hD
            obtain ⟨hr3870, w3876⟩ := hr3870
            rcases hr3870 with rfl | rfl
            · exact RI (v := 1) hC hP hD hS [4, 5, 2, 3, 0, 1] (kd13872, ks13873, kn13874, tf13875, (kln + 1), gtln3820, ksp, ftsp) rfl rfl (by decide) (⟨Or.inl (rfl), by dsimp only; omega⟩) (by decide +kernel) dX10_takesLine_188
            · exact RI (v := 0) hC hP hD hS [4, 5, 2, 3, 0, 1] (kd13872, ks13873, kn13874, tf13875, (kln + 1), gtln3820, ksp, ftsp) rfl rfl (by decide) (⟨Or.inr (rfl), by dsimp only; omega⟩) (by decide +kernel) dX10_takesLine_188
      · refine lv_if_ne (tgt := 117) hx hb dX10_takesLine_112 (by decide) (fun c9 => absurd (by decide) c9) (fun _ => ?_)
        refine lv_iconst (v := 0) hx hb dX10_takesLine_115 (by decide) ?_
        exact RI (v := 0) hC hP hD hS [2, 3, 4, 5, 0, 1] (kd13816, ks13817, kn13818, tf13819, (kln + 1), gtln3820, ksp, ftsp) rfl rfl (by decide) (⟨Or.inr (rfl), by dsimp only; omega⟩) (by decide +kernel) dX10_takesLine_116
    · refine lv_aload_n hx hb dX10_takesLine_87 rfl (lv_at hl 2 rfl) ?_
      refine iV (wr := [(tby, .inl (G.2.1, 240, .inl fby)), (tsp, .inr (8, [.int 120, .int 1, .ref tspc, .int (nI ksp)])), (tspc, .inl (G.2.1, 120, .inl ftsp)), (tln, .inr (8, [.int 9, .int 7, .ref tlnc, .int (nI (kln + 1))])), (tlnc, .inl (G.2.1, 63, .inl f13800))]) hC hK hl hP hD hS hA (t_refuse l G h0 tby kt tln tsp tkd ks kn tf9) si_X10_106 [0] [1, 2, 3, 4, 5] rfl rfl (by decide) rfl (by decide) (by decide) rfl rfl rfl rfl rfl (Nat.le_of_ble_eq_true rfl) ⟨Nat.le_of_ble_eq_true rfl, Nat.le_of_ble_eq_true rfl⟩ ⟨Nat.le_of_ble_eq_true rfl, Nat.le_of_ble_eq_true rfl⟩ dX10_takesLine_88 (fun r3878 u3879 H locs hr3878 hP hD hS => ?_)
      obtain ⟨tf13880, rfl⟩ : ∃ z9, z9 = u3879 := ⟨_, rfl⟩
      try dsimp only at hr3878
      have hP : va_P G.1 vwCl [(tby, .inl (G.2.1, 240, .inl fby)), (tsp, .inr (8, [.int 120, .int 1, .ref tspc, .int (nI ksp)])), (tspc, .inl (G.2.1, 120, .inl ftsp)), (tln, .inr (8, [.int 9, .int 7, .ref tlnc, .int (nI (kln + 1))])), (tlnc, .inl (G.2.1, 63, .inl f13800)), (h0, .inr (10, [.ref tby, .int (nI kt), .ref tln, .ref tsp, .int tkd, .int (nI ks), .int (nI kn), .int tf13880]))] H := hP
      have hD : va_D A [(tby, .inl (G.2.1, 240, .inl fby)), (tsp, .inr (8, [.int 120, .int 1, .ref tspc, .int (nI ksp)])), (tspc, .inl (G.2.1, 120, .inl ftsp)), (tln, .inr (8, [.int 9, .int 7, .ref tlnc, .int (nI (kln + 1))])), (tlnc, .inl (G.2.1, 63, .inl f13800)), (h0, .inr (10, [.ref tby, .int (nI kt), .ref tln, .ref tsp, .int tkd, .int (nI ks), .int (nI kn), .int tf13880]))] := hD
      obtain rfl := hr3878
      exact RI (v := 0) hC hP hD hS [5, 0, 3, 4, 1, 2] (tkd, ks, kn, tf13880, (kln + 1), f13800, ksp, ftsp) rfl rfl (by decide) (⟨Or.inr (rfl), by dsimp only; omega⟩) (by decide +kernel) dX10_takesLine_91
  · refine iV (wr := [(h0, .inr (10, [.ref tby, .int (nI kt), .ref tln, .ref tsp, .int tkd, .int (nI ks), .int (nI kn), .int tf9])), (tby, .inl (G.2.1, 240, .inl fby)), (tlnc, .inl (G.2.1, 63, .inl ftln)), (tsp, .inr (8, [.int 120, .int 1, .ref tspc, .int (nI ksp)])), (tspc, .inl (G.2.1, 120, .inl ftsp))]) hC hK hl hP hD hS hA (c_T_appendF l G tln 9 7 tlnc kln (by omega) (by omega)) si_X10_59 [2] [0, 1, 3, 4, 5] rfl rfl (by decide) rfl (by decide) (by decide) rfl rfl rfl rfl rfl (Nat.le_of_ble_eq_true rfl) ⟨Nat.le_of_ble_eq_true rfl, Nat.le_of_ble_eq_true rfl⟩ ⟨Nat.le_of_ble_eq_true rfl, Nat.le_of_ble_eq_true rfl⟩ dX10_takesLine_4 (fun r3882 u3883 H locs hr3882 hP hD hS => ?_)
    have hP : va_P G.1 vwCl [(h0, .inr (10, [.ref tby, .int (nI kt), .ref tln, .ref tsp, .int tkd, .int (nI ks), .int (nI kn), .int tf9])), (tby, .inl (G.2.1, 240, .inl fby)), (tlnc, .inl (G.2.1, 63, .inl ftln)), (tsp, .inr (8, [.int 120, .int 1, .ref tspc, .int (nI ksp)])), (tspc, .inl (G.2.1, 120, .inl ftsp)), (tln, .inr (8, [.int 9, .int 7, .ref tlnc, .int (nI kln)]))] H := hP
    have hD : va_D A [(h0, .inr (10, [.ref tby, .int (nI kt), .ref tln, .ref tsp, .int tkd, .int (nI ks), .int (nI kn), .int tf9])), (tby, .inl (G.2.1, 240, .inl fby)), (tlnc, .inl (G.2.1, 63, .inl ftln)), (tsp, .inr (8, [.int 120, .int 1, .ref tspc, .int (nI ksp)])), (tspc, .inl (G.2.1, 120, .inl ftsp)), (tln, .inr (8, [.int 9, .int 7, .ref tlnc, .int (nI kln)]))] := hD
    obtain rfl := hr3882
    refine lv_istore_n (lv' := [(1, .int (-2)), (0, .ref h0)]) hx hb dX10_takesLine_7 rfl hl (by decide) rfl (fun ls hl => ?_)
    refine lv_iload_n hx hb dX10_takesLine_8 rfl (lv_at hl 0 rfl) ?_
    refine lv_if_ge (tgt := 17) hx hb dX10_takesLine_9 (by decide) (fun c9 => absurd c9 (by decide)) (fun _ => ?_)
    refine lv_aload_n hx hb dX10_takesLine_12 rfl (lv_at hl 1 rfl) ?_
    refine iV (wr := [(tby, .inl (G.2.1, 240, .inl fby)), (tlnc, .inl (G.2.1, 63, .inl ftln)), (tsp, .inr (8, [.int 120, .int 1, .ref tspc, .int (nI ksp)])), (tspc, .inl (G.2.1, 120, .inl ftsp)), (tln, .inr (8, [.int 9, .int 7, .ref tlnc, .int (nI kln)]))]) hC hK hl hP hD hS hA (t_refuse l G h0 tby kt tln tsp tkd ks kn tf9) si_X10_106 [0] [1, 2, 3, 4, 5] rfl rfl (by decide) rfl (by decide) (by decide) rfl rfl rfl rfl rfl (Nat.le_of_ble_eq_true rfl) ⟨Nat.le_of_ble_eq_true rfl, Nat.le_of_ble_eq_true rfl⟩ ⟨Nat.le_of_ble_eq_true rfl, Nat.le_of_ble_eq_true rfl⟩ dX10_takesLine_13 (fun r3885 u3886 H locs hr3885 hP hD hS => ?_)
    obtain ⟨tf13887, rfl⟩ : ∃ z9, z9 = u3886 := ⟨_, rfl⟩
    try dsimp only at hr3885
    have hP : va_P G.1 vwCl [(tby, .inl (G.2.1, 240, .inl fby)), (tlnc, .inl (G.2.1, 63, .inl ftln)), (tsp, .inr (8, [.int 120, .int 1, .ref tspc, .int (nI ksp)])), (tspc, .inl (G.2.1, 120, .inl ftsp)), (tln, .inr (8, [.int 9, .int 7, .ref tlnc, .int (nI kln)])), (h0, .inr (10, [.ref tby, .int (nI kt), .ref tln, .ref tsp, .int tkd, .int (nI ks), .int (nI kn), .int tf13887]))] H := hP
    have hD : va_D A [(tby, .inl (G.2.1, 240, .inl fby)), (tlnc, .inl (G.2.1, 63, .inl ftln)), (tsp, .inr (8, [.int 120, .int 1, .ref tspc, .int (nI ksp)])), (tspc, .inl (G.2.1, 120, .inl ftsp)), (tln, .inr (8, [.int 9, .int 7, .ref tlnc, .int (nI kln)])), (h0, .inr (10, [.ref tby, .int (nI kt), .ref tln, .ref tsp, .int tkd, .int (nI ks), .int (nI kn), .int tf13887]))] := hD
    obtain rfl := hr3885
    exact RI (v := 0) hC hP hD hS [5, 0, 4, 1, 2, 3] (tkd, ks, kn, tf13887, kln, ftln, ksp, ftsp) rfl rfl (by decide) (⟨Or.inr (rfl), by dsimp only; omega⟩) (by decide +kernel) dX10_takesLine_16
set_option maxHeartbeats 4000000 in
set_option maxRecDepth 100000 in
theorem t_scan (l : Launch) (G : GG) (K : OO) (h0 : Nat) (tby : Nat) (kt : Nat) (tln : Nat) (tsp : Nat) (tkd : Int32) (ks : Nat) (kn : Nat) (tf9 : Int32) (fby : Nat → Int32) (tlnc : Nat) (kln : Nat) (ftln : Nat → Int32) (tspc : Nat) (ksp : Nat) (ftsp : Nat → Int32) (hkt : kt ≤ 240) (hks : ks ≤ 240) (hkn : kn ≤ 240) (hkln : kln ≤ 9) (hksp : ksp ≤ 120) : MIo l G K yX10_scan cX10_scan 2 (some .int) 31 0 0 [.ref h0] [(h0, .inr (10, [.ref tby, .int (nI kt), .ref tln, .ref tsp, .int tkd, .int (nI ks), .int (nI kn), .int tf9])), (tby, .inl (G.2.1, 240, .inl fby)), (tln, .inr (8, [.int 9, .int 7, .ref tlnc, .int (nI kln)])), (tlnc, .inl (G.2.1, 63, .inl ftln)), (tsp, .inr (8, [.int 120, .int 1, .ref tspc, .int (nI ksp)])), (tspc, .inl (G.2.1, 120, .inl ftsp))] (fun (r : Int32) (u : Int32 × Nat × Nat × Int32 × Nat × (Nat → Int32) × Nat × (Nat → Int32)) => (True) ∧ (u.2.1 ≤ 240 ∧ u.2.2.1 ≤ 240 ∧ u.2.2.2.2.1 ≤ 9 ∧ u.2.2.2.2.2.2.1 ≤ 120)) (fun u : Int32 × Nat × Nat × Int32 × Nat × (Nat → Int32) × Nat × (Nat → Int32) => [(h0, .inr (10, [.ref tby, .int (nI kt), .ref tln, .ref tsp, .int u.1, .int (nI u.2.1), .int (nI u.2.2.1), .int u.2.2.2.1])), (tby, .inl (G.2.1, 240, .inl fby)), (tln, .inr (8, [.int 9, .int 7, .ref tlnc, .int (nI u.2.2.2.2.1)])), (tlnc, .inl (G.2.1, 63, .inl u.2.2.2.2.2.1)), (tsp, .inr (8, [.int 120, .int 1, .ref tspc, .int (nI u.2.2.2.2.2.2.1)])), (tspc, .inl (G.2.1, 120, .inl u.2.2.2.2.2.2.2))]) := by
  refine MIo.start (by decide +kernel) (Nat.le_of_ble_eq_true rfl) ?_
  intro p e s m below meth c A ls hC hK hP hD hS hA hl hO
  have hl : lv_has ls 2 [(0, .ref h0)] := hl
  obtain ⟨hx, hb, hr, hml, hB, hown, hlocks, hnm⟩ := id hC
  refine lv_aload_n hx hb dX10_scan_0 rfl (lv_at hl 0 rfl) ?_
  refine gf_X10_20 hC rfl hK hP 0 rfl rfl dX10_scan_1 ?_
  refine lv_iconst (v := 0) hx hb dX10_scan_4 (by decide) ?_
  refine vV (wr := [(h0, .inr (10, [.ref tby, .int (nI kt), .ref tln, .ref tsp, .int tkd, .int (nI ks), .int (nI kn), .int tf9])), (tby, .inl (G.2.1, 240, .inl fby)), (tlnc, .inl (G.2.1, 63, .inl ftln)), (tsp, .inr (8, [.int 120, .int 1, .ref tspc, .int (nI ksp)])), (tspc, .inl (G.2.1, 120, .inl ftsp))]) hC hK hl hP hD hS hA (c_T_cut0 l G tln 9 7 tlnc kln (by omega)) si_X10_43 [2] [0, 1, 3, 4, 5] rfl rfl (by decide) rfl (by decide) (by decide) rfl rfl rfl rfl rfl (Nat.le_of_ble_eq_true rfl) ⟨Nat.le_of_ble_eq_true rfl, Nat.le_of_ble_eq_true rfl⟩ ⟨Nat.le_of_ble_eq_true rfl, Nat.le_of_ble_eq_true rfl⟩ dX10_scan_5 (fun u3890 H locs hr3889 hP hD hS => ?_)
  have hP : va_P G.1 vwCl [(h0, .inr (10, [.ref tby, .int (nI kt), .ref tln, .ref tsp, .int tkd, .int (nI ks), .int (nI kn), .int tf9])), (tby, .inl (G.2.1, 240, .inl fby)), (tlnc, .inl (G.2.1, 63, .inl ftln)), (tsp, .inr (8, [.int 120, .int 1, .ref tspc, .int (nI ksp)])), (tspc, .inl (G.2.1, 120, .inl ftsp)), (tln, .inr (8, [.int 9, .int 7, .ref tlnc, .int 0]))] H := hP
  have hD : va_D A [(h0, .inr (10, [.ref tby, .int (nI kt), .ref tln, .ref tsp, .int tkd, .int (nI ks), .int (nI kn), .int tf9])), (tby, .inl (G.2.1, 240, .inl fby)), (tlnc, .inl (G.2.1, 63, .inl ftln)), (tsp, .inr (8, [.int 120, .int 1, .ref tspc, .int (nI ksp)])), (tspc, .inl (G.2.1, 120, .inl ftsp)), (tln, .inr (8, [.int 9, .int 7, .ref tlnc, .int 0]))] := hD
  refine lv_aload_n hx hb dX10_scan_8 rfl (lv_at hl 0 rfl) ?_
  refine gf_X10_24 hC rfl hK hP 0 rfl rfl dX10_scan_9 ?_
  refine lv_iconst (v := 0) hx hb dX10_scan_12 (by decide) ?_
  refine vV (wr := [(h0, .inr (10, [.ref tby, .int (nI kt), .ref tln, .ref tsp, .int tkd, .int (nI ks), .int (nI kn), .int tf9])), (tby, .inl (G.2.1, 240, .inl fby)), (tlnc, .inl (G.2.1, 63, .inl ftln)), (tspc, .inl (G.2.1, 120, .inl ftsp)), (tln, .inr (8, [.int 9, .int 7, .ref tlnc, .int 0]))]) hC hK hl hP hD hS hA (c_T_cut0 l G tsp 120 1 tspc ksp (by omega)) si_X10_43 [3] [0, 1, 2, 4, 5] rfl rfl (by decide) rfl (by decide) (by decide) rfl rfl rfl rfl rfl (Nat.le_of_ble_eq_true rfl) ⟨Nat.le_of_ble_eq_true rfl, Nat.le_of_ble_eq_true rfl⟩ ⟨Nat.le_of_ble_eq_true rfl, Nat.le_of_ble_eq_true rfl⟩ dX10_scan_13 (fun u3892 H locs hr3891 hP hD hS => ?_)
  have hP : va_P G.1 vwCl [(h0, .inr (10, [.ref tby, .int (nI kt), .ref tln, .ref tsp, .int tkd, .int (nI ks), .int (nI kn), .int tf9])), (tby, .inl (G.2.1, 240, .inl fby)), (tlnc, .inl (G.2.1, 63, .inl ftln)), (tspc, .inl (G.2.1, 120, .inl ftsp)), (tln, .inr (8, [.int 9, .int 7, .ref tlnc, .int 0])), (tsp, .inr (8, [.int 120, .int 1, .ref tspc, .int 0]))] H := hP
  have hD : va_D A [(h0, .inr (10, [.ref tby, .int (nI kt), .ref tln, .ref tsp, .int tkd, .int (nI ks), .int (nI kn), .int tf9])), (tby, .inl (G.2.1, 240, .inl fby)), (tlnc, .inl (G.2.1, 63, .inl ftln)), (tspc, .inl (G.2.1, 120, .inl ftsp)), (tln, .inr (8, [.int 9, .int 7, .ref tlnc, .int 0])), (tsp, .inr (8, [.int 120, .int 1, .ref tspc, .int 0]))] := hD
  refine lv_aload_n hx hb dX10_scan_16 rfl (lv_at hl 0 rfl) ?_
  refine lv_iconst (v := (-1)) hx hb dX10_scan_17 (by decide) ?_
  refine pf_X10_40 hC rfl hK hP hD hS 0 (ws' := [(h0, .inr (10, [.ref tby, .int (nI kt), .ref tln, .ref tsp, .int tkd, .int (nI ks), .int (nI kn), .int (-1)])), (tby, .inl (G.2.1, 240, .inl fby)), (tlnc, .inl (G.2.1, 63, .inl ftln)), (tspc, .inl (G.2.1, 120, .inl ftsp)), (tln, .inr (8, [.int 9, .int 7, .ref tlnc, .int 0])), (tsp, .inr (8, [.int 120, .int 1, .ref tspc, .int 0]))]) rfl (Nat.le_of_ble_eq_true rfl) rfl rfl rfl dX10_scan_18 (fun H locs hP hD hS => ?_)
  refine lv_aload_n hx hb dX10_scan_21 rfl (lv_at hl 0 rfl) ?_
  refine lv_iconst (v := 0) hx hb dX10_scan_22 (by decide) ?_
  refine pf_X10_37 hC rfl hK hP hD hS 0 (ws' := [(h0, .inr (10, [.ref tby, .int (nI kt), .ref tln, .ref tsp, .int tkd, .int (nI ks), .int 0, .int (-1)])), (tby, .inl (G.2.1, 240, .inl fby)), (tlnc, .inl (G.2.1, 63, .inl ftln)), (tspc, .inl (G.2.1, 120, .inl ftsp)), (tln, .inr (8, [.int 9, .int 7, .ref tlnc, .int 0])), (tsp, .inr (8, [.int 120, .int 1, .ref tspc, .int 0]))]) rfl (Nat.le_of_ble_eq_true rfl) rfl rfl rfl dX10_scan_23 (fun H locs hP hD hS => ?_)
  refine lv_aload_n hx hb dX10_scan_26 rfl (lv_at hl 0 rfl) ?_
  refine vV (wr := [(tlnc, .inl (G.2.1, 63, .inl ftln)), (tspc, .inl (G.2.1, 120, .inl ftsp)), (tln, .inr (8, [.int 9, .int 7, .ref tlnc, .int 0])), (tsp, .inr (8, [.int 120, .int 1, .ref tspc, .int 0]))]) hC hK hl hP hD hS hA (t_advance l G h0 tby kt tln tsp tkd ks 0 (-1) fby (by omega) (by omega) (by omega)) si_X10_47 [0, 1] [2, 3, 4, 5] rfl rfl (by decide) rfl (by decide) (by decide) rfl rfl rfl rfl rfl (Nat.le_of_ble_eq_true rfl) ⟨Nat.le_of_ble_eq_true rfl, Nat.le_of_ble_eq_true rfl⟩ ⟨Nat.le_of_ble_eq_true rfl, Nat.le_of_ble_eq_true rfl⟩ dX10_scan_27 (fun u3894 H locs hr3893 hP hD hS => ?_)
  obtain ⟨kd13895, ks13896, kn13897⟩ := u3894
  try dsimp only at hr3893
  have hP : va_P G.1 vwCl [(tlnc, .inl (G.2.1, 63, .inl ftln)), (tspc, .inl (G.2.1, 120, .inl ftsp)), (tln, .inr (8, [.int 9, .int 7, .ref tlnc, .int 0])), (tsp, .inr (8, [.int 120, .int 1, .ref tspc, .int 0])), (h0, .inr (10, [.ref tby, .int (nI kt), .ref tln, .ref tsp, .int kd13895, .int (nI ks13896), .int (nI kn13897), .int (-1)])), (tby, .inl (G.2.1, 240, .inl fby))] H := hP
  have hD : va_D A [(tlnc, .inl (G.2.1, 63, .inl ftln)), (tspc, .inl (G.2.1, 120, .inl ftsp)), (tln, .inr (8, [.int 9, .int 7, .ref tlnc, .int 0])), (tsp, .inr (8, [.int 120, .int 1, .ref tspc, .int 0])), (h0, .inr (10, [.ref tby, .int (nI kt), .ref tln, .ref tsp, .int kd13895, .int (nI ks13896), .int (nI kn13897), .int (-1)])), (tby, .inl (G.2.1, 240, .inl fby))] := hD
  have w3898 := hr3893
  refine lv_iconst (v := 0) hx hb dX10_scan_30 (by decide) ?_
  refine lv_istore_n (lv' := [(1, .int 0), (0, .ref h0)]) hx hb dX10_scan_31 rfl hl (by decide) rfl (fun ls hl => ?_)
  have keyP : ∀ (nP kP : Nat) (vkd : Int32) (vtf : Int32) (vtln : Nat → Int32) (vtsp : Nat → Int32) (vks : Nat) (vkn : Nat) (vkl : Nat) (vksp : Nat) (H : Heap) (locs : List Loc) (ls : Array Slot), kP + nP = 10 → (vks ≤ 240) → (vkn ≤ 240) → (vkl ≤ 9) → (vksp ≤ 120) → va_P G.1 vwCl [(tlnc, .inl (G.2.1, 63, .inl vtln)), (tspc, .inl (G.2.1, 120, .inl vtsp)), (tln, .inr (8, [.int 9, .int 7, .ref tlnc, .int (nI vkl)])), (tsp, .inr (8, [.int 120, .int 1, .ref tspc, .int (nI vksp)])), (h0, .inr (10, [.ref tby, .int (nI kt), .ref tln, .ref tsp, .int vkd, .int (nI vks), .int (nI vkn), .int vtf])), (tby, .inl (G.2.1, 240, .inl fby))] H → va_D A [(tlnc, .inl (G.2.1, 63, .inl vtln)), (tspc, .inl (G.2.1, 120, .inl vtsp)), (tln, .inr (8, [.int 9, .int 7, .ref tlnc, .int (nI vkl)])), (tsp, .inr (8, [.int 120, .int 1, .ref tspc, .int (nI vksp)])), (h0, .inr (10, [.ref tby, .int (nI kt), .ref tln, .ref tsp, .int vkd, .int (nI vks), .int (nI vkn), .int vtf])), (tby, .inl (G.2.1, 240, .inl fby))] → va_S A s.heap H locs → lv_has ls 2 [(1, .int (nI kP)), (0, .ref h0)] → W p l e (RM 31 0 0) s m ([.ref h0] : List Value).toArray below meth c H locs 0 0 (MQ below (QI G (fun (r : Int32) (u : Int32 × Nat × Nat × Int32 × Nat × (Nat → Int32) × Nat × (Nat → Int32)) => (True) ∧ (u.2.1 ≤ 240 ∧ u.2.2.1 ≤ 240 ∧ u.2.2.2.2.1 ≤ 9 ∧ u.2.2.2.2.2.2.1 ≤ 120)) (fun u : Int32 × Nat × Nat × Int32 × Nat × (Nat → Int32) × Nat × (Nat → Int32) => [(h0, .inr (10, [.ref tby, .int (nI kt), .ref tln, .ref tsp, .int u.1, .int (nI u.2.1), .int (nI u.2.2.1), .int u.2.2.2.1])), (tby, .inl (G.2.1, 240, .inl fby)), (tln, .inr (8, [.int 9, .int 7, .ref tlnc, .int (nI u.2.2.2.2.1)])), (tlnc, .inl (G.2.1, 63, .inl u.2.2.2.2.2.1)), (tsp, .inr (8, [.int 120, .int 1, .ref tspc, .int (nI u.2.2.2.2.2.2.1)])), (tspc, .inl (G.2.1, 120, .inl u.2.2.2.2.2.2.2))]) A) ([.ref h0] : List Value).toArray s 0 0 A) (F0 m 32 ls []) := by
    intro nP
    induction nP with
    | zero =>
      intro kP vkd vtf vtln vtsp vks vkn vkl vksp H locs ls hkP hvks hvkn hvkl hvksp hP hD hS hl
      obtain rfl : 10 = kP := by omega
      have hl : lv_has ls 2 [(1, .int 10), (0, .ref h0)] := hl
      refine lv_iload_n hx hb dX10_scan_32 rfl (lv_at hl 0 rfl) ?_
      refine lv_bipush (v := 9) hx hb dX10_scan_33 (by decide) ?_
      refine lv_icmp_gt (tgt := 64) hx hb dX10_scan_35 (by decide) (fun _ => ?_) (fun c9 => absurd (by decide) c9)
      refine lv_aload_n hx hb dX10_scan_64 rfl (lv_at hl 1 rfl) ?_
      refine gf_X10_40 hC rfl hK hP 4 rfl rfl dX10_scan_65 ?_
      exact RI (v := vtf) hC hP hD hS [4, 5, 2, 0, 3, 1] (vkd, vks, vkn, vtf, vkl, vtln, vksp, vtsp) rfl rfl (by decide) (⟨trivial, by dsimp only; omega⟩) rfl dX10_scan_68
    | succ nP ihP =>
      intro kP vkd vtf vtln vtsp vks vkn vkl vksp H locs ls hkP hvks hvkn hvkl hvksp hP hD hS hl
      refine lv_iload_n hx hb dX10_scan_32 rfl (lv_at hl 0 rfl) ?_
      refine lv_bipush (v := 9) hx hb dX10_scan_33 (by decide) ?_
      refine lv_icmp_gt (tgt := 64) hx hb dX10_scan_35 (by decide) (fun c9 => absurd c9 (nI_nlt (a := 9) (b := kP) (by omega) (by omega))) (fun _ => ?_)
      refine lv_aload_n hx hb dX10_scan_38 rfl (lv_at hl 1 rfl) ?_
      refine gf_X10_31 hC rfl hK hP 4 rfl rfl dX10_scan_39 ?_
      refine lv_iconst (v := (-1)) hx hb dX10_scan_42 (by decide) ?_
      refine lv_icmp_eq (tgt := 64) hx hb dX10_scan_43 (by decide) (fun c_43_3899 => ?_) (fun c_43_3899 => ?_)
      · refine lv_aload_n hx hb dX10_scan_64 rfl (lv_at hl 1 rfl) ?_
        refine gf_X10_40 hC rfl hK hP 4 rfl rfl dX10_scan_65 ?_
        exact RI (v := vtf) hC hP hD hS [4, 5, 2, 0, 3, 1] (vkd, vks, vkn, vtf, vkl, vtln, vksp, vtsp) rfl rfl (by decide) (⟨trivial, by dsimp only; omega⟩) rfl dX10_scan_68
      · refine lv_aload_n hx hb dX10_scan_46 rfl (lv_at hl 1 rfl) ?_
        refine iVo (wr := []) hO hC hK hl hP hD hS hA (t_takesLine l G K h0 tby kt tln tsp vkd vks vkn vtf fby tlnc vkl vtln tspc vksp vtsp (by omega) (by omega) (by omega) (by omega) (by omega)) si_X10_50 [4, 5, 2, 0, 3, 1] [] rfl rfl (by decide) rfl (by decide) (by decide) rfl rfl rfl rfl rfl (Nat.le_of_ble_eq_true rfl) ⟨Nat.le_of_ble_eq_true rfl, Nat.le_of_ble_eq_true rfl⟩ ⟨Nat.le_of_ble_eq_true rfl, Nat.le_of_ble_eq_true rfl⟩ dX10_scan_47 (fun r3900 u3901 H locs hr3900 hP hD hS => ?_)
        obtain ⟨kd13902, ks13903, kn13904, tf13905, kln13906, gtln3907, ksp13908, gtsp3909⟩ := u3901
        try dsimp only at hr3900
        have hP : va_P G.1 vwCl [(h0, .inr (10, [.ref tby, .int (nI kt), .ref tln, .ref tsp, .int kd13902, .int (nI ks13903), .int (nI kn13904), .int tf13905])), (tby, .inl (G.2.1, 240, .inl fby)), (tln, .inr (8, [.int 9, .int 7, .ref tlnc, .int (nI kln13906)])), (tlnc, .inl (G.2.1, 63, .inl gtln3907)), (tsp, .inr (8, [.int 120, .int 1, .ref tspc, .int (nI ksp13908)])), (tspc, .inl (G.2.1, 120, .inl gtsp3909))] H := hP
        have hD : va_D A [(h0, .inr (10, [.ref tby, .int (nI kt), .ref tln, .ref tsp, .int kd13902, .int (nI ks13903), .int (nI kn13904), .int tf13905])), (tby, .inl (G.2.1, 240, .inl fby)), (tln, .inr (8, [.int 9, .int 7, .ref tlnc, .int (nI kln13906)])), (tlnc, .inl (G.2.1, 63, .inl gtln3907)), (tsp, .inr (8, [.int 120, .int 1, .ref tspc, .int (nI ksp13908)])), (tspc, .inl (G.2.1, 120, .inl gtsp3909))] := hD
        obtain ⟨hr3900, w3910⟩ := hr3900
        rcases hr3900 with rfl | rfl
        · refine lv_if_ne (tgt := 58) hx hb dX10_scan_50 (by decide) (fun _ => ?_) (fun c9 => absurd c9 (by decide))
          refine lv_iinc (v := nI (kP + 1)) (lv' := [(1, .int (nI (kP + 1))), (0, .ref h0)]) hx hb dX10_scan_58 hl (k := 0) rfl (nI_1 _) (by decide) rfl (fun ls hl => ?_)
          refine lv_goto (tgt := 32) hx hb dX10_scan_61 (by decide) ?_
          have hP := hP.sub (ws' := [(tlnc, .inl (G.2.1, 63, .inl gtln3907)), (tspc, .inl (G.2.1, 120, .inl gtsp3909)), (tln, .inr (8, [.int 9, .int 7, .ref tlnc, .int (nI kln13906)])), (tsp, .inr (8, [.int 120, .int 1, .ref tspc, .int (nI ksp13908)])), (h0, .inr (10, [.ref tby, .int (nI kt), .ref tln, .ref tsp, .int kd13902, .int (nI ks13903), .int (nI kn13904), .int tf13905])), (tby, .inl (G.2.1, 240, .inl fby))]) [3, 5, 2, 4, 0, 1] rfl
          have hD := hD.sub (ws' := [(tlnc, .inl (G.2.1, 63, .inl gtln3907)), (tspc, .inl (G.2.1, 120, .inl gtsp3909)), (tln, .inr (8, [.int 9, .int 7, .ref tlnc, .int (nI kln13906)])), (tsp, .inr (8, [.int 120, .int 1, .ref tspc, .int (nI ksp13908)])), (h0, .inr (10, [.ref tby, .int (nI kt), .ref tln, .ref tsp, .int kd13902, .int (nI ks13903), .int (nI kn13904), .int tf13905])), (tby, .inl (G.2.1, 240, .inl fby))]) [3, 5, 2, 4, 0, 1] (by decide) rfl
          exact ihP (kP + 1) kd13902 tf13905 gtln3907 gtsp3909 ks13903 kn13904 kln13906 ksp13908 _ _ _ (by omega) (by first | assumption | exact Or.inl rfl | exact Or.inr rfl | omega) (by first | assumption | exact Or.inl rfl | exact Or.inr rfl | omega) (by first | assumption | exact Or.inl rfl | exact Or.inr rfl | omega) (by first | assumption | exact Or.inl rfl | exact Or.inr rfl | omega) hP hD hS (lv_sub hl [0, 1] rfl)
        · refine lv_if_ne (tgt := 58) hx hb dX10_scan_50 (by decide) (fun c9 => absurd (by decide) c9) (fun _ => ?_)
          refine lv_aload_n hx hb dX10_scan_53 rfl (lv_at hl 1 rfl) ?_
          refine gf_X10_40 hC rfl hK hP 0 rfl rfl dX10_scan_54 ?_
          exact RI (v := tf13905) hC hP hD hS [0, 1, 2, 3, 4, 5] (kd13902, ks13903, kn13904, tf13905, kln13906, gtln3907, ksp13908, gtsp3909) rfl rfl (by decide) (⟨trivial, by dsimp only; omega⟩) rfl dX10_scan_57
  exact keyP 10 0 kd13895 (-1) ftln ftsp ks13896 kn13897 0 0 _ _ _ (by omega) (by first | assumption | exact Or.inl rfl | exact Or.inr rfl | omega) (by first | assumption | exact Or.inl rfl | exact Or.inr rfl | omega) (by first | assumption | exact Or.inl rfl | exact Or.inr rfl | omega) (by first | assumption | exact Or.inl rfl | exact Or.inr rfl | omega) hP hD hS (lv_sub hl [0, 1] rfl)
set_option maxHeartbeats 4000000 in
set_option maxRecDepth 100000 in
theorem t_store (l : Launch) (G : GG) (h0 : Nat) (bb : Nat) (tby : Nat) (kt : Nat) (tln : Nat) (tsp : Nat) (tkd : Int32) (ts9 : Int32) (tn9 : Int32) (tf9 : Int32) (tlnc : Nat) (kln : Nat) (ftln : Nat → Int32) (tspc : Nat) (ksp : Nat) (ftsp : Nat → Int32) (bpersons : Nat) (bpapers : Nat) (bstamps : Nat) (bversions : Nat) (blines : Nat) (bsteps : Nat) (bsayings : Nat) (bfindings : Nat) (bwarnings : Nat) (bquestions : Nat) (td : Int32) (vd : Int32) (vl : Int32) (gp : Int32) (bversionsc : Nat) (kbversions : Nat) (fbversions : Nat → Int32) (blinesc : Nat) (kblines : Nat) (fblines : Nat → Int32) (bstepsc : Nat) (kbsteps : Nat) (fbsteps : Nat → Int32) (hkln : kln ≤ 9) (hksp : ksp ≤ 120) (hkbv : kbversions < 8) (hkblines : kblines ≤ 72) (hkbsteps : kbsteps ≤ 960) : MI l G yX10_store cX10_store 7 (some .int) 3 0 0 [.ref h0, .ref bb] [(h0, .inr (10, [.ref tby, .int (nI kt), .ref tln, .ref tsp, .int tkd, .int ts9, .int tn9, .int tf9])), (tln, .inr (8, [.int 9, .int 7, .ref tlnc, .int (nI kln)])), (tlnc, .inl (G.2.1, 63, .inl ftln)), (tsp, .inr (8, [.int 120, .int 1, .ref tspc, .int (nI ksp)])), (tspc, .inl (G.2.1, 120, .inl ftsp)), (bb, .inr (0, [.ref bpersons, .ref bpapers, .ref bstamps, .ref bversions, .ref blines, .ref bsteps, .ref bsayings, .ref bfindings, .ref bwarnings, .ref bquestions, .int td, .int vd, .int vl, .int gp])), (bversions, .inr (8, [.int 8, .int 3, .ref bversionsc, .int (nI kbversions)])), (bversionsc, .inl (G.2.1, 24, .inl fbversions)), (blines, .inr (8, [.int 72, .int 7, .ref blinesc, .int (nI kblines)])), (blinesc, .inl (G.2.1, 504, .inl fblines)), (bsteps, .inr (8, [.int 960, .int 1, .ref bstepsc, .int (nI kbsteps)])), (bstepsc, .inl (G.2.1, 960, .inl fbsteps))] (fun (r : Int32) (u : Nat × Nat × Nat × (Nat → Int32) × (Nat → Int32) × (Nat → Int32)) => (True) ∧ (u.1 ≤ 8 ∧ u.2.1 ≤ 72 ∧ u.2.2.1 ≤ 960)) (fun u : Nat × Nat × Nat × (Nat → Int32) × (Nat → Int32) × (Nat → Int32) => [(h0, .inr (10, [.ref tby, .int (nI kt), .ref tln, .ref tsp, .int tkd, .int ts9, .int tn9, .int tf9])), (tln, .inr (8, [.int 9, .int 7, .ref tlnc, .int (nI kln)])), (tlnc, .inl (G.2.1, 63, .inl ftln)), (tsp, .inr (8, [.int 120, .int 1, .ref tspc, .int (nI ksp)])), (tspc, .inl (G.2.1, 120, .inl ftsp)), (bb, .inr (0, [.ref bpersons, .ref bpapers, .ref bstamps, .ref bversions, .ref blines, .ref bsteps, .ref bsayings, .ref bfindings, .ref bwarnings, .ref bquestions, .int td, .int vd, .int vl, .int gp])), (bversions, .inr (8, [.int 8, .int 3, .ref bversionsc, .int (nI u.1)])), (bversionsc, .inl (G.2.1, 24, .inl u.2.2.2.1)), (blines, .inr (8, [.int 72, .int 7, .ref blinesc, .int (nI u.2.1)])), (blinesc, .inl (G.2.1, 504, .inl u.2.2.2.2.1)), (bsteps, .inr (8, [.int 960, .int 1, .ref bstepsc, .int (nI u.2.2.1)])), (bstepsc, .inl (G.2.1, 960, .inl u.2.2.2.2.2))]) := by
  refine MI.start (by decide +kernel) (Nat.le_of_ble_eq_true rfl) ?_
  intro p e s m below meth c A ls hC hK hP hD hS hA hl
  have hl : lv_has ls 7 [(0, .ref h0), (1, .ref bb)] := hl
  obtain ⟨hx, hb, hr, hml, hB, hown, hlocks, hnm⟩ := id hC
  refine lv_aload_n hx hb dX10_store_0 rfl (lv_at hl 1 rfl) ?_
  refine gf_X10_54 hC rfl hK hP 5 rfl rfl dX10_store_1 ?_
  refine iV (wr := [(h0, .inr (10, [.ref tby, .int (nI kt), .ref tln, .ref tsp, .int tkd, .int ts9, .int tn9, .int tf9])), (tln, .inr (8, [.int 9, .int 7, .ref tlnc, .int (nI kln)])), (tlnc, .inl (G.2.1, 63, .inl ftln)), (tsp, .inr (8, [.int 120, .int 1, .ref tspc, .int (nI ksp)])), (tspc, .inl (G.2.1, 120, .inl ftsp)), (bb, .inr (0, [.ref bpersons, .ref bpapers, .ref bstamps, .ref bversions, .ref blines, .ref bsteps, .ref bsayings, .ref bfindings, .ref bwarnings, .ref bquestions, .int td, .int vd, .int vl, .int gp])), (bversionsc, .inl (G.2.1, 24, .inl fbversions)), (blines, .inr (8, [.int 72, .int 7, .ref blinesc, .int (nI kblines)])), (blinesc, .inl (G.2.1, 504, .inl fblines)), (bsteps, .inr (8, [.int 960, .int 1, .ref bstepsc, .int (nI kbsteps)])), (bstepsc, .inl (G.2.1, 960, .inl fbsteps))]) hC hK hl hP hD hS hA (c_T_append l G bversions 8 3 bversionsc kbversions (by omega) (by omega)) si_X10_59 [6] [0, 1, 2, 3, 4, 5, 7, 8, 9, 10, 11] rfl rfl (by decide) rfl (by decide) (by decide) rfl rfl rfl rfl rfl (Nat.le_of_ble_eq_true rfl) ⟨Nat.le_of_ble_eq_true rfl, Nat.le_of_ble_eq_true rfl⟩ ⟨Nat.le_of_ble_eq_true rfl, Nat.le_of_ble_eq_true rfl⟩ dX10_store_4 (fun r3912 u3913 H locs hr3912 hP hD hS => ?_)
  have hP : va_P G.1 vwCl [(h0, .inr (10, [.ref tby, .int (nI kt), .ref tln, .ref tsp, .int tkd, .int ts9, .int tn9, .int tf9])), (tln, .inr (8, [.int 9, .int 7, .ref tlnc, .int (nI kln)])), (tlnc, .inl (G.2.1, 63, .inl ftln)), (tsp, .inr (8, [.int 120, .int 1, .ref tspc, .int (nI ksp)])), (tspc, .inl (G.2.1, 120, .inl ftsp)), (bb, .inr (0, [.ref bpersons, .ref bpapers, .ref bstamps, .ref bversions, .ref blines, .ref bsteps, .ref bsayings, .ref bfindings, .ref bwarnings, .ref bquestions, .int td, .int vd, .int vl, .int gp])), (bversionsc, .inl (G.2.1, 24, .inl fbversions)), (blines, .inr (8, [.int 72, .int 7, .ref blinesc, .int (nI kblines)])), (blinesc, .inl (G.2.1, 504, .inl fblines)), (bsteps, .inr (8, [.int 960, .int 1, .ref bstepsc, .int (nI kbsteps)])), (bstepsc, .inl (G.2.1, 960, .inl fbsteps)), (bversions, .inr (8, [.int 8, .int 3, .ref bversionsc, .int (nI (kbversions + 1))]))] H := hP
  have hD : va_D A [(h0, .inr (10, [.ref tby, .int (nI kt), .ref tln, .ref tsp, .int tkd, .int ts9, .int tn9, .int tf9])), (tln, .inr (8, [.int 9, .int 7, .ref tlnc, .int (nI kln)])), (tlnc, .inl (G.2.1, 63, .inl ftln)), (tsp, .inr (8, [.int 120, .int 1, .ref tspc, .int (nI ksp)])), (tspc, .inl (G.2.1, 120, .inl ftsp)), (bb, .inr (0, [.ref bpersons, .ref bpapers, .ref bstamps, .ref bversions, .ref blines, .ref bsteps, .ref bsayings, .ref bfindings, .ref bwarnings, .ref bquestions, .int td, .int vd, .int vl, .int gp])), (bversionsc, .inl (G.2.1, 24, .inl fbversions)), (blines, .inr (8, [.int 72, .int 7, .ref blinesc, .int (nI kblines)])), (blinesc, .inl (G.2.1, 504, .inl fblines)), (bsteps, .inr (8, [.int 960, .int 1, .ref bstepsc, .int (nI kbsteps)])), (bstepsc, .inl (G.2.1, 960, .inl fbsteps)), (bversions, .inr (8, [.int 8, .int 3, .ref bversionsc, .int (nI (kbversions + 1))]))] := hD
  obtain rfl := hr3912
  refine lv_istore_n (lv' := [(2, .int (nI kbversions)), (0, .ref h0), (1, .ref bb)]) hx hb dX10_store_7 rfl hl (by decide) rfl (fun ls hl => ?_)
  refine lv_aload_n hx hb dX10_store_8 rfl (lv_at hl 2 rfl) ?_
  refine gf_X10_54 hC rfl hK hP 5 rfl rfl dX10_store_9 ?_
  refine lv_iload_n hx hb dX10_store_12 rfl (lv_at hl 0 rfl) ?_
  refine lv_iconst (v := 0) hx hb dX10_store_13 (by decide) ?_
  refine lv_aload_n hx hb dX10_store_14 rfl (lv_at hl 2 rfl) ?_
  refine gf_X10_63 hC rfl hK hP 5 rfl rfl dX10_store_15 ?_
  refine vV (wr := [(h0, .inr (10, [.ref tby, .int (nI kt), .ref tln, .ref tsp, .int tkd, .int ts9, .int tn9, .int tf9])), (tln, .inr (8, [.int 9, .int 7, .ref tlnc, .int (nI kln)])), (tlnc, .inl (G.2.1, 63, .inl ftln)), (tsp, .inr (8, [.int 120, .int 1, .ref tspc, .int (nI ksp)])), (tspc, .inl (G.2.1, 120, .inl ftsp)), (bb, .inr (0, [.ref bpersons, .ref bpapers, .ref bstamps, .ref bversions, .ref blines, .ref bsteps, .ref bsayings, .ref bfindings, .ref bwarnings, .ref bquestions, .int td, .int vd, .int vl, .int gp])), (blines, .inr (8, [.int 72, .int 7, .ref blinesc, .int (nI kblines)])), (blinesc, .inl (G.2.1, 504, .inl fblines)), (bsteps, .inr (8, [.int 960, .int 1, .ref bstepsc, .int (nI kbsteps)])), (bstepsc, .inl (G.2.1, 960, .inl fbsteps))]) hC hK hl hP hD hS hA (c_T_set l G bversions (nI kbversions) 0 td 8 3 bversionsc (kbversions + 1) fbversions (by omega) (by omega) (by omega)) si_X10_66 [11, 6] [0, 1, 2, 3, 4, 5, 7, 8, 9, 10] rfl rfl (by decide) rfl (by decide) (by decide) rfl rfl rfl rfl rfl (Nat.le_of_ble_eq_true rfl) ⟨Nat.le_of_ble_eq_true rfl, Nat.le_of_ble_eq_true rfl⟩ ⟨Nat.le_of_ble_eq_true rfl, Nat.le_of_ble_eq_true rfl⟩ dX10_store_18 (fun u3916 H locs hr3915 hP hD hS => ?_)
  obtain ⟨f13917, rfl⟩ : ∃ z9, z9 = u3916 := ⟨_, rfl⟩
  try dsimp only at hr3915
  have hP : va_P G.1 vwCl [(h0, .inr (10, [.ref tby, .int (nI kt), .ref tln, .ref tsp, .int tkd, .int ts9, .int tn9, .int tf9])), (tln, .inr (8, [.int 9, .int 7, .ref tlnc, .int (nI kln)])), (tlnc, .inl (G.2.1, 63, .inl ftln)), (tsp, .inr (8, [.int 120, .int 1, .ref tspc, .int (nI ksp)])), (tspc, .inl (G.2.1, 120, .inl ftsp)), (bb, .inr (0, [.ref bpersons, .ref bpapers, .ref bstamps, .ref bversions, .ref blines, .ref bsteps, .ref bsayings, .ref bfindings, .ref bwarnings, .ref bquestions, .int td, .int vd, .int vl, .int gp])), (blines, .inr (8, [.int 72, .int 7, .ref blinesc, .int (nI kblines)])), (blinesc, .inl (G.2.1, 504, .inl fblines)), (bsteps, .inr (8, [.int 960, .int 1, .ref bstepsc, .int (nI kbsteps)])), (bstepsc, .inl (G.2.1, 960, .inl fbsteps)), (bversions, .inr (8, [.int 8, .int 3, .ref bversionsc, .int (nI (kbversions + 1))])), (bversionsc, .inl (G.2.1, 24, .inl f13917))] H := hP
  have hD : va_D A [(h0, .inr (10, [.ref tby, .int (nI kt), .ref tln, .ref tsp, .int tkd, .int ts9, .int tn9, .int tf9])), (tln, .inr (8, [.int 9, .int 7, .ref tlnc, .int (nI kln)])), (tlnc, .inl (G.2.1, 63, .inl ftln)), (tsp, .inr (8, [.int 120, .int 1, .ref tspc, .int (nI ksp)])), (tspc, .inl (G.2.1, 120, .inl ftsp)), (bb, .inr (0, [.ref bpersons, .ref bpapers, .ref bstamps, .ref bversions, .ref blines, .ref bsteps, .ref bsayings, .ref bfindings, .ref bwarnings, .ref bquestions, .int td, .int vd, .int vl, .int gp])), (blines, .inr (8, [.int 72, .int 7, .ref blinesc, .int (nI kblines)])), (blinesc, .inl (G.2.1, 504, .inl fblines)), (bsteps, .inr (8, [.int 960, .int 1, .ref bstepsc, .int (nI kbsteps)])), (bstepsc, .inl (G.2.1, 960, .inl fbsteps)), (bversions, .inr (8, [.int 8, .int 3, .ref bversionsc, .int (nI (kbversions + 1))])), (bversionsc, .inl (G.2.1, 24, .inl f13917))] := hD
  have w3918 := hr3915
  refine lv_aload_n hx hb dX10_store_21 rfl (lv_at hl 2 rfl) ?_
  refine gf_X10_54 hC rfl hK hP 5 rfl rfl dX10_store_22 ?_
  refine lv_iload_n hx hb dX10_store_25 rfl (lv_at hl 0 rfl) ?_
  refine lv_iconst (v := 1) hx hb dX10_store_26 (by decide) ?_
  refine lv_aload_n hx hb dX10_store_27 rfl (lv_at hl 2 rfl) ?_
  refine gf_X10_70 hC rfl hK hP 5 rfl rfl dX10_store_28 ?_
  refine pV hC hK hl hP hD (c_T_count l G blines 72 7 blinesc kblines) si_X10_71 [6] rfl rfl (by decide) rfl rfl rfl rfl rfl (Nat.le_of_ble_eq_true rfl) ⟨Nat.le_of_ble_eq_true rfl, Nat.le_of_ble_eq_true rfl⟩ ⟨by first | exact Nat.le_of_ble_eq_true rfl | exact Nat.zero_le _, by first | exact Nat.le_of_ble_eq_true rfl | exact Nat.zero_le _⟩ dX10_store_31 (fun r3919 hr3919 => ?_)
  obtain rfl := hr3919
  refine vV (wr := [(h0, .inr (10, [.ref tby, .int (nI kt), .ref tln, .ref tsp, .int tkd, .int ts9, .int tn9, .int tf9])), (tln, .inr (8, [.int 9, .int 7, .ref tlnc, .int (nI kln)])), (tlnc, .inl (G.2.1, 63, .inl ftln)), (tsp, .inr (8, [.int 120, .int 1, .ref tspc, .int (nI ksp)])), (tspc, .inl (G.2.1, 120, .inl ftsp)), (bb, .inr (0, [.ref bpersons, .ref bpapers, .ref bstamps, .ref bversions, .ref blines, .ref bsteps, .ref bsayings, .ref bfindings, .ref bwarnings, .ref bquestions, .int td, .int vd, .int vl, .int gp])), (blines, .inr (8, [.int 72, .int 7, .ref blinesc, .int (nI kblines)])), (blinesc, .inl (G.2.1, 504, .inl fblines)), (bsteps, .inr (8, [.int 960, .int 1, .ref bstepsc, .int (nI kbsteps)])), (bstepsc, .inl (G.2.1, 960, .inl fbsteps))]) hC hK hl hP hD hS hA (c_T_set l G bversions (nI kbversions) 1 (nI kblines) 8 3 bversionsc (kbversions + 1) f13917 (by omega) (by omega) (by omega)) si_X10_66 [10, 11] [0, 1, 2, 3, 4, 5, 6, 7, 8, 9] rfl rfl (by decide) rfl (by decide) (by decide) rfl rfl rfl rfl rfl (Nat.le_of_ble_eq_true rfl) ⟨Nat.le_of_ble_eq_true rfl, Nat.le_of_ble_eq_true rfl⟩ ⟨Nat.le_of_ble_eq_true rfl, Nat.le_of_ble_eq_true rfl⟩ dX10_store_34 (fun u3922 H locs hr3921 hP hD hS => ?_)
  obtain ⟨f13923, rfl⟩ : ∃ z9, z9 = u3922 := ⟨_, rfl⟩
  try dsimp only at hr3921
  have hP : va_P G.1 vwCl [(h0, .inr (10, [.ref tby, .int (nI kt), .ref tln, .ref tsp, .int tkd, .int ts9, .int tn9, .int tf9])), (tln, .inr (8, [.int 9, .int 7, .ref tlnc, .int (nI kln)])), (tlnc, .inl (G.2.1, 63, .inl ftln)), (tsp, .inr (8, [.int 120, .int 1, .ref tspc, .int (nI ksp)])), (tspc, .inl (G.2.1, 120, .inl ftsp)), (bb, .inr (0, [.ref bpersons, .ref bpapers, .ref bstamps, .ref bversions, .ref blines, .ref bsteps, .ref bsayings, .ref bfindings, .ref bwarnings, .ref bquestions, .int td, .int vd, .int vl, .int gp])), (blines, .inr (8, [.int 72, .int 7, .ref blinesc, .int (nI kblines)])), (blinesc, .inl (G.2.1, 504, .inl fblines)), (bsteps, .inr (8, [.int 960, .int 1, .ref bstepsc, .int (nI kbsteps)])), (bstepsc, .inl (G.2.1, 960, .inl fbsteps)), (bversions, .inr (8, [.int 8, .int 3, .ref bversionsc, .int (nI (kbversions + 1))])), (bversionsc, .inl (G.2.1, 24, .inl f13923))] H := hP
  have hD : va_D A [(h0, .inr (10, [.ref tby, .int (nI kt), .ref tln, .ref tsp, .int tkd, .int ts9, .int tn9, .int tf9])), (tln, .inr (8, [.int 9, .int 7, .ref tlnc, .int (nI kln)])), (tlnc, .inl (G.2.1, 63, .inl ftln)), (tsp, .inr (8, [.int 120, .int 1, .ref tspc, .int (nI ksp)])), (tspc, .inl (G.2.1, 120, .inl ftsp)), (bb, .inr (0, [.ref bpersons, .ref bpapers, .ref bstamps, .ref bversions, .ref blines, .ref bsteps, .ref bsayings, .ref bfindings, .ref bwarnings, .ref bquestions, .int td, .int vd, .int vl, .int gp])), (blines, .inr (8, [.int 72, .int 7, .ref blinesc, .int (nI kblines)])), (blinesc, .inl (G.2.1, 504, .inl fblines)), (bsteps, .inr (8, [.int 960, .int 1, .ref bstepsc, .int (nI kbsteps)])), (bstepsc, .inl (G.2.1, 960, .inl fbsteps)), (bversions, .inr (8, [.int 8, .int 3, .ref bversionsc, .int (nI (kbversions + 1))])), (bversionsc, .inl (G.2.1, 24, .inl f13923))] := hD
  have w3924 := hr3921
  refine lv_aload_n hx hb dX10_store_37 rfl (lv_at hl 2 rfl) ?_
  refine gf_X10_54 hC rfl hK hP 5 rfl rfl dX10_store_38 ?_
  refine lv_iload_n hx hb dX10_store_41 rfl (lv_at hl 0 rfl) ?_
  refine lv_iconst (v := 2) hx hb dX10_store_42 (by decide) ?_
  refine lv_aload_n hx hb dX10_store_43 rfl (lv_at hl 1 rfl) ?_
  refine gf_X10_20 hC rfl hK hP 0 rfl rfl dX10_store_44 ?_
  refine pV hC hK hl hP hD (c_T_count l G tln 9 7 tlnc kln) si_X10_71 [1] rfl rfl (by decide) rfl rfl rfl rfl rfl (Nat.le_of_ble_eq_true rfl) ⟨Nat.le_of_ble_eq_true rfl, Nat.le_of_ble_eq_true rfl⟩ ⟨by first | exact Nat.le_of_ble_eq_true rfl | exact Nat.zero_le _, by first | exact Nat.le_of_ble_eq_true rfl | exact Nat.zero_le _⟩ dX10_store_47 (fun r3925 hr3925 => ?_)
  obtain rfl := hr3925
  refine vV (wr := [(h0, .inr (10, [.ref tby, .int (nI kt), .ref tln, .ref tsp, .int tkd, .int ts9, .int tn9, .int tf9])), (tln, .inr (8, [.int 9, .int 7, .ref tlnc, .int (nI kln)])), (tlnc, .inl (G.2.1, 63, .inl ftln)), (tsp, .inr (8, [.int 120, .int 1, .ref tspc, .int (nI ksp)])), (tspc, .inl (G.2.1, 120, .inl ftsp)), (bb, .inr (0, [.ref bpersons, .ref bpapers, .ref bstamps, .ref bversions, .ref blines, .ref bsteps, .ref bsayings, .ref bfindings, .ref bwarnings, .ref bquestions, .int td, .int vd, .int vl, .int gp])), (blines, .inr (8, [.int 72, .int 7, .ref blinesc, .int (nI kblines)])), (blinesc, .inl (G.2.1, 504, .inl fblines)), (bsteps, .inr (8, [.int 960, .int 1, .ref bstepsc, .int (nI kbsteps)])), (bstepsc, .inl (G.2.1, 960, .inl fbsteps))]) hC hK hl hP hD hS hA (c_T_set l G bversions (nI kbversions) 2 (nI kln) 8 3 bversionsc (kbversions + 1) f13923 (by omega) (by omega) (by omega)) si_X10_66 [10, 11] [0, 1, 2, 3, 4, 5, 6, 7, 8, 9] rfl rfl (by decide) rfl (by decide) (by decide) rfl rfl rfl rfl rfl (Nat.le_of_ble_eq_true rfl) ⟨Nat.le_of_ble_eq_true rfl, Nat.le_of_ble_eq_true rfl⟩ ⟨Nat.le_of_ble_eq_true rfl, Nat.le_of_ble_eq_true rfl⟩ dX10_store_50 (fun u3928 H locs hr3927 hP hD hS => ?_)
  obtain ⟨f13929, rfl⟩ : ∃ z9, z9 = u3928 := ⟨_, rfl⟩
  try dsimp only at hr3927
  have hP : va_P G.1 vwCl [(h0, .inr (10, [.ref tby, .int (nI kt), .ref tln, .ref tsp, .int tkd, .int ts9, .int tn9, .int tf9])), (tln, .inr (8, [.int 9, .int 7, .ref tlnc, .int (nI kln)])), (tlnc, .inl (G.2.1, 63, .inl ftln)), (tsp, .inr (8, [.int 120, .int 1, .ref tspc, .int (nI ksp)])), (tspc, .inl (G.2.1, 120, .inl ftsp)), (bb, .inr (0, [.ref bpersons, .ref bpapers, .ref bstamps, .ref bversions, .ref blines, .ref bsteps, .ref bsayings, .ref bfindings, .ref bwarnings, .ref bquestions, .int td, .int vd, .int vl, .int gp])), (blines, .inr (8, [.int 72, .int 7, .ref blinesc, .int (nI kblines)])), (blinesc, .inl (G.2.1, 504, .inl fblines)), (bsteps, .inr (8, [.int 960, .int 1, .ref bstepsc, .int (nI kbsteps)])), (bstepsc, .inl (G.2.1, 960, .inl fbsteps)), (bversions, .inr (8, [.int 8, .int 3, .ref bversionsc, .int (nI (kbversions + 1))])), (bversionsc, .inl (G.2.1, 24, .inl f13929))] H := hP
  have hD : va_D A [(h0, .inr (10, [.ref tby, .int (nI kt), .ref tln, .ref tsp, .int tkd, .int ts9, .int tn9, .int tf9])), (tln, .inr (8, [.int 9, .int 7, .ref tlnc, .int (nI kln)])), (tlnc, .inl (G.2.1, 63, .inl ftln)), (tsp, .inr (8, [.int 120, .int 1, .ref tspc, .int (nI ksp)])), (tspc, .inl (G.2.1, 120, .inl ftsp)), (bb, .inr (0, [.ref bpersons, .ref bpapers, .ref bstamps, .ref bversions, .ref blines, .ref bsteps, .ref bsayings, .ref bfindings, .ref bwarnings, .ref bquestions, .int td, .int vd, .int vl, .int gp])), (blines, .inr (8, [.int 72, .int 7, .ref blinesc, .int (nI kblines)])), (blinesc, .inl (G.2.1, 504, .inl fblines)), (bsteps, .inr (8, [.int 960, .int 1, .ref bstepsc, .int (nI kbsteps)])), (bstepsc, .inl (G.2.1, 960, .inl fbsteps)), (bversions, .inr (8, [.int 8, .int 3, .ref bversionsc, .int (nI (kbversions + 1))])), (bversionsc, .inl (G.2.1, 24, .inl f13929))] := hD
  have w3930 := hr3927
  refine lv_aload_n hx hb dX10_store_53 rfl (lv_at hl 2 rfl) ?_
  refine gf_X10_73 hC rfl hK hP 5 rfl rfl dX10_store_54 ?_
  refine pV hC hK hl hP hD (c_T_count l G bsteps 960 1 bstepsc kbsteps) si_X10_71 [8] rfl rfl (by decide) rfl rfl rfl rfl rfl (Nat.le_of_ble_eq_true rfl) ⟨Nat.le_of_ble_eq_true rfl, Nat.le_of_ble_eq_true rfl⟩ ⟨by first | exact Nat.le_of_ble_eq_true rfl | exact Nat.zero_le _, by first | exact Nat.le_of_ble_eq_true rfl | exact Nat.zero_le _⟩ dX10_store_57 (fun r3931 hr3931 => ?_)
  obtain rfl := hr3931
  refine lv_istore_n (lv' := [(3, .int (nI kbsteps)), (2, .int (nI kbversions)), (0, .ref h0), (1, .ref bb)]) hx hb dX10_store_60 rfl hl (by decide) rfl (fun ls hl => ?_)
  refine lv_iconst (v := 0) hx hb dX10_store_61 (by decide) ?_
  refine lv_istore (lv' := [(4, .int 0), (3, .int (nI kbsteps)), (2, .int (nI kbversions)), (0, .ref h0), (1, .ref bb)]) hx hb dX10_store_62 hl (by decide) rfl (fun ls hl => ?_)
  have keyP : ∀ (nP kP : Nat) (vbl : Nat → Int32) (vkb : Nat) (H : Heap) (locs : List Loc) (ls : Array Slot), kP + nP = kln → (vkb ≤ 72) → va_P G.1 vwCl [(h0, .inr (10, [.ref tby, .int (nI kt), .ref tln, .ref tsp, .int tkd, .int ts9, .int tn9, .int tf9])), (tln, .inr (8, [.int 9, .int 7, .ref tlnc, .int (nI kln)])), (tlnc, .inl (G.2.1, 63, .inl ftln)), (tsp, .inr (8, [.int 120, .int 1, .ref tspc, .int (nI ksp)])), (tspc, .inl (G.2.1, 120, .inl ftsp)), (bb, .inr (0, [.ref bpersons, .ref bpapers, .ref bstamps, .ref bversions, .ref blines, .ref bsteps, .ref bsayings, .ref bfindings, .ref bwarnings, .ref bquestions, .int td, .int vd, .int vl, .int gp])), (blines, .inr (8, [.int 72, .int 7, .ref blinesc, .int (nI vkb)])), (blinesc, .inl (G.2.1, 504, .inl vbl)), (bsteps, .inr (8, [.int 960, .int 1, .ref bstepsc, .int (nI kbsteps)])), (bstepsc, .inl (G.2.1, 960, .inl fbsteps)), (bversions, .inr (8, [.int 8, .int 3, .ref bversionsc, .int (nI (kbversions + 1))])), (bversionsc, .inl (G.2.1, 24, .inl f13929))] H → va_D A [(h0, .inr (10, [.ref tby, .int (nI kt), .ref tln, .ref tsp, .int tkd, .int ts9, .int tn9, .int tf9])), (tln, .inr (8, [.int 9, .int 7, .ref tlnc, .int (nI kln)])), (tlnc, .inl (G.2.1, 63, .inl ftln)), (tsp, .inr (8, [.int 120, .int 1, .ref tspc, .int (nI ksp)])), (tspc, .inl (G.2.1, 120, .inl ftsp)), (bb, .inr (0, [.ref bpersons, .ref bpapers, .ref bstamps, .ref bversions, .ref blines, .ref bsteps, .ref bsayings, .ref bfindings, .ref bwarnings, .ref bquestions, .int td, .int vd, .int vl, .int gp])), (blines, .inr (8, [.int 72, .int 7, .ref blinesc, .int (nI vkb)])), (blinesc, .inl (G.2.1, 504, .inl vbl)), (bsteps, .inr (8, [.int 960, .int 1, .ref bstepsc, .int (nI kbsteps)])), (bstepsc, .inl (G.2.1, 960, .inl fbsteps)), (bversions, .inr (8, [.int 8, .int 3, .ref bversionsc, .int (nI (kbversions + 1))])), (bversionsc, .inl (G.2.1, 24, .inl f13929))] → va_S A s.heap H locs → lv_has ls 7 [(4, .int (nI kP)), (3, .int (nI kbsteps)), (2, .int (nI kbversions)), (0, .ref h0), (1, .ref bb)] → W p l e (RM 3 0 0) s m ([.ref h0, .ref bb] : List Value).toArray below meth c H locs 0 0 (MQ below (QI G (fun (r : Int32) (u : Nat × Nat × Nat × (Nat → Int32) × (Nat → Int32) × (Nat → Int32)) => (True) ∧ (u.1 ≤ 8 ∧ u.2.1 ≤ 72 ∧ u.2.2.1 ≤ 960)) (fun u : Nat × Nat × Nat × (Nat → Int32) × (Nat → Int32) × (Nat → Int32) => [(h0, .inr (10, [.ref tby, .int (nI kt), .ref tln, .ref tsp, .int tkd, .int ts9, .int tn9, .int tf9])), (tln, .inr (8, [.int 9, .int 7, .ref tlnc, .int (nI kln)])), (tlnc, .inl (G.2.1, 63, .inl ftln)), (tsp, .inr (8, [.int 120, .int 1, .ref tspc, .int (nI ksp)])), (tspc, .inl (G.2.1, 120, .inl ftsp)), (bb, .inr (0, [.ref bpersons, .ref bpapers, .ref bstamps, .ref bversions, .ref blines, .ref bsteps, .ref bsayings, .ref bfindings, .ref bwarnings, .ref bquestions, .int td, .int vd, .int vl, .int gp])), (bversions, .inr (8, [.int 8, .int 3, .ref bversionsc, .int (nI u.1)])), (bversionsc, .inl (G.2.1, 24, .inl u.2.2.2.1)), (blines, .inr (8, [.int 72, .int 7, .ref blinesc, .int (nI u.2.1)])), (blinesc, .inl (G.2.1, 504, .inl u.2.2.2.2.1)), (bsteps, .inr (8, [.int 960, .int 1, .ref bstepsc, .int (nI u.2.2.1)])), (bstepsc, .inl (G.2.1, 960, .inl u.2.2.2.2.2))]) A) ([.ref h0, .ref bb] : List Value).toArray s 0 0 A) (F0 m 64 ls []) := by
    intro nP
    induction nP with
    | zero =>
      intro kP vbl vkb H locs ls hkP hvkb hP hD hS hl
      obtain rfl : kln = kP := by omega
      have hl : lv_has ls 7 [(4, .int (nI kln)), (3, .int (nI kbsteps)), (2, .int (nI kbversions)), (0, .ref h0), (1, .ref bb)] := hl
      refine lv_iload hx hb dX10_store_64 (lv_at hl 0 rfl) ?_
      refine lv_aload_n hx hb dX10_store_66 rfl (lv_at hl 3 rfl) ?_
      refine gf_X10_20 hC rfl hK hP 0 rfl rfl dX10_store_67 ?_
      refine pV hC hK hl hP hD (c_T_count l G tln 9 7 tlnc kln) si_X10_71 [1] rfl rfl (by decide) rfl rfl rfl rfl rfl (Nat.le_of_ble_eq_true rfl) ⟨Nat.le_of_ble_eq_true rfl, Nat.le_of_ble_eq_true rfl⟩ ⟨by first | exact Nat.le_of_ble_eq_true rfl | exact Nat.zero_le _, by first | exact Nat.le_of_ble_eq_true rfl | exact Nat.zero_le _⟩ dX10_store_70 (fun r3933 hr3933 => ?_)
      obtain rfl := hr3933
      refine lv_icmp_ge (tgt := 151) hx hb dX10_store_73 (by decide) (fun _ => ?_) (fun c9 => absurd (Int32.le_refl _) c9)
      refine lv_iconst (v := 0) hx hb dX10_store_151 (by decide) ?_
      refine lv_istore (lv' := [(4, .int 0), (3, .int (nI kbsteps)), (2, .int (nI kbversions)), (0, .ref h0), (1, .ref bb)]) hx hb dX10_store_152 hl (by decide) rfl (fun ls hl => ?_)
      have keyQ : ∀ (nQ kQ : Nat) (vbs : Nat → Int32) (vkc : Nat) (H : Heap) (locs : List Loc) (ls : Array Slot), kQ + nQ = ksp → (vkc ≤ 960) → va_P G.1 vwCl [(h0, .inr (10, [.ref tby, .int (nI kt), .ref tln, .ref tsp, .int tkd, .int ts9, .int tn9, .int tf9])), (tln, .inr (8, [.int 9, .int 7, .ref tlnc, .int (nI kln)])), (tlnc, .inl (G.2.1, 63, .inl ftln)), (tsp, .inr (8, [.int 120, .int 1, .ref tspc, .int (nI ksp)])), (tspc, .inl (G.2.1, 120, .inl ftsp)), (bb, .inr (0, [.ref bpersons, .ref bpapers, .ref bstamps, .ref bversions, .ref blines, .ref bsteps, .ref bsayings, .ref bfindings, .ref bwarnings, .ref bquestions, .int td, .int vd, .int vl, .int gp])), (blines, .inr (8, [.int 72, .int 7, .ref blinesc, .int (nI vkb)])), (blinesc, .inl (G.2.1, 504, .inl vbl)), (bsteps, .inr (8, [.int 960, .int 1, .ref bstepsc, .int (nI vkc)])), (bstepsc, .inl (G.2.1, 960, .inl vbs)), (bversions, .inr (8, [.int 8, .int 3, .ref bversionsc, .int (nI (kbversions + 1))])), (bversionsc, .inl (G.2.1, 24, .inl f13929))] H → va_D A [(h0, .inr (10, [.ref tby, .int (nI kt), .ref tln, .ref tsp, .int tkd, .int ts9, .int tn9, .int tf9])), (tln, .inr (8, [.int 9, .int 7, .ref tlnc, .int (nI kln)])), (tlnc, .inl (G.2.1, 63, .inl ftln)), (tsp, .inr (8, [.int 120, .int 1, .ref tspc, .int (nI ksp)])), (tspc, .inl (G.2.1, 120, .inl ftsp)), (bb, .inr (0, [.ref bpersons, .ref bpapers, .ref bstamps, .ref bversions, .ref blines, .ref bsteps, .ref bsayings, .ref bfindings, .ref bwarnings, .ref bquestions, .int td, .int vd, .int vl, .int gp])), (blines, .inr (8, [.int 72, .int 7, .ref blinesc, .int (nI vkb)])), (blinesc, .inl (G.2.1, 504, .inl vbl)), (bsteps, .inr (8, [.int 960, .int 1, .ref bstepsc, .int (nI vkc)])), (bstepsc, .inl (G.2.1, 960, .inl vbs)), (bversions, .inr (8, [.int 8, .int 3, .ref bversionsc, .int (nI (kbversions + 1))])), (bversionsc, .inl (G.2.1, 24, .inl f13929))] → va_S A s.heap H locs → lv_has ls 7 [(4, .int (nI kQ)), (3, .int (nI kbsteps)), (2, .int (nI kbversions)), (0, .ref h0), (1, .ref bb)] → W p l e (RM 3 0 0) s m ([.ref h0, .ref bb] : List Value).toArray below meth c H locs 0 0 (MQ below (QI G (fun (r : Int32) (u : Nat × Nat × Nat × (Nat → Int32) × (Nat → Int32) × (Nat → Int32)) => (True) ∧ (u.1 ≤ 8 ∧ u.2.1 ≤ 72 ∧ u.2.2.1 ≤ 960)) (fun u : Nat × Nat × Nat × (Nat → Int32) × (Nat → Int32) × (Nat → Int32) => [(h0, .inr (10, [.ref tby, .int (nI kt), .ref tln, .ref tsp, .int tkd, .int ts9, .int tn9, .int tf9])), (tln, .inr (8, [.int 9, .int 7, .ref tlnc, .int (nI kln)])), (tlnc, .inl (G.2.1, 63, .inl ftln)), (tsp, .inr (8, [.int 120, .int 1, .ref tspc, .int (nI ksp)])), (tspc, .inl (G.2.1, 120, .inl ftsp)), (bb, .inr (0, [.ref bpersons, .ref bpapers, .ref bstamps, .ref bversions, .ref blines, .ref bsteps, .ref bsayings, .ref bfindings, .ref bwarnings, .ref bquestions, .int td, .int vd, .int vl, .int gp])), (bversions, .inr (8, [.int 8, .int 3, .ref bversionsc, .int (nI u.1)])), (bversionsc, .inl (G.2.1, 24, .inl u.2.2.2.1)), (blines, .inr (8, [.int 72, .int 7, .ref blinesc, .int (nI u.2.1)])), (blinesc, .inl (G.2.1, 504, .inl u.2.2.2.2.1)), (bsteps, .inr (8, [.int 960, .int 1, .ref bstepsc, .int (nI u.2.2.1)])), (bstepsc, .inl (G.2.1, 960, .inl u.2.2.2.2.2))]) A) ([.ref h0, .ref bb] : List Value).toArray s 0 0 A) (F0 m 154 ls []) := by
        intro nQ
        induction nQ with
        | zero =>
          intro kQ vbs vkc H locs ls hkQ hvkc hP hD hS hl
          obtain rfl : ksp = kQ := by omega
          have hl : lv_has ls 7 [(4, .int (nI ksp)), (3, .int (nI kbsteps)), (2, .int (nI kbversions)), (0, .ref h0), (1, .ref bb)] := hl
          refine lv_iload hx hb dX10_store_154 (lv_at hl 0 rfl) ?_
          refine lv_aload_n hx hb dX10_store_156 rfl (lv_at hl 3 rfl) ?_
          refine gf_X10_24 hC rfl hK hP 0 rfl rfl dX10_store_157 ?_
          refine pV hC hK hl hP hD (c_T_count l G tsp 120 1 tspc ksp) si_X10_71 [3] rfl rfl (by decide) rfl rfl rfl rfl rfl (Nat.le_of_ble_eq_true rfl) ⟨Nat.le_of_ble_eq_true rfl, Nat.le_of_ble_eq_true rfl⟩ ⟨by first | exact Nat.le_of_ble_eq_true rfl | exact Nat.zero_le _, by first | exact Nat.le_of_ble_eq_true rfl | exact Nat.zero_le _⟩ dX10_store_160 (fun r3935 hr3935 => ?_)
          obtain rfl := hr3935
          refine lv_icmp_ge (tgt := 197) hx hb dX10_store_163 (by decide) (fun _ => ?_) (fun c9 => absurd (Int32.le_refl _) c9)
          refine lv_iload_n hx hb dX10_store_197 rfl (lv_at hl 2 rfl) ?_
          exact RI (v := nI kbversions) hC hP hD hS [0, 1, 2, 3, 4, 5, 10, 11, 6, 7, 8, 9] ((kbversions + 1), vkb, vkc, f13929, vbl, vbs) rfl rfl (by decide) (⟨trivial, by dsimp only; omega⟩) rfl dX10_store_198
        | succ nQ ihQ =>
          intro kQ vbs vkc H locs ls hkQ hvkc hP hD hS hl
          refine lv_iload hx hb dX10_store_154 (lv_at hl 0 rfl) ?_
          refine lv_aload_n hx hb dX10_store_156 rfl (lv_at hl 3 rfl) ?_
          refine gf_X10_24 hC rfl hK hP 0 rfl rfl dX10_store_157 ?_
          refine pV hC hK hl hP hD (c_T_count l G tsp 120 1 tspc ksp) si_X10_71 [3] rfl rfl (by decide) rfl rfl rfl rfl rfl (Nat.le_of_ble_eq_true rfl) ⟨Nat.le_of_ble_eq_true rfl, Nat.le_of_ble_eq_true rfl⟩ ⟨by first | exact Nat.le_of_ble_eq_true rfl | exact Nat.zero_le _, by first | exact Nat.le_of_ble_eq_true rfl | exact Nat.zero_le _⟩ dX10_store_160 (fun r3937 hr3937 => ?_)
          obtain rfl := hr3937
          refine lv_icmp_ge (tgt := 197) hx hb dX10_store_163 (by decide) (fun c9 => absurd c9 (nI_ge (a := kQ) (b := ksp) (by omega) (by omega))) (fun _ => ?_)
          refine lv_aload_n hx hb dX10_store_166 rfl (lv_at hl 4 rfl) ?_
          refine gf_X10_73 hC rfl hK hP 5 rfl rfl dX10_store_167 ?_
          refine lv_aload_n hx hb dX10_store_170 rfl (lv_at hl 4 rfl) ?_
          refine gf_X10_73 hC rfl hK hP 5 rfl rfl dX10_store_171 ?_
          rcases Nat.lt_or_ge vkc 960 with hcap9 | hcap9
          · refine iV (wr := [(h0, .inr (10, [.ref tby, .int (nI kt), .ref tln, .ref tsp, .int tkd, .int ts9, .int tn9, .int tf9])), (tln, .inr (8, [.int 9, .int 7, .ref tlnc, .int (nI kln)])), (tlnc, .inl (G.2.1, 63, .inl ftln)), (tsp, .inr (8, [.int 120, .int 1, .ref tspc, .int (nI ksp)])), (tspc, .inl (G.2.1, 120, .inl ftsp)), (bb, .inr (0, [.ref bpersons, .ref bpapers, .ref bstamps, .ref bversions, .ref blines, .ref bsteps, .ref bsayings, .ref bfindings, .ref bwarnings, .ref bquestions, .int td, .int vd, .int vl, .int gp])), (blines, .inr (8, [.int 72, .int 7, .ref blinesc, .int (nI vkb)])), (blinesc, .inl (G.2.1, 504, .inl vbl)), (bstepsc, .inl (G.2.1, 960, .inl vbs)), (bversions, .inr (8, [.int 8, .int 3, .ref bversionsc, .int (nI (kbversions + 1))])), (bversionsc, .inl (G.2.1, 24, .inl f13929))]) hC hK hl hP hD hS hA (c_T_append l G bsteps 960 1 bstepsc vkc (by omega) (by omega)) si_X10_59 [8] [0, 1, 2, 3, 4, 5, 6, 7, 9, 10, 11] rfl rfl (by decide) rfl (by decide) (by decide) rfl rfl rfl rfl rfl (Nat.le_of_ble_eq_true rfl) ⟨Nat.le_of_ble_eq_true rfl, Nat.le_of_ble_eq_true rfl⟩ ⟨Nat.le_of_ble_eq_true rfl, Nat.le_of_ble_eq_true rfl⟩ dX10_store_174 (fun r3939 u3940 H locs hr3939 hP hD hS => ?_)
            have hP : va_P G.1 vwCl [(h0, .inr (10, [.ref tby, .int (nI kt), .ref tln, .ref tsp, .int tkd, .int ts9, .int tn9, .int tf9])), (tln, .inr (8, [.int 9, .int 7, .ref tlnc, .int (nI kln)])), (tlnc, .inl (G.2.1, 63, .inl ftln)), (tsp, .inr (8, [.int 120, .int 1, .ref tspc, .int (nI ksp)])), (tspc, .inl (G.2.1, 120, .inl ftsp)), (bb, .inr (0, [.ref bpersons, .ref bpapers, .ref bstamps, .ref bversions, .ref blines, .ref bsteps, .ref bsayings, .ref bfindings, .ref bwarnings, .ref bquestions, .int td, .int vd, .int vl, .int gp])), (blines, .inr (8, [.int 72, .int 7, .ref blinesc, .int (nI vkb)])), (blinesc, .inl (G.2.1, 504, .inl vbl)), (bstepsc, .inl (G.2.1, 960, .inl vbs)), (bversions, .inr (8, [.int 8, .int 3, .ref bversionsc, .int (nI (kbversions + 1))])), (bversionsc, .inl (G.2.1, 24, .inl f13929)), (bsteps, .inr (8, [.int 960, .int 1, .ref bstepsc, .int (nI (vkc + 1))]))] H := hP
            have hD : va_D A [(h0, .inr (10, [.ref tby, .int (nI kt), .ref tln, .ref tsp, .int tkd, .int ts9, .int tn9, .int tf9])), (tln, .inr (8, [.int 9, .int 7, .ref tlnc, .int (nI kln)])), (tlnc, .inl (G.2.1, 63, .inl ftln)), (tsp, .inr (8, [.int 120, .int 1, .ref tspc, .int (nI ksp)])), (tspc, .inl (G.2.1, 120, .inl ftsp)), (bb, .inr (0, [.ref bpersons, .ref bpapers, .ref bstamps, .ref bversions, .ref blines, .ref bsteps, .ref bsayings, .ref bfindings, .ref bwarnings, .ref bquestions, .int td, .int vd, .int vl, .int gp])), (blines, .inr (8, [.int 72, .int 7, .ref blinesc, .int (nI vkb)])), (blinesc, .inl (G.2.1, 504, .inl vbl)), (bstepsc, .inl (G.2.1, 960, .inl vbs)), (bversions, .inr (8, [.int 8, .int 3, .ref bversionsc, .int (nI (kbversions + 1))])), (bversionsc, .inl (G.2.1, 24, .inl f13929)), (bsteps, .inr (8, [.int 960, .int 1, .ref bstepsc, .int (nI (vkc + 1))]))] := hD
            obtain rfl := hr3939
            refine lv_iconst (v := 0) hx hb dX10_store_177 (by decide) ?_
            refine lv_aload_n hx hb dX10_store_178 rfl (lv_at hl 3 rfl) ?_
            refine gf_X10_24 hC rfl hK hP 0 rfl rfl dX10_store_179 ?_
            refine lv_iload hx hb dX10_store_182 (lv_at hl 0 rfl) ?_
            refine lv_iconst (v := 0) hx hb dX10_store_184 (by decide) ?_
            refine pV hC hK hl hP hD (c_T_at l G tsp (nI kQ) 0 120 1 tspc ksp ftsp (by omega) (by omega) (by omega)) si_X10_74 [3, 4] rfl rfl (by decide) rfl rfl rfl rfl rfl (Nat.le_of_ble_eq_true rfl) ⟨Nat.le_of_ble_eq_true rfl, Nat.le_of_ble_eq_true rfl⟩ ⟨by first | exact Nat.le_of_ble_eq_true rfl | exact Nat.zero_le _, by first | exact Nat.le_of_ble_eq_true rfl | exact Nat.zero_le _⟩ dX10_store_185 (fun r3942 hr3942 => ?_)
            refine vV (wr := [(h0, .inr (10, [.ref tby, .int (nI kt), .ref tln, .ref tsp, .int tkd, .int ts9, .int tn9, .int tf9])), (tln, .inr (8, [.int 9, .int 7, .ref tlnc, .int (nI kln)])), (tlnc, .inl (G.2.1, 63, .inl ftln)), (tsp, .inr (8, [.int 120, .int 1, .ref tspc, .int (nI ksp)])), (tspc, .inl (G.2.1, 120, .inl ftsp)), (bb, .inr (0, [.ref bpersons, .ref bpapers, .ref bstamps, .ref bversions, .ref blines, .ref bsteps, .ref bsayings, .ref bfindings, .ref bwarnings, .ref bquestions, .int td, .int vd, .int vl, .int gp])), (blines, .inr (8, [.int 72, .int 7, .ref blinesc, .int (nI vkb)])), (blinesc, .inl (G.2.1, 504, .inl vbl)), (bversions, .inr (8, [.int 8, .int 3, .ref bversionsc, .int (nI (kbversions + 1))])), (bversionsc, .inl (G.2.1, 24, .inl f13929))]) hC hK hl hP hD hS hA (c_T_set l G bsteps (nI vkc) 0 r3942 960 1 bstepsc (vkc + 1) vbs (by omega) (by omega) (by omega)) si_X10_66 [11, 8] [0, 1, 2, 3, 4, 5, 6, 7, 9, 10] rfl rfl (by decide) rfl (by decide) (by decide) rfl rfl rfl rfl rfl (Nat.le_of_ble_eq_true rfl) ⟨Nat.le_of_ble_eq_true rfl, Nat.le_of_ble_eq_true rfl⟩ ⟨Nat.le_of_ble_eq_true rfl, Nat.le_of_ble_eq_true rfl⟩ dX10_store_188 (fun u3945 H locs hr3944 hP hD hS => ?_)
            obtain ⟨f13946, rfl⟩ : ∃ z9, z9 = u3945 := ⟨_, rfl⟩
            try dsimp only at hr3944
            have hP : va_P G.1 vwCl [(h0, .inr (10, [.ref tby, .int (nI kt), .ref tln, .ref tsp, .int tkd, .int ts9, .int tn9, .int tf9])), (tln, .inr (8, [.int 9, .int 7, .ref tlnc, .int (nI kln)])), (tlnc, .inl (G.2.1, 63, .inl ftln)), (tsp, .inr (8, [.int 120, .int 1, .ref tspc, .int (nI ksp)])), (tspc, .inl (G.2.1, 120, .inl ftsp)), (bb, .inr (0, [.ref bpersons, .ref bpapers, .ref bstamps, .ref bversions, .ref blines, .ref bsteps, .ref bsayings, .ref bfindings, .ref bwarnings, .ref bquestions, .int td, .int vd, .int vl, .int gp])), (blines, .inr (8, [.int 72, .int 7, .ref blinesc, .int (nI vkb)])), (blinesc, .inl (G.2.1, 504, .inl vbl)), (bversions, .inr (8, [.int 8, .int 3, .ref bversionsc, .int (nI (kbversions + 1))])), (bversionsc, .inl (G.2.1, 24, .inl f13929)), (bsteps, .inr (8, [.int 960, .int 1, .ref bstepsc, .int (nI (vkc + 1))])), (bstepsc, .inl (G.2.1, 960, .inl f13946))] H := hP
            have hD : va_D A [(h0, .inr (10, [.ref tby, .int (nI kt), .ref tln, .ref tsp, .int tkd, .int ts9, .int tn9, .int tf9])), (tln, .inr (8, [.int 9, .int 7, .ref tlnc, .int (nI kln)])), (tlnc, .inl (G.2.1, 63, .inl ftln)), (tsp, .inr (8, [.int 120, .int 1, .ref tspc, .int (nI ksp)])), (tspc, .inl (G.2.1, 120, .inl ftsp)), (bb, .inr (0, [.ref bpersons, .ref bpapers, .ref bstamps, .ref bversions, .ref blines, .ref bsteps, .ref bsayings, .ref bfindings, .ref bwarnings, .ref bquestions, .int td, .int vd, .int vl, .int gp])), (blines, .inr (8, [.int 72, .int 7, .ref blinesc, .int (nI vkb)])), (blinesc, .inl (G.2.1, 504, .inl vbl)), (bversions, .inr (8, [.int 8, .int 3, .ref bversionsc, .int (nI (kbversions + 1))])), (bversionsc, .inl (G.2.1, 24, .inl f13929)), (bsteps, .inr (8, [.int 960, .int 1, .ref bstepsc, .int (nI (vkc + 1))])), (bstepsc, .inl (G.2.1, 960, .inl f13946))] := hD
            have w3947 := hr3944
            refine lv_iinc (v := nI (kQ + 1)) (lv' := [(4, .int (nI (kQ + 1))), (3, .int (nI kbsteps)), (2, .int (nI kbversions)), (0, .ref h0), (1, .ref bb)]) hx hb dX10_store_191 hl (k := 0) rfl (nI_1 _) (by decide) rfl (fun ls hl => ?_)
            refine lv_goto (tgt := 154) hx hb dX10_store_194 (by decide) ?_
            have hP := hP.sub (ws' := [(h0, .inr (10, [.ref tby, .int (nI kt), .ref tln, .ref tsp, .int tkd, .int ts9, .int tn9, .int tf9])), (tln, .inr (8, [.int 9, .int 7, .ref tlnc, .int (nI kln)])), (tlnc, .inl (G.2.1, 63, .inl ftln)), (tsp, .inr (8, [.int 120, .int 1, .ref tspc, .int (nI ksp)])), (tspc, .inl (G.2.1, 120, .inl ftsp)), (bb, .inr (0, [.ref bpersons, .ref bpapers, .ref bstamps, .ref bversions, .ref blines, .ref bsteps, .ref bsayings, .ref bfindings, .ref bwarnings, .ref bquestions, .int td, .int vd, .int vl, .int gp])), (blines, .inr (8, [.int 72, .int 7, .ref blinesc, .int (nI vkb)])), (blinesc, .inl (G.2.1, 504, .inl vbl)), (bsteps, .inr (8, [.int 960, .int 1, .ref bstepsc, .int (nI (vkc + 1))])), (bstepsc, .inl (G.2.1, 960, .inl f13946)), (bversions, .inr (8, [.int 8, .int 3, .ref bversionsc, .int (nI (kbversions + 1))])), (bversionsc, .inl (G.2.1, 24, .inl f13929))]) [0, 1, 2, 3, 4, 5, 6, 7, 10, 11, 8, 9] rfl
            have hD := hD.sub (ws' := [(h0, .inr (10, [.ref tby, .int (nI kt), .ref tln, .ref tsp, .int tkd, .int ts9, .int tn9, .int tf9])), (tln, .inr (8, [.int 9, .int 7, .ref tlnc, .int (nI kln)])), (tlnc, .inl (G.2.1, 63, .inl ftln)), (tsp, .inr (8, [.int 120, .int 1, .ref tspc, .int (nI ksp)])), (tspc, .inl (G.2.1, 120, .inl ftsp)), (bb, .inr (0, [.ref bpersons, .ref bpapers, .ref bstamps, .ref bversions, .ref blines, .ref bsteps, .ref bsayings, .ref bfindings, .ref bwarnings, .ref bquestions, .int td, .int vd, .int vl, .int gp])), (blines, .inr (8, [.int 72, .int 7, .ref blinesc, .int (nI vkb)])), (blinesc, .inl (G.2.1, 504, .inl vbl)), (bsteps, .inr (8, [.int 960, .int 1, .ref bstepsc, .int (nI (vkc + 1))])), (bstepsc, .inl (G.2.1, 960, .inl f13946)), (bversions, .inr (8, [.int 8, .int 3, .ref bversionsc, .int (nI (kbversions + 1))])), (bversionsc, .inl (G.2.1, 24, .inl f13929))]) [0, 1, 2, 3, 4, 5, 6, 7, 10, 11, 8, 9] (by decide) rfl
            exact ihQ (kQ + 1) f13946 (vkc + 1) _ _ _ (by omega) (by first | assumption | exact Or.inl rfl | exact Or.inr rfl | omega) hP hD hS (lv_sub hl [0, 1, 2, 3, 4] rfl)
          · refine iV (wr := [(h0, .inr (10, [.ref tby, .int (nI kt), .ref tln, .ref tsp, .int tkd, .int ts9, .int tn9, .int tf9])), (tln, .inr (8, [.int 9, .int 7, .ref tlnc, .int (nI kln)])), (tlnc, .inl (G.2.1, 63, .inl ftln)), (tsp, .inr (8, [.int 120, .int 1, .ref tspc, .int (nI ksp)])), (tspc, .inl (G.2.1, 120, .inl ftsp)), (bb, .inr (0, [.ref bpersons, .ref bpapers, .ref bstamps, .ref bversions, .ref blines, .ref bsteps, .ref bsayings, .ref bfindings, .ref bwarnings, .ref bquestions, .int td, .int vd, .int vl, .int gp])), (blines, .inr (8, [.int 72, .int 7, .ref blinesc, .int (nI vkb)])), (blinesc, .inl (G.2.1, 504, .inl vbl)), (bstepsc, .inl (G.2.1, 960, .inl vbs)), (bversions, .inr (8, [.int 8, .int 3, .ref bversionsc, .int (nI (kbversions + 1))])), (bversionsc, .inl (G.2.1, 24, .inl f13929))]) hC hK hl hP hD hS hA (c_T_appendF l G bsteps 960 1 bstepsc vkc (by omega) (by omega)) si_X10_59 [8] [0, 1, 2, 3, 4, 5, 6, 7, 9, 10, 11] rfl rfl (by decide) rfl (by decide) (by decide) rfl rfl rfl rfl rfl (Nat.le_of_ble_eq_true rfl) ⟨Nat.le_of_ble_eq_true rfl, Nat.le_of_ble_eq_true rfl⟩ ⟨Nat.le_of_ble_eq_true rfl, Nat.le_of_ble_eq_true rfl⟩ dX10_store_174 (fun r3948 u3949 H locs hr3948 hP hD hS => ?_)
            have hP : va_P G.1 vwCl [(h0, .inr (10, [.ref tby, .int (nI kt), .ref tln, .ref tsp, .int tkd, .int ts9, .int tn9, .int tf9])), (tln, .inr (8, [.int 9, .int 7, .ref tlnc, .int (nI kln)])), (tlnc, .inl (G.2.1, 63, .inl ftln)), (tsp, .inr (8, [.int 120, .int 1, .ref tspc, .int (nI ksp)])), (tspc, .inl (G.2.1, 120, .inl ftsp)), (bb, .inr (0, [.ref bpersons, .ref bpapers, .ref bstamps, .ref bversions, .ref blines, .ref bsteps, .ref bsayings, .ref bfindings, .ref bwarnings, .ref bquestions, .int td, .int vd, .int vl, .int gp])), (blines, .inr (8, [.int 72, .int 7, .ref blinesc, .int (nI vkb)])), (blinesc, .inl (G.2.1, 504, .inl vbl)), (bstepsc, .inl (G.2.1, 960, .inl vbs)), (bversions, .inr (8, [.int 8, .int 3, .ref bversionsc, .int (nI (kbversions + 1))])), (bversionsc, .inl (G.2.1, 24, .inl f13929)), (bsteps, .inr (8, [.int 960, .int 1, .ref bstepsc, .int (nI vkc)]))] H := hP
            have hD : va_D A [(h0, .inr (10, [.ref tby, .int (nI kt), .ref tln, .ref tsp, .int tkd, .int ts9, .int tn9, .int tf9])), (tln, .inr (8, [.int 9, .int 7, .ref tlnc, .int (nI kln)])), (tlnc, .inl (G.2.1, 63, .inl ftln)), (tsp, .inr (8, [.int 120, .int 1, .ref tspc, .int (nI ksp)])), (tspc, .inl (G.2.1, 120, .inl ftsp)), (bb, .inr (0, [.ref bpersons, .ref bpapers, .ref bstamps, .ref bversions, .ref blines, .ref bsteps, .ref bsayings, .ref bfindings, .ref bwarnings, .ref bquestions, .int td, .int vd, .int vl, .int gp])), (blines, .inr (8, [.int 72, .int 7, .ref blinesc, .int (nI vkb)])), (blinesc, .inl (G.2.1, 504, .inl vbl)), (bstepsc, .inl (G.2.1, 960, .inl vbs)), (bversions, .inr (8, [.int 8, .int 3, .ref bversionsc, .int (nI (kbversions + 1))])), (bversionsc, .inl (G.2.1, 24, .inl f13929)), (bsteps, .inr (8, [.int 960, .int 1, .ref bstepsc, .int (nI vkc)]))] := hD
            obtain rfl := hr3948
            refine lv_iconst (v := 0) hx hb dX10_store_177 (by decide) ?_
            refine lv_aload_n hx hb dX10_store_178 rfl (lv_at hl 3 rfl) ?_
            refine gf_X10_24 hC rfl hK hP 0 rfl rfl dX10_store_179 ?_
            refine lv_iload hx hb dX10_store_182 (lv_at hl 0 rfl) ?_
            refine lv_iconst (v := 0) hx hb dX10_store_184 (by decide) ?_
            refine pV hC hK hl hP hD (c_T_at l G tsp (nI kQ) 0 120 1 tspc ksp ftsp (by omega) (by omega) (by omega)) si_X10_74 [3, 4] rfl rfl (by decide) rfl rfl rfl rfl rfl (Nat.le_of_ble_eq_true rfl) ⟨Nat.le_of_ble_eq_true rfl, Nat.le_of_ble_eq_true rfl⟩ ⟨by first | exact Nat.le_of_ble_eq_true rfl | exact Nat.zero_le _, by first | exact Nat.le_of_ble_eq_true rfl | exact Nat.zero_le _⟩ dX10_store_185 (fun r3951 hr3951 => ?_)
            refine vV (wr := [(h0, .inr (10, [.ref tby, .int (nI kt), .ref tln, .ref tsp, .int tkd, .int ts9, .int tn9, .int tf9])), (tln, .inr (8, [.int 9, .int 7, .ref tlnc, .int (nI kln)])), (tlnc, .inl (G.2.1, 63, .inl ftln)), (tsp, .inr (8, [.int 120, .int 1, .ref tspc, .int (nI ksp)])), (tspc, .inl (G.2.1, 120, .inl ftsp)), (bb, .inr (0, [.ref bpersons, .ref bpapers, .ref bstamps, .ref bversions, .ref blines, .ref bsteps, .ref bsayings, .ref bfindings, .ref bwarnings, .ref bquestions, .int td, .int vd, .int vl, .int gp])), (blines, .inr (8, [.int 72, .int 7, .ref blinesc, .int (nI vkb)])), (blinesc, .inl (G.2.1, 504, .inl vbl)), (bversions, .inr (8, [.int 8, .int 3, .ref bversionsc, .int (nI (kbversions + 1))])), (bversionsc, .inl (G.2.1, 24, .inl f13929))]) hC hK hl hP hD hS hA (c_T_set l G bsteps (-2) 0 r3951 960 1 bstepsc vkc vbs (by omega) (by omega) (by omega)) si_X10_66 [11, 8] [0, 1, 2, 3, 4, 5, 6, 7, 9, 10] rfl rfl (by decide) rfl (by decide) (by decide) rfl rfl rfl rfl rfl (Nat.le_of_ble_eq_true rfl) ⟨Nat.le_of_ble_eq_true rfl, Nat.le_of_ble_eq_true rfl⟩ ⟨Nat.le_of_ble_eq_true rfl, Nat.le_of_ble_eq_true rfl⟩ dX10_store_188 (fun u3954 H locs hr3953 hP hD hS => ?_)
            obtain ⟨f13955, rfl⟩ : ∃ z9, z9 = u3954 := ⟨_, rfl⟩
            try dsimp only at hr3953
            have hP : va_P G.1 vwCl [(h0, .inr (10, [.ref tby, .int (nI kt), .ref tln, .ref tsp, .int tkd, .int ts9, .int tn9, .int tf9])), (tln, .inr (8, [.int 9, .int 7, .ref tlnc, .int (nI kln)])), (tlnc, .inl (G.2.1, 63, .inl ftln)), (tsp, .inr (8, [.int 120, .int 1, .ref tspc, .int (nI ksp)])), (tspc, .inl (G.2.1, 120, .inl ftsp)), (bb, .inr (0, [.ref bpersons, .ref bpapers, .ref bstamps, .ref bversions, .ref blines, .ref bsteps, .ref bsayings, .ref bfindings, .ref bwarnings, .ref bquestions, .int td, .int vd, .int vl, .int gp])), (blines, .inr (8, [.int 72, .int 7, .ref blinesc, .int (nI vkb)])), (blinesc, .inl (G.2.1, 504, .inl vbl)), (bversions, .inr (8, [.int 8, .int 3, .ref bversionsc, .int (nI (kbversions + 1))])), (bversionsc, .inl (G.2.1, 24, .inl f13929)), (bsteps, .inr (8, [.int 960, .int 1, .ref bstepsc, .int (nI vkc)])), (bstepsc, .inl (G.2.1, 960, .inl f13955))] H := hP
            have hD : va_D A [(h0, .inr (10, [.ref tby, .int (nI kt), .ref tln, .ref tsp, .int tkd, .int ts9, .int tn9, .int tf9])), (tln, .inr (8, [.int 9, .int 7, .ref tlnc, .int (nI kln)])), (tlnc, .inl (G.2.1, 63, .inl ftln)), (tsp, .inr (8, [.int 120, .int 1, .ref tspc, .int (nI ksp)])), (tspc, .inl (G.2.1, 120, .inl ftsp)), (bb, .inr (0, [.ref bpersons, .ref bpapers, .ref bstamps, .ref bversions, .ref blines, .ref bsteps, .ref bsayings, .ref bfindings, .ref bwarnings, .ref bquestions, .int td, .int vd, .int vl, .int gp])), (blines, .inr (8, [.int 72, .int 7, .ref blinesc, .int (nI vkb)])), (blinesc, .inl (G.2.1, 504, .inl vbl)), (bversions, .inr (8, [.int 8, .int 3, .ref bversionsc, .int (nI (kbversions + 1))])), (bversionsc, .inl (G.2.1, 24, .inl f13929)), (bsteps, .inr (8, [.int 960, .int 1, .ref bstepsc, .int (nI vkc)])), (bstepsc, .inl (G.2.1, 960, .inl f13955))] := hD
            have w3956 := hr3953
            refine lv_iinc (v := nI (kQ + 1)) (lv' := [(4, .int (nI (kQ + 1))), (3, .int (nI kbsteps)), (2, .int (nI kbversions)), (0, .ref h0), (1, .ref bb)]) hx hb dX10_store_191 hl (k := 0) rfl (nI_1 _) (by decide) rfl (fun ls hl => ?_)
            refine lv_goto (tgt := 154) hx hb dX10_store_194 (by decide) ?_
            have hP := hP.sub (ws' := [(h0, .inr (10, [.ref tby, .int (nI kt), .ref tln, .ref tsp, .int tkd, .int ts9, .int tn9, .int tf9])), (tln, .inr (8, [.int 9, .int 7, .ref tlnc, .int (nI kln)])), (tlnc, .inl (G.2.1, 63, .inl ftln)), (tsp, .inr (8, [.int 120, .int 1, .ref tspc, .int (nI ksp)])), (tspc, .inl (G.2.1, 120, .inl ftsp)), (bb, .inr (0, [.ref bpersons, .ref bpapers, .ref bstamps, .ref bversions, .ref blines, .ref bsteps, .ref bsayings, .ref bfindings, .ref bwarnings, .ref bquestions, .int td, .int vd, .int vl, .int gp])), (blines, .inr (8, [.int 72, .int 7, .ref blinesc, .int (nI vkb)])), (blinesc, .inl (G.2.1, 504, .inl vbl)), (bsteps, .inr (8, [.int 960, .int 1, .ref bstepsc, .int (nI vkc)])), (bstepsc, .inl (G.2.1, 960, .inl f13955)), (bversions, .inr (8, [.int 8, .int 3, .ref bversionsc, .int (nI (kbversions + 1))])), (bversionsc, .inl (G.2.1, 24, .inl f13929))]) [0, 1, 2, 3, 4, 5, 6, 7, 10, 11, 8, 9] rfl
            have hD := hD.sub (ws' := [(h0, .inr (10, [.ref tby, .int (nI kt), .ref tln, .ref tsp, .int tkd, .int ts9, .int tn9, .int tf9])), (tln, .inr (8, [.int 9, .int 7, .ref tlnc, .int (nI kln)])), (tlnc, .inl (G.2.1, 63, .inl ftln)), (tsp, .inr (8, [.int 120, .int 1, .ref tspc, .int (nI ksp)])), (tspc, .inl (G.2.1, 120, .inl ftsp)), (bb, .inr (0, [.ref bpersons, .ref bpapers, .ref bstamps, .ref bversions, .ref blines, .ref bsteps, .ref bsayings, .ref bfindings, .ref bwarnings, .ref bquestions, .int td, .int vd, .int vl, .int gp])), (blines, .inr (8, [.int 72, .int 7, .ref blinesc, .int (nI vkb)])), (blinesc, .inl (G.2.1, 504, .inl vbl)), (bsteps, .inr (8, [.int 960, .int 1, .ref bstepsc, .int (nI vkc)])), (bstepsc, .inl (G.2.1, 960, .inl f13955)), (bversions, .inr (8, [.int 8, .int 3, .ref bversionsc, .int (nI (kbversions + 1))])), (bversionsc, .inl (G.2.1, 24, .inl f13929))]) [0, 1, 2, 3, 4, 5, 6, 7, 10, 11, 8, 9] (by decide) rfl
            exact ihQ (kQ + 1) f13955 vkc _ _ _ (by omega) (by first | assumption | exact Or.inl rfl | exact Or.inr rfl | omega) hP hD hS (lv_sub hl [0, 1, 2, 3, 4] rfl)
      exact keyQ ksp 0 fbsteps kbsteps _ _ _ (by omega) (by first | assumption | exact Or.inl rfl | exact Or.inr rfl | omega) hP hD hS (lv_sub hl [0, 1, 2, 3, 4] rfl)
    | succ nP ihP =>
      intro kP vbl vkb H locs ls hkP hvkb hP hD hS hl
      refine lv_iload hx hb dX10_store_64 (lv_at hl 0 rfl) ?_
      refine lv_aload_n hx hb dX10_store_66 rfl (lv_at hl 3 rfl) ?_
      refine gf_X10_20 hC rfl hK hP 0 rfl rfl dX10_store_67 ?_
      refine pV hC hK hl hP hD (c_T_count l G tln 9 7 tlnc kln) si_X10_71 [1] rfl rfl (by decide) rfl rfl rfl rfl rfl (Nat.le_of_ble_eq_true rfl) ⟨Nat.le_of_ble_eq_true rfl, Nat.le_of_ble_eq_true rfl⟩ ⟨by first | exact Nat.le_of_ble_eq_true rfl | exact Nat.zero_le _, by first | exact Nat.le_of_ble_eq_true rfl | exact Nat.zero_le _⟩ dX10_store_70 (fun r3957 hr3957 => ?_)
      obtain rfl := hr3957
      refine lv_icmp_ge (tgt := 151) hx hb dX10_store_73 (by decide) (fun c9 => absurd c9 (nI_ge (a := kP) (b := kln) (by omega) (by omega))) (fun _ => ?_)
      refine lv_aload_n hx hb dX10_store_76 rfl (lv_at hl 4 rfl) ?_
      refine gf_X10_70 hC rfl hK hP 5 rfl rfl dX10_store_77 ?_
      rcases Nat.lt_or_ge vkb 72 with hcap9 | hcap9
      · refine iV (wr := [(h0, .inr (10, [.ref tby, .int (nI kt), .ref tln, .ref tsp, .int tkd, .int ts9, .int tn9, .int tf9])), (tln, .inr (8, [.int 9, .int 7, .ref tlnc, .int (nI kln)])), (tlnc, .inl (G.2.1, 63, .inl ftln)), (tsp, .inr (8, [.int 120, .int 1, .ref tspc, .int (nI ksp)])), (tspc, .inl (G.2.1, 120, .inl ftsp)), (bb, .inr (0, [.ref bpersons, .ref bpapers, .ref bstamps, .ref bversions, .ref blines, .ref bsteps, .ref bsayings, .ref bfindings, .ref bwarnings, .ref bquestions, .int td, .int vd, .int vl, .int gp])), (blinesc, .inl (G.2.1, 504, .inl vbl)), (bsteps, .inr (8, [.int 960, .int 1, .ref bstepsc, .int (nI kbsteps)])), (bstepsc, .inl (G.2.1, 960, .inl fbsteps)), (bversions, .inr (8, [.int 8, .int 3, .ref bversionsc, .int (nI (kbversions + 1))])), (bversionsc, .inl (G.2.1, 24, .inl f13929))]) hC hK hl hP hD hS hA (c_T_append l G blines 72 7 blinesc vkb (by omega) (by omega)) si_X10_59 [6] [0, 1, 2, 3, 4, 5, 7, 8, 9, 10, 11] rfl rfl (by decide) rfl (by decide) (by decide) rfl rfl rfl rfl rfl (Nat.le_of_ble_eq_true rfl) ⟨Nat.le_of_ble_eq_true rfl, Nat.le_of_ble_eq_true rfl⟩ ⟨Nat.le_of_ble_eq_true rfl, Nat.le_of_ble_eq_true rfl⟩ dX10_store_80 (fun r3959 u3960 H locs hr3959 hP hD hS => ?_)
        have hP : va_P G.1 vwCl [(h0, .inr (10, [.ref tby, .int (nI kt), .ref tln, .ref tsp, .int tkd, .int ts9, .int tn9, .int tf9])), (tln, .inr (8, [.int 9, .int 7, .ref tlnc, .int (nI kln)])), (tlnc, .inl (G.2.1, 63, .inl ftln)), (tsp, .inr (8, [.int 120, .int 1, .ref tspc, .int (nI ksp)])), (tspc, .inl (G.2.1, 120, .inl ftsp)), (bb, .inr (0, [.ref bpersons, .ref bpapers, .ref bstamps, .ref bversions, .ref blines, .ref bsteps, .ref bsayings, .ref bfindings, .ref bwarnings, .ref bquestions, .int td, .int vd, .int vl, .int gp])), (blinesc, .inl (G.2.1, 504, .inl vbl)), (bsteps, .inr (8, [.int 960, .int 1, .ref bstepsc, .int (nI kbsteps)])), (bstepsc, .inl (G.2.1, 960, .inl fbsteps)), (bversions, .inr (8, [.int 8, .int 3, .ref bversionsc, .int (nI (kbversions + 1))])), (bversionsc, .inl (G.2.1, 24, .inl f13929)), (blines, .inr (8, [.int 72, .int 7, .ref blinesc, .int (nI (vkb + 1))]))] H := hP
        have hD : va_D A [(h0, .inr (10, [.ref tby, .int (nI kt), .ref tln, .ref tsp, .int tkd, .int ts9, .int tn9, .int tf9])), (tln, .inr (8, [.int 9, .int 7, .ref tlnc, .int (nI kln)])), (tlnc, .inl (G.2.1, 63, .inl ftln)), (tsp, .inr (8, [.int 120, .int 1, .ref tspc, .int (nI ksp)])), (tspc, .inl (G.2.1, 120, .inl ftsp)), (bb, .inr (0, [.ref bpersons, .ref bpapers, .ref bstamps, .ref bversions, .ref blines, .ref bsteps, .ref bsayings, .ref bfindings, .ref bwarnings, .ref bquestions, .int td, .int vd, .int vl, .int gp])), (blinesc, .inl (G.2.1, 504, .inl vbl)), (bsteps, .inr (8, [.int 960, .int 1, .ref bstepsc, .int (nI kbsteps)])), (bstepsc, .inl (G.2.1, 960, .inl fbsteps)), (bversions, .inr (8, [.int 8, .int 3, .ref bversionsc, .int (nI (kbversions + 1))])), (bversionsc, .inl (G.2.1, 24, .inl f13929)), (blines, .inr (8, [.int 72, .int 7, .ref blinesc, .int (nI (vkb + 1))]))] := hD
        obtain rfl := hr3959
        refine lv_istore (lv' := [(5, .int (nI vkb)), (4, .int (nI kP)), (3, .int (nI kbsteps)), (2, .int (nI kbversions)), (0, .ref h0), (1, .ref bb)]) hx hb dX10_store_83 hl (by decide) rfl (fun ls hl => ?_)
        refine lv_iconst (v := 0) hx hb dX10_store_85 (by decide) ?_
        refine lv_istore (lv' := [(6, .int 0), (5, .int (nI vkb)), (4, .int (nI kP)), (3, .int (nI kbsteps)), (2, .int (nI kbversions)), (0, .ref h0), (1, .ref bb)]) hx hb dX10_store_86 hl (by decide) rfl (fun ls hl => ?_)
        refine lv_iload hx hb dX10_store_88 (lv_at hl 0 rfl) ?_
        refine lv_bipush (v := 6) hx hb dX10_store_90 (by decide) ?_
        refine lv_icmp_gt (tgt := 123) hx hb dX10_store_92 (by decide) (fun c9 => absurd c9 (by decide)) (fun _ => ?_)
        refine lv_aload_n hx hb dX10_store_95 rfl (lv_at hl 6 rfl) ?_
        refine gf_X10_70 hC rfl hK hP 5 rfl rfl dX10_store_96 ?_
        refine lv_iload hx hb dX10_store_99 (lv_at hl 1 rfl) ?_
        refine lv_iload hx hb dX10_store_101 (lv_at hl 0 rfl) ?_
        refine lv_aload_n hx hb dX10_store_103 rfl (lv_at hl 5 rfl) ?_
        refine gf_X10_20 hC rfl hK hP 0 rfl rfl dX10_store_104 ?_
        refine lv_iload hx hb dX10_store_107 (lv_at hl 2 rfl) ?_
        refine lv_iload hx hb dX10_store_109 (lv_at hl 0 rfl) ?_
        refine pV hC hK hl hP hD (c_T_at l G tln (nI kP) 0 9 7 tlnc kln ftln (by omega) (by omega) (by omega)) si_X10_74 [1, 2] rfl rfl (by decide) rfl rfl rfl rfl rfl (Nat.le_of_ble_eq_true rfl) ⟨Nat.le_of_ble_eq_true rfl, Nat.le_of_ble_eq_true rfl⟩ ⟨by first | exact Nat.le_of_ble_eq_true rfl | exact Nat.zero_le _, by first | exact Nat.le_of_ble_eq_true rfl | exact Nat.zero_le _⟩ dX10_store_111 (fun r3962 hr3962 => ?_)
        refine vV (wr := [(h0, .inr (10, [.ref tby, .int (nI kt), .ref tln, .ref tsp, .int tkd, .int ts9, .int tn9, .int tf9])), (tln, .inr (8, [.int 9, .int 7, .ref tlnc, .int (nI kln)])), (tlnc, .inl (G.2.1, 63, .inl ftln)), (tsp, .inr (8, [.int 120, .int 1, .ref tspc, .int (nI ksp)])), (tspc, .inl (G.2.1, 120, .inl ftsp)), (bb, .inr (0, [.ref bpersons, .ref bpapers, .ref bstamps, .ref bversions, .ref blines, .ref bsteps, .ref bsayings, .ref bfindings, .ref bwarnings, .ref bquestions, .int td, .int vd, .int vl, .int gp])), (bsteps, .inr (8, [.int 960, .int 1, .ref bstepsc, .int (nI kbsteps)])), (bstepsc, .inl (G.2.1, 960, .inl fbsteps)), (bversions, .inr (8, [.int 8, .int 3, .ref bversionsc, .int (nI (kbversions + 1))])), (bversionsc, .inl (G.2.1, 24, .inl f13929))]) hC hK hl hP hD hS hA (c_T_set l G blines (nI vkb) 0 r3962 72 7 blinesc (vkb + 1) vbl (by omega) (by omega) (by omega)) si_X10_66 [11, 6] [0, 1, 2, 3, 4, 5, 7, 8, 9, 10] rfl rfl (by decide) rfl (by decide) (by decide) rfl rfl rfl rfl rfl (Nat.le_of_ble_eq_true rfl) ⟨Nat.le_of_ble_eq_true rfl, Nat.le_of_ble_eq_true rfl⟩ ⟨Nat.le_of_ble_eq_true rfl, Nat.le_of_ble_eq_true rfl⟩ dX10_store_114 (fun u3965 H locs hr3964 hP hD hS => ?_)
        obtain ⟨f13966, rfl⟩ : ∃ z9, z9 = u3965 := ⟨_, rfl⟩
        try dsimp only at hr3964
        have hP : va_P G.1 vwCl [(h0, .inr (10, [.ref tby, .int (nI kt), .ref tln, .ref tsp, .int tkd, .int ts9, .int tn9, .int tf9])), (tln, .inr (8, [.int 9, .int 7, .ref tlnc, .int (nI kln)])), (tlnc, .inl (G.2.1, 63, .inl ftln)), (tsp, .inr (8, [.int 120, .int 1, .ref tspc, .int (nI ksp)])), (tspc, .inl (G.2.1, 120, .inl ftsp)), (bb, .inr (0, [.ref bpersons, .ref bpapers, .ref bstamps, .ref bversions, .ref blines, .ref bsteps, .ref bsayings, .ref bfindings, .ref bwarnings, .ref bquestions, .int td, .int vd, .int vl, .int gp])), (bsteps, .inr (8, [.int 960, .int 1, .ref bstepsc, .int (nI kbsteps)])), (bstepsc, .inl (G.2.1, 960, .inl fbsteps)), (bversions, .inr (8, [.int 8, .int 3, .ref bversionsc, .int (nI (kbversions + 1))])), (bversionsc, .inl (G.2.1, 24, .inl f13929)), (blines, .inr (8, [.int 72, .int 7, .ref blinesc, .int (nI (vkb + 1))])), (blinesc, .inl (G.2.1, 504, .inl f13966))] H := hP
        have hD : va_D A [(h0, .inr (10, [.ref tby, .int (nI kt), .ref tln, .ref tsp, .int tkd, .int ts9, .int tn9, .int tf9])), (tln, .inr (8, [.int 9, .int 7, .ref tlnc, .int (nI kln)])), (tlnc, .inl (G.2.1, 63, .inl ftln)), (tsp, .inr (8, [.int 120, .int 1, .ref tspc, .int (nI ksp)])), (tspc, .inl (G.2.1, 120, .inl ftsp)), (bb, .inr (0, [.ref bpersons, .ref bpapers, .ref bstamps, .ref bversions, .ref blines, .ref bsteps, .ref bsayings, .ref bfindings, .ref bwarnings, .ref bquestions, .int td, .int vd, .int vl, .int gp])), (bsteps, .inr (8, [.int 960, .int 1, .ref bstepsc, .int (nI kbsteps)])), (bstepsc, .inl (G.2.1, 960, .inl fbsteps)), (bversions, .inr (8, [.int 8, .int 3, .ref bversionsc, .int (nI (kbversions + 1))])), (bversionsc, .inl (G.2.1, 24, .inl f13929)), (blines, .inr (8, [.int 72, .int 7, .ref blinesc, .int (nI (vkb + 1))])), (blinesc, .inl (G.2.1, 504, .inl f13966))] := hD
        have w3967 := hr3964
        refine lv_iinc (v := 1) (lv' := [(6, .int 1), (5, .int (nI vkb)), (4, .int (nI kP)), (3, .int (nI kbsteps)), (2, .int (nI kbversions)), (0, .ref h0), (1, .ref bb)]) hx hb dX10_store_117 hl (k := 0) rfl (by decide) (by decide) rfl (fun ls hl => ?_)
        refine lv_goto (tgt := 88) hx hb dX10_store_120 (by decide) ?_
        refine lv_iload hx hb dX10_store_88 (lv_at hl 0 rfl) ?_
        refine lv_bipush (v := 6) hx hb dX10_store_90 (by decide) ?_
        refine lv_icmp_gt (tgt := 123) hx hb dX10_store_92 (by decide) (fun c9 => absurd c9 (by decide)) (fun _ => ?_)
        refine lv_aload_n hx hb dX10_store_95 rfl (lv_at hl 6 rfl) ?_
        refine gf_X10_70 hC rfl hK hP 5 rfl rfl dX10_store_96 ?_
        refine lv_iload hx hb dX10_store_99 (lv_at hl 1 rfl) ?_
        refine lv_iload hx hb dX10_store_101 (lv_at hl 0 rfl) ?_
        refine lv_aload_n hx hb dX10_store_103 rfl (lv_at hl 5 rfl) ?_
        refine gf_X10_20 hC rfl hK hP 0 rfl rfl dX10_store_104 ?_
        refine lv_iload hx hb dX10_store_107 (lv_at hl 2 rfl) ?_
        refine lv_iload hx hb dX10_store_109 (lv_at hl 0 rfl) ?_
        refine pV hC hK hl hP hD (c_T_at l G tln (nI kP) 1 9 7 tlnc kln ftln (by omega) (by omega) (by omega)) si_X10_74 [1, 2] rfl rfl (by decide) rfl rfl rfl rfl rfl (Nat.le_of_ble_eq_true rfl) ⟨Nat.le_of_ble_eq_true rfl, Nat.le_of_ble_eq_true rfl⟩ ⟨by first | exact Nat.le_of_ble_eq_true rfl | exact Nat.zero_le _, by first | exact Nat.le_of_ble_eq_true rfl | exact Nat.zero_le _⟩ dX10_store_111 (fun r3968 hr3968 => ?_)
        refine vV (wr := [(h0, .inr (10, [.ref tby, .int (nI kt), .ref tln, .ref tsp, .int tkd, .int ts9, .int tn9, .int tf9])), (tln, .inr (8, [.int 9, .int 7, .ref tlnc, .int (nI kln)])), (tlnc, .inl (G.2.1, 63, .inl ftln)), (tsp, .inr (8, [.int 120, .int 1, .ref tspc, .int (nI ksp)])), (tspc, .inl (G.2.1, 120, .inl ftsp)), (bb, .inr (0, [.ref bpersons, .ref bpapers, .ref bstamps, .ref bversions, .ref blines, .ref bsteps, .ref bsayings, .ref bfindings, .ref bwarnings, .ref bquestions, .int td, .int vd, .int vl, .int gp])), (bsteps, .inr (8, [.int 960, .int 1, .ref bstepsc, .int (nI kbsteps)])), (bstepsc, .inl (G.2.1, 960, .inl fbsteps)), (bversions, .inr (8, [.int 8, .int 3, .ref bversionsc, .int (nI (kbversions + 1))])), (bversionsc, .inl (G.2.1, 24, .inl f13929))]) hC hK hl hP hD hS hA (c_T_set l G blines (nI vkb) 1 r3968 72 7 blinesc (vkb + 1) f13966 (by omega) (by omega) (by omega)) si_X10_66 [10, 11] [0, 1, 2, 3, 4, 5, 6, 7, 8, 9] rfl rfl (by decide) rfl (by decide) (by decide) rfl rfl rfl rfl rfl (Nat.le_of_ble_eq_true rfl) ⟨Nat.le_of_ble_eq_true rfl, Nat.le_of_ble_eq_true rfl⟩ ⟨Nat.le_of_ble_eq_true rfl, Nat.le_of_ble_eq_true rfl⟩ dX10_store_114 (fun u3971 H locs hr3970 hP hD hS => ?_)
        obtain ⟨f13972, rfl⟩ : ∃ z9, z9 = u3971 := ⟨_, rfl⟩
        try dsimp only at hr3970
        have hP : va_P G.1 vwCl [(h0, .inr (10, [.ref tby, .int (nI kt), .ref tln, .ref tsp, .int tkd, .int ts9, .int tn9, .int tf9])), (tln, .inr (8, [.int 9, .int 7, .ref tlnc, .int (nI kln)])), (tlnc, .inl (G.2.1, 63, .inl ftln)), (tsp, .inr (8, [.int 120, .int 1, .ref tspc, .int (nI ksp)])), (tspc, .inl (G.2.1, 120, .inl ftsp)), (bb, .inr (0, [.ref bpersons, .ref bpapers, .ref bstamps, .ref bversions, .ref blines, .ref bsteps, .ref bsayings, .ref bfindings, .ref bwarnings, .ref bquestions, .int td, .int vd, .int vl, .int gp])), (bsteps, .inr (8, [.int 960, .int 1, .ref bstepsc, .int (nI kbsteps)])), (bstepsc, .inl (G.2.1, 960, .inl fbsteps)), (bversions, .inr (8, [.int 8, .int 3, .ref bversionsc, .int (nI (kbversions + 1))])), (bversionsc, .inl (G.2.1, 24, .inl f13929)), (blines, .inr (8, [.int 72, .int 7, .ref blinesc, .int (nI (vkb + 1))])), (blinesc, .inl (G.2.1, 504, .inl f13972))] H := hP
        have hD : va_D A [(h0, .inr (10, [.ref tby, .int (nI kt), .ref tln, .ref tsp, .int tkd, .int ts9, .int tn9, .int tf9])), (tln, .inr (8, [.int 9, .int 7, .ref tlnc, .int (nI kln)])), (tlnc, .inl (G.2.1, 63, .inl ftln)), (tsp, .inr (8, [.int 120, .int 1, .ref tspc, .int (nI ksp)])), (tspc, .inl (G.2.1, 120, .inl ftsp)), (bb, .inr (0, [.ref bpersons, .ref bpapers, .ref bstamps, .ref bversions, .ref blines, .ref bsteps, .ref bsayings, .ref bfindings, .ref bwarnings, .ref bquestions, .int td, .int vd, .int vl, .int gp])), (bsteps, .inr (8, [.int 960, .int 1, .ref bstepsc, .int (nI kbsteps)])), (bstepsc, .inl (G.2.1, 960, .inl fbsteps)), (bversions, .inr (8, [.int 8, .int 3, .ref bversionsc, .int (nI (kbversions + 1))])), (bversionsc, .inl (G.2.1, 24, .inl f13929)), (blines, .inr (8, [.int 72, .int 7, .ref blinesc, .int (nI (vkb + 1))])), (blinesc, .inl (G.2.1, 504, .inl f13972))] := hD
        have w3973 := hr3970
        refine lv_iinc (v := 2) (lv' := [(6, .int 2), (5, .int (nI vkb)), (4, .int (nI kP)), (3, .int (nI kbsteps)), (2, .int (nI kbversions)), (0, .ref h0), (1, .ref bb)]) hx hb dX10_store_117 hl (k := 0) rfl (by decide) (by decide) rfl (fun ls hl => ?_)
        refine lv_goto (tgt := 88) hx hb dX10_store_120 (by decide) ?_
        refine lv_iload hx hb dX10_store_88 (lv_at hl 0 rfl) ?_
        refine lv_bipush (v := 6) hx hb dX10_store_90 (by decide) ?_
        refine lv_icmp_gt (tgt := 123) hx hb dX10_store_92 (by decide) (fun c9 => absurd c9 (by decide)) (fun _ => ?_)
        refine lv_aload_n hx hb dX10_store_95 rfl (lv_at hl 6 rfl) ?_
        refine gf_X10_70 hC rfl hK hP 5 rfl rfl dX10_store_96 ?_
        refine lv_iload hx hb dX10_store_99 (lv_at hl 1 rfl) ?_
        refine lv_iload hx hb dX10_store_101 (lv_at hl 0 rfl) ?_
        refine lv_aload_n hx hb dX10_store_103 rfl (lv_at hl 5 rfl) ?_
        refine gf_X10_20 hC rfl hK hP 0 rfl rfl dX10_store_104 ?_
        refine lv_iload hx hb dX10_store_107 (lv_at hl 2 rfl) ?_
        refine lv_iload hx hb dX10_store_109 (lv_at hl 0 rfl) ?_
        refine pV hC hK hl hP hD (c_T_at l G tln (nI kP) 2 9 7 tlnc kln ftln (by omega) (by omega) (by omega)) si_X10_74 [1, 2] rfl rfl (by decide) rfl rfl rfl rfl rfl (Nat.le_of_ble_eq_true rfl) ⟨Nat.le_of_ble_eq_true rfl, Nat.le_of_ble_eq_true rfl⟩ ⟨by first | exact Nat.le_of_ble_eq_true rfl | exact Nat.zero_le _, by first | exact Nat.le_of_ble_eq_true rfl | exact Nat.zero_le _⟩ dX10_store_111 (fun r3974 hr3974 => ?_)
        refine vV (wr := [(h0, .inr (10, [.ref tby, .int (nI kt), .ref tln, .ref tsp, .int tkd, .int ts9, .int tn9, .int tf9])), (tln, .inr (8, [.int 9, .int 7, .ref tlnc, .int (nI kln)])), (tlnc, .inl (G.2.1, 63, .inl ftln)), (tsp, .inr (8, [.int 120, .int 1, .ref tspc, .int (nI ksp)])), (tspc, .inl (G.2.1, 120, .inl ftsp)), (bb, .inr (0, [.ref bpersons, .ref bpapers, .ref bstamps, .ref bversions, .ref blines, .ref bsteps, .ref bsayings, .ref bfindings, .ref bwarnings, .ref bquestions, .int td, .int vd, .int vl, .int gp])), (bsteps, .inr (8, [.int 960, .int 1, .ref bstepsc, .int (nI kbsteps)])), (bstepsc, .inl (G.2.1, 960, .inl fbsteps)), (bversions, .inr (8, [.int 8, .int 3, .ref bversionsc, .int (nI (kbversions + 1))])), (bversionsc, .inl (G.2.1, 24, .inl f13929))]) hC hK hl hP hD hS hA (c_T_set l G blines (nI vkb) 2 r3974 72 7 blinesc (vkb + 1) f13972 (by omega) (by omega) (by omega)) si_X10_66 [10, 11] [0, 1, 2, 3, 4, 5, 6, 7, 8, 9] rfl rfl (by decide) rfl (by decide) (by decide) rfl rfl rfl rfl rfl (Nat.le_of_ble_eq_true rfl) ⟨Nat.le_of_ble_eq_true rfl, Nat.le_of_ble_eq_true rfl⟩ ⟨Nat.le_of_ble_eq_true rfl, Nat.le_of_ble_eq_true rfl⟩ dX10_store_114 (fun u3977 H locs hr3976 hP hD hS => ?_)
        obtain ⟨f13978, rfl⟩ : ∃ z9, z9 = u3977 := ⟨_, rfl⟩
        try dsimp only at hr3976
        have hP : va_P G.1 vwCl [(h0, .inr (10, [.ref tby, .int (nI kt), .ref tln, .ref tsp, .int tkd, .int ts9, .int tn9, .int tf9])), (tln, .inr (8, [.int 9, .int 7, .ref tlnc, .int (nI kln)])), (tlnc, .inl (G.2.1, 63, .inl ftln)), (tsp, .inr (8, [.int 120, .int 1, .ref tspc, .int (nI ksp)])), (tspc, .inl (G.2.1, 120, .inl ftsp)), (bb, .inr (0, [.ref bpersons, .ref bpapers, .ref bstamps, .ref bversions, .ref blines, .ref bsteps, .ref bsayings, .ref bfindings, .ref bwarnings, .ref bquestions, .int td, .int vd, .int vl, .int gp])), (bsteps, .inr (8, [.int 960, .int 1, .ref bstepsc, .int (nI kbsteps)])), (bstepsc, .inl (G.2.1, 960, .inl fbsteps)), (bversions, .inr (8, [.int 8, .int 3, .ref bversionsc, .int (nI (kbversions + 1))])), (bversionsc, .inl (G.2.1, 24, .inl f13929)), (blines, .inr (8, [.int 72, .int 7, .ref blinesc, .int (nI (vkb + 1))])), (blinesc, .inl (G.2.1, 504, .inl f13978))] H := hP
        have hD : va_D A [(h0, .inr (10, [.ref tby, .int (nI kt), .ref tln, .ref tsp, .int tkd, .int ts9, .int tn9, .int tf9])), (tln, .inr (8, [.int 9, .int 7, .ref tlnc, .int (nI kln)])), (tlnc, .inl (G.2.1, 63, .inl ftln)), (tsp, .inr (8, [.int 120, .int 1, .ref tspc, .int (nI ksp)])), (tspc, .inl (G.2.1, 120, .inl ftsp)), (bb, .inr (0, [.ref bpersons, .ref bpapers, .ref bstamps, .ref bversions, .ref blines, .ref bsteps, .ref bsayings, .ref bfindings, .ref bwarnings, .ref bquestions, .int td, .int vd, .int vl, .int gp])), (bsteps, .inr (8, [.int 960, .int 1, .ref bstepsc, .int (nI kbsteps)])), (bstepsc, .inl (G.2.1, 960, .inl fbsteps)), (bversions, .inr (8, [.int 8, .int 3, .ref bversionsc, .int (nI (kbversions + 1))])), (bversionsc, .inl (G.2.1, 24, .inl f13929)), (blines, .inr (8, [.int 72, .int 7, .ref blinesc, .int (nI (vkb + 1))])), (blinesc, .inl (G.2.1, 504, .inl f13978))] := hD
        have w3979 := hr3976
        refine lv_iinc (v := 3) (lv' := [(6, .int 3), (5, .int (nI vkb)), (4, .int (nI kP)), (3, .int (nI kbsteps)), (2, .int (nI kbversions)), (0, .ref h0), (1, .ref bb)]) hx hb dX10_store_117 hl (k := 0) rfl (by decide) (by decide) rfl (fun ls hl => ?_)
        refine lv_goto (tgt := 88) hx hb dX10_store_120 (by decide) ?_
        refine lv_iload hx hb dX10_store_88 (lv_at hl 0 rfl) ?_
        refine lv_bipush (v := 6) hx hb dX10_store_90 (by decide) ?_
        refine lv_icmp_gt (tgt := 123) hx hb dX10_store_92 (by decide) (fun c9 => absurd c9 (by decide)) (fun _ => ?_)
        refine lv_aload_n hx hb dX10_store_95 rfl (lv_at hl 6 rfl) ?_
        refine gf_X10_70 hC rfl hK hP 5 rfl rfl dX10_store_96 ?_
        refine lv_iload hx hb dX10_store_99 (lv_at hl 1 rfl) ?_
        refine lv_iload hx hb dX10_store_101 (lv_at hl 0 rfl) ?_
        refine lv_aload_n hx hb dX10_store_103 rfl (lv_at hl 5 rfl) ?_
        refine gf_X10_20 hC rfl hK hP 0 rfl rfl dX10_store_104 ?_
        refine lv_iload hx hb dX10_store_107 (lv_at hl 2 rfl) ?_
        refine lv_iload hx hb dX10_store_109 (lv_at hl 0 rfl) ?_
        refine pV hC hK hl hP hD (c_T_at l G tln (nI kP) 3 9 7 tlnc kln ftln (by omega) (by omega) (by omega)) si_X10_74 [1, 2] rfl rfl (by decide) rfl rfl rfl rfl rfl (Nat.le_of_ble_eq_true rfl) ⟨Nat.le_of_ble_eq_true rfl, Nat.le_of_ble_eq_true rfl⟩ ⟨by first | exact Nat.le_of_ble_eq_true rfl | exact Nat.zero_le _, by first | exact Nat.le_of_ble_eq_true rfl | exact Nat.zero_le _⟩ dX10_store_111 (fun r3980 hr3980 => ?_)
        refine vV (wr := [(h0, .inr (10, [.ref tby, .int (nI kt), .ref tln, .ref tsp, .int tkd, .int ts9, .int tn9, .int tf9])), (tln, .inr (8, [.int 9, .int 7, .ref tlnc, .int (nI kln)])), (tlnc, .inl (G.2.1, 63, .inl ftln)), (tsp, .inr (8, [.int 120, .int 1, .ref tspc, .int (nI ksp)])), (tspc, .inl (G.2.1, 120, .inl ftsp)), (bb, .inr (0, [.ref bpersons, .ref bpapers, .ref bstamps, .ref bversions, .ref blines, .ref bsteps, .ref bsayings, .ref bfindings, .ref bwarnings, .ref bquestions, .int td, .int vd, .int vl, .int gp])), (bsteps, .inr (8, [.int 960, .int 1, .ref bstepsc, .int (nI kbsteps)])), (bstepsc, .inl (G.2.1, 960, .inl fbsteps)), (bversions, .inr (8, [.int 8, .int 3, .ref bversionsc, .int (nI (kbversions + 1))])), (bversionsc, .inl (G.2.1, 24, .inl f13929))]) hC hK hl hP hD hS hA (c_T_set l G blines (nI vkb) 3 r3980 72 7 blinesc (vkb + 1) f13978 (by omega) (by omega) (by omega)) si_X10_66 [10, 11] [0, 1, 2, 3, 4, 5, 6, 7, 8, 9] rfl rfl (by decide) rfl (by decide) (by decide) rfl rfl rfl rfl rfl (Nat.le_of_ble_eq_true rfl) ⟨Nat.le_of_ble_eq_true rfl, Nat.le_of_ble_eq_true rfl⟩ ⟨Nat.le_of_ble_eq_true rfl, Nat.le_of_ble_eq_true rfl⟩ dX10_store_114 (fun u3983 H locs hr3982 hP hD hS => ?_)
        obtain ⟨f13984, rfl⟩ : ∃ z9, z9 = u3983 := ⟨_, rfl⟩
        try dsimp only at hr3982
        have hP : va_P G.1 vwCl [(h0, .inr (10, [.ref tby, .int (nI kt), .ref tln, .ref tsp, .int tkd, .int ts9, .int tn9, .int tf9])), (tln, .inr (8, [.int 9, .int 7, .ref tlnc, .int (nI kln)])), (tlnc, .inl (G.2.1, 63, .inl ftln)), (tsp, .inr (8, [.int 120, .int 1, .ref tspc, .int (nI ksp)])), (tspc, .inl (G.2.1, 120, .inl ftsp)), (bb, .inr (0, [.ref bpersons, .ref bpapers, .ref bstamps, .ref bversions, .ref blines, .ref bsteps, .ref bsayings, .ref bfindings, .ref bwarnings, .ref bquestions, .int td, .int vd, .int vl, .int gp])), (bsteps, .inr (8, [.int 960, .int 1, .ref bstepsc, .int (nI kbsteps)])), (bstepsc, .inl (G.2.1, 960, .inl fbsteps)), (bversions, .inr (8, [.int 8, .int 3, .ref bversionsc, .int (nI (kbversions + 1))])), (bversionsc, .inl (G.2.1, 24, .inl f13929)), (blines, .inr (8, [.int 72, .int 7, .ref blinesc, .int (nI (vkb + 1))])), (blinesc, .inl (G.2.1, 504, .inl f13984))] H := hP
        have hD : va_D A [(h0, .inr (10, [.ref tby, .int (nI kt), .ref tln, .ref tsp, .int tkd, .int ts9, .int tn9, .int tf9])), (tln, .inr (8, [.int 9, .int 7, .ref tlnc, .int (nI kln)])), (tlnc, .inl (G.2.1, 63, .inl ftln)), (tsp, .inr (8, [.int 120, .int 1, .ref tspc, .int (nI ksp)])), (tspc, .inl (G.2.1, 120, .inl ftsp)), (bb, .inr (0, [.ref bpersons, .ref bpapers, .ref bstamps, .ref bversions, .ref blines, .ref bsteps, .ref bsayings, .ref bfindings, .ref bwarnings, .ref bquestions, .int td, .int vd, .int vl, .int gp])), (bsteps, .inr (8, [.int 960, .int 1, .ref bstepsc, .int (nI kbsteps)])), (bstepsc, .inl (G.2.1, 960, .inl fbsteps)), (bversions, .inr (8, [.int 8, .int 3, .ref bversionsc, .int (nI (kbversions + 1))])), (bversionsc, .inl (G.2.1, 24, .inl f13929)), (blines, .inr (8, [.int 72, .int 7, .ref blinesc, .int (nI (vkb + 1))])), (blinesc, .inl (G.2.1, 504, .inl f13984))] := hD
        have w3985 := hr3982
        refine lv_iinc (v := 4) (lv' := [(6, .int 4), (5, .int (nI vkb)), (4, .int (nI kP)), (3, .int (nI kbsteps)), (2, .int (nI kbversions)), (0, .ref h0), (1, .ref bb)]) hx hb dX10_store_117 hl (k := 0) rfl (by decide) (by decide) rfl (fun ls hl => ?_)
        refine lv_goto (tgt := 88) hx hb dX10_store_120 (by decide) ?_
        refine lv_iload hx hb dX10_store_88 (lv_at hl 0 rfl) ?_
        refine lv_bipush (v := 6) hx hb dX10_store_90 (by decide) ?_
        refine lv_icmp_gt (tgt := 123) hx hb dX10_store_92 (by decide) (fun c9 => absurd c9 (by decide)) (fun _ => ?_)
        refine lv_aload_n hx hb dX10_store_95 rfl (lv_at hl 6 rfl) ?_
        refine gf_X10_70 hC rfl hK hP 5 rfl rfl dX10_store_96 ?_
        refine lv_iload hx hb dX10_store_99 (lv_at hl 1 rfl) ?_
        refine lv_iload hx hb dX10_store_101 (lv_at hl 0 rfl) ?_
        refine lv_aload_n hx hb dX10_store_103 rfl (lv_at hl 5 rfl) ?_
        refine gf_X10_20 hC rfl hK hP 0 rfl rfl dX10_store_104 ?_
        refine lv_iload hx hb dX10_store_107 (lv_at hl 2 rfl) ?_
        refine lv_iload hx hb dX10_store_109 (lv_at hl 0 rfl) ?_
        refine pV hC hK hl hP hD (c_T_at l G tln (nI kP) 4 9 7 tlnc kln ftln (by omega) (by omega) (by omega)) si_X10_74 [1, 2] rfl rfl (by decide) rfl rfl rfl rfl rfl (Nat.le_of_ble_eq_true rfl) ⟨Nat.le_of_ble_eq_true rfl, Nat.le_of_ble_eq_true rfl⟩ ⟨by first | exact Nat.le_of_ble_eq_true rfl | exact Nat.zero_le _, by first | exact Nat.le_of_ble_eq_true rfl | exact Nat.zero_le _⟩ dX10_store_111 (fun r3986 hr3986 => ?_)
        refine vV (wr := [(h0, .inr (10, [.ref tby, .int (nI kt), .ref tln, .ref tsp, .int tkd, .int ts9, .int tn9, .int tf9])), (tln, .inr (8, [.int 9, .int 7, .ref tlnc, .int (nI kln)])), (tlnc, .inl (G.2.1, 63, .inl ftln)), (tsp, .inr (8, [.int 120, .int 1, .ref tspc, .int (nI ksp)])), (tspc, .inl (G.2.1, 120, .inl ftsp)), (bb, .inr (0, [.ref bpersons, .ref bpapers, .ref bstamps, .ref bversions, .ref blines, .ref bsteps, .ref bsayings, .ref bfindings, .ref bwarnings, .ref bquestions, .int td, .int vd, .int vl, .int gp])), (bsteps, .inr (8, [.int 960, .int 1, .ref bstepsc, .int (nI kbsteps)])), (bstepsc, .inl (G.2.1, 960, .inl fbsteps)), (bversions, .inr (8, [.int 8, .int 3, .ref bversionsc, .int (nI (kbversions + 1))])), (bversionsc, .inl (G.2.1, 24, .inl f13929))]) hC hK hl hP hD hS hA (c_T_set l G blines (nI vkb) 4 r3986 72 7 blinesc (vkb + 1) f13984 (by omega) (by omega) (by omega)) si_X10_66 [10, 11] [0, 1, 2, 3, 4, 5, 6, 7, 8, 9] rfl rfl (by decide) rfl (by decide) (by decide) rfl rfl rfl rfl rfl (Nat.le_of_ble_eq_true rfl) ⟨Nat.le_of_ble_eq_true rfl, Nat.le_of_ble_eq_true rfl⟩ ⟨Nat.le_of_ble_eq_true rfl, Nat.le_of_ble_eq_true rfl⟩ dX10_store_114 (fun u3989 H locs hr3988 hP hD hS => ?_)
        obtain ⟨f13990, rfl⟩ : ∃ z9, z9 = u3989 := ⟨_, rfl⟩
        try dsimp only at hr3988
        have hP : va_P G.1 vwCl [(h0, .inr (10, [.ref tby, .int (nI kt), .ref tln, .ref tsp, .int tkd, .int ts9, .int tn9, .int tf9])), (tln, .inr (8, [.int 9, .int 7, .ref tlnc, .int (nI kln)])), (tlnc, .inl (G.2.1, 63, .inl ftln)), (tsp, .inr (8, [.int 120, .int 1, .ref tspc, .int (nI ksp)])), (tspc, .inl (G.2.1, 120, .inl ftsp)), (bb, .inr (0, [.ref bpersons, .ref bpapers, .ref bstamps, .ref bversions, .ref blines, .ref bsteps, .ref bsayings, .ref bfindings, .ref bwarnings, .ref bquestions, .int td, .int vd, .int vl, .int gp])), (bsteps, .inr (8, [.int 960, .int 1, .ref bstepsc, .int (nI kbsteps)])), (bstepsc, .inl (G.2.1, 960, .inl fbsteps)), (bversions, .inr (8, [.int 8, .int 3, .ref bversionsc, .int (nI (kbversions + 1))])), (bversionsc, .inl (G.2.1, 24, .inl f13929)), (blines, .inr (8, [.int 72, .int 7, .ref blinesc, .int (nI (vkb + 1))])), (blinesc, .inl (G.2.1, 504, .inl f13990))] H := hP
        have hD : va_D A [(h0, .inr (10, [.ref tby, .int (nI kt), .ref tln, .ref tsp, .int tkd, .int ts9, .int tn9, .int tf9])), (tln, .inr (8, [.int 9, .int 7, .ref tlnc, .int (nI kln)])), (tlnc, .inl (G.2.1, 63, .inl ftln)), (tsp, .inr (8, [.int 120, .int 1, .ref tspc, .int (nI ksp)])), (tspc, .inl (G.2.1, 120, .inl ftsp)), (bb, .inr (0, [.ref bpersons, .ref bpapers, .ref bstamps, .ref bversions, .ref blines, .ref bsteps, .ref bsayings, .ref bfindings, .ref bwarnings, .ref bquestions, .int td, .int vd, .int vl, .int gp])), (bsteps, .inr (8, [.int 960, .int 1, .ref bstepsc, .int (nI kbsteps)])), (bstepsc, .inl (G.2.1, 960, .inl fbsteps)), (bversions, .inr (8, [.int 8, .int 3, .ref bversionsc, .int (nI (kbversions + 1))])), (bversionsc, .inl (G.2.1, 24, .inl f13929)), (blines, .inr (8, [.int 72, .int 7, .ref blinesc, .int (nI (vkb + 1))])), (blinesc, .inl (G.2.1, 504, .inl f13990))] := hD
        have w3991 := hr3988
        refine lv_iinc (v := 5) (lv' := [(6, .int 5), (5, .int (nI vkb)), (4, .int (nI kP)), (3, .int (nI kbsteps)), (2, .int (nI kbversions)), (0, .ref h0), (1, .ref bb)]) hx hb dX10_store_117 hl (k := 0) rfl (by decide) (by decide) rfl (fun ls hl => ?_)
        refine lv_goto (tgt := 88) hx hb dX10_store_120 (by decide) ?_
        refine lv_iload hx hb dX10_store_88 (lv_at hl 0 rfl) ?_
        refine lv_bipush (v := 6) hx hb dX10_store_90 (by decide) ?_
        refine lv_icmp_gt (tgt := 123) hx hb dX10_store_92 (by decide) (fun c9 => absurd c9 (by decide)) (fun _ => ?_)
        refine lv_aload_n hx hb dX10_store_95 rfl (lv_at hl 6 rfl) ?_
        refine gf_X10_70 hC rfl hK hP 5 rfl rfl dX10_store_96 ?_
        refine lv_iload hx hb dX10_store_99 (lv_at hl 1 rfl) ?_
        refine lv_iload hx hb dX10_store_101 (lv_at hl 0 rfl) ?_
        refine lv_aload_n hx hb dX10_store_103 rfl (lv_at hl 5 rfl) ?_
        refine gf_X10_20 hC rfl hK hP 0 rfl rfl dX10_store_104 ?_
        refine lv_iload hx hb dX10_store_107 (lv_at hl 2 rfl) ?_
        refine lv_iload hx hb dX10_store_109 (lv_at hl 0 rfl) ?_
        refine pV hC hK hl hP hD (c_T_at l G tln (nI kP) 5 9 7 tlnc kln ftln (by omega) (by omega) (by omega)) si_X10_74 [1, 2] rfl rfl (by decide) rfl rfl rfl rfl rfl (Nat.le_of_ble_eq_true rfl) ⟨Nat.le_of_ble_eq_true rfl, Nat.le_of_ble_eq_true rfl⟩ ⟨by first | exact Nat.le_of_ble_eq_true rfl | exact Nat.zero_le _, by first | exact Nat.le_of_ble_eq_true rfl | exact Nat.zero_le _⟩ dX10_store_111 (fun r3992 hr3992 => ?_)
        refine vV (wr := [(h0, .inr (10, [.ref tby, .int (nI kt), .ref tln, .ref tsp, .int tkd, .int ts9, .int tn9, .int tf9])), (tln, .inr (8, [.int 9, .int 7, .ref tlnc, .int (nI kln)])), (tlnc, .inl (G.2.1, 63, .inl ftln)), (tsp, .inr (8, [.int 120, .int 1, .ref tspc, .int (nI ksp)])), (tspc, .inl (G.2.1, 120, .inl ftsp)), (bb, .inr (0, [.ref bpersons, .ref bpapers, .ref bstamps, .ref bversions, .ref blines, .ref bsteps, .ref bsayings, .ref bfindings, .ref bwarnings, .ref bquestions, .int td, .int vd, .int vl, .int gp])), (bsteps, .inr (8, [.int 960, .int 1, .ref bstepsc, .int (nI kbsteps)])), (bstepsc, .inl (G.2.1, 960, .inl fbsteps)), (bversions, .inr (8, [.int 8, .int 3, .ref bversionsc, .int (nI (kbversions + 1))])), (bversionsc, .inl (G.2.1, 24, .inl f13929))]) hC hK hl hP hD hS hA (c_T_set l G blines (nI vkb) 5 r3992 72 7 blinesc (vkb + 1) f13990 (by omega) (by omega) (by omega)) si_X10_66 [10, 11] [0, 1, 2, 3, 4, 5, 6, 7, 8, 9] rfl rfl (by decide) rfl (by decide) (by decide) rfl rfl rfl rfl rfl (Nat.le_of_ble_eq_true rfl) ⟨Nat.le_of_ble_eq_true rfl, Nat.le_of_ble_eq_true rfl⟩ ⟨Nat.le_of_ble_eq_true rfl, Nat.le_of_ble_eq_true rfl⟩ dX10_store_114 (fun u3995 H locs hr3994 hP hD hS => ?_)
        obtain ⟨f13996, rfl⟩ : ∃ z9, z9 = u3995 := ⟨_, rfl⟩
        try dsimp only at hr3994
        have hP : va_P G.1 vwCl [(h0, .inr (10, [.ref tby, .int (nI kt), .ref tln, .ref tsp, .int tkd, .int ts9, .int tn9, .int tf9])), (tln, .inr (8, [.int 9, .int 7, .ref tlnc, .int (nI kln)])), (tlnc, .inl (G.2.1, 63, .inl ftln)), (tsp, .inr (8, [.int 120, .int 1, .ref tspc, .int (nI ksp)])), (tspc, .inl (G.2.1, 120, .inl ftsp)), (bb, .inr (0, [.ref bpersons, .ref bpapers, .ref bstamps, .ref bversions, .ref blines, .ref bsteps, .ref bsayings, .ref bfindings, .ref bwarnings, .ref bquestions, .int td, .int vd, .int vl, .int gp])), (bsteps, .inr (8, [.int 960, .int 1, .ref bstepsc, .int (nI kbsteps)])), (bstepsc, .inl (G.2.1, 960, .inl fbsteps)), (bversions, .inr (8, [.int 8, .int 3, .ref bversionsc, .int (nI (kbversions + 1))])), (bversionsc, .inl (G.2.1, 24, .inl f13929)), (blines, .inr (8, [.int 72, .int 7, .ref blinesc, .int (nI (vkb + 1))])), (blinesc, .inl (G.2.1, 504, .inl f13996))] H := hP
        have hD : va_D A [(h0, .inr (10, [.ref tby, .int (nI kt), .ref tln, .ref tsp, .int tkd, .int ts9, .int tn9, .int tf9])), (tln, .inr (8, [.int 9, .int 7, .ref tlnc, .int (nI kln)])), (tlnc, .inl (G.2.1, 63, .inl ftln)), (tsp, .inr (8, [.int 120, .int 1, .ref tspc, .int (nI ksp)])), (tspc, .inl (G.2.1, 120, .inl ftsp)), (bb, .inr (0, [.ref bpersons, .ref bpapers, .ref bstamps, .ref bversions, .ref blines, .ref bsteps, .ref bsayings, .ref bfindings, .ref bwarnings, .ref bquestions, .int td, .int vd, .int vl, .int gp])), (bsteps, .inr (8, [.int 960, .int 1, .ref bstepsc, .int (nI kbsteps)])), (bstepsc, .inl (G.2.1, 960, .inl fbsteps)), (bversions, .inr (8, [.int 8, .int 3, .ref bversionsc, .int (nI (kbversions + 1))])), (bversionsc, .inl (G.2.1, 24, .inl f13929)), (blines, .inr (8, [.int 72, .int 7, .ref blinesc, .int (nI (vkb + 1))])), (blinesc, .inl (G.2.1, 504, .inl f13996))] := hD
        have w3997 := hr3994
        refine lv_iinc (v := 6) (lv' := [(6, .int 6), (5, .int (nI vkb)), (4, .int (nI kP)), (3, .int (nI kbsteps)), (2, .int (nI kbversions)), (0, .ref h0), (1, .ref bb)]) hx hb dX10_store_117 hl (k := 0) rfl (by decide) (by decide) rfl (fun ls hl => ?_)
        refine lv_goto (tgt := 88) hx hb dX10_store_120 (by decide) ?_
        refine lv_iload hx hb dX10_store_88 (lv_at hl 0 rfl) ?_
        refine lv_bipush (v := 6) hx hb dX10_store_90 (by decide) ?_
        refine lv_icmp_gt (tgt := 123) hx hb dX10_store_92 (by decide) (fun c9 => absurd c9 (by decide)) (fun _ => ?_)
        refine lv_aload_n hx hb dX10_store_95 rfl (lv_at hl 6 rfl) ?_
        refine gf_X10_70 hC rfl hK hP 5 rfl rfl dX10_store_96 ?_
        refine lv_iload hx hb dX10_store_99 (lv_at hl 1 rfl) ?_
        refine lv_iload hx hb dX10_store_101 (lv_at hl 0 rfl) ?_
        refine lv_aload_n hx hb dX10_store_103 rfl (lv_at hl 5 rfl) ?_
        refine gf_X10_20 hC rfl hK hP 0 rfl rfl dX10_store_104 ?_
        refine lv_iload hx hb dX10_store_107 (lv_at hl 2 rfl) ?_
        refine lv_iload hx hb dX10_store_109 (lv_at hl 0 rfl) ?_
        refine pV hC hK hl hP hD (c_T_at l G tln (nI kP) 6 9 7 tlnc kln ftln (by omega) (by omega) (by omega)) si_X10_74 [1, 2] rfl rfl (by decide) rfl rfl rfl rfl rfl (Nat.le_of_ble_eq_true rfl) ⟨Nat.le_of_ble_eq_true rfl, Nat.le_of_ble_eq_true rfl⟩ ⟨by first | exact Nat.le_of_ble_eq_true rfl | exact Nat.zero_le _, by first | exact Nat.le_of_ble_eq_true rfl | exact Nat.zero_le _⟩ dX10_store_111 (fun r3998 hr3998 => ?_)
        refine vV (wr := [(h0, .inr (10, [.ref tby, .int (nI kt), .ref tln, .ref tsp, .int tkd, .int ts9, .int tn9, .int tf9])), (tln, .inr (8, [.int 9, .int 7, .ref tlnc, .int (nI kln)])), (tlnc, .inl (G.2.1, 63, .inl ftln)), (tsp, .inr (8, [.int 120, .int 1, .ref tspc, .int (nI ksp)])), (tspc, .inl (G.2.1, 120, .inl ftsp)), (bb, .inr (0, [.ref bpersons, .ref bpapers, .ref bstamps, .ref bversions, .ref blines, .ref bsteps, .ref bsayings, .ref bfindings, .ref bwarnings, .ref bquestions, .int td, .int vd, .int vl, .int gp])), (bsteps, .inr (8, [.int 960, .int 1, .ref bstepsc, .int (nI kbsteps)])), (bstepsc, .inl (G.2.1, 960, .inl fbsteps)), (bversions, .inr (8, [.int 8, .int 3, .ref bversionsc, .int (nI (kbversions + 1))])), (bversionsc, .inl (G.2.1, 24, .inl f13929))]) hC hK hl hP hD hS hA (c_T_set l G blines (nI vkb) 6 r3998 72 7 blinesc (vkb + 1) f13996 (by omega) (by omega) (by omega)) si_X10_66 [10, 11] [0, 1, 2, 3, 4, 5, 6, 7, 8, 9] rfl rfl (by decide) rfl (by decide) (by decide) rfl rfl rfl rfl rfl (Nat.le_of_ble_eq_true rfl) ⟨Nat.le_of_ble_eq_true rfl, Nat.le_of_ble_eq_true rfl⟩ ⟨Nat.le_of_ble_eq_true rfl, Nat.le_of_ble_eq_true rfl⟩ dX10_store_114 (fun u4001 H locs hr4000 hP hD hS => ?_)
        obtain ⟨f14002, rfl⟩ : ∃ z9, z9 = u4001 := ⟨_, rfl⟩
        try dsimp only at hr4000
        have hP : va_P G.1 vwCl [(h0, .inr (10, [.ref tby, .int (nI kt), .ref tln, .ref tsp, .int tkd, .int ts9, .int tn9, .int tf9])), (tln, .inr (8, [.int 9, .int 7, .ref tlnc, .int (nI kln)])), (tlnc, .inl (G.2.1, 63, .inl ftln)), (tsp, .inr (8, [.int 120, .int 1, .ref tspc, .int (nI ksp)])), (tspc, .inl (G.2.1, 120, .inl ftsp)), (bb, .inr (0, [.ref bpersons, .ref bpapers, .ref bstamps, .ref bversions, .ref blines, .ref bsteps, .ref bsayings, .ref bfindings, .ref bwarnings, .ref bquestions, .int td, .int vd, .int vl, .int gp])), (bsteps, .inr (8, [.int 960, .int 1, .ref bstepsc, .int (nI kbsteps)])), (bstepsc, .inl (G.2.1, 960, .inl fbsteps)), (bversions, .inr (8, [.int 8, .int 3, .ref bversionsc, .int (nI (kbversions + 1))])), (bversionsc, .inl (G.2.1, 24, .inl f13929)), (blines, .inr (8, [.int 72, .int 7, .ref blinesc, .int (nI (vkb + 1))])), (blinesc, .inl (G.2.1, 504, .inl f14002))] H := hP
        have hD : va_D A [(h0, .inr (10, [.ref tby, .int (nI kt), .ref tln, .ref tsp, .int tkd, .int ts9, .int tn9, .int tf9])), (tln, .inr (8, [.int 9, .int 7, .ref tlnc, .int (nI kln)])), (tlnc, .inl (G.2.1, 63, .inl ftln)), (tsp, .inr (8, [.int 120, .int 1, .ref tspc, .int (nI ksp)])), (tspc, .inl (G.2.1, 120, .inl ftsp)), (bb, .inr (0, [.ref bpersons, .ref bpapers, .ref bstamps, .ref bversions, .ref blines, .ref bsteps, .ref bsayings, .ref bfindings, .ref bwarnings, .ref bquestions, .int td, .int vd, .int vl, .int gp])), (bsteps, .inr (8, [.int 960, .int 1, .ref bstepsc, .int (nI kbsteps)])), (bstepsc, .inl (G.2.1, 960, .inl fbsteps)), (bversions, .inr (8, [.int 8, .int 3, .ref bversionsc, .int (nI (kbversions + 1))])), (bversionsc, .inl (G.2.1, 24, .inl f13929)), (blines, .inr (8, [.int 72, .int 7, .ref blinesc, .int (nI (vkb + 1))])), (blinesc, .inl (G.2.1, 504, .inl f14002))] := hD
        have w4003 := hr4000
        refine lv_iinc (v := 7) (lv' := [(6, .int 7), (5, .int (nI vkb)), (4, .int (nI kP)), (3, .int (nI kbsteps)), (2, .int (nI kbversions)), (0, .ref h0), (1, .ref bb)]) hx hb dX10_store_117 hl (k := 0) rfl (by decide) (by decide) rfl (fun ls hl => ?_)
        refine lv_goto (tgt := 88) hx hb dX10_store_120 (by decide) ?_
        refine lv_iload hx hb dX10_store_88 (lv_at hl 0 rfl) ?_
        refine lv_bipush (v := 6) hx hb dX10_store_90 (by decide) ?_
        refine lv_icmp_gt (tgt := 123) hx hb dX10_store_92 (by decide) (fun _ => ?_) (fun c9 => absurd (by decide) c9)
        refine lv_aload_n hx hb dX10_store_123 rfl (lv_at hl 6 rfl) ?_
        refine gf_X10_70 hC rfl hK hP 5 rfl rfl dX10_store_124 ?_
        refine lv_iload hx hb dX10_store_127 (lv_at hl 1 rfl) ?_
        refine lv_iconst (v := 5) hx hb dX10_store_129 (by decide) ?_
        refine lv_aload_n hx hb dX10_store_130 rfl (lv_at hl 5 rfl) ?_
        refine gf_X10_20 hC rfl hK hP 0 rfl rfl dX10_store_131 ?_
        refine lv_iload hx hb dX10_store_134 (lv_at hl 2 rfl) ?_
        refine lv_iconst (v := 5) hx hb dX10_store_136 (by decide) ?_
        refine pV hC hK hl hP hD (c_T_at l G tln (nI kP) 5 9 7 tlnc kln ftln (by omega) (by omega) (by omega)) si_X10_74 [1, 2] rfl rfl (by decide) rfl rfl rfl rfl rfl (Nat.le_of_ble_eq_true rfl) ⟨Nat.le_of_ble_eq_true rfl, Nat.le_of_ble_eq_true rfl⟩ ⟨by first | exact Nat.le_of_ble_eq_true rfl | exact Nat.zero_le _, by first | exact Nat.le_of_ble_eq_true rfl | exact Nat.zero_le _⟩ dX10_store_137 (fun r4004 hr4004 => ?_)
        refine lv_iload_n hx hb dX10_store_140 rfl (lv_at hl 3 rfl) ?_
        refine lv_iadd hx hb dX10_store_141 ?_
        refine vV (wr := [(h0, .inr (10, [.ref tby, .int (nI kt), .ref tln, .ref tsp, .int tkd, .int ts9, .int tn9, .int tf9])), (tln, .inr (8, [.int 9, .int 7, .ref tlnc, .int (nI kln)])), (tlnc, .inl (G.2.1, 63, .inl ftln)), (tsp, .inr (8, [.int 120, .int 1, .ref tspc, .int (nI ksp)])), (tspc, .inl (G.2.1, 120, .inl ftsp)), (bb, .inr (0, [.ref bpersons, .ref bpapers, .ref bstamps, .ref bversions, .ref blines, .ref bsteps, .ref bsayings, .ref bfindings, .ref bwarnings, .ref bquestions, .int td, .int vd, .int vl, .int gp])), (bsteps, .inr (8, [.int 960, .int 1, .ref bstepsc, .int (nI kbsteps)])), (bstepsc, .inl (G.2.1, 960, .inl fbsteps)), (bversions, .inr (8, [.int 8, .int 3, .ref bversionsc, .int (nI (kbversions + 1))])), (bversionsc, .inl (G.2.1, 24, .inl f13929))]) hC hK hl hP hD hS hA (c_T_set l G blines (nI vkb) 5 (r4004 + (nI kbsteps)) 72 7 blinesc (vkb + 1) f14002 (by omega) (by omega) (by omega)) si_X10_66 [10, 11] [0, 1, 2, 3, 4, 5, 6, 7, 8, 9] rfl rfl (by decide) rfl (by decide) (by decide) rfl rfl rfl rfl rfl (Nat.le_of_ble_eq_true rfl) ⟨Nat.le_of_ble_eq_true rfl, Nat.le_of_ble_eq_true rfl⟩ ⟨Nat.le_of_ble_eq_true rfl, Nat.le_of_ble_eq_true rfl⟩ dX10_store_142 (fun u4007 H locs hr4006 hP hD hS => ?_)
        obtain ⟨f14008, rfl⟩ : ∃ z9, z9 = u4007 := ⟨_, rfl⟩
        try dsimp only at hr4006
        have hP : va_P G.1 vwCl [(h0, .inr (10, [.ref tby, .int (nI kt), .ref tln, .ref tsp, .int tkd, .int ts9, .int tn9, .int tf9])), (tln, .inr (8, [.int 9, .int 7, .ref tlnc, .int (nI kln)])), (tlnc, .inl (G.2.1, 63, .inl ftln)), (tsp, .inr (8, [.int 120, .int 1, .ref tspc, .int (nI ksp)])), (tspc, .inl (G.2.1, 120, .inl ftsp)), (bb, .inr (0, [.ref bpersons, .ref bpapers, .ref bstamps, .ref bversions, .ref blines, .ref bsteps, .ref bsayings, .ref bfindings, .ref bwarnings, .ref bquestions, .int td, .int vd, .int vl, .int gp])), (bsteps, .inr (8, [.int 960, .int 1, .ref bstepsc, .int (nI kbsteps)])), (bstepsc, .inl (G.2.1, 960, .inl fbsteps)), (bversions, .inr (8, [.int 8, .int 3, .ref bversionsc, .int (nI (kbversions + 1))])), (bversionsc, .inl (G.2.1, 24, .inl f13929)), (blines, .inr (8, [.int 72, .int 7, .ref blinesc, .int (nI (vkb + 1))])), (blinesc, .inl (G.2.1, 504, .inl f14008))] H := hP
        have hD : va_D A [(h0, .inr (10, [.ref tby, .int (nI kt), .ref tln, .ref tsp, .int tkd, .int ts9, .int tn9, .int tf9])), (tln, .inr (8, [.int 9, .int 7, .ref tlnc, .int (nI kln)])), (tlnc, .inl (G.2.1, 63, .inl ftln)), (tsp, .inr (8, [.int 120, .int 1, .ref tspc, .int (nI ksp)])), (tspc, .inl (G.2.1, 120, .inl ftsp)), (bb, .inr (0, [.ref bpersons, .ref bpapers, .ref bstamps, .ref bversions, .ref blines, .ref bsteps, .ref bsayings, .ref bfindings, .ref bwarnings, .ref bquestions, .int td, .int vd, .int vl, .int gp])), (bsteps, .inr (8, [.int 960, .int 1, .ref bstepsc, .int (nI kbsteps)])), (bstepsc, .inl (G.2.1, 960, .inl fbsteps)), (bversions, .inr (8, [.int 8, .int 3, .ref bversionsc, .int (nI (kbversions + 1))])), (bversionsc, .inl (G.2.1, 24, .inl f13929)), (blines, .inr (8, [.int 72, .int 7, .ref blinesc, .int (nI (vkb + 1))])), (blinesc, .inl (G.2.1, 504, .inl f14008))] := hD
        have w4009 := hr4006
        refine lv_iinc (v := nI (kP + 1)) (lv' := [(4, .int (nI (kP + 1))), (6, .int 7), (5, .int (nI vkb)), (3, .int (nI kbsteps)), (2, .int (nI kbversions)), (0, .ref h0), (1, .ref bb)]) hx hb dX10_store_145 hl (k := 2) rfl (nI_1 _) (by decide) rfl (fun ls hl => ?_)
        refine lv_goto (tgt := 64) hx hb dX10_store_148 (by decide) ?_
        have hP := hP.sub (ws' := [(h0, .inr (10, [.ref tby, .int (nI kt), .ref tln, .ref tsp, .int tkd, .int ts9, .int tn9, .int tf9])), (tln, .inr (8, [.int 9, .int 7, .ref tlnc, .int (nI kln)])), (tlnc, .inl (G.2.1, 63, .inl ftln)), (tsp, .inr (8, [.int 120, .int 1, .ref tspc, .int (nI ksp)])), (tspc, .inl (G.2.1, 120, .inl ftsp)), (bb, .inr (0, [.ref bpersons, .ref bpapers, .ref bstamps, .ref bversions, .ref blines, .ref bsteps, .ref bsayings, .ref bfindings, .ref bwarnings, .ref bquestions, .int td, .int vd, .int vl, .int gp])), (blines, .inr (8, [.int 72, .int 7, .ref blinesc, .int (nI (vkb + 1))])), (blinesc, .inl (G.2.1, 504, .inl f14008)), (bsteps, .inr (8, [.int 960, .int 1, .ref bstepsc, .int (nI kbsteps)])), (bstepsc, .inl (G.2.1, 960, .inl fbsteps)), (bversions, .inr (8, [.int 8, .int 3, .ref bversionsc, .int (nI (kbversions + 1))])), (bversionsc, .inl (G.2.1, 24, .inl f13929))]) [0, 1, 2, 3, 4, 5, 10, 11, 6, 7, 8, 9] rfl
        have hD := hD.sub (ws' := [(h0, .inr (10, [.ref tby, .int (nI kt), .ref tln, .ref tsp, .int tkd, .int ts9, .int tn9, .int tf9])), (tln, .inr (8, [.int 9, .int 7, .ref tlnc, .int (nI kln)])), (tlnc, .inl (G.2.1, 63, .inl ftln)), (tsp, .inr (8, [.int 120, .int 1, .ref tspc, .int (nI ksp)])), (tspc, .inl (G.2.1, 120, .inl ftsp)), (bb, .inr (0, [.ref bpersons, .ref bpapers, .ref bstamps, .ref bversions, .ref blines, .ref bsteps, .ref bsayings, .ref bfindings, .ref bwarnings, .ref bquestions, .int td, .int vd, .int vl, .int gp])), (blines, .inr (8, [.int 72, .int 7, .ref blinesc, .int (nI (vkb + 1))])), (blinesc, .inl (G.2.1, 504, .inl f14008)), (bsteps, .inr (8, [.int 960, .int 1, .ref bstepsc, .int (nI kbsteps)])), (bstepsc, .inl (G.2.1, 960, .inl fbsteps)), (bversions, .inr (8, [.int 8, .int 3, .ref bversionsc, .int (nI (kbversions + 1))])), (bversionsc, .inl (G.2.1, 24, .inl f13929))]) [0, 1, 2, 3, 4, 5, 10, 11, 6, 7, 8, 9] (by decide) rfl
        exact ihP (kP + 1) f14008 (vkb + 1) _ _ _ (by omega) (by first | assumption | exact Or.inl rfl | exact Or.inr rfl | omega) hP hD hS (lv_sub hl [0, 3, 4, 5, 6] rfl)
      · refine iV (wr := [(h0, .inr (10, [.ref tby, .int (nI kt), .ref tln, .ref tsp, .int tkd, .int ts9, .int tn9, .int tf9])), (tln, .inr (8, [.int 9, .int 7, .ref tlnc, .int (nI kln)])), (tlnc, .inl (G.2.1, 63, .inl ftln)), (tsp, .inr (8, [.int 120, .int 1, .ref tspc, .int (nI ksp)])), (tspc, .inl (G.2.1, 120, .inl ftsp)), (bb, .inr (0, [.ref bpersons, .ref bpapers, .ref bstamps, .ref bversions, .ref blines, .ref bsteps, .ref bsayings, .ref bfindings, .ref bwarnings, .ref bquestions, .int td, .int vd, .int vl, .int gp])), (blinesc, .inl (G.2.1, 504, .inl vbl)), (bsteps, .inr (8, [.int 960, .int 1, .ref bstepsc, .int (nI kbsteps)])), (bstepsc, .inl (G.2.1, 960, .inl fbsteps)), (bversions, .inr (8, [.int 8, .int 3, .ref bversionsc, .int (nI (kbversions + 1))])), (bversionsc, .inl (G.2.1, 24, .inl f13929))]) hC hK hl hP hD hS hA (c_T_appendF l G blines 72 7 blinesc vkb (by omega) (by omega)) si_X10_59 [6] [0, 1, 2, 3, 4, 5, 7, 8, 9, 10, 11] rfl rfl (by decide) rfl (by decide) (by decide) rfl rfl rfl rfl rfl (Nat.le_of_ble_eq_true rfl) ⟨Nat.le_of_ble_eq_true rfl, Nat.le_of_ble_eq_true rfl⟩ ⟨Nat.le_of_ble_eq_true rfl, Nat.le_of_ble_eq_true rfl⟩ dX10_store_80 (fun r4010 u4011 H locs hr4010 hP hD hS => ?_)
        have hP : va_P G.1 vwCl [(h0, .inr (10, [.ref tby, .int (nI kt), .ref tln, .ref tsp, .int tkd, .int ts9, .int tn9, .int tf9])), (tln, .inr (8, [.int 9, .int 7, .ref tlnc, .int (nI kln)])), (tlnc, .inl (G.2.1, 63, .inl ftln)), (tsp, .inr (8, [.int 120, .int 1, .ref tspc, .int (nI ksp)])), (tspc, .inl (G.2.1, 120, .inl ftsp)), (bb, .inr (0, [.ref bpersons, .ref bpapers, .ref bstamps, .ref bversions, .ref blines, .ref bsteps, .ref bsayings, .ref bfindings, .ref bwarnings, .ref bquestions, .int td, .int vd, .int vl, .int gp])), (blinesc, .inl (G.2.1, 504, .inl vbl)), (bsteps, .inr (8, [.int 960, .int 1, .ref bstepsc, .int (nI kbsteps)])), (bstepsc, .inl (G.2.1, 960, .inl fbsteps)), (bversions, .inr (8, [.int 8, .int 3, .ref bversionsc, .int (nI (kbversions + 1))])), (bversionsc, .inl (G.2.1, 24, .inl f13929)), (blines, .inr (8, [.int 72, .int 7, .ref blinesc, .int (nI vkb)]))] H := hP
        have hD : va_D A [(h0, .inr (10, [.ref tby, .int (nI kt), .ref tln, .ref tsp, .int tkd, .int ts9, .int tn9, .int tf9])), (tln, .inr (8, [.int 9, .int 7, .ref tlnc, .int (nI kln)])), (tlnc, .inl (G.2.1, 63, .inl ftln)), (tsp, .inr (8, [.int 120, .int 1, .ref tspc, .int (nI ksp)])), (tspc, .inl (G.2.1, 120, .inl ftsp)), (bb, .inr (0, [.ref bpersons, .ref bpapers, .ref bstamps, .ref bversions, .ref blines, .ref bsteps, .ref bsayings, .ref bfindings, .ref bwarnings, .ref bquestions, .int td, .int vd, .int vl, .int gp])), (blinesc, .inl (G.2.1, 504, .inl vbl)), (bsteps, .inr (8, [.int 960, .int 1, .ref bstepsc, .int (nI kbsteps)])), (bstepsc, .inl (G.2.1, 960, .inl fbsteps)), (bversions, .inr (8, [.int 8, .int 3, .ref bversionsc, .int (nI (kbversions + 1))])), (bversionsc, .inl (G.2.1, 24, .inl f13929)), (blines, .inr (8, [.int 72, .int 7, .ref blinesc, .int (nI vkb)]))] := hD
        obtain rfl := hr4010
        refine lv_istore (lv' := [(5, .int (-2)), (4, .int (nI kP)), (3, .int (nI kbsteps)), (2, .int (nI kbversions)), (0, .ref h0), (1, .ref bb)]) hx hb dX10_store_83 hl (by decide) rfl (fun ls hl => ?_)
        refine lv_iconst (v := 0) hx hb dX10_store_85 (by decide) ?_
        refine lv_istore (lv' := [(6, .int 0), (5, .int (-2)), (4, .int (nI kP)), (3, .int (nI kbsteps)), (2, .int (nI kbversions)), (0, .ref h0), (1, .ref bb)]) hx hb dX10_store_86 hl (by decide) rfl (fun ls hl => ?_)
        refine lv_iload hx hb dX10_store_88 (lv_at hl 0 rfl) ?_
        refine lv_bipush (v := 6) hx hb dX10_store_90 (by decide) ?_
        refine lv_icmp_gt (tgt := 123) hx hb dX10_store_92 (by decide) (fun c9 => absurd c9 (by decide)) (fun _ => ?_)
        refine lv_aload_n hx hb dX10_store_95 rfl (lv_at hl 6 rfl) ?_
        refine gf_X10_70 hC rfl hK hP 5 rfl rfl dX10_store_96 ?_
        refine lv_iload hx hb dX10_store_99 (lv_at hl 1 rfl) ?_
        refine lv_iload hx hb dX10_store_101 (lv_at hl 0 rfl) ?_
        refine lv_aload_n hx hb dX10_store_103 rfl (lv_at hl 5 rfl) ?_
        refine gf_X10_20 hC rfl hK hP 0 rfl rfl dX10_store_104 ?_
        refine lv_iload hx hb dX10_store_107 (lv_at hl 2 rfl) ?_
        refine lv_iload hx hb dX10_store_109 (lv_at hl 0 rfl) ?_
        refine pV hC hK hl hP hD (c_T_at l G tln (nI kP) 0 9 7 tlnc kln ftln (by omega) (by omega) (by omega)) si_X10_74 [1, 2] rfl rfl (by decide) rfl rfl rfl rfl rfl (Nat.le_of_ble_eq_true rfl) ⟨Nat.le_of_ble_eq_true rfl, Nat.le_of_ble_eq_true rfl⟩ ⟨by first | exact Nat.le_of_ble_eq_true rfl | exact Nat.zero_le _, by first | exact Nat.le_of_ble_eq_true rfl | exact Nat.zero_le _⟩ dX10_store_111 (fun r4013 hr4013 => ?_)
        refine vV (wr := [(h0, .inr (10, [.ref tby, .int (nI kt), .ref tln, .ref tsp, .int tkd, .int ts9, .int tn9, .int tf9])), (tln, .inr (8, [.int 9, .int 7, .ref tlnc, .int (nI kln)])), (tlnc, .inl (G.2.1, 63, .inl ftln)), (tsp, .inr (8, [.int 120, .int 1, .ref tspc, .int (nI ksp)])), (tspc, .inl (G.2.1, 120, .inl ftsp)), (bb, .inr (0, [.ref bpersons, .ref bpapers, .ref bstamps, .ref bversions, .ref blines, .ref bsteps, .ref bsayings, .ref bfindings, .ref bwarnings, .ref bquestions, .int td, .int vd, .int vl, .int gp])), (bsteps, .inr (8, [.int 960, .int 1, .ref bstepsc, .int (nI kbsteps)])), (bstepsc, .inl (G.2.1, 960, .inl fbsteps)), (bversions, .inr (8, [.int 8, .int 3, .ref bversionsc, .int (nI (kbversions + 1))])), (bversionsc, .inl (G.2.1, 24, .inl f13929))]) hC hK hl hP hD hS hA (c_T_set l G blines (-2) 0 r4013 72 7 blinesc vkb vbl (by omega) (by omega) (by omega)) si_X10_66 [11, 6] [0, 1, 2, 3, 4, 5, 7, 8, 9, 10] rfl rfl (by decide) rfl (by decide) (by decide) rfl rfl rfl rfl rfl (Nat.le_of_ble_eq_true rfl) ⟨Nat.le_of_ble_eq_true rfl, Nat.le_of_ble_eq_true rfl⟩ ⟨Nat.le_of_ble_eq_true rfl, Nat.le_of_ble_eq_true rfl⟩ dX10_store_114 (fun u4016 H locs hr4015 hP hD hS => ?_)
        obtain ⟨f14017, rfl⟩ : ∃ z9, z9 = u4016 := ⟨_, rfl⟩
        try dsimp only at hr4015
        have hP : va_P G.1 vwCl [(h0, .inr (10, [.ref tby, .int (nI kt), .ref tln, .ref tsp, .int tkd, .int ts9, .int tn9, .int tf9])), (tln, .inr (8, [.int 9, .int 7, .ref tlnc, .int (nI kln)])), (tlnc, .inl (G.2.1, 63, .inl ftln)), (tsp, .inr (8, [.int 120, .int 1, .ref tspc, .int (nI ksp)])), (tspc, .inl (G.2.1, 120, .inl ftsp)), (bb, .inr (0, [.ref bpersons, .ref bpapers, .ref bstamps, .ref bversions, .ref blines, .ref bsteps, .ref bsayings, .ref bfindings, .ref bwarnings, .ref bquestions, .int td, .int vd, .int vl, .int gp])), (bsteps, .inr (8, [.int 960, .int 1, .ref bstepsc, .int (nI kbsteps)])), (bstepsc, .inl (G.2.1, 960, .inl fbsteps)), (bversions, .inr (8, [.int 8, .int 3, .ref bversionsc, .int (nI (kbversions + 1))])), (bversionsc, .inl (G.2.1, 24, .inl f13929)), (blines, .inr (8, [.int 72, .int 7, .ref blinesc, .int (nI vkb)])), (blinesc, .inl (G.2.1, 504, .inl f14017))] H := hP
        have hD : va_D A [(h0, .inr (10, [.ref tby, .int (nI kt), .ref tln, .ref tsp, .int tkd, .int ts9, .int tn9, .int tf9])), (tln, .inr (8, [.int 9, .int 7, .ref tlnc, .int (nI kln)])), (tlnc, .inl (G.2.1, 63, .inl ftln)), (tsp, .inr (8, [.int 120, .int 1, .ref tspc, .int (nI ksp)])), (tspc, .inl (G.2.1, 120, .inl ftsp)), (bb, .inr (0, [.ref bpersons, .ref bpapers, .ref bstamps, .ref bversions, .ref blines, .ref bsteps, .ref bsayings, .ref bfindings, .ref bwarnings, .ref bquestions, .int td, .int vd, .int vl, .int gp])), (bsteps, .inr (8, [.int 960, .int 1, .ref bstepsc, .int (nI kbsteps)])), (bstepsc, .inl (G.2.1, 960, .inl fbsteps)), (bversions, .inr (8, [.int 8, .int 3, .ref bversionsc, .int (nI (kbversions + 1))])), (bversionsc, .inl (G.2.1, 24, .inl f13929)), (blines, .inr (8, [.int 72, .int 7, .ref blinesc, .int (nI vkb)])), (blinesc, .inl (G.2.1, 504, .inl f14017))] := hD
        have w4018 := hr4015
        refine lv_iinc (v := 1) (lv' := [(6, .int 1), (5, .int (-2)), (4, .int (nI kP)), (3, .int (nI kbsteps)), (2, .int (nI kbversions)), (0, .ref h0), (1, .ref bb)]) hx hb dX10_store_117 hl (k := 0) rfl (by decide) (by decide) rfl (fun ls hl => ?_)
        refine lv_goto (tgt := 88) hx hb dX10_store_120 (by decide) ?_
        refine lv_iload hx hb dX10_store_88 (lv_at hl 0 rfl) ?_
        refine lv_bipush (v := 6) hx hb dX10_store_90 (by decide) ?_
        refine lv_icmp_gt (tgt := 123) hx hb dX10_store_92 (by decide) (fun c9 => absurd c9 (by decide)) (fun _ => ?_)
        refine lv_aload_n hx hb dX10_store_95 rfl (lv_at hl 6 rfl) ?_
        refine gf_X10_70 hC rfl hK hP 5 rfl rfl dX10_store_96 ?_
        refine lv_iload hx hb dX10_store_99 (lv_at hl 1 rfl) ?_
        refine lv_iload hx hb dX10_store_101 (lv_at hl 0 rfl) ?_
        refine lv_aload_n hx hb dX10_store_103 rfl (lv_at hl 5 rfl) ?_
        refine gf_X10_20 hC rfl hK hP 0 rfl rfl dX10_store_104 ?_
        refine lv_iload hx hb dX10_store_107 (lv_at hl 2 rfl) ?_
        refine lv_iload hx hb dX10_store_109 (lv_at hl 0 rfl) ?_
        refine pV hC hK hl hP hD (c_T_at l G tln (nI kP) 1 9 7 tlnc kln ftln (by omega) (by omega) (by omega)) si_X10_74 [1, 2] rfl rfl (by decide) rfl rfl rfl rfl rfl (Nat.le_of_ble_eq_true rfl) ⟨Nat.le_of_ble_eq_true rfl, Nat.le_of_ble_eq_true rfl⟩ ⟨by first | exact Nat.le_of_ble_eq_true rfl | exact Nat.zero_le _, by first | exact Nat.le_of_ble_eq_true rfl | exact Nat.zero_le _⟩ dX10_store_111 (fun r4019 hr4019 => ?_)
        refine vV (wr := [(h0, .inr (10, [.ref tby, .int (nI kt), .ref tln, .ref tsp, .int tkd, .int ts9, .int tn9, .int tf9])), (tln, .inr (8, [.int 9, .int 7, .ref tlnc, .int (nI kln)])), (tlnc, .inl (G.2.1, 63, .inl ftln)), (tsp, .inr (8, [.int 120, .int 1, .ref tspc, .int (nI ksp)])), (tspc, .inl (G.2.1, 120, .inl ftsp)), (bb, .inr (0, [.ref bpersons, .ref bpapers, .ref bstamps, .ref bversions, .ref blines, .ref bsteps, .ref bsayings, .ref bfindings, .ref bwarnings, .ref bquestions, .int td, .int vd, .int vl, .int gp])), (bsteps, .inr (8, [.int 960, .int 1, .ref bstepsc, .int (nI kbsteps)])), (bstepsc, .inl (G.2.1, 960, .inl fbsteps)), (bversions, .inr (8, [.int 8, .int 3, .ref bversionsc, .int (nI (kbversions + 1))])), (bversionsc, .inl (G.2.1, 24, .inl f13929))]) hC hK hl hP hD hS hA (c_T_set l G blines (-2) 1 r4019 72 7 blinesc vkb f14017 (by omega) (by omega) (by omega)) si_X10_66 [10, 11] [0, 1, 2, 3, 4, 5, 6, 7, 8, 9] rfl rfl (by decide) rfl (by decide) (by decide) rfl rfl rfl rfl rfl (Nat.le_of_ble_eq_true rfl) ⟨Nat.le_of_ble_eq_true rfl, Nat.le_of_ble_eq_true rfl⟩ ⟨Nat.le_of_ble_eq_true rfl, Nat.le_of_ble_eq_true rfl⟩ dX10_store_114 (fun u4022 H locs hr4021 hP hD hS => ?_)
        obtain ⟨f14023, rfl⟩ : ∃ z9, z9 = u4022 := ⟨_, rfl⟩
        try dsimp only at hr4021
        have hP : va_P G.1 vwCl [(h0, .inr (10, [.ref tby, .int (nI kt), .ref tln, .ref tsp, .int tkd, .int ts9, .int tn9, .int tf9])), (tln, .inr (8, [.int 9, .int 7, .ref tlnc, .int (nI kln)])), (tlnc, .inl (G.2.1, 63, .inl ftln)), (tsp, .inr (8, [.int 120, .int 1, .ref tspc, .int (nI ksp)])), (tspc, .inl (G.2.1, 120, .inl ftsp)), (bb, .inr (0, [.ref bpersons, .ref bpapers, .ref bstamps, .ref bversions, .ref blines, .ref bsteps, .ref bsayings, .ref bfindings, .ref bwarnings, .ref bquestions, .int td, .int vd, .int vl, .int gp])), (bsteps, .inr (8, [.int 960, .int 1, .ref bstepsc, .int (nI kbsteps)])), (bstepsc, .inl (G.2.1, 960, .inl fbsteps)), (bversions, .inr (8, [.int 8, .int 3, .ref bversionsc, .int (nI (kbversions + 1))])), (bversionsc, .inl (G.2.1, 24, .inl f13929)), (blines, .inr (8, [.int 72, .int 7, .ref blinesc, .int (nI vkb)])), (blinesc, .inl (G.2.1, 504, .inl f14023))] H := hP
        have hD : va_D A [(h0, .inr (10, [.ref tby, .int (nI kt), .ref tln, .ref tsp, .int tkd, .int ts9, .int tn9, .int tf9])), (tln, .inr (8, [.int 9, .int 7, .ref tlnc, .int (nI kln)])), (tlnc, .inl (G.2.1, 63, .inl ftln)), (tsp, .inr (8, [.int 120, .int 1, .ref tspc, .int (nI ksp)])), (tspc, .inl (G.2.1, 120, .inl ftsp)), (bb, .inr (0, [.ref bpersons, .ref bpapers, .ref bstamps, .ref bversions, .ref blines, .ref bsteps, .ref bsayings, .ref bfindings, .ref bwarnings, .ref bquestions, .int td, .int vd, .int vl, .int gp])), (bsteps, .inr (8, [.int 960, .int 1, .ref bstepsc, .int (nI kbsteps)])), (bstepsc, .inl (G.2.1, 960, .inl fbsteps)), (bversions, .inr (8, [.int 8, .int 3, .ref bversionsc, .int (nI (kbversions + 1))])), (bversionsc, .inl (G.2.1, 24, .inl f13929)), (blines, .inr (8, [.int 72, .int 7, .ref blinesc, .int (nI vkb)])), (blinesc, .inl (G.2.1, 504, .inl f14023))] := hD
        have w4024 := hr4021
        refine lv_iinc (v := 2) (lv' := [(6, .int 2), (5, .int (-2)), (4, .int (nI kP)), (3, .int (nI kbsteps)), (2, .int (nI kbversions)), (0, .ref h0), (1, .ref bb)]) hx hb dX10_store_117 hl (k := 0) rfl (by decide) (by decide) rfl (fun ls hl => ?_)
        refine lv_goto (tgt := 88) hx hb dX10_store_120 (by decide) ?_
        refine lv_iload hx hb dX10_store_88 (lv_at hl 0 rfl) ?_
        refine lv_bipush (v := 6) hx hb dX10_store_90 (by decide) ?_
        refine lv_icmp_gt (tgt := 123) hx hb dX10_store_92 (by decide) (fun c9 => absurd c9 (by decide)) (fun _ => ?_)
        refine lv_aload_n hx hb dX10_store_95 rfl (lv_at hl 6 rfl) ?_
        refine gf_X10_70 hC rfl hK hP 5 rfl rfl dX10_store_96 ?_
        refine lv_iload hx hb dX10_store_99 (lv_at hl 1 rfl) ?_
        refine lv_iload hx hb dX10_store_101 (lv_at hl 0 rfl) ?_
        refine lv_aload_n hx hb dX10_store_103 rfl (lv_at hl 5 rfl) ?_
        refine gf_X10_20 hC rfl hK hP 0 rfl rfl dX10_store_104 ?_
        refine lv_iload hx hb dX10_store_107 (lv_at hl 2 rfl) ?_
        refine lv_iload hx hb dX10_store_109 (lv_at hl 0 rfl) ?_
        refine pV hC hK hl hP hD (c_T_at l G tln (nI kP) 2 9 7 tlnc kln ftln (by omega) (by omega) (by omega)) si_X10_74 [1, 2] rfl rfl (by decide) rfl rfl rfl rfl rfl (Nat.le_of_ble_eq_true rfl) ⟨Nat.le_of_ble_eq_true rfl, Nat.le_of_ble_eq_true rfl⟩ ⟨by first | exact Nat.le_of_ble_eq_true rfl | exact Nat.zero_le _, by first | exact Nat.le_of_ble_eq_true rfl | exact Nat.zero_le _⟩ dX10_store_111 (fun r4025 hr4025 => ?_)
        refine vV (wr := [(h0, .inr (10, [.ref tby, .int (nI kt), .ref tln, .ref tsp, .int tkd, .int ts9, .int tn9, .int tf9])), (tln, .inr (8, [.int 9, .int 7, .ref tlnc, .int (nI kln)])), (tlnc, .inl (G.2.1, 63, .inl ftln)), (tsp, .inr (8, [.int 120, .int 1, .ref tspc, .int (nI ksp)])), (tspc, .inl (G.2.1, 120, .inl ftsp)), (bb, .inr (0, [.ref bpersons, .ref bpapers, .ref bstamps, .ref bversions, .ref blines, .ref bsteps, .ref bsayings, .ref bfindings, .ref bwarnings, .ref bquestions, .int td, .int vd, .int vl, .int gp])), (bsteps, .inr (8, [.int 960, .int 1, .ref bstepsc, .int (nI kbsteps)])), (bstepsc, .inl (G.2.1, 960, .inl fbsteps)), (bversions, .inr (8, [.int 8, .int 3, .ref bversionsc, .int (nI (kbversions + 1))])), (bversionsc, .inl (G.2.1, 24, .inl f13929))]) hC hK hl hP hD hS hA (c_T_set l G blines (-2) 2 r4025 72 7 blinesc vkb f14023 (by omega) (by omega) (by omega)) si_X10_66 [10, 11] [0, 1, 2, 3, 4, 5, 6, 7, 8, 9] rfl rfl (by decide) rfl (by decide) (by decide) rfl rfl rfl rfl rfl (Nat.le_of_ble_eq_true rfl) ⟨Nat.le_of_ble_eq_true rfl, Nat.le_of_ble_eq_true rfl⟩ ⟨Nat.le_of_ble_eq_true rfl, Nat.le_of_ble_eq_true rfl⟩ dX10_store_114 (fun u4028 H locs hr4027 hP hD hS => ?_)
        obtain ⟨f14029, rfl⟩ : ∃ z9, z9 = u4028 := ⟨_, rfl⟩
        try dsimp only at hr4027
        have hP : va_P G.1 vwCl [(h0, .inr (10, [.ref tby, .int (nI kt), .ref tln, .ref tsp, .int tkd, .int ts9, .int tn9, .int tf9])), (tln, .inr (8, [.int 9, .int 7, .ref tlnc, .int (nI kln)])), (tlnc, .inl (G.2.1, 63, .inl ftln)), (tsp, .inr (8, [.int 120, .int 1, .ref tspc, .int (nI ksp)])), (tspc, .inl (G.2.1, 120, .inl ftsp)), (bb, .inr (0, [.ref bpersons, .ref bpapers, .ref bstamps, .ref bversions, .ref blines, .ref bsteps, .ref bsayings, .ref bfindings, .ref bwarnings, .ref bquestions, .int td, .int vd, .int vl, .int gp])), (bsteps, .inr (8, [.int 960, .int 1, .ref bstepsc, .int (nI kbsteps)])), (bstepsc, .inl (G.2.1, 960, .inl fbsteps)), (bversions, .inr (8, [.int 8, .int 3, .ref bversionsc, .int (nI (kbversions + 1))])), (bversionsc, .inl (G.2.1, 24, .inl f13929)), (blines, .inr (8, [.int 72, .int 7, .ref blinesc, .int (nI vkb)])), (blinesc, .inl (G.2.1, 504, .inl f14029))] H := hP
        have hD : va_D A [(h0, .inr (10, [.ref tby, .int (nI kt), .ref tln, .ref tsp, .int tkd, .int ts9, .int tn9, .int tf9])), (tln, .inr (8, [.int 9, .int 7, .ref tlnc, .int (nI kln)])), (tlnc, .inl (G.2.1, 63, .inl ftln)), (tsp, .inr (8, [.int 120, .int 1, .ref tspc, .int (nI ksp)])), (tspc, .inl (G.2.1, 120, .inl ftsp)), (bb, .inr (0, [.ref bpersons, .ref bpapers, .ref bstamps, .ref bversions, .ref blines, .ref bsteps, .ref bsayings, .ref bfindings, .ref bwarnings, .ref bquestions, .int td, .int vd, .int vl, .int gp])), (bsteps, .inr (8, [.int 960, .int 1, .ref bstepsc, .int (nI kbsteps)])), (bstepsc, .inl (G.2.1, 960, .inl fbsteps)), (bversions, .inr (8, [.int 8, .int 3, .ref bversionsc, .int (nI (kbversions + 1))])), (bversionsc, .inl (G.2.1, 24, .inl f13929)), (blines, .inr (8, [.int 72, .int 7, .ref blinesc, .int (nI vkb)])), (blinesc, .inl (G.2.1, 504, .inl f14029))] := hD
        have w4030 := hr4027
        refine lv_iinc (v := 3) (lv' := [(6, .int 3), (5, .int (-2)), (4, .int (nI kP)), (3, .int (nI kbsteps)), (2, .int (nI kbversions)), (0, .ref h0), (1, .ref bb)]) hx hb dX10_store_117 hl (k := 0) rfl (by decide) (by decide) rfl (fun ls hl => ?_)
        refine lv_goto (tgt := 88) hx hb dX10_store_120 (by decide) ?_
        refine lv_iload hx hb dX10_store_88 (lv_at hl 0 rfl) ?_
        refine lv_bipush (v := 6) hx hb dX10_store_90 (by decide) ?_
        refine lv_icmp_gt (tgt := 123) hx hb dX10_store_92 (by decide) (fun c9 => absurd c9 (by decide)) (fun _ => ?_)
        refine lv_aload_n hx hb dX10_store_95 rfl (lv_at hl 6 rfl) ?_
        refine gf_X10_70 hC rfl hK hP 5 rfl rfl dX10_store_96 ?_
        refine lv_iload hx hb dX10_store_99 (lv_at hl 1 rfl) ?_
        refine lv_iload hx hb dX10_store_101 (lv_at hl 0 rfl) ?_
        refine lv_aload_n hx hb dX10_store_103 rfl (lv_at hl 5 rfl) ?_
        refine gf_X10_20 hC rfl hK hP 0 rfl rfl dX10_store_104 ?_
        refine lv_iload hx hb dX10_store_107 (lv_at hl 2 rfl) ?_
        refine lv_iload hx hb dX10_store_109 (lv_at hl 0 rfl) ?_
        refine pV hC hK hl hP hD (c_T_at l G tln (nI kP) 3 9 7 tlnc kln ftln (by omega) (by omega) (by omega)) si_X10_74 [1, 2] rfl rfl (by decide) rfl rfl rfl rfl rfl (Nat.le_of_ble_eq_true rfl) ⟨Nat.le_of_ble_eq_true rfl, Nat.le_of_ble_eq_true rfl⟩ ⟨by first | exact Nat.le_of_ble_eq_true rfl | exact Nat.zero_le _, by first | exact Nat.le_of_ble_eq_true rfl | exact Nat.zero_le _⟩ dX10_store_111 (fun r4031 hr4031 => ?_)
        refine vV (wr := [(h0, .inr (10, [.ref tby, .int (nI kt), .ref tln, .ref tsp, .int tkd, .int ts9, .int tn9, .int tf9])), (tln, .inr (8, [.int 9, .int 7, .ref tlnc, .int (nI kln)])), (tlnc, .inl (G.2.1, 63, .inl ftln)), (tsp, .inr (8, [.int 120, .int 1, .ref tspc, .int (nI ksp)])), (tspc, .inl (G.2.1, 120, .inl ftsp)), (bb, .inr (0, [.ref bpersons, .ref bpapers, .ref bstamps, .ref bversions, .ref blines, .ref bsteps, .ref bsayings, .ref bfindings, .ref bwarnings, .ref bquestions, .int td, .int vd, .int vl, .int gp])), (bsteps, .inr (8, [.int 960, .int 1, .ref bstepsc, .int (nI kbsteps)])), (bstepsc, .inl (G.2.1, 960, .inl fbsteps)), (bversions, .inr (8, [.int 8, .int 3, .ref bversionsc, .int (nI (kbversions + 1))])), (bversionsc, .inl (G.2.1, 24, .inl f13929))]) hC hK hl hP hD hS hA (c_T_set l G blines (-2) 3 r4031 72 7 blinesc vkb f14029 (by omega) (by omega) (by omega)) si_X10_66 [10, 11] [0, 1, 2, 3, 4, 5, 6, 7, 8, 9] rfl rfl (by decide) rfl (by decide) (by decide) rfl rfl rfl rfl rfl (Nat.le_of_ble_eq_true rfl) ⟨Nat.le_of_ble_eq_true rfl, Nat.le_of_ble_eq_true rfl⟩ ⟨Nat.le_of_ble_eq_true rfl, Nat.le_of_ble_eq_true rfl⟩ dX10_store_114 (fun u4034 H locs hr4033 hP hD hS => ?_)
        obtain ⟨f14035, rfl⟩ : ∃ z9, z9 = u4034 := ⟨_, rfl⟩
        try dsimp only at hr4033
        have hP : va_P G.1 vwCl [(h0, .inr (10, [.ref tby, .int (nI kt), .ref tln, .ref tsp, .int tkd, .int ts9, .int tn9, .int tf9])), (tln, .inr (8, [.int 9, .int 7, .ref tlnc, .int (nI kln)])), (tlnc, .inl (G.2.1, 63, .inl ftln)), (tsp, .inr (8, [.int 120, .int 1, .ref tspc, .int (nI ksp)])), (tspc, .inl (G.2.1, 120, .inl ftsp)), (bb, .inr (0, [.ref bpersons, .ref bpapers, .ref bstamps, .ref bversions, .ref blines, .ref bsteps, .ref bsayings, .ref bfindings, .ref bwarnings, .ref bquestions, .int td, .int vd, .int vl, .int gp])), (bsteps, .inr (8, [.int 960, .int 1, .ref bstepsc, .int (nI kbsteps)])), (bstepsc, .inl (G.2.1, 960, .inl fbsteps)), (bversions, .inr (8, [.int 8, .int 3, .ref bversionsc, .int (nI (kbversions + 1))])), (bversionsc, .inl (G.2.1, 24, .inl f13929)), (blines, .inr (8, [.int 72, .int 7, .ref blinesc, .int (nI vkb)])), (blinesc, .inl (G.2.1, 504, .inl f14035))] H := hP
        have hD : va_D A [(h0, .inr (10, [.ref tby, .int (nI kt), .ref tln, .ref tsp, .int tkd, .int ts9, .int tn9, .int tf9])), (tln, .inr (8, [.int 9, .int 7, .ref tlnc, .int (nI kln)])), (tlnc, .inl (G.2.1, 63, .inl ftln)), (tsp, .inr (8, [.int 120, .int 1, .ref tspc, .int (nI ksp)])), (tspc, .inl (G.2.1, 120, .inl ftsp)), (bb, .inr (0, [.ref bpersons, .ref bpapers, .ref bstamps, .ref bversions, .ref blines, .ref bsteps, .ref bsayings, .ref bfindings, .ref bwarnings, .ref bquestions, .int td, .int vd, .int vl, .int gp])), (bsteps, .inr (8, [.int 960, .int 1, .ref bstepsc, .int (nI kbsteps)])), (bstepsc, .inl (G.2.1, 960, .inl fbsteps)), (bversions, .inr (8, [.int 8, .int 3, .ref bversionsc, .int (nI (kbversions + 1))])), (bversionsc, .inl (G.2.1, 24, .inl f13929)), (blines, .inr (8, [.int 72, .int 7, .ref blinesc, .int (nI vkb)])), (blinesc, .inl (G.2.1, 504, .inl f14035))] := hD
        have w4036 := hr4033
        refine lv_iinc (v := 4) (lv' := [(6, .int 4), (5, .int (-2)), (4, .int (nI kP)), (3, .int (nI kbsteps)), (2, .int (nI kbversions)), (0, .ref h0), (1, .ref bb)]) hx hb dX10_store_117 hl (k := 0) rfl (by decide) (by decide) rfl (fun ls hl => ?_)
        refine lv_goto (tgt := 88) hx hb dX10_store_120 (by decide) ?_
        refine lv_iload hx hb dX10_store_88 (lv_at hl 0 rfl) ?_
        refine lv_bipush (v := 6) hx hb dX10_store_90 (by decide) ?_
        refine lv_icmp_gt (tgt := 123) hx hb dX10_store_92 (by decide) (fun c9 => absurd c9 (by decide)) (fun _ => ?_)
        refine lv_aload_n hx hb dX10_store_95 rfl (lv_at hl 6 rfl) ?_
        refine gf_X10_70 hC rfl hK hP 5 rfl rfl dX10_store_96 ?_
        refine lv_iload hx hb dX10_store_99 (lv_at hl 1 rfl) ?_
        refine lv_iload hx hb dX10_store_101 (lv_at hl 0 rfl) ?_
        refine lv_aload_n hx hb dX10_store_103 rfl (lv_at hl 5 rfl) ?_
        refine gf_X10_20 hC rfl hK hP 0 rfl rfl dX10_store_104 ?_
        refine lv_iload hx hb dX10_store_107 (lv_at hl 2 rfl) ?_
        refine lv_iload hx hb dX10_store_109 (lv_at hl 0 rfl) ?_
        refine pV hC hK hl hP hD (c_T_at l G tln (nI kP) 4 9 7 tlnc kln ftln (by omega) (by omega) (by omega)) si_X10_74 [1, 2] rfl rfl (by decide) rfl rfl rfl rfl rfl (Nat.le_of_ble_eq_true rfl) ⟨Nat.le_of_ble_eq_true rfl, Nat.le_of_ble_eq_true rfl⟩ ⟨by first | exact Nat.le_of_ble_eq_true rfl | exact Nat.zero_le _, by first | exact Nat.le_of_ble_eq_true rfl | exact Nat.zero_le _⟩ dX10_store_111 (fun r4037 hr4037 => ?_)
        refine vV (wr := [(h0, .inr (10, [.ref tby, .int (nI kt), .ref tln, .ref tsp, .int tkd, .int ts9, .int tn9, .int tf9])), (tln, .inr (8, [.int 9, .int 7, .ref tlnc, .int (nI kln)])), (tlnc, .inl (G.2.1, 63, .inl ftln)), (tsp, .inr (8, [.int 120, .int 1, .ref tspc, .int (nI ksp)])), (tspc, .inl (G.2.1, 120, .inl ftsp)), (bb, .inr (0, [.ref bpersons, .ref bpapers, .ref bstamps, .ref bversions, .ref blines, .ref bsteps, .ref bsayings, .ref bfindings, .ref bwarnings, .ref bquestions, .int td, .int vd, .int vl, .int gp])), (bsteps, .inr (8, [.int 960, .int 1, .ref bstepsc, .int (nI kbsteps)])), (bstepsc, .inl (G.2.1, 960, .inl fbsteps)), (bversions, .inr (8, [.int 8, .int 3, .ref bversionsc, .int (nI (kbversions + 1))])), (bversionsc, .inl (G.2.1, 24, .inl f13929))]) hC hK hl hP hD hS hA (c_T_set l G blines (-2) 4 r4037 72 7 blinesc vkb f14035 (by omega) (by omega) (by omega)) si_X10_66 [10, 11] [0, 1, 2, 3, 4, 5, 6, 7, 8, 9] rfl rfl (by decide) rfl (by decide) (by decide) rfl rfl rfl rfl rfl (Nat.le_of_ble_eq_true rfl) ⟨Nat.le_of_ble_eq_true rfl, Nat.le_of_ble_eq_true rfl⟩ ⟨Nat.le_of_ble_eq_true rfl, Nat.le_of_ble_eq_true rfl⟩ dX10_store_114 (fun u4040 H locs hr4039 hP hD hS => ?_)
        obtain ⟨f14041, rfl⟩ : ∃ z9, z9 = u4040 := ⟨_, rfl⟩
        try dsimp only at hr4039
        have hP : va_P G.1 vwCl [(h0, .inr (10, [.ref tby, .int (nI kt), .ref tln, .ref tsp, .int tkd, .int ts9, .int tn9, .int tf9])), (tln, .inr (8, [.int 9, .int 7, .ref tlnc, .int (nI kln)])), (tlnc, .inl (G.2.1, 63, .inl ftln)), (tsp, .inr (8, [.int 120, .int 1, .ref tspc, .int (nI ksp)])), (tspc, .inl (G.2.1, 120, .inl ftsp)), (bb, .inr (0, [.ref bpersons, .ref bpapers, .ref bstamps, .ref bversions, .ref blines, .ref bsteps, .ref bsayings, .ref bfindings, .ref bwarnings, .ref bquestions, .int td, .int vd, .int vl, .int gp])), (bsteps, .inr (8, [.int 960, .int 1, .ref bstepsc, .int (nI kbsteps)])), (bstepsc, .inl (G.2.1, 960, .inl fbsteps)), (bversions, .inr (8, [.int 8, .int 3, .ref bversionsc, .int (nI (kbversions + 1))])), (bversionsc, .inl (G.2.1, 24, .inl f13929)), (blines, .inr (8, [.int 72, .int 7, .ref blinesc, .int (nI vkb)])), (blinesc, .inl (G.2.1, 504, .inl f14041))] H := hP
        have hD : va_D A [(h0, .inr (10, [.ref tby, .int (nI kt), .ref tln, .ref tsp, .int tkd, .int ts9, .int tn9, .int tf9])), (tln, .inr (8, [.int 9, .int 7, .ref tlnc, .int (nI kln)])), (tlnc, .inl (G.2.1, 63, .inl ftln)), (tsp, .inr (8, [.int 120, .int 1, .ref tspc, .int (nI ksp)])), (tspc, .inl (G.2.1, 120, .inl ftsp)), (bb, .inr (0, [.ref bpersons, .ref bpapers, .ref bstamps, .ref bversions, .ref blines, .ref bsteps, .ref bsayings, .ref bfindings, .ref bwarnings, .ref bquestions, .int td, .int vd, .int vl, .int gp])), (bsteps, .inr (8, [.int 960, .int 1, .ref bstepsc, .int (nI kbsteps)])), (bstepsc, .inl (G.2.1, 960, .inl fbsteps)), (bversions, .inr (8, [.int 8, .int 3, .ref bversionsc, .int (nI (kbversions + 1))])), (bversionsc, .inl (G.2.1, 24, .inl f13929)), (blines, .inr (8, [.int 72, .int 7, .ref blinesc, .int (nI vkb)])), (blinesc, .inl (G.2.1, 504, .inl f14041))] := hD
        have w4042 := hr4039
        refine lv_iinc (v := 5) (lv' := [(6, .int 5), (5, .int (-2)), (4, .int (nI kP)), (3, .int (nI kbsteps)), (2, .int (nI kbversions)), (0, .ref h0), (1, .ref bb)]) hx hb dX10_store_117 hl (k := 0) rfl (by decide) (by decide) rfl (fun ls hl => ?_)
        refine lv_goto (tgt := 88) hx hb dX10_store_120 (by decide) ?_
        refine lv_iload hx hb dX10_store_88 (lv_at hl 0 rfl) ?_
        refine lv_bipush (v := 6) hx hb dX10_store_90 (by decide) ?_
        refine lv_icmp_gt (tgt := 123) hx hb dX10_store_92 (by decide) (fun c9 => absurd c9 (by decide)) (fun _ => ?_)
        refine lv_aload_n hx hb dX10_store_95 rfl (lv_at hl 6 rfl) ?_
        refine gf_X10_70 hC rfl hK hP 5 rfl rfl dX10_store_96 ?_
        refine lv_iload hx hb dX10_store_99 (lv_at hl 1 rfl) ?_
        refine lv_iload hx hb dX10_store_101 (lv_at hl 0 rfl) ?_
        refine lv_aload_n hx hb dX10_store_103 rfl (lv_at hl 5 rfl) ?_
        refine gf_X10_20 hC rfl hK hP 0 rfl rfl dX10_store_104 ?_
        refine lv_iload hx hb dX10_store_107 (lv_at hl 2 rfl) ?_
        refine lv_iload hx hb dX10_store_109 (lv_at hl 0 rfl) ?_
        refine pV hC hK hl hP hD (c_T_at l G tln (nI kP) 5 9 7 tlnc kln ftln (by omega) (by omega) (by omega)) si_X10_74 [1, 2] rfl rfl (by decide) rfl rfl rfl rfl rfl (Nat.le_of_ble_eq_true rfl) ⟨Nat.le_of_ble_eq_true rfl, Nat.le_of_ble_eq_true rfl⟩ ⟨by first | exact Nat.le_of_ble_eq_true rfl | exact Nat.zero_le _, by first | exact Nat.le_of_ble_eq_true rfl | exact Nat.zero_le _⟩ dX10_store_111 (fun r4043 hr4043 => ?_)
        refine vV (wr := [(h0, .inr (10, [.ref tby, .int (nI kt), .ref tln, .ref tsp, .int tkd, .int ts9, .int tn9, .int tf9])), (tln, .inr (8, [.int 9, .int 7, .ref tlnc, .int (nI kln)])), (tlnc, .inl (G.2.1, 63, .inl ftln)), (tsp, .inr (8, [.int 120, .int 1, .ref tspc, .int (nI ksp)])), (tspc, .inl (G.2.1, 120, .inl ftsp)), (bb, .inr (0, [.ref bpersons, .ref bpapers, .ref bstamps, .ref bversions, .ref blines, .ref bsteps, .ref bsayings, .ref bfindings, .ref bwarnings, .ref bquestions, .int td, .int vd, .int vl, .int gp])), (bsteps, .inr (8, [.int 960, .int 1, .ref bstepsc, .int (nI kbsteps)])), (bstepsc, .inl (G.2.1, 960, .inl fbsteps)), (bversions, .inr (8, [.int 8, .int 3, .ref bversionsc, .int (nI (kbversions + 1))])), (bversionsc, .inl (G.2.1, 24, .inl f13929))]) hC hK hl hP hD hS hA (c_T_set l G blines (-2) 5 r4043 72 7 blinesc vkb f14041 (by omega) (by omega) (by omega)) si_X10_66 [10, 11] [0, 1, 2, 3, 4, 5, 6, 7, 8, 9] rfl rfl (by decide) rfl (by decide) (by decide) rfl rfl rfl rfl rfl (Nat.le_of_ble_eq_true rfl) ⟨Nat.le_of_ble_eq_true rfl, Nat.le_of_ble_eq_true rfl⟩ ⟨Nat.le_of_ble_eq_true rfl, Nat.le_of_ble_eq_true rfl⟩ dX10_store_114 (fun u4046 H locs hr4045 hP hD hS => ?_)
        obtain ⟨f14047, rfl⟩ : ∃ z9, z9 = u4046 := ⟨_, rfl⟩
        try dsimp only at hr4045
        have hP : va_P G.1 vwCl [(h0, .inr (10, [.ref tby, .int (nI kt), .ref tln, .ref tsp, .int tkd, .int ts9, .int tn9, .int tf9])), (tln, .inr (8, [.int 9, .int 7, .ref tlnc, .int (nI kln)])), (tlnc, .inl (G.2.1, 63, .inl ftln)), (tsp, .inr (8, [.int 120, .int 1, .ref tspc, .int (nI ksp)])), (tspc, .inl (G.2.1, 120, .inl ftsp)), (bb, .inr (0, [.ref bpersons, .ref bpapers, .ref bstamps, .ref bversions, .ref blines, .ref bsteps, .ref bsayings, .ref bfindings, .ref bwarnings, .ref bquestions, .int td, .int vd, .int vl, .int gp])), (bsteps, .inr (8, [.int 960, .int 1, .ref bstepsc, .int (nI kbsteps)])), (bstepsc, .inl (G.2.1, 960, .inl fbsteps)), (bversions, .inr (8, [.int 8, .int 3, .ref bversionsc, .int (nI (kbversions + 1))])), (bversionsc, .inl (G.2.1, 24, .inl f13929)), (blines, .inr (8, [.int 72, .int 7, .ref blinesc, .int (nI vkb)])), (blinesc, .inl (G.2.1, 504, .inl f14047))] H := hP
        have hD : va_D A [(h0, .inr (10, [.ref tby, .int (nI kt), .ref tln, .ref tsp, .int tkd, .int ts9, .int tn9, .int tf9])), (tln, .inr (8, [.int 9, .int 7, .ref tlnc, .int (nI kln)])), (tlnc, .inl (G.2.1, 63, .inl ftln)), (tsp, .inr (8, [.int 120, .int 1, .ref tspc, .int (nI ksp)])), (tspc, .inl (G.2.1, 120, .inl ftsp)), (bb, .inr (0, [.ref bpersons, .ref bpapers, .ref bstamps, .ref bversions, .ref blines, .ref bsteps, .ref bsayings, .ref bfindings, .ref bwarnings, .ref bquestions, .int td, .int vd, .int vl, .int gp])), (bsteps, .inr (8, [.int 960, .int 1, .ref bstepsc, .int (nI kbsteps)])), (bstepsc, .inl (G.2.1, 960, .inl fbsteps)), (bversions, .inr (8, [.int 8, .int 3, .ref bversionsc, .int (nI (kbversions + 1))])), (bversionsc, .inl (G.2.1, 24, .inl f13929)), (blines, .inr (8, [.int 72, .int 7, .ref blinesc, .int (nI vkb)])), (blinesc, .inl (G.2.1, 504, .inl f14047))] := hD
        have w4048 := hr4045
        refine lv_iinc (v := 6) (lv' := [(6, .int 6), (5, .int (-2)), (4, .int (nI kP)), (3, .int (nI kbsteps)), (2, .int (nI kbversions)), (0, .ref h0), (1, .ref bb)]) hx hb dX10_store_117 hl (k := 0) rfl (by decide) (by decide) rfl (fun ls hl => ?_)
        refine lv_goto (tgt := 88) hx hb dX10_store_120 (by decide) ?_
        refine lv_iload hx hb dX10_store_88 (lv_at hl 0 rfl) ?_
        refine lv_bipush (v := 6) hx hb dX10_store_90 (by decide) ?_
        refine lv_icmp_gt (tgt := 123) hx hb dX10_store_92 (by decide) (fun c9 => absurd c9 (by decide)) (fun _ => ?_)
        refine lv_aload_n hx hb dX10_store_95 rfl (lv_at hl 6 rfl) ?_
        refine gf_X10_70 hC rfl hK hP 5 rfl rfl dX10_store_96 ?_
        refine lv_iload hx hb dX10_store_99 (lv_at hl 1 rfl) ?_
        refine lv_iload hx hb dX10_store_101 (lv_at hl 0 rfl) ?_
        refine lv_aload_n hx hb dX10_store_103 rfl (lv_at hl 5 rfl) ?_
        refine gf_X10_20 hC rfl hK hP 0 rfl rfl dX10_store_104 ?_
        refine lv_iload hx hb dX10_store_107 (lv_at hl 2 rfl) ?_
        refine lv_iload hx hb dX10_store_109 (lv_at hl 0 rfl) ?_
        refine pV hC hK hl hP hD (c_T_at l G tln (nI kP) 6 9 7 tlnc kln ftln (by omega) (by omega) (by omega)) si_X10_74 [1, 2] rfl rfl (by decide) rfl rfl rfl rfl rfl (Nat.le_of_ble_eq_true rfl) ⟨Nat.le_of_ble_eq_true rfl, Nat.le_of_ble_eq_true rfl⟩ ⟨by first | exact Nat.le_of_ble_eq_true rfl | exact Nat.zero_le _, by first | exact Nat.le_of_ble_eq_true rfl | exact Nat.zero_le _⟩ dX10_store_111 (fun r4049 hr4049 => ?_)
        refine vV (wr := [(h0, .inr (10, [.ref tby, .int (nI kt), .ref tln, .ref tsp, .int tkd, .int ts9, .int tn9, .int tf9])), (tln, .inr (8, [.int 9, .int 7, .ref tlnc, .int (nI kln)])), (tlnc, .inl (G.2.1, 63, .inl ftln)), (tsp, .inr (8, [.int 120, .int 1, .ref tspc, .int (nI ksp)])), (tspc, .inl (G.2.1, 120, .inl ftsp)), (bb, .inr (0, [.ref bpersons, .ref bpapers, .ref bstamps, .ref bversions, .ref blines, .ref bsteps, .ref bsayings, .ref bfindings, .ref bwarnings, .ref bquestions, .int td, .int vd, .int vl, .int gp])), (bsteps, .inr (8, [.int 960, .int 1, .ref bstepsc, .int (nI kbsteps)])), (bstepsc, .inl (G.2.1, 960, .inl fbsteps)), (bversions, .inr (8, [.int 8, .int 3, .ref bversionsc, .int (nI (kbversions + 1))])), (bversionsc, .inl (G.2.1, 24, .inl f13929))]) hC hK hl hP hD hS hA (c_T_set l G blines (-2) 6 r4049 72 7 blinesc vkb f14047 (by omega) (by omega) (by omega)) si_X10_66 [10, 11] [0, 1, 2, 3, 4, 5, 6, 7, 8, 9] rfl rfl (by decide) rfl (by decide) (by decide) rfl rfl rfl rfl rfl (Nat.le_of_ble_eq_true rfl) ⟨Nat.le_of_ble_eq_true rfl, Nat.le_of_ble_eq_true rfl⟩ ⟨Nat.le_of_ble_eq_true rfl, Nat.le_of_ble_eq_true rfl⟩ dX10_store_114 (fun u4052 H locs hr4051 hP hD hS => ?_)
        obtain ⟨f14053, rfl⟩ : ∃ z9, z9 = u4052 := ⟨_, rfl⟩
        try dsimp only at hr4051
        have hP : va_P G.1 vwCl [(h0, .inr (10, [.ref tby, .int (nI kt), .ref tln, .ref tsp, .int tkd, .int ts9, .int tn9, .int tf9])), (tln, .inr (8, [.int 9, .int 7, .ref tlnc, .int (nI kln)])), (tlnc, .inl (G.2.1, 63, .inl ftln)), (tsp, .inr (8, [.int 120, .int 1, .ref tspc, .int (nI ksp)])), (tspc, .inl (G.2.1, 120, .inl ftsp)), (bb, .inr (0, [.ref bpersons, .ref bpapers, .ref bstamps, .ref bversions, .ref blines, .ref bsteps, .ref bsayings, .ref bfindings, .ref bwarnings, .ref bquestions, .int td, .int vd, .int vl, .int gp])), (bsteps, .inr (8, [.int 960, .int 1, .ref bstepsc, .int (nI kbsteps)])), (bstepsc, .inl (G.2.1, 960, .inl fbsteps)), (bversions, .inr (8, [.int 8, .int 3, .ref bversionsc, .int (nI (kbversions + 1))])), (bversionsc, .inl (G.2.1, 24, .inl f13929)), (blines, .inr (8, [.int 72, .int 7, .ref blinesc, .int (nI vkb)])), (blinesc, .inl (G.2.1, 504, .inl f14053))] H := hP
        have hD : va_D A [(h0, .inr (10, [.ref tby, .int (nI kt), .ref tln, .ref tsp, .int tkd, .int ts9, .int tn9, .int tf9])), (tln, .inr (8, [.int 9, .int 7, .ref tlnc, .int (nI kln)])), (tlnc, .inl (G.2.1, 63, .inl ftln)), (tsp, .inr (8, [.int 120, .int 1, .ref tspc, .int (nI ksp)])), (tspc, .inl (G.2.1, 120, .inl ftsp)), (bb, .inr (0, [.ref bpersons, .ref bpapers, .ref bstamps, .ref bversions, .ref blines, .ref bsteps, .ref bsayings, .ref bfindings, .ref bwarnings, .ref bquestions, .int td, .int vd, .int vl, .int gp])), (bsteps, .inr (8, [.int 960, .int 1, .ref bstepsc, .int (nI kbsteps)])), (bstepsc, .inl (G.2.1, 960, .inl fbsteps)), (bversions, .inr (8, [.int 8, .int 3, .ref bversionsc, .int (nI (kbversions + 1))])), (bversionsc, .inl (G.2.1, 24, .inl f13929)), (blines, .inr (8, [.int 72, .int 7, .ref blinesc, .int (nI vkb)])), (blinesc, .inl (G.2.1, 504, .inl f14053))] := hD
        have w4054 := hr4051
        refine lv_iinc (v := 7) (lv' := [(6, .int 7), (5, .int (-2)), (4, .int (nI kP)), (3, .int (nI kbsteps)), (2, .int (nI kbversions)), (0, .ref h0), (1, .ref bb)]) hx hb dX10_store_117 hl (k := 0) rfl (by decide) (by decide) rfl (fun ls hl => ?_)
        refine lv_goto (tgt := 88) hx hb dX10_store_120 (by decide) ?_
        refine lv_iload hx hb dX10_store_88 (lv_at hl 0 rfl) ?_
        refine lv_bipush (v := 6) hx hb dX10_store_90 (by decide) ?_
        refine lv_icmp_gt (tgt := 123) hx hb dX10_store_92 (by decide) (fun _ => ?_) (fun c9 => absurd (by decide) c9)
        refine lv_aload_n hx hb dX10_store_123 rfl (lv_at hl 6 rfl) ?_
        refine gf_X10_70 hC rfl hK hP 5 rfl rfl dX10_store_124 ?_
        refine lv_iload hx hb dX10_store_127 (lv_at hl 1 rfl) ?_
        refine lv_iconst (v := 5) hx hb dX10_store_129 (by decide) ?_
        refine lv_aload_n hx hb dX10_store_130 rfl (lv_at hl 5 rfl) ?_
        refine gf_X10_20 hC rfl hK hP 0 rfl rfl dX10_store_131 ?_
        refine lv_iload hx hb dX10_store_134 (lv_at hl 2 rfl) ?_
        refine lv_iconst (v := 5) hx hb dX10_store_136 (by decide) ?_
        refine pV hC hK hl hP hD (c_T_at l G tln (nI kP) 5 9 7 tlnc kln ftln (by omega) (by omega) (by omega)) si_X10_74 [1, 2] rfl rfl (by decide) rfl rfl rfl rfl rfl (Nat.le_of_ble_eq_true rfl) ⟨Nat.le_of_ble_eq_true rfl, Nat.le_of_ble_eq_true rfl⟩ ⟨by first | exact Nat.le_of_ble_eq_true rfl | exact Nat.zero_le _, by first | exact Nat.le_of_ble_eq_true rfl | exact Nat.zero_le _⟩ dX10_store_137 (fun r4055 hr4055 => ?_)
        refine lv_iload_n hx hb dX10_store_140 rfl (lv_at hl 3 rfl) ?_
        refine lv_iadd hx hb dX10_store_141 ?_
        refine vV (wr := [(h0, .inr (10, [.ref tby, .int (nI kt), .ref tln, .ref tsp, .int tkd, .int ts9, .int tn9, .int tf9])), (tln, .inr (8, [.int 9, .int 7, .ref tlnc, .int (nI kln)])), (tlnc, .inl (G.2.1, 63, .inl ftln)), (tsp, .inr (8, [.int 120, .int 1, .ref tspc, .int (nI ksp)])), (tspc, .inl (G.2.1, 120, .inl ftsp)), (bb, .inr (0, [.ref bpersons, .ref bpapers, .ref bstamps, .ref bversions, .ref blines, .ref bsteps, .ref bsayings, .ref bfindings, .ref bwarnings, .ref bquestions, .int td, .int vd, .int vl, .int gp])), (bsteps, .inr (8, [.int 960, .int 1, .ref bstepsc, .int (nI kbsteps)])), (bstepsc, .inl (G.2.1, 960, .inl fbsteps)), (bversions, .inr (8, [.int 8, .int 3, .ref bversionsc, .int (nI (kbversions + 1))])), (bversionsc, .inl (G.2.1, 24, .inl f13929))]) hC hK hl hP hD hS hA (c_T_set l G blines (-2) 5 (r4055 + (nI kbsteps)) 72 7 blinesc vkb f14053 (by omega) (by omega) (by omega)) si_X10_66 [10, 11] [0, 1, 2, 3, 4, 5, 6, 7, 8, 9] rfl rfl (by decide) rfl (by decide) (by decide) rfl rfl rfl rfl rfl (Nat.le_of_ble_eq_true rfl) ⟨Nat.le_of_ble_eq_true rfl, Nat.le_of_ble_eq_true rfl⟩ ⟨Nat.le_of_ble_eq_true rfl, Nat.le_of_ble_eq_true rfl⟩ dX10_store_142 (fun u4058 H locs hr4057 hP hD hS => ?_)
        obtain ⟨f14059, rfl⟩ : ∃ z9, z9 = u4058 := ⟨_, rfl⟩
        try dsimp only at hr4057
        have hP : va_P G.1 vwCl [(h0, .inr (10, [.ref tby, .int (nI kt), .ref tln, .ref tsp, .int tkd, .int ts9, .int tn9, .int tf9])), (tln, .inr (8, [.int 9, .int 7, .ref tlnc, .int (nI kln)])), (tlnc, .inl (G.2.1, 63, .inl ftln)), (tsp, .inr (8, [.int 120, .int 1, .ref tspc, .int (nI ksp)])), (tspc, .inl (G.2.1, 120, .inl ftsp)), (bb, .inr (0, [.ref bpersons, .ref bpapers, .ref bstamps, .ref bversions, .ref blines, .ref bsteps, .ref bsayings, .ref bfindings, .ref bwarnings, .ref bquestions, .int td, .int vd, .int vl, .int gp])), (bsteps, .inr (8, [.int 960, .int 1, .ref bstepsc, .int (nI kbsteps)])), (bstepsc, .inl (G.2.1, 960, .inl fbsteps)), (bversions, .inr (8, [.int 8, .int 3, .ref bversionsc, .int (nI (kbversions + 1))])), (bversionsc, .inl (G.2.1, 24, .inl f13929)), (blines, .inr (8, [.int 72, .int 7, .ref blinesc, .int (nI vkb)])), (blinesc, .inl (G.2.1, 504, .inl f14059))] H := hP
        have hD : va_D A [(h0, .inr (10, [.ref tby, .int (nI kt), .ref tln, .ref tsp, .int tkd, .int ts9, .int tn9, .int tf9])), (tln, .inr (8, [.int 9, .int 7, .ref tlnc, .int (nI kln)])), (tlnc, .inl (G.2.1, 63, .inl ftln)), (tsp, .inr (8, [.int 120, .int 1, .ref tspc, .int (nI ksp)])), (tspc, .inl (G.2.1, 120, .inl ftsp)), (bb, .inr (0, [.ref bpersons, .ref bpapers, .ref bstamps, .ref bversions, .ref blines, .ref bsteps, .ref bsayings, .ref bfindings, .ref bwarnings, .ref bquestions, .int td, .int vd, .int vl, .int gp])), (bsteps, .inr (8, [.int 960, .int 1, .ref bstepsc, .int (nI kbsteps)])), (bstepsc, .inl (G.2.1, 960, .inl fbsteps)), (bversions, .inr (8, [.int 8, .int 3, .ref bversionsc, .int (nI (kbversions + 1))])), (bversionsc, .inl (G.2.1, 24, .inl f13929)), (blines, .inr (8, [.int 72, .int 7, .ref blinesc, .int (nI vkb)])), (blinesc, .inl (G.2.1, 504, .inl f14059))] := hD
        have w4060 := hr4057
        refine lv_iinc (v := nI (kP + 1)) (lv' := [(4, .int (nI (kP + 1))), (6, .int 7), (5, .int (-2)), (3, .int (nI kbsteps)), (2, .int (nI kbversions)), (0, .ref h0), (1, .ref bb)]) hx hb dX10_store_145 hl (k := 2) rfl (nI_1 _) (by decide) rfl (fun ls hl => ?_)
        refine lv_goto (tgt := 64) hx hb dX10_store_148 (by decide) ?_
        have hP := hP.sub (ws' := [(h0, .inr (10, [.ref tby, .int (nI kt), .ref tln, .ref tsp, .int tkd, .int ts9, .int tn9, .int tf9])), (tln, .inr (8, [.int 9, .int 7, .ref tlnc, .int (nI kln)])), (tlnc, .inl (G.2.1, 63, .inl ftln)), (tsp, .inr (8, [.int 120, .int 1, .ref tspc, .int (nI ksp)])), (tspc, .inl (G.2.1, 120, .inl ftsp)), (bb, .inr (0, [.ref bpersons, .ref bpapers, .ref bstamps, .ref bversions, .ref blines, .ref bsteps, .ref bsayings, .ref bfindings, .ref bwarnings, .ref bquestions, .int td, .int vd, .int vl, .int gp])), (blines, .inr (8, [.int 72, .int 7, .ref blinesc, .int (nI vkb)])), (blinesc, .inl (G.2.1, 504, .inl f14059)), (bsteps, .inr (8, [.int 960, .int 1, .ref bstepsc, .int (nI kbsteps)])), (bstepsc, .inl (G.2.1, 960, .inl fbsteps)), (bversions, .inr (8, [.int 8, .int 3, .ref bversionsc, .int (nI (kbversions + 1))])), (bversionsc, .inl (G.2.1, 24, .inl f13929))]) [0, 1, 2, 3, 4, 5, 10, 11, 6, 7, 8, 9] rfl
        have hD := hD.sub (ws' := [(h0, .inr (10, [.ref tby, .int (nI kt), .ref tln, .ref tsp, .int tkd, .int ts9, .int tn9, .int tf9])), (tln, .inr (8, [.int 9, .int 7, .ref tlnc, .int (nI kln)])), (tlnc, .inl (G.2.1, 63, .inl ftln)), (tsp, .inr (8, [.int 120, .int 1, .ref tspc, .int (nI ksp)])), (tspc, .inl (G.2.1, 120, .inl ftsp)), (bb, .inr (0, [.ref bpersons, .ref bpapers, .ref bstamps, .ref bversions, .ref blines, .ref bsteps, .ref bsayings, .ref bfindings, .ref bwarnings, .ref bquestions, .int td, .int vd, .int vl, .int gp])), (blines, .inr (8, [.int 72, .int 7, .ref blinesc, .int (nI vkb)])), (blinesc, .inl (G.2.1, 504, .inl f14059)), (bsteps, .inr (8, [.int 960, .int 1, .ref bstepsc, .int (nI kbsteps)])), (bstepsc, .inl (G.2.1, 960, .inl fbsteps)), (bversions, .inr (8, [.int 8, .int 3, .ref bversionsc, .int (nI (kbversions + 1))])), (bversionsc, .inl (G.2.1, 24, .inl f13929))]) [0, 1, 2, 3, 4, 5, 10, 11, 6, 7, 8, 9] (by decide) rfl
        exact ihP (kP + 1) f14059 vkb _ _ _ (by omega) (by first | assumption | exact Or.inl rfl | exact Or.inr rfl | omega) hP hD hS (lv_sub hl [0, 3, 4, 5, 6] rfl)
  exact keyP kln 0 fblines kblines _ _ _ (by omega) (by first | assumption | exact Or.inl rfl | exact Or.inr rfl | omega) hP hD hS (lv_sub hl [0, 1, 2, 3, 4] rfl)
set_option maxHeartbeats 4000000 in
set_option maxRecDepth 100000 in
theorem p_read (l : Launch) (G : GG) (K : OO) (h0 : Nat) (bb : Nat) (kk : Nat) (ikp : Int32) (sg : Nat) (do9 : Nat) (ru9 : Nat) (ta9 : Nat) (tp9 : Nat) (ro9 : Nat) (ho9 : Nat) (de9 : Nat) (tby : Nat) (kt : Nat) (tln : Nat) (tsp : Nat) (tkd : Int32) (ks : Nat) (kn : Nat) (tf9 : Int32) (fby : Nat → Int32) (tlnc : Nat) (kln : Nat) (ftln : Nat → Int32) (tspc : Nat) (ksp : Nat) (ftsp : Nat → Int32) (bpersons : Nat) (bpapers : Nat) (bstamps : Nat) (bversions : Nat) (blines : Nat) (bsteps : Nat) (bsayings : Nat) (bfindings : Nat) (bwarnings : Nat) (bquestions : Nat) (td : Int32) (vd : Int32) (vl : Int32) (gp : Int32) (bversionsc : Nat) (kbversions : Nat) (fbversions : Nat → Int32) (blinesc : Nat) (kblines : Nat) (fblines : Nat → Int32) (bstepsc : Nat) (kbsteps : Nat) (fbsteps : Nat → Int32) (hkt : kt ≤ 240) (hks : ks ≤ 240) (hkn : kn ≤ 240) (hkln : kln ≤ 9) (hksp : ksp ≤ 120) (hkbversions : kbversions ≤ 8) (hkblines : kblines ≤ 72) (hkbsteps : kbsteps ≤ 960) : MIo l G K yX11_read cX11_read 2 (some .int) 33 0 0 [.ref h0] [(h0, .inr (11, [.ref bb, .ref kk, .int ikp, .ref sg, .ref do9, .ref ru9, .ref ta9, .ref tp9, .ref ro9, .ref ho9, .ref de9])), (tp9, .inr (10, [.ref tby, .int (nI kt), .ref tln, .ref tsp, .int tkd, .int (nI ks), .int (nI kn), .int tf9])), (tby, .inl (G.2.1, 240, .inl fby)), (tln, .inr (8, [.int 9, .int 7, .ref tlnc, .int (nI kln)])), (tlnc, .inl (G.2.1, 63, .inl ftln)), (tsp, .inr (8, [.int 120, .int 1, .ref tspc, .int (nI ksp)])), (tspc, .inl (G.2.1, 120, .inl ftsp)), (bb, .inr (0, [.ref bpersons, .ref bpapers, .ref bstamps, .ref bversions, .ref blines, .ref bsteps, .ref bsayings, .ref bfindings, .ref bwarnings, .ref bquestions, .int td, .int vd, .int vl, .int gp])), (bversions, .inr (8, [.int 8, .int 3, .ref bversionsc, .int (nI kbversions)])), (bversionsc, .inl (G.2.1, 24, .inl fbversions)), (blines, .inr (8, [.int 72, .int 7, .ref blinesc, .int (nI kblines)])), (blinesc, .inl (G.2.1, 504, .inl fblines)), (bsteps, .inr (8, [.int 960, .int 1, .ref bstepsc, .int (nI kbsteps)])), (bstepsc, .inl (G.2.1, 960, .inl fbsteps))] (fun (r : Int32) (u : Int32 × Nat × Nat × Int32 × Nat × (Nat → Int32) × Nat × (Nat → Int32) × Nat × Nat × Nat × Nat × (Nat → Int32) × (Nat → Int32) × (Nat → Int32)) => (True) ∧ (u.2.1 ≤ 240 ∧ u.2.2.1 ≤ 240 ∧ u.2.2.2.2.1 ≤ 9 ∧ u.2.2.2.2.2.2.1 ≤ 120 ∧ u.2.2.2.2.2.2.2.2.1 = 0 ∧ u.2.2.2.2.2.2.2.2.2.1 ≤ 8 ∧ u.2.2.2.2.2.2.2.2.2.2.1 ≤ 72 ∧ u.2.2.2.2.2.2.2.2.2.2.2.1 ≤ 960)) (fun u : Int32 × Nat × Nat × Int32 × Nat × (Nat → Int32) × Nat × (Nat → Int32) × Nat × Nat × Nat × Nat × (Nat → Int32) × (Nat → Int32) × (Nat → Int32) => [(h0, .inr (11, [.ref bb, .ref kk, .int ikp, .ref sg, .ref do9, .ref ru9, .ref ta9, .ref tp9, .ref ro9, .ref ho9, .ref de9])), (tp9, .inr (10, [.ref tby, .int (nI u.2.2.2.2.2.2.2.2.1), .ref tln, .ref tsp, .int u.1, .int (nI u.2.1), .int (nI u.2.2.1), .int u.2.2.2.1])), (tby, .inl (G.2.1, 240, .inl fby)), (tln, .inr (8, [.int 9, .int 7, .ref tlnc, .int (nI u.2.2.2.2.1)])), (tlnc, .inl (G.2.1, 63, .inl u.2.2.2.2.2.1)), (tsp, .inr (8, [.int 120, .int 1, .ref tspc, .int (nI u.2.2.2.2.2.2.1)])), (tspc, .inl (G.2.1, 120, .inl u.2.2.2.2.2.2.2.1)), (bb, .inr (0, [.ref bpersons, .ref bpapers, .ref bstamps, .ref bversions, .ref blines, .ref bsteps, .ref bsayings, .ref bfindings, .ref bwarnings, .ref bquestions, .int td, .int vd, .int vl, .int gp])), (bversions, .inr (8, [.int 8, .int 3, .ref bversionsc, .int (nI u.2.2.2.2.2.2.2.2.2.1)])), (bversionsc, .inl (G.2.1, 24, .inl u.2.2.2.2.2.2.2.2.2.2.2.2.1)), (blines, .inr (8, [.int 72, .int 7, .ref blinesc, .int (nI u.2.2.2.2.2.2.2.2.2.2.1)])), (blinesc, .inl (G.2.1, 504, .inl u.2.2.2.2.2.2.2.2.2.2.2.2.2.1)), (bsteps, .inr (8, [.int 960, .int 1, .ref bstepsc, .int (nI u.2.2.2.2.2.2.2.2.2.2.2.1)])), (bstepsc, .inl (G.2.1, 960, .inl u.2.2.2.2.2.2.2.2.2.2.2.2.2.2))]) := by
  refine MIo.start (by decide +kernel) (Nat.le_of_ble_eq_true rfl) ?_
  intro p e s m below meth c A ls hC hK hP hD hS hA hl hO
  have hl : lv_has ls 2 [(0, .ref h0)] := hl
  obtain ⟨hx, hb, hr, hml, hB, hown, hlocks, hnm⟩ := id hC
  refine lv_aload_n hx hb dX11_read_0 rfl (lv_at hl 0 rfl) ?_
  refine gf_X11_58 hC rfl hK hP 0 rfl rfl dX11_read_1 ?_
  refine iVo (wr := [(h0, .inr (11, [.ref bb, .ref kk, .int ikp, .ref sg, .ref do9, .ref ru9, .ref ta9, .ref tp9, .ref ro9, .ref ho9, .ref de9])), (bb, .inr (0, [.ref bpersons, .ref bpapers, .ref bstamps, .ref bversions, .ref blines, .ref bsteps, .ref bsayings, .ref bfindings, .ref bwarnings, .ref bquestions, .int td, .int vd, .int vl, .int gp])), (bversions, .inr (8, [.int 8, .int 3, .ref bversionsc, .int (nI kbversions)])), (bversionsc, .inl (G.2.1, 24, .inl fbversions)), (blines, .inr (8, [.int 72, .int 7, .ref blinesc, .int (nI kblines)])), (blinesc, .inl (G.2.1, 504, .inl fblines)), (bsteps, .inr (8, [.int 960, .int 1, .ref bstepsc, .int (nI kbsteps)])), (bstepsc, .inl (G.2.1, 960, .inl fbsteps))]) hO hC hK hl hP hD hS hA (t_scan l G K tp9 tby kt tln tsp tkd ks kn tf9 fby tlnc kln ftln tspc ksp ftsp (by omega) (by omega) (by omega) (by omega) (by omega)) si_X11_227 [1, 2, 3, 4, 5, 6] [0, 7, 8, 9, 10, 11, 12, 13] rfl rfl (by decide) rfl (by decide) (by decide) rfl rfl rfl rfl rfl (Nat.le_of_ble_eq_true rfl) ⟨Nat.le_of_ble_eq_true rfl, Nat.le_of_ble_eq_true rfl⟩ ⟨Nat.le_of_ble_eq_true rfl, Nat.le_of_ble_eq_true rfl⟩ dX11_read_4 (fun r4061 u4062 H locs hr4061 hP hD hS => ?_)
  obtain ⟨kd14063, ks14064, kn14065, tf14066, kln14067, gtln4068, ksp14069, gtsp4070⟩ := u4062
  try dsimp only at hr4061
  have hP : va_P G.1 vwCl [(h0, .inr (11, [.ref bb, .ref kk, .int ikp, .ref sg, .ref do9, .ref ru9, .ref ta9, .ref tp9, .ref ro9, .ref ho9, .ref de9])), (bb, .inr (0, [.ref bpersons, .ref bpapers, .ref bstamps, .ref bversions, .ref blines, .ref bsteps, .ref bsayings, .ref bfindings, .ref bwarnings, .ref bquestions, .int td, .int vd, .int vl, .int gp])), (bversions, .inr (8, [.int 8, .int 3, .ref bversionsc, .int (nI kbversions)])), (bversionsc, .inl (G.2.1, 24, .inl fbversions)), (blines, .inr (8, [.int 72, .int 7, .ref blinesc, .int (nI kblines)])), (blinesc, .inl (G.2.1, 504, .inl fblines)), (bsteps, .inr (8, [.int 960, .int 1, .ref bstepsc, .int (nI kbsteps)])), (bstepsc, .inl (G.2.1, 960, .inl fbsteps)), (tp9, .inr (10, [.ref tby, .int (nI kt), .ref tln, .ref tsp, .int kd14063, .int (nI ks14064), .int (nI kn14065), .int tf14066])), (tby, .inl (G.2.1, 240, .inl fby)), (tln, .inr (8, [.int 9, .int 7, .ref tlnc, .int (nI kln14067)])), (tlnc, .inl (G.2.1, 63, .inl gtln4068)), (tsp, .inr (8, [.int 120, .int 1, .ref tspc, .int (nI ksp14069)])), (tspc, .inl (G.2.1, 120, .inl gtsp4070))] H := hP
  have hD : va_D A [(h0, .inr (11, [.ref bb, .ref kk, .int ikp, .ref sg, .ref do9, .ref ru9, .ref ta9, .ref tp9, .ref ro9, .ref ho9, .ref de9])), (bb, .inr (0, [.ref bpersons, .ref bpapers, .ref bstamps, .ref bversions, .ref blines, .ref bsteps, .ref bsayings, .ref bfindings, .ref bwarnings, .ref bquestions, .int td, .int vd, .int vl, .int gp])), (bversions, .inr (8, [.int 8, .int 3, .ref bversionsc, .int (nI kbversions)])), (bversionsc, .inl (G.2.1, 24, .inl fbversions)), (blines, .inr (8, [.int 72, .int 7, .ref blinesc, .int (nI kblines)])), (blinesc, .inl (G.2.1, 504, .inl fblines)), (bsteps, .inr (8, [.int 960, .int 1, .ref bstepsc, .int (nI kbsteps)])), (bstepsc, .inl (G.2.1, 960, .inl fbsteps)), (tp9, .inr (10, [.ref tby, .int (nI kt), .ref tln, .ref tsp, .int kd14063, .int (nI ks14064), .int (nI kn14065), .int tf14066])), (tby, .inl (G.2.1, 240, .inl fby)), (tln, .inr (8, [.int 9, .int 7, .ref tlnc, .int (nI kln14067)])), (tlnc, .inl (G.2.1, 63, .inl gtln4068)), (tsp, .inr (8, [.int 120, .int 1, .ref tspc, .int (nI ksp14069)])), (tspc, .inl (G.2.1, 120, .inl gtsp4070))] := hD
  obtain ⟨hr4061, w4071⟩ := hr4061
  refine lv_istore_n (lv' := [(1, .int r4061), (0, .ref h0)]) hx hb dX11_read_7 rfl hl (by decide) rfl (fun ls hl => ?_)
  refine lv_aload_n hx hb dX11_read_8 rfl (lv_at hl 1 rfl) ?_
  refine gf_X11_58 hC rfl hK hP 0 rfl rfl dX11_read_9 ?_
  refine vV (wr := [(h0, .inr (11, [.ref bb, .ref kk, .int ikp, .ref sg, .ref do9, .ref ru9, .ref ta9, .ref tp9, .ref ro9, .ref ho9, .ref de9])), (bb, .inr (0, [.ref bpersons, .ref bpapers, .ref bstamps, .ref bversions, .ref blines, .ref bsteps, .ref bsayings, .ref bfindings, .ref bwarnings, .ref bquestions, .int td, .int vd, .int vl, .int gp])), (bversions, .inr (8, [.int 8, .int 3, .ref bversionsc, .int (nI kbversions)])), (bversionsc, .inl (G.2.1, 24, .inl fbversions)), (blines, .inr (8, [.int 72, .int 7, .ref blinesc, .int (nI kblines)])), (blinesc, .inl (G.2.1, 504, .inl fblines)), (bsteps, .inr (8, [.int 960, .int 1, .ref bstepsc, .int (nI kbsteps)])), (bstepsc, .inl (G.2.1, 960, .inl fbsteps)), (tby, .inl (G.2.1, 240, .inl fby)), (tln, .inr (8, [.int 9, .int 7, .ref tlnc, .int (nI kln14067)])), (tlnc, .inl (G.2.1, 63, .inl gtln4068)), (tsp, .inr (8, [.int 120, .int 1, .ref tspc, .int (nI ksp14069)])), (tspc, .inl (G.2.1, 120, .inl gtsp4070))]) hC hK hl hP hD hS hA (t_clear l G tp9 tby kt tln tsp kd14063 (nI ks14064) (nI kn14065) tf14066) si_X11_230 [8] [0, 1, 2, 3, 4, 5, 6, 7, 9, 10, 11, 12, 13] rfl rfl (by decide) rfl (by decide) (by decide) rfl rfl rfl rfl rfl (Nat.le_of_ble_eq_true rfl) ⟨Nat.le_of_ble_eq_true rfl, Nat.le_of_ble_eq_true rfl⟩ ⟨Nat.le_of_ble_eq_true rfl, Nat.le_of_ble_eq_true rfl⟩ dX11_read_12 (fun u4073 H locs hr4072 hP hD hS => ?_)
  have hP : va_P G.1 vwCl [(h0, .inr (11, [.ref bb, .ref kk, .int ikp, .ref sg, .ref do9, .ref ru9, .ref ta9, .ref tp9, .ref ro9, .ref ho9, .ref de9])), (bb, .inr (0, [.ref bpersons, .ref bpapers, .ref bstamps, .ref bversions, .ref blines, .ref bsteps, .ref bsayings, .ref bfindings, .ref bwarnings, .ref bquestions, .int td, .int vd, .int vl, .int gp])), (bversions, .inr (8, [.int 8, .int 3, .ref bversionsc, .int (nI kbversions)])), (bversionsc, .inl (G.2.1, 24, .inl fbversions)), (blines, .inr (8, [.int 72, .int 7, .ref blinesc, .int (nI kblines)])), (blinesc, .inl (G.2.1, 504, .inl fblines)), (bsteps, .inr (8, [.int 960, .int 1, .ref bstepsc, .int (nI kbsteps)])), (bstepsc, .inl (G.2.1, 960, .inl fbsteps)), (tby, .inl (G.2.1, 240, .inl fby)), (tln, .inr (8, [.int 9, .int 7, .ref tlnc, .int (nI kln14067)])), (tlnc, .inl (G.2.1, 63, .inl gtln4068)), (tsp, .inr (8, [.int 120, .int 1, .ref tspc, .int (nI ksp14069)])), (tspc, .inl (G.2.1, 120, .inl gtsp4070)), (tp9, .inr (10, [.ref tby, .int 0, .ref tln, .ref tsp, .int kd14063, .int (nI ks14064), .int (nI kn14065), .int tf14066]))] H := hP
  have hD : va_D A [(h0, .inr (11, [.ref bb, .ref kk, .int ikp, .ref sg, .ref do9, .ref ru9, .ref ta9, .ref tp9, .ref ro9, .ref ho9, .ref de9])), (bb, .inr (0, [.ref bpersons, .ref bpapers, .ref bstamps, .ref bversions, .ref blines, .ref bsteps, .ref bsayings, .ref bfindings, .ref bwarnings, .ref bquestions, .int td, .int vd, .int vl, .int gp])), (bversions, .inr (8, [.int 8, .int 3, .ref bversionsc, .int (nI kbversions)])), (bversionsc, .inl (G.2.1, 24, .inl fbversions)), (blines, .inr (8, [.int 72, .int 7, .ref blinesc, .int (nI kblines)])), (blinesc, .inl (G.2.1, 504, .inl fblines)), (bsteps, .inr (8, [.int 960, .int 1, .ref bstepsc, .int (nI kbsteps)])), (bstepsc, .inl (G.2.1, 960, .inl fbsteps)), (tby, .inl (G.2.1, 240, .inl fby)), (tln, .inr (8, [.int 9, .int 7, .ref tlnc, .int (nI kln14067)])), (tlnc, .inl (G.2.1, 63, .inl gtln4068)), (tsp, .inr (8, [.int 120, .int 1, .ref tspc, .int (nI ksp14069)])), (tspc, .inl (G.2.1, 120, .inl gtsp4070)), (tp9, .inr (10, [.ref tby, .int 0, .ref tln, .ref tsp, .int kd14063, .int (nI ks14064), .int (nI kn14065), .int tf14066]))] := hD
  refine lv_iload_n hx hb dX11_read_15 rfl (lv_at hl 0 rfl) ?_
  refine lv_if_lt (tgt := 24) hx hb dX11_read_16 (by decide) (fun c_16_4074 => ?_) (fun c_16_4074 => ?_)
  · refine lv_aload_n hx hb dX11_read_24 rfl (lv_at hl 1 rfl) ?_
    refine gf_X11_15 hC rfl hK hP 0 rfl rfl dX11_read_25 ?_
    refine gf_X11_233 hC rfl hK hP 1 rfl rfl dX11_read_28 ?_
    refine pV hC hK hl hP hD (c_T_isFull l G bversions 8 3 bversionsc kbversions (by omega) (by omega)) si_X11_111 [2] rfl rfl (by decide) rfl rfl rfl rfl rfl (Nat.le_of_ble_eq_true rfl) ⟨Nat.le_of_ble_eq_true rfl, Nat.le_of_ble_eq_true rfl⟩ ⟨by first | exact Nat.le_of_ble_eq_true rfl | exact Nat.zero_le _, by first | exact Nat.le_of_ble_eq_true rfl | exact Nat.zero_le _⟩ dX11_read_31 (fun r4075 hr4075 => ?_)
    rcases hr4075 with ⟨rfl, a4076⟩ | ⟨rfl, a4076⟩
    · refine lv_if_eq (tgt := 40) hx hb dX11_read_34 (by decide) (fun c9 => absurd c9 (by decide)) (fun _ => ?_)
      refine lv_bipush (v := (-2)) hx hb dX11_read_37 (by decide) ?_
      exact RI (v := (-2)) hC hP hD hS [0, 13, 8, 9, 10, 11, 12, 1, 2, 3, 4, 5, 6, 7] (kd14063, ks14064, kn14065, tf14066, kln14067, gtln4068, ksp14069, gtsp4070, 0, kbversions, kblines, kbsteps, fbversions, fblines, fbsteps) rfl rfl (by decide) (⟨trivial, by dsimp only; omega⟩) rfl dX11_read_39
    · refine lv_if_eq (tgt := 40) hx hb dX11_read_34 (by decide) (fun _ => ?_) (fun c9 => absurd (by decide) c9)
      refine lv_aload_n hx hb dX11_read_40 rfl (lv_at hl 1 rfl) ?_
      refine gf_X11_58 hC rfl hK hP 0 rfl rfl dX11_read_41 ?_
      refine lv_aload_n hx hb dX11_read_44 rfl (lv_at hl 1 rfl) ?_
      refine gf_X11_15 hC rfl hK hP 0 rfl rfl dX11_read_45 ?_
      refine iV (wr := [(h0, .inr (11, [.ref bb, .ref kk, .int ikp, .ref sg, .ref do9, .ref ru9, .ref ta9, .ref tp9, .ref ro9, .ref ho9, .ref de9])), (tby, .inl (G.2.1, 240, .inl fby))]) hC hK hl hP hD hS hA (t_store l G tp9 bb tby 0 tln tsp kd14063 (nI ks14064) (nI kn14065) tf14066 tlnc kln14067 gtln4068 tspc ksp14069 gtsp4070 bpersons bpapers bstamps bversions blines bsteps bsayings bfindings bwarnings bquestions td vd vl gp bversionsc kbversions fbversions blinesc kblines fblines bstepsc kbsteps fbsteps (by omega) (by omega) (by omega) (by omega) (by omega)) si_X11_236 [13, 9, 10, 11, 12, 1, 2, 3, 4, 5, 6, 7] [0, 8] rfl rfl (by decide) rfl (by decide) (by decide) rfl rfl rfl rfl rfl (Nat.le_of_ble_eq_true rfl) ⟨Nat.le_of_ble_eq_true rfl, Nat.le_of_ble_eq_true rfl⟩ ⟨Nat.le_of_ble_eq_true rfl, Nat.le_of_ble_eq_true rfl⟩ dX11_read_48 (fun r4077 u4078 H locs hr4077 hP hD hS => ?_)
      obtain ⟨kv14079, kl14080, kp14081, gversions4082, glines4083, gsteps4084⟩ := u4078
      try dsimp only at hr4077
      have hP : va_P G.1 vwCl [(h0, .inr (11, [.ref bb, .ref kk, .int ikp, .ref sg, .ref do9, .ref ru9, .ref ta9, .ref tp9, .ref ro9, .ref ho9, .ref de9])), (tby, .inl (G.2.1, 240, .inl fby)), (tp9, .inr (10, [.ref tby, .int 0, .ref tln, .ref tsp, .int kd14063, .int (nI ks14064), .int (nI kn14065), .int tf14066])), (tln, .inr (8, [.int 9, .int 7, .ref tlnc, .int (nI kln14067)])), (tlnc, .inl (G.2.1, 63, .inl gtln4068)), (tsp, .inr (8, [.int 120, .int 1, .ref tspc, .int (nI ksp14069)])), (tspc, .inl (G.2.1, 120, .inl gtsp4070)), (bb, .inr (0, [.ref bpersons, .ref bpapers, .ref bstamps, .ref bversions, .ref blines, .ref bsteps, .ref bsayings, .ref bfindings, .ref bwarnings, .ref bquestions, .int td, .int vd, .int vl, .int gp])), (bversions, .inr (8, [.int 8, .int 3, .ref bversionsc, .int (nI kv14079)])), (bversionsc, .inl (G.2.1, 24, .inl gversions4082)), (blines, .inr (8, [.int 72, .int 7, .ref blinesc, .int (nI kl14080)])), (blinesc, .inl (G.2.1, 504, .inl glines4083)), (bsteps, .inr (8, [.int 960, .int 1, .ref bstepsc, .int (nI kp14081)])), (bstepsc, .inl (G.2.1, 960, .inl gsteps4084))] H := hP
      have hD : va_D A [(h0, .inr (11, [.ref bb, .ref kk, .int ikp, .ref sg, .ref do9, .ref ru9, .ref ta9, .ref tp9, .ref ro9, .ref ho9, .ref de9])), (tby, .inl (G.2.1, 240, .inl fby)), (tp9, .inr (10, [.ref tby, .int 0, .ref tln, .ref tsp, .int kd14063, .int (nI ks14064), .int (nI kn14065), .int tf14066])), (tln, .inr (8, [.int 9, .int 7, .ref tlnc, .int (nI kln14067)])), (tlnc, .inl (G.2.1, 63, .inl gtln4068)), (tsp, .inr (8, [.int 120, .int 1, .ref tspc, .int (nI ksp14069)])), (tspc, .inl (G.2.1, 120, .inl gtsp4070)), (bb, .inr (0, [.ref bpersons, .ref bpapers, .ref bstamps, .ref bversions, .ref blines, .ref bsteps, .ref bsayings, .ref bfindings, .ref bwarnings, .ref bquestions, .int td, .int vd, .int vl, .int gp])), (bversions, .inr (8, [.int 8, .int 3, .ref bversionsc, .int (nI kv14079)])), (bversionsc, .inl (G.2.1, 24, .inl gversions4082)), (blines, .inr (8, [.int 72, .int 7, .ref blinesc, .int (nI kl14080)])), (blinesc, .inl (G.2.1, 504, .inl glines4083)), (bsteps, .inr (8, [.int 960, .int 1, .ref bstepsc, .int (nI kp14081)])), (bstepsc, .inl (G.2.1, 960, .inl gsteps4084))] := hD
      obtain ⟨hr4077, w4085⟩ := hr4077
      exact RI (v := r4077) hC hP hD hS [0, 2, 1, 3, 4, 5, 6, 7, 8, 9, 10, 11, 12, 13] (kd14063, ks14064, kn14065, tf14066, kln14067, gtln4068, ksp14069, gtsp4070, 0, kv14079, kl14080, kp14081, gversions4082, glines4083, gsteps4084) rfl rfl (by decide) (⟨trivial, by dsimp only; omega⟩) rfl dX11_read_51
  · refine lv_bipush (v := (-100)) hx hb dX11_read_19 (by decide) ?_
    refine lv_iload_n hx hb dX11_read_21 rfl (lv_at hl 0 rfl) ?_
    refine lv_isub hx hb dX11_read_22 ?_
    exact RI (v := (-100) - r4061) hC hP hD hS [0, 13, 8, 9, 10, 11, 12, 1, 2, 3, 4, 5, 6, 7] (kd14063, ks14064, kn14065, tf14066, kln14067, gtln4068, ksp14069, gtsp4070, 0, kbversions, kblines, kbsteps, fbversions, fblines, fbsteps) rfl rfl (by decide) (⟨trivial, by dsimp only; omega⟩) rfl dX11_read_23
