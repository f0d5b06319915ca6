section WR
variable {p : Program} {l : Launch} {e : Env} {R : Room} {s : State} {m : MethodId} {args : Array Value} {below : List Frame} {meth : Method} {c : Code} {H : Heap} {locs : List Loc} {cells slots : Nat} {Q : State → Prop}
variable {pc : Nat} {ls : Array Slot} {rest : List Value} {G : GG} {ws : va_W} {A : Nat → Prop} {y0 : MethodName} {b0 : ByteArray} {mL0 : Nat} {rt0 : Option FieldType} {a : Nat} {H0 : Heap}
theorem dX10_takesHead_0 : decode cX10_takesHead 0 = .ok (.iload_n 2, 1) := by decide +kernel
theorem dX10_takesHead_1 : decode cX10_takesHead 1 = .ok (.tableswitch 131 0 2 #[27, 84, 93], 27) := by decide +kernel
theorem dX10_takesHead_28 : decode cX10_takesHead 28 = .ok (.aload_n 0, 1) := by decide +kernel
theorem dX10_takesHead_29 : decode cX10_takesHead 29 = .ok (.iload_n 1, 1) := by decide +kernel
theorem dX10_takesHead_30 : decode cX10_takesHead 30 = .ok (.iconst 1, 1) := by decide +kernel
theorem dX10_takesHead_31 : decode cX10_takesHead 31 = .ok (.bipush 99, 2) := by decide +kernel
theorem dX10_takesHead_33 : decode cX10_takesHead 33 = .ok (.invokevirtual 135, 3) := by decide +kernel
theorem m_853 : Cond.code yX10_takesNumber cX10_takesNumber 5 (some .boolean) ∈ BW := List.mem_of_getElem? (i := 853) (by decide +kernel)
theorem m_850 : Cond.methodLink RX10 135 yX10_takesNumber ∈ BW := List.mem_of_getElem? (i := 850) (by decide +kernel)
theorem m_851 : Cond.instanceMethod yX10_takesNumber ∈ BW := List.mem_of_getElem? (i := 851) (by decide +kernel)
theorem m_852 : Cond.selects RX10 yX10_takesNumber yX10_takesNumber ∈ BW := List.mem_of_getElem? (i := 852) (by decide +kernel)
theorem si_X10_135 : SV RX10 RX10 135 yX10_takesNumber cX10_takesNumber 5 (some .boolean) 3 := ⟨⟨m_850, m_851, m_852, m_37, m_853⟩, rfl, by decide +kernel, by decide +kernel, by decide +kernel⟩
theorem dX10_takesHead_36 : decode cX10_takesHead 36 = .ok (.ifCond .eq 47, 3) := by decide +kernel
theorem dX10_takesHead_39 : decode cX10_takesHead 39 = .ok (.aload_n 0, 1) := by decide +kernel
theorem dX10_takesHead_40 : decode cX10_takesHead 40 = .ok (.ldc 138, 2) := by decide +kernel
theorem dX10_takesHead_42 : decode cX10_takesHead 42 = .ok (.invokevirtual 140, 3) := by decide +kernel
theorem m_861 : Cond.code yX10_takesName cX10_takesName 2 (some .boolean) ∈ BW := List.mem_of_getElem? (i := 861) (by decide +kernel)
theorem m_858 : Cond.methodLink RX10 140 yX10_takesName ∈ BW := List.mem_of_getElem? (i := 858) (by decide +kernel)
theorem m_859 : Cond.instanceMethod yX10_takesName ∈ BW := List.mem_of_getElem? (i := 859) (by decide +kernel)
theorem m_860 : Cond.selects RX10 yX10_takesName yX10_takesName ∈ BW := List.mem_of_getElem? (i := 860) (by decide +kernel)
theorem si_X10_140 : SV RX10 RX10 140 yX10_takesName cX10_takesName 2 (some .boolean) 1 := ⟨⟨m_858, m_859, m_860, m_37, m_861⟩, rfl, by decide +kernel, by decide +kernel, by decide +kernel⟩
theorem dX10_takesHead_45 : decode cX10_takesHead 45 = .ok (.ifCond .eq 38, 3) := by decide +kernel
theorem dX10_takesHead_48 : decode cX10_takesHead 48 = .ok (.aload_n 0, 1) := by decide +kernel
theorem dX10_takesHead_49 : decode cX10_takesHead 49 = .ok (.iload_n 1, 1) := by decide +kernel
theorem dX10_takesHead_50 : decode cX10_takesHead 50 = .ok (.iconst 2, 1) := by decide +kernel
theorem dX10_takesHead_51 : decode cX10_takesHead 51 = .ok (.bipush 7, 2) := by decide +kernel
theorem dX10_takesHead_53 : decode cX10_takesHead 53 = .ok (.invokevirtual 135, 3) := by decide +kernel
theorem dX10_takesHead_56 : decode cX10_takesHead 56 = .ok (.ifCond .eq 27, 3) := by decide +kernel
theorem dX10_takesHead_59 : decode cX10_takesHead 59 = .ok (.aload_n 0, 1) := by decide +kernel
theorem dX10_takesHead_60 : decode cX10_takesHead 60 = .ok (.ldc 143, 2) := by decide +kernel
theorem dX10_takesHead_62 : decode cX10_takesHead 62 = .ok (.invokevirtual 140, 3) := by decide +kernel
theorem dX10_takesHead_65 : decode cX10_takesHead 65 = .ok (.ifCond .eq 18, 3) := by decide +kernel
theorem dX10_takesHead_68 : decode cX10_takesHead 68 = .ok (.aload_n 0, 1) := by decide +kernel
theorem dX10_takesHead_69 : decode cX10_takesHead 69 = .ok (.iload_n 1, 1) := by decide +kernel
theorem dX10_takesHead_70 : decode cX10_takesHead 70 = .ok (.iconst 3, 1) := by decide +kernel
theorem dX10_takesHead_71 : decode cX10_takesHead 71 = .ok (.bipush 7, 2) := by decide +kernel
theorem dX10_takesHead_73 : decode cX10_takesHead 73 = .ok (.invokevirtual 135, 3) := by decide +kernel
theorem dX10_takesHead_76 : decode cX10_takesHead 76 = .ok (.ifCond .eq 7, 3) := by decide +kernel
theorem dX10_takesHead_79 : decode cX10_takesHead 79 = .ok (.iconst 1, 1) := by decide +kernel
theorem dX10_takesHead_80 : decode cX10_takesHead 80 = .ok (.goto 4, 3) := by decide +kernel
theorem dX10_takesHead_84 : decode cX10_takesHead 84 = .ok (.ireturn, 1) := by decide +kernel
theorem dX10_takesHead_83 : decode cX10_takesHead 83 = .ok (.iconst 0, 1) := by decide +kernel
theorem dX10_takesHead_85 : decode cX10_takesHead 85 = .ok (.aload_n 0, 1) := by decide +kernel
theorem dX10_takesHead_86 : decode cX10_takesHead 86 = .ok (.iload_n 1, 1) := by decide +kernel
theorem dX10_takesHead_87 : decode cX10_takesHead 87 = .ok (.iconst 1, 1) := by decide +kernel
theorem dX10_takesHead_88 : decode cX10_takesHead 88 = .ok (.bipush 99, 2) := by decide +kernel
theorem dX10_takesHead_90 : decode cX10_takesHead 90 = .ok (.invokevirtual 135, 3) := by decide +kernel
theorem dX10_takesHead_93 : decode cX10_takesHead 93 = .ok (.ireturn, 1) := by decide +kernel
theorem dX10_takesHead_94 : decode cX10_takesHead 94 = .ok (.aload_n 0, 1) := by decide +kernel
theorem dX10_takesHead_95 : decode cX10_takesHead 95 = .ok (.iload_n 1, 1) := by decide +kernel
theorem dX10_takesHead_96 : decode cX10_takesHead 96 = .ok (.iconst 1, 1) := by decide +kernel
theorem dX10_takesHead_97 : decode cX10_takesHead 97 = .ok (.bipush 7, 2) := by decide +kernel
theorem dX10_takesHead_99 : decode cX10_takesHead 99 = .ok (.invokevirtual 135, 3) := by decide +kernel
theorem dX10_takesHead_102 : decode cX10_takesHead 102 = .ok (.ifCond .eq 28, 3) := by decide +kernel
theorem dX10_takesHead_105 : decode cX10_takesHead 105 = .ok (.aload_n 0, 1) := by decide +kernel
theorem dX10_takesHead_106 : decode cX10_takesHead 106 = .ok (.ldc 145, 2) := by decide +kernel
theorem dX10_takesHead_108 : decode cX10_takesHead 108 = .ok (.invokevirtual 140, 3) := by decide +kernel
theorem dX10_takesHead_111 : decode cX10_takesHead 111 = .ok (.ifCond .eq 19, 3) := by decide +kernel
theorem dX10_takesHead_114 : decode cX10_takesHead 114 = .ok (.aload_n 0, 1) := by decide +kernel
theorem dX10_takesHead_115 : decode cX10_takesHead 115 = .ok (.iload_n 1, 1) := by decide +kernel
theorem dX10_takesHead_116 : decode cX10_takesHead 116 = .ok (.iconst 2, 1) := by decide +kernel
theorem dX10_takesHead_117 : decode cX10_takesHead 117 = .ok (.sipush 999, 3) := by decide +kernel
theorem dX10_takesHead_120 : decode cX10_takesHead 120 = .ok (.invokevirtual 135, 3) := by decide +kernel
theorem dX10_takesHead_123 : decode cX10_takesHead 123 = .ok (.ifCond .eq 7, 3) := by decide +kernel
theorem dX10_takesHead_126 : decode cX10_takesHead 126 = .ok (.iconst 1, 1) := by decide +kernel
theorem dX10_takesHead_127 : decode cX10_takesHead 127 = .ok (.goto 4, 3) := by decide +kernel
theorem dX10_takesHead_131 : decode cX10_takesHead 131 = .ok (.ireturn, 1) := by decide +kernel
theorem dX10_takesHead_130 : decode cX10_takesHead 130 = .ok (.iconst 0, 1) := by decide +kernel
theorem sw_0_2 {x : Int32} : ¬ x = 0 → ¬ x = 1 → ¬ x = 2 →  (x.toInt < 0 ∨ 2 < x.toInt) := by
  intros
  simp only [← Int32.toInt_inj] at *
  have hk : ∀ k : Int, x.toInt = k → x.toInt = k := fun _ h => h
  have k0 : (0 : Int32).toInt = 0 := by decide
  have k1 : (1 : Int32).toInt = 1 := by decide
  have k2 : (2 : Int32).toInt = 2 := by decide
  omega
theorem dX10_takesHead_132 : decode cX10_takesHead 132 = .ok (.aload_n 0, 1) := by decide +kernel
theorem dX10_takesHead_133 : decode cX10_takesHead 133 = .ok (.iload_n 1, 1) := by decide +kernel
theorem dX10_takesHead_134 : decode cX10_takesHead 134 = .ok (.iconst 1, 1) := by decide +kernel
theorem dX10_takesHead_135 : decode cX10_takesHead 135 = .ok (.bipush 9, 2) := by decide +kernel
theorem dX10_takesHead_137 : decode cX10_takesHead 137 = .ok (.invokevirtual 135, 3) := by decide +kernel
theorem dX10_takesHead_140 : decode cX10_takesHead 140 = .ok (.ireturn, 1) := by decide +kernel
theorem dX10_takesLine_0 : decode cX10_takesLine 0 = .ok (.aload_n 0, 1) := by decide +kernel
theorem dX10_takesLine_1 : decode cX10_takesLine 1 = .ok (.getfield 20, 3) := by decide +kernel
theorem dX10_takesLine_4 : decode cX10_takesLine 4 = .ok (.invokevirtual 59, 3) := by decide +kernel
theorem dX10_takesLine_7 : decode cX10_takesLine 7 = .ok (.istore_n 1, 1) := by decide +kernel
theorem dX10_takesLine_8 : decode cX10_takesLine 8 = .ok (.iload_n 1, 1) := by decide +kernel
theorem dX10_takesLine_9 : decode cX10_takesLine 9 = .ok (.ifCond .ge 8, 3) := by decide +kernel
theorem dX10_takesLine_17 : decode cX10_takesLine 17 = .ok (.iconst 1, 1) := by decide +kernel
theorem dX10_takesLine_18 : decode cX10_takesLine 18 = .ok (.istore_n 2, 1) := by decide +kernel
theorem dX10_takesLine_19 : decode cX10_takesLine 19 = .ok (.iload_n 2, 1) := by decide +kernel
theorem dX10_takesLine_20 : decode cX10_takesLine 20 = .ok (.iconst 3, 1) := by decide +kernel
theorem dX10_takesLine_21 : decode cX10_takesLine 21 = .ok (.if_icmp .gt 20, 3) := by decide +kernel
theorem dX10_takesLine_24 : decode cX10_takesLine 24 = .ok (.aload_n 0, 1) := by decide +kernel
theorem dX10_takesLine_25 : decode cX10_takesLine 25 = .ok (.getfield 20, 3) := by decide +kernel
theorem dX10_takesLine_28 : decode cX10_takesLine 28 = .ok (.iload_n 1, 1) := by decide +kernel
theorem dX10_takesLine_29 : decode cX10_takesLine 29 = .ok (.iload_n 2, 1) := by decide +kernel
theorem dX10_takesLine_30 : decode cX10_takesLine 30 = .ok (.bipush (-9), 2) := by decide +kernel
theorem dX10_takesLine_32 : decode cX10_takesLine 32 = .ok (.invokevirtual 66, 3) := by decide +kernel
theorem dX10_takesLine_35 : decode cX10_takesLine 35 = .ok (.iinc 2 1, 3) := by decide +kernel
theorem dX10_takesLine_38 : decode cX10_takesLine 38 = .ok (.goto (-19), 3) := by decide +kernel
theorem dX10_takesLine_41 : decode cX10_takesLine 41 = .ok (.aload_n 0, 1) := by decide +kernel
theorem dX10_takesLine_42 : decode cX10_takesLine 42 = .ok (.getfield 20, 3) := by decide +kernel
theorem dX10_takesLine_45 : decode cX10_takesLine 45 = .ok (.iload_n 1, 1) := by decide +kernel
theorem dX10_takesLine_46 : decode cX10_takesLine 46 = .ok (.iconst 4, 1) := by decide +kernel
theorem dX10_takesLine_47 : decode cX10_takesLine 47 = .ok (.iconst 0, 1) := by decide +kernel
theorem dX10_takesLine_48 : decode cX10_takesLine 48 = .ok (.invokevirtual 66, 3) := by decide +kernel
theorem dX10_takesLine_51 : decode cX10_takesLine 51 = .ok (.aload_n 0, 1) := by decide +kernel
theorem dX10_takesLine_52 : decode cX10_takesLine 52 = .ok (.getfield 20, 3) := by decide +kernel
theorem dX10_takesLine_55 : decode cX10_takesLine 55 = .ok (.iload_n 1, 1) := by decide +kernel
theorem dX10_takesLine_56 : decode cX10_takesLine 56 = .ok (.iconst 5, 1) := by decide +kernel
theorem dX10_takesLine_57 : decode cX10_takesLine 57 = .ok (.aload_n 0, 1) := by decide +kernel
theorem dX10_takesLine_58 : decode cX10_takesLine 58 = .ok (.getfield 24, 3) := by decide +kernel
theorem dX10_takesLine_61 : decode cX10_takesLine 61 = .ok (.invokevirtual 71, 3) := by decide +kernel
theorem m_788 : Cond.methodLink RX10 71 yX8_count ∈ BW := List.mem_of_getElem? (i := 788) (by decide +kernel)
theorem si_X10_71 : SV RX10 RX8 71 yX8_count cX8_count 1 (some .int) 0 := ⟨⟨m_788, m_235, m_236, m_56, m_237⟩, rfl, by decide +kernel, by decide +kernel, by decide +kernel⟩
theorem dX10_takesLine_64 : decode cX10_takesLine 64 = .ok (.invokevirtual 66, 3) := by decide +kernel
theorem dX10_takesLine_67 : decode cX10_takesLine 67 = .ok (.aload_n 0, 1) := by decide +kernel
theorem dX10_takesLine_68 : decode cX10_takesLine 68 = .ok (.getfield 20, 3) := by decide +kernel
theorem dX10_takesLine_71 : decode cX10_takesLine 71 = .ok (.iload_n 1, 1) := by decide +kernel
theorem dX10_takesLine_72 : decode cX10_takesLine 72 = .ok (.bipush 6, 2) := by decide +kernel
theorem dX10_takesLine_74 : decode cX10_takesLine 74 = .ok (.iconst 0, 1) := by decide +kernel
theorem dX10_takesLine_75 : decode cX10_takesLine 75 = .ok (.invokevirtual 66, 3) := by decide +kernel
theorem dX10_takesLine_78 : decode cX10_takesLine 78 = .ok (.aload_n 0, 1) := by decide +kernel
theorem dX10_takesLine_79 : decode cX10_takesLine 79 = .ok (.invokevirtual 112, 3) := by decide +kernel
theorem m_792 : Cond.code yX10_sortHere cX10_sortHere 1 (some .int) ∈ BW := List.mem_of_getElem? (i := 792) (by decide +kernel)
theorem m_789 : Cond.methodLink RX10 112 yX10_sortHere ∈ BW := List.mem_of_getElem? (i := 789) (by decide +kernel)
theorem m_790 : Cond.instanceMethod yX10_sortHere ∈ BW := List.mem_of_getElem? (i := 790) (by decide +kernel)
theorem m_791 : Cond.selects RX10 yX10_sortHere yX10_sortHere ∈ BW := List.mem_of_getElem? (i := 791) (by decide +kernel)
theorem si_X10_112 : SV RX10 RX10 112 yX10_sortHere cX10_sortHere 1 (some .int) 0 := ⟨⟨m_789, m_790, m_791, m_37, m_792⟩, rfl, by decide +kernel, by decide +kernel, by decide +kernel⟩
theorem dX10_takesLine_82 : decode cX10_takesLine 82 = .ok (.istore_n 2, 1) := by decide +kernel
theorem dX10_takesLine_83 : decode cX10_takesLine 83 = .ok (.iload_n 2, 1) := by decide +kernel
theorem dX10_takesLine_84 : decode cX10_takesLine 84 = .ok (.ifCond .ge 8, 3) := by decide +kernel
theorem dX10_takesLine_92 : decode cX10_takesLine 92 = .ok (.aload_n 0, 1) := by decide +kernel
theorem dX10_takesLine_93 : decode cX10_takesLine 93 = .ok (.getfield 20, 3) := by decide +kernel
theorem dX10_takesLine_96 : decode cX10_takesLine 96 = .ok (.iload_n 1, 1) := by decide +kernel
theorem dX10_takesLine_97 : decode cX10_takesLine 97 = .ok (.iconst 0, 1) := by decide +kernel
theorem dX10_takesLine_98 : decode cX10_takesLine 98 = .ok (.iload_n 2, 1) := by decide +kernel
theorem dX10_takesLine_99 : decode cX10_takesLine 99 = .ok (.invokevirtual 66, 3) := by decide +kernel
theorem dX10_takesLine_102 : decode cX10_takesLine 102 = .ok (.aload_n 0, 1) := by decide +kernel
theorem dX10_takesLine_103 : decode cX10_takesLine 103 = .ok (.invokevirtual 47, 3) := by decide +kernel
theorem dX10_takesLine_106 : decode cX10_takesLine 106 = .ok (.aload_n 0, 1) := by decide +kernel
theorem dX10_takesLine_107 : decode cX10_takesLine 107 = .ok (.iload_n 1, 1) := by decide +kernel
theorem dX10_takesLine_108 : decode cX10_takesLine 108 = .ok (.iload_n 2, 1) := by decide +kernel
theorem dX10_takesLine_109 : decode cX10_takesLine 109 = .ok (.invokevirtual 115, 3) := by decide +kernel
theorem m_849 : Cond.code yX10_takesHead cX10_takesHead 3 (some .boolean) ∈ BW := List.mem_of_getElem? (i := 849) (by decide +kernel)
theorem m_846 : Cond.methodLink RX10 115 yX10_takesHead ∈ BW := List.mem_of_getElem? (i := 846) (by decide +kernel)
theorem m_847 : Cond.instanceMethod yX10_takesHead ∈ BW := List.mem_of_getElem? (i := 847) (by decide +kernel)
theorem m_848 : Cond.selects RX10 yX10_takesHead yX10_takesHead ∈ BW := List.mem_of_getElem? (i := 848) (by decide +kernel)
theorem si_X10_115 : SV RX10 RX10 115 yX10_takesHead cX10_takesHead 3 (some .boolean) 2 := ⟨⟨m_846, m_847, m_848, m_37, m_849⟩, rfl, by decide +kernel, by decide +kernel, by decide +kernel⟩
theorem dX10_takesLine_112 : decode cX10_takesLine 112 = .ok (.ifCond .ne 5, 3) := by decide +kernel
theorem dX10_takesLine_117 : decode cX10_takesLine 117 = .ok (.iload_n 2, 1) := by decide +kernel
theorem dX10_takesLine_118 : decode cX10_takesLine 118 = .ok (.iconst 3, 1) := by decide +kernel
theorem dX10_takesLine_119 : decode cX10_takesLine 119 = .ok (.if_icmp .eq 63, 3) := by decide +kernel
theorem dX10_takesLine_182 : decode cX10_takesLine 182 = .ok (.aload_n 0, 1) := by decide +kernel
theorem dX10_takesLine_183 : decode cX10_takesLine 183 = .ok (.bipush 59, 2) := by decide +kernel
theorem dX10_takesLine_185 : decode cX10_takesLine 185 = .ok (.invokevirtual 124, 3) := by decide +kernel
theorem dX10_takesLine_188 : decode cX10_takesLine 188 = .ok (.ireturn, 1) := by decide +kernel
theorem dX10_takesLine_122 : decode cX10_takesLine 122 = .ok (.aload_n 0, 1) := by decide +kernel
theorem dX10_takesLine_123 : decode cX10_takesLine 123 = .ok (.ldc 119, 2) := by decide +kernel
theorem dX10_takesLine_125 : decode cX10_takesLine 125 = .ok (.invokevirtual 102, 3) := by decide +kernel
theorem dX10_takesLine_128 : decode cX10_takesLine 128 = .ok (.ifCond .eq 54, 3) := by decide +kernel
theorem dX10_takesLine_131 : decode cX10_takesLine 131 = .ok (.aload_n 0, 1) := by decide +kernel
theorem dX10_takesLine_132 : decode cX10_takesLine 132 = .ok (.invokevirtual 47, 3) := by decide +kernel
theorem dX10_takesLine_135 : decode cX10_takesLine 135 = .ok (.aload_n 0, 1) := by decide +kernel
theorem dX10_takesLine_136 : decode cX10_takesLine 136 = .ok (.getfield 20, 3) := by decide +kernel
theorem dX10_takesLine_139 : decode cX10_takesLine 139 = .ok (.iload_n 1, 1) := by decide +kernel
theorem dX10_takesLine_140 : decode cX10_takesLine 140 = .ok (.iconst 4, 1) := by decide +kernel
theorem dX10_takesLine_141 : decode cX10_takesLine 141 = .ok (.iconst 1, 1) := by decide +kernel
theorem dX10_takesLine_142 : decode cX10_takesLine 142 = .ok (.invokevirtual 66, 3) := by decide +kernel
theorem dX10_takesLine_145 : decode cX10_takesLine 145 = .ok (.aload_n 0, 1) := by decide +kernel
theorem dX10_takesLine_146 : decode cX10_takesLine 146 = .ok (.iconst 0, 1) := by decide +kernel
theorem dX10_takesLine_147 : decode cX10_takesLine 147 = .ok (.invokevirtual 121, 3) := by decide +kernel
theorem dX10_takesLine_150 : decode cX10_takesLine 150 = .ok (.ifCond .ne 5, 3) := by decide +kernel
theorem dX10_takesLine_155 : decode cX10_takesLine 155 = .ok (.aload_n 0, 1) := by decide +kernel
theorem dX10_takesLine_156 : decode cX10_takesLine 156 = .ok (.getfield 20, 3) := by decide +kernel
theorem dX10_takesLine_159 : decode cX10_takesLine 159 = .ok (.iload_n 1, 1) := by decide +kernel
theorem dX10_takesLine_160 : decode cX10_takesLine 160 = .ok (.bipush 6, 2) := by decide +kernel
theorem dX10_takesLine_162 : decode cX10_takesLine 162 = .ok (.aload_n 0, 1) := by decide +kernel
theorem dX10_takesLine_163 : decode cX10_takesLine 163 = .ok (.getfield 24, 3) := by decide +kernel
theorem dX10_takesLine_166 : decode cX10_takesLine 166 = .ok (.invokevirtual 71, 3) := by decide +kernel
theorem dX10_takesLine_169 : decode cX10_takesLine 169 = .ok (.aload_n 0, 1) := by decide +kernel
theorem dX10_takesLine_170 : decode cX10_takesLine 170 = .ok (.getfield 20, 3) := by decide +kernel
theorem dX10_takesLine_173 : decode cX10_takesLine 173 = .ok (.iload_n 1, 1) := by decide +kernel
theorem dX10_takesLine_174 : decode cX10_takesLine 174 = .ok (.iconst 5, 1) := by decide +kernel
theorem dX10_takesLine_175 : decode cX10_takesLine 175 = .ok (.invokevirtual 74, 3) := by decide +kernel
theorem m_894 : Cond.methodLink RX10 74 yX8_at ∈ BW := List.mem_of_getElem? (i := 894) (by decide +kernel)
theorem si_X10_74 : SV RX10 RX8 74 yX8_at cX8_at 3 (some .int) 2 := ⟨⟨m_894, m_239, m_240, m_56, m_241⟩, rfl, by decide +kernel, by decide +kernel, by decide +kernel⟩
theorem dX10_takesLine_178 : decode cX10_takesLine 178 = .ok (.isub, 1) := by decide +kernel
theorem dX10_takesLine_179 : decode cX10_takesLine 179 = .ok (.invokevirtual 66, 3) := by decide +kernel
theorem dX10_takesLine_153 : decode cX10_takesLine 153 = .ok (.iconst 0, 1) := by decide +kernel
theorem dX10_takesLine_154 : decode cX10_takesLine 154 = .ok (.ireturn, 1) := by decide +kernel
theorem dX10_takesLine_115 : decode cX10_takesLine 115 = .ok (.iconst 0, 1) := by decide +kernel
theorem dX10_takesLine_116 : decode cX10_takesLine 116 = .ok (.ireturn, 1) := by decide +kernel
theorem dX10_takesLine_87 : decode cX10_takesLine 87 = .ok (.aload_n 0, 1) := by decide +kernel
theorem dX10_takesLine_88 : decode cX10_takesLine 88 = .ok (.invokevirtual 106, 3) := by decide +kernel
theorem dX10_takesLine_91 : decode cX10_takesLine 91 = .ok (.ireturn, 1) := by decide +kernel
theorem dX10_takesLine_12 : decode cX10_takesLine 12 = .ok (.aload_n 0, 1) := by decide +kernel
theorem dX10_takesLine_13 : decode cX10_takesLine 13 = .ok (.invokevirtual 106, 3) := by decide +kernel
theorem dX10_takesLine_16 : decode cX10_takesLine 16 = .ok (.ireturn, 1) := by decide +kernel
theorem dX10_scan_0 : decode cX10_scan 0 = .ok (.aload_n 0, 1) := by decide +kernel
theorem dX10_scan_1 : decode cX10_scan 1 = .ok (.getfield 20, 3) := by decide +kernel
theorem dX10_scan_4 : decode cX10_scan 4 = .ok (.iconst 0, 1) := by decide +kernel
theorem dX10_scan_5 : decode cX10_scan 5 = .ok (.invokevirtual 43, 3) := by decide +kernel
theorem m_760 : Cond.methodLink RX10 43 yX8_cut ∈ BW := List.mem_of_getElem? (i := 760) (by decide +kernel)
theorem si_X10_43 : SV RX10 RX8 43 yX8_cut cX8_cut 2 none 1 := ⟨⟨m_760, m_761, m_762, m_56, m_763⟩, rfl, by decide +kernel, by decide +kernel, by decide +kernel⟩
theorem dX10_scan_8 : decode cX10_scan 8 = .ok (.aload_n 0, 1) := by decide +kernel
theorem dX10_scan_9 : decode cX10_scan 9 = .ok (.getfield 24, 3) := by decide +kernel
theorem dX10_scan_12 : decode cX10_scan 12 = .ok (.iconst 0, 1) := by decide +kernel
theorem dX10_scan_13 : decode cX10_scan 13 = .ok (.invokevirtual 43, 3) := by decide +kernel
theorem dX10_scan_16 : decode cX10_scan 16 = .ok (.aload_n 0, 1) := by decide +kernel
theorem dX10_scan_17 : decode cX10_scan 17 = .ok (.iconst (-1), 1) := by decide +kernel
theorem dX10_scan_18 : decode cX10_scan 18 = .ok (.putfield 40, 3) := by decide +kernel
theorem dX10_scan_21 : decode cX10_scan 21 = .ok (.aload_n 0, 1) := by decide +kernel
theorem dX10_scan_22 : decode cX10_scan 22 = .ok (.iconst 0, 1) := by decide +kernel
theorem dX10_scan_23 : decode cX10_scan 23 = .ok (.putfield 37, 3) := by decide +kernel
theorem dX10_scan_26 : decode cX10_scan 26 = .ok (.aload_n 0, 1) := by decide +kernel
theorem dX10_scan_27 : decode cX10_scan 27 = .ok (.invokevirtual 47, 3) := by decide +kernel
theorem dX10_scan_30 : decode cX10_scan 30 = .ok (.iconst 0, 1) := by decide +kernel
theorem dX10_scan_31 : decode cX10_scan 31 = .ok (.istore_n 1, 1) := by decide +kernel
theorem dX10_scan_32 : decode cX10_scan 32 = .ok (.iload_n 1, 1) := by decide +kernel
theorem dX10_scan_33 : decode cX10_scan 33 = .ok (.bipush 9, 2) := by decide +kernel
theorem dX10_scan_35 : decode cX10_scan 35 = .ok (.if_icmp .gt 29, 3) := by decide +kernel
theorem dX10_scan_64 : decode cX10_scan 64 = .ok (.aload_n 0, 1) := by decide +kernel
theorem dX10_scan_65 : decode cX10_scan 65 = .ok (.getfield 40, 3) := by decide +kernel
theorem gf_X10_40 (hC : CX p s m meth c y0 b0 mL0 rt0 args) (hy0 : y0.cls = RX10) (hK : KK G s) (hP : va_P G.1 vwCl ws H) (q0 : Nat) {fs : List Value} {v : Value} (he : ws[q0]? = some (a, .inr (10, fs))) (hv : fs[7]? = some v) (hdg : decode b0 pc = .ok (.getfield 40, 3)) (kk : W p l e R s m args below meth c H locs cells slots Q (F0 m (pc + 3) ls (v :: rest))) : W p l e R s m args below meth c H locs cells slots Q (F0 m pc ls (.ref a :: rest)) := by
  obtain ⟨hx, hb, hr, hml, hB, hown, hlocks, hnm⟩ := hC
  rw [hy0] at hown
  exact va_get (ci := 10) (C := RX10) (T := TX10) (N := 8) hx hb hB in_X10 hown hK.1 hP q0 he rfl 7 (by decide) (hB _ m_147) (fun _ h => h) hv hdg kk
theorem dX10_scan_68 : decode cX10_scan 68 = .ok (.ireturn, 1) := by decide +kernel
theorem dX10_scan_38 : decode cX10_scan 38 = .ok (.aload_n 0, 1) := by decide +kernel
theorem dX10_scan_39 : decode cX10_scan 39 = .ok (.getfield 31, 3) := by decide +kernel
theorem dX10_scan_42 : decode cX10_scan 42 = .ok (.iconst (-1), 1) := by decide +kernel
theorem dX10_scan_43 : decode cX10_scan 43 = .ok (.if_icmp .eq 21, 3) := by decide +kernel
theorem dX10_scan_46 : decode cX10_scan 46 = .ok (.aload_n 0, 1) := by decide +kernel
theorem dX10_scan_47 : decode cX10_scan 47 = .ok (.invokevirtual 50, 3) := by decide +kernel
theorem m_781 : Cond.code yX10_takesLine cX10_takesLine 3 (some .boolean) ∈ BW := List.mem_of_getElem? (i := 781) (by decide +kernel)
theorem m_778 : Cond.methodLink RX10 50 yX10_takesLine ∈ BW := List.mem_of_getElem? (i := 778) (by decide +kernel)
theorem m_779 : Cond.instanceMethod yX10_takesLine ∈ BW := List.mem_of_getElem? (i := 779) (by decide +kernel)
theorem m_780 : Cond.selects RX10 yX10_takesLine yX10_takesLine ∈ BW := List.mem_of_getElem? (i := 780) (by decide +kernel)
theorem si_X10_50 : SV RX10 RX10 50 yX10_takesLine cX10_takesLine 3 (some .boolean) 0 := ⟨⟨m_778, m_779, m_780, m_37, m_781⟩, rfl, by decide +kernel, by decide +kernel, by decide +kernel⟩
theorem dX10_scan_50 : decode cX10_scan 50 = .ok (.ifCond .ne 8, 3) := by decide +kernel
theorem dX10_scan_58 : decode cX10_scan 58 = .ok (.iinc 1 1, 3) := by decide +kernel
theorem dX10_scan_61 : decode cX10_scan 61 = .ok (.goto (-29), 3) := by decide +kernel
theorem dX10_scan_53 : decode cX10_scan 53 = .ok (.aload_n 0, 1) := by decide +kernel
theorem dX10_scan_54 : decode cX10_scan 54 = .ok (.getfield 40, 3) := by decide +kernel
theorem dX10_scan_57 : decode cX10_scan 57 = .ok (.ireturn, 1) := by decide +kernel
theorem dX10_store_0 : decode cX10_store 0 = .ok (.aload_n 1, 1) := by decide +kernel
theorem dX10_store_1 : decode cX10_store 1 = .ok (.getfield 54, 3) := by decide +kernel
theorem nm_13 : Cond.fieldLinkNest RX10 54 RX0 "versions" "LInquiryBench$Table;" RX11 ∈ NestW := List.mem_of_getElem? (i := 13) (by decide +kernel)
theorem gf_X10_54 (hC : CX p s m meth c y0 b0 mL0 rt0 args) (hy0 : y0.cls = RX10) (hK : KK G s) (hP : va_P G.1 vwCl ws H) (q0 : Nat) {fs : List Value} {v : Value} (he : ws[q0]? = some (a, .inr (0, fs))) (hv : fs[3]? = some v) (hdg : decode b0 pc = .ok (.getfield 54, 3)) (kk : W p l e R s m args below meth c H locs cells slots Q (F0 m (pc + 3) ls (v :: rest))) : W p l e R s m args below meth c H locs cells slots Q (F0 m pc ls (.ref a :: rest)) := by
  obtain ⟨hx, hb, hr, hml, hB, hown, hlocks, hnm⟩ := hC
  rw [hy0] at hown
  exact va_getN (ci := 0) (C := RX0) (T := TX0) (N := 14) hx hb hB in_X0 hown hK.1 hP q0 he rfl 3 (by decide) (va_Nw.use rfl (hK.2.1 _ nm_13)) (fun _ h => h) hv hdg kk
theorem dX10_store_4 : decode cX10_store 4 = .ok (.invokevirtual 59, 3) := by decide +kernel
theorem dX10_store_7 : decode cX10_store 7 = .ok (.istore_n 2, 1) := by decide +kernel
theorem dX10_store_8 : decode cX10_store 8 = .ok (.aload_n 1, 1) := by decide +kernel
theorem dX10_store_9 : decode cX10_store 9 = .ok (.getfield 54, 3) := by decide +kernel
theorem dX10_store_12 : decode cX10_store 12 = .ok (.iload_n 2, 1) := by decide +kernel
theorem dX10_store_13 : decode cX10_store 13 = .ok (.iconst 0, 1) := by decide +kernel
theorem dX10_store_14 : decode cX10_store 14 = .ok (.aload_n 1, 1) := by decide +kernel
theorem dX10_store_15 : decode cX10_store 15 = .ok (.getfield 63, 3) := by decide +kernel
theorem nm_32 : Cond.fieldLinkNest RX10 63 RX0 "today" "I" RX11 ∈ NestW := List.mem_of_getElem? (i := 32) (by decide +kernel)
theorem gf_X10_63 (hC : CX p s m meth c y0 b0 mL0 rt0 args) (hy0 : y0.cls = RX10) (hK : KK G s) (hP : va_P G.1 vwCl ws H) (q0 : Nat) {fs : List Value} {v : Value} (he : ws[q0]? = some (a, .inr (0, fs))) (hv : fs[10]? = some v) (hdg : decode b0 pc = .ok (.getfield 63, 3)) (kk : W p l e R s m args below meth c H locs cells slots Q (F0 m (pc + 3) ls (v :: rest))) : W p l e R s m args below meth c H locs cells slots Q (F0 m pc ls (.ref a :: rest)) := by
  obtain ⟨hx, hb, hr, hml, hB, hown, hlocks, hnm⟩ := hC
  rw [hy0] at hown
  exact va_getN (ci := 0) (C := RX0) (T := TX0) (N := 14) hx hb hB in_X0 hown hK.1 hP q0 he rfl 10 (by decide) (va_Nw.use rfl (hK.2.1 _ nm_32)) (fun _ h => h) hv hdg kk
theorem dX10_store_18 : decode cX10_store 18 = .ok (.invokevirtual 66, 3) := by decide +kernel
theorem dX10_store_21 : decode cX10_store 21 = .ok (.aload_n 1, 1) := by decide +kernel
theorem dX10_store_22 : decode cX10_store 22 = .ok (.getfield 54, 3) := by decide +kernel
theorem dX10_store_25 : decode cX10_store 25 = .ok (.iload_n 2, 1) := by decide +kernel
theorem dX10_store_26 : decode cX10_store 26 = .ok (.iconst 1, 1) := by decide +kernel
theorem dX10_store_27 : decode cX10_store 27 = .ok (.aload_n 1, 1) := by decide +kernel
theorem dX10_store_28 : decode cX10_store 28 = .ok (.getfield 70, 3) := by decide +kernel
theorem nm_16 : Cond.fieldLinkNest RX10 70 RX0 "lines" "LInquiryBench$Table;" RX11 ∈ NestW := List.mem_of_getElem? (i := 16) (by decide +kernel)
theorem gf_X10_70 (hC : CX p s m meth c y0 b0 mL0 rt0 args) (hy0 : y0.cls = RX10) (hK : KK G s) (hP : va_P G.1 vwCl ws H) (q0 : Nat) {fs : List Value} {v : Value} (he : ws[q0]? = some (a, .inr (0, fs))) (hv : fs[4]? = some v) (hdg : decode b0 pc = .ok (.getfield 70, 3)) (kk : W p l e R s m args below meth c H locs cells slots Q (F0 m (pc + 3) ls (v :: rest))) : W p l e R s m args below meth c H locs cells slots Q (F0 m pc ls (.ref a :: rest)) := by
  obtain ⟨hx, hb, hr, hml, hB, hown, hlocks, hnm⟩ := hC
  rw [hy0] at hown
  exact va_getN (ci := 0) (C := RX0) (T := TX0) (N := 14) hx hb hB in_X0 hown hK.1 hP q0 he rfl 4 (by decide) (va_Nw.use rfl (hK.2.1 _ nm_16)) (fun _ h => h) hv hdg kk
theorem dX10_store_31 : decode cX10_store 31 = .ok (.invokevirtual 71, 3) := by decide +kernel
theorem dX10_store_34 : decode cX10_store 34 = .ok (.invokevirtual 66, 3) := by decide +kernel
theorem dX10_store_37 : decode cX10_store 37 = .ok (.aload_n 1, 1) := by decide +kernel
theorem dX10_store_38 : decode cX10_store 38 = .ok (.getfield 54, 3) := by decide +kernel
theorem dX10_store_41 : decode cX10_store 41 = .ok (.iload_n 2, 1) := by decide +kernel
theorem dX10_store_42 : decode cX10_store 42 = .ok (.iconst 2, 1) := by decide +kernel
theorem dX10_store_43 : decode cX10_store 43 = .ok (.aload_n 0, 1) := by decide +kernel
theorem dX10_store_44 : decode cX10_store 44 = .ok (.getfield 20, 3) := by decide +kernel
theorem dX10_store_47 : decode cX10_store 47 = .ok (.invokevirtual 71, 3) := by decide +kernel
theorem dX10_store_50 : decode cX10_store 50 = .ok (.invokevirtual 66, 3) := by decide +kernel
theorem dX10_store_53 : decode cX10_store 53 = .ok (.aload_n 1, 1) := by decide +kernel
theorem dX10_store_54 : decode cX10_store 54 = .ok (.getfield 73, 3) := by decide +kernel
theorem nm_19 : Cond.fieldLinkNest RX10 73 RX0 "steps" "LInquiryBench$Table;" RX11 ∈ NestW := List.mem_of_getElem? (i := 19) (by decide +kernel)
theorem gf_X10_73 (hC : CX p s m meth c y0 b0 mL0 rt0 args) (hy0 : y0.cls = RX10) (hK : KK G s) (hP : va_P G.1 vwCl ws H) (q0 : Nat) {fs : List Value} {v : Value} (he : ws[q0]? = some (a, .inr (0, fs))) (hv : fs[5]? = some v) (hdg : decode b0 pc = .ok (.getfield 73, 3)) (kk : W p l e R s m args below meth c H locs cells slots Q (F0 m (pc + 3) ls (v :: rest))) : W p l e R s m args below meth c H locs cells slots Q (F0 m pc ls (.ref a :: rest)) := by
  obtain ⟨hx, hb, hr, hml, hB, hown, hlocks, hnm⟩ := hC
  rw [hy0] at hown
  exact va_getN (ci := 0) (C := RX0) (T := TX0) (N := 14) hx hb hB in_X0 hown hK.1 hP q0 he rfl 5 (by decide) (va_Nw.use rfl (hK.2.1 _ nm_19)) (fun _ h => h) hv hdg kk
theorem dX10_store_57 : decode cX10_store 57 = .ok (.invokevirtual 71, 3) := by decide +kernel
theorem dX10_store_60 : decode cX10_store 60 = .ok (.istore_n 3, 1) := by decide +kernel
theorem dX10_store_61 : decode cX10_store 61 = .ok (.iconst 0, 1) := by decide +kernel
theorem dX10_store_62 : decode cX10_store 62 = .ok (.istore 4, 2) := by decide +kernel
theorem dX10_store_64 : decode cX10_store 64 = .ok (.iload 4, 2) := by decide +kernel
theorem dX10_store_66 : decode cX10_store 66 = .ok (.aload_n 0, 1) := by decide +kernel
theorem dX10_store_67 : decode cX10_store 67 = .ok (.getfield 20, 3) := by decide +kernel
theorem dX10_store_70 : decode cX10_store 70 = .ok (.invokevirtual 71, 3) := by decide +kernel
theorem dX10_store_73 : decode cX10_store 73 = .ok (.if_icmp .ge 78, 3) := by decide +kernel
theorem dX10_store_151 : decode cX10_store 151 = .ok (.iconst 0, 1) := by decide +kernel
theorem dX10_store_152 : decode cX10_store 152 = .ok (.istore 4, 2) := by decide +kernel
theorem dX10_store_154 : decode cX10_store 154 = .ok (.iload 4, 2) := by decide +kernel
theorem dX10_store_156 : decode cX10_store 156 = .ok (.aload_n 0, 1) := by decide +kernel
theorem dX10_store_157 : decode cX10_store 157 = .ok (.getfield 24, 3) := by decide +kernel
theorem dX10_store_160 : decode cX10_store 160 = .ok (.invokevirtual 71, 3) := by decide +kernel
theorem dX10_store_163 : decode cX10_store 163 = .ok (.if_icmp .ge 34, 3) := by decide +kernel
theorem dX10_store_197 : decode cX10_store 197 = .ok (.iload_n 2, 1) := by decide +kernel
theorem dX10_store_198 : decode cX10_store 198 = .ok (.ireturn, 1) := by decide +kernel
theorem dX10_store_166 : decode cX10_store 166 = .ok (.aload_n 1, 1) := by decide +kernel
theorem dX10_store_167 : decode cX10_store 167 = .ok (.getfield 73, 3) := by decide +kernel
theorem dX10_store_170 : decode cX10_store 170 = .ok (.aload_n 1, 1) := by decide +kernel
theorem dX10_store_171 : decode cX10_store 171 = .ok (.getfield 73, 3) := by decide +kernel
theorem dX10_store_174 : decode cX10_store 174 = .ok (.invokevirtual 59, 3) := by decide +kernel
theorem dX10_store_177 : decode cX10_store 177 = .ok (.iconst 0, 1) := by decide +kernel
theorem dX10_store_178 : decode cX10_store 178 = .ok (.aload_n 0, 1) := by decide +kernel
theorem dX10_store_179 : decode cX10_store 179 = .ok (.getfield 24, 3) := by decide +kernel
theorem dX10_store_182 : decode cX10_store 182 = .ok (.iload 4, 2) := by decide +kernel
theorem dX10_store_184 : decode cX10_store 184 = .ok (.iconst 0, 1) := by decide +kernel
theorem dX10_store_185 : decode cX10_store 185 = .ok (.invokevirtual 74, 3) := by decide +kernel
theorem dX10_store_188 : decode cX10_store 188 = .ok (.invokevirtual 66, 3) := by decide +kernel
theorem dX10_store_191 : decode cX10_store 191 = .ok (.iinc 4 1, 3) := by decide +kernel
theorem dX10_store_194 : decode cX10_store 194 = .ok (.goto (-40), 3) := by decide +kernel
theorem dX10_store_76 : decode cX10_store 76 = .ok (.aload_n 1, 1) := by decide +kernel
theorem dX10_store_77 : decode cX10_store 77 = .ok (.getfield 70, 3) := by decide +kernel
theorem dX10_store_80 : decode cX10_store 80 = .ok (.invokevirtual 59, 3) := by decide +kernel
theorem dX10_store_83 : decode cX10_store 83 = .ok (.istore 5, 2) := by decide +kernel
theorem dX10_store_85 : decode cX10_store 85 = .ok (.iconst 0, 1) := by decide +kernel
theorem dX10_store_86 : decode cX10_store 86 = .ok (.istore 6, 2) := by decide +kernel
theorem dX10_store_88 : decode cX10_store 88 = .ok (.iload 6, 2) := by decide +kernel
theorem dX10_store_90 : decode cX10_store 90 = .ok (.bipush 6, 2) := by decide +kernel
theorem dX10_store_92 : decode cX10_store 92 = .ok (.if_icmp .gt 31, 3) := by decide +kernel
theorem dX10_store_95 : decode cX10_store 95 = .ok (.aload_n 1, 1) := by decide +kernel
theorem dX10_store_96 : decode cX10_store 96 = .ok (.getfield 70, 3) := by decide +kernel
theorem dX10_store_99 : decode cX10_store 99 = .ok (.iload 5, 2) := by decide +kernel
theorem dX10_store_101 : decode cX10_store 101 = .ok (.iload 6, 2) := by decide +kernel
theorem dX10_store_103 : decode cX10_store 103 = .ok (.aload_n 0, 1) := by decide +kernel
theorem dX10_store_104 : decode cX10_store 104 = .ok (.getfield 20, 3) := by decide +kernel
theorem dX10_store_107 : decode cX10_store 107 = .ok (.iload 4, 2) := by decide +kernel
theorem dX10_store_109 : decode cX10_store 109 = .ok (.iload 6, 2) := by decide +kernel
theorem dX10_store_111 : decode cX10_store 111 = .ok (.invokevirtual 74, 3) := by decide +kernel
theorem dX10_store_114 : decode cX10_store 114 = .ok (.invokevirtual 66, 3) := by decide +kernel
theorem dX10_store_117 : decode cX10_store 117 = .ok (.iinc 6 1, 3) := by decide +kernel
theorem dX10_store_120 : decode cX10_store 120 = .ok (.goto (-32), 3) := by decide +kernel
theorem dX10_store_123 : decode cX10_store 123 = .ok (.aload_n 1, 1) := by decide +kernel
theorem dX10_store_124 : decode cX10_store 124 = .ok (.getfield 70, 3) := by decide +kernel
theorem dX10_store_127 : decode cX10_store 127 = .ok (.iload 5, 2) := by decide +kernel
theorem dX10_store_129 : decode cX10_store 129 = .ok (.iconst 5, 1) := by decide +kernel
theorem dX10_store_130 : decode cX10_store 130 = .ok (.aload_n 0, 1) := by decide +kernel
theorem dX10_store_131 : decode cX10_store 131 = .ok (.getfield 20, 3) := by decide +kernel
theorem dX10_store_134 : decode cX10_store 134 = .ok (.iload 4, 2) := by decide +kernel
theorem dX10_store_136 : decode cX10_store 136 = .ok (.iconst 5, 1) := by decide +kernel
theorem dX10_store_137 : decode cX10_store 137 = .ok (.invokevirtual 74, 3) := by decide +kernel
theorem dX10_store_140 : decode cX10_store 140 = .ok (.iload_n 3, 1) := by decide +kernel
theorem dX10_store_141 : decode cX10_store 141 = .ok (.iadd, 1) := by decide +kernel
theorem dX10_store_142 : decode cX10_store 142 = .ok (.invokevirtual 66, 3) := by decide +kernel
theorem dX10_store_145 : decode cX10_store 145 = .ok (.iinc 4 1, 3) := by decide +kernel
theorem dX10_store_148 : decode cX10_store 148 = .ok (.goto (-84), 3) := by decide +kernel
theorem dX11_read_0 : decode cX11_read 0 = .ok (.aload_n 0, 1) := by decide +kernel
theorem dX11_read_1 : decode cX11_read 1 = .ok (.getfield 58, 3) := by decide +kernel
theorem dX11_read_4 : decode cX11_read 4 = .ok (.invokevirtual 227, 3) := by decide +kernel
theorem m_759 : Cond.code yX10_scan cX10_scan 2 (some .int) ∈ BW := List.mem_of_getElem? (i := 759) (by decide +kernel)
theorem m_756 : Cond.methodLink RX11 227 yX10_scan ∈ BW := List.mem_of_getElem? (i := 756) (by decide +kernel)
theorem m_757 : Cond.instanceMethod yX10_scan ∈ BW := List.mem_of_getElem? (i := 757) (by decide +kernel)
theorem m_758 : Cond.selects RX10 yX10_scan yX10_scan ∈ BW := List.mem_of_getElem? (i := 758) (by decide +kernel)
theorem si_X11_227 : SV RX11 RX10 227 yX10_scan cX10_scan 2 (some .int) 0 := ⟨⟨m_756, m_757, m_758, m_37, m_759⟩, rfl, by decide +kernel, by decide +kernel, by decide +kernel⟩
theorem dX11_read_7 : decode cX11_read 7 = .ok (.istore_n 1, 1) := by decide +kernel
theorem dX11_read_8 : decode cX11_read 8 = .ok (.aload_n 0, 1) := by decide +kernel
theorem dX11_read_9 : decode cX11_read 9 = .ok (.getfield 58, 3) := by decide +kernel
theorem dX11_read_12 : decode cX11_read 12 = .ok (.invokevirtual 230, 3) := by decide +kernel
theorem m_898 : Cond.code yX10_clear cX10_clear 1 none ∈ BW := List.mem_of_getElem? (i := 898) (by decide +kernel)
theorem m_895 : Cond.methodLink RX11 230 yX10_clear ∈ BW := List.mem_of_getElem? (i := 895) (by decide +kernel)
theorem m_896 : Cond.instanceMethod yX10_clear ∈ BW := List.mem_of_getElem? (i := 896) (by decide +kernel)
theorem m_897 : Cond.selects RX10 yX10_clear yX10_clear ∈ BW := List.mem_of_getElem? (i := 897) (by decide +kernel)
theorem si_X11_230 : SV RX11 RX10 230 yX10_clear cX10_clear 1 none 0 := ⟨⟨m_895, m_896, m_897, m_37, m_898⟩, rfl, by decide +kernel, by decide +kernel, by decide +kernel⟩
theorem dX11_read_15 : decode cX11_read 15 = .ok (.iload_n 1, 1) := by decide +kernel
theorem dX11_read_16 : decode cX11_read 16 = .ok (.ifCond .lt 8, 3) := by decide +kernel
theorem dX11_read_24 : decode cX11_read 24 = .ok (.aload_n 0, 1) := by decide +kernel
theorem dX11_read_25 : decode cX11_read 25 = .ok (.getfield 15, 3) := by decide +kernel
theorem dX11_read_28 : decode cX11_read 28 = .ok (.getfield 233, 3) := by decide +kernel
theorem dX11_read_31 : decode cX11_read 31 = .ok (.invokevirtual 111, 3) := by decide +kernel
theorem dX11_read_34 : decode cX11_read 34 = .ok (.ifCond .eq 6, 3) := by decide +kernel
theorem dX11_read_37 : decode cX11_read 37 = .ok (.bipush (-2), 2) := by decide +kernel
theorem dX11_read_39 : decode cX11_read 39 = .ok (.ireturn, 1) := by decide +kernel
theorem dX11_read_40 : decode cX11_read 40 = .ok (.aload_n 0, 1) := by decide +kernel
theorem dX11_read_41 : decode cX11_read 41 = .ok (.getfield 58, 3) := by decide +kernel
theorem dX11_read_44 : decode cX11_read 44 = .ok (.aload_n 0, 1) := by decide +kernel
theorem dX11_read_45 : decode cX11_read 45 = .ok (.getfield 15, 3) := by decide +kernel
theorem dX11_read_48 : decode cX11_read 48 = .ok (.invokevirtual 236, 3) := by decide +kernel
theorem m_902 : Cond.code yX10_store cX10_store 7 (some .int) ∈ BW := List.mem_of_getElem? (i := 902) (by decide +kernel)
theorem m_899 : Cond.methodLink RX11 236 yX10_store ∈ BW := List.mem_of_getElem? (i := 899) (by decide +kernel)
theorem m_900 : Cond.instanceMethod yX10_store ∈ BW := List.mem_of_getElem? (i := 900) (by decide +kernel)
theorem m_901 : Cond.selects RX10 yX10_store yX10_store ∈ BW := List.mem_of_getElem? (i := 901) (by decide +kernel)
theorem si_X11_236 : SV RX11 RX10 236 yX10_store cX10_store 7 (some .int) 1 := ⟨⟨m_899, m_900, m_901, m_37, m_902⟩, rfl, by decide +kernel, by decide +kernel, by decide +kernel⟩
theorem dX11_read_51 : decode cX11_read 51 = .ok (.ireturn, 1) := by decide +kernel
theorem dX11_read_19 : decode cX11_read 19 = .ok (.bipush (-100), 2) := by decide +kernel
theorem dX11_read_21 : decode cX11_read 21 = .ok (.iload_n 1, 1) := by decide +kernel
theorem dX11_read_22 : decode cX11_read 22 = .ok (.isub, 1) := by decide +kernel
theorem dX11_read_23 : decode cX11_read 23 = .ok (.ireturn, 1) := by decide +kernel
end WR
set_option maxHeartbeats 4000000 in
set_option maxRecDepth 100000 in
theorem t_takesHead (l : Launch) (G : GG) (K : OO) (h0 : Nat) (li : Int32) (so : Int32) (tby : Nat) (kt : Nat) (tln : Nat) (tsp : Nat) (tkd : Int32) (ks : Nat) (kn : Nat) (tf9 : Int32) (fby : Nat → Int32) (tlnc : Nat) (kln : Nat) (ftln : Nat → Int32) (hkt : kt ≤ 240) (hks : ks ≤ 240) (hkn : kn ≤ 240) (hkln : kln ≤ 9) : MIo l G K yX10_takesHead cX10_takesHead 3 (some .boolean) 8 0 0 [.ref h0, .int li, .int so] [(h0, .inr (10, [.ref tby, .int (nI kt), .ref tln, .ref tsp, .int tkd, .int (nI ks), .int (nI kn), .int tf9])), (tby, .inl (G.2.1, 240, .inl fby)), (tln, .inr (8, [.int 9, .int 7, .ref tlnc, .int (nI kln)])), (tlnc, .inl (G.2.1, 63, .inl ftln))] (fun (r : Int32) (u : Int32 × Nat × Nat × Int32 × (Nat → Int32)) => (r = 1 ∨ r = 0) ∧ (u.2.1 ≤ 240 ∧ u.2.2.1 ≤ 240)) (fun u : Int32 × Nat × Nat × Int32 × (Nat → Int32) => [(h0, .inr (10, [.ref tby, .int (nI kt), .ref tln, .ref tsp, .int u.1, .int (nI u.2.1), .int (nI u.2.2.1), .int u.2.2.2.1])), (tby, .inl (G.2.1, 240, .inl fby)), (tln, .inr (8, [.int 9, .int 7, .ref tlnc, .int (nI kln)])), (tlnc, .inl (G.2.1, 63, .inl u.2.2.2.2))]) := by
  refine MIo.start (by decide +kernel) (Nat.le_of_ble_eq_true rfl) ?_
  intro p e s m below meth c A ls hC hK hP hD hS hA hl hO
  have hl : lv_has ls 3 [(0, .ref h0), (1, .int li), (2, .int so)] := hl
  obtain ⟨hx, hb, hr, hml, hB, hown, hlocks, hnm⟩ := id hC
  refine lv_iload_n hx hb dX10_takesHead_0 rfl (lv_at hl 2 rfl) ?_
  by_cases c_1_3560 : so = 0
  · refine lv_tableIn (tgt := 28) hx hb dX10_takesHead_1 (by rw [c_1_3560]; decide) (by rw [c_1_3560]; decide) (by rw [c_1_3560]; rfl) (by decide) ?_
    refine lv_aload_n hx hb dX10_takesHead_28 rfl (lv_at hl 0 rfl) ?_
    refine lv_iload_n hx hb dX10_takesHead_29 rfl (lv_at hl 1 rfl) ?_
    refine lv_iconst (v := 1) hx hb dX10_takesHead_30 (by decide) ?_
    refine lv_bipush (v := 99) hx hb dX10_takesHead_31 (by decide) ?_
    refine iV (wr := []) hC hK hl hP hD hS hA (t_takesNumber l G h0 li 1 99 tby kt tln tsp tkd ks kn tf9 fby tlnc kln ftln (by omega) (by omega) (by omega) (by omega)) si_X10_135 [0, 1, 2, 3] [] rfl rfl (by decide) rfl (by decide) (by decide) rfl rfl rfl rfl rfl (Nat.le_of_ble_eq_true rfl) ⟨Nat.le_of_ble_eq_true rfl, Nat.le_of_ble_eq_true rfl⟩ ⟨Nat.le_of_ble_eq_true rfl, Nat.le_of_ble_eq_true rfl⟩ dX10_takesHead_33 (fun r3561 u3562 H locs hr3561 hP hD hS => ?_)
    obtain ⟨kd13563, ks13564, kn13565, tf13566, gtln3567⟩ := u3562
    try dsimp only at hr3561
    have hP : va_P G.1 vwCl [(h0, .inr (10, [.ref tby, .int (nI kt), .ref tln, .ref tsp, .int kd13563, .int (nI ks13564), .int (nI kn13565), .int tf13566])), (tby, .inl (G.2.1, 240, .inl fby)), (tln, .inr (8, [.int 9, .int 7, .ref tlnc, .int (nI kln)])), (tlnc, .inl (G.2.1, 63, .inl gtln3567))] H := hP
    have hD : va_D A [(h0, .inr (10, [.ref tby, .int (nI kt), .ref tln, .ref tsp, .int kd13563, .int (nI ks13564), .int (nI kn13565), .int tf13566])), (tby, .inl (G.2.1, 240, .inl fby)), (tln, .inr (8, [.int 9, .int 7, .ref tlnc, .int (nI kln)])), (tlnc, .inl (G.2.1, 63, .inl gtln3567))] := hD
    obtain ⟨hr3561, w3568⟩ := hr3561
    rcases hr3561 with rfl | rfl
    · refine lv_if_eq (tgt := 83) hx hb dX10_takesHead_36 (by decide) (fun c9 => absurd c9 (by decide)) (fun _ => ?_)
      refine lv_aload_n hx hb dX10_takesHead_39 rfl (lv_at hl 0 rfl) ?_
      refine va_ldcS (index := 138) (tx := "of") hx hb hown (hO.2.1 5 (by decide)) dX10_takesHead_40 ?_
      refine iVo (wr := [(tln, .inr (8, [.int 9, .int 7, .ref tlnc, .int (nI kln)])), (tlnc, .inl (G.2.1, 63, .inl gtln3567))]) hO hC hK hl hP hD hS hA (t_takesName l G K 5 h0 tby kt tln tsp kd13563 ks13564 kn13565 tf13566 fby (by omega) (by omega) (by omega) ((by decide))) si_X10_140 [0, 1] [2, 3] rfl rfl (by decide) rfl (by decide) (by decide) rfl rfl rfl rfl rfl (Nat.le_of_ble_eq_true rfl) ⟨Nat.le_of_ble_eq_true rfl, Nat.le_of_ble_eq_true rfl⟩ ⟨Nat.le_of_ble_eq_true rfl, Nat.le_of_ble_eq_true rfl⟩ dX10_takesHead_42 (fun r3570 u3571 H locs hr3570 hP hD hS => ?_)
      obtain ⟨kd13572, ks13573, kn13574, tf13575⟩ := u3571
      try dsimp only at hr3570
      have hP : va_P G.1 vwCl [(tln, .inr (8, [.int 9, .int 7, .ref tlnc, .int (nI kln)])), (tlnc, .inl (G.2.1, 63, .inl gtln3567)), (h0, .inr (10, [.ref tby, .int (nI kt), .ref tln, .ref tsp, .int kd13572, .int (nI ks13573), .int (nI kn13574), .int tf13575])), (tby, .inl (G.2.1, 240, .inl fby))] H := hP
      have hD : va_D A [(tln, .inr (8, [.int 9, .int 7, .ref tlnc, .int (nI kln)])), (tlnc, .inl (G.2.1, 63, .inl gtln3567)), (h0, .inr (10, [.ref tby, .int (nI kt), .ref tln, .ref tsp, .int kd13572, .int (nI ks13573), .int (nI kn13574), .int tf13575])), (tby, .inl (G.2.1, 240, .inl fby))] := hD
      obtain ⟨hr3570, w3576⟩ := hr3570
      rcases hr3570 with rfl | rfl
      · refine lv_if_eq (tgt := 83) hx hb dX10_takesHead_45 (by decide) (fun c9 => absurd c9 (by decide)) (fun _ => ?_)
        refine lv_aload_n hx hb dX10_takesHead_48 rfl (lv_at hl 0 rfl) ?_
        refine lv_iload_n hx hb dX10_takesHead_49 rfl (lv_at hl 1 rfl) ?_
        refine lv_iconst (v := 2) hx hb dX10_takesHead_50 (by decide) ?_
        refine lv_bipush (v := 7) hx hb dX10_takesHead_51 (by decide) ?_
        refine iV (wr := []) hC hK hl hP hD hS hA (t_takesNumber l G h0 li 2 7 tby kt tln tsp kd13572 ks13573 kn13574 tf13575 fby tlnc kln gtln3567 (by omega) (by omega) (by omega) (by omega)) si_X10_135 [2, 3, 0, 1] [] rfl rfl (by decide) rfl (by decide) (by decide) rfl rfl rfl rfl rfl (Nat.le_of_ble_eq_true rfl) ⟨Nat.le_of_ble_eq_true rfl, Nat.le_of_ble_eq_true rfl⟩ ⟨Nat.le_of_ble_eq_true rfl, Nat.le_of_ble_eq_true rfl⟩ dX10_takesHead_53 (fun r3578 u3579 H locs hr3578 hP hD hS => ?_)
        obtain ⟨kd13580, ks13581, kn13582, tf13583, gtln3584⟩ := u3579
        try dsimp only at hr3578
        have hP : va_P G.1 vwCl [(h0, .inr (10, [.ref tby, .int (nI kt), .ref tln, .ref tsp, .int kd13580, .int (nI ks13581), .int (nI kn13582), .int tf13583])), (tby, .inl (G.2.1, 240, .inl fby)), (tln, .inr (8, [.int 9, .int 7, .ref tlnc, .int (nI kln)])), (tlnc, .inl (G.2.1, 63, .inl gtln3584))] H := hP
        have hD : va_D A [(h0, .inr (10, [.ref tby, .int (nI kt), .ref tln, .ref tsp, .int kd13580, .int (nI ks13581), .int (nI kn13582), .int tf13583])), (tby, .inl (G.2.1, 240, .inl fby)), (tln, .inr (8, [.int 9, .int 7, .ref tlnc, .int (nI kln)])), (tlnc, .inl (G.2.1, 63, .inl gtln3584))] := hD
        obtain ⟨hr3578, w3585⟩ := hr3578
        rcases hr3578 with rfl | rfl
        · refine lv_if_eq (tgt := 83) hx hb dX10_takesHead_56 (by decide) (fun c9 => absurd c9 (by decide)) (fun _ => ?_)
          refine lv_aload_n hx hb dX10_takesHead_59 rfl (lv_at hl 0 rfl) ?_
          refine va_ldcS (index := 143) (tx := "from") hx hb hown (hO.2.1 6 (by decide)) dX10_takesHead_60 ?_
          refine iVo (wr := [(tln, .inr (8, [.int 9, .int 7, .ref tlnc, .int (nI kln)])), (tlnc, .inl (G.2.1, 63, .inl gtln3584))]) hO hC hK hl hP hD hS hA (t_takesName l G K 6 h0 tby kt tln tsp kd13580 ks13581 kn13582 tf13583 fby (by omega) (by omega) (by omega) ((by decide))) si_X10_140 [0, 1] [2, 3] rfl rfl (by decide) rfl (by decide) (by decide) rfl rfl rfl rfl rfl (Nat.le_of_ble_eq_true rfl) ⟨Nat.le_of_ble_eq_true rfl, Nat.le_of_ble_eq_true rfl⟩ ⟨Nat.le_of_ble_eq_true rfl, Nat.le_of_ble_eq_true rfl⟩ dX10_takesHead_62 (fun r3587 u3588 H locs hr3587 hP hD hS => ?_)
          obtain ⟨kd13589, ks13590, kn13591, tf13592⟩ := u3588
          try dsimp only at hr3587
          have hP : va_P G.1 vwCl [(tln, .inr (8, [.int 9, .int 7, .ref tlnc, .int (nI kln)])), (tlnc, .inl (G.2.1, 63, .inl gtln3584)), (h0, .inr (10, [.ref tby, .int (nI kt), .ref tln, .ref tsp, .int kd13589, .int (nI ks13590), .int (nI kn13591), .int tf13592])), (tby, .inl (G.2.1, 240, .inl fby))] H := hP
          have hD : va_D A [(tln, .inr (8, [.int 9, .int 7, .ref tlnc, .int (nI kln)])), (tlnc, .inl (G.2.1, 63, .inl gtln3584)), (h0, .inr (10, [.ref tby, .int (nI kt), .ref tln, .ref tsp, .int kd13589, .int (nI ks13590), .int (nI kn13591), .int tf13592])), (tby, .inl (G.2.1, 240, .inl fby))] := hD
          obtain ⟨hr3587, w3593⟩ := hr3587
          rcases hr3587 with rfl | rfl
          · refine lv_if_eq (tgt := 83) hx hb dX10_takesHead_65 (by decide) (fun c9 => absurd c9 (by decide)) (fun _ => ?_)
            refine lv_aload_n hx hb dX10_takesHead_68 rfl (lv_at hl 0 rfl) ?_
            refine lv_iload_n hx hb dX10_takesHead_69 rfl (lv_at hl 1 rfl) ?_
            refine lv_iconst (v := 3) hx hb dX10_takesHead_70 (by decide) ?_
            refine lv_bipush (v := 7) hx hb dX10_takesHead_71 (by decide) ?_
            refine iV (wr := []) hC hK hl hP hD hS hA (t_takesNumber l G h0 li 3 7 tby kt tln tsp kd13589 ks13590 kn13591 tf13592 fby tlnc kln gtln3584 (by omega) (by omega) (by omega) (by omega)) si_X10_135 [2, 3, 0, 1] [] rfl rfl (by decide) rfl (by decide) (by decide) rfl rfl rfl rfl rfl (Nat.le_of_ble_eq_true rfl) ⟨Nat.le_of_ble_eq_true rfl, Nat.le_of_ble_eq_true rfl⟩ ⟨Nat.le_of_ble_eq_true rfl, Nat.le_of_ble_eq_true rfl⟩ dX10_takesHead_73 (fun r3595 u3596 H locs hr3595 hP hD hS => ?_)
            obtain ⟨kd13597, ks13598, kn13599, tf13600, gtln3601⟩ := u3596
            try dsimp only at hr3595
            have hP : va_P G.1 vwCl [(h0, .inr (10, [.ref tby, .int (nI kt), .ref tln, .ref tsp, .int kd13597, .int (nI ks13598), .int (nI kn13599), .int tf13600])), (tby, .inl (G.2.1, 240, .inl fby)), (tln, .inr (8, [.int 9, .int 7, .ref tlnc, .int (nI kln)])), (tlnc, .inl (G.2.1, 63, .inl gtln3601))] H := hP
            have hD : va_D A [(h0, .inr (10, [.ref tby, .int (nI kt), .ref tln, .ref tsp, .int kd13597, .int (nI ks13598), .int (nI kn13599), .int tf13600])), (tby, .inl (G.2.1, 240, .inl fby)), (tln, .inr (8, [.int 9, .int 7, .ref tlnc, .int (nI kln)])), (tlnc, .inl (G.2.1, 63, .inl gtln3601))] := hD
            obtain ⟨hr3595, w3602⟩ := hr3595
            rcases hr3595 with rfl | rfl
            · refine lv_if_eq (tgt := 83) hx hb dX10_takesHead_76 (by decide) (fun c9 => absurd c9 (by decide)) (fun _ => ?_)
              refine lv_iconst (v := 1) hx hb dX10_takesHead_79 (by decide) ?_
              refine lv_goto (tgt := 84) hx hb dX10_takesHead_80 (by decide) ?_
              exact RI (v := 1) hC hP hD hS [0, 1, 2, 3] (kd13597, ks13598, kn13599, tf13600, gtln3601) rfl rfl (by decide) (⟨Or.inl (rfl), by dsimp only; omega⟩) (by decide +kernel) dX10_takesHead_84
            · refine lv_if_eq (tgt := 83) hx hb dX10_takesHead_76 (by decide) (fun _ => ?_) (fun c9 => absurd (by decide) c9)
              refine lv_iconst (v := 0) hx hb dX10_takesHead_83 (by decide) ?_
              exact RI (v := 0) hC hP hD hS [0, 1, 2, 3] (kd13597, ks13598, kn13599, tf13600, gtln3601) rfl rfl (by decide) (⟨Or.inr (rfl), by dsimp only; omega⟩) (by decide +kernel) dX10_takesHead_84
          · refine lv_if_eq (tgt := 83) hx hb dX10_takesHead_65 (by decide) (fun _ => ?_) (fun c9 => absurd (by decide) c9)
            refine lv_iconst (v := 0) hx hb dX10_takesHead_83 (by decide) ?_
            exact RI (v := 0) hC hP hD hS [2, 3, 0, 1] (kd13589, ks13590, kn13591, tf13592, gtln3584) rfl rfl (by decide) (⟨Or.inr (rfl), by dsimp only; omega⟩) (by decide +kernel) dX10_takesHead_84
        · refine lv_if_eq (tgt := 83) hx hb dX10_takesHead_56 (by decide) (fun _ => ?_) (fun c9 => absurd (by decide) c9)
          refine lv_iconst (v := 0) hx hb dX10_takesHead_83 (by decide) ?_
          exact RI (v := 0) hC hP hD hS [0, 1, 2, 3] (kd13580, ks13581, kn13582, tf13583, gtln3584) rfl rfl (by decide) (⟨Or.inr (rfl), by dsimp only; omega⟩) (by decide +kernel) dX10_takesHead_84
      · refine lv_if_eq (tgt := 83) hx hb dX10_takesHead_45 (by decide) (fun _ => ?_) (fun c9 => absurd (by decide) c9)
        refine lv_iconst (v := 0) hx hb dX10_takesHead_83 (by decide) ?_
        exact RI (v := 0) hC hP hD hS [2, 3, 0, 1] (kd13572, ks13573, kn13574, tf13575, gtln3567) rfl rfl (by decide) (⟨Or.inr (rfl), by dsimp only; omega⟩) (by decide +kernel) dX10_takesHead_84
    · refine lv_if_eq (tgt := 83) hx hb dX10_takesHead_36 (by decide) (fun _ => ?_) (fun c9 => absurd (by decide) c9)
      refine lv_iconst (v := 0) hx hb dX10_takesHead_83 (by decide) ?_
      exact RI (v := 0) hC hP hD hS [0, 1, 2, 3] (kd13563, ks13564, kn13565, tf13566, gtln3567) rfl rfl (by decide) (⟨Or.inr (rfl), by dsimp only; omega⟩) (by decide +kernel) dX10_takesHead_84
  by_cases c_1_3604 : so = 1
  · refine lv_tableIn (tgt := 85) hx hb dX10_takesHead_1 (by rw [c_1_3604]; decide) (by rw [c_1_3604]; decide) (by rw [c_1_3604]; rfl) (by decide) ?_
    refine lv_aload_n hx hb dX10_takesHead_85 rfl (lv_at hl 0 rfl) ?_
    refine lv_iload_n hx hb dX10_takesHead_86 rfl (lv_at hl 1 rfl) ?_
    refine lv_iconst (v := 1) hx hb dX10_takesHead_87 (by decide) ?_
    refine lv_bipush (v := 99) hx hb dX10_takesHead_88 (by decide) ?_
    refine iV (wr := []) hC hK hl hP hD hS hA (t_takesNumber l G h0 li 1 99 tby kt tln tsp tkd ks kn tf9 fby tlnc kln ftln (by omega) (by omega) (by omega) (by omega)) si_X10_135 [0, 1, 2, 3] [] rfl rfl (by decide) rfl (by decide) (by decide) rfl rfl rfl rfl rfl (Nat.le_of_ble_eq_true rfl) ⟨Nat.le_of_ble_eq_true rfl, Nat.le_of_ble_eq_true rfl⟩ ⟨Nat.le_of_ble_eq_true rfl, Nat.le_of_ble_eq_true rfl⟩ dX10_takesHead_90 (fun r3605 u3606 H locs hr3605 hP hD hS => ?_)
    obtain ⟨kd13607, ks13608, kn13609, tf13610, gtln3611⟩ := u3606
    try dsimp only at hr3605
    have hP : va_P G.1 vwCl [(h0, .inr (10, [.ref tby, .int (nI kt), .ref tln, .ref tsp, .int kd13607, .int (nI ks13608), .int (nI kn13609), .int tf13610])), (tby, .inl (G.2.1, 240, .inl fby)), (tln, .inr (8, [.int 9, .int 7, .ref tlnc, .int (nI kln)])), (tlnc, .inl (G.2.1, 63, .inl gtln3611))] H := hP
    have hD : va_D A [(h0, .inr (10, [.ref tby, .int (nI kt), .ref tln, .ref tsp, .int kd13607, .int (nI ks13608), .int (nI kn13609), .int tf13610])), (tby, .inl (G.2.1, 240, .inl fby)), (tln, .inr (8, [.int 9, .int 7, .ref tlnc, .int (nI kln)])), (tlnc, .inl (G.2.1, 63, .inl gtln3611))] := hD
    obtain ⟨hr3605, w3612⟩ := hr3605
    rcases hr3605 with rfl | rfl
    · exact RI (v := 1) hC hP hD hS [0, 1, 2, 3] (kd13607, ks13608, kn13609, tf13610, gtln3611) rfl rfl (by decide) (⟨Or.inl (rfl), by dsimp only; omega⟩) (by decide +kernel) dX10_takesHead_93
    · exact RI (v := 0) hC hP hD hS [0, 1, 2, 3] (kd13607, ks13608, kn13609, tf13610, gtln3611) rfl rfl (by decide) (⟨Or.inr (rfl), by dsimp only; omega⟩) (by decide +kernel) dX10_takesHead_93
  by_cases c_1_3614 : so = 2
  · refine lv_tableIn (tgt := 94) hx hb dX10_takesHead_1 (by rw [c_1_3614]; decide) (by rw [c_1_3614]; decide) (by rw [c_1_3614]; rfl) (by decide) ?_
    refine lv_aload_n hx hb dX10_takesHead_94 rfl (lv_at hl 0 rfl) ?_
    refine lv_iload_n hx hb dX10_takesHead_95 rfl (lv_at hl 1 rfl) ?_
    refine lv_iconst (v := 1) hx hb dX10_takesHead_96 (by decide) ?_
    refine lv_bipush (v := 7) hx hb dX10_takesHead_97 (by decide) ?_
    refine iV (wr := []) hC hK hl hP hD hS hA (t_takesNumber l G h0 li 1 7 tby kt tln tsp tkd ks kn tf9 fby tlnc kln ftln (by omega) (by omega) (by omega) (by omega)) si_X10_135 [0, 1, 2, 3] [] rfl rfl (by decide) rfl (by decide) (by decide) rfl rfl rfl rfl rfl (Nat.le_of_ble_eq_true rfl) ⟨Nat.le_of_ble_eq_true rfl, Nat.le_of_ble_eq_true rfl⟩ ⟨Nat.le_of_ble_eq_true rfl, Nat.le_of_ble_eq_true rfl⟩ dX10_takesHead_99 (fun r3615 u3616 H locs hr3615 hP hD hS => ?_)
    obtain ⟨kd13617, ks13618, kn13619, tf13620, gtln3621⟩ := u3616
    try dsimp only at hr3615
    have hP : va_P G.1 vwCl [(h0, .inr (10, [.ref tby, .int (nI kt), .ref tln, .ref tsp, .int kd13617, .int (nI ks13618), .int (nI kn13619), .int tf13620])), (tby, .inl (G.2.1, 240, .inl fby)), (tln, .inr (8, [.int 9, .int 7, .ref tlnc, .int (nI kln)])), (tlnc, .inl (G.2.1, 63, .inl gtln3621))] H := hP
    have hD : va_D A [(h0, .inr (10, [.ref tby, .int (nI kt), .ref tln, .ref tsp, .int kd13617, .int (nI ks13618), .int (nI kn13619), .int tf13620])), (tby, .inl (G.2.1, 240, .inl fby)), (tln, .inr (8, [.int 9, .int 7, .ref tlnc, .int (nI kln)])), (tlnc, .inl (G.2.1, 63, .inl gtln3621))] := hD
    obtain ⟨hr3615, w3622⟩ := hr3615
    rcases hr3615 with rfl | rfl
    · refine lv_if_eq (tgt := 130) hx hb dX10_takesHead_102 (by decide) (fun c9 => absurd c9 (by decide)) (fun _ => ?_)
      refine lv_aload_n hx hb dX10_takesHead_105 rfl (lv_at hl 0 rfl) ?_
      refine va_ldcS (index := 145) (tx := "by") hx hb hown (hO.2.1 7 (by decide)) dX10_takesHead_106 ?_
      refine iVo (wr := [(tln, .inr (8, [.int 9, .int 7, .ref tlnc, .int (nI kln)])), (tlnc, .inl (G.2.1, 63, .inl gtln3621))]) hO hC hK hl hP hD hS hA (t_takesName l G K 7 h0 tby kt tln tsp kd13617 ks13618 kn13619 tf13620 fby (by omega) (by omega) (by omega) ((by decide))) si_X10_140 [0, 1] [2, 3] rfl rfl (by decide) rfl (by decide) (by decide) rfl rfl rfl rfl rfl (Nat.le_of_ble_eq_true rfl) ⟨Nat.le_of_ble_eq_true rfl, Nat.le_of_ble_eq_true rfl⟩ ⟨Nat.le_of_ble_eq_true rfl, Nat.le_of_ble_eq_true rfl⟩ dX10_takesHead_108 (fun r3624 u3625 H locs hr3624 hP hD hS => ?_)
      obtain ⟨kd13626, ks13627, kn13628, tf13629⟩ := u3625
      try dsimp only at hr3624
      have hP : va_P G.1 vwCl [(tln, .inr (8, [.int 9, .int 7, .ref tlnc, .int (nI kln)])), (tlnc, .inl (G.2.1, 63, .inl gtln3621)), (h0, .inr (10, [.ref tby, .int (nI kt), .ref tln, .ref tsp, .int kd13626, .int (nI ks13627), .int (nI kn13628), .int tf13629])), (tby, .inl (G.2.1, 240, .inl fby))] H := hP
      have hD : va_D A [(tln, .inr (8, [.int 9, .int 7, .ref tlnc, .int (nI kln)])), (tlnc, .inl (G.2.1, 63, .inl gtln3621)), (h0, .inr (10, [.ref tby, .int (nI kt), .ref tln, .ref tsp, .int kd13626, .int (nI ks13627), .int (nI kn13628), .int tf13629])), (tby, .inl (G.2.1, 240, .inl fby))] := hD
      obtain ⟨hr3624, w3630⟩ := hr3624
      rcases hr3624 with rfl | rfl
      · refine lv_if_eq (tgt := 130) hx hb dX10_takesHead_111 (by decide) (fun c9 => absurd c9 (by decide)) (fun _ => ?_)
        refine lv_aload_n hx hb dX10_takesHead_114 rfl (lv_at hl 0 rfl) ?_
        refine lv_iload_n hx hb dX10_takesHead_115 rfl (lv_at hl 1 rfl) ?_
        refine lv_iconst (v := 2) hx hb dX10_takesHead_116 (by decide) ?_
        refine lv_sipush (v := 999) hx hb dX10_takesHead_117 (by decide) ?_
        refine iV (wr := []) hC hK hl hP hD hS hA (t_takesNumber l G h0 li 2 999 tby kt tln tsp kd13626 ks13627 kn13628 tf13629 fby tlnc kln gtln3621 (by omega) (by omega) (by omega) (by omega)) si_X10_135 [2, 3, 0, 1] [] rfl rfl (by decide) rfl (by decide) (by decide) rfl rfl rfl rfl rfl (Nat.le_of_ble_eq_true rfl) ⟨Nat.le_of_ble_eq_true rfl, Nat.le_of_ble_eq_true rfl⟩ ⟨Nat.le_of_ble_eq_true rfl, Nat.le_of_ble_eq_true rfl⟩ dX10_takesHead_120 (fun r3632 u3633 H locs hr3632 hP hD hS => ?_)
        obtain ⟨kd13634, ks13635, kn13636, tf13637, gtln3638⟩ := u3633
        try dsimp only at hr3632
        have hP : va_P G.1 vwCl [(h0, .inr (10, [.ref tby, .int (nI kt), .ref tln, .ref tsp, .int kd13634, .int (nI ks13635), .int (nI kn13636), .int tf13637])), (tby, .inl (G.2.1, 240, .inl fby)), (tln, .inr (8, [.int 9, .int 7, .ref tlnc, .int (nI kln)])), (tlnc, .inl (G.2.1, 63, .inl gtln3638))] H := hP
        have hD : va_D A [(h0, .inr (10, [.ref tby, .int (nI kt), .ref tln, .ref tsp, .int kd13634, .int (nI ks13635), .int (nI kn13636), .int tf13637])), (tby, .inl (G.2.1, 240, .inl fby)), (tln, .inr (8, [.int 9, .int 7, .ref tlnc, .int (nI kln)])), (tlnc, .inl (G.2.1, 63, .inl gtln3638))] := hD
        obtain ⟨hr3632, w3639⟩ := hr3632
        rcases hr3632 with rfl | rfl
        · refine lv_if_eq (tgt := 130) hx hb dX10_takesHead_123 (by decide) (fun c9 => absurd c9 (by decide)) (fun _ => ?_)
          refine lv_iconst (v := 1) hx hb dX10_takesHead_126 (by decide) ?_
          refine lv_goto (tgt := 131) hx hb dX10_takesHead_127 (by decide) ?_
          exact RI (v := 1) hC hP hD hS [0, 1, 2, 3] (kd13634, ks13635, kn13636, tf13637, gtln3638) rfl rfl (by decide) (⟨Or.inl (rfl), by dsimp only; omega⟩) (by decide +kernel) dX10_takesHead_131
        · refine lv_if_eq (tgt := 130) hx hb dX10_takesHead_123 (by decide) (fun _ => ?_) (fun c9 => absurd (by decide) c9)
          refine lv_iconst (v := 0) hx hb dX10_takesHead_130 (by decide) ?_
          exact RI (v := 0) hC hP hD hS [0, 1, 2, 3] (kd13634, ks13635, kn13636, tf13637, gtln3638) rfl rfl (by decide) (⟨Or.inr (rfl), by dsimp only; omega⟩) (by decide +kernel) dX10_takesHead_131
      · refine lv_if_eq (tgt := 130) hx hb dX10_takesHead_111 (by decide) (fun _ => ?_) (fun c9 => absurd (by decide) c9)
        refine lv_iconst (v := 0) hx hb dX10_takesHead_130 (by decide) ?_
        exact RI (v := 0) hC hP hD hS [2, 3, 0, 1] (kd13626, ks13627, kn13628, tf13629, gtln3621) rfl rfl (by decide) (⟨Or.inr (rfl), by dsimp only; omega⟩) (by decide +kernel) dX10_takesHead_131
    · refine lv_if_eq (tgt := 130) hx hb dX10_takesHead_102 (by decide) (fun _ => ?_) (fun c9 => absurd (by decide) c9)
      refine lv_iconst (v := 0) hx hb dX10_takesHead_130 (by decide) ?_
      exact RI (v := 0) hC hP hD hS [0, 1, 2, 3] (kd13617, ks13618, kn13619, tf13620, gtln3621) rfl rfl (by decide) (⟨Or.inr (rfl), by dsimp only; omega⟩) (by decide +kernel) dX10_takesHead_131
  refine lv_tableOut (tgt := 132) hx hb dX10_takesHead_1 (by have q9 := sw_0_2 (x := so); simp only [c_1_3560, c_1_3604, c_1_3614, not_false_eq_true, true_implies] at q9; exact q9) (by decide) ?_
  refine lv_aload_n hx hb dX10_takesHead_132 rfl (lv_at hl 0 rfl) ?_
  refine lv_iload_n hx hb dX10_takesHead_133 rfl (lv_at hl 1 rfl) ?_
  refine lv_iconst (v := 1) hx hb dX10_takesHead_134 (by decide) ?_
  refine lv_bipush (v := 9) hx hb dX10_takesHead_135 (by decide) ?_
  refine iV (wr := []) hC hK hl hP hD hS hA (t_takesNumber l G h0 li 1 9 tby kt tln tsp tkd ks kn tf9 fby tlnc kln ftln (by omega) (by omega) (by omega) (by omega)) si_X10_135 [0, 1, 2, 3] [] rfl rfl (by decide) rfl (by decide) (by decide) rfl rfl rfl rfl rfl (Nat.le_of_ble_eq_true rfl) ⟨Nat.le_of_ble_eq_true rfl, Nat.le_of_ble_eq_true rfl⟩ ⟨Nat.le_of_ble_eq_true rfl, Nat.le_of_ble_eq_true rfl⟩ dX10_takesHead_137 (fun r3641 u3642 H locs hr3641 hP hD hS => ?_)
  obtain ⟨kd13643, ks13644, kn13645, tf13646, gtln3647⟩ := u3642
  try dsimp only at hr3641
  have hP : va_P G.1 vwCl [(h0, .inr (10, [.ref tby, .int (nI kt), .ref tln, .ref tsp, .int kd13643, .int (nI ks13644), .int (nI kn13645), .int tf13646])), (tby, .inl (G.2.1, 240, .inl fby)), (tln, .inr (8, [.int 9, .int 7, .ref tlnc, .int (nI kln)])), (tlnc, .inl (G.2.1, 63, .inl gtln3647))] H := hP
  have hD : va_D A [(h0, .inr (10, [.ref tby, .int (nI kt), .ref tln, .ref tsp, .int kd13643, .int (nI ks13644), .int (nI kn13645), .int tf13646])), (tby, .inl (G.2.1, 240, .inl fby)), (tln, .inr (8, [.int 9, .int 7, .ref tlnc, .int (nI kln)])), (tlnc, .inl (G.2.1, 63, .inl gtln3647))] := hD
  obtain ⟨hr3641, w3648⟩ := hr3641
  rcases hr3641 with rfl | rfl
  · exact RI (v := 1) hC hP hD hS [0, 1, 2, 3] (kd13643, ks13644, kn13645, tf13646, gtln3647) rfl rfl (by decide) (⟨Or.inl (rfl), by dsimp only; omega⟩) (by decide +kernel) dX10_takesHead_140
  · exact RI (v := 0) hC hP hD hS [0, 1, 2, 3] (kd13643, ks13644, kn13645, tf13646, gtln3647) rfl rfl (by decide) (⟨Or.inr (rfl), by dsimp only; omega⟩) (by decide +kernel) dX10_takesHead_140
set_option maxHeartbeats 4000000 in
set_option maxRecDepth 100000 in
theorem t_takesLine (l : Launch) (G : GG) (K : OO) (h0 : Nat) (tby : Nat) (kt : Nat) (tln : Nat) (tsp : Nat) (tkd : Int32) (ks : Nat) (kn : Nat) (tf9 : Int32) (fby : Nat → Int32) (tlnc : Nat) (kln : Nat) (ftln : Nat → Int32) (tspc : Nat) (ksp : Nat) (ftsp : Nat → Int32) (hkt : kt ≤ 240) (hks : ks ≤ 240) (hkn : kn ≤ 240) (hkln : kln ≤ 9) (hksp : ksp ≤ 120) : MIo l G K yX10_takesLine cX10_takesLine 3 (some .boolean) 30 0 0 [.ref h0] [(h0, .inr (10, [.ref tby, .int (nI kt), .ref tln, .ref tsp, .int tkd, .int (nI ks), .int (nI kn), .int tf9])), (tby, .inl (G.2.1, 240, .inl fby)), (tln, .inr (8, [.int 9, .int 7, .ref tlnc, .int (nI kln)])), (tlnc, .inl (G.2.1, 63, .inl ftln)), (tsp, .inr (8, [.int 120, .int 1, .ref tspc, .int (nI ksp)])), (tspc, .inl (G.2.1, 120, .inl ftsp))] (fun (r : Int32) (u : Int32 × Nat × Nat × Int32 × Nat × (Nat → Int32) × Nat × (Nat → Int32)) => (r = 1 ∨ r = 0) ∧ (u.2.1 ≤ 240 ∧ u.2.2.1 ≤ 240 ∧ u.2.2.2.2.1 ≤ 9 ∧ u.2.2.2.2.2.2.1 ≤ 120)) (fun u : Int32 × Nat × Nat × Int32 × Nat × (Nat → Int32) × Nat × (Nat → Int32) => [(h0, .inr (10, [.ref tby, .int (nI kt), .ref tln, .ref tsp, .int u.1, .int (nI u.2.1), .int (nI u.2.2.1), .int u.2.2.2.1])), (tby, .inl (G.2.1, 240, .inl fby)), (tln, .inr (8, [.int 9, .int 7, .ref tlnc, .int (nI u.2.2.2.2.1)])), (tlnc, .inl (G.2.1, 63, .inl u.2.2.2.2.2.1)), (tsp, .inr (8, [.int 120, .int 1, .ref tspc, .int (nI u.2.2.2.2.2.2.1)])), (tspc, .inl (G.2.1, 120, .inl u.2.2.2.2.2.2.2))]) := by
  refine MIo.start (by decide +kernel) (Nat.le_of_ble_eq_true rfl) ?_
  intro p e s m below meth c A ls hC hK hP hD hS hA hl hO
  have hl : lv_has ls 3 [(0, .ref h0)] := hl
  obtain ⟨hx, hb, hr, hml, hB, hown, hlocks, hnm⟩ := id hC
  refine lv_aload_n hx hb dX10_takesLine_0 rfl (lv_at hl 0 rfl) ?_
  refine gf_X10_20 hC rfl hK hP 0 rfl rfl dX10_takesLine_1 ?_
  rcases Nat.lt_or_ge kln 9 with hcap9 | hcap9
  · refine iV (wr := [(h0, .inr (10, [.ref tby, .int (nI kt), .ref tln, .ref tsp, .int tkd, .int (nI ks), .int (nI kn), .int tf9])), (tby, .inl (G.2.1, 240, .inl fby)), (tlnc, .inl (G.2.1, 63, .inl ftln)), (tsp, .inr (8, [.int 120, .int 1, .ref tspc, .int (nI ksp)])), (tspc, .inl (G.2.1, 120, .inl ftsp))]) hC hK hl hP hD hS hA (c_T_append l G tln 9 7 tlnc kln (by omega) (by omega)) si_X10_59 [2] [0, 1, 3, 4, 5] rfl rfl (by decide) rfl (by decide) (by decide) rfl rfl rfl rfl rfl (Nat.le_of_ble_eq_true rfl) ⟨Nat.le_of_ble_eq_true rfl, Nat.le_of_ble_eq_true rfl⟩ ⟨Nat.le_of_ble_eq_true rfl, Nat.le_of_ble_eq_true rfl⟩ dX10_takesLine_4 (fun r3650 u3651 H locs hr3650 hP hD hS => ?_)
    have hP : va_P G.1 vwCl [(h0, .inr (10, [.ref tby, .int (nI kt), .ref tln, .ref tsp, .int tkd, .int (nI ks), .int (nI kn), .int tf9])), (tby, .inl (G.2.1, 240, .inl fby)), (tlnc, .inl (G.2.1, 63, .inl ftln)), (tsp, .inr (8, [.int 120, .int 1, .ref tspc, .int (nI ksp)])), (tspc, .inl (G.2.1, 120, .inl ftsp)), (tln, .inr (8, [.int 9, .int 7, .ref tlnc, .int (nI (kln + 1))]))] H := hP
    have hD : va_D A [(h0, .inr (10, [.ref tby, .int (nI kt), .ref tln, .ref tsp, .int tkd, .int (nI ks), .int (nI kn), .int tf9])), (tby, .inl (G.2.1, 240, .inl fby)), (tlnc, .inl (G.2.1, 63, .inl ftln)), (tsp, .inr (8, [.int 120, .int 1, .ref tspc, .int (nI ksp)])), (tspc, .inl (G.2.1, 120, .inl ftsp)), (tln, .inr (8, [.int 9, .int 7, .ref tlnc, .int (nI (kln + 1))]))] := hD
    obtain rfl := hr3650
    refine lv_istore_n (lv' := [(1, .int (nI kln)), (0, .ref h0)]) hx hb dX10_takesLine_7 rfl hl (by decide) rfl (fun ls hl => ?_)
    refine lv_iload_n hx hb dX10_takesLine_8 rfl (lv_at hl 0 rfl) ?_
    refine lv_if_ge (tgt := 17) hx hb dX10_takesLine_9 (by decide) (fun _ => ?_) (fun c9 => absurd (nI_pos' (by omega)) c9)
    refine lv_iconst (v := 1) hx hb dX10_takesLine_17 (by decide) ?_
    refine lv_istore_n (lv' := [(2, .int 1), (1, .int (nI kln)), (0, .ref h0)]) hx hb dX10_takesLine_18 rfl hl (by decide) rfl (fun ls hl => ?_)
    refine lv_iload_n hx hb dX10_takesLine_19 rfl (lv_at hl 0 rfl) ?_
    refine lv_iconst (v := 3) hx hb dX10_takesLine_20 (by decide) ?_
    refine lv_icmp_gt (tgt := 41) hx hb dX10_takesLine_21 (by decide) (fun c9 => absurd c9 (by decide)) (fun _ => ?_)
    refine lv_aload_n hx hb dX10_takesLine_24 rfl (lv_at hl 2 rfl) ?_
    refine gf_X10_20 hC rfl hK hP 0 rfl rfl dX10_takesLine_25 ?_
    refine lv_iload_n hx hb dX10_takesLine_28 rfl (lv_at hl 1 rfl) ?_
    refine lv_iload_n hx hb dX10_takesLine_29 rfl (lv_at hl 0 rfl) ?_
    refine lv_bipush (v := (-9)) hx hb dX10_takesLine_30 (by decide) ?_
    refine vV (wr := [(h0, .inr (10, [.ref tby, .int (nI kt), .ref tln, .ref tsp, .int tkd, .int (nI ks), .int (nI kn), .int tf9])), (tby, .inl (G.2.1, 240, .inl fby)), (tsp, .inr (8, [.int 120, .int 1, .ref tspc, .int (nI ksp)])), (tspc, .inl (G.2.1, 120, .inl ftsp))]) hC hK hl hP hD hS hA (c_T_set l G tln (nI kln) 1 (-9) 9 7 tlnc (kln + 1) ftln (by omega) (by omega) (by omega)) si_X10_66 [5, 2] [0, 1, 3, 4] rfl rfl (by decide) rfl (by decide) (by decide) rfl rfl rfl rfl rfl (Nat.le_of_ble_eq_true rfl) ⟨Nat.le_of_ble_eq_true rfl, Nat.le_of_ble_eq_true rfl⟩ ⟨Nat.le_of_ble_eq_true rfl, Nat.le_of_ble_eq_true rfl⟩ dX10_takesLine_32 (fun u3654 H locs hr3653 hP hD hS => ?_)
    obtain ⟨f13655, rfl⟩ : ∃ z9, z9 = u3654 := ⟨_, rfl⟩
    try dsimp only at hr3653
    have hP : va_P G.1 vwCl [(h0, .inr (10, [.ref tby, .int (nI kt), .ref tln, .ref tsp, .int tkd, .int (nI ks), .int (nI kn), .int tf9])), (tby, .inl (G.2.1, 240, .inl fby)), (tsp, .inr (8, [.int 120, .int 1, .ref tspc, .int (nI ksp)])), (tspc, .inl (G.2.1, 120, .inl ftsp)), (tln, .inr (8, [.int 9, .int 7, .ref tlnc, .int (nI (kln + 1))])), (tlnc, .inl (G.2.1, 63, .inl f13655))] H := hP
    have hD : va_D A [(h0, .inr (10, [.ref tby, .int (nI kt), .ref tln, .ref tsp, .int tkd, .int (nI ks), .int (nI kn), .int tf9])), (tby, .inl (G.2.1, 240, .inl fby)), (tsp, .inr (8, [.int 120, .int 1, .ref tspc, .int (nI ksp)])), (tspc, .inl (G.2.1, 120, .inl ftsp)), (tln, .inr (8, [.int 9, .int 7, .ref tlnc, .int (nI (kln + 1))])), (tlnc, .inl (G.2.1, 63, .inl f13655))] := hD
    have w3656 := hr3653
    refine lv_iinc (v := 2) (lv' := [(2, .int 2), (1, .int (nI kln)), (0, .ref h0)]) hx hb dX10_takesLine_35 hl (k := 0) rfl (by decide) (by decide) rfl (fun ls hl => ?_)
    refine lv_goto (tgt := 19) hx hb dX10_takesLine_38 (by decide) ?_
    refine lv_iload_n hx hb dX10_takesLine_19 rfl (lv_at hl 0 rfl) ?_
    refine lv_iconst (v := 3) hx hb dX10_takesLine_20 (by decide) ?_
    refine lv_icmp_gt (tgt := 41) hx hb dX10_takesLine_21 (by decide) (fun c9 => absurd c9 (by decide)) (fun _ => ?_)
    refine lv_aload_n hx hb dX10_takesLine_24 rfl (lv_at hl 2 rfl) ?_
    refine gf_X10_20 hC rfl hK hP 0 rfl rfl dX10_takesLine_25 ?_
    refine lv_iload_n hx hb dX10_takesLine_28 rfl (lv_at hl 1 rfl) ?_
    refine lv_iload_n hx hb dX10_takesLine_29 rfl (lv_at hl 0 rfl) ?_
    refine lv_bipush (v := (-9)) hx hb dX10_takesLine_30 (by decide) ?_
    refine vV (wr := [(h0, .inr (10, [.ref tby, .int (nI kt), .ref tln, .ref tsp, .int tkd, .int (nI ks), .int (nI kn), .int tf9])), (tby, .inl (G.2.1, 240, .inl fby)), (tsp, .inr (8, [.int 120, .int 1, .ref tspc, .int (nI ksp)])), (tspc, .inl (G.2.1, 120, .inl ftsp))]) hC hK hl hP hD hS hA (c_T_set l G tln (nI kln) 2 (-9) 9 7 tlnc (kln + 1) f13655 (by omega) (by omega) (by omega)) si_X10_66 [4, 5] [0, 1, 2, 3] rfl rfl (by decide) rfl (by decide) (by decide) rfl rfl rfl rfl rfl (Nat.le_of_ble_eq_true rfl) ⟨Nat.le_of_ble_eq_true rfl, Nat.le_of_ble_eq_true rfl⟩ ⟨Nat.le_of_ble_eq_true rfl, Nat.le_of_ble_eq_true rfl⟩ dX10_takesLine_32 (fun u3658 H locs hr3657 hP hD hS => ?_)
    obtain ⟨f13659, rfl⟩ : ∃ z9, z9 = u3658 := ⟨_, rfl⟩
    try dsimp only at hr3657
    have hP : va_P G.1 vwCl [(h0, .inr (10, [.ref tby, .int (nI kt), .ref tln, .ref tsp, .int tkd, .int (nI ks), .int (nI kn), .int tf9])), (tby, .inl (G.2.1, 240, .inl fby)), (tsp, .inr (8, [.int 120, .int 1, .ref tspc, .int (nI ksp)])), (tspc, .inl (G.2.1, 120, .inl ftsp)), (tln, .inr (8, [.int 9, .int 7, .ref tlnc, .int (nI (kln + 1))])), (tlnc, .inl (G.2.1, 63, .inl f13659))] H := hP
    have hD : va_D A [(h0, .inr (10, [.ref tby, .int (nI kt), .ref tln, .ref tsp, .int tkd, .int (nI ks), .int (nI kn), .int tf9])), (tby, .inl (G.2.1, 240, .inl fby)), (tsp, .inr (8, [.int 120, .int 1, .ref tspc, .int (nI ksp)])), (tspc, .inl (G.2.1, 120, .inl ftsp)), (tln, .inr (8, [.int 9, .int 7, .ref tlnc, .int (nI (kln + 1))])), (tlnc, .inl (G.2.1, 63, .inl f13659))] := hD
    have w3660 := hr3657
    refine lv_iinc (v := 3) (lv' := [(2, .int 3), (1, .int (nI kln)), (0, .ref h0)]) hx hb dX10_takesLine_35 hl (k := 0) rfl (by decide) (by decide) rfl (fun ls hl => ?_)
    refine lv_goto (tgt := 19) hx hb dX10_takesLine_38 (by decide) ?_
    refine lv_iload_n hx hb dX10_takesLine_19 rfl (lv_at hl 0 rfl) ?_
    refine lv_iconst (v := 3) hx hb dX10_takesLine_20 (by decide) ?_
    refine lv_icmp_gt (tgt := 41) hx hb dX10_takesLine_21 (by decide) (fun c9 => absurd c9 (by decide)) (fun _ => ?_)
    refine lv_aload_n hx hb dX10_takesLine_24 rfl (lv_at hl 2 rfl) ?_
    refine gf_X10_20 hC rfl hK hP 0 rfl rfl dX10_takesLine_25 ?_
    refine lv_iload_n hx hb dX10_takesLine_28 rfl (lv_at hl 1 rfl) ?_
    refine lv_iload_n hx hb dX10_takesLine_29 rfl (lv_at hl 0 rfl) ?_
    refine lv_bipush (v := (-9)) hx hb dX10_takesLine_30 (by decide) ?_
    refine vV (wr := [(h0, .inr (10, [.ref tby, .int (nI kt), .ref tln, .ref tsp, .int tkd, .int (nI ks), .int (nI kn), .int tf9])), (tby, .inl (G.2.1, 240, .inl fby)), (tsp, .inr (8, [.int 120, .int 1, .ref tspc, .int (nI ksp)])), (tspc, .inl (G.2.1, 120, .inl ftsp))]) hC hK hl hP hD hS hA (c_T_set l G tln (nI kln) 3 (-9) 9 7 tlnc (kln + 1) f13659 (by omega) (by omega) (by omega)) si_X10_66 [4, 5] [0, 1, 2, 3] rfl rfl (by decide) rfl (by decide) (by decide) rfl rfl rfl rfl rfl (Nat.le_of_ble_eq_true rfl) ⟨Nat.le_of_ble_eq_true rfl, Nat.le_of_ble_eq_true rfl⟩ ⟨Nat.le_of_ble_eq_true rfl, Nat.le_of_ble_eq_true rfl⟩ dX10_takesLine_32 (fun u3662 H locs hr3661 hP hD hS => ?_)
    obtain ⟨f13663, rfl⟩ : ∃ z9, z9 = u3662 := ⟨_, rfl⟩
    try dsimp only at hr3661
    have hP : va_P G.1 vwCl [(h0, .inr (10, [.ref tby, .int (nI kt), .ref tln, .ref tsp, .int tkd, .int (nI ks), .int (nI kn), .int tf9])), (tby, .inl (G.2.1, 240, .inl fby)), (tsp, .inr (8, [.int 120, .int 1, .ref tspc, .int (nI ksp)])), (tspc, .inl (G.2.1, 120, .inl ftsp)), (tln, .inr (8, [.int 9, .int 7, .ref tlnc, .int (nI (kln + 1))])), (tlnc, .inl (G.2.1, 63, .inl f13663))] H := hP
    have hD : va_D A [(h0, .inr (10, [.ref tby, .int (nI kt), .ref tln, .ref tsp, .int tkd, .int (nI ks), .int (nI kn), .int tf9])), (tby, .inl (G.2.1, 240, .inl fby)), (tsp, .inr (8, [.int 120, .int 1, .ref tspc, .int (nI ksp)])), (tspc, .inl (G.2.1, 120, .inl ftsp)), (tln, .inr (8, [.int 9, .int 7, .ref tlnc, .int (nI (kln + 1))])), (tlnc, .inl (G.2.1, 63, .inl f13663))] := hD
    have w3664 := hr3661
    refine lv_iinc (v := 4) (lv' := [(2, .int 4), (1, .int (nI kln)), (0, .ref h0)]) hx hb dX10_takesLine_35 hl (k := 0) rfl (by decide) (by decide) rfl (fun ls hl => ?_)
    refine lv_goto (tgt := 19) hx hb dX10_takesLine_38 (by decide) ?_
    refine lv_iload_n hx hb dX10_takesLine_19 rfl (lv_at hl 0 rfl) ?_
    refine lv_iconst (v := 3) hx hb dX10_takesLine_20 (by decide) ?_
    refine lv_icmp_gt (tgt := 41) hx hb dX10_takesLine_21 (by decide) (fun _ => ?_) (fun c9 => absurd (by decide) c9)
    refine lv_aload_n hx hb dX10_takesLine_41 rfl (lv_at hl 2 rfl) ?_
    refine gf_X10_20 hC rfl hK hP 0 rfl rfl dX10_takesLine_42 ?_
    refine lv_iload_n hx hb dX10_takesLine_45 rfl (lv_at hl 1 rfl) ?_
    refine lv_iconst (v := 4) hx hb dX10_takesLine_46 (by decide) ?_
    refine lv_iconst (v := 0) hx hb dX10_takesLine_47 (by decide) ?_
    refine vV (wr := [(h0, .inr (10, [.ref tby, .int (nI kt), .ref tln, .ref tsp, .int tkd, .int (nI ks), .int (nI kn), .int tf9])), (tby, .inl (G.2.1, 240, .inl fby)), (tsp, .inr (8, [.int 120, .int 1, .ref tspc, .int (nI ksp)])), (tspc, .inl (G.2.1, 120, .inl ftsp))]) hC hK hl hP hD hS hA (c_T_set l G tln (nI kln) 4 0 9 7 tlnc (kln + 1) f13663 (by omega) (by omega) (by omega)) si_X10_66 [4, 5] [0, 1, 2, 3] rfl rfl (by decide) rfl (by decide) (by decide) rfl rfl rfl rfl rfl (Nat.le_of_ble_eq_true rfl) ⟨Nat.le_of_ble_eq_true rfl, Nat.le_of_ble_eq_true rfl⟩ ⟨Nat.le_of_ble_eq_true rfl, Nat.le_of_ble_eq_true rfl⟩ dX10_takesLine_48 (fun u3666 H locs hr3665 hP hD hS => ?_)
    obtain ⟨f13667, rfl⟩ : ∃ z9, z9 = u3666 := ⟨_, rfl⟩
    try dsimp only at hr3665
    have hP : va_P G.1 vwCl [(h0, .inr (10, [.ref tby, .int (nI kt), .ref tln, .ref tsp, .int tkd, .int (nI ks), .int (nI kn), .int tf9])), (tby, .inl (G.2.1, 240, .inl fby)), (tsp, .inr (8, [.int 120, .int 1, .ref tspc, .int (nI ksp)])), (tspc, .inl (G.2.1, 120, .inl ftsp)), (tln, .inr (8, [.int 9, .int 7, .ref tlnc, .int (nI (kln + 1))])), (tlnc, .inl (G.2.1, 63, .inl f13667))] H := hP
    have hD : va_D A [(h0, .inr (10, [.ref tby, .int (nI kt), .ref tln, .ref tsp, .int tkd, .int (nI ks), .int (nI kn), .int tf9])), (tby, .inl (G.2.1, 240, .inl fby)), (tsp, .inr (8, [.int 120, .int 1, .ref tspc, .int (nI ksp)])), (tspc, .inl (G.2.1, 120, .inl ftsp)), (tln, .inr (8, [.int 9, .int 7, .ref tlnc, .int (nI (kln + 1))])), (tlnc, .inl (G.2.1, 63, .inl f13667))] := hD
    have w3668 := hr3665
    refine lv_aload_n hx hb dX10_takesLine_51 rfl (lv_at hl 2 rfl) ?_
    refine gf_X10_20 hC rfl hK hP 0 rfl rfl dX10_takesLine_52 ?_
    refine lv_iload_n hx hb dX10_takesLine_55 rfl (lv_at hl 1 rfl) ?_
    refine lv_iconst (v := 5) hx hb dX10_takesLine_56 (by decide) ?_
    refine lv_aload_n hx hb dX10_takesLine_57 rfl (lv_at hl 2 rfl) ?_
    refine gf_X10_24 hC rfl hK hP 0 rfl rfl dX10_takesLine_58 ?_
    refine pV hC hK hl hP hD (c_T_count l G tsp 120 1 tspc ksp) si_X10_71 [2] rfl rfl (by decide) rfl rfl rfl rfl rfl (Nat.le_of_ble_eq_true rfl) ⟨Nat.le_of_ble_eq_true rfl, Nat.le_of_ble_eq_true rfl⟩ ⟨by first | exact Nat.le_of_ble_eq_true rfl | exact Nat.zero_le _, by first | exact Nat.le_of_ble_eq_true rfl | exact Nat.zero_le _⟩ dX10_takesLine_61 (fun r3669 hr3669 => ?_)
    obtain rfl := hr3669
    refine vV (wr := [(h0, .inr (10, [.ref tby, .int (nI kt), .ref tln, .ref tsp, .int tkd, .int (nI ks), .int (nI kn), .int tf9])), (tby, .inl (G.2.1, 240, .inl fby)), (tsp, .inr (8, [.int 120, .int 1, .ref tspc, .int (nI ksp)])), (tspc, .inl (G.2.1, 120, .inl ftsp))]) hC hK hl hP hD hS hA (c_T_set l G tln (nI kln) 5 (nI ksp) 9 7 tlnc (kln + 1) f13667 (by omega) (by omega) (by omega)) si_X10_66 [4, 5] [0, 1, 2, 3] rfl rfl (by decide) rfl (by decide) (by decide) rfl rfl rfl rfl rfl (Nat.le_of_ble_eq_true rfl) ⟨Nat.le_of_ble_eq_true rfl, Nat.le_of_ble_eq_true rfl⟩ ⟨Nat.le_of_ble_eq_true rfl, Nat.le_of_ble_eq_true rfl⟩ dX10_takesLine_64 (fun u3672 H locs hr3671 hP hD hS => ?_)
    obtain ⟨f13673, rfl⟩ : ∃ z9, z9 = u3672 := ⟨_, rfl⟩
    try dsimp only at hr3671
    have hP : va_P G.1 vwCl [(h0, .inr (10, [.ref tby, .int (nI kt), .ref tln, .ref tsp, .int tkd, .int (nI ks), .int (nI kn), .int tf9])), (tby, .inl (G.2.1, 240, .inl fby)), (tsp, .inr (8, [.int 120, .int 1, .ref tspc, .int (nI ksp)])), (tspc, .inl (G.2.1, 120, .inl ftsp)), (tln, .inr (8, [.int 9, .int 7, .ref tlnc, .int (nI (kln + 1))])), (tlnc, .inl (G.2.1, 63, .inl f13673))] H := hP
    have hD : va_D A [(h0, .inr (10, [.ref tby, .int (nI kt), .ref tln, .ref tsp, .int tkd, .int (nI ks), .int (nI kn), .int tf9])), (tby, .inl (G.2.1, 240, .inl fby)), (tsp, .inr (8, [.int 120, .int 1, .ref tspc, .int (nI ksp)])), (tspc, .inl (G.2.1, 120, .inl ftsp)), (tln, .inr (8, [.int 9, .int 7, .ref tlnc, .int (nI (kln + 1))])), (tlnc, .inl (G.2.1, 63, .inl f13673))] := hD
    have w3674 := hr3671
    refine lv_aload_n hx hb dX10_takesLine_67 rfl (lv_at hl 2 rfl) ?_
    refine gf_X10_20 hC rfl hK hP 0 rfl rfl dX10_takesLine_68 ?_
    refine lv_iload_n hx hb dX10_takesLine_71 rfl (lv_at hl 1 rfl) ?_
    refine lv_bipush (v := 6) hx hb dX10_takesLine_72 (by decide) ?_
    refine lv_iconst (v := 0) hx hb dX10_takesLine_74 (by decide) ?_
    refine vV (wr := [(h0, .inr (10, [.ref tby, .int (nI kt), .ref tln, .ref tsp, .int tkd, .int (nI ks), .int (nI kn), .int tf9])), (tby, .inl (G.2.1, 240, .inl fby)), (tsp, .inr (8, [.int 120, .int 1, .ref tspc, .int (nI ksp)])), (tspc, .inl (G.2.1, 120, .inl ftsp))]) hC hK hl hP hD hS hA (c_T_set l G tln (nI kln) 6 0 9 7 tlnc (kln + 1) f13673 (by omega) (by omega) (by omega)) si_X10_66 [4, 5] [0, 1, 2, 3] rfl rfl (by decide) rfl (by decide) (by decide) rfl rfl rfl rfl rfl (Nat.le_of_ble_eq_true rfl) ⟨Nat.le_of_ble_eq_true rfl, Nat.le_of_ble_eq_true rfl⟩ ⟨Nat.le_of_ble_eq_true rfl, Nat.le_of_ble_eq_true rfl⟩ dX10_takesLine_75 (fun u3676 H locs hr3675 hP hD hS => ?_)
    obtain ⟨f13677, rfl⟩ : ∃ z9, z9 = u3676 := ⟨_, rfl⟩
    try dsimp only at hr3675
    have hP : va_P G.1 vwCl [(h0, .inr (10, [.ref tby, .int (nI kt), .ref tln, .ref tsp, .int tkd, .int (nI ks), .int (nI kn), .int tf9])), (tby, .inl (G.2.1, 240, .inl fby)), (tsp, .inr (8, [.int 120, .int 1, .ref tspc, .int (nI ksp)])), (tspc, .inl (G.2.1, 120, .inl ftsp)), (tln, .inr (8, [.int 9, .int 7, .ref tlnc, .int (nI (kln + 1))])), (tlnc, .inl (G.2.1, 63, .inl f13677))] H := hP
    have hD : va_D A [(h0, .inr (10, [.ref tby, .int (nI kt), .ref tln, .ref tsp, .int tkd, .int (nI ks), .int (nI kn), .int tf9])), (tby, .inl (G.2.1, 240, .inl fby)), (tsp, .inr (8, [.int 120, .int 1, .ref tspc, .int (nI ksp)])), (tspc, .inl (G.2.1, 120, .inl ftsp)), (tln, .inr (8, [.int 9, .int 7, .ref tlnc, .int (nI (kln + 1))])), (tlnc, .inl (G.2.1, 63, .inl f13677))] := hD
    have w3678 := hr3675
    refine lv_aload_n hx hb dX10_takesLine_78 rfl (lv_at hl 2 rfl) ?_
    refine pVo hO hS hC hK hl hP hD (t_sortHere l G K h0 tby kt tln tsp tkd ks kn tf9 fby (by omega) (by omega) (by omega)) si_X10_112 [0, 1] rfl rfl (by decide) rfl rfl rfl rfl rfl (Nat.le_of_ble_eq_true rfl) ⟨Nat.le_of_ble_eq_true rfl, Nat.le_of_ble_eq_true rfl⟩ ⟨by first | exact Nat.le_of_ble_eq_true rfl | exact Nat.zero_le _, by first | exact Nat.le_of_ble_eq_true rfl | exact Nat.zero_le _⟩ dX10_takesLine_79 (fun r3679 hr3679 => ?_)
    refine lv_istore_n (lv' := [(2, .int r3679), (1, .int (nI kln)), (0, .ref h0)]) hx hb dX10_takesLine_82 rfl hl (by decide) rfl (fun ls hl => ?_)
    refine lv_iload_n hx hb dX10_takesLine_83 rfl (lv_at hl 0 rfl) ?_
    refine lv_if_ge (tgt := 92) hx hb dX10_takesLine_84 (by decide) (fun c_84_3680 => ?_) (fun c_84_3680 => ?_)
    · refine lv_aload_n hx hb dX10_takesLine_92 rfl (lv_at hl 2 rfl) ?_
      refine gf_X10_20 hC rfl hK hP 0 rfl rfl dX10_takesLine_93 ?_
      refine lv_iload_n hx hb dX10_takesLine_96 rfl (lv_at hl 1 rfl) ?_
      refine lv_iconst (v := 0) hx hb dX10_takesLine_97 (by decide) ?_
      refine lv_iload_n hx hb dX10_takesLine_98 rfl (lv_at hl 0 rfl) ?_
      refine vV (wr := [(h0, .inr (10, [.ref tby, .int (nI kt), .ref tln, .ref tsp, .int tkd, .int (nI ks), .int (nI kn), .int tf9])), (tby, .inl (G.2.1, 240, .inl fby)), (tsp, .inr (8, [.int 120, .int 1, .ref tspc, .int (nI ksp)])), (tspc, .inl (G.2.1, 120, .inl ftsp))]) hC hK hl hP hD hS hA (c_T_set l G tln (nI kln) 0 r3679 9 7 tlnc (kln + 1) f13677 (by omega) (by omega) (by omega)) si_X10_66 [4, 5] [0, 1, 2, 3] rfl rfl (by decide) rfl (by decide) (by decide) rfl rfl rfl rfl rfl (Nat.le_of_ble_eq_true rfl) ⟨Nat.le_of_ble_eq_true rfl, Nat.le_of_ble_eq_true rfl⟩ ⟨Nat.le_of_ble_eq_true rfl, Nat.le_of_ble_eq_true rfl⟩ dX10_takesLine_99 (fun u3682 H locs hr3681 hP hD hS => ?_)
      obtain ⟨f13683, rfl⟩ : ∃ z9, z9 = u3682 := ⟨_, rfl⟩
      try dsimp only at hr3681
      have hP : va_P G.1 vwCl [(h0, .inr (10, [.ref tby, .int (nI kt), .ref tln, .ref tsp, .int tkd, .int (nI ks), .int (nI kn), .int tf9])), (tby, .inl (G.2.1, 240, .inl fby)), (tsp, .inr (8, [.int 120, .int 1, .ref tspc, .int (nI ksp)])), (tspc, .inl (G.2.1, 120, .inl ftsp)), (tln, .inr (8, [.int 9, .int 7, .ref tlnc, .int (nI (kln + 1))])), (tlnc, .inl (G.2.1, 63, .inl f13683))] H := hP
      have hD : va_D A [(h0, .inr (10, [.ref tby, .int (nI kt), .ref tln, .ref tsp, .int tkd, .int (nI ks), .int (nI kn), .int tf9])), (tby, .inl (G.2.1, 240, .inl fby)), (tsp, .inr (8, [.int 120, .int 1, .ref tspc, .int (nI ksp)])), (tspc, .inl (G.2.1, 120, .inl ftsp)), (tln, .inr (8, [.int 9, .int 7, .ref tlnc, .int (nI (kln + 1))])), (tlnc, .inl (G.2.1, 63, .inl f13683))] := hD
      have w3684 := hr3681
      refine lv_aload_n hx hb dX10_takesLine_102 rfl (lv_at hl 2 rfl) ?_
      refine vV (wr := [(tsp, .inr (8, [.int 120, .int 1, .ref tspc, .int (nI ksp)])), (tspc, .inl (G.2.1, 120, .inl ftsp)), (tln, .inr (8, [.int 9, .int 7, .ref tlnc, .int (nI (kln + 1))])), (tlnc, .inl (G.2.1, 63, .inl f13683))]) hC hK hl hP hD hS hA (t_advance l G h0 tby kt tln tsp tkd ks kn tf9 fby (by omega) (by omega) (by omega)) si_X10_47 [0, 1] [2, 3, 4, 5] rfl rfl (by decide) rfl (by decide) (by decide) rfl rfl rfl rfl rfl (Nat.le_of_ble_eq_true rfl) ⟨Nat.le_of_ble_eq_true rfl, Nat.le_of_ble_eq_true rfl⟩ ⟨Nat.le_of_ble_eq_true rfl, Nat.le_of_ble_eq_true rfl⟩ dX10_takesLine_103 (fun u3686 H locs hr3685 hP hD hS => ?_)
      obtain ⟨kd13687, ks13688, kn13689⟩ := u3686
      try dsimp only at hr3685
      have hP : va_P G.1 vwCl [(tsp, .inr (8, [.int 120, .int 1, .ref tspc, .int (nI ksp)])), (tspc, .inl (G.2.1, 120, .inl ftsp)), (tln, .inr (8, [.int 9, .int 7, .ref tlnc, .int (nI (kln + 1))])), (tlnc, .inl (G.2.1, 63, .inl f13683)), (h0, .inr (10, [.ref tby, .int (nI kt), .ref tln, .ref tsp, .int kd13687, .int (nI ks13688), .int (nI kn13689), .int tf9])), (tby, .inl (G.2.1, 240, .inl fby))] H := hP
      have hD : va_D A [(tsp, .inr (8, [.int 120, .int 1, .ref tspc, .int (nI ksp)])), (tspc, .inl (G.2.1, 120, .inl ftsp)), (tln, .inr (8, [.int 9, .int 7, .ref tlnc, .int (nI (kln + 1))])), (tlnc, .inl (G.2.1, 63, .inl f13683)), (h0, .inr (10, [.ref tby, .int (nI kt), .ref tln, .ref tsp, .int kd13687, .int (nI ks13688), .int (nI kn13689), .int tf9])), (tby, .inl (G.2.1, 240, .inl fby))] := hD
      have w3690 := hr3685
      refine lv_aload_n hx hb dX10_takesLine_106 rfl (lv_at hl 2 rfl) ?_
      refine lv_iload_n hx hb dX10_takesLine_107 rfl (lv_at hl 1 rfl) ?_
      refine lv_iload_n hx hb dX10_takesLine_108 rfl (lv_at hl 0 rfl) ?_
      refine iVo (wr := [(tsp, .inr (8, [.int 120, .int 1, .ref tspc, .int (nI ksp)])), (tspc, .inl (G.2.1, 120, .inl ftsp))]) hO hC hK hl hP hD hS hA (t_takesHead l G K h0 (nI kln) r3679 tby kt tln tsp kd13687 ks13688 kn13689 tf9 fby tlnc (kln + 1) f13683 (by omega) (by omega) (by omega) (by omega)) si_X10_115 [4, 5, 2, 3] [0, 1] rfl rfl (by decide) rfl (by decide) (by decide) rfl rfl rfl rfl rfl (Nat.le_of_ble_eq_true rfl) ⟨Nat.le_of_ble_eq_true rfl, Nat.le_of_ble_eq_true rfl⟩ ⟨Nat.le_of_ble_eq_true rfl, Nat.le_of_ble_eq_true rfl⟩ dX10_takesLine_109 (fun r3691 u3692 H locs hr3691 hP hD hS => ?_)
      obtain ⟨kd13693, ks13694, kn13695, tf13696, gtln3697⟩ := u3692
      try dsimp only at hr3691
      have hP : va_P G.1 vwCl [(tsp, .inr (8, [.int 120, .int 1, .ref tspc, .int (nI ksp)])), (tspc, .inl (G.2.1, 120, .inl ftsp)), (h0, .inr (10, [.ref tby, .int (nI kt), .ref tln, .ref tsp, .int kd13693, .int (nI ks13694), .int (nI kn13695), .int tf13696])), (tby, .inl (G.2.1, 240, .inl fby)), (tln, .inr (8, [.int 9, .int 7, .ref tlnc, .int (nI (kln + 1))])), (tlnc, .inl (G.2.1, 63, .inl gtln3697))] H := hP
      have hD : va_D A [(tsp, .inr (8, [.int 120, .int 1, .ref tspc, .int (nI ksp)])), (tspc, .inl (G.2.1, 120, .inl ftsp)), (h0, .inr (10, [.ref tby, .int (nI kt), .ref tln, .ref tsp, .int kd13693, .int (nI ks13694), .int (nI kn13695), .int tf13696])), (tby, .inl (G.2.1, 240, .inl fby)), (tln, .inr (8, [.int 9, .int 7, .ref tlnc, .int (nI (kln + 1))])), (tlnc, .inl (G.2.1, 63, .inl gtln3697))] := hD
      obtain ⟨hr3691, w3698⟩ := hr3691
      rcases hr3691 with rfl | rfl
      · refine lv_if_ne (tgt := 117) hx hb dX10_takesLine_112 (by decide) (fun _ => ?_) (fun c9 => absurd c9 (by decide))
        refine lv_iload_n hx hb dX10_takesLine_117 rfl (lv_at hl 0 rfl) ?_
        refine lv_iconst (v := 3) hx hb dX10_takesLine_118 (by decide) ?_
        refine lv_icmp_eq (tgt := 182) hx hb dX10_takesLine_119 (by decide) (fun c_119_3700 => ?_) (fun c_119_3700 => ?_)
        · refine lv_aload_n hx hb dX10_takesLine_182 rfl (lv_at hl 2 rfl) ?_
          refine lv_bipush (v := 59) hx hb dX10_takesLine_183 (by decide) ?_
          refine iV (wr := [(tsp, .inr (8, [.int 120, .int 1, .ref tspc, .int (nI ksp)])), (tspc, .inl (G.2.1, 120, .inl ftsp)), (tln, .inr (8, [.int 9, .int 7, .ref tlnc, .int (nI (kln + 1))])), (tlnc, .inl (G.2.1, 63, .inl gtln3697))]) hC hK hl hP hD hS hA (t_takesByte l G h0 59 tby kt tln tsp kd13693 ks13694 kn13695 tf13696 fby (by omega) (by omega) (by omega)) si_X10_124 [2, 3] [0, 1, 4, 5] rfl rfl (by decide) rfl (by decide) (by decide) rfl rfl rfl rfl rfl (Nat.le_of_ble_eq_true rfl) ⟨Nat.le_of_ble_eq_true rfl, Nat.le_of_ble_eq_true rfl⟩ ⟨Nat.le_of_ble_eq_true rfl, Nat.le_of_ble_eq_true rfl⟩ dX10_takesLine_185 (fun r3701 u3702 H locs hr3701 hP hD hS => ?_)
          obtain ⟨kd13703, ks13704, kn13705, tf13706⟩ := u3702
          try dsimp only at hr3701
          have hP : va_P G.1 vwCl [(tsp, .inr (8, [.int 120, .int 1, .ref tspc, .int (nI ksp)])), (tspc, .inl (G.2.1, 120, .inl ftsp)), (tln, .inr (8, [.int 9, .int 7, .ref tlnc, .int (nI (kln + 1))])), (tlnc, .inl (G.2.1, 63, .inl gtln3697)), (h0, .inr (10, [.ref tby, .int (nI kt), .ref tln, .ref tsp, .int kd13703, .int (nI ks13704), .int (nI kn13705), .int tf13706])), (tby, .inl (G.2.1, 240, .inl fby))] H := hP
          have hD : va_D A [(tsp, .inr (8, [.int 120, .int 1, .ref tspc, .int (nI ksp)])), (tspc, .inl (G.2.1, 120, .inl ftsp)), (tln, .inr (8, [.int 9, .int 7, .ref tlnc, .int (nI (kln + 1))])), (tlnc, .inl (G.2.1, 63, .inl gtln3697)), (h0, .inr (10, [.ref tby, .int (nI kt), .ref tln, .ref tsp, .int kd13703, .int (nI ks13704), .int (nI kn13705), .int tf13706])), (tby, .inl (G.2.1, 240, .inl fby))] := hD
          obtain ⟨hr3701, w3707⟩ := hr3701
          rcases hr3701 with rfl | rfl
          · exact RI (v := 1) hC hP hD hS [4, 5, 2, 3, 0, 1] (kd13703, ks13704, kn13705, tf13706, (kln + 1), gtln3697, ksp, ftsp) rfl rfl (by decide) (⟨Or.inl (rfl), by dsimp only; omega⟩) (by decide +kernel) dX10_takesLine_188
          · exact RI (v := 0) hC hP hD hS [4, 5, 2, 3, 0, 1] (kd13703, ks13704, kn13705, tf13706, (kln + 1), gtln3697, ksp, ftsp) rfl rfl (by decide) (⟨Or.inr (rfl), by dsimp only; omega⟩) (by decide +kernel) dX10_takesLine_188
        · refine lv_aload_n hx hb dX10_takesLine_122 rfl (lv_at hl 2 rfl) ?_
          refine va_ldcS (index := 119) (tx := "if") hx hb hown (hO.2.1 0 (by decide)) dX10_takesLine_123 ?_
          refine pVo hO hS hC hK hl hP hD (t_isName l G K 0 h0 tby kt tln tsp kd13693 ks13694 kn13695 tf13696 fby (by omega) (by omega) (by omega) ((by decide))) si_X10_102 [2, 3] rfl rfl (by decide) rfl rfl rfl rfl rfl (Nat.le_of_ble_eq_true rfl) ⟨Nat.le_of_ble_eq_true rfl, Nat.le_of_ble_eq_true rfl⟩ ⟨by first | exact Nat.le_of_ble_eq_true rfl | exact Nat.zero_le _, by first | exact Nat.le_of_ble_eq_true rfl | exact Nat.zero_le _⟩ dX10_takesLine_125 (fun r3709 hr3709 => ?_)
          rcases hr3709 with rfl | rfl
          · refine lv_if_eq (tgt := 182) hx hb dX10_takesLine_128 (by decide) (fun c9 => absurd c9 (by decide)) (fun _ => ?_)
            refine lv_aload_n hx hb dX10_takesLine_131 rfl (lv_at hl 2 rfl) ?_
            refine vV (wr := [(tsp, .inr (8, [.int 120, .int 1, .ref tspc, .int (nI ksp)])), (tspc, .inl (G.2.1, 120, .inl ftsp)), (tln, .inr (8, [.int 9, .int 7, .ref tlnc, .int (nI (kln + 1))])), (tlnc, .inl (G.2.1, 63, .inl gtln3697))]) hC hK hl hP hD hS hA (t_advance l G h0 tby kt tln tsp kd13693 ks13694 kn13695 tf13696 fby (by omega) (by omega) (by omega)) si_X10_47 [2, 3] [0, 1, 4, 5] rfl rfl (by decide) rfl (by decide) (by decide) rfl rfl rfl rfl rfl (Nat.le_of_ble_eq_true rfl) ⟨Nat.le_of_ble_eq_true rfl, Nat.le_of_ble_eq_true rfl⟩ ⟨Nat.le_of_ble_eq_true rfl, Nat.le_of_ble_eq_true rfl⟩ dX10_takesLine_132 (fun u3712 H locs hr3711 hP hD hS => ?_)
            obtain ⟨kd13713, ks13714, kn13715⟩ := u3712
            try dsimp only at hr3711
            have hP : va_P G.1 vwCl [(tsp, .inr (8, [.int 120, .int 1, .ref tspc, .int (nI ksp)])), (tspc, .inl (G.2.1, 120, .inl ftsp)), (tln, .inr (8, [.int 9, .int 7, .ref tlnc, .int (nI (kln + 1))])), (tlnc, .inl (G.2.1, 63, .inl gtln3697)), (h0, .inr (10, [.ref tby, .int (nI kt), .ref tln, .ref tsp, .int kd13713, .int (nI ks13714), .int (nI kn13715), .int tf13696])), (tby, .inl (G.2.1, 240, .inl fby))] H := hP
            have hD : va_D A [(tsp, .inr (8, [.int 120, .int 1, .ref tspc, .int (nI ksp)])), (tspc, .inl (G.2.1, 120, .inl ftsp)), (tln, .inr (8, [.int 9, .int 7, .ref tlnc, .int (nI (kln + 1))])), (tlnc, .inl (G.2.1, 63, .inl gtln3697)), (h0, .inr (10, [.ref tby, .int (nI kt), .ref tln, .ref tsp, .int kd13713, .int (nI ks13714), .int (nI kn13715), .int tf13696])), (tby, .inl (G.2.1, 240, .inl fby))] := hD
            have w3716 := hr3711
            refine lv_aload_n hx hb dX10_takesLine_135 rfl (lv_at hl 2 rfl) ?_
            refine gf_X10_20 hC rfl hK hP 4 rfl rfl dX10_takesLine_136 ?_
            refine lv_iload_n hx hb dX10_takesLine_139 rfl (lv_at hl 1 rfl) ?_
            refine lv_iconst (v := 4) hx hb dX10_takesLine_140 (by decide) ?_
            refine lv_iconst (v := 1) hx hb dX10_takesLine_141 (by decide) ?_
            refine vV (wr := [(tsp, .inr (8, [.int 120, .int 1, .ref tspc, .int (nI ksp)])), (tspc, .inl (G.2.1, 120, .inl ftsp)), (h0, .inr (10, [.ref tby, .int (nI kt), .ref tln, .ref tsp, .int kd13713, .int (nI ks13714), .int (nI kn13715), .int tf13696])), (tby, .inl (G.2.1, 240, .inl fby))]) hC hK hl hP hD hS hA (c_T_set l G tln (nI kln) 4 1 9 7 tlnc (kln + 1) gtln3697 (by omega) (by omega) (by omega)) si_X10_66 [2, 3] [0, 1, 4, 5] rfl rfl (by decide) rfl (by decide) (by decide) rfl rfl rfl rfl rfl (Nat.le_of_ble_eq_true rfl) ⟨Nat.le_of_ble_eq_true rfl, Nat.le_of_ble_eq_true rfl⟩ ⟨Nat.le_of_ble_eq_true rfl, Nat.le_of_ble_eq_true rfl⟩ dX10_takesLine_142 (fun u3718 H locs hr3717 hP hD hS => ?_)
            obtain ⟨f13719, rfl⟩ : ∃ z9, z9 = u3718 := ⟨_, rfl⟩
            try dsimp only at hr3717
            have hP : va_P G.1 vwCl [(tsp, .inr (8, [.int 120, .int 1, .ref tspc, .int (nI ksp)])), (tspc, .inl (G.2.1, 120, .inl ftsp)), (h0, .inr (10, [.ref tby, .int (nI kt), .ref tln, .ref tsp, .int kd13713, .int (nI ks13714), .int (nI kn13715), .int tf13696])), (tby, .inl (G.2.1, 240, .inl fby)), (tln, .inr (8, [.int 9, .int 7, .ref tlnc, .int (nI (kln + 1))])), (tlnc, .inl (G.2.1, 63, .inl f13719))] H := hP
            have hD : va_D A [(tsp, .inr (8, [.int 120, .int 1, .ref tspc, .int (nI ksp)])), (tspc, .inl (G.2.1, 120, .inl ftsp)), (h0, .inr (10, [.ref tby, .int (nI kt), .ref tln, .ref tsp, .int kd13713, .int (nI ks13714), .int (nI kn13715), .int tf13696])), (tby, .inl (G.2.1, 240, .inl fby)), (tln, .inr (8, [.int 9, .int 7, .ref tlnc, .int (nI (kln + 1))])), (tlnc, .inl (G.2.1, 63, .inl f13719))] := hD
            have w3720 := hr3717
            refine lv_aload_n hx hb dX10_takesLine_145 rfl (lv_at hl 2 rfl) ?_
            refine lv_iconst (v := 0) hx hb dX10_takesLine_146 (by decide) ?_
            refine iVo (wr := [(tln, .inr (8, [.int 9, .int 7, .ref tlnc, .int (nI (kln + 1))])), (tlnc, .inl (G.2.1, 63, .inl f13719))]) hO hC hK hl hP hD hS hA (t_cond0 l G K h0 tby kt tln tsp kd13713 ks13714 kn13715 tf13696 fby tspc ksp ftsp (by omega) (by omega) (by omega) (by omega)) si_X10_121 [2, 3, 0, 1] [4, 5] rfl rfl (by decide) rfl (by decide) (by decide) rfl rfl rfl rfl rfl (Nat.le_of_ble_eq_true rfl) ⟨Nat.le_of_ble_eq_true rfl, Nat.le_of_ble_eq_true rfl⟩ ⟨Nat.le_of_ble_eq_true rfl, Nat.le_of_ble_eq_true rfl⟩ dX10_takesLine_147 (fun r3721 u3722 H locs hr3721 hP hD hS => ?_)
            obtain ⟨kd13723, ks13724, kn13725, tf13726, ksp13727, gtsp3728⟩ := u3722
            try dsimp only at hr3721
            have hP : va_P G.1 vwCl [(tln, .inr (8, [.int 9, .int 7, .ref tlnc, .int (nI (kln + 1))])), (tlnc, .inl (G.2.1, 63, .inl f13719)), (h0, .inr (10, [.ref tby, .int (nI kt), .ref tln, .ref tsp, .int kd13723, .int (nI ks13724), .int (nI kn13725), .int tf13726])), (tby, .inl (G.2.1, 240, .inl fby)), (tsp, .inr (8, [.int 120, .int 1, .ref tspc, .int (nI ksp13727)])), (tspc, .inl (G.2.1, 120, .inl gtsp3728))] H := hP
            have hD : va_D A [(tln, .inr (8, [.int 9, .int 7, .ref tlnc, .int (nI (kln + 1))])), (tlnc, .inl (G.2.1, 63, .inl f13719)), (h0, .inr (10, [.ref tby, .int (nI kt), .ref tln, .ref tsp, .int kd13723, .int (nI ks13724), .int (nI kn13725), .int tf13726])), (tby, .inl (G.2.1, 240, .inl fby)), (tsp, .inr (8, [.int 120, .int 1, .ref tspc, .int (nI ksp13727)])), (tspc, .inl (G.2.1, 120, .inl gtsp3728))] := hD
            obtain ⟨hr3721, w3729⟩ := hr3721
            rcases hr3721 with rfl | rfl
            · refine lv_if_ne (tgt := 155) hx hb dX10_takesLine_150 (by decide) (fun _ => ?_) (fun c9 => absurd c9 (by decide))
              refine lv_aload_n hx hb dX10_takesLine_155 rfl (lv_at hl 2 rfl) ?_
              refine gf_X10_20 hC rfl hK hP 2 rfl rfl dX10_takesLine_156 ?_
              refine lv_iload_n hx hb dX10_takesLine_159 rfl (lv_at hl 1 rfl) ?_
              refine lv_bipush (v := 6) hx hb dX10_takesLine_160 (by decide) ?_
              refine lv_aload_n hx hb dX10_takesLine_162 rfl (lv_at hl 2 rfl) ?_
              refine gf_X10_24 hC rfl hK hP 2 rfl rfl dX10_takesLine_163 ?_
              refine pV hC hK hl hP hD (c_T_count l G tsp 120 1 tspc ksp13727) si_X10_71 [4] rfl rfl (by decide) rfl rfl rfl rfl rfl (Nat.le_of_ble_eq_true rfl) ⟨Nat.le_of_ble_eq_true rfl, Nat.le_of_ble_eq_true rfl⟩ ⟨by first | exact Nat.le_of_ble_eq_true rfl | exact Nat.zero_le _, by first | exact Nat.le_of_ble_eq_true rfl | exact Nat.zero_le _⟩ dX10_takesLine_166 (fun r3731 hr3731 => ?_)
              obtain rfl := hr3731
              refine lv_aload_n hx hb dX10_takesLine_169 rfl (lv_at hl 2 rfl) ?_
              refine gf_X10_20 hC rfl hK hP 2 rfl rfl dX10_takesLine_170 ?_
              refine lv_iload_n hx hb dX10_takesLine_173 rfl (lv_at hl 1 rfl) ?_
              refine lv_iconst (v := 5) hx hb dX10_takesLine_174 (by decide) ?_
              refine pV hC hK hl hP hD (c_T_at l G tln (nI kln) 5 9 7 tlnc (kln + 1) f13719 (by omega) (by omega) (by omega)) si_X10_74 [0, 1] rfl rfl (by decide) rfl rfl rfl rfl rfl (Nat.le_of_ble_eq_true rfl) ⟨Nat.le_of_ble_eq_true rfl, Nat.le_of_ble_eq_true rfl⟩ ⟨by first | exact Nat.le_of_ble_eq_true rfl | exact Nat.zero_le _, by first | exact Nat.le_of_ble_eq_true rfl | exact Nat.zero_le _⟩ dX10_takesLine_175 (fun r3733 hr3733 => ?_)
              refine lv_isub hx hb dX10_takesLine_178 ?_
              refine vV (wr := [(h0, .inr (10, [.ref tby, .int (nI kt), .ref tln, .ref tsp, .int kd13723, .int (nI ks13724), .int (nI kn13725), .int tf13726])), (tby, .inl (G.2.1, 240, .inl fby)), (tsp, .inr (8, [.int 120, .int 1, .ref tspc, .int (nI ksp13727)])), (tspc, .inl (G.2.1, 120, .inl gtsp3728))]) hC hK hl hP hD hS hA (c_T_set l G tln (nI kln) 6 ((nI ksp13727) - r3733) 9 7 tlnc (kln + 1) f13719 (by omega) (by omega) (by omega)) si_X10_66 [0, 1] [2, 3, 4, 5] rfl rfl (by decide) rfl (by decide) (by decide) rfl rfl rfl rfl rfl (Nat.le_of_ble_eq_true rfl) ⟨Nat.le_of_ble_eq_true rfl, Nat.le_of_ble_eq_true rfl⟩ ⟨Nat.le_of_ble_eq_true rfl, Nat.le_of_ble_eq_true rfl⟩ dX10_takesLine_179 (fun u3736 H locs hr3735 hP hD hS => ?_)
              obtain ⟨f13737, rfl⟩ : ∃ z9, z9 = u3736 := ⟨_, rfl⟩
              try dsimp only at hr3735
              have hP : va_P G.1 vwCl [(h0, .inr (10, [.ref tby, .int (nI kt), .ref tln, .ref tsp, .int kd13723, .int (nI ks13724), .int (nI kn13725), .int tf13726])), (tby, .inl (G.2.1, 240, .inl fby)), (tsp, .inr (8, [.int 120, .int 1, .ref tspc, .int (nI ksp13727)])), (tspc, .inl (G.2.1, 120, .inl gtsp3728)), (tln, .inr (8, [.int 9, .int 7, .ref tlnc, .int (nI (kln + 1))])), (tlnc, .inl (G.2.1, 63, .inl f13737))] H := hP
              have hD : va_D A [(h0, .inr (10, [.ref tby, .int (nI kt), .ref tln, .ref tsp, .int kd13723, .int (nI ks13724), .int (nI kn13725), .int tf13726])), (tby, .inl (G.2.1, 240, .inl fby)), (tsp, .inr (8, [.int 120, .int 1, .ref tspc, .int (nI ksp13727)])), (tspc, .inl (G.2.1, 120, .inl gtsp3728)), (tln, .inr (8, [.int 9, .int 7, .ref tlnc, .int (nI (kln + 1))])), (tlnc, .inl (G.2.1, 63, .inl f13737))] := hD
              have w3738 := hr3735
              refine lv_aload_n hx hb dX10_takesLine_182 rfl (lv_at hl 2 rfl) ?_
              refine lv_bipush (v := 59) hx hb dX10_takesLine_183 (by decide) ?_
              refine iV (wr := [(tsp, .inr (8, [.int 120, .int 1, .ref tspc, .int (nI ksp13727)])), (tspc, .inl (G.2.1, 120, .inl gtsp3728)), (tln, .inr (8, [.int 9, .int 7, .ref tlnc, .int (nI (kln + 1))])), (tlnc, .inl (G.2.1, 63, .inl f13737))]) hC hK hl hP hD hS hA (t_takesByte l G h0 59 tby kt tln tsp kd13723 ks13724 kn13725 tf13726 fby (by omega) (by omega) (by omega)) si_X10_124 [0, 1] [2, 3, 4, 5] rfl rfl (by decide) rfl (by decide) (by decide) rfl rfl rfl rfl rfl (Nat.le_of_ble_eq_true rfl) ⟨Nat.le_of_ble_eq_true rfl, Nat.le_of_ble_eq_true rfl⟩ ⟨Nat.le_of_ble_eq_true rfl, Nat.le_of_ble_eq_true rfl⟩ dX10_takesLine_185 (fun r3739 u3740 H locs hr3739 hP hD hS => ?_)
              obtain ⟨kd13741, ks13742, kn13743, tf13744⟩ := u3740
              try dsimp only at hr3739
              have hP : va_P G.1 vwCl [(tsp, .inr (8, [.int 120, .int 1, .ref tspc, .int (nI ksp13727)])), (tspc, .inl (G.2.1, 120, .inl gtsp3728)), (tln, .inr (8, [.int 9, .int 7, .ref tlnc, .int (nI (kln + 1))])), (tlnc, .inl (G.2.1, 63, .inl f13737)), (h0, .inr (10, [.ref tby, .int (nI kt), .ref tln, .ref tsp, .int kd13741, .int (nI ks13742), .int (nI kn13743), .int tf13744])), (tby, .inl (G.2.1, 240, .inl fby))] H := hP
              have hD : va_D A [(tsp, .inr (8, [.int 120, .int 1, .ref tspc, .int (nI ksp13727)])), (tspc, .inl (G.2.1, 120, .inl gtsp3728)), (tln, .inr (8, [.int 9, .int 7, .ref tlnc, .int (nI (kln + 1))])), (tlnc, .inl (G.2.1, 63, .inl f13737)), (h0, .inr (10, [.ref tby, .int (nI kt), .ref tln, .ref tsp, .int kd13741, .int (nI ks13742), .int (nI kn13743), .int tf13744])), (tby, .inl (G.2.1, 240, .inl fby))] := hD
              obtain ⟨hr3739, w3745⟩ := hr3739
              rcases hr3739 with rfl | rfl
              · exact RI (v := 1) hC hP hD hS [4, 5, 2, 3, 0, 1] (kd13741, ks13742, kn13743, tf13744, (kln + 1), f13737, ksp13727, gtsp3728) rfl rfl (by decide) (⟨Or.inl (rfl), by dsimp only; omega⟩) (by decide +kernel) dX10_takesLine_188
              · exact RI (v := 0) hC hP hD hS [4, 5, 2, 3, 0, 1] (kd13741, ks13742, kn13743, tf13744, (kln + 1), f13737, ksp13727, gtsp3728) rfl rfl (by decide) (⟨Or.inr (rfl), by dsimp only; omega⟩) (by decide +kernel) dX10_takesLine_188
            · refine lv_if_ne (tgt := 155) hx hb dX10_takesLine_150 (by decide) (fun c9 => absurd (by decide) c9) (fun _ => ?_)
              refine lv_iconst (v := 0) hx hb dX10_takesLine_153 (by decide) ?_
              exact RI (v := 0) hC hP hD hS [2, 3, 0, 1, 4, 5] (kd13723, ks13724, kn13725, tf13726, (kln + 1), f13719, ksp13727, gtsp3728) rfl rfl (by decide) (⟨Or.inr (rfl), by dsimp only; omega⟩) (by decide +kernel) dX10_takesLine_154
          · refine lv_if_eq (tgt := 182) hx hb dX10_takesLine_128 (by decide) (fun _ => ?_) (fun c9 => absurd (by decide) c9)
            refine lv_aload_n hx hb dX10_takesLine_182 rfl (lv_at hl 2 rfl) ?_
            refine lv_bipush (v := 59) hx hb dX10_takesLine_183 (by decide) ?_
            refine iV (wr := [(tsp, .inr (8, [.int 120, .int 1, .ref tspc, .int (nI ksp)])), (tspc, .inl (G.2.1, 120, .inl ftsp)), (tln, .inr (8, [.int 9, .int 7, .ref tlnc, .int (nI (kln + 1))])), (tlnc, .inl (G.2.1, 63, .inl gtln3697))]) hC hK hl hP hD hS hA (t_takesByte l G h0 59 tby kt tln tsp kd13693 ks13694 kn13695 tf13696 fby (by omega) (by omega) (by omega)) si_X10_124 [2, 3] [0, 1, 4, 5] rfl rfl (by decide) rfl (by decide) (by decide) rfl rfl rfl rfl rfl (Nat.le_of_ble_eq_true rfl) ⟨Nat.le_of_ble_eq_true rfl, Nat.le_of_ble_eq_true rfl⟩ ⟨Nat.le_of_ble_eq_true rfl, Nat.le_of_ble_eq_true rfl⟩ dX10_takesLine_185 (fun r3747 u3748 H locs hr3747 hP hD hS => ?_)
            obtain ⟨kd13749, ks13750, kn13751, tf13752⟩ := u3748
            try dsimp only at hr3747
            have hP : va_P G.1 vwCl [(tsp, .inr (8, [.int 120, .int 1, .ref tspc, .int (nI ksp)])), (tspc, .inl (G.2.1, 120, .inl ftsp)), (tln, .inr (8, [.int 9, .int 7, .ref tlnc, .int (nI (kln + 1))])), (tlnc, .inl (G.2.1, 63, .inl gtln3697)), (h0, .inr (10, [.ref tby, .int (nI kt), .ref tln, .ref tsp, .int kd13749, .int (nI ks13750), .int (nI kn13751), .int tf13752])), (tby, .inl (G.2.1, 240, .inl fby))] H := hP
            have hD : va_D A [(tsp, .inr (8, [.int 120, .int 1, .ref tspc, .int (nI ksp)])), (tspc, .inl (G.2.1, 120, .inl ftsp)), (tln, .inr (8, [.int 9, .int 7, .ref tlnc, .int (nI (kln + 1))])), (tlnc, .inl (G.2.1, 63, .inl gtln3697)), (h0, .inr (10, [.ref tby, .int (nI kt), .ref tln, .ref tsp, .int kd13749, .int (nI ks13750), .int (nI kn13751), .int tf13752])), (tby, .inl (G.2.1, 240, .inl fby))] := hD
            obtain ⟨hr3747, w3753⟩ := hr3747
            rcases hr3747 with rfl | rfl
            · exact RI (v := 1) hC hP hD hS [4, 5, 2, 3, 0, 1] (kd13749, ks13750, kn13751, tf13752, (kln + 1), gtln3697, ksp, ftsp) rfl rfl (by decide) (⟨Or.inl (rfl), by dsimp only; omega⟩) (by decide +kernel) dX10_takesLine_188
            · exact RI (v := 0) hC hP hD hS [4, 5, 2, 3, 0, 1] (kd13749, ks13750, kn13751, tf13752, (kln + 1), gtln3697, ksp, ftsp) rfl rfl (by decide) (⟨Or.inr (rfl), by dsimp only; omega⟩) (by decide +kernel) dX10_takesLine_188
      · refine lv_if_ne (tgt := 117) hx hb dX10_takesLine_112 (by decide) (fun c9 => absurd (by decide) c9) (fun _ => ?_)
        refine lv_iconst (v := 0) hx hb dX10_takesLine_115 (by decide) ?_
        exact RI (v := 0) hC hP hD hS [2, 3, 4, 5, 0, 1] (kd13693, ks13694, kn13695, tf13696, (kln + 1), gtln3697, ksp, ftsp) rfl rfl (by decide) (⟨Or.inr (rfl), by dsimp only; omega⟩) (by decide +kernel) dX10_takesLine_116
    · refine lv_aload_n hx hb dX10_takesLine_87 rfl (lv_at hl 2 rfl) ?_
      refine iV (wr := [(tby, .inl (G.2.1, 240, .inl fby)), (tsp, .inr (8, [.int 120, .int 1, .ref tspc, .int (nI ksp)])), (tspc, .inl (G.2.1, 120, .inl ftsp)), (tln, .inr (8, [.int 9, .int 7, .ref tlnc, .int (nI (kln + 1))])), (tlnc, .inl (G.2.1, 63, .inl f13677))]) hC hK hl hP hD hS hA (t_refuse l G h0 tby kt tln tsp tkd ks kn tf9) si_X10_106 [0] [1, 2, 3, 4, 5] rfl rfl (by decide) rfl (by decide) (by decide) rfl rfl rfl rfl rfl (Nat.le_of_ble_eq_true rfl) ⟨Nat.le_of_ble_eq_true rfl, Nat.le_of_ble_eq_true rfl⟩ ⟨Nat.le_of_ble_eq_true rfl, Nat.le_of_ble_eq_true rfl⟩ dX10_takesLine_88 (fun r3755 u3756 H locs hr3755 hP hD hS => ?_)
      obtain ⟨tf13757, rfl⟩ : ∃ z9, z9 = u3756 := ⟨_, rfl⟩
      try dsimp only at hr3755
      have hP : va_P G.1 vwCl [(tby, .inl (G.2.1, 240, .inl fby)), (tsp, .inr (8, [.int 120, .int 1, .ref tspc, .int (nI ksp)])), (tspc, .inl (G.2.1, 120, .inl ftsp)), (tln, .inr (8, [.int 9, .int 7, .ref tlnc, .int (nI (kln + 1))])), (tlnc, .inl (G.2.1, 63, .inl f13677)), (h0, .inr (10, [.ref tby, .int (nI kt), .ref tln, .ref tsp, .int tkd, .int (nI ks), .int (nI kn), .int tf13757]))] H := hP
      have hD : va_D A [(tby, .inl (G.2.1, 240, .inl fby)), (tsp, .inr (8, [.int 120, .int 1, .ref tspc, .int (nI ksp)])), (tspc, .inl (G.2.1, 120, .inl ftsp)), (tln, .inr (8, [.int 9, .int 7, .ref tlnc, .int (nI (kln + 1))])), (tlnc, .inl (G.2.1, 63, .inl f13677)), (h0, .inr (10, [.ref tby, .int (nI kt), .ref tln, .ref tsp, .int tkd, .int (nI ks), .int (nI kn), .int tf13757]))] := hD
      obtain rfl := hr3755
      exact RI (v := 0) hC hP hD hS [5, 0, 3, 4, 1, 2] (tkd, ks, kn, tf13757, (kln + 1), f13677, ksp, ftsp) rfl rfl (by decide) (⟨Or.inr (rfl), by dsimp only; omega⟩) (by decide +kernel) dX10_takesLine_91
  · refine iV (wr := [(h0, .inr (10, [.ref tby, .int (nI kt), .ref tln, .ref tsp, .int tkd, .int (nI ks), .int (nI kn), .int tf9])), (tby, .inl (G.2.1, 240, .inl fby)), (tlnc, .inl (G.2.1, 63, .inl ftln)), (tsp, .inr (8, [.int 120, .int 1, .ref tspc, .int (nI ksp)])), (tspc, .inl (G.2.1, 120, .inl ftsp))]) hC hK hl hP hD hS hA (c_T_appendF l G tln 9 7 tlnc kln (by omega) (by omega)) si_X10_59 [2] [0, 1, 3, 4, 5] rfl rfl (by decide) rfl (by decide) (by decide) rfl rfl rfl rfl rfl (Nat.le_of_ble_eq_true rfl) ⟨Nat.le_of_ble_eq_true rfl, Nat.le_of_ble_eq_true rfl⟩ ⟨Nat.le_of_ble_eq_true rfl, Nat.le_of_ble_eq_true rfl⟩ dX10_takesLine_4 (fun r3759 u3760 H locs hr3759 hP hD hS => ?_)
    have hP : va_P G.1 vwCl [(h0, .inr (10, [.ref tby, .int (nI kt), .ref tln, .ref tsp, .int tkd, .int (nI ks), .int (nI kn), .int tf9])), (tby, .inl (G.2.1, 240, .inl fby)), (tlnc, .inl (G.2.1, 63, .inl ftln)), (tsp, .inr (8, [.int 120, .int 1, .ref tspc, .int (nI ksp)])), (tspc, .inl (G.2.1, 120, .inl ftsp)), (tln, .inr (8, [.int 9, .int 7, .ref tlnc, .int (nI kln)]))] H := hP
    have hD : va_D A [(h0, .inr (10, [.ref tby, .int (nI kt), .ref tln, .ref tsp, .int tkd, .int (nI ks), .int (nI kn), .int tf9])), (tby, .inl (G.2.1, 240, .inl fby)), (tlnc, .inl (G.2.1, 63, .inl ftln)), (tsp, .inr (8, [.int 120, .int 1, .ref tspc, .int (nI ksp)])), (tspc, .inl (G.2.1, 120, .inl ftsp)), (tln, .inr (8, [.int 9, .int 7, .ref tlnc, .int (nI kln)]))] := hD
    obtain rfl := hr3759
    refine lv_istore_n (lv' := [(1, .int (-2)), (0, .ref h0)]) hx hb dX10_takesLine_7 rfl hl (by decide) rfl (fun ls hl => ?_)
    refine lv_iload_n hx hb dX10_takesLine_8 rfl (lv_at hl 0 rfl) ?_
    refine lv_if_ge (tgt := 17) hx hb dX10_takesLine_9 (by decide) (fun c9 => absurd c9 (by decide)) (fun _ => ?_)
    refine lv_aload_n hx hb dX10_takesLine_12 rfl (lv_at hl 1 rfl) ?_
    refine iV (wr := [(tby, .inl (G.2.1, 240, .inl fby)), (tlnc, .inl (G.2.1, 63, .inl ftln)), (tsp, .inr (8, [.int 120, .int 1, .ref tspc, .int (nI ksp)])), (tspc, .inl (G.2.1, 120, .inl ftsp)), (tln, .inr (8, [.int 9, .int 7, .ref tlnc, .int (nI kln)]))]) hC hK hl hP hD hS hA (t_refuse l G h0 tby kt tln tsp tkd ks kn tf9) si_X10_106 [0] [1, 2, 3, 4, 5] rfl rfl (by decide) rfl (by decide) (by decide) rfl rfl rfl rfl rfl (Nat.le_of_ble_eq_true rfl) ⟨Nat.le_of_ble_eq_true rfl, Nat.le_of_ble_eq_true rfl⟩ ⟨Nat.le_of_ble_eq_true rfl, Nat.le_of_ble_eq_true rfl⟩ dX10_takesLine_13 (fun r3762 u3763 H locs hr3762 hP hD hS => ?_)
    obtain ⟨tf13764, rfl⟩ : ∃ z9, z9 = u3763 := ⟨_, rfl⟩
    try dsimp only at hr3762
    have hP : va_P G.1 vwCl [(tby, .inl (G.2.1, 240, .inl fby)), (tlnc, .inl (G.2.1, 63, .inl ftln)), (tsp, .inr (8, [.int 120, .int 1, .ref tspc, .int (nI ksp)])), (tspc, .inl (G.2.1, 120, .inl ftsp)), (tln, .inr (8, [.int 9, .int 7, .ref tlnc, .int (nI kln)])), (h0, .inr (10, [.ref tby, .int (nI kt), .ref tln, .ref tsp, .int tkd, .int (nI ks), .int (nI kn), .int tf13764]))] H := hP
    have hD : va_D A [(tby, .inl (G.2.1, 240, .inl fby)), (tlnc, .inl (G.2.1, 63, .inl ftln)), (tsp, .inr (8, [.int 120, .int 1, .ref tspc, .int (nI ksp)])), (tspc, .inl (G.2.1, 120, .inl ftsp)), (tln, .inr (8, [.int 9, .int 7, .ref tlnc, .int (nI kln)])), (h0, .inr (10, [.ref tby, .int (nI kt), .ref tln, .ref tsp, .int tkd, .int (nI ks), .int (nI kn), .int tf13764]))] := hD
    obtain rfl := hr3762
    exact RI (v := 0) hC hP hD hS [5, 0, 4, 1, 2, 3] (tkd, ks, kn, tf13764, kln, ftln, ksp, ftsp) rfl rfl (by decide) (⟨Or.inr (rfl), by dsimp only; omega⟩) (by decide +kernel) dX10_takesLine_16
set_option maxHeartbeats 4000000 in
set_option maxRecDepth 100000 in
theorem t_scan (l : Launch) (G : GG) (K : OO) (h0 : Nat) (tby : Nat) (kt : Nat) (tln : Nat) (tsp : Nat) (tkd : Int32) (ks : Nat) (kn : Nat) (tf9 : Int32) (fby : Nat → Int32) (tlnc : Nat) (kln : Nat) (ftln : Nat → Int32) (tspc : Nat) (ksp : Nat) (ftsp : Nat → Int32) (hkt : kt ≤ 240) (hks : ks ≤ 240) (hkn : kn ≤ 240) (hkln : kln ≤ 9) (hksp : ksp ≤ 120) : MIo l G K yX10_scan cX10_scan 2 (some .int) 31 0 0 [.ref h0] [(h0, .inr (10, [.ref tby, .int (nI kt), .ref tln, .ref tsp, .int tkd, .int (nI ks), .int (nI kn), .int tf9])), (tby, .inl (G.2.1, 240, .inl fby)), (tln, .inr (8, [.int 9, .int 7, .ref tlnc, .int (nI kln)])), (tlnc, .inl (G.2.1, 63, .inl ftln)), (tsp, .inr (8, [.int 120, .int 1, .ref tspc, .int (nI ksp)])), (tspc, .inl (G.2.1, 120, .inl ftsp))] (fun (r : Int32) (u : Int32 × Nat × Nat × Int32 × Nat × (Nat → Int32) × Nat × (Nat → Int32)) => (True) ∧ (u.2.1 ≤ 240 ∧ u.2.2.1 ≤ 240 ∧ u.2.2.2.2.1 ≤ 9 ∧ u.2.2.2.2.2.2.1 ≤ 120)) (fun u : Int32 × Nat × Nat × Int32 × Nat × (Nat → Int32) × Nat × (Nat → Int32) => [(h0, .inr (10, [.ref tby, .int (nI kt), .ref tln, .ref tsp, .int u.1, .int (nI u.2.1), .int (nI u.2.2.1), .int u.2.2.2.1])), (tby, .inl (G.2.1, 240, .inl fby)), (tln, .inr (8, [.int 9, .int 7, .ref tlnc, .int (nI u.2.2.2.2.1)])), (tlnc, .inl (G.2.1, 63, .inl u.2.2.2.2.2.1)), (tsp, .inr (8, [.int 120, .int 1, .ref tspc, .int (nI u.2.2.2.2.2.2.1)])), (tspc, .inl (G.2.1, 120, .inl u.2.2.2.2.2.2.2))]) := by
  refine MIo.start (by decide +kernel) (Nat.le_of_ble_eq_true rfl) ?_
  intro p e s m below meth c A ls hC hK hP hD hS hA hl hO
  have hl : lv_has ls 2 [(0, .ref h0)] := hl
  obtain ⟨hx, hb, hr, hml, hB, hown, hlocks, hnm⟩ := id hC
  refine lv_aload_n hx hb dX10_scan_0 rfl (lv_at hl 0 rfl) ?_
  refine gf_X10_20 hC rfl hK hP 0 rfl rfl dX10_scan_1 ?_
  refine lv_iconst (v := 0) hx hb dX10_scan_4 (by decide) ?_
  refine vV (wr := [(h0, .inr (10, [.ref tby, .int (nI kt), .ref tln, .ref tsp, .int tkd, .int (nI ks), .int (nI kn), .int tf9])), (tby, .inl (G.2.1, 240, .inl fby)), (tlnc, .inl (G.2.1, 63, .inl ftln)), (tsp, .inr (8, [.int 120, .int 1, .ref tspc, .int (nI ksp)])), (tspc, .inl (G.2.1, 120, .inl ftsp))]) hC hK hl hP hD hS hA (c_T_cut0 l G tln 9 7 tlnc kln (by omega)) si_X10_43 [2] [0, 1, 3, 4, 5] rfl rfl (by decide) rfl (by decide) (by decide) rfl rfl rfl rfl rfl (Nat.le_of_ble_eq_true rfl) ⟨Nat.le_of_ble_eq_true rfl, Nat.le_of_ble_eq_true rfl⟩ ⟨Nat.le_of_ble_eq_true rfl, Nat.le_of_ble_eq_true rfl⟩ dX10_scan_5 (fun u3767 H locs hr3766 hP hD hS => ?_)
  have hP : va_P G.1 vwCl [(h0, .inr (10, [.ref tby, .int (nI kt), .ref tln, .ref tsp, .int tkd, .int (nI ks), .int (nI kn), .int tf9])), (tby, .inl (G.2.1, 240, .inl fby)), (tlnc, .inl (G.2.1, 63, .inl ftln)), (tsp, .inr (8, [.int 120, .int 1, .ref tspc, .int (nI ksp)])), (tspc, .inl (G.2.1, 120, .inl ftsp)), (tln, .inr (8, [.int 9, .int 7, .ref tlnc, .int 0]))] H := hP
  have hD : va_D A [(h0, .inr (10, [.ref tby, .int (nI kt), .ref tln, .ref tsp, .int tkd, .int (nI ks), .int (nI kn), .int tf9])), (tby, .inl (G.2.1, 240, .inl fby)), (tlnc, .inl (G.2.1, 63, .inl ftln)), (tsp, .inr (8, [.int 120, .int 1, .ref tspc, .int (nI ksp)])), (tspc, .inl (G.2.1, 120, .inl ftsp)), (tln, .inr (8, [.int 9, .int 7, .ref tlnc, .int 0]))] := hD
  refine lv_aload_n hx hb dX10_scan_8 rfl (lv_at hl 0 rfl) ?_
  refine gf_X10_24 hC rfl hK hP 0 rfl rfl dX10_scan_9 ?_
  refine lv_iconst (v := 0) hx hb dX10_scan_12 (by decide) ?_
  refine vV (wr := [(h0, .inr (10, [.ref tby, .int (nI kt), .ref tln, .ref tsp, .int tkd, .int (nI ks), .int (nI kn), .int tf9])), (tby, .inl (G.2.1, 240, .inl fby)), (tlnc, .inl (G.2.1, 63, .inl ftln)), (tspc, .inl (G.2.1, 120, .inl ftsp)), (tln, .inr (8, [.int 9, .int 7, .ref tlnc, .int 0]))]) hC hK hl hP hD hS hA (c_T_cut0 l G tsp 120 1 tspc ksp (by omega)) si_X10_43 [3] [0, 1, 2, 4, 5] rfl rfl (by decide) rfl (by decide) (by decide) rfl rfl rfl rfl rfl (Nat.le_of_ble_eq_true rfl) ⟨Nat.le_of_ble_eq_true rfl, Nat.le_of_ble_eq_true rfl⟩ ⟨Nat.le_of_ble_eq_true rfl, Nat.le_of_ble_eq_true rfl⟩ dX10_scan_13 (fun u3769 H locs hr3768 hP hD hS => ?_)
  have hP : va_P G.1 vwCl [(h0, .inr (10, [.ref tby, .int (nI kt), .ref tln, .ref tsp, .int tkd, .int (nI ks), .int (nI kn), .int tf9])), (tby, .inl (G.2.1, 240, .inl fby)), (tlnc, .inl (G.2.1, 63, .inl ftln)), (tspc, .inl (G.2.1, 120, .inl ftsp)), (tln, .inr (8, [.int 9, .int 7, .ref tlnc, .int 0])), (tsp, .inr (8, [.int 120, .int 1, .ref tspc, .int 0]))] H := hP
  have hD : va_D A [(h0, .inr (10, [.ref tby, .int (nI kt), .ref tln, .ref tsp, .int tkd, .int (nI ks), .int (nI kn), .int tf9])), (tby, .inl (G.2.1, 240, .inl fby)), (tlnc, .inl (G.2.1, 63, .inl ftln)), (tspc, .inl (G.2.1, 120, .inl ftsp)), (tln, .inr (8, [.int 9, .int 7, .ref tlnc, .int 0])), (tsp, .inr (8, [.int 120, .int 1, .ref tspc, .int 0]))] := hD
  refine lv_aload_n hx hb dX10_scan_16 rfl (lv_at hl 0 rfl) ?_
  refine lv_iconst (v := (-1)) hx hb dX10_scan_17 (by decide) ?_
  refine pf_X10_40 hC rfl hK hP hD hS 0 (ws' := [(h0, .inr (10, [.ref tby, .int (nI kt), .ref tln, .ref tsp, .int tkd, .int (nI ks), .int (nI kn), .int (-1)])), (tby, .inl (G.2.1, 240, .inl fby)), (tlnc, .inl (G.2.1, 63, .inl ftln)), (tspc, .inl (G.2.1, 120, .inl ftsp)), (tln, .inr (8, [.int 9, .int 7, .ref tlnc, .int 0])), (tsp, .inr (8, [.int 120, .int 1, .ref tspc, .int 0]))]) rfl (Nat.le_of_ble_eq_true rfl) rfl rfl rfl dX10_scan_18 (fun H locs hP hD hS => ?_)
  refine lv_aload_n hx hb dX10_scan_21 rfl (lv_at hl 0 rfl) ?_
  refine lv_iconst (v := 0) hx hb dX10_scan_22 (by decide) ?_
  refine pf_X10_37 hC rfl hK hP hD hS 0 (ws' := [(h0, .inr (10, [.ref tby, .int (nI kt), .ref tln, .ref tsp, .int tkd, .int (nI ks), .int 0, .int (-1)])), (tby, .inl (G.2.1, 240, .inl fby)), (tlnc, .inl (G.2.1, 63, .inl ftln)), (tspc, .inl (G.2.1, 120, .inl ftsp)), (tln, .inr (8, [.int 9, .int 7, .ref tlnc, .int 0])), (tsp, .inr (8, [.int 120, .int 1, .ref tspc, .int 0]))]) rfl (Nat.le_of_ble_eq_true rfl) rfl rfl rfl dX10_scan_23 (fun H locs hP hD hS => ?_)
  refine lv_aload_n hx hb dX10_scan_26 rfl (lv_at hl 0 rfl) ?_
  refine vV (wr := [(tlnc, .inl (G.2.1, 63, .inl ftln)), (tspc, .inl (G.2.1, 120, .inl ftsp)), (tln, .inr (8, [.int 9, .int 7, .ref tlnc, .int 0])), (tsp, .inr (8, [.int 120, .int 1, .ref tspc, .int 0]))]) hC hK hl hP hD hS hA (t_advance l G h0 tby kt tln tsp tkd ks 0 (-1) fby (by omega) (by omega) (by omega)) si_X10_47 [0, 1] [2, 3, 4, 5] rfl rfl (by decide) rfl (by decide) (by decide) rfl rfl rfl rfl rfl (Nat.le_of_ble_eq_true rfl) ⟨Nat.le_of_ble_eq_true rfl, Nat.le_of_ble_eq_true rfl⟩ ⟨Nat.le_of_ble_eq_true rfl, Nat.le_of_ble_eq_true rfl⟩ dX10_scan_27 (fun u3771 H locs hr3770 hP hD hS => ?_)
  obtain ⟨kd13772, ks13773, kn13774⟩ := u3771
  try dsimp only at hr3770
  have hP : va_P G.1 vwCl [(tlnc, .inl (G.2.1, 63, .inl ftln)), (tspc, .inl (G.2.1, 120, .inl ftsp)), (tln, .inr (8, [.int 9, .int 7, .ref tlnc, .int 0])), (tsp, .inr (8, [.int 120, .int 1, .ref tspc, .int 0])), (h0, .inr (10, [.ref tby, .int (nI kt), .ref tln, .ref tsp, .int kd13772, .int (nI ks13773), .int (nI kn13774), .int (-1)])), (tby, .inl (G.2.1, 240, .inl fby))] H := hP
  have hD : va_D A [(tlnc, .inl (G.2.1, 63, .inl ftln)), (tspc, .inl (G.2.1, 120, .inl ftsp)), (tln, .inr (8, [.int 9, .int 7, .ref tlnc, .int 0])), (tsp, .inr (8, [.int 120, .int 1, .ref tspc, .int 0])), (h0, .inr (10, [.ref tby, .int (nI kt), .ref tln, .ref tsp, .int kd13772, .int (nI ks13773), .int (nI kn13774), .int (-1)])), (tby, .inl (G.2.1, 240, .inl fby))] := hD
  have w3775 := hr3770
  refine lv_iconst (v := 0) hx hb dX10_scan_30 (by decide) ?_
  refine lv_istore_n (lv' := [(1, .int 0), (0, .ref h0)]) hx hb dX10_scan_31 rfl hl (by decide) rfl (fun ls hl => ?_)
  have keyP : ∀ (nP kP : Nat) (vkd : Int32) (vtf : Int32) (vtln : Nat → Int32) (vtsp : Nat → Int32) (vks : Nat) (vkn : Nat) (vkl : Nat) (vksp : Nat) (H : Heap) (locs : List Loc) (ls : Array Slot), kP + nP = 10 → (vks ≤ 240) → (vkn ≤ 240) → (vkl ≤ 9) → (vksp ≤ 120) → va_P G.1 vwCl [(tlnc, .inl (G.2.1, 63, .inl vtln)), (tspc, .inl (G.2.1, 120, .inl vtsp)), (tln, .inr (8, [.int 9, .int 7, .ref tlnc, .int (nI vkl)])), (tsp, .inr (8, [.int 120, .int 1, .ref tspc, .int (nI vksp)])), (h0, .inr (10, [.ref tby, .int (nI kt), .ref tln, .ref tsp, .int vkd, .int (nI vks), .int (nI vkn), .int vtf])), (tby, .inl (G.2.1, 240, .inl fby))] H → va_D A [(tlnc, .inl (G.2.1, 63, .inl vtln)), (tspc, .inl (G.2.1, 120, .inl vtsp)), (tln, .inr (8, [.int 9, .int 7, .ref tlnc, .int (nI vkl)])), (tsp, .inr (8, [.int 120, .int 1, .ref tspc, .int (nI vksp)])), (h0, .inr (10, [.ref tby, .int (nI kt), .ref tln, .ref tsp, .int vkd, .int (nI vks), .int (nI vkn), .int vtf])), (tby, .inl (G.2.1, 240, .inl fby))] → va_S A s.heap H locs → lv_has ls 2 [(1, .int (nI kP)), (0, .ref h0)] → W p l e (RM 31 0 0) s m ([.ref h0] : List Value).toArray below meth c H locs 0 0 (MQ below (QI G (fun (r : Int32) (u : Int32 × Nat × Nat × Int32 × Nat × (Nat → Int32) × Nat × (Nat → Int32)) => (True) ∧ (u.2.1 ≤ 240 ∧ u.2.2.1 ≤ 240 ∧ u.2.2.2.2.1 ≤ 9 ∧ u.2.2.2.2.2.2.1 ≤ 120)) (fun u : Int32 × Nat × Nat × Int32 × Nat × (Nat → Int32) × Nat × (Nat → Int32) => [(h0, .inr (10, [.ref tby, .int (nI kt), .ref tln, .ref tsp, .int u.1, .int (nI u.2.1), .int (nI u.2.2.1), .int u.2.2.2.1])), (tby, .inl (G.2.1, 240, .inl fby)), (tln, .inr (8, [.int 9, .int 7, .ref tlnc, .int (nI u.2.2.2.2.1)])), (tlnc, .inl (G.2.1, 63, .inl u.2.2.2.2.2.1)), (tsp, .inr (8, [.int 120, .int 1, .ref tspc, .int (nI u.2.2.2.2.2.2.1)])), (tspc, .inl (G.2.1, 120, .inl u.2.2.2.2.2.2.2))]) A) ([.ref h0] : List Value).toArray s 0 0 A) (F0 m 32 ls []) := by
    intro nP
    induction nP with
    | zero =>
      intro kP vkd vtf vtln vtsp vks vkn vkl vksp H locs ls hkP hvks hvkn hvkl hvksp hP hD hS hl
      obtain rfl : 10 = kP := by omega
      have hl : lv_has ls 2 [(1, .int 10), (0, .ref h0)] := hl
      refine lv_iload_n hx hb dX10_scan_32 rfl (lv_at hl 0 rfl) ?_
      refine lv_bipush (v := 9) hx hb dX10_scan_33 (by decide) ?_
      refine lv_icmp_gt (tgt := 64) hx hb dX10_scan_35 (by decide) (fun _ => ?_) (fun c9 => absurd (by decide) c9)
      refine lv_aload_n hx hb dX10_scan_64 rfl (lv_at hl 1 rfl) ?_
      refine gf_X10_40 hC rfl hK hP 4 rfl rfl dX10_scan_65 ?_
      exact RI (v := vtf) hC hP hD hS [4, 5, 2, 0, 3, 1] (vkd, vks, vkn, vtf, vkl, vtln, vksp, vtsp) rfl rfl (by decide) (⟨trivial, by dsimp only; omega⟩) rfl dX10_scan_68
    | succ nP ihP =>
      intro kP vkd vtf vtln vtsp vks vkn vkl vksp H locs ls hkP hvks hvkn hvkl hvksp hP hD hS hl
      refine lv_iload_n hx hb dX10_scan_32 rfl (lv_at hl 0 rfl) ?_
      refine lv_bipush (v := 9) hx hb dX10_scan_33 (by decide) ?_
      refine lv_icmp_gt (tgt := 64) hx hb dX10_scan_35 (by decide) (fun c9 => absurd c9 (nI_nlt (a := 9) (b := kP) (by omega) (by omega))) (fun _ => ?_)
      refine lv_aload_n hx hb dX10_scan_38 rfl (lv_at hl 1 rfl) ?_
      refine gf_X10_31 hC rfl hK hP 4 rfl rfl dX10_scan_39 ?_
      refine lv_iconst (v := (-1)) hx hb dX10_scan_42 (by decide) ?_
      refine lv_icmp_eq (tgt := 64) hx hb dX10_scan_43 (by decide) (fun c_43_3776 => ?_) (fun c_43_3776 => ?_)
      · refine lv_aload_n hx hb dX10_scan_64 rfl (lv_at hl 1 rfl) ?_
        refine gf_X10_40 hC rfl hK hP 4 rfl rfl dX10_scan_65 ?_
        exact RI (v := vtf) hC hP hD hS [4, 5, 2, 0, 3, 1] (vkd, vks, vkn, vtf, vkl, vtln, vksp, vtsp) rfl rfl (by decide) (⟨trivial, by dsimp only; omega⟩) rfl dX10_scan_68
      · refine lv_aload_n hx hb dX10_scan_46 rfl (lv_at hl 1 rfl) ?_
        refine iVo (wr := []) hO hC hK hl hP hD hS hA (t_takesLine l G K h0 tby kt tln tsp vkd vks vkn vtf fby tlnc vkl vtln tspc vksp vtsp (by omega) (by omega) (by omega) (by omega) (by omega)) si_X10_50 [4, 5, 2, 0, 3, 1] [] rfl rfl (by decide) rfl (by decide) (by decide) rfl rfl rfl rfl rfl (Nat.le_of_ble_eq_true rfl) ⟨Nat.le_of_ble_eq_true rfl, Nat.le_of_ble_eq_true rfl⟩ ⟨Nat.le_of_ble_eq_true rfl, Nat.le_of_ble_eq_true rfl⟩ dX10_scan_47 (fun r3777 u3778 H locs hr3777 hP hD hS => ?_)
        obtain ⟨kd13779, ks13780, kn13781, tf13782, kln13783, gtln3784, ksp13785, gtsp3786⟩ := u3778
        try dsimp only at hr3777
        have hP : va_P G.1 vwCl [(h0, .inr (10, [.ref tby, .int (nI kt), .ref tln, .ref tsp, .int kd13779, .int (nI ks13780), .int (nI kn13781), .int tf13782])), (tby, .inl (G.2.1, 240, .inl fby)), (tln, .inr (8, [.int 9, .int 7, .ref tlnc, .int (nI kln13783)])), (tlnc, .inl (G.2.1, 63, .inl gtln3784)), (tsp, .inr (8, [.int 120, .int 1, .ref tspc, .int (nI ksp13785)])), (tspc, .inl (G.2.1, 120, .inl gtsp3786))] H := hP
        have hD : va_D A [(h0, .inr (10, [.ref tby, .int (nI kt), .ref tln, .ref tsp, .int kd13779, .int (nI ks13780), .int (nI kn13781), .int tf13782])), (tby, .inl (G.2.1, 240, .inl fby)), (tln, .inr (8, [.int 9, .int 7, .ref tlnc, .int (nI kln13783)])), (tlnc, .inl (G.2.1, 63, .inl gtln3784)), (tsp, .inr (8, [.int 120, .int 1, .ref tspc, .int (nI ksp13785)])), (tspc, .inl (G.2.1, 120, .inl gtsp3786))] := hD
        obtain ⟨hr3777, w3787⟩ := hr3777
        rcases hr3777 with rfl | rfl
        · refine lv_if_ne (tgt := 58) hx hb dX10_scan_50 (by decide) (fun _ => ?_) (fun c9 => absurd c9 (by decide))
          refine lv_iinc (v := nI (kP + 1)) (lv' := [(1, .int (nI (kP + 1))), (0, .ref h0)]) hx hb dX10_scan_58 hl (k := 0) rfl (nI_1 _) (by decide) rfl (fun ls hl => ?_)
          refine lv_goto (tgt := 32) hx hb dX10_scan_61 (by decide) ?_
          have hP := hP.sub (ws' := [(tlnc, .inl (G.2.1, 63, .inl gtln3784)), (tspc, .inl (G.2.1, 120, .inl gtsp3786)), (tln, .inr (8, [.int 9, .int 7, .ref tlnc, .int (nI kln13783)])), (tsp, .inr (8, [.int 120, .int 1, .ref tspc, .int (nI ksp13785)])), (h0, .inr (10, [.ref tby, .int (nI kt), .ref tln, .ref tsp, .int kd13779, .int (nI ks13780), .int (nI kn13781), .int tf13782])), (tby, .inl (G.2.1, 240, .inl fby))]) [3, 5, 2, 4, 0, 1] rfl
          have hD := hD.sub (ws' := [(tlnc, .inl (G.2.1, 63, .inl gtln3784)), (tspc, .inl (G.2.1, 120, .inl gtsp3786)), (tln, .inr (8, [.int 9, .int 7, .ref tlnc, .int (nI kln13783)])), (tsp, .inr (8, [.int 120, .int 1, .ref tspc, .int (nI ksp13785)])), (h0, .inr (10, [.ref tby, .int (nI kt), .ref tln, .ref tsp, .int kd13779, .int (nI ks13780), .int (nI kn13781), .int tf13782])), (tby, .inl (G.2.1, 240, .inl fby))]) [3, 5, 2, 4, 0, 1] (by decide) rfl
          exact ihP (kP + 1) kd13779 tf13782 gtln3784 gtsp3786 ks13780 kn13781 kln13783 ksp13785 _ _ _ (by omega) (by first | assumption | exact Or.inl rfl | exact Or.inr rfl | omega) (by first | assumption | exact Or.inl rfl | exact Or.inr rfl | omega) (by first | assumption | exact Or.inl rfl | exact Or.inr rfl | omega) (by first | assumption | exact Or.inl rfl | exact Or.inr rfl | omega) hP hD hS (lv_sub hl [0, 1] rfl)
        · refine lv_if_ne (tgt := 58) hx hb dX10_scan_50 (by decide) (fun c9 => absurd (by decide) c9) (fun _ => ?_)
          refine lv_aload_n hx hb dX10_scan_53 rfl (lv_at hl 1 rfl) ?_
          refine gf_X10_40 hC rfl hK hP 0 rfl rfl dX10_scan_54 ?_
          exact RI (v := tf13782) hC hP hD hS [0, 1, 2, 3, 4, 5] (kd13779, ks13780, kn13781, tf13782, kln13783, gtln3784, ksp13785, gtsp3786) rfl rfl (by decide) (⟨trivial, by dsimp only; omega⟩) rfl dX10_scan_57
  exact keyP 10 0 kd13772 (-1) ftln ftsp ks13773 kn13774 0 0 _ _ _ (by omega) (by first | assumption | exact Or.inl rfl | exact Or.inr rfl | omega) (by first | assumption | exact Or.inl rfl | exact Or.inr rfl | omega) (by first | assumption | exact Or.inl rfl | exact Or.inr rfl | omega) (by first | assumption | exact Or.inl rfl | exact Or.inr rfl | omega) hP hD hS (lv_sub hl [0, 1] rfl)
set_option maxHeartbeats 4000000 in
set_option maxRecDepth 100000 in
theorem t_store (l : Launch) (G : GG) (h0 : Nat) (bb : Nat) (tby : Nat) (kt : Nat) (tln : Nat) (tsp : Nat) (tkd : Int32) (ts9 : Int32) (tn9 : Int32) (tf9 : Int32) (tlnc : Nat) (kln : Nat) (ftln : Nat → Int32) (tspc : Nat) (ksp : Nat) (ftsp : Nat → Int32) (bpersons : Nat) (bpapers : Nat) (bstamps : Nat) (bversions : Nat) (blines : Nat) (bsteps : Nat) (bsayings : Nat) (bfindings : Nat) (bwarnings : Nat) (bquestions : Nat) (td : Int32) (vd : Int32) (vl : Int32) (gp : Int32) (bversionsc : Nat) (kbversions : Nat) (fbversions : Nat → Int32) (blinesc : Nat) (kblines : Nat) (fblines : Nat → Int32) (bstepsc : Nat) (kbsteps : Nat) (fbsteps : Nat → Int32) (hkln : kln ≤ 9) (hksp : ksp ≤ 120) (hkbv : kbversions < 8) (hkblines : kblines ≤ 72) (hkbsteps : kbsteps ≤ 960) : MI l G yX10_store cX10_store 7 (some .int) 3 0 0 [.ref h0, .ref bb] [(h0, .inr (10, [.ref tby, .int (nI kt), .ref tln, .ref tsp, .int tkd, .int ts9, .int tn9, .int tf9])), (tln, .inr (8, [.int 9, .int 7, .ref tlnc, .int (nI kln)])), (tlnc, .inl (G.2.1, 63, .inl ftln)), (tsp, .inr (8, [.int 120, .int 1, .ref tspc, .int (nI ksp)])), (tspc, .inl (G.2.1, 120, .inl ftsp)), (bb, .inr (0, [.ref bpersons, .ref bpapers, .ref bstamps, .ref bversions, .ref blines, .ref bsteps, .ref bsayings, .ref bfindings, .ref bwarnings, .ref bquestions, .int td, .int vd, .int vl, .int gp])), (bversions, .inr (8, [.int 8, .int 3, .ref bversionsc, .int (nI kbversions)])), (bversionsc, .inl (G.2.1, 24, .inl fbversions)), (blines, .inr (8, [.int 72, .int 7, .ref blinesc, .int (nI kblines)])), (blinesc, .inl (G.2.1, 504, .inl fblines)), (bsteps, .inr (8, [.int 960, .int 1, .ref bstepsc, .int (nI kbsteps)])), (bstepsc, .inl (G.2.1, 960, .inl fbsteps))] (fun (r : Int32) (u : Nat × Nat × Nat × (Nat → Int32) × (Nat → Int32) × (Nat → Int32)) => (True) ∧ (u.1 ≤ 8 ∧ u.2.1 ≤ 72 ∧ u.2.2.1 ≤ 960)) (fun u : Nat × Nat × Nat × (Nat → Int32) × (Nat → Int32) × (Nat → Int32) => [(h0, .inr (10, [.ref tby, .int (nI kt), .ref tln, .ref tsp, .int tkd, .int ts9, .int tn9, .int tf9])), (tln, .inr (8, [.int 9, .int 7, .ref tlnc, .int (nI kln)])), (tlnc, .inl (G.2.1, 63, .inl ftln)), (tsp, .inr (8, [.int 120, .int 1, .ref tspc, .int (nI ksp)])), (tspc, .inl (G.2.1, 120, .inl ftsp)), (bb, .inr (0, [.ref bpersons, .ref bpapers, .ref bstamps, .ref bversions, .ref blines, .ref bsteps, .ref bsayings, .ref bfindings, .ref bwarnings, .ref bquestions, .int td, .int vd, .int vl, .int gp])), (bversions, .inr (8, [.int 8, .int 3, .ref bversionsc, .int (nI u.1)])), (bversionsc, .inl (G.2.1, 24, .inl u.2.2.2.1)), (blines, .inr (8, [.int 72, .int 7, .ref blinesc, .int (nI u.2.1)])), (blinesc, .inl (G.2.1, 504, .inl u.2.2.2.2.1)), (bsteps, .inr (8, [.int 960, .int 1, .ref bstepsc, .int (nI u.2.2.1)])), (bstepsc, .inl (G.2.1, 960, .inl u.2.2.2.2.2))]) := by
  refine MI.start (by decide +kernel) (Nat.le_of_ble_eq_true rfl) ?_
  intro p e s m below meth c A ls hC hK hP hD hS hA hl
  have hl : lv_has ls 7 [(0, .ref h0), (1, .ref bb)] := hl
  obtain ⟨hx, hb, hr, hml, hB, hown, hlocks, hnm⟩ := id hC
  refine lv_aload_n hx hb dX10_store_0 rfl (lv_at hl 1 rfl) ?_
  refine gf_X10_54 hC rfl hK hP 5 rfl rfl dX10_store_1 ?_
  refine iV (wr := [(h0, .inr (10, [.ref tby, .int (nI kt), .ref tln, .ref tsp, .int tkd, .int ts9, .int tn9, .int tf9])), (tln, .inr (8, [.int 9, .int 7, .ref tlnc, .int (nI kln)])), (tlnc, .inl (G.2.1, 63, .inl ftln)), (tsp, .inr (8, [.int 120, .int 1, .ref tspc, .int (nI ksp)])), (tspc, .inl (G.2.1, 120, .inl ftsp)), (bb, .inr (0, [.ref bpersons, .ref bpapers, .ref bstamps, .ref bversions, .ref blines, .ref bsteps, .ref bsayings, .ref bfindings, .ref bwarnings, .ref bquestions, .int td, .int vd, .int vl, .int gp])), (bversionsc, .inl (G.2.1, 24, .inl fbversions)), (blines, .inr (8, [.int 72, .int 7, .ref blinesc, .int (nI kblines)])), (blinesc, .inl (G.2.1, 504, .inl fblines)), (bsteps, .inr (8, [.int 960, .int 1, .ref bstepsc, .int (nI kbsteps)])), (bstepsc, .inl (G.2.1, 960, .inl fbsteps))]) hC hK hl hP hD hS hA (c_T_append l G bversions 8 3 bversionsc kbversions (by omega) (by omega)) si_X10_59 [6] [0, 1, 2, 3, 4, 5, 7, 8, 9, 10, 11] rfl rfl (by decide) rfl (by decide) (by decide) rfl rfl rfl rfl rfl (Nat.le_of_ble_eq_true rfl) ⟨Nat.le_of_ble_eq_true rfl, Nat.le_of_ble_eq_true rfl⟩ ⟨Nat.le_of_ble_eq_true rfl, Nat.le_of_ble_eq_true rfl⟩ dX10_store_4 (fun r3789 u3790 H locs hr3789 hP hD hS => ?_)
  have hP : va_P G.1 vwCl [(h0, .inr (10, [.ref tby, .int (nI kt), .ref tln, .ref tsp, .int tkd, .int ts9, .int tn9, .int tf9])), (tln, .inr (8, [.int 9, .int 7, .ref tlnc, .int (nI kln)])), (tlnc, .inl (G.2.1, 63, .inl ftln)), (tsp, .inr (8, [.int 120, .int 1, .ref tspc, .int (nI ksp)])), (tspc, .inl (G.2.1, 120, .inl ftsp)), (bb, .inr (0, [.ref bpersons, .ref bpapers, .ref bstamps, .ref bversions, .ref blines, .ref bsteps, .ref bsayings, .ref bfindings, .ref bwarnings, .ref bquestions, .int td, .int vd, .int vl, .int gp])), (bversionsc, .inl (G.2.1, 24, .inl fbversions)), (blines, .inr (8, [.int 72, .int 7, .ref blinesc, .int (nI kblines)])), (blinesc, .inl (G.2.1, 504, .inl fblines)), (bsteps, .inr (8, [.int 960, .int 1, .ref bstepsc, .int (nI kbsteps)])), (bstepsc, .inl (G.2.1, 960, .inl fbsteps)), (bversions, .inr (8, [.int 8, .int 3, .ref bversionsc, .int (nI (kbversions + 1))]))] H := hP
  have hD : va_D A [(h0, .inr (10, [.ref tby, .int (nI kt), .ref tln, .ref tsp, .int tkd, .int ts9, .int tn9, .int tf9])), (tln, .inr (8, [.int 9, .int 7, .ref tlnc, .int (nI kln)])), (tlnc, .inl (G.2.1, 63, .inl ftln)), (tsp, .inr (8, [.int 120, .int 1, .ref tspc, .int (nI ksp)])), (tspc, .inl (G.2.1, 120, .inl ftsp)), (bb, .inr (0, [.ref bpersons, .ref bpapers, .ref bstamps, .ref bversions, .ref blines, .ref bsteps, .ref bsayings, .ref bfindings, .ref bwarnings, .ref bquestions, .int td, .int vd, .int vl, .int gp])), (bversionsc, .inl (G.2.1, 24, .inl fbversions)), (blines, .inr (8, [.int 72, .int 7, .ref blinesc, .int (nI kblines)])), (blinesc, .inl (G.2.1, 504, .inl fblines)), (bsteps, .inr (8, [.int 960, .int 1, .ref bstepsc, .int (nI kbsteps)])), (bstepsc, .inl (G.2.1, 960, .inl fbsteps)), (bversions, .inr (8, [.int 8, .int 3, .ref bversionsc, .int (nI (kbversions + 1))]))] := hD
  obtain rfl := hr3789
  refine lv_istore_n (lv' := [(2, .int (nI kbversions)), (0, .ref h0), (1, .ref bb)]) hx hb dX10_store_7 rfl hl (by decide) rfl (fun ls hl => ?_)
  refine lv_aload_n hx hb dX10_store_8 rfl (lv_at hl 2 rfl) ?_
  refine gf_X10_54 hC rfl hK hP 5 rfl rfl dX10_store_9 ?_
  refine lv_iload_n hx hb dX10_store_12 rfl (lv_at hl 0 rfl) ?_
  refine lv_iconst (v := 0) hx hb dX10_store_13 (by decide) ?_
  refine lv_aload_n hx hb dX10_store_14 rfl (lv_at hl 2 rfl) ?_
  refine gf_X10_63 hC rfl hK hP 5 rfl rfl dX10_store_15 ?_
  refine vV (wr := [(h0, .inr (10, [.ref tby, .int (nI kt), .ref tln, .ref tsp, .int tkd, .int ts9, .int tn9, .int tf9])), (tln, .inr (8, [.int 9, .int 7, .ref tlnc, .int (nI kln)])), (tlnc, .inl (G.2.1, 63, .inl ftln)), (tsp, .inr (8, [.int 120, .int 1, .ref tspc, .int (nI ksp)])), (tspc, .inl (G.2.1, 120, .inl ftsp)), (bb, .inr (0, [.ref bpersons, .ref bpapers, .ref bstamps, .ref bversions, .ref blines, .ref bsteps, .ref bsayings, .ref bfindings, .ref bwarnings, .ref bquestions, .int td, .int vd, .int vl, .int gp])), (blines, .inr (8, [.int 72, .int 7, .ref blinesc, .int (nI kblines)])), (blinesc, .inl (G.2.1, 504, .inl fblines)), (bsteps, .inr (8, [.int 960, .int 1, .ref bstepsc, .int (nI kbsteps)])), (bstepsc, .inl (G.2.1, 960, .inl fbsteps))]) hC hK hl hP hD hS hA (c_T_set l G bversions (nI kbversions) 0 td 8 3 bversionsc (kbversions + 1) fbversions (by omega) (by omega) (by omega)) si_X10_66 [11, 6] [0, 1, 2, 3, 4, 5, 7, 8, 9, 10] rfl rfl (by decide) rfl (by decide) (by decide) rfl rfl rfl rfl rfl (Nat.le_of_ble_eq_true rfl) ⟨Nat.le_of_ble_eq_true rfl, Nat.le_of_ble_eq_true rfl⟩ ⟨Nat.le_of_ble_eq_true rfl, Nat.le_of_ble_eq_true rfl⟩ dX10_store_18 (fun u3793 H locs hr3792 hP hD hS => ?_)
  obtain ⟨f13794, rfl⟩ : ∃ z9, z9 = u3793 := ⟨_, rfl⟩
  try dsimp only at hr3792
  have hP : va_P G.1 vwCl [(h0, .inr (10, [.ref tby, .int (nI kt), .ref tln, .ref tsp, .int tkd, .int ts9, .int tn9, .int tf9])), (tln, .inr (8, [.int 9, .int 7, .ref tlnc, .int (nI kln)])), (tlnc, .inl (G.2.1, 63, .inl ftln)), (tsp, .inr (8, [.int 120, .int 1, .ref tspc, .int (nI ksp)])), (tspc, .inl (G.2.1, 120, .inl ftsp)), (bb, .inr (0, [.ref bpersons, .ref bpapers, .ref bstamps, .ref bversions, .ref blines, .ref bsteps, .ref bsayings, .ref bfindings, .ref bwarnings, .ref bquestions, .int td, .int vd, .int vl, .int gp])), (blines, .inr (8, [.int 72, .int 7, .ref blinesc, .int (nI kblines)])), (blinesc, .inl (G.2.1, 504, .inl fblines)), (bsteps, .inr (8, [.int 960, .int 1, .ref bstepsc, .int (nI kbsteps)])), (bstepsc, .inl (G.2.1, 960, .inl fbsteps)), (bversions, .inr (8, [.int 8, .int 3, .ref bversionsc, .int (nI (kbversions + 1))])), (bversionsc, .inl (G.2.1, 24, .inl f13794))] H := hP
  have hD : va_D A [(h0, .inr (10, [.ref tby, .int (nI kt), .ref tln, .ref tsp, .int tkd, .int ts9, .int tn9, .int tf9])), (tln, .inr (8, [.int 9, .int 7, .ref tlnc, .int (nI kln)])), (tlnc, .inl (G.2.1, 63, .inl ftln)), (tsp, .inr (8, [.int 120, .int 1, .ref tspc, .int (nI ksp)])), (tspc, .inl (G.2.1, 120, .inl ftsp)), (bb, .inr (0, [.ref bpersons, .ref bpapers, .ref bstamps, .ref bversions, .ref blines, .ref bsteps, .ref bsayings, .ref bfindings, .ref bwarnings, .ref bquestions, .int td, .int vd, .int vl, .int gp])), (blines, .inr (8, [.int 72, .int 7, .ref blinesc, .int (nI kblines)])), (blinesc, .inl (G.2.1, 504, .inl fblines)), (bsteps, .inr (8, [.int 960, .int 1, .ref bstepsc, .int (nI kbsteps)])), (bstepsc, .inl (G.2.1, 960, .inl fbsteps)), (bversions, .inr (8, [.int 8, .int 3, .ref bversionsc, .int (nI (kbversions + 1))])), (bversionsc, .inl (G.2.1, 24, .inl f13794))] := hD
  have w3795 := hr3792
  refine lv_aload_n hx hb dX10_store_21 rfl (lv_at hl 2 rfl) ?_
  refine gf_X10_54 hC rfl hK hP 5 rfl rfl dX10_store_22 ?_
  refine lv_iload_n hx hb dX10_store_25 rfl (lv_at hl 0 rfl) ?_
  refine lv_iconst (v := 1) hx hb dX10_store_26 (by decide) ?_
  refine lv_aload_n hx hb dX10_store_27 rfl (lv_at hl 2 rfl) ?_
  refine gf_X10_70 hC rfl hK hP 5 rfl rfl dX10_store_28 ?_
  refine pV hC hK hl hP hD (c_T_count l G blines 72 7 blinesc kblines) si_X10_71 [6] rfl rfl (by decide) rfl rfl rfl rfl rfl (Nat.le_of_ble_eq_true rfl) ⟨Nat.le_of_ble_eq_true rfl, Nat.le_of_ble_eq_true rfl⟩ ⟨by first | exact Nat.le_of_ble_eq_true rfl | exact Nat.zero_le _, by first | exact Nat.le_of_ble_eq_true rfl | exact Nat.zero_le _⟩ dX10_store_31 (fun r3796 hr3796 => ?_)
  obtain rfl := hr3796
  refine vV (wr := [(h0, .inr (10, [.ref tby, .int (nI kt), .ref tln, .ref tsp, .int tkd, .int ts9, .int tn9, .int tf9])), (tln, .inr (8, [.int 9, .int 7, .ref tlnc, .int (nI kln)])), (tlnc, .inl (G.2.1, 63, .inl ftln)), (tsp, .inr (8, [.int 120, .int 1, .ref tspc, .int (nI ksp)])), (tspc, .inl (G.2.1, 120, .inl ftsp)), (bb, .inr (0, [.ref bpersons, .ref bpapers, .ref bstamps, .ref bversions, .ref blines, .ref bsteps, .ref bsayings, .ref bfindings, .ref bwarnings, .ref bquestions, .int td, .int vd, .int vl, .int gp])), (blines, .inr (8, [.int 72, .int 7, .ref blinesc, .int (nI kblines)])), (blinesc, .inl (G.2.1, 504, .inl fblines)), (bsteps, .inr (8, [.int 960, .int 1, .ref bstepsc, .int (nI kbsteps)])), (bstepsc, .inl (G.2.1, 960, .inl fbsteps))]) hC hK hl hP hD hS hA (c_T_set l G bversions (nI kbversions) 1 (nI kblines) 8 3 bversionsc (kbversions + 1) f13794 (by omega) (by omega) (by omega)) si_X10_66 [10, 11] [0, 1, 2, 3, 4, 5, 6, 7, 8, 9] rfl rfl (by decide) rfl (by decide) (by decide) rfl rfl rfl rfl rfl (Nat.le_of_ble_eq_true rfl) ⟨Nat.le_of_ble_eq_true rfl, Nat.le_of_ble_eq_true rfl⟩ ⟨Nat.le_of_ble_eq_true rfl, Nat.le_of_ble_eq_true rfl⟩ dX10_store_34 (fun u3799 H locs hr3798 hP hD hS => ?_)
  obtain ⟨f13800, rfl⟩ : ∃ z9, z9 = u3799 := ⟨_, rfl⟩
  try dsimp only at hr3798
  have hP : va_P G.1 vwCl [(h0, .inr (10, [.ref tby, .int (nI kt), .ref tln, .ref tsp, .int tkd, .int ts9, .int tn9, .int tf9])), (tln, .inr (8, [.int 9, .int 7, .ref tlnc, .int (nI kln)])), (tlnc, .inl (G.2.1, 63, .inl ftln)), (tsp, .inr (8, [.int 120, .int 1, .ref tspc, .int (nI ksp)])), (tspc, .inl (G.2.1, 120, .inl ftsp)), (bb, .inr (0, [.ref bpersons, .ref bpapers, .ref bstamps, .ref bversions, .ref blines, .ref bsteps, .ref bsayings, .ref bfindings, .ref bwarnings, .ref bquestions, .int td, .int vd, .int vl, .int gp])), (blines, .inr (8, [.int 72, .int 7, .ref blinesc, .int (nI kblines)])), (blinesc, .inl (G.2.1, 504, .inl fblines)), (bsteps, .inr (8, [.int 960, .int 1, .ref bstepsc, .int (nI kbsteps)])), (bstepsc, .inl (G.2.1, 960, .inl fbsteps)), (bversions, .inr (8, [.int 8, .int 3, .ref bversionsc, .int (nI (kbversions + 1))])), (bversionsc, .inl (G.2.1, 24, .inl f13800))] H := hP
  have hD : va_D A [(h0, .inr (10, [.ref tby, .int (nI kt), .ref tln, .ref tsp, .int tkd, .int ts9, .int tn9, .int tf9])), (tln, .inr (8, [.int 9, .int 7, .ref tlnc, .int (nI kln)])), (tlnc, .inl (G.2.1, 63, .inl ftln)), (tsp, .inr (8, [.int 120, .int 1, .ref tspc, .int (nI ksp)])), (tspc, .inl (G.2.1, 120, .inl ftsp)), (bb, .inr (0, [.ref bpersons, .ref bpapers, .ref bstamps, .ref bversions, .ref blines, .ref bsteps, .ref bsayings, .ref bfindings, .ref bwarnings, .ref bquestions, .int td, .int vd, .int vl, .int gp])), (blines, .inr (8, [.int 72, .int 7, .ref blinesc, .int (nI kblines)])), (blinesc, .inl (G.2.1, 504, .inl fblines)), (bsteps, .inr (8, [.int 960, .int 1, .ref bstepsc, .int (nI kbsteps)])), (bstepsc, .inl (G.2.1, 960, .inl fbsteps)), (bversions, .inr (8, [.int 8, .int 3, .ref bversionsc, .int (nI (kbversions + 1))])), (bversionsc, .inl (G.2.1, 24, .inl f13800))] := hD
  have w3801 := hr3798
  refine lv_aload_n hx hb dX10_store_37 rfl (lv_at hl 2 rfl) ?_
  refine gf_X10_54 hC rfl hK hP 5 rfl rfl dX10_store_38 ?_
  refine lv_iload_n hx hb dX10_store_41 rfl (lv_at hl 0 rfl) ?_
  refine lv_iconst (v := 2) hx hb dX10_store_42 (by decide) ?_
  refine lv_aload_n hx hb dX10_store_43 rfl (lv_at hl 1 rfl) ?_
  refine gf_X10_20 hC rfl hK hP 0 rfl rfl dX10_store_44 ?_
  refine pV hC hK hl hP hD (c_T_count l G tln 9 7 tlnc kln) si_X10_71 [1] rfl rfl (by decide) rfl rfl rfl rfl rfl (Nat.le_of_ble_eq_true rfl) ⟨Nat.le_of_ble_eq_true rfl, Nat.le_of_ble_eq_true rfl⟩ ⟨by first | exact Nat.le_of_ble_eq_true rfl | exact Nat.zero_le _, by first | exact Nat.le_of_ble_eq_true rfl | exact Nat.zero_le _⟩ dX10_store_47 (fun r3802 hr3802 => ?_)
  obtain rfl := hr3802
  refine vV (wr := [(h0, .inr (10, [.ref tby, .int (nI kt), .ref tln, .ref tsp, .int tkd, .int ts9, .int tn9, .int tf9])), (tln, .inr (8, [.int 9, .int 7, .ref tlnc, .int (nI kln)])), (tlnc, .inl (G.2.1, 63, .inl ftln)), (tsp, .inr (8, [.int 120, .int 1, .ref tspc, .int (nI ksp)])), (tspc, .inl (G.2.1, 120, .inl ftsp)), (bb, .inr (0, [.ref bpersons, .ref bpapers, .ref bstamps, .ref bversions, .ref blines, .ref bsteps, .ref bsayings, .ref bfindings, .ref bwarnings, .ref bquestions, .int td, .int vd, .int vl, .int gp])), (blines, .inr (8, [.int 72, .int 7, .ref blinesc, .int (nI kblines)])), (blinesc, .inl (G.2.1, 504, .inl fblines)), (bsteps, .inr (8, [.int 960, .int 1, .ref bstepsc, .int (nI kbsteps)])), (bstepsc, .inl (G.2.1, 960, .inl fbsteps))]) hC hK hl hP hD hS hA (c_T_set l G bversions (nI kbversions) 2 (nI kln) 8 3 bversionsc (kbversions + 1) f13800 (by omega) (by omega) (by omega)) si_X10_66 [10, 11] [0, 1, 2, 3, 4, 5, 6, 7, 8, 9] rfl rfl (by decide) rfl (by decide) (by decide) rfl rfl rfl rfl rfl (Nat.le_of_ble_eq_true rfl) ⟨Nat.le_of_ble_eq_true rfl, Nat.le_of_ble_eq_true rfl⟩ ⟨Nat.le_of_ble_eq_true rfl, Nat.le_of_ble_eq_true rfl⟩ dX10_store_50 (fun u3805 H locs hr3804 hP hD hS => ?_)
  obtain ⟨f13806, rfl⟩ : ∃ z9, z9 = u3805 := ⟨_, rfl⟩
  try dsimp only at hr3804
  have hP : va_P G.1 vwCl [(h0, .inr (10, [.ref tby, .int (nI kt), .ref tln, .ref tsp, .int tkd, .int ts9, .int tn9, .int tf9])), (tln, .inr (8, [.int 9, .int 7, .ref tlnc, .int (nI kln)])), (tlnc, .inl (G.2.1, 63, .inl ftln)), (tsp, .inr (8, [.int 120, .int 1, .ref tspc, .int (nI ksp)])), (tspc, .inl (G.2.1, 120, .inl ftsp)), (bb, .inr (0, [.ref bpersons, .ref bpapers, .ref bstamps, .ref bversions, .ref blines, .ref bsteps, .ref bsayings, .ref bfindings, .ref bwarnings, .ref bquestions, .int td, .int vd, .int vl, .int gp])), (blines, .inr (8, [.int 72, .int 7, .ref blinesc, .int (nI kblines)])), (blinesc, .inl (G.2.1, 504, .inl fblines)), (bsteps, .inr (8, [.int 960, .int 1, .ref bstepsc, .int (nI kbsteps)])), (bstepsc, .inl (G.2.1, 960, .inl fbsteps)), (bversions, .inr (8, [.int 8, .int 3, .ref bversionsc, .int (nI (kbversions + 1))])), (bversionsc, .inl (G.2.1, 24, .inl f13806))] H := hP
  have hD : va_D A [(h0, .inr (10, [.ref tby, .int (nI kt), .ref tln, .ref tsp, .int tkd, .int ts9, .int tn9, .int tf9])), (tln, .inr (8, [.int 9, .int 7, .ref tlnc, .int (nI kln)])), (tlnc, .inl (G.2.1, 63, .inl ftln)), (tsp, .inr (8, [.int 120, .int 1, .ref tspc, .int (nI ksp)])), (tspc, .inl (G.2.1, 120, .inl ftsp)), (bb, .inr (0, [.ref bpersons, .ref bpapers, .ref bstamps, .ref bversions, .ref blines, .ref bsteps, .ref bsayings, .ref bfindings, .ref bwarnings, .ref bquestions, .int td, .int vd, .int vl, .int gp])), (blines, .inr (8, [.int 72, .int 7, .ref blinesc, .int (nI kblines)])), (blinesc, .inl (G.2.1, 504, .inl fblines)), (bsteps, .inr (8, [.int 960, .int 1, .ref bstepsc, .int (nI kbsteps)])), (bstepsc, .inl (G.2.1, 960, .inl fbsteps)), (bversions, .inr (8, [.int 8, .int 3, .ref bversionsc, .int (nI (kbversions + 1))])), (bversionsc, .inl (G.2.1, 24, .inl f13806))] := hD
  have w3807 := hr3804
  refine lv_aload_n hx hb dX10_store_53 rfl (lv_at hl 2 rfl) ?_
  refine gf_X10_73 hC rfl hK hP 5 rfl rfl dX10_store_54 ?_
  refine pV hC hK hl hP hD (c_T_count l G bsteps 960 1 bstepsc kbsteps) si_X10_71 [8] rfl rfl (by decide) rfl rfl rfl rfl rfl (Nat.le_of_ble_eq_true rfl) ⟨Nat.le_of_ble_eq_true rfl, Nat.le_of_ble_eq_true rfl⟩ ⟨by first | exact Nat.le_of_ble_eq_true rfl | exact Nat.zero_le _, by first | exact Nat.le_of_ble_eq_true rfl | exact Nat.zero_le _⟩ dX10_store_57 (fun r3808 hr3808 => ?_)
  obtain rfl := hr3808
  refine lv_istore_n (lv' := [(3, .int (nI kbsteps)), (2, .int (nI kbversions)), (0, .ref h0), (1, .ref bb)]) hx hb dX10_store_60 rfl hl (by decide) rfl (fun ls hl => ?_)
  refine lv_iconst (v := 0) hx hb dX10_store_61 (by decide) ?_
  refine lv_istore (lv' := [(4, .int 0), (3, .int (nI kbsteps)), (2, .int (nI kbversions)), (0, .ref h0), (1, .ref bb)]) hx hb dX10_store_62 hl (by decide) rfl (fun ls hl => ?_)
  have keyP : ∀ (nP kP : Nat) (vbl : Nat → Int32) (vkb : Nat) (H : Heap) (locs : List Loc) (ls : Array Slot), kP + nP = kln → (vkb ≤ 72) → va_P G.1 vwCl [(h0, .inr (10, [.ref tby, .int (nI kt), .ref tln, .ref tsp, .int tkd, .int ts9, .int tn9, .int tf9])), (tln, .inr (8, [.int 9, .int 7, .ref tlnc, .int (nI kln)])), (tlnc, .inl (G.2.1, 63, .inl ftln)), (tsp, .inr (8, [.int 120, .int 1, .ref tspc, .int (nI ksp)])), (tspc, .inl (G.2.1, 120, .inl ftsp)), (bb, .inr (0, [.ref bpersons, .ref bpapers, .ref bstamps, .ref bversions, .ref blines, .ref bsteps, .ref bsayings, .ref bfindings, .ref bwarnings, .ref bquestions, .int td, .int vd, .int vl, .int gp])), (blines, .inr (8, [.int 72, .int 7, .ref blinesc, .int (nI vkb)])), (blinesc, .inl (G.2.1, 504, .inl vbl)), (bsteps, .inr (8, [.int 960, .int 1, .ref bstepsc, .int (nI kbsteps)])), (bstepsc, .inl (G.2.1, 960, .inl fbsteps)), (bversions, .inr (8, [.int 8, .int 3, .ref bversionsc, .int (nI (kbversions + 1))])), (bversionsc, .inl (G.2.1, 24, .inl f13806))] H → va_D A [(h0, .inr (10, [.ref tby, .int (nI kt), .ref tln, .ref tsp, .int tkd, .int ts9, .int tn9, .int tf9])), (tln, .inr (8, [.int 9, .int 7, .ref tlnc, .int (nI kln)])), (tlnc, .inl (G.2.1, 63, .inl ftln)), (tsp, .inr (8, [.int 120, .int 1, .ref tspc, .int (nI ksp)])), (tspc, .inl (G.2.1, 120, .inl ftsp)), (bb, .inr (0, [.ref bpersons, .ref bpapers, .ref bstamps, .ref bversions, .ref blines, .ref bsteps, .ref bsayings, .ref bfindings, .ref bwarnings, .ref bquestions, .int td, .int vd, .int vl, .int gp])), (blines, .inr (8, [.int 72, .int 7, .ref blinesc, .int (nI vkb)])), (blinesc, .inl (G.2.1, 504, .inl vbl)), (bsteps, .inr (8, [.int 960, .int 1, .ref bstepsc, .int (nI kbsteps)])), (bstepsc, .inl (G.2.1, 960, .inl fbsteps)), (bversions, .inr (8, [.int 8, .int 3, .ref bversionsc, .int (nI (kbversions + 1))])), (bversionsc, .inl (G.2.1, 24, .inl f13806))] → va_S A s.heap H locs → lv_has ls 7 [(4, .int (nI kP)), (3, .int (nI kbsteps)), (2, .int (nI kbversions)), (0, .ref h0), (1, .ref bb)] → W p l e (RM 3 0 0) s m ([.ref h0, .ref bb] : List Value).toArray below meth c H locs 0 0 (MQ below (QI G (fun (r : Int32) (u : Nat × Nat × Nat × (Nat → Int32) × (Nat → Int32) × (Nat → Int32)) => (True) ∧ (u.1 ≤ 8 ∧ u.2.1 ≤ 72 ∧ u.2.2.1 ≤ 960)) (fun u : Nat × Nat × Nat × (Nat → Int32) × (Nat → Int32) × (Nat → Int32) => [(h0, .inr (10, [.ref tby, .int (nI kt), .ref tln, .ref tsp, .int tkd, .int ts9, .int tn9, .int tf9])), (tln, .inr (8, [.int 9, .int 7, .ref tlnc, .int (nI kln)])), (tlnc, .inl (G.2.1, 63, .inl ftln)), (tsp, .inr (8, [.int 120, .int 1, .ref tspc, .int (nI ksp)])), (tspc, .inl (G.2.1, 120, .inl ftsp)), (bb, .inr (0, [.ref bpersons, .ref bpapers, .ref bstamps, .ref bversions, .ref blines, .ref bsteps, .ref bsayings, .ref bfindings, .ref bwarnings, .ref bquestions, .int td, .int vd, .int vl, .int gp])), (bversions, .inr (8, [.int 8, .int 3, .ref bversionsc, .int (nI u.1)])), (bversionsc, .inl (G.2.1, 24, .inl u.2.2.2.1)), (blines, .inr (8, [.int 72, .int 7, .ref blinesc, .int (nI u.2.1)])), (blinesc, .inl (G.2.1, 504, .inl u.2.2.2.2.1)), (bsteps, .inr (8, [.int 960, .int 1, .ref bstepsc, .int (nI u.2.2.1)])), (bstepsc, .inl (G.2.1, 960, .inl u.2.2.2.2.2))]) A) ([.ref h0, .ref bb] : List Value).toArray s 0 0 A) (F0 m 64 ls []) := by
    intro nP
    induction nP with
    | zero =>
      intro kP vbl vkb H locs ls hkP hvkb hP hD hS hl
      obtain rfl : kln = kP := by omega
      have hl : lv_has ls 7 [(4, .int (nI kln)), (3, .int (nI kbsteps)), (2, .int (nI kbversions)), (0, .ref h0), (1, .ref bb)] := hl
      refine lv_iload hx hb dX10_store_64 (lv_at hl 0 rfl) ?_
      refine lv_aload_n hx hb dX10_store_66 rfl (lv_at hl 3 rfl) ?_
      refine gf_X10_20 hC rfl hK hP 0 rfl rfl dX10_store_67 ?_
      refine pV hC hK hl hP hD (c_T_count l G tln 9 7 tlnc kln) si_X10_71 [1] rfl rfl (by decide) rfl rfl rfl rfl rfl (Nat.le_of_ble_eq_true rfl) ⟨Nat.le_of_ble_eq_true rfl, Nat.le_of_ble_eq_true rfl⟩ ⟨by first | exact Nat.le_of_ble_eq_true rfl | exact Nat.zero_le _, by first | exact Nat.le_of_ble_eq_true rfl | exact Nat.zero_le _⟩ dX10_store_70 (fun r3810 hr3810 => ?_)
      obtain rfl := hr3810
      refine lv_icmp_ge (tgt := 151) hx hb dX10_store_73 (by decide) (fun _ => ?_) (fun c9 => absurd (Int32.le_refl _) c9)
      refine lv_iconst (v := 0) hx hb dX10_store_151 (by decide) ?_
      refine lv_istore (lv' := [(4, .int 0), (3, .int (nI kbsteps)), (2, .int (nI kbversions)), (0, .ref h0), (1, .ref bb)]) hx hb dX10_store_152 hl (by decide) rfl (fun ls hl => ?_)
      have keyQ : ∀ (nQ kQ : Nat) (vbs : Nat → Int32) (vkc : Nat) (H : Heap) (locs : List Loc) (ls : Array Slot), kQ + nQ = ksp → (vkc ≤ 960) → va_P G.1 vwCl [(h0, .inr (10, [.ref tby, .int (nI kt), .ref tln, .ref tsp, .int tkd, .int ts9, .int tn9, .int tf9])), (tln, .inr (8, [.int 9, .int 7, .ref tlnc, .int (nI kln)])), (tlnc, .inl (G.2.1, 63, .inl ftln)), (tsp, .inr (8, [.int 120, .int 1, .ref tspc, .int (nI ksp)])), (tspc, .inl (G.2.1, 120, .inl ftsp)), (bb, .inr (0, [.ref bpersons, .ref bpapers, .ref bstamps, .ref bversions, .ref blines, .ref bsteps, .ref bsayings, .ref bfindings, .ref bwarnings, .ref bquestions, .int td, .int vd, .int vl, .int gp])), (blines, .inr (8, [.int 72, .int 7, .ref blinesc, .int (nI vkb)])), (blinesc, .inl (G.2.1, 504, .inl vbl)), (bsteps, .inr (8, [.int 960, .int 1, .ref bstepsc, .int (nI vkc)])), (bstepsc, .inl (G.2.1, 960, .inl vbs)), (bversions, .inr (8, [.int 8, .int 3, .ref bversionsc, .int (nI (kbversions + 1))])), (bversionsc, .inl (G.2.1, 24, .inl f13806))] H → va_D A [(h0, .inr (10, [.ref tby, .int (nI kt), .ref tln, .ref tsp, .int tkd, .int ts9, .int tn9, .int tf9])), (tln, .inr (8, [.int 9, .int 7, .ref tlnc, .int (nI kln)])), (tlnc, .inl (G.2.1, 63, .inl ftln)), (tsp, .inr (8, [.int 120, .int 1, .ref tspc, .int (nI ksp)])), (tspc, .inl (G.2.1, 120, .inl ftsp)), (bb, .inr (0, [.ref bpersons, .ref bpapers, .ref bstamps, .ref bversions, .ref blines, .ref bsteps, .ref bsayings, .ref bfindings, .ref bwarnings, .ref bquestions, .int td, .int vd, .int vl, .int gp])), (blines, .inr (8, [.int 72, .int 7, .ref blinesc, .int (nI vkb)])), (blinesc, .inl (G.2.1, 504, .inl vbl)), (bsteps, .inr (8, [.int 960, .int 1, .ref bstepsc, .int (nI vkc)])), (bstepsc, .inl (G.2.1, 960, .inl vbs)), (bversions, .inr (8, [.int 8, .int 3, .ref bversionsc, .int (nI (kbversions + 1))])), (bversionsc, .inl (G.2.1, 24, .inl f13806))] → va_S A s.heap H locs → lv_has ls 7 [(4, .int (nI kQ)), (3, .int (nI kbsteps)), (2, .int (nI kbversions)), (0, .ref h0), (1, .ref bb)] → W p l e (RM 3 0 0) s m ([.ref h0, .ref bb] : List Value).toArray below meth c H locs 0 0 (MQ below (QI G (fun (r : Int32) (u : Nat × Nat × Nat × (Nat → Int32) × (Nat → Int32) × (Nat → Int32)) => (True) ∧ (u.1 ≤ 8 ∧ u.2.1 ≤ 72 ∧ u.2.2.1 ≤ 960)) (fun u : Nat × Nat × Nat × (Nat → Int32) × (Nat → Int32) × (Nat → Int32) => [(h0, .inr (10, [.ref tby, .int (nI kt), .ref tln, .ref tsp, .int tkd, .int ts9, .int tn9, .int tf9])), (tln, .inr (8, [.int 9, .int 7, .ref tlnc, .int (nI kln)])), (tlnc, .inl (G.2.1, 63, .inl ftln)), (tsp, .inr (8, [.int 120, .int 1, .ref tspc, .int (nI ksp)])), (tspc, .inl (G.2.1, 120, .inl ftsp)), (bb, .inr (0, [.ref bpersons, .ref bpapers, .ref bstamps, .ref bversions, .ref blines, .ref bsteps, .ref bsayings, .ref bfindings, .ref bwarnings, .ref bquestions, .int td, .int vd, .int vl, .int gp])), (bversions, .inr (8, [.int 8, .int 3, .ref bversionsc, .int (nI u.1)])), (bversionsc, .inl (G.2.1, 24, .inl u.2.2.2.1)), (blines, .inr (8, [.int 72, .int 7, .ref blinesc, .int (nI u.2.1)])), (blinesc, .inl (G.2.1, 504, .inl u.2.2.2.2.1)), (bsteps, .inr (8, [.int 960, .int 1, .ref bstepsc, .int (nI u.2.2.1)])), (bstepsc, .inl (G.2.1, 960, .inl u.2.2.2.2.2))]) A) ([.ref h0, .ref bb] : List Value).toArray s 0 0 A) (F0 m 154 ls []) := by
        intro nQ
        induction nQ with
        | zero =>
          intro kQ vbs vkc H locs ls hkQ hvkc hP hD hS hl
          obtain rfl : ksp = kQ := by omega
          have hl : lv_has ls 7 [(4, .int (nI ksp)), (3, .int (nI kbsteps)), (2, .int (nI kbversions)), (0, .ref h0), (1, .ref bb)] := hl
          refine lv_iload hx hb dX10_store_154 (lv_at hl 0 rfl) ?_
          refine lv_aload_n hx hb dX10_store_156 rfl (lv_at hl 3 rfl) ?_
          refine gf_X10_24 hC rfl hK hP 0 rfl rfl dX10_store_157 ?_
          refine pV hC hK hl hP hD (c_T_count l G tsp 120 1 tspc ksp) si_X10_71 [3] rfl rfl (by decide) rfl rfl rfl rfl rfl (Nat.le_of_ble_eq_true rfl) ⟨Nat.le_of_ble_eq_true rfl, Nat.le_of_ble_eq_true rfl⟩ ⟨by first | exact Nat.le_of_ble_eq_true rfl | exact Nat.zero_le _, by first | exact Nat.le_of_ble_eq_true rfl | exact Nat.zero_le _⟩ dX10_store_160 (fun r3812 hr3812 => ?_)
          obtain rfl := hr3812
          refine lv_icmp_ge (tgt := 197) hx hb dX10_store_163 (by decide) (fun _ => ?_) (fun c9 => absurd (Int32.le_refl _) c9)
          refine lv_iload_n hx hb dX10_store_197 rfl (lv_at hl 2 rfl) ?_
          exact RI (v := nI kbversions) hC hP hD hS [0, 1, 2, 3, 4, 5, 10, 11, 6, 7, 8, 9] ((kbversions + 1), vkb, vkc, f13806, vbl, vbs) rfl rfl (by decide) (⟨trivial, by dsimp only; omega⟩) rfl dX10_store_198
        | succ nQ ihQ =>
          intro kQ vbs vkc H locs ls hkQ hvkc hP hD hS hl
          refine lv_iload hx hb dX10_store_154 (lv_at hl 0 rfl) ?_
          refine lv_aload_n hx hb dX10_store_156 rfl (lv_at hl 3 rfl) ?_
          refine gf_X10_24 hC rfl hK hP 0 rfl rfl dX10_store_157 ?_
          refine pV hC hK hl hP hD (c_T_count l G tsp 120 1 tspc ksp) si_X10_71 [3] rfl rfl (by decide) rfl rfl rfl rfl rfl (Nat.le_of_ble_eq_true rfl) ⟨Nat.le_of_ble_eq_true rfl, Nat.le_of_ble_eq_true rfl⟩ ⟨by first | exact Nat.le_of_ble_eq_true rfl | exact Nat.zero_le _, by first | exact Nat.le_of_ble_eq_true rfl | exact Nat.zero_le _⟩ dX10_store_160 (fun r3814 hr3814 => ?_)
          obtain rfl := hr3814
          refine lv_icmp_ge (tgt := 197) hx hb dX10_store_163 (by decide) (fun c9 => absurd c9 (nI_ge (a := kQ) (b := ksp) (by omega) (by omega))) (fun _ => ?_)
          refine lv_aload_n hx hb dX10_store_166 rfl (lv_at hl 4 rfl) ?_
          refine gf_X10_73 hC rfl hK hP 5 rfl rfl dX10_store_167 ?_
          refine lv_aload_n hx hb dX10_store_170 rfl (lv_at hl 4 rfl) ?_
          refine gf_X10_73 hC rfl hK hP 5 rfl rfl dX10_store_171 ?_
          rcases Nat.lt_or_ge vkc 960 with hcap9 | hcap9
          · refine iV (wr := [(h0, .inr (10, [.ref tby, .int (nI kt), .ref tln, .ref tsp, .int tkd, .int ts9, .int tn9, .int tf9])), (tln, .inr (8, [.int 9, .int 7, .ref tlnc, .int (nI kln)])), (tlnc, .inl (G.2.1, 63, .inl ftln)), (tsp, .inr (8, [.int 120, .int 1, .ref tspc, .int (nI ksp)])), (tspc, .inl (G.2.1, 120, .inl ftsp)), (bb, .inr (0, [.ref bpersons, .ref bpapers, .ref bstamps, .ref bversions, .ref blines, .ref bsteps, .ref bsayings, .ref bfindings, .ref bwarnings, .ref bquestions, .int td, .int vd, .int vl, .int gp])), (blines, .inr (8, [.int 72, .int 7, .ref blinesc, .int (nI vkb)])), (blinesc, .inl (G.2.1, 504, .inl vbl)), (bstepsc, .inl (G.2.1, 960, .inl vbs)), (bversions, .inr (8, [.int 8, .int 3, .ref bversionsc, .int (nI (kbversions + 1))])), (bversionsc, .inl (G.2.1, 24, .inl f13806))]) hC hK hl hP hD hS hA (c_T_append l G bsteps 960 1 bstepsc vkc (by omega) (by omega)) si_X10_59 [8] [0, 1, 2, 3, 4, 5, 6, 7, 9, 10, 11] rfl rfl (by decide) rfl (by decide) (by decide) rfl rfl rfl rfl rfl (Nat.le_of_ble_eq_true rfl) ⟨Nat.le_of_ble_eq_true rfl, Nat.le_of_ble_eq_true rfl⟩ ⟨Nat.le_of_ble_eq_true rfl, Nat.le_of_ble_eq_true rfl⟩ dX10_store_174 (fun r3816 u3817 H locs hr3816 hP hD hS => ?_)
            have hP : va_P G.1 vwCl [(h0, .inr (10, [.ref tby, .int (nI kt), .ref tln, .ref tsp, .int tkd, .int ts9, .int tn9, .int tf9])), (tln, .inr (8, [.int 9, .int 7, .ref tlnc, .int (nI kln)])), (tlnc, .inl (G.2.1, 63, .inl ftln)), (tsp, .inr (8, [.int 120, .int 1, .ref tspc, .int (nI ksp)])), (tspc, .inl (G.2.1, 120, .inl ftsp)), (bb, .inr (0, [.ref bpersons, .ref bpapers, .ref bstamps, .ref bversions, .ref blines, .ref bsteps, .ref bsayings, .ref bfindings, .ref bwarnings, .ref bquestions, .int td, .int vd, .int vl, .int gp])), (blines, .inr (8, [.int 72, .int 7, .ref blinesc, .int (nI vkb)])), (blinesc, .inl (G.2.1, 504, .inl vbl)), (bstepsc, .inl (G.2.1, 960, .inl vbs)), (bversions, .inr (8, [.int 8, .int 3, .ref bversionsc, .int (nI (kbversions + 1))])), (bversionsc, .inl (G.2.1, 24, .inl f13806)), (bsteps, .inr (8, [.int 960, .int 1, .ref bstepsc, .int (nI (vkc + 1))]))] H := hP
            have hD : va_D A [(h0, .inr (10, [.ref tby, .int (nI kt), .ref tln, .ref tsp, .int tkd, .int ts9, .int tn9, .int tf9])), (tln, .inr (8, [.int 9, .int 7, .ref tlnc, .int (nI kln)])), (tlnc, .inl (G.2.1, 63, .inl ftln)), (tsp, .inr (8, [.int 120, .int 1, .ref tspc, .int (nI ksp)])), (tspc, .inl (G.2.1, 120, .inl ftsp)), (bb, .inr (0, [.ref bpersons, .ref bpapers, .ref bstamps, .ref bversions, .ref blines, .ref bsteps, .ref bsayings, .ref bfindings, .ref bwarnings, .ref bquestions, .int td, .int vd, .int vl, .int gp])), (blines, .inr (8, [.int 72, .int 7, .ref blinesc, .int (nI vkb)])), (blinesc, .inl (G.2.1, 504, .inl vbl)), (bstepsc, .inl (G.2.1, 960, .inl vbs)), (bversions, .inr (8, [.int 8, .int 3, .ref bversionsc, .int (nI (kbversions + 1))])), (bversionsc, .inl (G.2.1, 24, .inl f13806)), (bsteps, .inr (8, [.int 960, .int 1, .ref bstepsc, .int (nI (vkc + 1))]))] := hD
            obtain rfl := hr3816
            refine lv_iconst (v := 0) hx hb dX10_store_177 (by decide) ?_
            refine lv_aload_n hx hb dX10_store_178 rfl (lv_at hl 3 rfl) ?_
            refine gf_X10_24 hC rfl hK hP 0 rfl rfl dX10_store_179 ?_
            refine lv_iload hx hb dX10_store_182 (lv_at hl 0 rfl) ?_
            refine lv_iconst (v := 0) hx hb dX10_store_184 (by decide) ?_
            refine pV hC hK hl hP hD (c_T_at l G tsp (nI kQ) 0 120 1 tspc ksp ftsp (by omega) (by omega) (by omega)) si_X10_74 [3, 4] rfl rfl (by decide) rfl rfl rfl rfl rfl (Nat.le_of_ble_eq_true rfl) ⟨Nat.le_of_ble_eq_true rfl, Nat.le_of_ble_eq_true rfl⟩ ⟨by first | exact Nat.le_of_ble_eq_true rfl | exact Nat.zero_le _, by first | exact Nat.le_of_ble_eq_true rfl | exact Nat.zero_le _⟩ dX10_store_185 (fun r3819 hr3819 => ?_)
            refine vV (wr := [(h0, .inr (10, [.ref tby, .int (nI kt), .ref tln, .ref tsp, .int tkd, .int ts9, .int tn9, .int tf9])), (tln, .inr (8, [.int 9, .int 7, .ref tlnc, .int (nI kln)])), (tlnc, .inl (G.2.1, 63, .inl ftln)), (tsp, .inr (8, [.int 120, .int 1, .ref tspc, .int (nI ksp)])), (tspc, .inl (G.2.1, 120, .inl ftsp)), (bb, .inr (0, [.ref bpersons, .ref bpapers, .ref bstamps, .ref bversions, .ref blines, .ref bsteps, .ref bsayings, .ref bfindings, .ref bwarnings, .ref bquestions, .int td, .int vd, .int vl, .int gp])), (blines, .inr (8, [.int 72, .int 7, .ref blinesc, .int (nI vkb)])), (blinesc, .inl (G.2.1, 504, .inl vbl)), (bversions, .inr (8, [.int 8, .int 3, .ref bversionsc, .int (nI (kbversions + 1))])), (bversionsc, .inl (G.2.1, 24, .inl f13806))]) hC hK hl hP hD hS hA (c_T_set l G bsteps (nI vkc) 0 r3819 960 1 bstepsc (vkc + 1) vbs (by omega) (by omega) (by omega)) si_X10_66 [11, 8] [0, 1, 2, 3, 4, 5, 6, 7, 9, 10] rfl rfl (by decide) rfl (by decide) (by decide) rfl rfl rfl rfl rfl (Nat.le_of_ble_eq_true rfl) ⟨Nat.le_of_ble_eq_true rfl, Nat.le_of_ble_eq_true rfl⟩ ⟨Nat.le_of_ble_eq_true rfl, Nat.le_of_ble_eq_true rfl⟩ dX10_store_188 (fun u3822 H locs hr3821 hP hD hS => ?_)
            obtain ⟨f13823, rfl⟩ : ∃ z9, z9 = u3822 := ⟨_, rfl⟩
            try dsimp only at hr3821
            have hP : va_P G.1 vwCl [(h0, .inr (10, [.ref tby, .int (nI kt), .ref tln, .ref tsp, .int tkd, .int ts9, .int tn9, .int tf9])), (tln, .inr (8, [.int 9, .int 7, .ref tlnc, .int (nI kln)])), (tlnc, .inl (G.2.1, 63, .inl ftln)), (tsp, .inr (8, [.int 120, .int 1, .ref tspc, .int (nI ksp)])), (tspc, .inl (G.2.1, 120, .inl ftsp)), (bb, .inr (0, [.ref bpersons, .ref bpapers, .ref bstamps, .ref bversions, .ref blines, .ref bsteps, .ref bsayings, .ref bfindings, .ref bwarnings, .ref bquestions, .int td, .int vd, .int vl, .int gp])), (blines, .inr (8, [.int 72, .int 7, .ref blinesc, .int (nI vkb)])), (blinesc, .inl (G.2.1, 504, .inl vbl)), (bversions, .inr (8, [.int 8, .int 3, .ref bversionsc, .int (nI (kbversions + 1))])), (bversionsc, .inl (G.2.1, 24, .inl f13806)), (bsteps, .inr (8, [.int 960, .int 1, .ref bstepsc, .int (nI (vkc + 1))])), (bstepsc, .inl (G.2.1, 960, .inl f13823))] H := hP
            have hD : va_D A [(h0, .inr (10, [.ref tby, .int (nI kt), .ref tln, .ref tsp, .int tkd, .int ts9, .int tn9, .int tf9])), (tln, .inr (8, [.int 9, .int 7, .ref tlnc, .int (nI kln)])), (tlnc, .inl (G.2.1, 63, .inl ftln)), (tsp, .inr (8, [.int 120, .int 1, .ref tspc, .int (nI ksp)])), (tspc, .inl (G.2.1, 120, .inl ftsp)), (bb, .inr (0, [.ref bpersons, .ref bpapers, .ref bstamps, .ref bversions, .ref blines, .ref bsteps, .ref bsayings, .ref bfindings, .ref bwarnings, .ref bquestions, .int td, .int vd, .int vl, .int gp])), (blines, .inr (8, [.int 72, .int 7, .ref blinesc, .int (nI vkb)])), (blinesc, .inl (G.2.1, 504, .inl vbl)), (bversions, .inr (8, [.int 8, .int 3, .ref bversionsc, .int (nI (kbversions + 1))])), (bversionsc, .inl (G.2.1, 24, .inl f13806)), (bsteps, .inr (8, [.int 960, .int 1, .ref bstepsc, .int (nI (vkc + 1))])), (bstepsc, .inl (G.2.1, 960, .inl f13823))] := hD
            have w3824 := hr3821
            refine lv_iinc (v := nI (kQ + 1)) (lv' := [(4, .int (nI (kQ + 1))), (3, .int (nI kbsteps)), (2, .int (nI kbversions)), (0, .ref h0), (1, .ref bb)]) hx hb dX10_store_191 hl (k := 0) rfl (nI_1 _) (by decide) rfl (fun ls hl => ?_)
            refine lv_goto (tgt := 154) hx hb dX10_store_194 (by decide) ?_
            have hP := hP.sub (ws' := [(h0, .inr (10, [.ref tby, .int (nI kt), .ref tln, .ref tsp, .int tkd, .int ts9, .int tn9, .int tf9])), (tln, .inr (8, [.int 9, .int 7, .ref tlnc, .int (nI kln)])), (tlnc, .inl (G.2.1, 63, .inl ftln)), (tsp, .inr (8, [.int 120, .int 1, .ref tspc, .int (nI ksp)])), (tspc, .inl (G.2.1, 120, .inl ftsp)), (bb, .inr (0, [.ref bpersons, .ref bpapers, .ref bstamps, .ref bversions, .ref blines, .ref bsteps, .ref bsayings, .ref bfindings, .ref bwarnings, .ref bquestions, .int td, .int vd, .int vl, .int gp])), (blines, .inr (8, [.int 72, .int 7, .ref blinesc, .int (nI vkb)])), (blinesc, .inl (G.2.1, 504, .inl vbl)), (bsteps, .inr (8, [.int 960, .int 1, .ref bstepsc, .int (nI (vkc + 1))])), (bstepsc, .inl (G.2.1, 960, .inl f13823)), (bversions, .inr (8, [.int 8, .int 3, .ref bversionsc, .int (nI (kbversions + 1))])), (bversionsc, .inl (G.2.1, 24, .inl f13806))]) [0, 1, 2, 3, 4, 5, 6, 7, 10, 11, 8, 9] rfl
            have hD := hD.sub (ws' := [(h0, .inr (10, [.ref tby, .int (nI kt), .ref tln, .ref tsp, .int tkd, .int ts9, .int tn9, .int tf9])), (tln, .inr (8, [.int 9, .int 7, .ref tlnc, .int (nI kln)])), (tlnc, .inl (G.2.1, 63, .inl ftln)), (tsp, .inr (8, [.int 120, .int 1, .ref tspc, .int (nI ksp)])), (tspc, .inl (G.2.1, 120, .inl ftsp)), (bb, .inr (0, [.ref bpersons, .ref bpapers, .ref bstamps, .ref bversions, .ref blines, .ref bsteps, .ref bsayings, .ref bfindings, .ref bwarnings, .ref bquestions, .int td, .int vd, .int vl, .int gp])), (blines, .inr (8, [.int 72, .int 7, .ref blinesc, .int (nI vkb)])), (blinesc, .inl (G.2.1, 504, .inl vbl)), (bsteps, .inr (8, [.int 960, .int 1, .ref bstepsc, .int (nI (vkc + 1))])), (bstepsc, .inl (G.2.1, 960, .inl f13823)), (bversions, .inr (8, [.int 8, .int 3, .ref bversionsc, .int (nI (kbversions + 1))])), (bversionsc, .inl (G.2.1, 24, .inl f13806))]) [0, 1, 2, 3, 4, 5, 6, 7, 10, 11, 8, 9] (by decide) rfl
            exact ihQ (kQ + 1) f13823 (vkc + 1) _ _ _ (by omega) (by first | assumption | exact Or.inl rfl | exact Or.inr rfl | omega) hP hD hS (lv_sub hl [0, 1, 2, 3, 4] rfl)
          · refine iV (wr := [(h0, .inr (10, [.ref tby, .int (nI kt), .ref tln, .ref tsp, .int tkd, .int ts9, .int tn9, .int tf9])), (tln, .inr (8, [.int 9, .int 7, .ref tlnc, .int (nI kln)])), (tlnc, .inl (G.2.1, 63, .inl ftln)), (tsp, .inr (8, [.int 120, .int 1, .ref tspc, .int (nI ksp)])), (tspc, .inl (G.2.1, 120, .inl ftsp)), (bb, .inr (0, [.ref bpersons, .ref bpapers, .ref bstamps, .ref bversions, .ref blines, .ref bsteps, .ref bsayings, .ref bfindings, .ref bwarnings, .ref bquestions, .int td, .int vd, .int vl, .int gp])), (blines, .inr (8, [.int 72, .int 7, .ref blinesc, .int (nI vkb)])), (blinesc, .inl (G.2.1, 504, .inl vbl)), (bstepsc, .inl (G.2.1, 960, .inl vbs)), (bversions, .inr (8, [.int 8, .int 3, .ref bversionsc, .int (nI (kbversions + 1))])), (bversionsc, .inl (G.2.1, 24, .inl f13806))]) hC hK hl hP hD hS hA (c_T_appendF l G bsteps 960 1 bstepsc vkc (by omega) (by omega)) si_X10_59 [8] [0, 1, 2, 3, 4, 5, 6, 7, 9, 10, 11] rfl rfl (by decide) rfl (by decide) (by decide) rfl rfl rfl rfl rfl (Nat.le_of_ble_eq_true rfl) ⟨Nat.le_of_ble_eq_true rfl, Nat.le_of_ble_eq_true rfl⟩ ⟨Nat.le_of_ble_eq_true rfl, Nat.le_of_ble_eq_true rfl⟩ dX10_store_174 (fun r3825 u3826 H locs hr3825 hP hD hS => ?_)
            have hP : va_P G.1 vwCl [(h0, .inr (10, [.ref tby, .int (nI kt), .ref tln, .ref tsp, .int tkd, .int ts9, .int tn9, .int tf9])), (tln, .inr (8, [.int 9, .int 7, .ref tlnc, .int (nI kln)])), (tlnc, .inl (G.2.1, 63, .inl ftln)), (tsp, .inr (8, [.int 120, .int 1, .ref tspc, .int (nI ksp)])), (tspc, .inl (G.2.1, 120, .inl ftsp)), (bb, .inr (0, [.ref bpersons, .ref bpapers, .ref bstamps, .ref bversions, .ref blines, .ref bsteps, .ref bsayings, .ref bfindings, .ref bwarnings, .ref bquestions, .int td, .int vd, .int vl, .int gp])), (blines, .inr (8, [.int 72, .int 7, .ref blinesc, .int (nI vkb)])), (blinesc, .inl (G.2.1, 504, .inl vbl)), (bstepsc, .inl (G.2.1, 960, .inl vbs)), (bversions, .inr (8, [.int 8, .int 3, .ref bversionsc, .int (nI (kbversions + 1))])), (bversionsc, .inl (G.2.1, 24, .inl f13806)), (bsteps, .inr (8, [.int 960, .int 1, .ref bstepsc, .int (nI vkc)]))] H := hP
            have hD : va_D A [(h0, .inr (10, [.ref tby, .int (nI kt), .ref tln, .ref tsp, .int tkd, .int ts9, .int tn9, .int tf9])), (tln, .inr (8, [.int 9, .int 7, .ref tlnc, .int (nI kln)])), (tlnc, .inl (G.2.1, 63, .inl ftln)), (tsp, .inr (8, [.int 120, .int 1, .ref tspc, .int (nI ksp)])), (tspc, .inl (G.2.1, 120, .inl ftsp)), (bb, .inr (0, [.ref bpersons, .ref bpapers, .ref bstamps, .ref bversions, .ref blines, .ref bsteps, .ref bsayings, .ref bfindings, .ref bwarnings, .ref bquestions, .int td, .int vd, .int vl, .int gp])), (blines, .inr (8, [.int 72, .int 7, .ref blinesc, .int (nI vkb)])), (blinesc, .inl (G.2.1, 504, .inl vbl)), (bstepsc, .inl (G.2.1, 960, .inl vbs)), (bversions, .inr (8, [.int 8, .int 3, .ref bversionsc, .int (nI (kbversions + 1))])), (bversionsc, .inl (G.2.1, 24, .inl f13806)), (bsteps, .inr (8, [.int 960, .int 1, .ref bstepsc, .int (nI vkc)]))] := hD
            obtain rfl := hr3825
            refine lv_iconst (v := 0) hx hb dX10_store_177 (by decide) ?_
            refine lv_aload_n hx hb dX10_store_178 rfl (lv_at hl 3 rfl) ?_
            refine gf_X10_24 hC rfl hK hP 0 rfl rfl dX10_store_179 ?_
            refine lv_iload hx hb dX10_store_182 (lv_at hl 0 rfl) ?_
            refine lv_iconst (v := 0) hx hb dX10_store_184 (by decide) ?_
            refine pV hC hK hl hP hD (c_T_at l G tsp (nI kQ) 0 120 1 tspc ksp ftsp (by omega) (by omega) (by omega)) si_X10_74 [3, 4] rfl rfl (by decide) rfl rfl rfl rfl rfl (Nat.le_of_ble_eq_true rfl) ⟨Nat.le_of_ble_eq_true rfl, Nat.le_of_ble_eq_true rfl⟩ ⟨by first | exact Nat.le_of_ble_eq_true rfl | exact Nat.zero_le _, by first | exact Nat.le_of_ble_eq_true rfl | exact Nat.zero_le _⟩ dX10_store_185 (fun r3828 hr3828 => ?_)
            refine vV (wr := [(h0, .inr (10, [.ref tby, .int (nI kt), .ref tln, .ref tsp, .int tkd, .int ts9, .int tn9, .int tf9])), (tln, .inr (8, [.int 9, .int 7, .ref tlnc, .int (nI kln)])), (tlnc, .inl (G.2.1, 63, .inl ftln)), (tsp, .inr (8, [.int 120, .int 1, .ref tspc, .int (nI ksp)])), (tspc, .inl (G.2.1, 120, .inl ftsp)), (bb, .inr (0, [.ref bpersons, .ref bpapers, .ref bstamps, .ref bversions, .ref blines, .ref bsteps, .ref bsayings, .ref bfindings, .ref bwarnings, .ref bquestions, .int td, .int vd, .int vl, .int gp])), (blines, .inr (8, [.int 72, .int 7, .ref blinesc, .int (nI vkb)])), (blinesc, .inl (G.2.1, 504, .inl vbl)), (bversions, .inr (8, [.int 8, .int 3, .ref bversionsc, .int (nI (kbversions + 1))])), (bversionsc, .inl (G.2.1, 24, .inl f13806))]) hC hK hl hP hD hS hA (c_T_set l G bsteps (-2) 0 r3828 960 1 bstepsc vkc vbs (by omega) (by omega) (by omega)) si_X10_66 [11, 8] [0, 1, 2, 3, 4, 5, 6, 7, 9, 10] rfl rfl (by decide) rfl (by decide) (by decide) rfl rfl rfl rfl rfl (Nat.le_of_ble_eq_true rfl) ⟨Nat.le_of_ble_eq_true rfl, Nat.le_of_ble_eq_true rfl⟩ ⟨Nat.le_of_ble_eq_true rfl, Nat.le_of_ble_eq_true rfl⟩ dX10_store_188 (fun u3831 H locs hr3830 hP hD hS => ?_)
            obtain ⟨f13832, rfl⟩ : ∃ z9, z9 = u3831 := ⟨_, rfl⟩
            try dsimp only at hr3830
            have hP : va_P G.1 vwCl [(h0, .inr (10, [.ref tby, .int (nI kt), .ref tln, .ref tsp, .int tkd, .int ts9, .int tn9, .int tf9])), (tln, .inr (8, [.int 9, .int 7, .ref tlnc, .int (nI kln)])), (tlnc, .inl (G.2.1, 63, .inl ftln)), (tsp, .inr (8, [.int 120, .int 1, .ref tspc, .int (nI ksp)])), (tspc, .inl (G.2.1, 120, .inl ftsp)), (bb, .inr (0, [.ref bpersons, .ref bpapers, .ref bstamps, .ref bversions, .ref blines, .ref bsteps, .ref bsayings, .ref bfindings, .ref bwarnings, .ref bquestions, .int td, .int vd, .int vl, .int gp])), (blines, .inr (8, [.int 72, .int 7, .ref blinesc, .int (nI vkb)])), (blinesc, .inl (G.2.1, 504, .inl vbl)), (bversions, .inr (8, [.int 8, .int 3, .ref bversionsc, .int (nI (kbversions + 1))])), (bversionsc, .inl (G.2.1, 24, .inl f13806)), (bsteps, .inr (8, [.int 960, .int 1, .ref bstepsc, .int (nI vkc)])), (bstepsc, .inl (G.2.1, 960, .inl f13832))] H := hP
            have hD : va_D A [(h0, .inr (10, [.ref tby, .int (nI kt), .ref tln, .ref tsp, .int tkd, .int ts9, .int tn9, .int tf9])), (tln, .inr (8, [.int 9, .int 7, .ref tlnc, .int (nI kln)])), (tlnc, .inl (G.2.1, 63, .inl ftln)), (tsp, .inr (8, [.int 120, .int 1, .ref tspc, .int (nI ksp)])), (tspc, .inl (G.2.1, 120, .inl ftsp)), (bb, .inr (0, [.ref bpersons, .ref bpapers, .ref bstamps, .ref bversions, .ref blines, .ref bsteps, .ref bsayings, .ref bfindings, .ref bwarnings, .ref bquestions, .int td, .int vd, .int vl, .int gp])), (blines, .inr (8, [.int 72, .int 7, .ref blinesc, .int (nI vkb)])), (blinesc, .inl (G.2.1, 504, .inl vbl)), (bversions, .inr (8, [.int 8, .int 3, .ref bversionsc, .int (nI (kbversions + 1))])), (bversionsc, .inl (G.2.1, 24, .inl f13806)), (bsteps, .inr (8, [.int 960, .int 1, .ref bstepsc, .int (nI vkc)])), (bstepsc, .inl (G.2.1, 960, .inl f13832))] := hD
            have w3833 := hr3830
            refine lv_iinc (v := nI (kQ + 1)) (lv' := [(4, .int (nI (kQ + 1))), (3, .int (nI kbsteps)), (2, .int (nI kbversions)), (0, .ref h0), (1, .ref bb)]) hx hb dX10_store_191 hl (k := 0) rfl (nI_1 _) (by decide) rfl (fun ls hl => ?_)
            refine lv_goto (tgt := 154) hx hb dX10_store_194 (by decide) ?_
            have hP := hP.sub (ws' := [(h0, .inr (10, [.ref tby, .int (nI kt), .ref tln, .ref tsp, .int tkd, .int ts9, .int tn9, .int tf9])), (tln, .inr (8, [.int 9, .int 7, .ref tlnc, .int (nI kln)])), (tlnc, .inl (G.2.1, 63, .inl ftln)), (tsp, .inr (8, [.int 120, .int 1, .ref tspc, .int (nI ksp)])), (tspc, .inl (G.2.1, 120, .inl ftsp)), (bb, .inr (0, [.ref bpersons, .ref bpapers, .ref bstamps, .ref bversions, .ref blines, .ref bsteps, .ref bsayings, .ref bfindings, .ref bwarnings, .ref bquestions, .int td, .int vd, .int vl, .int gp])), (blines, .inr (8, [.int 72, .int 7, .ref blinesc, .int (nI vkb)])), (blinesc, .inl (G.2.1, 504, .inl vbl)), (bsteps, .inr (8, [.int 960, .int 1, .ref bstepsc, .int (nI vkc)])), (bstepsc, .inl (G.2.1, 960, .inl f13832)), (bversions, .inr (8, [.int 8, .int 3, .ref bversionsc, .int (nI (kbversions + 1))])), (bversionsc, .inl (G.2.1, 24, .inl f13806))]) [0, 1, 2, 3, 4, 5, 6, 7, 10, 11, 8, 9] rfl
            have hD := hD.sub (ws' := [(h0, .inr (10, [.ref tby, .int (nI kt), .ref tln, .ref tsp, .int tkd, .int ts9, .int tn9, .int tf9])), (tln, .inr (8, [.int 9, .int 7, .ref tlnc, .int (nI kln)])), (tlnc, .inl (G.2.1, 63, .inl ftln)), (tsp, .inr (8, [.int 120, .int 1, .ref tspc, .int (nI ksp)])), (tspc, .inl (G.2.1, 120, .inl ftsp)), (bb, .inr (0, [.ref bpersons, .ref bpapers, .ref bstamps, .ref bversions, .ref blines, .ref bsteps, .ref bsayings, .ref bfindings, .ref bwarnings, .ref bquestions, .int td, .int vd, .int vl, .int gp])), (blines, .inr (8, [.int 72, .int 7, .ref blinesc, .int (nI vkb)])), (blinesc, .inl (G.2.1, 504, .inl vbl)), (bsteps, .inr (8, [.int 960, .int 1, .ref bstepsc, .int (nI vkc)])), (bstepsc, .inl (G.2.1, 960, .inl f13832)), (bversions, .inr (8, [.int 8, .int 3, .ref bversionsc, .int (nI (kbversions + 1))])), (bversionsc, .inl (G.2.1, 24, .inl f13806))]) [0, 1, 2, 3, 4, 5, 6, 7, 10, 11, 8, 9] (by decide) rfl
            exact ihQ (kQ + 1) f13832 vkc _ _ _ (by omega) (by first | assumption | exact Or.inl rfl | exact Or.inr rfl | omega) hP hD hS (lv_sub hl [0, 1, 2, 3, 4] rfl)
      exact keyQ ksp 0 fbsteps kbsteps _ _ _ (by omega) (by first | assumption | exact Or.inl rfl | exact Or.inr rfl | omega) hP hD hS (lv_sub hl [0, 1, 2, 3, 4] rfl)
    | succ nP ihP =>
      intro kP vbl vkb H locs ls hkP hvkb hP hD hS hl
      refine lv_iload hx hb dX10_store_64 (lv_at hl 0 rfl) ?_
      refine lv_aload_n hx hb dX10_store_66 rfl (lv_at hl 3 rfl) ?_
      refine gf_X10_20 hC rfl hK hP 0 rfl rfl dX10_store_67 ?_
      refine pV hC hK hl hP hD (c_T_count l G tln 9 7 tlnc kln) si_X10_71 [1] rfl rfl (by decide) rfl rfl rfl rfl rfl (Nat.le_of_ble_eq_true rfl) ⟨Nat.le_of_ble_eq_true rfl, Nat.le_of_ble_eq_true rfl⟩ ⟨by first | exact Nat.le_of_ble_eq_true rfl | exact Nat.zero_le _, by first | exact Nat.le_of_ble_eq_true rfl | exact Nat.zero_le _⟩ dX10_store_70 (fun r3834 hr3834 => ?_)
      obtain rfl := hr3834
      refine lv_icmp_ge (tgt := 151) hx hb dX10_store_73 (by decide) (fun c9 => absurd c9 (nI_ge (a := kP) (b := kln) (by omega) (by omega))) (fun _ => ?_)
      refine lv_aload_n hx hb dX10_store_76 rfl (lv_at hl 4 rfl) ?_
      refine gf_X10_70 hC rfl hK hP 5 rfl rfl dX10_store_77 ?_
      rcases Nat.lt_or_ge vkb 72 with hcap9 | hcap9
      · refine iV (wr := [(h0, .inr (10, [.ref tby, .int (nI kt), .ref tln, .ref tsp, .int tkd, .int ts9, .int tn9, .int tf9])), (tln, .inr (8, [.int 9, .int 7, .ref tlnc, .int (nI kln)])), (tlnc, .inl (G.2.1, 63, .inl ftln)), (tsp, .inr (8, [.int 120, .int 1, .ref tspc, .int (nI ksp)])), (tspc, .inl (G.2.1, 120, .inl ftsp)), (bb, .inr (0, [.ref bpersons, .ref bpapers, .ref bstamps, .ref bversions, .ref blines, .ref bsteps, .ref bsayings, .ref bfindings, .ref bwarnings, .ref bquestions, .int td, .int vd, .int vl, .int gp])), (blinesc, .inl (G.2.1, 504, .inl vbl)), (bsteps, .inr (8, [.int 960, .int 1, .ref bstepsc, .int (nI kbsteps)])), (bstepsc, .inl (G.2.1, 960, .inl fbsteps)), (bversions, .inr (8, [.int 8, .int 3, .ref bversionsc, .int (nI (kbversions + 1))])), (bversionsc, .inl (G.2.1, 24, .inl f13806))]) hC hK hl hP hD hS hA (c_T_append l G blines 72 7 blinesc vkb (by omega) (by omega)) si_X10_59 [6] [0, 1, 2, 3, 4, 5, 7, 8, 9, 10, 11] rfl rfl (by decide) rfl (by decide) (by decide) rfl rfl rfl rfl rfl (Nat.le_of_ble_eq_true rfl) ⟨Nat.le_of_ble_eq_true rfl, Nat.le_of_ble_eq_true rfl⟩ ⟨Nat.le_of_ble_eq_true rfl, Nat.le_of_ble_eq_true rfl⟩ dX10_store_80 (fun r3836 u3837 H locs hr3836 hP hD hS => ?_)
        have hP : va_P G.1 vwCl [(h0, .inr (10, [.ref tby, .int (nI kt), .ref tln, .ref tsp, .int tkd, .int ts9, .int tn9, .int tf9])), (tln, .inr (8, [.int 9, .int 7, .ref tlnc, .int (nI kln)])), (tlnc, .inl (G.2.1, 63, .inl ftln)), (tsp, .inr (8, [.int 120, .int 1, .ref tspc, .int (nI ksp)])), (tspc, .inl (G.2.1, 120, .inl ftsp)), (bb, .inr (0, [.ref bpersons, .ref bpapers, .ref bstamps, .ref bversions, .ref blines, .ref bsteps, .ref bsayings, .ref bfindings, .ref bwarnings, .ref bquestions, .int td, .int vd, .int vl, .int gp])), (blinesc, .inl (G.2.1, 504, .inl vbl)), (bsteps, .inr (8, [.int 960, .int 1, .ref bstepsc, .int (nI kbsteps)])), (bstepsc, .inl (G.2.1, 960, .inl fbsteps)), (bversions, .inr (8, [.int 8, .int 3, .ref bversionsc, .int (nI (kbversions + 1))])), (bversionsc, .inl (G.2.1, 24, .inl f13806)), (blines, .inr (8, [.int 72, .int 7, .ref blinesc, .int (nI (vkb + 1))]))] H := hP
        have hD : va_D A [(h0, .inr (10, [.ref tby, .int (nI kt), .ref tln, .ref tsp, .int tkd, .int ts9, .int tn9, .int tf9])), (tln, .inr (8, [.int 9, .int 7, .ref tlnc, .int (nI kln)])), (tlnc, .inl (G.2.1, 63, .inl ftln)), (tsp, .inr (8, [.int 120, .int 1, .ref tspc, .int (nI ksp)])), (tspc, .inl (G.2.1, 120, .inl ftsp)), (bb, .inr (0, [.ref bpersons, .ref bpapers, .ref bstamps, .ref bversions, .ref blines, .ref bsteps, .ref bsayings, .ref bfindings, .ref bwarnings, .ref bquestions, .int td, .int vd, .int vl, .int gp])), (blinesc, .inl (G.2.1, 504, .inl vbl)), (bsteps, .inr (8, [.int 960, .int 1, .ref bstepsc, .int (nI kbsteps)])), (bstepsc, .inl (G.2.1, 960, .inl fbsteps)), (bversions, .inr (8, [.int 8, .int 3, .ref bversionsc, .int (nI (kbversions + 1))])), (bversionsc, .inl (G.2.1, 24, .inl f13806)), (blines, .inr (8, [.int 72, .int 7, .ref blinesc, .int (nI (vkb + 1))]))] := hD
        obtain rfl := hr3836
        refine lv_istore (lv' := [(5, .int (nI vkb)), (4, .int (nI kP)), (3, .int (nI kbsteps)), (2, .int (nI kbversions)), (0, .ref h0), (1, .ref bb)]) hx hb dX10_store_83 hl (by decide) rfl (fun ls hl => ?_)
        refine lv_iconst (v := 0) hx hb dX10_store_85 (by decide) ?_
        refine lv_istore (lv' := [(6, .int 0), (5, .int (nI vkb)), (4, .int (nI kP)), (3, .int (nI kbsteps)), (2, .int (nI kbversions)), (0, .ref h0), (1, .ref bb)]) hx hb dX10_store_86 hl (by decide) rfl (fun ls hl => ?_)
        refine lv_iload hx hb dX10_store_88 (lv_at hl 0 rfl) ?_
        refine lv_bipush (v := 6) hx hb dX10_store_90 (by decide) ?_
        refine lv_icmp_gt (tgt := 123) hx hb dX10_store_92 (by decide) (fun c9 => absurd c9 (by decide)) (fun _ => ?_)
        refine lv_aload_n hx hb dX10_store_95 rfl (lv_at hl 6 rfl) ?_
        refine gf_X10_70 hC rfl hK hP 5 rfl rfl dX10_store_96 ?_
        refine lv_iload hx hb dX10_store_99 (lv_at hl 1 rfl) ?_
        refine lv_iload hx hb dX10_store_101 (lv_at hl 0 rfl) ?_
        refine lv_aload_n hx hb dX10_store_103 rfl (lv_at hl 5 rfl) ?_
        refine gf_X10_20 hC rfl hK hP 0 rfl rfl dX10_store_104 ?_
        refine lv_iload hx hb dX10_store_107 (lv_at hl 2 rfl) ?_
        refine lv_iload hx hb dX10_store_109 (lv_at hl 0 rfl) ?_
        refine pV hC hK hl hP hD (c_T_at l G tln (nI kP) 0 9 7 tlnc kln ftln (by omega) (by omega) (by omega)) si_X10_74 [1, 2] rfl rfl (by decide) rfl rfl rfl rfl rfl (Nat.le_of_ble_eq_true rfl) ⟨Nat.le_of_ble_eq_true rfl, Nat.le_of_ble_eq_true rfl⟩ ⟨by first | exact Nat.le_of_ble_eq_true rfl | exact Nat.zero_le _, by first | exact Nat.le_of_ble_eq_true rfl | exact Nat.zero_le _⟩ dX10_store_111 (fun r3839 hr3839 => ?_)
        refine vV (wr := [(h0, .inr (10, [.ref tby, .int (nI kt), .ref tln, .ref tsp, .int tkd, .int ts9, .int tn9, .int tf9])), (tln, .inr (8, [.int 9, .int 7, .ref tlnc, .int (nI kln)])), (tlnc, .inl (G.2.1, 63, .inl ftln)), (tsp, .inr (8, [.int 120, .int 1, .ref tspc, .int (nI ksp)])), (tspc, .inl (G.2.1, 120, .inl ftsp)), (bb, .inr (0, [.ref bpersons, .ref bpapers, .ref bstamps, .ref bversions, .ref blines, .ref bsteps, .ref bsayings, .ref bfindings, .ref bwarnings, .ref bquestions, .int td, .int vd, .int vl, .int gp])), (bsteps, .inr (8, [.int 960, .int 1, .ref bstepsc, .int (nI kbsteps)])), (bstepsc, .inl (G.2.1, 960, .inl fbsteps)), (bversions, .inr (8, [.int 8, .int 3, .ref bversionsc, .int (nI (kbversions + 1))])), (bversionsc, .inl (G.2.1, 24, .inl f13806))]) hC hK hl hP hD hS hA (c_T_set l G blines (nI vkb) 0 r3839 72 7 blinesc (vkb + 1) vbl (by omega) (by omega) (by omega)) si_X10_66 [11, 6] [0, 1, 2, 3, 4, 5, 7, 8, 9, 10] rfl rfl (by decide) rfl (by decide) (by decide) rfl rfl rfl rfl rfl (Nat.le_of_ble_eq_true rfl) ⟨Nat.le_of_ble_eq_true rfl, Nat.le_of_ble_eq_true rfl⟩ ⟨Nat.le_of_ble_eq_true rfl, Nat.le_of_ble_eq_true rfl⟩ dX10_store_114 (fun u3842 H locs hr3841 hP hD hS => ?_)
        obtain ⟨f13843, rfl⟩ : ∃ z9, z9 = u3842 := ⟨_, rfl⟩
        try dsimp only at hr3841
        have hP : va_P G.1 vwCl [(h0, .inr (10, [.ref tby, .int (nI kt), .ref tln, .ref tsp, .int tkd, .int ts9, .int tn9, .int tf9])), (tln, .inr (8, [.int 9, .int 7, .ref tlnc, .int (nI kln)])), (tlnc, .inl (G.2.1, 63, .inl ftln)), (tsp, .inr (8, [.int 120, .int 1, .ref tspc, .int (nI ksp)])), (tspc, .inl (G.2.1, 120, .inl ftsp)), (bb, .inr (0, [.ref bpersons, .ref bpapers, .ref bstamps, .ref bversions, .ref blines, .ref bsteps, .ref bsayings, .ref bfindings, .ref bwarnings, .ref bquestions, .int td, .int vd, .int vl, .int gp])), (bsteps, .inr (8, [.int 960, .int 1, .ref bstepsc, .int (nI kbsteps)])), (bstepsc, .inl (G.2.1, 960, .inl fbsteps)), (bversions, .inr (8, [.int 8, .int 3, .ref bversionsc, .int (nI (kbversions + 1))])), (bversionsc, .inl (G.2.1, 24, .inl f13806)), (blines, .inr (8, [.int 72, .int 7, .ref blinesc, .int (nI (vkb + 1))])), (blinesc, .inl (G.2.1, 504, .inl f13843))] H := hP
        have hD : va_D A [(h0, .inr (10, [.ref tby, .int (nI kt), .ref tln, .ref tsp, .int tkd, .int ts9, .int tn9, .int tf9])), (tln, .inr (8, [.int 9, .int 7, .ref tlnc, .int (nI kln)])), (tlnc, .inl (G.2.1, 63, .inl ftln)), (tsp, .inr (8, [.int 120, .int 1, .ref tspc, .int (nI ksp)])), (tspc, .inl (G.2.1, 120, .inl ftsp)), (bb, .inr (0, [.ref bpersons, .ref bpapers, .ref bstamps, .ref bversions, .ref blines, .ref bsteps, .ref bsayings, .ref bfindings, .ref bwarnings, .ref bquestions, .int td, .int vd, .int vl, .int gp])), (bsteps, .inr (8, [.int 960, .int 1, .ref bstepsc, .int (nI kbsteps)])), (bstepsc, .inl (G.2.1, 960, .inl fbsteps)), (bversions, .inr (8, [.int 8, .int 3, .ref bversionsc, .int (nI (kbversions + 1))])), (bversionsc, .inl (G.2.1, 24, .inl f13806)), (blines, .inr (8, [.int 72, .int 7, .ref blinesc, .int (nI (vkb + 1))])), (blinesc, .inl (G.2.1, 504, .inl f13843))] := hD
        have w3844 := hr3841
        refine lv_iinc (v := 1) (lv' := [(6, .int 1), (5, .int (nI vkb)), (4, .int (nI kP)), (3, .int (nI kbsteps)), (2, .int (nI kbversions)), (0, .ref h0), (1, .ref bb)]) hx hb dX10_store_117 hl (k := 0) rfl (by decide) (by decide) rfl (fun ls hl => ?_)
        refine lv_goto (tgt := 88) hx hb dX10_store_120 (by decide) ?_
        refine lv_iload hx hb dX10_store_88 (lv_at hl 0 rfl) ?_
        refine lv_bipush (v := 6) hx hb dX10_store_90 (by decide) ?_
        refine lv_icmp_gt (tgt := 123) hx hb dX10_store_92 (by decide) (fun c9 => absurd c9 (by decide)) (fun _ => ?_)
        refine lv_aload_n hx hb dX10_store_95 rfl (lv_at hl 6 rfl) ?_
        refine gf_X10_70 hC rfl hK hP 5 rfl rfl dX10_store_96 ?_
        refine lv_iload hx hb dX10_store_99 (lv_at hl 1 rfl) ?_
        refine lv_iload hx hb dX10_store_101 (lv_at hl 0 rfl) ?_
        refine lv_aload_n hx hb dX10_store_103 rfl (lv_at hl 5 rfl) ?_
        refine gf_X10_20 hC rfl hK hP 0 rfl rfl dX10_store_104 ?_
        refine lv_iload hx hb dX10_store_107 (lv_at hl 2 rfl) ?_
        refine lv_iload hx hb dX10_store_109 (lv_at hl 0 rfl) ?_
        refine pV hC hK hl hP hD (c_T_at l G tln (nI kP) 1 9 7 tlnc kln ftln (by omega) (by omega) (by omega)) si_X10_74 [1, 2] rfl rfl (by decide) rfl rfl rfl rfl rfl (Nat.le_of_ble_eq_true rfl) ⟨Nat.le_of_ble_eq_true rfl, Nat.le_of_ble_eq_true rfl⟩ ⟨by first | exact Nat.le_of_ble_eq_true rfl | exact Nat.zero_le _, by first | exact Nat.le_of_ble_eq_true rfl | exact Nat.zero_le _⟩ dX10_store_111 (fun r3845 hr3845 => ?_)
        refine vV (wr := [(h0, .inr (10, [.ref tby, .int (nI kt), .ref tln, .ref tsp, .int tkd, .int ts9, .int tn9, .int tf9])), (tln, .inr (8, [.int 9, .int 7, .ref tlnc, .int (nI kln)])), (tlnc, .inl (G.2.1, 63, .inl ftln)), (tsp, .inr (8, [.int 120, .int 1, .ref tspc, .int (nI ksp)])), (tspc, .inl (G.2.1, 120, .inl ftsp)), (bb, .inr (0, [.ref bpersons, .ref bpapers, .ref bstamps, .ref bversions, .ref blines, .ref bsteps, .ref bsayings, .ref bfindings, .ref bwarnings, .ref bquestions, .int td, .int vd, .int vl, .int gp])), (bsteps, .inr (8, [.int 960, .int 1, .ref bstepsc, .int (nI kbsteps)])), (bstepsc, .inl (G.2.1, 960, .inl fbsteps)), (bversions, .inr (8, [.int 8, .int 3, .ref bversionsc, .int (nI (kbversions + 1))])), (bversionsc, .inl (G.2.1, 24, .inl f13806))]) hC hK hl hP hD hS hA (c_T_set l G blines (nI vkb) 1 r3845 72 7 blinesc (vkb + 1) f13843 (by omega) (by omega) (by omega)) si_X10_66 [10, 11] [0, 1, 2, 3, 4, 5, 6, 7, 8, 9] rfl rfl (by decide) rfl (by decide) (by decide) rfl rfl rfl rfl rfl (Nat.le_of_ble_eq_true rfl) ⟨Nat.le_of_ble_eq_true rfl, Nat.le_of_ble_eq_true rfl⟩ ⟨Nat.le_of_ble_eq_true rfl, Nat.le_of_ble_eq_true rfl⟩ dX10_store_114 (fun u3848 H locs hr3847 hP hD hS => ?_)
        obtain ⟨f13849, rfl⟩ : ∃ z9, z9 = u3848 := ⟨_, rfl⟩
        try dsimp only at hr3847
        have hP : va_P G.1 vwCl [(h0, .inr (10, [.ref tby, .int (nI kt), .ref tln, .ref tsp, .int tkd, .int ts9, .int tn9, .int tf9])), (tln, .inr (8, [.int 9, .int 7, .ref tlnc, .int (nI kln)])), (tlnc, .inl (G.2.1, 63, .inl ftln)), (tsp, .inr (8, [.int 120, .int 1, .ref tspc, .int (nI ksp)])), (tspc, .inl (G.2.1, 120, .inl ftsp)), (bb, .inr (0, [.ref bpersons, .ref bpapers, .ref bstamps, .ref bversions, .ref blines, .ref bsteps, .ref bsayings, .ref bfindings, .ref bwarnings, .ref bquestions, .int td, .int vd, .int vl, .int gp])), (bsteps, .inr (8, [.int 960, .int 1, .ref bstepsc, .int (nI kbsteps)])), (bstepsc, .inl (G.2.1, 960, .inl fbsteps)), (bversions, .inr (8, [.int 8, .int 3, .ref bversionsc, .int (nI (kbversions + 1))])), (bversionsc, .inl (G.2.1, 24, .inl f13806)), (blines, .inr (8, [.int 72, .int 7, .ref blinesc, .int (nI (vkb + 1))])), (blinesc, .inl (G.2.1, 504, .inl f13849))] H := hP
        have hD : va_D A [(h0, .inr (10, [.ref tby, .int (nI kt), .ref tln, .ref tsp, .int tkd, .int ts9, .int tn9, .int tf9])), (tln, .inr (8, [.int 9, .int 7, .ref tlnc, .int (nI kln)])), (tlnc, .inl (G.2.1, 63, .inl ftln)), (tsp, .inr (8, [.int 120, .int 1, .ref tspc, .int (nI ksp)])), (tspc, .inl (G.2.1, 120, .inl ftsp)), (bb, .inr (0, [.ref bpersons, .ref bpapers, .ref bstamps, .ref bversions, .ref blines, .ref bsteps, .ref bsayings, .ref bfindings, .ref bwarnings, .ref bquestions, .int td, .int vd, .int vl, .int gp])), (bsteps, .inr (8, [.int 960, .int 1, .ref bstepsc, .int (nI kbsteps)])), (bstepsc, .inl (G.2.1, 960, .inl fbsteps)), (bversions, .inr (8, [.int 8, .int 3, .ref bversionsc, .int (nI (kbversions + 1))])), (bversionsc, .inl (G.2.1, 24, .inl f13806)), (blines, .inr (8, [.int 72, .int 7, .ref blinesc, .int (nI (vkb + 1))])), (blinesc, .inl (G.2.1, 504, .inl f13849))] := hD
        have w3850 := hr3847
        refine lv_iinc (v := 2) (lv' := [(6, .int 2), (5, .int (nI vkb)), (4, .int (nI kP)), (3, .int (nI kbsteps)), (2, .int (nI kbversions)), (0, .ref h0), (1, .ref bb)]) hx hb dX10_store_117 hl (k := 0) rfl (by decide) (by decide) rfl (fun ls hl => ?_)
        refine lv_goto (tgt := 88) hx hb dX10_store_120 (by decide) ?_
        refine lv_iload hx hb dX10_store_88 (lv_at hl 0 rfl) ?_
        refine lv_bipush (v := 6) hx hb dX10_store_90 (by decide) ?_
        refine lv_icmp_gt (tgt := 123) hx hb dX10_store_92 (by decide) (fun c9 => absurd c9 (by decide)) (fun _ => ?_)
        refine lv_aload_n hx hb dX10_store_95 rfl (lv_at hl 6 rfl) ?_
        refine gf_X10_70 hC rfl hK hP 5 rfl rfl dX10_store_96 ?_
        refine lv_iload hx hb dX10_store_99 (lv_at hl 1 rfl) ?_
        refine lv_iload hx hb dX10_store_101 (lv_at hl 0 rfl) ?_
        refine lv_aload_n hx hb dX10_store_103 rfl (lv_at hl 5 rfl) ?_
        refine gf_X10_20 hC rfl hK hP 0 rfl rfl dX10_store_104 ?_
        refine lv_iload hx hb dX10_store_107 (lv_at hl 2 rfl) ?_
        refine lv_iload hx hb dX10_store_109 (lv_at hl 0 rfl) ?_
        refine pV hC hK hl hP hD (c_T_at l G tln (nI kP) 2 9 7 tlnc kln ftln (by omega) (by omega) (by omega)) si_X10_74 [1, 2] rfl rfl (by decide) rfl rfl rfl rfl rfl (Nat.le_of_ble_eq_true rfl) ⟨Nat.le_of_ble_eq_true rfl, Nat.le_of_ble_eq_true rfl⟩ ⟨by first | exact Nat.le_of_ble_eq_true rfl | exact Nat.zero_le _, by first | exact Nat.le_of_ble_eq_true rfl | exact Nat.zero_le _⟩ dX10_store_111 (fun r3851 hr3851 => ?_)
        refine vV (wr := [(h0, .inr (10, [.ref tby, .int (nI kt), .ref tln, .ref tsp, .int tkd, .int ts9, .int tn9, .int tf9])), (tln, .inr (8, [.int 9, .int 7, .ref tlnc, .int (nI kln)])), (tlnc, .inl (G.2.1, 63, .inl ftln)), (tsp, .inr (8, [.int 120, .int 1, .ref tspc, .int (nI ksp)])), (tspc, .inl (G.2.1, 120, .inl ftsp)), (bb, .inr (0, [.ref bpersons, .ref bpapers, .ref bstamps, .ref bversions, .ref blines, .ref bsteps, .ref bsayings, .ref bfindings, .ref bwarnings, .ref bquestions, .int td, .int vd, .int vl, .int gp])), (bsteps, .inr (8, [.int 960, .int 1, .ref bstepsc, .int (nI kbsteps)])), (bstepsc, .inl (G.2.1, 960, .inl fbsteps)), (bversions, .inr (8, [.int 8, .int 3, .ref bversionsc, .int (nI (kbversions + 1))])), (bversionsc, .inl (G.2.1, 24, .inl f13806))]) hC hK hl hP hD hS hA (c_T_set l G blines (nI vkb) 2 r3851 72 7 blinesc (vkb + 1) f13849 (by omega) (by omega) (by omega)) si_X10_66 [10, 11] [0, 1, 2, 3, 4, 5, 6, 7, 8, 9] rfl rfl (by decide) rfl (by decide) (by decide) rfl rfl rfl rfl rfl (Nat.le_of_ble_eq_true rfl) ⟨Nat.le_of_ble_eq_true rfl, Nat.le_of_ble_eq_true rfl⟩ ⟨Nat.le_of_ble_eq_true rfl, Nat.le_of_ble_eq_true rfl⟩ dX10_store_114 (fun u3854 H locs hr3853 hP hD hS => ?_)
        obtain ⟨f13855, rfl⟩ : ∃ z9, z9 = u3854 := ⟨_, rfl⟩
        try dsimp only at hr3853
        have hP : va_P G.1 vwCl [(h0, .inr (10, [.ref tby, .int (nI kt), .ref tln, .ref tsp, .int tkd, .int ts9, .int tn9, .int tf9])), (tln, .inr (8, [.int 9, .int 7, .ref tlnc, .int (nI kln)])), (tlnc, .inl (G.2.1, 63, .inl ftln)), (tsp, .inr (8, [.int 120, .int 1, .ref tspc, .int (nI ksp)])), (tspc, .inl (G.2.1, 120, .inl ftsp)), (bb, .inr (0, [.ref bpersons, .ref bpapers, .ref bstamps, .ref bversions, .ref blines, .ref bsteps, .ref bsayings, .ref bfindings, .ref bwarnings, .ref bquestions, .int td, .int vd, .int vl, .int gp])), (bsteps, .inr (8, [.int 960, .int 1, .ref bstepsc, .int (nI kbsteps)])), (bstepsc, .inl (G.2.1, 960, .inl fbsteps)), (bversions, .inr (8, [.int 8, .int 3, .ref bversionsc, .int (nI (kbversions + 1))])), (bversionsc, .inl (G.2.1, 24, .inl f13806)), (blines, .inr (8, [.int 72, .int 7, .ref blinesc, .int (nI (vkb + 1))])), (blinesc, .inl (G.2.1, 504, .inl f13855))] H := hP
        have hD : va_D A [(h0, .inr (10, [.ref tby, .int (nI kt), .ref tln, .ref tsp, .int tkd, .int ts9, .int tn9, .int tf9])), (tln, .inr (8, [.int 9, .int 7, .ref tlnc, .int (nI kln)])), (tlnc, .inl (G.2.1, 63, .inl ftln)), (tsp, .inr (8, [.int 120, .int 1, .ref tspc, .int (nI ksp)])), (tspc, .inl (G.2.1, 120, .inl ftsp)), (bb, .inr (0, [.ref bpersons, .ref bpapers, .ref bstamps, .ref bversions, .ref blines, .ref bsteps, .ref bsayings, .ref bfindings, .ref bwarnings, .ref bquestions, .int td, .int vd, .int vl, .int gp])), (bsteps, .inr (8, [.int 960, .int 1, .ref bstepsc, .int (nI kbsteps)])), (bstepsc, .inl (G.2.1, 960, .inl fbsteps)), (bversions, .inr (8, [.int 8, .int 3, .ref bversionsc, .int (nI (kbversions + 1))])), (bversionsc, .inl (G.2.1, 24, .inl f13806)), (blines, .inr (8, [.int 72, .int 7, .ref blinesc, .int (nI (vkb + 1))])), (blinesc, .inl (G.2.1, 504, .inl f13855))] := hD
        have w3856 := hr3853
        refine lv_iinc (v := 3) (lv' := [(6, .int 3), (5, .int (nI vkb)), (4, .int (nI kP)), (3, .int (nI kbsteps)), (2, .int (nI kbversions)), (0, .ref h0), (1, .ref bb)]) hx hb dX10_store_117 hl (k := 0) rfl (by decide) (by decide) rfl (fun ls hl => ?_)
        refine lv_goto (tgt := 88) hx hb dX10_store_120 (by decide) ?_
        refine lv_iload hx hb dX10_store_88 (lv_at hl 0 rfl) ?_
        refine lv_bipush (v := 6) hx hb dX10_store_90 (by decide) ?_
        refine lv_icmp_gt (tgt := 123) hx hb dX10_store_92 (by decide) (fun c9 => absurd c9 (by decide)) (fun _ => ?_)
        refine lv_aload_n hx hb dX10_store_95 rfl (lv_at hl 6 rfl) ?_
        refine gf_X10_70 hC rfl hK hP 5 rfl rfl dX10_store_96 ?_
        refine lv_iload hx hb dX10_store_99 (lv_at hl 1 rfl) ?_
        refine lv_iload hx hb dX10_store_101 (lv_at hl 0 rfl) ?_
        refine lv_aload_n hx hb dX10_store_103 rfl (lv_at hl 5 rfl) ?_
        refine gf_X10_20 hC rfl hK hP 0 rfl rfl dX10_store_104 ?_
        refine lv_iload hx hb dX10_store_107 (lv_at hl 2 rfl) ?_
        refine lv_iload hx hb dX10_store_109 (lv_at hl 0 rfl) ?_
        refine pV hC hK hl hP hD (c_T_at l G tln (nI kP) 3 9 7 tlnc kln ftln (by omega) (by omega) (by omega)) si_X10_74 [1, 2] rfl rfl (by decide) rfl rfl rfl rfl rfl (Nat.le_of_ble_eq_true rfl) ⟨Nat.le_of_ble_eq_true rfl, Nat.le_of_ble_eq_true rfl⟩ ⟨by first | exact Nat.le_of_ble_eq_true rfl | exact Nat.zero_le _, by first | exact Nat.le_of_ble_eq_true rfl | exact Nat.zero_le _⟩ dX10_store_111 (fun r3857 hr3857 => ?_)
        refine vV (wr := [(h0, .inr (10, [.ref tby, .int (nI kt), .ref tln, .ref tsp, .int tkd, .int ts9, .int tn9, .int tf9])), (tln, .inr (8, [.int 9, .int 7, .ref tlnc, .int (nI kln)])), (tlnc, .inl (G.2.1, 63, .inl ftln)), (tsp, .inr (8, [.int 120, .int 1, .ref tspc, .int (nI ksp)])), (tspc, .inl (G.2.1, 120, .inl ftsp)), (bb, .inr (0, [.ref bpersons, .ref bpapers, .ref bstamps, .ref bversions, .ref blines, .ref bsteps, .ref bsayings, .ref bfindings, .ref bwarnings, .ref bquestions, .int td, .int vd, .int vl, .int gp])), (bsteps, .inr (8, [.int 960, .int 1, .ref bstepsc, .int (nI kbsteps)])), (bstepsc, .inl (G.2.1, 960, .inl fbsteps)), (bversions, .inr (8, [.int 8, .int 3, .ref bversionsc, .int (nI (kbversions + 1))])), (bversionsc, .inl (G.2.1, 24, .inl f13806))]) hC hK hl hP hD hS hA (c_T_set l G blines (nI vkb) 3 r3857 72 7 blinesc (vkb + 1) f13855 (by omega) (by omega) (by omega)) si_X10_66 [10, 11] [0, 1, 2, 3, 4, 5, 6, 7, 8, 9] rfl rfl (by decide) rfl (by decide) (by decide) rfl rfl rfl rfl rfl (Nat.le_of_ble_eq_true rfl) ⟨Nat.le_of_ble_eq_true rfl, Nat.le_of_ble_eq_true rfl⟩ ⟨Nat.le_of_ble_eq_true rfl, Nat.le_of_ble_eq_true rfl⟩ dX10_store_114 (fun u3860 H locs hr3859 hP hD hS => ?_)
        obtain ⟨f13861, rfl⟩ : ∃ z9, z9 = u3860 := ⟨_, rfl⟩
        try dsimp only at hr3859
        have hP : va_P G.1 vwCl [(h0, .inr (10, [.ref tby, .int (nI kt), .ref tln, .ref tsp, .int tkd, .int ts9, .int tn9, .int tf9])), (tln, .inr (8, [.int 9, .int 7, .ref tlnc, .int (nI kln)])), (tlnc, .inl (G.2.1, 63, .inl ftln)), (tsp, .inr (8, [.int 120, .int 1, .ref tspc, .int (nI ksp)])), (tspc, .inl (G.2.1, 120, .inl ftsp)), (bb, .inr (0, [.ref bpersons, .ref bpapers, .ref bstamps, .ref bversions, .ref blines, .ref bsteps, .ref bsayings, .ref bfindings, .ref bwarnings, .ref bquestions, .int td, .int vd, .int vl, .int gp])), (bsteps, .inr (8, [.int 960, .int 1, .ref bstepsc, .int (nI kbsteps)])), (bstepsc, .inl (G.2.1, 960, .inl fbsteps)), (bversions, .inr (8, [.int 8, .int 3, .ref bversionsc, .int (nI (kbversions + 1))])), (bversionsc, .inl (G.2.1, 24, .inl f13806)), (blines, .inr (8, [.int 72, .int 7, .ref blinesc, .int (nI (vkb + 1))])), (blinesc, .inl (G.2.1, 504, .inl f13861))] H := hP
        have hD : va_D A [(h0, .inr (10, [.ref tby, .int (nI kt), .ref tln, .ref tsp, .int tkd, .int ts9, .int tn9, .int tf9])), (tln, .inr (8, [.int 9, .int 7, .ref tlnc, .int (nI kln)])), (tlnc, .inl (G.2.1, 63, .inl ftln)), (tsp, .inr (8, [.int 120, .int 1, .ref tspc, .int (nI ksp)])), (tspc, .inl (G.2.1, 120, .inl ftsp)), (bb, .inr (0, [.ref bpersons, .ref bpapers, .ref bstamps, .ref bversions, .ref blines, .ref bsteps, .ref bsayings, .ref bfindings, .ref bwarnings, .ref bquestions, .int td, .int vd, .int vl, .int gp])), (bsteps, .inr (8, [.int 960, .int 1, .ref bstepsc, .int (nI kbsteps)])), (bstepsc, .inl (G.2.1, 960, .inl fbsteps)), (bversions, .inr (8, [.int 8, .int 3, .ref bversionsc, .int (nI (kbversions + 1))])), (bversionsc, .inl (G.2.1, 24, .inl f13806)), (blines, .inr (8, [.int 72, .int 7, .ref blinesc, .int (nI (vkb + 1))])), (blinesc, .inl (G.2.1, 504, .inl f13861))] := hD
        have w3862 := hr3859
        refine lv_iinc (v := 4) (lv' := [(6, .int 4), (5, .int (nI vkb)), (4, .int (nI kP)), (3, .int (nI kbsteps)), (2, .int (nI kbversions)), (0, .ref h0), (1, .ref bb)]) hx hb dX10_store_117 hl (k := 0) rfl (by decide) (by decide) rfl (fun ls hl => ?_)
        refine lv_goto (tgt := 88) hx hb dX10_store_120 (by decide) ?_
        refine lv_iload hx hb dX10_store_88 (lv_at hl 0 rfl) ?_
        refine lv_bipush (v := 6) hx hb dX10_store_90 (by decide) ?_
        refine lv_icmp_gt (tgt := 123) hx hb dX10_store_92 (by decide) (fun c9 => absurd c9 (by decide)) (fun _ => ?_)
        refine lv_aload_n hx hb dX10_store_95 rfl (lv_at hl 6 rfl) ?_
        refine gf_X10_70 hC rfl hK hP 5 rfl rfl dX10_store_96 ?_
        refine lv_iload hx hb dX10_store_99 (lv_at hl 1 rfl) ?_
        refine lv_iload hx hb dX10_store_101 (lv_at hl 0 rfl) ?_
        refine lv_aload_n hx hb dX10_store_103 rfl (lv_at hl 5 rfl) ?_
        refine gf_X10_20 hC rfl hK hP 0 rfl rfl dX10_store_104 ?_
        refine lv_iload hx hb dX10_store_107 (lv_at hl 2 rfl) ?_
        refine lv_iload hx hb dX10_store_109 (lv_at hl 0 rfl) ?_
        refine pV hC hK hl hP hD (c_T_at l G tln (nI kP) 4 9 7 tlnc kln ftln (by omega) (by omega) (by omega)) si_X10_74 [1, 2] rfl rfl (by decide) rfl rfl rfl rfl rfl (Nat.le_of_ble_eq_true rfl) ⟨Nat.le_of_ble_eq_true rfl, Nat.le_of_ble_eq_true rfl⟩ ⟨by first | exact Nat.le_of_ble_eq_true rfl | exact Nat.zero_le _, by first | exact Nat.le_of_ble_eq_true rfl | exact Nat.zero_le _⟩ dX10_store_111 (fun r3863 hr3863 => ?_)
        refine vV (wr := [(h0, .inr (10, [.ref tby, .int (nI kt), .ref tln, .ref tsp, .int tkd, .int ts9, .int tn9, .int tf9])), (tln, .inr (8, [.int 9, .int 7, .ref tlnc, .int (nI kln)])), (tlnc, .inl (G.2.1, 63, .inl ftln)), (tsp, .inr (8, [.int 120, .int 1, .ref tspc, .int (nI ksp)])), (tspc, .inl (G.2.1, 120, .inl ftsp)), (bb, .inr (0, [.ref bpersons, .ref bpapers, .ref bstamps, .ref bversions, .ref blines, .ref bsteps, .ref bsayings, .ref bfindings, .ref bwarnings, .ref bquestions, .int td, .int vd, .int vl, .int gp])), (bsteps, .inr (8, [.int 960, .int 1, .ref bstepsc, .int (nI kbsteps)])), (bstepsc, .inl (G.2.1, 960, .inl fbsteps)), (bversions, .inr (8, [.int 8, .int 3, .ref bversionsc, .int (nI (kbversions + 1))])), (bversionsc, .inl (G.2.1, 24, .inl f13806))]) hC hK hl hP hD hS hA (c_T_set l G blines (nI vkb) 4 r3863 72 7 blinesc (vkb + 1) f13861 (by omega) (by omega) (by omega)) si_X10_66 [10, 11] [0, 1, 2, 3, 4, 5, 6, 7, 8, 9] rfl rfl (by decide) rfl (by decide) (by decide) rfl rfl rfl rfl rfl (Nat.le_of_ble_eq_true rfl) ⟨Nat.le_of_ble_eq_true rfl, Nat.le_of_ble_eq_true rfl⟩ ⟨Nat.le_of_ble_eq_true rfl, Nat.le_of_ble_eq_true rfl⟩ dX10_store_114 (fun u3866 H locs hr3865 hP hD hS => ?_)
        obtain ⟨f13867, rfl⟩ : ∃ z9, z9 = u3866 := ⟨_, rfl⟩
        try dsimp only at hr3865
        have hP : va_P G.1 vwCl [(h0, .inr (10, [.ref tby, .int (nI kt), .ref tln, .ref tsp, .int tkd, .int ts9, .int tn9, .int tf9])), (tln, .inr (8, [.int 9, .int 7, .ref tlnc, .int (nI kln)])), (tlnc, .inl (G.2.1, 63, .inl ftln)), (tsp, .inr (8, [.int 120, .int 1, .ref tspc, .int (nI ksp)])), (tspc, .inl (G.2.1, 120, .inl ftsp)), (bb, .inr (0, [.ref bpersons, .ref bpapers, .ref bstamps, .ref bversions, .ref blines, .ref bsteps, .ref bsayings, .ref bfindings, .ref bwarnings, .ref bquestions, .int td, .int vd, .int vl, .int gp])), (bsteps, .inr (8, [.int 960, .int 1, .ref bstepsc, .int (nI kbsteps)])), (bstepsc, .inl (G.2.1, 960, .inl fbsteps)), (bversions, .inr (8, [.int 8, .int 3, .ref bversionsc, .int (nI (kbversions + 1))])), (bversionsc, .inl (G.2.1, 24, .inl f13806)), (blines, .inr (8, [.int 72, .int 7, .ref blinesc, .int (nI (vkb + 1))])), (blinesc, .inl (G.2.1, 504, .inl f13867))] H := hP
        have hD : va_D A [(h0, .inr (10, [.ref tby, .int (nI kt), .ref tln, .ref tsp, .int tkd, .int ts9, .int tn9, .int tf9])), (tln, .inr (8, [.int 9, .int 7, .ref tlnc, .int (nI kln)])), (tlnc, .inl (G.2.1, 63, .inl ftln)), (tsp, .inr (8, [.int 120, .int 1, .ref tspc, .int (nI ksp)])), (tspc, .inl (G.2.1, 120, .inl ftsp)), (bb, .inr (0, [.ref bpersons, .ref bpapers, .ref bstamps, .ref bversions, .ref blines, .ref bsteps, .ref bsayings, .ref bfindings, .ref bwarnings, .ref bquestions, .int td, .int vd, .int vl, .int gp])), (bsteps, .inr (8, [.int 960, .int 1, .ref bstepsc, .int (nI kbsteps)])), (bstepsc, .inl (G.2.1, 960, .inl fbsteps)), (bversions, .inr (8, [.int 8, .int 3, .ref bversionsc, .int (nI (kbversions + 1))])), (bversionsc, .inl (G.2.1, 24, .inl f13806)), (blines, .inr (8, [.int 72, .int 7, .ref blinesc, .int (nI (vkb + 1))])), (blinesc, .inl (G.2.1, 504, .inl f13867))] := hD
        have w3868 := hr3865
        refine lv_iinc (v := 5) (lv' := [(6, .int 5), (5, .int (nI vkb)), (4, .int (nI kP)), (3, .int (nI kbsteps)), (2, .int (nI kbversions)), (0, .ref h0), (1, .ref bb)]) hx hb dX10_store_117 hl (k := 0) rfl (by decide) (by decide) rfl (fun ls hl => ?_)
        refine lv_goto (tgt := 88) hx hb dX10_store_120 (by decide) ?_
        refine lv_iload hx hb dX10_store_88 (lv_at hl 0 rfl) ?_
        refine lv_bipush (v := 6) hx hb dX10_store_90 (by decide) ?_
        refine lv_icmp_gt (tgt := 123) hx hb dX10_store_92 (by decide) (fun c9 => absurd c9 (by decide)) (fun _ => ?_)
        refine lv_aload_n hx hb dX10_store_95 rfl (lv_at hl 6 rfl) ?_
        refine gf_X10_70 hC rfl hK hP 5 rfl rfl dX10_store_96 ?_
        refine lv_iload hx hb dX10_store_99 (lv_at hl 1 rfl) ?_
        refine lv_iload hx hb dX10_store_101 (lv_at hl 0 rfl) ?_
        refine lv_aload_n hx hb dX10_store_103 rfl (lv_at hl 5 rfl) ?_
        refine gf_X10_20 hC rfl hK hP 0 rfl rfl dX10_store_104 ?_
        refine lv_iload hx hb dX10_store_107 (lv_at hl 2 rfl) ?_
        refine lv_iload hx hb dX10_store_109 (lv_at hl 0 rfl) ?_
        refine pV hC hK hl hP hD (c_T_at l G tln (nI kP) 5 9 7 tlnc kln ftln (by omega) (by omega) (by omega)) si_X10_74 [1, 2] rfl rfl (by decide) rfl rfl rfl rfl rfl (Nat.le_of_ble_eq_true rfl) ⟨Nat.le_of_ble_eq_true rfl, Nat.le_of_ble_eq_true rfl⟩ ⟨by first | exact Nat.le_of_ble_eq_true rfl | exact Nat.zero_le _, by first | exact Nat.le_of_ble_eq_true rfl | exact Nat.zero_le _⟩ dX10_store_111 (fun r3869 hr3869 => ?_)
        refine vV (wr := [(h0, .inr (10, [.ref tby, .int (nI kt), .ref tln, .ref tsp, .int tkd, .int ts9, .int tn9, .int tf9])), (tln, .inr (8, [.int 9, .int 7, .ref tlnc, .int (nI kln)])), (tlnc, .inl (G.2.1, 63, .inl ftln)), (tsp, .inr (8, [.int 120, .int 1, .ref tspc, .int (nI ksp)])), (tspc, .inl (G.2.1, 120, .inl ftsp)), (bb, .inr (0, [.ref bpersons, .ref bpapers, .ref bstamps, .ref bversions, .ref blines, .ref bsteps, .ref bsayings, .ref bfindings, .ref bwarnings, .ref bquestions, .int td, .int vd, .int vl, .int gp])), (bsteps, .inr (8, [.int 960, .int 1, .ref bstepsc, .int (nI kbsteps)])), (bstepsc, .inl (G.2.1, 960, .inl fbsteps)), (bversions, .inr (8, [.int 8, .int 3, .ref bversionsc, .int (nI (kbversions + 1))])), (bversionsc, .inl (G.2.1, 24, .inl f13806))]) hC hK hl hP hD hS hA (c_T_set l G blines (nI vkb) 5 r3869 72 7 blinesc (vkb + 1) f13867 (by omega) (by omega) (by omega)) si_X10_66 [10, 11] [0, 1, 2, 3, 4, 5, 6, 7, 8, 9] rfl rfl (by decide) rfl (by decide) (by decide) rfl rfl rfl rfl rfl (Nat.le_of_ble_eq_true rfl) ⟨Nat.le_of_ble_eq_true rfl, Nat.le_of_ble_eq_true rfl⟩ ⟨Nat.le_of_ble_eq_true rfl, Nat.le_of_ble_eq_true rfl⟩ dX10_store_114 (fun u3872 H locs hr3871 hP hD hS => ?_)
        obtain ⟨f13873, rfl⟩ : ∃ z9, z9 = u3872 := ⟨_, rfl⟩
        try dsimp only at hr3871
        have hP : va_P G.1 vwCl [(h0, .inr (10, [.ref tby, .int (nI kt), .ref tln, .ref tsp, .int tkd, .int ts9, .int tn9, .int tf9])), (tln, .inr (8, [.int 9, .int 7, .ref tlnc, .int (nI kln)])), (tlnc, .inl (G.2.1, 63, .inl ftln)), (tsp, .inr (8, [.int 120, .int 1, .ref tspc, .int (nI ksp)])), (tspc, .inl (G.2.1, 120, .inl ftsp)), (bb, .inr (0, [.ref bpersons, .ref bpapers, .ref bstamps, .ref bversions, .ref blines, .ref bsteps, .ref bsayings, .ref bfindings, .ref bwarnings, .ref bquestions, .int td, .int vd, .int vl, .int gp])), (bsteps, .inr (8, [.int 960, .int 1, .ref bstepsc, .int (nI kbsteps)])), (bstepsc, .inl (G.2.1, 960, .inl fbsteps)), (bversions, .inr (8, [.int 8, .int 3, .ref bversionsc, .int (nI (kbversions + 1))])), (bversionsc, .inl (G.2.1, 24, .inl f13806)), (blines, .inr (8, [.int 72, .int 7, .ref blinesc, .int (nI (vkb + 1))])), (blinesc, .inl (G.2.1, 504, .inl f13873))] H := hP
        have hD : va_D A [(h0, .inr (10, [.ref tby, .int (nI kt), .ref tln, .ref tsp, .int tkd, .int ts9, .int tn9, .int tf9])), (tln, .inr (8, [.int 9, .int 7, .ref tlnc, .int (nI kln)])), (tlnc, .inl (G.2.1, 63, .inl ftln)), (tsp, .inr (8, [.int 120, .int 1, .ref tspc, .int (nI ksp)])), (tspc, .inl (G.2.1, 120, .inl ftsp)), (bb, .inr (0, [.ref bpersons, .ref bpapers, .ref bstamps, .ref bversions, .ref blines, .ref bsteps, .ref bsayings, .ref bfindings, .ref bwarnings, .ref bquestions, .int td, .int vd, .int vl, .int gp])), (bsteps, .inr (8, [.int 960, .int 1, .ref bstepsc, .int (nI kbsteps)])), (bstepsc, .inl (G.2.1, 960, .inl fbsteps)), (bversions, .inr (8, [.int 8, .int 3, .ref bversionsc, .int (nI (kbversions + 1))])), (bversionsc, .inl (G.2.1, 24, .inl f13806)), (blines, .inr (8, [.int 72, .int 7, .ref blinesc, .int (nI (vkb + 1))])), (blinesc, .inl (G.2.1, 504, .inl f13873))] := hD
        have w3874 := hr3871
        refine lv_iinc (v := 6) (lv' := [(6, .int 6), (5, .int (nI vkb)), (4, .int (nI kP)), (3, .int (nI kbsteps)), (2, .int (nI kbversions)), (0, .ref h0), (1, .ref bb)]) hx hb dX10_store_117 hl (k := 0) rfl (by decide) (by decide) rfl (fun ls hl => ?_)
        refine lv_goto (tgt := 88) hx hb dX10_store_120 (by decide) ?_
        refine lv_iload hx hb dX10_store_88 (lv_at hl 0 rfl) ?_
        refine lv_bipush (v := 6) hx hb dX10_store_90 (by decide) ?_
        refine lv_icmp_gt (tgt := 123) hx hb dX10_store_92 (by decide) (fun c9 => absurd c9 (by decide)) (fun _ => ?_)
        refine lv_aload_n hx hb dX10_store_95 rfl (lv_at hl 6 rfl) ?_
        refine gf_X10_70 hC rfl hK hP 5 rfl rfl dX10_store_96 ?_
        refine lv_iload hx hb dX10_store_99 (lv_at hl 1 rfl) ?_
        refine lv_iload hx hb dX10_store_101 (lv_at hl 0 rfl) ?_
        refine lv_aload_n hx hb dX10_store_103 rfl (lv_at hl 5 rfl) ?_
        refine gf_X10_20 hC rfl hK hP 0 rfl rfl dX10_store_104 ?_
        refine lv_iload hx hb dX10_store_107 (lv_at hl 2 rfl) ?_
        refine lv_iload hx hb dX10_store_109 (lv_at hl 0 rfl) ?_
        refine pV hC hK hl hP hD (c_T_at l G tln (nI kP) 6 9 7 tlnc kln ftln (by omega) (by omega) (by omega)) si_X10_74 [1, 2] rfl rfl (by decide) rfl rfl rfl rfl rfl (Nat.le_of_ble_eq_true rfl) ⟨Nat.le_of_ble_eq_true rfl, Nat.le_of_ble_eq_true rfl⟩ ⟨by first | exact Nat.le_of_ble_eq_true rfl | exact Nat.zero_le _, by first | exact Nat.le_of_ble_eq_true rfl | exact Nat.zero_le _⟩ dX10_store_111 (fun r3875 hr3875 => ?_)
        refine vV (wr := [(h0, .inr (10, [.ref tby, .int (nI kt), .ref tln, .ref tsp, .int tkd, .int ts9, .int tn9, .int tf9])), (tln, .inr (8, [.int 9, .int 7, .ref tlnc, .int (nI kln)])), (tlnc, .inl (G.2.1, 63, .inl ftln)), (tsp, .inr (8, [.int 120, .int 1, .ref tspc, .int (nI ksp)])), (tspc, .inl (G.2.1, 120, .inl ftsp)), (bb, .inr (0, [.ref bpersons, .ref bpapers, .ref bstamps, .ref bversions, .ref blines, .ref bsteps, .ref bsayings, .ref bfindings, .ref bwarnings, .ref bquestions, .int td, .int vd, .int vl, .int gp])), (bsteps, .inr (8, [.int 960, .int 1, .ref bstepsc, .int (nI kbsteps)])), (bstepsc, .inl (G.2.1, 960, .inl fbsteps)), (bversions, .inr (8, [.int 8, .int 3, .ref bversionsc, .int (nI (kbversions + 1))])), (bversionsc, .inl (G.2.1, 24, .inl f13806))]) hC hK hl hP hD hS hA (c_T_set l G blines (nI vkb) 6 r3875 72 7 blinesc (vkb + 1) f13873 (by omega) (by omega) (by omega)) si_X10_66 [10, 11] [0, 1, 2, 3, 4, 5, 6, 7, 8, 9] rfl rfl (by decide) rfl (by decide) (by decide) rfl rfl rfl rfl rfl (Nat.le_of_ble_eq_true rfl) ⟨Nat.le_of_ble_eq_true rfl, Nat.le_of_ble_eq_true rfl⟩ ⟨Nat.le_of_ble_eq_true rfl, Nat.le_of_ble_eq_true rfl⟩ dX10_store_114 (fun u3878 H locs hr3877 hP hD hS => ?_)
        obtain ⟨f13879, rfl⟩ : ∃ z9, z9 = u3878 := ⟨_, rfl⟩
        try dsimp only at hr3877
        have hP : va_P G.1 vwCl [(h0, .inr (10, [.ref tby, .int (nI kt), .ref tln, .ref tsp, .int tkd, .int ts9, .int tn9, .int tf9])), (tln, .inr (8, [.int 9, .int 7, .ref tlnc, .int (nI kln)])), (tlnc, .inl (G.2.1, 63, .inl ftln)), (tsp, .inr (8, [.int 120, .int 1, .ref tspc, .int (nI ksp)])), (tspc, .inl (G.2.1, 120, .inl ftsp)), (bb, .inr (0, [.ref bpersons, .ref bpapers, .ref bstamps, .ref bversions, .ref blines, .ref bsteps, .ref bsayings, .ref bfindings, .ref bwarnings, .ref bquestions, .int td, .int vd, .int vl, .int gp])), (bsteps, .inr (8, [.int 960, .int 1, .ref bstepsc, .int (nI kbsteps)])), (bstepsc, .inl (G.2.1, 960, .inl fbsteps)), (bversions, .inr (8, [.int 8, .int 3, .ref bversionsc, .int (nI (kbversions + 1))])), (bversionsc, .inl (G.2.1, 24, .inl f13806)), (blines, .inr (8, [.int 72, .int 7, .ref blinesc, .int (nI (vkb + 1))])), (blinesc, .inl (G.2.1, 504, .inl f13879))] H := hP
        have hD : va_D A [(h0, .inr (10, [.ref tby, .int (nI kt), .ref tln, .ref tsp, .int tkd, .int ts9, .int tn9, .int tf9])), (tln, .inr (8, [.int 9, .int 7, .ref tlnc, .int (nI kln)])), (tlnc, .inl (G.2.1, 63, .inl ftln)), (tsp, .inr (8, [.int 120, .int 1, .ref tspc, .int (nI ksp)])), (tspc, .inl (G.2.1, 120, .inl ftsp)), (bb, .inr (0, [.ref bpersons, .ref bpapers, .ref bstamps, .ref bversions, .ref blines, .ref bsteps, .ref bsayings, .ref bfindings, .ref bwarnings, .ref bquestions, .int td, .int vd, .int vl, .int gp])), (bsteps, .inr (8, [.int 960, .int 1, .ref bstepsc, .int (nI kbsteps)])), (bstepsc, .inl (G.2.1, 960, .inl fbsteps)), (bversions, .inr (8, [.int 8, .int 3, .ref bversionsc, .int (nI (kbversions + 1))])), (bversionsc, .inl (G.2.1, 24, .inl f13806)), (blines, .inr (8, [.int 72, .int 7, .ref blinesc, .int (nI (vkb + 1))])), (blinesc, .inl (G.2.1, 504, .inl f13879))] := hD
        have w3880 := hr3877
        refine lv_iinc (v := 7) (lv' := [(6, .int 7), (5, .int (nI vkb)), (4, .int (nI kP)), (3, .int (nI kbsteps)), (2, .int (nI kbversions)), (0, .ref h0), (1, .ref bb)]) hx hb dX10_store_117 hl (k := 0) rfl (by decide) (by decide) rfl (fun ls hl => ?_)
        refine lv_goto (tgt := 88) hx hb dX10_store_120 (by decide) ?_
        refine lv_iload hx hb dX10_store_88 (lv_at hl 0 rfl) ?_
        refine lv_bipush (v := 6) hx hb dX10_store_90 (by decide) ?_
        refine lv_icmp_gt (tgt := 123) hx hb dX10_store_92 (by decide) (fun _ => ?_) (fun c9 => absurd (by decide) c9)
        refine lv_aload_n hx hb dX10_store_123 rfl (lv_at hl 6 rfl) ?_
        refine gf_X10_70 hC rfl hK hP 5 rfl rfl dX10_store_124 ?_
        refine lv_iload hx hb dX10_store_127 (lv_at hl 1 rfl) ?_
        refine lv_iconst (v := 5) hx hb dX10_store_129 (by decide) ?_
        refine lv_aload_n hx hb dX10_store_130 rfl (lv_at hl 5 rfl) ?_
        refine gf_X10_20 hC rfl hK hP 0 rfl rfl dX10_store_131 ?_
        refine lv_iload hx hb dX10_store_134 (lv_at hl 2 rfl) ?_
        refine lv_iconst (v := 5) hx hb dX10_store_136 (by decide) ?_
        refine pV hC hK hl hP hD (c_T_at l G tln (nI kP) 5 9 7 tlnc kln ftln (by omega) (by omega) (by omega)) si_X10_74 [1, 2] rfl rfl (by decide) rfl rfl rfl rfl rfl (Nat.le_of_ble_eq_true rfl) ⟨Nat.le_of_ble_eq_true rfl, Nat.le_of_ble_eq_true rfl⟩ ⟨by first | exact Nat.le_of_ble_eq_true rfl | exact Nat.zero_le _, by first | exact Nat.le_of_ble_eq_true rfl | exact Nat.zero_le _⟩ dX10_store_137 (fun r3881 hr3881 => ?_)
        refine lv_iload_n hx hb dX10_store_140 rfl (lv_at hl 3 rfl) ?_
        refine lv_iadd hx hb dX10_store_141 ?_
        refine vV (wr := [(h0, .inr (10, [.ref tby, .int (nI kt), .ref tln, .ref tsp, .int tkd, .int ts9, .int tn9, .int tf9])), (tln, .inr (8, [.int 9, .int 7, .ref tlnc, .int (nI kln)])), (tlnc, .inl (G.2.1, 63, .inl ftln)), (tsp, .inr (8, [.int 120, .int 1, .ref tspc, .int (nI ksp)])), (tspc, .inl (G.2.1, 120, .inl ftsp)), (bb, .inr (0, [.ref bpersons, .ref bpapers, .ref bstamps, .ref bversions, .ref blines, .ref bsteps, .ref bsayings, .ref bfindings, .ref bwarnings, .ref bquestions, .int td, .int vd, .int vl, .int gp])), (bsteps, .inr (8, [.int 960, .int 1, .ref bstepsc, .int (nI kbsteps)])), (bstepsc, .inl (G.2.1, 960, .inl fbsteps)), (bversions, .inr (8, [.int 8, .int 3, .ref bversionsc, .int (nI (kbversions + 1))])), (bversionsc, .inl (G.2.1, 24, .inl f13806))]) hC hK hl hP hD hS hA (c_T_set l G blines (nI vkb) 5 (r3881 + (nI kbsteps)) 72 7 blinesc (vkb + 1) f13879 (by omega) (by omega) (by omega)) si_X10_66 [10, 11] [0, 1, 2, 3, 4, 5, 6, 7, 8, 9] rfl rfl (by decide) rfl (by decide) (by decide) rfl rfl rfl rfl rfl (Nat.le_of_ble_eq_true rfl) ⟨Nat.le_of_ble_eq_true rfl, Nat.le_of_ble_eq_true rfl⟩ ⟨Nat.le_of_ble_eq_true rfl, Nat.le_of_ble_eq_true rfl⟩ dX10_store_142 (fun u3884 H locs hr3883 hP hD hS => ?_)
        obtain ⟨f13885, rfl⟩ : ∃ z9, z9 = u3884 := ⟨_, rfl⟩
        try dsimp only at hr3883
        have hP : va_P G.1 vwCl [(h0, .inr (10, [.ref tby, .int (nI kt), .ref tln, .ref tsp, .int tkd, .int ts9, .int tn9, .int tf9])), (tln, .inr (8, [.int 9, .int 7, .ref tlnc, .int (nI kln)])), (tlnc, .inl (G.2.1, 63, .inl ftln)), (tsp, .inr (8, [.int 120, .int 1, .ref tspc, .int (nI ksp)])), (tspc, .inl (G.2.1, 120, .inl ftsp)), (bb, .inr (0, [.ref bpersons, .ref bpapers, .ref bstamps, .ref bversions, .ref blines, .ref bsteps, .ref bsayings, .ref bfindings, .ref bwarnings, .ref bquestions, .int td, .int vd, .int vl, .int gp])), (bsteps, .inr (8, [.int 960, .int 1, .ref bstepsc, .int (nI kbsteps)])), (bstepsc, .inl (G.2.1, 960, .inl fbsteps)), (bversions, .inr (8, [.int 8, .int 3, .ref bversionsc, .int (nI (kbversions + 1))])), (bversionsc, .inl (G.2.1, 24, .inl f13806)), (blines, .inr (8, [.int 72, .int 7, .ref blinesc, .int (nI (vkb + 1))])), (blinesc, .inl (G.2.1, 504, .inl f13885))] H := hP
        have hD : va_D A [(h0, .inr (10, [.ref tby, .int (nI kt), .ref tln, .ref tsp, .int tkd, .int ts9, .int tn9, .int tf9])), (tln, .inr (8, [.int 9, .int 7, .ref tlnc, .int (nI kln)])), (tlnc, .inl (G.2.1, 63, .inl ftln)), (tsp, .inr (8, [.int 120, .int 1, .ref tspc, .int (nI ksp)])), (tspc, .inl (G.2.1, 120, .inl ftsp)), (bb, .inr (0, [.ref bpersons, .ref bpapers, .ref bstamps, .ref bversions, .ref blines, .ref bsteps, .ref bsayings, .ref bfindings, .ref bwarnings, .ref bquestions, .int td, .int vd, .int vl, .int gp])), (bsteps, .inr (8, [.int 960, .int 1, .ref bstepsc, .int (nI kbsteps)])), (bstepsc, .inl (G.2.1, 960, .inl fbsteps)), (bversions, .inr (8, [.int 8, .int 3, .ref bversionsc, .int (nI (kbversions + 1))])), (bversionsc, .inl (G.2.1, 24, .inl f13806)), (blines, .inr (8, [.int 72, .int 7, .ref blinesc, .int (nI (vkb + 1))])), (blinesc, .inl (G.2.1, 504, .inl f13885))] := hD
        have w3886 := hr3883
        refine lv_iinc (v := nI (kP + 1)) (lv' := [(4, .int (nI (kP + 1))), (6, .int 7), (5, .int (nI vkb)), (3, .int (nI kbsteps)), (2, .int (nI kbversions)), (0, .ref h0), (1, .ref bb)]) hx hb dX10_store_145 hl (k := 2) rfl (nI_1 _) (by decide) rfl (fun ls hl => ?_)
        refine lv_goto (tgt := 64) hx hb dX10_store_148 (by decide) ?_
        have hP := hP.sub (ws' := [(h0, .inr (10, [.ref tby, .int (nI kt), .ref tln, .ref tsp, .int tkd, .int ts9, .int tn9, .int tf9])), (tln, .inr (8, [.int 9, .int 7, .ref tlnc, .int (nI kln)])), (tlnc, .inl (G.2.1, 63, .inl ftln)), (tsp, .inr (8, [.int 120, .int 1, .ref tspc, .int (nI ksp)])), (tspc, .inl (G.2.1, 120, .inl ftsp)), (bb, .inr (0, [.ref bpersons, .ref bpapers, .ref bstamps, .ref bversions, .ref blines, .ref bsteps, .ref bsayings, .ref bfindings, .ref bwarnings, .ref bquestions, .int td, .int vd, .int vl, .int gp])), (blines, .inr (8, [.int 72, .int 7, .ref blinesc, .int (nI (vkb + 1))])), (blinesc, .inl (G.2.1, 504, .inl f13885)), (bsteps, .inr (8, [.int 960, .int 1, .ref bstepsc, .int (nI kbsteps)])), (bstepsc, .inl (G.2.1, 960, .inl fbsteps)), (bversions, .inr (8, [.int 8, .int 3, .ref bversionsc, .int (nI (kbversions + 1))])), (bversionsc, .inl (G.2.1, 24, .inl f13806))]) [0, 1, 2, 3, 4, 5, 10, 11, 6, 7, 8, 9] rfl
        have hD := hD.sub (ws' := [(h0, .inr (10, [.ref tby, .int (nI kt), .ref tln, .ref tsp, .int tkd, .int ts9, .int tn9, .int tf9])), (tln, .inr (8, [.int 9, .int 7, .ref tlnc, .int (nI kln)])), (tlnc, .inl (G.2.1, 63, .inl ftln)), (tsp, .inr (8, [.int 120, .int 1, .ref tspc, .int (nI ksp)])), (tspc, .inl (G.2.1, 120, .inl ftsp)), (bb, .inr (0, [.ref bpersons, .ref bpapers, .ref bstamps, .ref bversions, .ref blines, .ref bsteps, .ref bsayings, .ref bfindings, .ref bwarnings, .ref bquestions, .int td, .int vd, .int vl, .int gp])), (blines, .inr (8, [.int 72, .int 7, .ref blinesc, .int (nI (vkb + 1))])), (blinesc, .inl (G.2.1, 504, .inl f13885)), (bsteps, .inr (8, [.int 960, .int 1, .ref bstepsc, .int (nI kbsteps)])), (bstepsc, .inl (G.2.1, 960, .inl fbsteps)), (bversions, .inr (8, [.int 8, .int 3, .ref bversionsc, .int (nI (kbversions + 1))])), (bversionsc, .inl (G.2.1, 24, .inl f13806))]) [0, 1, 2, 3, 4, 5, 10, 11, 6, 7, 8, 9] (by decide) rfl
        exact ihP (kP + 1) f13885 (vkb + 1) _ _ _ (by omega) (by first | assumption | exact Or.inl rfl | exact Or.inr rfl | omega) hP hD hS (lv_sub hl [0, 3, 4, 5, 6] rfl)
      · refine iV (wr := [(h0, .inr (10, [.ref tby, .int (nI kt), .ref tln, .ref tsp, .int tkd, .int ts9, .int tn9, .int tf9])), (tln, .inr (8, [.int 9, .int 7, .ref tlnc, .int (nI kln)])), (tlnc, .inl (G.2.1, 63, .inl ftln)), (tsp, .inr (8, [.int 120, .int 1, .ref tspc, .int (nI ksp)])), (tspc, .inl (G.2.1, 120, .inl ftsp)), (bb, .inr (0, [.ref bpersons, .ref bpapers, .ref bstamps, .ref bversions, .ref blines, .ref bsteps, .ref bsayings, .ref bfindings, .ref bwarnings, .ref bquestions, .int td, .int vd, .int vl, .int gp])), (blinesc, .inl (G.2.1, 504, .inl vbl)), (bsteps, .inr (8, [.int 960, .int 1, .ref bstepsc, .int (nI kbsteps)])), (bstepsc, .inl (G.2.1, 960, .inl fbsteps)), (bversions, .inr (8, [.int 8, .int 3, .ref bversionsc, .int (nI (kbversions + 1))])), (bversionsc, .inl (G.2.1, 24, .inl f13806))]) hC hK hl hP hD hS hA (c_T_appendF l G blines 72 7 blinesc vkb (by omega) (by omega)) si_X10_59 [6] [0, 1, 2, 3, 4, 5, 7, 8, 9, 10, 11] rfl rfl (by decide) rfl (by decide) (by decide) rfl rfl rfl rfl rfl (Nat.le_of_ble_eq_true rfl) ⟨Nat.le_of_ble_eq_true rfl, Nat.le_of_ble_eq_true rfl⟩ ⟨Nat.le_of_ble_eq_true rfl, Nat.le_of_ble_eq_true rfl⟩ dX10_store_80 (fun r3887 u3888 H locs hr3887 hP hD hS => ?_)
        have hP : va_P G.1 vwCl [(h0, .inr (10, [.ref tby, .int (nI kt), .ref tln, .ref tsp, .int tkd, .int ts9, .int tn9, .int tf9])), (tln, .inr (8, [.int 9, .int 7, .ref tlnc, .int (nI kln)])), (tlnc, .inl (G.2.1, 63, .inl ftln)), (tsp, .inr (8, [.int 120, .int 1, .ref tspc, .int (nI ksp)])), (tspc, .inl (G.2.1, 120, .inl ftsp)), (bb, .inr (0, [.ref bpersons, .ref bpapers, .ref bstamps, .ref bversions, .ref blines, .ref bsteps, .ref bsayings, .ref bfindings, .ref bwarnings, .ref bquestions, .int td, .int vd, .int vl, .int gp])), (blinesc, .inl (G.2.1, 504, .inl vbl)), (bsteps, .inr (8, [.int 960, .int 1, .ref bstepsc, .int (nI kbsteps)])), (bstepsc, .inl (G.2.1, 960, .inl fbsteps)), (bversions, .inr (8, [.int 8, .int 3, .ref bversionsc, .int (nI (kbversions + 1))])), (bversionsc, .inl (G.2.1, 24, .inl f13806)), (blines, .inr (8, [.int 72, .int 7, .ref blinesc, .int (nI vkb)]))] H := hP
        have hD : va_D A [(h0, .inr (10, [.ref tby, .int (nI kt), .ref tln, .ref tsp, .int tkd, .int ts9, .int tn9, .int tf9])), (tln, .inr (8, [.int 9, .int 7, .ref tlnc, .int (nI kln)])), (tlnc, .inl (G.2.1, 63, .inl ftln)), (tsp, .inr (8, [.int 120, .int 1, .ref tspc, .int (nI ksp)])), (tspc, .inl (G.2.1, 120, .inl ftsp)), (bb, .inr (0, [.ref bpersons, .ref bpapers, .ref bstamps, .ref bversions, .ref blines, .ref bsteps, .ref bsayings, .ref bfindings, .ref bwarnings, .ref bquestions, .int td, .int vd, .int vl, .int gp])), (blinesc, .inl (G.2.1, 504, .inl vbl)), (bsteps, .inr (8, [.int 960, .int 1, .ref bstepsc, .int (nI kbsteps)])), (bstepsc, .inl (G.2.1, 960, .inl fbsteps)), (bversions, .inr (8, [.int 8, .int 3, .ref bversionsc, .int (nI (kbversions + 1))])), (bversionsc, .inl (G.2.1, 24, .inl f13806)), (blines, .inr (8, [.int 72, .int 7, .ref blinesc, .int (nI vkb)]))] := hD
        obtain rfl := hr3887
        refine lv_istore (lv' := [(5, .int (-2)), (4, .int (nI kP)), (3, .int (nI kbsteps)), (2, .int (nI kbversions)), (0, .ref h0), (1, .ref bb)]) hx hb dX10_store_83 hl (by decide) rfl (fun ls hl => ?_)
        refine lv_iconst (v := 0) hx hb dX10_store_85 (by decide) ?_
        refine lv_istore (lv' := [(6, .int 0), (5, .int (-2)), (4, .int (nI kP)), (3, .int (nI kbsteps)), (2, .int (nI kbversions)), (0, .ref h0), (1, .ref bb)]) hx hb dX10_store_86 hl (by decide) rfl (fun ls hl => ?_)
        refine lv_iload hx hb dX10_store_88 (lv_at hl 0 rfl) ?_
        refine lv_bipush (v := 6) hx hb dX10_store_90 (by decide) ?_
        refine lv_icmp_gt (tgt := 123) hx hb dX10_store_92 (by decide) (fun c9 => absurd c9 (by decide)) (fun _ => ?_)
        refine lv_aload_n hx hb dX10_store_95 rfl (lv_at hl 6 rfl) ?_
        refine gf_X10_70 hC rfl hK hP 5 rfl rfl dX10_store_96 ?_
        refine lv_iload hx hb dX10_store_99 (lv_at hl 1 rfl) ?_
        refine lv_iload hx hb dX10_store_101 (lv_at hl 0 rfl) ?_
        refine lv_aload_n hx hb dX10_store_103 rfl (lv_at hl 5 rfl) ?_
        refine gf_X10_20 hC rfl hK hP 0 rfl rfl dX10_store_104 ?_
        refine lv_iload hx hb dX10_store_107 (lv_at hl 2 rfl) ?_
        refine lv_iload hx hb dX10_store_109 (lv_at hl 0 rfl) ?_
        refine pV hC hK hl hP hD (c_T_at l G tln (nI kP) 0 9 7 tlnc kln ftln (by omega) (by omega) (by omega)) si_X10_74 [1, 2] rfl rfl (by decide) rfl rfl rfl rfl rfl (Nat.le_of_ble_eq_true rfl) ⟨Nat.le_of_ble_eq_true rfl, Nat.le_of_ble_eq_true rfl⟩ ⟨by first | exact Nat.le_of_ble_eq_true rfl | exact Nat.zero_le _, by first | exact Nat.le_of_ble_eq_true rfl | exact Nat.zero_le _⟩ dX10_store_111 (fun r3890 hr3890 => ?_)
        refine vV (wr := [(h0, .inr (10, [.ref tby, .int (nI kt), .ref tln, .ref tsp, .int tkd, .int ts9, .int tn9, .int tf9])), (tln, .inr (8, [.int 9, .int 7, .ref tlnc, .int (nI kln)])), (tlnc, .inl (G.2.1, 63, .inl ftln)), (tsp, .inr (8, [.int 120, .int 1, .ref tspc, .int (nI ksp)])), (tspc, .inl (G.2.1, 120, .inl ftsp)), (bb, .inr (0, [.ref bpersons, .ref bpapers, .ref bstamps, .ref bversions, .ref blines, .ref bsteps, .ref bsayings, .ref bfindings, .ref bwarnings, .ref bquestions, .int td, .int vd, .int vl, .int gp])), (bsteps, .inr (8, [.int 960, .int 1, .ref bstepsc, .int (nI kbsteps)])), (bstepsc, .inl (G.2.1, 960, .inl fbsteps)), (bversions, .inr (8, [.int 8, .int 3, .ref bversionsc, .int (nI (kbversions + 1))])), (bversionsc, .inl (G.2.1, 24, .inl f13806))]) hC hK hl hP hD hS hA (c_T_set l G blines (-2) 0 r3890 72 7 blinesc vkb vbl (by omega) (by omega) (by omega)) si_X10_66 [11, 6] [0, 1, 2, 3, 4, 5, 7, 8, 9, 10] rfl rfl (by decide) rfl (by decide) (by decide) rfl rfl rfl rfl rfl (Nat.le_of_ble_eq_true rfl) ⟨Nat.le_of_ble_eq_true rfl, Nat.le_of_ble_eq_true rfl⟩ ⟨Nat.le_of_ble_eq_true rfl, Nat.le_of_ble_eq_true rfl⟩ dX10_store_114 (fun u3893 H locs hr3892 hP hD hS => ?_)
        obtain ⟨f13894, rfl⟩ : ∃ z9, z9 = u3893 := ⟨_, rfl⟩
        try dsimp only at hr3892
        have hP : va_P G.1 vwCl [(h0, .inr (10, [.ref tby, .int (nI kt), .ref tln, .ref tsp, .int tkd, .int ts9, .int tn9, .int tf9])), (tln, .inr (8, [.int 9, .int 7, .ref tlnc, .int (nI kln)])), (tlnc, .inl (G.2.1, 63, .inl ftln)), (tsp, .inr (8, [.int 120, .int 1, .ref tspc, .int (nI ksp)])), (tspc, .inl (G.2.1, 120, .inl ftsp)), (bb, .inr (0, [.ref bpersons, .ref bpapers, .ref bstamps, .ref bversions, .ref blines, .ref bsteps, .ref bsayings, .ref bfindings, .ref bwarnings, .ref bquestions, .int td, .int vd, .int vl, .int gp])), (bsteps, .inr (8, [.int 960, .int 1, .ref bstepsc, .int (nI kbsteps)])), (bstepsc, .inl (G.2.1, 960, .inl fbsteps)), (bversions, .inr (8, [.int 8, .int 3, .ref bversionsc, .int (nI (kbversions + 1))])), (bversionsc, .inl (G.2.1, 24, .inl f13806)), (blines, .inr (8, [.int 72, .int 7, .ref blinesc, .int (nI vkb)])), (blinesc, .inl (G.2.1, 504, .inl f13894))] H := hP
        have hD : va_D A [(h0, .inr (10, [.ref tby, .int (nI kt), .ref tln, .ref tsp, .int tkd, .int ts9, .int tn9, .int tf9])), (tln, .inr (8, [.int 9, .int 7, .ref tlnc, .int (nI kln)])), (tlnc, .inl (G.2.1, 63, .inl ftln)), (tsp, .inr (8, [.int 120, .int 1, .ref tspc, .int (nI ksp)])), (tspc, .inl (G.2.1, 120, .inl ftsp)), (bb, .inr (0, [.ref bpersons, .ref bpapers, .ref bstamps, .ref bversions, .ref blines, .ref bsteps, .ref bsayings, .ref bfindings, .ref bwarnings, .ref bquestions, .int td, .int vd, .int vl, .int gp])), (bsteps, .inr (8, [.int 960, .int 1, .ref bstepsc, .int (nI kbsteps)])), (bstepsc, .inl (G.2.1, 960, .inl fbsteps)), (bversions, .inr (8, [.int 8, .int 3, .ref bversionsc, .int (nI (kbversions + 1))])), (bversionsc, .inl (G.2.1, 24, .inl f13806)), (blines, .inr (8, [.int 72, .int 7, .ref blinesc, .int (nI vkb)])), (blinesc, .inl (G.2.1, 504, .inl f13894))] := hD
        have w3895 := hr3892
        refine lv_iinc (v := 1) (lv' := [(6, .int 1), (5, .int (-2)), (4, .int (nI kP)), (3, .int (nI kbsteps)), (2, .int (nI kbversions)), (0, .ref h0), (1, .ref bb)]) hx hb dX10_store_117 hl (k := 0) rfl (by decide) (by decide) rfl (fun ls hl => ?_)
        refine lv_goto (tgt := 88) hx hb dX10_store_120 (by decide) ?_
        refine lv_iload hx hb dX10_store_88 (lv_at hl 0 rfl) ?_
        refine lv_bipush (v := 6) hx hb dX10_store_90 (by decide) ?_
        refine lv_icmp_gt (tgt := 123) hx hb dX10_store_92 (by decide) (fun c9 => absurd c9 (by decide)) (fun _ => ?_)
        refine lv_aload_n hx hb dX10_store_95 rfl (lv_at hl 6 rfl) ?_
        refine gf_X10_70 hC rfl hK hP 5 rfl rfl dX10_store_96 ?_
        refine lv_iload hx hb dX10_store_99 (lv_at hl 1 rfl) ?_
        refine lv_iload hx hb dX10_store_101 (lv_at hl 0 rfl) ?_
        refine lv_aload_n hx hb dX10_store_103 rfl (lv_at hl 5 rfl) ?_
        refine gf_X10_20 hC rfl hK hP 0 rfl rfl dX10_store_104 ?_
        refine lv_iload hx hb dX10_store_107 (lv_at hl 2 rfl) ?_
        refine lv_iload hx hb dX10_store_109 (lv_at hl 0 rfl) ?_
        refine pV hC hK hl hP hD (c_T_at l G tln (nI kP) 1 9 7 tlnc kln ftln (by omega) (by omega) (by omega)) si_X10_74 [1, 2] rfl rfl (by decide) rfl rfl rfl rfl rfl (Nat.le_of_ble_eq_true rfl) ⟨Nat.le_of_ble_eq_true rfl, Nat.le_of_ble_eq_true rfl⟩ ⟨by first | exact Nat.le_of_ble_eq_true rfl | exact Nat.zero_le _, by first | exact Nat.le_of_ble_eq_true rfl | exact Nat.zero_le _⟩ dX10_store_111 (fun r3896 hr3896 => ?_)
        refine vV (wr := [(h0, .inr (10, [.ref tby, .int (nI kt), .ref tln, .ref tsp, .int tkd, .int ts9, .int tn9, .int tf9])), (tln, .inr (8, [.int 9, .int 7, .ref tlnc, .int (nI kln)])), (tlnc, .inl (G.2.1, 63, .inl ftln)), (tsp, .inr (8, [.int 120, .int 1, .ref tspc, .int (nI ksp)])), (tspc, .inl (G.2.1, 120, .inl ftsp)), (bb, .inr (0, [.ref bpersons, .ref bpapers, .ref bstamps, .ref bversions, .ref blines, .ref bsteps, .ref bsayings, .ref bfindings, .ref bwarnings, .ref bquestions, .int td, .int vd, .int vl, .int gp])), (bsteps, .inr (8, [.int 960, .int 1, .ref bstepsc, .int (nI kbsteps)])), (bstepsc, .inl (G.2.1, 960, .inl fbsteps)), (bversions, .inr (8, [.int 8, .int 3, .ref bversionsc, .int (nI (kbversions + 1))])), (bversionsc, .inl (G.2.1, 24, .inl f13806))]) hC hK hl hP hD hS hA (c_T_set l G blines (-2) 1 r3896 72 7 blinesc vkb f13894 (by omega) (by omega) (by omega)) si_X10_66 [10, 11] [0, 1, 2, 3, 4, 5, 6, 7, 8, 9] rfl rfl (by decide) rfl (by decide) (by decide) rfl rfl rfl rfl rfl (Nat.le_of_ble_eq_true rfl) ⟨Nat.le_of_ble_eq_true rfl, Nat.le_of_ble_eq_true rfl⟩ ⟨Nat.le_of_ble_eq_true rfl, Nat.le_of_ble_eq_true rfl⟩ dX10_store_114 (fun u3899 H locs hr3898 hP hD hS => ?_)
        obtain ⟨f13900, rfl⟩ : ∃ z9, z9 = u3899 := ⟨_, rfl⟩
        try dsimp only at hr3898
        have hP : va_P G.1 vwCl [(h0, .inr (10, [.ref tby, .int (nI kt), .ref tln, .ref tsp, .int tkd, .int ts9, .int tn9, .int tf9])), (tln, .inr (8, [.int 9, .int 7, .ref tlnc, .int (nI kln)])), (tlnc, .inl (G.2.1, 63, .inl ftln)), (tsp, .inr (8, [.int 120, .int 1, .ref tspc, .int (nI ksp)])), (tspc, .inl (G.2.1, 120, .inl ftsp)), (bb, .inr (0, [.ref bpersons, .ref bpapers, .ref bstamps, .ref bversions, .ref blines, .ref bsteps, .ref bsayings, .ref bfindings, .ref bwarnings, .ref bquestions, .int td, .int vd, .int vl, .int gp])), (bsteps, .inr (8, [.int 960, .int 1, .ref bstepsc, .int (nI kbsteps)])), (bstepsc, .inl (G.2.1, 960, .inl fbsteps)), (bversions, .inr (8, [.int 8, .int 3, .ref bversionsc, .int (nI (kbversions + 1))])), (bversionsc, .inl (G.2.1, 24, .inl f13806)), (blines, .inr (8, [.int 72, .int 7, .ref blinesc, .int (nI vkb)])), (blinesc, .inl (G.2.1, 504, .inl f13900))] H := hP
        have hD : va_D A [(h0, .inr (10, [.ref tby, .int (nI kt), .ref tln, .ref tsp, .int tkd, .int ts9, .int tn9, .int tf9])), (tln, .inr (8, [.int 9, .int 7, .ref tlnc, .int (nI kln)])), (tlnc, .inl (G.2.1, 63, .inl ftln)), (tsp, .inr (8, [.int 120, .int 1, .ref tspc, .int (nI ksp)])), (tspc, .inl (G.2.1, 120, .inl ftsp)), (bb, .inr (0, [.ref bpersons, .ref bpapers, .ref bstamps, .ref bversions, .ref blines, .ref bsteps, .ref bsayings, .ref bfindings, .ref bwarnings, .ref bquestions, .int td, .int vd, .int vl, .int gp])), (bsteps, .inr (8, [.int 960, .int 1, .ref bstepsc, .int (nI kbsteps)])), (bstepsc, .inl (G.2.1, 960, .inl fbsteps)), (bversions, .inr (8, [.int 8, .int 3, .ref bversionsc, .int (nI (kbversions + 1))])), (bversionsc, .inl (G.2.1, 24, .inl f13806)), (blines, .inr (8, [.int 72, .int 7, .ref blinesc, .int (nI vkb)])), (blinesc, .inl (G.2.1, 504, .inl f13900))] := hD
        have w3901 := hr3898
        refine lv_iinc (v := 2) (lv' := [(6, .int 2), (5, .int (-2)), (4, .int (nI kP)), (3, .int (nI kbsteps)), (2, .int (nI kbversions)), (0, .ref h0), (1, .ref bb)]) hx hb dX10_store_117 hl (k := 0) rfl (by decide) (by decide) rfl (fun ls hl => ?_)
        refine lv_goto (tgt := 88) hx hb dX10_store_120 (by decide) ?_
        refine lv_iload hx hb dX10_store_88 (lv_at hl 0 rfl) ?_
        refine lv_bipush (v := 6) hx hb dX10_store_90 (by decide) ?_
        refine lv_icmp_gt (tgt := 123) hx hb dX10_store_92 (by decide) (fun c9 => absurd c9 (by decide)) (fun _ => ?_)
        refine lv_aload_n hx hb dX10_store_95 rfl (lv_at hl 6 rfl) ?_
        refine gf_X10_70 hC rfl hK hP 5 rfl rfl dX10_store_96 ?_
        refine lv_iload hx hb dX10_store_99 (lv_at hl 1 rfl) ?_
        refine lv_iload hx hb dX10_store_101 (lv_at hl 0 rfl) ?_
        refine lv_aload_n hx hb dX10_store_103 rfl (lv_at hl 5 rfl) ?_
        refine gf_X10_20 hC rfl hK hP 0 rfl rfl dX10_store_104 ?_
        refine lv_iload hx hb dX10_store_107 (lv_at hl 2 rfl) ?_
        refine lv_iload hx hb dX10_store_109 (lv_at hl 0 rfl) ?_
        refine pV hC hK hl hP hD (c_T_at l G tln (nI kP) 2 9 7 tlnc kln ftln (by omega) (by omega) (by omega)) si_X10_74 [1, 2] rfl rfl (by decide) rfl rfl rfl rfl rfl (Nat.le_of_ble_eq_true rfl) ⟨Nat.le_of_ble_eq_true rfl, Nat.le_of_ble_eq_true rfl⟩ ⟨by first | exact Nat.le_of_ble_eq_true rfl | exact Nat.zero_le _, by first | exact Nat.le_of_ble_eq_true rfl | exact Nat.zero_le _⟩ dX10_store_111 (fun r3902 hr3902 => ?_)
        refine vV (wr := [(h0, .inr (10, [.ref tby, .int (nI kt), .ref tln, .ref tsp, .int tkd, .int ts9, .int tn9, .int tf9])), (tln, .inr (8, [.int 9, .int 7, .ref tlnc, .int (nI kln)])), (tlnc, .inl (G.2.1, 63, .inl ftln)), (tsp, .inr (8, [.int 120, .int 1, .ref tspc, .int (nI ksp)])), (tspc, .inl (G.2.1, 120, .inl ftsp)), (bb, .inr (0, [.ref bpersons, .ref bpapers, .ref bstamps, .ref bversions, .ref blines, .ref bsteps, .ref bsayings, .ref bfindings, .ref bwarnings, .ref bquestions, .int td, .int vd, .int vl, .int gp])), (bsteps, .inr (8, [.int 960, .int 1, .ref bstepsc, .int (nI kbsteps)])), (bstepsc, .inl (G.2.1, 960, .inl fbsteps)), (bversions, .inr (8, [.int 8, .int 3, .ref bversionsc, .int (nI (kbversions + 1))])), (bversionsc, .inl (G.2.1, 24, .inl f13806))]) hC hK hl hP hD hS hA (c_T_set l G blines (-2) 2 r3902 72 7 blinesc vkb f13900 (by omega) (by omega) (by omega)) si_X10_66 [10, 11] [0, 1, 2, 3, 4, 5, 6, 7, 8, 9] rfl rfl (by decide) rfl (by decide) (by decide) rfl rfl rfl rfl rfl (Nat.le_of_ble_eq_true rfl) ⟨Nat.le_of_ble_eq_true rfl, Nat.le_of_ble_eq_true rfl⟩ ⟨Nat.le_of_ble_eq_true rfl, Nat.le_of_ble_eq_true rfl⟩ dX10_store_114 (fun u3905 H locs hr3904 hP hD hS => ?_)
        obtain ⟨f13906, rfl⟩ : ∃ z9, z9 = u3905 := ⟨_, rfl⟩
        try dsimp only at hr3904
        have hP : va_P G.1 vwCl [(h0, .inr (10, [.ref tby, .int (nI kt), .ref tln, .ref tsp, .int tkd, .int ts9, .int tn9, .int tf9])), (tln, .inr (8, [.int 9, .int 7, .ref tlnc, .int (nI kln)])), (tlnc, .inl (G.2.1, 63, .inl ftln)), (tsp, .inr (8, [.int 120, .int 1, .ref tspc, .int (nI ksp)])), (tspc, .inl (G.2.1, 120, .inl ftsp)), (bb, .inr (0, [.ref bpersons, .ref bpapers, .ref bstamps, .ref bversions, .ref blines, .ref bsteps, .ref bsayings, .ref bfindings, .ref bwarnings, .ref bquestions, .int td, .int vd, .int vl, .int gp])), (bsteps, .inr (8, [.int 960, .int 1, .ref bstepsc, .int (nI kbsteps)])), (bstepsc, .inl (G.2.1, 960, .inl fbsteps)), (bversions, .inr (8, [.int 8, .int 3, .ref bversionsc, .int (nI (kbversions + 1))])), (bversionsc, .inl (G.2.1, 24, .inl f13806)), (blines, .inr (8, [.int 72, .int 7, .ref blinesc, .int (nI vkb)])), (blinesc, .inl (G.2.1, 504, .inl f13906))] H := hP
        have hD : va_D A [(h0, .inr (10, [.ref tby, .int (nI kt), .ref tln, .ref tsp, .int tkd, .int ts9, .int tn9, .int tf9])), (tln, .inr (8, [.int 9, .int 7, .ref tlnc, .int (nI kln)])), (tlnc, .inl (G.2.1, 63, .inl ftln)), (tsp, .inr (8, [.int 120, .int 1, .ref tspc, .int (nI ksp)])), (tspc, .inl (G.2.1, 120, .inl ftsp)), (bb, .inr (0, [.ref bpersons, .ref bpapers, .ref bstamps, .ref bversions, .ref blines, .ref bsteps, .ref bsayings, .ref bfindings, .ref bwarnings, .ref bquestions, .int td, .int vd, .int vl, .int gp])), (bsteps, .inr (8, [.int 960, .int 1, .ref bstepsc, .int (nI kbsteps)])), (bstepsc, .inl (G.2.1, 960, .inl fbsteps)), (bversions, .inr (8, [.int 8, .int 3, .ref bversionsc, .int (nI (kbversions + 1))])), (bversionsc, .inl (G.2.1, 24, .inl f13806)), (blines, .inr (8, [.int 72, .int 7, .ref blinesc, .int (nI vkb)])), (blinesc, .inl (G.2.1, 504, .inl f13906))] := hD
        have w3907 := hr3904
        refine lv_iinc (v := 3) (lv' := [(6, .int 3), (5, .int (-2)), (4, .int (nI kP)), (3, .int (nI kbsteps)), (2, .int (nI kbversions)), (0, .ref h0), (1, .ref bb)]) hx hb dX10_store_117 hl (k := 0) rfl (by decide) (by decide) rfl (fun ls hl => ?_)
        refine lv_goto (tgt := 88) hx hb dX10_store_120 (by decide) ?_
        refine lv_iload hx hb dX10_store_88 (lv_at hl 0 rfl) ?_
        refine lv_bipush (v := 6) hx hb dX10_store_90 (by decide) ?_
        refine lv_icmp_gt (tgt := 123) hx hb dX10_store_92 (by decide) (fun c9 => absurd c9 (by decide)) (fun _ => ?_)
        refine lv_aload_n hx hb dX10_store_95 rfl (lv_at hl 6 rfl) ?_
        refine gf_X10_70 hC rfl hK hP 5 rfl rfl dX10_store_96 ?_
        refine lv_iload hx hb dX10_store_99 (lv_at hl 1 rfl) ?_
        refine lv_iload hx hb dX10_store_101 (lv_at hl 0 rfl) ?_
        refine lv_aload_n hx hb dX10_store_103 rfl (lv_at hl 5 rfl) ?_
        refine gf_X10_20 hC rfl hK hP 0 rfl rfl dX10_store_104 ?_
        refine lv_iload hx hb dX10_store_107 (lv_at hl 2 rfl) ?_
        refine lv_iload hx hb dX10_store_109 (lv_at hl 0 rfl) ?_
        refine pV hC hK hl hP hD (c_T_at l G tln (nI kP) 3 9 7 tlnc kln ftln (by omega) (by omega) (by omega)) si_X10_74 [1, 2] rfl rfl (by decide) rfl rfl rfl rfl rfl (Nat.le_of_ble_eq_true rfl) ⟨Nat.le_of_ble_eq_true rfl, Nat.le_of_ble_eq_true rfl⟩ ⟨by first | exact Nat.le_of_ble_eq_true rfl | exact Nat.zero_le _, by first | exact Nat.le_of_ble_eq_true rfl | exact Nat.zero_le _⟩ dX10_store_111 (fun r3908 hr3908 => ?_)
        refine vV (wr := [(h0, .inr (10, [.ref tby, .int (nI kt), .ref tln, .ref tsp, .int tkd, .int ts9, .int tn9, .int tf9])), (tln, .inr (8, [.int 9, .int 7, .ref tlnc, .int (nI kln)])), (tlnc, .inl (G.2.1, 63, .inl ftln)), (tsp, .inr (8, [.int 120, .int 1, .ref tspc, .int (nI ksp)])), (tspc, .inl (G.2.1, 120, .inl ftsp)), (bb, .inr (0, [.ref bpersons, .ref bpapers, .ref bstamps, .ref bversions, .ref blines, .ref bsteps, .ref bsayings, .ref bfindings, .ref bwarnings, .ref bquestions, .int td, .int vd, .int vl, .int gp])), (bsteps, .inr (8, [.int 960, .int 1, .ref bstepsc, .int (nI kbsteps)])), (bstepsc, .inl (G.2.1, 960, .inl fbsteps)), (bversions, .inr (8, [.int 8, .int 3, .ref bversionsc, .int (nI (kbversions + 1))])), (bversionsc, .inl (G.2.1, 24, .inl f13806))]) hC hK hl hP hD hS hA (c_T_set l G blines (-2) 3 r3908 72 7 blinesc vkb f13906 (by omega) (by omega) (by omega)) si_X10_66 [10, 11] [0, 1, 2, 3, 4, 5, 6, 7, 8, 9] rfl rfl (by decide) rfl (by decide) (by decide) rfl rfl rfl rfl rfl (Nat.le_of_ble_eq_true rfl) ⟨Nat.le_of_ble_eq_true rfl, Nat.le_of_ble_eq_true rfl⟩ ⟨Nat.le_of_ble_eq_true rfl, Nat.le_of_ble_eq_true rfl⟩ dX10_store_114 (fun u3911 H locs hr3910 hP hD hS => ?_)
        obtain ⟨f13912, rfl⟩ : ∃ z9, z9 = u3911 := ⟨_, rfl⟩
        try dsimp only at hr3910
        have hP : va_P G.1 vwCl [(h0, .inr (10, [.ref tby, .int (nI kt), .ref tln, .ref tsp, .int tkd, .int ts9, .int tn9, .int tf9])), (tln, .inr (8, [.int 9, .int 7, .ref tlnc, .int (nI kln)])), (tlnc, .inl (G.2.1, 63, .inl ftln)), (tsp, .inr (8, [.int 120, .int 1, .ref tspc, .int (nI ksp)])), (tspc, .inl (G.2.1, 120, .inl ftsp)), (bb, .inr (0, [.ref bpersons, .ref bpapers, .ref bstamps, .ref bversions, .ref blines, .ref bsteps, .ref bsayings, .ref bfindings, .ref bwarnings, .ref bquestions, .int td, .int vd, .int vl, .int gp])), (bsteps, .inr (8, [.int 960, .int 1, .ref bstepsc, .int (nI kbsteps)])), (bstepsc, .inl (G.2.1, 960, .inl fbsteps)), (bversions, .inr (8, [.int 8, .int 3, .ref bversionsc, .int (nI (kbversions + 1))])), (bversionsc, .inl (G.2.1, 24, .inl f13806)), (blines, .inr (8, [.int 72, .int 7, .ref blinesc, .int (nI vkb)])), (blinesc, .inl (G.2.1, 504, .inl f13912))] H := hP
        have hD : va_D A [(h0, .inr (10, [.ref tby, .int (nI kt), .ref tln, .ref tsp, .int tkd, .int ts9, .int tn9, .int tf9])), (tln, .inr (8, [.int 9, .int 7, .ref tlnc, .int (nI kln)])), (tlnc, .inl (G.2.1, 63, .inl ftln)), (tsp, .inr (8, [.int 120, .int 1, .ref tspc, .int (nI ksp)])), (tspc, .inl (G.2.1, 120, .inl ftsp)), (bb, .inr (0, [.ref bpersons, .ref bpapers, .ref bstamps, .ref bversions, .ref blines, .ref bsteps, .ref bsayings, .ref bfindings, .ref bwarnings, .ref bquestions, .int td, .int vd, .int vl, .int gp])), (bsteps, .inr (8, [.int 960, .int 1, .ref bstepsc, .int (nI kbsteps)])), (bstepsc, .inl (G.2.1, 960, .inl fbsteps)), (bversions, .inr (8, [.int 8, .int 3, .ref bversionsc, .int (nI (kbversions + 1))])), (bversionsc, .inl (G.2.1, 24, .inl f13806)), (blines, .inr (8, [.int 72, .int 7, .ref blinesc, .int (nI vkb)])), (blinesc, .inl (G.2.1, 504, .inl f13912))] := hD
        have w3913 := hr3910
        refine lv_iinc (v := 4) (lv' := [(6, .int 4), (5, .int (-2)), (4, .int (nI kP)), (3, .int (nI kbsteps)), (2, .int (nI kbversions)), (0, .ref h0), (1, .ref bb)]) hx hb dX10_store_117 hl (k := 0) rfl (by decide) (by decide) rfl (fun ls hl => ?_)
        refine lv_goto (tgt := 88) hx hb dX10_store_120 (by decide) ?_
        refine lv_iload hx hb dX10_store_88 (lv_at hl 0 rfl) ?_
        refine lv_bipush (v := 6) hx hb dX10_store_90 (by decide) ?_
        refine lv_icmp_gt (tgt := 123) hx hb dX10_store_92 (by decide) (fun c9 => absurd c9 (by decide)) (fun _ => ?_)
        refine lv_aload_n hx hb dX10_store_95 rfl (lv_at hl 6 rfl) ?_
        refine gf_X10_70 hC rfl hK hP 5 rfl rfl dX10_store_96 ?_
        refine lv_iload hx hb dX10_store_99 (lv_at hl 1 rfl) ?_
        refine lv_iload hx hb dX10_store_101 (lv_at hl 0 rfl) ?_
        refine lv_aload_n hx hb dX10_store_103 rfl (lv_at hl 5 rfl) ?_
        refine gf_X10_20 hC rfl hK hP 0 rfl rfl dX10_store_104 ?_
        refine lv_iload hx hb dX10_store_107 (lv_at hl 2 rfl) ?_
        refine lv_iload hx hb dX10_store_109 (lv_at hl 0 rfl) ?_
        refine pV hC hK hl hP hD (c_T_at l G tln (nI kP) 4 9 7 tlnc kln ftln (by omega) (by omega) (by omega)) si_X10_74 [1, 2] rfl rfl (by decide) rfl rfl rfl rfl rfl (Nat.le_of_ble_eq_true rfl) ⟨Nat.le_of_ble_eq_true rfl, Nat.le_of_ble_eq_true rfl⟩ ⟨by first | exact Nat.le_of_ble_eq_true rfl | exact Nat.zero_le _, by first | exact Nat.le_of_ble_eq_true rfl | exact Nat.zero_le _⟩ dX10_store_111 (fun r3914 hr3914 => ?_)
        refine vV (wr := [(h0, .inr (10, [.ref tby, .int (nI kt), .ref tln, .ref tsp, .int tkd, .int ts9, .int tn9, .int tf9])), (tln, .inr (8, [.int 9, .int 7, .ref tlnc, .int (nI kln)])), (tlnc, .inl (G.2.1, 63, .inl ftln)), (tsp, .inr (8, [.int 120, .int 1, .ref tspc, .int (nI ksp)])), (tspc, .inl (G.2.1, 120, .inl ftsp)), (bb, .inr (0, [.ref bpersons, .ref bpapers, .ref bstamps, .ref bversions, .ref blines, .ref bsteps, .ref bsayings, .ref bfindings, .ref bwarnings, .ref bquestions, .int td, .int vd, .int vl, .int gp])), (bsteps, .inr (8, [.int 960, .int 1, .ref bstepsc, .int (nI kbsteps)])), (bstepsc, .inl (G.2.1, 960, .inl fbsteps)), (bversions, .inr (8, [.int 8, .int 3, .ref bversionsc, .int (nI (kbversions + 1))])), (bversionsc, .inl (G.2.1, 24, .inl f13806))]) hC hK hl hP hD hS hA (c_T_set l G blines (-2) 4 r3914 72 7 blinesc vkb f13912 (by omega) (by omega) (by omega)) si_X10_66 [10, 11] [0, 1, 2, 3, 4, 5, 6, 7, 8, 9] rfl rfl (by decide) rfl (by decide) (by decide) rfl rfl rfl rfl rfl (Nat.le_of_ble_eq_true rfl) ⟨Nat.le_of_ble_eq_true rfl, Nat.le_of_ble_eq_true rfl⟩ ⟨Nat.le_of_ble_eq_true rfl, Nat.le_of_ble_eq_true rfl⟩ dX10_store_114 (fun u3917 H locs hr3916 hP hD hS => ?_)
        obtain ⟨f13918, rfl⟩ : ∃ z9, z9 = u3917 := ⟨_, rfl⟩
        try dsimp only at hr3916
        have hP : va_P G.1 vwCl [(h0, .inr (10, [.ref tby, .int (nI kt), .ref tln, .ref tsp, .int tkd, .int ts9, .int tn9, .int tf9])), (tln, .inr (8, [.int 9, .int 7, .ref tlnc, .int (nI kln)])), (tlnc, .inl (G.2.1, 63, .inl ftln)), (tsp, .inr (8, [.int 120, .int 1, .ref tspc, .int (nI ksp)])), (tspc, .inl (G.2.1, 120, .inl ftsp)), (bb, .inr (0, [.ref bpersons, .ref bpapers, .ref bstamps, .ref bversions, .ref blines, .ref bsteps, .ref bsayings, .ref bfindings, .ref bwarnings, .ref bquestions, .int td, .int vd, .int vl, .int gp])), (bsteps, .inr (8, [.int 960, .int 1, .ref bstepsc, .int (nI kbsteps)])), (bstepsc, .inl (G.2.1, 960, .inl fbsteps)), (bversions, .inr (8, [.int 8, .int 3, .ref bversionsc, .int (nI (kbversions + 1))])), (bversionsc, .inl (G.2.1, 24, .inl f13806)), (blines, .inr (8, [.int 72, .int 7, .ref blinesc, .int (nI vkb)])), (blinesc, .inl (G.2.1, 504, .inl f13918))] H := hP
        have hD : va_D A [(h0, .inr (10, [.ref tby, .int (nI kt), .ref tln, .ref tsp, .int tkd, .int ts9, .int tn9, .int tf9])), (tln, .inr (8, [.int 9, .int 7, .ref tlnc, .int (nI kln)])), (tlnc, .inl (G.2.1, 63, .inl ftln)), (tsp, .inr (8, [.int 120, .int 1, .ref tspc, .int (nI ksp)])), (tspc, .inl (G.2.1, 120, .inl ftsp)), (bb, .inr (0, [.ref bpersons, .ref bpapers, .ref bstamps, .ref bversions, .ref blines, .ref bsteps, .ref bsayings, .ref bfindings, .ref bwarnings, .ref bquestions, .int td, .int vd, .int vl, .int gp])), (bsteps, .inr (8, [.int 960, .int 1, .ref bstepsc, .int (nI kbsteps)])), (bstepsc, .inl (G.2.1, 960, .inl fbsteps)), (bversions, .inr (8, [.int 8, .int 3, .ref bversionsc, .int (nI (kbversions + 1))])), (bversionsc, .inl (G.2.1, 24, .inl f13806)), (blines, .inr (8, [.int 72, .int 7, .ref blinesc, .int (nI vkb)])), (blinesc, .inl (G.2.1, 504, .inl f13918))] := hD
        have w3919 := hr3916
        refine lv_iinc (v := 5) (lv' := [(6, .int 5), (5, .int (-2)), (4, .int (nI kP)), (3, .int (nI kbsteps)), (2, .int (nI kbversions)), (0, .ref h0), (1, .ref bb)]) hx hb dX10_store_117 hl (k := 0) rfl (by decide) (by decide) rfl (fun ls hl => ?_)
        refine lv_goto (tgt := 88) hx hb dX10_store_120 (by decide) ?_
        refine lv_iload hx hb dX10_store_88 (lv_at hl 0 rfl) ?_
        refine lv_bipush (v := 6) hx hb dX10_store_90 (by decide) ?_
        refine lv_icmp_gt (tgt := 123) hx hb dX10_store_92 (by decide) (fun c9 => absurd c9 (by decide)) (fun _ => ?_)
        refine lv_aload_n hx hb dX10_store_95 rfl (lv_at hl 6 rfl) ?_
        refine gf_X10_70 hC rfl hK hP 5 rfl rfl dX10_store_96 ?_
        refine lv_iload hx hb dX10_store_99 (lv_at hl 1 rfl) ?_
        refine lv_iload hx hb dX10_store_101 (lv_at hl 0 rfl) ?_
        refine lv_aload_n hx hb dX10_store_103 rfl (lv_at hl 5 rfl) ?_
        refine gf_X10_20 hC rfl hK hP 0 rfl rfl dX10_store_104 ?_
        refine lv_iload hx hb dX10_store_107 (lv_at hl 2 rfl) ?_
        refine lv_iload hx hb dX10_store_109 (lv_at hl 0 rfl) ?_
        refine pV hC hK hl hP hD (c_T_at l G tln (nI kP) 5 9 7 tlnc kln ftln (by omega) (by omega) (by omega)) si_X10_74 [1, 2] rfl rfl (by decide) rfl rfl rfl rfl rfl (Nat.le_of_ble_eq_true rfl) ⟨Nat.le_of_ble_eq_true rfl, Nat.le_of_ble_eq_true rfl⟩ ⟨by first | exact Nat.le_of_ble_eq_true rfl | exact Nat.zero_le _, by first | exact Nat.le_of_ble_eq_true rfl | exact Nat.zero_le _⟩ dX10_store_111 (fun r3920 hr3920 => ?_)
        refine vV (wr := [(h0, .inr (10, [.ref tby, .int (nI kt), .ref tln, .ref tsp, .int tkd, .int ts9, .int tn9, .int tf9])), (tln, .inr (8, [.int 9, .int 7, .ref tlnc, .int (nI kln)])), (tlnc, .inl (G.2.1, 63, .inl ftln)), (tsp, .inr (8, [.int 120, .int 1, .ref tspc, .int (nI ksp)])), (tspc, .inl (G.2.1, 120, .inl ftsp)), (bb, .inr (0, [.ref bpersons, .ref bpapers, .ref bstamps, .ref bversions, .ref blines, .ref bsteps, .ref bsayings, .ref bfindings, .ref bwarnings, .ref bquestions, .int td, .int vd, .int vl, .int gp])), (bsteps, .inr (8, [.int 960, .int 1, .ref bstepsc, .int (nI kbsteps)])), (bstepsc, .inl (G.2.1, 960, .inl fbsteps)), (bversions, .inr (8, [.int 8, .int 3, .ref bversionsc, .int (nI (kbversions + 1))])), (bversionsc, .inl (G.2.1, 24, .inl f13806))]) hC hK hl hP hD hS hA (c_T_set l G blines (-2) 5 r3920 72 7 blinesc vkb f13918 (by omega) (by omega) (by omega)) si_X10_66 [10, 11] [0, 1, 2, 3, 4, 5, 6, 7, 8, 9] rfl rfl (by decide) rfl (by decide) (by decide) rfl rfl rfl rfl rfl (Nat.le_of_ble_eq_true rfl) ⟨Nat.le_of_ble_eq_true rfl, Nat.le_of_ble_eq_true rfl⟩ ⟨Nat.le_of_ble_eq_true rfl, Nat.le_of_ble_eq_true rfl⟩ dX10_store_114 (fun u3923 H locs hr3922 hP hD hS => ?_)
        obtain ⟨f13924, rfl⟩ : ∃ z9, z9 = u3923 := ⟨_, rfl⟩
        try dsimp only at hr3922
        have hP : va_P G.1 vwCl [(h0, .inr (10, [.ref tby, .int (nI kt), .ref tln, .ref tsp, .int tkd, .int ts9, .int tn9, .int tf9])), (tln, .inr (8, [.int 9, .int 7, .ref tlnc, .int (nI kln)])), (tlnc, .inl (G.2.1, 63, .inl ftln)), (tsp, .inr (8, [.int 120, .int 1, .ref tspc, .int (nI ksp)])), (tspc, .inl (G.2.1, 120, .inl ftsp)), (bb, .inr (0, [.ref bpersons, .ref bpapers, .ref bstamps, .ref bversions, .ref blines, .ref bsteps, .ref bsayings, .ref bfindings, .ref bwarnings, .ref bquestions, .int td, .int vd, .int vl, .int gp])), (bsteps, .inr (8, [.int 960, .int 1, .ref bstepsc, .int (nI kbsteps)])), (bstepsc, .inl (G.2.1, 960, .inl fbsteps)), (bversions, .inr (8, [.int 8, .int 3, .ref bversionsc, .int (nI (kbversions + 1))])), (bversionsc, .inl (G.2.1, 24, .inl f13806)), (blines, .inr (8, [.int 72, .int 7, .ref blinesc, .int (nI vkb)])), (blinesc, .inl (G.2.1, 504, .inl f13924))] H := hP
        have hD : va_D A [(h0, .inr (10, [.ref tby, .int (nI kt), .ref tln, .ref tsp, .int tkd, .int ts9, .int tn9, .int tf9])), (tln, .inr (8, [.int 9, .int 7, .ref tlnc, .int (nI kln)])), (tlnc, .inl (G.2.1, 63, .inl ftln)), (tsp, .inr (8, [.int 120, .int 1, .ref tspc, .int (nI ksp)])), (tspc, .inl (G.2.1, 120, .inl ftsp)), (bb, .inr (0, [.ref bpersons, .ref bpapers, .ref bstamps, .ref bversions, .ref blines, .ref bsteps, .ref bsayings, .ref bfindings, .ref bwarnings, .ref bquestions, .int td, .int vd, .int vl, .int gp])), (bsteps, .inr (8, [.int 960, .int 1, .ref bstepsc, .int (nI kbsteps)])), (bstepsc, .inl (G.2.1, 960, .inl fbsteps)), (bversions, .inr (8, [.int 8, .int 3, .ref bversionsc, .int (nI (kbversions + 1))])), (bversionsc, .inl (G.2.1, 24, .inl f13806)), (blines, .inr (8, [.int 72, .int 7, .ref blinesc, .int (nI vkb)])), (blinesc, .inl (G.2.1, 504, .inl f13924))] := hD
        have w3925 := hr3922
        refine lv_iinc (v := 6) (lv' := [(6, .int 6), (5, .int (-2)), (4, .int (nI kP)), (3, .int (nI kbsteps)), (2, .int (nI kbversions)), (0, .ref h0), (1, .ref bb)]) hx hb dX10_store_117 hl (k := 0) rfl (by decide) (by decide) rfl (fun ls hl => ?_)
        refine lv_goto (tgt := 88) hx hb dX10_store_120 (by decide) ?_
        refine lv_iload hx hb dX10_store_88 (lv_at hl 0 rfl) ?_
        refine lv_bipush (v := 6) hx hb dX10_store_90 (by decide) ?_
        refine lv_icmp_gt (tgt := 123) hx hb dX10_store_92 (by decide) (fun c9 => absurd c9 (by decide)) (fun _ => ?_)
        refine lv_aload_n hx hb dX10_store_95 rfl (lv_at hl 6 rfl) ?_
        refine gf_X10_70 hC rfl hK hP 5 rfl rfl dX10_store_96 ?_
        refine lv_iload hx hb dX10_store_99 (lv_at hl 1 rfl) ?_
        refine lv_iload hx hb dX10_store_101 (lv_at hl 0 rfl) ?_
        refine lv_aload_n hx hb dX10_store_103 rfl (lv_at hl 5 rfl) ?_
        refine gf_X10_20 hC rfl hK hP 0 rfl rfl dX10_store_104 ?_
        refine lv_iload hx hb dX10_store_107 (lv_at hl 2 rfl) ?_
        refine lv_iload hx hb dX10_store_109 (lv_at hl 0 rfl) ?_
        refine pV hC hK hl hP hD (c_T_at l G tln (nI kP) 6 9 7 tlnc kln ftln (by omega) (by omega) (by omega)) si_X10_74 [1, 2] rfl rfl (by decide) rfl rfl rfl rfl rfl (Nat.le_of_ble_eq_true rfl) ⟨Nat.le_of_ble_eq_true rfl, Nat.le_of_ble_eq_true rfl⟩ ⟨by first | exact Nat.le_of_ble_eq_true rfl | exact Nat.zero_le _, by first | exact Nat.le_of_ble_eq_true rfl | exact Nat.zero_le _⟩ dX10_store_111 (fun r3926 hr3926 => ?_)
        refine vV (wr := [(h0, .inr (10, [.ref tby, .int (nI kt), .ref tln, .ref tsp, .int tkd, .int ts9, .int tn9, .int tf9])), (tln, .inr (8, [.int 9, .int 7, .ref tlnc, .int (nI kln)])), (tlnc, .inl (G.2.1, 63, .inl ftln)), (tsp, .inr (8, [.int 120, .int 1, .ref tspc, .int (nI ksp)])), (tspc, .inl (G.2.1, 120, .inl ftsp)), (bb, .inr (0, [.ref bpersons, .ref bpapers, .ref bstamps, .ref bversions, .ref blines, .ref bsteps, .ref bsayings, .ref bfindings, .ref bwarnings, .ref bquestions, .int td, .int vd, .int vl, .int gp])), (bsteps, .inr (8, [.int 960, .int 1, .ref bstepsc, .int (nI kbsteps)])), (bstepsc, .inl (G.2.1, 960, .inl fbsteps)), (bversions, .inr (8, [.int 8, .int 3, .ref bversionsc, .int (nI (kbversions + 1))])), (bversionsc, .inl (G.2.1, 24, .inl f13806))]) hC hK hl hP hD hS hA (c_T_set l G blines (-2) 6 r3926 72 7 blinesc vkb f13924 (by omega) (by omega) (by omega)) si_X10_66 [10, 11] [0, 1, 2, 3, 4, 5, 6, 7, 8, 9] rfl rfl (by decide) rfl (by decide) (by decide) rfl rfl rfl rfl rfl (Nat.le_of_ble_eq_true rfl) ⟨Nat.le_of_ble_eq_true rfl, Nat.le_of_ble_eq_true rfl⟩ ⟨Nat.le_of_ble_eq_true rfl, Nat.le_of_ble_eq_true rfl⟩ dX10_store_114 (fun u3929 H locs hr3928 hP hD hS => ?_)
        obtain ⟨f13930, rfl⟩ : ∃ z9, z9 = u3929 := ⟨_, rfl⟩
        try dsimp only at hr3928
        have hP : va_P G.1 vwCl [(h0, .inr (10, [.ref tby, .int (nI kt), .ref tln, .ref tsp, .int tkd, .int ts9, .int tn9, .int tf9])), (tln, .inr (8, [.int 9, .int 7, .ref tlnc, .int (nI kln)])), (tlnc, .inl (G.2.1, 63, .inl ftln)), (tsp, .inr (8, [.int 120, .int 1, .ref tspc, .int (nI ksp)])), (tspc, .inl (G.2.1, 120, .inl ftsp)), (bb, .inr (0, [.ref bpersons, .ref bpapers, .ref bstamps, .ref bversions, .ref blines, .ref bsteps, .ref bsayings, .ref bfindings, .ref bwarnings, .ref bquestions, .int td, .int vd, .int vl, .int gp])), (bsteps, .inr (8, [.int 960, .int 1, .ref bstepsc, .int (nI kbsteps)])), (bstepsc, .inl (G.2.1, 960, .inl fbsteps)), (bversions, .inr (8, [.int 8, .int 3, .ref bversionsc, .int (nI (kbversions + 1))])), (bversionsc, .inl (G.2.1, 24, .inl f13806)), (blines, .inr (8, [.int 72, .int 7, .ref blinesc, .int (nI vkb)])), (blinesc, .inl (G.2.1, 504, .inl f13930))] H := hP
        have hD : va_D A [(h0, .inr (10, [.ref tby, .int (nI kt), .ref tln, .ref tsp, .int tkd, .int ts9, .int tn9, .int tf9])), (tln, .inr (8, [.int 9, .int 7, .ref tlnc, .int (nI kln)])), (tlnc, .inl (G.2.1, 63, .inl ftln)), (tsp, .inr (8, [.int 120, .int 1, .ref tspc, .int (nI ksp)])), (tspc, .inl (G.2.1, 120, .inl ftsp)), (bb, .inr (0, [.ref bpersons, .ref bpapers, .ref bstamps, .ref bversions, .ref blines, .ref bsteps, .ref bsayings, .ref bfindings, .ref bwarnings, .ref bquestions, .int td, .int vd, .int vl, .int gp])), (bsteps, .inr (8, [.int 960, .int 1, .ref bstepsc, .int (nI kbsteps)])), (bstepsc, .inl (G.2.1, 960, .inl fbsteps)), (bversions, .inr (8, [.int 8, .int 3, .ref bversionsc, .int (nI (kbversions + 1))])), (bversionsc, .inl (G.2.1, 24, .inl f13806)), (blines, .inr (8, [.int 72, .int 7, .ref blinesc, .int (nI vkb)])), (blinesc, .inl (G.2.1, 504, .inl f13930))] := hD
        have w3931 := hr3928
        refine lv_iinc (v := 7) (lv' := [(6, .int 7), (5, .int (-2)), (4, .int (nI kP)), (3, .int (nI kbsteps)), (2, .int (nI kbversions)), (0, .ref h0), (1, .ref bb)]) hx hb dX10_store_117 hl (k := 0) rfl (by decide) (by decide) rfl (fun ls hl => ?_)
        refine lv_goto (tgt := 88) hx hb dX10_store_120 (by decide) ?_
        refine lv_iload hx hb dX10_store_88 (lv_at hl 0 rfl) ?_
        refine lv_bipush (v := 6) hx hb dX10_store_90 (by decide) ?_
        refine lv_icmp_gt (tgt := 123) hx hb dX10_store_92 (by decide) (fun _ => ?_) (fun c9 => absurd (by decide) c9)
        refine lv_aload_n hx hb dX10_store_123 rfl (lv_at hl 6 rfl) ?_
        refine gf_X10_70 hC rfl hK hP 5 rfl rfl dX10_store_124 ?_
        refine lv_iload hx hb dX10_store_127 (lv_at hl 1 rfl) ?_
        refine lv_iconst (v := 5) hx hb dX10_store_129 (by decide) ?_
        refine lv_aload_n hx hb dX10_store_130 rfl (lv_at hl 5 rfl) ?_
        refine gf_X10_20 hC rfl hK hP 0 rfl rfl dX10_store_131 ?_
        refine lv_iload hx hb dX10_store_134 (lv_at hl 2 rfl) ?_
        refine lv_iconst (v := 5) hx hb dX10_store_136 (by decide) ?_
        refine pV hC hK hl hP hD (c_T_at l G tln (nI kP) 5 9 7 tlnc kln ftln (by omega) (by omega) (by omega)) si_X10_74 [1, 2] rfl rfl (by decide) rfl rfl rfl rfl rfl (Nat.le_of_ble_eq_true rfl) ⟨Nat.le_of_ble_eq_true rfl, Nat.le_of_ble_eq_true rfl⟩ ⟨by first | exact Nat.le_of_ble_eq_true rfl | exact Nat.zero_le _, by first | exact Nat.le_of_ble_eq_true rfl | exact Nat.zero_le _⟩ dX10_store_137 (fun r3932 hr3932 => ?_)
        refine lv_iload_n hx hb dX10_store_140 rfl (lv_at hl 3 rfl) ?_
        refine lv_iadd hx hb dX10_store_141 ?_
        refine vV (wr := [(h0, .inr (10, [.ref tby, .int (nI kt), .ref tln, .ref tsp, .int tkd, .int ts9, .int tn9, .int tf9])), (tln, .inr (8, [.int 9, .int 7, .ref tlnc, .int (nI kln)])), (tlnc, .inl (G.2.1, 63, .inl ftln)), (tsp, .inr (8, [.int 120, .int 1, .ref tspc, .int (nI ksp)])), (tspc, .inl (G.2.1, 120, .inl ftsp)), (bb, .inr (0, [.ref bpersons, .ref bpapers, .ref bstamps, .ref bversions, .ref blines, .ref bsteps, .ref bsayings, .ref bfindings, .ref bwarnings, .ref bquestions, .int td, .int vd, .int vl, .int gp])), (bsteps, .inr (8, [.int 960, .int 1, .ref bstepsc, .int (nI kbsteps)])), (bstepsc, .inl (G.2.1, 960, .inl fbsteps)), (bversions, .inr (8, [.int 8, .int 3, .ref bversionsc, .int (nI (kbversions + 1))])), (bversionsc, .inl (G.2.1, 24, .inl f13806))]) hC hK hl hP hD hS hA (c_T_set l G blines (-2) 5 (r3932 + (nI kbsteps)) 72 7 blinesc vkb f13930 (by omega) (by omega) (by omega)) si_X10_66 [10, 11] [0, 1, 2, 3, 4, 5, 6, 7, 8, 9] rfl rfl (by decide) rfl (by decide) (by decide) rfl rfl rfl rfl rfl (Nat.le_of_ble_eq_true rfl) ⟨Nat.le_of_ble_eq_true rfl, Nat.le_of_ble_eq_true rfl⟩ ⟨Nat.le_of_ble_eq_true rfl, Nat.le_of_ble_eq_true rfl⟩ dX10_store_142 (fun u3935 H locs hr3934 hP hD hS => ?_)
        obtain ⟨f13936, rfl⟩ : ∃ z9, z9 = u3935 := ⟨_, rfl⟩
        try dsimp only at hr3934
        have hP : va_P G.1 vwCl [(h0, .inr (10, [.ref tby, .int (nI kt), .ref tln, .ref tsp, .int tkd, .int ts9, .int tn9, .int tf9])), (tln, .inr (8, [.int 9, .int 7, .ref tlnc, .int (nI kln)])), (tlnc, .inl (G.2.1, 63, .inl ftln)), (tsp, .inr (8, [.int 120, .int 1, .ref tspc, .int (nI ksp)])), (tspc, .inl (G.2.1, 120, .inl ftsp)), (bb, .inr (0, [.ref bpersons, .ref bpapers, .ref bstamps, .ref bversions, .ref blines, .ref bsteps, .ref bsayings, .ref bfindings, .ref bwarnings, .ref bquestions, .int td, .int vd, .int vl, .int gp])), (bsteps, .inr (8, [.int 960, .int 1, .ref bstepsc, .int (nI kbsteps)])), (bstepsc, .inl (G.2.1, 960, .inl fbsteps)), (bversions, .inr (8, [.int 8, .int 3, .ref bversionsc, .int (nI (kbversions + 1))])), (bversionsc, .inl (G.2.1, 24, .inl f13806)), (blines, .inr (8, [.int 72, .int 7, .ref blinesc, .int (nI vkb)])), (blinesc, .inl (G.2.1, 504, .inl f13936))] H := hP
        have hD : va_D A [(h0, .inr (10, [.ref tby, .int (nI kt), .ref tln, .ref tsp, .int tkd, .int ts9, .int tn9, .int tf9])), (tln, .inr (8, [.int 9, .int 7, .ref tlnc, .int (nI kln)])), (tlnc, .inl (G.2.1, 63, .inl ftln)), (tsp, .inr (8, [.int 120, .int 1, .ref tspc, .int (nI ksp)])), (tspc, .inl (G.2.1, 120, .inl ftsp)), (bb, .inr (0, [.ref bpersons, .ref bpapers, .ref bstamps, .ref bversions, .ref blines, .ref bsteps, .ref bsayings, .ref bfindings, .ref bwarnings, .ref bquestions, .int td, .int vd, .int vl, .int gp])), (bsteps, .inr (8, [.int 960, .int 1, .ref bstepsc, .int (nI kbsteps)])), (bstepsc, .inl (G.2.1, 960, .inl fbsteps)), (bversions, .inr (8, [.int 8, .int 3, .ref bversionsc, .int (nI (kbversions + 1))])), (bversionsc, .inl (G.2.1, 24, .inl f13806)), (blines, .inr (8, [.int 72, .int 7, .ref blinesc, .int (nI vkb)])), (blinesc, .inl (G.2.1, 504, .inl f13936))] := hD
        have w3937 := hr3934
        refine lv_iinc (v := nI (kP + 1)) (lv' := [(4, .int (nI (kP + 1))), (6, .int 7), (5, .int (-2)), (3, .int (nI kbsteps)), (2, .int (nI kbversions)), (0, .ref h0), (1, .ref bb)]) hx hb dX10_store_145 hl (k := 2) rfl (nI_1 _) (by decide) rfl (fun ls hl => ?_)
        refine lv_goto (tgt := 64) hx hb dX10_store_148 (by decide) ?_
        have hP := hP.sub (ws' := [(h0, .inr (10, [.ref tby, .int (nI kt), .ref tln, .ref tsp, .int tkd, .int ts9, .int tn9, .int tf9])), (tln, .inr (8, [.int 9, .int 7, .ref tlnc, .int (nI kln)])), (tlnc, .inl (G.2.1, 63, .inl ftln)), (tsp, .inr (8, [.int 120, .int 1, .ref tspc, .int (nI ksp)])), (tspc, .inl (G.2.1, 120, .inl ftsp)), (bb, .inr (0, [.ref bpersons, .ref bpapers, .ref bstamps, .ref bversions, .ref blines, .ref bsteps, .ref bsayings, .ref bfindings, .ref bwarnings, .ref bquestions, .int td, .int vd, .int vl, .int gp])), (blines, .inr (8, [.int 72, .int 7, .ref blinesc, .int (nI vkb)])), (blinesc, .inl (G.2.1, 504, .inl f13936)), (bsteps, .inr (8, [.int 960, .int 1, .ref bstepsc, .int (nI kbsteps)])), (bstepsc, .inl (G.2.1, 960, .inl fbsteps)), (bversions, .inr (8, [.int 8, .int 3, .ref bversionsc, .int (nI (kbversions + 1))])), (bversionsc, .inl (G.2.1, 24, .inl f13806))]) [0, 1, 2, 3, 4, 5, 10, 11, 6, 7, 8, 9] rfl
        have hD := hD.sub (ws' := [(h0, .inr (10, [.ref tby, .int (nI kt), .ref tln, .ref tsp, .int tkd, .int ts9, .int tn9, .int tf9])), (tln, .inr (8, [.int 9, .int 7, .ref tlnc, .int (nI kln)])), (tlnc, .inl (G.2.1, 63, .inl ftln)), (tsp, .inr (8, [.int 120, .int 1, .ref tspc, .int (nI ksp)])), (tspc, .inl (G.2.1, 120, .inl ftsp)), (bb, .inr (0, [.ref bpersons, .ref bpapers, .ref bstamps, .ref bversions, .ref blines, .ref bsteps, .ref bsayings, .ref bfindings, .ref bwarnings, .ref bquestions, .int td, .int vd, .int vl, .int gp])), (blines, .inr (8, [.int 72, .int 7, .ref blinesc, .int (nI vkb)])), (blinesc, .inl (G.2.1, 504, .inl f13936)), (bsteps, .inr (8, [.int 960, .int 1, .ref bstepsc, .int (nI kbsteps)])), (bstepsc, .inl (G.2.1, 960, .inl fbsteps)), (bversions, .inr (8, [.int 8, .int 3, .ref bversionsc, .int (nI (kbversions + 1))])), (bversionsc, .inl (G.2.1, 24, .inl f13806))]) [0, 1, 2, 3, 4, 5, 10, 11, 6, 7, 8, 9] (by decide) rfl
        exact ihP (kP + 1) f13936 vkb _ _ _ (by omega) (by first | assumption | exact Or.inl rfl | exact Or.inr rfl | omega) hP hD hS (lv_sub hl [0, 3, 4, 5, 6] rfl)
  exact keyP kln 0 fblines kblines _ _ _ (by omega) (by first | assumption | exact Or.inl rfl | exact Or.inr rfl | omega) hP hD hS (lv_sub hl [0, 1, 2, 3, 4] rfl)
set_option maxHeartbeats 4000000 in
set_option maxRecDepth 100000 in
theorem p_read (l : Launch) (G : GG) (K : OO) (h0 : Nat) (bb : Nat) (kk : Nat) (ikp : Int32) (sg : Nat) (do9 : Nat) (ru9 : Nat) (ta9 : Nat) (tp9 : Nat) (ro9 : Nat) (ho9 : Nat) (de9 : Nat) (tby : Nat) (kt : Nat) (tln : Nat) (tsp : Nat) (tkd : Int32) (ks : Nat) (kn : Nat) (tf9 : Int32) (fby : Nat → Int32) (tlnc : Nat) (kln : Nat) (ftln : Nat → Int32) (tspc : Nat) (ksp : Nat) (ftsp : Nat → Int32) (bpersons : Nat) (bpapers : Nat) (bstamps : Nat) (bversions : Nat) (blines : Nat) (bsteps : Nat) (bsayings : Nat) (bfindings : Nat) (bwarnings : Nat) (bquestions : Nat) (td : Int32) (vd : Int32) (vl : Int32) (gp : Int32) (bversionsc : Nat) (kbversions : Nat) (fbversions : Nat → Int32) (blinesc : Nat) (kblines : Nat) (fblines : Nat → Int32) (bstepsc : Nat) (kbsteps : Nat) (fbsteps : Nat → Int32) (hkt : kt ≤ 240) (hks : ks ≤ 240) (hkn : kn ≤ 240) (hkln : kln ≤ 9) (hksp : ksp ≤ 120) (hkbversions : kbversions ≤ 8) (hkblines : kblines ≤ 72) (hkbsteps : kbsteps ≤ 960) : MIo l G K yX11_read cX11_read 2 (some .int) 33 0 0 [.ref h0] [(h0, .inr (11, [.ref bb, .ref kk, .int ikp, .ref sg, .ref do9, .ref ru9, .ref ta9, .ref tp9, .ref ro9, .ref ho9, .ref de9])), (tp9, .inr (10, [.ref tby, .int (nI kt), .ref tln, .ref tsp, .int tkd, .int (nI ks), .int (nI kn), .int tf9])), (tby, .inl (G.2.1, 240, .inl fby)), (tln, .inr (8, [.int 9, .int 7, .ref tlnc, .int (nI kln)])), (tlnc, .inl (G.2.1, 63, .inl ftln)), (tsp, .inr (8, [.int 120, .int 1, .ref tspc, .int (nI ksp)])), (tspc, .inl (G.2.1, 120, .inl ftsp)), (bb, .inr (0, [.ref bpersons, .ref bpapers, .ref bstamps, .ref bversions, .ref blines, .ref bsteps, .ref bsayings, .ref bfindings, .ref bwarnings, .ref bquestions, .int td, .int vd, .int vl, .int gp])), (bversions, .inr (8, [.int 8, .int 3, .ref bversionsc, .int (nI kbversions)])), (bversionsc, .inl (G.2.1, 24, .inl fbversions)), (blines, .inr (8, [.int 72, .int 7, .ref blinesc, .int (nI kblines)])), (blinesc, .inl (G.2.1, 504, .inl fblines)), (bsteps, .inr (8, [.int 960, .int 1, .ref bstepsc, .int (nI kbsteps)])), (bstepsc, .inl (G.2.1, 960, .inl fbsteps))] (fun (r : Int32) (u : Int32 × Nat × Nat × Int32 × Nat × (Nat → Int32) × Nat × (Nat → Int32) × Nat × Nat × Nat × Nat × (Nat → Int32) × (Nat → Int32) × (Nat → Int32)) => (True) ∧ (u.2.1 ≤ 240 ∧ u.2.2.1 ≤ 240 ∧ u.2.2.2.2.1 ≤ 9 ∧ u.2.2.2.2.2.2.1 ≤ 120 ∧ u.2.2.2.2.2.2.2.2.1 ≤ 240 ∧ u.2.2.2.2.2.2.2.2.2.1 ≤ 8 ∧ u.2.2.2.2.2.2.2.2.2.2.1 ≤ 72 ∧ u.2.2.2.2.2.2.2.2.2.2.2.1 ≤ 960)) (fun u : Int32 × Nat × Nat × Int32 × Nat × (Nat → Int32) × Nat × (Nat → Int32) × Nat × Nat × Nat × Nat × (Nat → Int32) × (Nat → Int32) × (Nat → Int32) => [(h0, .inr (11, [.ref bb, .ref kk, .int ikp, .ref sg, .ref do9, .ref ru9, .ref ta9, .ref tp9, .ref ro9, .ref ho9, .ref de9])), (tp9, .inr (10, [.ref tby, .int (nI u.2.2.2.2.2.2.2.2.1), .ref tln, .ref tsp, .int u.1, .int (nI u.2.1), .int (nI u.2.2.1), .int u.2.2.2.1])), (tby, .inl (G.2.1, 240, .inl fby)), (tln, .inr (8, [.int 9, .int 7, .ref tlnc, .int (nI u.2.2.2.2.1)])), (tlnc, .inl (G.2.1, 63, .inl u.2.2.2.2.2.1)), (tsp, .inr (8, [.int 120, .int 1, .ref tspc, .int (nI u.2.2.2.2.2.2.1)])), (tspc, .inl (G.2.1, 120, .inl u.2.2.2.2.2.2.2.1)), (bb, .inr (0, [.ref bpersons, .ref bpapers, .ref bstamps, .ref bversions, .ref blines, .ref bsteps, .ref bsayings, .ref bfindings, .ref bwarnings, .ref bquestions, .int td, .int vd, .int vl, .int gp])), (bversions, .inr (8, [.int 8, .int 3, .ref bversionsc, .int (nI u.2.2.2.2.2.2.2.2.2.1)])), (bversionsc, .inl (G.2.1, 24, .inl u.2.2.2.2.2.2.2.2.2.2.2.2.1)), (blines, .inr (8, [.int 72, .int 7, .ref blinesc, .int (nI u.2.2.2.2.2.2.2.2.2.2.1)])), (blinesc, .inl (G.2.1, 504, .inl u.2.2.2.2.2.2.2.2.2.2.2.2.2.1)), (bsteps, .inr (8, [.int 960, .int 1, .ref bstepsc, .int (nI u.2.2.2.2.2.2.2.2.2.2.2.1)])), (bstepsc, .inl (G.2.1, 960, .inl u.2.2.2.2.2.2.2.2.2.2.2.2.2.2))]) := by
  refine MIo.start (by decide +kernel) (Nat.le_of_ble_eq_true rfl) ?_
  intro p e s m below meth c A ls hC hK hP hD hS hA hl hO
  have hl : lv_has ls 2 [(0, .ref h0)] := hl
  obtain ⟨hx, hb, hr, hml, hB, hown, hlocks, hnm⟩ := id hC
  refine lv_aload_n hx hb dX11_read_0 rfl (lv_at hl 0 rfl) ?_
  refine gf_X11_58 hC rfl hK hP 0 rfl rfl dX11_read_1 ?_
  refine iVo (wr := [(h0, .inr (11, [.ref bb, .ref kk, .int ikp, .ref sg, .ref do9, .ref ru9, .ref ta9, .ref tp9, .ref ro9, .ref ho9, .ref de9])), (bb, .inr (0, [.ref bpersons, .ref bpapers, .ref bstamps, .ref bversions, .ref blines, .ref bsteps, .ref bsayings, .ref bfindings, .ref bwarnings, .ref bquestions, .int td, .int vd, .int vl, .int gp])), (bversions, .inr (8, [.int 8, .int 3, .ref bversionsc, .int (nI kbversions)])), (bversionsc, .inl (G.2.1, 24, .inl fbversions)), (blines, .inr (8, [.int 72, .int 7, .ref blinesc, .int (nI kblines)])), (blinesc, .inl (G.2.1, 504, .inl fblines)), (bsteps, .inr (8, [.int 960, .int 1, .ref bstepsc, .int (nI kbsteps)])), (bstepsc, .inl (G.2.1, 960, .inl fbsteps))]) hO hC hK hl hP hD hS hA (t_scan l G K tp9 tby kt tln tsp tkd ks kn tf9 fby tlnc kln ftln tspc ksp ftsp (by omega) (by omega) (by omega) (by omega) (by omega)) si_X11_227 [1, 2, 3, 4, 5, 6] [0, 7, 8, 9, 10, 11, 12, 13] rfl rfl (by decide) rfl (by decide) (by decide) rfl rfl rfl rfl rfl (Nat.le_of_ble_eq_true rfl) ⟨Nat.le_of_ble_eq_true rfl, Nat.le_of_ble_eq_true rfl⟩ ⟨Nat.le_of_ble_eq_true rfl, Nat.le_of_ble_eq_true rfl⟩ dX11_read_4 (fun r3938 u3939 H locs hr3938 hP hD hS => ?_)
  obtain ⟨kd13940, ks13941, kn13942, tf13943, kln13944, gtln3945, ksp13946, gtsp3947⟩ := u3939
  try dsimp only at hr3938
  have hP : va_P G.1 vwCl [(h0, .inr (11, [.ref bb, .ref kk, .int ikp, .ref sg, .ref do9, .ref ru9, .ref ta9, .ref tp9, .ref ro9, .ref ho9, .ref de9])), (bb, .inr (0, [.ref bpersons, .ref bpapers, .ref bstamps, .ref bversions, .ref blines, .ref bsteps, .ref bsayings, .ref bfindings, .ref bwarnings, .ref bquestions, .int td, .int vd, .int vl, .int gp])), (bversions, .inr (8, [.int 8, .int 3, .ref bversionsc, .int (nI kbversions)])), (bversionsc, .inl (G.2.1, 24, .inl fbversions)), (blines, .inr (8, [.int 72, .int 7, .ref blinesc, .int (nI kblines)])), (blinesc, .inl (G.2.1, 504, .inl fblines)), (bsteps, .inr (8, [.int 960, .int 1, .ref bstepsc, .int (nI kbsteps)])), (bstepsc, .inl (G.2.1, 960, .inl fbsteps)), (tp9, .inr (10, [.ref tby, .int (nI kt), .ref tln, .ref tsp, .int kd13940, .int (nI ks13941), .int (nI kn13942), .int tf13943])), (tby, .inl (G.2.1, 240, .inl fby)), (tln, .inr (8, [.int 9, .int 7, .ref tlnc, .int (nI kln13944)])), (tlnc, .inl (G.2.1, 63, .inl gtln3945)), (tsp, .inr (8, [.int 120, .int 1, .ref tspc, .int (nI ksp13946)])), (tspc, .inl (G.2.1, 120, .inl gtsp3947))] H := hP
  have hD : va_D A [(h0, .inr (11, [.ref bb, .ref kk, .int ikp, .ref sg, .ref do9, .ref ru9, .ref ta9, .ref tp9, .ref ro9, .ref ho9, .ref de9])), (bb, .inr (0, [.ref bpersons, .ref bpapers, .ref bstamps, .ref bversions, .ref blines, .ref bsteps, .ref bsayings, .ref bfindings, .ref bwarnings, .ref bquestions, .int td, .int vd, .int vl, .int gp])), (bversions, .inr (8, [.int 8, .int 3, .ref bversionsc, .int (nI kbversions)])), (bversionsc, .inl (G.2.1, 24, .inl fbversions)), (blines, .inr (8, [.int 72, .int 7, .ref blinesc, .int (nI kblines)])), (blinesc, .inl (G.2.1, 504, .inl fblines)), (bsteps, .inr (8, [.int 960, .int 1, .ref bstepsc, .int (nI kbsteps)])), (bstepsc, .inl (G.2.1, 960, .inl fbsteps)), (tp9, .inr (10, [.ref tby, .int (nI kt), .ref tln, .ref tsp, .int kd13940, .int (nI ks13941), .int (nI kn13942), .int tf13943])), (tby, .inl (G.2.1, 240, .inl fby)), (tln, .inr (8, [.int 9, .int 7, .ref tlnc, .int (nI kln13944)])), (tlnc, .inl (G.2.1, 63, .inl gtln3945)), (tsp, .inr (8, [.int 120, .int 1, .ref tspc, .int (nI ksp13946)])), (tspc, .inl (G.2.1, 120, .inl gtsp3947))] := hD
  obtain ⟨hr3938, w3948⟩ := hr3938
  refine lv_istore_n (lv' := [(1, .int r3938), (0, .ref h0)]) hx hb dX11_read_7 rfl hl (by decide) rfl (fun ls hl => ?_)
  refine lv_aload_n hx hb dX11_read_8 rfl (lv_at hl 1 rfl) ?_
  refine gf_X11_58 hC rfl hK hP 0 rfl rfl dX11_read_9 ?_
  refine vV (wr := [(h0, .inr (11, [.ref bb, .ref kk, .int ikp, .ref sg, .ref do9, .ref ru9, .ref ta9, .ref tp9, .ref ro9, .ref ho9, .ref de9])), (bb, .inr (0, [.ref bpersons, .ref bpapers, .ref bstamps, .ref bversions, .ref blines, .ref bsteps, .ref bsayings, .ref bfindings, .ref bwarnings, .ref bquestions, .int td, .int vd, .int vl, .int gp])), (bversions, .inr (8, [.int 8, .int 3, .ref bversionsc, .int (nI kbversions)])), (bversionsc, .inl (G.2.1, 24, .inl fbversions)), (blines, .inr (8, [.int 72, .int 7, .ref blinesc, .int (nI kblines)])), (blinesc, .inl (G.2.1, 504, .inl fblines)), (bsteps, .inr (8, [.int 960, .int 1, .ref bstepsc, .int (nI kbsteps)])), (bstepsc, .inl (G.2.1, 960, .inl fbsteps)), (tby, .inl (G.2.1, 240, .inl fby)), (tln, .inr (8, [.int 9, .int 7, .ref tlnc, .int (nI kln13944)])), (tlnc, .inl (G.2.1, 63, .inl gtln3945)), (tsp, .inr (8, [.int 120, .int 1, .ref tspc, .int (nI ksp13946)])), (tspc, .inl (G.2.1, 120, .inl gtsp3947))]) hC hK hl hP hD hS hA (t_clear l G tp9 tby kt tln tsp kd13940 (nI ks13941) (nI kn13942) tf13943) si_X11_230 [8] [0, 1, 2, 3, 4, 5, 6, 7, 9, 10, 11, 12, 13] rfl rfl (by decide) rfl (by decide) (by decide) rfl rfl rfl rfl rfl (Nat.le_of_ble_eq_true rfl) ⟨Nat.le_of_ble_eq_true rfl, Nat.le_of_ble_eq_true rfl⟩ ⟨Nat.le_of_ble_eq_true rfl, Nat.le_of_ble_eq_true rfl⟩ dX11_read_12 (fun u3950 H locs hr3949 hP hD hS => ?_)
  have hP : va_P G.1 vwCl [(h0, .inr (11, [.ref bb, .ref kk, .int ikp, .ref sg, .ref do9, .ref ru9, .ref ta9, .ref tp9, .ref ro9, .ref ho9, .ref de9])), (bb, .inr (0, [.ref bpersons, .ref bpapers, .ref bstamps, .ref bversions, .ref blines, .ref bsteps, .ref bsayings, .ref bfindings, .ref bwarnings, .ref bquestions, .int td, .int vd, .int vl, .int gp])), (bversions, .inr (8, [.int 8, .int 3, .ref bversionsc, .int (nI kbversions)])), (bversionsc, .inl (G.2.1, 24, .inl fbversions)), (blines, .inr (8, [.int 72, .int 7, .ref blinesc, .int (nI kblines)])), (blinesc, .inl (G.2.1, 504, .inl fblines)), (bsteps, .inr (8, [.int 960, .int 1, .ref bstepsc, .int (nI kbsteps)])), (bstepsc, .inl (G.2.1, 960, .inl fbsteps)), (tby, .inl (G.2.1, 240, .inl fby)), (tln, .inr (8, [.int 9, .int 7, .ref tlnc, .int (nI kln13944)])), (tlnc, .inl (G.2.1, 63, .inl gtln3945)), (tsp, .inr (8, [.int 120, .int 1, .ref tspc, .int (nI ksp13946)])), (tspc, .inl (G.2.1, 120, .inl gtsp3947)), (tp9, .inr (10, [.ref tby, .int 0, .ref tln, .ref tsp, .int kd13940, .int (nI ks13941), .int (nI kn13942), .int tf13943]))] H := hP
  have hD : va_D A [(h0, .inr (11, [.ref bb, .ref kk, .int ikp, .ref sg, .ref do9, .ref ru9, .ref ta9, .ref tp9, .ref ro9, .ref ho9, .ref de9])), (bb, .inr (0, [.ref bpersons, .ref bpapers, .ref bstamps, .ref bversions, .ref blines, .ref bsteps, .ref bsayings, .ref bfindings, .ref bwarnings, .ref bquestions, .int td, .int vd, .int vl, .int gp])), (bversions, .inr (8, [.int 8, .int 3, .ref bversionsc, .int (nI kbversions)])), (bversionsc, .inl (G.2.1, 24, .inl fbversions)), (blines, .inr (8, [.int 72, .int 7, .ref blinesc, .int (nI kblines)])), (blinesc, .inl (G.2.1, 504, .inl fblines)), (bsteps, .inr (8, [.int 960, .int 1, .ref bstepsc, .int (nI kbsteps)])), (bstepsc, .inl (G.2.1, 960, .inl fbsteps)), (tby, .inl (G.2.1, 240, .inl fby)), (tln, .inr (8, [.int 9, .int 7, .ref tlnc, .int (nI kln13944)])), (tlnc, .inl (G.2.1, 63, .inl gtln3945)), (tsp, .inr (8, [.int 120, .int 1, .ref tspc, .int (nI ksp13946)])), (tspc, .inl (G.2.1, 120, .inl gtsp3947)), (tp9, .inr (10, [.ref tby, .int 0, .ref tln, .ref tsp, .int kd13940, .int (nI ks13941), .int (nI kn13942), .int tf13943]))] := hD
  refine lv_iload_n hx hb dX11_read_15 rfl (lv_at hl 0 rfl) ?_
  refine lv_if_lt (tgt := 24) hx hb dX11_read_16 (by decide) (fun c_16_3951 => ?_) (fun c_16_3951 => ?_)
  · refine lv_aload_n hx hb dX11_read_24 rfl (lv_at hl 1 rfl) ?_
    refine gf_X11_15 hC rfl hK hP 0 rfl rfl dX11_read_25 ?_
    refine gf_X11_233 hC rfl hK hP 1 rfl rfl dX11_read_28 ?_
    refine pV hC hK hl hP hD (c_T_isFull l G bversions 8 3 bversionsc kbversions (by omega) (by omega)) si_X11_111 [2] rfl rfl (by decide) rfl rfl rfl rfl rfl (Nat.le_of_ble_eq_true rfl) ⟨Nat.le_of_ble_eq_true rfl, Nat.le_of_ble_eq_true rfl⟩ ⟨by first | exact Nat.le_of_ble_eq_true rfl | exact Nat.zero_le _, by first | exact Nat.le_of_ble_eq_true rfl | exact Nat.zero_le _⟩ dX11_read_31 (fun r3952 hr3952 => ?_)
    rcases hr3952 with ⟨rfl, a3953⟩ | ⟨rfl, a3953⟩
    · refine lv_if_eq (tgt := 40) hx hb dX11_read_34 (by decide) (fun c9 => absurd c9 (by decide)) (fun _ => ?_)
      refine lv_bipush (v := (-2)) hx hb dX11_read_37 (by decide) ?_
      exact RI (v := (-2)) hC hP hD hS [0, 13, 8, 9, 10, 11, 12, 1, 2, 3, 4, 5, 6, 7] (kd13940, ks13941, kn13942, tf13943, kln13944, gtln3945, ksp13946, gtsp3947, 0, kbversions, kblines, kbsteps, fbversions, fblines, fbsteps) rfl rfl (by decide) (⟨trivial, by dsimp only; omega⟩) rfl dX11_read_39
    · refine lv_if_eq (tgt := 40) hx hb dX11_read_34 (by decide) (fun _ => ?_) (fun c9 => absurd (by decide) c9)
      refine lv_aload_n hx hb dX11_read_40 rfl (lv_at hl 1 rfl) ?_
      refine gf_X11_58 hC rfl hK hP 0 rfl rfl dX11_read_41 ?_
      refine lv_aload_n hx hb dX11_read_44 rfl (lv_at hl 1 rfl) ?_
      refine gf_X11_15 hC rfl hK hP 0 rfl rfl dX11_read_45 ?_
      refine iV (wr := [(h0, .inr (11, [.ref bb, .ref kk, .int ikp, .ref sg, .ref do9, .ref ru9, .ref ta9, .ref tp9, .ref ro9, .ref ho9, .ref de9])), (tby, .inl (G.2.1, 240, .inl fby))]) hC hK hl hP hD hS hA (t_store l G tp9 bb tby 0 tln tsp kd13940 (nI ks13941) (nI kn13942) tf13943 tlnc kln13944 gtln3945 tspc ksp13946 gtsp3947 bpersons bpapers bstamps bversions blines bsteps bsayings bfindings bwarnings bquestions td vd vl gp bversionsc kbversions fbversions blinesc kblines fblines bstepsc kbsteps fbsteps (by omega) (by omega) (by omega) (by omega) (by omega)) si_X11_236 [13, 9, 10, 11, 12, 1, 2, 3, 4, 5, 6, 7] [0, 8] rfl rfl (by decide) rfl (by decide) (by decide) rfl rfl rfl rfl rfl (Nat.le_of_ble_eq_true rfl) ⟨Nat.le_of_ble_eq_true rfl, Nat.le_of_ble_eq_true rfl⟩ ⟨Nat.le_of_ble_eq_true rfl, Nat.le_of_ble_eq_true rfl⟩ dX11_read_48 (fun r3954 u3955 H locs hr3954 hP hD hS => ?_)
      obtain ⟨kv13956, kl13957, kp13958, gversions3959, glines3960, gsteps3961⟩ := u3955
      try dsimp only at hr3954
      have hP : va_P G.1 vwCl [(h0, .inr (11, [.ref bb, .ref kk, .int ikp, .ref sg, .ref do9, .ref ru9, .ref ta9, .ref tp9, .ref ro9, .ref ho9, .ref de9])), (tby, .inl (G.2.1, 240, .inl fby)), (tp9, .inr (10, [.ref tby, .int 0, .ref tln, .ref tsp, .int kd13940, .int (nI ks13941), .int (nI kn13942), .int tf13943])), (tln, .inr (8, [.int 9, .int 7, .ref tlnc, .int (nI kln13944)])), (tlnc, .inl (G.2.1, 63, .inl gtln3945)), (tsp, .inr (8, [.int 120, .int 1, .ref tspc, .int (nI ksp13946)])), (tspc, .inl (G.2.1, 120, .inl gtsp3947)), (bb, .inr (0, [.ref bpersons, .ref bpapers, .ref bstamps, .ref bversions, .ref blines, .ref bsteps, .ref bsayings, .ref bfindings, .ref bwarnings, .ref bquestions, .int td, .int vd, .int vl, .int gp])), (bversions, .inr (8, [.int 8, .int 3, .ref bversionsc, .int (nI kv13956)])), (bversionsc, .inl (G.2.1, 24, .inl gversions3959)), (blines, .inr (8, [.int 72, .int 7, .ref blinesc, .int (nI kl13957)])), (blinesc, .inl (G.2.1, 504, .inl glines3960)), (bsteps, .inr (8, [.int 960, .int 1, .ref bstepsc, .int (nI kp13958)])), (bstepsc, .inl (G.2.1, 960, .inl gsteps3961))] H := hP
      have hD : va_D A [(h0, .inr (11, [.ref bb, .ref kk, .int ikp, .ref sg, .ref do9, .ref ru9, .ref ta9, .ref tp9, .ref ro9, .ref ho9, .ref de9])), (tby, .inl (G.2.1, 240, .inl fby)), (tp9, .inr (10, [.ref tby, .int 0, .ref tln, .ref tsp, .int kd13940, .int (nI ks13941), .int (nI kn13942), .int tf13943])), (tln, .inr (8, [.int 9, .int 7, .ref tlnc, .int (nI kln13944)])), (tlnc, .inl (G.2.1, 63, .inl gtln3945)), (tsp, .inr (8, [.int 120, .int 1, .ref tspc, .int (nI ksp13946)])), (tspc, .inl (G.2.1, 120, .inl gtsp3947)), (bb, .inr (0, [.ref bpersons, .ref bpapers, .ref bstamps, .ref bversions, .ref blines, .ref bsteps, .ref bsayings, .ref bfindings, .ref bwarnings, .ref bquestions, .int td, .int vd, .int vl, .int gp])), (bversions, .inr (8, [.int 8, .int 3, .ref bversionsc, .int (nI kv13956)])), (bversionsc, .inl (G.2.1, 24, .inl gversions3959)), (blines, .inr (8, [.int 72, .int 7, .ref blinesc, .int (nI kl13957)])), (blinesc, .inl (G.2.1, 504, .inl glines3960)), (bsteps, .inr (8, [.int 960, .int 1, .ref bstepsc, .int (nI kp13958)])), (bstepsc, .inl (G.2.1, 960, .inl gsteps3961))] := hD
      obtain ⟨hr3954, w3962⟩ := hr3954
      exact RI (v := r3954) hC hP hD hS [0, 2, 1, 3, 4, 5, 6, 7, 8, 9, 10, 11, 12, 13] (kd13940, ks13941, kn13942, tf13943, kln13944, gtln3945, ksp13946, gtsp3947, 0, kv13956, kl13957, kp13958, gversions3959, glines3960, gsteps3961) rfl rfl (by decide) (⟨trivial, by dsimp only; omega⟩) rfl dX11_read_51
  · refine lv_bipush (v := (-100)) hx hb dX11_read_19 (by decide) ?_
    refine lv_iload_n hx hb dX11_read_21 rfl (lv_at hl 0 rfl) ?_
    refine lv_isub hx hb dX11_read_22 ?_
    exact RI (v := (-100) - r3938) hC hP hD hS [0, 13, 8, 9, 10, 11, 12, 1, 2, 3, 4, 5, 6, 7] (kd13940, ks13941, kn13942, tf13943, kln13944, gtln3945, ksp13946, gtsp3947, 0, kbversions, kblines, kbsteps, fbversions, fblines, fbsteps) rfl rfl (by decide) (⟨trivial, by dsimp only; omega⟩) rfl dX11_read_23
