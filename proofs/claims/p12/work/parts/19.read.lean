section WR
variable {p : Program} {l : Launch} {e : Env} {R : Room} {s : State} {m : MethodId} {args : Array Value} {below : List Frame} {meth : Method} {c : Code} {H : Heap} {locs : List Loc} {cells slots : Nat} {Q : State → Prop}
variable {pc : Nat} {ls : Array Slot} {rest : List Value} {G : GG} {ws : va_W} {A : Nat → Prop} {y0 : MethodName} {b0 : ByteArray} {mL0 : Nat} {rt0 : Option FieldType} {a : Nat} {H0 : Heap}
theorem gX10_takesHead_0 : (decode cX10_takesHead 0 = .ok (.iload_n 2, 1)) ∧ (decode cX10_takesHead 1 = .ok (.tableswitch 131 0 2 #[27, 84, 93], 27)) ∧ (decode cX10_takesHead 28 = .ok (.aload_n 0, 1)) ∧ (decode cX10_takesHead 29 = .ok (.iload_n 1, 1)) ∧ (decode cX10_takesHead 30 = .ok (.iconst 1, 1)) ∧ (decode cX10_takesHead 31 = .ok (.bipush 99, 2)) ∧ (decode cX10_takesHead 33 = .ok (.invokevirtual 135, 3)) ∧ (decode cX10_takesHead 36 = .ok (.ifCond .eq 47, 3)) ∧ (decode cX10_takesHead 39 = .ok (.aload_n 0, 1)) ∧ (decode cX10_takesHead 40 = .ok (.ldc 138, 2)) := by decide +kernel
theorem m_699 : Cond.code yX10_takesNumber cX10_takesNumber 5 (some .boolean) ∈ BW := iB_BW37 _ (List.mem_of_getElem? (i := 19) rfl)
theorem m_697 : Cond.methodLink RX10 135 yX10_takesNumber ∈ BW := iB_BW37 _ (List.mem_of_getElem? (i := 17) rfl)
theorem m_698 : Cond.instanceMethod yX10_takesNumber ∈ BW := iB_BW37 _ (List.mem_of_getElem? (i := 18) rfl)
theorem m_21 : Cond.selects RX10 yX10_takesNumber yX10_takesNumber ∈ BW := iB_BW1 _ (List.mem_of_getElem? (i := 1) rfl)
theorem si_X10_135 : SV RX10 RX10 135 yX10_takesNumber cX10_takesNumber 5 (some .boolean) 3 := ⟨⟨m_697, m_698, m_21, m_111, m_699⟩, rfl, nK_RX10.1, nK_RX10.2, pd_0⟩
theorem gX10_takesHead_1 : (decode cX10_takesHead 42 = .ok (.invokevirtual 140, 3)) ∧ (decode cX10_takesHead 45 = .ok (.ifCond .eq 38, 3)) ∧ (decode cX10_takesHead 48 = .ok (.aload_n 0, 1)) ∧ (decode cX10_takesHead 49 = .ok (.iload_n 1, 1)) ∧ (decode cX10_takesHead 50 = .ok (.iconst 2, 1)) ∧ (decode cX10_takesHead 51 = .ok (.bipush 7, 2)) ∧ (decode cX10_takesHead 53 = .ok (.invokevirtual 135, 3)) ∧ (decode cX10_takesHead 56 = .ok (.ifCond .eq 27, 3)) ∧ (decode cX10_takesHead 59 = .ok (.aload_n 0, 1)) ∧ (decode cX10_takesHead 60 = .ok (.ldc 143, 2)) := by decide +kernel
theorem m_705 : Cond.code yX10_takesName cX10_takesName 2 (some .boolean) ∈ BW := iB_BW38 _ (List.mem_of_getElem? (i := 5) rfl)
theorem m_703 : Cond.methodLink RX10 140 yX10_takesName ∈ BW := iB_BW38 _ (List.mem_of_getElem? (i := 3) rfl)
theorem m_704 : Cond.instanceMethod yX10_takesName ∈ BW := iB_BW38 _ (List.mem_of_getElem? (i := 4) rfl)
theorem m_23 : Cond.selects RX10 yX10_takesName yX10_takesName ∈ BW := iB_BW1 _ (List.mem_of_getElem? (i := 3) rfl)
theorem si_X10_140 : SV RX10 RX10 140 yX10_takesName cX10_takesName 2 (some .boolean) 1 := ⟨⟨m_703, m_704, m_23, m_111, m_705⟩, rfl, nK_RX10.1, nK_RX10.2, pd_26⟩
theorem gX10_takesHead_2 : (decode cX10_takesHead 62 = .ok (.invokevirtual 140, 3)) ∧ (decode cX10_takesHead 65 = .ok (.ifCond .eq 18, 3)) ∧ (decode cX10_takesHead 68 = .ok (.aload_n 0, 1)) ∧ (decode cX10_takesHead 69 = .ok (.iload_n 1, 1)) ∧ (decode cX10_takesHead 70 = .ok (.iconst 3, 1)) ∧ (decode cX10_takesHead 71 = .ok (.bipush 7, 2)) ∧ (decode cX10_takesHead 73 = .ok (.invokevirtual 135, 3)) ∧ (decode cX10_takesHead 76 = .ok (.ifCond .eq 7, 3)) ∧ (decode cX10_takesHead 79 = .ok (.iconst 1, 1)) ∧ (decode cX10_takesHead 80 = .ok (.goto 4, 3)) := by decide +kernel
theorem gX10_takesHead_3 : (decode cX10_takesHead 83 = .ok (.iconst 0, 1)) ∧ (decode cX10_takesHead 84 = .ok (.ireturn, 1)) ∧ (decode cX10_takesHead 85 = .ok (.aload_n 0, 1)) ∧ (decode cX10_takesHead 86 = .ok (.iload_n 1, 1)) ∧ (decode cX10_takesHead 87 = .ok (.iconst 1, 1)) ∧ (decode cX10_takesHead 88 = .ok (.bipush 99, 2)) ∧ (decode cX10_takesHead 90 = .ok (.invokevirtual 135, 3)) ∧ (decode cX10_takesHead 93 = .ok (.ireturn, 1)) ∧ (decode cX10_takesHead 94 = .ok (.aload_n 0, 1)) ∧ (decode cX10_takesHead 95 = .ok (.iload_n 1, 1)) := by decide +kernel
theorem gX10_takesHead_4 : (decode cX10_takesHead 96 = .ok (.iconst 1, 1)) ∧ (decode cX10_takesHead 97 = .ok (.bipush 7, 2)) ∧ (decode cX10_takesHead 99 = .ok (.invokevirtual 135, 3)) ∧ (decode cX10_takesHead 102 = .ok (.ifCond .eq 28, 3)) ∧ (decode cX10_takesHead 105 = .ok (.aload_n 0, 1)) ∧ (decode cX10_takesHead 106 = .ok (.ldc 145, 2)) ∧ (decode cX10_takesHead 108 = .ok (.invokevirtual 140, 3)) ∧ (decode cX10_takesHead 111 = .ok (.ifCond .eq 19, 3)) ∧ (decode cX10_takesHead 114 = .ok (.aload_n 0, 1)) ∧ (decode cX10_takesHead 115 = .ok (.iload_n 1, 1)) := by decide +kernel
theorem gX10_takesHead_5 : (decode cX10_takesHead 116 = .ok (.iconst 2, 1)) ∧ (decode cX10_takesHead 117 = .ok (.sipush 999, 3)) ∧ (decode cX10_takesHead 120 = .ok (.invokevirtual 135, 3)) ∧ (decode cX10_takesHead 123 = .ok (.ifCond .eq 7, 3)) ∧ (decode cX10_takesHead 126 = .ok (.iconst 1, 1)) ∧ (decode cX10_takesHead 127 = .ok (.goto 4, 3)) ∧ (decode cX10_takesHead 130 = .ok (.iconst 0, 1)) ∧ (decode cX10_takesHead 131 = .ok (.ireturn, 1)) ∧ (decode cX10_takesHead 132 = .ok (.aload_n 0, 1)) ∧ (decode cX10_takesHead 133 = .ok (.iload_n 1, 1)) := by decide +kernel
theorem sw_0_2 {x : Int32} : ¬ x = 0 → ¬ x = 1 → ¬ x = 2 →  (x.toInt < 0 ∨ 2 < x.toInt) := by
  intros
  simp only [← Int32.toInt_inj] at *
  have hk : ∀ k : Int, x.toInt = k → x.toInt = k := fun _ h => h
  have k0 : (0 : Int32).toInt = 0 := by decide
  have k1 : (1 : Int32).toInt = 1 := by decide
  have k2 : (2 : Int32).toInt = 2 := by decide
  omega
theorem gX10_takesHead_6 : (decode cX10_takesHead 134 = .ok (.iconst 1, 1)) ∧ (decode cX10_takesHead 135 = .ok (.bipush 9, 2)) ∧ (decode cX10_takesHead 137 = .ok (.invokevirtual 135, 3)) ∧ (decode cX10_takesHead 140 = .ok (.ireturn, 1)) := by decide +kernel
theorem gX10_takesLine_0 : (decode cX10_takesLine 0 = .ok (.aload_n 0, 1)) ∧ (decode cX10_takesLine 1 = .ok (.getfield 20, 3)) ∧ (decode cX10_takesLine 4 = .ok (.invokevirtual 59, 3)) ∧ (decode cX10_takesLine 7 = .ok (.istore_n 1, 1)) ∧ (decode cX10_takesLine 8 = .ok (.iload_n 1, 1)) ∧ (decode cX10_takesLine 9 = .ok (.ifCond .ge 8, 3)) ∧ (decode cX10_takesLine 12 = .ok (.aload_n 0, 1)) ∧ (decode cX10_takesLine 13 = .ok (.invokevirtual 106, 3)) ∧ (decode cX10_takesLine 16 = .ok (.ireturn, 1)) ∧ (decode cX10_takesLine 17 = .ok (.iconst 1, 1)) := by decide +kernel
theorem gX10_takesLine_1 : (decode cX10_takesLine 18 = .ok (.istore_n 2, 1)) ∧ (decode cX10_takesLine 19 = .ok (.iload_n 2, 1)) ∧ (decode cX10_takesLine 20 = .ok (.iconst 3, 1)) ∧ (decode cX10_takesLine 21 = .ok (.if_icmp .gt 20, 3)) ∧ (decode cX10_takesLine 24 = .ok (.aload_n 0, 1)) ∧ (decode cX10_takesLine 25 = .ok (.getfield 20, 3)) ∧ (decode cX10_takesLine 28 = .ok (.iload_n 1, 1)) ∧ (decode cX10_takesLine 29 = .ok (.iload_n 2, 1)) ∧ (decode cX10_takesLine 30 = .ok (.bipush (-9), 2)) ∧ (decode cX10_takesLine 32 = .ok (.invokevirtual 66, 3)) := by decide +kernel
theorem gX10_takesLine_2 : (decode cX10_takesLine 35 = .ok (.iinc 2 1, 3)) ∧ (decode cX10_takesLine 38 = .ok (.goto (-19), 3)) ∧ (decode cX10_takesLine 41 = .ok (.aload_n 0, 1)) ∧ (decode cX10_takesLine 42 = .ok (.getfield 20, 3)) ∧ (decode cX10_takesLine 45 = .ok (.iload_n 1, 1)) ∧ (decode cX10_takesLine 46 = .ok (.iconst 4, 1)) ∧ (decode cX10_takesLine 47 = .ok (.iconst 0, 1)) ∧ (decode cX10_takesLine 48 = .ok (.invokevirtual 66, 3)) ∧ (decode cX10_takesLine 51 = .ok (.aload_n 0, 1)) ∧ (decode cX10_takesLine 52 = .ok (.getfield 20, 3)) := by decide +kernel
theorem gX10_takesLine_3 : (decode cX10_takesLine 55 = .ok (.iload_n 1, 1)) ∧ (decode cX10_takesLine 56 = .ok (.iconst 5, 1)) ∧ (decode cX10_takesLine 57 = .ok (.aload_n 0, 1)) ∧ (decode cX10_takesLine 58 = .ok (.getfield 24, 3)) ∧ (decode cX10_takesLine 61 = .ok (.invokevirtual 71, 3)) ∧ (decode cX10_takesLine 64 = .ok (.invokevirtual 66, 3)) ∧ (decode cX10_takesLine 67 = .ok (.aload_n 0, 1)) ∧ (decode cX10_takesLine 68 = .ok (.getfield 20, 3)) ∧ (decode cX10_takesLine 71 = .ok (.iload_n 1, 1)) ∧ (decode cX10_takesLine 72 = .ok (.bipush 6, 2)) := by decide +kernel
theorem m_644 : Cond.methodLink RX10 71 yX8_count ∈ BW := iB_BW35 _ (List.mem_of_getElem? (i := 4) rfl)
theorem si_X10_71 : SV RX10 RX8 71 yX8_count cX8_count 1 (some .int) 0 := ⟨⟨m_644, m_308, m_309, m_104, m_310⟩, rfl, nK_RX8.1, nK_RX8.2, pd_1⟩
theorem gX10_takesLine_4 : (decode cX10_takesLine 74 = .ok (.iconst 0, 1)) ∧ (decode cX10_takesLine 75 = .ok (.invokevirtual 66, 3)) ∧ (decode cX10_takesLine 78 = .ok (.aload_n 0, 1)) ∧ (decode cX10_takesLine 79 = .ok (.invokevirtual 112, 3)) ∧ (decode cX10_takesLine 82 = .ok (.istore_n 2, 1)) ∧ (decode cX10_takesLine 83 = .ok (.iload_n 2, 1)) ∧ (decode cX10_takesLine 84 = .ok (.ifCond .ge 8, 3)) ∧ (decode cX10_takesLine 87 = .ok (.aload_n 0, 1)) ∧ (decode cX10_takesLine 88 = .ok (.invokevirtual 106, 3)) ∧ (decode cX10_takesLine 91 = .ok (.ireturn, 1)) := by decide +kernel
theorem m_647 : Cond.code yX10_sortHere cX10_sortHere 1 (some .int) ∈ BW := iB_BW35 _ (List.mem_of_getElem? (i := 7) rfl)
theorem m_645 : Cond.methodLink RX10 112 yX10_sortHere ∈ BW := iB_BW35 _ (List.mem_of_getElem? (i := 5) rfl)
theorem m_646 : Cond.instanceMethod yX10_sortHere ∈ BW := iB_BW35 _ (List.mem_of_getElem? (i := 6) rfl)
theorem m_18 : Cond.selects RX10 yX10_sortHere yX10_sortHere ∈ BW := iB_BW0 _ (List.mem_of_getElem? (i := 18) rfl)
theorem si_X10_112 : SV RX10 RX10 112 yX10_sortHere cX10_sortHere 1 (some .int) 0 := ⟨⟨m_645, m_646, m_18, m_111, m_647⟩, rfl, nK_RX10.1, nK_RX10.2, pd_1⟩
theorem gX10_takesLine_5 : (decode cX10_takesLine 92 = .ok (.aload_n 0, 1)) ∧ (decode cX10_takesLine 93 = .ok (.getfield 20, 3)) ∧ (decode cX10_takesLine 96 = .ok (.iload_n 1, 1)) ∧ (decode cX10_takesLine 97 = .ok (.iconst 0, 1)) ∧ (decode cX10_takesLine 98 = .ok (.iload_n 2, 1)) ∧ (decode cX10_takesLine 99 = .ok (.invokevirtual 66, 3)) ∧ (decode cX10_takesLine 102 = .ok (.aload_n 0, 1)) ∧ (decode cX10_takesLine 103 = .ok (.invokevirtual 47, 3)) ∧ (decode cX10_takesLine 106 = .ok (.aload_n 0, 1)) ∧ (decode cX10_takesLine 107 = .ok (.iload_n 1, 1)) := by decide +kernel
theorem gX10_takesLine_6 : (decode cX10_takesLine 108 = .ok (.iload_n 2, 1)) ∧ (decode cX10_takesLine 109 = .ok (.invokevirtual 115, 3)) ∧ (decode cX10_takesLine 112 = .ok (.ifCond .ne 5, 3)) ∧ (decode cX10_takesLine 115 = .ok (.iconst 0, 1)) ∧ (decode cX10_takesLine 116 = .ok (.ireturn, 1)) ∧ (decode cX10_takesLine 117 = .ok (.iload_n 2, 1)) ∧ (decode cX10_takesLine 118 = .ok (.iconst 3, 1)) ∧ (decode cX10_takesLine 119 = .ok (.if_icmp .eq 63, 3)) ∧ (decode cX10_takesLine 122 = .ok (.aload_n 0, 1)) ∧ (decode cX10_takesLine 123 = .ok (.ldc 119, 2)) := by decide +kernel
theorem m_696 : Cond.code yX10_takesHead cX10_takesHead 3 (some .boolean) ∈ BW := iB_BW37 _ (List.mem_of_getElem? (i := 16) rfl)
theorem m_694 : Cond.methodLink RX10 115 yX10_takesHead ∈ BW := iB_BW37 _ (List.mem_of_getElem? (i := 14) rfl)
theorem m_695 : Cond.instanceMethod yX10_takesHead ∈ BW := iB_BW37 _ (List.mem_of_getElem? (i := 15) rfl)
theorem m_20 : Cond.selects RX10 yX10_takesHead yX10_takesHead ∈ BW := iB_BW1 _ (List.mem_of_getElem? (i := 0) rfl)
theorem si_X10_115 : SV RX10 RX10 115 yX10_takesHead cX10_takesHead 3 (some .boolean) 2 := ⟨⟨m_694, m_695, m_20, m_111, m_696⟩, rfl, nK_RX10.1, nK_RX10.2, pd_3⟩
theorem gX10_takesLine_10 : (decode cX10_takesLine 182 = .ok (.aload_n 0, 1)) ∧ (decode cX10_takesLine 183 = .ok (.bipush 59, 2)) ∧ (decode cX10_takesLine 185 = .ok (.invokevirtual 124, 3)) ∧ (decode cX10_takesLine 188 = .ok (.ireturn, 1)) := by decide +kernel
theorem gX10_takesLine_7 : (decode cX10_takesLine 125 = .ok (.invokevirtual 102, 3)) ∧ (decode cX10_takesLine 128 = .ok (.ifCond .eq 54, 3)) ∧ (decode cX10_takesLine 131 = .ok (.aload_n 0, 1)) ∧ (decode cX10_takesLine 132 = .ok (.invokevirtual 47, 3)) ∧ (decode cX10_takesLine 135 = .ok (.aload_n 0, 1)) ∧ (decode cX10_takesLine 136 = .ok (.getfield 20, 3)) ∧ (decode cX10_takesLine 139 = .ok (.iload_n 1, 1)) ∧ (decode cX10_takesLine 140 = .ok (.iconst 4, 1)) ∧ (decode cX10_takesLine 141 = .ok (.iconst 1, 1)) ∧ (decode cX10_takesLine 142 = .ok (.invokevirtual 66, 3)) := by decide +kernel
theorem gX10_takesLine_8 : (decode cX10_takesLine 145 = .ok (.aload_n 0, 1)) ∧ (decode cX10_takesLine 146 = .ok (.iconst 0, 1)) ∧ (decode cX10_takesLine 147 = .ok (.invokevirtual 121, 3)) ∧ (decode cX10_takesLine 150 = .ok (.ifCond .ne 5, 3)) ∧ (decode cX10_takesLine 153 = .ok (.iconst 0, 1)) ∧ (decode cX10_takesLine 154 = .ok (.ireturn, 1)) ∧ (decode cX10_takesLine 155 = .ok (.aload_n 0, 1)) ∧ (decode cX10_takesLine 156 = .ok (.getfield 20, 3)) ∧ (decode cX10_takesLine 159 = .ok (.iload_n 1, 1)) ∧ (decode cX10_takesLine 160 = .ok (.bipush 6, 2)) := by decide +kernel
theorem gX10_takesLine_9 : (decode cX10_takesLine 162 = .ok (.aload_n 0, 1)) ∧ (decode cX10_takesLine 163 = .ok (.getfield 24, 3)) ∧ (decode cX10_takesLine 166 = .ok (.invokevirtual 71, 3)) ∧ (decode cX10_takesLine 169 = .ok (.aload_n 0, 1)) ∧ (decode cX10_takesLine 170 = .ok (.getfield 20, 3)) ∧ (decode cX10_takesLine 173 = .ok (.iload_n 1, 1)) ∧ (decode cX10_takesLine 174 = .ok (.iconst 5, 1)) ∧ (decode cX10_takesLine 175 = .ok (.invokevirtual 74, 3)) ∧ (decode cX10_takesLine 178 = .ok (.isub, 1)) ∧ (decode cX10_takesLine 179 = .ok (.invokevirtual 66, 3)) := by decide +kernel
theorem m_730 : Cond.methodLink RX10 74 yX8_at ∈ BW := iB_BW39 _ (List.mem_of_getElem? (i := 10) rfl)
theorem si_X10_74 : SV RX10 RX8 74 yX8_at cX8_at 3 (some .int) 2 := ⟨⟨m_730, m_312, m_313, m_104, m_314⟩, rfl, nK_RX8.1, nK_RX8.2, pd_2⟩
theorem gX10_scan_0 : (decode cX10_scan 0 = .ok (.aload_n 0, 1)) ∧ (decode cX10_scan 1 = .ok (.getfield 20, 3)) ∧ (decode cX10_scan 4 = .ok (.iconst 0, 1)) ∧ (decode cX10_scan 5 = .ok (.invokevirtual 43, 3)) ∧ (decode cX10_scan 8 = .ok (.aload_n 0, 1)) ∧ (decode cX10_scan 9 = .ok (.getfield 24, 3)) ∧ (decode cX10_scan 12 = .ok (.iconst 0, 1)) ∧ (decode cX10_scan 13 = .ok (.invokevirtual 43, 3)) ∧ (decode cX10_scan 16 = .ok (.aload_n 0, 1)) ∧ (decode cX10_scan 17 = .ok (.iconst (-1), 1)) := by decide +kernel
theorem m_620 : Cond.methodLink RX10 43 yX8_cut ∈ BW := iB_BW34 _ (List.mem_of_getElem? (i := 0) rfl)
theorem si_X10_43 : SV RX10 RX8 43 yX8_cut cX8_cut 2 none 1 := ⟨⟨m_620, m_621, m_622, m_104, m_623⟩, rfl, nK_RX8.1, nK_RX8.2, pd_18⟩
theorem gX10_scan_1 : (decode cX10_scan 18 = .ok (.putfield 40, 3)) ∧ (decode cX10_scan 21 = .ok (.aload_n 0, 1)) ∧ (decode cX10_scan 22 = .ok (.iconst 0, 1)) ∧ (decode cX10_scan 23 = .ok (.putfield 37, 3)) ∧ (decode cX10_scan 26 = .ok (.aload_n 0, 1)) ∧ (decode cX10_scan 27 = .ok (.invokevirtual 47, 3)) ∧ (decode cX10_scan 30 = .ok (.iconst 0, 1)) ∧ (decode cX10_scan 31 = .ok (.istore_n 1, 1)) ∧ (decode cX10_scan 32 = .ok (.iload_n 1, 1)) ∧ (decode cX10_scan 33 = .ok (.bipush 9, 2)) := by decide +kernel
theorem gX10_scan_2 : (decode cX10_scan 35 = .ok (.if_icmp .gt 29, 3)) ∧ (decode cX10_scan 38 = .ok (.aload_n 0, 1)) ∧ (decode cX10_scan 39 = .ok (.getfield 31, 3)) ∧ (decode cX10_scan 42 = .ok (.iconst (-1), 1)) ∧ (decode cX10_scan 43 = .ok (.if_icmp .eq 21, 3)) ∧ (decode cX10_scan 46 = .ok (.aload_n 0, 1)) ∧ (decode cX10_scan 47 = .ok (.invokevirtual 50, 3)) ∧ (decode cX10_scan 50 = .ok (.ifCond .ne 8, 3)) ∧ (decode cX10_scan 53 = .ok (.aload_n 0, 1)) ∧ (decode cX10_scan 54 = .ok (.getfield 40, 3)) := by decide +kernel
theorem gX10_scan_3 : (decode cX10_scan 57 = .ok (.ireturn, 1)) ∧ (decode cX10_scan 58 = .ok (.iinc 1 1, 3)) ∧ (decode cX10_scan 61 = .ok (.goto (-29), 3)) ∧ (decode cX10_scan 64 = .ok (.aload_n 0, 1)) ∧ (decode cX10_scan 65 = .ok (.getfield 40, 3)) ∧ (decode cX10_scan 68 = .ok (.ireturn, 1)) := by decide +kernel
theorem gf_X10_40 (hC : CX p s m meth c y0 b0 mL0 rt0 args) (hy0 : y0.cls = RX10) (hK : KK G s) (hP : va_P G.1 vwCl ws H) (q0 : Nat) {fs : List Value} {v : Value} (he : ws[q0]? = some (a, .inr (10, fs))) (hv : fs[7]? = some v) (hdg : decode b0 pc = .ok (.getfield 40, 3)) (kk : W p l e R s m args below meth c H locs cells slots Q (F0 m (pc + 3) ls (v :: rest))) : W p l e R s m args below meth c H locs cells slots Q (F0 m pc ls (.ref a :: rest)) := by
  obtain ⟨hx, hb, hr, hml, hB, hown, hlocks, hnm⟩ := hC
  rw [hy0] at hown
  exact va_get (ci := 10) (C := RX10) (T := TX10) (N := 8) hx hb hB in_X10 hown hK.1 hP q0 he rfl 7 (by decide) (hB _ m_236) (fun _ h => h) hv hdg kk
theorem m_638 : Cond.code yX10_takesLine cX10_takesLine 3 (some .boolean) ∈ BW := iB_BW34 _ (List.mem_of_getElem? (i := 18) rfl)
theorem m_636 : Cond.methodLink RX10 50 yX10_takesLine ∈ BW := iB_BW34 _ (List.mem_of_getElem? (i := 16) rfl)
theorem m_637 : Cond.instanceMethod yX10_takesLine ∈ BW := iB_BW34 _ (List.mem_of_getElem? (i := 17) rfl)
theorem m_16 : Cond.selects RX10 yX10_takesLine yX10_takesLine ∈ BW := iB_BW0 _ (List.mem_of_getElem? (i := 16) rfl)
theorem si_X10_50 : SV RX10 RX10 50 yX10_takesLine cX10_takesLine 3 (some .boolean) 0 := ⟨⟨m_636, m_637, m_16, m_111, m_638⟩, rfl, nK_RX10.1, nK_RX10.2, pd_15⟩
theorem gX10_store_0 : (decode cX10_store 0 = .ok (.aload_n 1, 1)) ∧ (decode cX10_store 1 = .ok (.getfield 54, 3)) ∧ (decode cX10_store 4 = .ok (.invokevirtual 59, 3)) ∧ (decode cX10_store 7 = .ok (.istore_n 2, 1)) ∧ (decode cX10_store 8 = .ok (.aload_n 1, 1)) ∧ (decode cX10_store 9 = .ok (.getfield 54, 3)) ∧ (decode cX10_store 12 = .ok (.iload_n 2, 1)) ∧ (decode cX10_store 13 = .ok (.iconst 0, 1)) ∧ (decode cX10_store 14 = .ok (.aload_n 1, 1)) ∧ (decode cX10_store 15 = .ok (.getfield 63, 3)) := by decide +kernel
theorem nm_13 : Cond.fieldLinkNest RX10 54 RX0 "versions" "LInquiryBench$Table;" RX11 ∈ NestW := List.mem_of_getElem? (i := 13) rfl
theorem gf_X10_54 (hC : CX p s m meth c y0 b0 mL0 rt0 args) (hy0 : y0.cls = RX10) (hK : KK G s) (hP : va_P G.1 vwCl ws H) (q0 : Nat) {fs : List Value} {v : Value} (he : ws[q0]? = some (a, .inr (0, fs))) (hv : fs[3]? = some v) (hdg : decode b0 pc = .ok (.getfield 54, 3)) (kk : W p l e R s m args below meth c H locs cells slots Q (F0 m (pc + 3) ls (v :: rest))) : W p l e R s m args below meth c H locs cells slots Q (F0 m pc ls (.ref a :: rest)) := by
  obtain ⟨hx, hb, hr, hml, hB, hown, hlocks, hnm⟩ := hC
  rw [hy0] at hown
  exact va_getN (ci := 0) (C := RX0) (T := TX0) (N := 14) hx hb hB in_X0 hown hK.1 hP q0 he rfl 3 (by decide) (va_Nw.use rfl (hK.2.1 _ nm_13)) (fun _ h => h) hv hdg kk
theorem nm_32 : Cond.fieldLinkNest RX10 63 RX0 "today" "I" RX11 ∈ NestW := List.mem_of_getElem? (i := 32) rfl
theorem gf_X10_63 (hC : CX p s m meth c y0 b0 mL0 rt0 args) (hy0 : y0.cls = RX10) (hK : KK G s) (hP : va_P G.1 vwCl ws H) (q0 : Nat) {fs : List Value} {v : Value} (he : ws[q0]? = some (a, .inr (0, fs))) (hv : fs[10]? = some v) (hdg : decode b0 pc = .ok (.getfield 63, 3)) (kk : W p l e R s m args below meth c H locs cells slots Q (F0 m (pc + 3) ls (v :: rest))) : W p l e R s m args below meth c H locs cells slots Q (F0 m pc ls (.ref a :: rest)) := by
  obtain ⟨hx, hb, hr, hml, hB, hown, hlocks, hnm⟩ := hC
  rw [hy0] at hown
  exact va_getN (ci := 0) (C := RX0) (T := TX0) (N := 14) hx hb hB in_X0 hown hK.1 hP q0 he rfl 10 (by decide) (va_Nw.use rfl (hK.2.1 _ nm_32)) (fun _ h => h) hv hdg kk
theorem gX10_store_1 : (decode cX10_store 18 = .ok (.invokevirtual 66, 3)) ∧ (decode cX10_store 21 = .ok (.aload_n 1, 1)) ∧ (decode cX10_store 22 = .ok (.getfield 54, 3)) ∧ (decode cX10_store 25 = .ok (.iload_n 2, 1)) ∧ (decode cX10_store 26 = .ok (.iconst 1, 1)) ∧ (decode cX10_store 27 = .ok (.aload_n 1, 1)) ∧ (decode cX10_store 28 = .ok (.getfield 70, 3)) ∧ (decode cX10_store 31 = .ok (.invokevirtual 71, 3)) ∧ (decode cX10_store 34 = .ok (.invokevirtual 66, 3)) ∧ (decode cX10_store 37 = .ok (.aload_n 1, 1)) := by decide +kernel
theorem nm_16 : Cond.fieldLinkNest RX10 70 RX0 "lines" "LInquiryBench$Table;" RX11 ∈ NestW := List.mem_of_getElem? (i := 16) rfl
theorem gf_X10_70 (hC : CX p s m meth c y0 b0 mL0 rt0 args) (hy0 : y0.cls = RX10) (hK : KK G s) (hP : va_P G.1 vwCl ws H) (q0 : Nat) {fs : List Value} {v : Value} (he : ws[q0]? = some (a, .inr (0, fs))) (hv : fs[4]? = some v) (hdg : decode b0 pc = .ok (.getfield 70, 3)) (kk : W p l e R s m args below meth c H locs cells slots Q (F0 m (pc + 3) ls (v :: rest))) : W p l e R s m args below meth c H locs cells slots Q (F0 m pc ls (.ref a :: rest)) := by
  obtain ⟨hx, hb, hr, hml, hB, hown, hlocks, hnm⟩ := hC
  rw [hy0] at hown
  exact va_getN (ci := 0) (C := RX0) (T := TX0) (N := 14) hx hb hB in_X0 hown hK.1 hP q0 he rfl 4 (by decide) (va_Nw.use rfl (hK.2.1 _ nm_16)) (fun _ h => h) hv hdg kk
theorem gX10_store_2 : (decode cX10_store 38 = .ok (.getfield 54, 3)) ∧ (decode cX10_store 41 = .ok (.iload_n 2, 1)) ∧ (decode cX10_store 42 = .ok (.iconst 2, 1)) ∧ (decode cX10_store 43 = .ok (.aload_n 0, 1)) ∧ (decode cX10_store 44 = .ok (.getfield 20, 3)) ∧ (decode cX10_store 47 = .ok (.invokevirtual 71, 3)) ∧ (decode cX10_store 50 = .ok (.invokevirtual 66, 3)) ∧ (decode cX10_store 53 = .ok (.aload_n 1, 1)) ∧ (decode cX10_store 54 = .ok (.getfield 73, 3)) ∧ (decode cX10_store 57 = .ok (.invokevirtual 71, 3)) := by decide +kernel
theorem nm_19 : Cond.fieldLinkNest RX10 73 RX0 "steps" "LInquiryBench$Table;" RX11 ∈ NestW := List.mem_of_getElem? (i := 19) rfl
theorem gf_X10_73 (hC : CX p s m meth c y0 b0 mL0 rt0 args) (hy0 : y0.cls = RX10) (hK : KK G s) (hP : va_P G.1 vwCl ws H) (q0 : Nat) {fs : List Value} {v : Value} (he : ws[q0]? = some (a, .inr (0, fs))) (hv : fs[5]? = some v) (hdg : decode b0 pc = .ok (.getfield 73, 3)) (kk : W p l e R s m args below meth c H locs cells slots Q (F0 m (pc + 3) ls (v :: rest))) : W p l e R s m args below meth c H locs cells slots Q (F0 m pc ls (.ref a :: rest)) := by
  obtain ⟨hx, hb, hr, hml, hB, hown, hlocks, hnm⟩ := hC
  rw [hy0] at hown
  exact va_getN (ci := 0) (C := RX0) (T := TX0) (N := 14) hx hb hB in_X0 hown hK.1 hP q0 he rfl 5 (by decide) (va_Nw.use rfl (hK.2.1 _ nm_19)) (fun _ h => h) hv hdg kk
theorem gX10_store_3 : (decode cX10_store 60 = .ok (.istore_n 3, 1)) ∧ (decode cX10_store 61 = .ok (.iconst 0, 1)) ∧ (decode cX10_store 62 = .ok (.istore 4, 2)) ∧ (decode cX10_store 64 = .ok (.iload 4, 2)) ∧ (decode cX10_store 66 = .ok (.aload_n 0, 1)) ∧ (decode cX10_store 67 = .ok (.getfield 20, 3)) ∧ (decode cX10_store 70 = .ok (.invokevirtual 71, 3)) ∧ (decode cX10_store 73 = .ok (.if_icmp .ge 78, 3)) ∧ (decode cX10_store 76 = .ok (.aload_n 1, 1)) ∧ (decode cX10_store 77 = .ok (.getfield 70, 3)) := by decide +kernel
theorem gX10_store_7 : (decode cX10_store 142 = .ok (.invokevirtual 66, 3)) ∧ (decode cX10_store 145 = .ok (.iinc 4 1, 3)) ∧ (decode cX10_store 148 = .ok (.goto (-84), 3)) ∧ (decode cX10_store 151 = .ok (.iconst 0, 1)) ∧ (decode cX10_store 152 = .ok (.istore 4, 2)) ∧ (decode cX10_store 154 = .ok (.iload 4, 2)) ∧ (decode cX10_store 156 = .ok (.aload_n 0, 1)) ∧ (decode cX10_store 157 = .ok (.getfield 24, 3)) ∧ (decode cX10_store 160 = .ok (.invokevirtual 71, 3)) ∧ (decode cX10_store 163 = .ok (.if_icmp .ge 34, 3)) := by decide +kernel
theorem gX10_store_9 : (decode cX10_store 185 = .ok (.invokevirtual 74, 3)) ∧ (decode cX10_store 188 = .ok (.invokevirtual 66, 3)) ∧ (decode cX10_store 191 = .ok (.iinc 4 1, 3)) ∧ (decode cX10_store 194 = .ok (.goto (-40), 3)) ∧ (decode cX10_store 197 = .ok (.iload_n 2, 1)) ∧ (decode cX10_store 198 = .ok (.ireturn, 1)) := by decide +kernel
theorem gX10_store_8 : (decode cX10_store 166 = .ok (.aload_n 1, 1)) ∧ (decode cX10_store 167 = .ok (.getfield 73, 3)) ∧ (decode cX10_store 170 = .ok (.aload_n 1, 1)) ∧ (decode cX10_store 171 = .ok (.getfield 73, 3)) ∧ (decode cX10_store 174 = .ok (.invokevirtual 59, 3)) ∧ (decode cX10_store 177 = .ok (.iconst 0, 1)) ∧ (decode cX10_store 178 = .ok (.aload_n 0, 1)) ∧ (decode cX10_store 179 = .ok (.getfield 24, 3)) ∧ (decode cX10_store 182 = .ok (.iload 4, 2)) ∧ (decode cX10_store 184 = .ok (.iconst 0, 1)) := by decide +kernel
theorem gX10_store_4 : (decode cX10_store 80 = .ok (.invokevirtual 59, 3)) ∧ (decode cX10_store 83 = .ok (.istore 5, 2)) ∧ (decode cX10_store 85 = .ok (.iconst 0, 1)) ∧ (decode cX10_store 86 = .ok (.istore 6, 2)) ∧ (decode cX10_store 88 = .ok (.iload 6, 2)) ∧ (decode cX10_store 90 = .ok (.bipush 6, 2)) ∧ (decode cX10_store 92 = .ok (.if_icmp .gt 31, 3)) ∧ (decode cX10_store 95 = .ok (.aload_n 1, 1)) ∧ (decode cX10_store 96 = .ok (.getfield 70, 3)) ∧ (decode cX10_store 99 = .ok (.iload 5, 2)) := by decide +kernel
theorem gX10_store_5 : (decode cX10_store 101 = .ok (.iload 6, 2)) ∧ (decode cX10_store 103 = .ok (.aload_n 0, 1)) ∧ (decode cX10_store 104 = .ok (.getfield 20, 3)) ∧ (decode cX10_store 107 = .ok (.iload 4, 2)) ∧ (decode cX10_store 109 = .ok (.iload 6, 2)) ∧ (decode cX10_store 111 = .ok (.invokevirtual 74, 3)) ∧ (decode cX10_store 114 = .ok (.invokevirtual 66, 3)) ∧ (decode cX10_store 117 = .ok (.iinc 6 1, 3)) ∧ (decode cX10_store 120 = .ok (.goto (-32), 3)) ∧ (decode cX10_store 123 = .ok (.aload_n 1, 1)) := by decide +kernel
theorem gX10_store_6 : (decode cX10_store 124 = .ok (.getfield 70, 3)) ∧ (decode cX10_store 127 = .ok (.iload 5, 2)) ∧ (decode cX10_store 129 = .ok (.iconst 5, 1)) ∧ (decode cX10_store 130 = .ok (.aload_n 0, 1)) ∧ (decode cX10_store 131 = .ok (.getfield 20, 3)) ∧ (decode cX10_store 134 = .ok (.iload 4, 2)) ∧ (decode cX10_store 136 = .ok (.iconst 5, 1)) ∧ (decode cX10_store 137 = .ok (.invokevirtual 74, 3)) ∧ (decode cX10_store 140 = .ok (.iload_n 3, 1)) ∧ (decode cX10_store 141 = .ok (.iadd, 1)) := by decide +kernel
theorem gX11_read_0 : (decode cX11_read 0 = .ok (.aload_n 0, 1)) ∧ (decode cX11_read 1 = .ok (.getfield 58, 3)) ∧ (decode cX11_read 4 = .ok (.invokevirtual 227, 3)) ∧ (decode cX11_read 7 = .ok (.istore_n 1, 1)) ∧ (decode cX11_read 8 = .ok (.aload_n 0, 1)) ∧ (decode cX11_read 9 = .ok (.getfield 58, 3)) ∧ (decode cX11_read 12 = .ok (.invokevirtual 230, 3)) ∧ (decode cX11_read 15 = .ok (.iload_n 1, 1)) ∧ (decode cX11_read 16 = .ok (.ifCond .lt 8, 3)) ∧ (decode cX11_read 19 = .ok (.bipush (-100), 2)) := by decide +kernel
theorem m_619 : Cond.code yX10_scan cX10_scan 2 (some .int) ∈ BW := iB_BW33 _ (List.mem_of_getElem? (i := 19) rfl)
theorem m_616 : Cond.methodLink RX11 227 yX10_scan ∈ BW := iB_BW33 _ (List.mem_of_getElem? (i := 16) rfl)
theorem m_617 : Cond.instanceMethod yX10_scan ∈ BW := iB_BW33 _ (List.mem_of_getElem? (i := 17) rfl)
theorem m_618 : Cond.selects RX10 yX10_scan yX10_scan ∈ BW := iB_BW33 _ (List.mem_of_getElem? (i := 18) rfl)
theorem si_X11_227 : SV RX11 RX10 227 yX10_scan cX10_scan 2 (some .int) 0 := ⟨⟨m_616, m_617, m_618, m_111, m_619⟩, rfl, nK_RX10.1, nK_RX10.2, pd_1⟩
theorem m_734 : Cond.code yX10_clear cX10_clear 1 none ∈ BW := iB_BW39 _ (List.mem_of_getElem? (i := 14) rfl)
theorem m_731 : Cond.methodLink RX11 230 yX10_clear ∈ BW := iB_BW39 _ (List.mem_of_getElem? (i := 11) rfl)
theorem m_732 : Cond.instanceMethod yX10_clear ∈ BW := iB_BW39 _ (List.mem_of_getElem? (i := 12) rfl)
theorem m_733 : Cond.selects RX10 yX10_clear yX10_clear ∈ BW := iB_BW39 _ (List.mem_of_getElem? (i := 13) rfl)
theorem si_X11_230 : SV RX11 RX10 230 yX10_clear cX10_clear 1 none 0 := ⟨⟨m_731, m_732, m_733, m_111, m_734⟩, rfl, nK_RX10.1, nK_RX10.2, pd_9⟩
theorem gX11_read_1 : (decode cX11_read 21 = .ok (.iload_n 1, 1)) ∧ (decode cX11_read 22 = .ok (.isub, 1)) ∧ (decode cX11_read 23 = .ok (.ireturn, 1)) ∧ (decode cX11_read 24 = .ok (.aload_n 0, 1)) ∧ (decode cX11_read 25 = .ok (.getfield 15, 3)) ∧ (decode cX11_read 28 = .ok (.getfield 233, 3)) ∧ (decode cX11_read 31 = .ok (.invokevirtual 111, 3)) ∧ (decode cX11_read 34 = .ok (.ifCond .eq 6, 3)) ∧ (decode cX11_read 37 = .ok (.bipush (-2), 2)) ∧ (decode cX11_read 39 = .ok (.ireturn, 1)) := by decide +kernel
theorem gX11_read_2 : (decode cX11_read 40 = .ok (.aload_n 0, 1)) ∧ (decode cX11_read 41 = .ok (.getfield 58, 3)) ∧ (decode cX11_read 44 = .ok (.aload_n 0, 1)) ∧ (decode cX11_read 45 = .ok (.getfield 15, 3)) ∧ (decode cX11_read 48 = .ok (.invokevirtual 236, 3)) ∧ (decode cX11_read 51 = .ok (.ireturn, 1)) := by decide +kernel
theorem m_738 : Cond.code yX10_store cX10_store 7 (some .int) ∈ BW := iB_BW39 _ (List.mem_of_getElem? (i := 18) rfl)
theorem pd_27 : (parseMethodDescriptor "(LInquiryBench$Book;)I").map (fun d => d.parameters.length) = some 1 := by decide +kernel
theorem m_735 : Cond.methodLink RX11 236 yX10_store ∈ BW := iB_BW39 _ (List.mem_of_getElem? (i := 15) rfl)
theorem m_736 : Cond.instanceMethod yX10_store ∈ BW := iB_BW39 _ (List.mem_of_getElem? (i := 16) rfl)
theorem m_737 : Cond.selects RX10 yX10_store yX10_store ∈ BW := iB_BW39 _ (List.mem_of_getElem? (i := 17) rfl)
theorem si_X11_236 : SV RX11 RX10 236 yX10_store cX10_store 7 (some .int) 1 := ⟨⟨m_735, m_736, m_737, m_111, m_738⟩, rfl, nK_RX10.1, nK_RX10.2, pd_27⟩
end WR
theorem rm_8_4_5 {mc ms : Nat} : 4 + 1 ≤ (RM 8 mc ms).frames ∧ 8 + (5 + 11) + 40 * 4 ≤ (RM 8 mc ms).locals := ⟨by show 4 + 1 ≤ 8; decide, by show 8 + (5 + 11) + 40 * 4 ≤ 40 * 8; decide⟩
theorem rm_8_7_2 {mc ms : Nat} : 7 + 1 ≤ (RM 8 mc ms).frames ∧ 8 + (2 + 11) + 40 * 7 ≤ (RM 8 mc ms).locals := ⟨by show 7 + 1 ≤ 8; decide, by show 8 + (2 + 11) + 40 * 7 ≤ 40 * 8; decide⟩
theorem rm_30_1_1 {mc ms : Nat} : 1 + 1 ≤ (RM 30 mc ms).frames ∧ 8 + (1 + 11) + 40 * 1 ≤ (RM 30 mc ms).locals := ⟨by show 1 + 1 ≤ 30; decide, by show 8 + (1 + 11) + 40 * 1 ≤ 40 * 30; decide⟩
theorem rm_30_1_4 {mc ms : Nat} : 1 + 1 ≤ (RM 30 mc ms).frames ∧ 8 + (4 + 11) + 40 * 1 ≤ (RM 30 mc ms).locals := ⟨by show 1 + 1 ≤ 30; decide, by show 8 + (4 + 11) + 40 * 1 ≤ 40 * 30; decide⟩
theorem rm_30_7_1 {mc ms : Nat} : 7 + 1 ≤ (RM 30 mc ms).frames ∧ 8 + (1 + 11) + 40 * 7 ≤ (RM 30 mc ms).locals := ⟨by show 7 + 1 ≤ 30; decide, by show 8 + (1 + 11) + 40 * 7 ≤ 40 * 30; decide⟩
theorem rm_30_3_1 {mc ms : Nat} : 3 + 1 ≤ (RM 30 mc ms).frames ∧ 8 + (1 + 11) + 40 * 3 ≤ (RM 30 mc ms).locals := ⟨by show 3 + 1 ≤ 30; decide, by show 8 + (1 + 11) + 40 * 3 ≤ 40 * 30; decide⟩
theorem sm_2_3_4_5 {a0 a1 a2 a3 a4 a5 : Nat × va_E} {l : va_W} : ([2, 3, 4, 5] : List Nat).map (fun i => (a0 :: a1 :: a2 :: a3 :: a4 :: a5 :: l : va_W)[i]?) = ([a2, a3, a4, a5] : va_W).map some := rfl
theorem nd_2_3_4_5 : va_nd [2, 3, 4, 5] = true := by decide
theorem dj_0_1__2_3_4_5 : ∀ i ∈ ([2, 3, 4, 5] : List Nat), i ∉ ([0, 1] : List Nat) := by decide
theorem rm_30_8_3 {mc ms : Nat} : 8 + 1 ≤ (RM 30 mc ms).frames ∧ 8 + (3 + 11) + 40 * 8 ≤ (RM 30 mc ms).locals := ⟨by show 8 + 1 ≤ 30; decide, by show 8 + (3 + 11) + 40 * 8 ≤ 40 * 30; decide⟩
theorem rm_30_4_2 {mc ms : Nat} : 4 + 1 ≤ (RM 30 mc ms).frames ∧ 8 + (2 + 11) + 40 * 4 ≤ (RM 30 mc ms).locals := ⟨by show 4 + 1 ≤ 30; decide, by show 8 + (2 + 11) + 40 * 4 ≤ 40 * 30; decide⟩
theorem sm_0_1_4_5 {a0 a1 a2 a3 a4 a5 : Nat × va_E} {l : va_W} : ([0, 1, 4, 5] : List Nat).map (fun i => (a0 :: a1 :: a2 :: a3 :: a4 :: a5 :: l : va_W)[i]?) = ([a0, a1, a4, a5] : va_W).map some := rfl
theorem nd_0_1_4_5 : va_nd [0, 1, 4, 5] = true := by decide
theorem dj_2_3__0_1_4_5 : ∀ i ∈ ([0, 1, 4, 5] : List Nat), i ∉ ([2, 3] : List Nat) := by decide
theorem rm_30_6_3 {mc ms : Nat} : 6 + 1 ≤ (RM 30 mc ms).frames ∧ 8 + (3 + 11) + 40 * 6 ≤ (RM 30 mc ms).locals := ⟨by show 6 + 1 ≤ 30; decide, by show 8 + (3 + 11) + 40 * 6 ≤ 40 * 30; decide⟩
theorem dj_2_3_0_1__4_5 : ∀ i ∈ ([4, 5] : List Nat), i ∉ ([2, 3, 0, 1] : List Nat) := by decide
theorem rm_30_1_3 {mc ms : Nat} : 1 + 1 ≤ (RM 30 mc ms).frames ∧ 8 + (3 + 11) + 40 * 1 ≤ (RM 30 mc ms).locals := ⟨by show 1 + 1 ≤ 30; decide, by show 8 + (3 + 11) + 40 * 1 ≤ 40 * 30; decide⟩
theorem dj_0__1_2_3_4_5 : ∀ i ∈ ([1, 2, 3, 4, 5] : List Nat), i ∉ ([0] : List Nat) := by decide
theorem rm_31_1_2 {mc ms : Nat} : 1 + 1 ≤ (RM 31 mc ms).frames ∧ 8 + (2 + 11) + 40 * 1 ≤ (RM 31 mc ms).locals := ⟨by show 1 + 1 ≤ 31; decide, by show 8 + (2 + 11) + 40 * 1 ≤ 40 * 31; decide⟩
theorem sm_0_1_2_4_5 {a0 a1 a2 a3 a4 a5 : Nat × va_E} {l : va_W} : ([0, 1, 2, 4, 5] : List Nat).map (fun i => (a0 :: a1 :: a2 :: a3 :: a4 :: a5 :: l : va_W)[i]?) = ([a0, a1, a2, a4, a5] : va_W).map some := rfl
theorem nd_0_1_2_4_5 : va_nd [0, 1, 2, 4, 5] = true := by decide
theorem dj_3__0_1_2_4_5 : ∀ i ∈ ([0, 1, 2, 4, 5] : List Nat), i ∉ ([3] : List Nat) := by decide
theorem rm_31_3_1 {mc ms : Nat} : 3 + 1 ≤ (RM 31 mc ms).frames ∧ 8 + (1 + 11) + 40 * 3 ≤ (RM 31 mc ms).locals := ⟨by show 3 + 1 ≤ 31; decide, by show 8 + (1 + 11) + 40 * 3 ≤ 40 * 31; decide⟩
theorem rm_31_30_3 {mc ms : Nat} : 30 + 1 ≤ (RM 31 mc ms).frames ∧ 8 + (3 + 11) + 40 * 30 ≤ (RM 31 mc ms).locals := ⟨by show 30 + 1 ≤ 31; decide, by show 8 + (3 + 11) + 40 * 30 ≤ 40 * 31; decide⟩
theorem sm_4_5_2_0_3_1 {a0 a1 a2 a3 a4 a5 : Nat × va_E} {l : va_W} : ([4, 5, 2, 0, 3, 1] : List Nat).map (fun i => (a0 :: a1 :: a2 :: a3 :: a4 :: a5 :: l : va_W)[i]?) = ([a4, a5, a2, a0, a3, a1] : va_W).map some := rfl
theorem fm_4_5_2_0_3_1 {a0 a1 a2 a3 a4 a5 : Nat × va_E} {l : va_W} : ([4, 5, 2, 0, 3, 1] : List Nat).filterMap (fun i => (a0 :: a1 :: a2 :: a3 :: a4 :: a5 :: l : va_W)[i]?) = ([a4, a5, a2, a0, a3, a1] : va_W) := rfl
theorem nd_4_5_2_0_3_1 : va_nd [4, 5, 2, 0, 3, 1] = true := by decide
theorem fm_3_5_2_4_0_1 {a0 a1 a2 a3 a4 a5 : Nat × va_E} {l : va_W} : ([3, 5, 2, 4, 0, 1] : List Nat).filterMap (fun i => (a0 :: a1 :: a2 :: a3 :: a4 :: a5 :: l : va_W)[i]?) = ([a3, a5, a2, a4, a0, a1] : va_W) := rfl
theorem nd_3_5_2_4_0_1 : va_nd [3, 5, 2, 4, 0, 1] = true := by decide
theorem sm_3_5_2_4_0_1 {a0 a1 a2 a3 a4 a5 : Nat × va_E} {l : va_W} : ([3, 5, 2, 4, 0, 1] : List Nat).map (fun i => (a0 :: a1 :: a2 :: a3 :: a4 :: a5 :: l : va_W)[i]?) = ([a3, a5, a2, a4, a0, a1] : va_W).map some := rfl
theorem sm_0_1_2_3_4_5_7_8_9_10_11 {a0 a1 a2 a3 a4 a5 a6 a7 a8 a9 a10 a11 : Nat × va_E} {l : va_W} : ([0, 1, 2, 3, 4, 5, 7, 8, 9, 10, 11] : List Nat).map (fun i => (a0 :: a1 :: a2 :: a3 :: a4 :: a5 :: a6 :: a7 :: a8 :: a9 :: a10 :: a11 :: l : va_W)[i]?) = ([a0, a1, a2, a3, a4, a5, a7, a8, a9, a10, a11] : va_W).map some := rfl
theorem nd_0_1_2_3_4_5_7_8_9_10_11 : va_nd [0, 1, 2, 3, 4, 5, 7, 8, 9, 10, 11] = true := by decide
theorem dj_6__0_1_2_3_4_5_7_8_9_10_11 : ∀ i ∈ ([0, 1, 2, 3, 4, 5, 7, 8, 9, 10, 11] : List Nat), i ∉ ([6] : List Nat) := by decide
theorem sm_11_6 {a0 a1 a2 a3 a4 a5 a6 a7 a8 a9 a10 a11 : Nat × va_E} {l : va_W} : ([11, 6] : List Nat).map (fun i => (a0 :: a1 :: a2 :: a3 :: a4 :: a5 :: a6 :: a7 :: a8 :: a9 :: a10 :: a11 :: l : va_W)[i]?) = ([a11, a6] : va_W).map some := rfl
theorem fm_11_6 {a0 a1 a2 a3 a4 a5 a6 a7 a8 a9 a10 a11 : Nat × va_E} {l : va_W} : ([11, 6] : List Nat).filterMap (fun i => (a0 :: a1 :: a2 :: a3 :: a4 :: a5 :: a6 :: a7 :: a8 :: a9 :: a10 :: a11 :: l : va_W)[i]?) = ([a11, a6] : va_W) := rfl
theorem nd_11_6 : va_nd [11, 6] = true := by decide
theorem sm_0_1_2_3_4_5_7_8_9_10 {a0 a1 a2 a3 a4 a5 a6 a7 a8 a9 a10 : Nat × va_E} {l : va_W} : ([0, 1, 2, 3, 4, 5, 7, 8, 9, 10] : List Nat).map (fun i => (a0 :: a1 :: a2 :: a3 :: a4 :: a5 :: a6 :: a7 :: a8 :: a9 :: a10 :: l : va_W)[i]?) = ([a0, a1, a2, a3, a4, a5, a7, a8, a9, a10] : va_W).map some := rfl
theorem nd_0_1_2_3_4_5_7_8_9_10 : va_nd [0, 1, 2, 3, 4, 5, 7, 8, 9, 10] = true := by decide
theorem dj_11_6__0_1_2_3_4_5_7_8_9_10 : ∀ i ∈ ([0, 1, 2, 3, 4, 5, 7, 8, 9, 10] : List Nat), i ∉ ([11, 6] : List Nat) := by decide
theorem sm_10_11 {a0 a1 a2 a3 a4 a5 a6 a7 a8 a9 a10 a11 : Nat × va_E} {l : va_W} : ([10, 11] : List Nat).map (fun i => (a0 :: a1 :: a2 :: a3 :: a4 :: a5 :: a6 :: a7 :: a8 :: a9 :: a10 :: a11 :: l : va_W)[i]?) = ([a10, a11] : va_W).map some := rfl
theorem fm_10_11 {a0 a1 a2 a3 a4 a5 a6 a7 a8 a9 a10 a11 : Nat × va_E} {l : va_W} : ([10, 11] : List Nat).filterMap (fun i => (a0 :: a1 :: a2 :: a3 :: a4 :: a5 :: a6 :: a7 :: a8 :: a9 :: a10 :: a11 :: l : va_W)[i]?) = ([a10, a11] : va_W) := rfl
theorem nd_10_11 : va_nd [10, 11] = true := by decide
theorem sm_0_1_2_3_4_5_6_7_8_9 {a0 a1 a2 a3 a4 a5 a6 a7 a8 a9 : Nat × va_E} {l : va_W} : ([0, 1, 2, 3, 4, 5, 6, 7, 8, 9] : List Nat).map (fun i => (a0 :: a1 :: a2 :: a3 :: a4 :: a5 :: a6 :: a7 :: a8 :: a9 :: l : va_W)[i]?) = ([a0, a1, a2, a3, a4, a5, a6, a7, a8, a9] : va_W).map some := rfl
theorem nd_0_1_2_3_4_5_6_7_8_9 : va_nd [0, 1, 2, 3, 4, 5, 6, 7, 8, 9] = true := by decide
theorem dj_10_11__0_1_2_3_4_5_6_7_8_9 : ∀ i ∈ ([0, 1, 2, 3, 4, 5, 6, 7, 8, 9] : List Nat), i ∉ ([10, 11] : List Nat) := by decide
theorem sm_0_1_2_3_4_5_6_7_9_10_11 {a0 a1 a2 a3 a4 a5 a6 a7 a8 a9 a10 a11 : Nat × va_E} {l : va_W} : ([0, 1, 2, 3, 4, 5, 6, 7, 9, 10, 11] : List Nat).map (fun i => (a0 :: a1 :: a2 :: a3 :: a4 :: a5 :: a6 :: a7 :: a8 :: a9 :: a10 :: a11 :: l : va_W)[i]?) = ([a0, a1, a2, a3, a4, a5, a6, a7, a9, a10, a11] : va_W).map some := rfl
theorem nd_0_1_2_3_4_5_6_7_9_10_11 : va_nd [0, 1, 2, 3, 4, 5, 6, 7, 9, 10, 11] = true := by decide
theorem dj_8__0_1_2_3_4_5_6_7_9_10_11 : ∀ i ∈ ([0, 1, 2, 3, 4, 5, 6, 7, 9, 10, 11] : List Nat), i ∉ ([8] : List Nat) := by decide
theorem sm_11_8 {a0 a1 a2 a3 a4 a5 a6 a7 a8 a9 a10 a11 : Nat × va_E} {l : va_W} : ([11, 8] : List Nat).map (fun i => (a0 :: a1 :: a2 :: a3 :: a4 :: a5 :: a6 :: a7 :: a8 :: a9 :: a10 :: a11 :: l : va_W)[i]?) = ([a11, a8] : va_W).map some := rfl
theorem fm_11_8 {a0 a1 a2 a3 a4 a5 a6 a7 a8 a9 a10 a11 : Nat × va_E} {l : va_W} : ([11, 8] : List Nat).filterMap (fun i => (a0 :: a1 :: a2 :: a3 :: a4 :: a5 :: a6 :: a7 :: a8 :: a9 :: a10 :: a11 :: l : va_W)[i]?) = ([a11, a8] : va_W) := rfl
theorem nd_11_8 : va_nd [11, 8] = true := by decide
theorem sm_0_1_2_3_4_5_6_7_9_10 {a0 a1 a2 a3 a4 a5 a6 a7 a8 a9 a10 : Nat × va_E} {l : va_W} : ([0, 1, 2, 3, 4, 5, 6, 7, 9, 10] : List Nat).map (fun i => (a0 :: a1 :: a2 :: a3 :: a4 :: a5 :: a6 :: a7 :: a8 :: a9 :: a10 :: l : va_W)[i]?) = ([a0, a1, a2, a3, a4, a5, a6, a7, a9, a10] : va_W).map some := rfl
theorem nd_0_1_2_3_4_5_6_7_9_10 : va_nd [0, 1, 2, 3, 4, 5, 6, 7, 9, 10] = true := by decide
theorem dj_11_8__0_1_2_3_4_5_6_7_9_10 : ∀ i ∈ ([0, 1, 2, 3, 4, 5, 6, 7, 9, 10] : List Nat), i ∉ ([11, 8] : List Nat) := by decide
theorem fm_0_1_2_3_4_5_10_11_6_7_8_9 {a0 a1 a2 a3 a4 a5 a6 a7 a8 a9 a10 a11 : Nat × va_E} {l : va_W} : ([0, 1, 2, 3, 4, 5, 10, 11, 6, 7, 8, 9] : List Nat).filterMap (fun i => (a0 :: a1 :: a2 :: a3 :: a4 :: a5 :: a6 :: a7 :: a8 :: a9 :: a10 :: a11 :: l : va_W)[i]?) = ([a0, a1, a2, a3, a4, a5, a10, a11, a6, a7, a8, a9] : va_W) := rfl
theorem nd_0_1_2_3_4_5_10_11_6_7_8_9 : va_nd [0, 1, 2, 3, 4, 5, 10, 11, 6, 7, 8, 9] = true := by decide
theorem sm_0_1_2_3_4_5_10_11_6_7_8_9 {a0 a1 a2 a3 a4 a5 a6 a7 a8 a9 a10 a11 : Nat × va_E} {l : va_W} : ([0, 1, 2, 3, 4, 5, 10, 11, 6, 7, 8, 9] : List Nat).map (fun i => (a0 :: a1 :: a2 :: a3 :: a4 :: a5 :: a6 :: a7 :: a8 :: a9 :: a10 :: a11 :: l : va_W)[i]?) = ([a0, a1, a2, a3, a4, a5, a10, a11, a6, a7, a8, a9] : va_W).map some := rfl
theorem rm_33_31_2 {mc ms : Nat} : 31 + 1 ≤ (RM 33 mc ms).frames ∧ 8 + (2 + 11) + 40 * 31 ≤ (RM 33 mc ms).locals := ⟨by show 31 + 1 ≤ 33; decide, by show 8 + (2 + 11) + 40 * 31 ≤ 40 * 33; decide⟩
theorem sm_1_2_3_4_5_6 {a0 a1 a2 a3 a4 a5 a6 : Nat × va_E} {l : va_W} : ([1, 2, 3, 4, 5, 6] : List Nat).map (fun i => (a0 :: a1 :: a2 :: a3 :: a4 :: a5 :: a6 :: l : va_W)[i]?) = ([a1, a2, a3, a4, a5, a6] : va_W).map some := rfl
theorem fm_1_2_3_4_5_6 {a0 a1 a2 a3 a4 a5 a6 : Nat × va_E} {l : va_W} : ([1, 2, 3, 4, 5, 6] : List Nat).filterMap (fun i => (a0 :: a1 :: a2 :: a3 :: a4 :: a5 :: a6 :: l : va_W)[i]?) = ([a1, a2, a3, a4, a5, a6] : va_W) := rfl
theorem nd_1_2_3_4_5_6 : va_nd [1, 2, 3, 4, 5, 6] = true := by decide
theorem sm_0_7_8_9_10_11_12_13 {a0 a1 a2 a3 a4 a5 a6 a7 a8 a9 a10 a11 a12 a13 : Nat × va_E} {l : va_W} : ([0, 7, 8, 9, 10, 11, 12, 13] : List Nat).map (fun i => (a0 :: a1 :: a2 :: a3 :: a4 :: a5 :: a6 :: a7 :: a8 :: a9 :: a10 :: a11 :: a12 :: a13 :: l : va_W)[i]?) = ([a0, a7, a8, a9, a10, a11, a12, a13] : va_W).map some := rfl
theorem nd_0_7_8_9_10_11_12_13 : va_nd [0, 7, 8, 9, 10, 11, 12, 13] = true := by decide
theorem dj_1_2_3_4_5_6__0_7_8_9_10_11_12_13 : ∀ i ∈ ([0, 7, 8, 9, 10, 11, 12, 13] : List Nat), i ∉ ([1, 2, 3, 4, 5, 6] : List Nat) := by decide
theorem rm_33_1_1 {mc ms : Nat} : 1 + 1 ≤ (RM 33 mc ms).frames ∧ 8 + (1 + 11) + 40 * 1 ≤ (RM 33 mc ms).locals := ⟨by show 1 + 1 ≤ 33; decide, by show 8 + (1 + 11) + 40 * 1 ≤ 40 * 33; decide⟩
theorem sm_0_1_2_3_4_5_6_7_9_10_11_12_13 {a0 a1 a2 a3 a4 a5 a6 a7 a8 a9 a10 a11 a12 a13 : Nat × va_E} {l : va_W} : ([0, 1, 2, 3, 4, 5, 6, 7, 9, 10, 11, 12, 13] : List Nat).map (fun i => (a0 :: a1 :: a2 :: a3 :: a4 :: a5 :: a6 :: a7 :: a8 :: a9 :: a10 :: a11 :: a12 :: a13 :: l : va_W)[i]?) = ([a0, a1, a2, a3, a4, a5, a6, a7, a9, a10, a11, a12, a13] : va_W).map some := rfl
theorem nd_0_1_2_3_4_5_6_7_9_10_11_12_13 : va_nd [0, 1, 2, 3, 4, 5, 6, 7, 9, 10, 11, 12, 13] = true := by decide
theorem dj_8__0_1_2_3_4_5_6_7_9_10_11_12_13 : ∀ i ∈ ([0, 1, 2, 3, 4, 5, 6, 7, 9, 10, 11, 12, 13] : List Nat), i ∉ ([8] : List Nat) := by decide
theorem rm_33_3_7 {mc ms : Nat} : 3 + 1 ≤ (RM 33 mc ms).frames ∧ 8 + (7 + 11) + 40 * 3 ≤ (RM 33 mc ms).locals := ⟨by show 3 + 1 ≤ 33; decide, by show 8 + (7 + 11) + 40 * 3 ≤ 40 * 33; decide⟩
theorem sm_13_9_10_11_12_1_2_3_4_5_6_7 {a0 a1 a2 a3 a4 a5 a6 a7 a8 a9 a10 a11 a12 a13 : Nat × va_E} {l : va_W} : ([13, 9, 10, 11, 12, 1, 2, 3, 4, 5, 6, 7] : List Nat).map (fun i => (a0 :: a1 :: a2 :: a3 :: a4 :: a5 :: a6 :: a7 :: a8 :: a9 :: a10 :: a11 :: a12 :: a13 :: l : va_W)[i]?) = ([a13, a9, a10, a11, a12, a1, a2, a3, a4, a5, a6, a7] : va_W).map some := rfl
theorem fm_13_9_10_11_12_1_2_3_4_5_6_7 {a0 a1 a2 a3 a4 a5 a6 a7 a8 a9 a10 a11 a12 a13 : Nat × va_E} {l : va_W} : ([13, 9, 10, 11, 12, 1, 2, 3, 4, 5, 6, 7] : List Nat).filterMap (fun i => (a0 :: a1 :: a2 :: a3 :: a4 :: a5 :: a6 :: a7 :: a8 :: a9 :: a10 :: a11 :: a12 :: a13 :: l : va_W)[i]?) = ([a13, a9, a10, a11, a12, a1, a2, a3, a4, a5, a6, a7] : va_W) := rfl
theorem nd_13_9_10_11_12_1_2_3_4_5_6_7 : va_nd [13, 9, 10, 11, 12, 1, 2, 3, 4, 5, 6, 7] = true := by decide
theorem sm_0_8 {a0 a1 a2 a3 a4 a5 a6 a7 a8 : Nat × va_E} {l : va_W} : ([0, 8] : List Nat).map (fun i => (a0 :: a1 :: a2 :: a3 :: a4 :: a5 :: a6 :: a7 :: a8 :: l : va_W)[i]?) = ([a0, a8] : va_W).map some := rfl
theorem nd_0_8 : va_nd [0, 8] = true := by decide
theorem dj_13_9_10_11_12_1_2_3_4_5_6_7__0_8 : ∀ i ∈ ([0, 8] : List Nat), i ∉ ([13, 9, 10, 11, 12, 1, 2, 3, 4, 5, 6, 7] : List Nat) := by decide
def K_t_takesHead (l : Launch) (G : GG) (K : OO) (h0 : Nat) (li : Int32) (so : Int32) (tby : Nat) (kt : Nat) (tln : Nat) (tsp : Nat) (tkd : Int32) (ks : Nat) (kn : Nat) (tf9 : Int32) (fby : Nat → Int32) (tlnc : Nat) (kln : Nat) (ftln : Nat → Int32) : Prop := MIo l G K yX10_takesHead cX10_takesHead 3 (some .boolean) 8 0 0 [.ref h0, .int li, .int so] [(h0, oX10 tby (nI kt) tln tsp tkd (nI ks) (nI kn) tf9), (tby, iA G 240 fby), (tln, oX8 9 7 tlnc (nI kln)), (tlnc, iA G 63 ftln)] (fun (r : Int32) (u : Int32 × Nat × Nat × Int32 × (Nat → Int32)) => (r = 1 ∨ r = 0) ∧ (u.2.1 ≤ 240 ∧ u.2.2.1 ≤ 240)) (fun u : Int32 × Nat × Nat × Int32 × (Nat → Int32) => [(h0, oX10 tby (nI kt) tln tsp u.1 (nI u.2.1) (nI u.2.2.1) u.2.2.2.1), (tby, iA G 240 fby), (tln, oX8 9 7 tlnc (nI kln)), (tlnc, iA G 63 u.2.2.2.2)])
set_option maxHeartbeats 4000000 in
set_option maxRecDepth 100000 in
theorem t_takesHead (l : Launch) (G : GG) (K : OO) (h0 : Nat) (li : Int32) (so : Int32) (tby : Nat) (kt : Nat) (tln : Nat) (tsp : Nat) (tkd : Int32) (ks : Nat) (kn : Nat) (tf9 : Int32) (fby : Nat → Int32) (tlnc : Nat) (kln : Nat) (ftln : Nat → Int32) (hkt : kt ≤ 240) (hks : ks ≤ 240) (hkn : kn ≤ 240) (hkln : kln ≤ 9) : K_t_takesHead l G K h0 li so tby kt tln tsp tkd ks kn tf9 fby tlnc kln ftln := by
  refine MIo.start (by decide +kernel) (Nat.le_of_ble_eq_true rfl) ?_
  intro p e s m below meth c A ls hC hK hP hD hS hA hl hO
  refine absQ (fun Q0 hQ0 => ?_)
  have hl : lv_has ls 3 [(0, .ref h0), (1, .int li), (2, .int so)] := hl
  refine Kan8 hC (fun hx hb hr hml hB hown hlocks hnm => ?_)
  refine lv_iload_n hx hb gX10_takesHead_0.1 rfl (lv_at2 hl) ?_
  by_cases c_1_4193 : so = 0
  · refine lv_tableIn (tgt := 28) hx hb gX10_takesHead_0.2.1 (by rw [c_1_4193]; decide) (by rw [c_1_4193]; decide) (by rw [c_1_4193]; rfl) (by decide) ?_
    refine lv_aload_n hx hb gX10_takesHead_0.2.2.1 rfl (lv_at0 hl) ?_
    refine lv_iload_n hx hb gX10_takesHead_0.2.2.2.1 rfl (lv_at1 hl) ?_
    refine lv_iconst (v := 1) hx hb gX10_takesHead_0.2.2.2.2.1 (by decide) ?_
    refine lv_bipush (v := 99) hx hb gX10_takesHead_0.2.2.2.2.2.1 (by decide) ?_
    refine iV (wr := []) hC hK hl hP hD hS hA (t_takesNumber l G h0 li 1 99 tby kt tln tsp tkd ks kn tf9 fby tlnc kln ftln (hkt) (hks) (hkn) (hkln)) si_X10_135 [0, 1, 2, 3] [] sm_0_1_2_3 fm_0_1_2_3 nd_0_1_2_3 rfl rfl (by decide) rfl rfl rfl rfl rfl (Nat.le_of_ble_eq_true rfl) rm_8_4_5 ⟨Nat.le_of_ble_eq_true rfl, Nat.le_of_ble_eq_true rfl⟩ gX10_takesHead_0.2.2.2.2.2.2.1 (fun r4194 => Ktu5 fun kd14196 ks14197 kn14198 tf14199 gtln4200 => ?_)
    intro H locs hr4194 hP hD hS
    try dsimp only at hr4194
    refine Kpdr (ws := [(h0, oX10 tby (nI kt) tln tsp kd14196 (nI ks14197) (nI kn14198) tf14199), (tby, iA G 240 fby), (tln, oX8 9 7 tlnc (nI kln)), (tlnc, iA G 63 gtln4200)]) hP hD (fun hP hD => ?_)
    obtain ⟨hr4194, w4201⟩ := hr4194
    rcases hr4194 with rfl | rfl
    · refine lv_if_eq (tgt := 83) hx hb gX10_takesHead_0.2.2.2.2.2.2.2.1 (by decide) (fun c9 => absurd c9 (by decide)) (fun _ => ?_)
      refine lv_aload_n hx hb gX10_takesHead_0.2.2.2.2.2.2.2.2.1 rfl (lv_at0 hl) ?_
      refine va_ldcS (index := 138) (tx := "of") hx hb hown (hO.2.1 5 (by decide)) gX10_takesHead_0.2.2.2.2.2.2.2.2.2 ?_
      refine iVo (wr := [(tln, oX8 9 7 tlnc (nI kln)), (tlnc, iA G 63 gtln4200)]) hO hC hK hl hP hD hS hA (t_takesName l G K 5 h0 tby kt tln tsp kd14196 ks14197 kn14198 tf14199 fby (hkt) (by omega) (by omega) ((by decide))) si_X10_140 [0, 1] [2, 3] sm_0_1 fm_0_1 nd_0_1 sm_2_3 nd_2_3 dj_0_1__2_3 rfl rfl rfl rfl rfl (Nat.le_of_ble_eq_true rfl) rm_8_7_2 ⟨Nat.le_of_ble_eq_true rfl, Nat.le_of_ble_eq_true rfl⟩ gX10_takesHead_1.1 (fun r4203 => Ktu4 fun kd14205 ks14206 kn14207 tf14208 => ?_)
      intro H locs hr4203 hP hD hS
      try dsimp only at hr4203
      refine Kpdr (ws := [(tln, oX8 9 7 tlnc (nI kln)), (tlnc, iA G 63 gtln4200), (h0, oX10 tby (nI kt) tln tsp kd14205 (nI ks14206) (nI kn14207) tf14208), (tby, iA G 240 fby)]) hP hD (fun hP hD => ?_)
      obtain ⟨hr4203, w4209⟩ := hr4203
      rcases hr4203 with rfl | rfl
      · refine lv_if_eq (tgt := 83) hx hb gX10_takesHead_1.2.1 (by decide) (fun c9 => absurd c9 (by decide)) (fun _ => ?_)
        refine lv_aload_n hx hb gX10_takesHead_1.2.2.1 rfl (lv_at0 hl) ?_
        refine lv_iload_n hx hb gX10_takesHead_1.2.2.2.1 rfl (lv_at1 hl) ?_
        refine lv_iconst (v := 2) hx hb gX10_takesHead_1.2.2.2.2.1 (by decide) ?_
        refine lv_bipush (v := 7) hx hb gX10_takesHead_1.2.2.2.2.2.1 (by decide) ?_
        refine iV (wr := []) hC hK hl hP hD hS hA (t_takesNumber l G h0 li 2 7 tby kt tln tsp kd14205 ks14206 kn14207 tf14208 fby tlnc kln gtln4200 (hkt) (by omega) (by omega) (hkln)) si_X10_135 [2, 3, 0, 1] [] sm_2_3_0_1 fm_2_3_0_1 nd_2_3_0_1 rfl rfl (by decide) rfl rfl rfl rfl rfl (Nat.le_of_ble_eq_true rfl) rm_8_4_5 ⟨Nat.le_of_ble_eq_true rfl, Nat.le_of_ble_eq_true rfl⟩ gX10_takesHead_1.2.2.2.2.2.2.1 (fun r4211 => Ktu5 fun kd14213 ks14214 kn14215 tf14216 gtln4217 => ?_)
        intro H locs hr4211 hP hD hS
        try dsimp only at hr4211
        refine Kpdr (ws := [(h0, oX10 tby (nI kt) tln tsp kd14213 (nI ks14214) (nI kn14215) tf14216), (tby, iA G 240 fby), (tln, oX8 9 7 tlnc (nI kln)), (tlnc, iA G 63 gtln4217)]) hP hD (fun hP hD => ?_)
        obtain ⟨hr4211, w4218⟩ := hr4211
        rcases hr4211 with rfl | rfl
        · refine lv_if_eq (tgt := 83) hx hb gX10_takesHead_1.2.2.2.2.2.2.2.1 (by decide) (fun c9 => absurd c9 (by decide)) (fun _ => ?_)
          refine lv_aload_n hx hb gX10_takesHead_1.2.2.2.2.2.2.2.2.1 rfl (lv_at0 hl) ?_
          refine va_ldcS (index := 143) (tx := "from") hx hb hown (hO.2.1 6 (by decide)) gX10_takesHead_1.2.2.2.2.2.2.2.2.2 ?_
          refine iVo (wr := [(tln, oX8 9 7 tlnc (nI kln)), (tlnc, iA G 63 gtln4217)]) hO hC hK hl hP hD hS hA (t_takesName l G K 6 h0 tby kt tln tsp kd14213 ks14214 kn14215 tf14216 fby (hkt) (by omega) (by omega) ((by decide))) si_X10_140 [0, 1] [2, 3] sm_0_1 fm_0_1 nd_0_1 sm_2_3 nd_2_3 dj_0_1__2_3 rfl rfl rfl rfl rfl (Nat.le_of_ble_eq_true rfl) rm_8_7_2 ⟨Nat.le_of_ble_eq_true rfl, Nat.le_of_ble_eq_true rfl⟩ gX10_takesHead_2.1 (fun r4220 => Ktu4 fun kd14222 ks14223 kn14224 tf14225 => ?_)
          intro H locs hr4220 hP hD hS
          try dsimp only at hr4220
          refine Kpdr (ws := [(tln, oX8 9 7 tlnc (nI kln)), (tlnc, iA G 63 gtln4217), (h0, oX10 tby (nI kt) tln tsp kd14222 (nI ks14223) (nI kn14224) tf14225), (tby, iA G 240 fby)]) hP hD (fun hP hD => ?_)
          obtain ⟨hr4220, w4226⟩ := hr4220
          rcases hr4220 with rfl | rfl
          · refine lv_if_eq (tgt := 83) hx hb gX10_takesHead_2.2.1 (by decide) (fun c9 => absurd c9 (by decide)) (fun _ => ?_)
            refine lv_aload_n hx hb gX10_takesHead_2.2.2.1 rfl (lv_at0 hl) ?_
            refine lv_iload_n hx hb gX10_takesHead_2.2.2.2.1 rfl (lv_at1 hl) ?_
            refine lv_iconst (v := 3) hx hb gX10_takesHead_2.2.2.2.2.1 (by decide) ?_
            refine lv_bipush (v := 7) hx hb gX10_takesHead_2.2.2.2.2.2.1 (by decide) ?_
            refine iV (wr := []) hC hK hl hP hD hS hA (t_takesNumber l G h0 li 3 7 tby kt tln tsp kd14222 ks14223 kn14224 tf14225 fby tlnc kln gtln4217 (hkt) (by omega) (by omega) (hkln)) si_X10_135 [2, 3, 0, 1] [] sm_2_3_0_1 fm_2_3_0_1 nd_2_3_0_1 rfl rfl (by decide) rfl rfl rfl rfl rfl (Nat.le_of_ble_eq_true rfl) rm_8_4_5 ⟨Nat.le_of_ble_eq_true rfl, Nat.le_of_ble_eq_true rfl⟩ gX10_takesHead_2.2.2.2.2.2.2.1 (fun r4228 => Ktu5 fun kd14230 ks14231 kn14232 tf14233 gtln4234 => ?_)
            intro H locs hr4228 hP hD hS
            try dsimp only at hr4228
            refine Kpdr (ws := [(h0, oX10 tby (nI kt) tln tsp kd14230 (nI ks14231) (nI kn14232) tf14233), (tby, iA G 240 fby), (tln, oX8 9 7 tlnc (nI kln)), (tlnc, iA G 63 gtln4234)]) hP hD (fun hP hD => ?_)
            obtain ⟨hr4228, w4235⟩ := hr4228
            rcases hr4228 with rfl | rfl
            · refine lv_if_eq (tgt := 83) hx hb gX10_takesHead_2.2.2.2.2.2.2.2.1 (by decide) (fun c9 => absurd c9 (by decide)) (fun _ => ?_)
              refine lv_iconst (v := 1) hx hb gX10_takesHead_2.2.2.2.2.2.2.2.2.1 (by decide) ?_
              refine lv_goto (tgt := 84) hx hb gX10_takesHead_2.2.2.2.2.2.2.2.2.2 (by decide) ?_
              refine toQ hQ0 ?_
              exact RI (v := 1) hC hP hD hS [0, 1, 2, 3] (kd14230, ks14231, kn14232, tf14233, gtln4234) rfl rfl (by decide) (⟨Or.inl (rfl), by dsimp only; omega⟩) (by decide +kernel) gX10_takesHead_3.2.1
            · refine lv_if_eq (tgt := 83) hx hb gX10_takesHead_2.2.2.2.2.2.2.2.1 (by decide) (fun _ => ?_) (fun c9 => absurd (by decide) c9)
              refine lv_iconst (v := 0) hx hb gX10_takesHead_3.1 (by decide) ?_
              refine toQ hQ0 ?_
              exact RI (v := 0) hC hP hD hS [0, 1, 2, 3] (kd14230, ks14231, kn14232, tf14233, gtln4234) rfl rfl (by decide) (⟨Or.inr (rfl), by dsimp only; omega⟩) (by decide +kernel) gX10_takesHead_3.2.1
          · refine lv_if_eq (tgt := 83) hx hb gX10_takesHead_2.2.1 (by decide) (fun _ => ?_) (fun c9 => absurd (by decide) c9)
            refine lv_iconst (v := 0) hx hb gX10_takesHead_3.1 (by decide) ?_
            refine toQ hQ0 ?_
            exact RI (v := 0) hC hP hD hS [2, 3, 0, 1] (kd14222, ks14223, kn14224, tf14225, gtln4217) rfl rfl (by decide) (⟨Or.inr (rfl), by dsimp only; omega⟩) (by decide +kernel) gX10_takesHead_3.2.1
        · refine lv_if_eq (tgt := 83) hx hb gX10_takesHead_1.2.2.2.2.2.2.2.1 (by decide) (fun _ => ?_) (fun c9 => absurd (by decide) c9)
          refine lv_iconst (v := 0) hx hb gX10_takesHead_3.1 (by decide) ?_
          refine toQ hQ0 ?_
          exact RI (v := 0) hC hP hD hS [0, 1, 2, 3] (kd14213, ks14214, kn14215, tf14216, gtln4217) rfl rfl (by decide) (⟨Or.inr (rfl), by dsimp only; omega⟩) (by decide +kernel) gX10_takesHead_3.2.1
      · refine lv_if_eq (tgt := 83) hx hb gX10_takesHead_1.2.1 (by decide) (fun _ => ?_) (fun c9 => absurd (by decide) c9)
        refine lv_iconst (v := 0) hx hb gX10_takesHead_3.1 (by decide) ?_
        refine toQ hQ0 ?_
        exact RI (v := 0) hC hP hD hS [2, 3, 0, 1] (kd14205, ks14206, kn14207, tf14208, gtln4200) rfl rfl (by decide) (⟨Or.inr (rfl), by dsimp only; omega⟩) (by decide +kernel) gX10_takesHead_3.2.1
    · refine lv_if_eq (tgt := 83) hx hb gX10_takesHead_0.2.2.2.2.2.2.2.1 (by decide) (fun _ => ?_) (fun c9 => absurd (by decide) c9)
      refine lv_iconst (v := 0) hx hb gX10_takesHead_3.1 (by decide) ?_
      refine toQ hQ0 ?_
      exact RI (v := 0) hC hP hD hS [0, 1, 2, 3] (kd14196, ks14197, kn14198, tf14199, gtln4200) rfl rfl (by decide) (⟨Or.inr (rfl), by dsimp only; omega⟩) (by decide +kernel) gX10_takesHead_3.2.1
  by_cases c_1_4237 : so = 1
  · refine lv_tableIn (tgt := 85) hx hb gX10_takesHead_0.2.1 (by rw [c_1_4237]; decide) (by rw [c_1_4237]; decide) (by rw [c_1_4237]; rfl) (by decide) ?_
    refine lv_aload_n hx hb gX10_takesHead_3.2.2.1 rfl (lv_at0 hl) ?_
    refine lv_iload_n hx hb gX10_takesHead_3.2.2.2.1 rfl (lv_at1 hl) ?_
    refine lv_iconst (v := 1) hx hb gX10_takesHead_3.2.2.2.2.1 (by decide) ?_
    refine lv_bipush (v := 99) hx hb gX10_takesHead_3.2.2.2.2.2.1 (by decide) ?_
    refine iV (wr := []) hC hK hl hP hD hS hA (t_takesNumber l G h0 li 1 99 tby kt tln tsp tkd ks kn tf9 fby tlnc kln ftln (hkt) (hks) (hkn) (hkln)) si_X10_135 [0, 1, 2, 3] [] sm_0_1_2_3 fm_0_1_2_3 nd_0_1_2_3 rfl rfl (by decide) rfl rfl rfl rfl rfl (Nat.le_of_ble_eq_true rfl) rm_8_4_5 ⟨Nat.le_of_ble_eq_true rfl, Nat.le_of_ble_eq_true rfl⟩ gX10_takesHead_3.2.2.2.2.2.2.1 (fun r4238 => Ktu5 fun kd14240 ks14241 kn14242 tf14243 gtln4244 => ?_)
    intro H locs hr4238 hP hD hS
    try dsimp only at hr4238
    refine Kpdr (ws := [(h0, oX10 tby (nI kt) tln tsp kd14240 (nI ks14241) (nI kn14242) tf14243), (tby, iA G 240 fby), (tln, oX8 9 7 tlnc (nI kln)), (tlnc, iA G 63 gtln4244)]) hP hD (fun hP hD => ?_)
    obtain ⟨hr4238, w4245⟩ := hr4238
    rcases hr4238 with rfl | rfl
    · refine toQ hQ0 ?_
      exact RI (v := 1) hC hP hD hS [0, 1, 2, 3] (kd14240, ks14241, kn14242, tf14243, gtln4244) rfl rfl (by decide) (⟨Or.inl (rfl), by dsimp only; omega⟩) (by decide +kernel) gX10_takesHead_3.2.2.2.2.2.2.2.1
    · refine toQ hQ0 ?_
      exact RI (v := 0) hC hP hD hS [0, 1, 2, 3] (kd14240, ks14241, kn14242, tf14243, gtln4244) rfl rfl (by decide) (⟨Or.inr (rfl), by dsimp only; omega⟩) (by decide +kernel) gX10_takesHead_3.2.2.2.2.2.2.2.1
  by_cases c_1_4247 : so = 2
  · refine lv_tableIn (tgt := 94) hx hb gX10_takesHead_0.2.1 (by rw [c_1_4247]; decide) (by rw [c_1_4247]; decide) (by rw [c_1_4247]; rfl) (by decide) ?_
    refine lv_aload_n hx hb gX10_takesHead_3.2.2.2.2.2.2.2.2.1 rfl (lv_at0 hl) ?_
    refine lv_iload_n hx hb gX10_takesHead_3.2.2.2.2.2.2.2.2.2 rfl (lv_at1 hl) ?_
    refine lv_iconst (v := 1) hx hb gX10_takesHead_4.1 (by decide) ?_
    refine lv_bipush (v := 7) hx hb gX10_takesHead_4.2.1 (by decide) ?_
    refine iV (wr := []) hC hK hl hP hD hS hA (t_takesNumber l G h0 li 1 7 tby kt tln tsp tkd ks kn tf9 fby tlnc kln ftln (hkt) (hks) (hkn) (hkln)) si_X10_135 [0, 1, 2, 3] [] sm_0_1_2_3 fm_0_1_2_3 nd_0_1_2_3 rfl rfl (by decide) rfl rfl rfl rfl rfl (Nat.le_of_ble_eq_true rfl) rm_8_4_5 ⟨Nat.le_of_ble_eq_true rfl, Nat.le_of_ble_eq_true rfl⟩ gX10_takesHead_4.2.2.1 (fun r4248 => Ktu5 fun kd14250 ks14251 kn14252 tf14253 gtln4254 => ?_)
    intro H locs hr4248 hP hD hS
    try dsimp only at hr4248
    refine Kpdr (ws := [(h0, oX10 tby (nI kt) tln tsp kd14250 (nI ks14251) (nI kn14252) tf14253), (tby, iA G 240 fby), (tln, oX8 9 7 tlnc (nI kln)), (tlnc, iA G 63 gtln4254)]) hP hD (fun hP hD => ?_)
    obtain ⟨hr4248, w4255⟩ := hr4248
    rcases hr4248 with rfl | rfl
    · refine lv_if_eq (tgt := 130) hx hb gX10_takesHead_4.2.2.2.1 (by decide) (fun c9 => absurd c9 (by decide)) (fun _ => ?_)
      refine lv_aload_n hx hb gX10_takesHead_4.2.2.2.2.1 rfl (lv_at0 hl) ?_
      refine va_ldcS (index := 145) (tx := "by") hx hb hown (hO.2.1 7 (by decide)) gX10_takesHead_4.2.2.2.2.2.1 ?_
      refine iVo (wr := [(tln, oX8 9 7 tlnc (nI kln)), (tlnc, iA G 63 gtln4254)]) hO hC hK hl hP hD hS hA (t_takesName l G K 7 h0 tby kt tln tsp kd14250 ks14251 kn14252 tf14253 fby (hkt) (by omega) (by omega) ((by decide))) si_X10_140 [0, 1] [2, 3] sm_0_1 fm_0_1 nd_0_1 sm_2_3 nd_2_3 dj_0_1__2_3 rfl rfl rfl rfl rfl (Nat.le_of_ble_eq_true rfl) rm_8_7_2 ⟨Nat.le_of_ble_eq_true rfl, Nat.le_of_ble_eq_true rfl⟩ gX10_takesHead_4.2.2.2.2.2.2.1 (fun r4257 => Ktu4 fun kd14259 ks14260 kn14261 tf14262 => ?_)
      intro H locs hr4257 hP hD hS
      try dsimp only at hr4257
      refine Kpdr (ws := [(tln, oX8 9 7 tlnc (nI kln)), (tlnc, iA G 63 gtln4254), (h0, oX10 tby (nI kt) tln tsp kd14259 (nI ks14260) (nI kn14261) tf14262), (tby, iA G 240 fby)]) hP hD (fun hP hD => ?_)
      obtain ⟨hr4257, w4263⟩ := hr4257
      rcases hr4257 with rfl | rfl
      · refine lv_if_eq (tgt := 130) hx hb gX10_takesHead_4.2.2.2.2.2.2.2.1 (by decide) (fun c9 => absurd c9 (by decide)) (fun _ => ?_)
        refine lv_aload_n hx hb gX10_takesHead_4.2.2.2.2.2.2.2.2.1 rfl (lv_at0 hl) ?_
        refine lv_iload_n hx hb gX10_takesHead_4.2.2.2.2.2.2.2.2.2 rfl (lv_at1 hl) ?_
        refine lv_iconst (v := 2) hx hb gX10_takesHead_5.1 (by decide) ?_
        refine lv_sipush (v := 999) hx hb gX10_takesHead_5.2.1 (by decide) ?_
        refine iV (wr := []) hC hK hl hP hD hS hA (t_takesNumber l G h0 li 2 999 tby kt tln tsp kd14259 ks14260 kn14261 tf14262 fby tlnc kln gtln4254 (hkt) (by omega) (by omega) (hkln)) si_X10_135 [2, 3, 0, 1] [] sm_2_3_0_1 fm_2_3_0_1 nd_2_3_0_1 rfl rfl (by decide) rfl rfl rfl rfl rfl (Nat.le_of_ble_eq_true rfl) rm_8_4_5 ⟨Nat.le_of_ble_eq_true rfl, Nat.le_of_ble_eq_true rfl⟩ gX10_takesHead_5.2.2.1 (fun r4265 => Ktu5 fun kd14267 ks14268 kn14269 tf14270 gtln4271 => ?_)
        intro H locs hr4265 hP hD hS
        try dsimp only at hr4265
        refine Kpdr (ws := [(h0, oX10 tby (nI kt) tln tsp kd14267 (nI ks14268) (nI kn14269) tf14270), (tby, iA G 240 fby), (tln, oX8 9 7 tlnc (nI kln)), (tlnc, iA G 63 gtln4271)]) hP hD (fun hP hD => ?_)
        obtain ⟨hr4265, w4272⟩ := hr4265
        rcases hr4265 with rfl | rfl
        · refine lv_if_eq (tgt := 130) hx hb gX10_takesHead_5.2.2.2.1 (by decide) (fun c9 => absurd c9 (by decide)) (fun _ => ?_)
          refine lv_iconst (v := 1) hx hb gX10_takesHead_5.2.2.2.2.1 (by decide) ?_
          refine lv_goto (tgt := 131) hx hb gX10_takesHead_5.2.2.2.2.2.1 (by decide) ?_
          refine toQ hQ0 ?_
          exact RI (v := 1) hC hP hD hS [0, 1, 2, 3] (kd14267, ks14268, kn14269, tf14270, gtln4271) rfl rfl (by decide) (⟨Or.inl (rfl), by dsimp only; omega⟩) (by decide +kernel) gX10_takesHead_5.2.2.2.2.2.2.2.1
        · refine lv_if_eq (tgt := 130) hx hb gX10_takesHead_5.2.2.2.1 (by decide) (fun _ => ?_) (fun c9 => absurd (by decide) c9)
          refine lv_iconst (v := 0) hx hb gX10_takesHead_5.2.2.2.2.2.2.1 (by decide) ?_
          refine toQ hQ0 ?_
          exact RI (v := 0) hC hP hD hS [0, 1, 2, 3] (kd14267, ks14268, kn14269, tf14270, gtln4271) rfl rfl (by decide) (⟨Or.inr (rfl), by dsimp only; omega⟩) (by decide +kernel) gX10_takesHead_5.2.2.2.2.2.2.2.1
      · refine lv_if_eq (tgt := 130) hx hb gX10_takesHead_4.2.2.2.2.2.2.2.1 (by decide) (fun _ => ?_) (fun c9 => absurd (by decide) c9)
        refine lv_iconst (v := 0) hx hb gX10_takesHead_5.2.2.2.2.2.2.1 (by decide) ?_
        refine toQ hQ0 ?_
        exact RI (v := 0) hC hP hD hS [2, 3, 0, 1] (kd14259, ks14260, kn14261, tf14262, gtln4254) rfl rfl (by decide) (⟨Or.inr (rfl), by dsimp only; omega⟩) (by decide +kernel) gX10_takesHead_5.2.2.2.2.2.2.2.1
    · refine lv_if_eq (tgt := 130) hx hb gX10_takesHead_4.2.2.2.1 (by decide) (fun _ => ?_) (fun c9 => absurd (by decide) c9)
      refine lv_iconst (v := 0) hx hb gX10_takesHead_5.2.2.2.2.2.2.1 (by decide) ?_
      refine toQ hQ0 ?_
      exact RI (v := 0) hC hP hD hS [0, 1, 2, 3] (kd14250, ks14251, kn14252, tf14253, gtln4254) rfl rfl (by decide) (⟨Or.inr (rfl), by dsimp only; omega⟩) (by decide +kernel) gX10_takesHead_5.2.2.2.2.2.2.2.1
  refine lv_tableOut (tgt := 132) hx hb gX10_takesHead_0.2.1 (by have q9 := sw_0_2 (x := so); simp only [c_1_4193, c_1_4237, c_1_4247, not_false_eq_true, true_implies] at q9; exact q9) (by decide) ?_
  refine lv_aload_n hx hb gX10_takesHead_5.2.2.2.2.2.2.2.2.1 rfl (lv_at0 hl) ?_
  refine lv_iload_n hx hb gX10_takesHead_5.2.2.2.2.2.2.2.2.2 rfl (lv_at1 hl) ?_
  refine lv_iconst (v := 1) hx hb gX10_takesHead_6.1 (by decide) ?_
  refine lv_bipush (v := 9) hx hb gX10_takesHead_6.2.1 (by decide) ?_
  refine iV (wr := []) hC hK hl hP hD hS hA (t_takesNumber l G h0 li 1 9 tby kt tln tsp tkd ks kn tf9 fby tlnc kln ftln (hkt) (hks) (hkn) (hkln)) si_X10_135 [0, 1, 2, 3] [] sm_0_1_2_3 fm_0_1_2_3 nd_0_1_2_3 rfl rfl (by decide) rfl rfl rfl rfl rfl (Nat.le_of_ble_eq_true rfl) rm_8_4_5 ⟨Nat.le_of_ble_eq_true rfl, Nat.le_of_ble_eq_true rfl⟩ gX10_takesHead_6.2.2.1 (fun r4274 => Ktu5 fun kd14276 ks14277 kn14278 tf14279 gtln4280 => ?_)
  intro H locs hr4274 hP hD hS
  try dsimp only at hr4274
  refine Kpdr (ws := [(h0, oX10 tby (nI kt) tln tsp kd14276 (nI ks14277) (nI kn14278) tf14279), (tby, iA G 240 fby), (tln, oX8 9 7 tlnc (nI kln)), (tlnc, iA G 63 gtln4280)]) hP hD (fun hP hD => ?_)
  obtain ⟨hr4274, w4281⟩ := hr4274
  rcases hr4274 with rfl | rfl
  · refine toQ hQ0 ?_
    exact RI (v := 1) hC hP hD hS [0, 1, 2, 3] (kd14276, ks14277, kn14278, tf14279, gtln4280) rfl rfl (by decide) (⟨Or.inl (rfl), by dsimp only; omega⟩) (by decide +kernel) gX10_takesHead_6.2.2.2
  · refine toQ hQ0 ?_
    exact RI (v := 0) hC hP hD hS [0, 1, 2, 3] (kd14276, ks14277, kn14278, tf14279, gtln4280) rfl rfl (by decide) (⟨Or.inr (rfl), by dsimp only; omega⟩) (by decide +kernel) gX10_takesHead_6.2.2.2
def K_t_takesLine (l : Launch) (G : GG) (K : OO) (h0 : Nat) (tby : Nat) (kt : Nat) (tln : Nat) (tsp : Nat) (tkd : Int32) (ks : Nat) (kn : Nat) (tf9 : Int32) (fby : Nat → Int32) (tlnc : Nat) (kln : Nat) (ftln : Nat → Int32) (tspc : Nat) (ksp : Nat) (ftsp : Nat → Int32) : Prop := MIo l G K yX10_takesLine cX10_takesLine 3 (some .boolean) 30 0 0 [.ref h0] [(h0, oX10 tby (nI kt) tln tsp tkd (nI ks) (nI kn) tf9), (tby, iA G 240 fby), (tln, oX8 9 7 tlnc (nI kln)), (tlnc, iA G 63 ftln), (tsp, oX8 120 1 tspc (nI ksp)), (tspc, iA G 120 ftsp)] (fun (r : Int32) (u : Int32 × Nat × Nat × Int32 × Nat × (Nat → Int32) × Nat × (Nat → Int32)) => (r = 1 ∨ r = 0) ∧ (u.2.1 ≤ 240 ∧ u.2.2.1 ≤ 240 ∧ u.2.2.2.2.1 ≤ 9 ∧ u.2.2.2.2.2.2.1 ≤ 120)) (fun u : Int32 × Nat × Nat × Int32 × Nat × (Nat → Int32) × Nat × (Nat → Int32) => [(h0, oX10 tby (nI kt) tln tsp u.1 (nI u.2.1) (nI u.2.2.1) u.2.2.2.1), (tby, iA G 240 fby), (tln, oX8 9 7 tlnc (nI u.2.2.2.2.1)), (tlnc, iA G 63 u.2.2.2.2.2.1), (tsp, oX8 120 1 tspc (nI u.2.2.2.2.2.2.1)), (tspc, iA G 120 u.2.2.2.2.2.2.2)])
set_option maxHeartbeats 4000000 in
set_option maxRecDepth 100000 in
theorem t_takesLine (l : Launch) (G : GG) (K : OO) (h0 : Nat) (tby : Nat) (kt : Nat) (tln : Nat) (tsp : Nat) (tkd : Int32) (ks : Nat) (kn : Nat) (tf9 : Int32) (fby : Nat → Int32) (tlnc : Nat) (kln : Nat) (ftln : Nat → Int32) (tspc : Nat) (ksp : Nat) (ftsp : Nat → Int32) (hkt : kt ≤ 240) (hks : ks ≤ 240) (hkn : kn ≤ 240) (hkln : kln ≤ 9) (hksp : ksp ≤ 120) : K_t_takesLine l G K h0 tby kt tln tsp tkd ks kn tf9 fby tlnc kln ftln tspc ksp ftsp := by
  refine MIo.start (by decide +kernel) (Nat.le_of_ble_eq_true rfl) ?_
  intro p e s m below meth c A ls hC hK hP hD hS hA hl hO
  refine absQ (fun Q0 hQ0 => ?_)
  have hl : lv_has ls 3 [(0, .ref h0)] := hl
  refine Kan8 hC (fun hx hb hr hml hB hown hlocks hnm => ?_)
  refine lv_aload_n hx hb gX10_takesLine_0.1 rfl (lv_at0 hl) ?_
  refine gf_X10_20 hC rfl hK hP 0 rfl rfl gX10_takesLine_0.2.1 ?_
  rcases Nat.lt_or_ge kln 9 with hcap9 | hcap9
  · refine iV (wr := [(h0, oX10 tby (nI kt) tln tsp tkd (nI ks) (nI kn) tf9), (tby, iA G 240 fby), (tlnc, iA G 63 ftln), (tsp, oX8 120 1 tspc (nI ksp)), (tspc, iA G 120 ftsp)]) hC hK hl hP hD hS hA (c_T_append l G tln 9 7 tlnc kln (by omega) (by omega)) si_X10_59 [2] [0, 1, 3, 4, 5] sm_2 fm_2 nd_2 sm_0_1_3_4_5 nd_0_1_3_4_5 dj_2__0_1_3_4_5 rfl rfl rfl rfl rfl (Nat.le_of_ble_eq_true rfl) rm_30_1_1 ⟨Nat.le_of_ble_eq_true rfl, Nat.le_of_ble_eq_true rfl⟩ gX10_takesLine_0.2.2.1 (fun r4283 u4284 H locs hr4283 hP hD hS => ?_)
    refine Kpdr (ws := [(h0, oX10 tby (nI kt) tln tsp tkd (nI ks) (nI kn) tf9), (tby, iA G 240 fby), (tlnc, iA G 63 ftln), (tsp, oX8 120 1 tspc (nI ksp)), (tspc, iA G 120 ftsp), (tln, oX8 9 7 tlnc (nI (kln + 1)))]) hP hD (fun hP hD => ?_)
    obtain rfl := hr4283
    refine lv_istore_n (lv' := [(1, .int (nI kln)), (0, .ref h0)]) hx hb gX10_takesLine_0.2.2.2.1 rfl hl (by decide) rfl (fun ls hl => ?_)
    refine lv_iload_n hx hb gX10_takesLine_0.2.2.2.2.1 rfl (lv_at0 hl) ?_
    refine lv_if_ge (tgt := 17) hx hb gX10_takesLine_0.2.2.2.2.2.1 (by decide) (fun _ => ?_) (fun c9 => absurd (nI_pos' (by omega)) c9)
    refine lv_iconst (v := 1) hx hb gX10_takesLine_0.2.2.2.2.2.2.2.2.2 (by decide) ?_
    refine lv_istore_n (lv' := [(2, .int 1), (1, .int (nI kln)), (0, .ref h0)]) hx hb gX10_takesLine_1.1 rfl hl (by decide) rfl (fun ls hl => ?_)
    refine lv_iload_n hx hb gX10_takesLine_1.2.1 rfl (lv_at0 hl) ?_
    refine lv_iconst (v := 3) hx hb gX10_takesLine_1.2.2.1 (by decide) ?_
    refine lv_icmp_gt (tgt := 41) hx hb gX10_takesLine_1.2.2.2.1 (by decide) (fun c9 => absurd c9 (by decide)) (fun _ => ?_)
    refine lv_aload_n hx hb gX10_takesLine_1.2.2.2.2.1 rfl (lv_at2 hl) ?_
    refine gf_X10_20 hC rfl hK hP 0 rfl rfl gX10_takesLine_1.2.2.2.2.2.1 ?_
    refine lv_iload_n hx hb gX10_takesLine_1.2.2.2.2.2.2.1 rfl (lv_at1 hl) ?_
    refine lv_iload_n hx hb gX10_takesLine_1.2.2.2.2.2.2.2.1 rfl (lv_at0 hl) ?_
    refine lv_bipush (v := (-9)) hx hb gX10_takesLine_1.2.2.2.2.2.2.2.2.1 (by decide) ?_
    refine vV (wr := [(h0, oX10 tby (nI kt) tln tsp tkd (nI ks) (nI kn) tf9), (tby, iA G 240 fby), (tsp, oX8 120 1 tspc (nI ksp)), (tspc, iA G 120 ftsp)]) hC hK hl hP hD hS hA (c_T_set l G tln (nI kln) 1 (-9) 9 7 tlnc (kln + 1) ftln (by omega) (by omega) (by omega)) si_X10_66 [5, 2] [0, 1, 3, 4] sm_5_2 fm_5_2 nd_5_2 sm_0_1_3_4 nd_0_1_3_4 dj_5_2__0_1_3_4 rfl rfl rfl rfl rfl (Nat.le_of_ble_eq_true rfl) rm_30_1_4 ⟨Nat.le_of_ble_eq_true rfl, Nat.le_of_ble_eq_true rfl⟩ gX10_takesLine_1.2.2.2.2.2.2.2.2.2 (fun f14288 H locs hr4286 hP hD hS => ?_)
    try dsimp only at hr4286
    refine Kpdr (ws := [(h0, oX10 tby (nI kt) tln tsp tkd (nI ks) (nI kn) tf9), (tby, iA G 240 fby), (tsp, oX8 120 1 tspc (nI ksp)), (tspc, iA G 120 ftsp), (tln, oX8 9 7 tlnc (nI (kln + 1))), (tlnc, iA G 63 f14288)]) hP hD (fun hP hD => ?_)
    have w4289 := hr4286
    refine lv_iinc (v := 2) (lv' := [(2, .int 2), (1, .int (nI kln)), (0, .ref h0)]) hx hb gX10_takesLine_2.1 hl (k := 0) rfl (by decide) (by decide) rfl (fun ls hl => ?_)
    refine lv_goto (tgt := 19) hx hb gX10_takesLine_2.2.1 (by decide) ?_
    refine lv_iload_n hx hb gX10_takesLine_1.2.1 rfl (lv_at0 hl) ?_
    refine lv_iconst (v := 3) hx hb gX10_takesLine_1.2.2.1 (by decide) ?_
    refine lv_icmp_gt (tgt := 41) hx hb gX10_takesLine_1.2.2.2.1 (by decide) (fun c9 => absurd c9 (by decide)) (fun _ => ?_)
    refine lv_aload_n hx hb gX10_takesLine_1.2.2.2.2.1 rfl (lv_at2 hl) ?_
    refine gf_X10_20 hC rfl hK hP 0 rfl rfl gX10_takesLine_1.2.2.2.2.2.1 ?_
    refine lv_iload_n hx hb gX10_takesLine_1.2.2.2.2.2.2.1 rfl (lv_at1 hl) ?_
    refine lv_iload_n hx hb gX10_takesLine_1.2.2.2.2.2.2.2.1 rfl (lv_at0 hl) ?_
    refine lv_bipush (v := (-9)) hx hb gX10_takesLine_1.2.2.2.2.2.2.2.2.1 (by decide) ?_
    refine vV (wr := [(h0, oX10 tby (nI kt) tln tsp tkd (nI ks) (nI kn) tf9), (tby, iA G 240 fby), (tsp, oX8 120 1 tspc (nI ksp)), (tspc, iA G 120 ftsp)]) hC hK hl hP hD hS hA (c_T_set l G tln (nI kln) 2 (-9) 9 7 tlnc (kln + 1) f14288 (by omega) (by omega) (by omega)) si_X10_66 [4, 5] [0, 1, 2, 3] sm_4_5 fm_4_5 nd_4_5 sm_0_1_2_3 nd_0_1_2_3 dj_4_5__0_1_2_3 rfl rfl rfl rfl rfl (Nat.le_of_ble_eq_true rfl) rm_30_1_4 ⟨Nat.le_of_ble_eq_true rfl, Nat.le_of_ble_eq_true rfl⟩ gX10_takesLine_1.2.2.2.2.2.2.2.2.2 (fun f14292 H locs hr4290 hP hD hS => ?_)
    try dsimp only at hr4290
    refine Kpdr (ws := [(h0, oX10 tby (nI kt) tln tsp tkd (nI ks) (nI kn) tf9), (tby, iA G 240 fby), (tsp, oX8 120 1 tspc (nI ksp)), (tspc, iA G 120 ftsp), (tln, oX8 9 7 tlnc (nI (kln + 1))), (tlnc, iA G 63 f14292)]) hP hD (fun hP hD => ?_)
    have w4293 := hr4290
    refine lv_iinc (v := 3) (lv' := [(2, .int 3), (1, .int (nI kln)), (0, .ref h0)]) hx hb gX10_takesLine_2.1 hl (k := 0) rfl (by decide) (by decide) rfl (fun ls hl => ?_)
    refine lv_goto (tgt := 19) hx hb gX10_takesLine_2.2.1 (by decide) ?_
    refine lv_iload_n hx hb gX10_takesLine_1.2.1 rfl (lv_at0 hl) ?_
    refine lv_iconst (v := 3) hx hb gX10_takesLine_1.2.2.1 (by decide) ?_
    refine lv_icmp_gt (tgt := 41) hx hb gX10_takesLine_1.2.2.2.1 (by decide) (fun c9 => absurd c9 (by decide)) (fun _ => ?_)
    refine lv_aload_n hx hb gX10_takesLine_1.2.2.2.2.1 rfl (lv_at2 hl) ?_
    refine gf_X10_20 hC rfl hK hP 0 rfl rfl gX10_takesLine_1.2.2.2.2.2.1 ?_
    refine lv_iload_n hx hb gX10_takesLine_1.2.2.2.2.2.2.1 rfl (lv_at1 hl) ?_
    refine lv_iload_n hx hb gX10_takesLine_1.2.2.2.2.2.2.2.1 rfl (lv_at0 hl) ?_
    refine lv_bipush (v := (-9)) hx hb gX10_takesLine_1.2.2.2.2.2.2.2.2.1 (by decide) ?_
    refine vV (wr := [(h0, oX10 tby (nI kt) tln tsp tkd (nI ks) (nI kn) tf9), (tby, iA G 240 fby), (tsp, oX8 120 1 tspc (nI ksp)), (tspc, iA G 120 ftsp)]) hC hK hl hP hD hS hA (c_T_set l G tln (nI kln) 3 (-9) 9 7 tlnc (kln + 1) f14292 (by omega) (by omega) (by omega)) si_X10_66 [4, 5] [0, 1, 2, 3] sm_4_5 fm_4_5 nd_4_5 sm_0_1_2_3 nd_0_1_2_3 dj_4_5__0_1_2_3 rfl rfl rfl rfl rfl (Nat.le_of_ble_eq_true rfl) rm_30_1_4 ⟨Nat.le_of_ble_eq_true rfl, Nat.le_of_ble_eq_true rfl⟩ gX10_takesLine_1.2.2.2.2.2.2.2.2.2 (fun f14296 H locs hr4294 hP hD hS => ?_)
    try dsimp only at hr4294
    refine Kpdr (ws := [(h0, oX10 tby (nI kt) tln tsp tkd (nI ks) (nI kn) tf9), (tby, iA G 240 fby), (tsp, oX8 120 1 tspc (nI ksp)), (tspc, iA G 120 ftsp), (tln, oX8 9 7 tlnc (nI (kln + 1))), (tlnc, iA G 63 f14296)]) hP hD (fun hP hD => ?_)
    have w4297 := hr4294
    refine lv_iinc (v := 4) (lv' := [(2, .int 4), (1, .int (nI kln)), (0, .ref h0)]) hx hb gX10_takesLine_2.1 hl (k := 0) rfl (by decide) (by decide) rfl (fun ls hl => ?_)
    refine lv_goto (tgt := 19) hx hb gX10_takesLine_2.2.1 (by decide) ?_
    refine lv_iload_n hx hb gX10_takesLine_1.2.1 rfl (lv_at0 hl) ?_
    refine lv_iconst (v := 3) hx hb gX10_takesLine_1.2.2.1 (by decide) ?_
    refine lv_icmp_gt (tgt := 41) hx hb gX10_takesLine_1.2.2.2.1 (by decide) (fun _ => ?_) (fun c9 => absurd (by decide) c9)
    refine lv_aload_n hx hb gX10_takesLine_2.2.2.1 rfl (lv_at2 hl) ?_
    refine gf_X10_20 hC rfl hK hP 0 rfl rfl gX10_takesLine_2.2.2.2.1 ?_
    refine lv_iload_n hx hb gX10_takesLine_2.2.2.2.2.1 rfl (lv_at1 hl) ?_
    refine lv_iconst (v := 4) hx hb gX10_takesLine_2.2.2.2.2.2.1 (by decide) ?_
    refine lv_iconst (v := 0) hx hb gX10_takesLine_2.2.2.2.2.2.2.1 (by decide) ?_
    refine vV (wr := [(h0, oX10 tby (nI kt) tln tsp tkd (nI ks) (nI kn) tf9), (tby, iA G 240 fby), (tsp, oX8 120 1 tspc (nI ksp)), (tspc, iA G 120 ftsp)]) hC hK hl hP hD hS hA (c_T_set l G tln (nI kln) 4 0 9 7 tlnc (kln + 1) f14296 (by omega) (by omega) (by omega)) si_X10_66 [4, 5] [0, 1, 2, 3] sm_4_5 fm_4_5 nd_4_5 sm_0_1_2_3 nd_0_1_2_3 dj_4_5__0_1_2_3 rfl rfl rfl rfl rfl (Nat.le_of_ble_eq_true rfl) rm_30_1_4 ⟨Nat.le_of_ble_eq_true rfl, Nat.le_of_ble_eq_true rfl⟩ gX10_takesLine_2.2.2.2.2.2.2.2.1 (fun f14300 H locs hr4298 hP hD hS => ?_)
    try dsimp only at hr4298
    refine Kpdr (ws := [(h0, oX10 tby (nI kt) tln tsp tkd (nI ks) (nI kn) tf9), (tby, iA G 240 fby), (tsp, oX8 120 1 tspc (nI ksp)), (tspc, iA G 120 ftsp), (tln, oX8 9 7 tlnc (nI (kln + 1))), (tlnc, iA G 63 f14300)]) hP hD (fun hP hD => ?_)
    have w4301 := hr4298
    refine lv_aload_n hx hb gX10_takesLine_2.2.2.2.2.2.2.2.2.1 rfl (lv_at2 hl) ?_
    refine gf_X10_20 hC rfl hK hP 0 rfl rfl gX10_takesLine_2.2.2.2.2.2.2.2.2.2 ?_
    refine lv_iload_n hx hb gX10_takesLine_3.1 rfl (lv_at1 hl) ?_
    refine lv_iconst (v := 5) hx hb gX10_takesLine_3.2.1 (by decide) ?_
    refine lv_aload_n hx hb gX10_takesLine_3.2.2.1 rfl (lv_at2 hl) ?_
    refine gf_X10_24 hC rfl hK hP 0 rfl rfl gX10_takesLine_3.2.2.2.1 ?_
    refine pV hC hK hl hP hD (c_T_count l G tsp 120 1 tspc ksp) si_X10_71 [2] sm_2 fm_2 nd_2 rfl rfl rfl rfl rfl (Nat.le_of_ble_eq_true rfl) rm_30_1_1 ⟨by first | exact Nat.le_of_ble_eq_true rfl | exact Nat.zero_le _, by first | exact Nat.le_of_ble_eq_true rfl | exact Nat.zero_le _⟩ gX10_takesLine_3.2.2.2.2.1 (Keqr ?_)
    refine vV (wr := [(h0, oX10 tby (nI kt) tln tsp tkd (nI ks) (nI kn) tf9), (tby, iA G 240 fby), (tsp, oX8 120 1 tspc (nI ksp)), (tspc, iA G 120 ftsp)]) hC hK hl hP hD hS hA (c_T_set l G tln (nI kln) 5 (nI ksp) 9 7 tlnc (kln + 1) f14300 (by omega) (by omega) (by omega)) si_X10_66 [4, 5] [0, 1, 2, 3] sm_4_5 fm_4_5 nd_4_5 sm_0_1_2_3 nd_0_1_2_3 dj_4_5__0_1_2_3 rfl rfl rfl rfl rfl (Nat.le_of_ble_eq_true rfl) rm_30_1_4 ⟨Nat.le_of_ble_eq_true rfl, Nat.le_of_ble_eq_true rfl⟩ gX10_takesLine_3.2.2.2.2.2.1 (fun f14306 H locs hr4304 hP hD hS => ?_)
    try dsimp only at hr4304
    refine Kpdr (ws := [(h0, oX10 tby (nI kt) tln tsp tkd (nI ks) (nI kn) tf9), (tby, iA G 240 fby), (tsp, oX8 120 1 tspc (nI ksp)), (tspc, iA G 120 ftsp), (tln, oX8 9 7 tlnc (nI (kln + 1))), (tlnc, iA G 63 f14306)]) hP hD (fun hP hD => ?_)
    have w4307 := hr4304
    refine lv_aload_n hx hb gX10_takesLine_3.2.2.2.2.2.2.1 rfl (lv_at2 hl) ?_
    refine gf_X10_20 hC rfl hK hP 0 rfl rfl gX10_takesLine_3.2.2.2.2.2.2.2.1 ?_
    refine lv_iload_n hx hb gX10_takesLine_3.2.2.2.2.2.2.2.2.1 rfl (lv_at1 hl) ?_
    refine lv_bipush (v := 6) hx hb gX10_takesLine_3.2.2.2.2.2.2.2.2.2 (by decide) ?_
    refine lv_iconst (v := 0) hx hb gX10_takesLine_4.1 (by decide) ?_
    refine vV (wr := [(h0, oX10 tby (nI kt) tln tsp tkd (nI ks) (nI kn) tf9), (tby, iA G 240 fby), (tsp, oX8 120 1 tspc (nI ksp)), (tspc, iA G 120 ftsp)]) hC hK hl hP hD hS hA (c_T_set l G tln (nI kln) 6 0 9 7 tlnc (kln + 1) f14306 (by omega) (by omega) (by omega)) si_X10_66 [4, 5] [0, 1, 2, 3] sm_4_5 fm_4_5 nd_4_5 sm_0_1_2_3 nd_0_1_2_3 dj_4_5__0_1_2_3 rfl rfl rfl rfl rfl (Nat.le_of_ble_eq_true rfl) rm_30_1_4 ⟨Nat.le_of_ble_eq_true rfl, Nat.le_of_ble_eq_true rfl⟩ gX10_takesLine_4.2.1 (fun f14310 H locs hr4308 hP hD hS => ?_)
    try dsimp only at hr4308
    refine Kpdr (ws := [(h0, oX10 tby (nI kt) tln tsp tkd (nI ks) (nI kn) tf9), (tby, iA G 240 fby), (tsp, oX8 120 1 tspc (nI ksp)), (tspc, iA G 120 ftsp), (tln, oX8 9 7 tlnc (nI (kln + 1))), (tlnc, iA G 63 f14310)]) hP hD (fun hP hD => ?_)
    have w4311 := hr4308
    refine lv_aload_n hx hb gX10_takesLine_4.2.2.1 rfl (lv_at2 hl) ?_
    refine pVo hO hS hC hK hl hP hD (t_sortHere l G K h0 tby kt tln tsp tkd ks kn tf9 fby (hkt) (hks) (hkn)) si_X10_112 [0, 1] sm_0_1 fm_0_1 nd_0_1 rfl rfl rfl rfl rfl (Nat.le_of_ble_eq_true rfl) rm_30_7_1 ⟨by first | exact Nat.le_of_ble_eq_true rfl | exact Nat.zero_le _, by first | exact Nat.le_of_ble_eq_true rfl | exact Nat.zero_le _⟩ gX10_takesLine_4.2.2.2.1 (fun r4312 hr4312 => ?_)
    refine lv_istore_n (lv' := [(2, .int r4312), (1, .int (nI kln)), (0, .ref h0)]) hx hb gX10_takesLine_4.2.2.2.2.1 rfl hl (by decide) rfl (fun ls hl => ?_)
    refine lv_iload_n hx hb gX10_takesLine_4.2.2.2.2.2.1 rfl (lv_at0 hl) ?_
    refine lv_if_ge (tgt := 92) hx hb gX10_takesLine_4.2.2.2.2.2.2.1 (by decide) (fun c_84_4313 => ?_) (fun c_84_4313 => ?_)
    · refine lv_aload_n hx hb gX10_takesLine_5.1 rfl (lv_at2 hl) ?_
      refine gf_X10_20 hC rfl hK hP 0 rfl rfl gX10_takesLine_5.2.1 ?_
      refine lv_iload_n hx hb gX10_takesLine_5.2.2.1 rfl (lv_at1 hl) ?_
      refine lv_iconst (v := 0) hx hb gX10_takesLine_5.2.2.2.1 (by decide) ?_
      refine lv_iload_n hx hb gX10_takesLine_5.2.2.2.2.1 rfl (lv_at0 hl) ?_
      refine vV (wr := [(h0, oX10 tby (nI kt) tln tsp tkd (nI ks) (nI kn) tf9), (tby, iA G 240 fby), (tsp, oX8 120 1 tspc (nI ksp)), (tspc, iA G 120 ftsp)]) hC hK hl hP hD hS hA (c_T_set l G tln (nI kln) 0 r4312 9 7 tlnc (kln + 1) f14310 (by omega) (by omega) (by omega)) si_X10_66 [4, 5] [0, 1, 2, 3] sm_4_5 fm_4_5 nd_4_5 sm_0_1_2_3 nd_0_1_2_3 dj_4_5__0_1_2_3 rfl rfl rfl rfl rfl (Nat.le_of_ble_eq_true rfl) rm_30_1_4 ⟨Nat.le_of_ble_eq_true rfl, Nat.le_of_ble_eq_true rfl⟩ gX10_takesLine_5.2.2.2.2.2.1 (fun f14316 H locs hr4314 hP hD hS => ?_)
      try dsimp only at hr4314
      refine Kpdr (ws := [(h0, oX10 tby (nI kt) tln tsp tkd (nI ks) (nI kn) tf9), (tby, iA G 240 fby), (tsp, oX8 120 1 tspc (nI ksp)), (tspc, iA G 120 ftsp), (tln, oX8 9 7 tlnc (nI (kln + 1))), (tlnc, iA G 63 f14316)]) hP hD (fun hP hD => ?_)
      have w4317 := hr4314
      refine lv_aload_n hx hb gX10_takesLine_5.2.2.2.2.2.2.1 rfl (lv_at2 hl) ?_
      refine vV (wr := [(tsp, oX8 120 1 tspc (nI ksp)), (tspc, iA G 120 ftsp), (tln, oX8 9 7 tlnc (nI (kln + 1))), (tlnc, iA G 63 f14316)]) hC hK hl hP hD hS hA (t_advance l G h0 tby kt tln tsp tkd ks kn tf9 fby (hkt) (hks) (hkn)) si_X10_47 [0, 1] [2, 3, 4, 5] sm_0_1 fm_0_1 nd_0_1 sm_2_3_4_5 nd_2_3_4_5 dj_0_1__2_3_4_5 rfl rfl rfl rfl rfl (Nat.le_of_ble_eq_true rfl) rm_30_3_1 ⟨Nat.le_of_ble_eq_true rfl, Nat.le_of_ble_eq_true rfl⟩ gX10_takesLine_5.2.2.2.2.2.2.2.1 (Ktu3 fun kd14320 ks14321 kn14322 => ?_)
      intro H locs hr4318 hP hD hS
      try dsimp only at hr4318
      refine Kpdr (ws := [(tsp, oX8 120 1 tspc (nI ksp)), (tspc, iA G 120 ftsp), (tln, oX8 9 7 tlnc (nI (kln + 1))), (tlnc, iA G 63 f14316), (h0, oX10 tby (nI kt) tln tsp kd14320 (nI ks14321) (nI kn14322) tf9), (tby, iA G 240 fby)]) hP hD (fun hP hD => ?_)
      have w4323 := hr4318
      refine lv_aload_n hx hb gX10_takesLine_5.2.2.2.2.2.2.2.2.1 rfl (lv_at2 hl) ?_
      refine lv_iload_n hx hb gX10_takesLine_5.2.2.2.2.2.2.2.2.2 rfl (lv_at1 hl) ?_
      refine lv_iload_n hx hb gX10_takesLine_6.1 rfl (lv_at0 hl) ?_
      refine iVo (wr := [(tsp, oX8 120 1 tspc (nI ksp)), (tspc, iA G 120 ftsp)]) hO hC hK hl hP hD hS hA (t_takesHead l G K h0 (nI kln) r4312 tby kt tln tsp kd14320 ks14321 kn14322 tf9 fby tlnc (kln + 1) f14316 (hkt) (by omega) (by omega) (by omega)) si_X10_115 [4, 5, 2, 3] [0, 1] sm_4_5_2_3 fm_4_5_2_3 nd_4_5_2_3 sm_0_1 nd_0_1 dj_4_5_2_3__0_1 rfl rfl rfl rfl rfl (Nat.le_of_ble_eq_true rfl) rm_30_8_3 ⟨Nat.le_of_ble_eq_true rfl, Nat.le_of_ble_eq_true rfl⟩ gX10_takesLine_6.2.1 (fun r4324 => Ktu5 fun kd14326 ks14327 kn14328 tf14329 gtln4330 => ?_)
      intro H locs hr4324 hP hD hS
      try dsimp only at hr4324
      refine Kpdr (ws := [(tsp, oX8 120 1 tspc (nI ksp)), (tspc, iA G 120 ftsp), (h0, oX10 tby (nI kt) tln tsp kd14326 (nI ks14327) (nI kn14328) tf14329), (tby, iA G 240 fby), (tln, oX8 9 7 tlnc (nI (kln + 1))), (tlnc, iA G 63 gtln4330)]) hP hD (fun hP hD => ?_)
      obtain ⟨hr4324, w4331⟩ := hr4324
      rcases hr4324 with rfl | rfl
      · refine lv_if_ne (tgt := 117) hx hb gX10_takesLine_6.2.2.1 (by decide) (fun _ => ?_) (fun c9 => absurd c9 (by decide))
        refine lv_iload_n hx hb gX10_takesLine_6.2.2.2.2.2.1 rfl (lv_at0 hl) ?_
        refine lv_iconst (v := 3) hx hb gX10_takesLine_6.2.2.2.2.2.2.1 (by decide) ?_
        refine lv_icmp_eq (tgt := 182) hx hb gX10_takesLine_6.2.2.2.2.2.2.2.1 (by decide) (fun c_119_4333 => ?_) (fun c_119_4333 => ?_)
        · refine lv_aload_n hx hb gX10_takesLine_10.1 rfl (lv_at2 hl) ?_
          refine lv_bipush (v := 59) hx hb gX10_takesLine_10.2.1 (by decide) ?_
          refine iV (wr := [(tsp, oX8 120 1 tspc (nI ksp)), (tspc, iA G 120 ftsp), (tln, oX8 9 7 tlnc (nI (kln + 1))), (tlnc, iA G 63 gtln4330)]) hC hK hl hP hD hS hA (t_takesByte l G h0 59 tby kt tln tsp kd14326 ks14327 kn14328 tf14329 fby (hkt) (by omega) (by omega)) si_X10_124 [2, 3] [0, 1, 4, 5] sm_2_3 fm_2_3 nd_2_3 sm_0_1_4_5 nd_0_1_4_5 dj_2_3__0_1_4_5 rfl rfl rfl rfl rfl (Nat.le_of_ble_eq_true rfl) rm_30_4_2 ⟨Nat.le_of_ble_eq_true rfl, Nat.le_of_ble_eq_true rfl⟩ gX10_takesLine_10.2.2.1 (fun r4334 => Ktu4 fun kd14336 ks14337 kn14338 tf14339 => ?_)
          intro H locs hr4334 hP hD hS
          try dsimp only at hr4334
          refine Kpdr (ws := [(tsp, oX8 120 1 tspc (nI ksp)), (tspc, iA G 120 ftsp), (tln, oX8 9 7 tlnc (nI (kln + 1))), (tlnc, iA G 63 gtln4330), (h0, oX10 tby (nI kt) tln tsp kd14336 (nI ks14337) (nI kn14338) tf14339), (tby, iA G 240 fby)]) hP hD (fun hP hD => ?_)
          obtain ⟨hr4334, w4340⟩ := hr4334
          rcases hr4334 with rfl | rfl
          · refine toQ hQ0 ?_
            exact RI (v := 1) hC hP hD hS [4, 5, 2, 3, 0, 1] (kd14336, ks14337, kn14338, tf14339, (kln + 1), gtln4330, ksp, ftsp) rfl rfl (by decide) (⟨Or.inl (rfl), by dsimp only; omega⟩) (by decide +kernel) gX10_takesLine_10.2.2.2
          · refine toQ hQ0 ?_
            exact RI (v := 0) hC hP hD hS [4, 5, 2, 3, 0, 1] (kd14336, ks14337, kn14338, tf14339, (kln + 1), gtln4330, ksp, ftsp) rfl rfl (by decide) (⟨Or.inr (rfl), by dsimp only; omega⟩) (by decide +kernel) gX10_takesLine_10.2.2.2
        · refine lv_aload_n hx hb gX10_takesLine_6.2.2.2.2.2.2.2.2.1 rfl (lv_at2 hl) ?_
          refine va_ldcS (index := 119) (tx := "if") hx hb hown (hO.2.1 0 (by decide)) gX10_takesLine_6.2.2.2.2.2.2.2.2.2 ?_
          refine pVo hO hS hC hK hl hP hD (t_isName l G K 0 h0 tby kt tln tsp kd14326 ks14327 kn14328 tf14329 fby (hkt) (by omega) (by omega) ((by decide))) si_X10_102 [2, 3] sm_2_3 fm_2_3 nd_2_3 rfl rfl rfl rfl rfl (Nat.le_of_ble_eq_true rfl) rm_30_6_3 ⟨by first | exact Nat.le_of_ble_eq_true rfl | exact Nat.zero_le _, by first | exact Nat.le_of_ble_eq_true rfl | exact Nat.zero_le _⟩ gX10_takesLine_7.1 (Kors (Keqr ?_) (Keqr ?_))
          · refine lv_if_eq (tgt := 182) hx hb gX10_takesLine_7.2.1 (by decide) (fun c9 => absurd c9 (by decide)) (fun _ => ?_)
            refine lv_aload_n hx hb gX10_takesLine_7.2.2.1 rfl (lv_at2 hl) ?_
            refine vV (wr := [(tsp, oX8 120 1 tspc (nI ksp)), (tspc, iA G 120 ftsp), (tln, oX8 9 7 tlnc (nI (kln + 1))), (tlnc, iA G 63 gtln4330)]) hC hK hl hP hD hS hA (t_advance l G h0 tby kt tln tsp kd14326 ks14327 kn14328 tf14329 fby (hkt) (by omega) (by omega)) si_X10_47 [2, 3] [0, 1, 4, 5] sm_2_3 fm_2_3 nd_2_3 sm_0_1_4_5 nd_0_1_4_5 dj_2_3__0_1_4_5 rfl rfl rfl rfl rfl (Nat.le_of_ble_eq_true rfl) rm_30_3_1 ⟨Nat.le_of_ble_eq_true rfl, Nat.le_of_ble_eq_true rfl⟩ gX10_takesLine_7.2.2.2.1 (Ktu3 fun kd14346 ks14347 kn14348 => ?_)
            intro H locs hr4344 hP hD hS
            try dsimp only at hr4344
            refine Kpdr (ws := [(tsp, oX8 120 1 tspc (nI ksp)), (tspc, iA G 120 ftsp), (tln, oX8 9 7 tlnc (nI (kln + 1))), (tlnc, iA G 63 gtln4330), (h0, oX10 tby (nI kt) tln tsp kd14346 (nI ks14347) (nI kn14348) tf14329), (tby, iA G 240 fby)]) hP hD (fun hP hD => ?_)
            have w4349 := hr4344
            refine lv_aload_n hx hb gX10_takesLine_7.2.2.2.2.1 rfl (lv_at2 hl) ?_
            refine gf_X10_20 hC rfl hK hP 4 rfl rfl gX10_takesLine_7.2.2.2.2.2.1 ?_
            refine lv_iload_n hx hb gX10_takesLine_7.2.2.2.2.2.2.1 rfl (lv_at1 hl) ?_
            refine lv_iconst (v := 4) hx hb gX10_takesLine_7.2.2.2.2.2.2.2.1 (by decide) ?_
            refine lv_iconst (v := 1) hx hb gX10_takesLine_7.2.2.2.2.2.2.2.2.1 (by decide) ?_
            refine vV (wr := [(tsp, oX8 120 1 tspc (nI ksp)), (tspc, iA G 120 ftsp), (h0, oX10 tby (nI kt) tln tsp kd14346 (nI ks14347) (nI kn14348) tf14329), (tby, iA G 240 fby)]) hC hK hl hP hD hS hA (c_T_set l G tln (nI kln) 4 1 9 7 tlnc (kln + 1) gtln4330 (by omega) (by omega) (by omega)) si_X10_66 [2, 3] [0, 1, 4, 5] sm_2_3 fm_2_3 nd_2_3 sm_0_1_4_5 nd_0_1_4_5 dj_2_3__0_1_4_5 rfl rfl rfl rfl rfl (Nat.le_of_ble_eq_true rfl) rm_30_1_4 ⟨Nat.le_of_ble_eq_true rfl, Nat.le_of_ble_eq_true rfl⟩ gX10_takesLine_7.2.2.2.2.2.2.2.2.2 (fun f14352 H locs hr4350 hP hD hS => ?_)
            try dsimp only at hr4350
            refine Kpdr (ws := [(tsp, oX8 120 1 tspc (nI ksp)), (tspc, iA G 120 ftsp), (h0, oX10 tby (nI kt) tln tsp kd14346 (nI ks14347) (nI kn14348) tf14329), (tby, iA G 240 fby), (tln, oX8 9 7 tlnc (nI (kln + 1))), (tlnc, iA G 63 f14352)]) hP hD (fun hP hD => ?_)
            have w4353 := hr4350
            refine lv_aload_n hx hb gX10_takesLine_8.1 rfl (lv_at2 hl) ?_
            refine lv_iconst (v := 0) hx hb gX10_takesLine_8.2.1 (by decide) ?_
            refine iVo (wr := [(tln, oX8 9 7 tlnc (nI (kln + 1))), (tlnc, iA G 63 f14352)]) hO hC hK hl hP hD hS hA (t_cond l G K 4 h0 0 tby kt tln tsp kd14346 ks14347 kn14348 tf14329 fby tspc ksp ftsp (by omega) (by omega) (by omega) (by omega) (by omega)) si_X10_121 [2, 3, 0, 1] [4, 5] sm_2_3_0_1 fm_2_3_0_1 nd_2_3_0_1 sm_4_5 nd_4_5 dj_2_3_0_1__4_5 rfl rfl rfl rfl rfl (Nat.le_of_ble_eq_true rfl) ⟨Nat.le_of_ble_eq_true rfl, Nat.le_of_ble_eq_true rfl⟩ ⟨Nat.le_of_ble_eq_true rfl, Nat.le_of_ble_eq_true rfl⟩ gX10_takesLine_8.2.2.1 (fun r4354 => Ktu6 fun kd14356 ks14357 kn14358 tf14359 ksp14360 gtsp4361 => ?_)
            intro H locs hr4354 hP hD hS
            try dsimp only at hr4354
            refine Kpdr (ws := [(tln, oX8 9 7 tlnc (nI (kln + 1))), (tlnc, iA G 63 f14352), (h0, oX10 tby (nI kt) tln tsp kd14356 (nI ks14357) (nI kn14358) tf14359), (tby, iA G 240 fby), (tsp, oX8 120 1 tspc (nI ksp14360)), (tspc, iA G 120 gtsp4361)]) hP hD (fun hP hD => ?_)
            obtain ⟨hr4354, w4362⟩ := hr4354
            rcases hr4354 with rfl | rfl
            · refine lv_if_ne (tgt := 155) hx hb gX10_takesLine_8.2.2.2.1 (by decide) (fun _ => ?_) (fun c9 => absurd c9 (by decide))
              refine lv_aload_n hx hb gX10_takesLine_8.2.2.2.2.2.2.1 rfl (lv_at2 hl) ?_
              refine gf_X10_20 hC rfl hK hP 2 rfl rfl gX10_takesLine_8.2.2.2.2.2.2.2.1 ?_
              refine lv_iload_n hx hb gX10_takesLine_8.2.2.2.2.2.2.2.2.1 rfl (lv_at1 hl) ?_
              refine lv_bipush (v := 6) hx hb gX10_takesLine_8.2.2.2.2.2.2.2.2.2 (by decide) ?_
              refine lv_aload_n hx hb gX10_takesLine_9.1 rfl (lv_at2 hl) ?_
              refine gf_X10_24 hC rfl hK hP 2 rfl rfl gX10_takesLine_9.2.1 ?_
              refine pV hC hK hl hP hD (c_T_count l G tsp 120 1 tspc ksp14360) si_X10_71 [4] sm_4 fm_4 nd_4 rfl rfl rfl rfl rfl (Nat.le_of_ble_eq_true rfl) rm_30_1_1 ⟨by first | exact Nat.le_of_ble_eq_true rfl | exact Nat.zero_le _, by first | exact Nat.le_of_ble_eq_true rfl | exact Nat.zero_le _⟩ gX10_takesLine_9.2.2.1 (Keqr ?_)
              refine lv_aload_n hx hb gX10_takesLine_9.2.2.2.1 rfl (lv_at2 hl) ?_
              refine gf_X10_20 hC rfl hK hP 2 rfl rfl gX10_takesLine_9.2.2.2.2.1 ?_
              refine lv_iload_n hx hb gX10_takesLine_9.2.2.2.2.2.1 rfl (lv_at1 hl) ?_
              refine lv_iconst (v := 5) hx hb gX10_takesLine_9.2.2.2.2.2.2.1 (by decide) ?_
              refine pV hC hK hl hP hD (c_T_at l G tln (nI kln) 5 9 7 tlnc (kln + 1) f14352 (by omega) (by omega) (by omega)) si_X10_74 [0, 1] sm_0_1 fm_0_1 nd_0_1 rfl rfl rfl rfl rfl (Nat.le_of_ble_eq_true rfl) rm_30_1_3 ⟨by first | exact Nat.le_of_ble_eq_true rfl | exact Nat.zero_le _, by first | exact Nat.le_of_ble_eq_true rfl | exact Nat.zero_le _⟩ gX10_takesLine_9.2.2.2.2.2.2.2.1 (fun r4366 hr4366 => ?_)
              refine lv_isub hx hb gX10_takesLine_9.2.2.2.2.2.2.2.2.1 ?_
              refine vV (wr := [(h0, oX10 tby (nI kt) tln tsp kd14356 (nI ks14357) (nI kn14358) tf14359), (tby, iA G 240 fby), (tsp, oX8 120 1 tspc (nI ksp14360)), (tspc, iA G 120 gtsp4361)]) hC hK hl hP hD hS hA (c_T_set l G tln (nI kln) 6 ((nI ksp14360) - r4366) 9 7 tlnc (kln + 1) f14352 (by omega) (by omega) (by omega)) si_X10_66 [0, 1] [2, 3, 4, 5] sm_0_1 fm_0_1 nd_0_1 sm_2_3_4_5 nd_2_3_4_5 dj_0_1__2_3_4_5 rfl rfl rfl rfl rfl (Nat.le_of_ble_eq_true rfl) rm_30_1_4 ⟨Nat.le_of_ble_eq_true rfl, Nat.le_of_ble_eq_true rfl⟩ gX10_takesLine_9.2.2.2.2.2.2.2.2.2 (fun f14370 H locs hr4368 hP hD hS => ?_)
              try dsimp only at hr4368
              refine Kpdr (ws := [(h0, oX10 tby (nI kt) tln tsp kd14356 (nI ks14357) (nI kn14358) tf14359), (tby, iA G 240 fby), (tsp, oX8 120 1 tspc (nI ksp14360)), (tspc, iA G 120 gtsp4361), (tln, oX8 9 7 tlnc (nI (kln + 1))), (tlnc, iA G 63 f14370)]) hP hD (fun hP hD => ?_)
              have w4371 := hr4368
              refine lv_aload_n hx hb gX10_takesLine_10.1 rfl (lv_at2 hl) ?_
              refine lv_bipush (v := 59) hx hb gX10_takesLine_10.2.1 (by decide) ?_
              refine iV (wr := [(tsp, oX8 120 1 tspc (nI ksp14360)), (tspc, iA G 120 gtsp4361), (tln, oX8 9 7 tlnc (nI (kln + 1))), (tlnc, iA G 63 f14370)]) hC hK hl hP hD hS hA (t_takesByte l G h0 59 tby kt tln tsp kd14356 ks14357 kn14358 tf14359 fby (hkt) (by omega) (by omega)) si_X10_124 [0, 1] [2, 3, 4, 5] sm_0_1 fm_0_1 nd_0_1 sm_2_3_4_5 nd_2_3_4_5 dj_0_1__2_3_4_5 rfl rfl rfl rfl rfl (Nat.le_of_ble_eq_true rfl) rm_30_4_2 ⟨Nat.le_of_ble_eq_true rfl, Nat.le_of_ble_eq_true rfl⟩ gX10_takesLine_10.2.2.1 (fun r4372 => Ktu4 fun kd14374 ks14375 kn14376 tf14377 => ?_)
              intro H locs hr4372 hP hD hS
              try dsimp only at hr4372
              refine Kpdr (ws := [(tsp, oX8 120 1 tspc (nI ksp14360)), (tspc, iA G 120 gtsp4361), (tln, oX8 9 7 tlnc (nI (kln + 1))), (tlnc, iA G 63 f14370), (h0, oX10 tby (nI kt) tln tsp kd14374 (nI ks14375) (nI kn14376) tf14377), (tby, iA G 240 fby)]) hP hD (fun hP hD => ?_)
              obtain ⟨hr4372, w4378⟩ := hr4372
              rcases hr4372 with rfl | rfl
              · refine toQ hQ0 ?_
                exact RI (v := 1) hC hP hD hS [4, 5, 2, 3, 0, 1] (kd14374, ks14375, kn14376, tf14377, (kln + 1), f14370, ksp14360, gtsp4361) rfl rfl (by decide) (⟨Or.inl (rfl), by dsimp only; omega⟩) (by decide +kernel) gX10_takesLine_10.2.2.2
              · refine toQ hQ0 ?_
                exact RI (v := 0) hC hP hD hS [4, 5, 2, 3, 0, 1] (kd14374, ks14375, kn14376, tf14377, (kln + 1), f14370, ksp14360, gtsp4361) rfl rfl (by decide) (⟨Or.inr (rfl), by dsimp only; omega⟩) (by decide +kernel) gX10_takesLine_10.2.2.2
            · refine lv_if_ne (tgt := 155) hx hb gX10_takesLine_8.2.2.2.1 (by decide) (fun c9 => absurd (by decide) c9) (fun _ => ?_)
              refine lv_iconst (v := 0) hx hb gX10_takesLine_8.2.2.2.2.1 (by decide) ?_
              refine toQ hQ0 ?_
              exact RI (v := 0) hC hP hD hS [2, 3, 0, 1, 4, 5] (kd14356, ks14357, kn14358, tf14359, (kln + 1), f14352, ksp14360, gtsp4361) rfl rfl (by decide) (⟨Or.inr (rfl), by dsimp only; omega⟩) (by decide +kernel) gX10_takesLine_8.2.2.2.2.2.1
          · refine lv_if_eq (tgt := 182) hx hb gX10_takesLine_7.2.1 (by decide) (fun _ => ?_) (fun c9 => absurd (by decide) c9)
            refine lv_aload_n hx hb gX10_takesLine_10.1 rfl (lv_at2 hl) ?_
            refine lv_bipush (v := 59) hx hb gX10_takesLine_10.2.1 (by decide) ?_
            refine iV (wr := [(tsp, oX8 120 1 tspc (nI ksp)), (tspc, iA G 120 ftsp), (tln, oX8 9 7 tlnc (nI (kln + 1))), (tlnc, iA G 63 gtln4330)]) hC hK hl hP hD hS hA (t_takesByte l G h0 59 tby kt tln tsp kd14326 ks14327 kn14328 tf14329 fby (hkt) (by omega) (by omega)) si_X10_124 [2, 3] [0, 1, 4, 5] sm_2_3 fm_2_3 nd_2_3 sm_0_1_4_5 nd_0_1_4_5 dj_2_3__0_1_4_5 rfl rfl rfl rfl rfl (Nat.le_of_ble_eq_true rfl) rm_30_4_2 ⟨Nat.le_of_ble_eq_true rfl, Nat.le_of_ble_eq_true rfl⟩ gX10_takesLine_10.2.2.1 (fun r4380 => Ktu4 fun kd14382 ks14383 kn14384 tf14385 => ?_)
            intro H locs hr4380 hP hD hS
            try dsimp only at hr4380
            refine Kpdr (ws := [(tsp, oX8 120 1 tspc (nI ksp)), (tspc, iA G 120 ftsp), (tln, oX8 9 7 tlnc (nI (kln + 1))), (tlnc, iA G 63 gtln4330), (h0, oX10 tby (nI kt) tln tsp kd14382 (nI ks14383) (nI kn14384) tf14385), (tby, iA G 240 fby)]) hP hD (fun hP hD => ?_)
            obtain ⟨hr4380, w4386⟩ := hr4380
            rcases hr4380 with rfl | rfl
            · refine toQ hQ0 ?_
              exact RI (v := 1) hC hP hD hS [4, 5, 2, 3, 0, 1] (kd14382, ks14383, kn14384, tf14385, (kln + 1), gtln4330, ksp, ftsp) rfl rfl (by decide) (⟨Or.inl (rfl), by dsimp only; omega⟩) (by decide +kernel) gX10_takesLine_10.2.2.2
            · refine toQ hQ0 ?_
              exact RI (v := 0) hC hP hD hS [4, 5, 2, 3, 0, 1] (kd14382, ks14383, kn14384, tf14385, (kln + 1), gtln4330, ksp, ftsp) rfl rfl (by decide) (⟨Or.inr (rfl), by dsimp only; omega⟩) (by decide +kernel) gX10_takesLine_10.2.2.2
      · refine lv_if_ne (tgt := 117) hx hb gX10_takesLine_6.2.2.1 (by decide) (fun c9 => absurd (by decide) c9) (fun _ => ?_)
        refine lv_iconst (v := 0) hx hb gX10_takesLine_6.2.2.2.1 (by decide) ?_
        refine toQ hQ0 ?_
        exact RI (v := 0) hC hP hD hS [2, 3, 4, 5, 0, 1] (kd14326, ks14327, kn14328, tf14329, (kln + 1), gtln4330, ksp, ftsp) rfl rfl (by decide) (⟨Or.inr (rfl), by dsimp only; omega⟩) (by decide +kernel) gX10_takesLine_6.2.2.2.2.1
    · refine lv_aload_n hx hb gX10_takesLine_4.2.2.2.2.2.2.2.1 rfl (lv_at2 hl) ?_
      refine iV (wr := [(tby, iA G 240 fby), (tsp, oX8 120 1 tspc (nI ksp)), (tspc, iA G 120 ftsp), (tln, oX8 9 7 tlnc (nI (kln + 1))), (tlnc, iA G 63 f14310)]) hC hK hl hP hD hS hA (t_refuse l G h0 tby kt tln tsp tkd ks kn tf9) si_X10_106 [0] [1, 2, 3, 4, 5] sm_0 fm_0 nd_0 sm_1_2_3_4_5 nd_1_2_3_4_5 dj_0__1_2_3_4_5 rfl rfl rfl rfl rfl (Nat.le_of_ble_eq_true rfl) rm_30_1_1 ⟨Nat.le_of_ble_eq_true rfl, Nat.le_of_ble_eq_true rfl⟩ gX10_takesLine_4.2.2.2.2.2.2.2.2.1 (fun r4388 tf14390 H locs hr4388 hP hD hS => ?_)
      try dsimp only at hr4388
      refine Kpdr (ws := [(tby, iA G 240 fby), (tsp, oX8 120 1 tspc (nI ksp)), (tspc, iA G 120 ftsp), (tln, oX8 9 7 tlnc (nI (kln + 1))), (tlnc, iA G 63 f14310), (h0, oX10 tby (nI kt) tln tsp tkd (nI ks) (nI kn) tf14390)]) hP hD (fun hP hD => ?_)
      obtain rfl := hr4388
      refine toQ hQ0 ?_
      exact RI (v := 0) hC hP hD hS [5, 0, 3, 4, 1, 2] (tkd, ks, kn, tf14390, (kln + 1), f14310, ksp, ftsp) rfl rfl (by decide) (⟨Or.inr (rfl), by dsimp only; omega⟩) (by decide +kernel) gX10_takesLine_4.2.2.2.2.2.2.2.2.2
  · refine iV (wr := [(h0, oX10 tby (nI kt) tln tsp tkd (nI ks) (nI kn) tf9), (tby, iA G 240 fby), (tlnc, iA G 63 ftln), (tsp, oX8 120 1 tspc (nI ksp)), (tspc, iA G 120 ftsp)]) hC hK hl hP hD hS hA (c_T_appendF l G tln 9 7 tlnc kln (by omega) (by omega)) si_X10_59 [2] [0, 1, 3, 4, 5] sm_2 fm_2 nd_2 sm_0_1_3_4_5 nd_0_1_3_4_5 dj_2__0_1_3_4_5 rfl rfl rfl rfl rfl (Nat.le_of_ble_eq_true rfl) rm_30_1_1 ⟨Nat.le_of_ble_eq_true rfl, Nat.le_of_ble_eq_true rfl⟩ gX10_takesLine_0.2.2.1 (fun r4392 u4393 H locs hr4392 hP hD hS => ?_)
    refine Kpdr (ws := [(h0, oX10 tby (nI kt) tln tsp tkd (nI ks) (nI kn) tf9), (tby, iA G 240 fby), (tlnc, iA G 63 ftln), (tsp, oX8 120 1 tspc (nI ksp)), (tspc, iA G 120 ftsp), (tln, oX8 9 7 tlnc (nI kln))]) hP hD (fun hP hD => ?_)
    obtain rfl := hr4392
    refine lv_istore_n (lv' := [(1, .int (-2)), (0, .ref h0)]) hx hb gX10_takesLine_0.2.2.2.1 rfl hl (by decide) rfl (fun ls hl => ?_)
    refine lv_iload_n hx hb gX10_takesLine_0.2.2.2.2.1 rfl (lv_at0 hl) ?_
    refine lv_if_ge (tgt := 17) hx hb gX10_takesLine_0.2.2.2.2.2.1 (by decide) (fun c9 => absurd c9 (by decide)) (fun _ => ?_)
    refine lv_aload_n hx hb gX10_takesLine_0.2.2.2.2.2.2.1 rfl (lv_at1 hl) ?_
    refine iV (wr := [(tby, iA G 240 fby), (tlnc, iA G 63 ftln), (tsp, oX8 120 1 tspc (nI ksp)), (tspc, iA G 120 ftsp), (tln, oX8 9 7 tlnc (nI kln))]) hC hK hl hP hD hS hA (t_refuse l G h0 tby kt tln tsp tkd ks kn tf9) si_X10_106 [0] [1, 2, 3, 4, 5] sm_0 fm_0 nd_0 sm_1_2_3_4_5 nd_1_2_3_4_5 dj_0__1_2_3_4_5 rfl rfl rfl rfl rfl (Nat.le_of_ble_eq_true rfl) rm_30_1_1 ⟨Nat.le_of_ble_eq_true rfl, Nat.le_of_ble_eq_true rfl⟩ gX10_takesLine_0.2.2.2.2.2.2.2.1 (fun r4395 tf14397 H locs hr4395 hP hD hS => ?_)
    try dsimp only at hr4395
    refine Kpdr (ws := [(tby, iA G 240 fby), (tlnc, iA G 63 ftln), (tsp, oX8 120 1 tspc (nI ksp)), (tspc, iA G 120 ftsp), (tln, oX8 9 7 tlnc (nI kln)), (h0, oX10 tby (nI kt) tln tsp tkd (nI ks) (nI kn) tf14397)]) hP hD (fun hP hD => ?_)
    obtain rfl := hr4395
    refine toQ hQ0 ?_
    exact RI (v := 0) hC hP hD hS [5, 0, 4, 1, 2, 3] (tkd, ks, kn, tf14397, kln, ftln, ksp, ftsp) rfl rfl (by decide) (⟨Or.inr (rfl), by dsimp only; omega⟩) (by decide +kernel) gX10_takesLine_0.2.2.2.2.2.2.2.2.1
def K_t_scan (l : Launch) (G : GG) (K : OO) (h0 : Nat) (tby : Nat) (kt : Nat) (tln : Nat) (tsp : Nat) (tkd : Int32) (ks : Nat) (kn : Nat) (tf9 : Int32) (fby : Nat → Int32) (tlnc : Nat) (kln : Nat) (ftln : Nat → Int32) (tspc : Nat) (ksp : Nat) (ftsp : Nat → Int32) : Prop := MIo l G K yX10_scan cX10_scan 2 (some .int) 31 0 0 [.ref h0] [(h0, oX10 tby (nI kt) tln tsp tkd (nI ks) (nI kn) tf9), (tby, iA G 240 fby), (tln, oX8 9 7 tlnc (nI kln)), (tlnc, iA G 63 ftln), (tsp, oX8 120 1 tspc (nI ksp)), (tspc, iA G 120 ftsp)] (fun (r : Int32) (u : Int32 × Nat × Nat × Int32 × Nat × (Nat → Int32) × Nat × (Nat → Int32)) => (True) ∧ (u.2.1 ≤ 240 ∧ u.2.2.1 ≤ 240 ∧ u.2.2.2.2.1 ≤ 9 ∧ u.2.2.2.2.2.2.1 ≤ 120)) (fun u : Int32 × Nat × Nat × Int32 × Nat × (Nat → Int32) × Nat × (Nat → Int32) => [(h0, oX10 tby (nI kt) tln tsp u.1 (nI u.2.1) (nI u.2.2.1) u.2.2.2.1), (tby, iA G 240 fby), (tln, oX8 9 7 tlnc (nI u.2.2.2.2.1)), (tlnc, iA G 63 u.2.2.2.2.2.1), (tsp, oX8 120 1 tspc (nI u.2.2.2.2.2.2.1)), (tspc, iA G 120 u.2.2.2.2.2.2.2)])
set_option maxHeartbeats 4000000 in
set_option maxRecDepth 100000 in
theorem t_scan (l : Launch) (G : GG) (K : OO) (h0 : Nat) (tby : Nat) (kt : Nat) (tln : Nat) (tsp : Nat) (tkd : Int32) (ks : Nat) (kn : Nat) (tf9 : Int32) (fby : Nat → Int32) (tlnc : Nat) (kln : Nat) (ftln : Nat → Int32) (tspc : Nat) (ksp : Nat) (ftsp : Nat → Int32) (hkt : kt ≤ 240) (hks : ks ≤ 240) (hkn : kn ≤ 240) (hkln : kln ≤ 9) (hksp : ksp ≤ 120) : K_t_scan l G K h0 tby kt tln tsp tkd ks kn tf9 fby tlnc kln ftln tspc ksp ftsp := by
  refine MIo.start (by decide +kernel) (Nat.le_of_ble_eq_true rfl) ?_
  intro p e s m below meth c A ls hC hK hP hD hS hA hl hO
  refine absQ (fun Q0 hQ0 => ?_)
  have hl : lv_has ls 2 [(0, .ref h0)] := hl
  refine Kan8 hC (fun hx hb hr hml hB hown hlocks hnm => ?_)
  refine lv_aload_n hx hb gX10_scan_0.1 rfl (lv_at0 hl) ?_
  refine gf_X10_20 hC rfl hK hP 0 rfl rfl gX10_scan_0.2.1 ?_
  refine lv_iconst (v := 0) hx hb gX10_scan_0.2.2.1 (by decide) ?_
  refine vV (wr := [(h0, oX10 tby (nI kt) tln tsp tkd (nI ks) (nI kn) tf9), (tby, iA G 240 fby), (tlnc, iA G 63 ftln), (tsp, oX8 120 1 tspc (nI ksp)), (tspc, iA G 120 ftsp)]) hC hK hl hP hD hS hA (c_T_cut0 l G tln 9 7 tlnc kln (by omega)) si_X10_43 [2] [0, 1, 3, 4, 5] sm_2 fm_2 nd_2 sm_0_1_3_4_5 nd_0_1_3_4_5 dj_2__0_1_3_4_5 rfl rfl rfl rfl rfl (Nat.le_of_ble_eq_true rfl) rm_31_1_2 ⟨Nat.le_of_ble_eq_true rfl, Nat.le_of_ble_eq_true rfl⟩ gX10_scan_0.2.2.2.1 (fun u4400 H locs hr4399 hP hD hS => ?_)
  refine Kpdr (ws := [(h0, oX10 tby (nI kt) tln tsp tkd (nI ks) (nI kn) tf9), (tby, iA G 240 fby), (tlnc, iA G 63 ftln), (tsp, oX8 120 1 tspc (nI ksp)), (tspc, iA G 120 ftsp), (tln, oX8 9 7 tlnc 0)]) hP hD (fun hP hD => ?_)
  refine lv_aload_n hx hb gX10_scan_0.2.2.2.2.1 rfl (lv_at0 hl) ?_
  refine gf_X10_24 hC rfl hK hP 0 rfl rfl gX10_scan_0.2.2.2.2.2.1 ?_
  refine lv_iconst (v := 0) hx hb gX10_scan_0.2.2.2.2.2.2.1 (by decide) ?_
  refine vV (wr := [(h0, oX10 tby (nI kt) tln tsp tkd (nI ks) (nI kn) tf9), (tby, iA G 240 fby), (tlnc, iA G 63 ftln), (tspc, iA G 120 ftsp), (tln, oX8 9 7 tlnc 0)]) hC hK hl hP hD hS hA (c_T_cut0 l G tsp 120 1 tspc ksp (by omega)) si_X10_43 [3] [0, 1, 2, 4, 5] sm_3 fm_3 nd_3 sm_0_1_2_4_5 nd_0_1_2_4_5 dj_3__0_1_2_4_5 rfl rfl rfl rfl rfl (Nat.le_of_ble_eq_true rfl) rm_31_1_2 ⟨Nat.le_of_ble_eq_true rfl, Nat.le_of_ble_eq_true rfl⟩ gX10_scan_0.2.2.2.2.2.2.2.1 (fun u4402 H locs hr4401 hP hD hS => ?_)
  refine Kpdr (ws := [(h0, oX10 tby (nI kt) tln tsp tkd (nI ks) (nI kn) tf9), (tby, iA G 240 fby), (tlnc, iA G 63 ftln), (tspc, iA G 120 ftsp), (tln, oX8 9 7 tlnc 0), (tsp, oX8 120 1 tspc 0)]) hP hD (fun hP hD => ?_)
  refine lv_aload_n hx hb gX10_scan_0.2.2.2.2.2.2.2.2.1 rfl (lv_at0 hl) ?_
  refine lv_iconst (v := (-1)) hx hb gX10_scan_0.2.2.2.2.2.2.2.2.2 (by decide) ?_
  refine pf_X10_40 hC rfl hK hP hD hS 0 (ws' := [(h0, oX10 tby (nI kt) tln tsp tkd (nI ks) (nI kn) (-1)), (tby, iA G 240 fby), (tlnc, iA G 63 ftln), (tspc, iA G 120 ftsp), (tln, oX8 9 7 tlnc 0), (tsp, oX8 120 1 tspc 0)]) rfl (Nat.le_of_ble_eq_true rfl) rfl rfl rfl gX10_scan_1.1 (fun H locs hP hD hS => ?_)
  refine lv_aload_n hx hb gX10_scan_1.2.1 rfl (lv_at0 hl) ?_
  refine lv_iconst (v := 0) hx hb gX10_scan_1.2.2.1 (by decide) ?_
  refine pf_X10_37 hC rfl hK hP hD hS 0 (ws' := [(h0, oX10 tby (nI kt) tln tsp tkd (nI ks) 0 (-1)), (tby, iA G 240 fby), (tlnc, iA G 63 ftln), (tspc, iA G 120 ftsp), (tln, oX8 9 7 tlnc 0), (tsp, oX8 120 1 tspc 0)]) rfl (Nat.le_of_ble_eq_true rfl) rfl rfl rfl gX10_scan_1.2.2.2.1 (fun H locs hP hD hS => ?_)
  refine lv_aload_n hx hb gX10_scan_1.2.2.2.2.1 rfl (lv_at0 hl) ?_
  refine vV (wr := [(tlnc, iA G 63 ftln), (tspc, iA G 120 ftsp), (tln, oX8 9 7 tlnc 0), (tsp, oX8 120 1 tspc 0)]) hC hK hl hP hD hS hA (t_advance l G h0 tby kt tln tsp tkd ks 0 (-1) fby (hkt) (hks) (by omega)) si_X10_47 [0, 1] [2, 3, 4, 5] sm_0_1 fm_0_1 nd_0_1 sm_2_3_4_5 nd_2_3_4_5 dj_0_1__2_3_4_5 rfl rfl rfl rfl rfl (Nat.le_of_ble_eq_true rfl) rm_31_3_1 ⟨Nat.le_of_ble_eq_true rfl, Nat.le_of_ble_eq_true rfl⟩ gX10_scan_1.2.2.2.2.2.1 (Ktu3 fun kd14405 ks14406 kn14407 => ?_)
  intro H locs hr4403 hP hD hS
  try dsimp only at hr4403
  refine Kpdr (ws := [(tlnc, iA G 63 ftln), (tspc, iA G 120 ftsp), (tln, oX8 9 7 tlnc 0), (tsp, oX8 120 1 tspc 0), (h0, oX10 tby (nI kt) tln tsp kd14405 (nI ks14406) (nI kn14407) (-1)), (tby, iA G 240 fby)]) hP hD (fun hP hD => ?_)
  have w4408 := hr4403
  refine lv_iconst (v := 0) hx hb gX10_scan_1.2.2.2.2.2.2.1 (by decide) ?_
  refine lv_istore_n (lv' := [(1, .int 0), (0, .ref h0)]) hx hb gX10_scan_1.2.2.2.2.2.2.2.1 rfl hl (by decide) rfl (fun ls hl => ?_)
  have keyP : ∀ (nP kP : Nat) (vkd : Int32) (vtf : Int32) (vtln : Nat → Int32) (vtsp : Nat → Int32) (vks : Nat) (vkn : Nat) (vkl : Nat) (vksp : Nat) (H : Heap) (locs : List Loc) (ls : Array Slot), kP + nP = 10 → (vks ≤ 240) → (vkn ≤ 240) → (vkl ≤ 9) → (vksp ≤ 120) → va_PD G A [(tlnc, iA G 63 vtln), (tspc, iA G 120 vtsp), (tln, oX8 9 7 tlnc (nI vkl)), (tsp, oX8 120 1 tspc (nI vksp)), (h0, oX10 tby (nI kt) tln tsp vkd (nI vks) (nI vkn) vtf), (tby, iA G 240 fby)] H → va_S A s.heap H locs → lv_has ls 2 [(1, .int (nI kP)), (0, .ref h0)] → W p l e (RM 31 0 0) s m ([.ref h0] : List Value).toArray below meth c H locs 0 0 Q0 (F0 m 32 ls []) := by
    intro nP
    induction nP with
    | zero =>
      intro kP vkd vtf vtln vtsp vks vkn vkl vksp H locs ls hkP hvks hvkn hvkl hvksp hPD hS hl
      refine Kan2 hPD (fun hP hD => ?_)
      obtain rfl : 10 = kP := by omega
      have hl : lv_has ls 2 [(1, .int 10), (0, .ref h0)] := hl
      refine lv_iload_n hx hb gX10_scan_1.2.2.2.2.2.2.2.2.1 rfl (lv_at0 hl) ?_
      refine lv_bipush (v := 9) hx hb gX10_scan_1.2.2.2.2.2.2.2.2.2 (by decide) ?_
      refine lv_icmp_gt (tgt := 64) hx hb gX10_scan_2.1 (by decide) (fun _ => ?_) (fun c9 => absurd (by decide) c9)
      refine lv_aload_n hx hb gX10_scan_3.2.2.2.1 rfl (lv_at1 hl) ?_
      refine gf_X10_40 hC rfl hK hP 4 rfl rfl gX10_scan_3.2.2.2.2.1 ?_
      refine toQ hQ0 ?_
      exact RI (v := vtf) hC hP hD hS [4, 5, 2, 0, 3, 1] (vkd, vks, vkn, vtf, vkl, vtln, vksp, vtsp) rfl rfl (by decide) (⟨trivial, by dsimp only; omega⟩) rfl gX10_scan_3.2.2.2.2.2
    | succ nP ihP =>
      intro kP vkd vtf vtln vtsp vks vkn vkl vksp H locs ls hkP hvks hvkn hvkl hvksp hPD hS hl
      refine Kan2 hPD (fun hP hD => ?_)
      refine lv_iload_n hx hb gX10_scan_1.2.2.2.2.2.2.2.2.1 rfl (lv_at0 hl) ?_
      refine lv_bipush (v := 9) hx hb gX10_scan_1.2.2.2.2.2.2.2.2.2 (by decide) ?_
      refine lv_icmp_gt (tgt := 64) hx hb gX10_scan_2.1 (by decide) (fun c9 => absurd c9 (nI_nlt (a := 9) (b := kP) (by omega) (by omega))) (fun _ => ?_)
      refine lv_aload_n hx hb gX10_scan_2.2.1 rfl (lv_at1 hl) ?_
      refine gf_X10_31 hC rfl hK hP 4 rfl rfl gX10_scan_2.2.2.1 ?_
      refine lv_iconst (v := (-1)) hx hb gX10_scan_2.2.2.2.1 (by decide) ?_
      refine lv_icmp_eq (tgt := 64) hx hb gX10_scan_2.2.2.2.2.1 (by decide) (fun c_43_4409 => ?_) (fun c_43_4409 => ?_)
      · refine lv_aload_n hx hb gX10_scan_3.2.2.2.1 rfl (lv_at1 hl) ?_
        refine gf_X10_40 hC rfl hK hP 4 rfl rfl gX10_scan_3.2.2.2.2.1 ?_
        refine toQ hQ0 ?_
        exact RI (v := vtf) hC hP hD hS [4, 5, 2, 0, 3, 1] (vkd, vks, vkn, vtf, vkl, vtln, vksp, vtsp) rfl rfl (by decide) (⟨trivial, by dsimp only; omega⟩) rfl gX10_scan_3.2.2.2.2.2
      · refine lv_aload_n hx hb gX10_scan_2.2.2.2.2.2.1 rfl (lv_at1 hl) ?_
        refine iVo (wr := []) hO hC hK hl hP hD hS hA (t_takesLine l G K h0 tby kt tln tsp vkd vks vkn vtf fby tlnc vkl vtln tspc vksp vtsp (hkt) (hvks) (hvkn) (hvkl) (hvksp)) si_X10_50 [4, 5, 2, 0, 3, 1] [] sm_4_5_2_0_3_1 fm_4_5_2_0_3_1 nd_4_5_2_0_3_1 rfl rfl (by decide) rfl rfl rfl rfl rfl (Nat.le_of_ble_eq_true rfl) rm_31_30_3 ⟨Nat.le_of_ble_eq_true rfl, Nat.le_of_ble_eq_true rfl⟩ gX10_scan_2.2.2.2.2.2.2.1 (fun r4410 => Ktu8 fun kd14412 ks14413 kn14414 tf14415 kln14416 gtln4417 ksp14418 gtsp4419 => ?_)
        intro H locs hr4410 hP hD hS
        try dsimp only at hr4410
        refine Kpdr (ws := [(h0, oX10 tby (nI kt) tln tsp kd14412 (nI ks14413) (nI kn14414) tf14415), (tby, iA G 240 fby), (tln, oX8 9 7 tlnc (nI kln14416)), (tlnc, iA G 63 gtln4417), (tsp, oX8 120 1 tspc (nI ksp14418)), (tspc, iA G 120 gtsp4419)]) hP hD (fun hP hD => ?_)
        obtain ⟨hr4410, w4420⟩ := hr4410
        rcases hr4410 with rfl | rfl
        · refine lv_if_ne (tgt := 58) hx hb gX10_scan_2.2.2.2.2.2.2.2.1 (by decide) (fun _ => ?_) (fun c9 => absurd c9 (by decide))
          refine lv_iinc (v := nI (kP + 1)) (lv' := [(1, .int (nI (kP + 1))), (0, .ref h0)]) hx hb gX10_scan_3.2.1 hl (k := 0) rfl (nI_1 _) (by decide) rfl (fun ls hl => ?_)
          refine lv_goto (tgt := 32) hx hb gX10_scan_3.2.2.1 (by decide) ?_
          refine Kpds (ws' := [(tlnc, iA G 63 gtln4417), (tspc, iA G 120 gtsp4419), (tln, oX8 9 7 tlnc (nI kln14416)), (tsp, oX8 120 1 tspc (nI ksp14418)), (h0, oX10 tby (nI kt) tln tsp kd14412 (nI ks14413) (nI kn14414) tf14415), (tby, iA G 240 fby)]) hP hD [3, 5, 2, 4, 0, 1] fm_3_5_2_4_0_1 nd_3_5_2_4_0_1 sm_3_5_2_4_0_1 (fun hP hD => ?_)
          exact ihP (kP + 1) kd14412 tf14415 gtln4417 gtsp4419 ks14413 kn14414 kln14416 ksp14418 _ _ _ (by omega) (by first | assumption | exact Or.inl rfl | exact Or.inr rfl | omega) (by first | assumption | exact Or.inl rfl | exact Or.inr rfl | omega) (by first | assumption | exact Or.inl rfl | exact Or.inr rfl | omega) (by first | assumption | exact Or.inl rfl | exact Or.inr rfl | omega) (And.intro hP hD) hS (lv_sub hl [0, 1] rfl)
        · refine lv_if_ne (tgt := 58) hx hb gX10_scan_2.2.2.2.2.2.2.2.1 (by decide) (fun c9 => absurd (by decide) c9) (fun _ => ?_)
          refine lv_aload_n hx hb gX10_scan_2.2.2.2.2.2.2.2.2.1 rfl (lv_at1 hl) ?_
          refine gf_X10_40 hC rfl hK hP 0 rfl rfl gX10_scan_2.2.2.2.2.2.2.2.2.2 ?_
          refine toQ hQ0 ?_
          exact RI (v := tf14415) hC hP hD hS [0, 1, 2, 3, 4, 5] (kd14412, ks14413, kn14414, tf14415, kln14416, gtln4417, ksp14418, gtsp4419) rfl rfl (by decide) (⟨trivial, by dsimp only; omega⟩) rfl gX10_scan_3.1
  exact keyP 10 0 kd14405 (-1) ftln ftsp ks14406 kn14407 0 0 _ _ _ (by omega) (by first | assumption | exact Or.inl rfl | exact Or.inr rfl | omega) (by first | assumption | exact Or.inl rfl | exact Or.inr rfl | omega) (by first | assumption | exact Or.inl rfl | exact Or.inr rfl | omega) (by first | assumption | exact Or.inl rfl | exact Or.inr rfl | omega) (And.intro hP hD) hS (lv_sub hl [0, 1] rfl)
def K_t_store (l : Launch) (G : GG) (h0 : Nat) (bb : Nat) (tby : Nat) (kt : Nat) (tln : Nat) (tsp : Nat) (tkd : Int32) (ts9 : Int32) (tn9 : Int32) (tf9 : Int32) (tlnc : Nat) (kln : Nat) (ftln : Nat → Int32) (tspc : Nat) (ksp : Nat) (ftsp : Nat → Int32) (bpersons : Nat) (bpapers : Nat) (bstamps : Nat) (bversions : Nat) (blines : Nat) (bsteps : Nat) (bsayings : Nat) (bfindings : Nat) (bwarnings : Nat) (bquestions : Nat) (td : Int32) (vd : Int32) (vl : Int32) (gp : Int32) (bversionsc : Nat) (kbversions : Nat) (fbversions : Nat → Int32) (blinesc : Nat) (kblines : Nat) (fblines : Nat → Int32) (bstepsc : Nat) (kbsteps : Nat) (fbsteps : Nat → Int32) : Prop := MI l G yX10_store cX10_store 7 (some .int) 3 0 0 [.ref h0, .ref bb] [(h0, oX10 tby (nI kt) tln tsp tkd ts9 tn9 tf9), (tln, oX8 9 7 tlnc (nI kln)), (tlnc, iA G 63 ftln), (tsp, oX8 120 1 tspc (nI ksp)), (tspc, iA G 120 ftsp), (bb, oX0 bpersons bpapers bstamps bversions blines bsteps bsayings bfindings bwarnings bquestions td vd vl gp), (bversions, oX8 8 3 bversionsc (nI kbversions)), (bversionsc, iA G 24 fbversions), (blines, oX8 72 7 blinesc (nI kblines)), (blinesc, iA G 504 fblines), (bsteps, oX8 960 1 bstepsc (nI kbsteps)), (bstepsc, iA G 960 fbsteps)] (fun (r : Int32) (u : Nat × Nat × Nat × (Nat → Int32) × (Nat → Int32) × (Nat → Int32)) => (True) ∧ (u.1 ≤ 8 ∧ u.2.1 ≤ 72 ∧ u.2.2.1 ≤ 960)) (fun u : Nat × Nat × Nat × (Nat → Int32) × (Nat → Int32) × (Nat → Int32) => [(h0, oX10 tby (nI kt) tln tsp tkd ts9 tn9 tf9), (tln, oX8 9 7 tlnc (nI kln)), (tlnc, iA G 63 ftln), (tsp, oX8 120 1 tspc (nI ksp)), (tspc, iA G 120 ftsp), (bb, oX0 bpersons bpapers bstamps bversions blines bsteps bsayings bfindings bwarnings bquestions td vd vl gp), (bversions, oX8 8 3 bversionsc (nI u.1)), (bversionsc, iA G 24 u.2.2.2.1), (blines, oX8 72 7 blinesc (nI u.2.1)), (blinesc, iA G 504 u.2.2.2.2.1), (bsteps, oX8 960 1 bstepsc (nI u.2.2.1)), (bstepsc, iA G 960 u.2.2.2.2.2)])
set_option maxHeartbeats 4000000 in
set_option maxRecDepth 100000 in
theorem t_store (l : Launch) (G : GG) (h0 : Nat) (bb : Nat) (tby : Nat) (kt : Nat) (tln : Nat) (tsp : Nat) (tkd : Int32) (ts9 : Int32) (tn9 : Int32) (tf9 : Int32) (tlnc : Nat) (kln : Nat) (ftln : Nat → Int32) (tspc : Nat) (ksp : Nat) (ftsp : Nat → Int32) (bpersons : Nat) (bpapers : Nat) (bstamps : Nat) (bversions : Nat) (blines : Nat) (bsteps : Nat) (bsayings : Nat) (bfindings : Nat) (bwarnings : Nat) (bquestions : Nat) (td : Int32) (vd : Int32) (vl : Int32) (gp : Int32) (bversionsc : Nat) (kbversions : Nat) (fbversions : Nat → Int32) (blinesc : Nat) (kblines : Nat) (fblines : Nat → Int32) (bstepsc : Nat) (kbsteps : Nat) (fbsteps : Nat → Int32) (hkln : kln ≤ 9) (hksp : ksp ≤ 120) (hkbv : kbversions < 8) (hkblines : kblines ≤ 72) (hkbsteps : kbsteps ≤ 960) : K_t_store l G h0 bb tby kt tln tsp tkd ts9 tn9 tf9 tlnc kln ftln tspc ksp ftsp bpersons bpapers bstamps bversions blines bsteps bsayings bfindings bwarnings bquestions td vd vl gp bversionsc kbversions fbversions blinesc kblines fblines bstepsc kbsteps fbsteps := by
  refine MI.start (by decide +kernel) (Nat.le_of_ble_eq_true rfl) ?_
  intro p e s m below meth c A ls hC hK hP hD hS hA hl
  refine absQ (fun Q0 hQ0 => ?_)
  have hl : lv_has ls 7 [(0, .ref h0), (1, .ref bb)] := hl
  refine Kan8 hC (fun hx hb hr hml hB hown hlocks hnm => ?_)
  refine lv_aload_n hx hb gX10_store_0.1 rfl (lv_at1 hl) ?_
  refine gf_X10_54 hC rfl hK hP 5 rfl rfl gX10_store_0.2.1 ?_
  refine iV (wr := [(h0, oX10 tby (nI kt) tln tsp tkd ts9 tn9 tf9), (tln, oX8 9 7 tlnc (nI kln)), (tlnc, iA G 63 ftln), (tsp, oX8 120 1 tspc (nI ksp)), (tspc, iA G 120 ftsp), (bb, oX0 bpersons bpapers bstamps bversions blines bsteps bsayings bfindings bwarnings bquestions td vd vl gp), (bversionsc, iA G 24 fbversions), (blines, oX8 72 7 blinesc (nI kblines)), (blinesc, iA G 504 fblines), (bsteps, oX8 960 1 bstepsc (nI kbsteps)), (bstepsc, iA G 960 fbsteps)]) hC hK hl hP hD hS hA (c_T_append l G bversions 8 3 bversionsc kbversions (hkbv) (by omega)) si_X10_59 [6] [0, 1, 2, 3, 4, 5, 7, 8, 9, 10, 11] sm_6 fm_6 nd_6 sm_0_1_2_3_4_5_7_8_9_10_11 nd_0_1_2_3_4_5_7_8_9_10_11 dj_6__0_1_2_3_4_5_7_8_9_10_11 rfl rfl rfl rfl rfl (Nat.le_of_ble_eq_true rfl) rm_3_1_1 ⟨Nat.le_of_ble_eq_true rfl, Nat.le_of_ble_eq_true rfl⟩ gX10_store_0.2.2.1 (fun r4422 u4423 H locs hr4422 hP hD hS => ?_)
  refine Kpdr (ws := [(h0, oX10 tby (nI kt) tln tsp tkd ts9 tn9 tf9), (tln, oX8 9 7 tlnc (nI kln)), (tlnc, iA G 63 ftln), (tsp, oX8 120 1 tspc (nI ksp)), (tspc, iA G 120 ftsp), (bb, oX0 bpersons bpapers bstamps bversions blines bsteps bsayings bfindings bwarnings bquestions td vd vl gp), (bversionsc, iA G 24 fbversions), (blines, oX8 72 7 blinesc (nI kblines)), (blinesc, iA G 504 fblines), (bsteps, oX8 960 1 bstepsc (nI kbsteps)), (bstepsc, iA G 960 fbsteps), (bversions, oX8 8 3 bversionsc (nI (kbversions + 1)))]) hP hD (fun hP hD => ?_)
  obtain rfl := hr4422
  refine lv_istore_n (lv' := [(2, .int (nI kbversions)), (0, .ref h0), (1, .ref bb)]) hx hb gX10_store_0.2.2.2.1 rfl hl (by decide) rfl (fun ls hl => ?_)
  refine lv_aload_n hx hb gX10_store_0.2.2.2.2.1 rfl (lv_at2 hl) ?_
  refine gf_X10_54 hC rfl hK hP 5 rfl rfl gX10_store_0.2.2.2.2.2.1 ?_
  refine lv_iload_n hx hb gX10_store_0.2.2.2.2.2.2.1 rfl (lv_at0 hl) ?_
  refine lv_iconst (v := 0) hx hb gX10_store_0.2.2.2.2.2.2.2.1 (by decide) ?_
  refine lv_aload_n hx hb gX10_store_0.2.2.2.2.2.2.2.2.1 rfl (lv_at2 hl) ?_
  refine gf_X10_63 hC rfl hK hP 5 rfl rfl gX10_store_0.2.2.2.2.2.2.2.2.2 ?_
  refine vV (wr := [(h0, oX10 tby (nI kt) tln tsp tkd ts9 tn9 tf9), (tln, oX8 9 7 tlnc (nI kln)), (tlnc, iA G 63 ftln), (tsp, oX8 120 1 tspc (nI ksp)), (tspc, iA G 120 ftsp), (bb, oX0 bpersons bpapers bstamps bversions blines bsteps bsayings bfindings bwarnings bquestions td vd vl gp), (blines, oX8 72 7 blinesc (nI kblines)), (blinesc, iA G 504 fblines), (bsteps, oX8 960 1 bstepsc (nI kbsteps)), (bstepsc, iA G 960 fbsteps)]) hC hK hl hP hD hS hA (c_T_set l G bversions (nI kbversions) 0 td 8 3 bversionsc (kbversions + 1) fbversions (by omega) (by omega) (by omega)) si_X10_66 [11, 6] [0, 1, 2, 3, 4, 5, 7, 8, 9, 10] sm_11_6 fm_11_6 nd_11_6 sm_0_1_2_3_4_5_7_8_9_10 nd_0_1_2_3_4_5_7_8_9_10 dj_11_6__0_1_2_3_4_5_7_8_9_10 rfl rfl rfl rfl rfl (Nat.le_of_ble_eq_true rfl) rm_3_1_4 ⟨Nat.le_of_ble_eq_true rfl, Nat.le_of_ble_eq_true rfl⟩ gX10_store_1.1 (fun f14427 H locs hr4425 hP hD hS => ?_)
  try dsimp only at hr4425
  refine Kpdr (ws := [(h0, oX10 tby (nI kt) tln tsp tkd ts9 tn9 tf9), (tln, oX8 9 7 tlnc (nI kln)), (tlnc, iA G 63 ftln), (tsp, oX8 120 1 tspc (nI ksp)), (tspc, iA G 120 ftsp), (bb, oX0 bpersons bpapers bstamps bversions blines bsteps bsayings bfindings bwarnings bquestions td vd vl gp), (blines, oX8 72 7 blinesc (nI kblines)), (blinesc, iA G 504 fblines), (bsteps, oX8 960 1 bstepsc (nI kbsteps)), (bstepsc, iA G 960 fbsteps), (bversions, oX8 8 3 bversionsc (nI (kbversions + 1))), (bversionsc, iA G 24 f14427)]) hP hD (fun hP hD => ?_)
  have w4428 := hr4425
  refine lv_aload_n hx hb gX10_store_1.2.1 rfl (lv_at2 hl) ?_
  refine gf_X10_54 hC rfl hK hP 5 rfl rfl gX10_store_1.2.2.1 ?_
  refine lv_iload_n hx hb gX10_store_1.2.2.2.1 rfl (lv_at0 hl) ?_
  refine lv_iconst (v := 1) hx hb gX10_store_1.2.2.2.2.1 (by decide) ?_
  refine lv_aload_n hx hb gX10_store_1.2.2.2.2.2.1 rfl (lv_at2 hl) ?_
  refine gf_X10_70 hC rfl hK hP 5 rfl rfl gX10_store_1.2.2.2.2.2.2.1 ?_
  refine pV hC hK hl hP hD (c_T_count l G blines 72 7 blinesc kblines) si_X10_71 [6] sm_6 fm_6 nd_6 rfl rfl rfl rfl rfl (Nat.le_of_ble_eq_true rfl) rm_3_1_1 ⟨by first | exact Nat.le_of_ble_eq_true rfl | exact Nat.zero_le _, by first | exact Nat.le_of_ble_eq_true rfl | exact Nat.zero_le _⟩ gX10_store_1.2.2.2.2.2.2.2.1 (Keqr ?_)
  refine vV (wr := [(h0, oX10 tby (nI kt) tln tsp tkd ts9 tn9 tf9), (tln, oX8 9 7 tlnc (nI kln)), (tlnc, iA G 63 ftln), (tsp, oX8 120 1 tspc (nI ksp)), (tspc, iA G 120 ftsp), (bb, oX0 bpersons bpapers bstamps bversions blines bsteps bsayings bfindings bwarnings bquestions td vd vl gp), (blines, oX8 72 7 blinesc (nI kblines)), (blinesc, iA G 504 fblines), (bsteps, oX8 960 1 bstepsc (nI kbsteps)), (bstepsc, iA G 960 fbsteps)]) hC hK hl hP hD hS hA (c_T_set l G bversions (nI kbversions) 1 (nI kblines) 8 3 bversionsc (kbversions + 1) f14427 (by omega) (by omega) (by omega)) si_X10_66 [10, 11] [0, 1, 2, 3, 4, 5, 6, 7, 8, 9] sm_10_11 fm_10_11 nd_10_11 sm_0_1_2_3_4_5_6_7_8_9 nd_0_1_2_3_4_5_6_7_8_9 dj_10_11__0_1_2_3_4_5_6_7_8_9 rfl rfl rfl rfl rfl (Nat.le_of_ble_eq_true rfl) rm_3_1_4 ⟨Nat.le_of_ble_eq_true rfl, Nat.le_of_ble_eq_true rfl⟩ gX10_store_1.2.2.2.2.2.2.2.2.1 (fun f14433 H locs hr4431 hP hD hS => ?_)
  try dsimp only at hr4431
  refine Kpdr (ws := [(h0, oX10 tby (nI kt) tln tsp tkd ts9 tn9 tf9), (tln, oX8 9 7 tlnc (nI kln)), (tlnc, iA G 63 ftln), (tsp, oX8 120 1 tspc (nI ksp)), (tspc, iA G 120 ftsp), (bb, oX0 bpersons bpapers bstamps bversions blines bsteps bsayings bfindings bwarnings bquestions td vd vl gp), (blines, oX8 72 7 blinesc (nI kblines)), (blinesc, iA G 504 fblines), (bsteps, oX8 960 1 bstepsc (nI kbsteps)), (bstepsc, iA G 960 fbsteps), (bversions, oX8 8 3 bversionsc (nI (kbversions + 1))), (bversionsc, iA G 24 f14433)]) hP hD (fun hP hD => ?_)
  have w4434 := hr4431
  refine lv_aload_n hx hb gX10_store_1.2.2.2.2.2.2.2.2.2 rfl (lv_at2 hl) ?_
  refine gf_X10_54 hC rfl hK hP 5 rfl rfl gX10_store_2.1 ?_
  refine lv_iload_n hx hb gX10_store_2.2.1 rfl (lv_at0 hl) ?_
  refine lv_iconst (v := 2) hx hb gX10_store_2.2.2.1 (by decide) ?_
  refine lv_aload_n hx hb gX10_store_2.2.2.2.1 rfl (lv_at1 hl) ?_
  refine gf_X10_20 hC rfl hK hP 0 rfl rfl gX10_store_2.2.2.2.2.1 ?_
  refine pV hC hK hl hP hD (c_T_count l G tln 9 7 tlnc kln) si_X10_71 [1] sm_1 fm_1 nd_1 rfl rfl rfl rfl rfl (Nat.le_of_ble_eq_true rfl) rm_3_1_1 ⟨by first | exact Nat.le_of_ble_eq_true rfl | exact Nat.zero_le _, by first | exact Nat.le_of_ble_eq_true rfl | exact Nat.zero_le _⟩ gX10_store_2.2.2.2.2.2.1 (Keqr ?_)
  refine vV (wr := [(h0, oX10 tby (nI kt) tln tsp tkd ts9 tn9 tf9), (tln, oX8 9 7 tlnc (nI kln)), (tlnc, iA G 63 ftln), (tsp, oX8 120 1 tspc (nI ksp)), (tspc, iA G 120 ftsp), (bb, oX0 bpersons bpapers bstamps bversions blines bsteps bsayings bfindings bwarnings bquestions td vd vl gp), (blines, oX8 72 7 blinesc (nI kblines)), (blinesc, iA G 504 fblines), (bsteps, oX8 960 1 bstepsc (nI kbsteps)), (bstepsc, iA G 960 fbsteps)]) hC hK hl hP hD hS hA (c_T_set l G bversions (nI kbversions) 2 (nI kln) 8 3 bversionsc (kbversions + 1) f14433 (by omega) (by omega) (by omega)) si_X10_66 [10, 11] [0, 1, 2, 3, 4, 5, 6, 7, 8, 9] sm_10_11 fm_10_11 nd_10_11 sm_0_1_2_3_4_5_6_7_8_9 nd_0_1_2_3_4_5_6_7_8_9 dj_10_11__0_1_2_3_4_5_6_7_8_9 rfl rfl rfl rfl rfl (Nat.le_of_ble_eq_true rfl) rm_3_1_4 ⟨Nat.le_of_ble_eq_true rfl, Nat.le_of_ble_eq_true rfl⟩ gX10_store_2.2.2.2.2.2.2.1 (fun f14439 H locs hr4437 hP hD hS => ?_)
  try dsimp only at hr4437
  refine Kpdr (ws := [(h0, oX10 tby (nI kt) tln tsp tkd ts9 tn9 tf9), (tln, oX8 9 7 tlnc (nI kln)), (tlnc, iA G 63 ftln), (tsp, oX8 120 1 tspc (nI ksp)), (tspc, iA G 120 ftsp), (bb, oX0 bpersons bpapers bstamps bversions blines bsteps bsayings bfindings bwarnings bquestions td vd vl gp), (blines, oX8 72 7 blinesc (nI kblines)), (blinesc, iA G 504 fblines), (bsteps, oX8 960 1 bstepsc (nI kbsteps)), (bstepsc, iA G 960 fbsteps), (bversions, oX8 8 3 bversionsc (nI (kbversions + 1))), (bversionsc, iA G 24 f14439)]) hP hD (fun hP hD => ?_)
  have w4440 := hr4437
  refine lv_aload_n hx hb gX10_store_2.2.2.2.2.2.2.2.1 rfl (lv_at2 hl) ?_
  refine gf_X10_73 hC rfl hK hP 5 rfl rfl gX10_store_2.2.2.2.2.2.2.2.2.1 ?_
  refine pV hC hK hl hP hD (c_T_count l G bsteps 960 1 bstepsc kbsteps) si_X10_71 [8] sm_8 fm_8 nd_8 rfl rfl rfl rfl rfl (Nat.le_of_ble_eq_true rfl) rm_3_1_1 ⟨by first | exact Nat.le_of_ble_eq_true rfl | exact Nat.zero_le _, by first | exact Nat.le_of_ble_eq_true rfl | exact Nat.zero_le _⟩ gX10_store_2.2.2.2.2.2.2.2.2.2 (Keqr ?_)
  refine lv_istore_n (lv' := [(3, .int (nI kbsteps)), (2, .int (nI kbversions)), (0, .ref h0), (1, .ref bb)]) hx hb gX10_store_3.1 rfl hl (by decide) rfl (fun ls hl => ?_)
  refine lv_iconst (v := 0) hx hb gX10_store_3.2.1 (by decide) ?_
  refine lv_istore (lv' := [(4, .int 0), (3, .int (nI kbsteps)), (2, .int (nI kbversions)), (0, .ref h0), (1, .ref bb)]) hx hb gX10_store_3.2.2.1 hl (by decide) rfl (fun ls hl => ?_)
  have keyP : ∀ (nP kP : Nat) (vbl : Nat → Int32) (vkb : Nat) (H : Heap) (locs : List Loc) (ls : Array Slot), kP + nP = kln → (vkb ≤ 72) → va_PD G A [(h0, oX10 tby (nI kt) tln tsp tkd ts9 tn9 tf9), (tln, oX8 9 7 tlnc (nI kln)), (tlnc, iA G 63 ftln), (tsp, oX8 120 1 tspc (nI ksp)), (tspc, iA G 120 ftsp), (bb, oX0 bpersons bpapers bstamps bversions blines bsteps bsayings bfindings bwarnings bquestions td vd vl gp), (blines, oX8 72 7 blinesc (nI vkb)), (blinesc, iA G 504 vbl), (bsteps, oX8 960 1 bstepsc (nI kbsteps)), (bstepsc, iA G 960 fbsteps), (bversions, oX8 8 3 bversionsc (nI (kbversions + 1))), (bversionsc, iA G 24 f14439)] H → va_S A s.heap H locs → lv_has ls 7 [(4, .int (nI kP)), (3, .int (nI kbsteps)), (2, .int (nI kbversions)), (0, .ref h0), (1, .ref bb)] → W p l e (RM 3 0 0) s m ([.ref h0, .ref bb] : List Value).toArray below meth c H locs 0 0 Q0 (F0 m 64 ls []) := by
    intro nP
    induction nP with
    | zero =>
      intro kP vbl vkb H locs ls hkP hvkb hPD hS hl
      refine Kan2 hPD (fun hP hD => ?_)
      obtain rfl : kln = kP := by omega
      have hl : lv_has ls 7 [(4, .int (nI kln)), (3, .int (nI kbsteps)), (2, .int (nI kbversions)), (0, .ref h0), (1, .ref bb)] := hl
      refine lv_iload hx hb gX10_store_3.2.2.2.1 (lv_at0 hl) ?_
      refine lv_aload_n hx hb gX10_store_3.2.2.2.2.1 rfl (lv_at3 hl) ?_
      refine gf_X10_20 hC rfl hK hP 0 rfl rfl gX10_store_3.2.2.2.2.2.1 ?_
      refine pV hC hK hl hP hD (c_T_count l G tln 9 7 tlnc kln) si_X10_71 [1] sm_1 fm_1 nd_1 rfl rfl rfl rfl rfl (Nat.le_of_ble_eq_true rfl) rm_3_1_1 ⟨by first | exact Nat.le_of_ble_eq_true rfl | exact Nat.zero_le _, by first | exact Nat.le_of_ble_eq_true rfl | exact Nat.zero_le _⟩ gX10_store_3.2.2.2.2.2.2.1 (Keqr ?_)
      refine lv_icmp_ge (tgt := 151) hx hb gX10_store_3.2.2.2.2.2.2.2.1 (by decide) (fun _ => ?_) (fun c9 => absurd (Int32.le_refl _) c9)
      refine lv_iconst (v := 0) hx hb gX10_store_7.2.2.2.1 (by decide) ?_
      refine lv_istore (lv' := [(4, .int 0), (3, .int (nI kbsteps)), (2, .int (nI kbversions)), (0, .ref h0), (1, .ref bb)]) hx hb gX10_store_7.2.2.2.2.1 hl (by decide) rfl (fun ls hl => ?_)
      have keyQ : ∀ (nQ kQ : Nat) (vbs : Nat → Int32) (vkc : Nat) (H : Heap) (locs : List Loc) (ls : Array Slot), kQ + nQ = ksp → (vkc ≤ 960) → va_PD G A [(h0, oX10 tby (nI kt) tln tsp tkd ts9 tn9 tf9), (tln, oX8 9 7 tlnc (nI kln)), (tlnc, iA G 63 ftln), (tsp, oX8 120 1 tspc (nI ksp)), (tspc, iA G 120 ftsp), (bb, oX0 bpersons bpapers bstamps bversions blines bsteps bsayings bfindings bwarnings bquestions td vd vl gp), (blines, oX8 72 7 blinesc (nI vkb)), (blinesc, iA G 504 vbl), (bsteps, oX8 960 1 bstepsc (nI vkc)), (bstepsc, iA G 960 vbs), (bversions, oX8 8 3 bversionsc (nI (kbversions + 1))), (bversionsc, iA G 24 f14439)] H → va_S A s.heap H locs → lv_has ls 7 [(4, .int (nI kQ)), (3, .int (nI kbsteps)), (2, .int (nI kbversions)), (0, .ref h0), (1, .ref bb)] → W p l e (RM 3 0 0) s m ([.ref h0, .ref bb] : List Value).toArray below meth c H locs 0 0 Q0 (F0 m 154 ls []) := by
        intro nQ
        induction nQ with
        | zero =>
          intro kQ vbs vkc H locs ls hkQ hvkc hPD hS hl
          refine Kan2 hPD (fun hP hD => ?_)
          obtain rfl : ksp = kQ := by omega
          have hl : lv_has ls 7 [(4, .int (nI ksp)), (3, .int (nI kbsteps)), (2, .int (nI kbversions)), (0, .ref h0), (1, .ref bb)] := hl
          refine lv_iload hx hb gX10_store_7.2.2.2.2.2.1 (lv_at0 hl) ?_
          refine lv_aload_n hx hb gX10_store_7.2.2.2.2.2.2.1 rfl (lv_at3 hl) ?_
          refine gf_X10_24 hC rfl hK hP 0 rfl rfl gX10_store_7.2.2.2.2.2.2.2.1 ?_
          refine pV hC hK hl hP hD (c_T_count l G tsp 120 1 tspc ksp) si_X10_71 [3] sm_3 fm_3 nd_3 rfl rfl rfl rfl rfl (Nat.le_of_ble_eq_true rfl) rm_3_1_1 ⟨by first | exact Nat.le_of_ble_eq_true rfl | exact Nat.zero_le _, by first | exact Nat.le_of_ble_eq_true rfl | exact Nat.zero_le _⟩ gX10_store_7.2.2.2.2.2.2.2.2.1 (Keqr ?_)
          refine lv_icmp_ge (tgt := 197) hx hb gX10_store_7.2.2.2.2.2.2.2.2.2 (by decide) (fun _ => ?_) (fun c9 => absurd (Int32.le_refl _) c9)
          refine lv_iload_n hx hb gX10_store_9.2.2.2.2.1 rfl (lv_at2 hl) ?_
          refine toQ hQ0 ?_
          exact RI (v := nI kbversions) hC hP hD hS [0, 1, 2, 3, 4, 5, 10, 11, 6, 7, 8, 9] ((kbversions + 1), vkb, vkc, f14439, vbl, vbs) rfl rfl (by decide) (⟨trivial, by dsimp only; omega⟩) rfl gX10_store_9.2.2.2.2.2
        | succ nQ ihQ =>
          intro kQ vbs vkc H locs ls hkQ hvkc hPD hS hl
          refine Kan2 hPD (fun hP hD => ?_)
          refine lv_iload hx hb gX10_store_7.2.2.2.2.2.1 (lv_at0 hl) ?_
          refine lv_aload_n hx hb gX10_store_7.2.2.2.2.2.2.1 rfl (lv_at3 hl) ?_
          refine gf_X10_24 hC rfl hK hP 0 rfl rfl gX10_store_7.2.2.2.2.2.2.2.1 ?_
          refine pV hC hK hl hP hD (c_T_count l G tsp 120 1 tspc ksp) si_X10_71 [3] sm_3 fm_3 nd_3 rfl rfl rfl rfl rfl (Nat.le_of_ble_eq_true rfl) rm_3_1_1 ⟨by first | exact Nat.le_of_ble_eq_true rfl | exact Nat.zero_le _, by first | exact Nat.le_of_ble_eq_true rfl | exact Nat.zero_le _⟩ gX10_store_7.2.2.2.2.2.2.2.2.1 (Keqr ?_)
          refine lv_icmp_ge (tgt := 197) hx hb gX10_store_7.2.2.2.2.2.2.2.2.2 (by decide) (fun c9 => absurd c9 (nI_ge (a := kQ) (b := ksp) (by omega) (by omega))) (fun _ => ?_)
          refine lv_aload_n hx hb gX10_store_8.1 rfl (lv_at4 hl) ?_
          refine gf_X10_73 hC rfl hK hP 5 rfl rfl gX10_store_8.2.1 ?_
          refine lv_aload_n hx hb gX10_store_8.2.2.1 rfl (lv_at4 hl) ?_
          refine gf_X10_73 hC rfl hK hP 5 rfl rfl gX10_store_8.2.2.2.1 ?_
          rcases Nat.lt_or_ge vkc 960 with hcap9 | hcap9
          · refine iV (wr := [(h0, oX10 tby (nI kt) tln tsp tkd ts9 tn9 tf9), (tln, oX8 9 7 tlnc (nI kln)), (tlnc, iA G 63 ftln), (tsp, oX8 120 1 tspc (nI ksp)), (tspc, iA G 120 ftsp), (bb, oX0 bpersons bpapers bstamps bversions blines bsteps bsayings bfindings bwarnings bquestions td vd vl gp), (blines, oX8 72 7 blinesc (nI vkb)), (blinesc, iA G 504 vbl), (bstepsc, iA G 960 vbs), (bversions, oX8 8 3 bversionsc (nI (kbversions + 1))), (bversionsc, iA G 24 f14439)]) hC hK hl hP hD hS hA (c_T_append l G bsteps 960 1 bstepsc vkc (by omega) (by omega)) si_X10_59 [8] [0, 1, 2, 3, 4, 5, 6, 7, 9, 10, 11] sm_8 fm_8 nd_8 sm_0_1_2_3_4_5_6_7_9_10_11 nd_0_1_2_3_4_5_6_7_9_10_11 dj_8__0_1_2_3_4_5_6_7_9_10_11 rfl rfl rfl rfl rfl (Nat.le_of_ble_eq_true rfl) rm_3_1_1 ⟨Nat.le_of_ble_eq_true rfl, Nat.le_of_ble_eq_true rfl⟩ gX10_store_8.2.2.2.2.1 (fun r4449 u4450 H locs hr4449 hP hD hS => ?_)
            refine Kpdr (ws := [(h0, oX10 tby (nI kt) tln tsp tkd ts9 tn9 tf9), (tln, oX8 9 7 tlnc (nI kln)), (tlnc, iA G 63 ftln), (tsp, oX8 120 1 tspc (nI ksp)), (tspc, iA G 120 ftsp), (bb, oX0 bpersons bpapers bstamps bversions blines bsteps bsayings bfindings bwarnings bquestions td vd vl gp), (blines, oX8 72 7 blinesc (nI vkb)), (blinesc, iA G 504 vbl), (bstepsc, iA G 960 vbs), (bversions, oX8 8 3 bversionsc (nI (kbversions + 1))), (bversionsc, iA G 24 f14439), (bsteps, oX8 960 1 bstepsc (nI (vkc + 1)))]) hP hD (fun hP hD => ?_)
            obtain rfl := hr4449
            refine lv_iconst (v := 0) hx hb gX10_store_8.2.2.2.2.2.1 (by decide) ?_
            refine lv_aload_n hx hb gX10_store_8.2.2.2.2.2.2.1 rfl (lv_at3 hl) ?_
            refine gf_X10_24 hC rfl hK hP 0 rfl rfl gX10_store_8.2.2.2.2.2.2.2.1 ?_
            refine lv_iload hx hb gX10_store_8.2.2.2.2.2.2.2.2.1 (lv_at0 hl) ?_
            refine lv_iconst (v := 0) hx hb gX10_store_8.2.2.2.2.2.2.2.2.2 (by decide) ?_
            refine pV hC hK hl hP hD (c_T_at l G tsp (nI kQ) 0 120 1 tspc ksp ftsp (hksp) (by omega) (by omega)) si_X10_74 [3, 4] sm_3_4 fm_3_4 nd_3_4 rfl rfl rfl rfl rfl (Nat.le_of_ble_eq_true rfl) rm_3_1_3 ⟨by first | exact Nat.le_of_ble_eq_true rfl | exact Nat.zero_le _, by first | exact Nat.le_of_ble_eq_true rfl | exact Nat.zero_le _⟩ gX10_store_9.1 (fun r4452 hr4452 => ?_)
            refine vV (wr := [(h0, oX10 tby (nI kt) tln tsp tkd ts9 tn9 tf9), (tln, oX8 9 7 tlnc (nI kln)), (tlnc, iA G 63 ftln), (tsp, oX8 120 1 tspc (nI ksp)), (tspc, iA G 120 ftsp), (bb, oX0 bpersons bpapers bstamps bversions blines bsteps bsayings bfindings bwarnings bquestions td vd vl gp), (blines, oX8 72 7 blinesc (nI vkb)), (blinesc, iA G 504 vbl), (bversions, oX8 8 3 bversionsc (nI (kbversions + 1))), (bversionsc, iA G 24 f14439)]) hC hK hl hP hD hS hA (c_T_set l G bsteps (nI vkc) 0 r4452 960 1 bstepsc (vkc + 1) vbs (by omega) (by omega) (by omega)) si_X10_66 [11, 8] [0, 1, 2, 3, 4, 5, 6, 7, 9, 10] sm_11_8 fm_11_8 nd_11_8 sm_0_1_2_3_4_5_6_7_9_10 nd_0_1_2_3_4_5_6_7_9_10 dj_11_8__0_1_2_3_4_5_6_7_9_10 rfl rfl rfl rfl rfl (Nat.le_of_ble_eq_true rfl) rm_3_1_4 ⟨Nat.le_of_ble_eq_true rfl, Nat.le_of_ble_eq_true rfl⟩ gX10_store_9.2.1 (fun f14456 H locs hr4454 hP hD hS => ?_)
            try dsimp only at hr4454
            refine Kpdr (ws := [(h0, oX10 tby (nI kt) tln tsp tkd ts9 tn9 tf9), (tln, oX8 9 7 tlnc (nI kln)), (tlnc, iA G 63 ftln), (tsp, oX8 120 1 tspc (nI ksp)), (tspc, iA G 120 ftsp), (bb, oX0 bpersons bpapers bstamps bversions blines bsteps bsayings bfindings bwarnings bquestions td vd vl gp), (blines, oX8 72 7 blinesc (nI vkb)), (blinesc, iA G 504 vbl), (bversions, oX8 8 3 bversionsc (nI (kbversions + 1))), (bversionsc, iA G 24 f14439), (bsteps, oX8 960 1 bstepsc (nI (vkc + 1))), (bstepsc, iA G 960 f14456)]) hP hD (fun hP hD => ?_)
            have w4457 := hr4454
            refine lv_iinc (v := nI (kQ + 1)) (lv' := [(4, .int (nI (kQ + 1))), (3, .int (nI kbsteps)), (2, .int (nI kbversions)), (0, .ref h0), (1, .ref bb)]) hx hb gX10_store_9.2.2.1 hl (k := 0) rfl (nI_1 _) (by decide) rfl (fun ls hl => ?_)
            refine lv_goto (tgt := 154) hx hb gX10_store_9.2.2.2.1 (by decide) ?_
            refine Kpds (ws' := [(h0, oX10 tby (nI kt) tln tsp tkd ts9 tn9 tf9), (tln, oX8 9 7 tlnc (nI kln)), (tlnc, iA G 63 ftln), (tsp, oX8 120 1 tspc (nI ksp)), (tspc, iA G 120 ftsp), (bb, oX0 bpersons bpapers bstamps bversions blines bsteps bsayings bfindings bwarnings bquestions td vd vl gp), (blines, oX8 72 7 blinesc (nI vkb)), (blinesc, iA G 504 vbl), (bsteps, oX8 960 1 bstepsc (nI (vkc + 1))), (bstepsc, iA G 960 f14456), (bversions, oX8 8 3 bversionsc (nI (kbversions + 1))), (bversionsc, iA G 24 f14439)]) hP hD [0, 1, 2, 3, 4, 5, 6, 7, 10, 11, 8, 9] fm_0_1_2_3_4_5_6_7_10_11_8_9 nd_0_1_2_3_4_5_6_7_10_11_8_9 sm_0_1_2_3_4_5_6_7_10_11_8_9 (fun hP hD => ?_)
            exact ihQ (kQ + 1) f14456 (vkc + 1) _ _ _ (by omega) (by first | assumption | exact Or.inl rfl | exact Or.inr rfl | omega) (And.intro hP hD) hS (lv_sub hl [0, 1, 2, 3, 4] rfl)
          · refine iV (wr := [(h0, oX10 tby (nI kt) tln tsp tkd ts9 tn9 tf9), (tln, oX8 9 7 tlnc (nI kln)), (tlnc, iA G 63 ftln), (tsp, oX8 120 1 tspc (nI ksp)), (tspc, iA G 120 ftsp), (bb, oX0 bpersons bpapers bstamps bversions blines bsteps bsayings bfindings bwarnings bquestions td vd vl gp), (blines, oX8 72 7 blinesc (nI vkb)), (blinesc, iA G 504 vbl), (bstepsc, iA G 960 vbs), (bversions, oX8 8 3 bversionsc (nI (kbversions + 1))), (bversionsc, iA G 24 f14439)]) hC hK hl hP hD hS hA (c_T_appendF l G bsteps 960 1 bstepsc vkc (by omega) (by omega)) si_X10_59 [8] [0, 1, 2, 3, 4, 5, 6, 7, 9, 10, 11] sm_8 fm_8 nd_8 sm_0_1_2_3_4_5_6_7_9_10_11 nd_0_1_2_3_4_5_6_7_9_10_11 dj_8__0_1_2_3_4_5_6_7_9_10_11 rfl rfl rfl rfl rfl (Nat.le_of_ble_eq_true rfl) rm_3_1_1 ⟨Nat.le_of_ble_eq_true rfl, Nat.le_of_ble_eq_true rfl⟩ gX10_store_8.2.2.2.2.1 (fun r4458 u4459 H locs hr4458 hP hD hS => ?_)
            refine Kpdr (ws := [(h0, oX10 tby (nI kt) tln tsp tkd ts9 tn9 tf9), (tln, oX8 9 7 tlnc (nI kln)), (tlnc, iA G 63 ftln), (tsp, oX8 120 1 tspc (nI ksp)), (tspc, iA G 120 ftsp), (bb, oX0 bpersons bpapers bstamps bversions blines bsteps bsayings bfindings bwarnings bquestions td vd vl gp), (blines, oX8 72 7 blinesc (nI vkb)), (blinesc, iA G 504 vbl), (bstepsc, iA G 960 vbs), (bversions, oX8 8 3 bversionsc (nI (kbversions + 1))), (bversionsc, iA G 24 f14439), (bsteps, oX8 960 1 bstepsc (nI vkc))]) hP hD (fun hP hD => ?_)
            obtain rfl := hr4458
            refine lv_iconst (v := 0) hx hb gX10_store_8.2.2.2.2.2.1 (by decide) ?_
            refine lv_aload_n hx hb gX10_store_8.2.2.2.2.2.2.1 rfl (lv_at3 hl) ?_
            refine gf_X10_24 hC rfl hK hP 0 rfl rfl gX10_store_8.2.2.2.2.2.2.2.1 ?_
            refine lv_iload hx hb gX10_store_8.2.2.2.2.2.2.2.2.1 (lv_at0 hl) ?_
            refine lv_iconst (v := 0) hx hb gX10_store_8.2.2.2.2.2.2.2.2.2 (by decide) ?_
            refine pV hC hK hl hP hD (c_T_at l G tsp (nI kQ) 0 120 1 tspc ksp ftsp (hksp) (by omega) (by omega)) si_X10_74 [3, 4] sm_3_4 fm_3_4 nd_3_4 rfl rfl rfl rfl rfl (Nat.le_of_ble_eq_true rfl) rm_3_1_3 ⟨by first | exact Nat.le_of_ble_eq_true rfl | exact Nat.zero_le _, by first | exact Nat.le_of_ble_eq_true rfl | exact Nat.zero_le _⟩ gX10_store_9.1 (fun r4461 hr4461 => ?_)
            refine vV (wr := [(h0, oX10 tby (nI kt) tln tsp tkd ts9 tn9 tf9), (tln, oX8 9 7 tlnc (nI kln)), (tlnc, iA G 63 ftln), (tsp, oX8 120 1 tspc (nI ksp)), (tspc, iA G 120 ftsp), (bb, oX0 bpersons bpapers bstamps bversions blines bsteps bsayings bfindings bwarnings bquestions td vd vl gp), (blines, oX8 72 7 blinesc (nI vkb)), (blinesc, iA G 504 vbl), (bversions, oX8 8 3 bversionsc (nI (kbversions + 1))), (bversionsc, iA G 24 f14439)]) hC hK hl hP hD hS hA (c_T_set l G bsteps (-2) 0 r4461 960 1 bstepsc vkc vbs (hvkc) (by omega) (by omega)) si_X10_66 [11, 8] [0, 1, 2, 3, 4, 5, 6, 7, 9, 10] sm_11_8 fm_11_8 nd_11_8 sm_0_1_2_3_4_5_6_7_9_10 nd_0_1_2_3_4_5_6_7_9_10 dj_11_8__0_1_2_3_4_5_6_7_9_10 rfl rfl rfl rfl rfl (Nat.le_of_ble_eq_true rfl) rm_3_1_4 ⟨Nat.le_of_ble_eq_true rfl, Nat.le_of_ble_eq_true rfl⟩ gX10_store_9.2.1 (fun f14465 H locs hr4463 hP hD hS => ?_)
            try dsimp only at hr4463
            refine Kpdr (ws := [(h0, oX10 tby (nI kt) tln tsp tkd ts9 tn9 tf9), (tln, oX8 9 7 tlnc (nI kln)), (tlnc, iA G 63 ftln), (tsp, oX8 120 1 tspc (nI ksp)), (tspc, iA G 120 ftsp), (bb, oX0 bpersons bpapers bstamps bversions blines bsteps bsayings bfindings bwarnings bquestions td vd vl gp), (blines, oX8 72 7 blinesc (nI vkb)), (blinesc, iA G 504 vbl), (bversions, oX8 8 3 bversionsc (nI (kbversions + 1))), (bversionsc, iA G 24 f14439), (bsteps, oX8 960 1 bstepsc (nI vkc)), (bstepsc, iA G 960 f14465)]) hP hD (fun hP hD => ?_)
            have w4466 := hr4463
            refine lv_iinc (v := nI (kQ + 1)) (lv' := [(4, .int (nI (kQ + 1))), (3, .int (nI kbsteps)), (2, .int (nI kbversions)), (0, .ref h0), (1, .ref bb)]) hx hb gX10_store_9.2.2.1 hl (k := 0) rfl (nI_1 _) (by decide) rfl (fun ls hl => ?_)
            refine lv_goto (tgt := 154) hx hb gX10_store_9.2.2.2.1 (by decide) ?_
            refine Kpds (ws' := [(h0, oX10 tby (nI kt) tln tsp tkd ts9 tn9 tf9), (tln, oX8 9 7 tlnc (nI kln)), (tlnc, iA G 63 ftln), (tsp, oX8 120 1 tspc (nI ksp)), (tspc, iA G 120 ftsp), (bb, oX0 bpersons bpapers bstamps bversions blines bsteps bsayings bfindings bwarnings bquestions td vd vl gp), (blines, oX8 72 7 blinesc (nI vkb)), (blinesc, iA G 504 vbl), (bsteps, oX8 960 1 bstepsc (nI vkc)), (bstepsc, iA G 960 f14465), (bversions, oX8 8 3 bversionsc (nI (kbversions + 1))), (bversionsc, iA G 24 f14439)]) hP hD [0, 1, 2, 3, 4, 5, 6, 7, 10, 11, 8, 9] fm_0_1_2_3_4_5_6_7_10_11_8_9 nd_0_1_2_3_4_5_6_7_10_11_8_9 sm_0_1_2_3_4_5_6_7_10_11_8_9 (fun hP hD => ?_)
            exact ihQ (kQ + 1) f14465 vkc _ _ _ (by omega) (by first | assumption | exact Or.inl rfl | exact Or.inr rfl | omega) (And.intro hP hD) hS (lv_sub hl [0, 1, 2, 3, 4] rfl)
      exact keyQ ksp 0 fbsteps kbsteps _ _ _ (by omega) (by first | assumption | exact Or.inl rfl | exact Or.inr rfl | omega) (And.intro hP hD) hS (lv_sub hl [0, 1, 2, 3, 4] rfl)
    | succ nP ihP =>
      intro kP vbl vkb H locs ls hkP hvkb hPD hS hl
      refine Kan2 hPD (fun hP hD => ?_)
      refine lv_iload hx hb gX10_store_3.2.2.2.1 (lv_at0 hl) ?_
      refine lv_aload_n hx hb gX10_store_3.2.2.2.2.1 rfl (lv_at3 hl) ?_
      refine gf_X10_20 hC rfl hK hP 0 rfl rfl gX10_store_3.2.2.2.2.2.1 ?_
      refine pV hC hK hl hP hD (c_T_count l G tln 9 7 tlnc kln) si_X10_71 [1] sm_1 fm_1 nd_1 rfl rfl rfl rfl rfl (Nat.le_of_ble_eq_true rfl) rm_3_1_1 ⟨by first | exact Nat.le_of_ble_eq_true rfl | exact Nat.zero_le _, by first | exact Nat.le_of_ble_eq_true rfl | exact Nat.zero_le _⟩ gX10_store_3.2.2.2.2.2.2.1 (Keqr ?_)
      refine lv_icmp_ge (tgt := 151) hx hb gX10_store_3.2.2.2.2.2.2.2.1 (by decide) (fun c9 => absurd c9 (nI_ge (a := kP) (b := kln) (by omega) (by omega))) (fun _ => ?_)
      refine lv_aload_n hx hb gX10_store_3.2.2.2.2.2.2.2.2.1 rfl (lv_at4 hl) ?_
      refine gf_X10_70 hC rfl hK hP 5 rfl rfl gX10_store_3.2.2.2.2.2.2.2.2.2 ?_
      rcases Nat.lt_or_ge vkb 72 with hcap9 | hcap9
      · refine iV (wr := [(h0, oX10 tby (nI kt) tln tsp tkd ts9 tn9 tf9), (tln, oX8 9 7 tlnc (nI kln)), (tlnc, iA G 63 ftln), (tsp, oX8 120 1 tspc (nI ksp)), (tspc, iA G 120 ftsp), (bb, oX0 bpersons bpapers bstamps bversions blines bsteps bsayings bfindings bwarnings bquestions td vd vl gp), (blinesc, iA G 504 vbl), (bsteps, oX8 960 1 bstepsc (nI kbsteps)), (bstepsc, iA G 960 fbsteps), (bversions, oX8 8 3 bversionsc (nI (kbversions + 1))), (bversionsc, iA G 24 f14439)]) hC hK hl hP hD hS hA (c_T_append l G blines 72 7 blinesc vkb (by omega) (by omega)) si_X10_59 [6] [0, 1, 2, 3, 4, 5, 7, 8, 9, 10, 11] sm_6 fm_6 nd_6 sm_0_1_2_3_4_5_7_8_9_10_11 nd_0_1_2_3_4_5_7_8_9_10_11 dj_6__0_1_2_3_4_5_7_8_9_10_11 rfl rfl rfl rfl rfl (Nat.le_of_ble_eq_true rfl) rm_3_1_1 ⟨Nat.le_of_ble_eq_true rfl, Nat.le_of_ble_eq_true rfl⟩ gX10_store_4.1 (fun r4469 u4470 H locs hr4469 hP hD hS => ?_)
        refine Kpdr (ws := [(h0, oX10 tby (nI kt) tln tsp tkd ts9 tn9 tf9), (tln, oX8 9 7 tlnc (nI kln)), (tlnc, iA G 63 ftln), (tsp, oX8 120 1 tspc (nI ksp)), (tspc, iA G 120 ftsp), (bb, oX0 bpersons bpapers bstamps bversions blines bsteps bsayings bfindings bwarnings bquestions td vd vl gp), (blinesc, iA G 504 vbl), (bsteps, oX8 960 1 bstepsc (nI kbsteps)), (bstepsc, iA G 960 fbsteps), (bversions, oX8 8 3 bversionsc (nI (kbversions + 1))), (bversionsc, iA G 24 f14439), (blines, oX8 72 7 blinesc (nI (vkb + 1)))]) hP hD (fun hP hD => ?_)
        obtain rfl := hr4469
        refine lv_istore (lv' := [(5, .int (nI vkb)), (4, .int (nI kP)), (3, .int (nI kbsteps)), (2, .int (nI kbversions)), (0, .ref h0), (1, .ref bb)]) hx hb gX10_store_4.2.1 hl (by decide) rfl (fun ls hl => ?_)
        refine lv_iconst (v := 0) hx hb gX10_store_4.2.2.1 (by decide) ?_
        refine lv_istore (lv' := [(6, .int 0), (5, .int (nI vkb)), (4, .int (nI kP)), (3, .int (nI kbsteps)), (2, .int (nI kbversions)), (0, .ref h0), (1, .ref bb)]) hx hb gX10_store_4.2.2.2.1 hl (by decide) rfl (fun ls hl => ?_)
        refine lv_iload hx hb gX10_store_4.2.2.2.2.1 (lv_at0 hl) ?_
        refine lv_bipush (v := 6) hx hb gX10_store_4.2.2.2.2.2.1 (by decide) ?_
        refine lv_icmp_gt (tgt := 123) hx hb gX10_store_4.2.2.2.2.2.2.1 (by decide) (fun c9 => absurd c9 (by decide)) (fun _ => ?_)
        refine lv_aload_n hx hb gX10_store_4.2.2.2.2.2.2.2.1 rfl (lv_at6 hl) ?_
        refine gf_X10_70 hC rfl hK hP 5 rfl rfl gX10_store_4.2.2.2.2.2.2.2.2.1 ?_
        refine lv_iload hx hb gX10_store_4.2.2.2.2.2.2.2.2.2 (lv_at1 hl) ?_
        refine lv_iload hx hb gX10_store_5.1 (lv_at0 hl) ?_
        refine lv_aload_n hx hb gX10_store_5.2.1 rfl (lv_at5 hl) ?_
        refine gf_X10_20 hC rfl hK hP 0 rfl rfl gX10_store_5.2.2.1 ?_
        refine lv_iload hx hb gX10_store_5.2.2.2.1 (lv_at2 hl) ?_
        refine lv_iload hx hb gX10_store_5.2.2.2.2.1 (lv_at0 hl) ?_
        refine pV hC hK hl hP hD (c_T_at l G tln (nI kP) 0 9 7 tlnc kln ftln (hkln) (by omega) (by omega)) si_X10_74 [1, 2] sm_1_2 fm_1_2 nd_1_2 rfl rfl rfl rfl rfl (Nat.le_of_ble_eq_true rfl) rm_3_1_3 ⟨by first | exact Nat.le_of_ble_eq_true rfl | exact Nat.zero_le _, by first | exact Nat.le_of_ble_eq_true rfl | exact Nat.zero_le _⟩ gX10_store_5.2.2.2.2.2.1 (fun r4472 hr4472 => ?_)
        refine vV (wr := [(h0, oX10 tby (nI kt) tln tsp tkd ts9 tn9 tf9), (tln, oX8 9 7 tlnc (nI kln)), (tlnc, iA G 63 ftln), (tsp, oX8 120 1 tspc (nI ksp)), (tspc, iA G 120 ftsp), (bb, oX0 bpersons bpapers bstamps bversions blines bsteps bsayings bfindings bwarnings bquestions td vd vl gp), (bsteps, oX8 960 1 bstepsc (nI kbsteps)), (bstepsc, iA G 960 fbsteps), (bversions, oX8 8 3 bversionsc (nI (kbversions + 1))), (bversionsc, iA G 24 f14439)]) hC hK hl hP hD hS hA (c_T_set l G blines (nI vkb) 0 r4472 72 7 blinesc (vkb + 1) vbl (by omega) (by omega) (by omega)) si_X10_66 [11, 6] [0, 1, 2, 3, 4, 5, 7, 8, 9, 10] sm_11_6 fm_11_6 nd_11_6 sm_0_1_2_3_4_5_7_8_9_10 nd_0_1_2_3_4_5_7_8_9_10 dj_11_6__0_1_2_3_4_5_7_8_9_10 rfl rfl rfl rfl rfl (Nat.le_of_ble_eq_true rfl) rm_3_1_4 ⟨Nat.le_of_ble_eq_true rfl, Nat.le_of_ble_eq_true rfl⟩ gX10_store_5.2.2.2.2.2.2.1 (fun f14476 H locs hr4474 hP hD hS => ?_)
        try dsimp only at hr4474
        refine Kpdr (ws := [(h0, oX10 tby (nI kt) tln tsp tkd ts9 tn9 tf9), (tln, oX8 9 7 tlnc (nI kln)), (tlnc, iA G 63 ftln), (tsp, oX8 120 1 tspc (nI ksp)), (tspc, iA G 120 ftsp), (bb, oX0 bpersons bpapers bstamps bversions blines bsteps bsayings bfindings bwarnings bquestions td vd vl gp), (bsteps, oX8 960 1 bstepsc (nI kbsteps)), (bstepsc, iA G 960 fbsteps), (bversions, oX8 8 3 bversionsc (nI (kbversions + 1))), (bversionsc, iA G 24 f14439), (blines, oX8 72 7 blinesc (nI (vkb + 1))), (blinesc, iA G 504 f14476)]) hP hD (fun hP hD => ?_)
        have w4477 := hr4474
        refine lv_iinc (v := 1) (lv' := [(6, .int 1), (5, .int (nI vkb)), (4, .int (nI kP)), (3, .int (nI kbsteps)), (2, .int (nI kbversions)), (0, .ref h0), (1, .ref bb)]) hx hb gX10_store_5.2.2.2.2.2.2.2.1 hl (k := 0) rfl (by decide) (by decide) rfl (fun ls hl => ?_)
        refine lv_goto (tgt := 88) hx hb gX10_store_5.2.2.2.2.2.2.2.2.1 (by decide) ?_
        refine lv_iload hx hb gX10_store_4.2.2.2.2.1 (lv_at0 hl) ?_
        refine lv_bipush (v := 6) hx hb gX10_store_4.2.2.2.2.2.1 (by decide) ?_
        refine lv_icmp_gt (tgt := 123) hx hb gX10_store_4.2.2.2.2.2.2.1 (by decide) (fun c9 => absurd c9 (by decide)) (fun _ => ?_)
        refine lv_aload_n hx hb gX10_store_4.2.2.2.2.2.2.2.1 rfl (lv_at6 hl) ?_
        refine gf_X10_70 hC rfl hK hP 5 rfl rfl gX10_store_4.2.2.2.2.2.2.2.2.1 ?_
        refine lv_iload hx hb gX10_store_4.2.2.2.2.2.2.2.2.2 (lv_at1 hl) ?_
        refine lv_iload hx hb gX10_store_5.1 (lv_at0 hl) ?_
        refine lv_aload_n hx hb gX10_store_5.2.1 rfl (lv_at5 hl) ?_
        refine gf_X10_20 hC rfl hK hP 0 rfl rfl gX10_store_5.2.2.1 ?_
        refine lv_iload hx hb gX10_store_5.2.2.2.1 (lv_at2 hl) ?_
        refine lv_iload hx hb gX10_store_5.2.2.2.2.1 (lv_at0 hl) ?_
        refine pV hC hK hl hP hD (c_T_at l G tln (nI kP) 1 9 7 tlnc kln ftln (hkln) (by omega) (by omega)) si_X10_74 [1, 2] sm_1_2 fm_1_2 nd_1_2 rfl rfl rfl rfl rfl (Nat.le_of_ble_eq_true rfl) rm_3_1_3 ⟨by first | exact Nat.le_of_ble_eq_true rfl | exact Nat.zero_le _, by first | exact Nat.le_of_ble_eq_true rfl | exact Nat.zero_le _⟩ gX10_store_5.2.2.2.2.2.1 (fun r4478 hr4478 => ?_)
        refine vV (wr := [(h0, oX10 tby (nI kt) tln tsp tkd ts9 tn9 tf9), (tln, oX8 9 7 tlnc (nI kln)), (tlnc, iA G 63 ftln), (tsp, oX8 120 1 tspc (nI ksp)), (tspc, iA G 120 ftsp), (bb, oX0 bpersons bpapers bstamps bversions blines bsteps bsayings bfindings bwarnings bquestions td vd vl gp), (bsteps, oX8 960 1 bstepsc (nI kbsteps)), (bstepsc, iA G 960 fbsteps), (bversions, oX8 8 3 bversionsc (nI (kbversions + 1))), (bversionsc, iA G 24 f14439)]) hC hK hl hP hD hS hA (c_T_set l G blines (nI vkb) 1 r4478 72 7 blinesc (vkb + 1) f14476 (by omega) (by omega) (by omega)) si_X10_66 [10, 11] [0, 1, 2, 3, 4, 5, 6, 7, 8, 9] sm_10_11 fm_10_11 nd_10_11 sm_0_1_2_3_4_5_6_7_8_9 nd_0_1_2_3_4_5_6_7_8_9 dj_10_11__0_1_2_3_4_5_6_7_8_9 rfl rfl rfl rfl rfl (Nat.le_of_ble_eq_true rfl) rm_3_1_4 ⟨Nat.le_of_ble_eq_true rfl, Nat.le_of_ble_eq_true rfl⟩ gX10_store_5.2.2.2.2.2.2.1 (fun f14482 H locs hr4480 hP hD hS => ?_)
        try dsimp only at hr4480
        refine Kpdr (ws := [(h0, oX10 tby (nI kt) tln tsp tkd ts9 tn9 tf9), (tln, oX8 9 7 tlnc (nI kln)), (tlnc, iA G 63 ftln), (tsp, oX8 120 1 tspc (nI ksp)), (tspc, iA G 120 ftsp), (bb, oX0 bpersons bpapers bstamps bversions blines bsteps bsayings bfindings bwarnings bquestions td vd vl gp), (bsteps, oX8 960 1 bstepsc (nI kbsteps)), (bstepsc, iA G 960 fbsteps), (bversions, oX8 8 3 bversionsc (nI (kbversions + 1))), (bversionsc, iA G 24 f14439), (blines, oX8 72 7 blinesc (nI (vkb + 1))), (blinesc, iA G 504 f14482)]) hP hD (fun hP hD => ?_)
        have w4483 := hr4480
        refine lv_iinc (v := 2) (lv' := [(6, .int 2), (5, .int (nI vkb)), (4, .int (nI kP)), (3, .int (nI kbsteps)), (2, .int (nI kbversions)), (0, .ref h0), (1, .ref bb)]) hx hb gX10_store_5.2.2.2.2.2.2.2.1 hl (k := 0) rfl (by decide) (by decide) rfl (fun ls hl => ?_)
        refine lv_goto (tgt := 88) hx hb gX10_store_5.2.2.2.2.2.2.2.2.1 (by decide) ?_
        refine lv_iload hx hb gX10_store_4.2.2.2.2.1 (lv_at0 hl) ?_
        refine lv_bipush (v := 6) hx hb gX10_store_4.2.2.2.2.2.1 (by decide) ?_
        refine lv_icmp_gt (tgt := 123) hx hb gX10_store_4.2.2.2.2.2.2.1 (by decide) (fun c9 => absurd c9 (by decide)) (fun _ => ?_)
        refine lv_aload_n hx hb gX10_store_4.2.2.2.2.2.2.2.1 rfl (lv_at6 hl) ?_
        refine gf_X10_70 hC rfl hK hP 5 rfl rfl gX10_store_4.2.2.2.2.2.2.2.2.1 ?_
        refine lv_iload hx hb gX10_store_4.2.2.2.2.2.2.2.2.2 (lv_at1 hl) ?_
        refine lv_iload hx hb gX10_store_5.1 (lv_at0 hl) ?_
        refine lv_aload_n hx hb gX10_store_5.2.1 rfl (lv_at5 hl) ?_
        refine gf_X10_20 hC rfl hK hP 0 rfl rfl gX10_store_5.2.2.1 ?_
        refine lv_iload hx hb gX10_store_5.2.2.2.1 (lv_at2 hl) ?_
        refine lv_iload hx hb gX10_store_5.2.2.2.2.1 (lv_at0 hl) ?_
        refine pV hC hK hl hP hD (c_T_at l G tln (nI kP) 2 9 7 tlnc kln ftln (hkln) (by omega) (by omega)) si_X10_74 [1, 2] sm_1_2 fm_1_2 nd_1_2 rfl rfl rfl rfl rfl (Nat.le_of_ble_eq_true rfl) rm_3_1_3 ⟨by first | exact Nat.le_of_ble_eq_true rfl | exact Nat.zero_le _, by first | exact Nat.le_of_ble_eq_true rfl | exact Nat.zero_le _⟩ gX10_store_5.2.2.2.2.2.1 (fun r4484 hr4484 => ?_)
        refine vV (wr := [(h0, oX10 tby (nI kt) tln tsp tkd ts9 tn9 tf9), (tln, oX8 9 7 tlnc (nI kln)), (tlnc, iA G 63 ftln), (tsp, oX8 120 1 tspc (nI ksp)), (tspc, iA G 120 ftsp), (bb, oX0 bpersons bpapers bstamps bversions blines bsteps bsayings bfindings bwarnings bquestions td vd vl gp), (bsteps, oX8 960 1 bstepsc (nI kbsteps)), (bstepsc, iA G 960 fbsteps), (bversions, oX8 8 3 bversionsc (nI (kbversions + 1))), (bversionsc, iA G 24 f14439)]) hC hK hl hP hD hS hA (c_T_set l G blines (nI vkb) 2 r4484 72 7 blinesc (vkb + 1) f14482 (by omega) (by omega) (by omega)) si_X10_66 [10, 11] [0, 1, 2, 3, 4, 5, 6, 7, 8, 9] sm_10_11 fm_10_11 nd_10_11 sm_0_1_2_3_4_5_6_7_8_9 nd_0_1_2_3_4_5_6_7_8_9 dj_10_11__0_1_2_3_4_5_6_7_8_9 rfl rfl rfl rfl rfl (Nat.le_of_ble_eq_true rfl) rm_3_1_4 ⟨Nat.le_of_ble_eq_true rfl, Nat.le_of_ble_eq_true rfl⟩ gX10_store_5.2.2.2.2.2.2.1 (fun f14488 H locs hr4486 hP hD hS => ?_)
        try dsimp only at hr4486
        refine Kpdr (ws := [(h0, oX10 tby (nI kt) tln tsp tkd ts9 tn9 tf9), (tln, oX8 9 7 tlnc (nI kln)), (tlnc, iA G 63 ftln), (tsp, oX8 120 1 tspc (nI ksp)), (tspc, iA G 120 ftsp), (bb, oX0 bpersons bpapers bstamps bversions blines bsteps bsayings bfindings bwarnings bquestions td vd vl gp), (bsteps, oX8 960 1 bstepsc (nI kbsteps)), (bstepsc, iA G 960 fbsteps), (bversions, oX8 8 3 bversionsc (nI (kbversions + 1))), (bversionsc, iA G 24 f14439), (blines, oX8 72 7 blinesc (nI (vkb + 1))), (blinesc, iA G 504 f14488)]) hP hD (fun hP hD => ?_)
        have w4489 := hr4486
        refine lv_iinc (v := 3) (lv' := [(6, .int 3), (5, .int (nI vkb)), (4, .int (nI kP)), (3, .int (nI kbsteps)), (2, .int (nI kbversions)), (0, .ref h0), (1, .ref bb)]) hx hb gX10_store_5.2.2.2.2.2.2.2.1 hl (k := 0) rfl (by decide) (by decide) rfl (fun ls hl => ?_)
        refine lv_goto (tgt := 88) hx hb gX10_store_5.2.2.2.2.2.2.2.2.1 (by decide) ?_
        refine lv_iload hx hb gX10_store_4.2.2.2.2.1 (lv_at0 hl) ?_
        refine lv_bipush (v := 6) hx hb gX10_store_4.2.2.2.2.2.1 (by decide) ?_
        refine lv_icmp_gt (tgt := 123) hx hb gX10_store_4.2.2.2.2.2.2.1 (by decide) (fun c9 => absurd c9 (by decide)) (fun _ => ?_)
        refine lv_aload_n hx hb gX10_store_4.2.2.2.2.2.2.2.1 rfl (lv_at6 hl) ?_
        refine gf_X10_70 hC rfl hK hP 5 rfl rfl gX10_store_4.2.2.2.2.2.2.2.2.1 ?_
        refine lv_iload hx hb gX10_store_4.2.2.2.2.2.2.2.2.2 (lv_at1 hl) ?_
        refine lv_iload hx hb gX10_store_5.1 (lv_at0 hl) ?_
        refine lv_aload_n hx hb gX10_store_5.2.1 rfl (lv_at5 hl) ?_
        refine gf_X10_20 hC rfl hK hP 0 rfl rfl gX10_store_5.2.2.1 ?_
        refine lv_iload hx hb gX10_store_5.2.2.2.1 (lv_at2 hl) ?_
        refine lv_iload hx hb gX10_store_5.2.2.2.2.1 (lv_at0 hl) ?_
        refine pV hC hK hl hP hD (c_T_at l G tln (nI kP) 3 9 7 tlnc kln ftln (hkln) (by omega) (by omega)) si_X10_74 [1, 2] sm_1_2 fm_1_2 nd_1_2 rfl rfl rfl rfl rfl (Nat.le_of_ble_eq_true rfl) rm_3_1_3 ⟨by first | exact Nat.le_of_ble_eq_true rfl | exact Nat.zero_le _, by first | exact Nat.le_of_ble_eq_true rfl | exact Nat.zero_le _⟩ gX10_store_5.2.2.2.2.2.1 (fun r4490 hr4490 => ?_)
        refine vV (wr := [(h0, oX10 tby (nI kt) tln tsp tkd ts9 tn9 tf9), (tln, oX8 9 7 tlnc (nI kln)), (tlnc, iA G 63 ftln), (tsp, oX8 120 1 tspc (nI ksp)), (tspc, iA G 120 ftsp), (bb, oX0 bpersons bpapers bstamps bversions blines bsteps bsayings bfindings bwarnings bquestions td vd vl gp), (bsteps, oX8 960 1 bstepsc (nI kbsteps)), (bstepsc, iA G 960 fbsteps), (bversions, oX8 8 3 bversionsc (nI (kbversions + 1))), (bversionsc, iA G 24 f14439)]) hC hK hl hP hD hS hA (c_T_set l G blines (nI vkb) 3 r4490 72 7 blinesc (vkb + 1) f14488 (by omega) (by omega) (by omega)) si_X10_66 [10, 11] [0, 1, 2, 3, 4, 5, 6, 7, 8, 9] sm_10_11 fm_10_11 nd_10_11 sm_0_1_2_3_4_5_6_7_8_9 nd_0_1_2_3_4_5_6_7_8_9 dj_10_11__0_1_2_3_4_5_6_7_8_9 rfl rfl rfl rfl rfl (Nat.le_of_ble_eq_true rfl) rm_3_1_4 ⟨Nat.le_of_ble_eq_true rfl, Nat.le_of_ble_eq_true rfl⟩ gX10_store_5.2.2.2.2.2.2.1 (fun f14494 H locs hr4492 hP hD hS => ?_)
        try dsimp only at hr4492
        refine Kpdr (ws := [(h0, oX10 tby (nI kt) tln tsp tkd ts9 tn9 tf9), (tln, oX8 9 7 tlnc (nI kln)), (tlnc, iA G 63 ftln), (tsp, oX8 120 1 tspc (nI ksp)), (tspc, iA G 120 ftsp), (bb, oX0 bpersons bpapers bstamps bversions blines bsteps bsayings bfindings bwarnings bquestions td vd vl gp), (bsteps, oX8 960 1 bstepsc (nI kbsteps)), (bstepsc, iA G 960 fbsteps), (bversions, oX8 8 3 bversionsc (nI (kbversions + 1))), (bversionsc, iA G 24 f14439), (blines, oX8 72 7 blinesc (nI (vkb + 1))), (blinesc, iA G 504 f14494)]) hP hD (fun hP hD => ?_)
        have w4495 := hr4492
        refine lv_iinc (v := 4) (lv' := [(6, .int 4), (5, .int (nI vkb)), (4, .int (nI kP)), (3, .int (nI kbsteps)), (2, .int (nI kbversions)), (0, .ref h0), (1, .ref bb)]) hx hb gX10_store_5.2.2.2.2.2.2.2.1 hl (k := 0) rfl (by decide) (by decide) rfl (fun ls hl => ?_)
        refine lv_goto (tgt := 88) hx hb gX10_store_5.2.2.2.2.2.2.2.2.1 (by decide) ?_
        refine lv_iload hx hb gX10_store_4.2.2.2.2.1 (lv_at0 hl) ?_
        refine lv_bipush (v := 6) hx hb gX10_store_4.2.2.2.2.2.1 (by decide) ?_
        refine lv_icmp_gt (tgt := 123) hx hb gX10_store_4.2.2.2.2.2.2.1 (by decide) (fun c9 => absurd c9 (by decide)) (fun _ => ?_)
        refine lv_aload_n hx hb gX10_store_4.2.2.2.2.2.2.2.1 rfl (lv_at6 hl) ?_
        refine gf_X10_70 hC rfl hK hP 5 rfl rfl gX10_store_4.2.2.2.2.2.2.2.2.1 ?_
        refine lv_iload hx hb gX10_store_4.2.2.2.2.2.2.2.2.2 (lv_at1 hl) ?_
        refine lv_iload hx hb gX10_store_5.1 (lv_at0 hl) ?_
        refine lv_aload_n hx hb gX10_store_5.2.1 rfl (lv_at5 hl) ?_
        refine gf_X10_20 hC rfl hK hP 0 rfl rfl gX10_store_5.2.2.1 ?_
        refine lv_iload hx hb gX10_store_5.2.2.2.1 (lv_at2 hl) ?_
        refine lv_iload hx hb gX10_store_5.2.2.2.2.1 (lv_at0 hl) ?_
        refine pV hC hK hl hP hD (c_T_at l G tln (nI kP) 4 9 7 tlnc kln ftln (hkln) (by omega) (by omega)) si_X10_74 [1, 2] sm_1_2 fm_1_2 nd_1_2 rfl rfl rfl rfl rfl (Nat.le_of_ble_eq_true rfl) rm_3_1_3 ⟨by first | exact Nat.le_of_ble_eq_true rfl | exact Nat.zero_le _, by first | exact Nat.le_of_ble_eq_true rfl | exact Nat.zero_le _⟩ gX10_store_5.2.2.2.2.2.1 (fun r4496 hr4496 => ?_)
        refine vV (wr := [(h0, oX10 tby (nI kt) tln tsp tkd ts9 tn9 tf9), (tln, oX8 9 7 tlnc (nI kln)), (tlnc, iA G 63 ftln), (tsp, oX8 120 1 tspc (nI ksp)), (tspc, iA G 120 ftsp), (bb, oX0 bpersons bpapers bstamps bversions blines bsteps bsayings bfindings bwarnings bquestions td vd vl gp), (bsteps, oX8 960 1 bstepsc (nI kbsteps)), (bstepsc, iA G 960 fbsteps), (bversions, oX8 8 3 bversionsc (nI (kbversions + 1))), (bversionsc, iA G 24 f14439)]) hC hK hl hP hD hS hA (c_T_set l G blines (nI vkb) 4 r4496 72 7 blinesc (vkb + 1) f14494 (by omega) (by omega) (by omega)) si_X10_66 [10, 11] [0, 1, 2, 3, 4, 5, 6, 7, 8, 9] sm_10_11 fm_10_11 nd_10_11 sm_0_1_2_3_4_5_6_7_8_9 nd_0_1_2_3_4_5_6_7_8_9 dj_10_11__0_1_2_3_4_5_6_7_8_9 rfl rfl rfl rfl rfl (Nat.le_of_ble_eq_true rfl) rm_3_1_4 ⟨Nat.le_of_ble_eq_true rfl, Nat.le_of_ble_eq_true rfl⟩ gX10_store_5.2.2.2.2.2.2.1 (fun f14500 H locs hr4498 hP hD hS => ?_)
        try dsimp only at hr4498
        refine Kpdr (ws := [(h0, oX10 tby (nI kt) tln tsp tkd ts9 tn9 tf9), (tln, oX8 9 7 tlnc (nI kln)), (tlnc, iA G 63 ftln), (tsp, oX8 120 1 tspc (nI ksp)), (tspc, iA G 120 ftsp), (bb, oX0 bpersons bpapers bstamps bversions blines bsteps bsayings bfindings bwarnings bquestions td vd vl gp), (bsteps, oX8 960 1 bstepsc (nI kbsteps)), (bstepsc, iA G 960 fbsteps), (bversions, oX8 8 3 bversionsc (nI (kbversions + 1))), (bversionsc, iA G 24 f14439), (blines, oX8 72 7 blinesc (nI (vkb + 1))), (blinesc, iA G 504 f14500)]) hP hD (fun hP hD => ?_)
        have w4501 := hr4498
        refine lv_iinc (v := 5) (lv' := [(6, .int 5), (5, .int (nI vkb)), (4, .int (nI kP)), (3, .int (nI kbsteps)), (2, .int (nI kbversions)), (0, .ref h0), (1, .ref bb)]) hx hb gX10_store_5.2.2.2.2.2.2.2.1 hl (k := 0) rfl (by decide) (by decide) rfl (fun ls hl => ?_)
        refine lv_goto (tgt := 88) hx hb gX10_store_5.2.2.2.2.2.2.2.2.1 (by decide) ?_
        refine lv_iload hx hb gX10_store_4.2.2.2.2.1 (lv_at0 hl) ?_
        refine lv_bipush (v := 6) hx hb gX10_store_4.2.2.2.2.2.1 (by decide) ?_
        refine lv_icmp_gt (tgt := 123) hx hb gX10_store_4.2.2.2.2.2.2.1 (by decide) (fun c9 => absurd c9 (by decide)) (fun _ => ?_)
        refine lv_aload_n hx hb gX10_store_4.2.2.2.2.2.2.2.1 rfl (lv_at6 hl) ?_
        refine gf_X10_70 hC rfl hK hP 5 rfl rfl gX10_store_4.2.2.2.2.2.2.2.2.1 ?_
        refine lv_iload hx hb gX10_store_4.2.2.2.2.2.2.2.2.2 (lv_at1 hl) ?_
        refine lv_iload hx hb gX10_store_5.1 (lv_at0 hl) ?_
        refine lv_aload_n hx hb gX10_store_5.2.1 rfl (lv_at5 hl) ?_
        refine gf_X10_20 hC rfl hK hP 0 rfl rfl gX10_store_5.2.2.1 ?_
        refine lv_iload hx hb gX10_store_5.2.2.2.1 (lv_at2 hl) ?_
        refine lv_iload hx hb gX10_store_5.2.2.2.2.1 (lv_at0 hl) ?_
        refine pV hC hK hl hP hD (c_T_at l G tln (nI kP) 5 9 7 tlnc kln ftln (hkln) (by omega) (by omega)) si_X10_74 [1, 2] sm_1_2 fm_1_2 nd_1_2 rfl rfl rfl rfl rfl (Nat.le_of_ble_eq_true rfl) rm_3_1_3 ⟨by first | exact Nat.le_of_ble_eq_true rfl | exact Nat.zero_le _, by first | exact Nat.le_of_ble_eq_true rfl | exact Nat.zero_le _⟩ gX10_store_5.2.2.2.2.2.1 (fun r4502 hr4502 => ?_)
        refine vV (wr := [(h0, oX10 tby (nI kt) tln tsp tkd ts9 tn9 tf9), (tln, oX8 9 7 tlnc (nI kln)), (tlnc, iA G 63 ftln), (tsp, oX8 120 1 tspc (nI ksp)), (tspc, iA G 120 ftsp), (bb, oX0 bpersons bpapers bstamps bversions blines bsteps bsayings bfindings bwarnings bquestions td vd vl gp), (bsteps, oX8 960 1 bstepsc (nI kbsteps)), (bstepsc, iA G 960 fbsteps), (bversions, oX8 8 3 bversionsc (nI (kbversions + 1))), (bversionsc, iA G 24 f14439)]) hC hK hl hP hD hS hA (c_T_set l G blines (nI vkb) 5 r4502 72 7 blinesc (vkb + 1) f14500 (by omega) (by omega) (by omega)) si_X10_66 [10, 11] [0, 1, 2, 3, 4, 5, 6, 7, 8, 9] sm_10_11 fm_10_11 nd_10_11 sm_0_1_2_3_4_5_6_7_8_9 nd_0_1_2_3_4_5_6_7_8_9 dj_10_11__0_1_2_3_4_5_6_7_8_9 rfl rfl rfl rfl rfl (Nat.le_of_ble_eq_true rfl) rm_3_1_4 ⟨Nat.le_of_ble_eq_true rfl, Nat.le_of_ble_eq_true rfl⟩ gX10_store_5.2.2.2.2.2.2.1 (fun f14506 H locs hr4504 hP hD hS => ?_)
        try dsimp only at hr4504
        refine Kpdr (ws := [(h0, oX10 tby (nI kt) tln tsp tkd ts9 tn9 tf9), (tln, oX8 9 7 tlnc (nI kln)), (tlnc, iA G 63 ftln), (tsp, oX8 120 1 tspc (nI ksp)), (tspc, iA G 120 ftsp), (bb, oX0 bpersons bpapers bstamps bversions blines bsteps bsayings bfindings bwarnings bquestions td vd vl gp), (bsteps, oX8 960 1 bstepsc (nI kbsteps)), (bstepsc, iA G 960 fbsteps), (bversions, oX8 8 3 bversionsc (nI (kbversions + 1))), (bversionsc, iA G 24 f14439), (blines, oX8 72 7 blinesc (nI (vkb + 1))), (blinesc, iA G 504 f14506)]) hP hD (fun hP hD => ?_)
        have w4507 := hr4504
        refine lv_iinc (v := 6) (lv' := [(6, .int 6), (5, .int (nI vkb)), (4, .int (nI kP)), (3, .int (nI kbsteps)), (2, .int (nI kbversions)), (0, .ref h0), (1, .ref bb)]) hx hb gX10_store_5.2.2.2.2.2.2.2.1 hl (k := 0) rfl (by decide) (by decide) rfl (fun ls hl => ?_)
        refine lv_goto (tgt := 88) hx hb gX10_store_5.2.2.2.2.2.2.2.2.1 (by decide) ?_
        refine lv_iload hx hb gX10_store_4.2.2.2.2.1 (lv_at0 hl) ?_
        refine lv_bipush (v := 6) hx hb gX10_store_4.2.2.2.2.2.1 (by decide) ?_
        refine lv_icmp_gt (tgt := 123) hx hb gX10_store_4.2.2.2.2.2.2.1 (by decide) (fun c9 => absurd c9 (by decide)) (fun _ => ?_)
        refine lv_aload_n hx hb gX10_store_4.2.2.2.2.2.2.2.1 rfl (lv_at6 hl) ?_
        refine gf_X10_70 hC rfl hK hP 5 rfl rfl gX10_store_4.2.2.2.2.2.2.2.2.1 ?_
        refine lv_iload hx hb gX10_store_4.2.2.2.2.2.2.2.2.2 (lv_at1 hl) ?_
        refine lv_iload hx hb gX10_store_5.1 (lv_at0 hl) ?_
        refine lv_aload_n hx hb gX10_store_5.2.1 rfl (lv_at5 hl) ?_
        refine gf_X10_20 hC rfl hK hP 0 rfl rfl gX10_store_5.2.2.1 ?_
        refine lv_iload hx hb gX10_store_5.2.2.2.1 (lv_at2 hl) ?_
        refine lv_iload hx hb gX10_store_5.2.2.2.2.1 (lv_at0 hl) ?_
        refine pV hC hK hl hP hD (c_T_at l G tln (nI kP) 6 9 7 tlnc kln ftln (hkln) (by omega) (by omega)) si_X10_74 [1, 2] sm_1_2 fm_1_2 nd_1_2 rfl rfl rfl rfl rfl (Nat.le_of_ble_eq_true rfl) rm_3_1_3 ⟨by first | exact Nat.le_of_ble_eq_true rfl | exact Nat.zero_le _, by first | exact Nat.le_of_ble_eq_true rfl | exact Nat.zero_le _⟩ gX10_store_5.2.2.2.2.2.1 (fun r4508 hr4508 => ?_)
        refine vV (wr := [(h0, oX10 tby (nI kt) tln tsp tkd ts9 tn9 tf9), (tln, oX8 9 7 tlnc (nI kln)), (tlnc, iA G 63 ftln), (tsp, oX8 120 1 tspc (nI ksp)), (tspc, iA G 120 ftsp), (bb, oX0 bpersons bpapers bstamps bversions blines bsteps bsayings bfindings bwarnings bquestions td vd vl gp), (bsteps, oX8 960 1 bstepsc (nI kbsteps)), (bstepsc, iA G 960 fbsteps), (bversions, oX8 8 3 bversionsc (nI (kbversions + 1))), (bversionsc, iA G 24 f14439)]) hC hK hl hP hD hS hA (c_T_set l G blines (nI vkb) 6 r4508 72 7 blinesc (vkb + 1) f14506 (by omega) (by omega) (by omega)) si_X10_66 [10, 11] [0, 1, 2, 3, 4, 5, 6, 7, 8, 9] sm_10_11 fm_10_11 nd_10_11 sm_0_1_2_3_4_5_6_7_8_9 nd_0_1_2_3_4_5_6_7_8_9 dj_10_11__0_1_2_3_4_5_6_7_8_9 rfl rfl rfl rfl rfl (Nat.le_of_ble_eq_true rfl) rm_3_1_4 ⟨Nat.le_of_ble_eq_true rfl, Nat.le_of_ble_eq_true rfl⟩ gX10_store_5.2.2.2.2.2.2.1 (fun f14512 H locs hr4510 hP hD hS => ?_)
        try dsimp only at hr4510
        refine Kpdr (ws := [(h0, oX10 tby (nI kt) tln tsp tkd ts9 tn9 tf9), (tln, oX8 9 7 tlnc (nI kln)), (tlnc, iA G 63 ftln), (tsp, oX8 120 1 tspc (nI ksp)), (tspc, iA G 120 ftsp), (bb, oX0 bpersons bpapers bstamps bversions blines bsteps bsayings bfindings bwarnings bquestions td vd vl gp), (bsteps, oX8 960 1 bstepsc (nI kbsteps)), (bstepsc, iA G 960 fbsteps), (bversions, oX8 8 3 bversionsc (nI (kbversions + 1))), (bversionsc, iA G 24 f14439), (blines, oX8 72 7 blinesc (nI (vkb + 1))), (blinesc, iA G 504 f14512)]) hP hD (fun hP hD => ?_)
        have w4513 := hr4510
        refine lv_iinc (v := 7) (lv' := [(6, .int 7), (5, .int (nI vkb)), (4, .int (nI kP)), (3, .int (nI kbsteps)), (2, .int (nI kbversions)), (0, .ref h0), (1, .ref bb)]) hx hb gX10_store_5.2.2.2.2.2.2.2.1 hl (k := 0) rfl (by decide) (by decide) rfl (fun ls hl => ?_)
        refine lv_goto (tgt := 88) hx hb gX10_store_5.2.2.2.2.2.2.2.2.1 (by decide) ?_
        refine lv_iload hx hb gX10_store_4.2.2.2.2.1 (lv_at0 hl) ?_
        refine lv_bipush (v := 6) hx hb gX10_store_4.2.2.2.2.2.1 (by decide) ?_
        refine lv_icmp_gt (tgt := 123) hx hb gX10_store_4.2.2.2.2.2.2.1 (by decide) (fun _ => ?_) (fun c9 => absurd (by decide) c9)
        refine lv_aload_n hx hb gX10_store_5.2.2.2.2.2.2.2.2.2 rfl (lv_at6 hl) ?_
        refine gf_X10_70 hC rfl hK hP 5 rfl rfl gX10_store_6.1 ?_
        refine lv_iload hx hb gX10_store_6.2.1 (lv_at1 hl) ?_
        refine lv_iconst (v := 5) hx hb gX10_store_6.2.2.1 (by decide) ?_
        refine lv_aload_n hx hb gX10_store_6.2.2.2.1 rfl (lv_at5 hl) ?_
        refine gf_X10_20 hC rfl hK hP 0 rfl rfl gX10_store_6.2.2.2.2.1 ?_
        refine lv_iload hx hb gX10_store_6.2.2.2.2.2.1 (lv_at2 hl) ?_
        refine lv_iconst (v := 5) hx hb gX10_store_6.2.2.2.2.2.2.1 (by decide) ?_
        refine pV hC hK hl hP hD (c_T_at l G tln (nI kP) 5 9 7 tlnc kln ftln (hkln) (by omega) (by omega)) si_X10_74 [1, 2] sm_1_2 fm_1_2 nd_1_2 rfl rfl rfl rfl rfl (Nat.le_of_ble_eq_true rfl) rm_3_1_3 ⟨by first | exact Nat.le_of_ble_eq_true rfl | exact Nat.zero_le _, by first | exact Nat.le_of_ble_eq_true rfl | exact Nat.zero_le _⟩ gX10_store_6.2.2.2.2.2.2.2.1 (fun r4514 hr4514 => ?_)
        refine lv_iload_n hx hb gX10_store_6.2.2.2.2.2.2.2.2.1 rfl (lv_at3 hl) ?_
        refine lv_iadd hx hb gX10_store_6.2.2.2.2.2.2.2.2.2 ?_
        refine vV (wr := [(h0, oX10 tby (nI kt) tln tsp tkd ts9 tn9 tf9), (tln, oX8 9 7 tlnc (nI kln)), (tlnc, iA G 63 ftln), (tsp, oX8 120 1 tspc (nI ksp)), (tspc, iA G 120 ftsp), (bb, oX0 bpersons bpapers bstamps bversions blines bsteps bsayings bfindings bwarnings bquestions td vd vl gp), (bsteps, oX8 960 1 bstepsc (nI kbsteps)), (bstepsc, iA G 960 fbsteps), (bversions, oX8 8 3 bversionsc (nI (kbversions + 1))), (bversionsc, iA G 24 f14439)]) hC hK hl hP hD hS hA (c_T_set l G blines (nI vkb) 5 (r4514 + (nI kbsteps)) 72 7 blinesc (vkb + 1) f14512 (by omega) (by omega) (by omega)) si_X10_66 [10, 11] [0, 1, 2, 3, 4, 5, 6, 7, 8, 9] sm_10_11 fm_10_11 nd_10_11 sm_0_1_2_3_4_5_6_7_8_9 nd_0_1_2_3_4_5_6_7_8_9 dj_10_11__0_1_2_3_4_5_6_7_8_9 rfl rfl rfl rfl rfl (Nat.le_of_ble_eq_true rfl) rm_3_1_4 ⟨Nat.le_of_ble_eq_true rfl, Nat.le_of_ble_eq_true rfl⟩ gX10_store_7.1 (fun f14518 H locs hr4516 hP hD hS => ?_)
        try dsimp only at hr4516
        refine Kpdr (ws := [(h0, oX10 tby (nI kt) tln tsp tkd ts9 tn9 tf9), (tln, oX8 9 7 tlnc (nI kln)), (tlnc, iA G 63 ftln), (tsp, oX8 120 1 tspc (nI ksp)), (tspc, iA G 120 ftsp), (bb, oX0 bpersons bpapers bstamps bversions blines bsteps bsayings bfindings bwarnings bquestions td vd vl gp), (bsteps, oX8 960 1 bstepsc (nI kbsteps)), (bstepsc, iA G 960 fbsteps), (bversions, oX8 8 3 bversionsc (nI (kbversions + 1))), (bversionsc, iA G 24 f14439), (blines, oX8 72 7 blinesc (nI (vkb + 1))), (blinesc, iA G 504 f14518)]) hP hD (fun hP hD => ?_)
        have w4519 := hr4516
        refine lv_iinc (v := nI (kP + 1)) (lv' := [(4, .int (nI (kP + 1))), (6, .int 7), (5, .int (nI vkb)), (3, .int (nI kbsteps)), (2, .int (nI kbversions)), (0, .ref h0), (1, .ref bb)]) hx hb gX10_store_7.2.1 hl (k := 2) rfl (nI_1 _) (by decide) rfl (fun ls hl => ?_)
        refine lv_goto (tgt := 64) hx hb gX10_store_7.2.2.1 (by decide) ?_
        refine Kpds (ws' := [(h0, oX10 tby (nI kt) tln tsp tkd ts9 tn9 tf9), (tln, oX8 9 7 tlnc (nI kln)), (tlnc, iA G 63 ftln), (tsp, oX8 120 1 tspc (nI ksp)), (tspc, iA G 120 ftsp), (bb, oX0 bpersons bpapers bstamps bversions blines bsteps bsayings bfindings bwarnings bquestions td vd vl gp), (blines, oX8 72 7 blinesc (nI (vkb + 1))), (blinesc, iA G 504 f14518), (bsteps, oX8 960 1 bstepsc (nI kbsteps)), (bstepsc, iA G 960 fbsteps), (bversions, oX8 8 3 bversionsc (nI (kbversions + 1))), (bversionsc, iA G 24 f14439)]) hP hD [0, 1, 2, 3, 4, 5, 10, 11, 6, 7, 8, 9] fm_0_1_2_3_4_5_10_11_6_7_8_9 nd_0_1_2_3_4_5_10_11_6_7_8_9 sm_0_1_2_3_4_5_10_11_6_7_8_9 (fun hP hD => ?_)
        exact ihP (kP + 1) f14518 (vkb + 1) _ _ _ (by omega) (by first | assumption | exact Or.inl rfl | exact Or.inr rfl | omega) (And.intro hP hD) hS (lv_sub hl [0, 3, 4, 5, 6] rfl)
      · refine iV (wr := [(h0, oX10 tby (nI kt) tln tsp tkd ts9 tn9 tf9), (tln, oX8 9 7 tlnc (nI kln)), (tlnc, iA G 63 ftln), (tsp, oX8 120 1 tspc (nI ksp)), (tspc, iA G 120 ftsp), (bb, oX0 bpersons bpapers bstamps bversions blines bsteps bsayings bfindings bwarnings bquestions td vd vl gp), (blinesc, iA G 504 vbl), (bsteps, oX8 960 1 bstepsc (nI kbsteps)), (bstepsc, iA G 960 fbsteps), (bversions, oX8 8 3 bversionsc (nI (kbversions + 1))), (bversionsc, iA G 24 f14439)]) hC hK hl hP hD hS hA (c_T_appendF l G blines 72 7 blinesc vkb (by omega) (by omega)) si_X10_59 [6] [0, 1, 2, 3, 4, 5, 7, 8, 9, 10, 11] sm_6 fm_6 nd_6 sm_0_1_2_3_4_5_7_8_9_10_11 nd_0_1_2_3_4_5_7_8_9_10_11 dj_6__0_1_2_3_4_5_7_8_9_10_11 rfl rfl rfl rfl rfl (Nat.le_of_ble_eq_true rfl) rm_3_1_1 ⟨Nat.le_of_ble_eq_true rfl, Nat.le_of_ble_eq_true rfl⟩ gX10_store_4.1 (fun r4520 u4521 H locs hr4520 hP hD hS => ?_)
        refine Kpdr (ws := [(h0, oX10 tby (nI kt) tln tsp tkd ts9 tn9 tf9), (tln, oX8 9 7 tlnc (nI kln)), (tlnc, iA G 63 ftln), (tsp, oX8 120 1 tspc (nI ksp)), (tspc, iA G 120 ftsp), (bb, oX0 bpersons bpapers bstamps bversions blines bsteps bsayings bfindings bwarnings bquestions td vd vl gp), (blinesc, iA G 504 vbl), (bsteps, oX8 960 1 bstepsc (nI kbsteps)), (bstepsc, iA G 960 fbsteps), (bversions, oX8 8 3 bversionsc (nI (kbversions + 1))), (bversionsc, iA G 24 f14439), (blines, oX8 72 7 blinesc (nI vkb))]) hP hD (fun hP hD => ?_)
        obtain rfl := hr4520
        refine lv_istore (lv' := [(5, .int (-2)), (4, .int (nI kP)), (3, .int (nI kbsteps)), (2, .int (nI kbversions)), (0, .ref h0), (1, .ref bb)]) hx hb gX10_store_4.2.1 hl (by decide) rfl (fun ls hl => ?_)
        refine lv_iconst (v := 0) hx hb gX10_store_4.2.2.1 (by decide) ?_
        refine lv_istore (lv' := [(6, .int 0), (5, .int (-2)), (4, .int (nI kP)), (3, .int (nI kbsteps)), (2, .int (nI kbversions)), (0, .ref h0), (1, .ref bb)]) hx hb gX10_store_4.2.2.2.1 hl (by decide) rfl (fun ls hl => ?_)
        refine lv_iload hx hb gX10_store_4.2.2.2.2.1 (lv_at0 hl) ?_
        refine lv_bipush (v := 6) hx hb gX10_store_4.2.2.2.2.2.1 (by decide) ?_
        refine lv_icmp_gt (tgt := 123) hx hb gX10_store_4.2.2.2.2.2.2.1 (by decide) (fun c9 => absurd c9 (by decide)) (fun _ => ?_)
        refine lv_aload_n hx hb gX10_store_4.2.2.2.2.2.2.2.1 rfl (lv_at6 hl) ?_
        refine gf_X10_70 hC rfl hK hP 5 rfl rfl gX10_store_4.2.2.2.2.2.2.2.2.1 ?_
        refine lv_iload hx hb gX10_store_4.2.2.2.2.2.2.2.2.2 (lv_at1 hl) ?_
        refine lv_iload hx hb gX10_store_5.1 (lv_at0 hl) ?_
        refine lv_aload_n hx hb gX10_store_5.2.1 rfl (lv_at5 hl) ?_
        refine gf_X10_20 hC rfl hK hP 0 rfl rfl gX10_store_5.2.2.1 ?_
        refine lv_iload hx hb gX10_store_5.2.2.2.1 (lv_at2 hl) ?_
        refine lv_iload hx hb gX10_store_5.2.2.2.2.1 (lv_at0 hl) ?_
        refine pV hC hK hl hP hD (c_T_at l G tln (nI kP) 0 9 7 tlnc kln ftln (hkln) (by omega) (by omega)) si_X10_74 [1, 2] sm_1_2 fm_1_2 nd_1_2 rfl rfl rfl rfl rfl (Nat.le_of_ble_eq_true rfl) rm_3_1_3 ⟨by first | exact Nat.le_of_ble_eq_true rfl | exact Nat.zero_le _, by first | exact Nat.le_of_ble_eq_true rfl | exact Nat.zero_le _⟩ gX10_store_5.2.2.2.2.2.1 (fun r4523 hr4523 => ?_)
        refine vV (wr := [(h0, oX10 tby (nI kt) tln tsp tkd ts9 tn9 tf9), (tln, oX8 9 7 tlnc (nI kln)), (tlnc, iA G 63 ftln), (tsp, oX8 120 1 tspc (nI ksp)), (tspc, iA G 120 ftsp), (bb, oX0 bpersons bpapers bstamps bversions blines bsteps bsayings bfindings bwarnings bquestions td vd vl gp), (bsteps, oX8 960 1 bstepsc (nI kbsteps)), (bstepsc, iA G 960 fbsteps), (bversions, oX8 8 3 bversionsc (nI (kbversions + 1))), (bversionsc, iA G 24 f14439)]) hC hK hl hP hD hS hA (c_T_set l G blines (-2) 0 r4523 72 7 blinesc vkb vbl (hvkb) (by omega) (by omega)) si_X10_66 [11, 6] [0, 1, 2, 3, 4, 5, 7, 8, 9, 10] sm_11_6 fm_11_6 nd_11_6 sm_0_1_2_3_4_5_7_8_9_10 nd_0_1_2_3_4_5_7_8_9_10 dj_11_6__0_1_2_3_4_5_7_8_9_10 rfl rfl rfl rfl rfl (Nat.le_of_ble_eq_true rfl) rm_3_1_4 ⟨Nat.le_of_ble_eq_true rfl, Nat.le_of_ble_eq_true rfl⟩ gX10_store_5.2.2.2.2.2.2.1 (fun f14527 H locs hr4525 hP hD hS => ?_)
        try dsimp only at hr4525
        refine Kpdr (ws := [(h0, oX10 tby (nI kt) tln tsp tkd ts9 tn9 tf9), (tln, oX8 9 7 tlnc (nI kln)), (tlnc, iA G 63 ftln), (tsp, oX8 120 1 tspc (nI ksp)), (tspc, iA G 120 ftsp), (bb, oX0 bpersons bpapers bstamps bversions blines bsteps bsayings bfindings bwarnings bquestions td vd vl gp), (bsteps, oX8 960 1 bstepsc (nI kbsteps)), (bstepsc, iA G 960 fbsteps), (bversions, oX8 8 3 bversionsc (nI (kbversions + 1))), (bversionsc, iA G 24 f14439), (blines, oX8 72 7 blinesc (nI vkb)), (blinesc, iA G 504 f14527)]) hP hD (fun hP hD => ?_)
        have w4528 := hr4525
        refine lv_iinc (v := 1) (lv' := [(6, .int 1), (5, .int (-2)), (4, .int (nI kP)), (3, .int (nI kbsteps)), (2, .int (nI kbversions)), (0, .ref h0), (1, .ref bb)]) hx hb gX10_store_5.2.2.2.2.2.2.2.1 hl (k := 0) rfl (by decide) (by decide) rfl (fun ls hl => ?_)
        refine lv_goto (tgt := 88) hx hb gX10_store_5.2.2.2.2.2.2.2.2.1 (by decide) ?_
        refine lv_iload hx hb gX10_store_4.2.2.2.2.1 (lv_at0 hl) ?_
        refine lv_bipush (v := 6) hx hb gX10_store_4.2.2.2.2.2.1 (by decide) ?_
        refine lv_icmp_gt (tgt := 123) hx hb gX10_store_4.2.2.2.2.2.2.1 (by decide) (fun c9 => absurd c9 (by decide)) (fun _ => ?_)
        refine lv_aload_n hx hb gX10_store_4.2.2.2.2.2.2.2.1 rfl (lv_at6 hl) ?_
        refine gf_X10_70 hC rfl hK hP 5 rfl rfl gX10_store_4.2.2.2.2.2.2.2.2.1 ?_
        refine lv_iload hx hb gX10_store_4.2.2.2.2.2.2.2.2.2 (lv_at1 hl) ?_
        refine lv_iload hx hb gX10_store_5.1 (lv_at0 hl) ?_
        refine lv_aload_n hx hb gX10_store_5.2.1 rfl (lv_at5 hl) ?_
        refine gf_X10_20 hC rfl hK hP 0 rfl rfl gX10_store_5.2.2.1 ?_
        refine lv_iload hx hb gX10_store_5.2.2.2.1 (lv_at2 hl) ?_
        refine lv_iload hx hb gX10_store_5.2.2.2.2.1 (lv_at0 hl) ?_
        refine pV hC hK hl hP hD (c_T_at l G tln (nI kP) 1 9 7 tlnc kln ftln (hkln) (by omega) (by omega)) si_X10_74 [1, 2] sm_1_2 fm_1_2 nd_1_2 rfl rfl rfl rfl rfl (Nat.le_of_ble_eq_true rfl) rm_3_1_3 ⟨by first | exact Nat.le_of_ble_eq_true rfl | exact Nat.zero_le _, by first | exact Nat.le_of_ble_eq_true rfl | exact Nat.zero_le _⟩ gX10_store_5.2.2.2.2.2.1 (fun r4529 hr4529 => ?_)
        refine vV (wr := [(h0, oX10 tby (nI kt) tln tsp tkd ts9 tn9 tf9), (tln, oX8 9 7 tlnc (nI kln)), (tlnc, iA G 63 ftln), (tsp, oX8 120 1 tspc (nI ksp)), (tspc, iA G 120 ftsp), (bb, oX0 bpersons bpapers bstamps bversions blines bsteps bsayings bfindings bwarnings bquestions td vd vl gp), (bsteps, oX8 960 1 bstepsc (nI kbsteps)), (bstepsc, iA G 960 fbsteps), (bversions, oX8 8 3 bversionsc (nI (kbversions + 1))), (bversionsc, iA G 24 f14439)]) hC hK hl hP hD hS hA (c_T_set l G blines (-2) 1 r4529 72 7 blinesc vkb f14527 (hvkb) (by omega) (by omega)) si_X10_66 [10, 11] [0, 1, 2, 3, 4, 5, 6, 7, 8, 9] sm_10_11 fm_10_11 nd_10_11 sm_0_1_2_3_4_5_6_7_8_9 nd_0_1_2_3_4_5_6_7_8_9 dj_10_11__0_1_2_3_4_5_6_7_8_9 rfl rfl rfl rfl rfl (Nat.le_of_ble_eq_true rfl) rm_3_1_4 ⟨Nat.le_of_ble_eq_true rfl, Nat.le_of_ble_eq_true rfl⟩ gX10_store_5.2.2.2.2.2.2.1 (fun f14533 H locs hr4531 hP hD hS => ?_)
        try dsimp only at hr4531
        refine Kpdr (ws := [(h0, oX10 tby (nI kt) tln tsp tkd ts9 tn9 tf9), (tln, oX8 9 7 tlnc (nI kln)), (tlnc, iA G 63 ftln), (tsp, oX8 120 1 tspc (nI ksp)), (tspc, iA G 120 ftsp), (bb, oX0 bpersons bpapers bstamps bversions blines bsteps bsayings bfindings bwarnings bquestions td vd vl gp), (bsteps, oX8 960 1 bstepsc (nI kbsteps)), (bstepsc, iA G 960 fbsteps), (bversions, oX8 8 3 bversionsc (nI (kbversions + 1))), (bversionsc, iA G 24 f14439), (blines, oX8 72 7 blinesc (nI vkb)), (blinesc, iA G 504 f14533)]) hP hD (fun hP hD => ?_)
        have w4534 := hr4531
        refine lv_iinc (v := 2) (lv' := [(6, .int 2), (5, .int (-2)), (4, .int (nI kP)), (3, .int (nI kbsteps)), (2, .int (nI kbversions)), (0, .ref h0), (1, .ref bb)]) hx hb gX10_store_5.2.2.2.2.2.2.2.1 hl (k := 0) rfl (by decide) (by decide) rfl (fun ls hl => ?_)
        refine lv_goto (tgt := 88) hx hb gX10_store_5.2.2.2.2.2.2.2.2.1 (by decide) ?_
        refine lv_iload hx hb gX10_store_4.2.2.2.2.1 (lv_at0 hl) ?_
        refine lv_bipush (v := 6) hx hb gX10_store_4.2.2.2.2.2.1 (by decide) ?_
        refine lv_icmp_gt (tgt := 123) hx hb gX10_store_4.2.2.2.2.2.2.1 (by decide) (fun c9 => absurd c9 (by decide)) (fun _ => ?_)
        refine lv_aload_n hx hb gX10_store_4.2.2.2.2.2.2.2.1 rfl (lv_at6 hl) ?_
        refine gf_X10_70 hC rfl hK hP 5 rfl rfl gX10_store_4.2.2.2.2.2.2.2.2.1 ?_
        refine lv_iload hx hb gX10_store_4.2.2.2.2.2.2.2.2.2 (lv_at1 hl) ?_
        refine lv_iload hx hb gX10_store_5.1 (lv_at0 hl) ?_
        refine lv_aload_n hx hb gX10_store_5.2.1 rfl (lv_at5 hl) ?_
        refine gf_X10_20 hC rfl hK hP 0 rfl rfl gX10_store_5.2.2.1 ?_
        refine lv_iload hx hb gX10_store_5.2.2.2.1 (lv_at2 hl) ?_
        refine lv_iload hx hb gX10_store_5.2.2.2.2.1 (lv_at0 hl) ?_
        refine pV hC hK hl hP hD (c_T_at l G tln (nI kP) 2 9 7 tlnc kln ftln (hkln) (by omega) (by omega)) si_X10_74 [1, 2] sm_1_2 fm_1_2 nd_1_2 rfl rfl rfl rfl rfl (Nat.le_of_ble_eq_true rfl) rm_3_1_3 ⟨by first | exact Nat.le_of_ble_eq_true rfl | exact Nat.zero_le _, by first | exact Nat.le_of_ble_eq_true rfl | exact Nat.zero_le _⟩ gX10_store_5.2.2.2.2.2.1 (fun r4535 hr4535 => ?_)
        refine vV (wr := [(h0, oX10 tby (nI kt) tln tsp tkd ts9 tn9 tf9), (tln, oX8 9 7 tlnc (nI kln)), (tlnc, iA G 63 ftln), (tsp, oX8 120 1 tspc (nI ksp)), (tspc, iA G 120 ftsp), (bb, oX0 bpersons bpapers bstamps bversions blines bsteps bsayings bfindings bwarnings bquestions td vd vl gp), (bsteps, oX8 960 1 bstepsc (nI kbsteps)), (bstepsc, iA G 960 fbsteps), (bversions, oX8 8 3 bversionsc (nI (kbversions + 1))), (bversionsc, iA G 24 f14439)]) hC hK hl hP hD hS hA (c_T_set l G blines (-2) 2 r4535 72 7 blinesc vkb f14533 (hvkb) (by omega) (by omega)) si_X10_66 [10, 11] [0, 1, 2, 3, 4, 5, 6, 7, 8, 9] sm_10_11 fm_10_11 nd_10_11 sm_0_1_2_3_4_5_6_7_8_9 nd_0_1_2_3_4_5_6_7_8_9 dj_10_11__0_1_2_3_4_5_6_7_8_9 rfl rfl rfl rfl rfl (Nat.le_of_ble_eq_true rfl) rm_3_1_4 ⟨Nat.le_of_ble_eq_true rfl, Nat.le_of_ble_eq_true rfl⟩ gX10_store_5.2.2.2.2.2.2.1 (fun f14539 H locs hr4537 hP hD hS => ?_)
        try dsimp only at hr4537
        refine Kpdr (ws := [(h0, oX10 tby (nI kt) tln tsp tkd ts9 tn9 tf9), (tln, oX8 9 7 tlnc (nI kln)), (tlnc, iA G 63 ftln), (tsp, oX8 120 1 tspc (nI ksp)), (tspc, iA G 120 ftsp), (bb, oX0 bpersons bpapers bstamps bversions blines bsteps bsayings bfindings bwarnings bquestions td vd vl gp), (bsteps, oX8 960 1 bstepsc (nI kbsteps)), (bstepsc, iA G 960 fbsteps), (bversions, oX8 8 3 bversionsc (nI (kbversions + 1))), (bversionsc, iA G 24 f14439), (blines, oX8 72 7 blinesc (nI vkb)), (blinesc, iA G 504 f14539)]) hP hD (fun hP hD => ?_)
        have w4540 := hr4537
        refine lv_iinc (v := 3) (lv' := [(6, .int 3), (5, .int (-2)), (4, .int (nI kP)), (3, .int (nI kbsteps)), (2, .int (nI kbversions)), (0, .ref h0), (1, .ref bb)]) hx hb gX10_store_5.2.2.2.2.2.2.2.1 hl (k := 0) rfl (by decide) (by decide) rfl (fun ls hl => ?_)
        refine lv_goto (tgt := 88) hx hb gX10_store_5.2.2.2.2.2.2.2.2.1 (by decide) ?_
        refine lv_iload hx hb gX10_store_4.2.2.2.2.1 (lv_at0 hl) ?_
        refine lv_bipush (v := 6) hx hb gX10_store_4.2.2.2.2.2.1 (by decide) ?_
        refine lv_icmp_gt (tgt := 123) hx hb gX10_store_4.2.2.2.2.2.2.1 (by decide) (fun c9 => absurd c9 (by decide)) (fun _ => ?_)
        refine lv_aload_n hx hb gX10_store_4.2.2.2.2.2.2.2.1 rfl (lv_at6 hl) ?_
        refine gf_X10_70 hC rfl hK hP 5 rfl rfl gX10_store_4.2.2.2.2.2.2.2.2.1 ?_
        refine lv_iload hx hb gX10_store_4.2.2.2.2.2.2.2.2.2 (lv_at1 hl) ?_
        refine lv_iload hx hb gX10_store_5.1 (lv_at0 hl) ?_
        refine lv_aload_n hx hb gX10_store_5.2.1 rfl (lv_at5 hl) ?_
        refine gf_X10_20 hC rfl hK hP 0 rfl rfl gX10_store_5.2.2.1 ?_
        refine lv_iload hx hb gX10_store_5.2.2.2.1 (lv_at2 hl) ?_
        refine lv_iload hx hb gX10_store_5.2.2.2.2.1 (lv_at0 hl) ?_
        refine pV hC hK hl hP hD (c_T_at l G tln (nI kP) 3 9 7 tlnc kln ftln (hkln) (by omega) (by omega)) si_X10_74 [1, 2] sm_1_2 fm_1_2 nd_1_2 rfl rfl rfl rfl rfl (Nat.le_of_ble_eq_true rfl) rm_3_1_3 ⟨by first | exact Nat.le_of_ble_eq_true rfl | exact Nat.zero_le _, by first | exact Nat.le_of_ble_eq_true rfl | exact Nat.zero_le _⟩ gX10_store_5.2.2.2.2.2.1 (fun r4541 hr4541 => ?_)
        refine vV (wr := [(h0, oX10 tby (nI kt) tln tsp tkd ts9 tn9 tf9), (tln, oX8 9 7 tlnc (nI kln)), (tlnc, iA G 63 ftln), (tsp, oX8 120 1 tspc (nI ksp)), (tspc, iA G 120 ftsp), (bb, oX0 bpersons bpapers bstamps bversions blines bsteps bsayings bfindings bwarnings bquestions td vd vl gp), (bsteps, oX8 960 1 bstepsc (nI kbsteps)), (bstepsc, iA G 960 fbsteps), (bversions, oX8 8 3 bversionsc (nI (kbversions + 1))), (bversionsc, iA G 24 f14439)]) hC hK hl hP hD hS hA (c_T_set l G blines (-2) 3 r4541 72 7 blinesc vkb f14539 (hvkb) (by omega) (by omega)) si_X10_66 [10, 11] [0, 1, 2, 3, 4, 5, 6, 7, 8, 9] sm_10_11 fm_10_11 nd_10_11 sm_0_1_2_3_4_5_6_7_8_9 nd_0_1_2_3_4_5_6_7_8_9 dj_10_11__0_1_2_3_4_5_6_7_8_9 rfl rfl rfl rfl rfl (Nat.le_of_ble_eq_true rfl) rm_3_1_4 ⟨Nat.le_of_ble_eq_true rfl, Nat.le_of_ble_eq_true rfl⟩ gX10_store_5.2.2.2.2.2.2.1 (fun f14545 H locs hr4543 hP hD hS => ?_)
        try dsimp only at hr4543
        refine Kpdr (ws := [(h0, oX10 tby (nI kt) tln tsp tkd ts9 tn9 tf9), (tln, oX8 9 7 tlnc (nI kln)), (tlnc, iA G 63 ftln), (tsp, oX8 120 1 tspc (nI ksp)), (tspc, iA G 120 ftsp), (bb, oX0 bpersons bpapers bstamps bversions blines bsteps bsayings bfindings bwarnings bquestions td vd vl gp), (bsteps, oX8 960 1 bstepsc (nI kbsteps)), (bstepsc, iA G 960 fbsteps), (bversions, oX8 8 3 bversionsc (nI (kbversions + 1))), (bversionsc, iA G 24 f14439), (blines, oX8 72 7 blinesc (nI vkb)), (blinesc, iA G 504 f14545)]) hP hD (fun hP hD => ?_)
        have w4546 := hr4543
        refine lv_iinc (v := 4) (lv' := [(6, .int 4), (5, .int (-2)), (4, .int (nI kP)), (3, .int (nI kbsteps)), (2, .int (nI kbversions)), (0, .ref h0), (1, .ref bb)]) hx hb gX10_store_5.2.2.2.2.2.2.2.1 hl (k := 0) rfl (by decide) (by decide) rfl (fun ls hl => ?_)
        refine lv_goto (tgt := 88) hx hb gX10_store_5.2.2.2.2.2.2.2.2.1 (by decide) ?_
        refine lv_iload hx hb gX10_store_4.2.2.2.2.1 (lv_at0 hl) ?_
        refine lv_bipush (v := 6) hx hb gX10_store_4.2.2.2.2.2.1 (by decide) ?_
        refine lv_icmp_gt (tgt := 123) hx hb gX10_store_4.2.2.2.2.2.2.1 (by decide) (fun c9 => absurd c9 (by decide)) (fun _ => ?_)
        refine lv_aload_n hx hb gX10_store_4.2.2.2.2.2.2.2.1 rfl (lv_at6 hl) ?_
        refine gf_X10_70 hC rfl hK hP 5 rfl rfl gX10_store_4.2.2.2.2.2.2.2.2.1 ?_
        refine lv_iload hx hb gX10_store_4.2.2.2.2.2.2.2.2.2 (lv_at1 hl) ?_
        refine lv_iload hx hb gX10_store_5.1 (lv_at0 hl) ?_
        refine lv_aload_n hx hb gX10_store_5.2.1 rfl (lv_at5 hl) ?_
        refine gf_X10_20 hC rfl hK hP 0 rfl rfl gX10_store_5.2.2.1 ?_
        refine lv_iload hx hb gX10_store_5.2.2.2.1 (lv_at2 hl) ?_
        refine lv_iload hx hb gX10_store_5.2.2.2.2.1 (lv_at0 hl) ?_
        refine pV hC hK hl hP hD (c_T_at l G tln (nI kP) 4 9 7 tlnc kln ftln (hkln) (by omega) (by omega)) si_X10_74 [1, 2] sm_1_2 fm_1_2 nd_1_2 rfl rfl rfl rfl rfl (Nat.le_of_ble_eq_true rfl) rm_3_1_3 ⟨by first | exact Nat.le_of_ble_eq_true rfl | exact Nat.zero_le _, by first | exact Nat.le_of_ble_eq_true rfl | exact Nat.zero_le _⟩ gX10_store_5.2.2.2.2.2.1 (fun r4547 hr4547 => ?_)
        refine vV (wr := [(h0, oX10 tby (nI kt) tln tsp tkd ts9 tn9 tf9), (tln, oX8 9 7 tlnc (nI kln)), (tlnc, iA G 63 ftln), (tsp, oX8 120 1 tspc (nI ksp)), (tspc, iA G 120 ftsp), (bb, oX0 bpersons bpapers bstamps bversions blines bsteps bsayings bfindings bwarnings bquestions td vd vl gp), (bsteps, oX8 960 1 bstepsc (nI kbsteps)), (bstepsc, iA G 960 fbsteps), (bversions, oX8 8 3 bversionsc (nI (kbversions + 1))), (bversionsc, iA G 24 f14439)]) hC hK hl hP hD hS hA (c_T_set l G blines (-2) 4 r4547 72 7 blinesc vkb f14545 (hvkb) (by omega) (by omega)) si_X10_66 [10, 11] [0, 1, 2, 3, 4, 5, 6, 7, 8, 9] sm_10_11 fm_10_11 nd_10_11 sm_0_1_2_3_4_5_6_7_8_9 nd_0_1_2_3_4_5_6_7_8_9 dj_10_11__0_1_2_3_4_5_6_7_8_9 rfl rfl rfl rfl rfl (Nat.le_of_ble_eq_true rfl) rm_3_1_4 ⟨Nat.le_of_ble_eq_true rfl, Nat.le_of_ble_eq_true rfl⟩ gX10_store_5.2.2.2.2.2.2.1 (fun f14551 H locs hr4549 hP hD hS => ?_)
        try dsimp only at hr4549
        refine Kpdr (ws := [(h0, oX10 tby (nI kt) tln tsp tkd ts9 tn9 tf9), (tln, oX8 9 7 tlnc (nI kln)), (tlnc, iA G 63 ftln), (tsp, oX8 120 1 tspc (nI ksp)), (tspc, iA G 120 ftsp), (bb, oX0 bpersons bpapers bstamps bversions blines bsteps bsayings bfindings bwarnings bquestions td vd vl gp), (bsteps, oX8 960 1 bstepsc (nI kbsteps)), (bstepsc, iA G 960 fbsteps), (bversions, oX8 8 3 bversionsc (nI (kbversions + 1))), (bversionsc, iA G 24 f14439), (blines, oX8 72 7 blinesc (nI vkb)), (blinesc, iA G 504 f14551)]) hP hD (fun hP hD => ?_)
        have w4552 := hr4549
        refine lv_iinc (v := 5) (lv' := [(6, .int 5), (5, .int (-2)), (4, .int (nI kP)), (3, .int (nI kbsteps)), (2, .int (nI kbversions)), (0, .ref h0), (1, .ref bb)]) hx hb gX10_store_5.2.2.2.2.2.2.2.1 hl (k := 0) rfl (by decide) (by decide) rfl (fun ls hl => ?_)
        refine lv_goto (tgt := 88) hx hb gX10_store_5.2.2.2.2.2.2.2.2.1 (by decide) ?_
        refine lv_iload hx hb gX10_store_4.2.2.2.2.1 (lv_at0 hl) ?_
        refine lv_bipush (v := 6) hx hb gX10_store_4.2.2.2.2.2.1 (by decide) ?_
        refine lv_icmp_gt (tgt := 123) hx hb gX10_store_4.2.2.2.2.2.2.1 (by decide) (fun c9 => absurd c9 (by decide)) (fun _ => ?_)
        refine lv_aload_n hx hb gX10_store_4.2.2.2.2.2.2.2.1 rfl (lv_at6 hl) ?_
        refine gf_X10_70 hC rfl hK hP 5 rfl rfl gX10_store_4.2.2.2.2.2.2.2.2.1 ?_
        refine lv_iload hx hb gX10_store_4.2.2.2.2.2.2.2.2.2 (lv_at1 hl) ?_
        refine lv_iload hx hb gX10_store_5.1 (lv_at0 hl) ?_
        refine lv_aload_n hx hb gX10_store_5.2.1 rfl (lv_at5 hl) ?_
        refine gf_X10_20 hC rfl hK hP 0 rfl rfl gX10_store_5.2.2.1 ?_
        refine lv_iload hx hb gX10_store_5.2.2.2.1 (lv_at2 hl) ?_
        refine lv_iload hx hb gX10_store_5.2.2.2.2.1 (lv_at0 hl) ?_
        refine pV hC hK hl hP hD (c_T_at l G tln (nI kP) 5 9 7 tlnc kln ftln (hkln) (by omega) (by omega)) si_X10_74 [1, 2] sm_1_2 fm_1_2 nd_1_2 rfl rfl rfl rfl rfl (Nat.le_of_ble_eq_true rfl) rm_3_1_3 ⟨by first | exact Nat.le_of_ble_eq_true rfl | exact Nat.zero_le _, by first | exact Nat.le_of_ble_eq_true rfl | exact Nat.zero_le _⟩ gX10_store_5.2.2.2.2.2.1 (fun r4553 hr4553 => ?_)
        refine vV (wr := [(h0, oX10 tby (nI kt) tln tsp tkd ts9 tn9 tf9), (tln, oX8 9 7 tlnc (nI kln)), (tlnc, iA G 63 ftln), (tsp, oX8 120 1 tspc (nI ksp)), (tspc, iA G 120 ftsp), (bb, oX0 bpersons bpapers bstamps bversions blines bsteps bsayings bfindings bwarnings bquestions td vd vl gp), (bsteps, oX8 960 1 bstepsc (nI kbsteps)), (bstepsc, iA G 960 fbsteps), (bversions, oX8 8 3 bversionsc (nI (kbversions + 1))), (bversionsc, iA G 24 f14439)]) hC hK hl hP hD hS hA (c_T_set l G blines (-2) 5 r4553 72 7 blinesc vkb f14551 (hvkb) (by omega) (by omega)) si_X10_66 [10, 11] [0, 1, 2, 3, 4, 5, 6, 7, 8, 9] sm_10_11 fm_10_11 nd_10_11 sm_0_1_2_3_4_5_6_7_8_9 nd_0_1_2_3_4_5_6_7_8_9 dj_10_11__0_1_2_3_4_5_6_7_8_9 rfl rfl rfl rfl rfl (Nat.le_of_ble_eq_true rfl) rm_3_1_4 ⟨Nat.le_of_ble_eq_true rfl, Nat.le_of_ble_eq_true rfl⟩ gX10_store_5.2.2.2.2.2.2.1 (fun f14557 H locs hr4555 hP hD hS => ?_)
        try dsimp only at hr4555
        refine Kpdr (ws := [(h0, oX10 tby (nI kt) tln tsp tkd ts9 tn9 tf9), (tln, oX8 9 7 tlnc (nI kln)), (tlnc, iA G 63 ftln), (tsp, oX8 120 1 tspc (nI ksp)), (tspc, iA G 120 ftsp), (bb, oX0 bpersons bpapers bstamps bversions blines bsteps bsayings bfindings bwarnings bquestions td vd vl gp), (bsteps, oX8 960 1 bstepsc (nI kbsteps)), (bstepsc, iA G 960 fbsteps), (bversions, oX8 8 3 bversionsc (nI (kbversions + 1))), (bversionsc, iA G 24 f14439), (blines, oX8 72 7 blinesc (nI vkb)), (blinesc, iA G 504 f14557)]) hP hD (fun hP hD => ?_)
        have w4558 := hr4555
        refine lv_iinc (v := 6) (lv' := [(6, .int 6), (5, .int (-2)), (4, .int (nI kP)), (3, .int (nI kbsteps)), (2, .int (nI kbversions)), (0, .ref h0), (1, .ref bb)]) hx hb gX10_store_5.2.2.2.2.2.2.2.1 hl (k := 0) rfl (by decide) (by decide) rfl (fun ls hl => ?_)
        refine lv_goto (tgt := 88) hx hb gX10_store_5.2.2.2.2.2.2.2.2.1 (by decide) ?_
        refine lv_iload hx hb gX10_store_4.2.2.2.2.1 (lv_at0 hl) ?_
        refine lv_bipush (v := 6) hx hb gX10_store_4.2.2.2.2.2.1 (by decide) ?_
        refine lv_icmp_gt (tgt := 123) hx hb gX10_store_4.2.2.2.2.2.2.1 (by decide) (fun c9 => absurd c9 (by decide)) (fun _ => ?_)
        refine lv_aload_n hx hb gX10_store_4.2.2.2.2.2.2.2.1 rfl (lv_at6 hl) ?_
        refine gf_X10_70 hC rfl hK hP 5 rfl rfl gX10_store_4.2.2.2.2.2.2.2.2.1 ?_
        refine lv_iload hx hb gX10_store_4.2.2.2.2.2.2.2.2.2 (lv_at1 hl) ?_
        refine lv_iload hx hb gX10_store_5.1 (lv_at0 hl) ?_
        refine lv_aload_n hx hb gX10_store_5.2.1 rfl (lv_at5 hl) ?_
        refine gf_X10_20 hC rfl hK hP 0 rfl rfl gX10_store_5.2.2.1 ?_
        refine lv_iload hx hb gX10_store_5.2.2.2.1 (lv_at2 hl) ?_
        refine lv_iload hx hb gX10_store_5.2.2.2.2.1 (lv_at0 hl) ?_
        refine pV hC hK hl hP hD (c_T_at l G tln (nI kP) 6 9 7 tlnc kln ftln (hkln) (by omega) (by omega)) si_X10_74 [1, 2] sm_1_2 fm_1_2 nd_1_2 rfl rfl rfl rfl rfl (Nat.le_of_ble_eq_true rfl) rm_3_1_3 ⟨by first | exact Nat.le_of_ble_eq_true rfl | exact Nat.zero_le _, by first | exact Nat.le_of_ble_eq_true rfl | exact Nat.zero_le _⟩ gX10_store_5.2.2.2.2.2.1 (fun r4559 hr4559 => ?_)
        refine vV (wr := [(h0, oX10 tby (nI kt) tln tsp tkd ts9 tn9 tf9), (tln, oX8 9 7 tlnc (nI kln)), (tlnc, iA G 63 ftln), (tsp, oX8 120 1 tspc (nI ksp)), (tspc, iA G 120 ftsp), (bb, oX0 bpersons bpapers bstamps bversions blines bsteps bsayings bfindings bwarnings bquestions td vd vl gp), (bsteps, oX8 960 1 bstepsc (nI kbsteps)), (bstepsc, iA G 960 fbsteps), (bversions, oX8 8 3 bversionsc (nI (kbversions + 1))), (bversionsc, iA G 24 f14439)]) hC hK hl hP hD hS hA (c_T_set l G blines (-2) 6 r4559 72 7 blinesc vkb f14557 (hvkb) (by omega) (by omega)) si_X10_66 [10, 11] [0, 1, 2, 3, 4, 5, 6, 7, 8, 9] sm_10_11 fm_10_11 nd_10_11 sm_0_1_2_3_4_5_6_7_8_9 nd_0_1_2_3_4_5_6_7_8_9 dj_10_11__0_1_2_3_4_5_6_7_8_9 rfl rfl rfl rfl rfl (Nat.le_of_ble_eq_true rfl) rm_3_1_4 ⟨Nat.le_of_ble_eq_true rfl, Nat.le_of_ble_eq_true rfl⟩ gX10_store_5.2.2.2.2.2.2.1 (fun f14563 H locs hr4561 hP hD hS => ?_)
        try dsimp only at hr4561
        refine Kpdr (ws := [(h0, oX10 tby (nI kt) tln tsp tkd ts9 tn9 tf9), (tln, oX8 9 7 tlnc (nI kln)), (tlnc, iA G 63 ftln), (tsp, oX8 120 1 tspc (nI ksp)), (tspc, iA G 120 ftsp), (bb, oX0 bpersons bpapers bstamps bversions blines bsteps bsayings bfindings bwarnings bquestions td vd vl gp), (bsteps, oX8 960 1 bstepsc (nI kbsteps)), (bstepsc, iA G 960 fbsteps), (bversions, oX8 8 3 bversionsc (nI (kbversions + 1))), (bversionsc, iA G 24 f14439), (blines, oX8 72 7 blinesc (nI vkb)), (blinesc, iA G 504 f14563)]) hP hD (fun hP hD => ?_)
        have w4564 := hr4561
        refine lv_iinc (v := 7) (lv' := [(6, .int 7), (5, .int (-2)), (4, .int (nI kP)), (3, .int (nI kbsteps)), (2, .int (nI kbversions)), (0, .ref h0), (1, .ref bb)]) hx hb gX10_store_5.2.2.2.2.2.2.2.1 hl (k := 0) rfl (by decide) (by decide) rfl (fun ls hl => ?_)
        refine lv_goto (tgt := 88) hx hb gX10_store_5.2.2.2.2.2.2.2.2.1 (by decide) ?_
        refine lv_iload hx hb gX10_store_4.2.2.2.2.1 (lv_at0 hl) ?_
        refine lv_bipush (v := 6) hx hb gX10_store_4.2.2.2.2.2.1 (by decide) ?_
        refine lv_icmp_gt (tgt := 123) hx hb gX10_store_4.2.2.2.2.2.2.1 (by decide) (fun _ => ?_) (fun c9 => absurd (by decide) c9)
        refine lv_aload_n hx hb gX10_store_5.2.2.2.2.2.2.2.2.2 rfl (lv_at6 hl) ?_
        refine gf_X10_70 hC rfl hK hP 5 rfl rfl gX10_store_6.1 ?_
        refine lv_iload hx hb gX10_store_6.2.1 (lv_at1 hl) ?_
        refine lv_iconst (v := 5) hx hb gX10_store_6.2.2.1 (by decide) ?_
        refine lv_aload_n hx hb gX10_store_6.2.2.2.1 rfl (lv_at5 hl) ?_
        refine gf_X10_20 hC rfl hK hP 0 rfl rfl gX10_store_6.2.2.2.2.1 ?_
        refine lv_iload hx hb gX10_store_6.2.2.2.2.2.1 (lv_at2 hl) ?_
        refine lv_iconst (v := 5) hx hb gX10_store_6.2.2.2.2.2.2.1 (by decide) ?_
        refine pV hC hK hl hP hD (c_T_at l G tln (nI kP) 5 9 7 tlnc kln ftln (hkln) (by omega) (by omega)) si_X10_74 [1, 2] sm_1_2 fm_1_2 nd_1_2 rfl rfl rfl rfl rfl (Nat.le_of_ble_eq_true rfl) rm_3_1_3 ⟨by first | exact Nat.le_of_ble_eq_true rfl | exact Nat.zero_le _, by first | exact Nat.le_of_ble_eq_true rfl | exact Nat.zero_le _⟩ gX10_store_6.2.2.2.2.2.2.2.1 (fun r4565 hr4565 => ?_)
        refine lv_iload_n hx hb gX10_store_6.2.2.2.2.2.2.2.2.1 rfl (lv_at3 hl) ?_
        refine lv_iadd hx hb gX10_store_6.2.2.2.2.2.2.2.2.2 ?_
        refine vV (wr := [(h0, oX10 tby (nI kt) tln tsp tkd ts9 tn9 tf9), (tln, oX8 9 7 tlnc (nI kln)), (tlnc, iA G 63 ftln), (tsp, oX8 120 1 tspc (nI ksp)), (tspc, iA G 120 ftsp), (bb, oX0 bpersons bpapers bstamps bversions blines bsteps bsayings bfindings bwarnings bquestions td vd vl gp), (bsteps, oX8 960 1 bstepsc (nI kbsteps)), (bstepsc, iA G 960 fbsteps), (bversions, oX8 8 3 bversionsc (nI (kbversions + 1))), (bversionsc, iA G 24 f14439)]) hC hK hl hP hD hS hA (c_T_set l G blines (-2) 5 (r4565 + (nI kbsteps)) 72 7 blinesc vkb f14563 (hvkb) (by omega) (by omega)) si_X10_66 [10, 11] [0, 1, 2, 3, 4, 5, 6, 7, 8, 9] sm_10_11 fm_10_11 nd_10_11 sm_0_1_2_3_4_5_6_7_8_9 nd_0_1_2_3_4_5_6_7_8_9 dj_10_11__0_1_2_3_4_5_6_7_8_9 rfl rfl rfl rfl rfl (Nat.le_of_ble_eq_true rfl) rm_3_1_4 ⟨Nat.le_of_ble_eq_true rfl, Nat.le_of_ble_eq_true rfl⟩ gX10_store_7.1 (fun f14569 H locs hr4567 hP hD hS => ?_)
        try dsimp only at hr4567
        refine Kpdr (ws := [(h0, oX10 tby (nI kt) tln tsp tkd ts9 tn9 tf9), (tln, oX8 9 7 tlnc (nI kln)), (tlnc, iA G 63 ftln), (tsp, oX8 120 1 tspc (nI ksp)), (tspc, iA G 120 ftsp), (bb, oX0 bpersons bpapers bstamps bversions blines bsteps bsayings bfindings bwarnings bquestions td vd vl gp), (bsteps, oX8 960 1 bstepsc (nI kbsteps)), (bstepsc, iA G 960 fbsteps), (bversions, oX8 8 3 bversionsc (nI (kbversions + 1))), (bversionsc, iA G 24 f14439), (blines, oX8 72 7 blinesc (nI vkb)), (blinesc, iA G 504 f14569)]) hP hD (fun hP hD => ?_)
        have w4570 := hr4567
        refine lv_iinc (v := nI (kP + 1)) (lv' := [(4, .int (nI (kP + 1))), (6, .int 7), (5, .int (-2)), (3, .int (nI kbsteps)), (2, .int (nI kbversions)), (0, .ref h0), (1, .ref bb)]) hx hb gX10_store_7.2.1 hl (k := 2) rfl (nI_1 _) (by decide) rfl (fun ls hl => ?_)
        refine lv_goto (tgt := 64) hx hb gX10_store_7.2.2.1 (by decide) ?_
        refine Kpds (ws' := [(h0, oX10 tby (nI kt) tln tsp tkd ts9 tn9 tf9), (tln, oX8 9 7 tlnc (nI kln)), (tlnc, iA G 63 ftln), (tsp, oX8 120 1 tspc (nI ksp)), (tspc, iA G 120 ftsp), (bb, oX0 bpersons bpapers bstamps bversions blines bsteps bsayings bfindings bwarnings bquestions td vd vl gp), (blines, oX8 72 7 blinesc (nI vkb)), (blinesc, iA G 504 f14569), (bsteps, oX8 960 1 bstepsc (nI kbsteps)), (bstepsc, iA G 960 fbsteps), (bversions, oX8 8 3 bversionsc (nI (kbversions + 1))), (bversionsc, iA G 24 f14439)]) hP hD [0, 1, 2, 3, 4, 5, 10, 11, 6, 7, 8, 9] fm_0_1_2_3_4_5_10_11_6_7_8_9 nd_0_1_2_3_4_5_10_11_6_7_8_9 sm_0_1_2_3_4_5_10_11_6_7_8_9 (fun hP hD => ?_)
        exact ihP (kP + 1) f14569 vkb _ _ _ (by omega) (by first | assumption | exact Or.inl rfl | exact Or.inr rfl | omega) (And.intro hP hD) hS (lv_sub hl [0, 3, 4, 5, 6] rfl)
  exact keyP kln 0 fblines kblines _ _ _ (by omega) (by first | assumption | exact Or.inl rfl | exact Or.inr rfl | omega) (And.intro hP hD) hS (lv_sub hl [0, 1, 2, 3, 4] rfl)
def K_p_read (l : Launch) (G : GG) (K : OO) (h0 : Nat) (bb : Nat) (kk : Nat) (ikp : Int32) (sg : Nat) (do9 : Nat) (ru9 : Nat) (ta9 : Nat) (tp9 : Nat) (ro9 : Nat) (ho9 : Nat) (de9 : Nat) (tby : Nat) (kt : Nat) (tln : Nat) (tsp : Nat) (tkd : Int32) (ks : Nat) (kn : Nat) (tf9 : Int32) (fby : Nat → Int32) (tlnc : Nat) (kln : Nat) (ftln : Nat → Int32) (tspc : Nat) (ksp : Nat) (ftsp : Nat → Int32) (bpersons : Nat) (bpapers : Nat) (bstamps : Nat) (bversions : Nat) (blines : Nat) (bsteps : Nat) (bsayings : Nat) (bfindings : Nat) (bwarnings : Nat) (bquestions : Nat) (td : Int32) (vd : Int32) (vl : Int32) (gp : Int32) (bversionsc : Nat) (kbversions : Nat) (fbversions : Nat → Int32) (blinesc : Nat) (kblines : Nat) (fblines : Nat → Int32) (bstepsc : Nat) (kbsteps : Nat) (fbsteps : Nat → Int32) : Prop := MIo l G K yX11_read cX11_read 2 (some .int) 33 0 0 [.ref h0] [(h0, oX11 bb kk ikp sg do9 ru9 ta9 tp9 ro9 ho9 de9), (tp9, oX10 tby (nI kt) tln tsp tkd (nI ks) (nI kn) tf9), (tby, iA G 240 fby), (tln, oX8 9 7 tlnc (nI kln)), (tlnc, iA G 63 ftln), (tsp, oX8 120 1 tspc (nI ksp)), (tspc, iA G 120 ftsp), (bb, oX0 bpersons bpapers bstamps bversions blines bsteps bsayings bfindings bwarnings bquestions td vd vl gp), (bversions, oX8 8 3 bversionsc (nI kbversions)), (bversionsc, iA G 24 fbversions), (blines, oX8 72 7 blinesc (nI kblines)), (blinesc, iA G 504 fblines), (bsteps, oX8 960 1 bstepsc (nI kbsteps)), (bstepsc, iA G 960 fbsteps)] (fun (r : Int32) (u : Int32 × Nat × Nat × Int32 × Nat × (Nat → Int32) × Nat × (Nat → Int32) × Nat × Nat × Nat × Nat × (Nat → Int32) × (Nat → Int32) × (Nat → Int32)) => (True) ∧ (u.2.1 ≤ 240 ∧ u.2.2.1 ≤ 240 ∧ u.2.2.2.2.1 ≤ 9 ∧ u.2.2.2.2.2.2.1 ≤ 120 ∧ u.2.2.2.2.2.2.2.2.1 = 0 ∧ u.2.2.2.2.2.2.2.2.2.1 ≤ 8 ∧ u.2.2.2.2.2.2.2.2.2.2.1 ≤ 72 ∧ u.2.2.2.2.2.2.2.2.2.2.2.1 ≤ 960)) (fun u : Int32 × Nat × Nat × Int32 × Nat × (Nat → Int32) × Nat × (Nat → Int32) × Nat × Nat × Nat × Nat × (Nat → Int32) × (Nat → Int32) × (Nat → Int32) => [(h0, oX11 bb kk ikp sg do9 ru9 ta9 tp9 ro9 ho9 de9), (tp9, oX10 tby (nI u.2.2.2.2.2.2.2.2.1) tln tsp u.1 (nI u.2.1) (nI u.2.2.1) u.2.2.2.1), (tby, iA G 240 fby), (tln, oX8 9 7 tlnc (nI u.2.2.2.2.1)), (tlnc, iA G 63 u.2.2.2.2.2.1), (tsp, oX8 120 1 tspc (nI u.2.2.2.2.2.2.1)), (tspc, iA G 120 u.2.2.2.2.2.2.2.1), (bb, oX0 bpersons bpapers bstamps bversions blines bsteps bsayings bfindings bwarnings bquestions td vd vl gp), (bversions, oX8 8 3 bversionsc (nI u.2.2.2.2.2.2.2.2.2.1)), (bversionsc, iA G 24 u.2.2.2.2.2.2.2.2.2.2.2.2.1), (blines, oX8 72 7 blinesc (nI u.2.2.2.2.2.2.2.2.2.2.1)), (blinesc, iA G 504 u.2.2.2.2.2.2.2.2.2.2.2.2.2.1), (bsteps, oX8 960 1 bstepsc (nI u.2.2.2.2.2.2.2.2.2.2.2.1)), (bstepsc, iA G 960 u.2.2.2.2.2.2.2.2.2.2.2.2.2.2)])
set_option maxHeartbeats 4000000 in
set_option maxRecDepth 100000 in
theorem p_read (l : Launch) (G : GG) (K : OO) (h0 : Nat) (bb : Nat) (kk : Nat) (ikp : Int32) (sg : Nat) (do9 : Nat) (ru9 : Nat) (ta9 : Nat) (tp9 : Nat) (ro9 : Nat) (ho9 : Nat) (de9 : Nat) (tby : Nat) (kt : Nat) (tln : Nat) (tsp : Nat) (tkd : Int32) (ks : Nat) (kn : Nat) (tf9 : Int32) (fby : Nat → Int32) (tlnc : Nat) (kln : Nat) (ftln : Nat → Int32) (tspc : Nat) (ksp : Nat) (ftsp : Nat → Int32) (bpersons : Nat) (bpapers : Nat) (bstamps : Nat) (bversions : Nat) (blines : Nat) (bsteps : Nat) (bsayings : Nat) (bfindings : Nat) (bwarnings : Nat) (bquestions : Nat) (td : Int32) (vd : Int32) (vl : Int32) (gp : Int32) (bversionsc : Nat) (kbversions : Nat) (fbversions : Nat → Int32) (blinesc : Nat) (kblines : Nat) (fblines : Nat → Int32) (bstepsc : Nat) (kbsteps : Nat) (fbsteps : Nat → Int32) (hkt : kt ≤ 240) (hks : ks ≤ 240) (hkn : kn ≤ 240) (hkln : kln ≤ 9) (hksp : ksp ≤ 120) (hkbversions : kbversions ≤ 8) (hkblines : kblines ≤ 72) (hkbsteps : kbsteps ≤ 960) : K_p_read l G K h0 bb kk ikp sg do9 ru9 ta9 tp9 ro9 ho9 de9 tby kt tln tsp tkd ks kn tf9 fby tlnc kln ftln tspc ksp ftsp bpersons bpapers bstamps bversions blines bsteps bsayings bfindings bwarnings bquestions td vd vl gp bversionsc kbversions fbversions blinesc kblines fblines bstepsc kbsteps fbsteps := by
  refine MIo.start (by decide +kernel) (Nat.le_of_ble_eq_true rfl) ?_
  intro p e s m below meth c A ls hC hK hP hD hS hA hl hO
  refine absQ (fun Q0 hQ0 => ?_)
  have hl : lv_has ls 2 [(0, .ref h0)] := hl
  refine Kan8 hC (fun hx hb hr hml hB hown hlocks hnm => ?_)
  refine lv_aload_n hx hb gX11_read_0.1 rfl (lv_at0 hl) ?_
  refine gf_X11_58 hC rfl hK hP 0 rfl rfl gX11_read_0.2.1 ?_
  refine iVo (wr := [(h0, oX11 bb kk ikp sg do9 ru9 ta9 tp9 ro9 ho9 de9), (bb, oX0 bpersons bpapers bstamps bversions blines bsteps bsayings bfindings bwarnings bquestions td vd vl gp), (bversions, oX8 8 3 bversionsc (nI kbversions)), (bversionsc, iA G 24 fbversions), (blines, oX8 72 7 blinesc (nI kblines)), (blinesc, iA G 504 fblines), (bsteps, oX8 960 1 bstepsc (nI kbsteps)), (bstepsc, iA G 960 fbsteps)]) hO hC hK hl hP hD hS hA (t_scan l G K tp9 tby kt tln tsp tkd ks kn tf9 fby tlnc kln ftln tspc ksp ftsp (hkt) (hks) (hkn) (hkln) (hksp)) si_X11_227 [1, 2, 3, 4, 5, 6] [0, 7, 8, 9, 10, 11, 12, 13] sm_1_2_3_4_5_6 fm_1_2_3_4_5_6 nd_1_2_3_4_5_6 sm_0_7_8_9_10_11_12_13 nd_0_7_8_9_10_11_12_13 dj_1_2_3_4_5_6__0_7_8_9_10_11_12_13 rfl rfl rfl rfl rfl (Nat.le_of_ble_eq_true rfl) rm_33_31_2 ⟨Nat.le_of_ble_eq_true rfl, Nat.le_of_ble_eq_true rfl⟩ gX11_read_0.2.2.1 (fun r4571 => Ktu8 fun kd14573 ks14574 kn14575 tf14576 kln14577 gtln4578 ksp14579 gtsp4580 => ?_)
  intro H locs hr4571 hP hD hS
  try dsimp only at hr4571
  refine Kpdr (ws := [(h0, oX11 bb kk ikp sg do9 ru9 ta9 tp9 ro9 ho9 de9), (bb, oX0 bpersons bpapers bstamps bversions blines bsteps bsayings bfindings bwarnings bquestions td vd vl gp), (bversions, oX8 8 3 bversionsc (nI kbversions)), (bversionsc, iA G 24 fbversions), (blines, oX8 72 7 blinesc (nI kblines)), (blinesc, iA G 504 fblines), (bsteps, oX8 960 1 bstepsc (nI kbsteps)), (bstepsc, iA G 960 fbsteps), (tp9, oX10 tby (nI kt) tln tsp kd14573 (nI ks14574) (nI kn14575) tf14576), (tby, iA G 240 fby), (tln, oX8 9 7 tlnc (nI kln14577)), (tlnc, iA G 63 gtln4578), (tsp, oX8 120 1 tspc (nI ksp14579)), (tspc, iA G 120 gtsp4580)]) hP hD (fun hP hD => ?_)
  obtain ⟨hr4571, w4581⟩ := hr4571
  refine lv_istore_n (lv' := [(1, .int r4571), (0, .ref h0)]) hx hb gX11_read_0.2.2.2.1 rfl hl (by decide) rfl (fun ls hl => ?_)
  refine lv_aload_n hx hb gX11_read_0.2.2.2.2.1 rfl (lv_at1 hl) ?_
  refine gf_X11_58 hC rfl hK hP 0 rfl rfl gX11_read_0.2.2.2.2.2.1 ?_
  refine vV (wr := [(h0, oX11 bb kk ikp sg do9 ru9 ta9 tp9 ro9 ho9 de9), (bb, oX0 bpersons bpapers bstamps bversions blines bsteps bsayings bfindings bwarnings bquestions td vd vl gp), (bversions, oX8 8 3 bversionsc (nI kbversions)), (bversionsc, iA G 24 fbversions), (blines, oX8 72 7 blinesc (nI kblines)), (blinesc, iA G 504 fblines), (bsteps, oX8 960 1 bstepsc (nI kbsteps)), (bstepsc, iA G 960 fbsteps), (tby, iA G 240 fby), (tln, oX8 9 7 tlnc (nI kln14577)), (tlnc, iA G 63 gtln4578), (tsp, oX8 120 1 tspc (nI ksp14579)), (tspc, iA G 120 gtsp4580)]) hC hK hl hP hD hS hA (t_clear l G tp9 tby kt tln tsp kd14573 (nI ks14574) (nI kn14575) tf14576) si_X11_230 [8] [0, 1, 2, 3, 4, 5, 6, 7, 9, 10, 11, 12, 13] sm_8 fm_8 nd_8 sm_0_1_2_3_4_5_6_7_9_10_11_12_13 nd_0_1_2_3_4_5_6_7_9_10_11_12_13 dj_8__0_1_2_3_4_5_6_7_9_10_11_12_13 rfl rfl rfl rfl rfl (Nat.le_of_ble_eq_true rfl) rm_33_1_1 ⟨Nat.le_of_ble_eq_true rfl, Nat.le_of_ble_eq_true rfl⟩ gX11_read_0.2.2.2.2.2.2.1 (fun u4583 H locs hr4582 hP hD hS => ?_)
  refine Kpdr (ws := [(h0, oX11 bb kk ikp sg do9 ru9 ta9 tp9 ro9 ho9 de9), (bb, oX0 bpersons bpapers bstamps bversions blines bsteps bsayings bfindings bwarnings bquestions td vd vl gp), (bversions, oX8 8 3 bversionsc (nI kbversions)), (bversionsc, iA G 24 fbversions), (blines, oX8 72 7 blinesc (nI kblines)), (blinesc, iA G 504 fblines), (bsteps, oX8 960 1 bstepsc (nI kbsteps)), (bstepsc, iA G 960 fbsteps), (tby, iA G 240 fby), (tln, oX8 9 7 tlnc (nI kln14577)), (tlnc, iA G 63 gtln4578), (tsp, oX8 120 1 tspc (nI ksp14579)), (tspc, iA G 120 gtsp4580), (tp9, oX10 tby 0 tln tsp kd14573 (nI ks14574) (nI kn14575) tf14576)]) hP hD (fun hP hD => ?_)
  refine lv_iload_n hx hb gX11_read_0.2.2.2.2.2.2.2.1 rfl (lv_at0 hl) ?_
  refine lv_if_lt (tgt := 24) hx hb gX11_read_0.2.2.2.2.2.2.2.2.1 (by decide) (fun c_16_4584 => ?_) (fun c_16_4584 => ?_)
  · refine lv_aload_n hx hb gX11_read_1.2.2.2.1 rfl (lv_at1 hl) ?_
    refine gf_X11_15 hC rfl hK hP 0 rfl rfl gX11_read_1.2.2.2.2.1 ?_
    refine gf_X11_233 hC rfl hK hP 1 rfl rfl gX11_read_1.2.2.2.2.2.1 ?_
    refine pV hC hK hl hP hD (c_T_isFull l G bversions 8 3 bversionsc kbversions (hkbversions) (by omega)) si_X11_111 [2] sm_2 fm_2 nd_2 rfl rfl rfl rfl rfl (Nat.le_of_ble_eq_true rfl) rm_33_1_1 ⟨by first | exact Nat.le_of_ble_eq_true rfl | exact Nat.zero_le _, by first | exact Nat.le_of_ble_eq_true rfl | exact Nat.zero_le _⟩ gX11_read_1.2.2.2.2.2.2.1 (Kors (Keqa fun a4586 => ?_) (Keqa fun a4586 => ?_))
    · refine lv_if_eq (tgt := 40) hx hb gX11_read_1.2.2.2.2.2.2.2.1 (by decide) (fun c9 => absurd c9 (by decide)) (fun _ => ?_)
      refine lv_bipush (v := (-2)) hx hb gX11_read_1.2.2.2.2.2.2.2.2.1 (by decide) ?_
      refine toQ hQ0 ?_
      exact RI (v := (-2)) hC hP hD hS [0, 13, 8, 9, 10, 11, 12, 1, 2, 3, 4, 5, 6, 7] (kd14573, ks14574, kn14575, tf14576, kln14577, gtln4578, ksp14579, gtsp4580, 0, kbversions, kblines, kbsteps, fbversions, fblines, fbsteps) rfl rfl (by decide) (⟨trivial, by dsimp only; omega⟩) rfl gX11_read_1.2.2.2.2.2.2.2.2.2
    · refine lv_if_eq (tgt := 40) hx hb gX11_read_1.2.2.2.2.2.2.2.1 (by decide) (fun _ => ?_) (fun c9 => absurd (by decide) c9)
      refine lv_aload_n hx hb gX11_read_2.1 rfl (lv_at1 hl) ?_
      refine gf_X11_58 hC rfl hK hP 0 rfl rfl gX11_read_2.2.1 ?_
      refine lv_aload_n hx hb gX11_read_2.2.2.1 rfl (lv_at1 hl) ?_
      refine gf_X11_15 hC rfl hK hP 0 rfl rfl gX11_read_2.2.2.2.1 ?_
      refine iV (wr := [(h0, oX11 bb kk ikp sg do9 ru9 ta9 tp9 ro9 ho9 de9), (tby, iA G 240 fby)]) hC hK hl hP hD hS hA (t_store l G tp9 bb tby 0 tln tsp kd14573 (nI ks14574) (nI kn14575) tf14576 tlnc kln14577 gtln4578 tspc ksp14579 gtsp4580 bpersons bpapers bstamps bversions blines bsteps bsayings bfindings bwarnings bquestions td vd vl gp bversionsc kbversions fbversions blinesc kblines fblines bstepsc kbsteps fbsteps (by omega) (by omega) (a4586) (hkblines) (hkbsteps)) si_X11_236 [13, 9, 10, 11, 12, 1, 2, 3, 4, 5, 6, 7] [0, 8] sm_13_9_10_11_12_1_2_3_4_5_6_7 fm_13_9_10_11_12_1_2_3_4_5_6_7 nd_13_9_10_11_12_1_2_3_4_5_6_7 sm_0_8 nd_0_8 dj_13_9_10_11_12_1_2_3_4_5_6_7__0_8 rfl rfl rfl rfl rfl (Nat.le_of_ble_eq_true rfl) rm_33_3_7 ⟨Nat.le_of_ble_eq_true rfl, Nat.le_of_ble_eq_true rfl⟩ gX11_read_2.2.2.2.2.1 (fun r4587 => Ktu6 fun kv14589 kl14590 kp14591 gversions4592 glines4593 gsteps4594 => ?_)
      intro H locs hr4587 hP hD hS
      try dsimp only at hr4587
      refine Kpdr (ws := [(h0, oX11 bb kk ikp sg do9 ru9 ta9 tp9 ro9 ho9 de9), (tby, iA G 240 fby), (tp9, oX10 tby 0 tln tsp kd14573 (nI ks14574) (nI kn14575) tf14576), (tln, oX8 9 7 tlnc (nI kln14577)), (tlnc, iA G 63 gtln4578), (tsp, oX8 120 1 tspc (nI ksp14579)), (tspc, iA G 120 gtsp4580), (bb, oX0 bpersons bpapers bstamps bversions blines bsteps bsayings bfindings bwarnings bquestions td vd vl gp), (bversions, oX8 8 3 bversionsc (nI kv14589)), (bversionsc, iA G 24 gversions4592), (blines, oX8 72 7 blinesc (nI kl14590)), (blinesc, iA G 504 glines4593), (bsteps, oX8 960 1 bstepsc (nI kp14591)), (bstepsc, iA G 960 gsteps4594)]) hP hD (fun hP hD => ?_)
      obtain ⟨hr4587, w4595⟩ := hr4587
      refine toQ hQ0 ?_
      exact RI (v := r4587) hC hP hD hS [0, 2, 1, 3, 4, 5, 6, 7, 8, 9, 10, 11, 12, 13] (kd14573, ks14574, kn14575, tf14576, kln14577, gtln4578, ksp14579, gtsp4580, 0, kv14589, kl14590, kp14591, gversions4592, glines4593, gsteps4594) rfl rfl (by decide) (⟨trivial, by dsimp only; omega⟩) rfl gX11_read_2.2.2.2.2.2
  · refine lv_bipush (v := (-100)) hx hb gX11_read_0.2.2.2.2.2.2.2.2.2 (by decide) ?_
    refine lv_iload_n hx hb gX11_read_1.1 rfl (lv_at0 hl) ?_
    refine lv_isub hx hb gX11_read_1.2.1 ?_
    refine toQ hQ0 ?_
    exact RI (v := (-100) - r4571) hC hP hD hS [0, 13, 8, 9, 10, 11, 12, 1, 2, 3, 4, 5, 6, 7] (kd14573, ks14574, kn14575, tf14576, kln14577, gtln4578, ksp14579, gtsp4580, 0, kbversions, kblines, kbsteps, fbversions, fblines, fbsteps) rfl rfl (by decide) (⟨trivial, by dsimp only; omega⟩) rfl gX11_read_1.2.2.1
