section WR
variable {p : Program} {l : Launch} {e : Env} {R : Room} {s : State} {m : MethodId} {args : Array Value} {below : List Frame} {meth : Method} {c : Code} {H : Heap} {locs : List Loc} {cells slots : Nat} {Q : State → Prop}
variable {pc : Nat} {ls : Array Slot} {rest : List Value} {G : GG} {ws : va_W} {A : Nat → Prop} {y0 : MethodName} {b0 : ByteArray} {mL0 : Nat} {rt0 : Option FieldType} {a : Nat} {H0 : Heap}
theorem gX10_takesHead_0 : (decode cX10_takesHead 0 = .ok (.iload_n 2, 1)) ∧ (decode cX10_takesHead 1 = .ok (.tableswitch 131 0 2 #[27, 84, 93], 27)) ∧ (decode cX10_takesHead 28 = .ok (.aload_n 0, 1)) ∧ (decode cX10_takesHead 29 = .ok (.iload_n 1, 1)) ∧ (decode cX10_takesHead 30 = .ok (.iconst 1, 1)) ∧ (decode cX10_takesHead 31 = .ok (.bipush 99, 2)) ∧ (decode cX10_takesHead 33 = .ok (.invokevirtual 135, 3)) ∧ (decode cX10_takesHead 36 = .ok (.ifCond .eq 47, 3)) ∧ (decode cX10_takesHead 39 = .ok (.aload_n 0, 1)) ∧ (decode cX10_takesHead 40 = .ok (.ldc 138, 2)) := by decide +kernel
theorem m_699 : Cond.code yX10_takesNumber cX10_takesNumber 5 (some .boolean) ∈ BW := iB_BW37 _ (List.mem_of_getElem? (i := 19) rfl)
theorem m_697 : Cond.methodLink RX10 135 yX10_takesNumber ∈ BW := iB_BW37 _ (List.mem_of_getElem? (i := 17) rfl)
theorem m_698 : Cond.instanceMethod yX10_takesNumber ∈ BW := iB_BW37 _ (List.mem_of_getElem? (i := 18) rfl)
theorem m_21 : Cond.selects RX10 yX10_takesNumber yX10_takesNumber ∈ BW := iB_BW1 _ (List.mem_of_getElem? (i := 1) rfl)
theorem si_X10_135 : SV RX10 RX10 135 yX10_takesNumber cX10_takesNumber 5 (some .boolean) 3 := ⟨⟨m_697, m_698, m_21, m_111, m_699⟩, rfl, nK_RX10.1, nK_RX10.2, pd_0⟩
theorem gX10_takesHead_1 : (decode cX10_takesHead 42 = .ok (.invokevirtual 140, 3)) ∧ (decode cX10_takesHead 45 = .ok (.ifCond .eq 38, 3)) ∧ (decode cX10_takesHead 48 = .ok (.aload_n 0, 1)) ∧ (decode cX10_takesHead 49 = .ok (.iload_n 1, 1)) ∧ (decode cX10_takesHead 50 = .ok (.iconst 2, 1)) ∧ (decode cX10_takesHead 51 = .ok (.bipush 7, 2)) ∧ (decode cX10_takesHead 53 = .ok (.invokevirtual 135, 3)) ∧ (decode cX10_takesHead 56 = .ok (.ifCond .eq 27, 3)) ∧ (decode cX10_takesHead 59 = .ok (.aload_n 0, 1)) ∧ (decode cX10_takesHead 60 = .ok (.ldc 143, 2)) := by decide +kernel
theorem m_705 : Cond.code yX10_takesName cX10_takesName 2 (some .boolean) ∈ BW := iB_BW38 _ (List.mem_of_getElem? (i := 5) rfl)
theorem m_703 : Cond.methodLink RX10 140 yX10_takesName ∈ BW := iB_BW38 _ (List.mem_of_getElem? (i := 3) rfl)
theorem m_704 : Cond.instanceMethod yX10_takesName ∈ BW := iB_BW38 _ (List.mem_of_getElem? (i := 4) rfl)
theorem m_23 : Cond.selects RX10 yX10_takesName yX10_takesName ∈ BW := iB_BW1 _ (List.mem_of_getElem? (i := 3) rfl)
theorem si_X10_140 : SV RX10 RX10 140 yX10_takesName cX10_takesName 2 (some .boolean) 1 := ⟨⟨m_703, m_704, m_23, m_111, m_705⟩, rfl, nK_RX10.1, nK_RX10.2, pd_26⟩
theorem gX10_takesHead_2 : (decode cX10_takesHead 62 = .ok (.invokevirtual 140, 3)) ∧ (decode cX10_takesHead 65 = .ok (.ifCond .eq 18, 3)) ∧ (decode cX10_takesHead 68 = .ok (.aload_n 0, 1)) ∧ (decode cX10_takesHead 69 = .ok (.iload_n 1, 1)) ∧ (decode cX10_takesHead 70 = .ok (.iconst 3, 1)) ∧ (decode cX10_takesHead 71 = .ok (.bipush 7, 2)) ∧ (decode cX10_takesHead 73 = .ok (.invokevirtual 135, 3)) ∧ (decode cX10_takesHead 76 = .ok (.ifCond .eq 7, 3)) ∧ (decode cX10_takesHead 79 = .ok (.iconst 1, 1)) ∧ (decode cX10_takesHead 80 = .ok (.goto 4, 3)) := by decide +kernel
theorem gX10_takesHead_3 : (decode cX10_takesHead 83 = .ok (.iconst 0, 1)) ∧ (decode cX10_takesHead 84 = .ok (.ireturn, 1)) ∧ (decode cX10_takesHead 85 = .ok (.aload_n 0, 1)) ∧ (decode cX10_takesHead 86 = .ok (.iload_n 1, 1)) ∧ (decode cX10_takesHead 87 = .ok (.iconst 1, 1)) ∧ (decode cX10_takesHead 88 = .ok (.bipush 99, 2)) ∧ (decode cX10_takesHead 90 = .ok (.invokevirtual 135, 3)) ∧ (decode cX10_takesHead 93 = .ok (.ireturn, 1)) ∧ (decode cX10_takesHead 94 = .ok (.aload_n 0, 1)) ∧ (decode cX10_takesHead 95 = .ok (.iload_n 1, 1)) := by decide +kernel
theorem gX10_takesHead_4 : (decode cX10_takesHead 96 = .ok (.iconst 1, 1)) ∧ (decode cX10_takesHead 97 = .ok (.bipush 7, 2)) ∧ (decode cX10_takesHead 99 = .ok (.invokevirtual 135, 3)) ∧ (decode cX10_takesHead 102 = .ok (.ifCond .eq 28, 3)) ∧ (decode cX10_takesHead 105 = .ok (.aload_n 0, 1)) ∧ (decode cX10_takesHead 106 = .ok (.ldc 145, 2)) ∧ (decode cX10_takesHead 108 = .ok (.invokevirtual 140, 3)) ∧ (decode cX10_takesHead 111 = .ok (.ifCond .eq 19, 3)) ∧ (decode cX10_takesHead 114 = .ok (.aload_n 0, 1)) ∧ (decode cX10_takesHead 115 = .ok (.iload_n 1, 1)) := by decide +kernel
theorem gX10_takesHead_5 : (decode cX10_takesHead 116 = .ok (.iconst 2, 1)) ∧ (decode cX10_takesHead 117 = .ok (.sipush 999, 3)) ∧ (decode cX10_takesHead 120 = .ok (.invokevirtual 135, 3)) ∧ (decode cX10_takesHead 123 = .ok (.ifCond .eq 7, 3)) ∧ (decode cX10_takesHead 126 = .ok (.iconst 1, 1)) ∧ (decode cX10_takesHead 127 = .ok (.goto 4, 3)) ∧ (decode cX10_takesHead 130 = .ok (.iconst 0, 1)) ∧ (decode cX10_takesHead 131 = .ok (.ireturn, 1)) ∧ (decode cX10_takesHead 132 = .ok (.aload_n 0, 1)) ∧ (decode cX10_takesHead 133 = .ok (.iload_n 1, 1)) := by decide +kernel
theorem sw_0_2 {x : Int32} : ¬ x = 0 → ¬ x = 1 → ¬ x = 2 →  (x.toInt < 0 ∨ 2 < x.toInt) := by
  intros
  simp only [← Int32.toInt_inj] at *
  have hk : ∀ k : Int, x.toInt = k → x.toInt = k := fun _ h => h
  have k0 : (0 : Int32).toInt = 0 := by decide
  have k1 : (1 : Int32).toInt = 1 := by decide
  have k2 : (2 : Int32).toInt = 2 := by decide
  omega
theorem gX10_takesHead_6 : (decode cX10_takesHead 134 = .ok (.iconst 1, 1)) ∧ (decode cX10_takesHead 135 = .ok (.bipush 9, 2)) ∧ (decode cX10_takesHead 137 = .ok (.invokevirtual 135, 3)) ∧ (decode cX10_takesHead 140 = .ok (.ireturn, 1)) := by decide +kernel
theorem gX10_takesLine_0 : (decode cX10_takesLine 0 = .ok (.aload_n 0, 1)) ∧ (decode cX10_takesLine 1 = .ok (.getfield 20, 3)) ∧ (decode cX10_takesLine 4 = .ok (.invokevirtual 59, 3)) ∧ (decode cX10_takesLine 7 = .ok (.istore_n 1, 1)) ∧ (decode cX10_takesLine 8 = .ok (.iload_n 1, 1)) ∧ (decode cX10_takesLine 9 = .ok (.ifCond .ge 8, 3)) ∧ (decode cX10_takesLine 12 = .ok (.aload_n 0, 1)) ∧ (decode cX10_takesLine 13 = .ok (.invokevirtual 106, 3)) ∧ (decode cX10_takesLine 16 = .ok (.ireturn, 1)) ∧ (decode cX10_takesLine 17 = .ok (.iconst 1, 1)) := by decide +kernel
theorem gX10_takesLine_1 : (decode cX10_takesLine 18 = .ok (.istore_n 2, 1)) ∧ (decode cX10_takesLine 19 = .ok (.iload_n 2, 1)) ∧ (decode cX10_takesLine 20 = .ok (.iconst 3, 1)) ∧ (decode cX10_takesLine 21 = .ok (.if_icmp .gt 20, 3)) ∧ (decode cX10_takesLine 24 = .ok (.aload_n 0, 1)) ∧ (decode cX10_takesLine 25 = .ok (.getfield 20, 3)) ∧ (decode cX10_takesLine 28 = .ok (.iload_n 1, 1)) ∧ (decode cX10_takesLine 29 = .ok (.iload_n 2, 1)) ∧ (decode cX10_takesLine 30 = .ok (.bipush (-9), 2)) ∧ (decode cX10_takesLine 32 = .ok (.invokevirtual 66, 3)) := by decide +kernel
theorem gX10_takesLine_2 : (decode cX10_takesLine 35 = .ok (.iinc 2 1, 3)) ∧ (decode cX10_takesLine 38 = .ok (.goto (-19), 3)) ∧ (decode cX10_takesLine 41 = .ok (.aload_n 0, 1)) ∧ (decode cX10_takesLine 42 = .ok (.getfield 20, 3)) ∧ (decode cX10_takesLine 45 = .ok (.iload_n 1, 1)) ∧ (decode cX10_takesLine 46 = .ok (.iconst 4, 1)) ∧ (decode cX10_takesLine 47 = .ok (.iconst 0, 1)) ∧ (decode cX10_takesLine 48 = .ok (.invokevirtual 66, 3)) ∧ (decode cX10_takesLine 51 = .ok (.aload_n 0, 1)) ∧ (decode cX10_takesLine 52 = .ok (.getfield 20, 3)) := by decide +kernel
theorem gX10_takesLine_3 : (decode cX10_takesLine 55 = .ok (.iload_n 1, 1)) ∧ (decode cX10_takesLine 56 = .ok (.iconst 5, 1)) ∧ (decode cX10_takesLine 57 = .ok (.aload_n 0, 1)) ∧ (decode cX10_takesLine 58 = .ok (.getfield 24, 3)) ∧ (decode cX10_takesLine 61 = .ok (.invokevirtual 71, 3)) ∧ (decode cX10_takesLine 64 = .ok (.invokevirtual 66, 3)) ∧ (decode cX10_takesLine 67 = .ok (.aload_n 0, 1)) ∧ (decode cX10_takesLine 68 = .ok (.getfield 20, 3)) ∧ (decode cX10_takesLine 71 = .ok (.iload_n 1, 1)) ∧ (decode cX10_takesLine 72 = .ok (.bipush 6, 2)) := by decide +kernel
theorem m_644 : Cond.methodLink RX10 71 yX8_count ∈ BW := iB_BW35 _ (List.mem_of_getElem? (i := 4) rfl)
theorem si_X10_71 : SV RX10 RX8 71 yX8_count cX8_count 1 (some .int) 0 := ⟨⟨m_644, m_308, m_309, m_104, m_310⟩, rfl, nK_RX8.1, nK_RX8.2, pd_1⟩
theorem gX10_takesLine_4 : (decode cX10_takesLine 74 = .ok (.iconst 0, 1)) ∧ (decode cX10_takesLine 75 = .ok (.invokevirtual 66, 3)) ∧ (decode cX10_takesLine 78 = .ok (.aload_n 0, 1)) ∧ (decode cX10_takesLine 79 = .ok (.invokevirtual 112, 3)) ∧ (decode cX10_takesLine 82 = .ok (.istore_n 2, 1)) ∧ (decode cX10_takesLine 83 = .ok (.iload_n 2, 1)) ∧ (decode cX10_takesLine 84 = .ok (.ifCond .ge 8, 3)) ∧ (decode cX10_takesLine 87 = .ok (.aload_n 0, 1)) ∧ (decode cX10_takesLine 88 = .ok (.invokevirtual 106, 3)) ∧ (decode cX10_takesLine 91 = .ok (.ireturn, 1)) := by decide +kernel
theorem m_647 : Cond.code yX10_sortHere cX10_sortHere 1 (some .int) ∈ BW := iB_BW35 _ (List.mem_of_getElem? (i := 7) rfl)
theorem m_645 : Cond.methodLink RX10 112 yX10_sortHere ∈ BW := iB_BW35 _ (List.mem_of_getElem? (i := 5) rfl)
theorem m_646 : Cond.instanceMethod yX10_sortHere ∈ BW := iB_BW35 _ (List.mem_of_getElem? (i := 6) rfl)
theorem m_18 : Cond.selects RX10 yX10_sortHere yX10_sortHere ∈ BW := iB_BW0 _ (List.mem_of_getElem? (i := 18) rfl)
theorem si_X10_112 : SV RX10 RX10 112 yX10_sortHere cX10_sortHere 1 (some .int) 0 := ⟨⟨m_645, m_646, m_18, m_111, m_647⟩, rfl, nK_RX10.1, nK_RX10.2, pd_1⟩
theorem gX10_takesLine_5 : (decode cX10_takesLine 92 = .ok (.aload_n 0, 1)) ∧ (decode cX10_takesLine 93 = .ok (.getfield 20, 3)) ∧ (decode cX10_takesLine 96 = .ok (.iload_n 1, 1)) ∧ (decode cX10_takesLine 97 = .ok (.iconst 0, 1)) ∧ (decode cX10_takesLine 98 = .ok (.iload_n 2, 1)) ∧ (decode cX10_takesLine 99 = .ok (.invokevirtual 66, 3)) ∧ (decode cX10_takesLine 102 = .ok (.aload_n 0, 1)) ∧ (decode cX10_takesLine 103 = .ok (.invokevirtual 47, 3)) ∧ (decode cX10_takesLine 106 = .ok (.aload_n 0, 1)) ∧ (decode cX10_takesLine 107 = .ok (.iload_n 1, 1)) := by decide +kernel
theorem gX10_takesLine_6 : (decode cX10_takesLine 108 = .ok (.iload_n 2, 1)) ∧ (decode cX10_takesLine 109 = .ok (.invokevirtual 115, 3)) ∧ (decode cX10_takesLine 112 = .ok (.ifCond .ne 5, 3)) ∧ (decode cX10_takesLine 115 = .ok (.iconst 0, 1)) ∧ (decode cX10_takesLine 116 = .ok (.ireturn, 1)) ∧ (decode cX10_takesLine 117 = .ok (.iload_n 2, 1)) ∧ (decode cX10_takesLine 118 = .ok (.iconst 3, 1)) ∧ (decode cX10_takesLine 119 = .ok (.if_icmp .eq 63, 3)) ∧ (decode cX10_takesLine 122 = .ok (.aload_n 0, 1)) ∧ (decode cX10_takesLine 123 = .ok (.ldc 119, 2)) := by decide +kernel
theorem m_696 : Cond.code yX10_takesHead cX10_takesHead 3 (some .boolean) ∈ BW := iB_BW37 _ (List.mem_of_getElem? (i := 16) rfl)
theorem m_694 : Cond.methodLink RX10 115 yX10_takesHead ∈ BW := iB_BW37 _ (List.mem_of_getElem? (i := 14) rfl)
theorem m_695 : Cond.instanceMethod yX10_takesHead ∈ BW := iB_BW37 _ (List.mem_of_getElem? (i := 15) rfl)
theorem m_20 : Cond.selects RX10 yX10_takesHead yX10_takesHead ∈ BW := iB_BW1 _ (List.mem_of_getElem? (i := 0) rfl)
theorem si_X10_115 : SV RX10 RX10 115 yX10_takesHead cX10_takesHead 3 (some .boolean) 2 := ⟨⟨m_694, m_695, m_20, m_111, m_696⟩, rfl, nK_RX10.1, nK_RX10.2, pd_3⟩
theorem gX10_takesLine_10 : (decode cX10_takesLine 182 = .ok (.aload_n 0, 1)) ∧ (decode cX10_takesLine 183 = .ok (.bipush 59, 2)) ∧ (decode cX10_takesLine 185 = .ok (.invokevirtual 124, 3)) ∧ (decode cX10_takesLine 188 = .ok (.ireturn, 1)) := by decide +kernel
theorem gX10_takesLine_7 : (decode cX10_takesLine 125 = .ok (.invokevirtual 102, 3)) ∧ (decode cX10_takesLine 128 = .ok (.ifCond .eq 54, 3)) ∧ (decode cX10_takesLine 131 = .ok (.aload_n 0, 1)) ∧ (decode cX10_takesLine 132 = .ok (.invokevirtual 47, 3)) ∧ (decode cX10_takesLine 135 = .ok (.aload_n 0, 1)) ∧ (decode cX10_takesLine 136 = .ok (.getfield 20, 3)) ∧ (decode cX10_takesLine 139 = .ok (.iload_n 1, 1)) ∧ (decode cX10_takesLine 140 = .ok (.iconst 4, 1)) ∧ (decode cX10_takesLine 141 = .ok (.iconst 1, 1)) ∧ (decode cX10_takesLine 142 = .ok (.invokevirtual 66, 3)) := by decide +kernel
theorem gX10_takesLine_8 : (decode cX10_takesLine 145 = .ok (.aload_n 0, 1)) ∧ (decode cX10_takesLine 146 = .ok (.iconst 0, 1)) ∧ (decode cX10_takesLine 147 = .ok (.invokevirtual 121, 3)) ∧ (decode cX10_takesLine 150 = .ok (.ifCond .ne 5, 3)) ∧ (decode cX10_takesLine 153 = .ok (.iconst 0, 1)) ∧ (decode cX10_takesLine 154 = .ok (.ireturn, 1)) ∧ (decode cX10_takesLine 155 = .ok (.aload_n 0, 1)) ∧ (decode cX10_takesLine 156 = .ok (.getfield 20, 3)) ∧ (decode cX10_takesLine 159 = .ok (.iload_n 1, 1)) ∧ (decode cX10_takesLine 160 = .ok (.bipush 6, 2)) := by decide +kernel
theorem gX10_takesLine_9 : (decode cX10_takesLine 162 = .ok (.aload_n 0, 1)) ∧ (decode cX10_takesLine 163 = .ok (.getfield 24, 3)) ∧ (decode cX10_takesLine 166 = .ok (.invokevirtual 71, 3)) ∧ (decode cX10_takesLine 169 = .ok (.aload_n 0, 1)) ∧ (decode cX10_takesLine 170 = .ok (.getfield 20, 3)) ∧ (decode cX10_takesLine 173 = .ok (.iload_n 1, 1)) ∧ (decode cX10_takesLine 174 = .ok (.iconst 5, 1)) ∧ (decode cX10_takesLine 175 = .ok (.invokevirtual 74, 3)) ∧ (decode cX10_takesLine 178 = .ok (.isub, 1)) ∧ (decode cX10_takesLine 179 = .ok (.invokevirtual 66, 3)) := by decide +kernel
theorem m_730 : Cond.methodLink RX10 74 yX8_at ∈ BW := iB_BW39 _ (List.mem_of_getElem? (i := 10) rfl)
theorem si_X10_74 : SV RX10 RX8 74 yX8_at cX8_at 3 (some .int) 2 := ⟨⟨m_730, m_312, m_313, m_104, m_314⟩, rfl, nK_RX8.1, nK_RX8.2, pd_2⟩
theorem gX10_scan_0 : (decode cX10_scan 0 = .ok (.aload_n 0, 1)) ∧ (decode cX10_scan 1 = .ok (.getfield 20, 3)) ∧ (decode cX10_scan 4 = .ok (.iconst 0, 1)) ∧ (decode cX10_scan 5 = .ok (.invokevirtual 43, 3)) ∧ (decode cX10_scan 8 = .ok (.aload_n 0, 1)) ∧ (decode cX10_scan 9 = .ok (.getfield 24, 3)) ∧ (decode cX10_scan 12 = .ok (.iconst 0, 1)) ∧ (decode cX10_scan 13 = .ok (.invokevirtual 43, 3)) ∧ (decode cX10_scan 16 = .ok (.aload_n 0, 1)) ∧ (decode cX10_scan 17 = .ok (.iconst (-1), 1)) := by decide +kernel
theorem m_620 : Cond.methodLink RX10 43 yX8_cut ∈ BW := iB_BW34 _ (List.mem_of_getElem? (i := 0) rfl)
theorem si_X10_43 : SV RX10 RX8 43 yX8_cut cX8_cut 2 none 1 := ⟨⟨m_620, m_621, m_622, m_104, m_623⟩, rfl, nK_RX8.1, nK_RX8.2, pd_18⟩
theorem gX10_scan_1 : (decode cX10_scan 18 = .ok (.putfield 40, 3)) ∧ (decode cX10_scan 21 = .ok (.aload_n 0, 1)) ∧ (decode cX10_scan 22 = .ok (.iconst 0, 1)) ∧ (decode cX10_scan 23 = .ok (.putfield 37, 3)) ∧ (decode cX10_scan 26 = .ok (.aload_n 0, 1)) ∧ (decode cX10_scan 27 = .ok (.invokevirtual 47, 3)) ∧ (decode cX10_scan 30 = .ok (.iconst 0, 1)) ∧ (decode cX10_scan 31 = .ok (.istore_n 1, 1)) ∧ (decode cX10_scan 32 = .ok (.iload_n 1, 1)) ∧ (decode cX10_scan 33 = .ok (.bipush 9, 2)) := by decide +kernel
theorem gX10_scan_2 : (decode cX10_scan 35 = .ok (.if_icmp .gt 29, 3)) ∧ (decode cX10_scan 38 = .ok (.aload_n 0, 1)) ∧ (decode cX10_scan 39 = .ok (.getfield 31, 3)) ∧ (decode cX10_scan 42 = .ok (.iconst (-1), 1)) ∧ (decode cX10_scan 43 = .ok (.if_icmp .eq 21, 3)) ∧ (decode cX10_scan 46 = .ok (.aload_n 0, 1)) ∧ (decode cX10_scan 47 = .ok (.invokevirtual 50, 3)) ∧ (decode cX10_scan 50 = .ok (.ifCond .ne 8, 3)) ∧ (decode cX10_scan 53 = .ok (.aload_n 0, 1)) ∧ (decode cX10_scan 54 = .ok (.getfield 40, 3)) := by decide +kernel
theorem gX10_scan_3 : (decode cX10_scan 57 = .ok (.ireturn, 1)) ∧ (decode cX10_scan 58 = .ok (.iinc 1 1, 3)) ∧ (decode cX10_scan 61 = .ok (.goto (-29), 3)) ∧ (decode cX10_scan 64 = .ok (.aload_n 0, 1)) ∧ (decode cX10_scan 65 = .ok (.getfield 40, 3)) ∧ (decode cX10_scan 68 = .ok (.ireturn, 1)) := by decide +kernel
theorem gf_X10_40 (hC : CX p s m meth c y0 b0 mL0 rt0 args) (hy0 : y0.cls = RX10) (hK : KK G s) (hP : va_P G.1 vwCl ws H) (q0 : Nat) {fs : List Value} {v : Value} (he : ws[q0]? = some (a, .inr (10, fs))) (hv : fs[7]? = some v) (hdg : decode b0 pc = .ok (.getfield 40, 3)) (kk : W p l e R s m args below meth c H locs cells slots Q (F0 m (pc + 3) ls (v :: rest))) : W p l e R s m args below meth c H locs cells slots Q (F0 m pc ls (.ref a :: rest)) := by
  obtain ⟨hx, hb, hr, hml, hB, hown, hlocks, hnm⟩ := hC
  rw [hy0] at hown
  exact va_get (ci := 10) (C := RX10) (T := TX10) (N := 8) hx hb hB in_X10 hown hK.1 hP q0 he rfl 7 (by decide) (hB _ m_236) (fun _ h => h) hv hdg kk
theorem m_638 : Cond.code yX10_takesLine cX10_takesLine 3 (some .boolean) ∈ BW := iB_BW34 _ (List.mem_of_getElem? (i := 18) rfl)
theorem m_636 : Cond.methodLink RX10 50 yX10_takesLine ∈ BW := iB_BW34 _ (List.mem_of_getElem? (i := 16) rfl)
theorem m_637 : Cond.instanceMethod yX10_takesLine ∈ BW := iB_BW34 _ (List.mem_of_getElem? (i := 17) rfl)
theorem m_16 : Cond.selects RX10 yX10_takesLine yX10_takesLine ∈ BW := iB_BW0 _ (List.mem_of_getElem? (i := 16) rfl)
theorem si_X10_50 : SV RX10 RX10 50 yX10_takesLine cX10_takesLine 3 (some .boolean) 0 := ⟨⟨m_636, m_637, m_16, m_111, m_638⟩, rfl, nK_RX10.1, nK_RX10.2, pd_15⟩
theorem gX10_store_0 : (decode cX10_store 0 = .ok (.aload_n 1, 1)) ∧ (decode cX10_store 1 = .ok (.getfield 54, 3)) ∧ (decode cX10_store 4 = .ok (.invokevirtual 59, 3)) ∧ (decode cX10_store 7 = .ok (.istore_n 2, 1)) ∧ (decode cX10_store 8 = .ok (.aload_n 1, 1)) ∧ (decode cX10_store 9 = .ok (.getfield 54, 3)) ∧ (decode cX10_store 12 = .ok (.iload_n 2, 1)) ∧ (decode cX10_store 13 = .ok (.iconst 0, 1)) ∧ (decode cX10_store 14 = .ok (.aload_n 1, 1)) ∧ (decode cX10_store 15 = .ok (.getfield 63, 3)) := by decide +kernel
theorem nm_13 : Cond.fieldLinkNest RX10 54 RX0 "versions" "LInquiryBench$Table;" RX11 ∈ NestW := List.mem_of_getElem? (i := 13) rfl
theorem gf_X10_54 (hC : CX p s m meth c y0 b0 mL0 rt0 args) (hy0 : y0.cls = RX10) (hK : KK G s) (hP : va_P G.1 vwCl ws H) (q0 : Nat) {fs : List Value} {v : Value} (he : ws[q0]? = some (a, .inr (0, fs))) (hv : fs[3]? = some v) (hdg : decode b0 pc = .ok (.getfield 54, 3)) (kk : W p l e R s m args below meth c H locs cells slots Q (F0 m (pc + 3) ls (v :: rest))) : W p l e R s m args below meth c H locs cells slots Q (F0 m pc ls (.ref a :: rest)) := by
  obtain ⟨hx, hb, hr, hml, hB, hown, hlocks, hnm⟩ := hC
  rw [hy0] at hown
  exact va_getN (ci := 0) (C := RX0) (T := TX0) (N := 14) hx hb hB in_X0 hown hK.1 hP q0 he rfl 3 (by decide) (va_Nw.use rfl (hK.2.1 _ nm_13)) (fun _ h => h) hv hdg kk
theorem nm_32 : Cond.fieldLinkNest RX10 63 RX0 "today" "I" RX11 ∈ NestW := List.mem_of_getElem? (i := 32) rfl
theorem gf_X10_63 (hC : CX p s m meth c y0 b0 mL0 rt0 args) (hy0 : y0.cls = RX10) (hK : KK G s) (hP : va_P G.1 vwCl ws H) (q0 : Nat) {fs : List Value} {v : Value} (he : ws[q0]? = some (a, .inr (0, fs))) (hv : fs[10]? = some v) (hdg : decode b0 pc = .ok (.getfield 63, 3)) (kk : W p l e R s m args below meth c H locs cells slots Q (F0 m (pc + 3) ls (v :: rest))) : W p l e R s m args below meth c H locs cells slots Q (F0 m pc ls (.ref a :: rest)) := by
  obtain ⟨hx, hb, hr, hml, hB, hown, hlocks, hnm⟩ := hC
  rw [hy0] at hown
  exact va_getN (ci := 0) (C := RX0) (T := TX0) (N := 14) hx hb hB in_X0 hown hK.1 hP q0 he rfl 10 (by decide) (va_Nw.use rfl (hK.2.1 _ nm_32)) (fun _ h => h) hv hdg kk
theorem gX10_store_1 : (decode cX10_store 18 = .ok (.invokevirtual 66, 3)) ∧ (decode cX10_store 21 = .ok (.aload_n 1, 1)) ∧ (decode cX10_store 22 = .ok (.getfield 54, 3)) ∧ (decode cX10_store 25 = .ok (.iload_n 2, 1)) ∧ (decode cX10_store 26 = .ok (.iconst 1, 1)) ∧ (decode cX10_store 27 = .ok (.aload_n 1, 1)) ∧ (decode cX10_store 28 = .ok (.getfield 70, 3)) ∧ (decode cX10_store 31 = .ok (.invokevirtual 71, 3)) ∧ (decode cX10_store 34 = .ok (.invokevirtual 66, 3)) ∧ (decode cX10_store 37 = .ok (.aload_n 1, 1)) := by decide +kernel
theorem nm_16 : Cond.fieldLinkNest RX10 70 RX0 "lines" "LInquiryBench$Table;" RX11 ∈ NestW := List.mem_of_getElem? (i := 16) rfl
theorem gf_X10_70 (hC : CX p s m meth c y0 b0 mL0 rt0 args) (hy0 : y0.cls = RX10) (hK : KK G s) (hP : va_P G.1 vwCl ws H) (q0 : Nat) {fs : List Value} {v : Value} (he : ws[q0]? = some (a, .inr (0, fs))) (hv : fs[4]? = some v) (hdg : decode b0 pc = .ok (.getfield 70, 3)) (kk : W p l e R s m args below meth c H locs cells slots Q (F0 m (pc + 3) ls (v :: rest))) : W p l e R s m args below meth c H locs cells slots Q (F0 m pc ls (.ref a :: rest)) := by
  obtain ⟨hx, hb, hr, hml, hB, hown, hlocks, hnm⟩ := hC
  rw [hy0] at hown
  exact va_getN (ci := 0) (C := RX0) (T := TX0) (N := 14) hx hb hB in_X0 hown hK.1 hP q0 he rfl 4 (by decide) (va_Nw.use rfl (hK.2.1 _ nm_16)) (fun _ h => h) hv hdg kk
theorem gX10_store_2 : (decode cX10_store 38 = .ok (.getfield 54, 3)) ∧ (decode cX10_store 41 = .ok (.iload_n 2, 1)) ∧ (decode cX10_store 42 = .ok (.iconst 2, 1)) ∧ (decode cX10_store 43 = .ok (.aload_n 0, 1)) ∧ (decode cX10_store 44 = .ok (.getfield 20, 3)) ∧ (decode cX10_store 47 = .ok (.invokevirtual 71, 3)) ∧ (decode cX10_store 50 = .ok (.invokevirtual 66, 3)) ∧ (decode cX10_store 53 = .ok (.aload_n 1, 1)) ∧ (decode cX10_store 54 = .ok (.getfield 73, 3)) ∧ (decode cX10_store 57 = .ok (.invokevirtual 71, 3)) := by decide +kernel
theorem nm_19 : Cond.fieldLinkNest RX10 73 RX0 "steps" "LInquiryBench$Table;" RX11 ∈ NestW := List.mem_of_getElem? (i := 19) rfl
theorem gf_X10_73 (hC : CX p s m meth c y0 b0 mL0 rt0 args) (hy0 : y0.cls = RX10) (hK : KK G s) (hP : va_P G.1 vwCl ws H) (q0 : Nat) {fs : List Value} {v : Value} (he : ws[q0]? = some (a, .inr (0, fs))) (hv : fs[5]? = some v) (hdg : decode b0 pc = .ok (.getfield 73, 3)) (kk : W p l e R s m args below meth c H locs cells slots Q (F0 m (pc + 3) ls (v :: rest))) : W p l e R s m args below meth c H locs cells slots Q (F0 m pc ls (.ref a :: rest)) := by
  obtain ⟨hx, hb, hr, hml, hB, hown, hlocks, hnm⟩ := hC
  rw [hy0] at hown
  exact va_getN (ci := 0) (C := RX0) (T := TX0) (N := 14) hx hb hB in_X0 hown hK.1 hP q0 he rfl 5 (by decide) (va_Nw.use rfl (hK.2.1 _ nm_19)) (fun _ h => h) hv hdg kk
theorem gX10_store_3 : (decode cX10_store 60 = .ok (.istore_n 3, 1)) ∧ (decode cX10_store 61 = .ok (.iconst 0, 1)) ∧ (decode cX10_store 62 = .ok (.istore 4, 2)) ∧ (decode cX10_store 64 = .ok (.iload 4, 2)) ∧ (decode cX10_store 66 = .ok (.aload_n 0, 1)) ∧ (decode cX10_store 67 = .ok (.getfield 20, 3)) ∧ (decode cX10_store 70 = .ok (.invokevirtual 71, 3)) ∧ (decode cX10_store 73 = .ok (.if_icmp .ge 78, 3)) ∧ (decode cX10_store 76 = .ok (.aload_n 1, 1)) ∧ (decode cX10_store 77 = .ok (.getfield 70, 3)) := by decide +kernel
theorem gX10_store_7 : (decode cX10_store 142 = .ok (.invokevirtual 66, 3)) ∧ (decode cX10_store 145 = .ok (.iinc 4 1, 3)) ∧ (decode cX10_store 148 = .ok (.goto (-84), 3)) ∧ (decode cX10_store 151 = .ok (.iconst 0, 1)) ∧ (decode cX10_store 152 = .ok (.istore 4, 2)) ∧ (decode cX10_store 154 = .ok (.iload 4, 2)) ∧ (decode cX10_store 156 = .ok (.aload_n 0, 1)) ∧ (decode cX10_store 157 = .ok (.getfield 24, 3)) ∧ (decode cX10_store 160 = .ok (.invokevirtual 71, 3)) ∧ (decode cX10_store 163 = .ok (.if_icmp .ge 34, 3)) := by decide +kernel
theorem gX10_store_9 : (decode cX10_store 185 = .ok (.invokevirtual 74, 3)) ∧ (decode cX10_store 188 = .ok (.invokevirtual 66, 3)) ∧ (decode cX10_store 191 = .ok (.iinc 4 1, 3)) ∧ (decode cX10_store 194 = .ok (.goto (-40), 3)) ∧ (decode cX10_store 197 = .ok (.iload_n 2, 1)) ∧ (decode cX10_store 198 = .ok (.ireturn, 1)) := by decide +kernel
theorem gX10_store_8 : (decode cX10_store 166 = .ok (.aload_n 1, 1)) ∧ (decode cX10_store 167 = .ok (.getfield 73, 3)) ∧ (decode cX10_store 170 = .ok (.aload_n 1, 1)) ∧ (decode cX10_store 171 = .ok (.getfield 73, 3)) ∧ (decode cX10_store 174 = .ok (.invokevirtual 59, 3)) ∧ (decode cX10_store 177 = .ok (.iconst 0, 1)) ∧ (decode cX10_store 178 = .ok (.aload_n 0, 1)) ∧ (decode cX10_store 179 = .ok (.getfield 24, 3)) ∧ (decode cX10_store 182 = .ok (.iload 4, 2)) ∧ (decode cX10_store 184 = .ok (.iconst 0, 1)) := by decide +kernel
theorem gX10_store_4 : (decode cX10_store 80 = .ok (.invokevirtual 59, 3)) ∧ (decode cX10_store 83 = .ok (.istore 5, 2)) ∧ (decode cX10_store 85 = .ok (.iconst 0, 1)) ∧ (decode cX10_store 86 = .ok (.istore 6, 2)) ∧ (decode cX10_store 88 = .ok (.iload 6, 2)) ∧ (decode cX10_store 90 = .ok (.bipush 6, 2)) ∧ (decode cX10_store 92 = .ok (.if_icmp .gt 31, 3)) ∧ (decode cX10_store 95 = .ok (.aload_n 1, 1)) ∧ (decode cX10_store 96 = .ok (.getfield 70, 3)) ∧ (decode cX10_store 99 = .ok (.iload 5, 2)) := by decide +kernel
theorem gX10_store_5 : (decode cX10_store 101 = .ok (.iload 6, 2)) ∧ (decode cX10_store 103 = .ok (.aload_n 0, 1)) ∧ (decode cX10_store 104 = .ok (.getfield 20, 3)) ∧ (decode cX10_store 107 = .ok (.iload 4, 2)) ∧ (decode cX10_store 109 = .ok (.iload 6, 2)) ∧ (decode cX10_store 111 = .ok (.invokevirtual 74, 3)) ∧ (decode cX10_store 114 = .ok (.invokevirtual 66, 3)) ∧ (decode cX10_store 117 = .ok (.iinc 6 1, 3)) ∧ (decode cX10_store 120 = .ok (.goto (-32), 3)) ∧ (decode cX10_store 123 = .ok (.aload_n 1, 1)) := by decide +kernel
theorem gX10_store_6 : (decode cX10_store 124 = .ok (.getfield 70, 3)) ∧ (decode cX10_store 127 = .ok (.iload 5, 2)) ∧ (decode cX10_store 129 = .ok (.iconst 5, 1)) ∧ (decode cX10_store 130 = .ok (.aload_n 0, 1)) ∧ (decode cX10_store 131 = .ok (.getfield 20, 3)) ∧ (decode cX10_store 134 = .ok (.iload 4, 2)) ∧ (decode cX10_store 136 = .ok (.iconst 5, 1)) ∧ (decode cX10_store 137 = .ok (.invokevirtual 74, 3)) ∧ (decode cX10_store 140 = .ok (.iload_n 3, 1)) ∧ (decode cX10_store 141 = .ok (.iadd, 1)) := by decide +kernel
theorem gX11_read_0 : (decode cX11_read 0 = .ok (.aload_n 0, 1)) ∧ (decode cX11_read 1 = .ok (.getfield 58, 3)) ∧ (decode cX11_read 4 = .ok (.invokevirtual 227, 3)) ∧ (decode cX11_read 7 = .ok (.istore_n 1, 1)) ∧ (decode cX11_read 8 = .ok (.aload_n 0, 1)) ∧ (decode cX11_read 9 = .ok (.getfield 58, 3)) ∧ (decode cX11_read 12 = .ok (.invokevirtual 230, 3)) ∧ (decode cX11_read 15 = .ok (.iload_n 1, 1)) ∧ (decode cX11_read 16 = .ok (.ifCond .lt 8, 3)) ∧ (decode cX11_read 19 = .ok (.bipush (-100), 2)) := by decide +kernel
theorem m_619 : Cond.code yX10_scan cX10_scan 2 (some .int) ∈ BW := iB_BW33 _ (List.mem_of_getElem? (i := 19) rfl)
theorem m_616 : Cond.methodLink RX11 227 yX10_scan ∈ BW := iB_BW33 _ (List.mem_of_getElem? (i := 16) rfl)
theorem m_617 : Cond.instanceMethod yX10_scan ∈ BW := iB_BW33 _ (List.mem_of_getElem? (i := 17) rfl)
theorem m_618 : Cond.selects RX10 yX10_scan yX10_scan ∈ BW := iB_BW33 _ (List.mem_of_getElem? (i := 18) rfl)
theorem si_X11_227 : SV RX11 RX10 227 yX10_scan cX10_scan 2 (some .int) 0 := ⟨⟨m_616, m_617, m_618, m_111, m_619⟩, rfl, nK_RX10.1, nK_RX10.2, pd_1⟩
theorem m_734 : Cond.code yX10_clear cX10_clear 1 none ∈ BW := iB_BW39 _ (List.mem_of_getElem? (i := 14) rfl)
theorem m_731 : Cond.methodLink RX11 230 yX10_clear ∈ BW := iB_BW39 _ (List.mem_of_getElem? (i := 11) rfl)
theorem m_732 : Cond.instanceMethod yX10_clear ∈ BW := iB_BW39 _ (List.mem_of_getElem? (i := 12) rfl)
theorem m_733 : Cond.selects RX10 yX10_clear yX10_clear ∈ BW := iB_BW39 _ (List.mem_of_getElem? (i := 13) rfl)
theorem si_X11_230 : SV RX11 RX10 230 yX10_clear cX10_clear 1 none 0 := ⟨⟨m_731, m_732, m_733, m_111, m_734⟩, rfl, nK_RX10.1, nK_RX10.2, pd_9⟩
theorem gX11_read_1 : (decode cX11_read 21 = .ok (.iload_n 1, 1)) ∧ (decode cX11_read 22 = .ok (.isub, 1)) ∧ (decode cX11_read 23 = .ok (.ireturn, 1)) ∧ (decode cX11_read 24 = .ok (.aload_n 0, 1)) ∧ (decode cX11_read 25 = .ok (.getfield 15, 3)) ∧ (decode cX11_read 28 = .ok (.getfield 233, 3)) ∧ (decode cX11_read 31 = .ok (.invokevirtual 111, 3)) ∧ (decode cX11_read 34 = .ok (.ifCond .eq 6, 3)) ∧ (decode cX11_read 37 = .ok (.bipush (-2), 2)) ∧ (decode cX11_read 39 = .ok (.ireturn, 1)) := by decide +kernel
theorem gX11_read_2 : (decode cX11_read 40 = .ok (.aload_n 0, 1)) ∧ (decode cX11_read 41 = .ok (.getfield 58, 3)) ∧ (decode cX11_read 44 = .ok (.aload_n 0, 1)) ∧ (decode cX11_read 45 = .ok (.getfield 15, 3)) ∧ (decode cX11_read 48 = .ok (.invokevirtual 236, 3)) ∧ (decode cX11_read 51 = .ok (.ireturn, 1)) := by decide +kernel
theorem m_738 : Cond.code yX10_store cX10_store 7 (some .int) ∈ BW := iB_BW39 _ (List.mem_of_getElem? (i := 18) rfl)
theorem pd_27 : (parseMethodDescriptor "(LInquiryBench$Book;)I").map (fun d => d.parameters.length) = some 1 := by decide +kernel
theorem m_735 : Cond.methodLink RX11 236 yX10_store ∈ BW := iB_BW39 _ (List.mem_of_getElem? (i := 15) rfl)
theorem m_736 : Cond.instanceMethod yX10_store ∈ BW := iB_BW39 _ (List.mem_of_getElem? (i := 16) rfl)
theorem m_737 : Cond.selects RX10 yX10_store yX10_store ∈ BW := iB_BW39 _ (List.mem_of_getElem? (i := 17) rfl)
theorem si_X11_236 : SV RX11 RX10 236 yX10_store cX10_store 7 (some .int) 1 := ⟨⟨m_735, m_736, m_737, m_111, m_738⟩, rfl, nK_RX10.1, nK_RX10.2, pd_27⟩
end WR
theorem rm_8_4_5 {mc ms : Nat} : 4 + 1 ≤ (RM 8 mc ms).frames ∧ 8 + (5 + 11) + 40 * 4 ≤ (RM 8 mc ms).locals := ⟨by show 4 + 1 ≤ 8; decide, by show 8 + (5 + 11) + 40 * 4 ≤ 40 * 8; decide⟩
theorem rm_8_7_2 {mc ms : Nat} : 7 + 1 ≤ (RM 8 mc ms).frames ∧ 8 + (2 + 11) + 40 * 7 ≤ (RM 8 mc ms).locals := ⟨by show 7 + 1 ≤ 8; decide, by show 8 + (2 + 11) + 40 * 7 ≤ 40 * 8; decide⟩
theorem rm_30_1_1 {mc ms : Nat} : 1 + 1 ≤ (RM 30 mc ms).frames ∧ 8 + (1 + 11) + 40 * 1 ≤ (RM 30 mc ms).locals := ⟨by show 1 + 1 ≤ 30; decide, by show 8 + (1 + 11) + 40 * 1 ≤ 40 * 30; decide⟩
theorem rm_30_1_4 {mc ms : Nat} : 1 + 1 ≤ (RM 30 mc ms).frames ∧ 8 + (4 + 11) + 40 * 1 ≤ (RM 30 mc ms).locals := ⟨by show 1 + 1 ≤ 30; decide, by show 8 + (4 + 11) + 40 * 1 ≤ 40 * 30; decide⟩
theorem rm_30_7_1 {mc ms : Nat} : 7 + 1 ≤ (RM 30 mc ms).frames ∧ 8 + (1 + 11) + 40 * 7 ≤ (RM 30 mc ms).locals := ⟨by show 7 + 1 ≤ 30; decide, by show 8 + (1 + 11) + 40 * 7 ≤ 40 * 30; decide⟩
theorem rm_30_3_1 {mc ms : Nat} : 3 + 1 ≤ (RM 30 mc ms).frames ∧ 8 + (1 + 11) + 40 * 3 ≤ (RM 30 mc ms).locals := ⟨by show 3 + 1 ≤ 30; decide, by show 8 + (1 + 11) + 40 * 3 ≤ 40 * 30; decide⟩
theorem sm_2_3_4_5 {a0 a1 a2 a3 a4 a5 : Nat × va_E} {l : va_W} : ([2, 3, 4, 5] : List Nat).map (fun i => (a0 :: a1 :: a2 :: a3 :: a4 :: a5 :: l : va_W)[i]?) = ([a2, a3, a4, a5] : va_W).map some := rfl
theorem nd_2_3_4_5 : va_nd [2, 3, 4, 5] = true := by decide
theorem dj_0_1__2_3_4_5 : ∀ i ∈ ([2, 3, 4, 5] : List Nat), i ∉ ([0, 1] : List Nat) := by decide
theorem rm_30_8_3 {mc ms : Nat} : 8 + 1 ≤ (RM 30 mc ms).frames ∧ 8 + (3 + 11) + 40 * 8 ≤ (RM 30 mc ms).locals := ⟨by show 8 + 1 ≤ 30; decide, by show 8 + (3 + 11) + 40 * 8 ≤ 40 * 30; decide⟩
theorem rm_30_4_2 {mc ms : Nat} : 4 + 1 ≤ (RM 30 mc ms).frames ∧ 8 + (2 + 11) + 40 * 4 ≤ (RM 30 mc ms).locals := ⟨by show 4 + 1 ≤ 30; decide, by show 8 + (2 + 11) + 40 * 4 ≤ 40 * 30; decide⟩
theorem sm_0_1_4_5 {a0 a1 a2 a3 a4 a5 : Nat × va_E} {l : va_W} : ([0, 1, 4, 5] : List Nat).map (fun i => (a0 :: a1 :: a2 :: a3 :: a4 :: a5 :: l : va_W)[i]?) = ([a0, a1, a4, a5] : va_W).map some := rfl
theorem nd_0_1_4_5 : va_nd [0, 1, 4, 5] = true := by decide
theorem dj_2_3__0_1_4_5 : ∀ i ∈ ([0, 1, 4, 5] : List Nat), i ∉ ([2, 3] : List Nat) := by decide
theorem rm_30_6_3 {mc ms : Nat} : 6 + 1 ≤ (RM 30 mc ms).frames ∧ 8 + (3 + 11) + 40 * 6 ≤ (RM 30 mc ms).locals := ⟨by show 6 + 1 ≤ 30; decide, by show 8 + (3 + 11) + 40 * 6 ≤ 40 * 30; decide⟩
theorem dj_2_3_0_1__4_5 : ∀ i ∈ ([4, 5] : List Nat), i ∉ ([2, 3, 0, 1] : List Nat) := by decide
theorem rm_30_1_3 {mc ms : Nat} : 1 + 1 ≤ (RM 30 mc ms).frames ∧ 8 + (3 + 11) + 40 * 1 ≤ (RM 30 mc ms).locals := ⟨by show 1 + 1 ≤ 30; decide, by show 8 + (3 + 11) + 40 * 1 ≤ 40 * 30; decide⟩
theorem sm_1_2_3_4_5 {a0 a1 a2 a3 a4 a5 : Nat × va_E} {l : va_W} : ([1, 2, 3, 4, 5] : List Nat).map (fun i => (a0 :: a1 :: a2 :: a3 :: a4 :: a5 :: l : va_W)[i]?) = ([a1, a2, a3, a4, a5] : va_W).map some := rfl
theorem nd_1_2_3_4_5 : va_nd [1, 2, 3, 4, 5] = true := by decide
theorem dj_0__1_2_3_4_5 : ∀ i ∈ ([1, 2, 3, 4, 5] : List Nat), i ∉ ([0] : List Nat) := by decide
theorem rm_31_1_2 {mc ms : Nat} : 1 + 1 ≤ (RM 31 mc ms).frames ∧ 8 + (2 + 11) + 40 * 1 ≤ (RM 31 mc ms).locals := ⟨by show 1 + 1 ≤ 31; decide, by show 8 + (2 + 11) + 40 * 1 ≤ 40 * 31; decide⟩
theorem sm_0_1_2_4_5 {a0 a1 a2 a3 a4 a5 : Nat × va_E} {l : va_W} : ([0, 1, 2, 4, 5] : List Nat).map (fun i => (a0 :: a1 :: a2 :: a3 :: a4 :: a5 :: l : va_W)[i]?) = ([a0, a1, a2, a4, a5] : va_W).map some := rfl
theorem nd_0_1_2_4_5 : va_nd [0, 1, 2, 4, 5] = true := by decide
theorem dj_3__0_1_2_4_5 : ∀ i ∈ ([0, 1, 2, 4, 5] : List Nat), i ∉ ([3] : List Nat) := by decide
theorem rm_31_3_1 {mc ms : Nat} : 3 + 1 ≤ (RM 31 mc ms).frames ∧ 8 + (1 + 11) + 40 * 3 ≤ (RM 31 mc ms).locals := ⟨by show 3 + 1 ≤ 31; decide, by show 8 + (1 + 11) + 40 * 3 ≤ 40 * 31; decide⟩
theorem rm_31_30_3 {mc ms : Nat} : 30 + 1 ≤ (RM 31 mc ms).frames ∧ 8 + (3 + 11) + 40 * 30 ≤ (RM 31 mc ms).locals := ⟨by show 30 + 1 ≤ 31; decide, by show 8 + (3 + 11) + 40 * 30 ≤ 40 * 31; decide⟩
theorem sm_4_5_2_0_3_1 {a0 a1 a2 a3 a4 a5 : Nat × va_E} {l : va_W} : ([4, 5, 2, 0, 3, 1] : List Nat).map (fun i => (a0 :: a1 :: a2 :: a3 :: a4 :: a5 :: l : va_W)[i]?) = ([a4, a5, a2, a0, a3, a1] : va_W).map some := rfl
theorem fm_4_5_2_0_3_1 {a0 a1 a2 a3 a4 a5 : Nat × va_E} {l : va_W} : ([4, 5, 2, 0, 3, 1] : List Nat).filterMap (fun i => (a0 :: a1 :: a2 :: a3 :: a4 :: a5 :: l : va_W)[i]?) = ([a4, a5, a2, a0, a3, a1] : va_W) := rfl
theorem nd_4_5_2_0_3_1 : va_nd [4, 5, 2, 0, 3, 1] = true := by decide
theorem fm_3_5_2_4_0_1 {a0 a1 a2 a3 a4 a5 : Nat × va_E} {l : va_W} : ([3, 5, 2, 4, 0, 1] : List Nat).filterMap (fun i => (a0 :: a1 :: a2 :: a3 :: a4 :: a5 :: l : va_W)[i]?) = ([a3, a5, a2, a4, a0, a1] : va_W) := rfl
theorem nd_3_5_2_4_0_1 : va_nd [3, 5, 2, 4, 0, 1] = true := by decide
theorem sm_3_5_2_4_0_1 {a0 a1 a2 a3 a4 a5 : Nat × va_E} {l : va_W} : ([3, 5, 2, 4, 0, 1] : List Nat).map (fun i => (a0 :: a1 :: a2 :: a3 :: a4 :: a5 :: l : va_W)[i]?) = ([a3, a5, a2, a4, a0, a1] : va_W).map some := rfl
theorem sm_0_1_2_3_4_5_7_8_9_10_11 {a0 a1 a2 a3 a4 a5 a6 a7 a8 a9 a10 a11 : Nat × va_E} {l : va_W} : ([0, 1, 2, 3, 4, 5, 7, 8, 9, 10, 11] : List Nat).map (fun i => (a0 :: a1 :: a2 :: a3 :: a4 :: a5 :: a6 :: a7 :: a8 :: a9 :: a10 :: a11 :: l : va_W)[i]?) = ([a0, a1, a2, a3, a4, a5, a7, a8, a9, a10, a11] : va_W).map some := rfl
theorem nd_0_1_2_3_4_5_7_8_9_10_11 : va_nd [0, 1, 2, 3, 4, 5, 7, 8, 9, 10, 11] = true := by decide
theorem dj_6__0_1_2_3_4_5_7_8_9_10_11 : ∀ i ∈ ([0, 1, 2, 3, 4, 5, 7, 8, 9, 10, 11] : List Nat), i ∉ ([6] : List Nat) := by decide
theorem sm_11_6 {a0 a1 a2 a3 a4 a5 a6 a7 a8 a9 a10 a11 : Nat × va_E} {l : va_W} : ([11, 6] : List Nat).map (fun i => (a0 :: a1 :: a2 :: a3 :: a4 :: a5 :: a6 :: a7 :: a8 :: a9 :: a10 :: a11 :: l : va_W)[i]?) = ([a11, a6] : va_W).map some := rfl
theorem fm_11_6 {a0 a1 a2 a3 a4 a5 a6 a7 a8 a9 a10 a11 : Nat × va_E} {l : va_W} : ([11, 6] : List Nat).filterMap (fun i => (a0 :: a1 :: a2 :: a3 :: a4 :: a5 :: a6 :: a7 :: a8 :: a9 :: a10 :: a11 :: l : va_W)[i]?) = ([a11, a6] : va_W) := rfl
theorem nd_11_6 : va_nd [11, 6] = true := by decide
theorem sm_0_1_2_3_4_5_7_8_9_10 {a0 a1 a2 a3 a4 a5 a6 a7 a8 a9 a10 : Nat × va_E} {l : va_W} : ([0, 1, 2, 3, 4, 5, 7, 8, 9, 10] : List Nat).map (fun i => (a0 :: a1 :: a2 :: a3 :: a4 :: a5 :: a6 :: a7 :: a8 :: a9 :: a10 :: l : va_W)[i]?) = ([a0, a1, a2, a3, a4, a5, a7, a8, a9, a10] : va_W).map some := rfl
theorem nd_0_1_2_3_4_5_7_8_9_10 : va_nd [0, 1, 2, 3, 4, 5, 7, 8, 9, 10] = true := by decide
theorem dj_11_6__0_1_2_3_4_5_7_8_9_10 : ∀ i ∈ ([0, 1, 2, 3, 4, 5, 7, 8, 9, 10] : List Nat), i ∉ ([11, 6] : List Nat) := by decide
theorem sm_10_11 {a0 a1 a2 a3 a4 a5 a6 a7 a8 a9 a10 a11 : Nat × va_E} {l : va_W} : ([10, 11] : List Nat).map (fun i => (a0 :: a1 :: a2 :: a3 :: a4 :: a5 :: a6 :: a7 :: a8 :: a9 :: a10 :: a11 :: l : va_W)[i]?) = ([a10, a11] : va_W).map some := rfl
theorem fm_10_11 {a0 a1 a2 a3 a4 a5 a6 a7 a8 a9 a10 a11 : Nat × va_E} {l : va_W} : ([10, 11] : List Nat).filterMap (fun i => (a0 :: a1 :: a2 :: a3 :: a4 :: a5 :: a6 :: a7 :: a8 :: a9 :: a10 :: a11 :: l : va_W)[i]?) = ([a10, a11] : va_W) := rfl
theorem nd_10_11 : va_nd [10, 11] = true := by decide
theorem sm_0_1_2_3_4_5_6_7_8_9 {a0 a1 a2 a3 a4 a5 a6 a7 a8 a9 : Nat × va_E} {l : va_W} : ([0, 1, 2, 3, 4, 5, 6, 7, 8, 9] : List Nat).map (fun i => (a0 :: a1 :: a2 :: a3 :: a4 :: a5 :: a6 :: a7 :: a8 :: a9 :: l : va_W)[i]?) = ([a0, a1, a2, a3, a4, a5, a6, a7, a8, a9] : va_W).map some := rfl
theorem nd_0_1_2_3_4_5_6_7_8_9 : va_nd [0, 1, 2, 3, 4, 5, 6, 7, 8, 9] = true := by decide
theorem dj_10_11__0_1_2_3_4_5_6_7_8_9 : ∀ i ∈ ([0, 1, 2, 3, 4, 5, 6, 7, 8, 9] : List Nat), i ∉ ([10, 11] : List Nat) := by decide
theorem sm_0_1_2_3_4_5_6_7_9_10_11 {a0 a1 a2 a3 a4 a5 a6 a7 a8 a9 a10 a11 : Nat × va_E} {l : va_W} : ([0, 1, 2, 3, 4, 5, 6, 7, 9, 10, 11] : List Nat).map (fun i => (a0 :: a1 :: a2 :: a3 :: a4 :: a5 :: a6 :: a7 :: a8 :: a9 :: a10 :: a11 :: l : va_W)[i]?) = ([a0, a1, a2, a3, a4, a5, a6, a7, a9, a10, a11] : va_W).map some := rfl
theorem nd_0_1_2_3_4_5_6_7_9_10_11 : va_nd [0, 1, 2, 3, 4, 5, 6, 7, 9, 10, 11] = true := by decide
theorem dj_8__0_1_2_3_4_5_6_7_9_10_11 : ∀ i ∈ ([0, 1, 2, 3, 4, 5, 6, 7, 9, 10, 11] : List Nat), i ∉ ([8] : List Nat) := by decide
theorem sm_11_8 {a0 a1 a2 a3 a4 a5 a6 a7 a8 a9 a10 a11 : Nat × va_E} {l : va_W} : ([11, 8] : List Nat).map (fun i => (a0 :: a1 :: a2 :: a3 :: a4 :: a5 :: a6 :: a7 :: a8 :: a9 :: a10 :: a11 :: l : va_W)[i]?) = ([a11, a8] : va_W).map some := rfl
theorem fm_11_8 {a0 a1 a2 a3 a4 a5 a6 a7 a8 a9 a10 a11 : Nat × va_E} {l : va_W} : ([11, 8] : List Nat).filterMap (fun i => (a0 :: a1 :: a2 :: a3 :: a4 :: a5 :: a6 :: a7 :: a8 :: a9 :: a10 :: a11 :: l : va_W)[i]?) = ([a11, a8] : va_W) := rfl
theorem nd_11_8 : va_nd [11, 8] = true := by decide
theorem sm_0_1_2_3_4_5_6_7_9_10 {a0 a1 a2 a3 a4 a5 a6 a7 a8 a9 a10 : Nat × va_E} {l : va_W} : ([0, 1, 2, 3, 4, 5, 6, 7, 9, 10] : List Nat).map (fun i => (a0 :: a1 :: a2 :: a3 :: a4 :: a5 :: a6 :: a7 :: a8 :: a9 :: a10 :: l : va_W)[i]?) = ([a0, a1, a2, a3, a4, a5, a6, a7, a9, a10] : va_W).map some := rfl
theorem nd_0_1_2_3_4_5_6_7_9_10 : va_nd [0, 1, 2, 3, 4, 5, 6, 7, 9, 10] = true := by decide
theorem dj_11_8__0_1_2_3_4_5_6_7_9_10 : ∀ i ∈ ([0, 1, 2, 3, 4, 5, 6, 7, 9, 10] : List Nat), i ∉ ([11, 8] : List Nat) := by decide
theorem fm_0_1_2_3_4_5_10_11_6_7_8_9 {a0 a1 a2 a3 a4 a5 a6 a7 a8 a9 a10 a11 : Nat × va_E} {l : va_W} : ([0, 1, 2, 3, 4, 5, 10, 11, 6, 7, 8, 9] : List Nat).filterMap (fun i => (a0 :: a1 :: a2 :: a3 :: a4 :: a5 :: a6 :: a7 :: a8 :: a9 :: a10 :: a11 :: l : va_W)[i]?) = ([a0, a1, a2, a3, a4, a5, a10, a11, a6, a7, a8, a9] : va_W) := rfl
theorem nd_0_1_2_3_4_5_10_11_6_7_8_9 : va_nd [0, 1, 2, 3, 4, 5, 10, 11, 6, 7, 8, 9] = true := by decide
theorem sm_0_1_2_3_4_5_10_11_6_7_8_9 {a0 a1 a2 a3 a4 a5 a6 a7 a8 a9 a10 a11 : Nat × va_E} {l : va_W} : ([0, 1, 2, 3, 4, 5, 10, 11, 6, 7, 8, 9] : List Nat).map (fun i => (a0 :: a1 :: a2 :: a3 :: a4 :: a5 :: a6 :: a7 :: a8 :: a9 :: a10 :: a11 :: l : va_W)[i]?) = ([a0, a1, a2, a3, a4, a5, a10, a11, a6, a7, a8, a9] : va_W).map some := rfl
theorem rm_33_31_2 {mc ms : Nat} : 31 + 1 ≤ (RM 33 mc ms).frames ∧ 8 + (2 + 11) + 40 * 31 ≤ (RM 33 mc ms).locals := ⟨by show 31 + 1 ≤ 33; decide, by show 8 + (2 + 11) + 40 * 31 ≤ 40 * 33; decide⟩
theorem sm_1_2_3_4_5_6 {a0 a1 a2 a3 a4 a5 a6 : Nat × va_E} {l : va_W} : ([1, 2, 3, 4, 5, 6] : List Nat).map (fun i => (a0 :: a1 :: a2 :: a3 :: a4 :: a5 :: a6 :: l : va_W)[i]?) = ([a1, a2, a3, a4, a5, a6] : va_W).map some := rfl
theorem fm_1_2_3_4_5_6 {a0 a1 a2 a3 a4 a5 a6 : Nat × va_E} {l : va_W} : ([1, 2, 3, 4, 5, 6] : List Nat).filterMap (fun i => (a0 :: a1 :: a2 :: a3 :: a4 :: a5 :: a6 :: l : va_W)[i]?) = ([a1, a2, a3, a4, a5, a6] : va_W) := rfl
theorem nd_1_2_3_4_5_6 : va_nd [1, 2, 3, 4, 5, 6] = true := by decide
theorem sm_0_7_8_9_10_11_12_13 {a0 a1 a2 a3 a4 a5 a6 a7 a8 a9 a10 a11 a12 a13 : Nat × va_E} {l : va_W} : ([0, 7, 8, 9, 10, 11, 12, 13] : List Nat).map (fun i => (a0 :: a1 :: a2 :: a3 :: a4 :: a5 :: a6 :: a7 :: a8 :: a9 :: a10 :: a11 :: a12 :: a13 :: l : va_W)[i]?) = ([a0, a7, a8, a9, a10, a11, a12, a13] : va_W).map some := rfl
theorem nd_0_7_8_9_10_11_12_13 : va_nd [0, 7, 8, 9, 10, 11, 12, 13] = true := by decide
theorem dj_1_2_3_4_5_6__0_7_8_9_10_11_12_13 : ∀ i ∈ ([0, 7, 8, 9, 10, 11, 12, 13] : List Nat), i ∉ ([1, 2, 3, 4, 5, 6] : List Nat) := by decide
theorem rm_33_1_1 {mc ms : Nat} : 1 + 1 ≤ (RM 33 mc ms).frames ∧ 8 + (1 + 11) + 40 * 1 ≤ (RM 33 mc ms).locals := ⟨by show 1 + 1 ≤ 33; decide, by show 8 + (1 + 11) + 40 * 1 ≤ 40 * 33; decide⟩
theorem sm_0_1_2_3_4_5_6_7_9_10_11_12_13 {a0 a1 a2 a3 a4 a5 a6 a7 a8 a9 a10 a11 a12 a13 : Nat × va_E} {l : va_W} : ([0, 1, 2, 3, 4, 5, 6, 7, 9, 10, 11, 12, 13] : List Nat).map (fun i => (a0 :: a1 :: a2 :: a3 :: a4 :: a5 :: a6 :: a7 :: a8 :: a9 :: a10 :: a11 :: a12 :: a13 :: l : va_W)[i]?) = ([a0, a1, a2, a3, a4, a5, a6, a7, a9, a10, a11, a12, a13] : va_W).map some := rfl
theorem nd_0_1_2_3_4_5_6_7_9_10_11_12_13 : va_nd [0, 1, 2, 3, 4, 5, 6, 7, 9, 10, 11, 12, 13] = true := by decide
theorem dj_8__0_1_2_3_4_5_6_7_9_10_11_12_13 : ∀ i ∈ ([0, 1, 2, 3, 4, 5, 6, 7, 9, 10, 11, 12, 13] : List Nat), i ∉ ([8] : List Nat) := by decide
theorem rm_33_3_7 {mc ms : Nat} : 3 + 1 ≤ (RM 33 mc ms).frames ∧ 8 + (7 + 11) + 40 * 3 ≤ (RM 33 mc ms).locals := ⟨by show 3 + 1 ≤ 33; decide, by show 8 + (7 + 11) + 40 * 3 ≤ 40 * 33; decide⟩
theorem sm_13_9_10_11_12_1_2_3_4_5_6_7 {a0 a1 a2 a3 a4 a5 a6 a7 a8 a9 a10 a11 a12 a13 : Nat × va_E} {l : va_W} : ([13, 9, 10, 11, 12, 1, 2, 3, 4, 5, 6, 7] : List Nat).map (fun i => (a0 :: a1 :: a2 :: a3 :: a4 :: a5 :: a6 :: a7 :: a8 :: a9 :: a10 :: a11 :: a12 :: a13 :: l : va_W)[i]?) = ([a13, a9, a10, a11, a12, a1, a2, a3, a4, a5, a6, a7] : va_W).map some := rfl
theorem fm_13_9_10_11_12_1_2_3_4_5_6_7 {a0 a1 a2 a3 a4 a5 a6 a7 a8 a9 a10 a11 a12 a13 : Nat × va_E} {l : va_W} : ([13, 9, 10, 11, 12, 1, 2, 3, 4, 5, 6, 7] : List Nat).filterMap (fun i => (a0 :: a1 :: a2 :: a3 :: a4 :: a5 :: a6 :: a7 :: a8 :: a9 :: a10 :: a11 :: a12 :: a13 :: l : va_W)[i]?) = ([a13, a9, a10, a11, a12, a1, a2, a3, a4, a5, a6, a7] : va_W) := rfl
theorem nd_13_9_10_11_12_1_2_3_4_5_6_7 : va_nd [13, 9, 10, 11, 12, 1, 2, 3, 4, 5, 6, 7] = true := by decide
theorem sm_0_8 {a0 a1 a2 a3 a4 a5 a6 a7 a8 : Nat × va_E} {l : va_W} : ([0, 8] : List Nat).map (fun i => (a0 :: a1 :: a2 :: a3 :: a4 :: a5 :: a6 :: a7 :: a8 :: l : va_W)[i]?) = ([a0, a8] : va_W).map some := rfl
theorem nd_0_8 : va_nd [0, 8] = true := by decide
theorem dj_13_9_10_11_12_1_2_3_4_5_6_7__0_8 : ∀ i ∈ ([0, 8] : List Nat), i ∉ ([13, 9, 10, 11, 12, 1, 2, 3, 4, 5, 6, 7] : List Nat) := by decide
def K_t_takesHead (l : Launch) (G : GG) (K : OO) (h0 : Nat) (li : Int32) (so : Int32) (tby : Nat) (kt : Nat) (tln : Nat) (tsp : Nat) (tkd : Int32) (ks : Nat) (kn : Nat) (tf9 : Int32) (fby : Nat → Int32) (tlnc : Nat) (kln : Nat) (ftln : Nat → Int32) : Prop := MIo l G K yX10_takesHead cX10_takesHead 3 (some .boolean) 8 0 0 [.ref h0, .int li, .int so] [(h0, oX10 tby (nI kt) tln tsp tkd (nI ks) (nI kn) tf9), (tby, iA G 240 fby), (tln, oX8 9 7 tlnc (nI kln)), (tlnc, iA G 63 ftln)] (fun (r : Int32) (u : Int32 × Nat × Nat × Int32 × (Nat → Int32)) => (r = 1 ∨ r = 0) ∧ (u.2.1 ≤ 240 ∧ u.2.2.1 ≤ 240)) (fun u : Int32 × Nat × Nat × Int32 × (Nat → Int32) => [(h0, oX10 tby (nI kt) tln tsp u.1 (nI u.2.1) (nI u.2.2.1) u.2.2.2.1), (tby, iA G 240 fby), (tln, oX8 9 7 tlnc (nI kln)), (tlnc, iA G 63 u.2.2.2.2)])
set_option maxHeartbeats 4000000 in
set_option maxRecDepth 100000 in
theorem t_takesHead (l : Launch) (G : GG) (K : OO) (h0 : Nat) (li : Int32) (so : Int32) (tby : Nat) (kt : Nat) (tln : Nat) (tsp : Nat) (tkd : Int32) (ks : Nat) (kn : Nat) (tf9 : Int32) (fby : Nat → Int32) (tlnc : Nat) (kln : Nat) (ftln : Nat → Int32) (hkt : kt ≤ 240) (hks : ks ≤ 240) (hkn : kn ≤ 240) (hkln : kln ≤ 9) : K_t_takesHead l G K h0 li so tby kt tln tsp tkd ks kn tf9 fby tlnc kln ftln := by
  refine MIo.start (by decide +kernel) (Nat.le_of_ble_eq_true rfl) ?_
  intro p e s m below meth c A ls hC hK hP hD hS hA hl hO
  refine absQ (fun Q0 hQ0 => ?_)
  have hl : lv_has ls 3 [(0, .ref h0), (1, .int li), (2, .int so)] := hl
  refine Kan8 hC (fun hx hb hr hml hB hown hlocks hnm => ?_)
  refine lv_iload_n hx hb gX10_takesHead_0.1 rfl (lv_at2 hl) ?_
  by_cases c_1_3158 : so = 0
  · refine lv_tableIn (tgt := 28) hx hb gX10_takesHead_0.2.1 (by rw [c_1_3158]; decide) (by rw [c_1_3158]; decide) (by rw [c_1_3158]; rfl) (by decide) ?_
    refine lv_aload_n hx hb gX10_takesHead_0.2.2.1 rfl (lv_at0 hl) ?_
    refine lv_iload_n hx hb gX10_takesHead_0.2.2.2.1 rfl (lv_at1 hl) ?_
    refine lv_iconst (v := 1) hx hb gX10_takesHead_0.2.2.2.2.1 (by decide) ?_
    refine lv_bipush (v := 99) hx hb gX10_takesHead_0.2.2.2.2.2.1 (by decide) ?_
    refine iV (wr := []) hC hK hl hP hD hS hA (t_takesNumber l G h0 li 1 99 tby kt tln tsp tkd ks kn tf9 fby tlnc kln ftln (hkt) (hks) (hkn) (hkln)) si_X10_135 [0, 1, 2, 3] [] sm_0_1_2_3 fm_0_1_2_3 nd_0_1_2_3 rfl rfl (by decide) rfl rfl rfl rfl rfl (Nat.le_of_ble_eq_true rfl) rm_8_4_5 ⟨Nat.le_of_ble_eq_true rfl, Nat.le_of_ble_eq_true rfl⟩ gX10_takesHead_0.2.2.2.2.2.2.1 (fun r3159 => Ktu5 fun kd13161 ks13162 kn13163 tf13164 gtln3165 => ?_)
    intro H locs hr3159 hP hD hS
    try dsimp only at hr3159
    refine Kpdr (ws := [(h0, oX10 tby (nI kt) tln tsp kd13161 (nI ks13162) (nI kn13163) tf13164), (tby, iA G 240 fby), (tln, oX8 9 7 tlnc (nI kln)), (tlnc, iA G 63 gtln3165)]) hP hD (fun hP hD => ?_)
    obtain ⟨hr3159, w3166⟩ := hr3159
    rcases hr3159 with rfl | rfl
    · refine lv_if_eq (tgt := 83) hx hb gX10_takesHead_0.2.2.2.2.2.2.2.1 (by decide) (fun c9 => absurd c9 (by decide)) (fun _ => ?_)
      refine lv_aload_n hx hb gX10_takesHead_0.2.2.2.2.2.2.2.2.1 rfl (lv_at0 hl) ?_
      refine va_ldcS (index := 138) (tx := "of") hx hb hown (hO.2.1 5 (by decide)) gX10_takesHead_0.2.2.2.2.2.2.2.2.2 ?_
      refine iVo (wr := [(tln, oX8 9 7 tlnc (nI kln)), (tlnc, iA G 63 gtln3165)]) hO hC hK hl hP hD hS hA (t_takesName l G K 5 h0 tby kt tln tsp kd13161 ks13162 kn13163 tf13164 fby (hkt) (by omega) (by omega) ((by decide))) si_X10_140 [0, 1] [2, 3] sm_0_1 fm_0_1 nd_0_1 sm_2_3 nd_2_3 dj_0_1__2_3 rfl rfl rfl rfl rfl (Nat.le_of_ble_eq_true rfl) rm_8_7_2 ⟨Nat.le_of_ble_eq_true rfl, Nat.le_of_ble_eq_true rfl⟩ gX10_takesHead_1.1 (fun r3168 => Ktu4 fun kd13170 ks13171 kn13172 tf13173 => ?_)
      intro H locs hr3168 hP hD hS
      try dsimp only at hr3168
      refine Kpdr (ws := [(tln, oX8 9 7 tlnc (nI kln)), (tlnc, iA G 63 gtln3165), (h0, oX10 tby (nI kt) tln tsp kd13170 (nI ks13171) (nI kn13172) tf13173), (tby, iA G 240 fby)]) hP hD (fun hP hD => ?_)
      obtain ⟨hr3168, w3174⟩ := hr3168
      rcases hr3168 with rfl | rfl
      · refine lv_if_eq (tgt := 83) hx hb gX10_takesHead_1.2.1 (by decide) (fun c9 => absurd c9 (by decide)) (fun _ => ?_)
        refine lv_aload_n hx hb gX10_takesHead_1.2.2.1 rfl (lv_at0 hl) ?_
        refine lv_iload_n hx hb gX10_takesHead_1.2.2.2.1 rfl (lv_at1 hl) ?_
        refine lv_iconst (v := 2) hx hb gX10_takesHead_1.2.2.2.2.1 (by decide) ?_
        refine lv_bipush (v := 7) hx hb gX10_takesHead_1.2.2.2.2.2.1 (by decide) ?_
        refine iV (wr := []) hC hK hl hP hD hS hA (t_takesNumber l G h0 li 2 7 tby kt tln tsp kd13170 ks13171 kn13172 tf13173 fby tlnc kln gtln3165 (hkt) (by omega) (by omega) (hkln)) si_X10_135 [2, 3, 0, 1] [] sm_2_3_0_1 fm_2_3_0_1 nd_2_3_0_1 rfl rfl (by decide) rfl rfl rfl rfl rfl (Nat.le_of_ble_eq_true rfl) rm_8_4_5 ⟨Nat.le_of_ble_eq_true rfl, Nat.le_of_ble_eq_true rfl⟩ gX10_takesHead_1.2.2.2.2.2.2.1 (fun r3176 => Ktu5 fun kd13178 ks13179 kn13180 tf13181 gtln3182 => ?_)
        intro H locs hr3176 hP hD hS
        try dsimp only at hr3176
        refine Kpdr (ws := [(h0, oX10 tby (nI kt) tln tsp kd13178 (nI ks13179) (nI kn13180) tf13181), (tby, iA G 240 fby), (tln, oX8 9 7 tlnc (nI kln)), (tlnc, iA G 63 gtln3182)]) hP hD (fun hP hD => ?_)
        obtain ⟨hr3176, w3183⟩ := hr3176
        rcases hr3176 with rfl | rfl
        · refine lv_if_eq (tgt := 83) hx hb gX10_takesHead_1.2.2.2.2.2.2.2.1 (by decide) (fun c9 => absurd c9 (by decide)) (fun _ => ?_)
          refine lv_aload_n hx hb gX10_takesHead_1.2.2.2.2.2.2.2.2.1 rfl (lv_at0 hl) ?_
          refine va_ldcS (index := 143) (tx := "from") hx hb hown (hO.2.1 6 (by decide)) gX10_takesHead_1.2.2.2.2.2.2.2.2.2 ?_
          refine iVo (wr := [(tln, oX8 9 7 tlnc (nI kln)), (tlnc, iA G 63 gtln3182)]) hO hC hK hl hP hD hS hA (t_takesName l G K 6 h0 tby kt tln tsp kd13178 ks13179 kn13180 tf13181 fby (hkt) (by omega) (by omega) ((by decide))) si_X10_140 [0, 1] [2, 3] sm_0_1 fm_0_1 nd_0_1 sm_2_3 nd_2_3 dj_0_1__2_3 rfl rfl rfl rfl rfl (Nat.le_of_ble_eq_true rfl) rm_8_7_2 ⟨Nat.le_of_ble_eq_true rfl, Nat.le_of_ble_eq_true rfl⟩ gX10_takesHead_2.1 (fun r3185 => Ktu4 fun kd13187 ks13188 kn13189 tf13190 => ?_)
          intro H locs hr3185 hP hD hS
          try dsimp only at hr3185
          refine Kpdr (ws := [(tln, oX8 9 7 tlnc (nI kln)), (tlnc, iA G 63 gtln3182), (h0, oX10 tby (nI kt) tln tsp kd13187 (nI ks13188) (nI kn13189) tf13190), (tby, iA G 240 fby)]) hP hD (fun hP hD => ?_)
          obtain ⟨hr3185, w3191⟩ := hr3185
          rcases hr3185 with rfl | rfl
          · refine lv_if_eq (tgt := 83) hx hb gX10_takesHead_2.2.1 (by decide) (fun c9 => absurd c9 (by decide)) (fun _ => ?_)
            refine lv_aload_n hx hb gX10_takesHead_2.2.2.1 rfl (lv_at0 hl) ?_
            refine lv_iload_n hx hb gX10_takesHead_2.2.2.2.1 rfl (lv_at1 hl) ?_
            refine lv_iconst (v := 3) hx hb gX10_takesHead_2.2.2.2.2.1 (by decide) ?_
            refine lv_bipush (v := 7) hx hb gX10_takesHead_2.2.2.2.2.2.1 (by decide) ?_
            refine iV (wr := []) hC hK hl hP hD hS hA (t_takesNumber l G h0 li 3 7 tby kt tln tsp kd13187 ks13188 kn13189 tf13190 fby tlnc kln gtln3182 (hkt) (by omega) (by omega) (hkln)) si_X10_135 [2, 3, 0, 1] [] sm_2_3_0_1 fm_2_3_0_1 nd_2_3_0_1 rfl rfl (by decide) rfl rfl rfl rfl rfl (Nat.le_of_ble_eq_true rfl) rm_8_4_5 ⟨Nat.le_of_ble_eq_true rfl, Nat.le_of_ble_eq_true rfl⟩ gX10_takesHead_2.2.2.2.2.2.2.1 (fun r3193 => Ktu5 fun kd13195 ks13196 kn13197 tf13198 gtln3199 => ?_)
            intro H locs hr3193 hP hD hS
            try dsimp only at hr3193
            refine Kpdr (ws := [(h0, oX10 tby (nI kt) tln tsp kd13195 (nI ks13196) (nI kn13197) tf13198), (tby, iA G 240 fby), (tln, oX8 9 7 tlnc (nI kln)), (tlnc, iA G 63 gtln3199)]) hP hD (fun hP hD => ?_)
            obtain ⟨hr3193, w3200⟩ := hr3193
            rcases hr3193 with rfl | rfl
            · refine lv_if_eq (tgt := 83) hx hb gX10_takesHead_2.2.2.2.2.2.2.2.1 (by decide) (fun c9 => absurd c9 (by decide)) (fun _ => ?_)
              refine lv_iconst (v := 1) hx hb gX10_takesHead_2.2.2.2.2.2.2.2.2.1 (by decide) ?_
              refine lv_goto (tgt := 84) hx hb gX10_takesHead_2.2.2.2.2.2.2.2.2.2 (by decide) ?_
              refine toQ hQ0 ?_
              exact RI (v := 1) hC hP hD hS [0, 1, 2, 3] (kd13195, ks13196, kn13197, tf13198, gtln3199) rfl rfl (by decide) (⟨Or.inl (rfl), by dsimp only; omega⟩) (by decide +kernel) gX10_takesHead_3.2.1
            · refine lv_if_eq (tgt := 83) hx hb gX10_takesHead_2.2.2.2.2.2.2.2.1 (by decide) (fun _ => ?_) (fun c9 => absurd (by decide) c9)
              refine lv_iconst (v := 0) hx hb gX10_takesHead_3.1 (by decide) ?_
              refine toQ hQ0 ?_
              exact RI (v := 0) hC hP hD hS [0, 1, 2, 3] (kd13195, ks13196, kn13197, tf13198, gtln3199) rfl rfl (by decide) (⟨Or.inr (rfl), by dsimp only; omega⟩) (by decide +kernel) gX10_takesHead_3.2.1
          · refine lv_if_eq (tgt := 83) hx hb gX10_takesHead_2.2.1 (by decide) (fun _ => ?_) (fun c9 => absurd (by decide) c9)
            refine lv_iconst (v := 0) hx hb gX10_takesHead_3.1 (by decide) ?_
            refine toQ hQ0 ?_
            exact RI (v := 0) hC hP hD hS [2, 3, 0, 1] (kd13187, ks13188, kn13189, tf13190, gtln3182) rfl rfl (by decide) (⟨Or.inr (rfl), by dsimp only; omega⟩) (by decide +kernel) gX10_takesHead_3.2.1
        · refine lv_if_eq (tgt := 83) hx hb gX10_takesHead_1.2.2.2.2.2.2.2.1 (by decide) (fun _ => ?_) (fun c9 => absurd (by decide) c9)
          refine lv_iconst (v := 0) hx hb gX10_takesHead_3.1 (by decide) ?_
          refine toQ hQ0 ?_
          exact RI (v := 0) hC hP hD hS [0, 1, 2, 3] (kd13178, ks13179, kn13180, tf13181, gtln3182) rfl rfl (by decide) (⟨Or.inr (rfl), by dsimp only; omega⟩) (by decide +kernel) gX10_takesHead_3.2.1
      · refine lv_if_eq (tgt := 83) hx hb gX10_takesHead_1.2.1 (by decide) (fun _ => ?_) (fun c9 => absurd (by decide) c9)
        refine lv_iconst (v := 0) hx hb gX10_takesHead_3.1 (by decide) ?_
        refine toQ hQ0 ?_
        exact RI (v := 0) hC hP hD hS [2, 3, 0, 1] (kd13170, ks13171, kn13172, tf13173, gtln3165) rfl rfl (by decide) (⟨Or.inr (rfl), by dsimp only; omega⟩) (by decide +kernel) gX10_takesHead_3.2.1
    · refine lv_if_eq (tgt := 83) hx hb gX10_takesHead_0.2.2.2.2.2.2.2.1 (by decide) (fun _ => ?_) (fun c9 => absurd (by decide) c9)
      refine lv_iconst (v := 0) hx hb gX10_takesHead_3.1 (by decide) ?_
      refine toQ hQ0 ?_
      exact RI (v := 0) hC hP hD hS [0, 1, 2, 3] (kd13161, ks13162, kn13163, tf13164, gtln3165) rfl rfl (by decide) (⟨Or.inr (rfl), by dsimp only; omega⟩) (by decide +kernel) gX10_takesHead_3.2.1
  by_cases c_1_3202 : so = 1
  · refine lv_tableIn (tgt := 85) hx hb gX10_takesHead_0.2.1 (by rw [c_1_3202]; decide) (by rw [c_1_3202]; decide) (by rw [c_1_3202]; rfl) (by decide) ?_
    refine lv_aload_n hx hb gX10_takesHead_3.2.2.1 rfl (lv_at0 hl) ?_
    refine lv_iload_n hx hb gX10_takesHead_3.2.2.2.1 rfl (lv_at1 hl) ?_
    refine lv_iconst (v := 1) hx hb gX10_takesHead_3.2.2.2.2.1 (by decide) ?_
    refine lv_bipush (v := 99) hx hb gX10_takesHead_3.2.2.2.2.2.1 (by decide) ?_
    refine iV (wr := []) hC hK hl hP hD hS hA (t_takesNumber l G h0 li 1 99 tby kt tln tsp tkd ks kn tf9 fby tlnc kln ftln (hkt) (hks) (hkn) (hkln)) si_X10_135 [0, 1, 2, 3] [] sm_0_1_2_3 fm_0_1_2_3 nd_0_1_2_3 rfl rfl (by decide) rfl rfl rfl rfl rfl (Nat.le_of_ble_eq_true rfl) rm_8_4_5 ⟨Nat.le_of_ble_eq_true rfl, Nat.le_of_ble_eq_true rfl⟩ gX10_takesHead_3.2.2.2.2.2.2.1 (fun r3203 => Ktu5 fun kd13205 ks13206 kn13207 tf13208 gtln3209 => ?_)
    intro H locs hr3203 hP hD hS
    try dsimp only at hr3203
    refine Kpdr (ws := [(h0, oX10 tby (nI kt) tln tsp kd13205 (nI ks13206) (nI kn13207) tf13208), (tby, iA G 240 fby), (tln, oX8 9 7 tlnc (nI kln)), (tlnc, iA G 63 gtln3209)]) hP hD (fun hP hD => ?_)
    obtain ⟨hr3203, w3210⟩ := hr3203
    rcases hr3203 with rfl | rfl
    · refine toQ hQ0 ?_
      exact RI (v := 1) hC hP hD hS [0, 1, 2, 3] (kd13205, ks13206, kn13207, tf13208, gtln3209) rfl rfl (by decide) (⟨Or.inl (rfl), by dsimp only; omega⟩) (by decide +kernel) gX10_takesHead_3.2.2.2.2.2.2.2.1
    · refine toQ hQ0 ?_
      exact RI (v := 0) hC hP hD hS [0, 1, 2, 3] (kd13205, ks13206, kn13207, tf13208, gtln3209) rfl rfl (by decide) (⟨Or.inr (rfl), by dsimp only; omega⟩) (by decide +kernel) gX10_takesHead_3.2.2.2.2.2.2.2.1
  by_cases c_1_3212 : so = 2
  · refine lv_tableIn (tgt := 94) hx hb gX10_takesHead_0.2.1 (by rw [c_1_3212]; decide) (by rw [c_1_3212]; decide) (by rw [c_1_3212]; rfl) (by decide) ?_
    refine lv_aload_n hx hb gX10_takesHead_3.2.2.2.2.2.2.2.2.1 rfl (lv_at0 hl) ?_
    refine lv_iload_n hx hb gX10_takesHead_3.2.2.2.2.2.2.2.2.2 rfl (lv_at1 hl) ?_
    refine lv_iconst (v := 1) hx hb gX10_takesHead_4.1 (by decide) ?_
    refine lv_bipush (v := 7) hx hb gX10_takesHead_4.2.1 (by decide) ?_
    refine iV (wr := []) hC hK hl hP hD hS hA (t_takesNumber l G h0 li 1 7 tby kt tln tsp tkd ks kn tf9 fby tlnc kln ftln (hkt) (hks) (hkn) (hkln)) si_X10_135 [0, 1, 2, 3] [] sm_0_1_2_3 fm_0_1_2_3 nd_0_1_2_3 rfl rfl (by decide) rfl rfl rfl rfl rfl (Nat.le_of_ble_eq_true rfl) rm_8_4_5 ⟨Nat.le_of_ble_eq_true rfl, Nat.le_of_ble_eq_true rfl⟩ gX10_takesHead_4.2.2.1 (fun r3213 => Ktu5 fun kd13215 ks13216 kn13217 tf13218 gtln3219 => ?_)
    intro H locs hr3213 hP hD hS
    try dsimp only at hr3213
    refine Kpdr (ws := [(h0, oX10 tby (nI kt) tln tsp kd13215 (nI ks13216) (nI kn13217) tf13218), (tby, iA G 240 fby), (tln, oX8 9 7 tlnc (nI kln)), (tlnc, iA G 63 gtln3219)]) hP hD (fun hP hD => ?_)
    obtain ⟨hr3213, w3220⟩ := hr3213
    rcases hr3213 with rfl | rfl
    · refine lv_if_eq (tgt := 130) hx hb gX10_takesHead_4.2.2.2.1 (by decide) (fun c9 => absurd c9 (by decide)) (fun _ => ?_)
      refine lv_aload_n hx hb gX10_takesHead_4.2.2.2.2.1 rfl (lv_at0 hl) ?_
      refine va_ldcS (index := 145) (tx := "by") hx hb hown (hO.2.1 7 (by decide)) gX10_takesHead_4.2.2.2.2.2.1 ?_
      refine iVo (wr := [(tln, oX8 9 7 tlnc (nI kln)), (tlnc, iA G 63 gtln3219)]) hO hC hK hl hP hD hS hA (t_takesName l G K 7 h0 tby kt tln tsp kd13215 ks13216 kn13217 tf13218 fby (hkt) (by omega) (by omega) ((by decide))) si_X10_140 [0, 1] [2, 3] sm_0_1 fm_0_1 nd_0_1 sm_2_3 nd_2_3 dj_0_1__2_3 rfl rfl rfl rfl rfl (Nat.le_of_ble_eq_true rfl) rm_8_7_2 ⟨Nat.le_of_ble_eq_true rfl, Nat.le_of_ble_eq_true rfl⟩ gX10_takesHead_4.2.2.2.2.2.2.1 (fun r3222 => Ktu4 fun kd13224 ks13225 kn13226 tf13227 => ?_)
      intro H locs hr3222 hP hD hS
      try dsimp only at hr3222
      refine Kpdr (ws := [(tln, oX8 9 7 tlnc (nI kln)), (tlnc, iA G 63 gtln3219), (h0, oX10 tby (nI kt) tln tsp kd13224 (nI ks13225) (nI kn13226) tf13227), (tby, iA G 240 fby)]) hP hD (fun hP hD => ?_)
      obtain ⟨hr3222, w3228⟩ := hr3222
      rcases hr3222 with rfl | rfl
      · refine lv_if_eq (tgt := 130) hx hb gX10_takesHead_4.2.2.2.2.2.2.2.1 (by decide) (fun c9 => absurd c9 (by decide)) (fun _ => ?_)
        refine lv_aload_n hx hb gX10_takesHead_4.2.2.2.2.2.2.2.2.1 rfl (lv_at0 hl) ?_
        refine lv_iload_n hx hb gX10_takesHead_4.2.2.2.2.2.2.2.2.2 rfl (lv_at1 hl) ?_
        refine lv_iconst (v := 2) hx hb gX10_takesHead_5.1 (by decide) ?_
        refine lv_sipush (v := 999) hx hb gX10_takesHead_5.2.1 (by decide) ?_
        refine iV (wr := []) hC hK hl hP hD hS hA (t_takesNumber l G h0 li 2 999 tby kt tln tsp kd13224 ks13225 kn13226 tf13227 fby tlnc kln gtln3219 (hkt) (by omega) (by omega) (hkln)) si_X10_135 [2, 3, 0, 1] [] sm_2_3_0_1 fm_2_3_0_1 nd_2_3_0_1 rfl rfl (by decide) rfl rfl rfl rfl rfl (Nat.le_of_ble_eq_true rfl) rm_8_4_5 ⟨Nat.le_of_ble_eq_true rfl, Nat.le_of_ble_eq_true rfl⟩ gX10_takesHead_5.2.2.1 (fun r3230 => Ktu5 fun kd13232 ks13233 kn13234 tf13235 gtln3236 => ?_)
        intro H locs hr3230 hP hD hS
        try dsimp only at hr3230
        refine Kpdr (ws := [(h0, oX10 tby (nI kt) tln tsp kd13232 (nI ks13233) (nI kn13234) tf13235), (tby, iA G 240 fby), (tln, oX8 9 7 tlnc (nI kln)), (tlnc, iA G 63 gtln3236)]) hP hD (fun hP hD => ?_)
        obtain ⟨hr3230, w3237⟩ := hr3230
        rcases hr3230 with rfl | rfl
        · refine lv_if_eq (tgt := 130) hx hb gX10_takesHead_5.2.2.2.1 (by decide) (fun c9 => absurd c9 (by decide)) (fun _ => ?_)
          refine lv_iconst (v := 1) hx hb gX10_takesHead_5.2.2.2.2.1 (by decide) ?_
          refine lv_goto (tgt := 131) hx hb gX10_takesHead_5.2.2.2.2.2.1 (by decide) ?_
          refine toQ hQ0 ?_
          exact RI (v := 1) hC hP hD hS [0, 1, 2, 3] (kd13232, ks13233, kn13234, tf13235, gtln3236) rfl rfl (by decide) (⟨Or.inl (rfl), by dsimp only; omega⟩) (by decide +kernel) gX10_takesHead_5.2.2.2.2.2.2.2.1
        · refine lv_if_eq (tgt := 130) hx hb gX10_takesHead_5.2.2.2.1 (by decide) (fun _ => ?_) (fun c9 => absurd (by decide) c9)
          refine lv_iconst (v := 0) hx hb gX10_takesHead_5.2.2.2.2.2.2.1 (by decide) ?_
          refine toQ hQ0 ?_
          exact RI (v := 0) hC hP hD hS [0, 1, 2, 3] (kd13232, ks13233, kn13234, tf13235, gtln3236) rfl rfl (by decide) (⟨Or.inr (rfl), by dsimp only; omega⟩) (by decide +kernel) gX10_takesHead_5.2.2.2.2.2.2.2.1
      · refine lv_if_eq (tgt := 130) hx hb gX10_takesHead_4.2.2.2.2.2.2.2.1 (by decide) (fun _ => ?_) (fun c9 => absurd (by decide) c9)
        refine lv_iconst (v := 0) hx hb gX10_takesHead_5.2.2.2.2.2.2.1 (by decide) ?_
        refine toQ hQ0 ?_
        exact RI (v := 0) hC hP hD hS [2, 3, 0, 1] (kd13224, ks13225, kn13226, tf13227, gtln3219) rfl rfl (by decide) (⟨Or.inr (rfl), by dsimp only; omega⟩) (by decide +kernel) gX10_takesHead_5.2.2.2.2.2.2.2.1
    · refine lv_if_eq (tgt := 130) hx hb gX10_takesHead_4.2.2.2.1 (by decide) (fun _ => ?_) (fun c9 => absurd (by decide) c9)
      refine lv_iconst (v := 0) hx hb gX10_takesHead_5.2.2.2.2.2.2.1 (by decide) ?_
      refine toQ hQ0 ?_
      exact RI (v := 0) hC hP hD hS [0, 1, 2, 3] (kd13215, ks13216, kn13217, tf13218, gtln3219) rfl rfl (by decide) (⟨Or.inr (rfl), by dsimp only; omega⟩) (by decide +kernel) gX10_takesHead_5.2.2.2.2.2.2.2.1
  refine lv_tableOut (tgt := 132) hx hb gX10_takesHead_0.2.1 (by have q9 := sw_0_2 (x := so); simp only [c_1_3158, c_1_3202, c_1_3212, not_false_eq_true, true_implies] at q9; exact q9) (by decide) ?_
  refine lv_aload_n hx hb gX10_takesHead_5.2.2.2.2.2.2.2.2.1 rfl (lv_at0 hl) ?_
  refine lv_iload_n hx hb gX10_takesHead_5.2.2.2.2.2.2.2.2.2 rfl (lv_at1 hl) ?_
  refine lv_iconst (v := 1) hx hb gX10_takesHead_6.1 (by decide) ?_
  refine lv_bipush (v := 9) hx hb gX10_takesHead_6.2.1 (by decide) ?_
  refine iV (wr := []) hC hK hl hP hD hS hA (t_takesNumber l G h0 li 1 9 tby kt tln tsp tkd ks kn tf9 fby tlnc kln ftln (hkt) (hks) (hkn) (hkln)) si_X10_135 [0, 1, 2, 3] [] sm_0_1_2_3 fm_0_1_2_3 nd_0_1_2_3 rfl rfl (by decide) rfl rfl rfl rfl rfl (Nat.le_of_ble_eq_true rfl) rm_8_4_5 ⟨Nat.le_of_ble_eq_true rfl, Nat.le_of_ble_eq_true rfl⟩ gX10_takesHead_6.2.2.1 (fun r3239 => Ktu5 fun kd13241 ks13242 kn13243 tf13244 gtln3245 => ?_)
  intro H locs hr3239 hP hD hS
  try dsimp only at hr3239
  refine Kpdr (ws := [(h0, oX10 tby (nI kt) tln tsp kd13241 (nI ks13242) (nI kn13243) tf13244), (tby, iA G 240 fby), (tln, oX8 9 7 tlnc (nI kln)), (tlnc, iA G 63 gtln3245)]) hP hD (fun hP hD => ?_)
  obtain ⟨hr3239, w3246⟩ := hr3239
  rcases hr3239 with rfl | rfl
  · refine toQ hQ0 ?_
    exact RI (v := 1) hC hP hD hS [0, 1, 2, 3] (kd13241, ks13242, kn13243, tf13244, gtln3245) rfl rfl (by decide) (⟨Or.inl (rfl), by dsimp only; omega⟩) (by decide +kernel) gX10_takesHead_6.2.2.2
  · refine toQ hQ0 ?_
    exact RI (v := 0) hC hP hD hS [0, 1, 2, 3] (kd13241, ks13242, kn13243, tf13244, gtln3245) rfl rfl (by decide) (⟨Or.inr (rfl), by dsimp only; omega⟩) (by decide +kernel) gX10_takesHead_6.2.2.2
def K_t_takesLine (l : Launch) (G : GG) (K : OO) (h0 : Nat) (tby : Nat) (kt : Nat) (tln : Nat) (tsp : Nat) (tkd : Int32) (ks : Nat) (kn : Nat) (tf9 : Int32) (fby : Nat → Int32) (tlnc : Nat) (kln : Nat) (ftln : Nat → Int32) (tspc : Nat) (ksp : Nat) (ftsp : Nat → Int32) : Prop := MIo l G K yX10_takesLine cX10_takesLine 3 (some .boolean) 30 0 0 [.ref h0] [(h0, oX10 tby (nI kt) tln tsp tkd (nI ks) (nI kn) tf9), (tby, iA G 240 fby), (tln, oX8 9 7 tlnc (nI kln)), (tlnc, iA G 63 ftln), (tsp, oX8 120 1 tspc (nI ksp)), (tspc, iA G 120 ftsp)] (fun (r : Int32) (u : Int32 × Nat × Nat × Int32 × Nat × (Nat → Int32) × Nat × (Nat → Int32)) => (r = 1 ∨ r = 0) ∧ (u.2.1 ≤ 240 ∧ u.2.2.1 ≤ 240 ∧ u.2.2.2.2.1 ≤ 9 ∧ u.2.2.2.2.2.2.1 ≤ 120)) (fun u : Int32 × Nat × Nat × Int32 × Nat × (Nat → Int32) × Nat × (Nat → Int32) => [(h0, oX10 tby (nI kt) tln tsp u.1 (nI u.2.1) (nI u.2.2.1) u.2.2.2.1), (tby, iA G 240 fby), (tln, oX8 9 7 tlnc (nI u.2.2.2.2.1)), (tlnc, iA G 63 u.2.2.2.2.2.1), (tsp, oX8 120 1 tspc (nI u.2.2.2.2.2.2.1)), (tspc, iA G 120 u.2.2.2.2.2.2.2)])
set_option maxHeartbeats 4000000 in
set_option maxRecDepth 100000 in
theorem t_takesLine (l : Launch) (G : GG) (K : OO) (h0 : Nat) (tby : Nat) (kt : Nat) (tln : Nat) (tsp : Nat) (tkd : Int32) (ks : Nat) (kn : Nat) (tf9 : Int32) (fby : Nat → Int32) (tlnc : Nat) (kln : Nat) (ftln : Nat → Int32) (tspc : Nat) (ksp : Nat) (ftsp : Nat → Int32) (hkt : kt ≤ 240) (hks : ks ≤ 240) (hkn : kn ≤ 240) (hkln : kln ≤ 9) (hksp : ksp ≤ 120) : K_t_takesLine l G K h0 tby kt tln tsp tkd ks kn tf9 fby tlnc kln ftln tspc ksp ftsp := by
  refine MIo.start (by decide +kernel) (Nat.le_of_ble_eq_true rfl) ?_
  intro p e s m below meth c A ls hC hK hP hD hS hA hl hO
  refine absQ (fun Q0 hQ0 => ?_)
  have hl : lv_has ls 3 [(0, .ref h0)] := hl
  refine Kan8 hC (fun hx hb hr hml hB hown hlocks hnm => ?_)
  refine lv_aload_n hx hb gX10_takesLine_0.1 rfl (lv_at0 hl) ?_
  refine gf_X10_20 hC rfl hK hP 0 rfl rfl gX10_takesLine_0.2.1 ?_
  rcases Nat.lt_or_ge kln 9 with hcap9 | hcap9
  · refine iV (wr := [(h0, oX10 tby (nI kt) tln tsp tkd (nI ks) (nI kn) tf9), (tby, iA G 240 fby), (tlnc, iA G 63 ftln), (tsp, oX8 120 1 tspc (nI ksp)), (tspc, iA G 120 ftsp)]) hC hK hl hP hD hS hA (c_T_append l G tln 9 7 tlnc kln (by omega) (by omega)) si_X10_59 [2] [0, 1, 3, 4, 5] sm_2 fm_2 nd_2 sm_0_1_3_4_5 nd_0_1_3_4_5 dj_2__0_1_3_4_5 rfl rfl rfl rfl rfl (Nat.le_of_ble_eq_true rfl) rm_30_1_1 ⟨Nat.le_of_ble_eq_true rfl, Nat.le_of_ble_eq_true rfl⟩ gX10_takesLine_0.2.2.1 (fun r3248 u3249 H locs hr3248 hP hD hS => ?_)
    refine Kpdr (ws := [(h0, oX10 tby (nI kt) tln tsp tkd (nI ks) (nI kn) tf9), (tby, iA G 240 fby), (tlnc, iA G 63 ftln), (tsp, oX8 120 1 tspc (nI ksp)), (tspc, iA G 120 ftsp), (tln, oX8 9 7 tlnc (nI (kln + 1)))]) hP hD (fun hP hD => ?_)
    obtain rfl := hr3248
    refine lv_istore_n (lv' := [(1, .int (nI kln)), (0, .ref h0)]) hx hb gX10_takesLine_0.2.2.2.1 rfl hl (by decide) rfl (fun ls hl => ?_)
    refine lv_iload_n hx hb gX10_takesLine_0.2.2.2.2.1 rfl (lv_at0 hl) ?_
    refine lv_if_ge (tgt := 17) hx hb gX10_takesLine_0.2.2.2.2.2.1 (by decide) (fun _ => ?_) (fun c9 => absurd (nI_pos' (by omega)) c9)
    refine lv_iconst (v := 1) hx hb gX10_takesLine_0.2.2.2.2.2.2.2.2.2 (by decide) ?_
    refine lv_istore_n (lv' := [(2, .int 1), (1, .int (nI kln)), (0, .ref h0)]) hx hb gX10_takesLine_1.1 rfl hl (by decide) rfl (fun ls hl => ?_)
    refine lv_iload_n hx hb gX10_takesLine_1.2.1 rfl (lv_at0 hl) ?_
    refine lv_iconst (v := 3) hx hb gX10_takesLine_1.2.2.1 (by decide) ?_
    refine lv_icmp_gt (tgt := 41) hx hb gX10_takesLine_1.2.2.2.1 (by decide) (fun c9 => absurd c9 (by decide)) (fun _ => ?_)
    refine lv_aload_n hx hb gX10_takesLine_1.2.2.2.2.1 rfl (lv_at2 hl) ?_
    refine gf_X10_20 hC rfl hK hP 0 rfl rfl gX10_takesLine_1.2.2.2.2.2.1 ?_
    refine lv_iload_n hx hb gX10_takesLine_1.2.2.2.2.2.2.1 rfl (lv_at1 hl) ?_
    refine lv_iload_n hx hb gX10_takesLine_1.2.2.2.2.2.2.2.1 rfl (lv_at0 hl) ?_
    refine lv_bipush (v := (-9)) hx hb gX10_takesLine_1.2.2.2.2.2.2.2.2.1 (by decide) ?_
    refine vV (wr := [(h0, oX10 tby (nI kt) tln tsp tkd (nI ks) (nI kn) tf9), (tby, iA G 240 fby), (tsp, oX8 120 1 tspc (nI ksp)), (tspc, iA G 120 ftsp)]) hC hK hl hP hD hS hA (c_T_set l G tln (nI kln) 1 (-9) 9 7 tlnc (kln + 1) ftln (by omega) (by omega) (by omega)) si_X10_66 [5, 2] [0, 1, 3, 4] sm_5_2 fm_5_2 nd_5_2 sm_0_1_3_4 nd_0_1_3_4 dj_5_2__0_1_3_4 rfl rfl rfl rfl rfl (Nat.le_of_ble_eq_true rfl) rm_30_1_4 ⟨Nat.le_of_ble_eq_true rfl, Nat.le_of_ble_eq_true rfl⟩ gX10_takesLine_1.2.2.2.2.2.2.2.2.2 (fun f13253 H locs hr3251 hP hD hS => ?_)
    try dsimp only at hr3251
    refine Kpdr (ws := [(h0, oX10 tby (nI kt) tln tsp tkd (nI ks) (nI kn) tf9), (tby, iA G 240 fby), (tsp, oX8 120 1 tspc (nI ksp)), (tspc, iA G 120 ftsp), (tln, oX8 9 7 tlnc (nI (kln + 1))), (tlnc, iA G 63 f13253)]) hP hD (fun hP hD => ?_)
    have w3254 := hr3251
    refine lv_iinc (v := 2) (lv' := [(2, .int 2), (1, .int (nI kln)), (0, .ref h0)]) hx hb gX10_takesLine_2.1 hl (k := 0) rfl (by decide) (by decide) rfl (fun ls hl => ?_)
    refine lv_goto (tgt := 19) hx hb gX10_takesLine_2.2.1 (by decide) ?_
    refine lv_iload_n hx hb gX10_takesLine_1.2.1 rfl (lv_at0 hl) ?_
    refine lv_iconst (v := 3) hx hb gX10_takesLine_1.2.2.1 (by decide) ?_
    refine lv_icmp_gt (tgt := 41) hx hb gX10_takesLine_1.2.2.2.1 (by decide) (fun c9 => absurd c9 (by decide)) (fun _ => ?_)
    refine lv_aload_n hx hb gX10_takesLine_1.2.2.2.2.1 rfl (lv_at2 hl) ?_
    refine gf_X10_20 hC rfl hK hP 0 rfl rfl gX10_takesLine_1.2.2.2.2.2.1 ?_
    refine lv_iload_n hx hb gX10_takesLine_1.2.2.2.2.2.2.1 rfl (lv_at1 hl) ?_
    refine lv_iload_n hx hb gX10_takesLine_1.2.2.2.2.2.2.2.1 rfl (lv_at0 hl) ?_
    refine lv_bipush (v := (-9)) hx hb gX10_takesLine_1.2.2.2.2.2.2.2.2.1 (by decide) ?_
    refine vV (wr := [(h0, oX10 tby (nI kt) tln tsp tkd (nI ks) (nI kn) tf9), (tby, iA G 240 fby), (tsp, oX8 120 1 tspc (nI ksp)), (tspc, iA G 120 ftsp)]) hC hK hl hP hD hS hA (c_T_set l G tln (nI kln) 2 (-9) 9 7 tlnc (kln + 1) f13253 (by omega) (by omega) (by omega)) si_X10_66 [4, 5] [0, 1, 2, 3] sm_4_5 fm_4_5 nd_4_5 sm_0_1_2_3 nd_0_1_2_3 dj_4_5__0_1_2_3 rfl rfl rfl rfl rfl (Nat.le_of_ble_eq_true rfl) rm_30_1_4 ⟨Nat.le_of_ble_eq_true rfl, Nat.le_of_ble_eq_true rfl⟩ gX10_takesLine_1.2.2.2.2.2.2.2.2.2 (fun f13257 H locs hr3255 hP hD hS => ?_)
    try dsimp only at hr3255
    refine Kpdr (ws := [(h0, oX10 tby (nI kt) tln tsp tkd (nI ks) (nI kn) tf9), (tby, iA G 240 fby), (tsp, oX8 120 1 tspc (nI ksp)), (tspc, iA G 120 ftsp), (tln, oX8 9 7 tlnc (nI (kln + 1))), (tlnc, iA G 63 f13257)]) hP hD (fun hP hD => ?_)
    have w3258 := hr3255
    refine lv_iinc (v := 3) (lv' := [(2, .int 3), (1, .int (nI kln)), (0, .ref h0)]) hx hb gX10_takesLine_2.1 hl (k := 0) rfl (by decide) (by decide) rfl (fun ls hl => ?_)
    refine lv_goto (tgt := 19) hx hb gX10_takesLine_2.2.1 (by decide) ?_
    refine lv_iload_n hx hb gX10_takesLine_1.2.1 rfl (lv_at0 hl) ?_
    refine lv_iconst (v := 3) hx hb gX10_takesLine_1.2.2.1 (by decide) ?_
    refine lv_icmp_gt (tgt := 41) hx hb gX10_takesLine_1.2.2.2.1 (by decide) (fun c9 => absurd c9 (by decide)) (fun _ => ?_)
    refine lv_aload_n hx hb gX10_takesLine_1.2.2.2.2.1 rfl (lv_at2 hl) ?_
    refine gf_X10_20 hC rfl hK hP 0 rfl rfl gX10_takesLine_1.2.2.2.2.2.1 ?_
    refine lv_iload_n hx hb gX10_takesLine_1.2.2.2.2.2.2.1 rfl (lv_at1 hl) ?_
    refine lv_iload_n hx hb gX10_takesLine_1.2.2.2.2.2.2.2.1 rfl (lv_at0 hl) ?_
    refine lv_bipush (v := (-9)) hx hb gX10_takesLine_1.2.2.2.2.2.2.2.2.1 (by decide) ?_
    refine vV (wr := [(h0, oX10 tby (nI kt) tln tsp tkd (nI ks) (nI kn) tf9), (tby, iA G 240 fby), (tsp, oX8 120 1 tspc (nI ksp)), (tspc, iA G 120 ftsp)]) hC hK hl hP hD hS hA (c_T_set l G tln (nI kln) 3 (-9) 9 7 tlnc (kln + 1) f13257 (by omega) (by omega) (by omega)) si_X10_66 [4, 5] [0, 1, 2, 3] sm_4_5 fm_4_5 nd_4_5 sm_0_1_2_3 nd_0_1_2_3 dj_4_5__0_1_2_3 rfl rfl rfl rfl rfl (Nat.le_of_ble_eq_true rfl) rm_30_1_4 ⟨Nat.le_of_ble_eq_true rfl, Nat.le_of_ble_eq_true rfl⟩ gX10_takesLine_1.2.2.2.2.2.2.2.2.2 (fun f13261 H locs hr3259 hP hD hS => ?_)
    try dsimp only at hr3259
    refine Kpdr (ws := [(h0, oX10 tby (nI kt) tln tsp tkd (nI ks) (nI kn) tf9), (tby, iA G 240 fby), (tsp, oX8 120 1 tspc (nI ksp)), (tspc, iA G 120 ftsp), (tln, oX8 9 7 tlnc (nI (kln + 1))), (tlnc, iA G 63 f13261)]) hP hD (fun hP hD => ?_)
    have w3262 := hr3259
    refine lv_iinc (v := 4) (lv' := [(2, .int 4), (1, .int (nI kln)), (0, .ref h0)]) hx hb gX10_takesLine_2.1 hl (k := 0) rfl (by decide) (by decide) rfl (fun ls hl => ?_)
    refine lv_goto (tgt := 19) hx hb gX10_takesLine_2.2.1 (by decide) ?_
    refine lv_iload_n hx hb gX10_takesLine_1.2.1 rfl (lv_at0 hl) ?_
    refine lv_iconst (v := 3) hx hb gX10_takesLine_1.2.2.1 (by decide) ?_
    refine lv_icmp_gt (tgt := 41) hx hb gX10_takesLine_1.2.2.2.1 (by decide) (fun _ => ?_) (fun c9 => absurd (by decide) c9)
    refine lv_aload_n hx hb gX10_takesLine_2.2.2.1 rfl (lv_at2 hl) ?_
    refine gf_X10_20 hC rfl hK hP 0 rfl rfl gX10_takesLine_2.2.2.2.1 ?_
    refine lv_iload_n hx hb gX10_takesLine_2.2.2.2.2.1 rfl (lv_at1 hl) ?_
    refine lv_iconst (v := 4) hx hb gX10_takesLine_2.2.2.2.2.2.1 (by decide) ?_
    refine lv_iconst (v := 0) hx hb gX10_takesLine_2.2.2.2.2.2.2.1 (by decide) ?_
    refine vV (wr := [(h0, oX10 tby (nI kt) tln tsp tkd (nI ks) (nI kn) tf9), (tby, iA G 240 fby), (tsp, oX8 120 1 tspc (nI ksp)), (tspc, iA G 120 ftsp)]) hC hK hl hP hD hS hA (c_T_set l G tln (nI kln) 4 0 9 7 tlnc (kln + 1) f13261 (by omega) (by omega) (by omega)) si_X10_66 [4, 5] [0, 1, 2, 3] sm_4_5 fm_4_5 nd_4_5 sm_0_1_2_3 nd_0_1_2_3 dj_4_5__0_1_2_3 rfl rfl rfl rfl rfl (Nat.le_of_ble_eq_true rfl) rm_30_1_4 ⟨Nat.le_of_ble_eq_true rfl, Nat.le_of_ble_eq_true rfl⟩ gX10_takesLine_2.2.2.2.2.2.2.2.1 (fun f13265 H locs hr3263 hP hD hS => ?_)
    try dsimp only at hr3263
    refine Kpdr (ws := [(h0, oX10 tby (nI kt) tln tsp tkd (nI ks) (nI kn) tf9), (tby, iA G 240 fby), (tsp, oX8 120 1 tspc (nI ksp)), (tspc, iA G 120 ftsp), (tln, oX8 9 7 tlnc (nI (kln + 1))), (tlnc, iA G 63 f13265)]) hP hD (fun hP hD => ?_)
    have w3266 := hr3263
    refine lv_aload_n hx hb gX10_takesLine_2.2.2.2.2.2.2.2.2.1 rfl (lv_at2 hl) ?_
    refine gf_X10_20 hC rfl hK hP 0 rfl rfl gX10_takesLine_2.2.2.2.2.2.2.2.2.2 ?_
    refine lv_iload_n hx hb gX10_takesLine_3.1 rfl (lv_at1 hl) ?_
    refine lv_iconst (v := 5) hx hb gX10_takesLine_3.2.1 (by decide) ?_
    refine lv_aload_n hx hb gX10_takesLine_3.2.2.1 rfl (lv_at2 hl) ?_
    refine gf_X10_24 hC rfl hK hP 0 rfl rfl gX10_takesLine_3.2.2.2.1 ?_
    refine pV hC hK hl hP hD (c_T_count l G tsp 120 1 tspc ksp) si_X10_71 [2] sm_2 fm_2 nd_2 rfl rfl rfl rfl rfl (Nat.le_of_ble_eq_true rfl) rm_30_1_1 ⟨by first | exact Nat.le_of_ble_eq_true rfl | exact Nat.zero_le _, by first | exact Nat.le_of_ble_eq_true rfl | exact Nat.zero_le _⟩ gX10_takesLine_3.2.2.2.2.1 (Keqr ?_)
    refine vV (wr := [(h0, oX10 tby (nI kt) tln tsp tkd (nI ks) (nI kn) tf9), (tby, iA G 240 fby), (tsp, oX8 120 1 tspc (nI ksp)), (tspc, iA G 120 ftsp)]) hC hK hl hP hD hS hA (c_T_set l G tln (nI kln) 5 (nI ksp) 9 7 tlnc (kln + 1) f13265 (by omega) (by omega) (by omega)) si_X10_66 [4, 5] [0, 1, 2, 3] sm_4_5 fm_4_5 nd_4_5 sm_0_1_2_3 nd_0_1_2_3 dj_4_5__0_1_2_3 rfl rfl rfl rfl rfl (Nat.le_of_ble_eq_true rfl) rm_30_1_4 ⟨Nat.le_of_ble_eq_true rfl, Nat.le_of_ble_eq_true rfl⟩ gX10_takesLine_3.2.2.2.2.2.1 (fun f13271 H locs hr3269 hP hD hS => ?_)
    try dsimp only at hr3269
    refine Kpdr (ws := [(h0, oX10 tby (nI kt) tln tsp tkd (nI ks) (nI kn) tf9), (tby, iA G 240 fby), (tsp, oX8 120 1 tspc (nI ksp)), (tspc, iA G 120 ftsp), (tln, oX8 9 7 tlnc (nI (kln + 1))), (tlnc, iA G 63 f13271)]) hP hD (fun hP hD => ?_)
    have w3272 := hr3269
    refine lv_aload_n hx hb gX10_takesLine_3.2.2.2.2.2.2.1 rfl (lv_at2 hl) ?_
    refine gf_X10_20 hC rfl hK hP 0 rfl rfl gX10_takesLine_3.2.2.2.2.2.2.2.1 ?_
    refine lv_iload_n hx hb gX10_takesLine_3.2.2.2.2.2.2.2.2.1 rfl (lv_at1 hl) ?_
    refine lv_bipush (v := 6) hx hb gX10_takesLine_3.2.2.2.2.2.2.2.2.2 (by decide) ?_
    refine lv_iconst (v := 0) hx hb gX10_takesLine_4.1 (by decide) ?_
    refine vV (wr := [(h0, oX10 tby (nI kt) tln tsp tkd (nI ks) (nI kn) tf9), (tby, iA G 240 fby), (tsp, oX8 120 1 tspc (nI ksp)), (tspc, iA G 120 ftsp)]) hC hK hl hP hD hS hA (c_T_set l G tln (nI kln) 6 0 9 7 tlnc (kln + 1) f13271 (by omega) (by omega) (by omega)) si_X10_66 [4, 5] [0, 1, 2, 3] sm_4_5 fm_4_5 nd_4_5 sm_0_1_2_3 nd_0_1_2_3 dj_4_5__0_1_2_3 rfl rfl rfl rfl rfl (Nat.le_of_ble_eq_true rfl) rm_30_1_4 ⟨Nat.le_of_ble_eq_true rfl, Nat.le_of_ble_eq_true rfl⟩ gX10_takesLine_4.2.1 (fun f13275 H locs hr3273 hP hD hS => ?_)
    try dsimp only at hr3273
    refine Kpdr (ws := [(h0, oX10 tby (nI kt) tln tsp tkd (nI ks) (nI kn) tf9), (tby, iA G 240 fby), (tsp, oX8 120 1 tspc (nI ksp)), (tspc, iA G 120 ftsp), (tln, oX8 9 7 tlnc (nI (kln + 1))), (tlnc, iA G 63 f13275)]) hP hD (fun hP hD => ?_)
    have w3276 := hr3273
    refine lv_aload_n hx hb gX10_takesLine_4.2.2.1 rfl (lv_at2 hl) ?_
    refine pVo hO hS hC hK hl hP hD (t_sortHere l G K h0 tby kt tln tsp tkd ks kn tf9 fby (hkt) (hks) (hkn)) si_X10_112 [0, 1] sm_0_1 fm_0_1 nd_0_1 rfl rfl rfl rfl rfl (Nat.le_of_ble_eq_true rfl) rm_30_7_1 ⟨by first | exact Nat.le_of_ble_eq_true rfl | exact Nat.zero_le _, by first | exact Nat.le_of_ble_eq_true rfl | exact Nat.zero_le _⟩ gX10_takesLine_4.2.2.2.1 (fun r3277 hr3277 => ?_)
    refine lv_istore_n (lv' := [(2, .int r3277), (1, .int (nI kln)), (0, .ref h0)]) hx hb gX10_takesLine_4.2.2.2.2.1 rfl hl (by decide) rfl (fun ls hl => ?_)
    refine lv_iload_n hx hb gX10_takesLine_4.2.2.2.2.2.1 rfl (lv_at0 hl) ?_
    refine lv_if_ge (tgt := 92) hx hb gX10_takesLine_4.2.2.2.2.2.2.1 (by decide) (fun c_84_3278 => ?_) (fun c_84_3278 => ?_)
    · refine lv_aload_n hx hb gX10_takesLine_5.1 rfl (lv_at2 hl) ?_
      refine gf_X10_20 hC rfl hK hP 0 rfl rfl gX10_takesLine_5.2.1 ?_
      refine lv_iload_n hx hb gX10_takesLine_5.2.2.1 rfl (lv_at1 hl) ?_
      refine lv_iconst (v := 0) hx hb gX10_takesLine_5.2.2.2.1 (by decide) ?_
      refine lv_iload_n hx hb gX10_takesLine_5.2.2.2.2.1 rfl (lv_at0 hl) ?_
      refine vV (wr := [(h0, oX10 tby (nI kt) tln tsp tkd (nI ks) (nI kn) tf9), (tby, iA G 240 fby), (tsp, oX8 120 1 tspc (nI ksp)), (tspc, iA G 120 ftsp)]) hC hK hl hP hD hS hA (c_T_set l G tln (nI kln) 0 r3277 9 7 tlnc (kln + 1) f13275 (by omega) (by omega) (by omega)) si_X10_66 [4, 5] [0, 1, 2, 3] sm_4_5 fm_4_5 nd_4_5 sm_0_1_2_3 nd_0_1_2_3 dj_4_5__0_1_2_3 rfl rfl rfl rfl rfl (Nat.le_of_ble_eq_true rfl) rm_30_1_4 ⟨Nat.le_of_ble_eq_true rfl, Nat.le_of_ble_eq_true rfl⟩ gX10_takesLine_5.2.2.2.2.2.1 (fun f13281 H locs hr3279 hP hD hS => ?_)
      try dsimp only at hr3279
      refine Kpdr (ws := [(h0, oX10 tby (nI kt) tln tsp tkd (nI ks) (nI kn) tf9), (tby, iA G 240 fby), (tsp, oX8 120 1 tspc (nI ksp)), (tspc, iA G 120 ftsp), (tln, oX8 9 7 tlnc (nI (kln + 1))), (tlnc, iA G 63 f13281)]) hP hD (fun hP hD => ?_)
      have w3282 := hr3279
      refine lv_aload_n hx hb gX10_takesLine_5.2.2.2.2.2.2.1 rfl (lv_at2 hl) ?_
      refine vV (wr := [(tsp, oX8 120 1 tspc (nI ksp)), (tspc, iA G 120 ftsp), (tln, oX8 9 7 tlnc (nI (kln + 1))), (tlnc, iA G 63 f13281)]) hC hK hl hP hD hS hA (t_advance l G h0 tby kt tln tsp tkd ks kn tf9 fby (hkt) (hks) (hkn)) si_X10_47 [0, 1] [2, 3, 4, 5] sm_0_1 fm_0_1 nd_0_1 sm_2_3_4_5 nd_2_3_4_5 dj_0_1__2_3_4_5 rfl rfl rfl rfl rfl (Nat.le_of_ble_eq_true rfl) rm_30_3_1 ⟨Nat.le_of_ble_eq_true rfl, Nat.le_of_ble_eq_true rfl⟩ gX10_takesLine_5.2.2.2.2.2.2.2.1 (Ktu3 fun kd13285 ks13286 kn13287 => ?_)
      intro H locs hr3283 hP hD hS
      try dsimp only at hr3283
      refine Kpdr (ws := [(tsp, oX8 120 1 tspc (nI ksp)), (tspc, iA G 120 ftsp), (tln, oX8 9 7 tlnc (nI (kln + 1))), (tlnc, iA G 63 f13281), (h0, oX10 tby (nI kt) tln tsp kd13285 (nI ks13286) (nI kn13287) tf9), (tby, iA G 240 fby)]) hP hD (fun hP hD => ?_)
      have w3288 := hr3283
      refine lv_aload_n hx hb gX10_takesLine_5.2.2.2.2.2.2.2.2.1 rfl (lv_at2 hl) ?_
      refine lv_iload_n hx hb gX10_takesLine_5.2.2.2.2.2.2.2.2.2 rfl (lv_at1 hl) ?_
      refine lv_iload_n hx hb gX10_takesLine_6.1 rfl (lv_at0 hl) ?_
      refine iVo (wr := [(tsp, oX8 120 1 tspc (nI ksp)), (tspc, iA G 120 ftsp)]) hO hC hK hl hP hD hS hA (t_takesHead l G K h0 (nI kln) r3277 tby kt tln tsp kd13285 ks13286 kn13287 tf9 fby tlnc (kln + 1) f13281 (hkt) (by omega) (by omega) (by omega)) si_X10_115 [4, 5, 2, 3] [0, 1] sm_4_5_2_3 fm_4_5_2_3 nd_4_5_2_3 sm_0_1 nd_0_1 dj_4_5_2_3__0_1 rfl rfl rfl rfl rfl (Nat.le_of_ble_eq_true rfl) rm_30_8_3 ⟨Nat.le_of_ble_eq_true rfl, Nat.le_of_ble_eq_true rfl⟩ gX10_takesLine_6.2.1 (fun r3289 => Ktu5 fun kd13291 ks13292 kn13293 tf13294 gtln3295 => ?_)
      intro H locs hr3289 hP hD hS
      try dsimp only at hr3289
      refine Kpdr (ws := [(tsp, oX8 120 1 tspc (nI ksp)), (tspc, iA G 120 ftsp), (h0, oX10 tby (nI kt) tln tsp kd13291 (nI ks13292) (nI kn13293) tf13294), (tby, iA G 240 fby), (tln, oX8 9 7 tlnc (nI (kln + 1))), (tlnc, iA G 63 gtln3295)]) hP hD (fun hP hD => ?_)
      obtain ⟨hr3289, w3296⟩ := hr3289
      rcases hr3289 with rfl | rfl
      · refine lv_if_ne (tgt := 117) hx hb gX10_takesLine_6.2.2.1 (by decide) (fun _ => ?_) (fun c9 => absurd c9 (by decide))
        refine lv_iload_n hx hb gX10_takesLine_6.2.2.2.2.2.1 rfl (lv_at0 hl) ?_
        refine lv_iconst (v := 3) hx hb gX10_takesLine_6.2.2.2.2.2.2.1 (by decide) ?_
        refine lv_icmp_eq (tgt := 182) hx hb gX10_takesLine_6.2.2.2.2.2.2.2.1 (by decide) (fun c_119_3298 => ?_) (fun c_119_3298 => ?_)
        · refine lv_aload_n hx hb gX10_takesLine_10.1 rfl (lv_at2 hl) ?_
          refine lv_bipush (v := 59) hx hb gX10_takesLine_10.2.1 (by decide) ?_
          refine iV (wr := [(tsp, oX8 120 1 tspc (nI ksp)), (tspc, iA G 120 ftsp), (tln, oX8 9 7 tlnc (nI (kln + 1))), (tlnc, iA G 63 gtln3295)]) hC hK hl hP hD hS hA (t_takesByte l G h0 59 tby kt tln tsp kd13291 ks13292 kn13293 tf13294 fby (hkt) (by omega) (by omega)) si_X10_124 [2, 3] [0, 1, 4, 5] sm_2_3 fm_2_3 nd_2_3 sm_0_1_4_5 nd_0_1_4_5 dj_2_3__0_1_4_5 rfl rfl rfl rfl rfl (Nat.le_of_ble_eq_true rfl) rm_30_4_2 ⟨Nat.le_of_ble_eq_true rfl, Nat.le_of_ble_eq_true rfl⟩ gX10_takesLine_10.2.2.1 (fun r3299 => Ktu4 fun kd13301 ks13302 kn13303 tf13304 => ?_)
          intro H locs hr3299 hP hD hS
          try dsimp only at hr3299
          refine Kpdr (ws := [(tsp, oX8 120 1 tspc (nI ksp)), (tspc, iA G 120 ftsp), (tln, oX8 9 7 tlnc (nI (kln + 1))), (tlnc, iA G 63 gtln3295), (h0, oX10 tby (nI kt) tln tsp kd13301 (nI ks13302) (nI kn13303) tf13304), (tby, iA G 240 fby)]) hP hD (fun hP hD => ?_)
          obtain ⟨hr3299, w3305⟩ := hr3299
          rcases hr3299 with rfl | rfl
          · refine toQ hQ0 ?_
            exact RI (v := 1) hC hP hD hS [4, 5, 2, 3, 0, 1] (kd13301, ks13302, kn13303, tf13304, (kln + 1), gtln3295, ksp, ftsp) rfl rfl (by decide) (⟨Or.inl (rfl), by dsimp only; omega⟩) (by decide +kernel) gX10_takesLine_10.2.2.2
          · refine toQ hQ0 ?_
            exact RI (v := 0) hC hP hD hS [4, 5, 2, 3, 0, 1] (kd13301, ks13302, kn13303, tf13304, (kln + 1), gtln3295, ksp, ftsp) rfl rfl (by decide) (⟨Or.inr (rfl), by dsimp only; omega⟩) (by decide +kernel) gX10_takesLine_10.2.2.2
        · refine lv_aload_n hx hb gX10_takesLine_6.2.2.2.2.2.2.2.2.1 rfl (lv_at2 hl) ?_
          refine va_ldcS (index := 119) (tx := "if") hx hb hown (hO.2.1 0 (by decide)) gX10_takesLine_6.2.2.2.2.2.2.2.2.2 ?_
          refine pVo hO hS hC hK hl hP hD (t_isName l G K 0 h0 tby kt tln tsp kd13291 ks13292 kn13293 tf13294 fby (hkt) (by omega) (by omega) ((by decide))) si_X10_102 [2, 3] sm_2_3 fm_2_3 nd_2_3 rfl rfl rfl rfl rfl (Nat.le_of_ble_eq_true rfl) rm_30_6_3 ⟨by first | exact Nat.le_of_ble_eq_true rfl | exact Nat.zero_le _, by first | exact Nat.le_of_ble_eq_true rfl | exact Nat.zero_le _⟩ gX10_takesLine_7.1 (Kors (Keqr ?_) (Keqr ?_))
          · refine lv_if_eq (tgt := 182) hx hb gX10_takesLine_7.2.1 (by decide) (fun c9 => absurd c9 (by decide)) (fun _ => ?_)
            refine lv_aload_n hx hb gX10_takesLine_7.2.2.1 rfl (lv_at2 hl) ?_
            refine vV (wr := [(tsp, oX8 120 1 tspc (nI ksp)), (tspc, iA G 120 ftsp), (tln, oX8 9 7 tlnc (nI (kln + 1))), (tlnc, iA G 63 gtln3295)]) hC hK hl hP hD hS hA (t_advance l G h0 tby kt tln tsp kd13291 ks13292 kn13293 tf13294 fby (hkt) (by omega) (by omega)) si_X10_47 [2, 3] [0, 1, 4, 5] sm_2_3 fm_2_3 nd_2_3 sm_0_1_4_5 nd_0_1_4_5 dj_2_3__0_1_4_5 rfl rfl rfl rfl rfl (Nat.le_of_ble_eq_true rfl) rm_30_3_1 ⟨Nat.le_of_ble_eq_true rfl, Nat.le_of_ble_eq_true rfl⟩ gX10_takesLine_7.2.2.2.1 (Ktu3 fun kd13311 ks13312 kn13313 => ?_)
            intro H locs hr3309 hP hD hS
            try dsimp only at hr3309
            refine Kpdr (ws := [(tsp, oX8 120 1 tspc (nI ksp)), (tspc, iA G 120 ftsp), (tln, oX8 9 7 tlnc (nI (kln + 1))), (tlnc, iA G 63 gtln3295), (h0, oX10 tby (nI kt) tln tsp kd13311 (nI ks13312) (nI kn13313) tf13294), (tby, iA G 240 fby)]) hP hD (fun hP hD => ?_)
            have w3314 := hr3309
            refine lv_aload_n hx hb gX10_takesLine_7.2.2.2.2.1 rfl (lv_at2 hl) ?_
            refine gf_X10_20 hC rfl hK hP 4 rfl rfl gX10_takesLine_7.2.2.2.2.2.1 ?_
            refine lv_iload_n hx hb gX10_takesLine_7.2.2.2.2.2.2.1 rfl (lv_at1 hl) ?_
            refine lv_iconst (v := 4) hx hb gX10_takesLine_7.2.2.2.2.2.2.2.1 (by decide) ?_
            refine lv_iconst (v := 1) hx hb gX10_takesLine_7.2.2.2.2.2.2.2.2.1 (by decide) ?_
            refine vV (wr := [(tsp, oX8 120 1 tspc (nI ksp)), (tspc, iA G 120 ftsp), (h0, oX10 tby (nI kt) tln tsp kd13311 (nI ks13312) (nI kn13313) tf13294), (tby, iA G 240 fby)]) hC hK hl hP hD hS hA (c_T_set l G tln (nI kln) 4 1 9 7 tlnc (kln + 1) gtln3295 (by omega) (by omega) (by omega)) si_X10_66 [2, 3] [0, 1, 4, 5] sm_2_3 fm_2_3 nd_2_3 sm_0_1_4_5 nd_0_1_4_5 dj_2_3__0_1_4_5 rfl rfl rfl rfl rfl (Nat.le_of_ble_eq_true rfl) rm_30_1_4 ⟨Nat.le_of_ble_eq_true rfl, Nat.le_of_ble_eq_true rfl⟩ gX10_takesLine_7.2.2.2.2.2.2.2.2.2 (fun f13317 H locs hr3315 hP hD hS => ?_)
            try dsimp only at hr3315
            refine Kpdr (ws := [(tsp, oX8 120 1 tspc (nI ksp)), (tspc, iA G 120 ftsp), (h0, oX10 tby (nI kt) tln tsp kd13311 (nI ks13312) (nI kn13313) tf13294), (tby, iA G 240 fby), (tln, oX8 9 7 tlnc (nI (kln + 1))), (tlnc, iA G 63 f13317)]) hP hD (fun hP hD => ?_)
            have w3318 := hr3315
            refine lv_aload_n hx hb gX10_takesLine_8.1 rfl (lv_at2 hl) ?_
            refine lv_iconst (v := 0) hx hb gX10_takesLine_8.2.1 (by decide) ?_
            refine iVo (wr := [(tln, oX8 9 7 tlnc (nI (kln + 1))), (tlnc, iA G 63 f13317)]) hO hC hK hl hP hD hS hA (t_cond l G K 4 h0 0 tby kt tln tsp kd13311 ks13312 kn13313 tf13294 fby tspc ksp ftsp (by omega) (by omega) (by omega) (by omega) (by omega)) si_X10_121 [2, 3, 0, 1] [4, 5] sm_2_3_0_1 fm_2_3_0_1 nd_2_3_0_1 sm_4_5 nd_4_5 dj_2_3_0_1__4_5 rfl rfl rfl rfl rfl (Nat.le_of_ble_eq_true rfl) ⟨Nat.le_of_ble_eq_true rfl, Nat.le_of_ble_eq_true rfl⟩ ⟨Nat.le_of_ble_eq_true rfl, Nat.le_of_ble_eq_true rfl⟩ gX10_takesLine_8.2.2.1 (fun r3319 => Ktu6 fun kd13321 ks13322 kn13323 tf13324 ksp13325 gtsp3326 => ?_)
            intro H locs hr3319 hP hD hS
            try dsimp only at hr3319
            refine Kpdr (ws := [(tln, oX8 9 7 tlnc (nI (kln + 1))), (tlnc, iA G 63 f13317), (h0, oX10 tby (nI kt) tln tsp kd13321 (nI ks13322) (nI kn13323) tf13324), (tby, iA G 240 fby), (tsp, oX8 120 1 tspc (nI ksp13325)), (tspc, iA G 120 gtsp3326)]) hP hD (fun hP hD => ?_)
            obtain ⟨hr3319, w3327⟩ := hr3319
            rcases hr3319 with rfl | rfl
            · refine lv_if_ne (tgt := 155) hx hb gX10_takesLine_8.2.2.2.1 (by decide) (fun _ => ?_) (fun c9 => absurd c9 (by decide))
              refine lv_aload_n hx hb gX10_takesLine_8.2.2.2.2.2.2.1 rfl (lv_at2 hl) ?_
              refine gf_X10_20 hC rfl hK hP 2 rfl rfl gX10_takesLine_8.2.2.2.2.2.2.2.1 ?_
              refine lv_iload_n hx hb gX10_takesLine_8.2.2.2.2.2.2.2.2.1 rfl (lv_at1 hl) ?_
              refine lv_bipush (v := 6) hx hb gX10_takesLine_8.2.2.2.2.2.2.2.2.2 (by decide) ?_
              refine lv_aload_n hx hb gX10_takesLine_9.1 rfl (lv_at2 hl) ?_
              refine gf_X10_24 hC rfl hK hP 2 rfl rfl gX10_takesLine_9.2.1 ?_
              refine pV hC hK hl hP hD (c_T_count l G tsp 120 1 tspc ksp13325) si_X10_71 [4] sm_4 fm_4 nd_4 rfl rfl rfl rfl rfl (Nat.le_of_ble_eq_true rfl) rm_30_1_1 ⟨by first | exact Nat.le_of_ble_eq_true rfl | exact Nat.zero_le _, by first | exact Nat.le_of_ble_eq_true rfl | exact Nat.zero_le _⟩ gX10_takesLine_9.2.2.1 (Keqr ?_)
              refine lv_aload_n hx hb gX10_takesLine_9.2.2.2.1 rfl (lv_at2 hl) ?_
              refine gf_X10_20 hC rfl hK hP 2 rfl rfl gX10_takesLine_9.2.2.2.2.1 ?_
              refine lv_iload_n hx hb gX10_takesLine_9.2.2.2.2.2.1 rfl (lv_at1 hl) ?_
              refine lv_iconst (v := 5) hx hb gX10_takesLine_9.2.2.2.2.2.2.1 (by decide) ?_
              refine pV hC hK hl hP hD (c_T_at l G tln (nI kln) 5 9 7 tlnc (kln + 1) f13317 (by omega) (by omega) (by omega)) si_X10_74 [0, 1] sm_0_1 fm_0_1 nd_0_1 rfl rfl rfl rfl rfl (Nat.le_of_ble_eq_true rfl) rm_30_1_3 ⟨by first | exact Nat.le_of_ble_eq_true rfl | exact Nat.zero_le _, by first | exact Nat.le_of_ble_eq_true rfl | exact Nat.zero_le _⟩ gX10_takesLine_9.2.2.2.2.2.2.2.1 (fun r3331 hr3331 => ?_)
              refine lv_isub hx hb gX10_takesLine_9.2.2.2.2.2.2.2.2.1 ?_
              refine vV (wr := [(h0, oX10 tby (nI kt) tln tsp kd13321 (nI ks13322) (nI kn13323) tf13324), (tby, iA G 240 fby), (tsp, oX8 120 1 tspc (nI ksp13325)), (tspc, iA G 120 gtsp3326)]) hC hK hl hP hD hS hA (c_T_set l G tln (nI kln) 6 ((nI ksp13325) - r3331) 9 7 tlnc (kln + 1) f13317 (by omega) (by omega) (by omega)) si_X10_66 [0, 1] [2, 3, 4, 5] sm_0_1 fm_0_1 nd_0_1 sm_2_3_4_5 nd_2_3_4_5 dj_0_1__2_3_4_5 rfl rfl rfl rfl rfl (Nat.le_of_ble_eq_true rfl) rm_30_1_4 ⟨Nat.le_of_ble_eq_true rfl, Nat.le_of_ble_eq_true rfl⟩ gX10_takesLine_9.2.2.2.2.2.2.2.2.2 (fun f13335 H locs hr3333 hP hD hS => ?_)
              try dsimp only at hr3333
              refine Kpdr (ws := [(h0, oX10 tby (nI kt) tln tsp kd13321 (nI ks13322) (nI kn13323) tf13324), (tby, iA G 240 fby), (tsp, oX8 120 1 tspc (nI ksp13325)), (tspc, iA G 120 gtsp3326), (tln, oX8 9 7 tlnc (nI (kln + 1))), (tlnc, iA G 63 f13335)]) hP hD (fun hP hD => ?_)
              have w3336 := hr3333
              refine lv_aload_n hx hb gX10_takesLine_10.1 rfl (lv_at2 hl) ?_
              refine lv_bipush (v := 59) hx hb gX10_takesLine_10.2.1 (by decide) ?_
              refine iV (wr := [(tsp, oX8 120 1 tspc (nI ksp13325)), (tspc, iA G 120 gtsp3326), (tln, oX8 9 7 tlnc (nI (kln + 1))), (tlnc, iA G 63 f13335)]) hC hK hl hP hD hS hA (t_takesByte l G h0 59 tby kt tln tsp kd13321 ks13322 kn13323 tf13324 fby (hkt) (by omega) (by omega)) si_X10_124 [0, 1] [2, 3, 4, 5] sm_0_1 fm_0_1 nd_0_1 sm_2_3_4_5 nd_2_3_4_5 dj_0_1__2_3_4_5 rfl rfl rfl rfl rfl (Nat.le_of_ble_eq_true rfl) rm_30_4_2 ⟨Nat.le_of_ble_eq_true rfl, Nat.le_of_ble_eq_true rfl⟩ gX10_takesLine_10.2.2.1 (fun r3337 => Ktu4 fun kd13339 ks13340 kn13341 tf13342 => ?_)
              intro H locs hr3337 hP hD hS
              try dsimp only at hr3337
              refine Kpdr (ws := [(tsp, oX8 120 1 tspc (nI ksp13325)), (tspc, iA G 120 gtsp3326), (tln, oX8 9 7 tlnc (nI (kln + 1))), (tlnc, iA G 63 f13335), (h0, oX10 tby (nI kt) tln tsp kd13339 (nI ks13340) (nI kn13341) tf13342), (tby, iA G 240 fby)]) hP hD (fun hP hD => ?_)
              obtain ⟨hr3337, w3343⟩ := hr3337
              rcases hr3337 with rfl | rfl
              · refine toQ hQ0 ?_
                exact RI (v := 1) hC hP hD hS [4, 5, 2, 3, 0, 1] (kd13339, ks13340, kn13341, tf13342, (kln + 1), f13335, ksp13325, gtsp3326) rfl rfl (by decide) (⟨Or.inl (rfl), by dsimp only; omega⟩) (by decide +kernel) gX10_takesLine_10.2.2.2
              · refine toQ hQ0 ?_
                exact RI (v := 0) hC hP hD hS [4, 5, 2, 3, 0, 1] (kd13339, ks13340, kn13341, tf13342, (kln + 1), f13335, ksp13325, gtsp3326) rfl rfl (by decide) (⟨Or.inr (rfl), by dsimp only; omega⟩) (by decide +kernel) gX10_takesLine_10.2.2.2
            · refine lv_if_ne (tgt := 155) hx hb gX10_takesLine_8.2.2.2.1 (by decide) (fun c9 => absurd (by decide) c9) (fun _ => ?_)
              refine lv_iconst (v := 0) hx hb gX10_takesLine_8.2.2.2.2.1 (by decide) ?_
              refine toQ hQ0 ?_
              exact RI (v := 0) hC hP hD hS [2, 3, 0, 1, 4, 5] (kd13321, ks13322, kn13323, tf13324, (kln + 1), f13317, ksp13325, gtsp3326) rfl rfl (by decide) (⟨Or.inr (rfl), by dsimp only; omega⟩) (by decide +kernel) gX10_takesLine_8.2.2.2.2.2.1
          · refine lv_if_eq (tgt := 182) hx hb gX10_takesLine_7.2.1 (by decide) (fun _ => ?_) (fun c9 => absurd (by decide) c9)
            refine lv_aload_n hx hb gX10_takesLine_10.1 rfl (lv_at2 hl) ?_
            refine lv_bipush (v := 59) hx hb gX10_takesLine_10.2.1 (by decide) ?_
            refine iV (wr := [(tsp, oX8 120 1 tspc (nI ksp)), (tspc, iA G 120 ftsp), (tln, oX8 9 7 tlnc (nI (kln + 1))), (tlnc, iA G 63 gtln3295)]) hC hK hl hP hD hS hA (t_takesByte l G h0 59 tby kt tln tsp kd13291 ks13292 kn13293 tf13294 fby (hkt) (by omega) (by omega)) si_X10_124 [2, 3] [0, 1, 4, 5] sm_2_3 fm_2_3 nd_2_3 sm_0_1_4_5 nd_0_1_4_5 dj_2_3__0_1_4_5 rfl rfl rfl rfl rfl (Nat.le_of_ble_eq_true rfl) rm_30_4_2 ⟨Nat.le_of_ble_eq_true rfl, Nat.le_of_ble_eq_true rfl⟩ gX10_takesLine_10.2.2.1 (fun r3345 => Ktu4 fun kd13347 ks13348 kn13349 tf13350 => ?_)
            intro H locs hr3345 hP hD hS
            try dsimp only at hr3345
            refine Kpdr (ws := [(tsp, oX8 120 1 tspc (nI ksp)), (tspc, iA G 120 ftsp), (tln, oX8 9 7 tlnc (nI (kln + 1))), (tlnc, iA G 63 gtln3295), (h0, oX10 tby (nI kt) tln tsp kd13347 (nI ks13348) (nI kn13349) tf13350), (tby, iA G 240 fby)]) hP hD (fun hP hD => ?_)
            obtain ⟨hr3345, w3351⟩ := hr3345
            rcases hr3345 with rfl | rfl
            · refine toQ hQ0 ?_
              exact RI (v := 1) hC hP hD hS [4, 5, 2, 3, 0, 1] (kd13347, ks13348, kn13349, tf13350, (kln + 1), gtln3295, ksp, ftsp) rfl rfl (by decide) (⟨Or.inl (rfl), by dsimp only; omega⟩) (by decide +kernel) gX10_takesLine_10.2.2.2
            · refine toQ hQ0 ?_
              exact RI (v := 0) hC hP hD hS [4, 5, 2, 3, 0, 1] (kd13347, ks13348, kn13349, tf13350, (kln + 1), gtln3295, ksp, ftsp) rfl rfl (by decide) (⟨Or.inr (rfl), by dsimp only; omega⟩) (by decide +kernel) gX10_takesLine_10.2.2.2
      · refine lv_if_ne (tgt := 117) hx hb gX10_takesLine_6.2.2.1 (by decide) (fun c9 => absurd (by decide) c9) (fun _ => ?_)
        refine lv_iconst (v := 0) hx hb gX10_takesLine_6.2.2.2.1 (by decide) ?_
        refine toQ hQ0 ?_
        exact RI (v := 0) hC hP hD hS [2, 3, 4, 5, 0, 1] (kd13291, ks13292, kn13293, tf13294, (kln + 1), gtln3295, ksp, ftsp) rfl rfl (by decide) (⟨Or.inr (rfl), by dsimp only; omega⟩) (by decide +kernel) gX10_takesLine_6.2.2.2.2.1
    · refine lv_aload_n hx hb gX10_takesLine_4.2.2.2.2.2.2.2.1 rfl (lv_at2 hl) ?_
      refine iV (wr := [(tby, iA G 240 fby), (tsp, oX8 120 1 tspc (nI ksp)), (tspc, iA G 120 ftsp), (tln, oX8 9 7 tlnc (nI (kln + 1))), (tlnc, iA G 63 f13275)]) hC hK hl hP hD hS hA (t_refuse l G h0 tby kt tln tsp tkd ks kn tf9) si_X10_106 [0] [1, 2, 3, 4, 5] sm_0 fm_0 nd_0 sm_1_2_3_4_5 nd_1_2_3_4_5 dj_0__1_2_3_4_5 rfl rfl rfl rfl rfl (Nat.le_of_ble_eq_true rfl) rm_30_1_1 ⟨Nat.le_of_ble_eq_true rfl, Nat.le_of_ble_eq_true rfl⟩ gX10_takesLine_4.2.2.2.2.2.2.2.2.1 (fun r3353 tf13355 H locs hr3353 hP hD hS => ?_)
      try dsimp only at hr3353
      refine Kpdr (ws := [(tby, iA G 240 fby), (tsp, oX8 120 1 tspc (nI ksp)), (tspc, iA G 120 ftsp), (tln, oX8 9 7 tlnc (nI (kln + 1))), (tlnc, iA G 63 f13275), (h0, oX10 tby (nI kt) tln tsp tkd (nI ks) (nI kn) tf13355)]) hP hD (fun hP hD => ?_)
      obtain rfl := hr3353
      refine toQ hQ0 ?_
      exact RI (v := 0) hC hP hD hS [5, 0, 3, 4, 1, 2] (tkd, ks, kn, tf13355, (kln + 1), f13275, ksp, ftsp) rfl rfl (by decide) (⟨Or.inr (rfl), by dsimp only; omega⟩) (by decide +kernel) gX10_takesLine_4.2.2.2.2.2.2.2.2.2
  · refine iV (wr := [(h0, oX10 tby (nI kt) tln tsp tkd (nI ks) (nI kn) tf9), (tby, iA G 240 fby), (tlnc, iA G 63 ftln), (tsp, oX8 120 1 tspc (nI ksp)), (tspc, iA G 120 ftsp)]) hC hK hl hP hD hS hA (c_T_appendF l G tln 9 7 tlnc kln (by omega) (by omega)) si_X10_59 [2] [0, 1, 3, 4, 5] sm_2 fm_2 nd_2 sm_0_1_3_4_5 nd_0_1_3_4_5 dj_2__0_1_3_4_5 rfl rfl rfl rfl rfl (Nat.le_of_ble_eq_true rfl) rm_30_1_1 ⟨Nat.le_of_ble_eq_true rfl, Nat.le_of_ble_eq_true rfl⟩ gX10_takesLine_0.2.2.1 (fun r3357 u3358 H locs hr3357 hP hD hS => ?_)
    refine Kpdr (ws := [(h0, oX10 tby (nI kt) tln tsp tkd (nI ks) (nI kn) tf9), (tby, iA G 240 fby), (tlnc, iA G 63 ftln), (tsp, oX8 120 1 tspc (nI ksp)), (tspc, iA G 120 ftsp), (tln, oX8 9 7 tlnc (nI kln))]) hP hD (fun hP hD => ?_)
    obtain rfl := hr3357
    refine lv_istore_n (lv' := [(1, .int (-2)), (0, .ref h0)]) hx hb gX10_takesLine_0.2.2.2.1 rfl hl (by decide) rfl (fun ls hl => ?_)
    refine lv_iload_n hx hb gX10_takesLine_0.2.2.2.2.1 rfl (lv_at0 hl) ?_
    refine lv_if_ge (tgt := 17) hx hb gX10_takesLine_0.2.2.2.2.2.1 (by decide) (fun c9 => absurd c9 (by decide)) (fun _ => ?_)
    refine lv_aload_n hx hb gX10_takesLine_0.2.2.2.2.2.2.1 rfl (lv_at1 hl) ?_
    refine iV (wr := [(tby, iA G 240 fby), (tlnc, iA G 63 ftln), (tsp, oX8 120 1 tspc (nI ksp)), (tspc, iA G 120 ftsp), (tln, oX8 9 7 tlnc (nI kln))]) hC hK hl hP hD hS hA (t_refuse l G h0 tby kt tln tsp tkd ks kn tf9) si_X10_106 [0] [1, 2, 3, 4, 5] sm_0 fm_0 nd_0 sm_1_2_3_4_5 nd_1_2_3_4_5 dj_0__1_2_3_4_5 rfl rfl rfl rfl rfl (Nat.le_of_ble_eq_true rfl) rm_30_1_1 ⟨Nat.le_of_ble_eq_true rfl, Nat.le_of_ble_eq_true rfl⟩ gX10_takesLine_0.2.2.2.2.2.2.2.1 (fun r3360 tf13362 H locs hr3360 hP hD hS => ?_)
    try dsimp only at hr3360
    refine Kpdr (ws := [(tby, iA G 240 fby), (tlnc, iA G 63 ftln), (tsp, oX8 120 1 tspc (nI ksp)), (tspc, iA G 120 ftsp), (tln, oX8 9 7 tlnc (nI kln)), (h0, oX10 tby (nI kt) tln tsp tkd (nI ks) (nI kn) tf13362)]) hP hD (fun hP hD => ?_)
    obtain rfl := hr3360
    refine toQ hQ0 ?_
    exact RI (v := 0) hC hP hD hS [5, 0, 4, 1, 2, 3] (tkd, ks, kn, tf13362, kln, ftln, ksp, ftsp) rfl rfl (by decide) (⟨Or.inr (rfl), by dsimp only; omega⟩) (by decide +kernel) gX10_takesLine_0.2.2.2.2.2.2.2.2.1
def K_t_scan (l : Launch) (G : GG) (K : OO) (h0 : Nat) (tby : Nat) (kt : Nat) (tln : Nat) (tsp : Nat) (tkd : Int32) (ks : Nat) (kn : Nat) (tf9 : Int32) (fby : Nat → Int32) (tlnc : Nat) (kln : Nat) (ftln : Nat → Int32) (tspc : Nat) (ksp : Nat) (ftsp : Nat → Int32) : Prop := MIo l G K yX10_scan cX10_scan 2 (some .int) 31 0 0 [.ref h0] [(h0, oX10 tby (nI kt) tln tsp tkd (nI ks) (nI kn) tf9), (tby, iA G 240 fby), (tln, oX8 9 7 tlnc (nI kln)), (tlnc, iA G 63 ftln), (tsp, oX8 120 1 tspc (nI ksp)), (tspc, iA G 120 ftsp)] (fun (r : Int32) (u : Int32 × Nat × Nat × Int32 × Nat × (Nat → Int32) × Nat × (Nat → Int32)) => (True) ∧ (u.2.1 ≤ 240 ∧ u.2.2.1 ≤ 240 ∧ u.2.2.2.2.1 ≤ 9 ∧ u.2.2.2.2.2.2.1 ≤ 120)) (fun u : Int32 × Nat × Nat × Int32 × Nat × (Nat → Int32) × Nat × (Nat → Int32) => [(h0, oX10 tby (nI kt) tln tsp u.1 (nI u.2.1) (nI u.2.2.1) u.2.2.2.1), (tby, iA G 240 fby), (tln, oX8 9 7 tlnc (nI u.2.2.2.2.1)), (tlnc, iA G 63 u.2.2.2.2.2.1), (tsp, oX8 120 1 tspc (nI u.2.2.2.2.2.2.1)), (tspc, iA G 120 u.2.2.2.2.2.2.2)])
set_option maxHeartbeats 4000000 in
set_option maxRecDepth 100000 in
theorem t_scan (l : Launch) (G : GG) (K : OO) (h0 : Nat) (tby : Nat) (kt : Nat) (tln : Nat) (tsp : Nat) (tkd : Int32) (ks : Nat) (kn : Nat) (tf9 : Int32) (fby : Nat → Int32) (tlnc : Nat) (kln : Nat) (ftln : Nat → Int32) (tspc : Nat) (ksp : Nat) (ftsp : Nat → Int32) (hkt : kt ≤ 240) (hks : ks ≤ 240) (hkn : kn ≤ 240) (hkln : kln ≤ 9) (hksp : ksp ≤ 120) : K_t_scan l G K h0 tby kt tln tsp tkd ks kn tf9 fby tlnc kln ftln tspc ksp ftsp := by
  refine MIo.start (by decide +kernel) (Nat.le_of_ble_eq_true rfl) ?_
  intro p e s m below meth c A ls hC hK hP hD hS hA hl hO
  refine absQ (fun Q0 hQ0 => ?_)
  have hl : lv_has ls 2 [(0, .ref h0)] := hl
  refine Kan8 hC (fun hx hb hr hml hB hown hlocks hnm => ?_)
  refine lv_aload_n hx hb gX10_scan_0.1 rfl (lv_at0 hl) ?_
  refine gf_X10_20 hC rfl hK hP 0 rfl rfl gX10_scan_0.2.1 ?_
  refine lv_iconst (v := 0) hx hb gX10_scan_0.2.2.1 (by decide) ?_
  refine vV (wr := [(h0, oX10 tby (nI kt) tln tsp tkd (nI ks) (nI kn) tf9), (tby, iA G 240 fby), (tlnc, iA G 63 ftln), (tsp, oX8 120 1 tspc (nI ksp)), (tspc, iA G 120 ftsp)]) hC hK hl hP hD hS hA (c_T_cut0 l G tln 9 7 tlnc kln (by omega)) si_X10_43 [2] [0, 1, 3, 4, 5] sm_2 fm_2 nd_2 sm_0_1_3_4_5 nd_0_1_3_4_5 dj_2__0_1_3_4_5 rfl rfl rfl rfl rfl (Nat.le_of_ble_eq_true rfl) rm_31_1_2 ⟨Nat.le_of_ble_eq_true rfl, Nat.le_of_ble_eq_true rfl⟩ gX10_scan_0.2.2.2.1 (fun u3365 H locs hr3364 hP hD hS => ?_)
  refine Kpdr (ws := [(h0, oX10 tby (nI kt) tln tsp tkd (nI ks) (nI kn) tf9), (tby, iA G 240 fby), (tlnc, iA G 63 ftln), (tsp, oX8 120 1 tspc (nI ksp)), (tspc, iA G 120 ftsp), (tln, oX8 9 7 tlnc 0)]) hP hD (fun hP hD => ?_)
  refine lv_aload_n hx hb gX10_scan_0.2.2.2.2.1 rfl (lv_at0 hl) ?_
  refine gf_X10_24 hC rfl hK hP 0 rfl rfl gX10_scan_0.2.2.2.2.2.1 ?_
  refine lv_iconst (v := 0) hx hb gX10_scan_0.2.2.2.2.2.2.1 (by decide) ?_
  refine vV (wr := [(h0, oX10 tby (nI kt) tln tsp tkd (nI ks) (nI kn) tf9), (tby, iA G 240 fby), (tlnc, iA G 63 ftln), (tspc, iA G 120 ftsp), (tln, oX8 9 7 tlnc 0)]) hC hK hl hP hD hS hA (c_T_cut0 l G tsp 120 1 tspc ksp (by omega)) si_X10_43 [3] [0, 1, 2, 4, 5] sm_3 fm_3 nd_3 sm_0_1_2_4_5 nd_0_1_2_4_5 dj_3__0_1_2_4_5 rfl rfl rfl rfl rfl (Nat.le_of_ble_eq_true rfl) rm_31_1_2 ⟨Nat.le_of_ble_eq_true rfl, Nat.le_of_ble_eq_true rfl⟩ gX10_scan_0.2.2.2.2.2.2.2.1 (fun u3367 H locs hr3366 hP hD hS => ?_)
  refine Kpdr (ws := [(h0, oX10 tby (nI kt) tln tsp tkd (nI ks) (nI kn) tf9), (tby, iA G 240 fby), (tlnc, iA G 63 ftln), (tspc, iA G 120 ftsp), (tln, oX8 9 7 tlnc 0), (tsp, oX8 120 1 tspc 0)]) hP hD (fun hP hD => ?_)
  refine lv_aload_n hx hb gX10_scan_0.2.2.2.2.2.2.2.2.1 rfl (lv_at0 hl) ?_
  refine lv_iconst (v := (-1)) hx hb gX10_scan_0.2.2.2.2.2.2.2.2.2 (by decide) ?_
  refine pf_X10_40 hC rfl hK hP hD hS 0 (ws' := [(h0, oX10 tby (nI kt) tln tsp tkd (nI ks) (nI kn) (-1)), (tby, iA G 240 fby), (tlnc, iA G 63 ftln), (tspc, iA G 120 ftsp), (tln, oX8 9 7 tlnc 0), (tsp, oX8 120 1 tspc 0)]) rfl (Nat.le_of_ble_eq_true rfl) rfl rfl rfl gX10_scan_1.1 (fun H locs hP hD hS => ?_)
  refine lv_aload_n hx hb gX10_scan_1.2.1 rfl (lv_at0 hl) ?_
  refine lv_iconst (v := 0) hx hb gX10_scan_1.2.2.1 (by decide) ?_
  refine pf_X10_37 hC rfl hK hP hD hS 0 (ws' := [(h0, oX10 tby (nI kt) tln tsp tkd (nI ks) 0 (-1)), (tby, iA G 240 fby), (tlnc, iA G 63 ftln), (tspc, iA G 120 ftsp), (tln, oX8 9 7 tlnc 0), (tsp, oX8 120 1 tspc 0)]) rfl (Nat.le_of_ble_eq_true rfl) rfl rfl rfl gX10_scan_1.2.2.2.1 (fun H locs hP hD hS => ?_)
  refine lv_aload_n hx hb gX10_scan_1.2.2.2.2.1 rfl (lv_at0 hl) ?_
  refine vV (wr := [(tlnc, iA G 63 ftln), (tspc, iA G 120 ftsp), (tln, oX8 9 7 tlnc 0), (tsp, oX8 120 1 tspc 0)]) hC hK hl hP hD hS hA (t_advance l G h0 tby kt tln tsp tkd ks 0 (-1) fby (hkt) (hks) (by omega)) si_X10_47 [0, 1] [2, 3, 4, 5] sm_0_1 fm_0_1 nd_0_1 sm_2_3_4_5 nd_2_3_4_5 dj_0_1__2_3_4_5 rfl rfl rfl rfl rfl (Nat.le_of_ble_eq_true rfl) rm_31_3_1 ⟨Nat.le_of_ble_eq_true rfl, Nat.le_of_ble_eq_true rfl⟩ gX10_scan_1.2.2.2.2.2.1 (Ktu3 fun kd13370 ks13371 kn13372 => ?_)
  intro H locs hr3368 hP hD hS
  try dsimp only at hr3368
  refine Kpdr (ws := [(tlnc, iA G 63 ftln), (tspc, iA G 120 ftsp), (tln, oX8 9 7 tlnc 0), (tsp, oX8 120 1 tspc 0), (h0, oX10 tby (nI kt) tln tsp kd13370 (nI ks13371) (nI kn13372) (-1)), (tby, iA G 240 fby)]) hP hD (fun hP hD => ?_)
  have w3373 := hr3368
  refine lv_iconst (v := 0) hx hb gX10_scan_1.2.2.2.2.2.2.1 (by decide) ?_
  refine lv_istore_n (lv' := [(1, .int 0), (0, .ref h0)]) hx hb gX10_scan_1.2.2.2.2.2.2.2.1 rfl hl (by decide) rfl (fun ls hl => ?_)
  have keyP : ∀ (nP kP : Nat) (vkd : Int32) (vtf : Int32) (vtln : Nat → Int32) (vtsp : Nat → Int32) (vks : Nat) (vkn : Nat) (vkl : Nat) (vksp : Nat) (H : Heap) (locs : List Loc) (ls : Array Slot), kP + nP = 10 → (vks ≤ 240) → (vkn ≤ 240) → (vkl ≤ 9) → (vksp ≤ 120) → va_PD G A [(tlnc, iA G 63 vtln), (tspc, iA G 120 vtsp), (tln, oX8 9 7 tlnc (nI vkl)), (tsp, oX8 120 1 tspc (nI vksp)), (h0, oX10 tby (nI kt) tln tsp vkd (nI vks) (nI vkn) vtf), (tby, iA G 240 fby)] H → va_S A s.heap H locs → lv_has ls 2 [(1, .int (nI kP)), (0, .ref h0)] → W p l e (RM 31 0 0) s m ([.ref h0] : List Value).toArray below meth c H locs 0 0 Q0 (F0 m 32 ls []) := by
    intro nP
    induction nP with
    | zero =>
      intro kP vkd vtf vtln vtsp vks vkn vkl vksp H locs ls hkP hvks hvkn hvkl hvksp hPD hS hl
      refine Kan2 hPD (fun hP hD => ?_)
      obtain rfl : 10 = kP := by omega
      have hl : lv_has ls 2 [(1, .int 10), (0, .ref h0)] := hl
      refine lv_iload_n hx hb gX10_scan_1.2.2.2.2.2.2.2.2.1 rfl (lv_at0 hl) ?_
      refine lv_bipush (v := 9) hx hb gX10_scan_1.2.2.2.2.2.2.2.2.2 (by decide) ?_
      refine lv_icmp_gt (tgt := 64) hx hb gX10_scan_2.1 (by decide) (fun _ => ?_) (fun c9 => absurd (by decide) c9)
      refine lv_aload_n hx hb gX10_scan_3.2.2.2.1 rfl (lv_at1 hl) ?_
      refine gf_X10_40 hC rfl hK hP 4 rfl rfl gX10_scan_3.2.2.2.2.1 ?_
      refine toQ hQ0 ?_
      exact RI (v := vtf) hC hP hD hS [4, 5, 2, 0, 3, 1] (vkd, vks, vkn, vtf, vkl, vtln, vksp, vtsp) rfl rfl (by decide) (⟨trivial, by dsimp only; omega⟩) rfl gX10_scan_3.2.2.2.2.2
    | succ nP ihP =>
      intro kP vkd vtf vtln vtsp vks vkn vkl vksp H locs ls hkP hvks hvkn hvkl hvksp hPD hS hl
      refine Kan2 hPD (fun hP hD => ?_)
      refine lv_iload_n hx hb gX10_scan_1.2.2.2.2.2.2.2.2.1 rfl (lv_at0 hl) ?_
      refine lv_bipush (v := 9) hx hb gX10_scan_1.2.2.2.2.2.2.2.2.2 (by decide) ?_
      refine lv_icmp_gt (tgt := 64) hx hb gX10_scan_2.1 (by decide) (fun c9 => absurd c9 (nI_nlt (a := 9) (b := kP) (by omega) (by omega))) (fun _ => ?_)
      refine lv_aload_n hx hb gX10_scan_2.2.1 rfl (lv_at1 hl) ?_
      refine gf_X10_31 hC rfl hK hP 4 rfl rfl gX10_scan_2.2.2.1 ?_
      refine lv_iconst (v := (-1)) hx hb gX10_scan_2.2.2.2.1 (by decide) ?_
      refine lv_icmp_eq (tgt := 64) hx hb gX10_scan_2.2.2.2.2.1 (by decide) (fun c_43_3374 => ?_) (fun c_43_3374 => ?_)
      · refine lv_aload_n hx hb gX10_scan_3.2.2.2.1 rfl (lv_at1 hl) ?_
        refine gf_X10_40 hC rfl hK hP 4 rfl rfl gX10_scan_3.2.2.2.2.1 ?_
        refine toQ hQ0 ?_
        exact RI (v := vtf) hC hP hD hS [4, 5, 2, 0, 3, 1] (vkd, vks, vkn, vtf, vkl, vtln, vksp, vtsp) rfl rfl (by decide) (⟨trivial, by dsimp only; omega⟩) rfl gX10_scan_3.2.2.2.2.2
      · refine lv_aload_n hx hb gX10_scan_2.2.2.2.2.2.1 rfl (lv_at1 hl) ?_
        refine iVo (wr := []) hO hC hK hl hP hD hS hA (t_takesLine l G K h0 tby kt tln tsp vkd vks vkn vtf fby tlnc vkl vtln tspc vksp vtsp (hkt) (hvks) (hvkn) (hvkl) (hvksp)) si_X10_50 [4, 5, 2, 0, 3, 1] [] sm_4_5_2_0_3_1 fm_4_5_2_0_3_1 nd_4_5_2_0_3_1 rfl rfl (by decide) rfl rfl rfl rfl rfl (Nat.le_of_ble_eq_true rfl) rm_31_30_3 ⟨Nat.le_of_ble_eq_true rfl, Nat.le_of_ble_eq_true rfl⟩ gX10_scan_2.2.2.2.2.2.2.1 (fun r3375 => Ktu8 fun kd13377 ks13378 kn13379 tf13380 kln13381 gtln3382 ksp13383 gtsp3384 => ?_)
        intro H locs hr3375 hP hD hS
        try dsimp only at hr3375
        refine Kpdr (ws := [(h0, oX10 tby (nI kt) tln tsp kd13377 (nI ks13378) (nI kn13379) tf13380), (tby, iA G 240 fby), (tln, oX8 9 7 tlnc (nI kln13381)), (tlnc, iA G 63 gtln3382), (tsp, oX8 120 1 tspc (nI ksp13383)), (tspc, iA G 120 gtsp3384)]) hP hD (fun hP hD => ?_)
        obtain ⟨hr3375, w3385⟩ := hr3375
        rcases hr3375 with rfl | rfl
        · refine lv_if_ne (tgt := 58) hx hb gX10_scan_2.2.2.2.2.2.2.2.1 (by decide) (fun _ => ?_) (fun c9 => absurd c9 (by decide))
          refine lv_iinc (v := nI (kP + 1)) (lv' := [(1, .int (nI (kP + 1))), (0, .ref h0)]) hx hb gX10_scan_3.2.1 hl (k := 0) rfl (nI_1 _) (by decide) rfl (fun ls hl => ?_)
          refine lv_goto (tgt := 32) hx hb gX10_scan_3.2.2.1 (by decide) ?_
          refine Kpds (ws' := [(tlnc, iA G 63 gtln3382), (tspc, iA G 120 gtsp3384), (tln, oX8 9 7 tlnc (nI kln13381)), (tsp, oX8 120 1 tspc (nI ksp13383)), (h0, oX10 tby (nI kt) tln tsp kd13377 (nI ks13378) (nI kn13379) tf13380), (tby, iA G 240 fby)]) hP hD [3, 5, 2, 4, 0, 1] fm_3_5_2_4_0_1 nd_3_5_2_4_0_1 sm_3_5_2_4_0_1 (fun hP hD => ?_)
          exact ihP (kP + 1) kd13377 tf13380 gtln3382 gtsp3384 ks13378 kn13379 kln13381 ksp13383 _ _ _ (by omega) (by first | assumption | exact Or.inl rfl | exact Or.inr rfl | omega) (by first | assumption | exact Or.inl rfl | exact Or.inr rfl | omega) (by first | assumption | exact Or.inl rfl | exact Or.inr rfl | omega) (by first | assumption | exact Or.inl rfl | exact Or.inr rfl | omega) (And.intro hP hD) hS (lv_sub hl [0, 1] rfl)
        · refine lv_if_ne (tgt := 58) hx hb gX10_scan_2.2.2.2.2.2.2.2.1 (by decide) (fun c9 => absurd (by decide) c9) (fun _ => ?_)
          refine lv_aload_n hx hb gX10_scan_2.2.2.2.2.2.2.2.2.1 rfl (lv_at1 hl) ?_
          refine gf_X10_40 hC rfl hK hP 0 rfl rfl gX10_scan_2.2.2.2.2.2.2.2.2.2 ?_
          refine toQ hQ0 ?_
          exact RI (v := tf13380) hC hP hD hS [0, 1, 2, 3, 4, 5] (kd13377, ks13378, kn13379, tf13380, kln13381, gtln3382, ksp13383, gtsp3384) rfl rfl (by decide) (⟨trivial, by dsimp only; omega⟩) rfl gX10_scan_3.1
  exact keyP 10 0 kd13370 (-1) ftln ftsp ks13371 kn13372 0 0 _ _ _ (by omega) (by first | assumption | exact Or.inl rfl | exact Or.inr rfl | omega) (by first | assumption | exact Or.inl rfl | exact Or.inr rfl | omega) (by first | assumption | exact Or.inl rfl | exact Or.inr rfl | omega) (by first | assumption | exact Or.inl rfl | exact Or.inr rfl | omega) (And.intro hP hD) hS (lv_sub hl [0, 1] rfl)
def K_t_store (l : Launch) (G : GG) (h0 : Nat) (bb : Nat) (tby : Nat) (kt : Nat) (tln : Nat) (tsp : Nat) (tkd : Int32) (ts9 : Int32) (tn9 : Int32) (tf9 : Int32) (tlnc : Nat) (kln : Nat) (ftln : Nat → Int32) (tspc : Nat) (ksp : Nat) (ftsp : Nat → Int32) (bpersons : Nat) (bpapers : Nat) (bstamps : Nat) (bversions : Nat) (blines : Nat) (bsteps : Nat) (bsayings : Nat) (bfindings : Nat) (bwarnings : Nat) (bquestions : Nat) (td : Int32) (vd : Int32) (vl : Int32) (gp : Int32) (bversionsc : Nat) (kbversions : Nat) (fbversions : Nat → Int32) (blinesc : Nat) (kblines : Nat) (fblines : Nat → Int32) (bstepsc : Nat) (kbsteps : Nat) (fbsteps : Nat → Int32) : Prop := MI l G yX10_store cX10_store 7 (some .int) 3 0 0 [.ref h0, .ref bb] [(h0, oX10 tby (nI kt) tln tsp tkd ts9 tn9 tf9), (tln, oX8 9 7 tlnc (nI kln)), (tlnc, iA G 63 ftln), (tsp, oX8 120 1 tspc (nI ksp)), (tspc, iA G 120 ftsp), (bb, oX0 bpersons bpapers bstamps bversions blines bsteps bsayings bfindings bwarnings bquestions td vd vl gp), (bversions, oX8 8 3 bversionsc (nI kbversions)), (bversionsc, iA G 24 fbversions), (blines, oX8 72 7 blinesc (nI kblines)), (blinesc, iA G 504 fblines), (bsteps, oX8 960 1 bstepsc (nI kbsteps)), (bstepsc, iA G 960 fbsteps)] (fun (r : Int32) (u : Nat × Nat × Nat × (Nat → Int32) × (Nat → Int32) × (Nat → Int32)) => (True) ∧ (u.1 ≤ 8 ∧ u.2.1 ≤ 72 ∧ u.2.2.1 ≤ 960)) (fun u : Nat × Nat × Nat × (Nat → Int32) × (Nat → Int32) × (Nat → Int32) => [(h0, oX10 tby (nI kt) tln tsp tkd ts9 tn9 tf9), (tln, oX8 9 7 tlnc (nI kln)), (tlnc, iA G 63 ftln), (tsp, oX8 120 1 tspc (nI ksp)), (tspc, iA G 120 ftsp), (bb, oX0 bpersons bpapers bstamps bversions blines bsteps bsayings bfindings bwarnings bquestions td vd vl gp), (bversions, oX8 8 3 bversionsc (nI u.1)), (bversionsc, iA G 24 u.2.2.2.1), (blines, oX8 72 7 blinesc (nI u.2.1)), (blinesc, iA G 504 u.2.2.2.2.1), (bsteps, oX8 960 1 bstepsc (nI u.2.2.1)), (bstepsc, iA G 960 u.2.2.2.2.2)])
set_option maxHeartbeats 4000000 in
set_option maxRecDepth 100000 in
theorem t_store (l : Launch) (G : GG) (h0 : Nat) (bb : Nat) (tby : Nat) (kt : Nat) (tln : Nat) (tsp : Nat) (tkd : Int32) (ts9 : Int32) (tn9 : Int32) (tf9 : Int32) (tlnc : Nat) (kln : Nat) (ftln : Nat → Int32) (tspc : Nat) (ksp : Nat) (ftsp : Nat → Int32) (bpersons : Nat) (bpapers : Nat) (bstamps : Nat) (bversions : Nat) (blines : Nat) (bsteps : Nat) (bsayings : Nat) (bfindings : Nat) (bwarnings : Nat) (bquestions : Nat) (td : Int32) (vd : Int32) (vl : Int32) (gp : Int32) (bversionsc : Nat) (kbversions : Nat) (fbversions : Nat → Int32) (blinesc : Nat) (kblines : Nat) (fblines : Nat → Int32) (bstepsc : Nat) (kbsteps : Nat) (fbsteps : Nat → Int32) (hkln : kln ≤ 9) (hksp : ksp ≤ 120) (hkbv : kbversions < 8) (hkblines : kblines ≤ 72) (hkbsteps : kbsteps ≤ 960) : K_t_store l G h0 bb tby kt tln tsp tkd ts9 tn9 tf9 tlnc kln ftln tspc ksp ftsp bpersons bpapers bstamps bversions blines bsteps bsayings bfindings bwarnings bquestions td vd vl gp bversionsc kbversions fbversions blinesc kblines fblines bstepsc kbsteps fbsteps := by
  refine MI.start (by decide +kernel) (Nat.le_of_ble_eq_true rfl) ?_
  intro p e s m below meth c A ls hC hK hP hD hS hA hl
  refine absQ (fun Q0 hQ0 => ?_)
  have hl : lv_has ls 7 [(0, .ref h0), (1, .ref bb)] := hl
  refine Kan8 hC (fun hx hb hr hml hB hown hlocks hnm => ?_)
  refine lv_aload_n hx hb gX10_store_0.1 rfl (lv_at1 hl) ?_
  refine gf_X10_54 hC rfl hK hP 5 rfl rfl gX10_store_0.2.1 ?_
  refine iV (wr := [(h0, oX10 tby (nI kt) tln tsp tkd ts9 tn9 tf9), (tln, oX8 9 7 tlnc (nI kln)), (tlnc, iA G 63 ftln), (tsp, oX8 120 1 tspc (nI ksp)), (tspc, iA G 120 ftsp), (bb, oX0 bpersons bpapers bstamps bversions blines bsteps bsayings bfindings bwarnings bquestions td vd vl gp), (bversionsc, iA G 24 fbversions), (blines, oX8 72 7 blinesc (nI kblines)), (blinesc, iA G 504 fblines), (bsteps, oX8 960 1 bstepsc (nI kbsteps)), (bstepsc, iA G 960 fbsteps)]) hC hK hl hP hD hS hA (c_T_append l G bversions 8 3 bversionsc kbversions (hkbv) (by omega)) si_X10_59 [6] [0, 1, 2, 3, 4, 5, 7, 8, 9, 10, 11] sm_6 fm_6 nd_6 sm_0_1_2_3_4_5_7_8_9_10_11 nd_0_1_2_3_4_5_7_8_9_10_11 dj_6__0_1_2_3_4_5_7_8_9_10_11 rfl rfl rfl rfl rfl (Nat.le_of_ble_eq_true rfl) rm_3_1_1 ⟨Nat.le_of_ble_eq_true rfl, Nat.le_of_ble_eq_true rfl⟩ gX10_store_0.2.2.1 (fun r3387 u3388 H locs hr3387 hP hD hS => ?_)
  refine Kpdr (ws := [(h0, oX10 tby (nI kt) tln tsp tkd ts9 tn9 tf9), (tln, oX8 9 7 tlnc (nI kln)), (tlnc, iA G 63 ftln), (tsp, oX8 120 1 tspc (nI ksp)), (tspc, iA G 120 ftsp), (bb, oX0 bpersons bpapers bstamps bversions blines bsteps bsayings bfindings bwarnings bquestions td vd vl gp), (bversionsc, iA G 24 fbversions), (blines, oX8 72 7 blinesc (nI kblines)), (blinesc, iA G 504 fblines), (bsteps, oX8 960 1 bstepsc (nI kbsteps)), (bstepsc, iA G 960 fbsteps), (bversions, oX8 8 3 bversionsc (nI (kbversions + 1)))]) hP hD (fun hP hD => ?_)
  obtain rfl := hr3387
  refine lv_istore_n (lv' := [(2, .int (nI kbversions)), (0, .ref h0), (1, .ref bb)]) hx hb gX10_store_0.2.2.2.1 rfl hl (by decide) rfl (fun ls hl => ?_)
  refine lv_aload_n hx hb gX10_store_0.2.2.2.2.1 rfl (lv_at2 hl) ?_
  refine gf_X10_54 hC rfl hK hP 5 rfl rfl gX10_store_0.2.2.2.2.2.1 ?_
  refine lv_iload_n hx hb gX10_store_0.2.2.2.2.2.2.1 rfl (lv_at0 hl) ?_
  refine lv_iconst (v := 0) hx hb gX10_store_0.2.2.2.2.2.2.2.1 (by decide) ?_
  refine lv_aload_n hx hb gX10_store_0.2.2.2.2.2.2.2.2.1 rfl (lv_at2 hl) ?_
  refine gf_X10_63 hC rfl hK hP 5 rfl rfl gX10_store_0.2.2.2.2.2.2.2.2.2 ?_
  refine vV (wr := [(h0, oX10 tby (nI kt) tln tsp tkd ts9 tn9 tf9), (tln, oX8 9 7 tlnc (nI kln)), (tlnc, iA G 63 ftln), (tsp, oX8 120 1 tspc (nI ksp)), (tspc, iA G 120 ftsp), (bb, oX0 bpersons bpapers bstamps bversions blines bsteps bsayings bfindings bwarnings bquestions td vd vl gp), (blines, oX8 72 7 blinesc (nI kblines)), (blinesc, iA G 504 fblines), (bsteps, oX8 960 1 bstepsc (nI kbsteps)), (bstepsc, iA G 960 fbsteps)]) hC hK hl hP hD hS hA (c_T_set l G bversions (nI kbversions) 0 td 8 3 bversionsc (kbversions + 1) fbversions (by omega) (by omega) (by omega)) si_X10_66 [11, 6] [0, 1, 2, 3, 4, 5, 7, 8, 9, 10] sm_11_6 fm_11_6 nd_11_6 sm_0_1_2_3_4_5_7_8_9_10 nd_0_1_2_3_4_5_7_8_9_10 dj_11_6__0_1_2_3_4_5_7_8_9_10 rfl rfl rfl rfl rfl (Nat.le_of_ble_eq_true rfl) rm_3_1_4 ⟨Nat.le_of_ble_eq_true rfl, Nat.le_of_ble_eq_true rfl⟩ gX10_store_1.1 (fun f13392 H locs hr3390 hP hD hS => ?_)
  try dsimp only at hr3390
  refine Kpdr (ws := [(h0, oX10 tby (nI kt) tln tsp tkd ts9 tn9 tf9), (tln, oX8 9 7 tlnc (nI kln)), (tlnc, iA G 63 ftln), (tsp, oX8 120 1 tspc (nI ksp)), (tspc, iA G 120 ftsp), (bb, oX0 bpersons bpapers bstamps bversions blines bsteps bsayings bfindings bwarnings bquestions td vd vl gp), (blines, oX8 72 7 blinesc (nI kblines)), (blinesc, iA G 504 fblines), (bsteps, oX8 960 1 bstepsc (nI kbsteps)), (bstepsc, iA G 960 fbsteps), (bversions, oX8 8 3 bversionsc (nI (kbversions + 1))), (bversionsc, iA G 24 f13392)]) hP hD (fun hP hD => ?_)
  have w3393 := hr3390
  refine lv_aload_n hx hb gX10_store_1.2.1 rfl (lv_at2 hl) ?_
  refine gf_X10_54 hC rfl hK hP 5 rfl rfl gX10_store_1.2.2.1 ?_
  refine lv_iload_n hx hb gX10_store_1.2.2.2.1 rfl (lv_at0 hl) ?_
  refine lv_iconst (v := 1) hx hb gX10_store_1.2.2.2.2.1 (by decide) ?_
  refine lv_aload_n hx hb gX10_store_1.2.2.2.2.2.1 rfl (lv_at2 hl) ?_
  refine gf_X10_70 hC rfl hK hP 5 rfl rfl gX10_store_1.2.2.2.2.2.2.1 ?_
  refine pV hC hK hl hP hD (c_T_count l G blines 72 7 blinesc kblines) si_X10_71 [6] sm_6 fm_6 nd_6 rfl rfl rfl rfl rfl (Nat.le_of_ble_eq_true rfl) rm_3_1_1 ⟨by first | exact Nat.le_of_ble_eq_true rfl | exact Nat.zero_le _, by first | exact Nat.le_of_ble_eq_true rfl | exact Nat.zero_le _⟩ gX10_store_1.2.2.2.2.2.2.2.1 (Keqr ?_)
  refine vV (wr := [(h0, oX10 tby (nI kt) tln tsp tkd ts9 tn9 tf9), (tln, oX8 9 7 tlnc (nI kln)), (tlnc, iA G 63 ftln), (tsp, oX8 120 1 tspc (nI ksp)), (tspc, iA G 120 ftsp), (bb, oX0 bpersons bpapers bstamps bversions blines bsteps bsayings bfindings bwarnings bquestions td vd vl gp), (blines, oX8 72 7 blinesc (nI kblines)), (blinesc, iA G 504 fblines), (bsteps, oX8 960 1 bstepsc (nI kbsteps)), (bstepsc, iA G 960 fbsteps)]) hC hK hl hP hD hS hA (c_T_set l G bversions (nI kbversions) 1 (nI kblines) 8 3 bversionsc (kbversions + 1) f13392 (by omega) (by omega) (by omega)) si_X10_66 [10, 11] [0, 1, 2, 3, 4, 5, 6, 7, 8, 9] sm_10_11 fm_10_11 nd_10_11 sm_0_1_2_3_4_5_6_7_8_9 nd_0_1_2_3_4_5_6_7_8_9 dj_10_11__0_1_2_3_4_5_6_7_8_9 rfl rfl rfl rfl rfl (Nat.le_of_ble_eq_true rfl) rm_3_1_4 ⟨Nat.le_of_ble_eq_true rfl, Nat.le_of_ble_eq_true rfl⟩ gX10_store_1.2.2.2.2.2.2.2.2.1 (fun f13398 H locs hr3396 hP hD hS => ?_)
  try dsimp only at hr3396
  refine Kpdr (ws := [(h0, oX10 tby (nI kt) tln tsp tkd ts9 tn9 tf9), (tln, oX8 9 7 tlnc (nI kln)), (tlnc, iA G 63 ftln), (tsp, oX8 120 1 tspc (nI ksp)), (tspc, iA G 120 ftsp), (bb, oX0 bpersons bpapers bstamps bversions blines bsteps bsayings bfindings bwarnings bquestions td vd vl gp), (blines, oX8 72 7 blinesc (nI kblines)), (blinesc, iA G 504 fblines), (bsteps, oX8 960 1 bstepsc (nI kbsteps)), (bstepsc, iA G 960 fbsteps), (bversions, oX8 8 3 bversionsc (nI (kbversions + 1))), (bversionsc, iA G 24 f13398)]) hP hD (fun hP hD => ?_)
  have w3399 := hr3396
  refine lv_aload_n hx hb gX10_store_1.2.2.2.2.2.2.2.2.2 rfl (lv_at2 hl) ?_
  refine gf_X10_54 hC rfl hK hP 5 rfl rfl gX10_store_2.1 ?_
  refine lv_iload_n hx hb gX10_store_2.2.1 rfl (lv_at0 hl) ?_
  refine lv_iconst (v := 2) hx hb gX10_store_2.2.2.1 (by decide) ?_
  refine lv_aload_n hx hb gX10_store_2.2.2.2.1 rfl (lv_at1 hl) ?_
  refine gf_X10_20 hC rfl hK hP 0 rfl rfl gX10_store_2.2.2.2.2.1 ?_
  refine pV hC hK hl hP hD (c_T_count l G tln 9 7 tlnc kln) si_X10_71 [1] sm_1 fm_1 nd_1 rfl rfl rfl rfl rfl (Nat.le_of_ble_eq_true rfl) rm_3_1_1 ⟨by first | exact Nat.le_of_ble_eq_true rfl | exact Nat.zero_le _, by first | exact Nat.le_of_ble_eq_true rfl | exact Nat.zero_le _⟩ gX10_store_2.2.2.2.2.2.1 (Keqr ?_)
  refine vV (wr := [(h0, oX10 tby (nI kt) tln tsp tkd ts9 tn9 tf9), (tln, oX8 9 7 tlnc (nI kln)), (tlnc, iA G 63 ftln), (tsp, oX8 120 1 tspc (nI ksp)), (tspc, iA G 120 ftsp), (bb, oX0 bpersons bpapers bstamps bversions blines bsteps bsayings bfindings bwarnings bquestions td vd vl gp), (blines, oX8 72 7 blinesc (nI kblines)), (blinesc, iA G 504 fblines), (bsteps, oX8 960 1 bstepsc (nI kbsteps)), (bstepsc, iA G 960 fbsteps)]) hC hK hl hP hD hS hA (c_T_set l G bversions (nI kbversions) 2 (nI kln) 8 3 bversionsc (kbversions + 1) f13398 (by omega) (by omega) (by omega)) si_X10_66 [10, 11] [0, 1, 2, 3, 4, 5, 6, 7, 8, 9] sm_10_11 fm_10_11 nd_10_11 sm_0_1_2_3_4_5_6_7_8_9 nd_0_1_2_3_4_5_6_7_8_9 dj_10_11__0_1_2_3_4_5_6_7_8_9 rfl rfl rfl rfl rfl (Nat.le_of_ble_eq_true rfl) rm_3_1_4 ⟨Nat.le_of_ble_eq_true rfl, Nat.le_of_ble_eq_true rfl⟩ gX10_store_2.2.2.2.2.2.2.1 (fun f13404 H locs hr3402 hP hD hS => ?_)
  try dsimp only at hr3402
  refine Kpdr (ws := [(h0, oX10 tby (nI kt) tln tsp tkd ts9 tn9 tf9), (tln, oX8 9 7 tlnc (nI kln)), (tlnc, iA G 63 ftln), (tsp, oX8 120 1 tspc (nI ksp)), (tspc, iA G 120 ftsp), (bb, oX0 bpersons bpapers bstamps bversions blines bsteps bsayings bfindings bwarnings bquestions td vd vl gp), (blines, oX8 72 7 blinesc (nI kblines)), (blinesc, iA G 504 fblines), (bsteps, oX8 960 1 bstepsc (nI kbsteps)), (bstepsc, iA G 960 fbsteps), (bversions, oX8 8 3 bversionsc (nI (kbversions + 1))), (bversionsc, iA G 24 f13404)]) hP hD (fun hP hD => ?_)
  have w3405 := hr3402
  refine lv_aload_n hx hb gX10_store_2.2.2.2.2.2.2.2.1 rfl (lv_at2 hl) ?_
  refine gf_X10_73 hC rfl hK hP 5 rfl rfl gX10_store_2.2.2.2.2.2.2.2.2.1 ?_
  refine pV hC hK hl hP hD (c_T_count l G bsteps 960 1 bstepsc kbsteps) si_X10_71 [8] sm_8 fm_8 nd_8 rfl rfl rfl rfl rfl (Nat.le_of_ble_eq_true rfl) rm_3_1_1 ⟨by first | exact Nat.le_of_ble_eq_true rfl | exact Nat.zero_le _, by first | exact Nat.le_of_ble_eq_true rfl | exact Nat.zero_le _⟩ gX10_store_2.2.2.2.2.2.2.2.2.2 (Keqr ?_)
  refine lv_istore_n (lv' := [(3, .int (nI kbsteps)), (2, .int (nI kbversions)), (0, .ref h0), (1, .ref bb)]) hx hb gX10_store_3.1 rfl hl (by decide) rfl (fun ls hl => ?_)
  refine lv_iconst (v := 0) hx hb gX10_store_3.2.1 (by decide) ?_
  refine lv_istore (lv' := [(4, .int 0), (3, .int (nI kbsteps)), (2, .int (nI kbversions)), (0, .ref h0), (1, .ref bb)]) hx hb gX10_store_3.2.2.1 hl (by decide) rfl (fun ls hl => ?_)
  have keyP : ∀ (nP kP : Nat) (vbl : Nat → Int32) (vkb : Nat) (H : Heap) (locs : List Loc) (ls : Array Slot), kP + nP = kln → (vkb ≤ 72) → va_PD G A [(h0, oX10 tby (nI kt) tln tsp tkd ts9 tn9 tf9), (tln, oX8 9 7 tlnc (nI kln)), (tlnc, iA G 63 ftln), (tsp, oX8 120 1 tspc (nI ksp)), (tspc, iA G 120 ftsp), (bb, oX0 bpersons bpapers bstamps bversions blines bsteps bsayings bfindings bwarnings bquestions td vd vl gp), (blines, oX8 72 7 blinesc (nI vkb)), (blinesc, iA G 504 vbl), (bsteps, oX8 960 1 bstepsc (nI kbsteps)), (bstepsc, iA G 960 fbsteps), (bversions, oX8 8 3 bversionsc (nI (kbversions + 1))), (bversionsc, iA G 24 f13404)] H → va_S A s.heap H locs → lv_has ls 7 [(4, .int (nI kP)), (3, .int (nI kbsteps)), (2, .int (nI kbversions)), (0, .ref h0), (1, .ref bb)] → W p l e (RM 3 0 0) s m ([.ref h0, .ref bb] : List Value).toArray below meth c H locs 0 0 Q0 (F0 m 64 ls []) := by
    intro nP
    induction nP with
    | zero =>
      intro kP vbl vkb H locs ls hkP hvkb hPD hS hl
      refine Kan2 hPD (fun hP hD => ?_)
      obtain rfl : kln = kP := by omega
      have hl : lv_has ls 7 [(4, .int (nI kln)), (3, .int (nI kbsteps)), (2, .int (nI kbversions)), (0, .ref h0), (1, .ref bb)] := hl
      refine lv_iload hx hb gX10_store_3.2.2.2.1 (lv_at0 hl) ?_
      refine lv_aload_n hx hb gX10_store_3.2.2.2.2.1 rfl (lv_at3 hl) ?_
      refine gf_X10_20 hC rfl hK hP 0 rfl rfl gX10_store_3.2.2.2.2.2.1 ?_
      refine pV hC hK hl hP hD (c_T_count l G tln 9 7 tlnc kln) si_X10_71 [1] sm_1 fm_1 nd_1 rfl rfl rfl rfl rfl (Nat.le_of_ble_eq_true rfl) rm_3_1_1 ⟨by first | exact Nat.le_of_ble_eq_true rfl | exact Nat.zero_le _, by first | exact Nat.le_of_ble_eq_true rfl | exact Nat.zero_le _⟩ gX10_store_3.2.2.2.2.2.2.1 (Keqr ?_)
      refine lv_icmp_ge (tgt := 151) hx hb gX10_store_3.2.2.2.2.2.2.2.1 (by decide) (fun _ => ?_) (fun c9 => absurd (Int32.le_refl _) c9)
      refine lv_iconst (v := 0) hx hb gX10_store_7.2.2.2.1 (by decide) ?_
      refine lv_istore (lv' := [(4, .int 0), (3, .int (nI kbsteps)), (2, .int (nI kbversions)), (0, .ref h0), (1, .ref bb)]) hx hb gX10_store_7.2.2.2.2.1 hl (by decide) rfl (fun ls hl => ?_)
      have keyQ : ∀ (nQ kQ : Nat) (vbs : Nat → Int32) (vkc : Nat) (H : Heap) (locs : List Loc) (ls : Array Slot), kQ + nQ = ksp → (vkc ≤ 960) → va_PD G A [(h0, oX10 tby (nI kt) tln tsp tkd ts9 tn9 tf9), (tln, oX8 9 7 tlnc (nI kln)), (tlnc, iA G 63 ftln), (tsp, oX8 120 1 tspc (nI ksp)), (tspc, iA G 120 ftsp), (bb, oX0 bpersons bpapers bstamps bversions blines bsteps bsayings bfindings bwarnings bquestions td vd vl gp), (blines, oX8 72 7 blinesc (nI vkb)), (blinesc, iA G 504 vbl), (bsteps, oX8 960 1 bstepsc (nI vkc)), (bstepsc, iA G 960 vbs), (bversions, oX8 8 3 bversionsc (nI (kbversions + 1))), (bversionsc, iA G 24 f13404)] H → va_S A s.heap H locs → lv_has ls 7 [(4, .int (nI kQ)), (3, .int (nI kbsteps)), (2, .int (nI kbversions)), (0, .ref h0), (1, .ref bb)] → W p l e (RM 3 0 0) s m ([.ref h0, .ref bb] : List Value).toArray below meth c H locs 0 0 Q0 (F0 m 154 ls []) := by
        intro nQ
        induction nQ with
        | zero =>
          intro kQ vbs vkc H locs ls hkQ hvkc hPD hS hl
          refine Kan2 hPD (fun hP hD => ?_)
          obtain rfl : ksp = kQ := by omega
          have hl : lv_has ls 7 [(4, .int (nI ksp)), (3, .int (nI kbsteps)), (2, .int (nI kbversions)), (0, .ref h0), (1, .ref bb)] := hl
          refine lv_iload hx hb gX10_store_7.2.2.2.2.2.1 (lv_at0 hl) ?_
          refine lv_aload_n hx hb gX10_store_7.2.2.2.2.2.2.1 rfl (lv_at3 hl) ?_
          refine gf_X10_24 hC rfl hK hP 0 rfl rfl gX10_store_7.2.2.2.2.2.2.2.1 ?_
          refine pV hC hK hl hP hD (c_T_count l G tsp 120 1 tspc ksp) si_X10_71 [3] sm_3 fm_3 nd_3 rfl rfl rfl rfl rfl (Nat.le_of_ble_eq_true rfl) rm_3_1_1 ⟨by first | exact Nat.le_of_ble_eq_true rfl | exact Nat.zero_le _, by first | exact Nat.le_of_ble_eq_true rfl | exact Nat.zero_le _⟩ gX10_store_7.2.2.2.2.2.2.2.2.1 (Keqr ?_)
          refine lv_icmp_ge (tgt := 197) hx hb gX10_store_7.2.2.2.2.2.2.2.2.2 (by decide) (fun _ => ?_) (fun c9 => absurd (Int32.le_refl _) c9)
          refine lv_iload_n hx hb gX10_store_9.2.2.2.2.1 rfl (lv_at2 hl) ?_
          refine toQ hQ0 ?_
          exact RI (v := nI kbversions) hC hP hD hS [0, 1, 2, 3, 4, 5, 10, 11, 6, 7, 8, 9] ((kbversions + 1), vkb, vkc, f13404, vbl, vbs) rfl rfl (by decide) (⟨trivial, by dsimp only; omega⟩) rfl gX10_store_9.2.2.2.2.2
        | succ nQ ihQ =>
          intro kQ vbs vkc H locs ls hkQ hvkc hPD hS hl
          refine Kan2 hPD (fun hP hD => ?_)
          refine lv_iload hx hb gX10_store_7.2.2.2.2.2.1 (lv_at0 hl) ?_
          refine lv_aload_n hx hb gX10_store_7.2.2.2.2.2.2.1 rfl (lv_at3 hl) ?_
          refine gf_X10_24 hC rfl hK hP 0 rfl rfl gX10_store_7.2.2.2.2.2.2.2.1 ?_
          refine pV hC hK hl hP hD (c_T_count l G tsp 120 1 tspc ksp) si_X10_71 [3] sm_3 fm_3 nd_3 rfl rfl rfl rfl rfl (Nat.le_of_ble_eq_true rfl) rm_3_1_1 ⟨by first | exact Nat.le_of_ble_eq_true rfl | exact Nat.zero_le _, by first | exact Nat.le_of_ble_eq_true rfl | exact Nat.zero_le _⟩ gX10_store_7.2.2.2.2.2.2.2.2.1 (Keqr ?_)
          refine lv_icmp_ge (tgt := 197) hx hb gX10_store_7.2.2.2.2.2.2.2.2.2 (by decide) (fun c9 => absurd c9 (nI_ge (a := kQ) (b := ksp) (by omega) (by omega))) (fun _ => ?_)
          refine lv_aload_n hx hb gX10_store_8.1 rfl (lv_at4 hl) ?_
          refine gf_X10_73 hC rfl hK hP 5 rfl rfl gX10_store_8.2.1 ?_
          refine lv_aload_n hx hb gX10_store_8.2.2.1 rfl (lv_at4 hl) ?_
          refine gf_X10_73 hC rfl hK hP 5 rfl rfl gX10_store_8.2.2.2.1 ?_
          rcases Nat.lt_or_ge vkc 960 with hcap9 | hcap9
          · refine iV (wr := [(h0, oX10 tby (nI kt) tln tsp tkd ts9 tn9 tf9), (tln, oX8 9 7 tlnc (nI kln)), (tlnc, iA G 63 ftln), (tsp, oX8 120 1 tspc (nI ksp)), (tspc, iA G 120 ftsp), (bb, oX0 bpersons bpapers bstamps bversions blines bsteps bsayings bfindings bwarnings bquestions td vd vl gp), (blines, oX8 72 7 blinesc (nI vkb)), (blinesc, iA G 504 vbl), (bstepsc, iA G 960 vbs), (bversions, oX8 8 3 bversionsc (nI (kbversions + 1))), (bversionsc, iA G 24 f13404)]) hC hK hl hP hD hS hA (c_T_append l G bsteps 960 1 bstepsc vkc (by omega) (by omega)) si_X10_59 [8] [0, 1, 2, 3, 4, 5, 6, 7, 9, 10, 11] sm_8 fm_8 nd_8 sm_0_1_2_3_4_5_6_7_9_10_11 nd_0_1_2_3_4_5_6_7_9_10_11 dj_8__0_1_2_3_4_5_6_7_9_10_11 rfl rfl rfl rfl rfl (Nat.le_of_ble_eq_true rfl) rm_3_1_1 ⟨Nat.le_of_ble_eq_true rfl, Nat.le_of_ble_eq_true rfl⟩ gX10_store_8.2.2.2.2.1 (fun r3414 u3415 H locs hr3414 hP hD hS => ?_)
            refine Kpdr (ws := [(h0, oX10 tby (nI kt) tln tsp tkd ts9 tn9 tf9), (tln, oX8 9 7 tlnc (nI kln)), (tlnc, iA G 63 ftln), (tsp, oX8 120 1 tspc (nI ksp)), (tspc, iA G 120 ftsp), (bb, oX0 bpersons bpapers bstamps bversions blines bsteps bsayings bfindings bwarnings bquestions td vd vl gp), (blines, oX8 72 7 blinesc (nI vkb)), (blinesc, iA G 504 vbl), (bstepsc, iA G 960 vbs), (bversions, oX8 8 3 bversionsc (nI (kbversions + 1))), (bversionsc, iA G 24 f13404), (bsteps, oX8 960 1 bstepsc (nI (vkc + 1)))]) hP hD (fun hP hD => ?_)
            obtain rfl := hr3414
            refine lv_iconst (v := 0) hx hb gX10_store_8.2.2.2.2.2.1 (by decide) ?_
            refine lv_aload_n hx hb gX10_store_8.2.2.2.2.2.2.1 rfl (lv_at3 hl) ?_
            refine gf_X10_24 hC rfl hK hP 0 rfl rfl gX10_store_8.2.2.2.2.2.2.2.1 ?_
            refine lv_iload hx hb gX10_store_8.2.2.2.2.2.2.2.2.1 (lv_at0 hl) ?_
            refine lv_iconst (v := 0) hx hb gX10_store_8.2.2.2.2.2.2.2.2.2 (by decide) ?_
            refine pV hC hK hl hP hD (c_T_at l G tsp (nI kQ) 0 120 1 tspc ksp ftsp (hksp) (by omega) (by omega)) si_X10_74 [3, 4] sm_3_4 fm_3_4 nd_3_4 rfl rfl rfl rfl rfl (Nat.le_of_ble_eq_true rfl) rm_3_1_3 ⟨by first | exact Nat.le_of_ble_eq_true rfl | exact Nat.zero_le _, by first | exact Nat.le_of_ble_eq_true rfl | exact Nat.zero_le _⟩ gX10_store_9.1 (fun r3417 hr3417 => ?_)
            refine vV (wr := [(h0, oX10 tby (nI kt) tln tsp tkd ts9 tn9 tf9), (tln, oX8 9 7 tlnc (nI kln)), (tlnc, iA G 63 ftln), (tsp, oX8 120 1 tspc (nI ksp)), (tspc, iA G 120 ftsp), (bb, oX0 bpersons bpapers bstamps bversions blines bsteps bsayings bfindings bwarnings bquestions td vd vl gp), (blines, oX8 72 7 blinesc (nI vkb)), (blinesc, iA G 504 vbl), (bversions, oX8 8 3 bversionsc (nI (kbversions + 1))), (bversionsc, iA G 24 f13404)]) hC hK hl hP hD hS hA (c_T_set l G bsteps (nI vkc) 0 r3417 960 1 bstepsc (vkc + 1) vbs (by omega) (by omega) (by omega)) si_X10_66 [11, 8] [0, 1, 2, 3, 4, 5, 6, 7, 9, 10] sm_11_8 fm_11_8 nd_11_8 sm_0_1_2_3_4_5_6_7_9_10 nd_0_1_2_3_4_5_6_7_9_10 dj_11_8__0_1_2_3_4_5_6_7_9_10 rfl rfl rfl rfl rfl (Nat.le_of_ble_eq_true rfl) rm_3_1_4 ⟨Nat.le_of_ble_eq_true rfl, Nat.le_of_ble_eq_true rfl⟩ gX10_store_9.2.1 (fun f13421 H locs hr3419 hP hD hS => ?_)
            try dsimp only at hr3419
            refine Kpdr (ws := [(h0, oX10 tby (nI kt) tln tsp tkd ts9 tn9 tf9), (tln, oX8 9 7 tlnc (nI kln)), (tlnc, iA G 63 ftln), (tsp, oX8 120 1 tspc (nI ksp)), (tspc, iA G 120 ftsp), (bb, oX0 bpersons bpapers bstamps bversions blines bsteps bsayings bfindings bwarnings bquestions td vd vl gp), (blines, oX8 72 7 blinesc (nI vkb)), (blinesc, iA G 504 vbl), (bversions, oX8 8 3 bversionsc (nI (kbversions + 1))), (bversionsc, iA G 24 f13404), (bsteps, oX8 960 1 bstepsc (nI (vkc + 1))), (bstepsc, iA G 960 f13421)]) hP hD (fun hP hD => ?_)
            have w3422 := hr3419
            refine lv_iinc (v := nI (kQ + 1)) (lv' := [(4, .int (nI (kQ + 1))), (3, .int (nI kbsteps)), (2, .int (nI kbversions)), (0, .ref h0), (1, .ref bb)]) hx hb gX10_store_9.2.2.1 hl (k := 0) rfl (nI_1 _) (by decide) rfl (fun ls hl => ?_)
            refine lv_goto (tgt := 154) hx hb gX10_store_9.2.2.2.1 (by decide) ?_
            refine Kpds (ws' := [(h0, oX10 tby (nI kt) tln tsp tkd ts9 tn9 tf9), (tln, oX8 9 7 tlnc (nI kln)), (tlnc, iA G 63 ftln), (tsp, oX8 120 1 tspc (nI ksp)), (tspc, iA G 120 ftsp), (bb, oX0 bpersons bpapers bstamps bversions blines bsteps bsayings bfindings bwarnings bquestions td vd vl gp), (blines, oX8 72 7 blinesc (nI vkb)), (blinesc, iA G 504 vbl), (bsteps, oX8 960 1 bstepsc (nI (vkc + 1))), (bstepsc, iA G 960 f13421), (bversions, oX8 8 3 bversionsc (nI (kbversions + 1))), (bversionsc, iA G 24 f13404)]) hP hD [0, 1, 2, 3, 4, 5, 6, 7, 10, 11, 8, 9] fm_0_1_2_3_4_5_6_7_10_11_8_9 nd_0_1_2_3_4_5_6_7_10_11_8_9 sm_0_1_2_3_4_5_6_7_10_11_8_9 (fun hP hD => ?_)
            exact ihQ (kQ + 1) f13421 (vkc + 1) _ _ _ (by omega) (by first | assumption | exact Or.inl rfl | exact Or.inr rfl | omega) (And.intro hP hD) hS (lv_sub hl [0, 1, 2, 3, 4] rfl)
          · refine iV (wr := [(h0, oX10 tby (nI kt) tln tsp tkd ts9 tn9 tf9), (tln, oX8 9 7 tlnc (nI kln)), (tlnc, iA G 63 ftln), (tsp, oX8 120 1 tspc (nI ksp)), (tspc, iA G 120 ftsp), (bb, oX0 bpersons bpapers bstamps bversions blines bsteps bsayings bfindings bwarnings bquestions td vd vl gp), (blines, oX8 72 7 blinesc (nI vkb)), (blinesc, iA G 504 vbl), (bstepsc, iA G 960 vbs), (bversions, oX8 8 3 bversionsc (nI (kbversions + 1))), (bversionsc, iA G 24 f13404)]) hC hK hl hP hD hS hA (c_T_appendF l G bsteps 960 1 bstepsc vkc (by omega) (by omega)) si_X10_59 [8] [0, 1, 2, 3, 4, 5, 6, 7, 9, 10, 11] sm_8 fm_8 nd_8 sm_0_1_2_3_4_5_6_7_9_10_11 nd_0_1_2_3_4_5_6_7_9_10_11 dj_8__0_1_2_3_4_5_6_7_9_10_11 rfl rfl rfl rfl rfl (Nat.le_of_ble_eq_true rfl) rm_3_1_1 ⟨Nat.le_of_ble_eq_true rfl, Nat.le_of_ble_eq_true rfl⟩ gX10_store_8.2.2.2.2.1 (fun r3423 u3424 H locs hr3423 hP hD hS => ?_)
            refine Kpdr (ws := [(h0, oX10 tby (nI kt) tln tsp tkd ts9 tn9 tf9), (tln, oX8 9 7 tlnc (nI kln)), (tlnc, iA G 63 ftln), (tsp, oX8 120 1 tspc (nI ksp)), (tspc, iA G 120 ftsp), (bb, oX0 bpersons bpapers bstamps bversions blines bsteps bsayings bfindings bwarnings bquestions td vd vl gp), (blines, oX8 72 7 blinesc (nI vkb)), (blinesc, iA G 504 vbl), (bstepsc, iA G 960 vbs), (bversions, oX8 8 3 bversionsc (nI (kbversions + 1))), (bversionsc, iA G 24 f13404), (bsteps, oX8 960 1 bstepsc (nI vkc))]) hP hD (fun hP hD => ?_)
            obtain rfl := hr3423
            refine lv_iconst (v := 0) hx hb gX10_store_8.2.2.2.2.2.1 (by decide) ?_
            refine lv_aload_n hx hb gX10_store_8.2.2.2.2.2.2.1 rfl (lv_at3 hl) ?_
            refine gf_X10_24 hC rfl hK hP 0 rfl rfl gX10_store_8.2.2.2.2.2.2.2.1 ?_
            refine lv_iload hx hb gX10_store_8.2.2.2.2.2.2.2.2.1 (lv_at0 hl) ?_
            refine lv_iconst (v := 0) hx hb gX10_store_8.2.2.2.2.2.2.2.2.2 (by decide) ?_
            refine pV hC hK hl hP hD (c_T_at l G tsp (nI kQ) 0 120 1 tspc ksp ftsp (hksp) (by omega) (by omega)) si_X10_74 [3, 4] sm_3_4 fm_3_4 nd_3_4 rfl rfl rfl rfl rfl (Nat.le_of_ble_eq_true rfl) rm_3_1_3 ⟨by first | exact Nat.le_of_ble_eq_true rfl | exact Nat.zero_le _, by first | exact Nat.le_of_ble_eq_true rfl | exact Nat.zero_le _⟩ gX10_store_9.1 (fun r3426 hr3426 => ?_)
            refine vV (wr := [(h0, oX10 tby (nI kt) tln tsp tkd ts9 tn9 tf9), (tln, oX8 9 7 tlnc (nI kln)), (tlnc, iA G 63 ftln), (tsp, oX8 120 1 tspc (nI ksp)), (tspc, iA G 120 ftsp), (bb, oX0 bpersons bpapers bstamps bversions blines bsteps bsayings bfindings bwarnings bquestions td vd vl gp), (blines, oX8 72 7 blinesc (nI vkb)), (blinesc, iA G 504 vbl), (bversions, oX8 8 3 bversionsc (nI (kbversions + 1))), (bversionsc, iA G 24 f13404)]) hC hK hl hP hD hS hA (c_T_set l G bsteps (-2) 0 r3426 960 1 bstepsc vkc vbs (hvkc) (by omega) (by omega)) si_X10_66 [11, 8] [0, 1, 2, 3, 4, 5, 6, 7, 9, 10] sm_11_8 fm_11_8 nd_11_8 sm_0_1_2_3_4_5_6_7_9_10 nd_0_1_2_3_4_5_6_7_9_10 dj_11_8__0_1_2_3_4_5_6_7_9_10 rfl rfl rfl rfl rfl (Nat.le_of_ble_eq_true rfl) rm_3_1_4 ⟨Nat.le_of_ble_eq_true rfl, Nat.le_of_ble_eq_true rfl⟩ gX10_store_9.2.1 (fun f13430 H locs hr3428 hP hD hS => ?_)
            try dsimp only at hr3428
            refine Kpdr (ws := [(h0, oX10 tby (nI kt) tln tsp tkd ts9 tn9 tf9), (tln, oX8 9 7 tlnc (nI kln)), (tlnc, iA G 63 ftln), (tsp, oX8 120 1 tspc (nI ksp)), (tspc, iA G 120 ftsp), (bb, oX0 bpersons bpapers bstamps bversions blines bsteps bsayings bfindings bwarnings bquestions td vd vl gp), (blines, oX8 72 7 blinesc (nI vkb)), (blinesc, iA G 504 vbl), (bversions, oX8 8 3 bversionsc (nI (kbversions + 1))), (bversionsc, iA G 24 f13404), (bsteps, oX8 960 1 bstepsc (nI vkc)), (bstepsc, iA G 960 f13430)]) hP hD (fun hP hD => ?_)
            have w3431 := hr3428
            refine lv_iinc (v := nI (kQ + 1)) (lv' := [(4, .int (nI (kQ + 1))), (3, .int (nI kbsteps)), (2, .int (nI kbversions)), (0, .ref h0), (1, .ref bb)]) hx hb gX10_store_9.2.2.1 hl (k := 0) rfl (nI_1 _) (by decide) rfl (fun ls hl => ?_)
            refine lv_goto (tgt := 154) hx hb gX10_store_9.2.2.2.1 (by decide) ?_
            refine Kpds (ws' := [(h0, oX10 tby (nI kt) tln tsp tkd ts9 tn9 tf9), (tln, oX8 9 7 tlnc (nI kln)), (tlnc, iA G 63 ftln), (tsp, oX8 120 1 tspc (nI ksp)), (tspc, iA G 120 ftsp), (bb, oX0 bpersons bpapers bstamps bversions blines bsteps bsayings bfindings bwarnings bquestions td vd vl gp), (blines, oX8 72 7 blinesc (nI vkb)), (blinesc, iA G 504 vbl), (bsteps, oX8 960 1 bstepsc (nI vkc)), (bstepsc, iA G 960 f13430), (bversions, oX8 8 3 bversionsc (nI (kbversions + 1))), (bversionsc, iA G 24 f13404)]) hP hD [0, 1, 2, 3, 4, 5, 6, 7, 10, 11, 8, 9] fm_0_1_2_3_4_5_6_7_10_11_8_9 nd_0_1_2_3_4_5_6_7_10_11_8_9 sm_0_1_2_3_4_5_6_7_10_11_8_9 (fun hP hD => ?_)
            exact ihQ (kQ + 1) f13430 vkc _ _ _ (by omega) (by first | assumption | exact Or.inl rfl | exact Or.inr rfl | omega) (And.intro hP hD) hS (lv_sub hl [0, 1, 2, 3, 4] rfl)
      exact keyQ ksp 0 fbsteps kbsteps _ _ _ (by omega) (by first | assumption | exact Or.inl rfl | exact Or.inr rfl | omega) (And.intro hP hD) hS (lv_sub hl [0, 1, 2, 3, 4] rfl)
    | succ nP ihP =>
      intro kP vbl vkb H locs ls hkP hvkb hPD hS hl
      refine Kan2 hPD (fun hP hD => ?_)
      refine lv_iload hx hb gX10_store_3.2.2.2.1 (lv_at0 hl) ?_
      refine lv_aload_n hx hb gX10_store_3.2.2.2.2.1 rfl (lv_at3 hl) ?_
      refine gf_X10_20 hC rfl hK hP 0 rfl rfl gX10_store_3.2.2.2.2.2.1 ?_
      refine pV hC hK hl hP hD (c_T_count l G tln 9 7 tlnc kln) si_X10_71 [1] sm_1 fm_1 nd_1 rfl rfl rfl rfl rfl (Nat.le_of_ble_eq_true rfl) rm_3_1_1 ⟨by first | exact Nat.le_of_ble_eq_true rfl | exact Nat.zero_le _, by first | exact Nat.le_of_ble_eq_true rfl | exact Nat.zero_le _⟩ gX10_store_3.2.2.2.2.2.2.1 (Keqr ?_)
      refine lv_icmp_ge (tgt := 151) hx hb gX10_store_3.2.2.2.2.2.2.2.1 (by decide) (fun c9 => absurd c9 (nI_ge (a := kP) (b := kln) (by omega) (by omega))) (fun _ => ?_)
      refine lv_aload_n hx hb gX10_store_3.2.2.2.2.2.2.2.2.1 rfl (lv_at4 hl) ?_
      refine gf_X10_70 hC rfl hK hP 5 rfl rfl gX10_store_3.2.2.2.2.2.2.2.2.2 ?_
      rcases Nat.lt_or_ge vkb 72 with hcap9 | hcap9
      · refine iV (wr := [(h0, oX10 tby (nI kt) tln tsp tkd ts9 tn9 tf9), (tln, oX8 9 7 tlnc (nI kln)), (tlnc, iA G 63 ftln), (tsp, oX8 120 1 tspc (nI ksp)), (tspc, iA G 120 ftsp), (bb, oX0 bpersons bpapers bstamps bversions blines bsteps bsayings bfindings bwarnings bquestions td vd vl gp), (blinesc, iA G 504 vbl), (bsteps, oX8 960 1 bstepsc (nI kbsteps)), (bstepsc, iA G 960 fbsteps), (bversions, oX8 8 3 bversionsc (nI (kbversions + 1))), (bversionsc, iA G 24 f13404)]) hC hK hl hP hD hS hA (c_T_append l G blines 72 7 blinesc vkb (by omega) (by omega)) si_X10_59 [6] [0, 1, 2, 3, 4, 5, 7, 8, 9, 10, 11] sm_6 fm_6 nd_6 sm_0_1_2_3_4_5_7_8_9_10_11 nd_0_1_2_3_4_5_7_8_9_10_11 dj_6__0_1_2_3_4_5_7_8_9_10_11 rfl rfl rfl rfl rfl (Nat.le_of_ble_eq_true rfl) rm_3_1_1 ⟨Nat.le_of_ble_eq_true rfl, Nat.le_of_ble_eq_true rfl⟩ gX10_store_4.1 (fun r3434 u3435 H locs hr3434 hP hD hS => ?_)
        refine Kpdr (ws := [(h0, oX10 tby (nI kt) tln tsp tkd ts9 tn9 tf9), (tln, oX8 9 7 tlnc (nI kln)), (tlnc, iA G 63 ftln), (tsp, oX8 120 1 tspc (nI ksp)), (tspc, iA G 120 ftsp), (bb, oX0 bpersons bpapers bstamps bversions blines bsteps bsayings bfindings bwarnings bquestions td vd vl gp), (blinesc, iA G 504 vbl), (bsteps, oX8 960 1 bstepsc (nI kbsteps)), (bstepsc, iA G 960 fbsteps), (bversions, oX8 8 3 bversionsc (nI (kbversions + 1))), (bversionsc, iA G 24 f13404), (blines, oX8 72 7 blinesc (nI (vkb + 1)))]) hP hD (fun hP hD => ?_)
        obtain rfl := hr3434
        refine lv_istore (lv' := [(5, .int (nI vkb)), (4, .int (nI kP)), (3, .int (nI kbsteps)), (2, .int (nI kbversions)), (0, .ref h0), (1, .ref bb)]) hx hb gX10_store_4.2.1 hl (by decide) rfl (fun ls hl => ?_)
        refine lv_iconst (v := 0) hx hb gX10_store_4.2.2.1 (by decide) ?_
        refine lv_istore (lv' := [(6, .int 0), (5, .int (nI vkb)), (4, .int (nI kP)), (3, .int (nI kbsteps)), (2, .int (nI kbversions)), (0, .ref h0), (1, .ref bb)]) hx hb gX10_store_4.2.2.2.1 hl (by decide) rfl (fun ls hl => ?_)
        refine lv_iload hx hb gX10_store_4.2.2.2.2.1 (lv_at0 hl) ?_
        refine lv_bipush (v := 6) hx hb gX10_store_4.2.2.2.2.2.1 (by decide) ?_
        refine lv_icmp_gt (tgt := 123) hx hb gX10_store_4.2.2.2.2.2.2.1 (by decide) (fun c9 => absurd c9 (by decide)) (fun _ => ?_)
        refine lv_aload_n hx hb gX10_store_4.2.2.2.2.2.2.2.1 rfl (lv_at6 hl) ?_
        refine gf_X10_70 hC rfl hK hP 5 rfl rfl gX10_store_4.2.2.2.2.2.2.2.2.1 ?_
        refine lv_iload hx hb gX10_store_4.2.2.2.2.2.2.2.2.2 (lv_at1 hl) ?_
        refine lv_iload hx hb gX10_store_5.1 (lv_at0 hl) ?_
        refine lv_aload_n hx hb gX10_store_5.2.1 rfl (lv_at5 hl) ?_
        refine gf_X10_20 hC rfl hK hP 0 rfl rfl gX10_store_5.2.2.1 ?_
        refine lv_iload hx hb gX10_store_5.2.2.2.1 (lv_at2 hl) ?_
        refine lv_iload hx hb gX10_store_5.2.2.2.2.1 (lv_at0 hl) ?_
        refine pV hC hK hl hP hD (c_T_at l G tln (nI kP) 0 9 7 tlnc kln ftln (hkln) (by omega) (by omega)) si_X10_74 [1, 2] sm_1_2 fm_1_2 nd_1_2 rfl rfl rfl rfl rfl (Nat.le_of_ble_eq_true rfl) rm_3_1_3 ⟨by first | exact Nat.le_of_ble_eq_true rfl | exact Nat.zero_le _, by first | exact Nat.le_of_ble_eq_true rfl | exact Nat.zero_le _⟩ gX10_store_5.2.2.2.2.2.1 (fun r3437 hr3437 => ?_)
        refine vV (wr := [(h0, oX10 tby (nI kt) tln tsp tkd ts9 tn9 tf9), (tln, oX8 9 7 tlnc (nI kln)), (tlnc, iA G 63 ftln), (tsp, oX8 120 1 tspc (nI ksp)), (tspc, iA G 120 ftsp), (bb, oX0 bpersons bpapers bstamps bversions blines bsteps bsayings bfindings bwarnings bquestions td vd vl gp), (bsteps, oX8 960 1 bstepsc (nI kbsteps)), (bstepsc, iA G 960 fbsteps), (bversions, oX8 8 3 bversionsc (nI (kbversions + 1))), (bversionsc, iA G 24 f13404)]) hC hK hl hP hD hS hA (c_T_set l G blines (nI vkb) 0 r3437 72 7 blinesc (vkb + 1) vbl (by omega) (by omega) (by omega)) si_X10_66 [11, 6] [0, 1, 2, 3, 4, 5, 7, 8, 9, 10] sm_11_6 fm_11_6 nd_11_6 sm_0_1_2_3_4_5_7_8_9_10 nd_0_1_2_3_4_5_7_8_9_10 dj_11_6__0_1_2_3_4_5_7_8_9_10 rfl rfl rfl rfl rfl (Nat.le_of_ble_eq_true rfl) rm_3_1_4 ⟨Nat.le_of_ble_eq_true rfl, Nat.le_of_ble_eq_true rfl⟩ gX10_store_5.2.2.2.2.2.2.1 (fun f13441 H locs hr3439 hP hD hS => ?_)
        try dsimp only at hr3439
        refine Kpdr (ws := [(h0, oX10 tby (nI kt) tln tsp tkd ts9 tn9 tf9), (tln, oX8 9 7 tlnc (nI kln)), (tlnc, iA G 63 ftln), (tsp, oX8 120 1 tspc (nI ksp)), (tspc, iA G 120 ftsp), (bb, oX0 bpersons bpapers bstamps bversions blines bsteps bsayings bfindings bwarnings bquestions td vd vl gp), (bsteps, oX8 960 1 bstepsc (nI kbsteps)), (bstepsc, iA G 960 fbsteps), (bversions, oX8 8 3 bversionsc (nI (kbversions + 1))), (bversionsc, iA G 24 f13404), (blines, oX8 72 7 blinesc (nI (vkb + 1))), (blinesc, iA G 504 f13441)]) hP hD (fun hP hD => ?_)
        have w3442 := hr3439
        refine lv_iinc (v := 1) (lv' := [(6, .int 1), (5, .int (nI vkb)), (4, .int (nI kP)), (3, .int (nI kbsteps)), (2, .int (nI kbversions)), (0, .ref h0), (1, .ref bb)]) hx hb gX10_store_5.2.2.2.2.2.2.2.1 hl (k := 0) rfl (by decide) (by decide) rfl (fun ls hl => ?_)
        refine lv_goto (tgt := 88) hx hb gX10_store_5.2.2.2.2.2.2.2.2.1 (by decide) ?_
        refine lv_iload hx hb gX10_store_4.2.2.2.2.1 (lv_at0 hl) ?_
        refine lv_bipush (v := 6) hx hb gX10_store_4.2.2.2.2.2.1 (by decide) ?_
        refine lv_icmp_gt (tgt := 123) hx hb gX10_store_4.2.2.2.2.2.2.1 (by decide) (fun c9 => absurd c9 (by decide)) (fun _ => ?_)
        refine lv_aload_n hx hb gX10_store_4.2.2.2.2.2.2.2.1 rfl (lv_at6 hl) ?_
        refine gf_X10_70 hC rfl hK hP 5 rfl rfl gX10_store_4.2.2.2.2.2.2.2.2.1 ?_
        refine lv_iload hx hb gX10_store_4.2.2.2.2.2.2.2.2.2 (lv_at1 hl) ?_
        refine lv_iload hx hb gX10_store_5.1 (lv_at0 hl) ?_
        refine lv_aload_n hx hb gX10_store_5.2.1 rfl (lv_at5 hl) ?_
        refine gf_X10_20 hC rfl hK hP 0 rfl rfl gX10_store_5.2.2.1 ?_
        refine lv_iload hx hb gX10_store_5.2.2.2.1 (lv_at2 hl) ?_
        refine lv_iload hx hb gX10_store_5.2.2.2.2.1 (lv_at0 hl) ?_
        refine pV hC hK hl hP hD (c_T_at l G tln (nI kP) 1 9 7 tlnc kln ftln (hkln) (by omega) (by omega)) si_X10_74 [1, 2] sm_1_2 fm_1_2 nd_1_2 rfl rfl rfl rfl rfl (Nat.le_of_ble_eq_true rfl) rm_3_1_3 ⟨by first | exact Nat.le_of_ble_eq_true rfl | exact Nat.zero_le _, by first | exact Nat.le_of_ble_eq_true rfl | exact Nat.zero_le _⟩ gX10_store_5.2.2.2.2.2.1 (fun r3443 hr3443 => ?_)
        refine vV (wr := [(h0, oX10 tby (nI kt) tln tsp tkd ts9 tn9 tf9), (tln, oX8 9 7 tlnc (nI kln)), (tlnc, iA G 63 ftln), (tsp, oX8 120 1 tspc (nI ksp)), (tspc, iA G 120 ftsp), (bb, oX0 bpersons bpapers bstamps bversions blines bsteps bsayings bfindings bwarnings bquestions td vd vl gp), (bsteps, oX8 960 1 bstepsc (nI kbsteps)), (bstepsc, iA G 960 fbsteps), (bversions, oX8 8 3 bversionsc (nI (kbversions + 1))), (bversionsc, iA G 24 f13404)]) hC hK hl hP hD hS hA (c_T_set l G blines (nI vkb) 1 r3443 72 7 blinesc (vkb + 1) f13441 (by omega) (by omega) (by omega)) si_X10_66 [10, 11] [0, 1, 2, 3, 4, 5, 6, 7, 8, 9] sm_10_11 fm_10_11 nd_10_11 sm_0_1_2_3_4_5_6_7_8_9 nd_0_1_2_3_4_5_6_7_8_9 dj_10_11__0_1_2_3_4_5_6_7_8_9 rfl rfl rfl rfl rfl (Nat.le_of_ble_eq_true rfl) rm_3_1_4 ⟨Nat.le_of_ble_eq_true rfl, Nat.le_of_ble_eq_true rfl⟩ gX10_store_5.2.2.2.2.2.2.1 (fun f13447 H locs hr3445 hP hD hS => ?_)
        try dsimp only at hr3445
        refine Kpdr (ws := [(h0, oX10 tby (nI kt) tln tsp tkd ts9 tn9 tf9), (tln, oX8 9 7 tlnc (nI kln)), (tlnc, iA G 63 ftln), (tsp, oX8 120 1 tspc (nI ksp)), (tspc, iA G 120 ftsp), (bb, oX0 bpersons bpapers bstamps bversions blines bsteps bsayings bfindings bwarnings bquestions td vd vl gp), (bsteps, oX8 960 1 bstepsc (nI kbsteps)), (bstepsc, iA G 960 fbsteps), (bversions, oX8 8 3 bversionsc (nI (kbversions + 1))), (bversionsc, iA G 24 f13404), (blines, oX8 72 7 blinesc (nI (vkb + 1))), (blinesc, iA G 504 f13447)]) hP hD (fun hP hD => ?_)
        have w3448 := hr3445
        refine lv_iinc (v := 2) (lv' := [(6, .int 2), (5, .int (nI vkb)), (4, .int (nI kP)), (3, .int (nI kbsteps)), (2, .int (nI kbversions)), (0, .ref h0), (1, .ref bb)]) hx hb gX10_store_5.2.2.2.2.2.2.2.1 hl (k := 0) rfl (by decide) (by decide) rfl (fun ls hl => ?_)
        refine lv_goto (tgt := 88) hx hb gX10_store_5.2.2.2.2.2.2.2.2.1 (by decide) ?_
        refine lv_iload hx hb gX10_store_4.2.2.2.2.1 (lv_at0 hl) ?_
        refine lv_bipush (v := 6) hx hb gX10_store_4.2.2.2.2.2.1 (by decide) ?_
        refine lv_icmp_gt (tgt := 123) hx hb gX10_store_4.2.2.2.2.2.2.1 (by decide) (fun c9 => absurd c9 (by decide)) (fun _ => ?_)
        refine lv_aload_n hx hb gX10_store_4.2.2.2.2.2.2.2.1 rfl (lv_at6 hl) ?_
        refine gf_X10_70 hC rfl hK hP 5 rfl rfl gX10_store_4.2.2.2.2.2.2.2.2.1 ?_
        refine lv_iload hx hb gX10_store_4.2.2.2.2.2.2.2.2.2 (lv_at1 hl) ?_
        refine lv_iload hx hb gX10_store_5.1 (lv_at0 hl) ?_
        refine lv_aload_n hx hb gX10_store_5.2.1 rfl (lv_at5 hl) ?_
        refine gf_X10_20 hC rfl hK hP 0 rfl rfl gX10_store_5.2.2.1 ?_
        refine lv_iload hx hb gX10_store_5.2.2.2.1 (lv_at2 hl) ?_
        refine lv_iload hx hb gX10_store_5.2.2.2.2.1 (lv_at0 hl) ?_
        refine pV hC hK hl hP hD (c_T_at l G tln (nI kP) 2 9 7 tlnc kln ftln (hkln) (by omega) (by omega)) si_X10_74 [1, 2] sm_1_2 fm_1_2 nd_1_2 rfl rfl rfl rfl rfl (Nat.le_of_ble_eq_true rfl) rm_3_1_3 ⟨by first | exact Nat.le_of_ble_eq_true rfl | exact Nat.zero_le _, by first | exact Nat.le_of_ble_eq_true rfl | exact Nat.zero_le _⟩ gX10_store_5.2.2.2.2.2.1 (fun r3449 hr3449 => ?_)
        refine vV (wr := [(h0, oX10 tby (nI kt) tln tsp tkd ts9 tn9 tf9), (tln, oX8 9 7 tlnc (nI kln)), (tlnc, iA G 63 ftln), (tsp, oX8 120 1 tspc (nI ksp)), (tspc, iA G 120 ftsp), (bb, oX0 bpersons bpapers bstamps bversions blines bsteps bsayings bfindings bwarnings bquestions td vd vl gp), (bsteps, oX8 960 1 bstepsc (nI kbsteps)), (bstepsc, iA G 960 fbsteps), (bversions, oX8 8 3 bversionsc (nI (kbversions + 1))), (bversionsc, iA G 24 f13404)]) hC hK hl hP hD hS hA (c_T_set l G blines (nI vkb) 2 r3449 72 7 blinesc (vkb + 1) f13447 (by omega) (by omega) (by omega)) si_X10_66 [10, 11] [0, 1, 2, 3, 4, 5, 6, 7, 8, 9] sm_10_11 fm_10_11 nd_10_11 sm_0_1_2_3_4_5_6_7_8_9 nd_0_1_2_3_4_5_6_7_8_9 dj_10_11__0_1_2_3_4_5_6_7_8_9 rfl rfl rfl rfl rfl (Nat.le_of_ble_eq_true rfl) rm_3_1_4 ⟨Nat.le_of_ble_eq_true rfl, Nat.le_of_ble_eq_true rfl⟩ gX10_store_5.2.2.2.2.2.2.1 (fun f13453 H locs hr3451 hP hD hS => ?_)
        try dsimp only at hr3451
        refine Kpdr (ws := [(h0, oX10 tby (nI kt) tln tsp tkd ts9 tn9 tf9), (tln, oX8 9 7 tlnc (nI kln)), (tlnc, iA G 63 ftln), (tsp, oX8 120 1 tspc (nI ksp)), (tspc, iA G 120 ftsp), (bb, oX0 bpersons bpapers bstamps bversions blines bsteps bsayings bfindings bwarnings bquestions td vd vl gp), (bsteps, oX8 960 1 bstepsc (nI kbsteps)), (bstepsc, iA G 960 fbsteps), (bversions, oX8 8 3 bversionsc (nI (kbversions + 1))), (bversionsc, iA G 24 f13404), (blines, oX8 72 7 blinesc (nI (vkb + 1))), (blinesc, iA G 504 f13453)]) hP hD (fun hP hD => ?_)
        have w3454 := hr3451
        refine lv_iinc (v := 3) (lv' := [(6, .int 3), (5, .int (nI vkb)), (4, .int (nI kP)), (3, .int (nI kbsteps)), (2, .int (nI kbversions)), (0, .ref h0), (1, .ref bb)]) hx hb gX10_store_5.2.2.2.2.2.2.2.1 hl (k := 0) rfl (by decide) (by decide) rfl (fun ls hl => ?_)
        refine lv_goto (tgt := 88) hx hb gX10_store_5.2.2.2.2.2.2.2.2.1 (by decide) ?_
        refine lv_iload hx hb gX10_store_4.2.2.2.2.1 (lv_at0 hl) ?_
        refine lv_bipush (v := 6) hx hb gX10_store_4.2.2.2.2.2.1 (by decide) ?_
        refine lv_icmp_gt (tgt := 123) hx hb gX10_store_4.2.2.2.2.2.2.1 (by decide) (fun c9 => absurd c9 (by decide)) (fun _ => ?_)
        refine lv_aload_n hx hb gX10_store_4.2.2.2.2.2.2.2.1 rfl (lv_at6 hl) ?_
        refine gf_X10_70 hC rfl hK hP 5 rfl rfl gX10_store_4.2.2.2.2.2.2.2.2.1 ?_
        refine lv_iload hx hb gX10_store_4.2.2.2.2.2.2.2.2.2 (lv_at1 hl) ?_
        refine lv_iload hx hb gX10_store_5.1 (lv_at0 hl) ?_
        refine lv_aload_n hx hb gX10_store_5.2.1 rfl (lv_at5 hl) ?_
        refine gf_X10_20 hC rfl hK hP 0 rfl rfl gX10_store_5.2.2.1 ?_
        refine lv_iload hx hb gX10_store_5.2.2.2.1 (lv_at2 hl) ?_
        refine lv_iload hx hb gX10_store_5.2.2.2.2.1 (lv_at0 hl) ?_
        refine pV hC hK hl hP hD (c_T_at l G tln (nI kP) 3 9 7 tlnc kln ftln (hkln) (by omega) (by omega)) si_X10_74 [1, 2] sm_1_2 fm_1_2 nd_1_2 rfl rfl rfl rfl rfl (Nat.le_of_ble_eq_true rfl) rm_3_1_3 ⟨by first | exact Nat.le_of_ble_eq_true rfl | exact Nat.zero_le _, by first | exact Nat.le_of_ble_eq_true rfl | exact Nat.zero_le _⟩ gX10_store_5.2.2.2.2.2.1 (fun r3455 hr3455 => ?_)
        refine vV (wr := [(h0, oX10 tby (nI kt) tln tsp tkd ts9 tn9 tf9), (tln, oX8 9 7 tlnc (nI kln)), (tlnc, iA G 63 ftln), (tsp, oX8 120 1 tspc (nI ksp)), (tspc, iA G 120 ftsp), (bb, oX0 bpersons bpapers bstamps bversions blines bsteps bsayings bfindings bwarnings bquestions td vd vl gp), (bsteps, oX8 960 1 bstepsc (nI kbsteps)), (bstepsc, iA G 960 fbsteps), (bversions, oX8 8 3 bversionsc (nI (kbversions + 1))), (bversionsc, iA G 24 f13404)]) hC hK hl hP hD hS hA (c_T_set l G blines (nI vkb) 3 r3455 72 7 blinesc (vkb + 1) f13453 (by omega) (by omega) (by omega)) si_X10_66 [10, 11] [0, 1, 2, 3, 4, 5, 6, 7, 8, 9] sm_10_11 fm_10_11 nd_10_11 sm_0_1_2_3_4_5_6_7_8_9 nd_0_1_2_3_4_5_6_7_8_9 dj_10_11__0_1_2_3_4_5_6_7_8_9 rfl rfl rfl rfl rfl (Nat.le_of_ble_eq_true rfl) rm_3_1_4 ⟨Nat.le_of_ble_eq_true rfl, Nat.le_of_ble_eq_true rfl⟩ gX10_store_5.2.2.2.2.2.2.1 (fun f13459 H locs hr3457 hP hD hS => ?_)
        try dsimp only at hr3457
        refine Kpdr (ws := [(h0, oX10 tby (nI kt) tln tsp tkd ts9 tn9 tf9), (tln, oX8 9 7 tlnc (nI kln)), (tlnc, iA G 63 ftln), (tsp, oX8 120 1 tspc (nI ksp)), (tspc, iA G 120 ftsp), (bb, oX0 bpersons bpapers bstamps bversions blines bsteps bsayings bfindings bwarnings bquestions td vd vl gp), (bsteps, oX8 960 1 bstepsc (nI kbsteps)), (bstepsc, iA G 960 fbsteps), (bversions, oX8 8 3 bversionsc (nI (kbversions + 1))), (bversionsc, iA G 24 f13404), (blines, oX8 72 7 blinesc (nI (vkb + 1))), (blinesc, iA G 504 f13459)]) hP hD (fun hP hD => ?_)
        have w3460 := hr3457
        refine lv_iinc (v := 4) (lv' := [(6, .int 4), (5, .int (nI vkb)), (4, .int (nI kP)), (3, .int (nI kbsteps)), (2, .int (nI kbversions)), (0, .ref h0), (1, .ref bb)]) hx hb gX10_store_5.2.2.2.2.2.2.2.1 hl (k := 0) rfl (by decide) (by decide) rfl (fun ls hl => ?_)
        refine lv_goto (tgt := 88) hx hb gX10_store_5.2.2.2.2.2.2.2.2.1 (by decide) ?_
        refine lv_iload hx hb gX10_store_4.2.2.2.2.1 (lv_at0 hl) ?_
        refine lv_bipush (v := 6) hx hb gX10_store_4.2.2.2.2.2.1 (by decide) ?_
        refine lv_icmp_gt (tgt := 123) hx hb gX10_store_4.2.2.2.2.2.2.1 (by decide) (fun c9 => absurd c9 (by decide)) (fun _ => ?_)
        refine lv_aload_n hx hb gX10_store_4.2.2.2.2.2.2.2.1 rfl (lv_at6 hl) ?_
        refine gf_X10_70 hC rfl hK hP 5 rfl rfl gX10_store_4.2.2.2.2.2.2.2.2.1 ?_
        refine lv_iload hx hb gX10_store_4.2.2.2.2.2.2.2.2.2 (lv_at1 hl) ?_
        refine lv_iload hx hb gX10_store_5.1 (lv_at0 hl) ?_
        refine lv_aload_n hx hb gX10_store_5.2.1 rfl (lv_at5 hl) ?_
        refine gf_X10_20 hC rfl hK hP 0 rfl rfl gX10_store_5.2.2.1 ?_
        refine lv_iload hx hb gX10_store_5.2.2.2.1 (lv_at2 hl) ?_
        refine lv_iload hx hb gX10_store_5.2.2.2.2.1 (lv_at0 hl) ?_
        refine pV hC hK hl hP hD (c_T_at l G tln (nI kP) 4 9 7 tlnc kln ftln (hkln) (by omega) (by omega)) si_X10_74 [1, 2] sm_1_2 fm_1_2 nd_1_2 rfl rfl rfl rfl rfl (Nat.le_of_ble_eq_true rfl) rm_3_1_3 ⟨by first | exact Nat.le_of_ble_eq_true rfl | exact Nat.zero_le _, by first | exact Nat.le_of_ble_eq_true rfl | exact Nat.zero_le _⟩ gX10_store_5.2.2.2.2.2.1 (fun r3461 hr3461 => ?_)
        refine vV (wr := [(h0, oX10 tby (nI kt) tln tsp tkd ts9 tn9 tf9), (tln, oX8 9 7 tlnc (nI kln)), (tlnc, iA G 63 ftln), (tsp, oX8 120 1 tspc (nI ksp)), (tspc, iA G 120 ftsp), (bb, oX0 bpersons bpapers bstamps bversions blines bsteps bsayings bfindings bwarnings bquestions td vd vl gp), (bsteps, oX8 960 1 bstepsc (nI kbsteps)), (bstepsc, iA G 960 fbsteps), (bversions, oX8 8 3 bversionsc (nI (kbversions + 1))), (bversionsc, iA G 24 f13404)]) hC hK hl hP hD hS hA (c_T_set l G blines (nI vkb) 4 r3461 72 7 blinesc (vkb + 1) f13459 (by omega) (by omega) (by omega)) si_X10_66 [10, 11] [0, 1, 2, 3, 4, 5, 6, 7, 8, 9] sm_10_11 fm_10_11 nd_10_11 sm_0_1_2_3_4_5_6_7_8_9 nd_0_1_2_3_4_5_6_7_8_9 dj_10_11__0_1_2_3_4_5_6_7_8_9 rfl rfl rfl rfl rfl (Nat.le_of_ble_eq_true rfl) rm_3_1_4 ⟨Nat.le_of_ble_eq_true rfl, Nat.le_of_ble_eq_true rfl⟩ gX10_store_5.2.2.2.2.2.2.1 (fun f13465 H locs hr3463 hP hD hS => ?_)
        try dsimp only at hr3463
        refine Kpdr (ws := [(h0, oX10 tby (nI kt) tln tsp tkd ts9 tn9 tf9), (tln, oX8 9 7 tlnc (nI kln)), (tlnc, iA G 63 ftln), (tsp, oX8 120 1 tspc (nI ksp)), (tspc, iA G 120 ftsp), (bb, oX0 bpersons bpapers bstamps bversions blines bsteps bsayings bfindings bwarnings bquestions td vd vl gp), (bsteps, oX8 960 1 bstepsc (nI kbsteps)), (bstepsc, iA G 960 fbsteps), (bversions, oX8 8 3 bversionsc (nI (kbversions + 1))), (bversionsc, iA G 24 f13404), (blines, oX8 72 7 blinesc (nI (vkb + 1))), (blinesc, iA G 504 f13465)]) hP hD (fun hP hD => ?_)
        have w3466 := hr3463
        refine lv_iinc (v := 5) (lv' := [(6, .int 5), (5, .int (nI vkb)), (4, .int (nI kP)), (3, .int (nI kbsteps)), (2, .int (nI kbversions)), (0, .ref h0), (1, .ref bb)]) hx hb gX10_store_5.2.2.2.2.2.2.2.1 hl (k := 0) rfl (by decide) (by decide) rfl (fun ls hl => ?_)
        refine lv_goto (tgt := 88) hx hb gX10_store_5.2.2.2.2.2.2.2.2.1 (by decide) ?_
        refine lv_iload hx hb gX10_store_4.2.2.2.2.1 (lv_at0 hl) ?_
        refine lv_bipush (v := 6) hx hb gX10_store_4.2.2.2.2.2.1 (by decide) ?_
        refine lv_icmp_gt (tgt := 123) hx hb gX10_store_4.2.2.2.2.2.2.1 (by decide) (fun c9 => absurd c9 (by decide)) (fun _ => ?_)
        refine lv_aload_n hx hb gX10_store_4.2.2.2.2.2.2.2.1 rfl (lv_at6 hl) ?_
        refine gf_X10_70 hC rfl hK hP 5 rfl rfl gX10_store_4.2.2.2.2.2.2.2.2.1 ?_
        refine lv_iload hx hb gX10_store_4.2.2.2.2.2.2.2.2.2 (lv_at1 hl) ?_
        refine lv_iload hx hb gX10_store_5.1 (lv_at0 hl) ?_
        refine lv_aload_n hx hb gX10_store_5.2.1 rfl (lv_at5 hl) ?_
        refine gf_X10_20 hC rfl hK hP 0 rfl rfl gX10_store_5.2.2.1 ?_
        refine lv_iload hx hb gX10_store_5.2.2.2.1 (lv_at2 hl) ?_
        refine lv_iload hx hb gX10_store_5.2.2.2.2.1 (lv_at0 hl) ?_
        refine pV hC hK hl hP hD (c_T_at l G tln (nI kP) 5 9 7 tlnc kln ftln (hkln) (by omega) (by omega)) si_X10_74 [1, 2] sm_1_2 fm_1_2 nd_1_2 rfl rfl rfl rfl rfl (Nat.le_of_ble_eq_true rfl) rm_3_1_3 ⟨by first | exact Nat.le_of_ble_eq_true rfl | exact Nat.zero_le _, by first | exact Nat.le_of_ble_eq_true rfl | exact Nat.zero_le _⟩ gX10_store_5.2.2.2.2.2.1 (fun r3467 hr3467 => ?_)
        refine vV (wr := [(h0, oX10 tby (nI kt) tln tsp tkd ts9 tn9 tf9), (tln, oX8 9 7 tlnc (nI kln)), (tlnc, iA G 63 ftln), (tsp, oX8 120 1 tspc (nI ksp)), (tspc, iA G 120 ftsp), (bb, oX0 bpersons bpapers bstamps bversions blines bsteps bsayings bfindings bwarnings bquestions td vd vl gp), (bsteps, oX8 960 1 bstepsc (nI kbsteps)), (bstepsc, iA G 960 fbsteps), (bversions, oX8 8 3 bversionsc (nI (kbversions + 1))), (bversionsc, iA G 24 f13404)]) hC hK hl hP hD hS hA (c_T_set l G blines (nI vkb) 5 r3467 72 7 blinesc (vkb + 1) f13465 (by omega) (by omega) (by omega)) si_X10_66 [10, 11] [0, 1, 2, 3, 4, 5, 6, 7, 8, 9] sm_10_11 fm_10_11 nd_10_11 sm_0_1_2_3_4_5_6_7_8_9 nd_0_1_2_3_4_5_6_7_8_9 dj_10_11__0_1_2_3_4_5_6_7_8_9 rfl rfl rfl rfl rfl (Nat.le_of_ble_eq_true rfl) rm_3_1_4 ⟨Nat.le_of_ble_eq_true rfl, Nat.le_of_ble_eq_true rfl⟩ gX10_store_5.2.2.2.2.2.2.1 (fun f13471 H locs hr3469 hP hD hS => ?_)
        try dsimp only at hr3469
        refine Kpdr (ws := [(h0, oX10 tby (nI kt) tln tsp tkd ts9 tn9 tf9), (tln, oX8 9 7 tlnc (nI kln)), (tlnc, iA G 63 ftln), (tsp, oX8 120 1 tspc (nI ksp)), (tspc, iA G 120 ftsp), (bb, oX0 bpersons bpapers bstamps bversions blines bsteps bsayings bfindings bwarnings bquestions td vd vl gp), (bsteps, oX8 960 1 bstepsc (nI kbsteps)), (bstepsc, iA G 960 fbsteps), (bversions, oX8 8 3 bversionsc (nI (kbversions + 1))), (bversionsc, iA G 24 f13404), (blines, oX8 72 7 blinesc (nI (vkb + 1))), (blinesc, iA G 504 f13471)]) hP hD (fun hP hD => ?_)
        have w3472 := hr3469
        refine lv_iinc (v := 6) (lv' := [(6, .int 6), (5, .int (nI vkb)), (4, .int (nI kP)), (3, .int (nI kbsteps)), (2, .int (nI kbversions)), (0, .ref h0), (1, .ref bb)]) hx hb gX10_store_5.2.2.2.2.2.2.2.1 hl (k := 0) rfl (by decide) (by decide) rfl (fun ls hl => ?_)
        refine lv_goto (tgt := 88) hx hb gX10_store_5.2.2.2.2.2.2.2.2.1 (by decide) ?_
        refine lv_iload hx hb gX10_store_4.2.2.2.2.1 (lv_at0 hl) ?_
        refine lv_bipush (v := 6) hx hb gX10_store_4.2.2.2.2.2.1 (by decide) ?_
        refine lv_icmp_gt (tgt := 123) hx hb gX10_store_4.2.2.2.2.2.2.1 (by decide) (fun c9 => absurd c9 (by decide)) (fun _ => ?_)
        refine lv_aload_n hx hb gX10_store_4.2.2.2.2.2.2.2.1 rfl (lv_at6 hl) ?_
        refine gf_X10_70 hC rfl hK hP 5 rfl rfl gX10_store_4.2.2.2.2.2.2.2.2.1 ?_
        refine lv_iload hx hb gX10_store_4.2.2.2.2.2.2.2.2.2 (lv_at1 hl) ?_
        refine lv_iload hx hb gX10_store_5.1 (lv_at0 hl) ?_
        refine lv_aload_n hx hb gX10_store_5.2.1 rfl (lv_at5 hl) ?_
        refine gf_X10_20 hC rfl hK hP 0 rfl rfl gX10_store_5.2.2.1 ?_
        refine lv_iload hx hb gX10_store_5.2.2.2.1 (lv_at2 hl) ?_
        refine lv_iload hx hb gX10_store_5.2.2.2.2.1 (lv_at0 hl) ?_
        refine pV hC hK hl hP hD (c_T_at l G tln (nI kP) 6 9 7 tlnc kln ftln (hkln) (by omega) (by omega)) si_X10_74 [1, 2] sm_1_2 fm_1_2 nd_1_2 rfl rfl rfl rfl rfl (Nat.le_of_ble_eq_true rfl) rm_3_1_3 ⟨by first | exact Nat.le_of_ble_eq_true rfl | exact Nat.zero_le _, by first | exact Nat.le_of_ble_eq_true rfl | exact Nat.zero_le _⟩ gX10_store_5.2.2.2.2.2.1 (fun r3473 hr3473 => ?_)
        refine vV (wr := [(h0, oX10 tby (nI kt) tln tsp tkd ts9 tn9 tf9), (tln, oX8 9 7 tlnc (nI kln)), (tlnc, iA G 63 ftln), (tsp, oX8 120 1 tspc (nI ksp)), (tspc, iA G 120 ftsp), (bb, oX0 bpersons bpapers bstamps bversions blines bsteps bsayings bfindings bwarnings bquestions td vd vl gp), (bsteps, oX8 960 1 bstepsc (nI kbsteps)), (bstepsc, iA G 960 fbsteps), (bversions, oX8 8 3 bversionsc (nI (kbversions + 1))), (bversionsc, iA G 24 f13404)]) hC hK hl hP hD hS hA (c_T_set l G blines (nI vkb) 6 r3473 72 7 blinesc (vkb + 1) f13471 (by omega) (by omega) (by omega)) si_X10_66 [10, 11] [0, 1, 2, 3, 4, 5, 6, 7, 8, 9] sm_10_11 fm_10_11 nd_10_11 sm_0_1_2_3_4_5_6_7_8_9 nd_0_1_2_3_4_5_6_7_8_9 dj_10_11__0_1_2_3_4_5_6_7_8_9 rfl rfl rfl rfl rfl (Nat.le_of_ble_eq_true rfl) rm_3_1_4 ⟨Nat.le_of_ble_eq_true rfl, Nat.le_of_ble_eq_true rfl⟩ gX10_store_5.2.2.2.2.2.2.1 (fun f13477 H locs hr3475 hP hD hS => ?_)
        try dsimp only at hr3475
        refine Kpdr (ws := [(h0, oX10 tby (nI kt) tln tsp tkd ts9 tn9 tf9), (tln, oX8 9 7 tlnc (nI kln)), (tlnc, iA G 63 ftln), (tsp, oX8 120 1 tspc (nI ksp)), (tspc, iA G 120 ftsp), (bb, oX0 bpersons bpapers bstamps bversions blines bsteps bsayings bfindings bwarnings bquestions td vd vl gp), (bsteps, oX8 960 1 bstepsc (nI kbsteps)), (bstepsc, iA G 960 fbsteps), (bversions, oX8 8 3 bversionsc (nI (kbversions + 1))), (bversionsc, iA G 24 f13404), (blines, oX8 72 7 blinesc (nI (vkb + 1))), (blinesc, iA G 504 f13477)]) hP hD (fun hP hD => ?_)
        have w3478 := hr3475
        refine lv_iinc (v := 7) (lv' := [(6, .int 7), (5, .int (nI vkb)), (4, .int (nI kP)), (3, .int (nI kbsteps)), (2, .int (nI kbversions)), (0, .ref h0), (1, .ref bb)]) hx hb gX10_store_5.2.2.2.2.2.2.2.1 hl (k := 0) rfl (by decide) (by decide) rfl (fun ls hl => ?_)
        refine lv_goto (tgt := 88) hx hb gX10_store_5.2.2.2.2.2.2.2.2.1 (by decide) ?_
        refine lv_iload hx hb gX10_store_4.2.2.2.2.1 (lv_at0 hl) ?_
        refine lv_bipush (v := 6) hx hb gX10_store_4.2.2.2.2.2.1 (by decide) ?_
        refine lv_icmp_gt (tgt := 123) hx hb gX10_store_4.2.2.2.2.2.2.1 (by decide) (fun _ => ?_) (fun c9 => absurd (by decide) c9)
        refine lv_aload_n hx hb gX10_store_5.2.2.2.2.2.2.2.2.2 rfl (lv_at6 hl) ?_
        refine gf_X10_70 hC rfl hK hP 5 rfl rfl gX10_store_6.1 ?_
        refine lv_iload hx hb gX10_store_6.2.1 (lv_at1 hl) ?_
        refine lv_iconst (v := 5) hx hb gX10_store_6.2.2.1 (by decide) ?_
        refine lv_aload_n hx hb gX10_store_6.2.2.2.1 rfl (lv_at5 hl) ?_
        refine gf_X10_20 hC rfl hK hP 0 rfl rfl gX10_store_6.2.2.2.2.1 ?_
        refine lv_iload hx hb gX10_store_6.2.2.2.2.2.1 (lv_at2 hl) ?_
        refine lv_iconst (v := 5) hx hb gX10_store_6.2.2.2.2.2.2.1 (by decide) ?_
        refine pV hC hK hl hP hD (c_T_at l G tln (nI kP) 5 9 7 tlnc kln ftln (hkln) (by omega) (by omega)) si_X10_74 [1, 2] sm_1_2 fm_1_2 nd_1_2 rfl rfl rfl rfl rfl (Nat.le_of_ble_eq_true rfl) rm_3_1_3 ⟨by first | exact Nat.le_of_ble_eq_true rfl | exact Nat.zero_le _, by first | exact Nat.le_of_ble_eq_true rfl | exact Nat.zero_le _⟩ gX10_store_6.2.2.2.2.2.2.2.1 (fun r3479 hr3479 => ?_)
        refine lv_iload_n hx hb gX10_store_6.2.2.2.2.2.2.2.2.1 rfl (lv_at3 hl) ?_
        refine lv_iadd hx hb gX10_store_6.2.2.2.2.2.2.2.2.2 ?_
        refine vV (wr := [(h0, oX10 tby (nI kt) tln tsp tkd ts9 tn9 tf9), (tln, oX8 9 7 tlnc (nI kln)), (tlnc, iA G 63 ftln), (tsp, oX8 120 1 tspc (nI ksp)), (tspc, iA G 120 ftsp), (bb, oX0 bpersons bpapers bstamps bversions blines bsteps bsayings bfindings bwarnings bquestions td vd vl gp), (bsteps, oX8 960 1 bstepsc (nI kbsteps)), (bstepsc, iA G 960 fbsteps), (bversions, oX8 8 3 bversionsc (nI (kbversions + 1))), (bversionsc, iA G 24 f13404)]) hC hK hl hP hD hS hA (c_T_set l G blines (nI vkb) 5 (r3479 + (nI kbsteps)) 72 7 blinesc (vkb + 1) f13477 (by omega) (by omega) (by omega)) si_X10_66 [10, 11] [0, 1, 2, 3, 4, 5, 6, 7, 8, 9] sm_10_11 fm_10_11 nd_10_11 sm_0_1_2_3_4_5_6_7_8_9 nd_0_1_2_3_4_5_6_7_8_9 dj_10_11__0_1_2_3_4_5_6_7_8_9 rfl rfl rfl rfl rfl (Nat.le_of_ble_eq_true rfl) rm_3_1_4 ⟨Nat.le_of_ble_eq_true rfl, Nat.le_of_ble_eq_true rfl⟩ gX10_store_7.1 (fun f13483 H locs hr3481 hP hD hS => ?_)
        try dsimp only at hr3481
        refine Kpdr (ws := [(h0, oX10 tby (nI kt) tln tsp tkd ts9 tn9 tf9), (tln, oX8 9 7 tlnc (nI kln)), (tlnc, iA G 63 ftln), (tsp, oX8 120 1 tspc (nI ksp)), (tspc, iA G 120 ftsp), (bb, oX0 bpersons bpapers bstamps bversions blines bsteps bsayings bfindings bwarnings bquestions td vd vl gp), (bsteps, oX8 960 1 bstepsc (nI kbsteps)), (bstepsc, iA G 960 fbsteps), (bversions, oX8 8 3 bversionsc (nI (kbversions + 1))), (bversionsc, iA G 24 f13404), (blines, oX8 72 7 blinesc (nI (vkb + 1))), (blinesc, iA G 504 f13483)]) hP hD (fun hP hD => ?_)
        have w3484 := hr3481
        refine lv_iinc (v := nI (kP + 1)) (lv' := [(4, .int (nI (kP + 1))), (6, .int 7), (5, .int (nI vkb)), (3, .int (nI kbsteps)), (2, .int (nI kbversions)), (0, .ref h0), (1, .ref bb)]) hx hb gX10_store_7.2.1 hl (k := 2) rfl (nI_1 _) (by decide) rfl (fun ls hl => ?_)
        refine lv_goto (tgt := 64) hx hb gX10_store_7.2.2.1 (by decide) ?_
        refine Kpds (ws' := [(h0, oX10 tby (nI kt) tln tsp tkd ts9 tn9 tf9), (tln, oX8 9 7 tlnc (nI kln)), (tlnc, iA G 63 ftln), (tsp, oX8 120 1 tspc (nI ksp)), (tspc, iA G 120 ftsp), (bb, oX0 bpersons bpapers bstamps bversions blines bsteps bsayings bfindings bwarnings bquestions td vd vl gp), (blines, oX8 72 7 blinesc (nI (vkb + 1))), (blinesc, iA G 504 f13483), (bsteps, oX8 960 1 bstepsc (nI kbsteps)), (bstepsc, iA G 960 fbsteps), (bversions, oX8 8 3 bversionsc (nI (kbversions + 1))), (bversionsc, iA G 24 f13404)]) hP hD [0, 1, 2, 3, 4, 5, 10, 11, 6, 7, 8, 9] fm_0_1_2_3_4_5_10_11_6_7_8_9 nd_0_1_2_3_4_5_10_11_6_7_8_9 sm_0_1_2_3_4_5_10_11_6_7_8_9 (fun hP hD => ?_)
        exact ihP (kP + 1) f13483 (vkb + 1) _ _ _ (by omega) (by first | assumption | exact Or.inl rfl | exact Or.inr rfl | omega) (And.intro hP hD) hS (lv_sub hl [0, 3, 4, 5, 6] rfl)
      · refine iV (wr := [(h0, oX10 tby (nI kt) tln tsp tkd ts9 tn9 tf9), (tln, oX8 9 7 tlnc (nI kln)), (tlnc, iA G 63 ftln), (tsp, oX8 120 1 tspc (nI ksp)), (tspc, iA G 120 ftsp), (bb, oX0 bpersons bpapers bstamps bversions blines bsteps bsayings bfindings bwarnings bquestions td vd vl gp), (blinesc, iA G 504 vbl), (bsteps, oX8 960 1 bstepsc (nI kbsteps)), (bstepsc, iA G 960 fbsteps), (bversions, oX8 8 3 bversionsc (nI (kbversions + 1))), (bversionsc, iA G 24 f13404)]) hC hK hl hP hD hS hA (c_T_appendF l G blines 72 7 blinesc vkb (by omega) (by omega)) si_X10_59 [6] [0, 1, 2, 3, 4, 5, 7, 8, 9, 10, 11] sm_6 fm_6 nd_6 sm_0_1_2_3_4_5_7_8_9_10_11 nd_0_1_2_3_4_5_7_8_9_10_11 dj_6__0_1_2_3_4_5_7_8_9_10_11 rfl rfl rfl rfl rfl (Nat.le_of_ble_eq_true rfl) rm_3_1_1 ⟨Nat.le_of_ble_eq_true rfl, Nat.le_of_ble_eq_true rfl⟩ gX10_store_4.1 (fun r3485 u3486 H locs hr3485 hP hD hS => ?_)
        refine Kpdr (ws := [(h0, oX10 tby (nI kt) tln tsp tkd ts9 tn9 tf9), (tln, oX8 9 7 tlnc (nI kln)), (tlnc, iA G 63 ftln), (tsp, oX8 120 1 tspc (nI ksp)), (tspc, iA G 120 ftsp), (bb, oX0 bpersons bpapers bstamps bversions blines bsteps bsayings bfindings bwarnings bquestions td vd vl gp), (blinesc, iA G 504 vbl), (bsteps, oX8 960 1 bstepsc (nI kbsteps)), (bstepsc, iA G 960 fbsteps), (bversions, oX8 8 3 bversionsc (nI (kbversions + 1))), (bversionsc, iA G 24 f13404), (blines, oX8 72 7 blinesc (nI vkb))]) hP hD (fun hP hD => ?_)
        obtain rfl := hr3485
        refine lv_istore (lv' := [(5, .int (-2)), (4, .int (nI kP)), (3, .int (nI kbsteps)), (2, .int (nI kbversions)), (0, .ref h0), (1, .ref bb)]) hx hb gX10_store_4.2.1 hl (by decide) rfl (fun ls hl => ?_)
        refine lv_iconst (v := 0) hx hb gX10_store_4.2.2.1 (by decide) ?_
        refine lv_istore (lv' := [(6, .int 0), (5, .int (-2)), (4, .int (nI kP)), (3, .int (nI kbsteps)), (2, .int (nI kbversions)), (0, .ref h0), (1, .ref bb)]) hx hb gX10_store_4.2.2.2.1 hl (by decide) rfl (fun ls hl => ?_)
        refine lv_iload hx hb gX10_store_4.2.2.2.2.1 (lv_at0 hl) ?_
        refine lv_bipush (v := 6) hx hb gX10_store_4.2.2.2.2.2.1 (by decide) ?_
        refine lv_icmp_gt (tgt := 123) hx hb gX10_store_4.2.2.2.2.2.2.1 (by decide) (fun c9 => absurd c9 (by decide)) (fun _ => ?_)
        refine lv_aload_n hx hb gX10_store_4.2.2.2.2.2.2.2.1 rfl (lv_at6 hl) ?_
        refine gf_X10_70 hC rfl hK hP 5 rfl rfl gX10_store_4.2.2.2.2.2.2.2.2.1 ?_
        refine lv_iload hx hb gX10_store_4.2.2.2.2.2.2.2.2.2 (lv_at1 hl) ?_
        refine lv_iload hx hb gX10_store_5.1 (lv_at0 hl) ?_
        refine lv_aload_n hx hb gX10_store_5.2.1 rfl (lv_at5 hl) ?_
        refine gf_X10_20 hC rfl hK hP 0 rfl rfl gX10_store_5.2.2.1 ?_
        refine lv_iload hx hb gX10_store_5.2.2.2.1 (lv_at2 hl) ?_
        refine lv_iload hx hb gX10_store_5.2.2.2.2.1 (lv_at0 hl) ?_
        refine pV hC hK hl hP hD (c_T_at l G tln (nI kP) 0 9 7 tlnc kln ftln (hkln) (by omega) (by omega)) si_X10_74 [1, 2] sm_1_2 fm_1_2 nd_1_2 rfl rfl rfl rfl rfl (Nat.le_of_ble_eq_true rfl) rm_3_1_3 ⟨by first | exact Nat.le_of_ble_eq_true rfl | exact Nat.zero_le _, by first | exact Nat.le_of_ble_eq_true rfl | exact Nat.zero_le _⟩ gX10_store_5.2.2.2.2.2.1 (fun r3488 hr3488 => ?_)
        refine vV (wr := [(h0, oX10 tby (nI kt) tln tsp tkd ts9 tn9 tf9), (tln, oX8 9 7 tlnc (nI kln)), (tlnc, iA G 63 ftln), (tsp, oX8 120 1 tspc (nI ksp)), (tspc, iA G 120 ftsp), (bb, oX0 bpersons bpapers bstamps bversions blines bsteps bsayings bfindings bwarnings bquestions td vd vl gp), (bsteps, oX8 960 1 bstepsc (nI kbsteps)), (bstepsc, iA G 960 fbsteps), (bversions, oX8 8 3 bversionsc (nI (kbversions + 1))), (bversionsc, iA G 24 f13404)]) hC hK hl hP hD hS hA (c_T_set l G blines (-2) 0 r3488 72 7 blinesc vkb vbl (hvkb) (by omega) (by omega)) si_X10_66 [11, 6] [0, 1, 2, 3, 4, 5, 7, 8, 9, 10] sm_11_6 fm_11_6 nd_11_6 sm_0_1_2_3_4_5_7_8_9_10 nd_0_1_2_3_4_5_7_8_9_10 dj_11_6__0_1_2_3_4_5_7_8_9_10 rfl rfl rfl rfl rfl (Nat.le_of_ble_eq_true rfl) rm_3_1_4 ⟨Nat.le_of_ble_eq_true rfl, Nat.le_of_ble_eq_true rfl⟩ gX10_store_5.2.2.2.2.2.2.1 (fun f13492 H locs hr3490 hP hD hS => ?_)
        try dsimp only at hr3490
        refine Kpdr (ws := [(h0, oX10 tby (nI kt) tln tsp tkd ts9 tn9 tf9), (tln, oX8 9 7 tlnc (nI kln)), (tlnc, iA G 63 ftln), (tsp, oX8 120 1 tspc (nI ksp)), (tspc, iA G 120 ftsp), (bb, oX0 bpersons bpapers bstamps bversions blines bsteps bsayings bfindings bwarnings bquestions td vd vl gp), (bsteps, oX8 960 1 bstepsc (nI kbsteps)), (bstepsc, iA G 960 fbsteps), (bversions, oX8 8 3 bversionsc (nI (kbversions + 1))), (bversionsc, iA G 24 f13404), (blines, oX8 72 7 blinesc (nI vkb)), (blinesc, iA G 504 f13492)]) hP hD (fun hP hD => ?_)
        have w3493 := hr3490
        refine lv_iinc (v := 1) (lv' := [(6, .int 1), (5, .int (-2)), (4, .int (nI kP)), (3, .int (nI kbsteps)), (2, .int (nI kbversions)), (0, .ref h0), (1, .ref bb)]) hx hb gX10_store_5.2.2.2.2.2.2.2.1 hl (k := 0) rfl (by decide) (by decide) rfl (fun ls hl => ?_)
        refine lv_goto (tgt := 88) hx hb gX10_store_5.2.2.2.2.2.2.2.2.1 (by decide) ?_
        refine lv_iload hx hb gX10_store_4.2.2.2.2.1 (lv_at0 hl) ?_
        refine lv_bipush (v := 6) hx hb gX10_store_4.2.2.2.2.2.1 (by decide) ?_
        refine lv_icmp_gt (tgt := 123) hx hb gX10_store_4.2.2.2.2.2.2.1 (by decide) (fun c9 => absurd c9 (by decide)) (fun _ => ?_)
        refine lv_aload_n hx hb gX10_store_4.2.2.2.2.2.2.2.1 rfl (lv_at6 hl) ?_
        refine gf_X10_70 hC rfl hK hP 5 rfl rfl gX10_store_4.2.2.2.2.2.2.2.2.1 ?_
        refine lv_iload hx hb gX10_store_4.2.2.2.2.2.2.2.2.2 (lv_at1 hl) ?_
        refine lv_iload hx hb gX10_store_5.1 (lv_at0 hl) ?_
        refine lv_aload_n hx hb gX10_store_5.2.1 rfl (lv_at5 hl) ?_
        refine gf_X10_20 hC rfl hK hP 0 rfl rfl gX10_store_5.2.2.1 ?_
        refine lv_iload hx hb gX10_store_5.2.2.2.1 (lv_at2 hl) ?_
        refine lv_iload hx hb gX10_store_5.2.2.2.2.1 (lv_at0 hl) ?_
        refine pV hC hK hl hP hD (c_T_at l G tln (nI kP) 1 9 7 tlnc kln ftln (hkln) (by omega) (by omega)) si_X10_74 [1, 2] sm_1_2 fm_1_2 nd_1_2 rfl rfl rfl rfl rfl (Nat.le_of_ble_eq_true rfl) rm_3_1_3 ⟨by first | exact Nat.le_of_ble_eq_true rfl | exact Nat.zero_le _, by first | exact Nat.le_of_ble_eq_true rfl | exact Nat.zero_le _⟩ gX10_store_5.2.2.2.2.2.1 (fun r3494 hr3494 => ?_)
        refine vV (wr := [(h0, oX10 tby (nI kt) tln tsp tkd ts9 tn9 tf9), (tln, oX8 9 7 tlnc (nI kln)), (tlnc, iA G 63 ftln), (tsp, oX8 120 1 tspc (nI ksp)), (tspc, iA G 120 ftsp), (bb, oX0 bpersons bpapers bstamps bversions blines bsteps bsayings bfindings bwarnings bquestions td vd vl gp), (bsteps, oX8 960 1 bstepsc (nI kbsteps)), (bstepsc, iA G 960 fbsteps), (bversions, oX8 8 3 bversionsc (nI (kbversions + 1))), (bversionsc, iA G 24 f13404)]) hC hK hl hP hD hS hA (c_T_set l G blines (-2) 1 r3494 72 7 blinesc vkb f13492 (hvkb) (by omega) (by omega)) si_X10_66 [10, 11] [0, 1, 2, 3, 4, 5, 6, 7, 8, 9] sm_10_11 fm_10_11 nd_10_11 sm_0_1_2_3_4_5_6_7_8_9 nd_0_1_2_3_4_5_6_7_8_9 dj_10_11__0_1_2_3_4_5_6_7_8_9 rfl rfl rfl rfl rfl (Nat.le_of_ble_eq_true rfl) rm_3_1_4 ⟨Nat.le_of_ble_eq_true rfl, Nat.le_of_ble_eq_true rfl⟩ gX10_store_5.2.2.2.2.2.2.1 (fun f13498 H locs hr3496 hP hD hS => ?_)
        try dsimp only at hr3496
        refine Kpdr (ws := [(h0, oX10 tby (nI kt) tln tsp tkd ts9 tn9 tf9), (tln, oX8 9 7 tlnc (nI kln)), (tlnc, iA G 63 ftln), (tsp, oX8 120 1 tspc (nI ksp)), (tspc, iA G 120 ftsp), (bb, oX0 bpersons bpapers bstamps bversions blines bsteps bsayings bfindings bwarnings bquestions td vd vl gp), (bsteps, oX8 960 1 bstepsc (nI kbsteps)), (bstepsc, iA G 960 fbsteps), (bversions, oX8 8 3 bversionsc (nI (kbversions + 1))), (bversionsc, iA G 24 f13404), (blines, oX8 72 7 blinesc (nI vkb)), (blinesc, iA G 504 f13498)]) hP hD (fun hP hD => ?_)
        have w3499 := hr3496
        refine lv_iinc (v := 2) (lv' := [(6, .int 2), (5, .int (-2)), (4, .int (nI kP)), (3, .int (nI kbsteps)), (2, .int (nI kbversions)), (0, .ref h0), (1, .ref bb)]) hx hb gX10_store_5.2.2.2.2.2.2.2.1 hl (k := 0) rfl (by decide) (by decide) rfl (fun ls hl => ?_)
        refine lv_goto (tgt := 88) hx hb gX10_store_5.2.2.2.2.2.2.2.2.1 (by decide) ?_
        refine lv_iload hx hb gX10_store_4.2.2.2.2.1 (lv_at0 hl) ?_
        refine lv_bipush (v := 6) hx hb gX10_store_4.2.2.2.2.2.1 (by decide) ?_
        refine lv_icmp_gt (tgt := 123) hx hb gX10_store_4.2.2.2.2.2.2.1 (by decide) (fun c9 => absurd c9 (by decide)) (fun _ => ?_)
        refine lv_aload_n hx hb gX10_store_4.2.2.2.2.2.2.2.1 rfl (lv_at6 hl) ?_
        refine gf_X10_70 hC rfl hK hP 5 rfl rfl gX10_store_4.2.2.2.2.2.2.2.2.1 ?_
        refine lv_iload hx hb gX10_store_4.2.2.2.2.2.2.2.2.2 (lv_at1 hl) ?_
        refine lv_iload hx hb gX10_store_5.1 (lv_at0 hl) ?_
        refine lv_aload_n hx hb gX10_store_5.2.1 rfl (lv_at5 hl) ?_
        refine gf_X10_20 hC rfl hK hP 0 rfl rfl gX10_store_5.2.2.1 ?_
        refine lv_iload hx hb gX10_store_5.2.2.2.1 (lv_at2 hl) ?_
        refine lv_iload hx hb gX10_store_5.2.2.2.2.1 (lv_at0 hl) ?_
        refine pV hC hK hl hP hD (c_T_at l G tln (nI kP) 2 9 7 tlnc kln ftln (hkln) (by omega) (by omega)) si_X10_74 [1, 2] sm_1_2 fm_1_2 nd_1_2 rfl rfl rfl rfl rfl (Nat.le_of_ble_eq_true rfl) rm_3_1_3 ⟨by first | exact Nat.le_of_ble_eq_true rfl | exact Nat.zero_le _, by first | exact Nat.le_of_ble_eq_true rfl | exact Nat.zero_le _⟩ gX10_store_5.2.2.2.2.2.1 (fun r3500 hr3500 => ?_)
        refine vV (wr := [(h0, oX10 tby (nI kt) tln tsp tkd ts9 tn9 tf9), (tln, oX8 9 7 tlnc (nI kln)), (tlnc, iA G 63 ftln), (tsp, oX8 120 1 tspc (nI ksp)), (tspc, iA G 120 ftsp), (bb, oX0 bpersons bpapers bstamps bversions blines bsteps bsayings bfindings bwarnings bquestions td vd vl gp), (bsteps, oX8 960 1 bstepsc (nI kbsteps)), (bstepsc, iA G 960 fbsteps), (bversions, oX8 8 3 bversionsc (nI (kbversions + 1))), (bversionsc, iA G 24 f13404)]) hC hK hl hP hD hS hA (c_T_set l G blines (-2) 2 r3500 72 7 blinesc vkb f13498 (hvkb) (by omega) (by omega)) si_X10_66 [10, 11] [0, 1, 2, 3, 4, 5, 6, 7, 8, 9] sm_10_11 fm_10_11 nd_10_11 sm_0_1_2_3_4_5_6_7_8_9 nd_0_1_2_3_4_5_6_7_8_9 dj_10_11__0_1_2_3_4_5_6_7_8_9 rfl rfl rfl rfl rfl (Nat.le_of_ble_eq_true rfl) rm_3_1_4 ⟨Nat.le_of_ble_eq_true rfl, Nat.le_of_ble_eq_true rfl⟩ gX10_store_5.2.2.2.2.2.2.1 (fun f13504 H locs hr3502 hP hD hS => ?_)
        try dsimp only at hr3502
        refine Kpdr (ws := [(h0, oX10 tby (nI kt) tln tsp tkd ts9 tn9 tf9), (tln, oX8 9 7 tlnc (nI kln)), (tlnc, iA G 63 ftln), (tsp, oX8 120 1 tspc (nI ksp)), (tspc, iA G 120 ftsp), (bb, oX0 bpersons bpapers bstamps bversions blines bsteps bsayings bfindings bwarnings bquestions td vd vl gp), (bsteps, oX8 960 1 bstepsc (nI kbsteps)), (bstepsc, iA G 960 fbsteps), (bversions, oX8 8 3 bversionsc (nI (kbversions + 1))), (bversionsc, iA G 24 f13404), (blines, oX8 72 7 blinesc (nI vkb)), (blinesc, iA G 504 f13504)]) hP hD (fun hP hD => ?_)
        have w3505 := hr3502
        refine lv_iinc (v := 3) (lv' := [(6, .int 3), (5, .int (-2)), (4, .int (nI kP)), (3, .int (nI kbsteps)), (2, .int (nI kbversions)), (0, .ref h0), (1, .ref bb)]) hx hb gX10_store_5.2.2.2.2.2.2.2.1 hl (k := 0) rfl (by decide) (by decide) rfl (fun ls hl => ?_)
        refine lv_goto (tgt := 88) hx hb gX10_store_5.2.2.2.2.2.2.2.2.1 (by decide) ?_
        refine lv_iload hx hb gX10_store_4.2.2.2.2.1 (lv_at0 hl) ?_
        refine lv_bipush (v := 6) hx hb gX10_store_4.2.2.2.2.2.1 (by decide) ?_
        refine lv_icmp_gt (tgt := 123) hx hb gX10_store_4.2.2.2.2.2.2.1 (by decide) (fun c9 => absurd c9 (by decide)) (fun _ => ?_)
        refine lv_aload_n hx hb gX10_store_4.2.2.2.2.2.2.2.1 rfl (lv_at6 hl) ?_
        refine gf_X10_70 hC rfl hK hP 5 rfl rfl gX10_store_4.2.2.2.2.2.2.2.2.1 ?_
        refine lv_iload hx hb gX10_store_4.2.2.2.2.2.2.2.2.2 (lv_at1 hl) ?_
        refine lv_iload hx hb gX10_store_5.1 (lv_at0 hl) ?_
        refine lv_aload_n hx hb gX10_store_5.2.1 rfl (lv_at5 hl) ?_
        refine gf_X10_20 hC rfl hK hP 0 rfl rfl gX10_store_5.2.2.1 ?_
        refine lv_iload hx hb gX10_store_5.2.2.2.1 (lv_at2 hl) ?_
        refine lv_iload hx hb gX10_store_5.2.2.2.2.1 (lv_at0 hl) ?_
        refine pV hC hK hl hP hD (c_T_at l G tln (nI kP) 3 9 7 tlnc kln ftln (hkln) (by omega) (by omega)) si_X10_74 [1, 2] sm_1_2 fm_1_2 nd_1_2 rfl rfl rfl rfl rfl (Nat.le_of_ble_eq_true rfl) rm_3_1_3 ⟨by first | exact Nat.le_of_ble_eq_true rfl | exact Nat.zero_le _, by first | exact Nat.le_of_ble_eq_true rfl | exact Nat.zero_le _⟩ gX10_store_5.2.2.2.2.2.1 (fun r3506 hr3506 => ?_)
        refine vV (wr := [(h0, oX10 tby (nI kt) tln tsp tkd ts9 tn9 tf9), (tln, oX8 9 7 tlnc (nI kln)), (tlnc, iA G 63 ftln), (tsp, oX8 120 1 tspc (nI ksp)), (tspc, iA G 120 ftsp), (bb, oX0 bpersons bpapers bstamps bversions blines bsteps bsayings bfindings bwarnings bquestions td vd vl gp), (bsteps, oX8 960 1 bstepsc (nI kbsteps)), (bstepsc, iA G 960 fbsteps), (bversions, oX8 8 3 bversionsc (nI (kbversions + 1))), (bversionsc, iA G 24 f13404)]) hC hK hl hP hD hS hA (c_T_set l G blines (-2) 3 r3506 72 7 blinesc vkb f13504 (hvkb) (by omega) (by omega)) si_X10_66 [10, 11] [0, 1, 2, 3, 4, 5, 6, 7, 8, 9] sm_10_11 fm_10_11 nd_10_11 sm_0_1_2_3_4_5_6_7_8_9 nd_0_1_2_3_4_5_6_7_8_9 dj_10_11__0_1_2_3_4_5_6_7_8_9 rfl rfl rfl rfl rfl (Nat.le_of_ble_eq_true rfl) rm_3_1_4 ⟨Nat.le_of_ble_eq_true rfl, Nat.le_of_ble_eq_true rfl⟩ gX10_store_5.2.2.2.2.2.2.1 (fun f13510 H locs hr3508 hP hD hS => ?_)
        try dsimp only at hr3508
        refine Kpdr (ws := [(h0, oX10 tby (nI kt) tln tsp tkd ts9 tn9 tf9), (tln, oX8 9 7 tlnc (nI kln)), (tlnc, iA G 63 ftln), (tsp, oX8 120 1 tspc (nI ksp)), (tspc, iA G 120 ftsp), (bb, oX0 bpersons bpapers bstamps bversions blines bsteps bsayings bfindings bwarnings bquestions td vd vl gp), (bsteps, oX8 960 1 bstepsc (nI kbsteps)), (bstepsc, iA G 960 fbsteps), (bversions, oX8 8 3 bversionsc (nI (kbversions + 1))), (bversionsc, iA G 24 f13404), (blines, oX8 72 7 blinesc (nI vkb)), (blinesc, iA G 504 f13510)]) hP hD (fun hP hD => ?_)
        have w3511 := hr3508
        refine lv_iinc (v := 4) (lv' := [(6, .int 4), (5, .int (-2)), (4, .int (nI kP)), (3, .int (nI kbsteps)), (2, .int (nI kbversions)), (0, .ref h0), (1, .ref bb)]) hx hb gX10_store_5.2.2.2.2.2.2.2.1 hl (k := 0) rfl (by decide) (by decide) rfl (fun ls hl => ?_)
        refine lv_goto (tgt := 88) hx hb gX10_store_5.2.2.2.2.2.2.2.2.1 (by decide) ?_
        refine lv_iload hx hb gX10_store_4.2.2.2.2.1 (lv_at0 hl) ?_
        refine lv_bipush (v := 6) hx hb gX10_store_4.2.2.2.2.2.1 (by decide) ?_
        refine lv_icmp_gt (tgt := 123) hx hb gX10_store_4.2.2.2.2.2.2.1 (by decide) (fun c9 => absurd c9 (by decide)) (fun _ => ?_)
        refine lv_aload_n hx hb gX10_store_4.2.2.2.2.2.2.2.1 rfl (lv_at6 hl) ?_
        refine gf_X10_70 hC rfl hK hP 5 rfl rfl gX10_store_4.2.2.2.2.2.2.2.2.1 ?_
        refine lv_iload hx hb gX10_store_4.2.2.2.2.2.2.2.2.2 (lv_at1 hl) ?_
        refine lv_iload hx hb gX10_store_5.1 (lv_at0 hl) ?_
        refine lv_aload_n hx hb gX10_store_5.2.1 rfl (lv_at5 hl) ?_
        refine gf_X10_20 hC rfl hK hP 0 rfl rfl gX10_store_5.2.2.1 ?_
        refine lv_iload hx hb gX10_store_5.2.2.2.1 (lv_at2 hl) ?_
        refine lv_iload hx hb gX10_store_5.2.2.2.2.1 (lv_at0 hl) ?_
        refine pV hC hK hl hP hD (c_T_at l G tln (nI kP) 4 9 7 tlnc kln ftln (hkln) (by omega) (by omega)) si_X10_74 [1, 2] sm_1_2 fm_1_2 nd_1_2 rfl rfl rfl rfl rfl (Nat.le_of_ble_eq_true rfl) rm_3_1_3 ⟨by first | exact Nat.le_of_ble_eq_true rfl | exact Nat.zero_le _, by first | exact Nat.le_of_ble_eq_true rfl | exact Nat.zero_le _⟩ gX10_store_5.2.2.2.2.2.1 (fun r3512 hr3512 => ?_)
        refine vV (wr := [(h0, oX10 tby (nI kt) tln tsp tkd ts9 tn9 tf9), (tln, oX8 9 7 tlnc (nI kln)), (tlnc, iA G 63 ftln), (tsp, oX8 120 1 tspc (nI ksp)), (tspc, iA G 120 ftsp), (bb, oX0 bpersons bpapers bstamps bversions blines bsteps bsayings bfindings bwarnings bquestions td vd vl gp), (bsteps, oX8 960 1 bstepsc (nI kbsteps)), (bstepsc, iA G 960 fbsteps), (bversions, oX8 8 3 bversionsc (nI (kbversions + 1))), (bversionsc, iA G 24 f13404)]) hC hK hl hP hD hS hA (c_T_set l G blines (-2) 4 r3512 72 7 blinesc vkb f13510 (hvkb) (by omega) (by omega)) si_X10_66 [10, 11] [0, 1, 2, 3, 4, 5, 6, 7, 8, 9] sm_10_11 fm_10_11 nd_10_11 sm_0_1_2_3_4_5_6_7_8_9 nd_0_1_2_3_4_5_6_7_8_9 dj_10_11__0_1_2_3_4_5_6_7_8_9 rfl rfl rfl rfl rfl (Nat.le_of_ble_eq_true rfl) rm_3_1_4 ⟨Nat.le_of_ble_eq_true rfl, Nat.le_of_ble_eq_true rfl⟩ gX10_store_5.2.2.2.2.2.2.1 (fun f13516 H locs hr3514 hP hD hS => ?_)
        try dsimp only at hr3514
        refine Kpdr (ws := [(h0, oX10 tby (nI kt) tln tsp tkd ts9 tn9 tf9), (tln, oX8 9 7 tlnc (nI kln)), (tlnc, iA G 63 ftln), (tsp, oX8 120 1 tspc (nI ksp)), (tspc, iA G 120 ftsp), (bb, oX0 bpersons bpapers bstamps bversions blines bsteps bsayings bfindings bwarnings bquestions td vd vl gp), (bsteps, oX8 960 1 bstepsc (nI kbsteps)), (bstepsc, iA G 960 fbsteps), (bversions, oX8 8 3 bversionsc (nI (kbversions + 1))), (bversionsc, iA G 24 f13404), (blines, oX8 72 7 blinesc (nI vkb)), (blinesc, iA G 504 f13516)]) hP hD (fun hP hD => ?_)
        have w3517 := hr3514
        refine lv_iinc (v := 5) (lv' := [(6, .int 5), (5, .int (-2)), (4, .int (nI kP)), (3, .int (nI kbsteps)), (2, .int (nI kbversions)), (0, .ref h0), (1, .ref bb)]) hx hb gX10_store_5.2.2.2.2.2.2.2.1 hl (k := 0) rfl (by decide) (by decide) rfl (fun ls hl => ?_)
        refine lv_goto (tgt := 88) hx hb gX10_store_5.2.2.2.2.2.2.2.2.1 (by decide) ?_
        refine lv_iload hx hb gX10_store_4.2.2.2.2.1 (lv_at0 hl) ?_
        refine lv_bipush (v := 6) hx hb gX10_store_4.2.2.2.2.2.1 (by decide) ?_
        refine lv_icmp_gt (tgt := 123) hx hb gX10_store_4.2.2.2.2.2.2.1 (by decide) (fun c9 => absurd c9 (by decide)) (fun _ => ?_)
        refine lv_aload_n hx hb gX10_store_4.2.2.2.2.2.2.2.1 rfl (lv_at6 hl) ?_
        refine gf_X10_70 hC rfl hK hP 5 rfl rfl gX10_store_4.2.2.2.2.2.2.2.2.1 ?_
        refine lv_iload hx hb gX10_store_4.2.2.2.2.2.2.2.2.2 (lv_at1 hl) ?_
        refine lv_iload hx hb gX10_store_5.1 (lv_at0 hl) ?_
        refine lv_aload_n hx hb gX10_store_5.2.1 rfl (lv_at5 hl) ?_
        refine gf_X10_20 hC rfl hK hP 0 rfl rfl gX10_store_5.2.2.1 ?_
        refine lv_iload hx hb gX10_store_5.2.2.2.1 (lv_at2 hl) ?_
        refine lv_iload hx hb gX10_store_5.2.2.2.2.1 (lv_at0 hl) ?_
        refine pV hC hK hl hP hD (c_T_at l G tln (nI kP) 5 9 7 tlnc kln ftln (hkln) (by omega) (by omega)) si_X10_74 [1, 2] sm_1_2 fm_1_2 nd_1_2 rfl rfl rfl rfl rfl (Nat.le_of_ble_eq_true rfl) rm_3_1_3 ⟨by first | exact Nat.le_of_ble_eq_true rfl | exact Nat.zero_le _, by first | exact Nat.le_of_ble_eq_true rfl | exact Nat.zero_le _⟩ gX10_store_5.2.2.2.2.2.1 (fun r3518 hr3518 => ?_)
        refine vV (wr := [(h0, oX10 tby (nI kt) tln tsp tkd ts9 tn9 tf9), (tln, oX8 9 7 tlnc (nI kln)), (tlnc, iA G 63 ftln), (tsp, oX8 120 1 tspc (nI ksp)), (tspc, iA G 120 ftsp), (bb, oX0 bpersons bpapers bstamps bversions blines bsteps bsayings bfindings bwarnings bquestions td vd vl gp), (bsteps, oX8 960 1 bstepsc (nI kbsteps)), (bstepsc, iA G 960 fbsteps), (bversions, oX8 8 3 bversionsc (nI (kbversions + 1))), (bversionsc, iA G 24 f13404)]) hC hK hl hP hD hS hA (c_T_set l G blines (-2) 5 r3518 72 7 blinesc vkb f13516 (hvkb) (by omega) (by omega)) si_X10_66 [10, 11] [0, 1, 2, 3, 4, 5, 6, 7, 8, 9] sm_10_11 fm_10_11 nd_10_11 sm_0_1_2_3_4_5_6_7_8_9 nd_0_1_2_3_4_5_6_7_8_9 dj_10_11__0_1_2_3_4_5_6_7_8_9 rfl rfl rfl rfl rfl (Nat.le_of_ble_eq_true rfl) rm_3_1_4 ⟨Nat.le_of_ble_eq_true rfl, Nat.le_of_ble_eq_true rfl⟩ gX10_store_5.2.2.2.2.2.2.1 (fun f13522 H locs hr3520 hP hD hS => ?_)
        try dsimp only at hr3520
        refine Kpdr (ws := [(h0, oX10 tby (nI kt) tln tsp tkd ts9 tn9 tf9), (tln, oX8 9 7 tlnc (nI kln)), (tlnc, iA G 63 ftln), (tsp, oX8 120 1 tspc (nI ksp)), (tspc, iA G 120 ftsp), (bb, oX0 bpersons bpapers bstamps bversions blines bsteps bsayings bfindings bwarnings bquestions td vd vl gp), (bsteps, oX8 960 1 bstepsc (nI kbsteps)), (bstepsc, iA G 960 fbsteps), (bversions, oX8 8 3 bversionsc (nI (kbversions + 1))), (bversionsc, iA G 24 f13404), (blines, oX8 72 7 blinesc (nI vkb)), (blinesc, iA G 504 f13522)]) hP hD (fun hP hD => ?_)
        have w3523 := hr3520
        refine lv_iinc (v := 6) (lv' := [(6, .int 6), (5, .int (-2)), (4, .int (nI kP)), (3, .int (nI kbsteps)), (2, .int (nI kbversions)), (0, .ref h0), (1, .ref bb)]) hx hb gX10_store_5.2.2.2.2.2.2.2.1 hl (k := 0) rfl (by decide) (by decide) rfl (fun ls hl => ?_)
        refine lv_goto (tgt := 88) hx hb gX10_store_5.2.2.2.2.2.2.2.2.1 (by decide) ?_
        refine lv_iload hx hb gX10_store_4.2.2.2.2.1 (lv_at0 hl) ?_
        refine lv_bipush (v := 6) hx hb gX10_store_4.2.2.2.2.2.1 (by decide) ?_
        refine lv_icmp_gt (tgt := 123) hx hb gX10_store_4.2.2.2.2.2.2.1 (by decide) (fun c9 => absurd c9 (by decide)) (fun _ => ?_)
        refine lv_aload_n hx hb gX10_store_4.2.2.2.2.2.2.2.1 rfl (lv_at6 hl) ?_
        refine gf_X10_70 hC rfl hK hP 5 rfl rfl gX10_store_4.2.2.2.2.2.2.2.2.1 ?_
        refine lv_iload hx hb gX10_store_4.2.2.2.2.2.2.2.2.2 (lv_at1 hl) ?_
        refine lv_iload hx hb gX10_store_5.1 (lv_at0 hl) ?_
        refine lv_aload_n hx hb gX10_store_5.2.1 rfl (lv_at5 hl) ?_
        refine gf_X10_20 hC rfl hK hP 0 rfl rfl gX10_store_5.2.2.1 ?_
        refine lv_iload hx hb gX10_store_5.2.2.2.1 (lv_at2 hl) ?_
        refine lv_iload hx hb gX10_store_5.2.2.2.2.1 (lv_at0 hl) ?_
        refine pV hC hK hl hP hD (c_T_at l G tln (nI kP) 6 9 7 tlnc kln ftln (hkln) (by omega) (by omega)) si_X10_74 [1, 2] sm_1_2 fm_1_2 nd_1_2 rfl rfl rfl rfl rfl (Nat.le_of_ble_eq_true rfl) rm_3_1_3 ⟨by first | exact Nat.le_of_ble_eq_true rfl | exact Nat.zero_le _, by first | exact Nat.le_of_ble_eq_true rfl | exact Nat.zero_le _⟩ gX10_store_5.2.2.2.2.2.1 (fun r3524 hr3524 => ?_)
        refine vV (wr := [(h0, oX10 tby (nI kt) tln tsp tkd ts9 tn9 tf9), (tln, oX8 9 7 tlnc (nI kln)), (tlnc, iA G 63 ftln), (tsp, oX8 120 1 tspc (nI ksp)), (tspc, iA G 120 ftsp), (bb, oX0 bpersons bpapers bstamps bversions blines bsteps bsayings bfindings bwarnings bquestions td vd vl gp), (bsteps, oX8 960 1 bstepsc (nI kbsteps)), (bstepsc, iA G 960 fbsteps), (bversions, oX8 8 3 bversionsc (nI (kbversions + 1))), (bversionsc, iA G 24 f13404)]) hC hK hl hP hD hS hA (c_T_set l G blines (-2) 6 r3524 72 7 blinesc vkb f13522 (hvkb) (by omega) (by omega)) si_X10_66 [10, 11] [0, 1, 2, 3, 4, 5, 6, 7, 8, 9] sm_10_11 fm_10_11 nd_10_11 sm_0_1_2_3_4_5_6_7_8_9 nd_0_1_2_3_4_5_6_7_8_9 dj_10_11__0_1_2_3_4_5_6_7_8_9 rfl rfl rfl rfl rfl (Nat.le_of_ble_eq_true rfl) rm_3_1_4 ⟨Nat.le_of_ble_eq_true rfl, Nat.le_of_ble_eq_true rfl⟩ gX10_store_5.2.2.2.2.2.2.1 (fun f13528 H locs hr3526 hP hD hS => ?_)
        try dsimp only at hr3526
        refine Kpdr (ws := [(h0, oX10 tby (nI kt) tln tsp tkd ts9 tn9 tf9), (tln, oX8 9 7 tlnc (nI kln)), (tlnc, iA G 63 ftln), (tsp, oX8 120 1 tspc (nI ksp)), (tspc, iA G 120 ftsp), (bb, oX0 bpersons bpapers bstamps bversions blines bsteps bsayings bfindings bwarnings bquestions td vd vl gp), (bsteps, oX8 960 1 bstepsc (nI kbsteps)), (bstepsc, iA G 960 fbsteps), (bversions, oX8 8 3 bversionsc (nI (kbversions + 1))), (bversionsc, iA G 24 f13404), (blines, oX8 72 7 blinesc (nI vkb)), (blinesc, iA G 504 f13528)]) hP hD (fun hP hD => ?_)
        have w3529 := hr3526
        refine lv_iinc (v := 7) (lv' := [(6, .int 7), (5, .int (-2)), (4, .int (nI kP)), (3, .int (nI kbsteps)), (2, .int (nI kbversions)), (0, .ref h0), (1, .ref bb)]) hx hb gX10_store_5.2.2.2.2.2.2.2.1 hl (k := 0) rfl (by decide) (by decide) rfl (fun ls hl => ?_)
        refine lv_goto (tgt := 88) hx hb gX10_store_5.2.2.2.2.2.2.2.2.1 (by decide) ?_
        refine lv_iload hx hb gX10_store_4.2.2.2.2.1 (lv_at0 hl) ?_
        refine lv_bipush (v := 6) hx hb gX10_store_4.2.2.2.2.2.1 (by decide) ?_
        refine lv_icmp_gt (tgt := 123) hx hb gX10_store_4.2.2.2.2.2.2.1 (by decide) (fun _ => ?_) (fun c9 => absurd (by decide) c9)
        refine lv_aload_n hx hb gX10_store_5.2.2.2.2.2.2.2.2.2 rfl (lv_at6 hl) ?_
        refine gf_X10_70 hC rfl hK hP 5 rfl rfl gX10_store_6.1 ?_
        refine lv_iload hx hb gX10_store_6.2.1 (lv_at1 hl) ?_
        refine lv_iconst (v := 5) hx hb gX10_store_6.2.2.1 (by decide) ?_
        refine lv_aload_n hx hb gX10_store_6.2.2.2.1 rfl (lv_at5 hl) ?_
        refine gf_X10_20 hC rfl hK hP 0 rfl rfl gX10_store_6.2.2.2.2.1 ?_
        refine lv_iload hx hb gX10_store_6.2.2.2.2.2.1 (lv_at2 hl) ?_
        refine lv_iconst (v := 5) hx hb gX10_store_6.2.2.2.2.2.2.1 (by decide) ?_
        refine pV hC hK hl hP hD (c_T_at l G tln (nI kP) 5 9 7 tlnc kln ftln (hkln) (by omega) (by omega)) si_X10_74 [1, 2] sm_1_2 fm_1_2 nd_1_2 rfl rfl rfl rfl rfl (Nat.le_of_ble_eq_true rfl) rm_3_1_3 ⟨by first | exact Nat.le_of_ble_eq_true rfl | exact Nat.zero_le _, by first | exact Nat.le_of_ble_eq_true rfl | exact Nat.zero_le _⟩ gX10_store_6.2.2.2.2.2.2.2.1 (fun r3530 hr3530 => ?_)
        refine lv_iload_n hx hb gX10_store_6.2.2.2.2.2.2.2.2.1 rfl (lv_at3 hl) ?_
        refine lv_iadd hx hb gX10_store_6.2.2.2.2.2.2.2.2.2 ?_
        refine vV (wr := [(h0, oX10 tby (nI kt) tln tsp tkd ts9 tn9 tf9), (tln, oX8 9 7 tlnc (nI kln)), (tlnc, iA G 63 ftln), (tsp, oX8 120 1 tspc (nI ksp)), (tspc, iA G 120 ftsp), (bb, oX0 bpersons bpapers bstamps bversions blines bsteps bsayings bfindings bwarnings bquestions td vd vl gp), (bsteps, oX8 960 1 bstepsc (nI kbsteps)), (bstepsc, iA G 960 fbsteps), (bversions, oX8 8 3 bversionsc (nI (kbversions + 1))), (bversionsc, iA G 24 f13404)]) hC hK hl hP hD hS hA (c_T_set l G blines (-2) 5 (r3530 + (nI kbsteps)) 72 7 blinesc vkb f13528 (hvkb) (by omega) (by omega)) si_X10_66 [10, 11] [0, 1, 2, 3, 4, 5, 6, 7, 8, 9] sm_10_11 fm_10_11 nd_10_11 sm_0_1_2_3_4_5_6_7_8_9 nd_0_1_2_3_4_5_6_7_8_9 dj_10_11__0_1_2_3_4_5_6_7_8_9 rfl rfl rfl rfl rfl (Nat.le_of_ble_eq_true rfl) rm_3_1_4 ⟨Nat.le_of_ble_eq_true rfl, Nat.le_of_ble_eq_true rfl⟩ gX10_store_7.1 (fun f13534 H locs hr3532 hP hD hS => ?_)
        try dsimp only at hr3532
        refine Kpdr (ws := [(h0, oX10 tby (nI kt) tln tsp tkd ts9 tn9 tf9), (tln, oX8 9 7 tlnc (nI kln)), (tlnc, iA G 63 ftln), (tsp, oX8 120 1 tspc (nI ksp)), (tspc, iA G 120 ftsp), (bb, oX0 bpersons bpapers bstamps bversions blines bsteps bsayings bfindings bwarnings bquestions td vd vl gp), (bsteps, oX8 960 1 bstepsc (nI kbsteps)), (bstepsc, iA G 960 fbsteps), (bversions, oX8 8 3 bversionsc (nI (kbversions + 1))), (bversionsc, iA G 24 f13404), (blines, oX8 72 7 blinesc (nI vkb)), (blinesc, iA G 504 f13534)]) hP hD (fun hP hD => ?_)
        have w3535 := hr3532
        refine lv_iinc (v := nI (kP + 1)) (lv' := [(4, .int (nI (kP + 1))), (6, .int 7), (5, .int (-2)), (3, .int (nI kbsteps)), (2, .int (nI kbversions)), (0, .ref h0), (1, .ref bb)]) hx hb gX10_store_7.2.1 hl (k := 2) rfl (nI_1 _) (by decide) rfl (fun ls hl => ?_)
        refine lv_goto (tgt := 64) hx hb gX10_store_7.2.2.1 (by decide) ?_
        refine Kpds (ws' := [(h0, oX10 tby (nI kt) tln tsp tkd ts9 tn9 tf9), (tln, oX8 9 7 tlnc (nI kln)), (tlnc, iA G 63 ftln), (tsp, oX8 120 1 tspc (nI ksp)), (tspc, iA G 120 ftsp), (bb, oX0 bpersons bpapers bstamps bversions blines bsteps bsayings bfindings bwarnings bquestions td vd vl gp), (blines, oX8 72 7 blinesc (nI vkb)), (blinesc, iA G 504 f13534), (bsteps, oX8 960 1 bstepsc (nI kbsteps)), (bstepsc, iA G 960 fbsteps), (bversions, oX8 8 3 bversionsc (nI (kbversions + 1))), (bversionsc, iA G 24 f13404)]) hP hD [0, 1, 2, 3, 4, 5, 10, 11, 6, 7, 8, 9] fm_0_1_2_3_4_5_10_11_6_7_8_9 nd_0_1_2_3_4_5_10_11_6_7_8_9 sm_0_1_2_3_4_5_10_11_6_7_8_9 (fun hP hD => ?_)
        exact ihP (kP + 1) f13534 vkb _ _ _ (by omega) (by first | assumption | exact Or.inl rfl | exact Or.inr rfl | omega) (And.intro hP hD) hS (lv_sub hl [0, 3, 4, 5, 6] rfl)
  exact keyP kln 0 fblines kblines _ _ _ (by omega) (by first | assumption | exact Or.inl rfl | exact Or.inr rfl | omega) (And.intro hP hD) hS (lv_sub hl [0, 1, 2, 3, 4] rfl)
def K_p_read (l : Launch) (G : GG) (K : OO) (h0 : Nat) (bb : Nat) (kk : Nat) (ikp : Int32) (sg : Nat) (do9 : Nat) (ru9 : Nat) (ta9 : Nat) (tp9 : Nat) (ro9 : Nat) (ho9 : Nat) (de9 : Nat) (tby : Nat) (kt : Nat) (tln : Nat) (tsp : Nat) (tkd : Int32) (ks : Nat) (kn : Nat) (tf9 : Int32) (fby : Nat → Int32) (tlnc : Nat) (kln : Nat) (ftln : Nat → Int32) (tspc : Nat) (ksp : Nat) (ftsp : Nat → Int32) (bpersons : Nat) (bpapers : Nat) (bstamps : Nat) (bversions : Nat) (blines : Nat) (bsteps : Nat) (bsayings : Nat) (bfindings : Nat) (bwarnings : Nat) (bquestions : Nat) (td : Int32) (vd : Int32) (vl : Int32) (gp : Int32) (bversionsc : Nat) (kbversions : Nat) (fbversions : Nat → Int32) (blinesc : Nat) (kblines : Nat) (fblines : Nat → Int32) (bstepsc : Nat) (kbsteps : Nat) (fbsteps : Nat → Int32) : Prop := MIo l G K yX11_read cX11_read 2 (some .int) 33 0 0 [.ref h0] [(h0, oX11 bb kk ikp sg do9 ru9 ta9 tp9 ro9 ho9 de9), (tp9, oX10 tby (nI kt) tln tsp tkd (nI ks) (nI kn) tf9), (tby, iA G 240 fby), (tln, oX8 9 7 tlnc (nI kln)), (tlnc, iA G 63 ftln), (tsp, oX8 120 1 tspc (nI ksp)), (tspc, iA G 120 ftsp), (bb, oX0 bpersons bpapers bstamps bversions blines bsteps bsayings bfindings bwarnings bquestions td vd vl gp), (bversions, oX8 8 3 bversionsc (nI kbversions)), (bversionsc, iA G 24 fbversions), (blines, oX8 72 7 blinesc (nI kblines)), (blinesc, iA G 504 fblines), (bsteps, oX8 960 1 bstepsc (nI kbsteps)), (bstepsc, iA G 960 fbsteps)] (fun (r : Int32) (u : Int32 × Nat × Nat × Int32 × Nat × (Nat → Int32) × Nat × (Nat → Int32) × Nat × Nat × Nat × Nat × (Nat → Int32) × (Nat → Int32) × (Nat → Int32)) => (True) ∧ (u.2.1 ≤ 240 ∧ u.2.2.1 ≤ 240 ∧ u.2.2.2.2.1 ≤ 9 ∧ u.2.2.2.2.2.2.1 ≤ 120 ∧ u.2.2.2.2.2.2.2.2.1 = 0 ∧ u.2.2.2.2.2.2.2.2.2.1 ≤ 8 ∧ u.2.2.2.2.2.2.2.2.2.2.1 ≤ 72 ∧ u.2.2.2.2.2.2.2.2.2.2.2.1 ≤ 960)) (fun u : Int32 × Nat × Nat × Int32 × Nat × (Nat → Int32) × Nat × (Nat → Int32) × Nat × Nat × Nat × Nat × (Nat → Int32) × (Nat → Int32) × (Nat → Int32) => [(h0, oX11 bb kk ikp sg do9 ru9 ta9 tp9 ro9 ho9 de9), (tp9, oX10 tby (nI u.2.2.2.2.2.2.2.2.1) tln tsp u.1 (nI u.2.1) (nI u.2.2.1) u.2.2.2.1), (tby, iA G 240 fby), (tln, oX8 9 7 tlnc (nI u.2.2.2.2.1)), (tlnc, iA G 63 u.2.2.2.2.2.1), (tsp, oX8 120 1 tspc (nI u.2.2.2.2.2.2.1)), (tspc, iA G 120 u.2.2.2.2.2.2.2.1), (bb, oX0 bpersons bpapers bstamps bversions blines bsteps bsayings bfindings bwarnings bquestions td vd vl gp), (bversions, oX8 8 3 bversionsc (nI u.2.2.2.2.2.2.2.2.2.1)), (bversionsc, iA G 24 u.2.2.2.2.2.2.2.2.2.2.2.2.1), (blines, oX8 72 7 blinesc (nI u.2.2.2.2.2.2.2.2.2.2.1)), (blinesc, iA G 504 u.2.2.2.2.2.2.2.2.2.2.2.2.2.1), (bsteps, oX8 960 1 bstepsc (nI u.2.2.2.2.2.2.2.2.2.2.2.1)), (bstepsc, iA G 960 u.2.2.2.2.2.2.2.2.2.2.2.2.2.2)])
set_option maxHeartbeats 4000000 in
set_option maxRecDepth 100000 in
theorem p_read (l : Launch) (G : GG) (K : OO) (h0 : Nat) (bb : Nat) (kk : Nat) (ikp : Int32) (sg : Nat) (do9 : Nat) (ru9 : Nat) (ta9 : Nat) (tp9 : Nat) (ro9 : Nat) (ho9 : Nat) (de9 : Nat) (tby : Nat) (kt : Nat) (tln : Nat) (tsp : Nat) (tkd : Int32) (ks : Nat) (kn : Nat) (tf9 : Int32) (fby : Nat → Int32) (tlnc : Nat) (kln : Nat) (ftln : Nat → Int32) (tspc : Nat) (ksp : Nat) (ftsp : Nat → Int32) (bpersons : Nat) (bpapers : Nat) (bstamps : Nat) (bversions : Nat) (blines : Nat) (bsteps : Nat) (bsayings : Nat) (bfindings : Nat) (bwarnings : Nat) (bquestions : Nat) (td : Int32) (vd : Int32) (vl : Int32) (gp : Int32) (bversionsc : Nat) (kbversions : Nat) (fbversions : Nat → Int32) (blinesc : Nat) (kblines : Nat) (fblines : Nat → Int32) (bstepsc : Nat) (kbsteps : Nat) (fbsteps : Nat → Int32) (hkt : kt ≤ 240) (hks : ks ≤ 240) (hkn : kn ≤ 240) (hkln : kln ≤ 9) (hksp : ksp ≤ 120) (hkbversions : kbversions ≤ 8) (hkblines : kblines ≤ 72) (hkbsteps : kbsteps ≤ 960) : K_p_read l G K h0 bb kk ikp sg do9 ru9 ta9 tp9 ro9 ho9 de9 tby kt tln tsp tkd ks kn tf9 fby tlnc kln ftln tspc ksp ftsp bpersons bpapers bstamps bversions blines bsteps bsayings bfindings bwarnings bquestions td vd vl gp bversionsc kbversions fbversions blinesc kblines fblines bstepsc kbsteps fbsteps := by
  refine MIo.start (by decide +kernel) (Nat.le_of_ble_eq_true rfl) ?_
  intro p e s m below meth c A ls hC hK hP hD hS hA hl hO
  refine absQ (fun Q0 hQ0 => ?_)
  have hl : lv_has ls 2 [(0, .ref h0)] := hl
  refine Kan8 hC (fun hx hb hr hml hB hown hlocks hnm => ?_)
  refine lv_aload_n hx hb gX11_read_0.1 rfl (lv_at0 hl) ?_
  refine gf_X11_58 hC rfl hK hP 0 rfl rfl gX11_read_0.2.1 ?_
  refine iVo (wr := [(h0, oX11 bb kk ikp sg do9 ru9 ta9 tp9 ro9 ho9 de9), (bb, oX0 bpersons bpapers bstamps bversions blines bsteps bsayings bfindings bwarnings bquestions td vd vl gp), (bversions, oX8 8 3 bversionsc (nI kbversions)), (bversionsc, iA G 24 fbversions), (blines, oX8 72 7 blinesc (nI kblines)), (blinesc, iA G 504 fblines), (bsteps, oX8 960 1 bstepsc (nI kbsteps)), (bstepsc, iA G 960 fbsteps)]) hO hC hK hl hP hD hS hA (t_scan l G K tp9 tby kt tln tsp tkd ks kn tf9 fby tlnc kln ftln tspc ksp ftsp (hkt) (hks) (hkn) (hkln) (hksp)) si_X11_227 [1, 2, 3, 4, 5, 6] [0, 7, 8, 9, 10, 11, 12, 13] sm_1_2_3_4_5_6 fm_1_2_3_4_5_6 nd_1_2_3_4_5_6 sm_0_7_8_9_10_11_12_13 nd_0_7_8_9_10_11_12_13 dj_1_2_3_4_5_6__0_7_8_9_10_11_12_13 rfl rfl rfl rfl rfl (Nat.le_of_ble_eq_true rfl) rm_33_31_2 ⟨Nat.le_of_ble_eq_true rfl, Nat.le_of_ble_eq_true rfl⟩ gX11_read_0.2.2.1 (fun r3536 => Ktu8 fun kd13538 ks13539 kn13540 tf13541 kln13542 gtln3543 ksp13544 gtsp3545 => ?_)
  intro H locs hr3536 hP hD hS
  try dsimp only at hr3536
  refine Kpdr (ws := [(h0, oX11 bb kk ikp sg do9 ru9 ta9 tp9 ro9 ho9 de9), (bb, oX0 bpersons bpapers bstamps bversions blines bsteps bsayings bfindings bwarnings bquestions td vd vl gp), (bversions, oX8 8 3 bversionsc (nI kbversions)), (bversionsc, iA G 24 fbversions), (blines, oX8 72 7 blinesc (nI kblines)), (blinesc, iA G 504 fblines), (bsteps, oX8 960 1 bstepsc (nI kbsteps)), (bstepsc, iA G 960 fbsteps), (tp9, oX10 tby (nI kt) tln tsp kd13538 (nI ks13539) (nI kn13540) tf13541), (tby, iA G 240 fby), (tln, oX8 9 7 tlnc (nI kln13542)), (tlnc, iA G 63 gtln3543), (tsp, oX8 120 1 tspc (nI ksp13544)), (tspc, iA G 120 gtsp3545)]) hP hD (fun hP hD => ?_)
  obtain ⟨hr3536, w3546⟩ := hr3536
  refine lv_istore_n (lv' := [(1, .int r3536), (0, .ref h0)]) hx hb gX11_read_0.2.2.2.1 rfl hl (by decide) rfl (fun ls hl => ?_)
  refine lv_aload_n hx hb gX11_read_0.2.2.2.2.1 rfl (lv_at1 hl) ?_
  refine gf_X11_58 hC rfl hK hP 0 rfl rfl gX11_read_0.2.2.2.2.2.1 ?_
  refine vV (wr := [(h0, oX11 bb kk ikp sg do9 ru9 ta9 tp9 ro9 ho9 de9), (bb, oX0 bpersons bpapers bstamps bversions blines bsteps bsayings bfindings bwarnings bquestions td vd vl gp), (bversions, oX8 8 3 bversionsc (nI kbversions)), (bversionsc, iA G 24 fbversions), (blines, oX8 72 7 blinesc (nI kblines)), (blinesc, iA G 504 fblines), (bsteps, oX8 960 1 bstepsc (nI kbsteps)), (bstepsc, iA G 960 fbsteps), (tby, iA G 240 fby), (tln, oX8 9 7 tlnc (nI kln13542)), (tlnc, iA G 63 gtln3543), (tsp, oX8 120 1 tspc (nI ksp13544)), (tspc, iA G 120 gtsp3545)]) hC hK hl hP hD hS hA (t_clear l G tp9 tby kt tln tsp kd13538 (nI ks13539) (nI kn13540) tf13541) si_X11_230 [8] [0, 1, 2, 3, 4, 5, 6, 7, 9, 10, 11, 12, 13] sm_8 fm_8 nd_8 sm_0_1_2_3_4_5_6_7_9_10_11_12_13 nd_0_1_2_3_4_5_6_7_9_10_11_12_13 dj_8__0_1_2_3_4_5_6_7_9_10_11_12_13 rfl rfl rfl rfl rfl (Nat.le_of_ble_eq_true rfl) rm_33_1_1 ⟨Nat.le_of_ble_eq_true rfl, Nat.le_of_ble_eq_true rfl⟩ gX11_read_0.2.2.2.2.2.2.1 (fun u3548 H locs hr3547 hP hD hS => ?_)
  refine Kpdr (ws := [(h0, oX11 bb kk ikp sg do9 ru9 ta9 tp9 ro9 ho9 de9), (bb, oX0 bpersons bpapers bstamps bversions blines bsteps bsayings bfindings bwarnings bquestions td vd vl gp), (bversions, oX8 8 3 bversionsc (nI kbversions)), (bversionsc, iA G 24 fbversions), (blines, oX8 72 7 blinesc (nI kblines)), (blinesc, iA G 504 fblines), (bsteps, oX8 960 1 bstepsc (nI kbsteps)), (bstepsc, iA G 960 fbsteps), (tby, iA G 240 fby), (tln, oX8 9 7 tlnc (nI kln13542)), (tlnc, iA G 63 gtln3543), (tsp, oX8 120 1 tspc (nI ksp13544)), (tspc, iA G 120 gtsp3545), (tp9, oX10 tby 0 tln tsp kd13538 (nI ks13539) (nI kn13540) tf13541)]) hP hD (fun hP hD => ?_)
  refine lv_iload_n hx hb gX11_read_0.2.2.2.2.2.2.2.1 rfl (lv_at0 hl) ?_
  refine lv_if_lt (tgt := 24) hx hb gX11_read_0.2.2.2.2.2.2.2.2.1 (by decide) (fun c_16_3549 => ?_) (fun c_16_3549 => ?_)
  · refine lv_aload_n hx hb gX11_read_1.2.2.2.1 rfl (lv_at1 hl) ?_
    refine gf_X11_15 hC rfl hK hP 0 rfl rfl gX11_read_1.2.2.2.2.1 ?_
    refine gf_X11_233 hC rfl hK hP 1 rfl rfl gX11_read_1.2.2.2.2.2.1 ?_
    refine pV hC hK hl hP hD (c_T_isFull l G bversions 8 3 bversionsc kbversions (hkbversions) (by omega)) si_X11_111 [2] sm_2 fm_2 nd_2 rfl rfl rfl rfl rfl (Nat.le_of_ble_eq_true rfl) rm_33_1_1 ⟨by first | exact Nat.le_of_ble_eq_true rfl | exact Nat.zero_le _, by first | exact Nat.le_of_ble_eq_true rfl | exact Nat.zero_le _⟩ gX11_read_1.2.2.2.2.2.2.1 (Kors (Keqa fun a3551 => ?_) (Keqa fun a3551 => ?_))
    · refine lv_if_eq (tgt := 40) hx hb gX11_read_1.2.2.2.2.2.2.2.1 (by decide) (fun c9 => absurd c9 (by decide)) (fun _ => ?_)
      refine lv_bipush (v := (-2)) hx hb gX11_read_1.2.2.2.2.2.2.2.2.1 (by decide) ?_
      refine toQ hQ0 ?_
      exact RI (v := (-2)) hC hP hD hS [0, 13, 8, 9, 10, 11, 12, 1, 2, 3, 4, 5, 6, 7] (kd13538, ks13539, kn13540, tf13541, kln13542, gtln3543, ksp13544, gtsp3545, 0, kbversions, kblines, kbsteps, fbversions, fblines, fbsteps) rfl rfl (by decide) (⟨trivial, by dsimp only; omega⟩) rfl gX11_read_1.2.2.2.2.2.2.2.2.2
    · refine lv_if_eq (tgt := 40) hx hb gX11_read_1.2.2.2.2.2.2.2.1 (by decide) (fun _ => ?_) (fun c9 => absurd (by decide) c9)
      refine lv_aload_n hx hb gX11_read_2.1 rfl (lv_at1 hl) ?_
      refine gf_X11_58 hC rfl hK hP 0 rfl rfl gX11_read_2.2.1 ?_
      refine lv_aload_n hx hb gX11_read_2.2.2.1 rfl (lv_at1 hl) ?_
      refine gf_X11_15 hC rfl hK hP 0 rfl rfl gX11_read_2.2.2.2.1 ?_
      refine iV (wr := [(h0, oX11 bb kk ikp sg do9 ru9 ta9 tp9 ro9 ho9 de9), (tby, iA G 240 fby)]) hC hK hl hP hD hS hA (t_store l G tp9 bb tby 0 tln tsp kd13538 (nI ks13539) (nI kn13540) tf13541 tlnc kln13542 gtln3543 tspc ksp13544 gtsp3545 bpersons bpapers bstamps bversions blines bsteps bsayings bfindings bwarnings bquestions td vd vl gp bversionsc kbversions fbversions blinesc kblines fblines bstepsc kbsteps fbsteps (by omega) (by omega) (a3551) (hkblines) (hkbsteps)) si_X11_236 [13, 9, 10, 11, 12, 1, 2, 3, 4, 5, 6, 7] [0, 8] sm_13_9_10_11_12_1_2_3_4_5_6_7 fm_13_9_10_11_12_1_2_3_4_5_6_7 nd_13_9_10_11_12_1_2_3_4_5_6_7 sm_0_8 nd_0_8 dj_13_9_10_11_12_1_2_3_4_5_6_7__0_8 rfl rfl rfl rfl rfl (Nat.le_of_ble_eq_true rfl) rm_33_3_7 ⟨Nat.le_of_ble_eq_true rfl, Nat.le_of_ble_eq_true rfl⟩ gX11_read_2.2.2.2.2.1 (fun r3552 => Ktu6 fun kv13554 kl13555 kp13556 gversions3557 glines3558 gsteps3559 => ?_)
      intro H locs hr3552 hP hD hS
      try dsimp only at hr3552
      refine Kpdr (ws := [(h0, oX11 bb kk ikp sg do9 ru9 ta9 tp9 ro9 ho9 de9), (tby, iA G 240 fby), (tp9, oX10 tby 0 tln tsp kd13538 (nI ks13539) (nI kn13540) tf13541), (tln, oX8 9 7 tlnc (nI kln13542)), (tlnc, iA G 63 gtln3543), (tsp, oX8 120 1 tspc (nI ksp13544)), (tspc, iA G 120 gtsp3545), (bb, oX0 bpersons bpapers bstamps bversions blines bsteps bsayings bfindings bwarnings bquestions td vd vl gp), (bversions, oX8 8 3 bversionsc (nI kv13554)), (bversionsc, iA G 24 gversions3557), (blines, oX8 72 7 blinesc (nI kl13555)), (blinesc, iA G 504 glines3558), (bsteps, oX8 960 1 bstepsc (nI kp13556)), (bstepsc, iA G 960 gsteps3559)]) hP hD (fun hP hD => ?_)
      obtain ⟨hr3552, w3560⟩ := hr3552
      refine toQ hQ0 ?_
      exact RI (v := r3552) hC hP hD hS [0, 2, 1, 3, 4, 5, 6, 7, 8, 9, 10, 11, 12, 13] (kd13538, ks13539, kn13540, tf13541, kln13542, gtln3543, ksp13544, gtsp3545, 0, kv13554, kl13555, kp13556, gversions3557, glines3558, gsteps3559) rfl rfl (by decide) (⟨trivial, by dsimp only; omega⟩) rfl gX11_read_2.2.2.2.2.2
  · refine lv_bipush (v := (-100)) hx hb gX11_read_0.2.2.2.2.2.2.2.2.2 (by decide) ?_
    refine lv_iload_n hx hb gX11_read_1.1 rfl (lv_at0 hl) ?_
    refine lv_isub hx hb gX11_read_1.2.1 ?_
    refine toQ hQ0 ?_
    exact RI (v := (-100) - r3536) hC hP hD hS [0, 13, 8, 9, 10, 11, 12, 1, 2, 3, 4, 5, 6, 7] (kd13538, ks13539, kn13540, tf13541, kln13542, gtln3543, ksp13544, gtsp3545, 0, kbversions, kblines, kbsteps, fbversions, fblines, fbsteps) rfl rfl (by decide) (⟨trivial, by dsimp only; omega⟩) rfl gX11_read_1.2.2.1
