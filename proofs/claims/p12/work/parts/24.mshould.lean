section WR
variable {p : Program} {l : Launch} {e : Env} {R : Room} {s : State} {m : MethodId} {args : Array Value} {below : List Frame} {meth : Method} {c : Code} {H : Heap} {locs : List Loc} {cells slots : Nat} {Q : State → Prop}
variable {pc : Nat} {ls : Array Slot} {rest : List Value} {G : GG} {ws : va_W} {A : Nat → Prop} {y0 : MethodName} {b0 : ByteArray} {mL0 : Nat} {rt0 : Option FieldType} {a : Nat} {H0 : Heap}
theorem gX12_fromLine_0 : (decode cX12_fromLine 0 = .ok (.aload_n 0, 1)) ∧ (decode cX12_fromLine 1 = .ok (.iload_n 1, 1)) ∧ (decode cX12_fromLine 2 = .ok (.iload_n 2, 1)) ∧ (decode cX12_fromLine 3 = .ok (.iconst 0, 1)) ∧ (decode cX12_fromLine 4 = .ok (.invokevirtual 193, 3)) ∧ (decode cX12_fromLine 7 = .ok (.istore 4, 2)) ∧ (decode cX12_fromLine 9 = .ok (.iload 4, 2)) ∧ (decode cX12_fromLine 11 = .ok (.ifCond .eq 9, 3)) ∧ (decode cX12_fromLine 14 = .ok (.iload 4, 2)) ∧ (decode cX12_fromLine 16 = .ok (.iconst 2, 1)) := by decide +kernel
theorem gX12_fromLine_1 : (decode cX12_fromLine 17 = .ok (.if_icmp .ne 13, 3)) ∧ (decode cX12_fromLine 20 = .ok (.aload_n 0, 1)) ∧ (decode cX12_fromLine 21 = .ok (.iload_n 1, 1)) ∧ (decode cX12_fromLine 22 = .ok (.iload_n 2, 1)) ∧ (decode cX12_fromLine 23 = .ok (.iload_n 3, 1)) ∧ (decode cX12_fromLine 24 = .ok (.invokevirtual 196, 3)) ∧ (decode cX12_fromLine 27 = .ok (.ifCond .ne 6, 3)) ∧ (decode cX12_fromLine 30 = .ok (.ldc 175, 2)) ∧ (decode cX12_fromLine 32 = .ok (.ireturn, 1)) ∧ (decode cX12_fromLine 33 = .ok (.iload 4, 2)) := by decide +kernel
theorem m_1222 : Cond.code yX12_holds cX12_holds 12 (some .boolean) ∈ BW := iB_BW65 _ (List.mem_of_getElem? (i := 10) rfl)
theorem m_1220 : Cond.methodLink RX12 196 yX12_holds ∈ BW := iB_BW65 _ (List.mem_of_getElem? (i := 8) rfl)
theorem m_1221 : Cond.instanceMethod yX12_holds ∈ BW := iB_BW65 _ (List.mem_of_getElem? (i := 9) rfl)
theorem m_74 : Cond.selects RX12 yX12_holds yX12_holds ∈ BW := iB_BW3 _ (List.mem_of_getElem? (i := 14) rfl)
theorem si_X12_196 : SV RX12 RX12 196 yX12_holds cX12_holds 12 (some .boolean) 3 := ⟨⟨m_1220, m_1221, m_74, m_115, m_1222⟩, rfl, nK_RX12.1, nK_RX12.2, pd_0⟩
theorem gX12_fromLine_2 : (decode cX12_fromLine 35 = .ok (.iconst 2, 1)) ∧ (decode cX12_fromLine 36 = .ok (.if_icmp .ne 13, 3)) ∧ (decode cX12_fromLine 39 = .ok (.aload_n 0, 1)) ∧ (decode cX12_fromLine 40 = .ok (.iload_n 1, 1)) ∧ (decode cX12_fromLine 41 = .ok (.iload_n 2, 1)) ∧ (decode cX12_fromLine 42 = .ok (.iconst 2, 1)) ∧ (decode cX12_fromLine 43 = .ok (.invokevirtual 193, 3)) ∧ (decode cX12_fromLine 46 = .ok (.goto 15, 3)) ∧ (decode cX12_fromLine 49 = .ok (.aload_n 0, 1)) ∧ (decode cX12_fromLine 50 = .ok (.getfield 29, 3)) := by decide +kernel
theorem m_1043 : Cond.fieldLink RX12 29 "InquiryBenchModel" "should" "[I" ∈ BW := iB_BW55 _ (List.mem_of_getElem? (i := 12) rfl)
theorem gf_X12_29 (hC : CX p s m meth c y0 b0 mL0 rt0 args) (hy0 : y0.cls = RX12) (hK : KK G s) (hP : va_P G.1 vwCl ws H) (q0 : Nat) {fs : List Value} {v : Value} (he : ws[q0]? = some (a, .inr (12, fs))) (hv : fs[13]? = some v) (hdg : decode b0 pc = .ok (.getfield 29, 3)) (kk : W p l e R s m args below meth c H locs cells slots Q (F0 m (pc + 3) ls (v :: rest))) : W p l e R s m args below meth c H locs cells slots Q (F0 m pc ls (.ref a :: rest)) := by
  obtain ⟨hx, hb, hr, hml, hB, hown, hlocks, hnm⟩ := hC
  rw [hy0] at hown
  exact va_get (ci := 12) (C := RX12) (T := TX12) (N := 41) hx hb hB in_X12 hown hK.1 hP q0 he rfl 13 (by decide) (hB _ m_1043) (fun _ h => h) hv hdg kk
theorem gX12_fromLine_3 : (decode cX12_fromLine 53 = .ok (.aload_n 0, 1)) ∧ (decode cX12_fromLine 54 = .ok (.iload_n 1, 1)) ∧ (decode cX12_fromLine 55 = .ok (.iload_n 2, 1)) ∧ (decode cX12_fromLine 56 = .ok (.iconst 3, 1)) ∧ (decode cX12_fromLine 57 = .ok (.invokevirtual 193, 3)) ∧ (decode cX12_fromLine 60 = .ok (.iaload, 1)) ∧ (decode cX12_fromLine 61 = .ok (.istore 5, 2)) ∧ (decode cX12_fromLine 63 = .ok (.iload 4, 2)) ∧ (decode cX12_fromLine 65 = .ok (.iconst 2, 1)) ∧ (decode cX12_fromLine 66 = .ok (.if_icmp .eq 10, 3)) := by decide +kernel
theorem gX12_fromLine_4 : (decode cX12_fromLine 69 = .ok (.iload 5, 2)) ∧ (decode cX12_fromLine 71 = .ok (.ldc 175, 2)) ∧ (decode cX12_fromLine 73 = .ok (.if_icmp .ne 8, 3)) ∧ (decode cX12_fromLine 76 = .ok (.iload 5, 2)) ∧ (decode cX12_fromLine 78 = .ok (.goto 13, 3)) ∧ (decode cX12_fromLine 81 = .ok (.iload 5, 2)) ∧ (decode cX12_fromLine 83 = .ok (.aload_n 0, 1)) ∧ (decode cX12_fromLine 84 = .ok (.iload_n 1, 1)) ∧ (decode cX12_fromLine 85 = .ok (.iload_n 2, 1)) ∧ (decode cX12_fromLine 86 = .ok (.iconst 1, 1)) := by decide +kernel
theorem gX12_fromLine_5 : (decode cX12_fromLine 87 = .ok (.invokevirtual 193, 3)) ∧ (decode cX12_fromLine 90 = .ok (.iadd, 1)) ∧ (decode cX12_fromLine 91 = .ok (.ireturn, 1)) := by decide +kernel
theorem gX12_findShould_0 : (decode cX12_findShould 0 = .ok (.iconst 0, 1)) ∧ (decode cX12_findShould 1 = .ok (.istore_n 2, 1)) ∧ (decode cX12_findShould 2 = .ok (.iload_n 2, 1)) ∧ (decode cX12_findShould 3 = .ok (.bipush 8, 2)) ∧ (decode cX12_findShould 5 = .ok (.if_icmp .ge 22, 3)) ∧ (decode cX12_findShould 8 = .ok (.aload_n 0, 1)) ∧ (decode cX12_findShould 9 = .ok (.getfield 29, 3)) ∧ (decode cX12_findShould 12 = .ok (.iload_n 2, 1)) ∧ (decode cX12_findShould 13 = .ok (.aload_n 0, 1)) ∧ (decode cX12_findShould 14 = .ok (.iload_n 1, 1)) := by decide +kernel
theorem gX12_findShould_1 : (decode cX12_findShould 15 = .ok (.iload_n 2, 1)) ∧ (decode cX12_findShould 16 = .ok (.iconst 1, 1)) ∧ (decode cX12_findShould 17 = .ok (.invokevirtual 176, 3)) ∧ (decode cX12_findShould 20 = .ok (.iastore, 1)) ∧ (decode cX12_findShould 21 = .ok (.iinc 2 1, 3)) ∧ (decode cX12_findShould 24 = .ok (.goto (-22), 3)) ∧ (decode cX12_findShould 27 = .ok (.aload_n 0, 1)) ∧ (decode cX12_findShould 28 = .ok (.invokevirtual 180, 3)) ∧ (decode cX12_findShould 31 = .ok (.istore_n 2, 1)) ∧ (decode cX12_findShould 32 = .ok (.iload_n 2, 1)) := by decide +kernel
theorem m_1210 : Cond.code yX12_rules cX12_rules 3 (some .int) ∈ BW := iB_BW64 _ (List.mem_of_getElem? (i := 18) rfl)
theorem m_1208 : Cond.methodLink RX12 180 yX12_rules ∈ BW := iB_BW64 _ (List.mem_of_getElem? (i := 16) rfl)
theorem m_1209 : Cond.instanceMethod yX12_rules ∈ BW := iB_BW64 _ (List.mem_of_getElem? (i := 17) rfl)
theorem m_70 : Cond.selects RX12 yX12_rules yX12_rules ∈ BW := iB_BW3 _ (List.mem_of_getElem? (i := 10) rfl)
theorem si_X12_180 : SV RX12 RX12 180 yX12_rules cX12_rules 3 (some .int) 0 := ⟨⟨m_1208, m_1209, m_70, m_115, m_1210⟩, rfl, nK_RX12.1, nK_RX12.2, pd_1⟩
theorem gX12_findShould_2 : (decode cX12_findShould 33 = .ok (.ifCond .lt 7, 3)) ∧ (decode cX12_findShould 36 = .ok (.iconst 1, 1)) ∧ (decode cX12_findShould 37 = .ok (.goto 4, 3)) ∧ (decode cX12_findShould 40 = .ok (.iconst 0, 1)) ∧ (decode cX12_findShould 41 = .ok (.istore_n 3, 1)) ∧ (decode cX12_findShould 42 = .ok (.iload_n 3, 1)) ∧ (decode cX12_findShould 43 = .ok (.ifCond .eq 69, 3)) ∧ (decode cX12_findShould 46 = .ok (.iconst 0, 1)) ∧ (decode cX12_findShould 47 = .ok (.istore_n 3, 1)) ∧ (decode cX12_findShould 48 = .ok (.iconst 0, 1)) := by decide +kernel
theorem gX12_findShould_6 : (decode cX12_findShould 103 = .ok (.iinc 4 1, 3)) ∧ (decode cX12_findShould 106 = .ok (.goto (-55), 3)) ∧ (decode cX12_findShould 109 = .ok (.goto (-67), 3)) ∧ (decode cX12_findShould 112 = .ok (.return_, 1)) := by decide +kernel
theorem gX12_findShould_3 : (decode cX12_findShould 49 = .ok (.istore 4, 2)) ∧ (decode cX12_findShould 51 = .ok (.iload 4, 2)) ∧ (decode cX12_findShould 53 = .ok (.aload_n 0, 1)) ∧ (decode cX12_findShould 54 = .ok (.iload_n 2, 1)) ∧ (decode cX12_findShould 55 = .ok (.invokevirtual 183, 3)) ∧ (decode cX12_findShould 58 = .ok (.if_icmp .ge 51, 3)) ∧ (decode cX12_findShould 61 = .ok (.aload_n 0, 1)) ∧ (decode cX12_findShould 62 = .ok (.iload_n 2, 1)) ∧ (decode cX12_findShould 63 = .ok (.iload 4, 2)) ∧ (decode cX12_findShould 65 = .ok (.iload_n 1, 1)) := by decide +kernel
theorem m_1213 : Cond.code yX12_linesOf cX12_linesOf 2 (some .int) ∈ BW := iB_BW65 _ (List.mem_of_getElem? (i := 1) rfl)
theorem m_1211 : Cond.methodLink RX12 183 yX12_linesOf ∈ BW := iB_BW64 _ (List.mem_of_getElem? (i := 19) rfl)
theorem m_1212 : Cond.instanceMethod yX12_linesOf ∈ BW := iB_BW65 _ (List.mem_of_getElem? (i := 0) rfl)
theorem m_71 : Cond.selects RX12 yX12_linesOf yX12_linesOf ∈ BW := iB_BW3 _ (List.mem_of_getElem? (i := 11) rfl)
theorem si_X12_183 : SV RX12 RX12 183 yX12_linesOf cX12_linesOf 2 (some .int) 1 := ⟨⟨m_1211, m_1212, m_71, m_115, m_1213⟩, rfl, nK_RX12.1, nK_RX12.2, pd_7⟩
theorem gX12_findShould_4 : (decode cX12_findShould 66 = .ok (.invokevirtual 186, 3)) ∧ (decode cX12_findShould 69 = .ok (.istore 5, 2)) ∧ (decode cX12_findShould 71 = .ok (.aload_n 0, 1)) ∧ (decode cX12_findShould 72 = .ok (.iload_n 2, 1)) ∧ (decode cX12_findShould 73 = .ok (.iload 4, 2)) ∧ (decode cX12_findShould 75 = .ok (.invokevirtual 190, 3)) ∧ (decode cX12_findShould 78 = .ok (.istore 6, 2)) ∧ (decode cX12_findShould 80 = .ok (.iload 5, 2)) ∧ (decode cX12_findShould 82 = .ok (.aload_n 0, 1)) ∧ (decode cX12_findShould 83 = .ok (.getfield 29, 3)) := by decide +kernel
theorem m_1216 : Cond.code yX12_fromLine cX12_fromLine 6 (some .int) ∈ BW := iB_BW65 _ (List.mem_of_getElem? (i := 4) rfl)
theorem m_1214 : Cond.methodLink RX12 186 yX12_fromLine ∈ BW := iB_BW65 _ (List.mem_of_getElem? (i := 2) rfl)
theorem m_1215 : Cond.instanceMethod yX12_fromLine ∈ BW := iB_BW65 _ (List.mem_of_getElem? (i := 3) rfl)
theorem m_72 : Cond.selects RX12 yX12_fromLine yX12_fromLine ∈ BW := iB_BW3 _ (List.mem_of_getElem? (i := 12) rfl)
theorem si_X12_186 : SV RX12 RX12 186 yX12_fromLine cX12_fromLine 6 (some .int) 3 := ⟨⟨m_1214, m_1215, m_72, m_115, m_1216⟩, rfl, nK_RX12.1, nK_RX12.2, pd_19⟩
theorem m_1228 : Cond.code yX12_thingOf cX12_thingOf 4 (some .int) ∈ BW := iB_BW65 _ (List.mem_of_getElem? (i := 16) rfl)
theorem m_1226 : Cond.methodLink RX12 190 yX12_thingOf ∈ BW := iB_BW65 _ (List.mem_of_getElem? (i := 14) rfl)
theorem m_1227 : Cond.instanceMethod yX12_thingOf ∈ BW := iB_BW65 _ (List.mem_of_getElem? (i := 15) rfl)
theorem m_76 : Cond.selects RX12 yX12_thingOf yX12_thingOf ∈ BW := iB_BW3 _ (List.mem_of_getElem? (i := 16) rfl)
theorem si_X12_190 : SV RX12 RX12 190 yX12_thingOf cX12_thingOf 4 (some .int) 2 := ⟨⟨m_1226, m_1227, m_76, m_115, m_1228⟩, rfl, nK_RX12.1, nK_RX12.2, pd_2⟩
theorem gX12_findShould_5 : (decode cX12_findShould 86 = .ok (.iload 6, 2)) ∧ (decode cX12_findShould 88 = .ok (.iaload, 1)) ∧ (decode cX12_findShould 89 = .ok (.if_icmp .ge 14, 3)) ∧ (decode cX12_findShould 92 = .ok (.aload_n 0, 1)) ∧ (decode cX12_findShould 93 = .ok (.getfield 29, 3)) ∧ (decode cX12_findShould 96 = .ok (.iload 6, 2)) ∧ (decode cX12_findShould 98 = .ok (.iload 5, 2)) ∧ (decode cX12_findShould 100 = .ok (.iastore, 1)) ∧ (decode cX12_findShould 101 = .ok (.iconst 1, 1)) ∧ (decode cX12_findShould 102 = .ok (.istore_n 3, 1)) := by decide +kernel
theorem m_1203 : Cond.code yX12_knewBy cX12_knewBy 7 (some .int) ∈ BW := iB_BW64 _ (List.mem_of_getElem? (i := 11) rfl)
theorem m_1201 : Cond.methodLink RX12 176 yX12_knewBy ∈ BW := iB_BW64 _ (List.mem_of_getElem? (i := 9) rfl)
theorem m_1202 : Cond.instanceMethod yX12_knewBy ∈ BW := iB_BW64 _ (List.mem_of_getElem? (i := 10) rfl)
theorem m_68 : Cond.selects RX12 yX12_knewBy yX12_knewBy ∈ BW := iB_BW3 _ (List.mem_of_getElem? (i := 8) rfl)
theorem si_X12_176 : SV RX12 RX12 176 yX12_knewBy cX12_knewBy 7 (some .int) 3 := ⟨⟨m_1201, m_1202, m_68, m_115, m_1203⟩, rfl, nK_RX12.1, nK_RX12.2, pd_6⟩
theorem gX12_fromOf_0 : (decode cX12_fromOf 0 = .ok (.iload_n 3, 1)) ∧ (decode cX12_fromOf 1 = .ok (.iconst 2, 1)) ∧ (decode cX12_fromOf 2 = .ok (.if_icmp .ge 19, 3)) ∧ (decode cX12_fromOf 5 = .ok (.aload_n 0, 1)) ∧ (decode cX12_fromOf 6 = .ok (.iload_n 1, 1)) ∧ (decode cX12_fromOf 7 = .ok (.iload_n 2, 1)) ∧ (decode cX12_fromOf 8 = .ok (.iload_n 3, 1)) ∧ (decode cX12_fromOf 9 = .ok (.ifCond .ne 7, 3)) ∧ (decode cX12_fromOf 12 = .ok (.iconst 1, 1)) ∧ (decode cX12_fromOf 13 = .ok (.goto 4, 3)) := by decide +kernel
theorem gX12_fromOf_1 : (decode cX12_fromOf 16 = .ok (.iconst 0, 1)) ∧ (decode cX12_fromOf 17 = .ok (.invokevirtual 176, 3)) ∧ (decode cX12_fromOf 20 = .ok (.ireturn, 1)) ∧ (decode cX12_fromOf 21 = .ok (.aload_n 0, 1)) ∧ (decode cX12_fromOf 22 = .ok (.iload_n 1, 1)) ∧ (decode cX12_fromOf 23 = .ok (.invokevirtual 199, 3)) ∧ (decode cX12_fromOf 26 = .ok (.aload_n 0, 1)) ∧ (decode cX12_fromOf 27 = .ok (.getfield 29, 3)) ∧ (decode cX12_fromOf 30 = .ok (.iload_n 2, 1)) ∧ (decode cX12_fromOf 31 = .ok (.iaload, 1)) := by decide +kernel
theorem m_1207 : Cond.code yX12_findShould cX12_findShould 7 none ∈ BW := iB_BW64 _ (List.mem_of_getElem? (i := 15) rfl)
theorem m_1205 : Cond.methodLink RX12 199 yX12_findShould ∈ BW := iB_BW64 _ (List.mem_of_getElem? (i := 13) rfl)
theorem m_1206 : Cond.instanceMethod yX12_findShould ∈ BW := iB_BW64 _ (List.mem_of_getElem? (i := 14) rfl)
theorem m_69 : Cond.selects RX12 yX12_findShould yX12_findShould ∈ BW := iB_BW3 _ (List.mem_of_getElem? (i := 9) rfl)
theorem si_X12_199 : SV RX12 RX12 199 yX12_findShould cX12_findShould 7 none 1 := ⟨⟨m_1205, m_1206, m_69, m_115, m_1207⟩, rfl, nK_RX12.1, nK_RX12.2, pd_18⟩
theorem gX12_fromOf_2 : (decode cX12_fromOf 32 = .ok (.ireturn, 1)) := by decide +kernel
theorem gX12_knew_0 : (decode cX12_knew 0 = .ok (.aload_n 0, 1)) ∧ (decode cX12_knew 1 = .ok (.iload_n 1, 1)) ∧ (decode cX12_knew 2 = .ok (.iconst 4, 1)) ∧ (decode cX12_knew 3 = .ok (.invokevirtual 120, 3)) ∧ (decode cX12_knew 6 = .ok (.ifCond .eq 22, 3)) ∧ (decode cX12_knew 9 = .ok (.iload_n 2, 1)) ∧ (decode cX12_knew 10 = .ok (.iconst 0, 1)) ∧ (decode cX12_knew 11 = .ok (.bipush 7, 2)) ∧ (decode cX12_knew 13 = .ok (.invokestatic 84, 3)) ∧ (decode cX12_knew 16 = .ok (.ifCond .eq 12, 3)) := by decide +kernel
theorem gX12_knew_1 : (decode cX12_knew 19 = .ok (.iload_n 3, 1)) ∧ (decode cX12_knew 20 = .ok (.iconst 0, 1)) ∧ (decode cX12_knew 21 = .ok (.iconst 2, 1)) ∧ (decode cX12_knew 22 = .ok (.invokestatic 84, 3)) ∧ (decode cX12_knew 25 = .ok (.ifCond .ne 5, 3)) ∧ (decode cX12_knew 28 = .ok (.iconst (-1), 1)) ∧ (decode cX12_knew 29 = .ok (.ireturn, 1)) ∧ (decode cX12_knew 30 = .ok (.aload_n 0, 1)) ∧ (decode cX12_knew 31 = .ok (.iload_n 1, 1)) ∧ (decode cX12_knew 32 = .ok (.iload_n 2, 1)) := by decide +kernel
theorem gX12_knew_2 : (decode cX12_knew 33 = .ok (.iload_n 3, 1)) ∧ (decode cX12_knew 34 = .ok (.invokevirtual 203, 3)) ∧ (decode cX12_knew 37 = .ok (.istore 4, 2)) ∧ (decode cX12_knew 39 = .ok (.iload 4, 2)) ∧ (decode cX12_knew 41 = .ok (.ldc 175, 2)) ∧ (decode cX12_knew 43 = .ok (.if_icmp .ne 8, 3)) ∧ (decode cX12_knew 46 = .ok (.bipush (-3), 2)) ∧ (decode cX12_knew 48 = .ok (.goto 9, 3)) ∧ (decode cX12_knew 51 = .ok (.sipush 1000, 3)) ∧ (decode cX12_knew 54 = .ok (.iload 4, 2)) := by decide +kernel
theorem m_1200 : Cond.code yX12_fromOf cX12_fromOf 4 (some .int) ∈ BW := iB_BW64 _ (List.mem_of_getElem? (i := 8) rfl)
theorem m_1198 : Cond.methodLink RX12 203 yX12_fromOf ∈ BW := iB_BW64 _ (List.mem_of_getElem? (i := 6) rfl)
theorem m_1199 : Cond.instanceMethod yX12_fromOf ∈ BW := iB_BW64 _ (List.mem_of_getElem? (i := 7) rfl)
theorem m_67 : Cond.selects RX12 yX12_fromOf yX12_fromOf ∈ BW := iB_BW3 _ (List.mem_of_getElem? (i := 7) rfl)
theorem si_X12_203 : SV RX12 RX12 203 yX12_fromOf cX12_fromOf 4 (some .int) 3 := ⟨⟨m_1198, m_1199, m_67, m_115, m_1200⟩, rfl, nK_RX12.1, nK_RX12.2, pd_19⟩
theorem gX12_knew_3 : (decode cX12_knew 56 = .ok (.iadd, 1)) ∧ (decode cX12_knew 57 = .ok (.ireturn, 1)) := by decide +kernel
theorem gX12_why_0 : (decode cX12_why 0 = .ok (.aload_n 0, 1)) ∧ (decode cX12_why 1 = .ok (.iload_n 1, 1)) ∧ (decode cX12_why 2 = .ok (.iconst 4, 1)) ∧ (decode cX12_why 3 = .ok (.invokevirtual 120, 3)) ∧ (decode cX12_why 6 = .ok (.ifCond .eq 13, 3)) ∧ (decode cX12_why 9 = .ok (.iload_n 2, 1)) ∧ (decode cX12_why 10 = .ok (.iconst 0, 1)) ∧ (decode cX12_why 11 = .ok (.bipush 7, 2)) ∧ (decode cX12_why 13 = .ok (.invokestatic 84, 3)) ∧ (decode cX12_why 16 = .ok (.ifCond .ne 5, 3)) := by decide +kernel
theorem gX12_why_1 : (decode cX12_why 19 = .ok (.iconst (-1), 1)) ∧ (decode cX12_why 20 = .ok (.ireturn, 1)) ∧ (decode cX12_why 21 = .ok (.aload_n 0, 1)) ∧ (decode cX12_why 22 = .ok (.iload_n 1, 1)) ∧ (decode cX12_why 23 = .ok (.invokevirtual 199, 3)) ∧ (decode cX12_why 26 = .ok (.aload_n 0, 1)) ∧ (decode cX12_why 27 = .ok (.invokevirtual 180, 3)) ∧ (decode cX12_why 30 = .ok (.istore_n 3, 1)) ∧ (decode cX12_why 31 = .ok (.aload_n 0, 1)) ∧ (decode cX12_why 32 = .ok (.getfield 29, 3)) := by decide +kernel
theorem gX12_why_2 : (decode cX12_why 35 = .ok (.iload_n 2, 1)) ∧ (decode cX12_why 36 = .ok (.iaload, 1)) ∧ (decode cX12_why 37 = .ok (.ldc 175, 2)) ∧ (decode cX12_why 39 = .ok (.if_icmp .eq 19, 3)) ∧ (decode cX12_why 42 = .ok (.aload_n 0, 1)) ∧ (decode cX12_why 43 = .ok (.getfield 29, 3)) ∧ (decode cX12_why 46 = .ok (.iload_n 2, 1)) ∧ (decode cX12_why 47 = .ok (.iaload, 1)) ∧ (decode cX12_why 48 = .ok (.aload_n 0, 1)) ∧ (decode cX12_why 49 = .ok (.iload_n 1, 1)) := by decide +kernel
theorem gX12_why_3 : (decode cX12_why 50 = .ok (.iload_n 2, 1)) ∧ (decode cX12_why 51 = .ok (.iconst 1, 1)) ∧ (decode cX12_why 52 = .ok (.invokevirtual 176, 3)) ∧ (decode cX12_why 55 = .ok (.if_icmp .ne 6, 3)) ∧ (decode cX12_why 58 = .ok (.bipush (-3), 2)) ∧ (decode cX12_why 60 = .ok (.ireturn, 1)) ∧ (decode cX12_why 61 = .ok (.iconst 0, 1)) ∧ (decode cX12_why 62 = .ok (.istore 4, 2)) ∧ (decode cX12_why 64 = .ok (.iload 4, 2)) ∧ (decode cX12_why 66 = .ok (.aload_n 0, 1)) := by decide +kernel
theorem gX12_why_4 : (decode cX12_why 67 = .ok (.iload_n 3, 1)) ∧ (decode cX12_why 68 = .ok (.invokevirtual 183, 3)) ∧ (decode cX12_why 71 = .ok (.if_icmp .ge 40, 3)) ∧ (decode cX12_why 74 = .ok (.aload_n 0, 1)) ∧ (decode cX12_why 75 = .ok (.iload_n 3, 1)) ∧ (decode cX12_why 76 = .ok (.iload 4, 2)) ∧ (decode cX12_why 78 = .ok (.invokevirtual 190, 3)) ∧ (decode cX12_why 81 = .ok (.iload_n 2, 1)) ∧ (decode cX12_why 82 = .ok (.if_icmp .ne 23, 3)) ∧ (decode cX12_why 85 = .ok (.aload_n 0, 1)) := by decide +kernel
theorem gX12_why_6 : (decode cX12_why 104 = .ok (.ireturn, 1)) ∧ (decode cX12_why 105 = .ok (.iinc 4 1, 3)) ∧ (decode cX12_why 108 = .ok (.goto (-44), 3)) ∧ (decode cX12_why 111 = .ok (.bipush (-3), 2)) ∧ (decode cX12_why 113 = .ok (.ireturn, 1)) := by decide +kernel
theorem gX12_why_5 : (decode cX12_why 86 = .ok (.iload_n 3, 1)) ∧ (decode cX12_why 87 = .ok (.iload 4, 2)) ∧ (decode cX12_why 89 = .ok (.iload_n 1, 1)) ∧ (decode cX12_why 90 = .ok (.invokevirtual 186, 3)) ∧ (decode cX12_why 93 = .ok (.aload_n 0, 1)) ∧ (decode cX12_why 94 = .ok (.getfield 29, 3)) ∧ (decode cX12_why 97 = .ok (.iload_n 2, 1)) ∧ (decode cX12_why 98 = .ok (.iaload, 1)) ∧ (decode cX12_why 99 = .ok (.if_icmp .ne 6, 3)) ∧ (decode cX12_why 102 = .ok (.iload 4, 2)) := by decide +kernel
theorem gX12_stands_0 : (decode cX12_stands 0 = .ok (.sipush 1552, 3)) ∧ (decode cX12_stands 3 = .ok (.iconst 4, 1)) ∧ (decode cX12_stands 4 = .ok (.iload_n 1, 1)) ∧ (decode cX12_stands 5 = .ok (.imul, 1)) ∧ (decode cX12_stands 6 = .ok (.iadd, 1)) ∧ (decode cX12_stands 7 = .ok (.istore_n 2, 1)) ∧ (decode cX12_stands 8 = .ok (.aload_n 0, 1)) ∧ (decode cX12_stands 9 = .ok (.getfield 9, 3)) ∧ (decode cX12_stands 12 = .ok (.iload_n 2, 1)) ∧ (decode cX12_stands 13 = .ok (.iconst 2, 1)) := by decide +kernel
theorem gX12_stands_1 : (decode cX12_stands 14 = .ok (.iadd, 1)) ∧ (decode cX12_stands 15 = .ok (.iaload, 1)) ∧ (decode cX12_stands 16 = .ok (.aload_n 0, 1)) ∧ (decode cX12_stands 17 = .ok (.aload_n 0, 1)) ∧ (decode cX12_stands 18 = .ok (.getfield 9, 3)) ∧ (decode cX12_stands 21 = .ok (.iload_n 2, 1)) ∧ (decode cX12_stands 22 = .ok (.iconst 0, 1)) ∧ (decode cX12_stands 23 = .ok (.iadd, 1)) ∧ (decode cX12_stands 24 = .ok (.iaload, 1)) ∧ (decode cX12_stands 25 = .ok (.aload_n 0, 1)) := by decide +kernel
theorem gX12_stands_2 : (decode cX12_stands 26 = .ok (.getfield 9, 3)) ∧ (decode cX12_stands 29 = .ok (.iload_n 2, 1)) ∧ (decode cX12_stands 30 = .ok (.iconst 1, 1)) ∧ (decode cX12_stands 31 = .ok (.iadd, 1)) ∧ (decode cX12_stands 32 = .ok (.iaload, 1)) ∧ (decode cX12_stands 33 = .ok (.aload_n 0, 1)) ∧ (decode cX12_stands 34 = .ok (.getfield 9, 3)) ∧ (decode cX12_stands 37 = .ok (.iload_n 2, 1)) ∧ (decode cX12_stands 38 = .ok (.iconst 3, 1)) ∧ (decode cX12_stands 39 = .ok (.iadd, 1)) := by decide +kernel
theorem gX12_stands_3 : (decode cX12_stands 40 = .ok (.iaload, 1)) ∧ (decode cX12_stands 41 = .ok (.invokevirtual 203, 3)) ∧ (decode cX12_stands 44 = .ok (.if_icmp .lt 7, 3)) ∧ (decode cX12_stands 47 = .ok (.iconst 1, 1)) ∧ (decode cX12_stands 48 = .ok (.goto 4, 3)) ∧ (decode cX12_stands 51 = .ok (.iconst 0, 1)) ∧ (decode cX12_stands 52 = .ok (.ireturn, 1)) := by decide +kernel
theorem gX12_leans_0 : (decode cX12_leans 0 = .ok (.aload_n 0, 1)) ∧ (decode cX12_leans 1 = .ok (.iload_n 1, 1)) ∧ (decode cX12_leans 2 = .ok (.invokevirtual 305, 3)) ∧ (decode cX12_leans 5 = .ok (.ifCond .eq 10, 3)) ∧ (decode cX12_leans 8 = .ok (.aload_n 0, 1)) ∧ (decode cX12_leans 9 = .ok (.invokevirtual 107, 3)) ∧ (decode cX12_leans 12 = .ok (.goto 4, 3)) ∧ (decode cX12_leans 15 = .ok (.iconst 0, 1)) ∧ (decode cX12_leans 16 = .ok (.istore_n 2, 1)) ∧ (decode cX12_leans 17 = .ok (.iconst 0, 1)) := by decide +kernel
theorem m_1309 : Cond.code yX12_stands cX12_stands 3 (some .boolean) ∈ BW := iB_BW69 _ (List.mem_of_getElem? (i := 17) rfl)
theorem m_1307 : Cond.methodLink RX12 305 yX12_stands ∈ BW := iB_BW69 _ (List.mem_of_getElem? (i := 15) rfl)
theorem m_1308 : Cond.instanceMethod yX12_stands ∈ BW := iB_BW69 _ (List.mem_of_getElem? (i := 16) rfl)
theorem m_90 : Cond.selects RX12 yX12_stands yX12_stands ∈ BW := iB_BW4 _ (List.mem_of_getElem? (i := 10) rfl)
theorem si_X12_305 : SV RX12 RX12 305 yX12_stands cX12_stands 3 (some .boolean) 1 := ⟨⟨m_1307, m_1308, m_90, m_115, m_1309⟩, rfl, nK_RX12.1, nK_RX12.2, pd_5⟩
theorem m_1084 : Cond.code yX12_inView cX12_inView 3 (some .int) ∈ BW := iB_BW57 _ (List.mem_of_getElem? (i := 13) rfl)
theorem m_1082 : Cond.methodLink RX12 107 yX12_inView ∈ BW := iB_BW57 _ (List.mem_of_getElem? (i := 11) rfl)
theorem m_1083 : Cond.instanceMethod yX12_inView ∈ BW := iB_BW57 _ (List.mem_of_getElem? (i := 12) rfl)
theorem m_48 : Cond.selects RX12 yX12_inView yX12_inView ∈ BW := iB_BW2 _ (List.mem_of_getElem? (i := 8) rfl)
theorem si_X12_107 : SV RX12 RX12 107 yX12_inView cX12_inView 3 (some .int) 0 := ⟨⟨m_1082, m_1083, m_48, m_115, m_1084⟩, rfl, nK_RX12.1, nK_RX12.2, pd_1⟩
theorem gX12_leans_1 : (decode cX12_leans 18 = .ok (.istore_n 3, 1)) ∧ (decode cX12_leans 19 = .ok (.iconst 0, 1)) ∧ (decode cX12_leans 20 = .ok (.istore 4, 2)) ∧ (decode cX12_leans 22 = .ok (.iload 4, 2)) ∧ (decode cX12_leans 24 = .ok (.aload_n 0, 1)) ∧ (decode cX12_leans 25 = .ok (.getfield 9, 3)) ∧ (decode cX12_leans 28 = .ok (.iconst 5, 1)) ∧ (decode cX12_leans 29 = .ok (.iaload, 1)) ∧ (decode cX12_leans 30 = .ok (.if_icmp .ge 50, 3)) ∧ (decode cX12_leans 33 = .ok (.iload_n 2, 1)) := by decide +kernel
theorem gX12_leans_4 : (decode cX12_leans 69 = .ok (.aload_n 0, 1)) ∧ (decode cX12_leans 70 = .ok (.iconst 0, 1)) ∧ (decode cX12_leans 71 = .ok (.putfield 96, 3)) ∧ (decode cX12_leans 74 = .ok (.iinc 4 1, 3)) ∧ (decode cX12_leans 77 = .ok (.goto (-55), 3)) ∧ (decode cX12_leans 80 = .ok (.iload_n 3, 1)) ∧ (decode cX12_leans 81 = .ok (.ireturn, 1)) := by decide +kernel
theorem gX12_leans_2 : (decode cX12_leans 34 = .ok (.iload 4, 2)) ∧ (decode cX12_leans 36 = .ok (.invokestatic 99, 3)) ∧ (decode cX12_leans 39 = .ok (.ifCond .eq 35, 3)) ∧ (decode cX12_leans 42 = .ok (.aload_n 0, 1)) ∧ (decode cX12_leans 43 = .ok (.iconst 1, 1)) ∧ (decode cX12_leans 44 = .ok (.iload 4, 2)) ∧ (decode cX12_leans 46 = .ok (.ishl, 1)) ∧ (decode cX12_leans 47 = .ok (.putfield 96, 3)) ∧ (decode cX12_leans 50 = .ok (.iload_n 3, 1)) ∧ (decode cX12_leans 51 = .ok (.aload_n 0, 1)) := by decide +kernel
theorem gX12_leans_3 : (decode cX12_leans 52 = .ok (.iload_n 1, 1)) ∧ (decode cX12_leans 53 = .ok (.invokevirtual 305, 3)) ∧ (decode cX12_leans 56 = .ok (.ifCond .eq 7, 3)) ∧ (decode cX12_leans 59 = .ok (.iconst 0, 1)) ∧ (decode cX12_leans 60 = .ok (.goto 7, 3)) ∧ (decode cX12_leans 63 = .ok (.iconst 1, 1)) ∧ (decode cX12_leans 64 = .ok (.iload 4, 2)) ∧ (decode cX12_leans 66 = .ok (.ishl, 1)) ∧ (decode cX12_leans 67 = .ok (.ior, 1)) ∧ (decode cX12_leans 68 = .ok (.istore_n 3, 1)) := by decide +kernel
theorem gX12_asked_0 : (decode cX12_asked 0 = .ok (.aload_n 0, 1)) ∧ (decode cX12_asked 1 = .ok (.invokevirtual 180, 3)) ∧ (decode cX12_asked 4 = .ok (.istore_n 3, 1)) ∧ (decode cX12_asked 5 = .ok (.iconst (-1), 1)) ∧ (decode cX12_asked 6 = .ok (.istore 4, 2)) ∧ (decode cX12_asked 8 = .ok (.iconst 0, 1)) ∧ (decode cX12_asked 9 = .ok (.istore 5, 2)) ∧ (decode cX12_asked 11 = .ok (.iload 5, 2)) ∧ (decode cX12_asked 13 = .ok (.aload_n 0, 1)) ∧ (decode cX12_asked 14 = .ok (.iload_n 3, 1)) := by decide +kernel
theorem gX12_asked_1 : (decode cX12_asked 15 = .ok (.invokevirtual 183, 3)) ∧ (decode cX12_asked 18 = .ok (.if_icmp .ge 69, 3)) ∧ (decode cX12_asked 21 = .ok (.aload_n 0, 1)) ∧ (decode cX12_asked 22 = .ok (.iload_n 3, 1)) ∧ (decode cX12_asked 23 = .ok (.iload 5, 2)) ∧ (decode cX12_asked 25 = .ok (.iconst 0, 1)) ∧ (decode cX12_asked 26 = .ok (.invokevirtual 193, 3)) ∧ (decode cX12_asked 29 = .ok (.iload_n 2, 1)) ∧ (decode cX12_asked 30 = .ok (.if_icmp .ne 28, 3)) ∧ (decode cX12_asked 33 = .ok (.iload_n 2, 1)) := by decide +kernel
theorem gX12_asked_4 : (decode cX12_asked 71 = .ok (.invokevirtual 193, 3)) ∧ (decode cX12_asked 74 = .ok (.goto 5, 3)) ∧ (decode cX12_asked 77 = .ok (.iload 4, 2)) ∧ (decode cX12_asked 79 = .ok (.istore 4, 2)) ∧ (decode cX12_asked 81 = .ok (.iinc 5 1, 3)) ∧ (decode cX12_asked 84 = .ok (.goto (-73), 3)) ∧ (decode cX12_asked 87 = .ok (.iconst 0, 1)) ∧ (decode cX12_asked 88 = .ok (.iload 4, 2)) ∧ (decode cX12_asked 90 = .ok (.invokestatic 308, 3)) ∧ (decode cX12_asked 93 = .ok (.ireturn, 1)) := by decide +kernel
theorem m_1319 : Cond.methodLink RX12 308 Lib.Math.max.name ∈ BW := iB_BW70 _ (List.mem_of_getElem? (i := 7) rfl)
theorem m_142 : Cond.static Lib.Math.max.name ∈ BW := iB_BW8 _ (List.mem_of_getElem? (i := 0) rfl)
theorem m_143 : Cond.code Lib.Math.max.name Lib.Math.max.code 2 (some .int) ∈ BW := iB_BW8 _ (List.mem_of_getElem? (i := 1) rfl)
theorem gX12_asked_3 : (decode cX12_asked 54 = .ok (.iconst 1, 1)) ∧ (decode cX12_asked 55 = .ok (.goto 4, 3)) ∧ (decode cX12_asked 58 = .ok (.iconst 0, 1)) ∧ (decode cX12_asked 59 = .ok (.istore 6, 2)) ∧ (decode cX12_asked 61 = .ok (.iload 6, 2)) ∧ (decode cX12_asked 63 = .ok (.ifCond .eq 14, 3)) ∧ (decode cX12_asked 66 = .ok (.aload_n 0, 1)) ∧ (decode cX12_asked 67 = .ok (.iload_n 3, 1)) ∧ (decode cX12_asked 68 = .ok (.iload 5, 2)) ∧ (decode cX12_asked 70 = .ok (.iconst 1, 1)) := by decide +kernel
theorem gX12_asked_2 : (decode cX12_asked 34 = .ok (.iconst 3, 1)) ∧ (decode cX12_asked 35 = .ok (.if_icmp .eq 19, 3)) ∧ (decode cX12_asked 38 = .ok (.iload 4, 2)) ∧ (decode cX12_asked 40 = .ok (.ifCond .ge 18, 3)) ∧ (decode cX12_asked 43 = .ok (.aload_n 0, 1)) ∧ (decode cX12_asked 44 = .ok (.iload_n 3, 1)) ∧ (decode cX12_asked 45 = .ok (.iload 5, 2)) ∧ (decode cX12_asked 47 = .ok (.iload_n 1, 1)) ∧ (decode cX12_asked 48 = .ok (.invokevirtual 196, 3)) ∧ (decode cX12_asked 51 = .ok (.ifCond .eq 7, 3)) := by decide +kernel
theorem gX12_isBarred_0 : (decode cX12_isBarred 0 = .ok (.aload_n 0, 1)) ∧ (decode cX12_isBarred 1 = .ok (.getfield 9, 3)) ∧ (decode cX12_isBarred 4 = .ok (.sipush 1552, 3)) ∧ (decode cX12_isBarred 7 = .ok (.iconst 4, 1)) ∧ (decode cX12_isBarred 8 = .ok (.iload_n 1, 1)) ∧ (decode cX12_isBarred 9 = .ok (.imul, 1)) ∧ (decode cX12_isBarred 10 = .ok (.iadd, 1)) ∧ (decode cX12_isBarred 11 = .ok (.iconst 0, 1)) ∧ (decode cX12_isBarred 12 = .ok (.iadd, 1)) ∧ (decode cX12_isBarred 13 = .ok (.iaload, 1)) := by decide +kernel
theorem gX12_isBarred_1 : (decode cX12_isBarred 14 = .ok (.istore_n 2, 1)) ∧ (decode cX12_isBarred 15 = .ok (.aload_n 0, 1)) ∧ (decode cX12_isBarred 16 = .ok (.iload_n 1, 1)) ∧ (decode cX12_isBarred 17 = .ok (.invokevirtual 311, 3)) ∧ (decode cX12_isBarred 20 = .ok (.istore_n 3, 1)) ∧ (decode cX12_isBarred 21 = .ok (.aload_n 0, 1)) ∧ (decode cX12_isBarred 22 = .ok (.iload_n 2, 1)) ∧ (decode cX12_isBarred 23 = .ok (.iconst 1, 1)) ∧ (decode cX12_isBarred 24 = .ok (.invokevirtual 314, 3)) ∧ (decode cX12_isBarred 27 = .ok (.istore 4, 2)) := by decide +kernel
theorem m_1312 : Cond.code yX12_leans cX12_leans 5 (some .int) ∈ BW := iB_BW70 _ (List.mem_of_getElem? (i := 0) rfl)
theorem m_1310 : Cond.methodLink RX12 311 yX12_leans ∈ BW := iB_BW69 _ (List.mem_of_getElem? (i := 18) rfl)
theorem m_1311 : Cond.instanceMethod yX12_leans ∈ BW := iB_BW69 _ (List.mem_of_getElem? (i := 19) rfl)
theorem m_91 : Cond.selects RX12 yX12_leans yX12_leans ∈ BW := iB_BW4 _ (List.mem_of_getElem? (i := 11) rfl)
theorem si_X12_311 : SV RX12 RX12 311 yX12_leans cX12_leans 5 (some .int) 1 := ⟨⟨m_1310, m_1311, m_91, m_115, m_1312⟩, rfl, nK_RX12.1, nK_RX12.2, pd_7⟩
theorem m_1318 : Cond.code yX12_asked cX12_asked 7 (some .int) ∈ BW := iB_BW70 _ (List.mem_of_getElem? (i := 6) rfl)
theorem m_1316 : Cond.methodLink RX12 314 yX12_asked ∈ BW := iB_BW70 _ (List.mem_of_getElem? (i := 4) rfl)
theorem m_1317 : Cond.instanceMethod yX12_asked ∈ BW := iB_BW70 _ (List.mem_of_getElem? (i := 5) rfl)
theorem m_93 : Cond.selects RX12 yX12_asked yX12_asked ∈ BW := iB_BW4 _ (List.mem_of_getElem? (i := 13) rfl)
theorem si_X12_314 : SV RX12 RX12 314 yX12_asked cX12_asked 7 (some .int) 2 := ⟨⟨m_1316, m_1317, m_93, m_115, m_1318⟩, rfl, nK_RX12.1, nK_RX12.2, pd_2⟩
theorem gX12_isBarred_2 : (decode cX12_isBarred 29 = .ok (.iconst 0, 1)) ∧ (decode cX12_isBarred 30 = .ok (.istore 5, 2)) ∧ (decode cX12_isBarred 32 = .ok (.iload 5, 2)) ∧ (decode cX12_isBarred 34 = .ok (.aload_n 0, 1)) ∧ (decode cX12_isBarred 35 = .ok (.getfield 9, 3)) ∧ (decode cX12_isBarred 38 = .ok (.bipush 10, 2)) ∧ (decode cX12_isBarred 40 = .ok (.iaload, 1)) ∧ (decode cX12_isBarred 41 = .ok (.if_icmp .ge 97, 3)) ∧ (decode cX12_isBarred 44 = .ok (.sipush 1600, 3)) ∧ (decode cX12_isBarred 47 = .ok (.iconst 3, 1)) := by decide +kernel
theorem gX12_isBarred_8 : (decode cX12_isBarred 131 = .ok (.istore_n 3, 1)) ∧ (decode cX12_isBarred 132 = .ok (.iinc 5 1, 3)) ∧ (decode cX12_isBarred 135 = .ok (.goto (-103), 3)) ∧ (decode cX12_isBarred 138 = .ok (.iload_n 3, 1)) ∧ (decode cX12_isBarred 139 = .ok (.ifCond .ne 17, 3)) ∧ (decode cX12_isBarred 142 = .ok (.aload_n 0, 1)) ∧ (decode cX12_isBarred 143 = .ok (.iload_n 2, 1)) ∧ (decode cX12_isBarred 144 = .ok (.invokevirtual 127, 3)) ∧ (decode cX12_isBarred 147 = .ok (.aload_n 0, 1)) ∧ (decode cX12_isBarred 148 = .ok (.iload_n 2, 1)) := by decide +kernel
theorem gX12_isBarred_9 : (decode cX12_isBarred 149 = .ok (.iconst 3, 1)) ∧ (decode cX12_isBarred 150 = .ok (.invokevirtual 314, 3)) ∧ (decode cX12_isBarred 153 = .ok (.if_icmp .ge 7, 3)) ∧ (decode cX12_isBarred 156 = .ok (.iconst 1, 1)) ∧ (decode cX12_isBarred 157 = .ok (.goto 4, 3)) ∧ (decode cX12_isBarred 160 = .ok (.iconst 0, 1)) ∧ (decode cX12_isBarred 161 = .ok (.ireturn, 1)) := by decide +kernel
theorem m_1116 : Cond.code yX12_saidBy cX12_saidBy 4 (some .int) ∈ BW := iB_BW59 _ (List.mem_of_getElem? (i := 5) rfl)
theorem m_1114 : Cond.methodLink RX12 127 yX12_saidBy ∈ BW := iB_BW59 _ (List.mem_of_getElem? (i := 3) rfl)
theorem m_1115 : Cond.instanceMethod yX12_saidBy ∈ BW := iB_BW59 _ (List.mem_of_getElem? (i := 4) rfl)
theorem m_54 : Cond.selects RX12 yX12_saidBy yX12_saidBy ∈ BW := iB_BW2 _ (List.mem_of_getElem? (i := 14) rfl)
theorem si_X12_127 : SV RX12 RX12 127 yX12_saidBy cX12_saidBy 4 (some .int) 1 := ⟨⟨m_1114, m_1115, m_54, m_115, m_1116⟩, rfl, nK_RX12.1, nK_RX12.2, pd_7⟩
theorem gX12_isBarred_3 : (decode cX12_isBarred 48 = .ok (.iload 5, 2)) ∧ (decode cX12_isBarred 50 = .ok (.imul, 1)) ∧ (decode cX12_isBarred 51 = .ok (.iadd, 1)) ∧ (decode cX12_isBarred 52 = .ok (.istore 6, 2)) ∧ (decode cX12_isBarred 54 = .ok (.aload_n 0, 1)) ∧ (decode cX12_isBarred 55 = .ok (.getfield 9, 3)) ∧ (decode cX12_isBarred 58 = .ok (.iload 6, 2)) ∧ (decode cX12_isBarred 60 = .ok (.iaload, 1)) ∧ (decode cX12_isBarred 61 = .ok (.iload_n 2, 1)) ∧ (decode cX12_isBarred 62 = .ok (.if_icmp .ne 42, 3)) := by decide +kernel
theorem gX12_isBarred_6 : (decode cX12_isBarred 100 = .ok (.iconst 1, 1)) ∧ (decode cX12_isBarred 101 = .ok (.goto 4, 3)) ∧ (decode cX12_isBarred 104 = .ok (.iconst 0, 1)) ∧ (decode cX12_isBarred 105 = .ok (.istore 7, 2)) ∧ (decode cX12_isBarred 107 = .ok (.iload_n 3, 1)) ∧ (decode cX12_isBarred 108 = .ok (.iload 7, 2)) ∧ (decode cX12_isBarred 110 = .ok (.ifCond .eq 19, 3)) ∧ (decode cX12_isBarred 113 = .ok (.iconst 1, 1)) ∧ (decode cX12_isBarred 114 = .ok (.aload_n 0, 1)) ∧ (decode cX12_isBarred 115 = .ok (.getfield 9, 3)) := by decide +kernel
theorem gX12_isBarred_7 : (decode cX12_isBarred 118 = .ok (.iload 6, 2)) ∧ (decode cX12_isBarred 120 = .ok (.iconst 1, 1)) ∧ (decode cX12_isBarred 121 = .ok (.iadd, 1)) ∧ (decode cX12_isBarred 122 = .ok (.iaload, 1)) ∧ (decode cX12_isBarred 123 = .ok (.ishl, 1)) ∧ (decode cX12_isBarred 124 = .ok (.iconst (-1), 1)) ∧ (decode cX12_isBarred 125 = .ok (.ixor, 1)) ∧ (decode cX12_isBarred 126 = .ok (.goto 4, 3)) ∧ (decode cX12_isBarred 129 = .ok (.iconst (-1), 1)) ∧ (decode cX12_isBarred 130 = .ok (.iand, 1)) := by decide +kernel
theorem gX12_isBarred_4 : (decode cX12_isBarred 65 = .ok (.aload_n 0, 1)) ∧ (decode cX12_isBarred 66 = .ok (.getfield 9, 3)) ∧ (decode cX12_isBarred 69 = .ok (.iload 6, 2)) ∧ (decode cX12_isBarred 71 = .ok (.iconst 2, 1)) ∧ (decode cX12_isBarred 72 = .ok (.iadd, 1)) ∧ (decode cX12_isBarred 73 = .ok (.iaload, 1)) ∧ (decode cX12_isBarred 74 = .ok (.aload_n 0, 1)) ∧ (decode cX12_isBarred 75 = .ok (.invokevirtual 92, 3)) ∧ (decode cX12_isBarred 78 = .ok (.if_icmp .gt 26, 3)) ∧ (decode cX12_isBarred 81 = .ok (.aload_n 0, 1)) := by decide +kernel
theorem gX12_isBarred_5 : (decode cX12_isBarred 82 = .ok (.invokevirtual 92, 3)) ∧ (decode cX12_isBarred 85 = .ok (.aload_n 0, 1)) ∧ (decode cX12_isBarred 86 = .ok (.getfield 9, 3)) ∧ (decode cX12_isBarred 89 = .ok (.iload 6, 2)) ∧ (decode cX12_isBarred 91 = .ok (.iconst 2, 1)) ∧ (decode cX12_isBarred 92 = .ok (.iadd, 1)) ∧ (decode cX12_isBarred 93 = .ok (.iaload, 1)) ∧ (decode cX12_isBarred 94 = .ok (.isub, 1)) ∧ (decode cX12_isBarred 95 = .ok (.iload 4, 2)) ∧ (decode cX12_isBarred 97 = .ok (.if_icmp .lt 7, 3)) := by decide +kernel
theorem gX12_findingOf_0 : (decode cX12_findingOf 0 = .ok (.aload_n 0, 1)) ∧ (decode cX12_findingOf 1 = .ok (.iload_n 1, 1)) ∧ (decode cX12_findingOf 2 = .ok (.bipush 9, 2)) ∧ (decode cX12_findingOf 4 = .ok (.invokevirtual 120, 3)) ∧ (decode cX12_findingOf 7 = .ok (.ifCond .eq 13, 3)) ∧ (decode cX12_findingOf 10 = .ok (.iload_n 2, 1)) ∧ (decode cX12_findingOf 11 = .ok (.iconst 0, 1)) ∧ (decode cX12_findingOf 12 = .ok (.bipush 6, 2)) ∧ (decode cX12_findingOf 14 = .ok (.invokestatic 84, 3)) ∧ (decode cX12_findingOf 17 = .ok (.ifCond .ne 5, 3)) := by decide +kernel
theorem gX12_findingOf_1 : (decode cX12_findingOf 20 = .ok (.iconst (-1), 1)) ∧ (decode cX12_findingOf 21 = .ok (.ireturn, 1)) ∧ (decode cX12_findingOf 22 = .ok (.iload_n 2, 1)) ∧ (decode cX12_findingOf 23 = .ok (.iconst 4, 1)) ∧ (decode cX12_findingOf 24 = .ok (.if_icmp .ge 20, 3)) ∧ (decode cX12_findingOf 27 = .ok (.aload_n 0, 1)) ∧ (decode cX12_findingOf 28 = .ok (.getfield 9, 3)) ∧ (decode cX12_findingOf 31 = .ok (.sipush 1552, 3)) ∧ (decode cX12_findingOf 34 = .ok (.iconst 4, 1)) ∧ (decode cX12_findingOf 35 = .ok (.iload_n 1, 1)) := by decide +kernel
theorem gX12_findingOf_2 : (decode cX12_findingOf 36 = .ok (.imul, 1)) ∧ (decode cX12_findingOf 37 = .ok (.iadd, 1)) ∧ (decode cX12_findingOf 38 = .ok (.iload_n 2, 1)) ∧ (decode cX12_findingOf 39 = .ok (.iadd, 1)) ∧ (decode cX12_findingOf 40 = .ok (.iaload, 1)) ∧ (decode cX12_findingOf 41 = .ok (.goto 50, 3)) ∧ (decode cX12_findingOf 44 = .ok (.iload_n 2, 1)) ∧ (decode cX12_findingOf 45 = .ok (.iconst 4, 1)) ∧ (decode cX12_findingOf 46 = .ok (.if_icmp .ne 19, 3)) ∧ (decode cX12_findingOf 49 = .ok (.aload_n 0, 1)) := by decide +kernel
theorem gX12_findingOf_3 : (decode cX12_findingOf 50 = .ok (.iload_n 1, 1)) ∧ (decode cX12_findingOf 51 = .ok (.invokevirtual 305, 3)) ∧ (decode cX12_findingOf 54 = .ok (.ifCond .eq 7, 3)) ∧ (decode cX12_findingOf 57 = .ok (.iconst 1, 1)) ∧ (decode cX12_findingOf 58 = .ok (.goto 33, 3)) ∧ (decode cX12_findingOf 61 = .ok (.iconst 0, 1)) ∧ (decode cX12_findingOf 62 = .ok (.goto 29, 3)) ∧ (decode cX12_findingOf 65 = .ok (.iload_n 2, 1)) ∧ (decode cX12_findingOf 66 = .ok (.iconst 5, 1)) ∧ (decode cX12_findingOf 67 = .ok (.if_icmp .ne 11, 3)) := by decide +kernel
theorem gX12_findingOf_4 : (decode cX12_findingOf 70 = .ok (.aload_n 0, 1)) ∧ (decode cX12_findingOf 71 = .ok (.iload_n 1, 1)) ∧ (decode cX12_findingOf 72 = .ok (.invokevirtual 311, 3)) ∧ (decode cX12_findingOf 75 = .ok (.goto 16, 3)) ∧ (decode cX12_findingOf 78 = .ok (.aload_n 0, 1)) ∧ (decode cX12_findingOf 79 = .ok (.iload_n 1, 1)) ∧ (decode cX12_findingOf 80 = .ok (.invokevirtual 317, 3)) ∧ (decode cX12_findingOf 83 = .ok (.ifCond .eq 7, 3)) ∧ (decode cX12_findingOf 86 = .ok (.iconst 1, 1)) ∧ (decode cX12_findingOf 87 = .ok (.goto 4, 3)) := by decide +kernel
theorem m_1315 : Cond.code yX12_isBarred cX12_isBarred 8 (some .boolean) ∈ BW := iB_BW70 _ (List.mem_of_getElem? (i := 3) rfl)
theorem m_1313 : Cond.methodLink RX12 317 yX12_isBarred ∈ BW := iB_BW70 _ (List.mem_of_getElem? (i := 1) rfl)
theorem m_1314 : Cond.instanceMethod yX12_isBarred ∈ BW := iB_BW70 _ (List.mem_of_getElem? (i := 2) rfl)
theorem m_92 : Cond.selects RX12 yX12_isBarred yX12_isBarred ∈ BW := iB_BW4 _ (List.mem_of_getElem? (i := 12) rfl)
theorem si_X12_317 : SV RX12 RX12 317 yX12_isBarred cX12_isBarred 8 (some .boolean) 1 := ⟨⟨m_1313, m_1314, m_92, m_115, m_1315⟩, rfl, nK_RX12.1, nK_RX12.2, pd_5⟩
theorem gX12_findingOf_5 : (decode cX12_findingOf 90 = .ok (.iconst 0, 1)) ∧ (decode cX12_findingOf 91 = .ok (.ireturn, 1)) := by decide +kernel
end WR
theorem rm_6_5_12 {mc ms : Nat} : 5 + 1 ≤ (RM 6 mc ms).frames ∧ 8 + (12 + 11) + 40 * 5 ≤ (RM 6 mc ms).locals := ⟨by show 5 + 1 ≤ 6; decide, by show 8 + (12 + 11) + 40 * 5 ≤ 40 * 6; decide⟩
theorem fm_0_1_3 {a0 a1 a2 a3 : Nat × va_E} {l : va_W} : ([0, 1, 3] : List Nat).filterMap (fun i => (a0 :: a1 :: a2 :: a3 :: l : va_W)[i]?) = ([a0, a1, a3] : va_W) := rfl
theorem dj_0_1_3__2 : ∀ i ∈ ([2] : List Nat), i ∉ ([0, 1, 3] : List Nat) := by decide
theorem rm_7_6_6 {mc ms : Nat} : 6 + 1 ≤ (RM 7 mc ms).frames ∧ 8 + (6 + 11) + 40 * 6 ≤ (RM 7 mc ms).locals := ⟨by show 6 + 1 ≤ 7; decide, by show 8 + (6 + 11) + 40 * 6 ≤ 40 * 7; decide⟩
theorem fm_0_1_3_4 {a0 a1 a2 a3 a4 : Nat × va_E} {l : va_W} : ([0, 1, 3, 4] : List Nat).filterMap (fun i => (a0 :: a1 :: a2 :: a3 :: a4 :: l : va_W)[i]?) = ([a0, a1, a3, a4] : va_W) := rfl
theorem dj_0_1_3_4__2 : ∀ i ∈ ([2] : List Nat), i ∉ ([0, 1, 3, 4] : List Nat) := by decide
theorem rm_7_2_4 {mc ms : Nat} : 2 + 1 ≤ (RM 7 mc ms).frames ∧ 8 + (4 + 11) + 40 * 2 ≤ (RM 7 mc ms).locals := ⟨by show 2 + 1 ≤ 7; decide, by show 8 + (4 + 11) + 40 * 2 ≤ 40 * 7; decide⟩
theorem fm_1_2_0_3_4 {a0 a1 a2 a3 a4 : Nat × va_E} {l : va_W} : ([1, 2, 0, 3, 4] : List Nat).filterMap (fun i => (a0 :: a1 :: a2 :: a3 :: a4 :: l : va_W)[i]?) = ([a1, a2, a0, a3, a4] : va_W) := rfl
theorem nd_1_2_0_3_4 : va_nd [1, 2, 0, 3, 4] = true := by decide
theorem sm_1_2_0_3_4 {a0 a1 a2 a3 a4 : Nat × va_E} {l : va_W} : ([1, 2, 0, 3, 4] : List Nat).map (fun i => (a0 :: a1 :: a2 :: a3 :: a4 :: l : va_W)[i]?) = ([a1, a2, a0, a3, a4] : va_W).map some := rfl
theorem rm_7_5_7 {mc ms : Nat} : 5 + 1 ≤ (RM 7 mc ms).frames ∧ 8 + (7 + 11) + 40 * 5 ≤ (RM 7 mc ms).locals := ⟨by show 5 + 1 ≤ 7; decide, by show 8 + (7 + 11) + 40 * 5 ≤ 40 * 7; decide⟩
theorem dj_0_1_2__3_4 : ∀ i ∈ ([3, 4] : List Nat), i ∉ ([0, 1, 2] : List Nat) := by decide
theorem fm_2_3_4_0_1 {a0 a1 a2 a3 a4 : Nat × va_E} {l : va_W} : ([2, 3, 4, 0, 1] : List Nat).filterMap (fun i => (a0 :: a1 :: a2 :: a3 :: a4 :: l : va_W)[i]?) = ([a2, a3, a4, a0, a1] : va_W) := rfl
theorem nd_2_3_4_0_1 : va_nd [2, 3, 4, 0, 1] = true := by decide
theorem sm_2_3_4_0_1 {a0 a1 a2 a3 a4 : Nat × va_E} {l : va_W} : ([2, 3, 4, 0, 1] : List Nat).map (fun i => (a0 :: a1 :: a2 :: a3 :: a4 :: l : va_W)[i]?) = ([a2, a3, a4, a0, a1] : va_W).map some := rfl
theorem rm_8_7_7 {mc ms : Nat} : 7 + 1 ≤ (RM 8 mc ms).frames ∧ 8 + (7 + 11) + 40 * 7 ≤ (RM 8 mc ms).locals := ⟨by show 7 + 1 ≤ 8; decide, by show 8 + (7 + 11) + 40 * 7 ≤ 40 * 8; decide⟩
theorem rm_8_5_7 {mc ms : Nat} : 5 + 1 ≤ (RM 8 mc ms).frames ∧ 8 + (7 + 11) + 40 * 5 ≤ (RM 8 mc ms).locals := ⟨by show 5 + 1 ≤ 8; decide, by show 8 + (7 + 11) + 40 * 5 ≤ 40 * 8; decide⟩
theorem rm_9_2_3 {mc ms : Nat} : 2 + 1 ≤ (RM 9 mc ms).frames ∧ 8 + (3 + 11) + 40 * 2 ≤ (RM 9 mc ms).locals := ⟨by show 2 + 1 ≤ 9; decide, by show 8 + (3 + 11) + 40 * 2 ≤ 40 * 9; decide⟩
theorem rm_9_8_4 {mc ms : Nat} : 8 + 1 ≤ (RM 9 mc ms).frames ∧ 8 + (4 + 11) + 40 * 8 ≤ (RM 9 mc ms).locals := ⟨by show 8 + 1 ≤ 9; decide, by show 8 + (4 + 11) + 40 * 8 ≤ 40 * 9; decide⟩
theorem rm_9_5_7 {mc ms : Nat} : 5 + 1 ≤ (RM 9 mc ms).frames ∧ 8 + (7 + 11) + 40 * 5 ≤ (RM 9 mc ms).locals := ⟨by show 5 + 1 ≤ 9; decide, by show 8 + (7 + 11) + 40 * 5 ≤ 40 * 9; decide⟩
theorem rm_9_2_4 {mc ms : Nat} : 2 + 1 ≤ (RM 9 mc ms).frames ∧ 8 + (4 + 11) + 40 * 2 ≤ (RM 9 mc ms).locals := ⟨by show 2 + 1 ≤ 9; decide, by show 8 + (4 + 11) + 40 * 2 ≤ 40 * 9; decide⟩
theorem rm_9_6_6 {mc ms : Nat} : 6 + 1 ≤ (RM 9 mc ms).frames ∧ 8 + (6 + 11) + 40 * 6 ≤ (RM 9 mc ms).locals := ⟨by show 6 + 1 ≤ 9; decide, by show 8 + (6 + 11) + 40 * 6 ≤ 40 * 9; decide⟩
theorem dj_2_3_0_1__4 : ∀ i ∈ ([4] : List Nat), i ∉ ([2, 3, 0, 1] : List Nat) := by decide
theorem fm_3_4_1_2_0 {a0 a1 a2 a3 a4 : Nat × va_E} {l : va_W} : ([3, 4, 1, 2, 0] : List Nat).filterMap (fun i => (a0 :: a1 :: a2 :: a3 :: a4 :: l : va_W)[i]?) = ([a3, a4, a1, a2, a0] : va_W) := rfl
theorem nd_3_4_1_2_0 : va_nd [3, 4, 1, 2, 0] = true := by decide
theorem sm_3_4_1_2_0 {a0 a1 a2 a3 a4 : Nat × va_E} {l : va_W} : ([3, 4, 1, 2, 0] : List Nat).map (fun i => (a0 :: a1 :: a2 :: a3 :: a4 :: l : va_W)[i]?) = ([a3, a4, a1, a2, a0] : va_W).map some := rfl
theorem rm_10_9_3 {mc ms : Nat} : 9 + 1 ≤ (RM 10 mc ms).frames ∧ 8 + (3 + 11) + 40 * 9 ≤ (RM 10 mc ms).locals := ⟨by show 9 + 1 ≤ 10; decide, by show 8 + (3 + 11) + 40 * 9 ≤ 40 * 10; decide⟩
theorem rm_10_3_3 {mc ms : Nat} : 3 + 1 ≤ (RM 10 mc ms).frames ∧ 8 + (3 + 11) + 40 * 3 ≤ (RM 10 mc ms).locals := ⟨by show 3 + 1 ≤ 10; decide, by show 8 + (3 + 11) + 40 * 3 ≤ 40 * 10; decide⟩
theorem rm_7_1_4 {mc ms : Nat} : 1 + 1 ≤ (RM 7 mc ms).frames ∧ 8 + (4 + 11) + 40 * 1 ≤ (RM 7 mc ms).locals := ⟨by show 1 + 1 ≤ 7; decide, by show 8 + (4 + 11) + 40 * 1 ≤ 40 * 7; decide⟩
theorem rm_7_5_12 {mc ms : Nat} : 5 + 1 ≤ (RM 7 mc ms).frames ∧ 8 + (12 + 11) + 40 * 5 ≤ (RM 7 mc ms).locals := ⟨by show 5 + 1 ≤ 7; decide, by show 8 + (12 + 11) + 40 * 5 ≤ 40 * 7; decide⟩
theorem rm_11_10_5 {mc ms : Nat} : 10 + 1 ≤ (RM 11 mc ms).frames ∧ 8 + (5 + 11) + 40 * 10 ≤ (RM 11 mc ms).locals := ⟨by show 10 + 1 ≤ 11; decide, by show 8 + (5 + 11) + 40 * 10 ≤ 40 * 11; decide⟩
theorem rm_11_7_7 {mc ms : Nat} : 7 + 1 ≤ (RM 11 mc ms).frames ∧ 8 + (7 + 11) + 40 * 7 ≤ (RM 11 mc ms).locals := ⟨by show 7 + 1 ≤ 11; decide, by show 8 + (7 + 11) + 40 * 7 ≤ 40 * 11; decide⟩
theorem sm_0_1_4 {a0 a1 a2 a3 a4 : Nat × va_E} {l : va_W} : ([0, 1, 4] : List Nat).map (fun i => (a0 :: a1 :: a2 :: a3 :: a4 :: l : va_W)[i]?) = ([a0, a1, a4] : va_W).map some := rfl
theorem fm_0_1_4 {a0 a1 a2 a3 a4 : Nat × va_E} {l : va_W} : ([0, 1, 4] : List Nat).filterMap (fun i => (a0 :: a1 :: a2 :: a3 :: a4 :: l : va_W)[i]?) = ([a0, a1, a4] : va_W) := rfl
theorem nd_0_1_4 : va_nd [0, 1, 4] = true := by decide
theorem dj_0_1_4__2_3 : ∀ i ∈ ([2, 3] : List Nat), i ∉ ([0, 1, 4] : List Nat) := by decide
theorem rm_11_5_4 {mc ms : Nat} : 5 + 1 ≤ (RM 11 mc ms).frames ∧ 8 + (4 + 11) + 40 * 5 ≤ (RM 11 mc ms).locals := ⟨by show 5 + 1 ≤ 11; decide, by show 8 + (4 + 11) + 40 * 5 ≤ 40 * 11; decide⟩
theorem dj_2_3_4__0_1 : ∀ i ∈ ([0, 1] : List Nat), i ∉ ([2, 3, 4] : List Nat) := by decide
theorem rm_11_1_1 {mc ms : Nat} : 1 + 1 ≤ (RM 11 mc ms).frames ∧ 8 + (1 + 11) + 40 * 1 ≤ (RM 11 mc ms).locals := ⟨by show 1 + 1 ≤ 11; decide, by show 8 + (1 + 11) + 40 * 1 ≤ 40 * 11; decide⟩
theorem rm_12_2_3 {mc ms : Nat} : 2 + 1 ≤ (RM 12 mc ms).frames ∧ 8 + (3 + 11) + 40 * 2 ≤ (RM 12 mc ms).locals := ⟨by show 2 + 1 ≤ 12; decide, by show 8 + (3 + 11) + 40 * 2 ≤ 40 * 12; decide⟩
theorem rm_12_1_3 {mc ms : Nat} : 1 + 1 ≤ (RM 12 mc ms).frames ∧ 8 + (3 + 11) + 40 * 1 ≤ (RM 12 mc ms).locals := ⟨by show 1 + 1 ≤ 12; decide, by show 8 + (3 + 11) + 40 * 1 ≤ 40 * 12; decide⟩
theorem rm_12_11_8 {mc ms : Nat} : 11 + 1 ≤ (RM 12 mc ms).frames ∧ 8 + (8 + 11) + 40 * 11 ≤ (RM 12 mc ms).locals := ⟨by show 11 + 1 ≤ 12; decide, by show 8 + (8 + 11) + 40 * 11 ≤ 40 * 12; decide⟩
theorem rm_12_10_5 {mc ms : Nat} : 10 + 1 ≤ (RM 12 mc ms).frames ∧ 8 + (5 + 11) + 40 * 10 ≤ (RM 12 mc ms).locals := ⟨by show 10 + 1 ≤ 12; decide, by show 8 + (5 + 11) + 40 * 10 ≤ 40 * 12; decide⟩
theorem rm_12_9_3 {mc ms : Nat} : 9 + 1 ≤ (RM 12 mc ms).frames ∧ 8 + (3 + 11) + 40 * 9 ≤ (RM 12 mc ms).locals := ⟨by show 9 + 1 ≤ 12; decide, by show 8 + (3 + 11) + 40 * 9 ≤ 40 * 12; decide⟩
def K_m_fromLine (l : Launch) (G : GG) (h0 : Nat) (jv : Nat) (jl : Nat) (je : Nat) (nw : Nat) (nk : Nat) (mhasKept : Int32) (nt : Nat) (mtaped : Int32) (nr : Nat) (mrowMany : Int32) (mroundOf : Int32) (mroundFrom : Int32) (mouts : Int32) (nm : Nat) (mfromHour : Int32) (mtoHour : Int32) (ns : Nat) (mfrom : Int32) (mto : Int32) (msort : Int32) (misFault : Int32) (mdeep : Int32) (mcoded : Int32) (mlines : Int32) (nl : Nat) (nc : Nat) (nF : Nat) (np : Nat) (ntr : Nat) (nb : Nat) (mbestCost : Int32) (nso : Nat) (nsi : Nat) (nit : Nat) (nsh : Nat) (nsf : Nat) (nss : Nat) (nrc : Nat) (mtraced : Int32) (mdealer : Int32) (mnumber : Int32) (mwhose : Int32) (msize : Int32) (misParted : Int32) (fnw : Nat → Int32) (fns : Nat → Int32) (fnp : Nat → Int32) : Prop := MI l G yX12_fromLine cX12_fromLine 6 (some .int) 6 0 0 [.ref h0, .int (nI jv), .int (nI jl), .int (nI je)] [(h0, oX12 nw nk mhasKept nt mtaped nr mrowMany mroundOf mroundFrom mouts nm mfromHour mtoHour ns mfrom mto msort misFault mdeep mcoded mlines nl nc nF np ntr nb mbestCost nso nsi nit nsh nsf nss nrc mtraced mdealer mnumber mwhose msize misParted), (nw, iA G 1662 fnw), (ns, iA G 8 fns), (np, iA G 100 fnp)] (fun (r : Int32) (u : (Nat → Int32)) => (True)) (fun u : (Nat → Int32) => [(h0, oX12 nw nk mhasKept nt mtaped nr mrowMany mroundOf mroundFrom mouts nm mfromHour mtoHour ns mfrom mto msort misFault mdeep mcoded mlines nl nc nF np ntr nb mbestCost nso nsi nit nsh nsf nss nrc mtraced mdealer mnumber mwhose msize misParted), (nw, iA G 1662 fnw), (ns, iA G 8 fns), (np, iA G 100 u)])
set_option maxHeartbeats 4000000 in
set_option maxRecDepth 100000 in
theorem m_fromLine (l : Launch) (G : GG) (h0 : Nat) (jv : Nat) (jl : Nat) (je : Nat) (nw : Nat) (nk : Nat) (mhasKept : Int32) (nt : Nat) (mtaped : Int32) (nr : Nat) (mrowMany : Int32) (mroundOf : Int32) (mroundFrom : Int32) (mouts : Int32) (nm : Nat) (mfromHour : Int32) (mtoHour : Int32) (ns : Nat) (mfrom : Int32) (mto : Int32) (msort : Int32) (misFault : Int32) (mdeep : Int32) (mcoded : Int32) (mlines : Int32) (nl : Nat) (nc : Nat) (nF : Nat) (np : Nat) (ntr : Nat) (nb : Nat) (mbestCost : Int32) (nso : Nat) (nsi : Nat) (nit : Nat) (nsh : Nat) (nsf : Nat) (nss : Nat) (nrc : Nat) (mtraced : Int32) (mdealer : Int32) (mnumber : Int32) (mwhose : Int32) (msize : Int32) (misParted : Int32) (fnw : Nat → Int32) (fns : Nat → Int32) (fnp : Nat → Int32) (hjv : jv < 8) (hjl : jl < 9) (hln : LN fnw jv jl) (hje : je < 10) (hN : NI fnw) : K_m_fromLine l G h0 jv jl je nw nk mhasKept nt mtaped nr mrowMany mroundOf mroundFrom mouts nm mfromHour mtoHour ns mfrom mto msort misFault mdeep mcoded mlines nl nc nF np ntr nb mbestCost nso nsi nit nsh nsf nss nrc mtraced mdealer mnumber mwhose msize misParted fnw fns fnp := by
  refine MI.start (by decide +kernel) (Nat.le_of_ble_eq_true rfl) ?_
  intro p e s m below meth c A ls hC hK hP hD hS hA hl
  refine absQ (fun Q0 hQ0 => ?_)
  have hl : lv_has ls 6 [(0, .ref h0), (1, .int (nI jv)), (2, .int (nI jl)), (3, .int (nI je))] := hl
  refine Kan8 hC (fun hx hb hr hml hB hown hlocks hnm => ?_)
  have hln0 := hln
  obtain ⟨⟨so, hso, e0, hAl, hBl⟩, la9, lb9, e4, e5, hab9, hlb9, ht9, h09, hst9⟩ := hln
  refine lv_aload_n hx hb gX12_fromLine_0.1 rfl (lv_at0 hl) ?_
  refine lv_iload_n hx hb gX12_fromLine_0.2.1 rfl (lv_at1 hl) ?_
  refine lv_iload_n hx hb gX12_fromLine_0.2.2.1 rfl (lv_at2 hl) ?_
  refine lv_iconst (v := 0) hx hb gX12_fromLine_0.2.2.2.1 (by decide) ?_
  refine pV hC hK hl hP hD (m_lineOf l G h0 jv jl 0 nw nk mhasKept nt mtaped nr mrowMany mroundOf mroundFrom mouts nm mfromHour mtoHour ns mfrom mto msort misFault mdeep mcoded mlines nl nc nF np ntr nb mbestCost nso nsi nit nsh nsf nss nrc mtraced mdealer mnumber mwhose msize misParted fnw (hjv) (hjl) (by omega)) si_X12_193 [0, 1] sm_0_1 fm_0_1 nd_0_1 rfl rfl rfl rfl rfl (Nat.le_of_ble_eq_true rfl) rm_6_1_4 ⟨by first | exact Nat.le_of_ble_eq_true rfl | exact Nat.zero_le _, by first | exact Nat.le_of_ble_eq_true rfl | exact Nat.zero_le _⟩ gX12_fromLine_0.2.2.2.2.1 (Keqr ?_)
  refine eqi (x1 := nI so) (e0) ?_
  refine lv_istore (lv' := [(4, .int (nI so)), (0, .ref h0), (1, .int (nI jv)), (2, .int (nI jl)), (3, .int (nI je))]) hx hb gX12_fromLine_0.2.2.2.2.2.1 hl (by decide) rfl (fun ls hl => ?_)
  refine lv_iload hx hb gX12_fromLine_0.2.2.2.2.2.2.1 (lv_at0 hl) ?_
  refine lv_if_eq (tgt := 20) hx hb gX12_fromLine_0.2.2.2.2.2.2.2.1 (by decide) (fun c_11_5543 => ?_) (fun c_11_5543 => ?_)
  · refine lv_aload_n hx hb gX12_fromLine_1.2.1 rfl (lv_at1 hl) ?_
    refine lv_iload_n hx hb gX12_fromLine_1.2.2.1 rfl (lv_at2 hl) ?_
    refine lv_iload_n hx hb gX12_fromLine_1.2.2.2.1 rfl (lv_at3 hl) ?_
    refine lv_iload_n hx hb gX12_fromLine_1.2.2.2.2.1 rfl (lv_at4 hl) ?_
    refine iV (wr := [(ns, iA G 8 fns)]) hC hK hl hP hD hS hA (m_holds l G h0 jv jl je nw nk mhasKept nt mtaped nr mrowMany mroundOf mroundFrom mouts nm mfromHour mtoHour ns mfrom mto msort misFault mdeep mcoded mlines nl nc nF np ntr nb mbestCost nso nsi nit nsh nsf nss nrc mtraced mdealer mnumber mwhose msize misParted fnw fnp (hjv) (hjl) (hln0) (hje) (hN)) si_X12_196 [0, 1, 3] [2] sm_0_1_3 fm_0_1_3 nd_0_1_3 sm_2 nd_2 dj_0_1_3__2 rfl rfl rfl rfl rfl (Nat.le_of_ble_eq_true rfl) rm_6_5_12 ⟨Nat.le_of_ble_eq_true rfl, Nat.le_of_ble_eq_true rfl⟩ gX12_fromLine_1.2.2.2.2.2.1 (fun r5544 gnp5546 H locs hr5544 hP hD hS => ?_)
    try dsimp only at hr5544
    refine Kpdr (ws := [(ns, iA G 8 fns), (h0, oX12 nw nk mhasKept nt mtaped nr mrowMany mroundOf mroundFrom mouts nm mfromHour mtoHour ns mfrom mto msort misFault mdeep mcoded mlines nl nc nF np ntr nb mbestCost nso nsi nit nsh nsf nss nrc mtraced mdealer mnumber mwhose msize misParted), (nw, iA G 1662 fnw), (np, iA G 100 gnp5546)]) hP hD (fun hP hD => ?_)
    rcases hr5544 with rfl | rfl
    · refine lv_if_ne (tgt := 33) hx hb gX12_fromLine_1.2.2.2.2.2.2.1 (by decide) (fun _ => ?_) (fun c9 => absurd c9 (by decide))
      refine lv_iload hx hb gX12_fromLine_1.2.2.2.2.2.2.2.2.2 (lv_at0 hl) ?_
      refine lv_iconst (v := 2) hx hb gX12_fromLine_2.1 (by decide) ?_
      refine lv_icmp_ne (tgt := 49) hx hb gX12_fromLine_2.2.1 (by decide) (fun c_36_5548 => ?_) (fun c_36_5548 => ?_)
      · refine lv_aload_n hx hb gX12_fromLine_2.2.2.2.2.2.2.2.2.1 rfl (lv_at1 hl) ?_
        refine gf_X12_29 hC rfl hK hP 1 rfl rfl gX12_fromLine_2.2.2.2.2.2.2.2.2.2 ?_
        refine lv_aload_n hx hb gX12_fromLine_3.1 rfl (lv_at1 hl) ?_
        refine lv_iload_n hx hb gX12_fromLine_3.2.1 rfl (lv_at2 hl) ?_
        refine lv_iload_n hx hb gX12_fromLine_3.2.2.1 rfl (lv_at3 hl) ?_
        refine lv_iconst (v := 3) hx hb gX12_fromLine_3.2.2.2.1 (by decide) ?_
        refine pV hC hK hl hP hD (m_lineOf l G h0 jv jl 3 nw nk mhasKept nt mtaped nr mrowMany mroundOf mroundFrom mouts nm mfromHour mtoHour ns mfrom mto msort misFault mdeep mcoded mlines nl nc nF np ntr nb mbestCost nso nsi nit nsh nsf nss nrc mtraced mdealer mnumber mwhose msize misParted fnw (hjv) (hjl) (by omega)) si_X12_193 [1, 2] sm_1_2 fm_1_2 nd_1_2 rfl rfl rfl rfl rfl (Nat.le_of_ble_eq_true rfl) rm_6_1_4 ⟨by first | exact Nat.le_of_ble_eq_true rfl | exact Nat.zero_le _, by first | exact Nat.le_of_ble_eq_true rfl | exact Nat.zero_le _⟩ gX12_fromLine_3.2.2.2.2.1 (Keqr ?_)
        obtain ⟨n9_5551, hn9_5551, en9_5551⟩ := (hAl ((nI_eq (b := 0) (by omega) (by decide)).mp c_11_5543)).2
        refine eqi (x1 := nI n9_5551) en9_5551 ?_
        refine aldN hC hK hP 0 rfl (k := n9_5551) (by omega) (Nat.le_of_ble_eq_true rfl) (v := fns n9_5551) rfl gX12_fromLine_3.2.2.2.2.2.1 ?_
        refine lv_topi (fun x5552 ex5552 => ?_)
        refine lv_istore (lv' := [(5, .int x5552), (4, .int (nI so)), (0, .ref h0), (1, .int (nI jv)), (2, .int (nI jl)), (3, .int (nI je))]) hx hb gX12_fromLine_3.2.2.2.2.2.2.1 hl (by decide) rfl (fun ls hl => ?_)
        refine lv_iload hx hb gX12_fromLine_3.2.2.2.2.2.2.2.1 (lv_at1 hl) ?_
        refine lv_iconst (v := 2) hx hb gX12_fromLine_3.2.2.2.2.2.2.2.2.1 (by decide) ?_
        refine lv_icmp_eq (tgt := 76) hx hb gX12_fromLine_3.2.2.2.2.2.2.2.2.2 (by decide) (fun c9 => absurd c9 (c_36_5548)) (fun _ => ?_)
        refine lv_iload hx hb gX12_fromLine_4.1 (lv_at0 hl) ?_
        refine lv_ldc hx hb hown (hB _ m_1204) gX12_fromLine_4.2.1 ?_
        refine lv_icmp_ne (tgt := 81) hx hb gX12_fromLine_4.2.2.1 (by decide) (fun c_73_5553 => ?_) (fun c_73_5553 => ?_)
        · refine lv_iload hx hb gX12_fromLine_4.2.2.2.2.2.1 (lv_at0 hl) ?_
          refine lv_aload_n hx hb gX12_fromLine_4.2.2.2.2.2.2.1 rfl (lv_at2 hl) ?_
          refine lv_iload_n hx hb gX12_fromLine_4.2.2.2.2.2.2.2.1 rfl (lv_at3 hl) ?_
          refine lv_iload_n hx hb gX12_fromLine_4.2.2.2.2.2.2.2.2.1 rfl (lv_at4 hl) ?_
          refine lv_iconst (v := 1) hx hb gX12_fromLine_4.2.2.2.2.2.2.2.2.2 (by decide) ?_
          refine pV hC hK hl hP hD (m_lineOf l G h0 jv jl 1 nw nk mhasKept nt mtaped nr mrowMany mroundOf mroundFrom mouts nm mfromHour mtoHour ns mfrom mto msort misFault mdeep mcoded mlines nl nc nF np ntr nb mbestCost nso nsi nit nsh nsf nss nrc mtraced mdealer mnumber mwhose msize misParted fnw (hjv) (hjl) (by omega)) si_X12_193 [1, 2] sm_1_2 fm_1_2 nd_1_2 rfl rfl rfl rfl rfl (Nat.le_of_ble_eq_true rfl) rm_6_1_4 ⟨by first | exact Nat.le_of_ble_eq_true rfl | exact Nat.zero_le _, by first | exact Nat.le_of_ble_eq_true rfl | exact Nat.zero_le _⟩ gX12_fromLine_5.1 (Keqr ?_)
          refine lv_iadd hx hb gX12_fromLine_5.2.1 ?_
          refine toQ hQ0 ?_
          exact RI (v := x5552 + (fnw (176 + 156 * jv + 2 + 6 * jl + 1))) hC hP hD hS [1, 2, 0, 3] gnp5546 rfl rfl (by decide) (trivial) rfl gX12_fromLine_5.2.2
        · refine lv_iload hx hb gX12_fromLine_4.2.2.2.1 (lv_at0 hl) ?_
          refine lv_goto (tgt := 91) hx hb gX12_fromLine_4.2.2.2.2.1 (by decide) ?_
          refine toQ hQ0 ?_
          exact RI (v := x5552) hC hP hD hS [1, 2, 0, 3] gnp5546 rfl rfl (by decide) (trivial) rfl gX12_fromLine_5.2.2
      · refine lv_aload_n hx hb gX12_fromLine_2.2.2.1 rfl (lv_at1 hl) ?_
        refine lv_iload_n hx hb gX12_fromLine_2.2.2.2.1 rfl (lv_at2 hl) ?_
        refine lv_iload_n hx hb gX12_fromLine_2.2.2.2.2.1 rfl (lv_at3 hl) ?_
        refine lv_iconst (v := 2) hx hb gX12_fromLine_2.2.2.2.2.2.1 (by decide) ?_
        refine pV hC hK hl hP hD (m_lineOf l G h0 jv jl 2 nw nk mhasKept nt mtaped nr mrowMany mroundOf mroundFrom mouts nm mfromHour mtoHour ns mfrom mto msort misFault mdeep mcoded mlines nl nc nF np ntr nb mbestCost nso nsi nit nsh nsf nss nrc mtraced mdealer mnumber mwhose msize misParted fnw (hjv) (hjl) (by omega)) si_X12_193 [1, 2] sm_1_2 fm_1_2 nd_1_2 rfl rfl rfl rfl rfl (Nat.le_of_ble_eq_true rfl) rm_6_1_4 ⟨by first | exact Nat.le_of_ble_eq_true rfl | exact Nat.zero_le _, by first | exact Nat.le_of_ble_eq_true rfl | exact Nat.zero_le _⟩ gX12_fromLine_2.2.2.2.2.2.2.1 (Keqr ?_)
        refine lv_goto (tgt := 61) hx hb gX12_fromLine_2.2.2.2.2.2.2.2.1 (by decide) ?_
        refine lv_istore (lv' := [(5, .int (fnw (176 + 156 * jv + 2 + 6 * jl + 2))), (4, .int (nI so)), (0, .ref h0), (1, .int (nI jv)), (2, .int (nI jl)), (3, .int (nI je))]) hx hb gX12_fromLine_3.2.2.2.2.2.2.1 hl (by decide) rfl (fun ls hl => ?_)
        refine lv_iload hx hb gX12_fromLine_3.2.2.2.2.2.2.2.1 (lv_at1 hl) ?_
        refine lv_iconst (v := 2) hx hb gX12_fromLine_3.2.2.2.2.2.2.2.2.1 (by decide) ?_
        refine lv_icmp_eq (tgt := 76) hx hb gX12_fromLine_3.2.2.2.2.2.2.2.2.2 (by decide) (fun _ => ?_) (fun c9 => absurd (c_36_5548) c9)
        refine lv_iload hx hb gX12_fromLine_4.2.2.2.1 (lv_at0 hl) ?_
        refine lv_goto (tgt := 91) hx hb gX12_fromLine_4.2.2.2.2.1 (by decide) ?_
        refine toQ hQ0 ?_
        exact RI (v := fnw (176 + 156 * jv + 2 + 6 * jl + 2)) hC hP hD hS [1, 2, 0, 3] gnp5546 rfl rfl (by decide) (trivial) rfl gX12_fromLine_5.2.2
    · refine lv_if_ne (tgt := 33) hx hb gX12_fromLine_1.2.2.2.2.2.2.1 (by decide) (fun c9 => absurd (by decide) c9) (fun _ => ?_)
      refine lv_ldc hx hb hown (hB _ m_1204) gX12_fromLine_1.2.2.2.2.2.2.2.1 ?_
      refine toQ hQ0 ?_
      exact RI (v := 100000) hC hP hD hS [1, 2, 0, 3] gnp5546 rfl rfl (by decide) (trivial) rfl gX12_fromLine_1.2.2.2.2.2.2.2.2.1
  · refine lv_iload hx hb gX12_fromLine_0.2.2.2.2.2.2.2.2.1 (lv_at0 hl) ?_
    refine lv_iconst (v := 2) hx hb gX12_fromLine_0.2.2.2.2.2.2.2.2.2 (by decide) ?_
    refine lv_icmp_ne (tgt := 30) hx hb gX12_fromLine_1.1 (by decide) (fun c_17_5558 => ?_) (fun c_17_5558 => ?_)
    · refine lv_ldc hx hb hown (hB _ m_1204) gX12_fromLine_1.2.2.2.2.2.2.2.1 ?_
      refine toQ hQ0 ?_
      exact RI (v := 100000) hC hP hD hS [0, 1, 2, 3] fnp rfl rfl (by decide) (trivial) rfl gX12_fromLine_1.2.2.2.2.2.2.2.2.1
    · refine lv_aload_n hx hb gX12_fromLine_1.2.1 rfl (lv_at1 hl) ?_
      refine lv_iload_n hx hb gX12_fromLine_1.2.2.1 rfl (lv_at2 hl) ?_
      refine lv_iload_n hx hb gX12_fromLine_1.2.2.2.1 rfl (lv_at3 hl) ?_
      refine lv_iload_n hx hb gX12_fromLine_1.2.2.2.2.1 rfl (lv_at4 hl) ?_
      refine iV (wr := [(ns, iA G 8 fns)]) hC hK hl hP hD hS hA (m_holds l G h0 jv jl je nw nk mhasKept nt mtaped nr mrowMany mroundOf mroundFrom mouts nm mfromHour mtoHour ns mfrom mto msort misFault mdeep mcoded mlines nl nc nF np ntr nb mbestCost nso nsi nit nsh nsf nss nrc mtraced mdealer mnumber mwhose msize misParted fnw fnp (hjv) (hjl) (hln0) (hje) (hN)) si_X12_196 [0, 1, 3] [2] sm_0_1_3 fm_0_1_3 nd_0_1_3 sm_2 nd_2 dj_0_1_3__2 rfl rfl rfl rfl rfl (Nat.le_of_ble_eq_true rfl) rm_6_5_12 ⟨Nat.le_of_ble_eq_true rfl, Nat.le_of_ble_eq_true rfl⟩ gX12_fromLine_1.2.2.2.2.2.1 (fun r5559 gnp5561 H locs hr5559 hP hD hS => ?_)
      try dsimp only at hr5559
      refine Kpdr (ws := [(ns, iA G 8 fns), (h0, oX12 nw nk mhasKept nt mtaped nr mrowMany mroundOf mroundFrom mouts nm mfromHour mtoHour ns mfrom mto msort misFault mdeep mcoded mlines nl nc nF np ntr nb mbestCost nso nsi nit nsh nsf nss nrc mtraced mdealer mnumber mwhose msize misParted), (nw, iA G 1662 fnw), (np, iA G 100 gnp5561)]) hP hD (fun hP hD => ?_)
      rcases hr5559 with rfl | rfl
      · refine lv_if_ne (tgt := 33) hx hb gX12_fromLine_1.2.2.2.2.2.2.1 (by decide) (fun _ => ?_) (fun c9 => absurd c9 (by decide))
        refine lv_iload hx hb gX12_fromLine_1.2.2.2.2.2.2.2.2.2 (lv_at0 hl) ?_
        refine lv_iconst (v := 2) hx hb gX12_fromLine_2.1 (by decide) ?_
        refine lv_icmp_ne (tgt := 49) hx hb gX12_fromLine_2.2.1 (by decide) (fun c9 => absurd (c_17_5558) c9) (fun _ => ?_)
        refine lv_aload_n hx hb gX12_fromLine_2.2.2.1 rfl (lv_at1 hl) ?_
        refine lv_iload_n hx hb gX12_fromLine_2.2.2.2.1 rfl (lv_at2 hl) ?_
        refine lv_iload_n hx hb gX12_fromLine_2.2.2.2.2.1 rfl (lv_at3 hl) ?_
        refine lv_iconst (v := 2) hx hb gX12_fromLine_2.2.2.2.2.2.1 (by decide) ?_
        refine pV hC hK hl hP hD (m_lineOf l G h0 jv jl 2 nw nk mhasKept nt mtaped nr mrowMany mroundOf mroundFrom mouts nm mfromHour mtoHour ns mfrom mto msort misFault mdeep mcoded mlines nl nc nF np ntr nb mbestCost nso nsi nit nsh nsf nss nrc mtraced mdealer mnumber mwhose msize misParted fnw (hjv) (hjl) (by omega)) si_X12_193 [1, 2] sm_1_2 fm_1_2 nd_1_2 rfl rfl rfl rfl rfl (Nat.le_of_ble_eq_true rfl) rm_6_1_4 ⟨by first | exact Nat.le_of_ble_eq_true rfl | exact Nat.zero_le _, by first | exact Nat.le_of_ble_eq_true rfl | exact Nat.zero_le _⟩ gX12_fromLine_2.2.2.2.2.2.2.1 (Keqr ?_)
        refine lv_goto (tgt := 61) hx hb gX12_fromLine_2.2.2.2.2.2.2.2.1 (by decide) ?_
        refine lv_istore (lv' := [(5, .int (fnw (176 + 156 * jv + 2 + 6 * jl + 2))), (4, .int (nI so)), (0, .ref h0), (1, .int (nI jv)), (2, .int (nI jl)), (3, .int (nI je))]) hx hb gX12_fromLine_3.2.2.2.2.2.2.1 hl (by decide) rfl (fun ls hl => ?_)
        refine lv_iload hx hb gX12_fromLine_3.2.2.2.2.2.2.2.1 (lv_at1 hl) ?_
        refine lv_iconst (v := 2) hx hb gX12_fromLine_3.2.2.2.2.2.2.2.2.1 (by decide) ?_
        refine lv_icmp_eq (tgt := 76) hx hb gX12_fromLine_3.2.2.2.2.2.2.2.2.2 (by decide) (fun _ => ?_) (fun c9 => absurd (c_17_5558) c9)
        refine lv_iload hx hb gX12_fromLine_4.2.2.2.1 (lv_at0 hl) ?_
        refine lv_goto (tgt := 91) hx hb gX12_fromLine_4.2.2.2.2.1 (by decide) ?_
        refine toQ hQ0 ?_
        exact RI (v := fnw (176 + 156 * jv + 2 + 6 * jl + 2)) hC hP hD hS [1, 2, 0, 3] gnp5561 rfl rfl (by decide) (trivial) rfl gX12_fromLine_5.2.2
      · refine lv_if_ne (tgt := 33) hx hb gX12_fromLine_1.2.2.2.2.2.2.1 (by decide) (fun c9 => absurd (by decide) c9) (fun _ => ?_)
        refine lv_ldc hx hb hown (hB _ m_1204) gX12_fromLine_1.2.2.2.2.2.2.2.1 ?_
        refine toQ hQ0 ?_
        exact RI (v := 100000) hC hP hD hS [1, 2, 0, 3] gnp5561 rfl rfl (by decide) (trivial) rfl gX12_fromLine_1.2.2.2.2.2.2.2.2.1
def K_m_findShould (l : Launch) (G : GG) (h0 : Nat) (je : Nat) (nw : Nat) (nk : Nat) (mhasKept : Int32) (nt : Nat) (mtaped : Int32) (nr : Nat) (mrowMany : Int32) (mroundOf : Int32) (mroundFrom : Int32) (mouts : Int32) (nm : Nat) (mfromHour : Int32) (mtoHour : Int32) (ns : Nat) (mfrom : Int32) (mto : Int32) (msort : Int32) (misFault : Int32) (mdeep : Int32) (mcoded : Int32) (mlines : Int32) (nl : Nat) (nc : Nat) (nF : Nat) (np : Nat) (ntr : Nat) (nb : Nat) (mbestCost : Int32) (nso : Nat) (nsi : Nat) (nit : Nat) (nsh : Nat) (nsf : Nat) (nss : Nat) (nrc : Nat) (mtraced : Int32) (mdealer : Int32) (mnumber : Int32) (mwhose : Int32) (msize : Int32) (misParted : Int32) (fnw : Nat → Int32) (fnm : Nat → Int32) (fns : Nat → Int32) (fnp : Nat → Int32) : Prop := MV l G yX12_findShould cX12_findShould 7 7 0 0 [.ref h0, .int (nI je)] [(h0, oX12 nw nk mhasKept nt mtaped nr mrowMany mroundOf mroundFrom mouts nm mfromHour mtoHour ns mfrom mto msort misFault mdeep mcoded mlines nl nc nF np ntr nb mbestCost nso nsi nit nsh nsf nss nrc mtraced mdealer mnumber mwhose msize misParted), (nw, iA G 1662 fnw), (nm, iA G 36 fnm), (ns, iA G 8 fns), (np, iA G 100 fnp)] (fun u : Int32 × Int32 × (Nat → Int32) × (Nat → Int32) × (Nat → Int32) => MB u.2.2.1) (fun u : Int32 × Int32 × (Nat → Int32) × (Nat → Int32) × (Nat → Int32) => [(h0, oX12 nw nk mhasKept nt mtaped nr mrowMany mroundOf mroundFrom mouts nm u.1 u.2.1 ns mfrom mto msort misFault mdeep mcoded mlines nl nc nF np ntr nb mbestCost nso nsi nit nsh nsf nss nrc mtraced mdealer mnumber mwhose msize misParted), (nw, iA G 1662 fnw), (nm, iA G 36 u.2.2.1), (ns, iA G 8 u.2.2.2.1), (np, iA G 100 u.2.2.2.2)])
set_option maxHeartbeats 4000000 in
set_option maxRecDepth 100000 in
theorem m_findShould (l : Launch) (G : GG) (h0 : Nat) (je : Nat) (nw : Nat) (nk : Nat) (mhasKept : Int32) (nt : Nat) (mtaped : Int32) (nr : Nat) (mrowMany : Int32) (mroundOf : Int32) (mroundFrom : Int32) (mouts : Int32) (nm : Nat) (mfromHour : Int32) (mtoHour : Int32) (ns : Nat) (mfrom : Int32) (mto : Int32) (msort : Int32) (misFault : Int32) (mdeep : Int32) (mcoded : Int32) (mlines : Int32) (nl : Nat) (nc : Nat) (nF : Nat) (np : Nat) (ntr : Nat) (nb : Nat) (mbestCost : Int32) (nso : Nat) (nsi : Nat) (nit : Nat) (nsh : Nat) (nsf : Nat) (nss : Nat) (nrc : Nat) (mtraced : Int32) (mdealer : Int32) (mnumber : Int32) (mwhose : Int32) (msize : Int32) (misParted : Int32) (fnw : Nat → Int32) (fnm : Nat → Int32) (fns : Nat → Int32) (fnp : Nat → Int32) (hje : je < 10) (hN : NI fnw) (hV : VI fnw) (hM : MB fnm) : K_m_findShould l G h0 je nw nk mhasKept nt mtaped nr mrowMany mroundOf mroundFrom mouts nm mfromHour mtoHour ns mfrom mto msort misFault mdeep mcoded mlines nl nc nF np ntr nb mbestCost nso nsi nit nsh nsf nss nrc mtraced mdealer mnumber mwhose msize misParted fnw fnm fns fnp := by
  refine MV.start (by decide +kernel) (Nat.le_of_ble_eq_true rfl) ?_
  intro p e s m below meth c A ls hC hK hP hD hS hA hl
  refine absQ (fun Q0 hQ0 => ?_)
  have hl : lv_has ls 7 [(0, .ref h0), (1, .int (nI je))] := hl
  refine Kan8 hC (fun hx hb hr hml hB hown hlocks hnm => ?_)
  obtain ⟨kq, hkq, ekq⟩ := NI.nat hN (i := 5) (B := 12) (by decide +kernel) (by decide)
  obtain ⟨k6, hk6, ek6⟩ := NI.nat hN (i := 6) (B := 24) (by decide +kernel) (by decide)
  refine lv_iconst (v := 0) hx hb gX12_findShould_0.1 (by decide) ?_
  refine lv_istore_n (lv' := [(2, .int 0), (0, .ref h0), (1, .int (nI je))]) hx hb gX12_findShould_0.2.1 rfl hl (by decide) rfl (fun ls hl => ?_)
  have keyA : ∀ (nA kA : Nat) (vfh : Int32) (vth : Int32) (vA : Nat → Int32) (vS : Nat → Int32) (H : Heap) (locs : List Loc) (ls : Array Slot), kA + nA = 8 → (MB vA) → va_PD G A [(h0, oX12 nw nk mhasKept nt mtaped nr mrowMany mroundOf mroundFrom mouts nm vfh vth ns mfrom mto msort misFault mdeep mcoded mlines nl nc nF np ntr nb mbestCost nso nsi nit nsh nsf nss nrc mtraced mdealer mnumber mwhose msize misParted), (nw, iA G 1662 fnw), (nm, iA G 36 vA), (ns, iA G 8 vS), (np, iA G 100 fnp)] H → va_S A s.heap H locs → lv_has ls 7 [(2, .int (nI kA)), (0, .ref h0), (1, .int (nI je))] → W p l e (RM 7 0 0) s m ([.ref h0, .int (nI je)] : List Value).toArray below meth c H locs 0 0 Q0 (F0 m 2 ls []) := by
    intro nA
    induction nA with
    | zero =>
      intro kA vfh vth vA vS H locs ls hkA hvA hPD hS hl
      refine Kan2 hPD (fun hP hD => ?_)
      obtain rfl : 8 = kA := by omega
      have hl : lv_has ls 7 [(2, .int 8), (0, .ref h0), (1, .int (nI je))] := hl
      refine lv_iload_n hx hb gX12_findShould_0.2.2.1 rfl (lv_at0 hl) ?_
      refine lv_bipush (v := 8) hx hb gX12_findShould_0.2.2.2.1 (by decide) ?_
      refine lv_icmp_ge (tgt := 27) hx hb gX12_findShould_0.2.2.2.2.1 (by decide) (fun _ => ?_) (fun c9 => absurd (by decide) c9)
      refine lv_aload_n hx hb gX12_findShould_1.2.2.2.2.2.2.1 rfl (lv_at1 hl) ?_
      refine pV hC hK hl hP hD (m_rules l G h0 nw nk mhasKept nt mtaped nr mrowMany mroundOf mroundFrom mouts nm vfh vth ns mfrom mto msort misFault mdeep mcoded mlines nl nc nF np ntr nb mbestCost nso nsi nit nsh nsf nss nrc mtraced mdealer mnumber mwhose msize misParted fnw (hN)) si_X12_180 [0, 1] sm_0_1 fm_0_1 nd_0_1 rfl rfl rfl rfl rfl (Nat.le_of_ble_eq_true rfl) rm_7_2_3 ⟨by first | exact Nat.le_of_ble_eq_true rfl | exact Nat.zero_le _, by first | exact Nat.le_of_ble_eq_true rfl | exact Nat.zero_le _⟩ gX12_findShould_1.2.2.2.2.2.2.2.1 (fun r5565 hr5565 => ?_)
      obtain ⟨jv_5566, hpx5566, rfl⟩ := hr5565
      try dsimp only at hpx5566
      rcases Nat.eq_zero_or_pos jv_5566 with rfl | hpv5567
      · refine eqi (x1 := (-1)) (by decide) ?_
        refine lv_istore_n (lv' := [(2, .int (-1)), (0, .ref h0), (1, .int (nI je))]) hx hb gX12_findShould_1.2.2.2.2.2.2.2.2.1 rfl hl (by decide) rfl (fun ls hl => ?_)
        refine lv_iload_n hx hb gX12_findShould_1.2.2.2.2.2.2.2.2.2 rfl (lv_at0 hl) ?_
        refine lv_if_lt (tgt := 40) hx hb gX12_findShould_2.1 (by decide) (fun _ => ?_) (fun c9 => absurd (by decide) c9)
        refine lv_iconst (v := 0) hx hb gX12_findShould_2.2.2.2.1 (by decide) ?_
        refine lv_istore_n (lv' := [(3, .int 0), (2, .int (-1)), (0, .ref h0), (1, .int (nI je))]) hx hb gX12_findShould_2.2.2.2.2.1 rfl hl (by decide) rfl (fun ls hl => ?_)
        refine lv_iload_n hx hb gX12_findShould_2.2.2.2.2.2.1 rfl (lv_at0 hl) ?_
        refine lv_if_eq (tgt := 112) hx hb gX12_findShould_2.2.2.2.2.2.2.1 (by decide) (fun _ => ?_) (fun c9 => absurd (by decide) c9)
        refine toQ hQ0 ?_
        exact RV hC hP hD hS [0, 1, 2, 3, 4] (vfh, vth, vA, vS, fnp) rfl rfl (by decide) (by first | assumption | exact hM) gX12_findShould_6.2.2.2
      · obtain ⟨v5567, rfl⟩ : ∃ z9, jv_5566 = z9 + 1 := ⟨jv_5566 - 1, by omega⟩
        refine eqi (x1 := nI v5567) (nI_sub1 v5567) ?_
        obtain ⟨L5567, hL5567, eL5567, hLN5567⟩ := VI.line hV (v := v5567) (by omega)
        refine lv_istore_n (lv' := [(2, .int (nI v5567)), (0, .ref h0), (1, .int (nI je))]) hx hb gX12_findShould_1.2.2.2.2.2.2.2.2.1 rfl hl (by decide) rfl (fun ls hl => ?_)
        refine lv_iload_n hx hb gX12_findShould_1.2.2.2.2.2.2.2.2.2 rfl (lv_at0 hl) ?_
        refine lv_if_lt (tgt := 40) hx hb gX12_findShould_2.1 (by decide) (fun c_33_5568 => ?_) (fun c_33_5568 => ?_)
        · refine lv_iconst (v := 0) hx hb gX12_findShould_2.2.2.2.1 (by decide) ?_
          refine lv_istore_n (lv' := [(3, .int 0), (2, .int (nI v5567)), (0, .ref h0), (1, .int (nI je))]) hx hb gX12_findShould_2.2.2.2.2.1 rfl hl (by decide) rfl (fun ls hl => ?_)
          refine lv_iload_n hx hb gX12_findShould_2.2.2.2.2.2.1 rfl (lv_at0 hl) ?_
          refine lv_if_eq (tgt := 112) hx hb gX12_findShould_2.2.2.2.2.2.2.1 (by decide) (fun _ => ?_) (fun c9 => absurd (by decide) c9)
          refine toQ hQ0 ?_
          exact RV hC hP hD hS [0, 1, 2, 3, 4] (vfh, vth, vA, vS, fnp) rfl rfl (by decide) (by first | assumption | exact hM) gX12_findShould_6.2.2.2
        · refine lv_iconst (v := 1) hx hb gX12_findShould_2.2.1 (by decide) ?_
          refine lv_goto (tgt := 41) hx hb gX12_findShould_2.2.2.1 (by decide) ?_
          refine lv_istore_n (lv' := [(3, .int 1), (2, .int (nI v5567)), (0, .ref h0), (1, .int (nI je))]) hx hb gX12_findShould_2.2.2.2.2.1 rfl hl (by decide) rfl (fun ls hl => ?_)
          have keyW : ∀ (nW : Nat) (eaW : Int32) (w0 : Nat → Int32) (w1 : Nat → Int32) (H : Heap) (locs : List Loc) (ls : Array Slot), (eaW = 0 ∨ (eaW = 1 ∧ mu w0 < nW)) → va_PD G A [(h0, oX12 nw nk mhasKept nt mtaped nr mrowMany mroundOf mroundFrom mouts nm vfh vth ns mfrom mto msort misFault mdeep mcoded mlines nl nc nF np ntr nb mbestCost nso nsi nit nsh nsf nss nrc mtraced mdealer mnumber mwhose msize misParted), (nw, iA G 1662 fnw), (nm, iA G 36 vA), (ns, iA G 8 w0), (np, iA G 100 w1)] H → va_S A s.heap H locs → lv_has ls 7 [(3, .int eaW), (2, .int (nI v5567)), (0, .ref h0), (1, .int (nI je))] → W p l e (RM 7 0 0) s m ([.ref h0, .int (nI je)] : List Value).toArray below meth c H locs 0 0 Q0 (F0 m 42 ls []) := by
            intro nW
            induction nW with
            | zero =>
              intro eaW w0 w1 H locs ls hWW hPD hS hl
              refine Kan2 hPD (fun hP hD => ?_)
              obtain rfl : eaW = 0 := hWW.elim (fun h => h) (fun h => absurd h.2 (Nat.not_lt_zero _))
              refine lv_iload_n hx hb gX12_findShould_2.2.2.2.2.2.1 rfl (lv_at0 hl) ?_
              refine lv_if_eq (tgt := 112) hx hb gX12_findShould_2.2.2.2.2.2.2.1 (by decide) (fun _ => ?_) (fun c9 => absurd (by decide) c9)
              refine toQ hQ0 ?_
              exact RV hC hP hD hS [0, 1, 2, 3, 4] (vfh, vth, vA, w0, w1) rfl rfl (by decide) (by first | assumption | exact hM) gX12_findShould_6.2.2.2
            | succ nW ihW =>
              intro eaW w0 w1 H locs ls hWW hPD hS hl
              refine Kan2 hPD (fun hP hD => ?_)
              rcases hWW with rfl | ⟨rfl, hWW⟩
              · refine lv_iload_n hx hb gX12_findShould_2.2.2.2.2.2.1 rfl (lv_at0 hl) ?_
                refine lv_if_eq (tgt := 112) hx hb gX12_findShould_2.2.2.2.2.2.2.1 (by decide) (fun _ => ?_) (fun c9 => absurd (by decide) c9)
                refine toQ hQ0 ?_
                exact RV hC hP hD hS [0, 1, 2, 3, 4] (vfh, vth, vA, w0, w1) rfl rfl (by decide) (by first | assumption | exact hM) gX12_findShould_6.2.2.2
              · refine lv_iload_n hx hb gX12_findShould_2.2.2.2.2.2.1 rfl (lv_at0 hl) ?_
                refine lv_if_eq (tgt := 112) hx hb gX12_findShould_2.2.2.2.2.2.2.1 (by decide) (fun c9 => absurd c9 (by decide)) (fun _ => ?_)
                refine lv_iconst (v := 0) hx hb gX12_findShould_2.2.2.2.2.2.2.2.1 (by decide) ?_
                refine lv_istore_n (lv' := [(3, .int 0), (2, .int (nI v5567)), (0, .ref h0), (1, .int (nI je))]) hx hb gX12_findShould_2.2.2.2.2.2.2.2.2.1 rfl hl (by decide) rfl (fun ls hl => ?_)
                refine lv_iconst (v := 0) hx hb gX12_findShould_2.2.2.2.2.2.2.2.2.2 (by decide) ?_
                refine lv_istore (lv' := [(4, .int 0), (3, .int 0), (2, .int (nI v5567)), (0, .ref h0), (1, .int (nI je))]) hx hb gX12_findShould_3.1 hl (by decide) rfl (fun ls hl => ?_)
                have keyQ : ∀ (nQ kQ : Nat) (ea : Int32) (vQ : Nat → Int32) (vR : Nat → Int32) (H : Heap) (locs : List Loc) (ls : Array Slot), kQ + nQ = L5567 → ((ea = 0 ∧ mu vQ ≤ mu w0) ∨ (ea = 1 ∧ mu vQ < mu w0)) → va_PD G A [(h0, oX12 nw nk mhasKept nt mtaped nr mrowMany mroundOf mroundFrom mouts nm vfh vth ns mfrom mto msort misFault mdeep mcoded mlines nl nc nF np ntr nb mbestCost nso nsi nit nsh nsf nss nrc mtraced mdealer mnumber mwhose msize misParted), (nw, iA G 1662 fnw), (nm, iA G 36 vA), (ns, iA G 8 vQ), (np, iA G 100 vR)] H → va_S A s.heap H locs → lv_has ls 7 [(4, .int (nI kQ)), (3, .int ea), (2, .int (nI v5567)), (0, .ref h0), (1, .int (nI je))] → W p l e (RM 7 0 0) s m ([.ref h0, .int (nI je)] : List Value).toArray below meth c H locs 0 0 Q0 (F0 m 51 ls []) := by
                  intro nQ
                  induction nQ with
                  | zero =>
                    intro kQ ea vQ vR H locs ls hkQ hQ hPD hS hl
                    refine Kan2 hPD (fun hP hD => ?_)
                    obtain rfl : L5567 = kQ := by omega
                    have hl : lv_has ls 7 [(4, .int (nI L5567)), (3, .int ea), (2, .int (nI v5567)), (0, .ref h0), (1, .int (nI je))] := hl
                    refine lv_iload hx hb gX12_findShould_3.2.1 (lv_at0 hl) ?_
                    refine lv_aload_n hx hb gX12_findShould_3.2.2.1 rfl (lv_at3 hl) ?_
                    refine lv_iload_n hx hb gX12_findShould_3.2.2.2.1 rfl (lv_at2 hl) ?_
                    refine pV hC hK hl hP hD (m_lines l G L5567 h0 v5567 nw nk mhasKept nt mtaped nr mrowMany mroundOf mroundFrom mouts nm vfh vth ns mfrom mto msort misFault mdeep mcoded mlines nl nc nF np ntr nb mbestCost nso nsi nit nsh nsf nss nrc mtraced mdealer mnumber mwhose msize misParted fnw (by omega) (eL5567)) si_X12_183 [0, 1] sm_0_1 fm_0_1 nd_0_1 rfl rfl rfl rfl rfl (Nat.le_of_ble_eq_true rfl) rm_7_1_2 ⟨by first | exact Nat.le_of_ble_eq_true rfl | exact Nat.zero_le _, by first | exact Nat.le_of_ble_eq_true rfl | exact Nat.zero_le _⟩ gX12_findShould_3.2.2.2.2.1 (Keqr ?_)
                    refine lv_icmp_ge (tgt := 109) hx hb gX12_findShould_3.2.2.2.2.2.1 (by decide) (fun _ => ?_) (fun c9 => absurd (Int32.le_refl _) c9)
                    refine lv_goto (tgt := 42) hx hb gX12_findShould_6.2.2.1 (by decide) ?_
                    exact ihW ea vQ vR _ _ _ (hQ.elim (fun h => Or.inl h.1) (fun h => Or.inr ⟨h.1, by have := h.2; omega⟩)) (And.intro hP hD) hS (lv_sub hl [1, 2, 3, 4] rfl)
                  | succ nQ ihQ =>
                    intro kQ ea vQ vR H locs ls hkQ hQ hPD hS hl
                    refine Kan2 hPD (fun hP hD => ?_)
                    refine lv_iload hx hb gX12_findShould_3.2.1 (lv_at0 hl) ?_
                    refine lv_aload_n hx hb gX12_findShould_3.2.2.1 rfl (lv_at3 hl) ?_
                    refine lv_iload_n hx hb gX12_findShould_3.2.2.2.1 rfl (lv_at2 hl) ?_
                    refine pV hC hK hl hP hD (m_lines l G L5567 h0 v5567 nw nk mhasKept nt mtaped nr mrowMany mroundOf mroundFrom mouts nm vfh vth ns mfrom mto msort misFault mdeep mcoded mlines nl nc nF np ntr nb mbestCost nso nsi nit nsh nsf nss nrc mtraced mdealer mnumber mwhose msize misParted fnw (by omega) (eL5567)) si_X12_183 [0, 1] sm_0_1 fm_0_1 nd_0_1 rfl rfl rfl rfl rfl (Nat.le_of_ble_eq_true rfl) rm_7_1_2 ⟨by first | exact Nat.le_of_ble_eq_true rfl | exact Nat.zero_le _, by first | exact Nat.le_of_ble_eq_true rfl | exact Nat.zero_le _⟩ gX12_findShould_3.2.2.2.2.1 (Keqr ?_)
                    refine lv_icmp_ge (tgt := 109) hx hb gX12_findShould_3.2.2.2.2.2.1 (by decide) (fun c9 => absurd c9 (nI_ge (a := kQ) (b := L5567) (by omega) (by omega))) (fun _ => ?_)
                    have hln5573 := hLN5567 kQ (by omega)
                    refine lv_aload_n hx hb gX12_findShould_3.2.2.2.2.2.2.1 rfl (lv_at3 hl) ?_
                    refine lv_iload_n hx hb gX12_findShould_3.2.2.2.2.2.2.2.1 rfl (lv_at2 hl) ?_
                    refine lv_iload hx hb gX12_findShould_3.2.2.2.2.2.2.2.2.1 (lv_at0 hl) ?_
                    refine lv_iload_n hx hb gX12_findShould_3.2.2.2.2.2.2.2.2.2 rfl (lv_at4 hl) ?_
                    refine iV (wr := [(nm, iA G 36 vA)]) hC hK hl hP hD hS hA (m_fromLine l G h0 v5567 kQ je nw nk mhasKept nt mtaped nr mrowMany mroundOf mroundFrom mouts nm vfh vth ns mfrom mto msort misFault mdeep mcoded mlines nl nc nF np ntr nb mbestCost nso nsi nit nsh nsf nss nrc mtraced mdealer mnumber mwhose msize misParted fnw vQ vR (by omega) (by omega) (hln5573) (hje) (hN)) si_X12_186 [0, 1, 3, 4] [2] sm_0_1_3_4 fm_0_1_3_4 nd_0_1_3_4 sm_2 nd_2 dj_0_1_3_4__2 rfl rfl rfl rfl rfl (Nat.le_of_ble_eq_true rfl) rm_7_6_6 ⟨Nat.le_of_ble_eq_true rfl, Nat.le_of_ble_eq_true rfl⟩ gX12_findShould_4.1 (fun r5574 gnp5576 H locs hr5574 hP hD hS => ?_)
                    try dsimp only at hr5574
                    refine Kpdr (ws := [(nm, iA G 36 vA), (h0, oX12 nw nk mhasKept nt mtaped nr mrowMany mroundOf mroundFrom mouts nm vfh vth ns mfrom mto msort misFault mdeep mcoded mlines nl nc nF np ntr nb mbestCost nso nsi nit nsh nsf nss nrc mtraced mdealer mnumber mwhose msize misParted), (nw, iA G 1662 fnw), (ns, iA G 8 vQ), (np, iA G 100 gnp5576)]) hP hD (fun hP hD => ?_)
                    refine lv_istore (lv' := [(5, .int r5574), (4, .int (nI kQ)), (3, .int ea), (2, .int (nI v5567)), (0, .ref h0), (1, .int (nI je))]) hx hb gX12_findShould_4.2.1 hl (by decide) rfl (fun ls hl => ?_)
                    refine lv_aload_n hx hb gX12_findShould_4.2.2.1 rfl (lv_at4 hl) ?_
                    refine lv_iload_n hx hb gX12_findShould_4.2.2.2.1 rfl (lv_at3 hl) ?_
                    refine lv_iload hx hb gX12_findShould_4.2.2.2.2.1 (lv_at1 hl) ?_
                    refine pV hC hK hl hP hD (m_thingOf l G h0 v5567 kQ nw nk mhasKept nt mtaped nr mrowMany mroundOf mroundFrom mouts nm vfh vth ns mfrom mto msort misFault mdeep mcoded mlines nl nc nF np ntr nb mbestCost nso nsi nit nsh nsf nss nrc mtraced mdealer mnumber mwhose msize misParted fnw (by omega) (by omega) (hln5573)) si_X12_190 [1, 2] sm_1_2 fm_1_2 nd_1_2 rfl rfl rfl rfl rfl (Nat.le_of_ble_eq_true rfl) rm_7_2_4 ⟨by first | exact Nat.le_of_ble_eq_true rfl | exact Nat.zero_le _, by first | exact Nat.le_of_ble_eq_true rfl | exact Nat.zero_le _⟩ gX12_findShould_4.2.2.2.2.2.1 (fun r5577 hr5577 => ?_)
                    obtain ⟨t9_5578, hpx5578, rfl⟩ := hr5577
                    try dsimp only at hpx5578
                    refine lv_istore (lv' := [(6, .int (nI t9_5578)), (5, .int r5574), (4, .int (nI kQ)), (3, .int ea), (2, .int (nI v5567)), (0, .ref h0), (1, .int (nI je))]) hx hb gX12_findShould_4.2.2.2.2.2.2.1 hl (by decide) rfl (fun ls hl => ?_)
                    refine lv_iload hx hb gX12_findShould_4.2.2.2.2.2.2.2.1 (lv_at1 hl) ?_
                    refine lv_aload_n hx hb gX12_findShould_4.2.2.2.2.2.2.2.2.1 rfl (lv_at5 hl) ?_
                    refine gf_X12_29 hC rfl hK hP 1 rfl rfl gX12_findShould_4.2.2.2.2.2.2.2.2.2 ?_
                    refine lv_iload hx hb gX12_findShould_5.1 (lv_at0 hl) ?_
                    refine aldN hC hK hP 3 rfl (k := t9_5578) (by omega) (Nat.le_of_ble_eq_true rfl) (v := vQ t9_5578) rfl gX12_findShould_5.2.1 ?_
                    refine lv_topi (fun x5579 ex5579 => ?_)
                    refine lv_icmp_ge (tgt := 103) hx hb gX12_findShould_5.2.2.1 (by decide) (fun c_89_5580 => ?_) (fun c_89_5580 => ?_)
                    · refine lv_iinc (v := nI (kQ + 1)) (lv' := [(4, .int (nI (kQ + 1))), (6, .int (nI t9_5578)), (5, .int r5574), (3, .int ea), (2, .int (nI v5567)), (0, .ref h0), (1, .int (nI je))]) hx hb gX12_findShould_6.1 hl (k := 2) rfl (nI_1 _) (by decide) rfl (fun ls hl => ?_)
                      refine lv_goto (tgt := 51) hx hb gX12_findShould_6.2.1 (by decide) ?_
                      refine Kpds (ws' := [(h0, oX12 nw nk mhasKept nt mtaped nr mrowMany mroundOf mroundFrom mouts nm vfh vth ns mfrom mto msort misFault mdeep mcoded mlines nl nc nF np ntr nb mbestCost nso nsi nit nsh nsf nss nrc mtraced mdealer mnumber mwhose msize misParted), (nw, iA G 1662 fnw), (nm, iA G 36 vA), (ns, iA G 8 vQ), (np, iA G 100 gnp5576)]) hP hD [1, 2, 0, 3, 4] fm_1_2_0_3_4 nd_1_2_0_3_4 sm_1_2_0_3_4 (fun hP hD => ?_)
                      exact ihQ (kQ + 1) ea vQ gnp5576 _ _ _ (by omega) (by first | assumption | exact Or.inl rfl | exact Or.inr rfl | exact Or.inl ⟨rfl, Nat.le_refl _⟩) (And.intro hP hD) hS (lv_sub hl [0, 3, 4, 5, 6] rfl)
                    · refine lv_aload_n hx hb gX12_findShould_5.2.2.2.1 rfl (lv_at5 hl) ?_
                      refine gf_X12_29 hC rfl hK hP 1 rfl rfl gX12_findShould_5.2.2.2.2.1 ?_
                      refine lv_iload hx hb gX12_findShould_5.2.2.2.2.2.1 (lv_at0 hl) ?_
                      refine lv_iload hx hb gX12_findShould_5.2.2.2.2.2.2.1 (lv_at1 hl) ?_
                      refine astN hC hK hP hD hS 3 (ws' := [(nm, iA G 36 vA), (h0, oX12 nw nk mhasKept nt mtaped nr mrowMany mroundOf mroundFrom mouts nm vfh vth ns mfrom mto msort misFault mdeep mcoded mlines nl nc nF np ntr nb mbestCost nso nsi nit nsh nsf nss nrc mtraced mdealer mnumber mwhose msize misParted), (nw, iA G 1662 fnw), (ns, iA G 8 (upd vQ t9_5578 r5574)), (np, iA G 100 gnp5576)]) rfl (k := t9_5578) (by omega) (Nat.le_of_ble_eq_true rfl) (rfl) gX12_findShould_5.2.2.2.2.2.2.2.1 (fun H locs hP hD hS => ?_)
                      have hmu9 := mu_upd (f := vQ) (t := t9_5578) (x := r5574) (y := x5579) (by omega) ex5579 c_89_5580
                      have hQ2 : mu vQ ≤ mu w0 := hQ.elim (fun h => h.2) (fun h => Nat.le_of_lt h.2)
                      have hQ3 : ((1 : Int32) = 0 ∧ mu (upd vQ t9_5578 r5574) ≤ mu w0) ∨ ((1 : Int32) = 1 ∧ mu (upd vQ t9_5578 r5574) < mu w0) := Or.inr ⟨rfl, by omega⟩
                      refine lv_iconst (v := 1) hx hb gX12_findShould_5.2.2.2.2.2.2.2.2.1 (by decide) ?_
                      refine lv_istore_n (lv' := [(3, .int 1), (6, .int (nI t9_5578)), (5, .int r5574), (4, .int (nI kQ)), (2, .int (nI v5567)), (0, .ref h0), (1, .int (nI je))]) hx hb gX12_findShould_5.2.2.2.2.2.2.2.2.2 rfl hl (by decide) rfl (fun ls hl => ?_)
                      refine lv_iinc (v := nI (kQ + 1)) (lv' := [(4, .int (nI (kQ + 1))), (3, .int 1), (6, .int (nI t9_5578)), (5, .int r5574), (2, .int (nI v5567)), (0, .ref h0), (1, .int (nI je))]) hx hb gX12_findShould_6.1 hl (k := 3) rfl (nI_1 _) (by decide) rfl (fun ls hl => ?_)
                      refine lv_goto (tgt := 51) hx hb gX12_findShould_6.2.1 (by decide) ?_
                      refine Kpds (ws' := [(h0, oX12 nw nk mhasKept nt mtaped nr mrowMany mroundOf mroundFrom mouts nm vfh vth ns mfrom mto msort misFault mdeep mcoded mlines nl nc nF np ntr nb mbestCost nso nsi nit nsh nsf nss nrc mtraced mdealer mnumber mwhose msize misParted), (nw, iA G 1662 fnw), (nm, iA G 36 vA), (ns, iA G 8 (upd vQ t9_5578 r5574)), (np, iA G 100 gnp5576)]) hP hD [1, 2, 0, 3, 4] fm_1_2_0_3_4 nd_1_2_0_3_4 sm_1_2_0_3_4 (fun hP hD => ?_)
                      exact ihQ (kQ + 1) 1 (upd vQ t9_5578 r5574) gnp5576 _ _ _ (by omega) (by first | assumption | exact Or.inl rfl | exact Or.inr rfl | exact Or.inl ⟨rfl, Nat.le_refl _⟩) (And.intro hP hD) hS (lv_sub hl [0, 1, 4, 5, 6] rfl)
                exact keyQ L5567 0 0 w0 w1 _ _ _ (by omega) (by first | assumption | exact Or.inl rfl | exact Or.inr rfl | exact Or.inl ⟨rfl, Nat.le_refl _⟩) (And.intro hP hD) hS (lv_sub hl [0, 1, 2, 3, 4] rfl)
          exact keyW (mu vS + 1) 1 vS fnp _ _ _ (Or.inr ⟨rfl, Nat.lt_succ_self _⟩) (And.intro hP hD) hS (lv_sub hl [0, 1, 2, 3] rfl)
    | succ nA ihA =>
      intro kA vfh vth vA vS H locs ls hkA hvA hPD hS hl
      refine Kan2 hPD (fun hP hD => ?_)
      refine lv_iload_n hx hb gX12_findShould_0.2.2.1 rfl (lv_at0 hl) ?_
      refine lv_bipush (v := 8) hx hb gX12_findShould_0.2.2.2.1 (by decide) ?_
      refine lv_icmp_ge (tgt := 27) hx hb gX12_findShould_0.2.2.2.2.1 (by decide) (fun c9 => absurd c9 (nI_ge (a := kA) (b := 8) (by omega) (by omega))) (fun _ => ?_)
      refine lv_aload_n hx hb gX12_findShould_0.2.2.2.2.2.1 rfl (lv_at1 hl) ?_
      refine gf_X12_29 hC rfl hK hP 0 rfl rfl gX12_findShould_0.2.2.2.2.2.2.1 ?_
      refine lv_iload_n hx hb gX12_findShould_0.2.2.2.2.2.2.2.1 rfl (lv_at0 hl) ?_
      refine lv_aload_n hx hb gX12_findShould_0.2.2.2.2.2.2.2.2.1 rfl (lv_at1 hl) ?_
      refine lv_iload_n hx hb gX12_findShould_0.2.2.2.2.2.2.2.2.2 rfl (lv_at2 hl) ?_
      refine lv_iload_n hx hb gX12_findShould_1.1 rfl (lv_at0 hl) ?_
      refine lv_iconst (v := 1) hx hb gX12_findShould_1.2.1 (by decide) ?_
      refine iV (wr := [(ns, iA G 8 vS), (np, iA G 100 fnp)]) hC hK hl hP hD hS hA (m_knewBy l G h0 je (nI kA) 1 nw nk mhasKept nt mtaped nr mrowMany mroundOf mroundFrom mouts nm vfh vth ns mfrom mto msort misFault mdeep mcoded mlines nl nc nF np ntr nb mbestCost nso nsi nit nsh nsf nss nrc mtraced mdealer mnumber mwhose msize misParted fnw vA (hje) (hN) (hvA)) si_X12_176 [0, 1, 2] [3, 4] sm_0_1_2 fm_0_1_2 nd_0_1_2 sm_3_4 nd_3_4 dj_0_1_2__3_4 rfl rfl rfl rfl rfl (Nat.le_of_ble_eq_true rfl) rm_7_5_7 ⟨Nat.le_of_ble_eq_true rfl, Nat.le_of_ble_eq_true rfl⟩ gX12_findShould_1.2.2.1 (fun r5581 => Ktu3 fun fh15583 th15584 gnm5585 => ?_)
      intro H locs hr5581 hP hD hS
      try dsimp only at hr5581
      refine Kpdr (ws := [(ns, iA G 8 vS), (np, iA G 100 fnp), (h0, oX12 nw nk mhasKept nt mtaped nr mrowMany mroundOf mroundFrom mouts nm fh15583 th15584 ns mfrom mto msort misFault mdeep mcoded mlines nl nc nF np ntr nb mbestCost nso nsi nit nsh nsf nss nrc mtraced mdealer mnumber mwhose msize misParted), (nw, iA G 1662 fnw), (nm, iA G 36 gnm5585)]) hP hD (fun hP hD => ?_)
      obtain ⟨hr5581, w5586⟩ := hr5581
      refine astN hC hK hP hD hS 0 (ws' := [(ns, iA G 8 (upd vS kA r5581)), (np, iA G 100 fnp), (h0, oX12 nw nk mhasKept nt mtaped nr mrowMany mroundOf mroundFrom mouts nm fh15583 th15584 ns mfrom mto msort misFault mdeep mcoded mlines nl nc nF np ntr nb mbestCost nso nsi nit nsh nsf nss nrc mtraced mdealer mnumber mwhose msize misParted), (nw, iA G 1662 fnw), (nm, iA G 36 gnm5585)]) rfl (k := kA) (by omega) (Nat.le_of_ble_eq_true rfl) (rfl) gX12_findShould_1.2.2.2.1 (fun H locs hP hD hS => ?_)
      refine lv_iinc (v := nI (kA + 1)) (lv' := [(2, .int (nI (kA + 1))), (0, .ref h0), (1, .int (nI je))]) hx hb gX12_findShould_1.2.2.2.2.1 hl (k := 0) rfl (nI_1 _) (by decide) rfl (fun ls hl => ?_)
      refine lv_goto (tgt := 2) hx hb gX12_findShould_1.2.2.2.2.2.1 (by decide) ?_
      refine Kpds (ws' := [(h0, oX12 nw nk mhasKept nt mtaped nr mrowMany mroundOf mroundFrom mouts nm fh15583 th15584 ns mfrom mto msort misFault mdeep mcoded mlines nl nc nF np ntr nb mbestCost nso nsi nit nsh nsf nss nrc mtraced mdealer mnumber mwhose msize misParted), (nw, iA G 1662 fnw), (nm, iA G 36 gnm5585), (ns, iA G 8 (upd vS kA r5581)), (np, iA G 100 fnp)]) hP hD [2, 3, 4, 0, 1] fm_2_3_4_0_1 nd_2_3_4_0_1 sm_2_3_4_0_1 (fun hP hD => ?_)
      exact ihA (kA + 1) fh15583 th15584 gnm5585 (upd vS kA r5581) _ _ _ (by omega) (by first | assumption | exact Or.inl rfl | exact Or.inr rfl) (And.intro hP hD) hS (lv_sub hl [0, 1, 2] rfl)
  exact keyA 8 0 mfromHour mtoHour fnm fns _ _ _ (by omega) (by first | assumption | exact Or.inl rfl | exact Or.inr rfl) (And.intro hP hD) hS (lv_sub hl [0, 1, 2] rfl)
def K_m_fromOf (l : Launch) (G : GG) (h0 : Nat) (je : Nat) (jt : Nat) (wy : Int32) (nw : Nat) (nk : Nat) (mhasKept : Int32) (nt : Nat) (mtaped : Int32) (nr : Nat) (mrowMany : Int32) (mroundOf : Int32) (mroundFrom : Int32) (mouts : Int32) (nm : Nat) (mfromHour : Int32) (mtoHour : Int32) (ns : Nat) (mfrom : Int32) (mto : Int32) (msort : Int32) (misFault : Int32) (mdeep : Int32) (mcoded : Int32) (mlines : Int32) (nl : Nat) (nc : Nat) (nF : Nat) (np : Nat) (ntr : Nat) (nb : Nat) (mbestCost : Int32) (nso : Nat) (nsi : Nat) (nit : Nat) (nsh : Nat) (nsf : Nat) (nss : Nat) (nrc : Nat) (mtraced : Int32) (mdealer : Int32) (mnumber : Int32) (mwhose : Int32) (msize : Int32) (misParted : Int32) (fnw : Nat → Int32) (fnm : Nat → Int32) (fns : Nat → Int32) (fnp : Nat → Int32) : Prop := MI l G yX12_fromOf cX12_fromOf 4 (some .int) 8 0 0 [.ref h0, .int (nI je), .int (nI jt), .int wy] [(h0, oX12 nw nk mhasKept nt mtaped nr mrowMany mroundOf mroundFrom mouts nm mfromHour mtoHour ns mfrom mto msort misFault mdeep mcoded mlines nl nc nF np ntr nb mbestCost nso nsi nit nsh nsf nss nrc mtraced mdealer mnumber mwhose msize misParted), (nw, iA G 1662 fnw), (nm, iA G 36 fnm), (ns, iA G 8 fns), (np, iA G 100 fnp)] (fun (r : Int32) (u : Int32 × Int32 × (Nat → Int32) × (Nat → Int32) × (Nat → Int32)) => (True) ∧ (MB u.2.2.1)) (fun u : Int32 × Int32 × (Nat → Int32) × (Nat → Int32) × (Nat → Int32) => [(h0, oX12 nw nk mhasKept nt mtaped nr mrowMany mroundOf mroundFrom mouts nm u.1 u.2.1 ns mfrom mto msort misFault mdeep mcoded mlines nl nc nF np ntr nb mbestCost nso nsi nit nsh nsf nss nrc mtraced mdealer mnumber mwhose msize misParted), (nw, iA G 1662 fnw), (nm, iA G 36 u.2.2.1), (ns, iA G 8 u.2.2.2.1), (np, iA G 100 u.2.2.2.2)])
set_option maxHeartbeats 4000000 in
set_option maxRecDepth 100000 in
theorem m_fromOf (l : Launch) (G : GG) (h0 : Nat) (je : Nat) (jt : Nat) (wy : Int32) (nw : Nat) (nk : Nat) (mhasKept : Int32) (nt : Nat) (mtaped : Int32) (nr : Nat) (mrowMany : Int32) (mroundOf : Int32) (mroundFrom : Int32) (mouts : Int32) (nm : Nat) (mfromHour : Int32) (mtoHour : Int32) (ns : Nat) (mfrom : Int32) (mto : Int32) (msort : Int32) (misFault : Int32) (mdeep : Int32) (mcoded : Int32) (mlines : Int32) (nl : Nat) (nc : Nat) (nF : Nat) (np : Nat) (ntr : Nat) (nb : Nat) (mbestCost : Int32) (nso : Nat) (nsi : Nat) (nit : Nat) (nsh : Nat) (nsf : Nat) (nss : Nat) (nrc : Nat) (mtraced : Int32) (mdealer : Int32) (mnumber : Int32) (mwhose : Int32) (msize : Int32) (misParted : Int32) (fnw : Nat → Int32) (fnm : Nat → Int32) (fns : Nat → Int32) (fnp : Nat → Int32) (hje : je < 10) (hjt : jt < 8) (hN : NI fnw) (hV : VI fnw) (hM : MB fnm) : K_m_fromOf l G h0 je jt wy nw nk mhasKept nt mtaped nr mrowMany mroundOf mroundFrom mouts nm mfromHour mtoHour ns mfrom mto msort misFault mdeep mcoded mlines nl nc nF np ntr nb mbestCost nso nsi nit nsh nsf nss nrc mtraced mdealer mnumber mwhose msize misParted fnw fnm fns fnp := by
  refine MI.start (by decide +kernel) (Nat.le_of_ble_eq_true rfl) ?_
  intro p e s m below meth c A ls hC hK hP hD hS hA hl
  refine absQ (fun Q0 hQ0 => ?_)
  have hl : lv_has ls 4 [(0, .ref h0), (1, .int (nI je)), (2, .int (nI jt)), (3, .int wy)] := hl
  refine Kan8 hC (fun hx hb hr hml hB hown hlocks hnm => ?_)
  refine lv_iload_n hx hb gX12_fromOf_0.1 rfl (lv_at3 hl) ?_
  refine lv_iconst (v := 2) hx hb gX12_fromOf_0.2.1 (by decide) ?_
  refine lv_icmp_ge (tgt := 21) hx hb gX12_fromOf_0.2.2.1 (by decide) (fun c_2_5587 => ?_) (fun c_2_5587 => ?_)
  · refine lv_aload_n hx hb gX12_fromOf_1.2.2.2.1 rfl (lv_at0 hl) ?_
    refine lv_iload_n hx hb gX12_fromOf_1.2.2.2.2.1 rfl (lv_at1 hl) ?_
    refine vV (wr := []) hC hK hl hP hD hS hA (m_findShould l G h0 je nw nk mhasKept nt mtaped nr mrowMany mroundOf mroundFrom mouts nm mfromHour mtoHour ns mfrom mto msort misFault mdeep mcoded mlines nl nc nF np ntr nb mbestCost nso nsi nit nsh nsf nss nrc mtraced mdealer mnumber mwhose msize misParted fnw fnm fns fnp (hje) (hN) (hV) (hM)) si_X12_199 [0, 1, 2, 3, 4] [] sm_0_1_2_3_4 fm_0_1_2_3_4 nd_0_1_2_3_4 rfl rfl (by decide) rfl rfl rfl rfl rfl (Nat.le_of_ble_eq_true rfl) rm_8_7_7 ⟨Nat.le_of_ble_eq_true rfl, Nat.le_of_ble_eq_true rfl⟩ gX12_fromOf_1.2.2.2.2.2.1 (Ktu5 fun fh15590 th15591 gnm5592 gns5593 gnp5594 => ?_)
    intro H locs hr5588 hP hD hS
    try dsimp only at hr5588
    refine Kpdr (ws := [(h0, oX12 nw nk mhasKept nt mtaped nr mrowMany mroundOf mroundFrom mouts nm fh15590 th15591 ns mfrom mto msort misFault mdeep mcoded mlines nl nc nF np ntr nb mbestCost nso nsi nit nsh nsf nss nrc mtraced mdealer mnumber mwhose msize misParted), (nw, iA G 1662 fnw), (nm, iA G 36 gnm5592), (ns, iA G 8 gns5593), (np, iA G 100 gnp5594)]) hP hD (fun hP hD => ?_)
    have w5595 := hr5588
    refine lv_aload_n hx hb gX12_fromOf_1.2.2.2.2.2.2.1 rfl (lv_at0 hl) ?_
    refine gf_X12_29 hC rfl hK hP 0 rfl rfl gX12_fromOf_1.2.2.2.2.2.2.2.1 ?_
    refine lv_iload_n hx hb gX12_fromOf_1.2.2.2.2.2.2.2.2.1 rfl (lv_at2 hl) ?_
    refine aldN hC hK hP 3 rfl (k := jt) (by omega) (Nat.le_of_ble_eq_true rfl) (v := gns5593 jt) rfl gX12_fromOf_1.2.2.2.2.2.2.2.2.2 ?_
    refine lv_topi (fun x5596 ex5596 => ?_)
    refine toQ hQ0 ?_
    exact RI (v := x5596) hC hP hD hS [0, 1, 2, 3, 4] (fh15590, th15591, gnm5592, gns5593, gnp5594) rfl rfl (by decide) (⟨trivial, by first | assumption | exact hM⟩) rfl gX12_fromOf_2
  · refine lv_aload_n hx hb gX12_fromOf_0.2.2.2.1 rfl (lv_at0 hl) ?_
    refine lv_iload_n hx hb gX12_fromOf_0.2.2.2.2.1 rfl (lv_at1 hl) ?_
    refine lv_iload_n hx hb gX12_fromOf_0.2.2.2.2.2.1 rfl (lv_at2 hl) ?_
    refine lv_iload_n hx hb gX12_fromOf_0.2.2.2.2.2.2.1 rfl (lv_at3 hl) ?_
    refine lv_if_ne (tgt := 16) hx hb gX12_fromOf_0.2.2.2.2.2.2.2.1 (by decide) (fun c_9_5597 => ?_) (fun c_9_5597 => ?_)
    · refine lv_iconst (v := 0) hx hb gX12_fromOf_1.1 (by decide) ?_
      refine iV (wr := [(ns, iA G 8 fns), (np, iA G 100 fnp)]) hC hK hl hP hD hS hA (m_knewBy l G h0 je (nI jt) 0 nw nk mhasKept nt mtaped nr mrowMany mroundOf mroundFrom mouts nm mfromHour mtoHour ns mfrom mto msort misFault mdeep mcoded mlines nl nc nF np ntr nb mbestCost nso nsi nit nsh nsf nss nrc mtraced mdealer mnumber mwhose msize misParted fnw fnm (hje) (hN) (hM)) si_X12_176 [0, 1, 2] [3, 4] sm_0_1_2 fm_0_1_2 nd_0_1_2 sm_3_4 nd_3_4 dj_0_1_2__3_4 rfl rfl rfl rfl rfl (Nat.le_of_ble_eq_true rfl) rm_8_5_7 ⟨Nat.le_of_ble_eq_true rfl, Nat.le_of_ble_eq_true rfl⟩ gX12_fromOf_1.2.1 (fun r5598 => Ktu3 fun fh15600 th15601 gnm5602 => ?_)
      intro H locs hr5598 hP hD hS
      try dsimp only at hr5598
      refine Kpdr (ws := [(ns, iA G 8 fns), (np, iA G 100 fnp), (h0, oX12 nw nk mhasKept nt mtaped nr mrowMany mroundOf mroundFrom mouts nm fh15600 th15601 ns mfrom mto msort misFault mdeep mcoded mlines nl nc nF np ntr nb mbestCost nso nsi nit nsh nsf nss nrc mtraced mdealer mnumber mwhose msize misParted), (nw, iA G 1662 fnw), (nm, iA G 36 gnm5602)]) hP hD (fun hP hD => ?_)
      obtain ⟨hr5598, w5603⟩ := hr5598
      refine toQ hQ0 ?_
      exact RI (v := r5598) hC hP hD hS [2, 3, 4, 0, 1] (fh15600, th15601, gnm5602, fns, fnp) rfl rfl (by decide) (⟨trivial, by first | assumption | exact hM⟩) rfl gX12_fromOf_1.2.2.1
    · refine lv_iconst (v := 1) hx hb gX12_fromOf_0.2.2.2.2.2.2.2.2.1 (by decide) ?_
      refine lv_goto (tgt := 17) hx hb gX12_fromOf_0.2.2.2.2.2.2.2.2.2 (by decide) ?_
      refine iV (wr := [(ns, iA G 8 fns), (np, iA G 100 fnp)]) hC hK hl hP hD hS hA (m_knewBy l G h0 je (nI jt) 1 nw nk mhasKept nt mtaped nr mrowMany mroundOf mroundFrom mouts nm mfromHour mtoHour ns mfrom mto msort misFault mdeep mcoded mlines nl nc nF np ntr nb mbestCost nso nsi nit nsh nsf nss nrc mtraced mdealer mnumber mwhose msize misParted fnw fnm (hje) (hN) (hM)) si_X12_176 [0, 1, 2] [3, 4] sm_0_1_2 fm_0_1_2 nd_0_1_2 sm_3_4 nd_3_4 dj_0_1_2__3_4 rfl rfl rfl rfl rfl (Nat.le_of_ble_eq_true rfl) rm_8_5_7 ⟨Nat.le_of_ble_eq_true rfl, Nat.le_of_ble_eq_true rfl⟩ gX12_fromOf_1.2.1 (fun r5604 => Ktu3 fun fh15606 th15607 gnm5608 => ?_)
      intro H locs hr5604 hP hD hS
      try dsimp only at hr5604
      refine Kpdr (ws := [(ns, iA G 8 fns), (np, iA G 100 fnp), (h0, oX12 nw nk mhasKept nt mtaped nr mrowMany mroundOf mroundFrom mouts nm fh15606 th15607 ns mfrom mto msort misFault mdeep mcoded mlines nl nc nF np ntr nb mbestCost nso nsi nit nsh nsf nss nrc mtraced mdealer mnumber mwhose msize misParted), (nw, iA G 1662 fnw), (nm, iA G 36 gnm5608)]) hP hD (fun hP hD => ?_)
      obtain ⟨hr5604, w5609⟩ := hr5604
      refine toQ hQ0 ?_
      exact RI (v := r5604) hC hP hD hS [2, 3, 4, 0, 1] (fh15606, th15607, gnm5608, fns, fnp) rfl rfl (by decide) (⟨trivial, by first | assumption | exact hM⟩) rfl gX12_fromOf_1.2.2.1
def K_r_knew (l : Launch) (G : GG) (h0 : Nat) (x1 : Int32) (x2 : Int32) (x3 : Int32) (nw : Nat) (nk : Nat) (mhasKept : Int32) (nt : Nat) (mtaped : Int32) (nr : Nat) (mrowMany : Int32) (mroundOf : Int32) (mroundFrom : Int32) (nm : Nat) (mfromHour : Int32) (mtoHour : Int32) (ns : Nat) (mfrom : Int32) (mto : Int32) (msort : Int32) (misFault : Int32) (mdeep : Int32) (mcoded : Int32) (mlines : Int32) (nl : Nat) (nc : Nat) (nF : Nat) (np : Nat) (ntr : Nat) (nb : Nat) (mbestCost : Int32) (nso : Nat) (nsi : Nat) (nit : Nat) (nsh : Nat) (nsf : Nat) (nss : Nat) (nrc : Nat) (mtraced : Int32) (mdealer : Int32) (mnumber : Int32) (mwhose : Int32) (msize : Int32) (misParted : Int32) (fnw : Nat → Int32) (fnm : Nat → Int32) (fns : Nat → Int32) (fnp : Nat → Int32) : Prop := MI l G yX12_knew cX12_knew 5 (some .int) 9 0 0 [.ref h0, .int x1, .int x2, .int x3] [(h0, oX12 nw nk mhasKept nt mtaped nr mrowMany mroundOf mroundFrom 0 nm mfromHour mtoHour ns mfrom mto msort misFault mdeep mcoded mlines nl nc nF np ntr nb mbestCost nso nsi nit nsh nsf nss nrc mtraced mdealer mnumber mwhose msize misParted), (nw, iA G 1662 fnw), (nm, iA G 36 fnm), (ns, iA G 8 fns), (np, iA G 100 fnp)] (fun (r : Int32) (u : Int32 × Int32 × (Nat → Int32) × (Nat → Int32) × (Nat → Int32)) => (True) ∧ (MB u.2.2.1)) (fun u : Int32 × Int32 × (Nat → Int32) × (Nat → Int32) × (Nat → Int32) => [(h0, oX12 nw nk mhasKept nt mtaped nr mrowMany mroundOf mroundFrom 0 nm u.1 u.2.1 ns mfrom mto msort misFault mdeep mcoded mlines nl nc nF np ntr nb mbestCost nso nsi nit nsh nsf nss nrc mtraced mdealer mnumber mwhose msize misParted), (nw, iA G 1662 fnw), (nm, iA G 36 u.2.2.1), (ns, iA G 8 u.2.2.2.1), (np, iA G 100 u.2.2.2.2)])
set_option maxHeartbeats 4000000 in
set_option maxRecDepth 100000 in
theorem r_knew (l : Launch) (G : GG) (h0 : Nat) (x1 : Int32) (x2 : Int32) (x3 : Int32) (nw : Nat) (nk : Nat) (mhasKept : Int32) (nt : Nat) (mtaped : Int32) (nr : Nat) (mrowMany : Int32) (mroundOf : Int32) (mroundFrom : Int32) (nm : Nat) (mfromHour : Int32) (mtoHour : Int32) (ns : Nat) (mfrom : Int32) (mto : Int32) (msort : Int32) (misFault : Int32) (mdeep : Int32) (mcoded : Int32) (mlines : Int32) (nl : Nat) (nc : Nat) (nF : Nat) (np : Nat) (ntr : Nat) (nb : Nat) (mbestCost : Int32) (nso : Nat) (nsi : Nat) (nit : Nat) (nsh : Nat) (nsf : Nat) (nss : Nat) (nrc : Nat) (mtraced : Int32) (mdealer : Int32) (mnumber : Int32) (mwhose : Int32) (msize : Int32) (misParted : Int32) (fnw : Nat → Int32) (fnm : Nat → Int32) (fns : Nat → Int32) (fnp : Nat → Int32) (hN : NI fnw) (hV : VI fnw) (hM : MB fnm) : K_r_knew l G h0 x1 x2 x3 nw nk mhasKept nt mtaped nr mrowMany mroundOf mroundFrom nm mfromHour mtoHour ns mfrom mto msort misFault mdeep mcoded mlines nl nc nF np ntr nb mbestCost nso nsi nit nsh nsf nss nrc mtraced mdealer mnumber mwhose msize misParted fnw fnm fns fnp := by
  refine MI.start (by decide +kernel) (Nat.le_of_ble_eq_true rfl) ?_
  intro p e s m below meth c A ls hC hK hP hD hS hA hl
  refine absQ (fun Q0 hQ0 => ?_)
  have hl : lv_has ls 5 [(0, .ref h0), (1, .int x1), (2, .int x2), (3, .int x3)] := hl
  refine Kan8 hC (fun hx hb hr hml hB hown hlocks hnm => ?_)
  obtain ⟨kp, hkp, ekp⟩ := NI.nat hN (i := 4) (B := 10) (by decide +kernel) (by decide)
  obtain ⟨kq, hkq, ekq⟩ := NI.nat hN (i := 5) (B := 12) (by decide +kernel) (by decide)
  obtain ⟨k6, hk6, ek6⟩ := NI.nat hN (i := 6) (B := 24) (by decide +kernel) (by decide)
  refine lv_aload_n hx hb gX12_knew_0.1 rfl (lv_at0 hl) ?_
  refine lv_iload_n hx hb gX12_knew_0.2.1 rfl (lv_at1 hl) ?_
  refine lv_iconst (v := 4) hx hb gX12_knew_0.2.2.1 (by decide) ?_
  refine pV hC hK hl hP hD (m_is l G kp h0 x1 4 nw nk mhasKept nt mtaped nr mrowMany mroundOf mroundFrom 0 nm mfromHour mtoHour ns mfrom mto msort misFault mdeep mcoded mlines nl nc nF np ntr nb mbestCost nso nsi nit nsh nsf nss nrc mtraced mdealer mnumber mwhose msize misParted fnw (by omega) (ekp) (by omega)) si_X12_120 [0, 1] sm_0_1 fm_0_1 nd_0_1 rfl rfl rfl rfl rfl (Nat.le_of_ble_eq_true rfl) rm_9_2_3 ⟨by first | exact Nat.le_of_ble_eq_true rfl | exact Nat.zero_le _, by first | exact Nat.le_of_ble_eq_true rfl | exact Nat.zero_le _⟩ gX12_knew_0.2.2.2.1 (Kors (Keqa fun a5611 => ?_) (Keqa fun a5611 => ?_))
  · refine lv_if_eq (tgt := 28) hx hb gX12_knew_0.2.2.2.2.1 (by decide) (fun c9 => absurd c9 (by decide)) (fun _ => ?_)
    refine lv_iload_n hx hb gX12_knew_0.2.2.2.2.2.1 rfl (lv_at2 hl) ?_
    refine lv_iconst (v := 0) hx hb gX12_knew_0.2.2.2.2.2.2.1 (by decide) ?_
    refine lv_bipush (v := 7) hx hb gX12_knew_0.2.2.2.2.2.2.2.1 (by decide) ?_
    refine pS hC hK hl (m_within l G x2 0 7) si_X12_84 rfl rfl (Nat.le_of_ble_eq_true rfl) rm_9_1_3 ⟨by first | exact Nat.le_of_ble_eq_true rfl | exact Nat.zero_le _, by first | exact Nat.le_of_ble_eq_true rfl | exact Nat.zero_le _⟩ gX12_knew_0.2.2.2.2.2.2.2.2.1 (Kors (Keqa fun a5613 => ?_) (Keqa fun a5613 => ?_))
    · refine lv_if_eq (tgt := 28) hx hb gX12_knew_0.2.2.2.2.2.2.2.2.2 (by decide) (fun c9 => absurd c9 (by decide)) (fun _ => ?_)
      refine lv_iload_n hx hb gX12_knew_1.1 rfl (lv_at3 hl) ?_
      refine lv_iconst (v := 0) hx hb gX12_knew_1.2.1 (by decide) ?_
      refine lv_iconst (v := 2) hx hb gX12_knew_1.2.2.1 (by decide) ?_
      refine pS hC hK hl (m_within l G x3 0 2) si_X12_84 rfl rfl (Nat.le_of_ble_eq_true rfl) rm_9_1_3 ⟨by first | exact Nat.le_of_ble_eq_true rfl | exact Nat.zero_le _, by first | exact Nat.le_of_ble_eq_true rfl | exact Nat.zero_le _⟩ gX12_knew_1.2.2.2.1 (Kors (Keqa fun a5615 => ?_) (Keqa fun a5615 => ?_))
      · refine lv_if_ne (tgt := 30) hx hb gX12_knew_1.2.2.2.2.1 (by decide) (fun _ => ?_) (fun c9 => absurd c9 (by decide))
        obtain ⟨je, hje, rfl⟩ := Hs_nat (by omega) a5611
        obtain ⟨jt, hjt, rfl⟩ := Wi7 a5613
        refine lv_aload_n hx hb gX12_knew_1.2.2.2.2.2.2.2.1 rfl (lv_at0 hl) ?_
        refine lv_iload_n hx hb gX12_knew_1.2.2.2.2.2.2.2.2.1 rfl (lv_at1 hl) ?_
        refine lv_iload_n hx hb gX12_knew_1.2.2.2.2.2.2.2.2.2 rfl (lv_at2 hl) ?_
        refine lv_iload_n hx hb gX12_knew_2.1 rfl (lv_at3 hl) ?_
        refine iV (wr := []) hC hK hl hP hD hS hA (m_fromOf l G h0 je jt x3 nw nk mhasKept nt mtaped nr mrowMany mroundOf mroundFrom 0 nm mfromHour mtoHour ns mfrom mto msort misFault mdeep mcoded mlines nl nc nF np ntr nb mbestCost nso nsi nit nsh nsf nss nrc mtraced mdealer mnumber mwhose msize misParted fnw fnm fns fnp (by omega) (by omega) (hN) (hV) (hM)) si_X12_203 [0, 1, 2, 3, 4] [] sm_0_1_2_3_4 fm_0_1_2_3_4 nd_0_1_2_3_4 rfl rfl (by decide) rfl rfl rfl rfl rfl (Nat.le_of_ble_eq_true rfl) rm_9_8_4 ⟨Nat.le_of_ble_eq_true rfl, Nat.le_of_ble_eq_true rfl⟩ gX12_knew_2.2.1 (fun r5616 => Ktu5 fun fh15618 th15619 gnm5620 gns5621 gnp5622 => ?_)
        intro H locs hr5616 hP hD hS
        try dsimp only at hr5616
        refine Kpdr (ws := [(h0, oX12 nw nk mhasKept nt mtaped nr mrowMany mroundOf mroundFrom 0 nm fh15618 th15619 ns mfrom mto msort misFault mdeep mcoded mlines nl nc nF np ntr nb mbestCost nso nsi nit nsh nsf nss nrc mtraced mdealer mnumber mwhose msize misParted), (nw, iA G 1662 fnw), (nm, iA G 36 gnm5620), (ns, iA G 8 gns5621), (np, iA G 100 gnp5622)]) hP hD (fun hP hD => ?_)
        obtain ⟨hr5616, w5623⟩ := hr5616
        refine lv_istore (lv' := [(4, .int r5616), (0, .ref h0), (1, .int (nI je)), (2, .int (nI jt)), (3, .int x3)]) hx hb gX12_knew_2.2.2.1 hl (by decide) rfl (fun ls hl => ?_)
        refine lv_iload hx hb gX12_knew_2.2.2.2.1 (lv_at0 hl) ?_
        refine lv_ldc hx hb hown (hB _ m_1204) gX12_knew_2.2.2.2.2.1 ?_
        refine lv_icmp_ne (tgt := 51) hx hb gX12_knew_2.2.2.2.2.2.1 (by decide) (fun c_43_5624 => ?_) (fun c_43_5624 => ?_)
        · refine lv_sipush (v := 1000) hx hb gX12_knew_2.2.2.2.2.2.2.2.2.1 (by decide) ?_
          refine lv_iload hx hb gX12_knew_2.2.2.2.2.2.2.2.2.2 (lv_at0 hl) ?_
          refine lv_iadd hx hb gX12_knew_3.1 ?_
          refine toQ hQ0 ?_
          exact RI (v := 1000 + r5616) hC hP hD hS [0, 1, 2, 3, 4] (fh15618, th15619, gnm5620, gns5621, gnp5622) rfl rfl (by decide) (⟨trivial, by first | assumption | exact hM⟩) rfl gX12_knew_3.2
        · refine lv_bipush (v := (-3)) hx hb gX12_knew_2.2.2.2.2.2.2.1 (by decide) ?_
          refine lv_goto (tgt := 57) hx hb gX12_knew_2.2.2.2.2.2.2.2.1 (by decide) ?_
          refine toQ hQ0 ?_
          exact RI (v := (-3)) hC hP hD hS [0, 1, 2, 3, 4] (fh15618, th15619, gnm5620, gns5621, gnp5622) rfl rfl (by decide) (⟨trivial, by first | assumption | exact hM⟩) rfl gX12_knew_3.2
      · refine lv_if_ne (tgt := 30) hx hb gX12_knew_1.2.2.2.2.1 (by decide) (fun c9 => absurd (by decide) c9) (fun _ => ?_)
        refine lv_iconst (v := (-1)) hx hb gX12_knew_1.2.2.2.2.2.1 (by decide) ?_
        refine toQ hQ0 ?_
        exact RI (v := (-1)) hC hP hD hS [0, 1, 2, 3, 4] (mfromHour, mtoHour, fnm, fns, fnp) rfl rfl (by decide) (⟨trivial, by first | assumption | exact hM⟩) rfl gX12_knew_1.2.2.2.2.2.2.1
    · refine lv_if_eq (tgt := 28) hx hb gX12_knew_0.2.2.2.2.2.2.2.2.2 (by decide) (fun _ => ?_) (fun c9 => absurd (by decide) c9)
      refine lv_iconst (v := (-1)) hx hb gX12_knew_1.2.2.2.2.2.1 (by decide) ?_
      refine toQ hQ0 ?_
      exact RI (v := (-1)) hC hP hD hS [0, 1, 2, 3, 4] (mfromHour, mtoHour, fnm, fns, fnp) rfl rfl (by decide) (⟨trivial, by first | assumption | exact hM⟩) rfl gX12_knew_1.2.2.2.2.2.2.1
  · refine lv_if_eq (tgt := 28) hx hb gX12_knew_0.2.2.2.2.1 (by decide) (fun _ => ?_) (fun c9 => absurd (by decide) c9)
    refine lv_iconst (v := (-1)) hx hb gX12_knew_1.2.2.2.2.2.1 (by decide) ?_
    refine toQ hQ0 ?_
    exact RI (v := (-1)) hC hP hD hS [0, 1, 2, 3, 4] (mfromHour, mtoHour, fnm, fns, fnp) rfl rfl (by decide) (⟨trivial, by first | assumption | exact hM⟩) rfl gX12_knew_1.2.2.2.2.2.2.1
def K_r_why (l : Launch) (G : GG) (h0 : Nat) (x1 : Int32) (x2 : Int32) (nw : Nat) (nk : Nat) (mhasKept : Int32) (nt : Nat) (mtaped : Int32) (nr : Nat) (mrowMany : Int32) (mroundOf : Int32) (mroundFrom : Int32) (nm : Nat) (mfromHour : Int32) (mtoHour : Int32) (ns : Nat) (mfrom : Int32) (mto : Int32) (msort : Int32) (misFault : Int32) (mdeep : Int32) (mcoded : Int32) (mlines : Int32) (nl : Nat) (nc : Nat) (nF : Nat) (np : Nat) (ntr : Nat) (nb : Nat) (mbestCost : Int32) (nso : Nat) (nsi : Nat) (nit : Nat) (nsh : Nat) (nsf : Nat) (nss : Nat) (nrc : Nat) (mtraced : Int32) (mdealer : Int32) (mnumber : Int32) (mwhose : Int32) (msize : Int32) (misParted : Int32) (fnw : Nat → Int32) (fnm : Nat → Int32) (fns : Nat → Int32) (fnp : Nat → Int32) : Prop := MI l G yX12_why cX12_why 5 (some .int) 9 0 0 [.ref h0, .int x1, .int x2] [(h0, oX12 nw nk mhasKept nt mtaped nr mrowMany mroundOf mroundFrom 0 nm mfromHour mtoHour ns mfrom mto msort misFault mdeep mcoded mlines nl nc nF np ntr nb mbestCost nso nsi nit nsh nsf nss nrc mtraced mdealer mnumber mwhose msize misParted), (nw, iA G 1662 fnw), (nm, iA G 36 fnm), (ns, iA G 8 fns), (np, iA G 100 fnp)] (fun (r : Int32) (u : Int32 × Int32 × (Nat → Int32) × (Nat → Int32) × (Nat → Int32)) => (True) ∧ (MB u.2.2.1)) (fun u : Int32 × Int32 × (Nat → Int32) × (Nat → Int32) × (Nat → Int32) => [(h0, oX12 nw nk mhasKept nt mtaped nr mrowMany mroundOf mroundFrom 0 nm u.1 u.2.1 ns mfrom mto msort misFault mdeep mcoded mlines nl nc nF np ntr nb mbestCost nso nsi nit nsh nsf nss nrc mtraced mdealer mnumber mwhose msize misParted), (nw, iA G 1662 fnw), (nm, iA G 36 u.2.2.1), (ns, iA G 8 u.2.2.2.1), (np, iA G 100 u.2.2.2.2)])
set_option maxHeartbeats 4000000 in
set_option maxRecDepth 100000 in
theorem r_why (l : Launch) (G : GG) (h0 : Nat) (x1 : Int32) (x2 : Int32) (nw : Nat) (nk : Nat) (mhasKept : Int32) (nt : Nat) (mtaped : Int32) (nr : Nat) (mrowMany : Int32) (mroundOf : Int32) (mroundFrom : Int32) (nm : Nat) (mfromHour : Int32) (mtoHour : Int32) (ns : Nat) (mfrom : Int32) (mto : Int32) (msort : Int32) (misFault : Int32) (mdeep : Int32) (mcoded : Int32) (mlines : Int32) (nl : Nat) (nc : Nat) (nF : Nat) (np : Nat) (ntr : Nat) (nb : Nat) (mbestCost : Int32) (nso : Nat) (nsi : Nat) (nit : Nat) (nsh : Nat) (nsf : Nat) (nss : Nat) (nrc : Nat) (mtraced : Int32) (mdealer : Int32) (mnumber : Int32) (mwhose : Int32) (msize : Int32) (misParted : Int32) (fnw : Nat → Int32) (fnm : Nat → Int32) (fns : Nat → Int32) (fnp : Nat → Int32) (hN : NI fnw) (hV : VI fnw) (hM : MB fnm) : K_r_why l G h0 x1 x2 nw nk mhasKept nt mtaped nr mrowMany mroundOf mroundFrom nm mfromHour mtoHour ns mfrom mto msort misFault mdeep mcoded mlines nl nc nF np ntr nb mbestCost nso nsi nit nsh nsf nss nrc mtraced mdealer mnumber mwhose msize misParted fnw fnm fns fnp := by
  refine MI.start (by decide +kernel) (Nat.le_of_ble_eq_true rfl) ?_
  intro p e s m below meth c A ls hC hK hP hD hS hA hl
  refine absQ (fun Q0 hQ0 => ?_)
  have hl : lv_has ls 5 [(0, .ref h0), (1, .int x1), (2, .int x2)] := hl
  refine Kan8 hC (fun hx hb hr hml hB hown hlocks hnm => ?_)
  obtain ⟨kp, hkp, ekp⟩ := NI.nat hN (i := 4) (B := 10) (by decide +kernel) (by decide)
  obtain ⟨kq, hkq, ekq⟩ := NI.nat hN (i := 5) (B := 12) (by decide +kernel) (by decide)
  obtain ⟨k6, hk6, ek6⟩ := NI.nat hN (i := 6) (B := 24) (by decide +kernel) (by decide)
  refine lv_aload_n hx hb gX12_why_0.1 rfl (lv_at0 hl) ?_
  refine lv_iload_n hx hb gX12_why_0.2.1 rfl (lv_at1 hl) ?_
  refine lv_iconst (v := 4) hx hb gX12_why_0.2.2.1 (by decide) ?_
  refine pV hC hK hl hP hD (m_is l G kp h0 x1 4 nw nk mhasKept nt mtaped nr mrowMany mroundOf mroundFrom 0 nm mfromHour mtoHour ns mfrom mto msort misFault mdeep mcoded mlines nl nc nF np ntr nb mbestCost nso nsi nit nsh nsf nss nrc mtraced mdealer mnumber mwhose msize misParted fnw (by omega) (ekp) (by omega)) si_X12_120 [0, 1] sm_0_1 fm_0_1 nd_0_1 rfl rfl rfl rfl rfl (Nat.le_of_ble_eq_true rfl) rm_9_2_3 ⟨by first | exact Nat.le_of_ble_eq_true rfl | exact Nat.zero_le _, by first | exact Nat.le_of_ble_eq_true rfl | exact Nat.zero_le _⟩ gX12_why_0.2.2.2.1 (Kors (Keqa fun a5626 => ?_) (Keqa fun a5626 => ?_))
  · refine lv_if_eq (tgt := 19) hx hb gX12_why_0.2.2.2.2.1 (by decide) (fun c9 => absurd c9 (by decide)) (fun _ => ?_)
    refine lv_iload_n hx hb gX12_why_0.2.2.2.2.2.1 rfl (lv_at2 hl) ?_
    refine lv_iconst (v := 0) hx hb gX12_why_0.2.2.2.2.2.2.1 (by decide) ?_
    refine lv_bipush (v := 7) hx hb gX12_why_0.2.2.2.2.2.2.2.1 (by decide) ?_
    refine pS hC hK hl (m_within l G x2 0 7) si_X12_84 rfl rfl (Nat.le_of_ble_eq_true rfl) rm_9_1_3 ⟨by first | exact Nat.le_of_ble_eq_true rfl | exact Nat.zero_le _, by first | exact Nat.le_of_ble_eq_true rfl | exact Nat.zero_le _⟩ gX12_why_0.2.2.2.2.2.2.2.2.1 (Kors (Keqa fun a5628 => ?_) (Keqa fun a5628 => ?_))
    · refine lv_if_ne (tgt := 21) hx hb gX12_why_0.2.2.2.2.2.2.2.2.2 (by decide) (fun _ => ?_) (fun c9 => absurd c9 (by decide))
      obtain ⟨je, hje, rfl⟩ := Hs_nat (by omega) a5626
      obtain ⟨jt, hjt, rfl⟩ := Wi7 a5628
      refine lv_aload_n hx hb gX12_why_1.2.2.1 rfl (lv_at0 hl) ?_
      refine lv_iload_n hx hb gX12_why_1.2.2.2.1 rfl (lv_at1 hl) ?_
      refine vV (wr := []) hC hK hl hP hD hS hA (m_findShould l G h0 je nw nk mhasKept nt mtaped nr mrowMany mroundOf mroundFrom 0 nm mfromHour mtoHour ns mfrom mto msort misFault mdeep mcoded mlines nl nc nF np ntr nb mbestCost nso nsi nit nsh nsf nss nrc mtraced mdealer mnumber mwhose msize misParted fnw fnm fns fnp (by omega) (hN) (hV) (hM)) si_X12_199 [0, 1, 2, 3, 4] [] sm_0_1_2_3_4 fm_0_1_2_3_4 nd_0_1_2_3_4 rfl rfl (by decide) rfl rfl rfl rfl rfl (Nat.le_of_ble_eq_true rfl) rm_9_7_7 ⟨Nat.le_of_ble_eq_true rfl, Nat.le_of_ble_eq_true rfl⟩ gX12_why_1.2.2.2.2.1 (Ktu5 fun fh15631 th15632 gnm5633 gns5634 gnp5635 => ?_)
      intro H locs hr5629 hP hD hS
      try dsimp only at hr5629
      refine Kpdr (ws := [(h0, oX12 nw nk mhasKept nt mtaped nr mrowMany mroundOf mroundFrom 0 nm fh15631 th15632 ns mfrom mto msort misFault mdeep mcoded mlines nl nc nF np ntr nb mbestCost nso nsi nit nsh nsf nss nrc mtraced mdealer mnumber mwhose msize misParted), (nw, iA G 1662 fnw), (nm, iA G 36 gnm5633), (ns, iA G 8 gns5634), (np, iA G 100 gnp5635)]) hP hD (fun hP hD => ?_)
      have w5636 := hr5629
      refine lv_aload_n hx hb gX12_why_1.2.2.2.2.2.1 rfl (lv_at0 hl) ?_
      refine pV hC hK hl hP hD (m_rules l G h0 nw nk mhasKept nt mtaped nr mrowMany mroundOf mroundFrom 0 nm fh15631 th15632 ns mfrom mto msort misFault mdeep mcoded mlines nl nc nF np ntr nb mbestCost nso nsi nit nsh nsf nss nrc mtraced mdealer mnumber mwhose msize misParted fnw (hN)) si_X12_180 [0, 1] sm_0_1 fm_0_1 nd_0_1 rfl rfl rfl rfl rfl (Nat.le_of_ble_eq_true rfl) rm_9_2_3 ⟨by first | exact Nat.le_of_ble_eq_true rfl | exact Nat.zero_le _, by first | exact Nat.le_of_ble_eq_true rfl | exact Nat.zero_le _⟩ gX12_why_1.2.2.2.2.2.2.1 (fun r5637 hr5637 => ?_)
      obtain ⟨jv_5638, hpx5638, rfl⟩ := hr5637
      try dsimp only at hpx5638
      rcases Nat.eq_zero_or_pos jv_5638 with rfl | hpv5639
      · refine eqi (x1 := (-1)) (by decide) ?_
        refine lv_istore_n (lv' := [(3, .int (-1)), (0, .ref h0), (1, .int (nI je)), (2, .int (nI jt))]) hx hb gX12_why_1.2.2.2.2.2.2.2.1 rfl hl (by decide) rfl (fun ls hl => ?_)
        refine lv_aload_n hx hb gX12_why_1.2.2.2.2.2.2.2.2.1 rfl (lv_at1 hl) ?_
        refine gf_X12_29 hC rfl hK hP 0 rfl rfl gX12_why_1.2.2.2.2.2.2.2.2.2 ?_
        refine lv_iload_n hx hb gX12_why_2.1 rfl (lv_at3 hl) ?_
        refine aldN hC hK hP 3 rfl (k := jt) (by omega) (Nat.le_of_ble_eq_true rfl) (v := gns5634 jt) rfl gX12_why_2.2.1 ?_
        refine lv_topi (fun x5640 ex5640 => ?_)
        refine lv_ldc hx hb hown (hB _ m_1204) gX12_why_2.2.2.1 ?_
        refine lv_icmp_eq (tgt := 58) hx hb gX12_why_2.2.2.2.1 (by decide) (fun c_39_5641 => ?_) (fun c_39_5641 => ?_)
        · refine lv_bipush (v := (-3)) hx hb gX12_why_3.2.2.2.2.1 (by decide) ?_
          refine toQ hQ0 ?_
          exact RI (v := (-3)) hC hP hD hS [0, 1, 2, 3, 4] (fh15631, th15632, gnm5633, gns5634, gnp5635) rfl rfl (by decide) (⟨trivial, by first | assumption | exact hM⟩) rfl gX12_why_3.2.2.2.2.2.1
        · refine lv_aload_n hx hb gX12_why_2.2.2.2.2.1 rfl (lv_at1 hl) ?_
          refine gf_X12_29 hC rfl hK hP 0 rfl rfl gX12_why_2.2.2.2.2.2.1 ?_
          refine lv_iload_n hx hb gX12_why_2.2.2.2.2.2.2.1 rfl (lv_at3 hl) ?_
          refine aldN hC hK hP 3 rfl (k := jt) (by omega) (Nat.le_of_ble_eq_true rfl) (v := gns5634 jt) rfl gX12_why_2.2.2.2.2.2.2.2.1 ?_
          refine lv_topi (fun x5642 ex5642 => ?_)
          refine lv_aload_n hx hb gX12_why_2.2.2.2.2.2.2.2.2.1 rfl (lv_at1 hl) ?_
          refine lv_iload_n hx hb gX12_why_2.2.2.2.2.2.2.2.2.2 rfl (lv_at2 hl) ?_
          refine lv_iload_n hx hb gX12_why_3.1 rfl (lv_at3 hl) ?_
          refine lv_iconst (v := 1) hx hb gX12_why_3.2.1 (by decide) ?_
          refine iV (wr := [(ns, iA G 8 gns5634), (np, iA G 100 gnp5635)]) hC hK hl hP hD hS hA (m_knewBy l G h0 je (nI jt) 1 nw nk mhasKept nt mtaped nr mrowMany mroundOf mroundFrom 0 nm fh15631 th15632 ns mfrom mto msort misFault mdeep mcoded mlines nl nc nF np ntr nb mbestCost nso nsi nit nsh nsf nss nrc mtraced mdealer mnumber mwhose msize misParted fnw gnm5633 (by omega) (hN) (w5636)) si_X12_176 [0, 1, 2] [3, 4] sm_0_1_2 fm_0_1_2 nd_0_1_2 sm_3_4 nd_3_4 dj_0_1_2__3_4 rfl rfl rfl rfl rfl (Nat.le_of_ble_eq_true rfl) rm_9_5_7 ⟨Nat.le_of_ble_eq_true rfl, Nat.le_of_ble_eq_true rfl⟩ gX12_why_3.2.2.1 (fun r5643 => Ktu3 fun fh15645 th15646 gnm5647 => ?_)
          intro H locs hr5643 hP hD hS
          try dsimp only at hr5643
          refine Kpdr (ws := [(ns, iA G 8 gns5634), (np, iA G 100 gnp5635), (h0, oX12 nw nk mhasKept nt mtaped nr mrowMany mroundOf mroundFrom 0 nm fh15645 th15646 ns mfrom mto msort misFault mdeep mcoded mlines nl nc nF np ntr nb mbestCost nso nsi nit nsh nsf nss nrc mtraced mdealer mnumber mwhose msize misParted), (nw, iA G 1662 fnw), (nm, iA G 36 gnm5647)]) hP hD (fun hP hD => ?_)
          obtain ⟨hr5643, w5648⟩ := hr5643
          refine lv_icmp_ne (tgt := 61) hx hb gX12_why_3.2.2.2.1 (by decide) (fun c_55_5649 => ?_) (fun c_55_5649 => ?_)
          · refine lv_iconst (v := 0) hx hb gX12_why_3.2.2.2.2.2.2.1 (by decide) ?_
            refine lv_istore (lv' := [(4, .int 0), (3, .int (-1)), (0, .ref h0), (1, .int (nI je)), (2, .int (nI jt))]) hx hb gX12_why_3.2.2.2.2.2.2.2.1 hl (by decide) rfl (fun ls hl => ?_)
            refine lv_iload hx hb gX12_why_3.2.2.2.2.2.2.2.2.1 (lv_at0 hl) ?_
            refine lv_aload_n hx hb gX12_why_3.2.2.2.2.2.2.2.2.2 rfl (lv_at2 hl) ?_
            refine lv_iload_n hx hb gX12_why_4.1 rfl (lv_at1 hl) ?_
            refine pV hC hK hl hP hD (m_linesN l G h0 nw nk mhasKept nt mtaped nr mrowMany mroundOf mroundFrom 0 nm fh15645 th15646 ns mfrom mto msort misFault mdeep mcoded mlines nl nc nF np ntr nb mbestCost nso nsi nit nsh nsf nss nrc mtraced mdealer mnumber mwhose msize misParted fnw) si_X12_183 [2, 3] sm_2_3 fm_2_3 nd_2_3 rfl rfl rfl rfl rfl (Nat.le_of_ble_eq_true rfl) rm_9_1_2 ⟨by first | exact Nat.le_of_ble_eq_true rfl | exact Nat.zero_le _, by first | exact Nat.le_of_ble_eq_true rfl | exact Nat.zero_le _⟩ gX12_why_4.2.1 (Keqr ?_)
            refine lv_icmp_ge (tgt := 111) hx hb gX12_why_4.2.2.1 (by decide) (fun _ => ?_) (fun c9 => absurd (by decide) c9)
            refine lv_bipush (v := (-3)) hx hb gX12_why_6.2.2.2.1 (by decide) ?_
            refine toQ hQ0 ?_
            exact RI (v := (-3)) hC hP hD hS [2, 3, 4, 0, 1] (fh15645, th15646, gnm5647, gns5634, gnp5635) rfl rfl (by decide) (⟨trivial, by first | assumption | exact hM⟩) rfl gX12_why_6.2.2.2.2
          · refine lv_bipush (v := (-3)) hx hb gX12_why_3.2.2.2.2.1 (by decide) ?_
            refine toQ hQ0 ?_
            exact RI (v := (-3)) hC hP hD hS [2, 3, 4, 0, 1] (fh15645, th15646, gnm5647, gns5634, gnp5635) rfl rfl (by decide) (⟨trivial, by first | assumption | exact hM⟩) rfl gX12_why_3.2.2.2.2.2.1
      · obtain ⟨v5639, rfl⟩ : ∃ z9, jv_5638 = z9 + 1 := ⟨jv_5638 - 1, by omega⟩
        refine eqi (x1 := nI v5639) (nI_sub1 v5639) ?_
        obtain ⟨L5639, hL5639, eL5639, hLN5639⟩ := VI.line hV (v := v5639) (by omega)
        refine lv_istore_n (lv' := [(3, .int (nI v5639)), (0, .ref h0), (1, .int (nI je)), (2, .int (nI jt))]) hx hb gX12_why_1.2.2.2.2.2.2.2.1 rfl hl (by decide) rfl (fun ls hl => ?_)
        refine lv_aload_n hx hb gX12_why_1.2.2.2.2.2.2.2.2.1 rfl (lv_at1 hl) ?_
        refine gf_X12_29 hC rfl hK hP 0 rfl rfl gX12_why_1.2.2.2.2.2.2.2.2.2 ?_
        refine lv_iload_n hx hb gX12_why_2.1 rfl (lv_at3 hl) ?_
        refine aldN hC hK hP 3 rfl (k := jt) (by omega) (Nat.le_of_ble_eq_true rfl) (v := gns5634 jt) rfl gX12_why_2.2.1 ?_
        refine lv_topi (fun x5652 ex5652 => ?_)
        refine lv_ldc hx hb hown (hB _ m_1204) gX12_why_2.2.2.1 ?_
        refine lv_icmp_eq (tgt := 58) hx hb gX12_why_2.2.2.2.1 (by decide) (fun c_39_5653 => ?_) (fun c_39_5653 => ?_)
        · refine lv_bipush (v := (-3)) hx hb gX12_why_3.2.2.2.2.1 (by decide) ?_
          refine toQ hQ0 ?_
          exact RI (v := (-3)) hC hP hD hS [0, 1, 2, 3, 4] (fh15631, th15632, gnm5633, gns5634, gnp5635) rfl rfl (by decide) (⟨trivial, by first | assumption | exact hM⟩) rfl gX12_why_3.2.2.2.2.2.1
        · refine lv_aload_n hx hb gX12_why_2.2.2.2.2.1 rfl (lv_at1 hl) ?_
          refine gf_X12_29 hC rfl hK hP 0 rfl rfl gX12_why_2.2.2.2.2.2.1 ?_
          refine lv_iload_n hx hb gX12_why_2.2.2.2.2.2.2.1 rfl (lv_at3 hl) ?_
          refine aldN hC hK hP 3 rfl (k := jt) (by omega) (Nat.le_of_ble_eq_true rfl) (v := gns5634 jt) rfl gX12_why_2.2.2.2.2.2.2.2.1 ?_
          refine lv_topi (fun x5654 ex5654 => ?_)
          refine lv_aload_n hx hb gX12_why_2.2.2.2.2.2.2.2.2.1 rfl (lv_at1 hl) ?_
          refine lv_iload_n hx hb gX12_why_2.2.2.2.2.2.2.2.2.2 rfl (lv_at2 hl) ?_
          refine lv_iload_n hx hb gX12_why_3.1 rfl (lv_at3 hl) ?_
          refine lv_iconst (v := 1) hx hb gX12_why_3.2.1 (by decide) ?_
          refine iV (wr := [(ns, iA G 8 gns5634), (np, iA G 100 gnp5635)]) hC hK hl hP hD hS hA (m_knewBy l G h0 je (nI jt) 1 nw nk mhasKept nt mtaped nr mrowMany mroundOf mroundFrom 0 nm fh15631 th15632 ns mfrom mto msort misFault mdeep mcoded mlines nl nc nF np ntr nb mbestCost nso nsi nit nsh nsf nss nrc mtraced mdealer mnumber mwhose msize misParted fnw gnm5633 (by omega) (hN) (w5636)) si_X12_176 [0, 1, 2] [3, 4] sm_0_1_2 fm_0_1_2 nd_0_1_2 sm_3_4 nd_3_4 dj_0_1_2__3_4 rfl rfl rfl rfl rfl (Nat.le_of_ble_eq_true rfl) rm_9_5_7 ⟨Nat.le_of_ble_eq_true rfl, Nat.le_of_ble_eq_true rfl⟩ gX12_why_3.2.2.1 (fun r5655 => Ktu3 fun fh15657 th15658 gnm5659 => ?_)
          intro H locs hr5655 hP hD hS
          try dsimp only at hr5655
          refine Kpdr (ws := [(ns, iA G 8 gns5634), (np, iA G 100 gnp5635), (h0, oX12 nw nk mhasKept nt mtaped nr mrowMany mroundOf mroundFrom 0 nm fh15657 th15658 ns mfrom mto msort misFault mdeep mcoded mlines nl nc nF np ntr nb mbestCost nso nsi nit nsh nsf nss nrc mtraced mdealer mnumber mwhose msize misParted), (nw, iA G 1662 fnw), (nm, iA G 36 gnm5659)]) hP hD (fun hP hD => ?_)
          obtain ⟨hr5655, w5660⟩ := hr5655
          refine lv_icmp_ne (tgt := 61) hx hb gX12_why_3.2.2.2.1 (by decide) (fun c_55_5661 => ?_) (fun c_55_5661 => ?_)
          · refine lv_iconst (v := 0) hx hb gX12_why_3.2.2.2.2.2.2.1 (by decide) ?_
            refine lv_istore (lv' := [(4, .int 0), (3, .int (nI v5639)), (0, .ref h0), (1, .int (nI je)), (2, .int (nI jt))]) hx hb gX12_why_3.2.2.2.2.2.2.2.1 hl (by decide) rfl (fun ls hl => ?_)
            have keyQ : ∀ (nQ kQ : Nat) (vR : Nat → Int32) (H : Heap) (locs : List Loc) (ls : Array Slot), kQ + nQ = L5639 → va_PD G A [(ns, iA G 8 gns5634), (np, iA G 100 vR), (h0, oX12 nw nk mhasKept nt mtaped nr mrowMany mroundOf mroundFrom 0 nm fh15657 th15658 ns mfrom mto msort misFault mdeep mcoded mlines nl nc nF np ntr nb mbestCost nso nsi nit nsh nsf nss nrc mtraced mdealer mnumber mwhose msize misParted), (nw, iA G 1662 fnw), (nm, iA G 36 gnm5659)] H → va_S A s.heap H locs → lv_has ls 5 [(4, .int (nI kQ)), (3, .int (nI v5639)), (0, .ref h0), (1, .int (nI je)), (2, .int (nI jt))] → W p l e (RM 9 0 0) s m ([.ref h0, .int (nI je), .int (nI jt)] : List Value).toArray below meth c H locs 0 0 Q0 (F0 m 64 ls []) := by
              intro nQ
              induction nQ with
              | zero =>
                intro kQ vR H locs ls hkQ hPD hS hl
                refine Kan2 hPD (fun hP hD => ?_)
                obtain rfl : L5639 = kQ := by omega
                have hl : lv_has ls 5 [(4, .int (nI L5639)), (3, .int (nI v5639)), (0, .ref h0), (1, .int (nI je)), (2, .int (nI jt))] := hl
                refine lv_iload hx hb gX12_why_3.2.2.2.2.2.2.2.2.1 (lv_at0 hl) ?_
                refine lv_aload_n hx hb gX12_why_3.2.2.2.2.2.2.2.2.2 rfl (lv_at2 hl) ?_
                refine lv_iload_n hx hb gX12_why_4.1 rfl (lv_at1 hl) ?_
                refine pV hC hK hl hP hD (m_lines l G L5639 h0 v5639 nw nk mhasKept nt mtaped nr mrowMany mroundOf mroundFrom 0 nm fh15657 th15658 ns mfrom mto msort misFault mdeep mcoded mlines nl nc nF np ntr nb mbestCost nso nsi nit nsh nsf nss nrc mtraced mdealer mnumber mwhose msize misParted fnw (by omega) (eL5639)) si_X12_183 [2, 3] sm_2_3 fm_2_3 nd_2_3 rfl rfl rfl rfl rfl (Nat.le_of_ble_eq_true rfl) rm_9_1_2 ⟨by first | exact Nat.le_of_ble_eq_true rfl | exact Nat.zero_le _, by first | exact Nat.le_of_ble_eq_true rfl | exact Nat.zero_le _⟩ gX12_why_4.2.1 (Keqr ?_)
                refine lv_icmp_ge (tgt := 111) hx hb gX12_why_4.2.2.1 (by decide) (fun _ => ?_) (fun c9 => absurd (Int32.le_refl _) c9)
                refine lv_bipush (v := (-3)) hx hb gX12_why_6.2.2.2.1 (by decide) ?_
                refine toQ hQ0 ?_
                exact RI (v := (-3)) hC hP hD hS [2, 3, 4, 0, 1] (fh15657, th15658, gnm5659, gns5634, vR) rfl rfl (by decide) (⟨trivial, by first | assumption | exact hM⟩) rfl gX12_why_6.2.2.2.2
              | succ nQ ihQ =>
                intro kQ vR H locs ls hkQ hPD hS hl
                refine Kan2 hPD (fun hP hD => ?_)
                refine lv_iload hx hb gX12_why_3.2.2.2.2.2.2.2.2.1 (lv_at0 hl) ?_
                refine lv_aload_n hx hb gX12_why_3.2.2.2.2.2.2.2.2.2 rfl (lv_at2 hl) ?_
                refine lv_iload_n hx hb gX12_why_4.1 rfl (lv_at1 hl) ?_
                refine pV hC hK hl hP hD (m_lines l G L5639 h0 v5639 nw nk mhasKept nt mtaped nr mrowMany mroundOf mroundFrom 0 nm fh15657 th15658 ns mfrom mto msort misFault mdeep mcoded mlines nl nc nF np ntr nb mbestCost nso nsi nit nsh nsf nss nrc mtraced mdealer mnumber mwhose msize misParted fnw (by omega) (eL5639)) si_X12_183 [2, 3] sm_2_3 fm_2_3 nd_2_3 rfl rfl rfl rfl rfl (Nat.le_of_ble_eq_true rfl) rm_9_1_2 ⟨by first | exact Nat.le_of_ble_eq_true rfl | exact Nat.zero_le _, by first | exact Nat.le_of_ble_eq_true rfl | exact Nat.zero_le _⟩ gX12_why_4.2.1 (Keqr ?_)
                refine lv_icmp_ge (tgt := 111) hx hb gX12_why_4.2.2.1 (by decide) (fun c9 => absurd c9 (nI_ge (a := kQ) (b := L5639) (by omega) (by omega))) (fun _ => ?_)
                have hln5666 := hLN5639 kQ (by omega)
                refine lv_aload_n hx hb gX12_why_4.2.2.2.1 rfl (lv_at2 hl) ?_
                refine lv_iload_n hx hb gX12_why_4.2.2.2.2.1 rfl (lv_at1 hl) ?_
                refine lv_iload hx hb gX12_why_4.2.2.2.2.2.1 (lv_at0 hl) ?_
                refine pV hC hK hl hP hD (m_thingOf l G h0 v5639 kQ nw nk mhasKept nt mtaped nr mrowMany mroundOf mroundFrom 0 nm fh15657 th15658 ns mfrom mto msort misFault mdeep mcoded mlines nl nc nF np ntr nb mbestCost nso nsi nit nsh nsf nss nrc mtraced mdealer mnumber mwhose msize misParted fnw (by omega) (by omega) (hln5666)) si_X12_190 [2, 3] sm_2_3 fm_2_3 nd_2_3 rfl rfl rfl rfl rfl (Nat.le_of_ble_eq_true rfl) rm_9_2_4 ⟨by first | exact Nat.le_of_ble_eq_true rfl | exact Nat.zero_le _, by first | exact Nat.le_of_ble_eq_true rfl | exact Nat.zero_le _⟩ gX12_why_4.2.2.2.2.2.2.1 (fun r5667 hr5667 => ?_)
                obtain ⟨t9_5668, hpx5668, rfl⟩ := hr5667
                try dsimp only at hpx5668
                refine lv_iload_n hx hb gX12_why_4.2.2.2.2.2.2.2.1 rfl (lv_at4 hl) ?_
                refine lv_icmp_ne (tgt := 105) hx hb gX12_why_4.2.2.2.2.2.2.2.2.1 (by decide) (fun c_82_5669 => ?_) (fun c_82_5669 => ?_)
                · refine lv_iinc (v := nI (kQ + 1)) (lv' := [(4, .int (nI (kQ + 1))), (3, .int (nI v5639)), (0, .ref h0), (1, .int (nI je)), (2, .int (nI jt))]) hx hb gX12_why_6.2.1 hl (k := 0) rfl (nI_1 _) (by decide) rfl (fun ls hl => ?_)
                  refine lv_goto (tgt := 64) hx hb gX12_why_6.2.2.1 (by decide) ?_
                  exact ihQ (kQ + 1) vR _ _ _ (by omega) (And.intro hP hD) hS (lv_sub hl [0, 1, 2, 3, 4] rfl)
                · refine lv_aload_n hx hb gX12_why_4.2.2.2.2.2.2.2.2.2 rfl (lv_at2 hl) ?_
                  refine lv_iload_n hx hb gX12_why_5.1 rfl (lv_at1 hl) ?_
                  refine lv_iload hx hb gX12_why_5.2.1 (lv_at0 hl) ?_
                  refine lv_iload_n hx hb gX12_why_5.2.2.1 rfl (lv_at3 hl) ?_
                  refine iV (wr := [(nm, iA G 36 gnm5659)]) hC hK hl hP hD hS hA (m_fromLine l G h0 v5639 kQ je nw nk mhasKept nt mtaped nr mrowMany mroundOf mroundFrom 0 nm fh15657 th15658 ns mfrom mto msort misFault mdeep mcoded mlines nl nc nF np ntr nb mbestCost nso nsi nit nsh nsf nss nrc mtraced mdealer mnumber mwhose msize misParted fnw gns5634 vR (by omega) (by omega) (hln5666) (by omega) (hN)) si_X12_186 [2, 3, 0, 1] [4] sm_2_3_0_1 fm_2_3_0_1 nd_2_3_0_1 sm_4 nd_4 dj_2_3_0_1__4 rfl rfl rfl rfl rfl (Nat.le_of_ble_eq_true rfl) rm_9_6_6 ⟨Nat.le_of_ble_eq_true rfl, Nat.le_of_ble_eq_true rfl⟩ gX12_why_5.2.2.2.1 (fun r5670 gnp5672 H locs hr5670 hP hD hS => ?_)
                  try dsimp only at hr5670
                  refine Kpdr (ws := [(nm, iA G 36 gnm5659), (h0, oX12 nw nk mhasKept nt mtaped nr mrowMany mroundOf mroundFrom 0 nm fh15657 th15658 ns mfrom mto msort misFault mdeep mcoded mlines nl nc nF np ntr nb mbestCost nso nsi nit nsh nsf nss nrc mtraced mdealer mnumber mwhose msize misParted), (nw, iA G 1662 fnw), (ns, iA G 8 gns5634), (np, iA G 100 gnp5672)]) hP hD (fun hP hD => ?_)
                  refine lv_aload_n hx hb gX12_why_5.2.2.2.2.1 rfl (lv_at2 hl) ?_
                  refine gf_X12_29 hC rfl hK hP 1 rfl rfl gX12_why_5.2.2.2.2.2.1 ?_
                  refine lv_iload_n hx hb gX12_why_5.2.2.2.2.2.2.1 rfl (lv_at4 hl) ?_
                  refine aldN hC hK hP 3 rfl (k := jt) (by omega) (Nat.le_of_ble_eq_true rfl) (v := gns5634 jt) rfl gX12_why_5.2.2.2.2.2.2.2.1 ?_
                  refine lv_topi (fun x5673 ex5673 => ?_)
                  refine lv_icmp_ne (tgt := 105) hx hb gX12_why_5.2.2.2.2.2.2.2.2.1 (by decide) (fun c_99_5674 => ?_) (fun c_99_5674 => ?_)
                  · refine lv_iinc (v := nI (kQ + 1)) (lv' := [(4, .int (nI (kQ + 1))), (3, .int (nI v5639)), (0, .ref h0), (1, .int (nI je)), (2, .int (nI jt))]) hx hb gX12_why_6.2.1 hl (k := 0) rfl (nI_1 _) (by decide) rfl (fun ls hl => ?_)
                    refine lv_goto (tgt := 64) hx hb gX12_why_6.2.2.1 (by decide) ?_
                    refine Kpds (ws' := [(ns, iA G 8 gns5634), (np, iA G 100 gnp5672), (h0, oX12 nw nk mhasKept nt mtaped nr mrowMany mroundOf mroundFrom 0 nm fh15657 th15658 ns mfrom mto msort misFault mdeep mcoded mlines nl nc nF np ntr nb mbestCost nso nsi nit nsh nsf nss nrc mtraced mdealer mnumber mwhose msize misParted), (nw, iA G 1662 fnw), (nm, iA G 36 gnm5659)]) hP hD [3, 4, 1, 2, 0] fm_3_4_1_2_0 nd_3_4_1_2_0 sm_3_4_1_2_0 (fun hP hD => ?_)
                    exact ihQ (kQ + 1) gnp5672 _ _ _ (by omega) (And.intro hP hD) hS (lv_sub hl [0, 1, 2, 3, 4] rfl)
                  · refine lv_iload hx hb gX12_why_5.2.2.2.2.2.2.2.2.2 (lv_at0 hl) ?_
                    refine toQ hQ0 ?_
                    exact RI (v := nI kQ) hC hP hD hS [1, 2, 0, 3, 4] (fh15657, th15658, gnm5659, gns5634, gnp5672) rfl rfl (by decide) (⟨trivial, by first | assumption | exact hM⟩) rfl gX12_why_6.1
            exact keyQ L5639 0 gnp5635 _ _ _ (by omega) (And.intro hP hD) hS (lv_sub hl [0, 1, 2, 3, 4] rfl)
          · refine lv_bipush (v := (-3)) hx hb gX12_why_3.2.2.2.2.1 (by decide) ?_
            refine toQ hQ0 ?_
            exact RI (v := (-3)) hC hP hD hS [2, 3, 4, 0, 1] (fh15657, th15658, gnm5659, gns5634, gnp5635) rfl rfl (by decide) (⟨trivial, by first | assumption | exact hM⟩) rfl gX12_why_3.2.2.2.2.2.1
    · refine lv_if_ne (tgt := 21) hx hb gX12_why_0.2.2.2.2.2.2.2.2.2 (by decide) (fun c9 => absurd (by decide) c9) (fun _ => ?_)
      refine lv_iconst (v := (-1)) hx hb gX12_why_1.1 (by decide) ?_
      refine toQ hQ0 ?_
      exact RI (v := (-1)) hC hP hD hS [0, 1, 2, 3, 4] (mfromHour, mtoHour, fnm, fns, fnp) rfl rfl (by decide) (⟨trivial, by first | assumption | exact hM⟩) rfl gX12_why_1.2.1
  · refine lv_if_eq (tgt := 19) hx hb gX12_why_0.2.2.2.2.1 (by decide) (fun _ => ?_) (fun c9 => absurd (by decide) c9)
    refine lv_iconst (v := (-1)) hx hb gX12_why_1.1 (by decide) ?_
    refine toQ hQ0 ?_
    exact RI (v := (-1)) hC hP hD hS [0, 1, 2, 3, 4] (mfromHour, mtoHour, fnm, fns, fnp) rfl rfl (by decide) (⟨trivial, by first | assumption | exact hM⟩) rfl gX12_why_1.2.1
def K_m_stands (l : Launch) (G : GG) (h0 : Nat) (jf : Nat) (nw : Nat) (nk : Nat) (mhasKept : Int32) (nt : Nat) (mtaped : Int32) (nr : Nat) (mrowMany : Int32) (mroundOf : Int32) (mroundFrom : Int32) (mouts : Int32) (nm : Nat) (mfromHour : Int32) (mtoHour : Int32) (ns : Nat) (mfrom : Int32) (mto : Int32) (msort : Int32) (misFault : Int32) (mdeep : Int32) (mcoded : Int32) (mlines : Int32) (nl : Nat) (nc : Nat) (nF : Nat) (np : Nat) (ntr : Nat) (nb : Nat) (mbestCost : Int32) (nso : Nat) (nsi : Nat) (nit : Nat) (nsh : Nat) (nsf : Nat) (nss : Nat) (nrc : Nat) (mtraced : Int32) (mdealer : Int32) (mnumber : Int32) (mwhose : Int32) (msize : Int32) (misParted : Int32) (fnw : Nat → Int32) (fnm : Nat → Int32) (fns : Nat → Int32) (fnp : Nat → Int32) : Prop := MI l G yX12_stands cX12_stands 3 (some .boolean) 9 0 0 [.ref h0, .int (nI jf)] [(h0, oX12 nw nk mhasKept nt mtaped nr mrowMany mroundOf mroundFrom mouts nm mfromHour mtoHour ns mfrom mto msort misFault mdeep mcoded mlines nl nc nF np ntr nb mbestCost nso nsi nit nsh nsf nss nrc mtraced mdealer mnumber mwhose msize misParted), (nw, iA G 1662 fnw), (nm, iA G 36 fnm), (ns, iA G 8 fns), (np, iA G 100 fnp)] (fun (r : Int32) (u : Int32 × Int32 × (Nat → Int32) × (Nat → Int32) × (Nat → Int32)) => (r = 1 ∨ r = 0) ∧ (MB u.2.2.1)) (fun u : Int32 × Int32 × (Nat → Int32) × (Nat → Int32) × (Nat → Int32) => [(h0, oX12 nw nk mhasKept nt mtaped nr mrowMany mroundOf mroundFrom mouts nm u.1 u.2.1 ns mfrom mto msort misFault mdeep mcoded mlines nl nc nF np ntr nb mbestCost nso nsi nit nsh nsf nss nrc mtraced mdealer mnumber mwhose msize misParted), (nw, iA G 1662 fnw), (nm, iA G 36 u.2.2.1), (ns, iA G 8 u.2.2.2.1), (np, iA G 100 u.2.2.2.2)])
set_option maxHeartbeats 4000000 in
set_option maxRecDepth 100000 in
theorem m_stands (l : Launch) (G : GG) (h0 : Nat) (jf : Nat) (nw : Nat) (nk : Nat) (mhasKept : Int32) (nt : Nat) (mtaped : Int32) (nr : Nat) (mrowMany : Int32) (mroundOf : Int32) (mroundFrom : Int32) (mouts : Int32) (nm : Nat) (mfromHour : Int32) (mtoHour : Int32) (ns : Nat) (mfrom : Int32) (mto : Int32) (msort : Int32) (misFault : Int32) (mdeep : Int32) (mcoded : Int32) (mlines : Int32) (nl : Nat) (nc : Nat) (nF : Nat) (np : Nat) (ntr : Nat) (nb : Nat) (mbestCost : Int32) (nso : Nat) (nsi : Nat) (nit : Nat) (nsh : Nat) (nsf : Nat) (nss : Nat) (nrc : Nat) (mtraced : Int32) (mdealer : Int32) (mnumber : Int32) (mwhose : Int32) (msize : Int32) (misParted : Int32) (fnw : Nat → Int32) (fnm : Nat → Int32) (fns : Nat → Int32) (fnp : Nat → Int32) (hjf : jf < 12) (hN : NI fnw) (hV : VI fnw) (hM : MB fnm) : K_m_stands l G h0 jf nw nk mhasKept nt mtaped nr mrowMany mroundOf mroundFrom mouts nm mfromHour mtoHour ns mfrom mto msort misFault mdeep mcoded mlines nl nc nF np ntr nb mbestCost nso nsi nit nsh nsf nss nrc mtraced mdealer mnumber mwhose msize misParted fnw fnm fns fnp := by
  refine MI.start (by decide +kernel) (Nat.le_of_ble_eq_true rfl) ?_
  intro p e s m below meth c A ls hC hK hP hD hS hA hl
  refine absQ (fun Q0 hQ0 => ?_)
  have hl : lv_has ls 3 [(0, .ref h0), (1, .int (nI jf))] := hl
  refine Kan8 hC (fun hx hb hr hml hB hown hlocks hnm => ?_)
  refine lv_sipush (v := 1552) hx hb gX12_stands_0.1 (by decide) ?_
  refine lv_iconst (v := 4) hx hb gX12_stands_0.2.1 (by decide) ?_
  refine lv_iload_n hx hb gX12_stands_0.2.2.1 rfl (lv_at1 hl) ?_
  refine lv_imul hx hb gX12_stands_0.2.2.2.1 ?_
  refine eqi (x1 := nI (4 * jf)) (nI_mul 4 jf) ?_
  refine lv_iadd hx hb gX12_stands_0.2.2.2.2.1 ?_
  refine eqi (x1 := nI (1552 + 4 * jf)) (nI_add 1552 (4 * jf)) ?_
  refine lv_istore_n (lv' := [(2, .int (nI (1552 + 4 * jf))), (0, .ref h0), (1, .int (nI jf))]) hx hb gX12_stands_0.2.2.2.2.2.1 rfl hl (by decide) rfl (fun ls hl => ?_)
  refine lv_aload_n hx hb gX12_stands_0.2.2.2.2.2.2.1 rfl (lv_at1 hl) ?_
  refine gf_X12_9 hC rfl hK hP 0 rfl rfl gX12_stands_0.2.2.2.2.2.2.2.1 ?_
  refine lv_iload_n hx hb gX12_stands_0.2.2.2.2.2.2.2.2.1 rfl (lv_at0 hl) ?_
  refine lv_iconst (v := 2) hx hb gX12_stands_0.2.2.2.2.2.2.2.2.2 (by decide) ?_
  refine lv_iadd hx hb gX12_stands_1.1 ?_
  refine eqi (x1 := nI (1552 + 4 * jf + 2)) (nI_add (1552 + 4 * jf) 2) ?_
  refine aldN hC hK hP 1 rfl (k := (1552 + 4 * jf + 2)) (by omega) (Nat.le_of_ble_eq_true rfl) (v := fnw (1552 + 4 * jf + 2)) rfl gX12_stands_1.2.1 ?_
  refine lv_topi (fun x5675 ex5675 => ?_)
  refine lv_aload_n hx hb gX12_stands_1.2.2.1 rfl (lv_at1 hl) ?_
  refine lv_aload_n hx hb gX12_stands_1.2.2.2.1 rfl (lv_at1 hl) ?_
  refine gf_X12_9 hC rfl hK hP 0 rfl rfl gX12_stands_1.2.2.2.2.1 ?_
  refine lv_iload_n hx hb gX12_stands_1.2.2.2.2.2.1 rfl (lv_at0 hl) ?_
  refine lv_iconst (v := 0) hx hb gX12_stands_1.2.2.2.2.2.2.1 (by decide) ?_
  refine lv_iadd hx hb gX12_stands_1.2.2.2.2.2.2.2.1 ?_
  refine eqi (x1 := nI (1552 + 4 * jf + 0)) (nI_add (1552 + 4 * jf) 0) ?_
  obtain ⟨fi5676, hfi5676, efi5676⟩ := NI.nat hN (i := (1552 + 4 * jf + 0)) (B := 9) (bnd_fin0 (s := jf) (by omega) (by omega)) (by decide)
  refine aldN hC hK hP 1 rfl (k := (1552 + 4 * jf + 0)) (by omega) (Nat.le_of_ble_eq_true rfl) (v := nI fi5676) (efi5676) gX12_stands_1.2.2.2.2.2.2.2.2.1 ?_
  refine lv_aload_n hx hb gX12_stands_1.2.2.2.2.2.2.2.2.2 rfl (lv_at1 hl) ?_
  refine gf_X12_9 hC rfl hK hP 0 rfl rfl gX12_stands_2.1 ?_
  refine lv_iload_n hx hb gX12_stands_2.2.1 rfl (lv_at0 hl) ?_
  refine lv_iconst (v := 1) hx hb gX12_stands_2.2.2.1 (by decide) ?_
  refine lv_iadd hx hb gX12_stands_2.2.2.2.1 ?_
  refine eqi (x1 := nI (1552 + 4 * jf + 1)) (nI_add (1552 + 4 * jf) 1) ?_
  obtain ⟨fi5677, hfi5677, efi5677⟩ := NI.nat hN (i := (1552 + 4 * jf + 1)) (B := 7) (bnd_fin1 (s := jf) (by omega) (by omega)) (by decide)
  refine aldN hC hK hP 1 rfl (k := (1552 + 4 * jf + 1)) (by omega) (Nat.le_of_ble_eq_true rfl) (v := nI fi5677) (efi5677) gX12_stands_2.2.2.2.2.1 ?_
  refine lv_aload_n hx hb gX12_stands_2.2.2.2.2.2.1 rfl (lv_at1 hl) ?_
  refine gf_X12_9 hC rfl hK hP 0 rfl rfl gX12_stands_2.2.2.2.2.2.2.1 ?_
  refine lv_iload_n hx hb gX12_stands_2.2.2.2.2.2.2.2.1 rfl (lv_at0 hl) ?_
  refine lv_iconst (v := 3) hx hb gX12_stands_2.2.2.2.2.2.2.2.2.1 (by decide) ?_
  refine lv_iadd hx hb gX12_stands_2.2.2.2.2.2.2.2.2.2 ?_
  refine eqi (x1 := nI (1552 + 4 * jf + 3)) (nI_add (1552 + 4 * jf) 3) ?_
  refine aldN hC hK hP 1 rfl (k := (1552 + 4 * jf + 3)) (by omega) (Nat.le_of_ble_eq_true rfl) (v := fnw (1552 + 4 * jf + 3)) rfl gX12_stands_3.1 ?_
  refine lv_topi (fun x5678 ex5678 => ?_)
  refine iV (wr := []) hC hK hl hP hD hS hA (m_fromOf l G h0 fi5676 fi5677 x5678 nw nk mhasKept nt mtaped nr mrowMany mroundOf mroundFrom mouts nm mfromHour mtoHour ns mfrom mto msort misFault mdeep mcoded mlines nl nc nF np ntr nb mbestCost nso nsi nit nsh nsf nss nrc mtraced mdealer mnumber mwhose msize misParted fnw fnm fns fnp (by omega) (by omega) (hN) (hV) (hM)) si_X12_203 [0, 1, 2, 3, 4] [] sm_0_1_2_3_4 fm_0_1_2_3_4 nd_0_1_2_3_4 rfl rfl (by decide) rfl rfl rfl rfl rfl (Nat.le_of_ble_eq_true rfl) rm_9_8_4 ⟨Nat.le_of_ble_eq_true rfl, Nat.le_of_ble_eq_true rfl⟩ gX12_stands_3.2.1 (fun r5679 => Ktu5 fun fh15681 th15682 gnm5683 gns5684 gnp5685 => ?_)
  intro H locs hr5679 hP hD hS
  try dsimp only at hr5679
  refine Kpdr (ws := [(h0, oX12 nw nk mhasKept nt mtaped nr mrowMany mroundOf mroundFrom mouts nm fh15681 th15682 ns mfrom mto msort misFault mdeep mcoded mlines nl nc nF np ntr nb mbestCost nso nsi nit nsh nsf nss nrc mtraced mdealer mnumber mwhose msize misParted), (nw, iA G 1662 fnw), (nm, iA G 36 gnm5683), (ns, iA G 8 gns5684), (np, iA G 100 gnp5685)]) hP hD (fun hP hD => ?_)
  obtain ⟨hr5679, w5686⟩ := hr5679
  refine lv_icmp_lt (tgt := 51) hx hb gX12_stands_3.2.2.1 (by decide) (fun c_44_5687 => ?_) (fun c_44_5687 => ?_)
  · refine lv_iconst (v := 0) hx hb gX12_stands_3.2.2.2.2.2.1 (by decide) ?_
    refine toQ hQ0 ?_
    exact RI (v := 0) hC hP hD hS [0, 1, 2, 3, 4] (fh15681, th15682, gnm5683, gns5684, gnp5685) rfl rfl (by decide) (⟨Or.inr (rfl), by first | assumption | exact hM⟩) (by decide +kernel) gX12_stands_3.2.2.2.2.2.2
  · refine lv_iconst (v := 1) hx hb gX12_stands_3.2.2.2.1 (by decide) ?_
    refine lv_goto (tgt := 52) hx hb gX12_stands_3.2.2.2.2.1 (by decide) ?_
    refine toQ hQ0 ?_
    exact RI (v := 1) hC hP hD hS [0, 1, 2, 3, 4] (fh15681, th15682, gnm5683, gns5684, gnp5685) rfl rfl (by decide) (⟨Or.inl (rfl), by first | assumption | exact hM⟩) (by decide +kernel) gX12_stands_3.2.2.2.2.2.2
def K_m_leans (l : Launch) (G : GG) (h0 : Nat) (jf : Nat) (nw : Nat) (nk : Nat) (mhasKept : Int32) (nt : Nat) (mtaped : Int32) (nr : Nat) (mrowMany : Int32) (mroundOf : Int32) (mroundFrom : Int32) (nm : Nat) (mfromHour : Int32) (mtoHour : Int32) (ns : Nat) (mfrom : Int32) (mto : Int32) (msort : Int32) (misFault : Int32) (mdeep : Int32) (mcoded : Int32) (mlines : Int32) (nl : Nat) (nc : Nat) (nF : Nat) (np : Nat) (ntr : Nat) (nb : Nat) (mbestCost : Int32) (nso : Nat) (nsi : Nat) (nit : Nat) (nsh : Nat) (nsf : Nat) (nss : Nat) (nrc : Nat) (mtraced : Int32) (mdealer : Int32) (mnumber : Int32) (mwhose : Int32) (msize : Int32) (misParted : Int32) (fnw : Nat → Int32) (fnm : Nat → Int32) (fns : Nat → Int32) (fnp : Nat → Int32) : Prop := MI l G yX12_leans cX12_leans 5 (some .int) 10 0 0 [.ref h0, .int (nI jf)] [(h0, oX12 nw nk mhasKept nt mtaped nr mrowMany mroundOf mroundFrom 0 nm mfromHour mtoHour ns mfrom mto msort misFault mdeep mcoded mlines nl nc nF np ntr nb mbestCost nso nsi nit nsh nsf nss nrc mtraced mdealer mnumber mwhose msize misParted), (nw, iA G 1662 fnw), (nm, iA G 36 fnm), (ns, iA G 8 fns), (np, iA G 100 fnp)] (fun (r : Int32) (u : Int32 × Int32 × (Nat → Int32) × (Nat → Int32) × (Nat → Int32)) => (True) ∧ (MB u.2.2.1)) (fun u : Int32 × Int32 × (Nat → Int32) × (Nat → Int32) × (Nat → Int32) => [(h0, oX12 nw nk mhasKept nt mtaped nr mrowMany mroundOf mroundFrom 0 nm u.1 u.2.1 ns mfrom mto msort misFault mdeep mcoded mlines nl nc nF np ntr nb mbestCost nso nsi nit nsh nsf nss nrc mtraced mdealer mnumber mwhose msize misParted), (nw, iA G 1662 fnw), (nm, iA G 36 u.2.2.1), (ns, iA G 8 u.2.2.2.1), (np, iA G 100 u.2.2.2.2)])
set_option maxHeartbeats 4000000 in
set_option maxRecDepth 100000 in
theorem m_leans (l : Launch) (G : GG) (h0 : Nat) (jf : Nat) (nw : Nat) (nk : Nat) (mhasKept : Int32) (nt : Nat) (mtaped : Int32) (nr : Nat) (mrowMany : Int32) (mroundOf : Int32) (mroundFrom : Int32) (nm : Nat) (mfromHour : Int32) (mtoHour : Int32) (ns : Nat) (mfrom : Int32) (mto : Int32) (msort : Int32) (misFault : Int32) (mdeep : Int32) (mcoded : Int32) (mlines : Int32) (nl : Nat) (nc : Nat) (nF : Nat) (np : Nat) (ntr : Nat) (nb : Nat) (mbestCost : Int32) (nso : Nat) (nsi : Nat) (nit : Nat) (nsh : Nat) (nsf : Nat) (nss : Nat) (nrc : Nat) (mtraced : Int32) (mdealer : Int32) (mnumber : Int32) (mwhose : Int32) (msize : Int32) (misParted : Int32) (fnw : Nat → Int32) (fnm : Nat → Int32) (fns : Nat → Int32) (fnp : Nat → Int32) (hjf : jf < 12) (hN : NI fnw) (hV : VI fnw) (hM : MB fnm) : K_m_leans l G h0 jf nw nk mhasKept nt mtaped nr mrowMany mroundOf mroundFrom nm mfromHour mtoHour ns mfrom mto msort misFault mdeep mcoded mlines nl nc nF np ntr nb mbestCost nso nsi nit nsh nsf nss nrc mtraced mdealer mnumber mwhose msize misParted fnw fnm fns fnp := by
  refine MI.start (by decide +kernel) (Nat.le_of_ble_eq_true rfl) ?_
  intro p e s m below meth c A ls hC hK hP hD hS hA hl
  refine absQ (fun Q0 hQ0 => ?_)
  have hl : lv_has ls 5 [(0, .ref h0), (1, .int (nI jf))] := hl
  refine Kan8 hC (fun hx hb hr hml hB hown hlocks hnm => ?_)
  obtain ⟨kq, hkq, ekq⟩ := NI.nat hN (i := 5) (B := 12) (by decide +kernel) (by decide)
  refine lv_aload_n hx hb gX12_leans_0.1 rfl (lv_at0 hl) ?_
  refine lv_iload_n hx hb gX12_leans_0.2.1 rfl (lv_at1 hl) ?_
  refine iV (wr := []) hC hK hl hP hD hS hA (m_stands l G h0 jf nw nk mhasKept nt mtaped nr mrowMany mroundOf mroundFrom 0 nm mfromHour mtoHour ns mfrom mto msort misFault mdeep mcoded mlines nl nc nF np ntr nb mbestCost nso nsi nit nsh nsf nss nrc mtraced mdealer mnumber mwhose msize misParted fnw fnm fns fnp (hjf) (hN) (hV) (hM)) si_X12_305 [0, 1, 2, 3, 4] [] sm_0_1_2_3_4 fm_0_1_2_3_4 nd_0_1_2_3_4 rfl rfl (by decide) rfl rfl rfl rfl rfl (Nat.le_of_ble_eq_true rfl) rm_10_9_3 ⟨Nat.le_of_ble_eq_true rfl, Nat.le_of_ble_eq_true rfl⟩ gX12_leans_0.2.2.1 (fun r5688 => Ktu5 fun fh15690 th15691 gnm5692 gns5693 gnp5694 => ?_)
  intro H locs hr5688 hP hD hS
  try dsimp only at hr5688
  refine Kpdr (ws := [(h0, oX12 nw nk mhasKept nt mtaped nr mrowMany mroundOf mroundFrom 0 nm fh15690 th15691 ns mfrom mto msort misFault mdeep mcoded mlines nl nc nF np ntr nb mbestCost nso nsi nit nsh nsf nss nrc mtraced mdealer mnumber mwhose msize misParted), (nw, iA G 1662 fnw), (nm, iA G 36 gnm5692), (ns, iA G 8 gns5693), (np, iA G 100 gnp5694)]) hP hD (fun hP hD => ?_)
  obtain ⟨hr5688, w5695⟩ := hr5688
  rcases hr5688 with rfl | rfl
  · refine lv_if_eq (tgt := 15) hx hb gX12_leans_0.2.2.2.1 (by decide) (fun c9 => absurd c9 (by decide)) (fun _ => ?_)
    refine lv_aload_n hx hb gX12_leans_0.2.2.2.2.1 rfl (lv_at0 hl) ?_
    refine pV hC hK hl hP hD (m_inView l G h0 nw nk mhasKept nt mtaped nr mrowMany mroundOf mroundFrom 0 nm fh15690 th15691 ns mfrom mto msort misFault mdeep mcoded mlines nl nc nF np ntr nb mbestCost nso nsi nit nsh nsf nss nrc mtraced mdealer mnumber mwhose msize misParted fnw (hN)) si_X12_107 [0, 1] sm_0_1 fm_0_1 nd_0_1 rfl rfl rfl rfl rfl (Nat.le_of_ble_eq_true rfl) rm_10_3_3 ⟨by first | exact Nat.le_of_ble_eq_true rfl | exact Nat.zero_le _, by first | exact Nat.le_of_ble_eq_true rfl | exact Nat.zero_le _⟩ gX12_leans_0.2.2.2.2.2.1 (fun r5697 hr5697 => ?_)
    refine lv_goto (tgt := 16) hx hb gX12_leans_0.2.2.2.2.2.2.1 (by decide) ?_
    refine lv_istore_n (lv' := [(2, .int r5697), (0, .ref h0), (1, .int (nI jf))]) hx hb gX12_leans_0.2.2.2.2.2.2.2.2.1 rfl hl (by decide) rfl (fun ls hl => ?_)
    refine lv_iconst (v := 0) hx hb gX12_leans_0.2.2.2.2.2.2.2.2.2 (by decide) ?_
    refine lv_istore_n (lv' := [(3, .int 0), (2, .int r5697), (0, .ref h0), (1, .int (nI jf))]) hx hb gX12_leans_1.1 rfl hl (by decide) rfl (fun ls hl => ?_)
    refine lv_iconst (v := 0) hx hb gX12_leans_1.2.1 (by decide) ?_
    refine lv_istore (lv' := [(4, .int 0), (3, .int 0), (2, .int r5697), (0, .ref h0), (1, .int (nI jf))]) hx hb gX12_leans_1.2.2.1 hl (by decide) rfl (fun ls hl => ?_)
    have keyP : ∀ (nP kP : Nat) (se : Int32) (vfh : Int32) (vth : Int32) (vA : Nat → Int32) (vS : Nat → Int32) (vR : Nat → Int32) (H : Heap) (locs : List Loc) (ls : Array Slot), kP + nP = kq → (MB vA) → va_PD G A [(h0, oX12 nw nk mhasKept nt mtaped nr mrowMany mroundOf mroundFrom 0 nm vfh vth ns mfrom mto msort misFault mdeep mcoded mlines nl nc nF np ntr nb mbestCost nso nsi nit nsh nsf nss nrc mtraced mdealer mnumber mwhose msize misParted), (nw, iA G 1662 fnw), (nm, iA G 36 vA), (ns, iA G 8 vS), (np, iA G 100 vR)] H → va_S A s.heap H locs → lv_has ls 5 [(4, .int (nI kP)), (3, .int se), (2, .int r5697), (0, .ref h0), (1, .int (nI jf))] → W p l e (RM 10 0 0) s m ([.ref h0, .int (nI jf)] : List Value).toArray below meth c H locs 0 0 Q0 (F0 m 22 ls []) := by
      intro nP
      induction nP with
      | zero =>
        intro kP se vfh vth vA vS vR H locs ls hkP hvA hPD hS hl
        refine Kan2 hPD (fun hP hD => ?_)
        obtain rfl : kq = kP := by omega
        have hl : lv_has ls 5 [(4, .int (nI kq)), (3, .int se), (2, .int r5697), (0, .ref h0), (1, .int (nI jf))] := hl
        refine lv_iload hx hb gX12_leans_1.2.2.2.1 (lv_at0 hl) ?_
        refine lv_aload_n hx hb gX12_leans_1.2.2.2.2.1 rfl (lv_at3 hl) ?_
        refine gf_X12_9 hC rfl hK hP 0 rfl rfl gX12_leans_1.2.2.2.2.2.1 ?_
        refine lv_iconst (v := 5) hx hb gX12_leans_1.2.2.2.2.2.2.1 (by decide) ?_
        refine ald hC hK hP 1 rfl (vin (by decide +kernel)) (k := 5) (by decide +kernel) (v := nI kq) (ekq) gX12_leans_1.2.2.2.2.2.2.2.1 ?_
        refine lv_icmp_ge (tgt := 80) hx hb gX12_leans_1.2.2.2.2.2.2.2.2.1 (by decide) (fun _ => ?_) (fun c9 => absurd (Int32.le_refl _) c9)
        refine lv_iload_n hx hb gX12_leans_4.2.2.2.2.2.1 rfl (lv_at1 hl) ?_
        refine toQ hQ0 ?_
        exact RI (v := se) hC hP hD hS [0, 1, 2, 3, 4] (vfh, vth, vA, vS, vR) rfl rfl (by decide) (⟨trivial, by first | assumption | exact hM⟩) rfl gX12_leans_4.2.2.2.2.2.2
      | succ nP ihP =>
        intro kP se vfh vth vA vS vR H locs ls hkP hvA hPD hS hl
        refine Kan2 hPD (fun hP hD => ?_)
        refine lv_iload hx hb gX12_leans_1.2.2.2.1 (lv_at0 hl) ?_
        refine lv_aload_n hx hb gX12_leans_1.2.2.2.2.1 rfl (lv_at3 hl) ?_
        refine gf_X12_9 hC rfl hK hP 0 rfl rfl gX12_leans_1.2.2.2.2.2.1 ?_
        refine lv_iconst (v := 5) hx hb gX12_leans_1.2.2.2.2.2.2.1 (by decide) ?_
        refine ald hC hK hP 1 rfl (vin (by decide +kernel)) (k := 5) (by decide +kernel) (v := nI kq) (ekq) gX12_leans_1.2.2.2.2.2.2.2.1 ?_
        refine lv_icmp_ge (tgt := 80) hx hb gX12_leans_1.2.2.2.2.2.2.2.2.1 (by decide) (fun c9 => absurd c9 (nI_ge (a := kP) (b := kq) (by omega) (by omega))) (fun _ => ?_)
        refine lv_iload_n hx hb gX12_leans_1.2.2.2.2.2.2.2.2.2 rfl (lv_at2 hl) ?_
        refine lv_iload hx hb gX12_leans_2.1 (lv_at0 hl) ?_
        refine pS hC hK hl (m_has l G r5697 (nI kP)) si_X12_99 rfl rfl (Nat.le_of_ble_eq_true rfl) rm_10_1_2 ⟨by first | exact Nat.le_of_ble_eq_true rfl | exact Nat.zero_le _, by first | exact Nat.le_of_ble_eq_true rfl | exact Nat.zero_le _⟩ gX12_leans_2.2.1 (Kors (Keqa fun a5699 => ?_) (Keqa fun a5699 => ?_))
        · refine lv_if_eq (tgt := 74) hx hb gX12_leans_2.2.2.1 (by decide) (fun c9 => absurd c9 (by decide)) (fun _ => ?_)
          refine lv_aload_n hx hb gX12_leans_2.2.2.2.1 rfl (lv_at3 hl) ?_
          refine lv_iconst (v := 1) hx hb gX12_leans_2.2.2.2.2.1 (by decide) ?_
          refine lv_iload hx hb gX12_leans_2.2.2.2.2.2.1 (lv_at0 hl) ?_
          refine lv_ishl hx hb gX12_leans_2.2.2.2.2.2.2.1 ?_
          refine pf_X12_96 hC rfl hK hP hD hS 0 (ws' := [(h0, oX12 nw nk mhasKept nt mtaped nr mrowMany mroundOf mroundFrom (1 <<< ((nI kP) &&& 31)) nm vfh vth ns mfrom mto msort misFault mdeep mcoded mlines nl nc nF np ntr nb mbestCost nso nsi nit nsh nsf nss nrc mtraced mdealer mnumber mwhose msize misParted), (nw, iA G 1662 fnw), (nm, iA G 36 vA), (ns, iA G 8 vS), (np, iA G 100 vR)]) rfl (Nat.le_of_ble_eq_true rfl) rfl rfl rfl gX12_leans_2.2.2.2.2.2.2.2.1 (fun H locs hP hD hS => ?_)
          refine lv_iload_n hx hb gX12_leans_2.2.2.2.2.2.2.2.2.1 rfl (lv_at1 hl) ?_
          refine lv_aload_n hx hb gX12_leans_2.2.2.2.2.2.2.2.2.2 rfl (lv_at3 hl) ?_
          refine lv_iload_n hx hb gX12_leans_3.1 rfl (lv_at4 hl) ?_
          refine iV (wr := []) hC hK hl hP hD hS hA (m_stands l G h0 jf nw nk mhasKept nt mtaped nr mrowMany mroundOf mroundFrom (1 <<< ((nI kP) &&& 31)) nm vfh vth ns mfrom mto msort misFault mdeep mcoded mlines nl nc nF np ntr nb mbestCost nso nsi nit nsh nsf nss nrc mtraced mdealer mnumber mwhose msize misParted fnw vA vS vR (hjf) (hN) (hV) (hvA)) si_X12_305 [0, 1, 2, 3, 4] [] sm_0_1_2_3_4 fm_0_1_2_3_4 nd_0_1_2_3_4 rfl rfl (by decide) rfl rfl rfl rfl rfl (Nat.le_of_ble_eq_true rfl) rm_10_9_3 ⟨Nat.le_of_ble_eq_true rfl, Nat.le_of_ble_eq_true rfl⟩ gX12_leans_3.2.1 (fun r5700 => Ktu5 fun fh15702 th15703 gnm5704 gns5705 gnp5706 => ?_)
          intro H locs hr5700 hP hD hS
          try dsimp only at hr5700
          refine Kpdr (ws := [(h0, oX12 nw nk mhasKept nt mtaped nr mrowMany mroundOf mroundFrom (1 <<< ((nI kP) &&& 31)) nm fh15702 th15703 ns mfrom mto msort misFault mdeep mcoded mlines nl nc nF np ntr nb mbestCost nso nsi nit nsh nsf nss nrc mtraced mdealer mnumber mwhose msize misParted), (nw, iA G 1662 fnw), (nm, iA G 36 gnm5704), (ns, iA G 8 gns5705), (np, iA G 100 gnp5706)]) hP hD (fun hP hD => ?_)
          obtain ⟨hr5700, w5707⟩ := hr5700
          rcases hr5700 with rfl | rfl
          · refine lv_if_eq (tgt := 63) hx hb gX12_leans_3.2.2.1 (by decide) (fun c9 => absurd c9 (by decide)) (fun _ => ?_)
            refine lv_iconst (v := 0) hx hb gX12_leans_3.2.2.2.1 (by decide) ?_
            refine lv_goto (tgt := 67) hx hb gX12_leans_3.2.2.2.2.1 (by decide) ?_
            refine lv_ior hx hb gX12_leans_3.2.2.2.2.2.2.2.2.1 ?_
            refine lv_istore_n (lv' := [(3, .int (se ||| 0)), (4, .int (nI kP)), (2, .int r5697), (0, .ref h0), (1, .int (nI jf))]) hx hb gX12_leans_3.2.2.2.2.2.2.2.2.2 rfl hl (by decide) rfl (fun ls hl => ?_)
            refine lv_aload_n hx hb gX12_leans_4.1 rfl (lv_at3 hl) ?_
            refine lv_iconst (v := 0) hx hb gX12_leans_4.2.1 (by decide) ?_
            refine pf_X12_96 hC rfl hK hP hD hS 0 (ws' := [(h0, oX12 nw nk mhasKept nt mtaped nr mrowMany mroundOf mroundFrom 0 nm fh15702 th15703 ns mfrom mto msort misFault mdeep mcoded mlines nl nc nF np ntr nb mbestCost nso nsi nit nsh nsf nss nrc mtraced mdealer mnumber mwhose msize misParted), (nw, iA G 1662 fnw), (nm, iA G 36 gnm5704), (ns, iA G 8 gns5705), (np, iA G 100 gnp5706)]) rfl (Nat.le_of_ble_eq_true rfl) rfl rfl rfl gX12_leans_4.2.2.1 (fun H locs hP hD hS => ?_)
            refine lv_iinc (v := nI (kP + 1)) (lv' := [(4, .int (nI (kP + 1))), (3, .int (se ||| 0)), (2, .int r5697), (0, .ref h0), (1, .int (nI jf))]) hx hb gX12_leans_4.2.2.2.1 hl (k := 1) rfl (nI_1 _) (by decide) rfl (fun ls hl => ?_)
            refine lv_goto (tgt := 22) hx hb gX12_leans_4.2.2.2.2.1 (by decide) ?_
            exact ihP (kP + 1) (se ||| 0) fh15702 th15703 gnm5704 gns5705 gnp5706 _ _ _ (by omega) (by first | assumption | exact Or.inl rfl | exact Or.inr rfl) (And.intro hP hD) hS (lv_sub hl [0, 1, 2, 3, 4] rfl)
          · refine lv_if_eq (tgt := 63) hx hb gX12_leans_3.2.2.1 (by decide) (fun _ => ?_) (fun c9 => absurd (by decide) c9)
            refine lv_iconst (v := 1) hx hb gX12_leans_3.2.2.2.2.2.1 (by decide) ?_
            refine lv_iload hx hb gX12_leans_3.2.2.2.2.2.2.1 (lv_at0 hl) ?_
            refine lv_ishl hx hb gX12_leans_3.2.2.2.2.2.2.2.1 ?_
            refine lv_ior hx hb gX12_leans_3.2.2.2.2.2.2.2.2.1 ?_
            refine lv_istore_n (lv' := [(3, .int (se ||| (1 <<< ((nI kP) &&& 31)))), (4, .int (nI kP)), (2, .int r5697), (0, .ref h0), (1, .int (nI jf))]) hx hb gX12_leans_3.2.2.2.2.2.2.2.2.2 rfl hl (by decide) rfl (fun ls hl => ?_)
            refine lv_aload_n hx hb gX12_leans_4.1 rfl (lv_at3 hl) ?_
            refine lv_iconst (v := 0) hx hb gX12_leans_4.2.1 (by decide) ?_
            refine pf_X12_96 hC rfl hK hP hD hS 0 (ws' := [(h0, oX12 nw nk mhasKept nt mtaped nr mrowMany mroundOf mroundFrom 0 nm fh15702 th15703 ns mfrom mto msort misFault mdeep mcoded mlines nl nc nF np ntr nb mbestCost nso nsi nit nsh nsf nss nrc mtraced mdealer mnumber mwhose msize misParted), (nw, iA G 1662 fnw), (nm, iA G 36 gnm5704), (ns, iA G 8 gns5705), (np, iA G 100 gnp5706)]) rfl (Nat.le_of_ble_eq_true rfl) rfl rfl rfl gX12_leans_4.2.2.1 (fun H locs hP hD hS => ?_)
            refine lv_iinc (v := nI (kP + 1)) (lv' := [(4, .int (nI (kP + 1))), (3, .int (se ||| (1 <<< ((nI kP) &&& 31)))), (2, .int r5697), (0, .ref h0), (1, .int (nI jf))]) hx hb gX12_leans_4.2.2.2.1 hl (k := 1) rfl (nI_1 _) (by decide) rfl (fun ls hl => ?_)
            refine lv_goto (tgt := 22) hx hb gX12_leans_4.2.2.2.2.1 (by decide) ?_
            exact ihP (kP + 1) (se ||| (1 <<< ((nI kP) &&& 31))) fh15702 th15703 gnm5704 gns5705 gnp5706 _ _ _ (by omega) (by first | assumption | exact Or.inl rfl | exact Or.inr rfl) (And.intro hP hD) hS (lv_sub hl [0, 1, 2, 3, 4] rfl)
        · refine lv_if_eq (tgt := 74) hx hb gX12_leans_2.2.2.1 (by decide) (fun _ => ?_) (fun c9 => absurd (by decide) c9)
          refine lv_iinc (v := nI (kP + 1)) (lv' := [(4, .int (nI (kP + 1))), (3, .int se), (2, .int r5697), (0, .ref h0), (1, .int (nI jf))]) hx hb gX12_leans_4.2.2.2.1 hl (k := 0) rfl (nI_1 _) (by decide) rfl (fun ls hl => ?_)
          refine lv_goto (tgt := 22) hx hb gX12_leans_4.2.2.2.2.1 (by decide) ?_
          exact ihP (kP + 1) se vfh vth vA vS vR _ _ _ (by omega) (by first | assumption | exact Or.inl rfl | exact Or.inr rfl) (And.intro hP hD) hS (lv_sub hl [0, 1, 2, 3, 4] rfl)
    exact keyP kq 0 0 fh15690 th15691 gnm5692 gns5693 gnp5694 _ _ _ (by omega) (by first | assumption | exact Or.inl rfl | exact Or.inr rfl) (And.intro hP hD) hS (lv_sub hl [0, 1, 2, 3, 4] rfl)
  · refine lv_if_eq (tgt := 15) hx hb gX12_leans_0.2.2.2.1 (by decide) (fun _ => ?_) (fun c9 => absurd (by decide) c9)
    refine lv_iconst (v := 0) hx hb gX12_leans_0.2.2.2.2.2.2.2.1 (by decide) ?_
    refine lv_istore_n (lv' := [(2, .int 0), (0, .ref h0), (1, .int (nI jf))]) hx hb gX12_leans_0.2.2.2.2.2.2.2.2.1 rfl hl (by decide) rfl (fun ls hl => ?_)
    refine lv_iconst (v := 0) hx hb gX12_leans_0.2.2.2.2.2.2.2.2.2 (by decide) ?_
    refine lv_istore_n (lv' := [(3, .int 0), (2, .int 0), (0, .ref h0), (1, .int (nI jf))]) hx hb gX12_leans_1.1 rfl hl (by decide) rfl (fun ls hl => ?_)
    refine lv_iconst (v := 0) hx hb gX12_leans_1.2.1 (by decide) ?_
    refine lv_istore (lv' := [(4, .int 0), (3, .int 0), (2, .int 0), (0, .ref h0), (1, .int (nI jf))]) hx hb gX12_leans_1.2.2.1 hl (by decide) rfl (fun ls hl => ?_)
    have keyP : ∀ (nP kP : Nat) (se : Int32) (vfh : Int32) (vth : Int32) (vA : Nat → Int32) (vS : Nat → Int32) (vR : Nat → Int32) (H : Heap) (locs : List Loc) (ls : Array Slot), kP + nP = kq → (MB vA) → va_PD G A [(h0, oX12 nw nk mhasKept nt mtaped nr mrowMany mroundOf mroundFrom 0 nm vfh vth ns mfrom mto msort misFault mdeep mcoded mlines nl nc nF np ntr nb mbestCost nso nsi nit nsh nsf nss nrc mtraced mdealer mnumber mwhose msize misParted), (nw, iA G 1662 fnw), (nm, iA G 36 vA), (ns, iA G 8 vS), (np, iA G 100 vR)] H → va_S A s.heap H locs → lv_has ls 5 [(4, .int (nI kP)), (3, .int se), (2, .int 0), (0, .ref h0), (1, .int (nI jf))] → W p l e (RM 10 0 0) s m ([.ref h0, .int (nI jf)] : List Value).toArray below meth c H locs 0 0 Q0 (F0 m 22 ls []) := by
      intro nP
      induction nP with
      | zero =>
        intro kP se vfh vth vA vS vR H locs ls hkP hvA hPD hS hl
        refine Kan2 hPD (fun hP hD => ?_)
        obtain rfl : kq = kP := by omega
        have hl : lv_has ls 5 [(4, .int (nI kq)), (3, .int se), (2, .int 0), (0, .ref h0), (1, .int (nI jf))] := hl
        refine lv_iload hx hb gX12_leans_1.2.2.2.1 (lv_at0 hl) ?_
        refine lv_aload_n hx hb gX12_leans_1.2.2.2.2.1 rfl (lv_at3 hl) ?_
        refine gf_X12_9 hC rfl hK hP 0 rfl rfl gX12_leans_1.2.2.2.2.2.1 ?_
        refine lv_iconst (v := 5) hx hb gX12_leans_1.2.2.2.2.2.2.1 (by decide) ?_
        refine ald hC hK hP 1 rfl (vin (by decide +kernel)) (k := 5) (by decide +kernel) (v := nI kq) (ekq) gX12_leans_1.2.2.2.2.2.2.2.1 ?_
        refine lv_icmp_ge (tgt := 80) hx hb gX12_leans_1.2.2.2.2.2.2.2.2.1 (by decide) (fun _ => ?_) (fun c9 => absurd (Int32.le_refl _) c9)
        refine lv_iload_n hx hb gX12_leans_4.2.2.2.2.2.1 rfl (lv_at1 hl) ?_
        refine toQ hQ0 ?_
        exact RI (v := se) hC hP hD hS [0, 1, 2, 3, 4] (vfh, vth, vA, vS, vR) rfl rfl (by decide) (⟨trivial, by first | assumption | exact hM⟩) rfl gX12_leans_4.2.2.2.2.2.2
      | succ nP ihP =>
        intro kP se vfh vth vA vS vR H locs ls hkP hvA hPD hS hl
        refine Kan2 hPD (fun hP hD => ?_)
        refine lv_iload hx hb gX12_leans_1.2.2.2.1 (lv_at0 hl) ?_
        refine lv_aload_n hx hb gX12_leans_1.2.2.2.2.1 rfl (lv_at3 hl) ?_
        refine gf_X12_9 hC rfl hK hP 0 rfl rfl gX12_leans_1.2.2.2.2.2.1 ?_
        refine lv_iconst (v := 5) hx hb gX12_leans_1.2.2.2.2.2.2.1 (by decide) ?_
        refine ald hC hK hP 1 rfl (vin (by decide +kernel)) (k := 5) (by decide +kernel) (v := nI kq) (ekq) gX12_leans_1.2.2.2.2.2.2.2.1 ?_
        refine lv_icmp_ge (tgt := 80) hx hb gX12_leans_1.2.2.2.2.2.2.2.2.1 (by decide) (fun c9 => absurd c9 (nI_ge (a := kP) (b := kq) (by omega) (by omega))) (fun _ => ?_)
        refine lv_iload_n hx hb gX12_leans_1.2.2.2.2.2.2.2.2.2 rfl (lv_at2 hl) ?_
        refine lv_iload hx hb gX12_leans_2.1 (lv_at0 hl) ?_
        refine pS hC hK hl (m_has l G 0 (nI kP)) si_X12_99 rfl rfl (Nat.le_of_ble_eq_true rfl) rm_10_1_2 ⟨by first | exact Nat.le_of_ble_eq_true rfl | exact Nat.zero_le _, by first | exact Nat.le_of_ble_eq_true rfl | exact Nat.zero_le _⟩ gX12_leans_2.2.1 (Kors (Keqa fun a5710 => ?_) (Keqa fun a5710 => ?_))
        · refine lv_if_eq (tgt := 74) hx hb gX12_leans_2.2.2.1 (by decide) (fun c9 => absurd c9 (by decide)) (fun _ => ?_)
          refine lv_aload_n hx hb gX12_leans_2.2.2.2.1 rfl (lv_at3 hl) ?_
          refine lv_iconst (v := 1) hx hb gX12_leans_2.2.2.2.2.1 (by decide) ?_
          refine lv_iload hx hb gX12_leans_2.2.2.2.2.2.1 (lv_at0 hl) ?_
          refine lv_ishl hx hb gX12_leans_2.2.2.2.2.2.2.1 ?_
          refine pf_X12_96 hC rfl hK hP hD hS 0 (ws' := [(h0, oX12 nw nk mhasKept nt mtaped nr mrowMany mroundOf mroundFrom (1 <<< ((nI kP) &&& 31)) nm vfh vth ns mfrom mto msort misFault mdeep mcoded mlines nl nc nF np ntr nb mbestCost nso nsi nit nsh nsf nss nrc mtraced mdealer mnumber mwhose msize misParted), (nw, iA G 1662 fnw), (nm, iA G 36 vA), (ns, iA G 8 vS), (np, iA G 100 vR)]) rfl (Nat.le_of_ble_eq_true rfl) rfl rfl rfl gX12_leans_2.2.2.2.2.2.2.2.1 (fun H locs hP hD hS => ?_)
          refine lv_iload_n hx hb gX12_leans_2.2.2.2.2.2.2.2.2.1 rfl (lv_at1 hl) ?_
          refine lv_aload_n hx hb gX12_leans_2.2.2.2.2.2.2.2.2.2 rfl (lv_at3 hl) ?_
          refine lv_iload_n hx hb gX12_leans_3.1 rfl (lv_at4 hl) ?_
          refine iV (wr := []) hC hK hl hP hD hS hA (m_stands l G h0 jf nw nk mhasKept nt mtaped nr mrowMany mroundOf mroundFrom (1 <<< ((nI kP) &&& 31)) nm vfh vth ns mfrom mto msort misFault mdeep mcoded mlines nl nc nF np ntr nb mbestCost nso nsi nit nsh nsf nss nrc mtraced mdealer mnumber mwhose msize misParted fnw vA vS vR (hjf) (hN) (hV) (hvA)) si_X12_305 [0, 1, 2, 3, 4] [] sm_0_1_2_3_4 fm_0_1_2_3_4 nd_0_1_2_3_4 rfl rfl (by decide) rfl rfl rfl rfl rfl (Nat.le_of_ble_eq_true rfl) rm_10_9_3 ⟨Nat.le_of_ble_eq_true rfl, Nat.le_of_ble_eq_true rfl⟩ gX12_leans_3.2.1 (fun r5711 => Ktu5 fun fh15713 th15714 gnm5715 gns5716 gnp5717 => ?_)
          intro H locs hr5711 hP hD hS
          try dsimp only at hr5711
          refine Kpdr (ws := [(h0, oX12 nw nk mhasKept nt mtaped nr mrowMany mroundOf mroundFrom (1 <<< ((nI kP) &&& 31)) nm fh15713 th15714 ns mfrom mto msort misFault mdeep mcoded mlines nl nc nF np ntr nb mbestCost nso nsi nit nsh nsf nss nrc mtraced mdealer mnumber mwhose msize misParted), (nw, iA G 1662 fnw), (nm, iA G 36 gnm5715), (ns, iA G 8 gns5716), (np, iA G 100 gnp5717)]) hP hD (fun hP hD => ?_)
          obtain ⟨hr5711, w5718⟩ := hr5711
          rcases hr5711 with rfl | rfl
          · refine lv_if_eq (tgt := 63) hx hb gX12_leans_3.2.2.1 (by decide) (fun c9 => absurd c9 (by decide)) (fun _ => ?_)
            refine lv_iconst (v := 0) hx hb gX12_leans_3.2.2.2.1 (by decide) ?_
            refine lv_goto (tgt := 67) hx hb gX12_leans_3.2.2.2.2.1 (by decide) ?_
            refine lv_ior hx hb gX12_leans_3.2.2.2.2.2.2.2.2.1 ?_
            refine lv_istore_n (lv' := [(3, .int (se ||| 0)), (4, .int (nI kP)), (2, .int 0), (0, .ref h0), (1, .int (nI jf))]) hx hb gX12_leans_3.2.2.2.2.2.2.2.2.2 rfl hl (by decide) rfl (fun ls hl => ?_)
            refine lv_aload_n hx hb gX12_leans_4.1 rfl (lv_at3 hl) ?_
            refine lv_iconst (v := 0) hx hb gX12_leans_4.2.1 (by decide) ?_
            refine pf_X12_96 hC rfl hK hP hD hS 0 (ws' := [(h0, oX12 nw nk mhasKept nt mtaped nr mrowMany mroundOf mroundFrom 0 nm fh15713 th15714 ns mfrom mto msort misFault mdeep mcoded mlines nl nc nF np ntr nb mbestCost nso nsi nit nsh nsf nss nrc mtraced mdealer mnumber mwhose msize misParted), (nw, iA G 1662 fnw), (nm, iA G 36 gnm5715), (ns, iA G 8 gns5716), (np, iA G 100 gnp5717)]) rfl (Nat.le_of_ble_eq_true rfl) rfl rfl rfl gX12_leans_4.2.2.1 (fun H locs hP hD hS => ?_)
            refine lv_iinc (v := nI (kP + 1)) (lv' := [(4, .int (nI (kP + 1))), (3, .int (se ||| 0)), (2, .int 0), (0, .ref h0), (1, .int (nI jf))]) hx hb gX12_leans_4.2.2.2.1 hl (k := 1) rfl (nI_1 _) (by decide) rfl (fun ls hl => ?_)
            refine lv_goto (tgt := 22) hx hb gX12_leans_4.2.2.2.2.1 (by decide) ?_
            exact ihP (kP + 1) (se ||| 0) fh15713 th15714 gnm5715 gns5716 gnp5717 _ _ _ (by omega) (by first | assumption | exact Or.inl rfl | exact Or.inr rfl) (And.intro hP hD) hS (lv_sub hl [0, 1, 2, 3, 4] rfl)
          · refine lv_if_eq (tgt := 63) hx hb gX12_leans_3.2.2.1 (by decide) (fun _ => ?_) (fun c9 => absurd (by decide) c9)
            refine lv_iconst (v := 1) hx hb gX12_leans_3.2.2.2.2.2.1 (by decide) ?_
            refine lv_iload hx hb gX12_leans_3.2.2.2.2.2.2.1 (lv_at0 hl) ?_
            refine lv_ishl hx hb gX12_leans_3.2.2.2.2.2.2.2.1 ?_
            refine lv_ior hx hb gX12_leans_3.2.2.2.2.2.2.2.2.1 ?_
            refine lv_istore_n (lv' := [(3, .int (se ||| (1 <<< ((nI kP) &&& 31)))), (4, .int (nI kP)), (2, .int 0), (0, .ref h0), (1, .int (nI jf))]) hx hb gX12_leans_3.2.2.2.2.2.2.2.2.2 rfl hl (by decide) rfl (fun ls hl => ?_)
            refine lv_aload_n hx hb gX12_leans_4.1 rfl (lv_at3 hl) ?_
            refine lv_iconst (v := 0) hx hb gX12_leans_4.2.1 (by decide) ?_
            refine pf_X12_96 hC rfl hK hP hD hS 0 (ws' := [(h0, oX12 nw nk mhasKept nt mtaped nr mrowMany mroundOf mroundFrom 0 nm fh15713 th15714 ns mfrom mto msort misFault mdeep mcoded mlines nl nc nF np ntr nb mbestCost nso nsi nit nsh nsf nss nrc mtraced mdealer mnumber mwhose msize misParted), (nw, iA G 1662 fnw), (nm, iA G 36 gnm5715), (ns, iA G 8 gns5716), (np, iA G 100 gnp5717)]) rfl (Nat.le_of_ble_eq_true rfl) rfl rfl rfl gX12_leans_4.2.2.1 (fun H locs hP hD hS => ?_)
            refine lv_iinc (v := nI (kP + 1)) (lv' := [(4, .int (nI (kP + 1))), (3, .int (se ||| (1 <<< ((nI kP) &&& 31)))), (2, .int 0), (0, .ref h0), (1, .int (nI jf))]) hx hb gX12_leans_4.2.2.2.1 hl (k := 1) rfl (nI_1 _) (by decide) rfl (fun ls hl => ?_)
            refine lv_goto (tgt := 22) hx hb gX12_leans_4.2.2.2.2.1 (by decide) ?_
            exact ihP (kP + 1) (se ||| (1 <<< ((nI kP) &&& 31))) fh15713 th15714 gnm5715 gns5716 gnp5717 _ _ _ (by omega) (by first | assumption | exact Or.inl rfl | exact Or.inr rfl) (And.intro hP hD) hS (lv_sub hl [0, 1, 2, 3, 4] rfl)
        · refine lv_if_eq (tgt := 74) hx hb gX12_leans_2.2.2.1 (by decide) (fun _ => ?_) (fun c9 => absurd (by decide) c9)
          refine lv_iinc (v := nI (kP + 1)) (lv' := [(4, .int (nI (kP + 1))), (3, .int se), (2, .int 0), (0, .ref h0), (1, .int (nI jf))]) hx hb gX12_leans_4.2.2.2.1 hl (k := 0) rfl (nI_1 _) (by decide) rfl (fun ls hl => ?_)
          refine lv_goto (tgt := 22) hx hb gX12_leans_4.2.2.2.2.1 (by decide) ?_
          exact ihP (kP + 1) se vfh vth vA vS vR _ _ _ (by omega) (by first | assumption | exact Or.inl rfl | exact Or.inr rfl) (And.intro hP hD) hS (lv_sub hl [0, 1, 2, 3, 4] rfl)
    exact keyP kq 0 0 fh15690 th15691 gnm5692 gns5693 gnp5694 _ _ _ (by omega) (by first | assumption | exact Or.inl rfl | exact Or.inr rfl) (And.intro hP hD) hS (lv_sub hl [0, 1, 2, 3, 4] rfl)
def K_m_asked (l : Launch) (G : GG) (h0 : Nat) (je : Nat) (so9 : Int32) (nw : Nat) (nk : Nat) (mhasKept : Int32) (nt : Nat) (mtaped : Int32) (nr : Nat) (mrowMany : Int32) (mroundOf : Int32) (mroundFrom : Int32) (mouts : Int32) (nm : Nat) (mfromHour : Int32) (mtoHour : Int32) (ns : Nat) (mfrom : Int32) (mto : Int32) (msort : Int32) (misFault : Int32) (mdeep : Int32) (mcoded : Int32) (mlines : Int32) (nl : Nat) (nc : Nat) (nF : Nat) (np : Nat) (ntr : Nat) (nb : Nat) (mbestCost : Int32) (nso : Nat) (nsi : Nat) (nit : Nat) (nsh : Nat) (nsf : Nat) (nss : Nat) (nrc : Nat) (mtraced : Int32) (mdealer : Int32) (mnumber : Int32) (mwhose : Int32) (msize : Int32) (misParted : Int32) (fnw : Nat → Int32) (fnp : Nat → Int32) : Prop := MI l G yX12_asked cX12_asked 7 (some .int) 7 0 0 [.ref h0, .int (nI je), .int so9] [(h0, oX12 nw nk mhasKept nt mtaped nr mrowMany mroundOf mroundFrom mouts nm mfromHour mtoHour ns mfrom mto msort misFault mdeep mcoded mlines nl nc nF np ntr nb mbestCost nso nsi nit nsh nsf nss nrc mtraced mdealer mnumber mwhose msize misParted), (nw, iA G 1662 fnw), (np, iA G 100 fnp)] (fun (r : Int32) (u : (Nat → Int32)) => (True)) (fun u : (Nat → Int32) => [(h0, oX12 nw nk mhasKept nt mtaped nr mrowMany mroundOf mroundFrom mouts nm mfromHour mtoHour ns mfrom mto msort misFault mdeep mcoded mlines nl nc nF np ntr nb mbestCost nso nsi nit nsh nsf nss nrc mtraced mdealer mnumber mwhose msize misParted), (nw, iA G 1662 fnw), (np, iA G 100 u)])
set_option maxHeartbeats 4000000 in
set_option maxRecDepth 100000 in
theorem m_asked (l : Launch) (G : GG) (h0 : Nat) (je : Nat) (so9 : Int32) (nw : Nat) (nk : Nat) (mhasKept : Int32) (nt : Nat) (mtaped : Int32) (nr : Nat) (mrowMany : Int32) (mroundOf : Int32) (mroundFrom : Int32) (mouts : Int32) (nm : Nat) (mfromHour : Int32) (mtoHour : Int32) (ns : Nat) (mfrom : Int32) (mto : Int32) (msort : Int32) (misFault : Int32) (mdeep : Int32) (mcoded : Int32) (mlines : Int32) (nl : Nat) (nc : Nat) (nF : Nat) (np : Nat) (ntr : Nat) (nb : Nat) (mbestCost : Int32) (nso : Nat) (nsi : Nat) (nit : Nat) (nsh : Nat) (nsf : Nat) (nss : Nat) (nrc : Nat) (mtraced : Int32) (mdealer : Int32) (mnumber : Int32) (mwhose : Int32) (msize : Int32) (misParted : Int32) (fnw : Nat → Int32) (fnp : Nat → Int32) (hje : je < 10) (hN : NI fnw) (hV : VI fnw) : K_m_asked l G h0 je so9 nw nk mhasKept nt mtaped nr mrowMany mroundOf mroundFrom mouts nm mfromHour mtoHour ns mfrom mto msort misFault mdeep mcoded mlines nl nc nF np ntr nb mbestCost nso nsi nit nsh nsf nss nrc mtraced mdealer mnumber mwhose msize misParted fnw fnp := by
  refine MI.start (by decide +kernel) (Nat.le_of_ble_eq_true rfl) ?_
  intro p e s m below meth c A ls hC hK hP hD hS hA hl
  refine absQ (fun Q0 hQ0 => ?_)
  have hl : lv_has ls 7 [(0, .ref h0), (1, .int (nI je)), (2, .int so9)] := hl
  refine Kan8 hC (fun hx hb hr hml hB hown hlocks hnm => ?_)
  refine lv_aload_n hx hb gX12_asked_0.1 rfl (lv_at0 hl) ?_
  refine pV hC hK hl hP hD (m_rules l G h0 nw nk mhasKept nt mtaped nr mrowMany mroundOf mroundFrom mouts nm mfromHour mtoHour ns mfrom mto msort misFault mdeep mcoded mlines nl nc nF np ntr nb mbestCost nso nsi nit nsh nsf nss nrc mtraced mdealer mnumber mwhose msize misParted fnw (hN)) si_X12_180 [0, 1] sm_0_1 fm_0_1 nd_0_1 rfl rfl rfl rfl rfl (Nat.le_of_ble_eq_true rfl) rm_7_2_3 ⟨by first | exact Nat.le_of_ble_eq_true rfl | exact Nat.zero_le _, by first | exact Nat.le_of_ble_eq_true rfl | exact Nat.zero_le _⟩ gX12_asked_0.2.1 (fun r5720 hr5720 => ?_)
  obtain ⟨jv_5721, hpx5721, rfl⟩ := hr5720
  try dsimp only at hpx5721
  rcases Nat.eq_zero_or_pos jv_5721 with rfl | hpv5722
  · refine eqi (x1 := (-1)) (by decide) ?_
    refine lv_istore_n (lv' := [(3, .int (-1)), (0, .ref h0), (1, .int (nI je)), (2, .int so9)]) hx hb gX12_asked_0.2.2.1 rfl hl (by decide) rfl (fun ls hl => ?_)
    refine lv_iconst (v := (-1)) hx hb gX12_asked_0.2.2.2.1 (by decide) ?_
    refine lv_istore (lv' := [(4, .int (-1)), (3, .int (-1)), (0, .ref h0), (1, .int (nI je)), (2, .int so9)]) hx hb gX12_asked_0.2.2.2.2.1 hl (by decide) rfl (fun ls hl => ?_)
    refine lv_iconst (v := 0) hx hb gX12_asked_0.2.2.2.2.2.1 (by decide) ?_
    refine lv_istore (lv' := [(5, .int 0), (4, .int (-1)), (3, .int (-1)), (0, .ref h0), (1, .int (nI je)), (2, .int so9)]) hx hb gX12_asked_0.2.2.2.2.2.2.1 hl (by decide) rfl (fun ls hl => ?_)
    refine lv_iload hx hb gX12_asked_0.2.2.2.2.2.2.2.1 (lv_at0 hl) ?_
    refine lv_aload_n hx hb gX12_asked_0.2.2.2.2.2.2.2.2.1 rfl (lv_at3 hl) ?_
    refine lv_iload_n hx hb gX12_asked_0.2.2.2.2.2.2.2.2.2 rfl (lv_at2 hl) ?_
    refine pV hC hK hl hP hD (m_linesN l G h0 nw nk mhasKept nt mtaped nr mrowMany mroundOf mroundFrom mouts nm mfromHour mtoHour ns mfrom mto msort misFault mdeep mcoded mlines nl nc nF np ntr nb mbestCost nso nsi nit nsh nsf nss nrc mtraced mdealer mnumber mwhose msize misParted fnw) si_X12_183 [0, 1] sm_0_1 fm_0_1 nd_0_1 rfl rfl rfl rfl rfl (Nat.le_of_ble_eq_true rfl) rm_7_1_2 ⟨by first | exact Nat.le_of_ble_eq_true rfl | exact Nat.zero_le _, by first | exact Nat.le_of_ble_eq_true rfl | exact Nat.zero_le _⟩ gX12_asked_1.1 (Keqr ?_)
    refine lv_icmp_ge (tgt := 87) hx hb gX12_asked_1.2.1 (by decide) (fun _ => ?_) (fun c9 => absurd (by decide) c9)
    refine lv_iconst (v := 0) hx hb gX12_asked_4.2.2.2.2.2.2.1 (by decide) ?_
    refine lv_iload hx hb gX12_asked_4.2.2.2.2.2.2.2.1 (lv_at1 hl) ?_
    refine va_mmax hx hb (hml.trans hl.1.symm) hown (hB _ m_1319) (hB _ m_142) (hB _ m_105) (hB _ m_143) (Nat.le_of_ble_eq_true rfl) (Nat.le_of_ble_eq_true rfl) (by first | exact Nat.le_of_ble_eq_true rfl | exact Nat.zero_le _)  (by first | exact Nat.le_of_ble_eq_true rfl | exact Nat.zero_le _) gX12_asked_4.2.2.2.2.2.2.2.2.1 ?_
    refine eqi (x1 := 0) (by decide) ?_
    refine toQ hQ0 ?_
    exact RI (v := 0) hC hP hD hS [0, 1, 2] fnp rfl rfl (by decide) (trivial) rfl gX12_asked_4.2.2.2.2.2.2.2.2.2
  · obtain ⟨v5722, rfl⟩ : ∃ z9, jv_5721 = z9 + 1 := ⟨jv_5721 - 1, by omega⟩
    refine eqi (x1 := nI v5722) (nI_sub1 v5722) ?_
    obtain ⟨L5722, hL5722, eL5722, hLN5722⟩ := VI.line hV (v := v5722) (by omega)
    refine lv_istore_n (lv' := [(3, .int (nI v5722)), (0, .ref h0), (1, .int (nI je)), (2, .int so9)]) hx hb gX12_asked_0.2.2.1 rfl hl (by decide) rfl (fun ls hl => ?_)
    refine lv_iconst (v := (-1)) hx hb gX12_asked_0.2.2.2.1 (by decide) ?_
    refine lv_istore (lv' := [(4, .int (-1)), (3, .int (nI v5722)), (0, .ref h0), (1, .int (nI je)), (2, .int so9)]) hx hb gX12_asked_0.2.2.2.2.1 hl (by decide) rfl (fun ls hl => ?_)
    refine lv_iconst (v := 0) hx hb gX12_asked_0.2.2.2.2.2.1 (by decide) ?_
    refine lv_istore (lv' := [(5, .int 0), (4, .int (-1)), (3, .int (nI v5722)), (0, .ref h0), (1, .int (nI je)), (2, .int so9)]) hx hb gX12_asked_0.2.2.2.2.2.2.1 hl (by decide) rfl (fun ls hl => ?_)
    have keyQ : ∀ (nQ kQ : Nat) (nn : Int32) (vR : Nat → Int32) (H : Heap) (locs : List Loc) (ls : Array Slot), kQ + nQ = L5722 → va_PD G A [(h0, oX12 nw nk mhasKept nt mtaped nr mrowMany mroundOf mroundFrom mouts nm mfromHour mtoHour ns mfrom mto msort misFault mdeep mcoded mlines nl nc nF np ntr nb mbestCost nso nsi nit nsh nsf nss nrc mtraced mdealer mnumber mwhose msize misParted), (nw, iA G 1662 fnw), (np, iA G 100 vR)] H → va_S A s.heap H locs → lv_has ls 7 [(5, .int (nI kQ)), (4, .int nn), (3, .int (nI v5722)), (0, .ref h0), (1, .int (nI je)), (2, .int so9)] → W p l e (RM 7 0 0) s m ([.ref h0, .int (nI je), .int so9] : List Value).toArray below meth c H locs 0 0 Q0 (F0 m 11 ls []) := by
      intro nQ
      induction nQ with
      | zero =>
        intro kQ nn vR H locs ls hkQ hPD hS hl
        refine Kan2 hPD (fun hP hD => ?_)
        obtain rfl : L5722 = kQ := by omega
        have hl : lv_has ls 7 [(5, .int (nI L5722)), (4, .int nn), (3, .int (nI v5722)), (0, .ref h0), (1, .int (nI je)), (2, .int so9)] := hl
        refine lv_iload hx hb gX12_asked_0.2.2.2.2.2.2.2.1 (lv_at0 hl) ?_
        refine lv_aload_n hx hb gX12_asked_0.2.2.2.2.2.2.2.2.1 rfl (lv_at3 hl) ?_
        refine lv_iload_n hx hb gX12_asked_0.2.2.2.2.2.2.2.2.2 rfl (lv_at2 hl) ?_
        refine pV hC hK hl hP hD (m_lines l G L5722 h0 v5722 nw nk mhasKept nt mtaped nr mrowMany mroundOf mroundFrom mouts nm mfromHour mtoHour ns mfrom mto msort misFault mdeep mcoded mlines nl nc nF np ntr nb mbestCost nso nsi nit nsh nsf nss nrc mtraced mdealer mnumber mwhose msize misParted fnw (by omega) (eL5722)) si_X12_183 [0, 1] sm_0_1 fm_0_1 nd_0_1 rfl rfl rfl rfl rfl (Nat.le_of_ble_eq_true rfl) rm_7_1_2 ⟨by first | exact Nat.le_of_ble_eq_true rfl | exact Nat.zero_le _, by first | exact Nat.le_of_ble_eq_true rfl | exact Nat.zero_le _⟩ gX12_asked_1.1 (Keqr ?_)
        refine lv_icmp_ge (tgt := 87) hx hb gX12_asked_1.2.1 (by decide) (fun _ => ?_) (fun c9 => absurd (Int32.le_refl _) c9)
        refine lv_iconst (v := 0) hx hb gX12_asked_4.2.2.2.2.2.2.1 (by decide) ?_
        refine lv_iload hx hb gX12_asked_4.2.2.2.2.2.2.2.1 (lv_at1 hl) ?_
        refine va_mmax hx hb (hml.trans hl.1.symm) hown (hB _ m_1319) (hB _ m_142) (hB _ m_105) (hB _ m_143) (Nat.le_of_ble_eq_true rfl) (Nat.le_of_ble_eq_true rfl) (by first | exact Nat.le_of_ble_eq_true rfl | exact Nat.zero_le _)  (by first | exact Nat.le_of_ble_eq_true rfl | exact Nat.zero_le _) gX12_asked_4.2.2.2.2.2.2.2.2.1 ?_
        refine lv_topi (fun x5727 ex5727 => ?_)
        refine toQ hQ0 ?_
        exact RI (v := x5727) hC hP hD hS [0, 1, 2] vR rfl rfl (by decide) (trivial) rfl gX12_asked_4.2.2.2.2.2.2.2.2.2
      | succ nQ ihQ =>
        intro kQ nn vR H locs ls hkQ hPD hS hl
        refine Kan2 hPD (fun hP hD => ?_)
        refine lv_iload hx hb gX12_asked_0.2.2.2.2.2.2.2.1 (lv_at0 hl) ?_
        refine lv_aload_n hx hb gX12_asked_0.2.2.2.2.2.2.2.2.1 rfl (lv_at3 hl) ?_
        refine lv_iload_n hx hb gX12_asked_0.2.2.2.2.2.2.2.2.2 rfl (lv_at2 hl) ?_
        refine pV hC hK hl hP hD (m_lines l G L5722 h0 v5722 nw nk mhasKept nt mtaped nr mrowMany mroundOf mroundFrom mouts nm mfromHour mtoHour ns mfrom mto msort misFault mdeep mcoded mlines nl nc nF np ntr nb mbestCost nso nsi nit nsh nsf nss nrc mtraced mdealer mnumber mwhose msize misParted fnw (by omega) (eL5722)) si_X12_183 [0, 1] sm_0_1 fm_0_1 nd_0_1 rfl rfl rfl rfl rfl (Nat.le_of_ble_eq_true rfl) rm_7_1_2 ⟨by first | exact Nat.le_of_ble_eq_true rfl | exact Nat.zero_le _, by first | exact Nat.le_of_ble_eq_true rfl | exact Nat.zero_le _⟩ gX12_asked_1.1 (Keqr ?_)
        refine lv_icmp_ge (tgt := 87) hx hb gX12_asked_1.2.1 (by decide) (fun c9 => absurd c9 (nI_ge (a := kQ) (b := L5722) (by omega) (by omega))) (fun _ => ?_)
        have hln5730 := hLN5722 kQ (by omega)
        refine lv_aload_n hx hb gX12_asked_1.2.2.1 rfl (lv_at3 hl) ?_
        refine lv_iload_n hx hb gX12_asked_1.2.2.2.1 rfl (lv_at2 hl) ?_
        refine lv_iload hx hb gX12_asked_1.2.2.2.2.1 (lv_at0 hl) ?_
        refine lv_iconst (v := 0) hx hb gX12_asked_1.2.2.2.2.2.1 (by decide) ?_
        refine pV hC hK hl hP hD (m_lineOf l G h0 v5722 kQ 0 nw nk mhasKept nt mtaped nr mrowMany mroundOf mroundFrom mouts nm mfromHour mtoHour ns mfrom mto msort misFault mdeep mcoded mlines nl nc nF np ntr nb mbestCost nso nsi nit nsh nsf nss nrc mtraced mdealer mnumber mwhose msize misParted fnw (by omega) (by omega) (by omega)) si_X12_193 [0, 1] sm_0_1 fm_0_1 nd_0_1 rfl rfl rfl rfl rfl (Nat.le_of_ble_eq_true rfl) rm_7_1_4 ⟨by first | exact Nat.le_of_ble_eq_true rfl | exact Nat.zero_le _, by first | exact Nat.le_of_ble_eq_true rfl | exact Nat.zero_le _⟩ gX12_asked_1.2.2.2.2.2.2.1 (Keqr ?_)
        refine lv_iload_n hx hb gX12_asked_1.2.2.2.2.2.2.2.1 rfl (lv_at5 hl) ?_
        refine lv_icmp_ne (tgt := 58) hx hb gX12_asked_1.2.2.2.2.2.2.2.2.1 (by decide) (fun c_30_5733 => ?_) (fun c_30_5733 => ?_)
        · refine lv_iconst (v := 0) hx hb gX12_asked_3.2.2.1 (by decide) ?_
          refine lv_istore (lv' := [(6, .int 0), (5, .int (nI kQ)), (4, .int nn), (3, .int (nI v5722)), (0, .ref h0), (1, .int (nI je)), (2, .int so9)]) hx hb gX12_asked_3.2.2.2.1 hl (by decide) rfl (fun ls hl => ?_)
          refine lv_iload hx hb gX12_asked_3.2.2.2.2.1 (lv_at0 hl) ?_
          refine lv_if_eq (tgt := 77) hx hb gX12_asked_3.2.2.2.2.2.1 (by decide) (fun _ => ?_) (fun c9 => absurd (by decide) c9)
          refine lv_iload hx hb gX12_asked_4.2.2.1 (lv_at2 hl) ?_
          refine lv_istore (lv' := [(4, .int nn), (6, .int 0), (5, .int (nI kQ)), (3, .int (nI v5722)), (0, .ref h0), (1, .int (nI je)), (2, .int so9)]) hx hb gX12_asked_4.2.2.2.1 hl (by decide) rfl (fun ls hl => ?_)
          refine lv_iinc (v := nI (kQ + 1)) (lv' := [(5, .int (nI (kQ + 1))), (4, .int nn), (6, .int 0), (3, .int (nI v5722)), (0, .ref h0), (1, .int (nI je)), (2, .int so9)]) hx hb gX12_asked_4.2.2.2.2.1 hl (k := 2) rfl (nI_1 _) (by decide) rfl (fun ls hl => ?_)
          refine lv_goto (tgt := 11) hx hb gX12_asked_4.2.2.2.2.2.1 (by decide) ?_
          exact ihQ (kQ + 1) nn vR _ _ _ (by omega) (And.intro hP hD) hS (lv_sub hl [0, 1, 3, 4, 5, 6] rfl)
        · refine lv_iload_n hx hb gX12_asked_1.2.2.2.2.2.2.2.2.2 rfl (lv_at5 hl) ?_
          refine lv_iconst (v := 3) hx hb gX12_asked_2.1 (by decide) ?_
          refine lv_icmp_eq (tgt := 54) hx hb gX12_asked_2.2.1 (by decide) (fun c_35_5734 => ?_) (fun c_35_5734 => ?_)
          · refine lv_iconst (v := 1) hx hb gX12_asked_3.1 (by decide) ?_
            refine lv_goto (tgt := 59) hx hb gX12_asked_3.2.1 (by decide) ?_
            refine lv_istore (lv' := [(6, .int 1), (5, .int (nI kQ)), (4, .int nn), (3, .int (nI v5722)), (0, .ref h0), (1, .int (nI je)), (2, .int so9)]) hx hb gX12_asked_3.2.2.2.1 hl (by decide) rfl (fun ls hl => ?_)
            refine lv_iload hx hb gX12_asked_3.2.2.2.2.1 (lv_at0 hl) ?_
            refine lv_if_eq (tgt := 77) hx hb gX12_asked_3.2.2.2.2.2.1 (by decide) (fun c9 => absurd c9 (by decide)) (fun _ => ?_)
            refine lv_aload_n hx hb gX12_asked_3.2.2.2.2.2.2.1 rfl (lv_at4 hl) ?_
            refine lv_iload_n hx hb gX12_asked_3.2.2.2.2.2.2.2.1 rfl (lv_at3 hl) ?_
            refine lv_iload hx hb gX12_asked_3.2.2.2.2.2.2.2.2.1 (lv_at1 hl) ?_
            refine lv_iconst (v := 1) hx hb gX12_asked_3.2.2.2.2.2.2.2.2.2 (by decide) ?_
            refine pV hC hK hl hP hD (m_lineOf l G h0 v5722 kQ 1 nw nk mhasKept nt mtaped nr mrowMany mroundOf mroundFrom mouts nm mfromHour mtoHour ns mfrom mto msort misFault mdeep mcoded mlines nl nc nF np ntr nb mbestCost nso nsi nit nsh nsf nss nrc mtraced mdealer mnumber mwhose msize misParted fnw (by omega) (by omega) (by omega)) si_X12_193 [0, 1] sm_0_1 fm_0_1 nd_0_1 rfl rfl rfl rfl rfl (Nat.le_of_ble_eq_true rfl) rm_7_1_4 ⟨by first | exact Nat.le_of_ble_eq_true rfl | exact Nat.zero_le _, by first | exact Nat.le_of_ble_eq_true rfl | exact Nat.zero_le _⟩ gX12_asked_4.1 (Keqr ?_)
            refine lv_goto (tgt := 79) hx hb gX12_asked_4.2.1 (by decide) ?_
            refine lv_istore (lv' := [(4, .int (fnw (176 + 156 * v5722 + 2 + 6 * kQ + 1))), (6, .int 1), (5, .int (nI kQ)), (3, .int (nI v5722)), (0, .ref h0), (1, .int (nI je)), (2, .int so9)]) hx hb gX12_asked_4.2.2.2.1 hl (by decide) rfl (fun ls hl => ?_)
            refine lv_iinc (v := nI (kQ + 1)) (lv' := [(5, .int (nI (kQ + 1))), (4, .int (fnw (176 + 156 * v5722 + 2 + 6 * kQ + 1))), (6, .int 1), (3, .int (nI v5722)), (0, .ref h0), (1, .int (nI je)), (2, .int so9)]) hx hb gX12_asked_4.2.2.2.2.1 hl (k := 2) rfl (nI_1 _) (by decide) rfl (fun ls hl => ?_)
            refine lv_goto (tgt := 11) hx hb gX12_asked_4.2.2.2.2.2.1 (by decide) ?_
            exact ihQ (kQ + 1) (fnw (176 + 156 * v5722 + 2 + 6 * kQ + 1)) vR _ _ _ (by omega) (And.intro hP hD) hS (lv_sub hl [0, 1, 3, 4, 5, 6] rfl)
          · refine lv_iload hx hb gX12_asked_2.2.2.1 (lv_at1 hl) ?_
            refine lv_if_ge (tgt := 58) hx hb gX12_asked_2.2.2.2.1 (by decide) (fun c_40_5737 => ?_) (fun c_40_5737 => ?_)
            · refine lv_iconst (v := 0) hx hb gX12_asked_3.2.2.1 (by decide) ?_
              refine lv_istore (lv' := [(6, .int 0), (5, .int (nI kQ)), (4, .int nn), (3, .int (nI v5722)), (0, .ref h0), (1, .int (nI je)), (2, .int so9)]) hx hb gX12_asked_3.2.2.2.1 hl (by decide) rfl (fun ls hl => ?_)
              refine lv_iload hx hb gX12_asked_3.2.2.2.2.1 (lv_at0 hl) ?_
              refine lv_if_eq (tgt := 77) hx hb gX12_asked_3.2.2.2.2.2.1 (by decide) (fun _ => ?_) (fun c9 => absurd (by decide) c9)
              refine lv_iload hx hb gX12_asked_4.2.2.1 (lv_at2 hl) ?_
              refine lv_istore (lv' := [(4, .int nn), (6, .int 0), (5, .int (nI kQ)), (3, .int (nI v5722)), (0, .ref h0), (1, .int (nI je)), (2, .int so9)]) hx hb gX12_asked_4.2.2.2.1 hl (by decide) rfl (fun ls hl => ?_)
              refine lv_iinc (v := nI (kQ + 1)) (lv' := [(5, .int (nI (kQ + 1))), (4, .int nn), (6, .int 0), (3, .int (nI v5722)), (0, .ref h0), (1, .int (nI je)), (2, .int so9)]) hx hb gX12_asked_4.2.2.2.2.1 hl (k := 2) rfl (nI_1 _) (by decide) rfl (fun ls hl => ?_)
              refine lv_goto (tgt := 11) hx hb gX12_asked_4.2.2.2.2.2.1 (by decide) ?_
              exact ihQ (kQ + 1) nn vR _ _ _ (by omega) (And.intro hP hD) hS (lv_sub hl [0, 1, 3, 4, 5, 6] rfl)
            · refine lv_aload_n hx hb gX12_asked_2.2.2.2.2.1 rfl (lv_at3 hl) ?_
              refine lv_iload_n hx hb gX12_asked_2.2.2.2.2.2.1 rfl (lv_at2 hl) ?_
              refine lv_iload hx hb gX12_asked_2.2.2.2.2.2.2.1 (lv_at0 hl) ?_
              refine lv_iload_n hx hb gX12_asked_2.2.2.2.2.2.2.2.1 rfl (lv_at4 hl) ?_
              refine iV (wr := []) hC hK hl hP hD hS hA (m_holds l G h0 v5722 kQ je nw nk mhasKept nt mtaped nr mrowMany mroundOf mroundFrom mouts nm mfromHour mtoHour ns mfrom mto msort misFault mdeep mcoded mlines nl nc nF np ntr nb mbestCost nso nsi nit nsh nsf nss nrc mtraced mdealer mnumber mwhose msize misParted fnw vR (by omega) (by omega) (hln5730) (hje) (hN)) si_X12_196 [0, 1, 2] [] sm_0_1_2 fm_0_1_2 nd_0_1_2 rfl rfl (by decide) rfl rfl rfl rfl rfl (Nat.le_of_ble_eq_true rfl) rm_7_5_12 ⟨Nat.le_of_ble_eq_true rfl, Nat.le_of_ble_eq_true rfl⟩ gX12_asked_2.2.2.2.2.2.2.2.2.1 (fun r5738 gnp5740 H locs hr5738 hP hD hS => ?_)
              try dsimp only at hr5738
              refine Kpdr (ws := [(h0, oX12 nw nk mhasKept nt mtaped nr mrowMany mroundOf mroundFrom mouts nm mfromHour mtoHour ns mfrom mto msort misFault mdeep mcoded mlines nl nc nF np ntr nb mbestCost nso nsi nit nsh nsf nss nrc mtraced mdealer mnumber mwhose msize misParted), (nw, iA G 1662 fnw), (np, iA G 100 gnp5740)]) hP hD (fun hP hD => ?_)
              rcases hr5738 with rfl | rfl
              · refine lv_if_eq (tgt := 58) hx hb gX12_asked_2.2.2.2.2.2.2.2.2.2 (by decide) (fun c9 => absurd c9 (by decide)) (fun _ => ?_)
                refine lv_iconst (v := 1) hx hb gX12_asked_3.1 (by decide) ?_
                refine lv_goto (tgt := 59) hx hb gX12_asked_3.2.1 (by decide) ?_
                refine lv_istore (lv' := [(6, .int 1), (5, .int (nI kQ)), (4, .int nn), (3, .int (nI v5722)), (0, .ref h0), (1, .int (nI je)), (2, .int so9)]) hx hb gX12_asked_3.2.2.2.1 hl (by decide) rfl (fun ls hl => ?_)
                refine lv_iload hx hb gX12_asked_3.2.2.2.2.1 (lv_at0 hl) ?_
                refine lv_if_eq (tgt := 77) hx hb gX12_asked_3.2.2.2.2.2.1 (by decide) (fun c9 => absurd c9 (by decide)) (fun _ => ?_)
                refine lv_aload_n hx hb gX12_asked_3.2.2.2.2.2.2.1 rfl (lv_at4 hl) ?_
                refine lv_iload_n hx hb gX12_asked_3.2.2.2.2.2.2.2.1 rfl (lv_at3 hl) ?_
                refine lv_iload hx hb gX12_asked_3.2.2.2.2.2.2.2.2.1 (lv_at1 hl) ?_
                refine lv_iconst (v := 1) hx hb gX12_asked_3.2.2.2.2.2.2.2.2.2 (by decide) ?_
                refine pV hC hK hl hP hD (m_lineOf l G h0 v5722 kQ 1 nw nk mhasKept nt mtaped nr mrowMany mroundOf mroundFrom mouts nm mfromHour mtoHour ns mfrom mto msort misFault mdeep mcoded mlines nl nc nF np ntr nb mbestCost nso nsi nit nsh nsf nss nrc mtraced mdealer mnumber mwhose msize misParted fnw (by omega) (by omega) (by omega)) si_X12_193 [0, 1] sm_0_1 fm_0_1 nd_0_1 rfl rfl rfl rfl rfl (Nat.le_of_ble_eq_true rfl) rm_7_1_4 ⟨by first | exact Nat.le_of_ble_eq_true rfl | exact Nat.zero_le _, by first | exact Nat.le_of_ble_eq_true rfl | exact Nat.zero_le _⟩ gX12_asked_4.1 (Keqr ?_)
                refine lv_goto (tgt := 79) hx hb gX12_asked_4.2.1 (by decide) ?_
                refine lv_istore (lv' := [(4, .int (fnw (176 + 156 * v5722 + 2 + 6 * kQ + 1))), (6, .int 1), (5, .int (nI kQ)), (3, .int (nI v5722)), (0, .ref h0), (1, .int (nI je)), (2, .int so9)]) hx hb gX12_asked_4.2.2.2.1 hl (by decide) rfl (fun ls hl => ?_)
                refine lv_iinc (v := nI (kQ + 1)) (lv' := [(5, .int (nI (kQ + 1))), (4, .int (fnw (176 + 156 * v5722 + 2 + 6 * kQ + 1))), (6, .int 1), (3, .int (nI v5722)), (0, .ref h0), (1, .int (nI je)), (2, .int so9)]) hx hb gX12_asked_4.2.2.2.2.1 hl (k := 2) rfl (nI_1 _) (by decide) rfl (fun ls hl => ?_)
                refine lv_goto (tgt := 11) hx hb gX12_asked_4.2.2.2.2.2.1 (by decide) ?_
                exact ihQ (kQ + 1) (fnw (176 + 156 * v5722 + 2 + 6 * kQ + 1)) gnp5740 _ _ _ (by omega) (And.intro hP hD) hS (lv_sub hl [0, 1, 3, 4, 5, 6] rfl)
              · refine lv_if_eq (tgt := 58) hx hb gX12_asked_2.2.2.2.2.2.2.2.2.2 (by decide) (fun _ => ?_) (fun c9 => absurd (by decide) c9)
                refine lv_iconst (v := 0) hx hb gX12_asked_3.2.2.1 (by decide) ?_
                refine lv_istore (lv' := [(6, .int 0), (5, .int (nI kQ)), (4, .int nn), (3, .int (nI v5722)), (0, .ref h0), (1, .int (nI je)), (2, .int so9)]) hx hb gX12_asked_3.2.2.2.1 hl (by decide) rfl (fun ls hl => ?_)
                refine lv_iload hx hb gX12_asked_3.2.2.2.2.1 (lv_at0 hl) ?_
                refine lv_if_eq (tgt := 77) hx hb gX12_asked_3.2.2.2.2.2.1 (by decide) (fun _ => ?_) (fun c9 => absurd (by decide) c9)
                refine lv_iload hx hb gX12_asked_4.2.2.1 (lv_at2 hl) ?_
                refine lv_istore (lv' := [(4, .int nn), (6, .int 0), (5, .int (nI kQ)), (3, .int (nI v5722)), (0, .ref h0), (1, .int (nI je)), (2, .int so9)]) hx hb gX12_asked_4.2.2.2.1 hl (by decide) rfl (fun ls hl => ?_)
                refine lv_iinc (v := nI (kQ + 1)) (lv' := [(5, .int (nI (kQ + 1))), (4, .int nn), (6, .int 0), (3, .int (nI v5722)), (0, .ref h0), (1, .int (nI je)), (2, .int so9)]) hx hb gX12_asked_4.2.2.2.2.1 hl (k := 2) rfl (nI_1 _) (by decide) rfl (fun ls hl => ?_)
                refine lv_goto (tgt := 11) hx hb gX12_asked_4.2.2.2.2.2.1 (by decide) ?_
                exact ihQ (kQ + 1) nn gnp5740 _ _ _ (by omega) (And.intro hP hD) hS (lv_sub hl [0, 1, 3, 4, 5, 6] rfl)
    exact keyQ L5722 0 (-1) fnp _ _ _ (by omega) (And.intro hP hD) hS (lv_sub hl [0, 1, 2, 3, 4, 5] rfl)
def K_m_isBarred (l : Launch) (G : GG) (h0 : Nat) (jf : Nat) (nw : Nat) (nk : Nat) (mhasKept : Int32) (nt : Nat) (mtaped : Int32) (nr : Nat) (mrowMany : Int32) (mroundOf : Int32) (mroundFrom : Int32) (nm : Nat) (mfromHour : Int32) (mtoHour : Int32) (ns : Nat) (mfrom : Int32) (mto : Int32) (msort : Int32) (misFault : Int32) (mdeep : Int32) (mcoded : Int32) (mlines : Int32) (nl : Nat) (nc : Nat) (nF : Nat) (np : Nat) (ntr : Nat) (nb : Nat) (mbestCost : Int32) (nso : Nat) (nsi : Nat) (nit : Nat) (nsh : Nat) (nsf : Nat) (nss : Nat) (nrc : Nat) (mtraced : Int32) (mdealer : Int32) (mnumber : Int32) (mwhose : Int32) (msize : Int32) (misParted : Int32) (fnw : Nat → Int32) (fnm : Nat → Int32) (fns : Nat → Int32) (fnp : Nat → Int32) : Prop := MI l G yX12_isBarred cX12_isBarred 8 (some .boolean) 11 0 0 [.ref h0, .int (nI jf)] [(h0, oX12 nw nk mhasKept nt mtaped nr mrowMany mroundOf mroundFrom 0 nm mfromHour mtoHour ns mfrom mto msort misFault mdeep mcoded mlines nl nc nF np ntr nb mbestCost nso nsi nit nsh nsf nss nrc mtraced mdealer mnumber mwhose msize misParted), (nw, iA G 1662 fnw), (nm, iA G 36 fnm), (ns, iA G 8 fns), (np, iA G 100 fnp)] (fun (r : Int32) (u : Int32 × Int32 × (Nat → Int32) × (Nat → Int32) × (Nat → Int32)) => (r = 1 ∨ r = 0) ∧ (MB u.2.2.1)) (fun u : Int32 × Int32 × (Nat → Int32) × (Nat → Int32) × (Nat → Int32) => [(h0, oX12 nw nk mhasKept nt mtaped nr mrowMany mroundOf mroundFrom 0 nm u.1 u.2.1 ns mfrom mto msort misFault mdeep mcoded mlines nl nc nF np ntr nb mbestCost nso nsi nit nsh nsf nss nrc mtraced mdealer mnumber mwhose msize misParted), (nw, iA G 1662 fnw), (nm, iA G 36 u.2.2.1), (ns, iA G 8 u.2.2.2.1), (np, iA G 100 u.2.2.2.2)])
set_option maxHeartbeats 4000000 in
set_option maxRecDepth 100000 in
theorem m_isBarred (l : Launch) (G : GG) (h0 : Nat) (jf : Nat) (nw : Nat) (nk : Nat) (mhasKept : Int32) (nt : Nat) (mtaped : Int32) (nr : Nat) (mrowMany : Int32) (mroundOf : Int32) (mroundFrom : Int32) (nm : Nat) (mfromHour : Int32) (mtoHour : Int32) (ns : Nat) (mfrom : Int32) (mto : Int32) (msort : Int32) (misFault : Int32) (mdeep : Int32) (mcoded : Int32) (mlines : Int32) (nl : Nat) (nc : Nat) (nF : Nat) (np : Nat) (ntr : Nat) (nb : Nat) (mbestCost : Int32) (nso : Nat) (nsi : Nat) (nit : Nat) (nsh : Nat) (nsf : Nat) (nss : Nat) (nrc : Nat) (mtraced : Int32) (mdealer : Int32) (mnumber : Int32) (mwhose : Int32) (msize : Int32) (misParted : Int32) (fnw : Nat → Int32) (fnm : Nat → Int32) (fns : Nat → Int32) (fnp : Nat → Int32) (hjf : jf < 12) (hN : NI fnw) (hV : VI fnw) (hM : MB fnm) : K_m_isBarred l G h0 jf nw nk mhasKept nt mtaped nr mrowMany mroundOf mroundFrom nm mfromHour mtoHour ns mfrom mto msort misFault mdeep mcoded mlines nl nc nF np ntr nb mbestCost nso nsi nit nsh nsf nss nrc mtraced mdealer mnumber mwhose msize misParted fnw fnm fns fnp := by
  refine MI.start (by decide +kernel) (Nat.le_of_ble_eq_true rfl) ?_
  intro p e s m below meth c A ls hC hK hP hD hS hA hl
  refine absQ (fun Q0 hQ0 => ?_)
  have hl : lv_has ls 8 [(0, .ref h0), (1, .int (nI jf))] := hl
  refine Kan8 hC (fun hx hb hr hml hB hown hlocks hnm => ?_)
  obtain ⟨k10, hk10, ek10⟩ := NI.nat hN (i := 10) (B := 16) (by decide +kernel) (by decide)
  refine lv_aload_n hx hb gX12_isBarred_0.1 rfl (lv_at0 hl) ?_
  refine gf_X12_9 hC rfl hK hP 0 rfl rfl gX12_isBarred_0.2.1 ?_
  refine lv_sipush (v := 1552) hx hb gX12_isBarred_0.2.2.1 (by decide) ?_
  refine lv_iconst (v := 4) hx hb gX12_isBarred_0.2.2.2.1 (by decide) ?_
  refine lv_iload_n hx hb gX12_isBarred_0.2.2.2.2.1 rfl (lv_at1 hl) ?_
  refine lv_imul hx hb gX12_isBarred_0.2.2.2.2.2.1 ?_
  refine eqi (x1 := nI (4 * jf)) (nI_mul 4 jf) ?_
  refine lv_iadd hx hb gX12_isBarred_0.2.2.2.2.2.2.1 ?_
  refine eqi (x1 := nI (1552 + 4 * jf)) (nI_add 1552 (4 * jf)) ?_
  refine lv_iconst (v := 0) hx hb gX12_isBarred_0.2.2.2.2.2.2.2.1 (by decide) ?_
  refine lv_iadd hx hb gX12_isBarred_0.2.2.2.2.2.2.2.2.1 ?_
  refine eqi (x1 := nI (1552 + 4 * jf + 0)) (nI_add (1552 + 4 * jf) 0) ?_
  obtain ⟨fi5744, hfi5744, efi5744⟩ := NI.nat hN (i := (1552 + 4 * jf + 0)) (B := 9) (bnd_fin0 (s := jf) (by omega) (by omega)) (by decide)
  refine aldN hC hK hP 1 rfl (k := (1552 + 4 * jf + 0)) (by omega) (Nat.le_of_ble_eq_true rfl) (v := nI fi5744) (efi5744) gX12_isBarred_0.2.2.2.2.2.2.2.2.2 ?_
  refine lv_istore_n (lv' := [(2, .int (nI fi5744)), (0, .ref h0), (1, .int (nI jf))]) hx hb gX12_isBarred_1.1 rfl hl (by decide) rfl (fun ls hl => ?_)
  refine lv_aload_n hx hb gX12_isBarred_1.2.1 rfl (lv_at1 hl) ?_
  refine lv_iload_n hx hb gX12_isBarred_1.2.2.1 rfl (lv_at2 hl) ?_
  refine iV (wr := []) hC hK hl hP hD hS hA (m_leans l G h0 jf nw nk mhasKept nt mtaped nr mrowMany mroundOf mroundFrom nm mfromHour mtoHour ns mfrom mto msort misFault mdeep mcoded mlines nl nc nF np ntr nb mbestCost nso nsi nit nsh nsf nss nrc mtraced mdealer mnumber mwhose msize misParted fnw fnm fns fnp (hjf) (hN) (hV) (hM)) si_X12_311 [0, 1, 2, 3, 4] [] sm_0_1_2_3_4 fm_0_1_2_3_4 nd_0_1_2_3_4 rfl rfl (by decide) rfl rfl rfl rfl rfl (Nat.le_of_ble_eq_true rfl) rm_11_10_5 ⟨Nat.le_of_ble_eq_true rfl, Nat.le_of_ble_eq_true rfl⟩ gX12_isBarred_1.2.2.2.1 (fun r5745 => Ktu5 fun fh15747 th15748 gnm5749 gns5750 gnp5751 => ?_)
  intro H locs hr5745 hP hD hS
  try dsimp only at hr5745
  refine Kpdr (ws := [(h0, oX12 nw nk mhasKept nt mtaped nr mrowMany mroundOf mroundFrom 0 nm fh15747 th15748 ns mfrom mto msort misFault mdeep mcoded mlines nl nc nF np ntr nb mbestCost nso nsi nit nsh nsf nss nrc mtraced mdealer mnumber mwhose msize misParted), (nw, iA G 1662 fnw), (nm, iA G 36 gnm5749), (ns, iA G 8 gns5750), (np, iA G 100 gnp5751)]) hP hD (fun hP hD => ?_)
  obtain ⟨hr5745, w5752⟩ := hr5745
  refine lv_istore_n (lv' := [(3, .int r5745), (2, .int (nI fi5744)), (0, .ref h0), (1, .int (nI jf))]) hx hb gX12_isBarred_1.2.2.2.2.1 rfl hl (by decide) rfl (fun ls hl => ?_)
  refine lv_aload_n hx hb gX12_isBarred_1.2.2.2.2.2.1 rfl (lv_at2 hl) ?_
  refine lv_iload_n hx hb gX12_isBarred_1.2.2.2.2.2.2.1 rfl (lv_at1 hl) ?_
  refine lv_iconst (v := 1) hx hb gX12_isBarred_1.2.2.2.2.2.2.2.1 (by decide) ?_
  refine iV (wr := [(nm, iA G 36 gnm5749), (ns, iA G 8 gns5750)]) hC hK hl hP hD hS hA (m_asked l G h0 fi5744 1 nw nk mhasKept nt mtaped nr mrowMany mroundOf mroundFrom 0 nm fh15747 th15748 ns mfrom mto msort misFault mdeep mcoded mlines nl nc nF np ntr nb mbestCost nso nsi nit nsh nsf nss nrc mtraced mdealer mnumber mwhose msize misParted fnw gnp5751 (by omega) (hN) (hV)) si_X12_314 [0, 1, 4] [2, 3] sm_0_1_4 fm_0_1_4 nd_0_1_4 sm_2_3 nd_2_3 dj_0_1_4__2_3 rfl rfl rfl rfl rfl (Nat.le_of_ble_eq_true rfl) rm_11_7_7 ⟨Nat.le_of_ble_eq_true rfl, Nat.le_of_ble_eq_true rfl⟩ gX12_isBarred_1.2.2.2.2.2.2.2.2.1 (fun r5753 gnp5755 H locs hr5753 hP hD hS => ?_)
  try dsimp only at hr5753
  refine Kpdr (ws := [(nm, iA G 36 gnm5749), (ns, iA G 8 gns5750), (h0, oX12 nw nk mhasKept nt mtaped nr mrowMany mroundOf mroundFrom 0 nm fh15747 th15748 ns mfrom mto msort misFault mdeep mcoded mlines nl nc nF np ntr nb mbestCost nso nsi nit nsh nsf nss nrc mtraced mdealer mnumber mwhose msize misParted), (nw, iA G 1662 fnw), (np, iA G 100 gnp5755)]) hP hD (fun hP hD => ?_)
  refine lv_istore (lv' := [(4, .int r5753), (3, .int r5745), (2, .int (nI fi5744)), (0, .ref h0), (1, .int (nI jf))]) hx hb gX12_isBarred_1.2.2.2.2.2.2.2.2.2 hl (by decide) rfl (fun ls hl => ?_)
  refine lv_iconst (v := 0) hx hb gX12_isBarred_2.1 (by decide) ?_
  refine lv_istore (lv' := [(5, .int 0), (4, .int r5753), (3, .int r5745), (2, .int (nI fi5744)), (0, .ref h0), (1, .int (nI jf))]) hx hb gX12_isBarred_2.2.1 hl (by decide) rfl (fun ls hl => ?_)
  have keyP : ∀ (nP kP : Nat) (op : Int32) (H : Heap) (locs : List Loc) (ls : Array Slot), kP + nP = k10 → va_PD G A [(nm, iA G 36 gnm5749), (ns, iA G 8 gns5750), (h0, oX12 nw nk mhasKept nt mtaped nr mrowMany mroundOf mroundFrom 0 nm fh15747 th15748 ns mfrom mto msort misFault mdeep mcoded mlines nl nc nF np ntr nb mbestCost nso nsi nit nsh nsf nss nrc mtraced mdealer mnumber mwhose msize misParted), (nw, iA G 1662 fnw), (np, iA G 100 gnp5755)] H → va_S A s.heap H locs → lv_has ls 8 [(5, .int (nI kP)), (4, .int r5753), (3, .int op), (2, .int (nI fi5744)), (0, .ref h0), (1, .int (nI jf))] → W p l e (RM 11 0 0) s m ([.ref h0, .int (nI jf)] : List Value).toArray below meth c H locs 0 0 Q0 (F0 m 32 ls []) := by
    intro nP
    induction nP with
    | zero =>
      intro kP op H locs ls hkP hPD hS hl
      refine Kan2 hPD (fun hP hD => ?_)
      obtain rfl : k10 = kP := by omega
      have hl : lv_has ls 8 [(5, .int (nI k10)), (4, .int r5753), (3, .int op), (2, .int (nI fi5744)), (0, .ref h0), (1, .int (nI jf))] := hl
      refine lv_iload hx hb gX12_isBarred_2.2.2.1 (lv_at0 hl) ?_
      refine lv_aload_n hx hb gX12_isBarred_2.2.2.2.1 rfl (lv_at4 hl) ?_
      refine gf_X12_9 hC rfl hK hP 2 rfl rfl gX12_isBarred_2.2.2.2.2.1 ?_
      refine lv_bipush (v := 10) hx hb gX12_isBarred_2.2.2.2.2.2.1 (by decide) ?_
      refine ald hC hK hP 3 rfl (vin (by decide +kernel)) (k := 10) (by decide +kernel) (v := nI k10) (ek10) gX12_isBarred_2.2.2.2.2.2.2.1 ?_
      refine lv_icmp_ge (tgt := 138) hx hb gX12_isBarred_2.2.2.2.2.2.2.2.1 (by decide) (fun _ => ?_) (fun c9 => absurd (Int32.le_refl _) c9)
      refine lv_iload_n hx hb gX12_isBarred_8.2.2.2.1 rfl (lv_at2 hl) ?_
      refine lv_if_ne (tgt := 156) hx hb gX12_isBarred_8.2.2.2.2.1 (by decide) (fun c_139_5756 => ?_) (fun c_139_5756 => ?_)
      · refine lv_iconst (v := 1) hx hb gX12_isBarred_9.2.2.2.1 (by decide) ?_
        refine lv_goto (tgt := 161) hx hb gX12_isBarred_9.2.2.2.2.1 (by decide) ?_
        refine toQ hQ0 ?_
        exact RI (v := 1) hC hP hD hS [2, 3, 0, 1, 4] (fh15747, th15748, gnm5749, gns5750, gnp5755) rfl rfl (by decide) (⟨Or.inl (rfl), by first | assumption | exact hM⟩) (by decide +kernel) gX12_isBarred_9.2.2.2.2.2.2
      · refine lv_aload_n hx hb gX12_isBarred_8.2.2.2.2.2.1 rfl (lv_at4 hl) ?_
        refine lv_iload_n hx hb gX12_isBarred_8.2.2.2.2.2.2.1 rfl (lv_at3 hl) ?_
        refine pV hC hK hl hP hD (m_saidBy l G h0 (nI fi5744) nw nk mhasKept nt mtaped nr mrowMany mroundOf mroundFrom 0 nm fh15747 th15748 ns mfrom mto msort misFault mdeep mcoded mlines nl nc nF np ntr nb mbestCost nso nsi nit nsh nsf nss nrc mtraced mdealer mnumber mwhose msize misParted fnw (hN)) si_X12_127 [2, 3] sm_2_3 fm_2_3 nd_2_3 rfl rfl rfl rfl rfl (Nat.le_of_ble_eq_true rfl) rm_11_5_4 ⟨by first | exact Nat.le_of_ble_eq_true rfl | exact Nat.zero_le _, by first | exact Nat.le_of_ble_eq_true rfl | exact Nat.zero_le _⟩ gX12_isBarred_8.2.2.2.2.2.2.2.1 (fun r5757 hr5757 => ?_)
        refine lv_aload_n hx hb gX12_isBarred_8.2.2.2.2.2.2.2.2.1 rfl (lv_at4 hl) ?_
        refine lv_iload_n hx hb gX12_isBarred_8.2.2.2.2.2.2.2.2.2 rfl (lv_at3 hl) ?_
        refine lv_iconst (v := 3) hx hb gX12_isBarred_9.1 (by decide) ?_
        refine iV (wr := [(nm, iA G 36 gnm5749), (ns, iA G 8 gns5750)]) hC hK hl hP hD hS hA (m_asked l G h0 fi5744 3 nw nk mhasKept nt mtaped nr mrowMany mroundOf mroundFrom 0 nm fh15747 th15748 ns mfrom mto msort misFault mdeep mcoded mlines nl nc nF np ntr nb mbestCost nso nsi nit nsh nsf nss nrc mtraced mdealer mnumber mwhose msize misParted fnw gnp5755 (by omega) (hN) (hV)) si_X12_314 [2, 3, 4] [0, 1] sm_2_3_4 fm_2_3_4 nd_2_3_4 sm_0_1 nd_0_1 dj_2_3_4__0_1 rfl rfl rfl rfl rfl (Nat.le_of_ble_eq_true rfl) rm_11_7_7 ⟨Nat.le_of_ble_eq_true rfl, Nat.le_of_ble_eq_true rfl⟩ gX12_isBarred_9.2.1 (fun r5758 gnp5760 H locs hr5758 hP hD hS => ?_)
        try dsimp only at hr5758
        refine Kpdr (ws := [(nm, iA G 36 gnm5749), (ns, iA G 8 gns5750), (h0, oX12 nw nk mhasKept nt mtaped nr mrowMany mroundOf mroundFrom 0 nm fh15747 th15748 ns mfrom mto msort misFault mdeep mcoded mlines nl nc nF np ntr nb mbestCost nso nsi nit nsh nsf nss nrc mtraced mdealer mnumber mwhose msize misParted), (nw, iA G 1662 fnw), (np, iA G 100 gnp5760)]) hP hD (fun hP hD => ?_)
        refine lv_icmp_ge (tgt := 160) hx hb gX12_isBarred_9.2.2.1 (by decide) (fun c_153_5761 => ?_) (fun c_153_5761 => ?_)
        · refine lv_iconst (v := 0) hx hb gX12_isBarred_9.2.2.2.2.2.1 (by decide) ?_
          refine toQ hQ0 ?_
          exact RI (v := 0) hC hP hD hS [2, 3, 0, 1, 4] (fh15747, th15748, gnm5749, gns5750, gnp5760) rfl rfl (by decide) (⟨Or.inr (rfl), by first | assumption | exact hM⟩) (by decide +kernel) gX12_isBarred_9.2.2.2.2.2.2
        · refine lv_iconst (v := 1) hx hb gX12_isBarred_9.2.2.2.1 (by decide) ?_
          refine lv_goto (tgt := 161) hx hb gX12_isBarred_9.2.2.2.2.1 (by decide) ?_
          refine toQ hQ0 ?_
          exact RI (v := 1) hC hP hD hS [2, 3, 0, 1, 4] (fh15747, th15748, gnm5749, gns5750, gnp5760) rfl rfl (by decide) (⟨Or.inl (rfl), by first | assumption | exact hM⟩) (by decide +kernel) gX12_isBarred_9.2.2.2.2.2.2
    | succ nP ihP =>
      intro kP op H locs ls hkP hPD hS hl
      refine Kan2 hPD (fun hP hD => ?_)
      refine lv_iload hx hb gX12_isBarred_2.2.2.1 (lv_at0 hl) ?_
      refine lv_aload_n hx hb gX12_isBarred_2.2.2.2.1 rfl (lv_at4 hl) ?_
      refine gf_X12_9 hC rfl hK hP 2 rfl rfl gX12_isBarred_2.2.2.2.2.1 ?_
      refine lv_bipush (v := 10) hx hb gX12_isBarred_2.2.2.2.2.2.1 (by decide) ?_
      refine ald hC hK hP 3 rfl (vin (by decide +kernel)) (k := 10) (by decide +kernel) (v := nI k10) (ek10) gX12_isBarred_2.2.2.2.2.2.2.1 ?_
      refine lv_icmp_ge (tgt := 138) hx hb gX12_isBarred_2.2.2.2.2.2.2.2.1 (by decide) (fun c9 => absurd c9 (nI_ge (a := kP) (b := k10) (by omega) (by omega))) (fun _ => ?_)
      refine lv_sipush (v := 1600) hx hb gX12_isBarred_2.2.2.2.2.2.2.2.2.1 (by decide) ?_
      refine lv_iconst (v := 3) hx hb gX12_isBarred_2.2.2.2.2.2.2.2.2.2 (by decide) ?_
      refine lv_iload hx hb gX12_isBarred_3.1 (lv_at0 hl) ?_
      refine lv_imul hx hb gX12_isBarred_3.2.1 ?_
      refine eqi (x1 := nI (3 * kP)) (nI_mul 3 kP) ?_
      refine lv_iadd hx hb gX12_isBarred_3.2.2.1 ?_
      refine eqi (x1 := nI (1600 + 3 * kP)) (nI_add 1600 (3 * kP)) ?_
      refine lv_istore (lv' := [(6, .int (nI (1600 + 3 * kP))), (5, .int (nI kP)), (4, .int r5753), (3, .int op), (2, .int (nI fi5744)), (0, .ref h0), (1, .int (nI jf))]) hx hb gX12_isBarred_3.2.2.2.1 hl (by decide) rfl (fun ls hl => ?_)
      refine lv_aload_n hx hb gX12_isBarred_3.2.2.2.2.1 rfl (lv_at5 hl) ?_
      refine gf_X12_9 hC rfl hK hP 2 rfl rfl gX12_isBarred_3.2.2.2.2.2.1 ?_
      refine lv_iload hx hb gX12_isBarred_3.2.2.2.2.2.2.1 (lv_at0 hl) ?_
      refine aldN hC hK hP 3 rfl (k := (1600 + 3 * kP)) (by omega) (Nat.le_of_ble_eq_true rfl) (v := fnw (1600 + 3 * kP)) rfl gX12_isBarred_3.2.2.2.2.2.2.2.1 ?_
      refine lv_topi (fun x5762 ex5762 => ?_)
      refine lv_iload_n hx hb gX12_isBarred_3.2.2.2.2.2.2.2.2.1 rfl (lv_at4 hl) ?_
      refine lv_icmp_ne (tgt := 104) hx hb gX12_isBarred_3.2.2.2.2.2.2.2.2.2 (by decide) (fun c_62_5763 => ?_) (fun c_62_5763 => ?_)
      · refine lv_iconst (v := 0) hx hb gX12_isBarred_6.2.2.1 (by decide) ?_
        refine lv_istore (lv' := [(7, .int 0), (6, .int (nI (1600 + 3 * kP))), (5, .int (nI kP)), (4, .int r5753), (3, .int op), (2, .int (nI fi5744)), (0, .ref h0), (1, .int (nI jf))]) hx hb gX12_isBarred_6.2.2.2.1 hl (by decide) rfl (fun ls hl => ?_)
        refine lv_iload_n hx hb gX12_isBarred_6.2.2.2.2.1 rfl (lv_at4 hl) ?_
        refine lv_iload hx hb gX12_isBarred_6.2.2.2.2.2.1 (lv_at0 hl) ?_
        refine lv_if_eq (tgt := 129) hx hb gX12_isBarred_6.2.2.2.2.2.2.1 (by decide) (fun _ => ?_) (fun c9 => absurd (by decide) c9)
        refine lv_iconst (v := (-1)) hx hb gX12_isBarred_7.2.2.2.2.2.2.2.2.1 (by decide) ?_
        refine lv_iand hx hb gX12_isBarred_7.2.2.2.2.2.2.2.2.2 ?_
        refine lv_istore_n (lv' := [(3, .int (op &&& (-1))), (7, .int 0), (6, .int (nI (1600 + 3 * kP))), (5, .int (nI kP)), (4, .int r5753), (2, .int (nI fi5744)), (0, .ref h0), (1, .int (nI jf))]) hx hb gX12_isBarred_8.1 rfl hl (by decide) rfl (fun ls hl => ?_)
        refine lv_iinc (v := nI (kP + 1)) (lv' := [(5, .int (nI (kP + 1))), (3, .int (op &&& (-1))), (7, .int 0), (6, .int (nI (1600 + 3 * kP))), (4, .int r5753), (2, .int (nI fi5744)), (0, .ref h0), (1, .int (nI jf))]) hx hb gX12_isBarred_8.2.1 hl (k := 3) rfl (nI_1 _) (by decide) rfl (fun ls hl => ?_)
        refine lv_goto (tgt := 32) hx hb gX12_isBarred_8.2.2.1 (by decide) ?_
        exact ihP (kP + 1) (op &&& (-1)) _ _ _ (by omega) (And.intro hP hD) hS (lv_sub hl [0, 4, 1, 5, 6, 7] rfl)
      · refine lv_aload_n hx hb gX12_isBarred_4.1 rfl (lv_at5 hl) ?_
        refine gf_X12_9 hC rfl hK hP 2 rfl rfl gX12_isBarred_4.2.1 ?_
        refine lv_iload hx hb gX12_isBarred_4.2.2.1 (lv_at0 hl) ?_
        refine lv_iconst (v := 2) hx hb gX12_isBarred_4.2.2.2.1 (by decide) ?_
        refine lv_iadd hx hb gX12_isBarred_4.2.2.2.2.1 ?_
        refine eqi (x1 := nI (1600 + 3 * kP + 2)) (nI_add (1600 + 3 * kP) 2) ?_
        refine aldN hC hK hP 3 rfl (k := (1600 + 3 * kP + 2)) (by omega) (Nat.le_of_ble_eq_true rfl) (v := fnw (1600 + 3 * kP + 2)) rfl gX12_isBarred_4.2.2.2.2.2.1 ?_
        refine lv_topi (fun x5764 ex5764 => ?_)
        refine lv_aload_n hx hb gX12_isBarred_4.2.2.2.2.2.2.1 rfl (lv_at5 hl) ?_
        refine pV hC hK hl hP hD (m_day l G h0 nw nk mhasKept nt mtaped nr mrowMany mroundOf mroundFrom 0 nm fh15747 th15748 ns mfrom mto msort misFault mdeep mcoded mlines nl nc nF np ntr nb mbestCost nso nsi nit nsh nsf nss nrc mtraced mdealer mnumber mwhose msize misParted fnw) si_X12_92 [2, 3] sm_2_3 fm_2_3 nd_2_3 rfl rfl rfl rfl rfl (Nat.le_of_ble_eq_true rfl) rm_11_1_1 ⟨by first | exact Nat.le_of_ble_eq_true rfl | exact Nat.zero_le _, by first | exact Nat.le_of_ble_eq_true rfl | exact Nat.zero_le _⟩ gX12_isBarred_4.2.2.2.2.2.2.2.1 (fun r5765 hr5765 => ?_)
        refine lv_icmp_gt (tgt := 104) hx hb gX12_isBarred_4.2.2.2.2.2.2.2.2.1 (by decide) (fun c_78_5766 => ?_) (fun c_78_5766 => ?_)
        · refine lv_iconst (v := 0) hx hb gX12_isBarred_6.2.2.1 (by decide) ?_
          refine lv_istore (lv' := [(7, .int 0), (6, .int (nI (1600 + 3 * kP))), (5, .int (nI kP)), (4, .int r5753), (3, .int op), (2, .int (nI fi5744)), (0, .ref h0), (1, .int (nI jf))]) hx hb gX12_isBarred_6.2.2.2.1 hl (by decide) rfl (fun ls hl => ?_)
          refine lv_iload_n hx hb gX12_isBarred_6.2.2.2.2.1 rfl (lv_at4 hl) ?_
          refine lv_iload hx hb gX12_isBarred_6.2.2.2.2.2.1 (lv_at0 hl) ?_
          refine lv_if_eq (tgt := 129) hx hb gX12_isBarred_6.2.2.2.2.2.2.1 (by decide) (fun _ => ?_) (fun c9 => absurd (by decide) c9)
          refine lv_iconst (v := (-1)) hx hb gX12_isBarred_7.2.2.2.2.2.2.2.2.1 (by decide) ?_
          refine lv_iand hx hb gX12_isBarred_7.2.2.2.2.2.2.2.2.2 ?_
          refine lv_istore_n (lv' := [(3, .int (op &&& (-1))), (7, .int 0), (6, .int (nI (1600 + 3 * kP))), (5, .int (nI kP)), (4, .int r5753), (2, .int (nI fi5744)), (0, .ref h0), (1, .int (nI jf))]) hx hb gX12_isBarred_8.1 rfl hl (by decide) rfl (fun ls hl => ?_)
          refine lv_iinc (v := nI (kP + 1)) (lv' := [(5, .int (nI (kP + 1))), (3, .int (op &&& (-1))), (7, .int 0), (6, .int (nI (1600 + 3 * kP))), (4, .int r5753), (2, .int (nI fi5744)), (0, .ref h0), (1, .int (nI jf))]) hx hb gX12_isBarred_8.2.1 hl (k := 3) rfl (nI_1 _) (by decide) rfl (fun ls hl => ?_)
          refine lv_goto (tgt := 32) hx hb gX12_isBarred_8.2.2.1 (by decide) ?_
          exact ihP (kP + 1) (op &&& (-1)) _ _ _ (by omega) (And.intro hP hD) hS (lv_sub hl [0, 4, 1, 5, 6, 7] rfl)
        · refine lv_aload_n hx hb gX12_isBarred_4.2.2.2.2.2.2.2.2.2 rfl (lv_at5 hl) ?_
          refine pV hC hK hl hP hD (m_day l G h0 nw nk mhasKept nt mtaped nr mrowMany mroundOf mroundFrom 0 nm fh15747 th15748 ns mfrom mto msort misFault mdeep mcoded mlines nl nc nF np ntr nb mbestCost nso nsi nit nsh nsf nss nrc mtraced mdealer mnumber mwhose msize misParted fnw) si_X12_92 [2, 3] sm_2_3 fm_2_3 nd_2_3 rfl rfl rfl rfl rfl (Nat.le_of_ble_eq_true rfl) rm_11_1_1 ⟨by first | exact Nat.le_of_ble_eq_true rfl | exact Nat.zero_le _, by first | exact Nat.le_of_ble_eq_true rfl | exact Nat.zero_le _⟩ gX12_isBarred_5.1 (fun r5767 hr5767 => ?_)
          refine lv_aload_n hx hb gX12_isBarred_5.2.1 rfl (lv_at5 hl) ?_
          refine gf_X12_9 hC rfl hK hP 2 rfl rfl gX12_isBarred_5.2.2.1 ?_
          refine lv_iload hx hb gX12_isBarred_5.2.2.2.1 (lv_at0 hl) ?_
          refine lv_iconst (v := 2) hx hb gX12_isBarred_5.2.2.2.2.1 (by decide) ?_
          refine lv_iadd hx hb gX12_isBarred_5.2.2.2.2.2.1 ?_
          refine eqi (x1 := nI (1600 + 3 * kP + 2)) (nI_add (1600 + 3 * kP) 2) ?_
          refine aldN hC hK hP 3 rfl (k := (1600 + 3 * kP + 2)) (by omega) (Nat.le_of_ble_eq_true rfl) (v := fnw (1600 + 3 * kP + 2)) rfl gX12_isBarred_5.2.2.2.2.2.2.1 ?_
          refine lv_topi (fun x5768 ex5768 => ?_)
          refine lv_isub hx hb gX12_isBarred_5.2.2.2.2.2.2.2.1 ?_
          refine lv_iload hx hb gX12_isBarred_5.2.2.2.2.2.2.2.2.1 (lv_at2 hl) ?_
          refine lv_icmp_lt (tgt := 104) hx hb gX12_isBarred_5.2.2.2.2.2.2.2.2.2 (by decide) (fun c_97_5769 => ?_) (fun c_97_5769 => ?_)
          · refine lv_iconst (v := 0) hx hb gX12_isBarred_6.2.2.1 (by decide) ?_
            refine lv_istore (lv' := [(7, .int 0), (6, .int (nI (1600 + 3 * kP))), (5, .int (nI kP)), (4, .int r5753), (3, .int op), (2, .int (nI fi5744)), (0, .ref h0), (1, .int (nI jf))]) hx hb gX12_isBarred_6.2.2.2.1 hl (by decide) rfl (fun ls hl => ?_)
            refine lv_iload_n hx hb gX12_isBarred_6.2.2.2.2.1 rfl (lv_at4 hl) ?_
            refine lv_iload hx hb gX12_isBarred_6.2.2.2.2.2.1 (lv_at0 hl) ?_
            refine lv_if_eq (tgt := 129) hx hb gX12_isBarred_6.2.2.2.2.2.2.1 (by decide) (fun _ => ?_) (fun c9 => absurd (by decide) c9)
            refine lv_iconst (v := (-1)) hx hb gX12_isBarred_7.2.2.2.2.2.2.2.2.1 (by decide) ?_
            refine lv_iand hx hb gX12_isBarred_7.2.2.2.2.2.2.2.2.2 ?_
            refine lv_istore_n (lv' := [(3, .int (op &&& (-1))), (7, .int 0), (6, .int (nI (1600 + 3 * kP))), (5, .int (nI kP)), (4, .int r5753), (2, .int (nI fi5744)), (0, .ref h0), (1, .int (nI jf))]) hx hb gX12_isBarred_8.1 rfl hl (by decide) rfl (fun ls hl => ?_)
            refine lv_iinc (v := nI (kP + 1)) (lv' := [(5, .int (nI (kP + 1))), (3, .int (op &&& (-1))), (7, .int 0), (6, .int (nI (1600 + 3 * kP))), (4, .int r5753), (2, .int (nI fi5744)), (0, .ref h0), (1, .int (nI jf))]) hx hb gX12_isBarred_8.2.1 hl (k := 3) rfl (nI_1 _) (by decide) rfl (fun ls hl => ?_)
            refine lv_goto (tgt := 32) hx hb gX12_isBarred_8.2.2.1 (by decide) ?_
            exact ihP (kP + 1) (op &&& (-1)) _ _ _ (by omega) (And.intro hP hD) hS (lv_sub hl [0, 4, 1, 5, 6, 7] rfl)
          · refine lv_iconst (v := 1) hx hb gX12_isBarred_6.1 (by decide) ?_
            refine lv_goto (tgt := 105) hx hb gX12_isBarred_6.2.1 (by decide) ?_
            refine lv_istore (lv' := [(7, .int 1), (6, .int (nI (1600 + 3 * kP))), (5, .int (nI kP)), (4, .int r5753), (3, .int op), (2, .int (nI fi5744)), (0, .ref h0), (1, .int (nI jf))]) hx hb gX12_isBarred_6.2.2.2.1 hl (by decide) rfl (fun ls hl => ?_)
            refine lv_iload_n hx hb gX12_isBarred_6.2.2.2.2.1 rfl (lv_at4 hl) ?_
            refine lv_iload hx hb gX12_isBarred_6.2.2.2.2.2.1 (lv_at0 hl) ?_
            refine lv_if_eq (tgt := 129) hx hb gX12_isBarred_6.2.2.2.2.2.2.1 (by decide) (fun c9 => absurd c9 (by decide)) (fun _ => ?_)
            refine lv_iconst (v := 1) hx hb gX12_isBarred_6.2.2.2.2.2.2.2.1 (by decide) ?_
            refine lv_aload_n hx hb gX12_isBarred_6.2.2.2.2.2.2.2.2.1 rfl (lv_at6 hl) ?_
            refine gf_X12_9 hC rfl hK hP 2 rfl rfl gX12_isBarred_6.2.2.2.2.2.2.2.2.2 ?_
            refine lv_iload hx hb gX12_isBarred_7.1 (lv_at1 hl) ?_
            refine lv_iconst (v := 1) hx hb gX12_isBarred_7.2.1 (by decide) ?_
            refine lv_iadd hx hb gX12_isBarred_7.2.2.1 ?_
            refine eqi (x1 := nI (1600 + 3 * kP + 1)) (nI_add (1600 + 3 * kP) 1) ?_
            refine aldN hC hK hP 3 rfl (k := (1600 + 3 * kP + 1)) (by omega) (Nat.le_of_ble_eq_true rfl) (v := fnw (1600 + 3 * kP + 1)) rfl gX12_isBarred_7.2.2.2.1 ?_
            refine lv_topi (fun x5770 ex5770 => ?_)
            refine lv_ishl hx hb gX12_isBarred_7.2.2.2.2.1 ?_
            refine lv_iconst (v := (-1)) hx hb gX12_isBarred_7.2.2.2.2.2.1 (by decide) ?_
            refine lv_ixor hx hb gX12_isBarred_7.2.2.2.2.2.2.1 ?_
            refine lv_goto (tgt := 130) hx hb gX12_isBarred_7.2.2.2.2.2.2.2.1 (by decide) ?_
            refine lv_iand hx hb gX12_isBarred_7.2.2.2.2.2.2.2.2.2 ?_
            refine lv_istore_n (lv' := [(3, .int (op &&& ((1 <<< (x5770 &&& 31)) ^^^ (-1)))), (7, .int 1), (6, .int (nI (1600 + 3 * kP))), (5, .int (nI kP)), (4, .int r5753), (2, .int (nI fi5744)), (0, .ref h0), (1, .int (nI jf))]) hx hb gX12_isBarred_8.1 rfl hl (by decide) rfl (fun ls hl => ?_)
            refine lv_iinc (v := nI (kP + 1)) (lv' := [(5, .int (nI (kP + 1))), (3, .int (op &&& ((1 <<< (x5770 &&& 31)) ^^^ (-1)))), (7, .int 1), (6, .int (nI (1600 + 3 * kP))), (4, .int r5753), (2, .int (nI fi5744)), (0, .ref h0), (1, .int (nI jf))]) hx hb gX12_isBarred_8.2.1 hl (k := 3) rfl (nI_1 _) (by decide) rfl (fun ls hl => ?_)
            refine lv_goto (tgt := 32) hx hb gX12_isBarred_8.2.2.1 (by decide) ?_
            exact ihP (kP + 1) (op &&& ((1 <<< (x5770 &&& 31)) ^^^ (-1))) _ _ _ (by omega) (And.intro hP hD) hS (lv_sub hl [0, 4, 1, 5, 6, 7] rfl)
  exact keyP k10 0 r5745 _ _ _ (by omega) (And.intro hP hD) hS (lv_sub hl [0, 1, 2, 3, 4, 5] rfl)
def K_r_findingOf (l : Launch) (G : GG) (h0 : Nat) (x1 : Int32) (x2 : Int32) (nw : Nat) (nk : Nat) (mhasKept : Int32) (nt : Nat) (mtaped : Int32) (nr : Nat) (mrowMany : Int32) (mroundOf : Int32) (mroundFrom : Int32) (nm : Nat) (mfromHour : Int32) (mtoHour : Int32) (ns : Nat) (mfrom : Int32) (mto : Int32) (msort : Int32) (misFault : Int32) (mdeep : Int32) (mcoded : Int32) (mlines : Int32) (nl : Nat) (nc : Nat) (nF : Nat) (np : Nat) (ntr : Nat) (nb : Nat) (mbestCost : Int32) (nso : Nat) (nsi : Nat) (nit : Nat) (nsh : Nat) (nsf : Nat) (nss : Nat) (nrc : Nat) (mtraced : Int32) (mdealer : Int32) (mnumber : Int32) (mwhose : Int32) (msize : Int32) (misParted : Int32) (fnw : Nat → Int32) (fnm : Nat → Int32) (fns : Nat → Int32) (fnp : Nat → Int32) : Prop := MI l G yX12_findingOf cX12_findingOf 3 (some .int) 12 0 0 [.ref h0, .int x1, .int x2] [(h0, oX12 nw nk mhasKept nt mtaped nr mrowMany mroundOf mroundFrom 0 nm mfromHour mtoHour ns mfrom mto msort misFault mdeep mcoded mlines nl nc nF np ntr nb mbestCost nso nsi nit nsh nsf nss nrc mtraced mdealer mnumber mwhose msize misParted), (nw, iA G 1662 fnw), (nm, iA G 36 fnm), (ns, iA G 8 fns), (np, iA G 100 fnp)] (fun (r : Int32) (u : Int32 × Int32 × (Nat → Int32) × (Nat → Int32) × (Nat → Int32)) => (True) ∧ (MB u.2.2.1)) (fun u : Int32 × Int32 × (Nat → Int32) × (Nat → Int32) × (Nat → Int32) => [(h0, oX12 nw nk mhasKept nt mtaped nr mrowMany mroundOf mroundFrom 0 nm u.1 u.2.1 ns mfrom mto msort misFault mdeep mcoded mlines nl nc nF np ntr nb mbestCost nso nsi nit nsh nsf nss nrc mtraced mdealer mnumber mwhose msize misParted), (nw, iA G 1662 fnw), (nm, iA G 36 u.2.2.1), (ns, iA G 8 u.2.2.2.1), (np, iA G 100 u.2.2.2.2)])
set_option maxHeartbeats 4000000 in
set_option maxRecDepth 100000 in
theorem r_findingOf (l : Launch) (G : GG) (h0 : Nat) (x1 : Int32) (x2 : Int32) (nw : Nat) (nk : Nat) (mhasKept : Int32) (nt : Nat) (mtaped : Int32) (nr : Nat) (mrowMany : Int32) (mroundOf : Int32) (mroundFrom : Int32) (nm : Nat) (mfromHour : Int32) (mtoHour : Int32) (ns : Nat) (mfrom : Int32) (mto : Int32) (msort : Int32) (misFault : Int32) (mdeep : Int32) (mcoded : Int32) (mlines : Int32) (nl : Nat) (nc : Nat) (nF : Nat) (np : Nat) (ntr : Nat) (nb : Nat) (mbestCost : Int32) (nso : Nat) (nsi : Nat) (nit : Nat) (nsh : Nat) (nsf : Nat) (nss : Nat) (nrc : Nat) (mtraced : Int32) (mdealer : Int32) (mnumber : Int32) (mwhose : Int32) (msize : Int32) (misParted : Int32) (fnw : Nat → Int32) (fnm : Nat → Int32) (fns : Nat → Int32) (fnp : Nat → Int32) (hN : NI fnw) (hV : VI fnw) (hM : MB fnm) : K_r_findingOf l G h0 x1 x2 nw nk mhasKept nt mtaped nr mrowMany mroundOf mroundFrom nm mfromHour mtoHour ns mfrom mto msort misFault mdeep mcoded mlines nl nc nF np ntr nb mbestCost nso nsi nit nsh nsf nss nrc mtraced mdealer mnumber mwhose msize misParted fnw fnm fns fnp := by
  refine MI.start (by decide +kernel) (Nat.le_of_ble_eq_true rfl) ?_
  intro p e s m below meth c A ls hC hK hP hD hS hA hl
  refine absQ (fun Q0 hQ0 => ?_)
  have hl : lv_has ls 3 [(0, .ref h0), (1, .int x1), (2, .int x2)] := hl
  refine Kan8 hC (fun hx hb hr hml hB hown hlocks hnm => ?_)
  obtain ⟨k9, hk9, ek9⟩ := NI.nat hN (i := 9) (B := 12) (by decide +kernel) (by decide)
  refine lv_aload_n hx hb gX12_findingOf_0.1 rfl (lv_at0 hl) ?_
  refine lv_iload_n hx hb gX12_findingOf_0.2.1 rfl (lv_at1 hl) ?_
  refine lv_bipush (v := 9) hx hb gX12_findingOf_0.2.2.1 (by decide) ?_
  refine pV hC hK hl hP hD (m_is l G k9 h0 x1 9 nw nk mhasKept nt mtaped nr mrowMany mroundOf mroundFrom 0 nm mfromHour mtoHour ns mfrom mto msort misFault mdeep mcoded mlines nl nc nF np ntr nb mbestCost nso nsi nit nsh nsf nss nrc mtraced mdealer mnumber mwhose msize misParted fnw (by omega) (ek9) (by omega)) si_X12_120 [0, 1] sm_0_1 fm_0_1 nd_0_1 rfl rfl rfl rfl rfl (Nat.le_of_ble_eq_true rfl) rm_12_2_3 ⟨by first | exact Nat.le_of_ble_eq_true rfl | exact Nat.zero_le _, by first | exact Nat.le_of_ble_eq_true rfl | exact Nat.zero_le _⟩ gX12_findingOf_0.2.2.2.1 (Kors (Keqa fun a5772 => ?_) (Keqa fun a5772 => ?_))
  · refine lv_if_eq (tgt := 20) hx hb gX12_findingOf_0.2.2.2.2.1 (by decide) (fun c9 => absurd c9 (by decide)) (fun _ => ?_)
    refine lv_iload_n hx hb gX12_findingOf_0.2.2.2.2.2.1 rfl (lv_at2 hl) ?_
    refine lv_iconst (v := 0) hx hb gX12_findingOf_0.2.2.2.2.2.2.1 (by decide) ?_
    refine lv_bipush (v := 6) hx hb gX12_findingOf_0.2.2.2.2.2.2.2.1 (by decide) ?_
    refine pS hC hK hl (m_within l G x2 0 6) si_X12_84 rfl rfl (Nat.le_of_ble_eq_true rfl) rm_12_1_3 ⟨by first | exact Nat.le_of_ble_eq_true rfl | exact Nat.zero_le _, by first | exact Nat.le_of_ble_eq_true rfl | exact Nat.zero_le _⟩ gX12_findingOf_0.2.2.2.2.2.2.2.2.1 (Kors (Keqa fun a5774 => ?_) (Keqa fun a5774 => ?_))
    · refine lv_if_ne (tgt := 22) hx hb gX12_findingOf_0.2.2.2.2.2.2.2.2.2 (by decide) (fun _ => ?_) (fun c9 => absurd c9 (by decide))
      obtain ⟨jf, hjf, rfl⟩ := Hs_nat (by omega) a5772
      refine lv_iload_n hx hb gX12_findingOf_1.2.2.1 rfl (lv_at2 hl) ?_
      refine lv_iconst (v := 4) hx hb gX12_findingOf_1.2.2.2.1 (by decide) ?_
      refine lv_icmp_ge (tgt := 44) hx hb gX12_findingOf_1.2.2.2.2.1 (by decide) (fun c_24_5775 => ?_) (fun c_24_5775 => ?_)
      · refine lv_iload_n hx hb gX12_findingOf_2.2.2.2.2.2.2.1 rfl (lv_at2 hl) ?_
        refine lv_iconst (v := 4) hx hb gX12_findingOf_2.2.2.2.2.2.2.2.1 (by decide) ?_
        refine lv_icmp_ne (tgt := 65) hx hb gX12_findingOf_2.2.2.2.2.2.2.2.2.1 (by decide) (fun c_46_5776 => ?_) (fun c_46_5776 => ?_)
        · refine lv_iload_n hx hb gX12_findingOf_3.2.2.2.2.2.2.2.1 rfl (lv_at2 hl) ?_
          refine lv_iconst (v := 5) hx hb gX12_findingOf_3.2.2.2.2.2.2.2.2.1 (by decide) ?_
          refine lv_icmp_ne (tgt := 78) hx hb gX12_findingOf_3.2.2.2.2.2.2.2.2.2 (by decide) (fun c_67_5777 => ?_) (fun c_67_5777 => ?_)
          · refine lv_aload_n hx hb gX12_findingOf_4.2.2.2.2.1 rfl (lv_at0 hl) ?_
            refine lv_iload_n hx hb gX12_findingOf_4.2.2.2.2.2.1 rfl (lv_at1 hl) ?_
            refine iV (wr := []) hC hK hl hP hD hS hA (m_isBarred l G h0 jf nw nk mhasKept nt mtaped nr mrowMany mroundOf mroundFrom nm mfromHour mtoHour ns mfrom mto msort misFault mdeep mcoded mlines nl nc nF np ntr nb mbestCost nso nsi nit nsh nsf nss nrc mtraced mdealer mnumber mwhose msize misParted fnw fnm fns fnp (by omega) (hN) (hV) (hM)) si_X12_317 [0, 1, 2, 3, 4] [] sm_0_1_2_3_4 fm_0_1_2_3_4 nd_0_1_2_3_4 rfl rfl (by decide) rfl rfl rfl rfl rfl (Nat.le_of_ble_eq_true rfl) rm_12_11_8 ⟨Nat.le_of_ble_eq_true rfl, Nat.le_of_ble_eq_true rfl⟩ gX12_findingOf_4.2.2.2.2.2.2.1 (fun r5778 => Ktu5 fun fh15780 th15781 gnm5782 gns5783 gnp5784 => ?_)
            intro H locs hr5778 hP hD hS
            try dsimp only at hr5778
            refine Kpdr (ws := [(h0, oX12 nw nk mhasKept nt mtaped nr mrowMany mroundOf mroundFrom 0 nm fh15780 th15781 ns mfrom mto msort misFault mdeep mcoded mlines nl nc nF np ntr nb mbestCost nso nsi nit nsh nsf nss nrc mtraced mdealer mnumber mwhose msize misParted), (nw, iA G 1662 fnw), (nm, iA G 36 gnm5782), (ns, iA G 8 gns5783), (np, iA G 100 gnp5784)]) hP hD (fun hP hD => ?_)
            obtain ⟨hr5778, w5785⟩ := hr5778
            rcases hr5778 with rfl | rfl
            · refine lv_if_eq (tgt := 90) hx hb gX12_findingOf_4.2.2.2.2.2.2.2.1 (by decide) (fun c9 => absurd c9 (by decide)) (fun _ => ?_)
              refine lv_iconst (v := 1) hx hb gX12_findingOf_4.2.2.2.2.2.2.2.2.1 (by decide) ?_
              refine lv_goto (tgt := 91) hx hb gX12_findingOf_4.2.2.2.2.2.2.2.2.2 (by decide) ?_
              refine toQ hQ0 ?_
              exact RI (v := 1) hC hP hD hS [0, 1, 2, 3, 4] (fh15780, th15781, gnm5782, gns5783, gnp5784) rfl rfl (by decide) (⟨trivial, by first | assumption | exact hM⟩) rfl gX12_findingOf_5.2
            · refine lv_if_eq (tgt := 90) hx hb gX12_findingOf_4.2.2.2.2.2.2.2.1 (by decide) (fun _ => ?_) (fun c9 => absurd (by decide) c9)
              refine lv_iconst (v := 0) hx hb gX12_findingOf_5.1 (by decide) ?_
              refine toQ hQ0 ?_
              exact RI (v := 0) hC hP hD hS [0, 1, 2, 3, 4] (fh15780, th15781, gnm5782, gns5783, gnp5784) rfl rfl (by decide) (⟨trivial, by first | assumption | exact hM⟩) rfl gX12_findingOf_5.2
          · refine lv_aload_n hx hb gX12_findingOf_4.1 rfl (lv_at0 hl) ?_
            refine lv_iload_n hx hb gX12_findingOf_4.2.1 rfl (lv_at1 hl) ?_
            refine iV (wr := []) hC hK hl hP hD hS hA (m_leans l G h0 jf nw nk mhasKept nt mtaped nr mrowMany mroundOf mroundFrom nm mfromHour mtoHour ns mfrom mto msort misFault mdeep mcoded mlines nl nc nF np ntr nb mbestCost nso nsi nit nsh nsf nss nrc mtraced mdealer mnumber mwhose msize misParted fnw fnm fns fnp (by omega) (hN) (hV) (hM)) si_X12_311 [0, 1, 2, 3, 4] [] sm_0_1_2_3_4 fm_0_1_2_3_4 nd_0_1_2_3_4 rfl rfl (by decide) rfl rfl rfl rfl rfl (Nat.le_of_ble_eq_true rfl) rm_12_10_5 ⟨Nat.le_of_ble_eq_true rfl, Nat.le_of_ble_eq_true rfl⟩ gX12_findingOf_4.2.2.1 (fun r5787 => Ktu5 fun fh15789 th15790 gnm5791 gns5792 gnp5793 => ?_)
            intro H locs hr5787 hP hD hS
            try dsimp only at hr5787
            refine Kpdr (ws := [(h0, oX12 nw nk mhasKept nt mtaped nr mrowMany mroundOf mroundFrom 0 nm fh15789 th15790 ns mfrom mto msort misFault mdeep mcoded mlines nl nc nF np ntr nb mbestCost nso nsi nit nsh nsf nss nrc mtraced mdealer mnumber mwhose msize misParted), (nw, iA G 1662 fnw), (nm, iA G 36 gnm5791), (ns, iA G 8 gns5792), (np, iA G 100 gnp5793)]) hP hD (fun hP hD => ?_)
            obtain ⟨hr5787, w5794⟩ := hr5787
            refine lv_goto (tgt := 91) hx hb gX12_findingOf_4.2.2.2.1 (by decide) ?_
            refine toQ hQ0 ?_
            exact RI (v := r5787) hC hP hD hS [0, 1, 2, 3, 4] (fh15789, th15790, gnm5791, gns5792, gnp5793) rfl rfl (by decide) (⟨trivial, by first | assumption | exact hM⟩) rfl gX12_findingOf_5.2
        · refine lv_aload_n hx hb gX12_findingOf_2.2.2.2.2.2.2.2.2.2 rfl (lv_at0 hl) ?_
          refine lv_iload_n hx hb gX12_findingOf_3.1 rfl (lv_at1 hl) ?_
          refine iV (wr := []) hC hK hl hP hD hS hA (m_stands l G h0 jf nw nk mhasKept nt mtaped nr mrowMany mroundOf mroundFrom 0 nm mfromHour mtoHour ns mfrom mto msort misFault mdeep mcoded mlines nl nc nF np ntr nb mbestCost nso nsi nit nsh nsf nss nrc mtraced mdealer mnumber mwhose msize misParted fnw fnm fns fnp (by omega) (hN) (hV) (hM)) si_X12_305 [0, 1, 2, 3, 4] [] sm_0_1_2_3_4 fm_0_1_2_3_4 nd_0_1_2_3_4 rfl rfl (by decide) rfl rfl rfl rfl rfl (Nat.le_of_ble_eq_true rfl) rm_12_9_3 ⟨Nat.le_of_ble_eq_true rfl, Nat.le_of_ble_eq_true rfl⟩ gX12_findingOf_3.2.1 (fun r5795 => Ktu5 fun fh15797 th15798 gnm5799 gns5800 gnp5801 => ?_)
          intro H locs hr5795 hP hD hS
          try dsimp only at hr5795
          refine Kpdr (ws := [(h0, oX12 nw nk mhasKept nt mtaped nr mrowMany mroundOf mroundFrom 0 nm fh15797 th15798 ns mfrom mto msort misFault mdeep mcoded mlines nl nc nF np ntr nb mbestCost nso nsi nit nsh nsf nss nrc mtraced mdealer mnumber mwhose msize misParted), (nw, iA G 1662 fnw), (nm, iA G 36 gnm5799), (ns, iA G 8 gns5800), (np, iA G 100 gnp5801)]) hP hD (fun hP hD => ?_)
          obtain ⟨hr5795, w5802⟩ := hr5795
          rcases hr5795 with rfl | rfl
          · refine lv_if_eq (tgt := 61) hx hb gX12_findingOf_3.2.2.1 (by decide) (fun c9 => absurd c9 (by decide)) (fun _ => ?_)
            refine lv_iconst (v := 1) hx hb gX12_findingOf_3.2.2.2.1 (by decide) ?_
            refine lv_goto (tgt := 91) hx hb gX12_findingOf_3.2.2.2.2.1 (by decide) ?_
            refine toQ hQ0 ?_
            exact RI (v := 1) hC hP hD hS [0, 1, 2, 3, 4] (fh15797, th15798, gnm5799, gns5800, gnp5801) rfl rfl (by decide) (⟨trivial, by first | assumption | exact hM⟩) rfl gX12_findingOf_5.2
          · refine lv_if_eq (tgt := 61) hx hb gX12_findingOf_3.2.2.1 (by decide) (fun _ => ?_) (fun c9 => absurd (by decide) c9)
            refine lv_iconst (v := 0) hx hb gX12_findingOf_3.2.2.2.2.2.1 (by decide) ?_
            refine lv_goto (tgt := 91) hx hb gX12_findingOf_3.2.2.2.2.2.2.1 (by decide) ?_
            refine toQ hQ0 ?_
            exact RI (v := 0) hC hP hD hS [0, 1, 2, 3, 4] (fh15797, th15798, gnm5799, gns5800, gnp5801) rfl rfl (by decide) (⟨trivial, by first | assumption | exact hM⟩) rfl gX12_findingOf_5.2
      · obtain ⟨jw, hjw, rfl⟩ := Wi_nat (N := 6) (by decide) a5774
        have hjw4 := nge_nat (R := 4) (k := jw) (by decide) (by omega) c_24_5775
        refine lv_aload_n hx hb gX12_findingOf_1.2.2.2.2.2.1 rfl (lv_at0 hl) ?_
        refine gf_X12_9 hC rfl hK hP 0 rfl rfl gX12_findingOf_1.2.2.2.2.2.2.1 ?_
        refine lv_sipush (v := 1552) hx hb gX12_findingOf_1.2.2.2.2.2.2.2.1 (by decide) ?_
        refine lv_iconst (v := 4) hx hb gX12_findingOf_1.2.2.2.2.2.2.2.2.1 (by decide) ?_
        refine lv_iload_n hx hb gX12_findingOf_1.2.2.2.2.2.2.2.2.2 rfl (lv_at1 hl) ?_
        refine lv_imul hx hb gX12_findingOf_2.1 ?_
        refine eqi (x1 := nI (4 * jf)) (nI_mul 4 jf) ?_
        refine lv_iadd hx hb gX12_findingOf_2.2.1 ?_
        refine eqi (x1 := nI (1552 + 4 * jf)) (nI_add 1552 (4 * jf)) ?_
        refine lv_iload_n hx hb gX12_findingOf_2.2.2.1 rfl (lv_at2 hl) ?_
        refine lv_iadd hx hb gX12_findingOf_2.2.2.2.1 ?_
        refine eqi (x1 := nI (1552 + 4 * jf + jw)) (nI_add (1552 + 4 * jf) jw) ?_
        refine aldN hC hK hP 1 rfl (k := (1552 + 4 * jf + jw)) (by omega) (Nat.le_of_ble_eq_true rfl) (v := fnw (1552 + 4 * jf + jw)) rfl gX12_findingOf_2.2.2.2.2.1 ?_
        refine lv_topi (fun x5804 ex5804 => ?_)
        refine lv_goto (tgt := 91) hx hb gX12_findingOf_2.2.2.2.2.2.1 (by decide) ?_
        refine toQ hQ0 ?_
        exact RI (v := x5804) hC hP hD hS [0, 1, 2, 3, 4] (mfromHour, mtoHour, fnm, fns, fnp) rfl rfl (by decide) (⟨trivial, by first | assumption | exact hM⟩) rfl gX12_findingOf_5.2
    · refine lv_if_ne (tgt := 22) hx hb gX12_findingOf_0.2.2.2.2.2.2.2.2.2 (by decide) (fun c9 => absurd (by decide) c9) (fun _ => ?_)
      refine lv_iconst (v := (-1)) hx hb gX12_findingOf_1.1 (by decide) ?_
      refine toQ hQ0 ?_
      exact RI (v := (-1)) hC hP hD hS [0, 1, 2, 3, 4] (mfromHour, mtoHour, fnm, fns, fnp) rfl rfl (by decide) (⟨trivial, by first | assumption | exact hM⟩) rfl gX12_findingOf_1.2.1
  · refine lv_if_eq (tgt := 20) hx hb gX12_findingOf_0.2.2.2.2.1 (by decide) (fun _ => ?_) (fun c9 => absurd (by decide) c9)
    refine lv_iconst (v := (-1)) hx hb gX12_findingOf_1.1 (by decide) ?_
    refine toQ hQ0 ?_
    exact RI (v := (-1)) hC hP hD hS [0, 1, 2, 3, 4] (mfromHour, mtoHour, fnm, fns, fnp) rfl rfl (by decide) (⟨trivial, by first | assumption | exact hM⟩) rfl gX12_findingOf_1.2.1
