section WR
variable {p : Program} {l : Launch} {e : Env} {R : Room} {s : State} {m : MethodId} {args : Array Value} {below : List Frame} {meth : Method} {c : Code} {H : Heap} {locs : List Loc} {cells slots : Nat} {Q : State → Prop}
variable {pc : Nat} {ls : Array Slot} {rest : List Value} {G : GG} {ws : va_W} {A : Nat → Prop} {y0 : MethodName} {b0 : ByteArray} {mL0 : Nat} {rt0 : Option FieldType} {a : Nat} {H0 : Heap}
theorem gX12_fromLine_0 : (decode cX12_fromLine 0 = .ok (.aload_n 0, 1)) ∧ (decode cX12_fromLine 1 = .ok (.iload_n 1, 1)) ∧ (decode cX12_fromLine 2 = .ok (.iload_n 2, 1)) ∧ (decode cX12_fromLine 3 = .ok (.iconst 0, 1)) ∧ (decode cX12_fromLine 4 = .ok (.invokevirtual 193, 3)) ∧ (decode cX12_fromLine 7 = .ok (.istore 4, 2)) ∧ (decode cX12_fromLine 9 = .ok (.iload 4, 2)) ∧ (decode cX12_fromLine 11 = .ok (.ifCond .eq 9, 3)) ∧ (decode cX12_fromLine 14 = .ok (.iload 4, 2)) ∧ (decode cX12_fromLine 16 = .ok (.iconst 2, 1)) := by decide +kernel
theorem gX12_fromLine_1 : (decode cX12_fromLine 17 = .ok (.if_icmp .ne 13, 3)) ∧ (decode cX12_fromLine 20 = .ok (.aload_n 0, 1)) ∧ (decode cX12_fromLine 21 = .ok (.iload_n 1, 1)) ∧ (decode cX12_fromLine 22 = .ok (.iload_n 2, 1)) ∧ (decode cX12_fromLine 23 = .ok (.iload_n 3, 1)) ∧ (decode cX12_fromLine 24 = .ok (.invokevirtual 196, 3)) ∧ (decode cX12_fromLine 27 = .ok (.ifCond .ne 6, 3)) ∧ (decode cX12_fromLine 30 = .ok (.ldc 175, 2)) ∧ (decode cX12_fromLine 32 = .ok (.ireturn, 1)) ∧ (decode cX12_fromLine 33 = .ok (.iload 4, 2)) := by decide +kernel
theorem m_1222 : Cond.code yX12_holds cX12_holds 12 (some .boolean) ∈ BW := iB_BW65 _ (List.mem_of_getElem? (i := 10) rfl)
theorem m_1220 : Cond.methodLink RX12 196 yX12_holds ∈ BW := iB_BW65 _ (List.mem_of_getElem? (i := 8) rfl)
theorem m_1221 : Cond.instanceMethod yX12_holds ∈ BW := iB_BW65 _ (List.mem_of_getElem? (i := 9) rfl)
theorem m_74 : Cond.selects RX12 yX12_holds yX12_holds ∈ BW := iB_BW3 _ (List.mem_of_getElem? (i := 14) rfl)
theorem si_X12_196 : SV RX12 RX12 196 yX12_holds cX12_holds 12 (some .boolean) 3 := ⟨⟨m_1220, m_1221, m_74, m_115, m_1222⟩, rfl, nK_RX12.1, nK_RX12.2, pd_0⟩
theorem gX12_fromLine_2 : (decode cX12_fromLine 35 = .ok (.iconst 2, 1)) ∧ (decode cX12_fromLine 36 = .ok (.if_icmp .ne 13, 3)) ∧ (decode cX12_fromLine 39 = .ok (.aload_n 0, 1)) ∧ (decode cX12_fromLine 40 = .ok (.iload_n 1, 1)) ∧ (decode cX12_fromLine 41 = .ok (.iload_n 2, 1)) ∧ (decode cX12_fromLine 42 = .ok (.iconst 2, 1)) ∧ (decode cX12_fromLine 43 = .ok (.invokevirtual 193, 3)) ∧ (decode cX12_fromLine 46 = .ok (.goto 15, 3)) ∧ (decode cX12_fromLine 49 = .ok (.aload_n 0, 1)) ∧ (decode cX12_fromLine 50 = .ok (.getfield 29, 3)) := by decide +kernel
theorem m_1043 : Cond.fieldLink RX12 29 "InquiryBenchModel" "should" "[I" ∈ BW := iB_BW55 _ (List.mem_of_getElem? (i := 12) rfl)
theorem gf_X12_29 (hC : CX p s m meth c y0 b0 mL0 rt0 args) (hy0 : y0.cls = RX12) (hK : KK G s) (hP : va_P G.1 vwCl ws H) (q0 : Nat) {fs : List Value} {v : Value} (he : ws[q0]? = some (a, .inr (12, fs))) (hv : fs[13]? = some v) (hdg : decode b0 pc = .ok (.getfield 29, 3)) (kk : W p l e R s m args below meth c H locs cells slots Q (F0 m (pc + 3) ls (v :: rest))) : W p l e R s m args below meth c H locs cells slots Q (F0 m pc ls (.ref a :: rest)) := by
  obtain ⟨hx, hb, hr, hml, hB, hown, hlocks, hnm⟩ := hC
  rw [hy0] at hown
  exact va_get (ci := 12) (C := RX12) (T := TX12) (N := 41) hx hb hB in_X12 hown hK.1 hP q0 he rfl 13 (by decide) (hB _ m_1043) (fun _ h => h) hv hdg kk
theorem gX12_fromLine_3 : (decode cX12_fromLine 53 = .ok (.aload_n 0, 1)) ∧ (decode cX12_fromLine 54 = .ok (.iload_n 1, 1)) ∧ (decode cX12_fromLine 55 = .ok (.iload_n 2, 1)) ∧ (decode cX12_fromLine 56 = .ok (.iconst 3, 1)) ∧ (decode cX12_fromLine 57 = .ok (.invokevirtual 193, 3)) ∧ (decode cX12_fromLine 60 = .ok (.iaload, 1)) ∧ (decode cX12_fromLine 61 = .ok (.istore 5, 2)) ∧ (decode cX12_fromLine 63 = .ok (.iload 4, 2)) ∧ (decode cX12_fromLine 65 = .ok (.iconst 2, 1)) ∧ (decode cX12_fromLine 66 = .ok (.if_icmp .eq 10, 3)) := by decide +kernel
theorem gX12_fromLine_4 : (decode cX12_fromLine 69 = .ok (.iload 5, 2)) ∧ (decode cX12_fromLine 71 = .ok (.ldc 175, 2)) ∧ (decode cX12_fromLine 73 = .ok (.if_icmp .ne 8, 3)) ∧ (decode cX12_fromLine 76 = .ok (.iload 5, 2)) ∧ (decode cX12_fromLine 78 = .ok (.goto 13, 3)) ∧ (decode cX12_fromLine 81 = .ok (.iload 5, 2)) ∧ (decode cX12_fromLine 83 = .ok (.aload_n 0, 1)) ∧ (decode cX12_fromLine 84 = .ok (.iload_n 1, 1)) ∧ (decode cX12_fromLine 85 = .ok (.iload_n 2, 1)) ∧ (decode cX12_fromLine 86 = .ok (.iconst 1, 1)) := by decide +kernel
theorem gX12_fromLine_5 : (decode cX12_fromLine 87 = .ok (.invokevirtual 193, 3)) ∧ (decode cX12_fromLine 90 = .ok (.iadd, 1)) ∧ (decode cX12_fromLine 91 = .ok (.ireturn, 1)) := by decide +kernel
theorem gX12_findShould_0 : (decode cX12_findShould 0 = .ok (.iconst 0, 1)) ∧ (decode cX12_findShould 1 = .ok (.istore_n 2, 1)) ∧ (decode cX12_findShould 2 = .ok (.iload_n 2, 1)) ∧ (decode cX12_findShould 3 = .ok (.bipush 8, 2)) ∧ (decode cX12_findShould 5 = .ok (.if_icmp .ge 22, 3)) ∧ (decode cX12_findShould 8 = .ok (.aload_n 0, 1)) ∧ (decode cX12_findShould 9 = .ok (.getfield 29, 3)) ∧ (decode cX12_findShould 12 = .ok (.iload_n 2, 1)) ∧ (decode cX12_findShould 13 = .ok (.aload_n 0, 1)) ∧ (decode cX12_findShould 14 = .ok (.iload_n 1, 1)) := by decide +kernel
theorem gX12_findShould_1 : (decode cX12_findShould 15 = .ok (.iload_n 2, 1)) ∧ (decode cX12_findShould 16 = .ok (.iconst 1, 1)) ∧ (decode cX12_findShould 17 = .ok (.invokevirtual 176, 3)) ∧ (decode cX12_findShould 20 = .ok (.iastore, 1)) ∧ (decode cX12_findShould 21 = .ok (.iinc 2 1, 3)) ∧ (decode cX12_findShould 24 = .ok (.goto (-22), 3)) ∧ (decode cX12_findShould 27 = .ok (.aload_n 0, 1)) ∧ (decode cX12_findShould 28 = .ok (.invokevirtual 180, 3)) ∧ (decode cX12_findShould 31 = .ok (.istore_n 2, 1)) ∧ (decode cX12_findShould 32 = .ok (.iload_n 2, 1)) := by decide +kernel
theorem m_1210 : Cond.code yX12_rules cX12_rules 3 (some .int) ∈ BW := iB_BW64 _ (List.mem_of_getElem? (i := 18) rfl)
theorem m_1208 : Cond.methodLink RX12 180 yX12_rules ∈ BW := iB_BW64 _ (List.mem_of_getElem? (i := 16) rfl)
theorem m_1209 : Cond.instanceMethod yX12_rules ∈ BW := iB_BW64 _ (List.mem_of_getElem? (i := 17) rfl)
theorem m_70 : Cond.selects RX12 yX12_rules yX12_rules ∈ BW := iB_BW3 _ (List.mem_of_getElem? (i := 10) rfl)
theorem si_X12_180 : SV RX12 RX12 180 yX12_rules cX12_rules 3 (some .int) 0 := ⟨⟨m_1208, m_1209, m_70, m_115, m_1210⟩, rfl, nK_RX12.1, nK_RX12.2, pd_1⟩
theorem gX12_findShould_2 : (decode cX12_findShould 33 = .ok (.ifCond .lt 7, 3)) ∧ (decode cX12_findShould 36 = .ok (.iconst 1, 1)) ∧ (decode cX12_findShould 37 = .ok (.goto 4, 3)) ∧ (decode cX12_findShould 40 = .ok (.iconst 0, 1)) ∧ (decode cX12_findShould 41 = .ok (.istore_n 3, 1)) ∧ (decode cX12_findShould 42 = .ok (.iload_n 3, 1)) ∧ (decode cX12_findShould 43 = .ok (.ifCond .eq 69, 3)) ∧ (decode cX12_findShould 46 = .ok (.iconst 0, 1)) ∧ (decode cX12_findShould 47 = .ok (.istore_n 3, 1)) ∧ (decode cX12_findShould 48 = .ok (.iconst 0, 1)) := by decide +kernel
theorem gX12_findShould_6 : (decode cX12_findShould 103 = .ok (.iinc 4 1, 3)) ∧ (decode cX12_findShould 106 = .ok (.goto (-55), 3)) ∧ (decode cX12_findShould 109 = .ok (.goto (-67), 3)) ∧ (decode cX12_findShould 112 = .ok (.return_, 1)) := by decide +kernel
theorem gX12_findShould_3 : (decode cX12_findShould 49 = .ok (.istore 4, 2)) ∧ (decode cX12_findShould 51 = .ok (.iload 4, 2)) ∧ (decode cX12_findShould 53 = .ok (.aload_n 0, 1)) ∧ (decode cX12_findShould 54 = .ok (.iload_n 2, 1)) ∧ (decode cX12_findShould 55 = .ok (.invokevirtual 183, 3)) ∧ (decode cX12_findShould 58 = .ok (.if_icmp .ge 51, 3)) ∧ (decode cX12_findShould 61 = .ok (.aload_n 0, 1)) ∧ (decode cX12_findShould 62 = .ok (.iload_n 2, 1)) ∧ (decode cX12_findShould 63 = .ok (.iload 4, 2)) ∧ (decode cX12_findShould 65 = .ok (.iload_n 1, 1)) := by decide +kernel
theorem m_1213 : Cond.code yX12_linesOf cX12_linesOf 2 (some .int) ∈ BW := iB_BW65 _ (List.mem_of_getElem? (i := 1) rfl)
theorem m_1211 : Cond.methodLink RX12 183 yX12_linesOf ∈ BW := iB_BW64 _ (List.mem_of_getElem? (i := 19) rfl)
theorem m_1212 : Cond.instanceMethod yX12_linesOf ∈ BW := iB_BW65 _ (List.mem_of_getElem? (i := 0) rfl)
theorem m_71 : Cond.selects RX12 yX12_linesOf yX12_linesOf ∈ BW := iB_BW3 _ (List.mem_of_getElem? (i := 11) rfl)
theorem si_X12_183 : SV RX12 RX12 183 yX12_linesOf cX12_linesOf 2 (some .int) 1 := ⟨⟨m_1211, m_1212, m_71, m_115, m_1213⟩, rfl, nK_RX12.1, nK_RX12.2, pd_7⟩
theorem gX12_findShould_4 : (decode cX12_findShould 66 = .ok (.invokevirtual 186, 3)) ∧ (decode cX12_findShould 69 = .ok (.istore 5, 2)) ∧ (decode cX12_findShould 71 = .ok (.aload_n 0, 1)) ∧ (decode cX12_findShould 72 = .ok (.iload_n 2, 1)) ∧ (decode cX12_findShould 73 = .ok (.iload 4, 2)) ∧ (decode cX12_findShould 75 = .ok (.invokevirtual 190, 3)) ∧ (decode cX12_findShould 78 = .ok (.istore 6, 2)) ∧ (decode cX12_findShould 80 = .ok (.iload 5, 2)) ∧ (decode cX12_findShould 82 = .ok (.aload_n 0, 1)) ∧ (decode cX12_findShould 83 = .ok (.getfield 29, 3)) := by decide +kernel
theorem m_1216 : Cond.code yX12_fromLine cX12_fromLine 6 (some .int) ∈ BW := iB_BW65 _ (List.mem_of_getElem? (i := 4) rfl)
theorem m_1214 : Cond.methodLink RX12 186 yX12_fromLine ∈ BW := iB_BW65 _ (List.mem_of_getElem? (i := 2) rfl)
theorem m_1215 : Cond.instanceMethod yX12_fromLine ∈ BW := iB_BW65 _ (List.mem_of_getElem? (i := 3) rfl)
theorem m_72 : Cond.selects RX12 yX12_fromLine yX12_fromLine ∈ BW := iB_BW3 _ (List.mem_of_getElem? (i := 12) rfl)
theorem si_X12_186 : SV RX12 RX12 186 yX12_fromLine cX12_fromLine 6 (some .int) 3 := ⟨⟨m_1214, m_1215, m_72, m_115, m_1216⟩, rfl, nK_RX12.1, nK_RX12.2, pd_19⟩
theorem m_1228 : Cond.code yX12_thingOf cX12_thingOf 4 (some .int) ∈ BW := iB_BW65 _ (List.mem_of_getElem? (i := 16) rfl)
theorem m_1226 : Cond.methodLink RX12 190 yX12_thingOf ∈ BW := iB_BW65 _ (List.mem_of_getElem? (i := 14) rfl)
theorem m_1227 : Cond.instanceMethod yX12_thingOf ∈ BW := iB_BW65 _ (List.mem_of_getElem? (i := 15) rfl)
theorem m_76 : Cond.selects RX12 yX12_thingOf yX12_thingOf ∈ BW := iB_BW3 _ (List.mem_of_getElem? (i := 16) rfl)
theorem si_X12_190 : SV RX12 RX12 190 yX12_thingOf cX12_thingOf 4 (some .int) 2 := ⟨⟨m_1226, m_1227, m_76, m_115, m_1228⟩, rfl, nK_RX12.1, nK_RX12.2, pd_2⟩
theorem gX12_findShould_5 : (decode cX12_findShould 86 = .ok (.iload 6, 2)) ∧ (decode cX12_findShould 88 = .ok (.iaload, 1)) ∧ (decode cX12_findShould 89 = .ok (.if_icmp .ge 14, 3)) ∧ (decode cX12_findShould 92 = .ok (.aload_n 0, 1)) ∧ (decode cX12_findShould 93 = .ok (.getfield 29, 3)) ∧ (decode cX12_findShould 96 = .ok (.iload 6, 2)) ∧ (decode cX12_findShould 98 = .ok (.iload 5, 2)) ∧ (decode cX12_findShould 100 = .ok (.iastore, 1)) ∧ (decode cX12_findShould 101 = .ok (.iconst 1, 1)) ∧ (decode cX12_findShould 102 = .ok (.istore_n 3, 1)) := by decide +kernel
theorem m_1203 : Cond.code yX12_knewBy cX12_knewBy 7 (some .int) ∈ BW := iB_BW64 _ (List.mem_of_getElem? (i := 11) rfl)
theorem m_1201 : Cond.methodLink RX12 176 yX12_knewBy ∈ BW := iB_BW64 _ (List.mem_of_getElem? (i := 9) rfl)
theorem m_1202 : Cond.instanceMethod yX12_knewBy ∈ BW := iB_BW64 _ (List.mem_of_getElem? (i := 10) rfl)
theorem m_68 : Cond.selects RX12 yX12_knewBy yX12_knewBy ∈ BW := iB_BW3 _ (List.mem_of_getElem? (i := 8) rfl)
theorem si_X12_176 : SV RX12 RX12 176 yX12_knewBy cX12_knewBy 7 (some .int) 3 := ⟨⟨m_1201, m_1202, m_68, m_115, m_1203⟩, rfl, nK_RX12.1, nK_RX12.2, pd_6⟩
theorem gX12_fromOf_0 : (decode cX12_fromOf 0 = .ok (.iload_n 3, 1)) ∧ (decode cX12_fromOf 1 = .ok (.iconst 2, 1)) ∧ (decode cX12_fromOf 2 = .ok (.if_icmp .ge 19, 3)) ∧ (decode cX12_fromOf 5 = .ok (.aload_n 0, 1)) ∧ (decode cX12_fromOf 6 = .ok (.iload_n 1, 1)) ∧ (decode cX12_fromOf 7 = .ok (.iload_n 2, 1)) ∧ (decode cX12_fromOf 8 = .ok (.iload_n 3, 1)) ∧ (decode cX12_fromOf 9 = .ok (.ifCond .ne 7, 3)) ∧ (decode cX12_fromOf 12 = .ok (.iconst 1, 1)) ∧ (decode cX12_fromOf 13 = .ok (.goto 4, 3)) := by decide +kernel
theorem gX12_fromOf_1 : (decode cX12_fromOf 16 = .ok (.iconst 0, 1)) ∧ (decode cX12_fromOf 17 = .ok (.invokevirtual 176, 3)) ∧ (decode cX12_fromOf 20 = .ok (.ireturn, 1)) ∧ (decode cX12_fromOf 21 = .ok (.aload_n 0, 1)) ∧ (decode cX12_fromOf 22 = .ok (.iload_n 1, 1)) ∧ (decode cX12_fromOf 23 = .ok (.invokevirtual 199, 3)) ∧ (decode cX12_fromOf 26 = .ok (.aload_n 0, 1)) ∧ (decode cX12_fromOf 27 = .ok (.getfield 29, 3)) ∧ (decode cX12_fromOf 30 = .ok (.iload_n 2, 1)) ∧ (decode cX12_fromOf 31 = .ok (.iaload, 1)) := by decide +kernel
theorem m_1207 : Cond.code yX12_findShould cX12_findShould 7 none ∈ BW := iB_BW64 _ (List.mem_of_getElem? (i := 15) rfl)
theorem m_1205 : Cond.methodLink RX12 199 yX12_findShould ∈ BW := iB_BW64 _ (List.mem_of_getElem? (i := 13) rfl)
theorem m_1206 : Cond.instanceMethod yX12_findShould ∈ BW := iB_BW64 _ (List.mem_of_getElem? (i := 14) rfl)
theorem m_69 : Cond.selects RX12 yX12_findShould yX12_findShould ∈ BW := iB_BW3 _ (List.mem_of_getElem? (i := 9) rfl)
theorem si_X12_199 : SV RX12 RX12 199 yX12_findShould cX12_findShould 7 none 1 := ⟨⟨m_1205, m_1206, m_69, m_115, m_1207⟩, rfl, nK_RX12.1, nK_RX12.2, pd_18⟩
theorem gX12_fromOf_2 : (decode cX12_fromOf 32 = .ok (.ireturn, 1)) := by decide +kernel
theorem gX12_knew_0 : (decode cX12_knew 0 = .ok (.aload_n 0, 1)) ∧ (decode cX12_knew 1 = .ok (.iload_n 1, 1)) ∧ (decode cX12_knew 2 = .ok (.iconst 4, 1)) ∧ (decode cX12_knew 3 = .ok (.invokevirtual 120, 3)) ∧ (decode cX12_knew 6 = .ok (.ifCond .eq 22, 3)) ∧ (decode cX12_knew 9 = .ok (.iload_n 2, 1)) ∧ (decode cX12_knew 10 = .ok (.iconst 0, 1)) ∧ (decode cX12_knew 11 = .ok (.bipush 7, 2)) ∧ (decode cX12_knew 13 = .ok (.invokestatic 84, 3)) ∧ (decode cX12_knew 16 = .ok (.ifCond .eq 12, 3)) := by decide +kernel
theorem gX12_knew_1 : (decode cX12_knew 19 = .ok (.iload_n 3, 1)) ∧ (decode cX12_knew 20 = .ok (.iconst 0, 1)) ∧ (decode cX12_knew 21 = .ok (.iconst 2, 1)) ∧ (decode cX12_knew 22 = .ok (.invokestatic 84, 3)) ∧ (decode cX12_knew 25 = .ok (.ifCond .ne 5, 3)) ∧ (decode cX12_knew 28 = .ok (.iconst (-1), 1)) ∧ (decode cX12_knew 29 = .ok (.ireturn, 1)) ∧ (decode cX12_knew 30 = .ok (.aload_n 0, 1)) ∧ (decode cX12_knew 31 = .ok (.iload_n 1, 1)) ∧ (decode cX12_knew 32 = .ok (.iload_n 2, 1)) := by decide +kernel
theorem gX12_knew_2 : (decode cX12_knew 33 = .ok (.iload_n 3, 1)) ∧ (decode cX12_knew 34 = .ok (.invokevirtual 203, 3)) ∧ (decode cX12_knew 37 = .ok (.istore 4, 2)) ∧ (decode cX12_knew 39 = .ok (.iload 4, 2)) ∧ (decode cX12_knew 41 = .ok (.ldc 175, 2)) ∧ (decode cX12_knew 43 = .ok (.if_icmp .ne 8, 3)) ∧ (decode cX12_knew 46 = .ok (.bipush (-3), 2)) ∧ (decode cX12_knew 48 = .ok (.goto 9, 3)) ∧ (decode cX12_knew 51 = .ok (.sipush 1000, 3)) ∧ (decode cX12_knew 54 = .ok (.iload 4, 2)) := by decide +kernel
theorem m_1200 : Cond.code yX12_fromOf cX12_fromOf 4 (some .int) ∈ BW := iB_BW64 _ (List.mem_of_getElem? (i := 8) rfl)
theorem m_1198 : Cond.methodLink RX12 203 yX12_fromOf ∈ BW := iB_BW64 _ (List.mem_of_getElem? (i := 6) rfl)
theorem m_1199 : Cond.instanceMethod yX12_fromOf ∈ BW := iB_BW64 _ (List.mem_of_getElem? (i := 7) rfl)
theorem m_67 : Cond.selects RX12 yX12_fromOf yX12_fromOf ∈ BW := iB_BW3 _ (List.mem_of_getElem? (i := 7) rfl)
theorem si_X12_203 : SV RX12 RX12 203 yX12_fromOf cX12_fromOf 4 (some .int) 3 := ⟨⟨m_1198, m_1199, m_67, m_115, m_1200⟩, rfl, nK_RX12.1, nK_RX12.2, pd_19⟩
theorem gX12_knew_3 : (decode cX12_knew 56 = .ok (.iadd, 1)) ∧ (decode cX12_knew 57 = .ok (.ireturn, 1)) := by decide +kernel
theorem gX12_why_0 : (decode cX12_why 0 = .ok (.aload_n 0, 1)) ∧ (decode cX12_why 1 = .ok (.iload_n 1, 1)) ∧ (decode cX12_why 2 = .ok (.iconst 4, 1)) ∧ (decode cX12_why 3 = .ok (.invokevirtual 120, 3)) ∧ (decode cX12_why 6 = .ok (.ifCond .eq 13, 3)) ∧ (decode cX12_why 9 = .ok (.iload_n 2, 1)) ∧ (decode cX12_why 10 = .ok (.iconst 0, 1)) ∧ (decode cX12_why 11 = .ok (.bipush 7, 2)) ∧ (decode cX12_why 13 = .ok (.invokestatic 84, 3)) ∧ (decode cX12_why 16 = .ok (.ifCond .ne 5, 3)) := by decide +kernel
theorem gX12_why_1 : (decode cX12_why 19 = .ok (.iconst (-1), 1)) ∧ (decode cX12_why 20 = .ok (.ireturn, 1)) ∧ (decode cX12_why 21 = .ok (.aload_n 0, 1)) ∧ (decode cX12_why 22 = .ok (.iload_n 1, 1)) ∧ (decode cX12_why 23 = .ok (.invokevirtual 199, 3)) ∧ (decode cX12_why 26 = .ok (.aload_n 0, 1)) ∧ (decode cX12_why 27 = .ok (.invokevirtual 180, 3)) ∧ (decode cX12_why 30 = .ok (.istore_n 3, 1)) ∧ (decode cX12_why 31 = .ok (.aload_n 0, 1)) ∧ (decode cX12_why 32 = .ok (.getfield 29, 3)) := by decide +kernel
theorem gX12_why_2 : (decode cX12_why 35 = .ok (.iload_n 2, 1)) ∧ (decode cX12_why 36 = .ok (.iaload, 1)) ∧ (decode cX12_why 37 = .ok (.ldc 175, 2)) ∧ (decode cX12_why 39 = .ok (.if_icmp .eq 19, 3)) ∧ (decode cX12_why 42 = .ok (.aload_n 0, 1)) ∧ (decode cX12_why 43 = .ok (.getfield 29, 3)) ∧ (decode cX12_why 46 = .ok (.iload_n 2, 1)) ∧ (decode cX12_why 47 = .ok (.iaload, 1)) ∧ (decode cX12_why 48 = .ok (.aload_n 0, 1)) ∧ (decode cX12_why 49 = .ok (.iload_n 1, 1)) := by decide +kernel
theorem gX12_why_3 : (decode cX12_why 50 = .ok (.iload_n 2, 1)) ∧ (decode cX12_why 51 = .ok (.iconst 1, 1)) ∧ (decode cX12_why 52 = .ok (.invokevirtual 176, 3)) ∧ (decode cX12_why 55 = .ok (.if_icmp .ne 6, 3)) ∧ (decode cX12_why 58 = .ok (.bipush (-3), 2)) ∧ (decode cX12_why 60 = .ok (.ireturn, 1)) ∧ (decode cX12_why 61 = .ok (.iconst 0, 1)) ∧ (decode cX12_why 62 = .ok (.istore 4, 2)) ∧ (decode cX12_why 64 = .ok (.iload 4, 2)) ∧ (decode cX12_why 66 = .ok (.aload_n 0, 1)) := by decide +kernel
theorem gX12_why_4 : (decode cX12_why 67 = .ok (.iload_n 3, 1)) ∧ (decode cX12_why 68 = .ok (.invokevirtual 183, 3)) ∧ (decode cX12_why 71 = .ok (.if_icmp .ge 40, 3)) ∧ (decode cX12_why 74 = .ok (.aload_n 0, 1)) ∧ (decode cX12_why 75 = .ok (.iload_n 3, 1)) ∧ (decode cX12_why 76 = .ok (.iload 4, 2)) ∧ (decode cX12_why 78 = .ok (.invokevirtual 190, 3)) ∧ (decode cX12_why 81 = .ok (.iload_n 2, 1)) ∧ (decode cX12_why 82 = .ok (.if_icmp .ne 23, 3)) ∧ (decode cX12_why 85 = .ok (.aload_n 0, 1)) := by decide +kernel
theorem gX12_why_6 : (decode cX12_why 104 = .ok (.ireturn, 1)) ∧ (decode cX12_why 105 = .ok (.iinc 4 1, 3)) ∧ (decode cX12_why 108 = .ok (.goto (-44), 3)) ∧ (decode cX12_why 111 = .ok (.bipush (-3), 2)) ∧ (decode cX12_why 113 = .ok (.ireturn, 1)) := by decide +kernel
theorem gX12_why_5 : (decode cX12_why 86 = .ok (.iload_n 3, 1)) ∧ (decode cX12_why 87 = .ok (.iload 4, 2)) ∧ (decode cX12_why 89 = .ok (.iload_n 1, 1)) ∧ (decode cX12_why 90 = .ok (.invokevirtual 186, 3)) ∧ (decode cX12_why 93 = .ok (.aload_n 0, 1)) ∧ (decode cX12_why 94 = .ok (.getfield 29, 3)) ∧ (decode cX12_why 97 = .ok (.iload_n 2, 1)) ∧ (decode cX12_why 98 = .ok (.iaload, 1)) ∧ (decode cX12_why 99 = .ok (.if_icmp .ne 6, 3)) ∧ (decode cX12_why 102 = .ok (.iload 4, 2)) := by decide +kernel
theorem gX12_stands_0 : (decode cX12_stands 0 = .ok (.sipush 1552, 3)) ∧ (decode cX12_stands 3 = .ok (.iconst 4, 1)) ∧ (decode cX12_stands 4 = .ok (.iload_n 1, 1)) ∧ (decode cX12_stands 5 = .ok (.imul, 1)) ∧ (decode cX12_stands 6 = .ok (.iadd, 1)) ∧ (decode cX12_stands 7 = .ok (.istore_n 2, 1)) ∧ (decode cX12_stands 8 = .ok (.aload_n 0, 1)) ∧ (decode cX12_stands 9 = .ok (.getfield 9, 3)) ∧ (decode cX12_stands 12 = .ok (.iload_n 2, 1)) ∧ (decode cX12_stands 13 = .ok (.iconst 2, 1)) := by decide +kernel
theorem gX12_stands_1 : (decode cX12_stands 14 = .ok (.iadd, 1)) ∧ (decode cX12_stands 15 = .ok (.iaload, 1)) ∧ (decode cX12_stands 16 = .ok (.aload_n 0, 1)) ∧ (decode cX12_stands 17 = .ok (.aload_n 0, 1)) ∧ (decode cX12_stands 18 = .ok (.getfield 9, 3)) ∧ (decode cX12_stands 21 = .ok (.iload_n 2, 1)) ∧ (decode cX12_stands 22 = .ok (.iconst 0, 1)) ∧ (decode cX12_stands 23 = .ok (.iadd, 1)) ∧ (decode cX12_stands 24 = .ok (.iaload, 1)) ∧ (decode cX12_stands 25 = .ok (.aload_n 0, 1)) := by decide +kernel
theorem gX12_stands_2 : (decode cX12_stands 26 = .ok (.getfield 9, 3)) ∧ (decode cX12_stands 29 = .ok (.iload_n 2, 1)) ∧ (decode cX12_stands 30 = .ok (.iconst 1, 1)) ∧ (decode cX12_stands 31 = .ok (.iadd, 1)) ∧ (decode cX12_stands 32 = .ok (.iaload, 1)) ∧ (decode cX12_stands 33 = .ok (.aload_n 0, 1)) ∧ (decode cX12_stands 34 = .ok (.getfield 9, 3)) ∧ (decode cX12_stands 37 = .ok (.iload_n 2, 1)) ∧ (decode cX12_stands 38 = .ok (.iconst 3, 1)) ∧ (decode cX12_stands 39 = .ok (.iadd, 1)) := by decide +kernel
theorem gX12_stands_3 : (decode cX12_stands 40 = .ok (.iaload, 1)) ∧ (decode cX12_stands 41 = .ok (.invokevirtual 203, 3)) ∧ (decode cX12_stands 44 = .ok (.if_icmp .lt 7, 3)) ∧ (decode cX12_stands 47 = .ok (.iconst 1, 1)) ∧ (decode cX12_stands 48 = .ok (.goto 4, 3)) ∧ (decode cX12_stands 51 = .ok (.iconst 0, 1)) ∧ (decode cX12_stands 52 = .ok (.ireturn, 1)) := by decide +kernel
theorem gX12_leans_0 : (decode cX12_leans 0 = .ok (.aload_n 0, 1)) ∧ (decode cX12_leans 1 = .ok (.iload_n 1, 1)) ∧ (decode cX12_leans 2 = .ok (.invokevirtual 305, 3)) ∧ (decode cX12_leans 5 = .ok (.ifCond .eq 10, 3)) ∧ (decode cX12_leans 8 = .ok (.aload_n 0, 1)) ∧ (decode cX12_leans 9 = .ok (.invokevirtual 107, 3)) ∧ (decode cX12_leans 12 = .ok (.goto 4, 3)) ∧ (decode cX12_leans 15 = .ok (.iconst 0, 1)) ∧ (decode cX12_leans 16 = .ok (.istore_n 2, 1)) ∧ (decode cX12_leans 17 = .ok (.iconst 0, 1)) := by decide +kernel
theorem m_1309 : Cond.code yX12_stands cX12_stands 3 (some .boolean) ∈ BW := iB_BW69 _ (List.mem_of_getElem? (i := 17) rfl)
theorem m_1307 : Cond.methodLink RX12 305 yX12_stands ∈ BW := iB_BW69 _ (List.mem_of_getElem? (i := 15) rfl)
theorem m_1308 : Cond.instanceMethod yX12_stands ∈ BW := iB_BW69 _ (List.mem_of_getElem? (i := 16) rfl)
theorem m_90 : Cond.selects RX12 yX12_stands yX12_stands ∈ BW := iB_BW4 _ (List.mem_of_getElem? (i := 10) rfl)
theorem si_X12_305 : SV RX12 RX12 305 yX12_stands cX12_stands 3 (some .boolean) 1 := ⟨⟨m_1307, m_1308, m_90, m_115, m_1309⟩, rfl, nK_RX12.1, nK_RX12.2, pd_5⟩
theorem m_1084 : Cond.code yX12_inView cX12_inView 3 (some .int) ∈ BW := iB_BW57 _ (List.mem_of_getElem? (i := 13) rfl)
theorem m_1082 : Cond.methodLink RX12 107 yX12_inView ∈ BW := iB_BW57 _ (List.mem_of_getElem? (i := 11) rfl)
theorem m_1083 : Cond.instanceMethod yX12_inView ∈ BW := iB_BW57 _ (List.mem_of_getElem? (i := 12) rfl)
theorem m_48 : Cond.selects RX12 yX12_inView yX12_inView ∈ BW := iB_BW2 _ (List.mem_of_getElem? (i := 8) rfl)
theorem si_X12_107 : SV RX12 RX12 107 yX12_inView cX12_inView 3 (some .int) 0 := ⟨⟨m_1082, m_1083, m_48, m_115, m_1084⟩, rfl, nK_RX12.1, nK_RX12.2, pd_1⟩
theorem gX12_leans_1 : (decode cX12_leans 18 = .ok (.istore_n 3, 1)) ∧ (decode cX12_leans 19 = .ok (.iconst 0, 1)) ∧ (decode cX12_leans 20 = .ok (.istore 4, 2)) ∧ (decode cX12_leans 22 = .ok (.iload 4, 2)) ∧ (decode cX12_leans 24 = .ok (.aload_n 0, 1)) ∧ (decode cX12_leans 25 = .ok (.getfield 9, 3)) ∧ (decode cX12_leans 28 = .ok (.iconst 5, 1)) ∧ (decode cX12_leans 29 = .ok (.iaload, 1)) ∧ (decode cX12_leans 30 = .ok (.if_icmp .ge 50, 3)) ∧ (decode cX12_leans 33 = .ok (.iload_n 2, 1)) := by decide +kernel
theorem gX12_leans_4 : (decode cX12_leans 69 = .ok (.aload_n 0, 1)) ∧ (decode cX12_leans 70 = .ok (.iconst 0, 1)) ∧ (decode cX12_leans 71 = .ok (.putfield 96, 3)) ∧ (decode cX12_leans 74 = .ok (.iinc 4 1, 3)) ∧ (decode cX12_leans 77 = .ok (.goto (-55), 3)) ∧ (decode cX12_leans 80 = .ok (.iload_n 3, 1)) ∧ (decode cX12_leans 81 = .ok (.ireturn, 1)) := by decide +kernel
theorem gX12_leans_2 : (decode cX12_leans 34 = .ok (.iload 4, 2)) ∧ (decode cX12_leans 36 = .ok (.invokestatic 99, 3)) ∧ (decode cX12_leans 39 = .ok (.ifCond .eq 35, 3)) ∧ (decode cX12_leans 42 = .ok (.aload_n 0, 1)) ∧ (decode cX12_leans 43 = .ok (.iconst 1, 1)) ∧ (decode cX12_leans 44 = .ok (.iload 4, 2)) ∧ (decode cX12_leans 46 = .ok (.ishl, 1)) ∧ (decode cX12_leans 47 = .ok (.putfield 96, 3)) ∧ (decode cX12_leans 50 = .ok (.iload_n 3, 1)) ∧ (decode cX12_leans 51 = .ok (.aload_n 0, 1)) := by decide +kernel
theorem gX12_leans_3 : (decode cX12_leans 52 = .ok (.iload_n 1, 1)) ∧ (decode cX12_leans 53 = .ok (.invokevirtual 305, 3)) ∧ (decode cX12_leans 56 = .ok (.ifCond .eq 7, 3)) ∧ (decode cX12_leans 59 = .ok (.iconst 0, 1)) ∧ (decode cX12_leans 60 = .ok (.goto 7, 3)) ∧ (decode cX12_leans 63 = .ok (.iconst 1, 1)) ∧ (decode cX12_leans 64 = .ok (.iload 4, 2)) ∧ (decode cX12_leans 66 = .ok (.ishl, 1)) ∧ (decode cX12_leans 67 = .ok (.ior, 1)) ∧ (decode cX12_leans 68 = .ok (.istore_n 3, 1)) := by decide +kernel
theorem gX12_asked_0 : (decode cX12_asked 0 = .ok (.aload_n 0, 1)) ∧ (decode cX12_asked 1 = .ok (.invokevirtual 180, 3)) ∧ (decode cX12_asked 4 = .ok (.istore_n 3, 1)) ∧ (decode cX12_asked 5 = .ok (.iconst (-1), 1)) ∧ (decode cX12_asked 6 = .ok (.istore 4, 2)) ∧ (decode cX12_asked 8 = .ok (.iconst 0, 1)) ∧ (decode cX12_asked 9 = .ok (.istore 5, 2)) ∧ (decode cX12_asked 11 = .ok (.iload 5, 2)) ∧ (decode cX12_asked 13 = .ok (.aload_n 0, 1)) ∧ (decode cX12_asked 14 = .ok (.iload_n 3, 1)) := by decide +kernel
theorem gX12_asked_1 : (decode cX12_asked 15 = .ok (.invokevirtual 183, 3)) ∧ (decode cX12_asked 18 = .ok (.if_icmp .ge 69, 3)) ∧ (decode cX12_asked 21 = .ok (.aload_n 0, 1)) ∧ (decode cX12_asked 22 = .ok (.iload_n 3, 1)) ∧ (decode cX12_asked 23 = .ok (.iload 5, 2)) ∧ (decode cX12_asked 25 = .ok (.iconst 0, 1)) ∧ (decode cX12_asked 26 = .ok (.invokevirtual 193, 3)) ∧ (decode cX12_asked 29 = .ok (.iload_n 2, 1)) ∧ (decode cX12_asked 30 = .ok (.if_icmp .ne 28, 3)) ∧ (decode cX12_asked 33 = .ok (.iload_n 2, 1)) := by decide +kernel
theorem gX12_asked_4 : (decode cX12_asked 71 = .ok (.invokevirtual 193, 3)) ∧ (decode cX12_asked 74 = .ok (.goto 5, 3)) ∧ (decode cX12_asked 77 = .ok (.iload 4, 2)) ∧ (decode cX12_asked 79 = .ok (.istore 4, 2)) ∧ (decode cX12_asked 81 = .ok (.iinc 5 1, 3)) ∧ (decode cX12_asked 84 = .ok (.goto (-73), 3)) ∧ (decode cX12_asked 87 = .ok (.iconst 0, 1)) ∧ (decode cX12_asked 88 = .ok (.iload 4, 2)) ∧ (decode cX12_asked 90 = .ok (.invokestatic 308, 3)) ∧ (decode cX12_asked 93 = .ok (.ireturn, 1)) := by decide +kernel
theorem m_1319 : Cond.methodLink RX12 308 Lib.Math.max.name ∈ BW := iB_BW70 _ (List.mem_of_getElem? (i := 7) rfl)
theorem m_142 : Cond.static Lib.Math.max.name ∈ BW := iB_BW8 _ (List.mem_of_getElem? (i := 0) rfl)
theorem m_143 : Cond.code Lib.Math.max.name Lib.Math.max.code 2 (some .int) ∈ BW := iB_BW8 _ (List.mem_of_getElem? (i := 1) rfl)
theorem gX12_asked_3 : (decode cX12_asked 54 = .ok (.iconst 1, 1)) ∧ (decode cX12_asked 55 = .ok (.goto 4, 3)) ∧ (decode cX12_asked 58 = .ok (.iconst 0, 1)) ∧ (decode cX12_asked 59 = .ok (.istore 6, 2)) ∧ (decode cX12_asked 61 = .ok (.iload 6, 2)) ∧ (decode cX12_asked 63 = .ok (.ifCond .eq 14, 3)) ∧ (decode cX12_asked 66 = .ok (.aload_n 0, 1)) ∧ (decode cX12_asked 67 = .ok (.iload_n 3, 1)) ∧ (decode cX12_asked 68 = .ok (.iload 5, 2)) ∧ (decode cX12_asked 70 = .ok (.iconst 1, 1)) := by decide +kernel
theorem gX12_asked_2 : (decode cX12_asked 34 = .ok (.iconst 3, 1)) ∧ (decode cX12_asked 35 = .ok (.if_icmp .eq 19, 3)) ∧ (decode cX12_asked 38 = .ok (.iload 4, 2)) ∧ (decode cX12_asked 40 = .ok (.ifCond .ge 18, 3)) ∧ (decode cX12_asked 43 = .ok (.aload_n 0, 1)) ∧ (decode cX12_asked 44 = .ok (.iload_n 3, 1)) ∧ (decode cX12_asked 45 = .ok (.iload 5, 2)) ∧ (decode cX12_asked 47 = .ok (.iload_n 1, 1)) ∧ (decode cX12_asked 48 = .ok (.invokevirtual 196, 3)) ∧ (decode cX12_asked 51 = .ok (.ifCond .eq 7, 3)) := by decide +kernel
theorem gX12_isBarred_0 : (decode cX12_isBarred 0 = .ok (.aload_n 0, 1)) ∧ (decode cX12_isBarred 1 = .ok (.getfield 9, 3)) ∧ (decode cX12_isBarred 4 = .ok (.sipush 1552, 3)) ∧ (decode cX12_isBarred 7 = .ok (.iconst 4, 1)) ∧ (decode cX12_isBarred 8 = .ok (.iload_n 1, 1)) ∧ (decode cX12_isBarred 9 = .ok (.imul, 1)) ∧ (decode cX12_isBarred 10 = .ok (.iadd, 1)) ∧ (decode cX12_isBarred 11 = .ok (.iconst 0, 1)) ∧ (decode cX12_isBarred 12 = .ok (.iadd, 1)) ∧ (decode cX12_isBarred 13 = .ok (.iaload, 1)) := by decide +kernel
theorem gX12_isBarred_1 : (decode cX12_isBarred 14 = .ok (.istore_n 2, 1)) ∧ (decode cX12_isBarred 15 = .ok (.aload_n 0, 1)) ∧ (decode cX12_isBarred 16 = .ok (.iload_n 1, 1)) ∧ (decode cX12_isBarred 17 = .ok (.invokevirtual 311, 3)) ∧ (decode cX12_isBarred 20 = .ok (.istore_n 3, 1)) ∧ (decode cX12_isBarred 21 = .ok (.aload_n 0, 1)) ∧ (decode cX12_isBarred 22 = .ok (.iload_n 2, 1)) ∧ (decode cX12_isBarred 23 = .ok (.iconst 1, 1)) ∧ (decode cX12_isBarred 24 = .ok (.invokevirtual 314, 3)) ∧ (decode cX12_isBarred 27 = .ok (.istore 4, 2)) := by decide +kernel
theorem m_1312 : Cond.code yX12_leans cX12_leans 5 (some .int) ∈ BW := iB_BW70 _ (List.mem_of_getElem? (i := 0) rfl)
theorem m_1310 : Cond.methodLink RX12 311 yX12_leans ∈ BW := iB_BW69 _ (List.mem_of_getElem? (i := 18) rfl)
theorem m_1311 : Cond.instanceMethod yX12_leans ∈ BW := iB_BW69 _ (List.mem_of_getElem? (i := 19) rfl)
theorem m_91 : Cond.selects RX12 yX12_leans yX12_leans ∈ BW := iB_BW4 _ (List.mem_of_getElem? (i := 11) rfl)
theorem si_X12_311 : SV RX12 RX12 311 yX12_leans cX12_leans 5 (some .int) 1 := ⟨⟨m_1310, m_1311, m_91, m_115, m_1312⟩, rfl, nK_RX12.1, nK_RX12.2, pd_7⟩
theorem m_1318 : Cond.code yX12_asked cX12_asked 7 (some .int) ∈ BW := iB_BW70 _ (List.mem_of_getElem? (i := 6) rfl)
theorem m_1316 : Cond.methodLink RX12 314 yX12_asked ∈ BW := iB_BW70 _ (List.mem_of_getElem? (i := 4) rfl)
theorem m_1317 : Cond.instanceMethod yX12_asked ∈ BW := iB_BW70 _ (List.mem_of_getElem? (i := 5) rfl)
theorem m_93 : Cond.selects RX12 yX12_asked yX12_asked ∈ BW := iB_BW4 _ (List.mem_of_getElem? (i := 13) rfl)
theorem si_X12_314 : SV RX12 RX12 314 yX12_asked cX12_asked 7 (some .int) 2 := ⟨⟨m_1316, m_1317, m_93, m_115, m_1318⟩, rfl, nK_RX12.1, nK_RX12.2, pd_2⟩
theorem gX12_isBarred_2 : (decode cX12_isBarred 29 = .ok (.iconst 0, 1)) ∧ (decode cX12_isBarred 30 = .ok (.istore 5, 2)) ∧ (decode cX12_isBarred 32 = .ok (.iload 5, 2)) ∧ (decode cX12_isBarred 34 = .ok (.aload_n 0, 1)) ∧ (decode cX12_isBarred 35 = .ok (.getfield 9, 3)) ∧ (decode cX12_isBarred 38 = .ok (.bipush 10, 2)) ∧ (decode cX12_isBarred 40 = .ok (.iaload, 1)) ∧ (decode cX12_isBarred 41 = .ok (.if_icmp .ge 97, 3)) ∧ (decode cX12_isBarred 44 = .ok (.sipush 1600, 3)) ∧ (decode cX12_isBarred 47 = .ok (.iconst 3, 1)) := by decide +kernel
theorem gX12_isBarred_8 : (decode cX12_isBarred 131 = .ok (.istore_n 3, 1)) ∧ (decode cX12_isBarred 132 = .ok (.iinc 5 1, 3)) ∧ (decode cX12_isBarred 135 = .ok (.goto (-103), 3)) ∧ (decode cX12_isBarred 138 = .ok (.iload_n 3, 1)) ∧ (decode cX12_isBarred 139 = .ok (.ifCond .ne 17, 3)) ∧ (decode cX12_isBarred 142 = .ok (.aload_n 0, 1)) ∧ (decode cX12_isBarred 143 = .ok (.iload_n 2, 1)) ∧ (decode cX12_isBarred 144 = .ok (.invokevirtual 127, 3)) ∧ (decode cX12_isBarred 147 = .ok (.aload_n 0, 1)) ∧ (decode cX12_isBarred 148 = .ok (.iload_n 2, 1)) := by decide +kernel
theorem gX12_isBarred_9 : (decode cX12_isBarred 149 = .ok (.iconst 3, 1)) ∧ (decode cX12_isBarred 150 = .ok (.invokevirtual 314, 3)) ∧ (decode cX12_isBarred 153 = .ok (.if_icmp .ge 7, 3)) ∧ (decode cX12_isBarred 156 = .ok (.iconst 1, 1)) ∧ (decode cX12_isBarred 157 = .ok (.goto 4, 3)) ∧ (decode cX12_isBarred 160 = .ok (.iconst 0, 1)) ∧ (decode cX12_isBarred 161 = .ok (.ireturn, 1)) := by decide +kernel
theorem m_1116 : Cond.code yX12_saidBy cX12_saidBy 4 (some .int) ∈ BW := iB_BW59 _ (List.mem_of_getElem? (i := 5) rfl)
theorem m_1114 : Cond.methodLink RX12 127 yX12_saidBy ∈ BW := iB_BW59 _ (List.mem_of_getElem? (i := 3) rfl)
theorem m_1115 : Cond.instanceMethod yX12_saidBy ∈ BW := iB_BW59 _ (List.mem_of_getElem? (i := 4) rfl)
theorem m_54 : Cond.selects RX12 yX12_saidBy yX12_saidBy ∈ BW := iB_BW2 _ (List.mem_of_getElem? (i := 14) rfl)
theorem si_X12_127 : SV RX12 RX12 127 yX12_saidBy cX12_saidBy 4 (some .int) 1 := ⟨⟨m_1114, m_1115, m_54, m_115, m_1116⟩, rfl, nK_RX12.1, nK_RX12.2, pd_7⟩
theorem gX12_isBarred_3 : (decode cX12_isBarred 48 = .ok (.iload 5, 2)) ∧ (decode cX12_isBarred 50 = .ok (.imul, 1)) ∧ (decode cX12_isBarred 51 = .ok (.iadd, 1)) ∧ (decode cX12_isBarred 52 = .ok (.istore 6, 2)) ∧ (decode cX12_isBarred 54 = .ok (.aload_n 0, 1)) ∧ (decode cX12_isBarred 55 = .ok (.getfield 9, 3)) ∧ (decode cX12_isBarred 58 = .ok (.iload 6, 2)) ∧ (decode cX12_isBarred 60 = .ok (.iaload, 1)) ∧ (decode cX12_isBarred 61 = .ok (.iload_n 2, 1)) ∧ (decode cX12_isBarred 62 = .ok (.if_icmp .ne 42, 3)) := by decide +kernel
theorem gX12_isBarred_6 : (decode cX12_isBarred 100 = .ok (.iconst 1, 1)) ∧ (decode cX12_isBarred 101 = .ok (.goto 4, 3)) ∧ (decode cX12_isBarred 104 = .ok (.iconst 0, 1)) ∧ (decode cX12_isBarred 105 = .ok (.istore 7, 2)) ∧ (decode cX12_isBarred 107 = .ok (.iload_n 3, 1)) ∧ (decode cX12_isBarred 108 = .ok (.iload 7, 2)) ∧ (decode cX12_isBarred 110 = .ok (.ifCond .eq 19, 3)) ∧ (decode cX12_isBarred 113 = .ok (.iconst 1, 1)) ∧ (decode cX12_isBarred 114 = .ok (.aload_n 0, 1)) ∧ (decode cX12_isBarred 115 = .ok (.getfield 9, 3)) := by decide +kernel
theorem gX12_isBarred_7 : (decode cX12_isBarred 118 = .ok (.iload 6, 2)) ∧ (decode cX12_isBarred 120 = .ok (.iconst 1, 1)) ∧ (decode cX12_isBarred 121 = .ok (.iadd, 1)) ∧ (decode cX12_isBarred 122 = .ok (.iaload, 1)) ∧ (decode cX12_isBarred 123 = .ok (.ishl, 1)) ∧ (decode cX12_isBarred 124 = .ok (.iconst (-1), 1)) ∧ (decode cX12_isBarred 125 = .ok (.ixor, 1)) ∧ (decode cX12_isBarred 126 = .ok (.goto 4, 3)) ∧ (decode cX12_isBarred 129 = .ok (.iconst (-1), 1)) ∧ (decode cX12_isBarred 130 = .ok (.iand, 1)) := by decide +kernel
theorem gX12_isBarred_4 : (decode cX12_isBarred 65 = .ok (.aload_n 0, 1)) ∧ (decode cX12_isBarred 66 = .ok (.getfield 9, 3)) ∧ (decode cX12_isBarred 69 = .ok (.iload 6, 2)) ∧ (decode cX12_isBarred 71 = .ok (.iconst 2, 1)) ∧ (decode cX12_isBarred 72 = .ok (.iadd, 1)) ∧ (decode cX12_isBarred 73 = .ok (.iaload, 1)) ∧ (decode cX12_isBarred 74 = .ok (.aload_n 0, 1)) ∧ (decode cX12_isBarred 75 = .ok (.invokevirtual 92, 3)) ∧ (decode cX12_isBarred 78 = .ok (.if_icmp .gt 26, 3)) ∧ (decode cX12_isBarred 81 = .ok (.aload_n 0, 1)) := by decide +kernel
theorem gX12_isBarred_5 : (decode cX12_isBarred 82 = .ok (.invokevirtual 92, 3)) ∧ (decode cX12_isBarred 85 = .ok (.aload_n 0, 1)) ∧ (decode cX12_isBarred 86 = .ok (.getfield 9, 3)) ∧ (decode cX12_isBarred 89 = .ok (.iload 6, 2)) ∧ (decode cX12_isBarred 91 = .ok (.iconst 2, 1)) ∧ (decode cX12_isBarred 92 = .ok (.iadd, 1)) ∧ (decode cX12_isBarred 93 = .ok (.iaload, 1)) ∧ (decode cX12_isBarred 94 = .ok (.isub, 1)) ∧ (decode cX12_isBarred 95 = .ok (.iload 4, 2)) ∧ (decode cX12_isBarred 97 = .ok (.if_icmp .lt 7, 3)) := by decide +kernel
theorem gX12_findingOf_0 : (decode cX12_findingOf 0 = .ok (.aload_n 0, 1)) ∧ (decode cX12_findingOf 1 = .ok (.iload_n 1, 1)) ∧ (decode cX12_findingOf 2 = .ok (.bipush 9, 2)) ∧ (decode cX12_findingOf 4 = .ok (.invokevirtual 120, 3)) ∧ (decode cX12_findingOf 7 = .ok (.ifCond .eq 13, 3)) ∧ (decode cX12_findingOf 10 = .ok (.iload_n 2, 1)) ∧ (decode cX12_findingOf 11 = .ok (.iconst 0, 1)) ∧ (decode cX12_findingOf 12 = .ok (.bipush 6, 2)) ∧ (decode cX12_findingOf 14 = .ok (.invokestatic 84, 3)) ∧ (decode cX12_findingOf 17 = .ok (.ifCond .ne 5, 3)) := by decide +kernel
theorem gX12_findingOf_1 : (decode cX12_findingOf 20 = .ok (.iconst (-1), 1)) ∧ (decode cX12_findingOf 21 = .ok (.ireturn, 1)) ∧ (decode cX12_findingOf 22 = .ok (.iload_n 2, 1)) ∧ (decode cX12_findingOf 23 = .ok (.iconst 4, 1)) ∧ (decode cX12_findingOf 24 = .ok (.if_icmp .ge 20, 3)) ∧ (decode cX12_findingOf 27 = .ok (.aload_n 0, 1)) ∧ (decode cX12_findingOf 28 = .ok (.getfield 9, 3)) ∧ (decode cX12_findingOf 31 = .ok (.sipush 1552, 3)) ∧ (decode cX12_findingOf 34 = .ok (.iconst 4, 1)) ∧ (decode cX12_findingOf 35 = .ok (.iload_n 1, 1)) := by decide +kernel
theorem gX12_findingOf_2 : (decode cX12_findingOf 36 = .ok (.imul, 1)) ∧ (decode cX12_findingOf 37 = .ok (.iadd, 1)) ∧ (decode cX12_findingOf 38 = .ok (.iload_n 2, 1)) ∧ (decode cX12_findingOf 39 = .ok (.iadd, 1)) ∧ (decode cX12_findingOf 40 = .ok (.iaload, 1)) ∧ (decode cX12_findingOf 41 = .ok (.goto 50, 3)) ∧ (decode cX12_findingOf 44 = .ok (.iload_n 2, 1)) ∧ (decode cX12_findingOf 45 = .ok (.iconst 4, 1)) ∧ (decode cX12_findingOf 46 = .ok (.if_icmp .ne 19, 3)) ∧ (decode cX12_findingOf 49 = .ok (.aload_n 0, 1)) := by decide +kernel
theorem gX12_findingOf_3 : (decode cX12_findingOf 50 = .ok (.iload_n 1, 1)) ∧ (decode cX12_findingOf 51 = .ok (.invokevirtual 305, 3)) ∧ (decode cX12_findingOf 54 = .ok (.ifCond .eq 7, 3)) ∧ (decode cX12_findingOf 57 = .ok (.iconst 1, 1)) ∧ (decode cX12_findingOf 58 = .ok (.goto 33, 3)) ∧ (decode cX12_findingOf 61 = .ok (.iconst 0, 1)) ∧ (decode cX12_findingOf 62 = .ok (.goto 29, 3)) ∧ (decode cX12_findingOf 65 = .ok (.iload_n 2, 1)) ∧ (decode cX12_findingOf 66 = .ok (.iconst 5, 1)) ∧ (decode cX12_findingOf 67 = .ok (.if_icmp .ne 11, 3)) := by decide +kernel
theorem gX12_findingOf_4 : (decode cX12_findingOf 70 = .ok (.aload_n 0, 1)) ∧ (decode cX12_findingOf 71 = .ok (.iload_n 1, 1)) ∧ (decode cX12_findingOf 72 = .ok (.invokevirtual 311, 3)) ∧ (decode cX12_findingOf 75 = .ok (.goto 16, 3)) ∧ (decode cX12_findingOf 78 = .ok (.aload_n 0, 1)) ∧ (decode cX12_findingOf 79 = .ok (.iload_n 1, 1)) ∧ (decode cX12_findingOf 80 = .ok (.invokevirtual 317, 3)) ∧ (decode cX12_findingOf 83 = .ok (.ifCond .eq 7, 3)) ∧ (decode cX12_findingOf 86 = .ok (.iconst 1, 1)) ∧ (decode cX12_findingOf 87 = .ok (.goto 4, 3)) := by decide +kernel
theorem m_1315 : Cond.code yX12_isBarred cX12_isBarred 8 (some .boolean) ∈ BW := iB_BW70 _ (List.mem_of_getElem? (i := 3) rfl)
theorem m_1313 : Cond.methodLink RX12 317 yX12_isBarred ∈ BW := iB_BW70 _ (List.mem_of_getElem? (i := 1) rfl)
theorem m_1314 : Cond.instanceMethod yX12_isBarred ∈ BW := iB_BW70 _ (List.mem_of_getElem? (i := 2) rfl)
theorem m_92 : Cond.selects RX12 yX12_isBarred yX12_isBarred ∈ BW := iB_BW4 _ (List.mem_of_getElem? (i := 12) rfl)
theorem si_X12_317 : SV RX12 RX12 317 yX12_isBarred cX12_isBarred 8 (some .boolean) 1 := ⟨⟨m_1313, m_1314, m_92, m_115, m_1315⟩, rfl, nK_RX12.1, nK_RX12.2, pd_5⟩
theorem gX12_findingOf_5 : (decode cX12_findingOf 90 = .ok (.iconst 0, 1)) ∧ (decode cX12_findingOf 91 = .ok (.ireturn, 1)) := by decide +kernel
end WR
theorem rm_6_5_12 {mc ms : Nat} : 5 + 1 ≤ (RM 6 mc ms).frames ∧ 8 + (12 + 11) + 40 * 5 ≤ (RM 6 mc ms).locals := ⟨by show 5 + 1 ≤ 6; decide, by show 8 + (12 + 11) + 40 * 5 ≤ 40 * 6; decide⟩
theorem fm_0_1_3 {a0 a1 a2 a3 : Nat × va_E} {l : va_W} : ([0, 1, 3] : List Nat).filterMap (fun i => (a0 :: a1 :: a2 :: a3 :: l : va_W)[i]?) = ([a0, a1, a3] : va_W) := rfl
theorem dj_0_1_3__2 : ∀ i ∈ ([2] : List Nat), i ∉ ([0, 1, 3] : List Nat) := by decide
theorem rm_7_6_6 {mc ms : Nat} : 6 + 1 ≤ (RM 7 mc ms).frames ∧ 8 + (6 + 11) + 40 * 6 ≤ (RM 7 mc ms).locals := ⟨by show 6 + 1 ≤ 7; decide, by show 8 + (6 + 11) + 40 * 6 ≤ 40 * 7; decide⟩
theorem fm_0_1_3_4 {a0 a1 a2 a3 a4 : Nat × va_E} {l : va_W} : ([0, 1, 3, 4] : List Nat).filterMap (fun i => (a0 :: a1 :: a2 :: a3 :: a4 :: l : va_W)[i]?) = ([a0, a1, a3, a4] : va_W) := rfl
theorem dj_0_1_3_4__2 : ∀ i ∈ ([2] : List Nat), i ∉ ([0, 1, 3, 4] : List Nat) := by decide
theorem rm_7_2_4 {mc ms : Nat} : 2 + 1 ≤ (RM 7 mc ms).frames ∧ 8 + (4 + 11) + 40 * 2 ≤ (RM 7 mc ms).locals := ⟨by show 2 + 1 ≤ 7; decide, by show 8 + (4 + 11) + 40 * 2 ≤ 40 * 7; decide⟩
theorem fm_1_2_0_3_4 {a0 a1 a2 a3 a4 : Nat × va_E} {l : va_W} : ([1, 2, 0, 3, 4] : List Nat).filterMap (fun i => (a0 :: a1 :: a2 :: a3 :: a4 :: l : va_W)[i]?) = ([a1, a2, a0, a3, a4] : va_W) := rfl
theorem nd_1_2_0_3_4 : va_nd [1, 2, 0, 3, 4] = true := by decide
theorem sm_1_2_0_3_4 {a0 a1 a2 a3 a4 : Nat × va_E} {l : va_W} : ([1, 2, 0, 3, 4] : List Nat).map (fun i => (a0 :: a1 :: a2 :: a3 :: a4 :: l : va_W)[i]?) = ([a1, a2, a0, a3, a4] : va_W).map some := rfl
theorem rm_7_5_7 {mc ms : Nat} : 5 + 1 ≤ (RM 7 mc ms).frames ∧ 8 + (7 + 11) + 40 * 5 ≤ (RM 7 mc ms).locals := ⟨by show 5 + 1 ≤ 7; decide, by show 8 + (7 + 11) + 40 * 5 ≤ 40 * 7; decide⟩
theorem dj_0_1_2__3_4 : ∀ i ∈ ([3, 4] : List Nat), i ∉ ([0, 1, 2] : List Nat) := by decide
theorem fm_2_3_4_0_1 {a0 a1 a2 a3 a4 : Nat × va_E} {l : va_W} : ([2, 3, 4, 0, 1] : List Nat).filterMap (fun i => (a0 :: a1 :: a2 :: a3 :: a4 :: l : va_W)[i]?) = ([a2, a3, a4, a0, a1] : va_W) := rfl
theorem nd_2_3_4_0_1 : va_nd [2, 3, 4, 0, 1] = true := by decide
theorem sm_2_3_4_0_1 {a0 a1 a2 a3 a4 : Nat × va_E} {l : va_W} : ([2, 3, 4, 0, 1] : List Nat).map (fun i => (a0 :: a1 :: a2 :: a3 :: a4 :: l : va_W)[i]?) = ([a2, a3, a4, a0, a1] : va_W).map some := rfl
theorem rm_8_5_7 {mc ms : Nat} : 5 + 1 ≤ (RM 8 mc ms).frames ∧ 8 + (7 + 11) + 40 * 5 ≤ (RM 8 mc ms).locals := ⟨by show 5 + 1 ≤ 8; decide, by show 8 + (7 + 11) + 40 * 5 ≤ 40 * 8; decide⟩
theorem rm_9_2_3 {mc ms : Nat} : 2 + 1 ≤ (RM 9 mc ms).frames ∧ 8 + (3 + 11) + 40 * 2 ≤ (RM 9 mc ms).locals := ⟨by show 2 + 1 ≤ 9; decide, by show 8 + (3 + 11) + 40 * 2 ≤ 40 * 9; decide⟩
theorem rm_9_8_4 {mc ms : Nat} : 8 + 1 ≤ (RM 9 mc ms).frames ∧ 8 + (4 + 11) + 40 * 8 ≤ (RM 9 mc ms).locals := ⟨by show 8 + 1 ≤ 9; decide, by show 8 + (4 + 11) + 40 * 8 ≤ 40 * 9; decide⟩
theorem rm_9_5_7 {mc ms : Nat} : 5 + 1 ≤ (RM 9 mc ms).frames ∧ 8 + (7 + 11) + 40 * 5 ≤ (RM 9 mc ms).locals := ⟨by show 5 + 1 ≤ 9; decide, by show 8 + (7 + 11) + 40 * 5 ≤ 40 * 9; decide⟩
theorem rm_9_2_4 {mc ms : Nat} : 2 + 1 ≤ (RM 9 mc ms).frames ∧ 8 + (4 + 11) + 40 * 2 ≤ (RM 9 mc ms).locals := ⟨by show 2 + 1 ≤ 9; decide, by show 8 + (4 + 11) + 40 * 2 ≤ 40 * 9; decide⟩
theorem rm_9_6_6 {mc ms : Nat} : 6 + 1 ≤ (RM 9 mc ms).frames ∧ 8 + (6 + 11) + 40 * 6 ≤ (RM 9 mc ms).locals := ⟨by show 6 + 1 ≤ 9; decide, by show 8 + (6 + 11) + 40 * 6 ≤ 40 * 9; decide⟩
theorem dj_2_3_0_1__4 : ∀ i ∈ ([4] : List Nat), i ∉ ([2, 3, 0, 1] : List Nat) := by decide
theorem fm_3_4_1_2_0 {a0 a1 a2 a3 a4 : Nat × va_E} {l : va_W} : ([3, 4, 1, 2, 0] : List Nat).filterMap (fun i => (a0 :: a1 :: a2 :: a3 :: a4 :: l : va_W)[i]?) = ([a3, a4, a1, a2, a0] : va_W) := rfl
theorem nd_3_4_1_2_0 : va_nd [3, 4, 1, 2, 0] = true := by decide
theorem sm_3_4_1_2_0 {a0 a1 a2 a3 a4 : Nat × va_E} {l : va_W} : ([3, 4, 1, 2, 0] : List Nat).map (fun i => (a0 :: a1 :: a2 :: a3 :: a4 :: l : va_W)[i]?) = ([a3, a4, a1, a2, a0] : va_W).map some := rfl
theorem rm_10_9_3 {mc ms : Nat} : 9 + 1 ≤ (RM 10 mc ms).frames ∧ 8 + (3 + 11) + 40 * 9 ≤ (RM 10 mc ms).locals := ⟨by show 9 + 1 ≤ 10; decide, by show 8 + (3 + 11) + 40 * 9 ≤ 40 * 10; decide⟩
theorem rm_10_3_3 {mc ms : Nat} : 3 + 1 ≤ (RM 10 mc ms).frames ∧ 8 + (3 + 11) + 40 * 3 ≤ (RM 10 mc ms).locals := ⟨by show 3 + 1 ≤ 10; decide, by show 8 + (3 + 11) + 40 * 3 ≤ 40 * 10; decide⟩
theorem rm_7_1_4 {mc ms : Nat} : 1 + 1 ≤ (RM 7 mc ms).frames ∧ 8 + (4 + 11) + 40 * 1 ≤ (RM 7 mc ms).locals := ⟨by show 1 + 1 ≤ 7; decide, by show 8 + (4 + 11) + 40 * 1 ≤ 40 * 7; decide⟩
theorem rm_7_5_12 {mc ms : Nat} : 5 + 1 ≤ (RM 7 mc ms).frames ∧ 8 + (12 + 11) + 40 * 5 ≤ (RM 7 mc ms).locals := ⟨by show 5 + 1 ≤ 7; decide, by show 8 + (12 + 11) + 40 * 5 ≤ 40 * 7; decide⟩
theorem rm_11_10_5 {mc ms : Nat} : 10 + 1 ≤ (RM 11 mc ms).frames ∧ 8 + (5 + 11) + 40 * 10 ≤ (RM 11 mc ms).locals := ⟨by show 10 + 1 ≤ 11; decide, by show 8 + (5 + 11) + 40 * 10 ≤ 40 * 11; decide⟩
theorem rm_11_7_7 {mc ms : Nat} : 7 + 1 ≤ (RM 11 mc ms).frames ∧ 8 + (7 + 11) + 40 * 7 ≤ (RM 11 mc ms).locals := ⟨by show 7 + 1 ≤ 11; decide, by show 8 + (7 + 11) + 40 * 7 ≤ 40 * 11; decide⟩
theorem sm_0_1_4 {a0 a1 a2 a3 a4 : Nat × va_E} {l : va_W} : ([0, 1, 4] : List Nat).map (fun i => (a0 :: a1 :: a2 :: a3 :: a4 :: l : va_W)[i]?) = ([a0, a1, a4] : va_W).map some := rfl
theorem fm_0_1_4 {a0 a1 a2 a3 a4 : Nat × va_E} {l : va_W} : ([0, 1, 4] : List Nat).filterMap (fun i => (a0 :: a1 :: a2 :: a3 :: a4 :: l : va_W)[i]?) = ([a0, a1, a4] : va_W) := rfl
theorem nd_0_1_4 : va_nd [0, 1, 4] = true := by decide
theorem dj_0_1_4__2_3 : ∀ i ∈ ([2, 3] : List Nat), i ∉ ([0, 1, 4] : List Nat) := by decide
theorem rm_11_5_4 {mc ms : Nat} : 5 + 1 ≤ (RM 11 mc ms).frames ∧ 8 + (4 + 11) + 40 * 5 ≤ (RM 11 mc ms).locals := ⟨by show 5 + 1 ≤ 11; decide, by show 8 + (4 + 11) + 40 * 5 ≤ 40 * 11; decide⟩
theorem dj_2_3_4__0_1 : ∀ i ∈ ([0, 1] : List Nat), i ∉ ([2, 3, 4] : List Nat) := by decide
theorem rm_11_1_1 {mc ms : Nat} : 1 + 1 ≤ (RM 11 mc ms).frames ∧ 8 + (1 + 11) + 40 * 1 ≤ (RM 11 mc ms).locals := ⟨by show 1 + 1 ≤ 11; decide, by show 8 + (1 + 11) + 40 * 1 ≤ 40 * 11; decide⟩
theorem rm_12_2_3 {mc ms : Nat} : 2 + 1 ≤ (RM 12 mc ms).frames ∧ 8 + (3 + 11) + 40 * 2 ≤ (RM 12 mc ms).locals := ⟨by show 2 + 1 ≤ 12; decide, by show 8 + (3 + 11) + 40 * 2 ≤ 40 * 12; decide⟩
theorem rm_12_10_5 {mc ms : Nat} : 10 + 1 ≤ (RM 12 mc ms).frames ∧ 8 + (5 + 11) + 40 * 10 ≤ (RM 12 mc ms).locals := ⟨by show 10 + 1 ≤ 12; decide, by show 8 + (5 + 11) + 40 * 10 ≤ 40 * 12; decide⟩
theorem rm_12_9_3 {mc ms : Nat} : 9 + 1 ≤ (RM 12 mc ms).frames ∧ 8 + (3 + 11) + 40 * 9 ≤ (RM 12 mc ms).locals := ⟨by show 9 + 1 ≤ 12; decide, by show 8 + (3 + 11) + 40 * 9 ≤ 40 * 12; decide⟩
def K_m_fromLine (l : Launch) (G : GG) (h0 : Nat) (jv : Nat) (jl : Nat) (je : Nat) (nw : Nat) (nk : Nat) (mhasKept : Int32) (nt : Nat) (mtaped : Int32) (nr : Nat) (mrowMany : Int32) (mroundOf : Int32) (mroundFrom : Int32) (mouts : Int32) (nm : Nat) (mfromHour : Int32) (mtoHour : Int32) (ns : Nat) (mfrom : Int32) (mto : Int32) (msort : Int32) (misFault : Int32) (mdeep : Int32) (mcoded : Int32) (mlines : Int32) (nl : Nat) (nc : Nat) (nF : Nat) (np : Nat) (ntr : Nat) (nb : Nat) (mbestCost : Int32) (nso : Nat) (nsi : Nat) (nit : Nat) (nsh : Nat) (nsf : Nat) (nss : Nat) (nrc : Nat) (mtraced : Int32) (mdealer : Int32) (mnumber : Int32) (mwhose : Int32) (msize : Int32) (misParted : Int32) (fnw : Nat → Int32) (fns : Nat → Int32) (fnp : Nat → Int32) : Prop := MI l G yX12_fromLine cX12_fromLine 6 (some .int) 6 0 0 [.ref h0, .int (nI jv), .int (nI jl), .int (nI je)] [(h0, oX12 nw nk mhasKept nt mtaped nr mrowMany mroundOf mroundFrom mouts nm mfromHour mtoHour ns mfrom mto msort misFault mdeep mcoded mlines nl nc nF np ntr nb mbestCost nso nsi nit nsh nsf nss nrc mtraced mdealer mnumber mwhose msize misParted), (nw, iA G 1662 fnw), (ns, iA G 8 fns), (np, iA G 100 fnp)] (fun (r : Int32) (u : (Nat → Int32)) => (True)) (fun u : (Nat → Int32) => [(h0, oX12 nw nk mhasKept nt mtaped nr mrowMany mroundOf mroundFrom mouts nm mfromHour mtoHour ns mfrom mto msort misFault mdeep mcoded mlines nl nc nF np ntr nb mbestCost nso nsi nit nsh nsf nss nrc mtraced mdealer mnumber mwhose msize misParted), (nw, iA G 1662 fnw), (ns, iA G 8 fns), (np, iA G 100 u)])
set_option maxHeartbeats 4000000 in
set_option maxRecDepth 100000 in
theorem m_fromLine (l : Launch) (G : GG) (h0 : Nat) (jv : Nat) (jl : Nat) (je : Nat) (nw : Nat) (nk : Nat) (mhasKept : Int32) (nt : Nat) (mtaped : Int32) (nr : Nat) (mrowMany : Int32) (mroundOf : Int32) (mroundFrom : Int32) (mouts : Int32) (nm : Nat) (mfromHour : Int32) (mtoHour : Int32) (ns : Nat) (mfrom : Int32) (mto : Int32) (msort : Int32) (misFault : Int32) (mdeep : Int32) (mcoded : Int32) (mlines : Int32) (nl : Nat) (nc : Nat) (nF : Nat) (np : Nat) (ntr : Nat) (nb : Nat) (mbestCost : Int32) (nso : Nat) (nsi : Nat) (nit : Nat) (nsh : Nat) (nsf : Nat) (nss : Nat) (nrc : Nat) (mtraced : Int32) (mdealer : Int32) (mnumber : Int32) (mwhose : Int32) (msize : Int32) (misParted : Int32) (fnw : Nat → Int32) (fns : Nat → Int32) (fnp : Nat → Int32) (hjv : jv < 8) (hjl : jl < 9) (hln : LN fnw jv jl) (hje : je < 10) (hN : NI fnw) : K_m_fromLine l G h0 jv jl je nw nk mhasKept nt mtaped nr mrowMany mroundOf mroundFrom mouts nm mfromHour mtoHour ns mfrom mto msort misFault mdeep mcoded mlines nl nc nF np ntr nb mbestCost nso nsi nit nsh nsf nss nrc mtraced mdealer mnumber mwhose msize misParted fnw fns fnp := by
  refine MI.start (by decide +kernel) (Nat.le_of_ble_eq_true rfl) ?_
  intro p e s m below meth c A ls hC hK hP hD hS hA hl
  refine absQ (fun Q0 hQ0 => ?_)
  have hl : lv_has ls 6 [(0, .ref h0), (1, .int (nI jv)), (2, .int (nI jl)), (3, .int (nI je))] := hl
  refine Kan8 hC (fun hx hb hr hml hB hown hlocks hnm => ?_)
  have hln0 := hln
  obtain ⟨⟨so, hso, e0, hAl, hBl⟩, la9, lb9, e4, e5, hab9, hlb9, ht9, h09, hst9⟩ := hln
  refine lv_aload_n hx hb gX12_fromLine_0.1 rfl (lv_at0 hl) ?_
  refine lv_iload_n hx hb gX12_fromLine_0.2.1 rfl (lv_at1 hl) ?_
  refine lv_iload_n hx hb gX12_fromLine_0.2.2.1 rfl (lv_at2 hl) ?_
  refine lv_iconst (v := 0) hx hb gX12_fromLine_0.2.2.2.1 (by decide) ?_
  refine pV hC hK hl hP hD (m_lineOf l G h0 jv jl 0 nw nk mhasKept nt mtaped nr mrowMany mroundOf mroundFrom mouts nm mfromHour mtoHour ns mfrom mto msort misFault mdeep mcoded mlines nl nc nF np ntr nb mbestCost nso nsi nit nsh nsf nss nrc mtraced mdealer mnumber mwhose msize misParted fnw (hjv) (hjl) (by omega)) si_X12_193 [0, 1] sm_0_1 fm_0_1 nd_0_1 rfl rfl rfl rfl rfl (Nat.le_of_ble_eq_true rfl) rm_6_1_4 ⟨by first | exact Nat.le_of_ble_eq_true rfl | exact Nat.zero_le _, by first | exact Nat.le_of_ble_eq_true rfl | exact Nat.zero_le _⟩ gX12_fromLine_0.2.2.2.2.1 (Keqr ?_)
  refine eqi (x1 := nI so) (e0) ?_
  refine lv_istore (lv' := [(4, .int (nI so)), (0, .ref h0), (1, .int (nI jv)), (2, .int (nI jl)), (3, .int (nI je))]) hx hb gX12_fromLine_0.2.2.2.2.2.1 hl (by decide) rfl (fun ls hl => ?_)
  refine lv_iload hx hb gX12_fromLine_0.2.2.2.2.2.2.1 (lv_at0 hl) ?_
  refine lv_if_eq (tgt := 20) hx hb gX12_fromLine_0.2.2.2.2.2.2.2.1 (by decide) (fun c_11_5606 => ?_) (fun c_11_5606 => ?_)
  · refine lv_aload_n hx hb gX12_fromLine_1.2.1 rfl (lv_at1 hl) ?_
    refine lv_iload_n hx hb gX12_fromLine_1.2.2.1 rfl (lv_at2 hl) ?_
    refine lv_iload_n hx hb gX12_fromLine_1.2.2.2.1 rfl (lv_at3 hl) ?_
    refine lv_iload_n hx hb gX12_fromLine_1.2.2.2.2.1 rfl (lv_at4 hl) ?_
    refine iV (wr := [(ns, iA G 8 fns)]) hC hK hl hP hD hS hA (m_holds l G h0 jv jl je nw nk mhasKept nt mtaped nr mrowMany mroundOf mroundFrom mouts nm mfromHour mtoHour ns mfrom mto msort misFault mdeep mcoded mlines nl nc nF np ntr nb mbestCost nso nsi nit nsh nsf nss nrc mtraced mdealer mnumber mwhose msize misParted fnw fnp (hjv) (hjl) (hln0) (hje) (hN)) si_X12_196 [0, 1, 3] [2] sm_0_1_3 fm_0_1_3 nd_0_1_3 sm_2 nd_2 dj_0_1_3__2 rfl rfl rfl rfl rfl (Nat.le_of_ble_eq_true rfl) rm_6_5_12 ⟨Nat.le_of_ble_eq_true rfl, Nat.le_of_ble_eq_true rfl⟩ gX12_fromLine_1.2.2.2.2.2.1 (fun r5607 gnp5609 H locs hr5607 hP hD hS => ?_)
    try dsimp only at hr5607
    refine Kpdr (ws := [(ns, iA G 8 fns), (h0, oX12 nw nk mhasKept nt mtaped nr mrowMany mroundOf mroundFrom mouts nm mfromHour mtoHour ns mfrom mto msort misFault mdeep mcoded mlines nl nc nF np ntr nb mbestCost nso nsi nit nsh nsf nss nrc mtraced mdealer mnumber mwhose msize misParted), (nw, iA G 1662 fnw), (np, iA G 100 gnp5609)]) hP hD (fun hP hD => ?_)
    rcases hr5607 with rfl | rfl
    · refine lv_if_ne (tgt := 33) hx hb gX12_fromLine_1.2.2.2.2.2.2.1 (by decide) (fun _ => ?_) (fun c9 => absurd c9 (by decide))
      refine lv_iload hx hb gX12_fromLine_1.2.2.2.2.2.2.2.2.2 (lv_at0 hl) ?_
      refine lv_iconst (v := 2) hx hb gX12_fromLine_2.1 (by decide) ?_
      refine lv_icmp_ne (tgt := 49) hx hb gX12_fromLine_2.2.1 (by decide) (fun c_36_5611 => ?_) (fun c_36_5611 => ?_)
      · refine lv_aload_n hx hb gX12_fromLine_2.2.2.2.2.2.2.2.2.1 rfl (lv_at1 hl) ?_
        refine gf_X12_29 hC rfl hK hP 1 rfl rfl gX12_fromLine_2.2.2.2.2.2.2.2.2.2 ?_
        refine lv_aload_n hx hb gX12_fromLine_3.1 rfl (lv_at1 hl) ?_
        refine lv_iload_n hx hb gX12_fromLine_3.2.1 rfl (lv_at2 hl) ?_
        refine lv_iload_n hx hb gX12_fromLine_3.2.2.1 rfl (lv_at3 hl) ?_
        refine lv_iconst (v := 3) hx hb gX12_fromLine_3.2.2.2.1 (by decide) ?_
        refine pV hC hK hl hP hD (m_lineOf l G h0 jv jl 3 nw nk mhasKept nt mtaped nr mrowMany mroundOf mroundFrom mouts nm mfromHour mtoHour ns mfrom mto msort misFault mdeep mcoded mlines nl nc nF np ntr nb mbestCost nso nsi nit nsh nsf nss nrc mtraced mdealer mnumber mwhose msize misParted fnw (hjv) (hjl) (by omega)) si_X12_193 [1, 2] sm_1_2 fm_1_2 nd_1_2 rfl rfl rfl rfl rfl (Nat.le_of_ble_eq_true rfl) rm_6_1_4 ⟨by first | exact Nat.le_of_ble_eq_true rfl | exact Nat.zero_le _, by first | exact Nat.le_of_ble_eq_true rfl | exact Nat.zero_le _⟩ gX12_fromLine_3.2.2.2.2.1 (Keqr ?_)
        obtain ⟨n9_5614, hn9_5614, en9_5614⟩ := (hAl ((nI_eq (b := 0) (by omega) (by decide)).mp c_11_5606)).2
        refine eqi (x1 := nI n9_5614) en9_5614 ?_
        refine aldN hC hK hP 0 rfl (k := n9_5614) (by omega) (Nat.le_of_ble_eq_true rfl) (v := fns n9_5614) rfl gX12_fromLine_3.2.2.2.2.2.1 ?_
        refine lv_topi (fun x5615 ex5615 => ?_)
        refine lv_istore (lv' := [(5, .int x5615), (4, .int (nI so)), (0, .ref h0), (1, .int (nI jv)), (2, .int (nI jl)), (3, .int (nI je))]) hx hb gX12_fromLine_3.2.2.2.2.2.2.1 hl (by decide) rfl (fun ls hl => ?_)
        refine lv_iload hx hb gX12_fromLine_3.2.2.2.2.2.2.2.1 (lv_at1 hl) ?_
        refine lv_iconst (v := 2) hx hb gX12_fromLine_3.2.2.2.2.2.2.2.2.1 (by decide) ?_
        refine lv_icmp_eq (tgt := 76) hx hb gX12_fromLine_3.2.2.2.2.2.2.2.2.2 (by decide) (fun c9 => absurd c9 (c_36_5611)) (fun _ => ?_)
        refine lv_iload hx hb gX12_fromLine_4.1 (lv_at0 hl) ?_
        refine lv_ldc hx hb hown (hB _ m_1204) gX12_fromLine_4.2.1 ?_
        refine lv_icmp_ne (tgt := 81) hx hb gX12_fromLine_4.2.2.1 (by decide) (fun c_73_5616 => ?_) (fun c_73_5616 => ?_)
        · refine lv_iload hx hb gX12_fromLine_4.2.2.2.2.2.1 (lv_at0 hl) ?_
          refine lv_aload_n hx hb gX12_fromLine_4.2.2.2.2.2.2.1 rfl (lv_at2 hl) ?_
          refine lv_iload_n hx hb gX12_fromLine_4.2.2.2.2.2.2.2.1 rfl (lv_at3 hl) ?_
          refine lv_iload_n hx hb gX12_fromLine_4.2.2.2.2.2.2.2.2.1 rfl (lv_at4 hl) ?_
          refine lv_iconst (v := 1) hx hb gX12_fromLine_4.2.2.2.2.2.2.2.2.2 (by decide) ?_
          refine pV hC hK hl hP hD (m_lineOf l G h0 jv jl 1 nw nk mhasKept nt mtaped nr mrowMany mroundOf mroundFrom mouts nm mfromHour mtoHour ns mfrom mto msort misFault mdeep mcoded mlines nl nc nF np ntr nb mbestCost nso nsi nit nsh nsf nss nrc mtraced mdealer mnumber mwhose msize misParted fnw (hjv) (hjl) (by omega)) si_X12_193 [1, 2] sm_1_2 fm_1_2 nd_1_2 rfl rfl rfl rfl rfl (Nat.le_of_ble_eq_true rfl) rm_6_1_4 ⟨by first | exact Nat.le_of_ble_eq_true rfl | exact Nat.zero_le _, by first | exact Nat.le_of_ble_eq_true rfl | exact Nat.zero_le _⟩ gX12_fromLine_5.1 (Keqr ?_)
          refine lv_iadd hx hb gX12_fromLine_5.2.1 ?_
          refine toQ hQ0 ?_
          exact RI (v := x5615 + (fnw (176 + 156 * jv + 2 + 6 * jl + 1))) hC hP hD hS [1, 2, 0, 3] gnp5609 rfl rfl (by decide) (trivial) rfl gX12_fromLine_5.2.2
        · refine lv_iload hx hb gX12_fromLine_4.2.2.2.1 (lv_at0 hl) ?_
          refine lv_goto (tgt := 91) hx hb gX12_fromLine_4.2.2.2.2.1 (by decide) ?_
          refine toQ hQ0 ?_
          exact RI (v := x5615) hC hP hD hS [1, 2, 0, 3] gnp5609 rfl rfl (by decide) (trivial) rfl gX12_fromLine_5.2.2
      · refine lv_aload_n hx hb gX12_fromLine_2.2.2.1 rfl (lv_at1 hl) ?_
        refine lv_iload_n hx hb gX12_fromLine_2.2.2.2.1 rfl (lv_at2 hl) ?_
        refine lv_iload_n hx hb gX12_fromLine_2.2.2.2.2.1 rfl (lv_at3 hl) ?_
        refine lv_iconst (v := 2) hx hb gX12_fromLine_2.2.2.2.2.2.1 (by decide) ?_
        refine pV hC hK hl hP hD (m_lineOf l G h0 jv jl 2 nw nk mhasKept nt mtaped nr mrowMany mroundOf mroundFrom mouts nm mfromHour mtoHour ns mfrom mto msort misFault mdeep mcoded mlines nl nc nF np ntr nb mbestCost nso nsi nit nsh nsf nss nrc mtraced mdealer mnumber mwhose msize misParted fnw (hjv) (hjl) (by omega)) si_X12_193 [1, 2] sm_1_2 fm_1_2 nd_1_2 rfl rfl rfl rfl rfl (Nat.le_of_ble_eq_true rfl) rm_6_1_4 ⟨by first | exact Nat.le_of_ble_eq_true rfl | exact Nat.zero_le _, by first | exact Nat.le_of_ble_eq_true rfl | exact Nat.zero_le _⟩ gX12_fromLine_2.2.2.2.2.2.2.1 (Keqr ?_)
        refine lv_goto (tgt := 61) hx hb gX12_fromLine_2.2.2.2.2.2.2.2.1 (by decide) ?_
        refine lv_istore (lv' := [(5, .int (fnw (176 + 156 * jv + 2 + 6 * jl + 2))), (4, .int (nI so)), (0, .ref h0), (1, .int (nI jv)), (2, .int (nI jl)), (3, .int (nI je))]) hx hb gX12_fromLine_3.2.2.2.2.2.2.1 hl (by decide) rfl (fun ls hl => ?_)
        refine lv_iload hx hb gX12_fromLine_3.2.2.2.2.2.2.2.1 (lv_at1 hl) ?_
        refine lv_iconst (v := 2) hx hb gX12_fromLine_3.2.2.2.2.2.2.2.2.1 (by decide) ?_
        refine lv_icmp_eq (tgt := 76) hx hb gX12_fromLine_3.2.2.2.2.2.2.2.2.2 (by decide) (fun _ => ?_) (fun c9 => absurd (c_36_5611) c9)
        refine lv_iload hx hb gX12_fromLine_4.2.2.2.1 (lv_at0 hl) ?_
        refine lv_goto (tgt := 91) hx hb gX12_fromLine_4.2.2.2.2.1 (by decide) ?_
        refine toQ hQ0 ?_
        exact RI (v := fnw (176 + 156 * jv + 2 + 6 * jl + 2)) hC hP hD hS [1, 2, 0, 3] gnp5609 rfl rfl (by decide) (trivial) rfl gX12_fromLine_5.2.2
    · refine lv_if_ne (tgt := 33) hx hb gX12_fromLine_1.2.2.2.2.2.2.1 (by decide) (fun c9 => absurd (by decide) c9) (fun _ => ?_)
      refine lv_ldc hx hb hown (hB _ m_1204) gX12_fromLine_1.2.2.2.2.2.2.2.1 ?_
      refine toQ hQ0 ?_
      exact RI (v := 100000) hC hP hD hS [1, 2, 0, 3] gnp5609 rfl rfl (by decide) (trivial) rfl gX12_fromLine_1.2.2.2.2.2.2.2.2.1
  · refine lv_iload hx hb gX12_fromLine_0.2.2.2.2.2.2.2.2.1 (lv_at0 hl) ?_
    refine lv_iconst (v := 2) hx hb gX12_fromLine_0.2.2.2.2.2.2.2.2.2 (by decide) ?_
    refine lv_icmp_ne (tgt := 30) hx hb gX12_fromLine_1.1 (by decide) (fun c_17_5621 => ?_) (fun c_17_5621 => ?_)
    · refine lv_ldc hx hb hown (hB _ m_1204) gX12_fromLine_1.2.2.2.2.2.2.2.1 ?_
      refine toQ hQ0 ?_
      exact RI (v := 100000) hC hP hD hS [0, 1, 2, 3] fnp rfl rfl (by decide) (trivial) rfl gX12_fromLine_1.2.2.2.2.2.2.2.2.1
    · refine lv_aload_n hx hb gX12_fromLine_1.2.1 rfl (lv_at1 hl) ?_
      refine lv_iload_n hx hb gX12_fromLine_1.2.2.1 rfl (lv_at2 hl) ?_
      refine lv_iload_n hx hb gX12_fromLine_1.2.2.2.1 rfl (lv_at3 hl) ?_
      refine lv_iload_n hx hb gX12_fromLine_1.2.2.2.2.1 rfl (lv_at4 hl) ?_
      refine iV (wr := [(ns, iA G 8 fns)]) hC hK hl hP hD hS hA (m_holds l G h0 jv jl je nw nk mhasKept nt mtaped nr mrowMany mroundOf mroundFrom mouts nm mfromHour mtoHour ns mfrom mto msort misFault mdeep mcoded mlines nl nc nF np ntr nb mbestCost nso nsi nit nsh nsf nss nrc mtraced mdealer mnumber mwhose msize misParted fnw fnp (hjv) (hjl) (hln0) (hje) (hN)) si_X12_196 [0, 1, 3] [2] sm_0_1_3 fm_0_1_3 nd_0_1_3 sm_2 nd_2 dj_0_1_3__2 rfl rfl rfl rfl rfl (Nat.le_of_ble_eq_true rfl) rm_6_5_12 ⟨Nat.le_of_ble_eq_true rfl, Nat.le_of_ble_eq_true rfl⟩ gX12_fromLine_1.2.2.2.2.2.1 (fun r5622 gnp5624 H locs hr5622 hP hD hS => ?_)
      try dsimp only at hr5622
      refine Kpdr (ws := [(ns, iA G 8 fns), (h0, oX12 nw nk mhasKept nt mtaped nr mrowMany mroundOf mroundFrom mouts nm mfromHour mtoHour ns mfrom mto msort misFault mdeep mcoded mlines nl nc nF np ntr nb mbestCost nso nsi nit nsh nsf nss nrc mtraced mdealer mnumber mwhose msize misParted), (nw, iA G 1662 fnw), (np, iA G 100 gnp5624)]) hP hD (fun hP hD => ?_)
      rcases hr5622 with rfl | rfl
      · refine lv_if_ne (tgt := 33) hx hb gX12_fromLine_1.2.2.2.2.2.2.1 (by decide) (fun _ => ?_) (fun c9 => absurd c9 (by decide))
        refine lv_iload hx hb gX12_fromLine_1.2.2.2.2.2.2.2.2.2 (lv_at0 hl) ?_
        refine lv_iconst (v := 2) hx hb gX12_fromLine_2.1 (by decide) ?_
        refine lv_icmp_ne (tgt := 49) hx hb gX12_fromLine_2.2.1 (by decide) (fun c9 => absurd (c_17_5621) c9) (fun _ => ?_)
        refine lv_aload_n hx hb gX12_fromLine_2.2.2.1 rfl (lv_at1 hl) ?_
        refine lv_iload_n hx hb gX12_fromLine_2.2.2.2.1 rfl (lv_at2 hl) ?_
        refine lv_iload_n hx hb gX12_fromLine_2.2.2.2.2.1 rfl (lv_at3 hl) ?_
        refine lv_iconst (v := 2) hx hb gX12_fromLine_2.2.2.2.2.2.1 (by decide) ?_
        refine pV hC hK hl hP hD (m_lineOf l G h0 jv jl 2 nw nk mhasKept nt mtaped nr mrowMany mroundOf mroundFrom mouts nm mfromHour mtoHour ns mfrom mto msort misFault mdeep mcoded mlines nl nc nF np ntr nb mbestCost nso nsi nit nsh nsf nss nrc mtraced mdealer mnumber mwhose msize misParted fnw (hjv) (hjl) (by omega)) si_X12_193 [1, 2] sm_1_2 fm_1_2 nd_1_2 rfl rfl rfl rfl rfl (Nat.le_of_ble_eq_true rfl) rm_6_1_4 ⟨by first | exact Nat.le_of_ble_eq_true rfl | exact Nat.zero_le _, by first | exact Nat.le_of_ble_eq_true rfl | exact Nat.zero_le _⟩ gX12_fromLine_2.2.2.2.2.2.2.1 (Keqr ?_)
        refine lv_goto (tgt := 61) hx hb gX12_fromLine_2.2.2.2.2.2.2.2.1 (by decide) ?_
        refine lv_istore (lv' := [(5, .int (fnw (176 + 156 * jv + 2 + 6 * jl + 2))), (4, .int (nI so)), (0, .ref h0), (1, .int (nI jv)), (2, .int (nI jl)), (3, .int (nI je))]) hx hb gX12_fromLine_3.2.2.2.2.2.2.1 hl (by decide) rfl (fun ls hl => ?_)
        refine lv_iload hx hb gX12_fromLine_3.2.2.2.2.2.2.2.1 (lv_at1 hl) ?_
        refine lv_iconst (v := 2) hx hb gX12_fromLine_3.2.2.2.2.2.2.2.2.1 (by decide) ?_
        refine lv_icmp_eq (tgt := 76) hx hb gX12_fromLine_3.2.2.2.2.2.2.2.2.2 (by decide) (fun _ => ?_) (fun c9 => absurd (c_17_5621) c9)
        refine lv_iload hx hb gX12_fromLine_4.2.2.2.1 (lv_at0 hl) ?_
        refine lv_goto (tgt := 91) hx hb gX12_fromLine_4.2.2.2.2.1 (by decide) ?_
        refine toQ hQ0 ?_
        exact RI (v := fnw (176 + 156 * jv + 2 + 6 * jl + 2)) hC hP hD hS [1, 2, 0, 3] gnp5624 rfl rfl (by decide) (trivial) rfl gX12_fromLine_5.2.2
      · refine lv_if_ne (tgt := 33) hx hb gX12_fromLine_1.2.2.2.2.2.2.1 (by decide) (fun c9 => absurd (by decide) c9) (fun _ => ?_)
        refine lv_ldc hx hb hown (hB _ m_1204) gX12_fromLine_1.2.2.2.2.2.2.2.1 ?_
        refine toQ hQ0 ?_
        exact RI (v := 100000) hC hP hD hS [1, 2, 0, 3] gnp5624 rfl rfl (by decide) (trivial) rfl gX12_fromLine_1.2.2.2.2.2.2.2.2.1
def K_m_findShould (l : Launch) (G : GG) (h0 : Nat) (je : Nat) (nw : Nat) (nk : Nat) (mhasKept : Int32) (nt : Nat) (mtaped : Int32) (nr : Nat) (mrowMany : Int32) (mroundOf : Int32) (mroundFrom : Int32) (mouts : Int32) (nm : Nat) (mfromHour : Int32) (mtoHour : Int32) (ns : Nat) (mfrom : Int32) (mto : Int32) (msort : Int32) (misFault : Int32) (mdeep : Int32) (mcoded : Int32) (mlines : Int32) (nl : Nat) (nc : Nat) (nF : Nat) (np : Nat) (ntr : Nat) (nb : Nat) (mbestCost : Int32) (nso : Nat) (nsi : Nat) (nit : Nat) (nsh : Nat) (nsf : Nat) (nss : Nat) (nrc : Nat) (mtraced : Int32) (mdealer : Int32) (mnumber : Int32) (mwhose : Int32) (msize : Int32) (misParted : Int32) (fnw : Nat → Int32) (fnm : Nat → Int32) (fns : Nat → Int32) (fnp : Nat → Int32) : Prop := MV l G yX12_findShould cX12_findShould 7 7 0 0 [.ref h0, .int (nI je)] [(h0, oX12 nw nk mhasKept nt mtaped nr mrowMany mroundOf mroundFrom mouts nm mfromHour mtoHour ns mfrom mto msort misFault mdeep mcoded mlines nl nc nF np ntr nb mbestCost nso nsi nit nsh nsf nss nrc mtraced mdealer mnumber mwhose msize misParted), (nw, iA G 1662 fnw), (nm, iA G 36 fnm), (ns, iA G 8 fns), (np, iA G 100 fnp)] (fun u : Int32 × Int32 × (Nat → Int32) × (Nat → Int32) × (Nat → Int32) => MB u.2.2.1) (fun u : Int32 × Int32 × (Nat → Int32) × (Nat → Int32) × (Nat → Int32) => [(h0, oX12 nw nk mhasKept nt mtaped nr mrowMany mroundOf mroundFrom mouts nm u.1 u.2.1 ns mfrom mto msort misFault mdeep mcoded mlines nl nc nF np ntr nb mbestCost nso nsi nit nsh nsf nss nrc mtraced mdealer mnumber mwhose msize misParted), (nw, iA G 1662 fnw), (nm, iA G 36 u.2.2.1), (ns, iA G 8 u.2.2.2.1), (np, iA G 100 u.2.2.2.2)])
set_option maxHeartbeats 4000000 in
set_option maxRecDepth 100000 in
theorem m_findShould (l : Launch) (G : GG) (h0 : Nat) (je : Nat) (nw : Nat) (nk : Nat) (mhasKept : Int32) (nt : Nat) (mtaped : Int32) (nr : Nat) (mrowMany : Int32) (mroundOf : Int32) (mroundFrom : Int32) (mouts : Int32) (nm : Nat) (mfromHour : Int32) (mtoHour : Int32) (ns : Nat) (mfrom : Int32) (mto : Int32) (msort : Int32) (misFault : Int32) (mdeep : Int32) (mcoded : Int32) (mlines : Int32) (nl : Nat) (nc : Nat) (nF : Nat) (np : Nat) (ntr : Nat) (nb : Nat) (mbestCost : Int32) (nso : Nat) (nsi : Nat) (nit : Nat) (nsh : Nat) (nsf : Nat) (nss : Nat) (nrc : Nat) (mtraced : Int32) (mdealer : Int32) (mnumber : Int32) (mwhose : Int32) (msize : Int32) (misParted : Int32) (fnw : Nat → Int32) (fnm : Nat → Int32) (fns : Nat → Int32) (fnp : Nat → Int32) (hje : je < 10) (hN : NI fnw) (hV : VI fnw) (hM : MB fnm) : K_m_findShould l G h0 je nw nk mhasKept nt mtaped nr mrowMany mroundOf mroundFrom mouts nm mfromHour mtoHour ns mfrom mto msort misFault mdeep mcoded mlines nl nc nF np ntr nb mbestCost nso nsi nit nsh nsf nss nrc mtraced mdealer mnumber mwhose msize misParted fnw fnm fns fnp := by
  refine MV.start (by decide +kernel) (Nat.le_of_ble_eq_true rfl) ?_
  intro p e s m below meth c A ls hC hK hP hD hS hA hl
  refine absQ (fun Q0 hQ0 => ?_)
  have hl : lv_has ls 7 [(0, .ref h0), (1, .int (nI je))] := hl
  refine Kan8 hC (fun hx hb hr hml hB hown hlocks hnm => ?_)
  obtain ⟨kq, hkq, ekq⟩ := NI.nat hN (i := 5) (B := 12) (by decide +kernel) (by decide)
  obtain ⟨k6, hk6, ek6⟩ := NI.nat hN (i := 6) (B := 24) (by decide +kernel) (by decide)
  refine lv_iconst (v := 0) hx hb gX12_findShould_0.1 (by decide) ?_
  refine lv_istore_n (lv' := [(2, .int 0), (0, .ref h0), (1, .int (nI je))]) hx hb gX12_findShould_0.2.1 rfl hl (by decide) rfl (fun ls hl => ?_)
  have keyA : ∀ (nA kA : Nat) (vfh : Int32) (vth : Int32) (vA : Nat → Int32) (vS : Nat → Int32) (H : Heap) (locs : List Loc) (ls : Array Slot), kA + nA = 8 → (MB vA) → va_PD G A [(h0, oX12 nw nk mhasKept nt mtaped nr mrowMany mroundOf mroundFrom mouts nm vfh vth ns mfrom mto msort misFault mdeep mcoded mlines nl nc nF np ntr nb mbestCost nso nsi nit nsh nsf nss nrc mtraced mdealer mnumber mwhose msize misParted), (nw, iA G 1662 fnw), (nm, iA G 36 vA), (ns, iA G 8 vS), (np, iA G 100 fnp)] H → va_S A s.heap H locs → lv_has ls 7 [(2, .int (nI kA)), (0, .ref h0), (1, .int (nI je))] → W p l e (RM 7 0 0) s m ([.ref h0, .int (nI je)] : List Value).toArray below meth c H locs 0 0 Q0 (F0 m 2 ls []) := by
    intro nA
    induction nA with
    | zero =>
      intro kA vfh vth vA vS H locs ls hkA hvA hPD hS hl
      refine Kan2 hPD (fun hP hD => ?_)
      obtain rfl : 8 = kA := by omega
      have hl : lv_has ls 7 [(2, .int 8), (0, .ref h0), (1, .int (nI je))] := hl
      refine lv_iload_n hx hb gX12_findShould_0.2.2.1 rfl (lv_at0 hl) ?_
      refine lv_bipush (v := 8) hx hb gX12_findShould_0.2.2.2.1 (by decide) ?_
      refine lv_icmp_ge (tgt := 27) hx hb gX12_findShould_0.2.2.2.2.1 (by decide) (fun _ => ?_) (fun c9 => absurd (by decide) c9)
      refine lv_aload_n hx hb gX12_findShould_1.2.2.2.2.2.2.1 rfl (lv_at1 hl) ?_
      refine pV hC hK hl hP hD (m_rules l G h0 nw nk mhasKept nt mtaped nr mrowMany mroundOf mroundFrom mouts nm vfh vth ns mfrom mto msort misFault mdeep mcoded mlines nl nc nF np ntr nb mbestCost nso nsi nit nsh nsf nss nrc mtraced mdealer mnumber mwhose msize misParted fnw (hN)) si_X12_180 [0, 1] sm_0_1 fm_0_1 nd_0_1 rfl rfl rfl rfl rfl (Nat.le_of_ble_eq_true rfl) rm_7_2_3 ⟨by first | exact Nat.le_of_ble_eq_true rfl | exact Nat.zero_le _, by first | exact Nat.le_of_ble_eq_true rfl | exact Nat.zero_le _⟩ gX12_findShould_1.2.2.2.2.2.2.2.1 (fun r5628 hr5628 => ?_)
      obtain ⟨jv_5629, hpx5629, rfl⟩ := hr5628
      try dsimp only at hpx5629
      rcases Nat.eq_zero_or_pos jv_5629 with rfl | hpv5630
      · refine eqi (x1 := (-1)) (by decide) ?_
        refine lv_istore_n (lv' := [(2, .int (-1)), (0, .ref h0), (1, .int (nI je))]) hx hb gX12_findShould_1.2.2.2.2.2.2.2.2.1 rfl hl (by decide) rfl (fun ls hl => ?_)
        refine lv_iload_n hx hb gX12_findShould_1.2.2.2.2.2.2.2.2.2 rfl (lv_at0 hl) ?_
        refine lv_if_lt (tgt := 40) hx hb gX12_findShould_2.1 (by decide) (fun _ => ?_) (fun c9 => absurd (by decide) c9)
        refine lv_iconst (v := 0) hx hb gX12_findShould_2.2.2.2.1 (by decide) ?_
        refine lv_istore_n (lv' := [(3, .int 0), (2, .int (-1)), (0, .ref h0), (1, .int (nI je))]) hx hb gX12_findShould_2.2.2.2.2.1 rfl hl (by decide) rfl (fun ls hl => ?_)
        refine lv_iload_n hx hb gX12_findShould_2.2.2.2.2.2.1 rfl (lv_at0 hl) ?_
        refine lv_if_eq (tgt := 112) hx hb gX12_findShould_2.2.2.2.2.2.2.1 (by decide) (fun _ => ?_) (fun c9 => absurd (by decide) c9)
        refine toQ hQ0 ?_
        exact RV hC hP hD hS [0, 1, 2, 3, 4] (vfh, vth, vA, vS, fnp) rfl rfl (by decide) (by first | assumption | exact hM) gX12_findShould_6.2.2.2
      · obtain ⟨v5630, rfl⟩ : ∃ z9, jv_5629 = z9 + 1 := ⟨jv_5629 - 1, by omega⟩
        refine eqi (x1 := nI v5630) (nI_sub1 v5630) ?_
        obtain ⟨L5630, hL5630, eL5630, hLN5630⟩ := VI.line hV (v := v5630) (by omega)
        refine lv_istore_n (lv' := [(2, .int (nI v5630)), (0, .ref h0), (1, .int (nI je))]) hx hb gX12_findShould_1.2.2.2.2.2.2.2.2.1 rfl hl (by decide) rfl (fun ls hl => ?_)
        refine lv_iload_n hx hb gX12_findShould_1.2.2.2.2.2.2.2.2.2 rfl (lv_at0 hl) ?_
        refine lv_if_lt (tgt := 40) hx hb gX12_findShould_2.1 (by decide) (fun c_33_5631 => ?_) (fun c_33_5631 => ?_)
        · refine lv_iconst (v := 0) hx hb gX12_findShould_2.2.2.2.1 (by decide) ?_
          refine lv_istore_n (lv' := [(3, .int 0), (2, .int (nI v5630)), (0, .ref h0), (1, .int (nI je))]) hx hb gX12_findShould_2.2.2.2.2.1 rfl hl (by decide) rfl (fun ls hl => ?_)
          refine lv_iload_n hx hb gX12_findShould_2.2.2.2.2.2.1 rfl (lv_at0 hl) ?_
          refine lv_if_eq (tgt := 112) hx hb gX12_findShould_2.2.2.2.2.2.2.1 (by decide) (fun _ => ?_) (fun c9 => absurd (by decide) c9)
          refine toQ hQ0 ?_
          exact RV hC hP hD hS [0, 1, 2, 3, 4] (vfh, vth, vA, vS, fnp) rfl rfl (by decide) (by first | assumption | exact hM) gX12_findShould_6.2.2.2
        · refine lv_iconst (v := 1) hx hb gX12_findShould_2.2.1 (by decide) ?_
          refine lv_goto (tgt := 41) hx hb gX12_findShould_2.2.2.1 (by decide) ?_
          refine lv_istore_n (lv' := [(3, .int 1), (2, .int (nI v5630)), (0, .ref h0), (1, .int (nI je))]) hx hb gX12_findShould_2.2.2.2.2.1 rfl hl (by decide) rfl (fun ls hl => ?_)
          have keyW : ∀ (nW : Nat) (eaW : Int32) (w0 : Nat → Int32) (w1 : Nat → Int32) (H : Heap) (locs : List Loc) (ls : Array Slot), (eaW = 0 ∨ (eaW = 1 ∧ mu w0 < nW)) → va_PD G A [(h0, oX12 nw nk mhasKept nt mtaped nr mrowMany mroundOf mroundFrom mouts nm vfh vth ns mfrom mto msort misFault mdeep mcoded mlines nl nc nF np ntr nb mbestCost nso nsi nit nsh nsf nss nrc mtraced mdealer mnumber mwhose msize misParted), (nw, iA G 1662 fnw), (nm, iA G 36 vA), (ns, iA G 8 w0), (np, iA G 100 w1)] H → va_S A s.heap H locs → lv_has ls 7 [(3, .int eaW), (2, .int (nI v5630)), (0, .ref h0), (1, .int (nI je))] → W p l e (RM 7 0 0) s m ([.ref h0, .int (nI je)] : List Value).toArray below meth c H locs 0 0 Q0 (F0 m 42 ls []) := by
            intro nW
            induction nW with
            | zero =>
              intro eaW w0 w1 H locs ls hWW hPD hS hl
              refine Kan2 hPD (fun hP hD => ?_)
              obtain rfl : eaW = 0 := hWW.elim (fun h => h) (fun h => absurd h.2 (Nat.not_lt_zero _))
              refine lv_iload_n hx hb gX12_findShould_2.2.2.2.2.2.1 rfl (lv_at0 hl) ?_
              refine lv_if_eq (tgt := 112) hx hb gX12_findShould_2.2.2.2.2.2.2.1 (by decide) (fun _ => ?_) (fun c9 => absurd (by decide) c9)
              refine toQ hQ0 ?_
              exact RV hC hP hD hS [0, 1, 2, 3, 4] (vfh, vth, vA, w0, w1) rfl rfl (by decide) (by first | assumption | exact hM) gX12_findShould_6.2.2.2
            | succ nW ihW =>
              intro eaW w0 w1 H locs ls hWW hPD hS hl
              refine Kan2 hPD (fun hP hD => ?_)
              rcases hWW with rfl | ⟨rfl, hWW⟩
              · refine lv_iload_n hx hb gX12_findShould_2.2.2.2.2.2.1 rfl (lv_at0 hl) ?_
                refine lv_if_eq (tgt := 112) hx hb gX12_findShould_2.2.2.2.2.2.2.1 (by decide) (fun _ => ?_) (fun c9 => absurd (by decide) c9)
                refine toQ hQ0 ?_
                exact RV hC hP hD hS [0, 1, 2, 3, 4] (vfh, vth, vA, w0, w1) rfl rfl (by decide) (by first | assumption | exact hM) gX12_findShould_6.2.2.2
              · refine lv_iload_n hx hb gX12_findShould_2.2.2.2.2.2.1 rfl (lv_at0 hl) ?_
                refine lv_if_eq (tgt := 112) hx hb gX12_findShould_2.2.2.2.2.2.2.1 (by decide) (fun c9 => absurd c9 (by decide)) (fun _ => ?_)
                refine lv_iconst (v := 0) hx hb gX12_findShould_2.2.2.2.2.2.2.2.1 (by decide) ?_
                refine lv_istore_n (lv' := [(3, .int 0), (2, .int (nI v5630)), (0, .ref h0), (1, .int (nI je))]) hx hb gX12_findShould_2.2.2.2.2.2.2.2.2.1 rfl hl (by decide) rfl (fun ls hl => ?_)
                refine lv_iconst (v := 0) hx hb gX12_findShould_2.2.2.2.2.2.2.2.2.2 (by decide) ?_
                refine lv_istore (lv' := [(4, .int 0), (3, .int 0), (2, .int (nI v5630)), (0, .ref h0), (1, .int (nI je))]) hx hb gX12_findShould_3.1 hl (by decide) rfl (fun ls hl => ?_)
                have keyQ : ∀ (nQ kQ : Nat) (ea : Int32) (vQ : Nat → Int32) (vR : Nat → Int32) (H : Heap) (locs : List Loc) (ls : Array Slot), kQ + nQ = L5630 → ((ea = 0 ∧ mu vQ ≤ mu w0) ∨ (ea = 1 ∧ mu vQ < mu w0)) → va_PD G A [(h0, oX12 nw nk mhasKept nt mtaped nr mrowMany mroundOf mroundFrom mouts nm vfh vth ns mfrom mto msort misFault mdeep mcoded mlines nl nc nF np ntr nb mbestCost nso nsi nit nsh nsf nss nrc mtraced mdealer mnumber mwhose msize misParted), (nw, iA G 1662 fnw), (nm, iA G 36 vA), (ns, iA G 8 vQ), (np, iA G 100 vR)] H → va_S A s.heap H locs → lv_has ls 7 [(4, .int (nI kQ)), (3, .int ea), (2, .int (nI v5630)), (0, .ref h0), (1, .int (nI je))] → W p l e (RM 7 0 0) s m ([.ref h0, .int (nI je)] : List Value).toArray below meth c H locs 0 0 Q0 (F0 m 51 ls []) := by
                  intro nQ
                  induction nQ with
                  | zero =>
                    intro kQ ea vQ vR H locs ls hkQ hQ hPD hS hl
                    refine Kan2 hPD (fun hP hD => ?_)
                    obtain rfl : L5630 = kQ := by omega
                    have hl : lv_has ls 7 [(4, .int (nI L5630)), (3, .int ea), (2, .int (nI v5630)), (0, .ref h0), (1, .int (nI je))] := hl
                    refine lv_iload hx hb gX12_findShould_3.2.1 (lv_at0 hl) ?_
                    refine lv_aload_n hx hb gX12_findShould_3.2.2.1 rfl (lv_at3 hl) ?_
                    refine lv_iload_n hx hb gX12_findShould_3.2.2.2.1 rfl (lv_at2 hl) ?_
                    refine pV hC hK hl hP hD (m_lines l G L5630 h0 v5630 nw nk mhasKept nt mtaped nr mrowMany mroundOf mroundFrom mouts nm vfh vth ns mfrom mto msort misFault mdeep mcoded mlines nl nc nF np ntr nb mbestCost nso nsi nit nsh nsf nss nrc mtraced mdealer mnumber mwhose msize misParted fnw (by omega) (eL5630)) si_X12_183 [0, 1] sm_0_1 fm_0_1 nd_0_1 rfl rfl rfl rfl rfl (Nat.le_of_ble_eq_true rfl) rm_7_1_2 ⟨by first | exact Nat.le_of_ble_eq_true rfl | exact Nat.zero_le _, by first | exact Nat.le_of_ble_eq_true rfl | exact Nat.zero_le _⟩ gX12_findShould_3.2.2.2.2.1 (Keqr ?_)
                    refine lv_icmp_ge (tgt := 109) hx hb gX12_findShould_3.2.2.2.2.2.1 (by decide) (fun _ => ?_) (fun c9 => absurd (Int32.le_refl _) c9)
                    refine lv_goto (tgt := 42) hx hb gX12_findShould_6.2.2.1 (by decide) ?_
                    exact ihW ea vQ vR _ _ _ (hQ.elim (fun h => Or.inl h.1) (fun h => Or.inr ⟨h.1, by have := h.2; omega⟩)) (And.intro hP hD) hS (lv_sub hl [1, 2, 3, 4] rfl)
                  | succ nQ ihQ =>
                    intro kQ ea vQ vR H locs ls hkQ hQ hPD hS hl
                    refine Kan2 hPD (fun hP hD => ?_)
                    refine lv_iload hx hb gX12_findShould_3.2.1 (lv_at0 hl) ?_
                    refine lv_aload_n hx hb gX12_findShould_3.2.2.1 rfl (lv_at3 hl) ?_
                    refine lv_iload_n hx hb gX12_findShould_3.2.2.2.1 rfl (lv_at2 hl) ?_
                    refine pV hC hK hl hP hD (m_lines l G L5630 h0 v5630 nw nk mhasKept nt mtaped nr mrowMany mroundOf mroundFrom mouts nm vfh vth ns mfrom mto msort misFault mdeep mcoded mlines nl nc nF np ntr nb mbestCost nso nsi nit nsh nsf nss nrc mtraced mdealer mnumber mwhose msize misParted fnw (by omega) (eL5630)) si_X12_183 [0, 1] sm_0_1 fm_0_1 nd_0_1 rfl rfl rfl rfl rfl (Nat.le_of_ble_eq_true rfl) rm_7_1_2 ⟨by first | exact Nat.le_of_ble_eq_true rfl | exact Nat.zero_le _, by first | exact Nat.le_of_ble_eq_true rfl | exact Nat.zero_le _⟩ gX12_findShould_3.2.2.2.2.1 (Keqr ?_)
                    refine lv_icmp_ge (tgt := 109) hx hb gX12_findShould_3.2.2.2.2.2.1 (by decide) (fun c9 => absurd c9 (nI_ge (a := kQ) (b := L5630) (by omega) (by omega))) (fun _ => ?_)
                    have hln5636 := hLN5630 kQ (by omega)
                    refine lv_aload_n hx hb gX12_findShould_3.2.2.2.2.2.2.1 rfl (lv_at3 hl) ?_
                    refine lv_iload_n hx hb gX12_findShould_3.2.2.2.2.2.2.2.1 rfl (lv_at2 hl) ?_
                    refine lv_iload hx hb gX12_findShould_3.2.2.2.2.2.2.2.2.1 (lv_at0 hl) ?_
                    refine lv_iload_n hx hb gX12_findShould_3.2.2.2.2.2.2.2.2.2 rfl (lv_at4 hl) ?_
                    refine iV (wr := [(nm, iA G 36 vA)]) hC hK hl hP hD hS hA (m_fromLine l G h0 v5630 kQ je nw nk mhasKept nt mtaped nr mrowMany mroundOf mroundFrom mouts nm vfh vth ns mfrom mto msort misFault mdeep mcoded mlines nl nc nF np ntr nb mbestCost nso nsi nit nsh nsf nss nrc mtraced mdealer mnumber mwhose msize misParted fnw vQ vR (by omega) (by omega) (hln5636) (hje) (hN)) si_X12_186 [0, 1, 3, 4] [2] sm_0_1_3_4 fm_0_1_3_4 nd_0_1_3_4 sm_2 nd_2 dj_0_1_3_4__2 rfl rfl rfl rfl rfl (Nat.le_of_ble_eq_true rfl) rm_7_6_6 ⟨Nat.le_of_ble_eq_true rfl, Nat.le_of_ble_eq_true rfl⟩ gX12_findShould_4.1 (fun r5637 gnp5639 H locs hr5637 hP hD hS => ?_)
                    try dsimp only at hr5637
                    refine Kpdr (ws := [(nm, iA G 36 vA), (h0, oX12 nw nk mhasKept nt mtaped nr mrowMany mroundOf mroundFrom mouts nm vfh vth ns mfrom mto msort misFault mdeep mcoded mlines nl nc nF np ntr nb mbestCost nso nsi nit nsh nsf nss nrc mtraced mdealer mnumber mwhose msize misParted), (nw, iA G 1662 fnw), (ns, iA G 8 vQ), (np, iA G 100 gnp5639)]) hP hD (fun hP hD => ?_)
                    refine lv_istore (lv' := [(5, .int r5637), (4, .int (nI kQ)), (3, .int ea), (2, .int (nI v5630)), (0, .ref h0), (1, .int (nI je))]) hx hb gX12_findShould_4.2.1 hl (by decide) rfl (fun ls hl => ?_)
                    refine lv_aload_n hx hb gX12_findShould_4.2.2.1 rfl (lv_at4 hl) ?_
                    refine lv_iload_n hx hb gX12_findShould_4.2.2.2.1 rfl (lv_at3 hl) ?_
                    refine lv_iload hx hb gX12_findShould_4.2.2.2.2.1 (lv_at1 hl) ?_
                    refine pV hC hK hl hP hD (m_thingOf l G h0 v5630 kQ nw nk mhasKept nt mtaped nr mrowMany mroundOf mroundFrom mouts nm vfh vth ns mfrom mto msort misFault mdeep mcoded mlines nl nc nF np ntr nb mbestCost nso nsi nit nsh nsf nss nrc mtraced mdealer mnumber mwhose msize misParted fnw (by omega) (by omega) (hln5636)) si_X12_190 [1, 2] sm_1_2 fm_1_2 nd_1_2 rfl rfl rfl rfl rfl (Nat.le_of_ble_eq_true rfl) rm_7_2_4 ⟨by first | exact Nat.le_of_ble_eq_true rfl | exact Nat.zero_le _, by first | exact Nat.le_of_ble_eq_true rfl | exact Nat.zero_le _⟩ gX12_findShould_4.2.2.2.2.2.1 (fun r5640 hr5640 => ?_)
                    obtain ⟨t9_5641, hpx5641, rfl⟩ := hr5640
                    try dsimp only at hpx5641
                    refine lv_istore (lv' := [(6, .int (nI t9_5641)), (5, .int r5637), (4, .int (nI kQ)), (3, .int ea), (2, .int (nI v5630)), (0, .ref h0), (1, .int (nI je))]) hx hb gX12_findShould_4.2.2.2.2.2.2.1 hl (by decide) rfl (fun ls hl => ?_)
                    refine lv_iload hx hb gX12_findShould_4.2.2.2.2.2.2.2.1 (lv_at1 hl) ?_
                    refine lv_aload_n hx hb gX12_findShould_4.2.2.2.2.2.2.2.2.1 rfl (lv_at5 hl) ?_
                    refine gf_X12_29 hC rfl hK hP 1 rfl rfl gX12_findShould_4.2.2.2.2.2.2.2.2.2 ?_
                    refine lv_iload hx hb gX12_findShould_5.1 (lv_at0 hl) ?_
                    refine aldN hC hK hP 3 rfl (k := t9_5641) (by omega) (Nat.le_of_ble_eq_true rfl) (v := vQ t9_5641) rfl gX12_findShould_5.2.1 ?_
                    refine lv_topi (fun x5642 ex5642 => ?_)
                    refine lv_icmp_ge (tgt := 103) hx hb gX12_findShould_5.2.2.1 (by decide) (fun c_89_5643 => ?_) (fun c_89_5643 => ?_)
                    · refine lv_iinc (v := nI (kQ + 1)) (lv' := [(4, .int (nI (kQ + 1))), (6, .int (nI t9_5641)), (5, .int r5637), (3, .int ea), (2, .int (nI v5630)), (0, .ref h0), (1, .int (nI je))]) hx hb gX12_findShould_6.1 hl (k := 2) rfl (nI_1 _) (by decide) rfl (fun ls hl => ?_)
                      refine lv_goto (tgt := 51) hx hb gX12_findShould_6.2.1 (by decide) ?_
                      refine Kpds (ws' := [(h0, oX12 nw nk mhasKept nt mtaped nr mrowMany mroundOf mroundFrom mouts nm vfh vth ns mfrom mto msort misFault mdeep mcoded mlines nl nc nF np ntr nb mbestCost nso nsi nit nsh nsf nss nrc mtraced mdealer mnumber mwhose msize misParted), (nw, iA G 1662 fnw), (nm, iA G 36 vA), (ns, iA G 8 vQ), (np, iA G 100 gnp5639)]) hP hD [1, 2, 0, 3, 4] fm_1_2_0_3_4 nd_1_2_0_3_4 sm_1_2_0_3_4 (fun hP hD => ?_)
                      exact ihQ (kQ + 1) ea vQ gnp5639 _ _ _ (by omega) (by first | assumption | exact Or.inl rfl | exact Or.inr rfl | exact Or.inl ⟨rfl, Nat.le_refl _⟩) (And.intro hP hD) hS (lv_sub hl [0, 3, 4, 5, 6] rfl)
                    · refine lv_aload_n hx hb gX12_findShould_5.2.2.2.1 rfl (lv_at5 hl) ?_
                      refine gf_X12_29 hC rfl hK hP 1 rfl rfl gX12_findShould_5.2.2.2.2.1 ?_
                      refine lv_iload hx hb gX12_findShould_5.2.2.2.2.2.1 (lv_at0 hl) ?_
                      refine lv_iload hx hb gX12_findShould_5.2.2.2.2.2.2.1 (lv_at1 hl) ?_
                      refine astN hC hK hP hD hS 3 (ws' := [(nm, iA G 36 vA), (h0, oX12 nw nk mhasKept nt mtaped nr mrowMany mroundOf mroundFrom mouts nm vfh vth ns mfrom mto msort misFault mdeep mcoded mlines nl nc nF np ntr nb mbestCost nso nsi nit nsh nsf nss nrc mtraced mdealer mnumber mwhose msize misParted), (nw, iA G 1662 fnw), (ns, iA G 8 (upd vQ t9_5641 r5637)), (np, iA G 100 gnp5639)]) rfl (k := t9_5641) (by omega) (Nat.le_of_ble_eq_true rfl) (rfl) gX12_findShould_5.2.2.2.2.2.2.2.1 (fun H locs hP hD hS => ?_)
                      have hmu9 := mu_upd (f := vQ) (t := t9_5641) (x := r5637) (y := x5642) (by omega) ex5642 c_89_5643
                      have hQ2 : mu vQ ≤ mu w0 := hQ.elim (fun h => h.2) (fun h => Nat.le_of_lt h.2)
                      have hQ3 : ((1 : Int32) = 0 ∧ mu (upd vQ t9_5641 r5637) ≤ mu w0) ∨ ((1 : Int32) = 1 ∧ mu (upd vQ t9_5641 r5637) < mu w0) := Or.inr ⟨rfl, by omega⟩
                      refine lv_iconst (v := 1) hx hb gX12_findShould_5.2.2.2.2.2.2.2.2.1 (by decide) ?_
                      refine lv_istore_n (lv' := [(3, .int 1), (6, .int (nI t9_5641)), (5, .int r5637), (4, .int (nI kQ)), (2, .int (nI v5630)), (0, .ref h0), (1, .int (nI je))]) hx hb gX12_findShould_5.2.2.2.2.2.2.2.2.2 rfl hl (by decide) rfl (fun ls hl => ?_)
                      refine lv_iinc (v := nI (kQ + 1)) (lv' := [(4, .int (nI (kQ + 1))), (3, .int 1), (6, .int (nI t9_5641)), (5, .int r5637), (2, .int (nI v5630)), (0, .ref h0), (1, .int (nI je))]) hx hb gX12_findShould_6.1 hl (k := 3) rfl (nI_1 _) (by decide) rfl (fun ls hl => ?_)
                      refine lv_goto (tgt := 51) hx hb gX12_findShould_6.2.1 (by decide) ?_
                      refine Kpds (ws' := [(h0, oX12 nw nk mhasKept nt mtaped nr mrowMany mroundOf mroundFrom mouts nm vfh vth ns mfrom mto msort misFault mdeep mcoded mlines nl nc nF np ntr nb mbestCost nso nsi nit nsh nsf nss nrc mtraced mdealer mnumber mwhose msize misParted), (nw, iA G 1662 fnw), (nm, iA G 36 vA), (ns, iA G 8 (upd vQ t9_5641 r5637)), (np, iA G 100 gnp5639)]) hP hD [1, 2, 0, 3, 4] fm_1_2_0_3_4 nd_1_2_0_3_4 sm_1_2_0_3_4 (fun hP hD => ?_)
                      exact ihQ (kQ + 1) 1 (upd vQ t9_5641 r5637) gnp5639 _ _ _ (by omega) (by first | assumption | exact Or.inl rfl | exact Or.inr rfl | exact Or.inl ⟨rfl, Nat.le_refl _⟩) (And.intro hP hD) hS (lv_sub hl [0, 1, 4, 5, 6] rfl)
                exact keyQ L5630 0 0 w0 w1 _ _ _ (by omega) (by first | assumption | exact Or.inl rfl | exact Or.inr rfl | exact Or.inl ⟨rfl, Nat.le_refl _⟩) (And.intro hP hD) hS (lv_sub hl [0, 1, 2, 3, 4] rfl)
          exact keyW (mu vS + 1) 1 vS fnp _ _ _ (Or.inr ⟨rfl, Nat.lt_succ_self _⟩) (And.intro hP hD) hS (lv_sub hl [0, 1, 2, 3] rfl)
    | succ nA ihA =>
      intro kA vfh vth vA vS H locs ls hkA hvA hPD hS hl
      refine Kan2 hPD (fun hP hD => ?_)
      refine lv_iload_n hx hb gX12_findShould_0.2.2.1 rfl (lv_at0 hl) ?_
      refine lv_bipush (v := 8) hx hb gX12_findShould_0.2.2.2.1 (by decide) ?_
      refine lv_icmp_ge (tgt := 27) hx hb gX12_findShould_0.2.2.2.2.1 (by decide) (fun c9 => absurd c9 (nI_ge (a := kA) (b := 8) (by omega) (by omega))) (fun _ => ?_)
      refine lv_aload_n hx hb gX12_findShould_0.2.2.2.2.2.1 rfl (lv_at1 hl) ?_
      refine gf_X12_29 hC rfl hK hP 0 rfl rfl gX12_findShould_0.2.2.2.2.2.2.1 ?_
      refine lv_iload_n hx hb gX12_findShould_0.2.2.2.2.2.2.2.1 rfl (lv_at0 hl) ?_
      refine lv_aload_n hx hb gX12_findShould_0.2.2.2.2.2.2.2.2.1 rfl (lv_at1 hl) ?_
      refine lv_iload_n hx hb gX12_findShould_0.2.2.2.2.2.2.2.2.2 rfl (lv_at2 hl) ?_
      refine lv_iload_n hx hb gX12_findShould_1.1 rfl (lv_at0 hl) ?_
      refine lv_iconst (v := 1) hx hb gX12_findShould_1.2.1 (by decide) ?_
      refine iV (wr := [(ns, iA G 8 vS), (np, iA G 100 fnp)]) hC hK hl hP hD hS hA (m_knewBy l G h0 je (nI kA) 1 nw nk mhasKept nt mtaped nr mrowMany mroundOf mroundFrom mouts nm vfh vth ns mfrom mto msort misFault mdeep mcoded mlines nl nc nF np ntr nb mbestCost nso nsi nit nsh nsf nss nrc mtraced mdealer mnumber mwhose msize misParted fnw vA (hje) (hN) (hvA)) si_X12_176 [0, 1, 2] [3, 4] sm_0_1_2 fm_0_1_2 nd_0_1_2 sm_3_4 nd_3_4 dj_0_1_2__3_4 rfl rfl rfl rfl rfl (Nat.le_of_ble_eq_true rfl) rm_7_5_7 ⟨Nat.le_of_ble_eq_true rfl, Nat.le_of_ble_eq_true rfl⟩ gX12_findShould_1.2.2.1 (fun r5644 => Ktu3 fun fh15646 th15647 gnm5648 => ?_)
      intro H locs hr5644 hP hD hS
      try dsimp only at hr5644
      refine Kpdr (ws := [(ns, iA G 8 vS), (np, iA G 100 fnp), (h0, oX12 nw nk mhasKept nt mtaped nr mrowMany mroundOf mroundFrom mouts nm fh15646 th15647 ns mfrom mto msort misFault mdeep mcoded mlines nl nc nF np ntr nb mbestCost nso nsi nit nsh nsf nss nrc mtraced mdealer mnumber mwhose msize misParted), (nw, iA G 1662 fnw), (nm, iA G 36 gnm5648)]) hP hD (fun hP hD => ?_)
      obtain ⟨hr5644, w5649⟩ := hr5644
      refine astN hC hK hP hD hS 0 (ws' := [(ns, iA G 8 (upd vS kA r5644)), (np, iA G 100 fnp), (h0, oX12 nw nk mhasKept nt mtaped nr mrowMany mroundOf mroundFrom mouts nm fh15646 th15647 ns mfrom mto msort misFault mdeep mcoded mlines nl nc nF np ntr nb mbestCost nso nsi nit nsh nsf nss nrc mtraced mdealer mnumber mwhose msize misParted), (nw, iA G 1662 fnw), (nm, iA G 36 gnm5648)]) rfl (k := kA) (by omega) (Nat.le_of_ble_eq_true rfl) (rfl) gX12_findShould_1.2.2.2.1 (fun H locs hP hD hS => ?_)
      refine lv_iinc (v := nI (kA + 1)) (lv' := [(2, .int (nI (kA + 1))), (0, .ref h0), (1, .int (nI je))]) hx hb gX12_findShould_1.2.2.2.2.1 hl (k := 0) rfl (nI_1 _) (by decide) rfl (fun ls hl => ?_)
      refine lv_goto (tgt := 2) hx hb gX12_findShould_1.2.2.2.2.2.1 (by decide) ?_
      refine Kpds (ws' := [(h0, oX12 nw nk mhasKept nt mtaped nr mrowMany mroundOf mroundFrom mouts nm fh15646 th15647 ns mfrom mto msort misFault mdeep mcoded mlines nl nc nF np ntr nb mbestCost nso nsi nit nsh nsf nss nrc mtraced mdealer mnumber mwhose msize misParted), (nw, iA G 1662 fnw), (nm, iA G 36 gnm5648), (ns, iA G 8 (upd vS kA r5644)), (np, iA G 100 fnp)]) hP hD [2, 3, 4, 0, 1] fm_2_3_4_0_1 nd_2_3_4_0_1 sm_2_3_4_0_1 (fun hP hD => ?_)
      exact ihA (kA + 1) fh15646 th15647 gnm5648 (upd vS kA r5644) _ _ _ (by omega) (by first | assumption | exact Or.inl rfl | exact Or.inr rfl) (And.intro hP hD) hS (lv_sub hl [0, 1, 2] rfl)
  exact keyA 8 0 mfromHour mtoHour fnm fns _ _ _ (by omega) (by first | assumption | exact Or.inl rfl | exact Or.inr rfl) (And.intro hP hD) hS (lv_sub hl [0, 1, 2] rfl)
def K_m_fromOf (l : Launch) (G : GG) (h0 : Nat) (je : Nat) (jt : Nat) (wy : Int32) (nw : Nat) (nk : Nat) (mhasKept : Int32) (nt : Nat) (mtaped : Int32) (nr : Nat) (mrowMany : Int32) (mroundOf : Int32) (mroundFrom : Int32) (mouts : Int32) (nm : Nat) (mfromHour : Int32) (mtoHour : Int32) (ns : Nat) (mfrom : Int32) (mto : Int32) (msort : Int32) (misFault : Int32) (mdeep : Int32) (mcoded : Int32) (mlines : Int32) (nl : Nat) (nc : Nat) (nF : Nat) (np : Nat) (ntr : Nat) (nb : Nat) (mbestCost : Int32) (nso : Nat) (nsi : Nat) (nit : Nat) (nsh : Nat) (nsf : Nat) (nss : Nat) (nrc : Nat) (mtraced : Int32) (mdealer : Int32) (mnumber : Int32) (mwhose : Int32) (msize : Int32) (misParted : Int32) (fnw : Nat → Int32) (fnm : Nat → Int32) (fns : Nat → Int32) (fnp : Nat → Int32) : Prop := MI l G yX12_fromOf cX12_fromOf 4 (some .int) 8 0 0 [.ref h0, .int (nI je), .int (nI jt), .int wy] [(h0, oX12 nw nk mhasKept nt mtaped nr mrowMany mroundOf mroundFrom mouts nm mfromHour mtoHour ns mfrom mto msort misFault mdeep mcoded mlines nl nc nF np ntr nb mbestCost nso nsi nit nsh nsf nss nrc mtraced mdealer mnumber mwhose msize misParted), (nw, iA G 1662 fnw), (nm, iA G 36 fnm), (ns, iA G 8 fns), (np, iA G 100 fnp)] (fun (r : Int32) (u : Int32 × Int32 × (Nat → Int32) × (Nat → Int32) × (Nat → Int32)) => (True) ∧ (MB u.2.2.1)) (fun u : Int32 × Int32 × (Nat → Int32) × (Nat → Int32) × (Nat → Int32) => [(h0, oX12 nw nk mhasKept nt mtaped nr mrowMany mroundOf mroundFrom mouts nm u.1 u.2.1 ns mfrom mto msort misFault mdeep mcoded mlines nl nc nF np ntr nb mbestCost nso nsi nit nsh nsf nss nrc mtraced mdealer mnumber mwhose msize misParted), (nw, iA G 1662 fnw), (nm, iA G 36 u.2.2.1), (ns, iA G 8 u.2.2.2.1), (np, iA G 100 u.2.2.2.2)])
set_option maxHeartbeats 4000000 in
set_option maxRecDepth 100000 in
theorem m_fromOf (l : Launch) (G : GG) (h0 : Nat) (je : Nat) (jt : Nat) (wy : Int32) (nw : Nat) (nk : Nat) (mhasKept : Int32) (nt : Nat) (mtaped : Int32) (nr : Nat) (mrowMany : Int32) (mroundOf : Int32) (mroundFrom : Int32) (mouts : Int32) (nm : Nat) (mfromHour : Int32) (mtoHour : Int32) (ns : Nat) (mfrom : Int32) (mto : Int32) (msort : Int32) (misFault : Int32) (mdeep : Int32) (mcoded : Int32) (mlines : Int32) (nl : Nat) (nc : Nat) (nF : Nat) (np : Nat) (ntr : Nat) (nb : Nat) (mbestCost : Int32) (nso : Nat) (nsi : Nat) (nit : Nat) (nsh : Nat) (nsf : Nat) (nss : Nat) (nrc : Nat) (mtraced : Int32) (mdealer : Int32) (mnumber : Int32) (mwhose : Int32) (msize : Int32) (misParted : Int32) (fnw : Nat → Int32) (fnm : Nat → Int32) (fns : Nat → Int32) (fnp : Nat → Int32) (hje : je < 10) (hjt : jt < 8) (hN : NI fnw) (hV : VI fnw) (hM : MB fnm) : K_m_fromOf l G h0 je jt wy nw nk mhasKept nt mtaped nr mrowMany mroundOf mroundFrom mouts nm mfromHour mtoHour ns mfrom mto msort misFault mdeep mcoded mlines nl nc nF np ntr nb mbestCost nso nsi nit nsh nsf nss nrc mtraced mdealer mnumber mwhose msize misParted fnw fnm fns fnp := by
  refine MI.start (by decide +kernel) (Nat.le_of_ble_eq_true rfl) ?_
  intro p e s m below meth c A ls hC hK hP hD hS hA hl
  refine absQ (fun Q0 hQ0 => ?_)
  have hl : lv_has ls 4 [(0, .ref h0), (1, .int (nI je)), (2, .int (nI jt)), (3, .int wy)] := hl
  refine Kan8 hC (fun hx hb hr hml hB hown hlocks hnm => ?_)
  refine lv_iload_n hx hb gX12_fromOf_0.1 rfl (lv_at3 hl) ?_
  refine lv_iconst (v := 2) hx hb gX12_fromOf_0.2.1 (by decide) ?_
  refine lv_icmp_ge (tgt := 21) hx hb gX12_fromOf_0.2.2.1 (by decide) (fun c_2_5650 => ?_) (fun c_2_5650 => ?_)
  · refine lv_aload_n hx hb gX12_fromOf_1.2.2.2.1 rfl (lv_at0 hl) ?_
    refine lv_iload_n hx hb gX12_fromOf_1.2.2.2.2.1 rfl (lv_at1 hl) ?_
    refine vV (wr := []) hC hK hl hP hD hS hA (m_findShould l G h0 je nw nk mhasKept nt mtaped nr mrowMany mroundOf mroundFrom mouts nm mfromHour mtoHour ns mfrom mto msort misFault mdeep mcoded mlines nl nc nF np ntr nb mbestCost nso nsi nit nsh nsf nss nrc mtraced mdealer mnumber mwhose msize misParted fnw fnm fns fnp (hje) (hN) (hV) (hM)) si_X12_199 [0, 1, 2, 3, 4] [] sm_0_1_2_3_4 fm_0_1_2_3_4 nd_0_1_2_3_4 rfl rfl (by decide) rfl rfl rfl rfl rfl (Nat.le_of_ble_eq_true rfl) rm_8_7_7 ⟨Nat.le_of_ble_eq_true rfl, Nat.le_of_ble_eq_true rfl⟩ gX12_fromOf_1.2.2.2.2.2.1 (Ktu5 fun fh15653 th15654 gnm5655 gns5656 gnp5657 => ?_)
    intro H locs hr5651 hP hD hS
    try dsimp only at hr5651
    refine Kpdr (ws := [(h0, oX12 nw nk mhasKept nt mtaped nr mrowMany mroundOf mroundFrom mouts nm fh15653 th15654 ns mfrom mto msort misFault mdeep mcoded mlines nl nc nF np ntr nb mbestCost nso nsi nit nsh nsf nss nrc mtraced mdealer mnumber mwhose msize misParted), (nw, iA G 1662 fnw), (nm, iA G 36 gnm5655), (ns, iA G 8 gns5656), (np, iA G 100 gnp5657)]) hP hD (fun hP hD => ?_)
    have w5658 := hr5651
    refine lv_aload_n hx hb gX12_fromOf_1.2.2.2.2.2.2.1 rfl (lv_at0 hl) ?_
    refine gf_X12_29 hC rfl hK hP 0 rfl rfl gX12_fromOf_1.2.2.2.2.2.2.2.1 ?_
    refine lv_iload_n hx hb gX12_fromOf_1.2.2.2.2.2.2.2.2.1 rfl (lv_at2 hl) ?_
    refine aldN hC hK hP 3 rfl (k := jt) (by omega) (Nat.le_of_ble_eq_true rfl) (v := gns5656 jt) rfl gX12_fromOf_1.2.2.2.2.2.2.2.2.2 ?_
    refine lv_topi (fun x5659 ex5659 => ?_)
    refine toQ hQ0 ?_
    exact RI (v := x5659) hC hP hD hS [0, 1, 2, 3, 4] (fh15653, th15654, gnm5655, gns5656, gnp5657) rfl rfl (by decide) (⟨trivial, by first | assumption | exact hM⟩) rfl gX12_fromOf_2
  · refine lv_aload_n hx hb gX12_fromOf_0.2.2.2.1 rfl (lv_at0 hl) ?_
    refine lv_iload_n hx hb gX12_fromOf_0.2.2.2.2.1 rfl (lv_at1 hl) ?_
    refine lv_iload_n hx hb gX12_fromOf_0.2.2.2.2.2.1 rfl (lv_at2 hl) ?_
    refine lv_iload_n hx hb gX12_fromOf_0.2.2.2.2.2.2.1 rfl (lv_at3 hl) ?_
    refine lv_if_ne (tgt := 16) hx hb gX12_fromOf_0.2.2.2.2.2.2.2.1 (by decide) (fun c_9_5660 => ?_) (fun c_9_5660 => ?_)
    · refine lv_iconst (v := 0) hx hb gX12_fromOf_1.1 (by decide) ?_
      refine iV (wr := [(ns, iA G 8 fns), (np, iA G 100 fnp)]) hC hK hl hP hD hS hA (m_knewBy l G h0 je (nI jt) 0 nw nk mhasKept nt mtaped nr mrowMany mroundOf mroundFrom mouts nm mfromHour mtoHour ns mfrom mto msort misFault mdeep mcoded mlines nl nc nF np ntr nb mbestCost nso nsi nit nsh nsf nss nrc mtraced mdealer mnumber mwhose msize misParted fnw fnm (hje) (hN) (hM)) si_X12_176 [0, 1, 2] [3, 4] sm_0_1_2 fm_0_1_2 nd_0_1_2 sm_3_4 nd_3_4 dj_0_1_2__3_4 rfl rfl rfl rfl rfl (Nat.le_of_ble_eq_true rfl) rm_8_5_7 ⟨Nat.le_of_ble_eq_true rfl, Nat.le_of_ble_eq_true rfl⟩ gX12_fromOf_1.2.1 (fun r5661 => Ktu3 fun fh15663 th15664 gnm5665 => ?_)
      intro H locs hr5661 hP hD hS
      try dsimp only at hr5661
      refine Kpdr (ws := [(ns, iA G 8 fns), (np, iA G 100 fnp), (h0, oX12 nw nk mhasKept nt mtaped nr mrowMany mroundOf mroundFrom mouts nm fh15663 th15664 ns mfrom mto msort misFault mdeep mcoded mlines nl nc nF np ntr nb mbestCost nso nsi nit nsh nsf nss nrc mtraced mdealer mnumber mwhose msize misParted), (nw, iA G 1662 fnw), (nm, iA G 36 gnm5665)]) hP hD (fun hP hD => ?_)
      obtain ⟨hr5661, w5666⟩ := hr5661
      refine toQ hQ0 ?_
      exact RI (v := r5661) hC hP hD hS [2, 3, 4, 0, 1] (fh15663, th15664, gnm5665, fns, fnp) rfl rfl (by decide) (⟨trivial, by first | assumption | exact hM⟩) rfl gX12_fromOf_1.2.2.1
    · refine lv_iconst (v := 1) hx hb gX12_fromOf_0.2.2.2.2.2.2.2.2.1 (by decide) ?_
      refine lv_goto (tgt := 17) hx hb gX12_fromOf_0.2.2.2.2.2.2.2.2.2 (by decide) ?_
      refine iV (wr := [(ns, iA G 8 fns), (np, iA G 100 fnp)]) hC hK hl hP hD hS hA (m_knewBy l G h0 je (nI jt) 1 nw nk mhasKept nt mtaped nr mrowMany mroundOf mroundFrom mouts nm mfromHour mtoHour ns mfrom mto msort misFault mdeep mcoded mlines nl nc nF np ntr nb mbestCost nso nsi nit nsh nsf nss nrc mtraced mdealer mnumber mwhose msize misParted fnw fnm (hje) (hN) (hM)) si_X12_176 [0, 1, 2] [3, 4] sm_0_1_2 fm_0_1_2 nd_0_1_2 sm_3_4 nd_3_4 dj_0_1_2__3_4 rfl rfl rfl rfl rfl (Nat.le_of_ble_eq_true rfl) rm_8_5_7 ⟨Nat.le_of_ble_eq_true rfl, Nat.le_of_ble_eq_true rfl⟩ gX12_fromOf_1.2.1 (fun r5667 => Ktu3 fun fh15669 th15670 gnm5671 => ?_)
      intro H locs hr5667 hP hD hS
      try dsimp only at hr5667
      refine Kpdr (ws := [(ns, iA G 8 fns), (np, iA G 100 fnp), (h0, oX12 nw nk mhasKept nt mtaped nr mrowMany mroundOf mroundFrom mouts nm fh15669 th15670 ns mfrom mto msort misFault mdeep mcoded mlines nl nc nF np ntr nb mbestCost nso nsi nit nsh nsf nss nrc mtraced mdealer mnumber mwhose msize misParted), (nw, iA G 1662 fnw), (nm, iA G 36 gnm5671)]) hP hD (fun hP hD => ?_)
      obtain ⟨hr5667, w5672⟩ := hr5667
      refine toQ hQ0 ?_
      exact RI (v := r5667) hC hP hD hS [2, 3, 4, 0, 1] (fh15669, th15670, gnm5671, fns, fnp) rfl rfl (by decide) (⟨trivial, by first | assumption | exact hM⟩) rfl gX12_fromOf_1.2.2.1
def K_r_knew (l : Launch) (G : GG) (h0 : Nat) (x1 : Int32) (x2 : Int32) (x3 : Int32) (nw : Nat) (nk : Nat) (mhasKept : Int32) (nt : Nat) (mtaped : Int32) (nr : Nat) (mrowMany : Int32) (mroundOf : Int32) (mroundFrom : Int32) (nm : Nat) (mfromHour : Int32) (mtoHour : Int32) (ns : Nat) (mfrom : Int32) (mto : Int32) (msort : Int32) (misFault : Int32) (mdeep : Int32) (mcoded : Int32) (mlines : Int32) (nl : Nat) (nc : Nat) (nF : Nat) (np : Nat) (ntr : Nat) (nb : Nat) (mbestCost : Int32) (nso : Nat) (nsi : Nat) (nit : Nat) (nsh : Nat) (nsf : Nat) (nss : Nat) (nrc : Nat) (mtraced : Int32) (mdealer : Int32) (mnumber : Int32) (mwhose : Int32) (msize : Int32) (misParted : Int32) (fnw : Nat → Int32) (fnm : Nat → Int32) (fns : Nat → Int32) (fnp : Nat → Int32) : Prop := MI l G yX12_knew cX12_knew 5 (some .int) 9 0 0 [.ref h0, .int x1, .int x2, .int x3] [(h0, oX12 nw nk mhasKept nt mtaped nr mrowMany mroundOf mroundFrom 0 nm mfromHour mtoHour ns mfrom mto msort misFault mdeep mcoded mlines nl nc nF np ntr nb mbestCost nso nsi nit nsh nsf nss nrc mtraced mdealer mnumber mwhose msize misParted), (nw, iA G 1662 fnw), (nm, iA G 36 fnm), (ns, iA G 8 fns), (np, iA G 100 fnp)] (fun (r : Int32) (u : Int32 × Int32 × (Nat → Int32) × (Nat → Int32) × (Nat → Int32)) => (True) ∧ (MB u.2.2.1)) (fun u : Int32 × Int32 × (Nat → Int32) × (Nat → Int32) × (Nat → Int32) => [(h0, oX12 nw nk mhasKept nt mtaped nr mrowMany mroundOf mroundFrom 0 nm u.1 u.2.1 ns mfrom mto msort misFault mdeep mcoded mlines nl nc nF np ntr nb mbestCost nso nsi nit nsh nsf nss nrc mtraced mdealer mnumber mwhose msize misParted), (nw, iA G 1662 fnw), (nm, iA G 36 u.2.2.1), (ns, iA G 8 u.2.2.2.1), (np, iA G 100 u.2.2.2.2)])
set_option maxHeartbeats 4000000 in
set_option maxRecDepth 100000 in
theorem r_knew (l : Launch) (G : GG) (h0 : Nat) (x1 : Int32) (x2 : Int32) (x3 : Int32) (nw : Nat) (nk : Nat) (mhasKept : Int32) (nt : Nat) (mtaped : Int32) (nr : Nat) (mrowMany : Int32) (mroundOf : Int32) (mroundFrom : Int32) (nm : Nat) (mfromHour : Int32) (mtoHour : Int32) (ns : Nat) (mfrom : Int32) (mto : Int32) (msort : Int32) (misFault : Int32) (mdeep : Int32) (mcoded : Int32) (mlines : Int32) (nl : Nat) (nc : Nat) (nF : Nat) (np : Nat) (ntr : Nat) (nb : Nat) (mbestCost : Int32) (nso : Nat) (nsi : Nat) (nit : Nat) (nsh : Nat) (nsf : Nat) (nss : Nat) (nrc : Nat) (mtraced : Int32) (mdealer : Int32) (mnumber : Int32) (mwhose : Int32) (msize : Int32) (misParted : Int32) (fnw : Nat → Int32) (fnm : Nat → Int32) (fns : Nat → Int32) (fnp : Nat → Int32) (hN : NI fnw) (hV : VI fnw) (hM : MB fnm) : K_r_knew l G h0 x1 x2 x3 nw nk mhasKept nt mtaped nr mrowMany mroundOf mroundFrom nm mfromHour mtoHour ns mfrom mto msort misFault mdeep mcoded mlines nl nc nF np ntr nb mbestCost nso nsi nit nsh nsf nss nrc mtraced mdealer mnumber mwhose msize misParted fnw fnm fns fnp := by
  refine MI.start (by decide +kernel) (Nat.le_of_ble_eq_true rfl) ?_
  intro p e s m below meth c A ls hC hK hP hD hS hA hl
  refine absQ (fun Q0 hQ0 => ?_)
  have hl : lv_has ls 5 [(0, .ref h0), (1, .int x1), (2, .int x2), (3, .int x3)] := hl
  refine Kan8 hC (fun hx hb hr hml hB hown hlocks hnm => ?_)
  obtain ⟨kp, hkp, ekp⟩ := NI.nat hN (i := 4) (B := 10) (by decide +kernel) (by decide)
  obtain ⟨kq, hkq, ekq⟩ := NI.nat hN (i := 5) (B := 12) (by decide +kernel) (by decide)
  obtain ⟨k6, hk6, ek6⟩ := NI.nat hN (i := 6) (B := 24) (by decide +kernel) (by decide)
  refine lv_aload_n hx hb gX12_knew_0.1 rfl (lv_at0 hl) ?_
  refine lv_iload_n hx hb gX12_knew_0.2.1 rfl (lv_at1 hl) ?_
  refine lv_iconst (v := 4) hx hb gX12_knew_0.2.2.1 (by decide) ?_
  refine pV hC hK hl hP hD (m_is l G kp h0 x1 4 nw nk mhasKept nt mtaped nr mrowMany mroundOf mroundFrom 0 nm mfromHour mtoHour ns mfrom mto msort misFault mdeep mcoded mlines nl nc nF np ntr nb mbestCost nso nsi nit nsh nsf nss nrc mtraced mdealer mnumber mwhose msize misParted fnw (by omega) (ekp) (by omega)) si_X12_120 [0, 1] sm_0_1 fm_0_1 nd_0_1 rfl rfl rfl rfl rfl (Nat.le_of_ble_eq_true rfl) rm_9_2_3 ⟨by first | exact Nat.le_of_ble_eq_true rfl | exact Nat.zero_le _, by first | exact Nat.le_of_ble_eq_true rfl | exact Nat.zero_le _⟩ gX12_knew_0.2.2.2.1 (Kors (Keqa fun a5674 => ?_) (Keqa fun a5674 => ?_))
  · refine lv_if_eq (tgt := 28) hx hb gX12_knew_0.2.2.2.2.1 (by decide) (fun c9 => absurd c9 (by decide)) (fun _ => ?_)
    refine lv_iload_n hx hb gX12_knew_0.2.2.2.2.2.1 rfl (lv_at2 hl) ?_
    refine lv_iconst (v := 0) hx hb gX12_knew_0.2.2.2.2.2.2.1 (by decide) ?_
    refine lv_bipush (v := 7) hx hb gX12_knew_0.2.2.2.2.2.2.2.1 (by decide) ?_
    refine pS hC hK hl (m_within l G x2 0 7) si_X12_84 rfl rfl (Nat.le_of_ble_eq_true rfl) rm_9_1_3 ⟨by first | exact Nat.le_of_ble_eq_true rfl | exact Nat.zero_le _, by first | exact Nat.le_of_ble_eq_true rfl | exact Nat.zero_le _⟩ gX12_knew_0.2.2.2.2.2.2.2.2.1 (Kors (Keqa fun a5676 => ?_) (Keqa fun a5676 => ?_))
    · refine lv_if_eq (tgt := 28) hx hb gX12_knew_0.2.2.2.2.2.2.2.2.2 (by decide) (fun c9 => absurd c9 (by decide)) (fun _ => ?_)
      refine lv_iload_n hx hb gX12_knew_1.1 rfl (lv_at3 hl) ?_
      refine lv_iconst (v := 0) hx hb gX12_knew_1.2.1 (by decide) ?_
      refine lv_iconst (v := 2) hx hb gX12_knew_1.2.2.1 (by decide) ?_
      refine pS hC hK hl (m_within l G x3 0 2) si_X12_84 rfl rfl (Nat.le_of_ble_eq_true rfl) rm_9_1_3 ⟨by first | exact Nat.le_of_ble_eq_true rfl | exact Nat.zero_le _, by first | exact Nat.le_of_ble_eq_true rfl | exact Nat.zero_le _⟩ gX12_knew_1.2.2.2.1 (Kors (Keqa fun a5678 => ?_) (Keqa fun a5678 => ?_))
      · refine lv_if_ne (tgt := 30) hx hb gX12_knew_1.2.2.2.2.1 (by decide) (fun _ => ?_) (fun c9 => absurd c9 (by decide))
        obtain ⟨je, hje, rfl⟩ := Hs_nat (by omega) a5674
        obtain ⟨jt, hjt, rfl⟩ := Wi7 a5676
        refine lv_aload_n hx hb gX12_knew_1.2.2.2.2.2.2.2.1 rfl (lv_at0 hl) ?_
        refine lv_iload_n hx hb gX12_knew_1.2.2.2.2.2.2.2.2.1 rfl (lv_at1 hl) ?_
        refine lv_iload_n hx hb gX12_knew_1.2.2.2.2.2.2.2.2.2 rfl (lv_at2 hl) ?_
        refine lv_iload_n hx hb gX12_knew_2.1 rfl (lv_at3 hl) ?_
        refine iV (wr := []) hC hK hl hP hD hS hA (m_fromOf l G h0 je jt x3 nw nk mhasKept nt mtaped nr mrowMany mroundOf mroundFrom 0 nm mfromHour mtoHour ns mfrom mto msort misFault mdeep mcoded mlines nl nc nF np ntr nb mbestCost nso nsi nit nsh nsf nss nrc mtraced mdealer mnumber mwhose msize misParted fnw fnm fns fnp (by omega) (by omega) (hN) (hV) (hM)) si_X12_203 [0, 1, 2, 3, 4] [] sm_0_1_2_3_4 fm_0_1_2_3_4 nd_0_1_2_3_4 rfl rfl (by decide) rfl rfl rfl rfl rfl (Nat.le_of_ble_eq_true rfl) rm_9_8_4 ⟨Nat.le_of_ble_eq_true rfl, Nat.le_of_ble_eq_true rfl⟩ gX12_knew_2.2.1 (fun r5679 => Ktu5 fun fh15681 th15682 gnm5683 gns5684 gnp5685 => ?_)
        intro H locs hr5679 hP hD hS
        try dsimp only at hr5679
        refine Kpdr (ws := [(h0, oX12 nw nk mhasKept nt mtaped nr mrowMany mroundOf mroundFrom 0 nm fh15681 th15682 ns mfrom mto msort misFault mdeep mcoded mlines nl nc nF np ntr nb mbestCost nso nsi nit nsh nsf nss nrc mtraced mdealer mnumber mwhose msize misParted), (nw, iA G 1662 fnw), (nm, iA G 36 gnm5683), (ns, iA G 8 gns5684), (np, iA G 100 gnp5685)]) hP hD (fun hP hD => ?_)
        obtain ⟨hr5679, w5686⟩ := hr5679
        refine lv_istore (lv' := [(4, .int r5679), (0, .ref h0), (1, .int (nI je)), (2, .int (nI jt)), (3, .int x3)]) hx hb gX12_knew_2.2.2.1 hl (by decide) rfl (fun ls hl => ?_)
        refine lv_iload hx hb gX12_knew_2.2.2.2.1 (lv_at0 hl) ?_
        refine lv_ldc hx hb hown (hB _ m_1204) gX12_knew_2.2.2.2.2.1 ?_
        refine lv_icmp_ne (tgt := 51) hx hb gX12_knew_2.2.2.2.2.2.1 (by decide) (fun c_43_5687 => ?_) (fun c_43_5687 => ?_)
        · refine lv_sipush (v := 1000) hx hb gX12_knew_2.2.2.2.2.2.2.2.2.1 (by decide) ?_
          refine lv_iload hx hb gX12_knew_2.2.2.2.2.2.2.2.2.2 (lv_at0 hl) ?_
          refine lv_iadd hx hb gX12_knew_3.1 ?_
          refine toQ hQ0 ?_
          exact RI (v := 1000 + r5679) hC hP hD hS [0, 1, 2, 3, 4] (fh15681, th15682, gnm5683, gns5684, gnp5685) rfl rfl (by decide) (⟨trivial, by first | assumption | exact hM⟩) rfl gX12_knew_3.2
        · refine lv_bipush (v := (-3)) hx hb gX12_knew_2.2.2.2.2.2.2.1 (by decide) ?_
          refine lv_goto (tgt := 57) hx hb gX12_knew_2.2.2.2.2.2.2.2.1 (by decide) ?_
          refine toQ hQ0 ?_
          exact RI (v := (-3)) hC hP hD hS [0, 1, 2, 3, 4] (fh15681, th15682, gnm5683, gns5684, gnp5685) rfl rfl (by decide) (⟨trivial, by first | assumption | exact hM⟩) rfl gX12_knew_3.2
      · refine lv_if_ne (tgt := 30) hx hb gX12_knew_1.2.2.2.2.1 (by decide) (fun c9 => absurd (by decide) c9) (fun _ => ?_)
        refine lv_iconst (v := (-1)) hx hb gX12_knew_1.2.2.2.2.2.1 (by decide) ?_
        refine toQ hQ0 ?_
        exact RI (v := (-1)) hC hP hD hS [0, 1, 2, 3, 4] (mfromHour, mtoHour, fnm, fns, fnp) rfl rfl (by decide) (⟨trivial, by first | assumption | exact hM⟩) rfl gX12_knew_1.2.2.2.2.2.2.1
    · refine lv_if_eq (tgt := 28) hx hb gX12_knew_0.2.2.2.2.2.2.2.2.2 (by decide) (fun _ => ?_) (fun c9 => absurd (by decide) c9)
      refine lv_iconst (v := (-1)) hx hb gX12_knew_1.2.2.2.2.2.1 (by decide) ?_
      refine toQ hQ0 ?_
      exact RI (v := (-1)) hC hP hD hS [0, 1, 2, 3, 4] (mfromHour, mtoHour, fnm, fns, fnp) rfl rfl (by decide) (⟨trivial, by first | assumption | exact hM⟩) rfl gX12_knew_1.2.2.2.2.2.2.1
  · refine lv_if_eq (tgt := 28) hx hb gX12_knew_0.2.2.2.2.1 (by decide) (fun _ => ?_) (fun c9 => absurd (by decide) c9)
    refine lv_iconst (v := (-1)) hx hb gX12_knew_1.2.2.2.2.2.1 (by decide) ?_
    refine toQ hQ0 ?_
    exact RI (v := (-1)) hC hP hD hS [0, 1, 2, 3, 4] (mfromHour, mtoHour, fnm, fns, fnp) rfl rfl (by decide) (⟨trivial, by first | assumption | exact hM⟩) rfl gX12_knew_1.2.2.2.2.2.2.1
def K_r_why (l : Launch) (G : GG) (h0 : Nat) (x1 : Int32) (x2 : Int32) (nw : Nat) (nk : Nat) (mhasKept : Int32) (nt : Nat) (mtaped : Int32) (nr : Nat) (mrowMany : Int32) (mroundOf : Int32) (mroundFrom : Int32) (nm : Nat) (mfromHour : Int32) (mtoHour : Int32) (ns : Nat) (mfrom : Int32) (mto : Int32) (msort : Int32) (misFault : Int32) (mdeep : Int32) (mcoded : Int32) (mlines : Int32) (nl : Nat) (nc : Nat) (nF : Nat) (np : Nat) (ntr : Nat) (nb : Nat) (mbestCost : Int32) (nso : Nat) (nsi : Nat) (nit : Nat) (nsh : Nat) (nsf : Nat) (nss : Nat) (nrc : Nat) (mtraced : Int32) (mdealer : Int32) (mnumber : Int32) (mwhose : Int32) (msize : Int32) (misParted : Int32) (fnw : Nat → Int32) (fnm : Nat → Int32) (fns : Nat → Int32) (fnp : Nat → Int32) : Prop := MI l G yX12_why cX12_why 5 (some .int) 9 0 0 [.ref h0, .int x1, .int x2] [(h0, oX12 nw nk mhasKept nt mtaped nr mrowMany mroundOf mroundFrom 0 nm mfromHour mtoHour ns mfrom mto msort misFault mdeep mcoded mlines nl nc nF np ntr nb mbestCost nso nsi nit nsh nsf nss nrc mtraced mdealer mnumber mwhose msize misParted), (nw, iA G 1662 fnw), (nm, iA G 36 fnm), (ns, iA G 8 fns), (np, iA G 100 fnp)] (fun (r : Int32) (u : Int32 × Int32 × (Nat → Int32) × (Nat → Int32) × (Nat → Int32)) => (True) ∧ (MB u.2.2.1)) (fun u : Int32 × Int32 × (Nat → Int32) × (Nat → Int32) × (Nat → Int32) => [(h0, oX12 nw nk mhasKept nt mtaped nr mrowMany mroundOf mroundFrom 0 nm u.1 u.2.1 ns mfrom mto msort misFault mdeep mcoded mlines nl nc nF np ntr nb mbestCost nso nsi nit nsh nsf nss nrc mtraced mdealer mnumber mwhose msize misParted), (nw, iA G 1662 fnw), (nm, iA G 36 u.2.2.1), (ns, iA G 8 u.2.2.2.1), (np, iA G 100 u.2.2.2.2)])
set_option maxHeartbeats 4000000 in
set_option maxRecDepth 100000 in
theorem r_why (l : Launch) (G : GG) (h0 : Nat) (x1 : Int32) (x2 : Int32) (nw : Nat) (nk : Nat) (mhasKept : Int32) (nt : Nat) (mtaped : Int32) (nr : Nat) (mrowMany : Int32) (mroundOf : Int32) (mroundFrom : Int32) (nm : Nat) (mfromHour : Int32) (mtoHour : Int32) (ns : Nat) (mfrom : Int32) (mto : Int32) (msort : Int32) (misFault : Int32) (mdeep : Int32) (mcoded : Int32) (mlines : Int32) (nl : Nat) (nc : Nat) (nF : Nat) (np : Nat) (ntr : Nat) (nb : Nat) (mbestCost : Int32) (nso : Nat) (nsi : Nat) (nit : Nat) (nsh : Nat) (nsf : Nat) (nss : Nat) (nrc : Nat) (mtraced : Int32) (mdealer : Int32) (mnumber : Int32) (mwhose : Int32) (msize : Int32) (misParted : Int32) (fnw : Nat → Int32) (fnm : Nat → Int32) (fns : Nat → Int32) (fnp : Nat → Int32) (hN : NI fnw) (hV : VI fnw) (hM : MB fnm) : K_r_why l G h0 x1 x2 nw nk mhasKept nt mtaped nr mrowMany mroundOf mroundFrom nm mfromHour mtoHour ns mfrom mto msort misFault mdeep mcoded mlines nl nc nF np ntr nb mbestCost nso nsi nit nsh nsf nss nrc mtraced mdealer mnumber mwhose msize misParted fnw fnm fns fnp := by
  refine MI.start (by decide +kernel) (Nat.le_of_ble_eq_true rfl) ?_
  intro p e s m below meth c A ls hC hK hP hD hS hA hl
  refine absQ (fun Q0 hQ0 => ?_)
  have hl : lv_has ls 5 [(0, .ref h0), (1, .int x1), (2, .int x2)] := hl
  refine Kan8 hC (fun hx hb hr hml hB hown hlocks hnm => ?_)
  obtain ⟨kp, hkp, ekp⟩ := NI.nat hN (i := 4) (B := 10) (by decide +kernel) (by decide)
  obtain ⟨kq, hkq, ekq⟩ := NI.nat hN (i := 5) (B := 12) (by decide +kernel) (by decide)
  obtain ⟨k6, hk6, ek6⟩ := NI.nat hN (i := 6) (B := 24) (by decide +kernel) (by decide)
  refine lv_aload_n hx hb gX12_why_0.1 rfl (lv_at0 hl) ?_
  refine lv_iload_n hx hb gX12_why_0.2.1 rfl (lv_at1 hl) ?_
  refine lv_iconst (v := 4) hx hb gX12_why_0.2.2.1 (by decide) ?_
  refine pV hC hK hl hP hD (m_is l G kp h0 x1 4 nw nk mhasKept nt mtaped nr mrowMany mroundOf mroundFrom 0 nm mfromHour mtoHour ns mfrom mto msort misFault mdeep mcoded mlines nl nc nF np ntr nb mbestCost nso nsi nit nsh nsf nss nrc mtraced mdealer mnumber mwhose msize misParted fnw (by omega) (ekp) (by omega)) si_X12_120 [0, 1] sm_0_1 fm_0_1 nd_0_1 rfl rfl rfl rfl rfl (Nat.le_of_ble_eq_true rfl) rm_9_2_3 ⟨by first | exact Nat.le_of_ble_eq_true rfl | exact Nat.zero_le _, by first | exact Nat.le_of_ble_eq_true rfl | exact Nat.zero_le _⟩ gX12_why_0.2.2.2.1 (Kors (Keqa fun a5689 => ?_) (Keqa fun a5689 => ?_))
  · refine lv_if_eq (tgt := 19) hx hb gX12_why_0.2.2.2.2.1 (by decide) (fun c9 => absurd c9 (by decide)) (fun _ => ?_)
    refine lv_iload_n hx hb gX12_why_0.2.2.2.2.2.1 rfl (lv_at2 hl) ?_
    refine lv_iconst (v := 0) hx hb gX12_why_0.2.2.2.2.2.2.1 (by decide) ?_
    refine lv_bipush (v := 7) hx hb gX12_why_0.2.2.2.2.2.2.2.1 (by decide) ?_
    refine pS hC hK hl (m_within l G x2 0 7) si_X12_84 rfl rfl (Nat.le_of_ble_eq_true rfl) rm_9_1_3 ⟨by first | exact Nat.le_of_ble_eq_true rfl | exact Nat.zero_le _, by first | exact Nat.le_of_ble_eq_true rfl | exact Nat.zero_le _⟩ gX12_why_0.2.2.2.2.2.2.2.2.1 (Kors (Keqa fun a5691 => ?_) (Keqa fun a5691 => ?_))
    · refine lv_if_ne (tgt := 21) hx hb gX12_why_0.2.2.2.2.2.2.2.2.2 (by decide) (fun _ => ?_) (fun c9 => absurd c9 (by decide))
      obtain ⟨je, hje, rfl⟩ := Hs_nat (by omega) a5689
      obtain ⟨jt, hjt, rfl⟩ := Wi7 a5691
      refine lv_aload_n hx hb gX12_why_1.2.2.1 rfl (lv_at0 hl) ?_
      refine lv_iload_n hx hb gX12_why_1.2.2.2.1 rfl (lv_at1 hl) ?_
      refine vV (wr := []) hC hK hl hP hD hS hA (m_findShould l G h0 je nw nk mhasKept nt mtaped nr mrowMany mroundOf mroundFrom 0 nm mfromHour mtoHour ns mfrom mto msort misFault mdeep mcoded mlines nl nc nF np ntr nb mbestCost nso nsi nit nsh nsf nss nrc mtraced mdealer mnumber mwhose msize misParted fnw fnm fns fnp (by omega) (hN) (hV) (hM)) si_X12_199 [0, 1, 2, 3, 4] [] sm_0_1_2_3_4 fm_0_1_2_3_4 nd_0_1_2_3_4 rfl rfl (by decide) rfl rfl rfl rfl rfl (Nat.le_of_ble_eq_true rfl) rm_9_7_7 ⟨Nat.le_of_ble_eq_true rfl, Nat.le_of_ble_eq_true rfl⟩ gX12_why_1.2.2.2.2.1 (Ktu5 fun fh15694 th15695 gnm5696 gns5697 gnp5698 => ?_)
      intro H locs hr5692 hP hD hS
      try dsimp only at hr5692
      refine Kpdr (ws := [(h0, oX12 nw nk mhasKept nt mtaped nr mrowMany mroundOf mroundFrom 0 nm fh15694 th15695 ns mfrom mto msort misFault mdeep mcoded mlines nl nc nF np ntr nb mbestCost nso nsi nit nsh nsf nss nrc mtraced mdealer mnumber mwhose msize misParted), (nw, iA G 1662 fnw), (nm, iA G 36 gnm5696), (ns, iA G 8 gns5697), (np, iA G 100 gnp5698)]) hP hD (fun hP hD => ?_)
      have w5699 := hr5692
      refine lv_aload_n hx hb gX12_why_1.2.2.2.2.2.1 rfl (lv_at0 hl) ?_
      refine pV hC hK hl hP hD (m_rules l G h0 nw nk mhasKept nt mtaped nr mrowMany mroundOf mroundFrom 0 nm fh15694 th15695 ns mfrom mto msort misFault mdeep mcoded mlines nl nc nF np ntr nb mbestCost nso nsi nit nsh nsf nss nrc mtraced mdealer mnumber mwhose msize misParted fnw (hN)) si_X12_180 [0, 1] sm_0_1 fm_0_1 nd_0_1 rfl rfl rfl rfl rfl (Nat.le_of_ble_eq_true rfl) rm_9_2_3 ⟨by first | exact Nat.le_of_ble_eq_true rfl | exact Nat.zero_le _, by first | exact Nat.le_of_ble_eq_true rfl | exact Nat.zero_le _⟩ gX12_why_1.2.2.2.2.2.2.1 (fun r5700 hr5700 => ?_)
      obtain ⟨jv_5701, hpx5701, rfl⟩ := hr5700
      try dsimp only at hpx5701
      rcases Nat.eq_zero_or_pos jv_5701 with rfl | hpv5702
      · refine eqi (x1 := (-1)) (by decide) ?_
        refine lv_istore_n (lv' := [(3, .int (-1)), (0, .ref h0), (1, .int (nI je)), (2, .int (nI jt))]) hx hb gX12_why_1.2.2.2.2.2.2.2.1 rfl hl (by decide) rfl (fun ls hl => ?_)
        refine lv_aload_n hx hb gX12_why_1.2.2.2.2.2.2.2.2.1 rfl (lv_at1 hl) ?_
        refine gf_X12_29 hC rfl hK hP 0 rfl rfl gX12_why_1.2.2.2.2.2.2.2.2.2 ?_
        refine lv_iload_n hx hb gX12_why_2.1 rfl (lv_at3 hl) ?_
        refine aldN hC hK hP 3 rfl (k := jt) (by omega) (Nat.le_of_ble_eq_true rfl) (v := gns5697 jt) rfl gX12_why_2.2.1 ?_
        refine lv_topi (fun x5703 ex5703 => ?_)
        refine lv_ldc hx hb hown (hB _ m_1204) gX12_why_2.2.2.1 ?_
        refine lv_icmp_eq (tgt := 58) hx hb gX12_why_2.2.2.2.1 (by decide) (fun c_39_5704 => ?_) (fun c_39_5704 => ?_)
        · refine lv_bipush (v := (-3)) hx hb gX12_why_3.2.2.2.2.1 (by decide) ?_
          refine toQ hQ0 ?_
          exact RI (v := (-3)) hC hP hD hS [0, 1, 2, 3, 4] (fh15694, th15695, gnm5696, gns5697, gnp5698) rfl rfl (by decide) (⟨trivial, by first | assumption | exact hM⟩) rfl gX12_why_3.2.2.2.2.2.1
        · refine lv_aload_n hx hb gX12_why_2.2.2.2.2.1 rfl (lv_at1 hl) ?_
          refine gf_X12_29 hC rfl hK hP 0 rfl rfl gX12_why_2.2.2.2.2.2.1 ?_
          refine lv_iload_n hx hb gX12_why_2.2.2.2.2.2.2.1 rfl (lv_at3 hl) ?_
          refine aldN hC hK hP 3 rfl (k := jt) (by omega) (Nat.le_of_ble_eq_true rfl) (v := gns5697 jt) rfl gX12_why_2.2.2.2.2.2.2.2.1 ?_
          refine lv_topi (fun x5705 ex5705 => ?_)
          refine lv_aload_n hx hb gX12_why_2.2.2.2.2.2.2.2.2.1 rfl (lv_at1 hl) ?_
          refine lv_iload_n hx hb gX12_why_2.2.2.2.2.2.2.2.2.2 rfl (lv_at2 hl) ?_
          refine lv_iload_n hx hb gX12_why_3.1 rfl (lv_at3 hl) ?_
          refine lv_iconst (v := 1) hx hb gX12_why_3.2.1 (by decide) ?_
          refine iV (wr := [(ns, iA G 8 gns5697), (np, iA G 100 gnp5698)]) hC hK hl hP hD hS hA (m_knewBy l G h0 je (nI jt) 1 nw nk mhasKept nt mtaped nr mrowMany mroundOf mroundFrom 0 nm fh15694 th15695 ns mfrom mto msort misFault mdeep mcoded mlines nl nc nF np ntr nb mbestCost nso nsi nit nsh nsf nss nrc mtraced mdealer mnumber mwhose msize misParted fnw gnm5696 (by omega) (hN) (w5699)) si_X12_176 [0, 1, 2] [3, 4] sm_0_1_2 fm_0_1_2 nd_0_1_2 sm_3_4 nd_3_4 dj_0_1_2__3_4 rfl rfl rfl rfl rfl (Nat.le_of_ble_eq_true rfl) rm_9_5_7 ⟨Nat.le_of_ble_eq_true rfl, Nat.le_of_ble_eq_true rfl⟩ gX12_why_3.2.2.1 (fun r5706 => Ktu3 fun fh15708 th15709 gnm5710 => ?_)
          intro H locs hr5706 hP hD hS
          try dsimp only at hr5706
          refine Kpdr (ws := [(ns, iA G 8 gns5697), (np, iA G 100 gnp5698), (h0, oX12 nw nk mhasKept nt mtaped nr mrowMany mroundOf mroundFrom 0 nm fh15708 th15709 ns mfrom mto msort misFault mdeep mcoded mlines nl nc nF np ntr nb mbestCost nso nsi nit nsh nsf nss nrc mtraced mdealer mnumber mwhose msize misParted), (nw, iA G 1662 fnw), (nm, iA G 36 gnm5710)]) hP hD (fun hP hD => ?_)
          obtain ⟨hr5706, w5711⟩ := hr5706
          refine lv_icmp_ne (tgt := 61) hx hb gX12_why_3.2.2.2.1 (by decide) (fun c_55_5712 => ?_) (fun c_55_5712 => ?_)
          · refine lv_iconst (v := 0) hx hb gX12_why_3.2.2.2.2.2.2.1 (by decide) ?_
            refine lv_istore (lv' := [(4, .int 0), (3, .int (-1)), (0, .ref h0), (1, .int (nI je)), (2, .int (nI jt))]) hx hb gX12_why_3.2.2.2.2.2.2.2.1 hl (by decide) rfl (fun ls hl => ?_)
            refine lv_iload hx hb gX12_why_3.2.2.2.2.2.2.2.2.1 (lv_at0 hl) ?_
            refine lv_aload_n hx hb gX12_why_3.2.2.2.2.2.2.2.2.2 rfl (lv_at2 hl) ?_
            refine lv_iload_n hx hb gX12_why_4.1 rfl (lv_at1 hl) ?_
            refine pV hC hK hl hP hD (m_linesN l G h0 nw nk mhasKept nt mtaped nr mrowMany mroundOf mroundFrom 0 nm fh15708 th15709 ns mfrom mto msort misFault mdeep mcoded mlines nl nc nF np ntr nb mbestCost nso nsi nit nsh nsf nss nrc mtraced mdealer mnumber mwhose msize misParted fnw) si_X12_183 [2, 3] sm_2_3 fm_2_3 nd_2_3 rfl rfl rfl rfl rfl (Nat.le_of_ble_eq_true rfl) rm_9_1_2 ⟨by first | exact Nat.le_of_ble_eq_true rfl | exact Nat.zero_le _, by first | exact Nat.le_of_ble_eq_true rfl | exact Nat.zero_le _⟩ gX12_why_4.2.1 (Keqr ?_)
            refine lv_icmp_ge (tgt := 111) hx hb gX12_why_4.2.2.1 (by decide) (fun _ => ?_) (fun c9 => absurd (by decide) c9)
            refine lv_bipush (v := (-3)) hx hb gX12_why_6.2.2.2.1 (by decide) ?_
            refine toQ hQ0 ?_
            exact RI (v := (-3)) hC hP hD hS [2, 3, 4, 0, 1] (fh15708, th15709, gnm5710, gns5697, gnp5698) rfl rfl (by decide) (⟨trivial, by first | assumption | exact hM⟩) rfl gX12_why_6.2.2.2.2
          · refine lv_bipush (v := (-3)) hx hb gX12_why_3.2.2.2.2.1 (by decide) ?_
            refine toQ hQ0 ?_
            exact RI (v := (-3)) hC hP hD hS [2, 3, 4, 0, 1] (fh15708, th15709, gnm5710, gns5697, gnp5698) rfl rfl (by decide) (⟨trivial, by first | assumption | exact hM⟩) rfl gX12_why_3.2.2.2.2.2.1
      · obtain ⟨v5702, rfl⟩ : ∃ z9, jv_5701 = z9 + 1 := ⟨jv_5701 - 1, by omega⟩
        refine eqi (x1 := nI v5702) (nI_sub1 v5702) ?_
        obtain ⟨L5702, hL5702, eL5702, hLN5702⟩ := VI.line hV (v := v5702) (by omega)
        refine lv_istore_n (lv' := [(3, .int (nI v5702)), (0, .ref h0), (1, .int (nI je)), (2, .int (nI jt))]) hx hb gX12_why_1.2.2.2.2.2.2.2.1 rfl hl (by decide) rfl (fun ls hl => ?_)
        refine lv_aload_n hx hb gX12_why_1.2.2.2.2.2.2.2.2.1 rfl (lv_at1 hl) ?_
        refine gf_X12_29 hC rfl hK hP 0 rfl rfl gX12_why_1.2.2.2.2.2.2.2.2.2 ?_
        refine lv_iload_n hx hb gX12_why_2.1 rfl (lv_at3 hl) ?_
        refine aldN hC hK hP 3 rfl (k := jt) (by omega) (Nat.le_of_ble_eq_true rfl) (v := gns5697 jt) rfl gX12_why_2.2.1 ?_
        refine lv_topi (fun x5715 ex5715 => ?_)
        refine lv_ldc hx hb hown (hB _ m_1204) gX12_why_2.2.2.1 ?_
        refine lv_icmp_eq (tgt := 58) hx hb gX12_why_2.2.2.2.1 (by decide) (fun c_39_5716 => ?_) (fun c_39_5716 => ?_)
        · refine lv_bipush (v := (-3)) hx hb gX12_why_3.2.2.2.2.1 (by decide) ?_
          refine toQ hQ0 ?_
          exact RI (v := (-3)) hC hP hD hS [0, 1, 2, 3, 4] (fh15694, th15695, gnm5696, gns5697, gnp5698) rfl rfl (by decide) (⟨trivial, by first | assumption | exact hM⟩) rfl gX12_why_3.2.2.2.2.2.1
        · refine lv_aload_n hx hb gX12_why_2.2.2.2.2.1 rfl (lv_at1 hl) ?_
          refine gf_X12_29 hC rfl hK hP 0 rfl rfl gX12_why_2.2.2.2.2.2.1 ?_
          refine lv_iload_n hx hb gX12_why_2.2.2.2.2.2.2.1 rfl (lv_at3 hl) ?_
          refine aldN hC hK hP 3 rfl (k := jt) (by omega) (Nat.le_of_ble_eq_true rfl) (v := gns5697 jt) rfl gX12_why_2.2.2.2.2.2.2.2.1 ?_
          refine lv_topi (fun x5717 ex5717 => ?_)
          refine lv_aload_n hx hb gX12_why_2.2.2.2.2.2.2.2.2.1 rfl (lv_at1 hl) ?_
          refine lv_iload_n hx hb gX12_why_2.2.2.2.2.2.2.2.2.2 rfl (lv_at2 hl) ?_
          refine lv_iload_n hx hb gX12_why_3.1 rfl (lv_at3 hl) ?_
          refine lv_iconst (v := 1) hx hb gX12_why_3.2.1 (by decide) ?_
          refine iV (wr := [(ns, iA G 8 gns5697), (np, iA G 100 gnp5698)]) hC hK hl hP hD hS hA (m_knewBy l G h0 je (nI jt) 1 nw nk mhasKept nt mtaped nr mrowMany mroundOf mroundFrom 0 nm fh15694 th15695 ns mfrom mto msort misFault mdeep mcoded mlines nl nc nF np ntr nb mbestCost nso nsi nit nsh nsf nss nrc mtraced mdealer mnumber mwhose msize misParted fnw gnm5696 (by omega) (hN) (w5699)) si_X12_176 [0, 1, 2] [3, 4] sm_0_1_2 fm_0_1_2 nd_0_1_2 sm_3_4 nd_3_4 dj_0_1_2__3_4 rfl rfl rfl rfl rfl (Nat.le_of_ble_eq_true rfl) rm_9_5_7 ⟨Nat.le_of_ble_eq_true rfl, Nat.le_of_ble_eq_true rfl⟩ gX12_why_3.2.2.1 (fun r5718 => Ktu3 fun fh15720 th15721 gnm5722 => ?_)
          intro H locs hr5718 hP hD hS
          try dsimp only at hr5718
          refine Kpdr (ws := [(ns, iA G 8 gns5697), (np, iA G 100 gnp5698), (h0, oX12 nw nk mhasKept nt mtaped nr mrowMany mroundOf mroundFrom 0 nm fh15720 th15721 ns mfrom mto msort misFault mdeep mcoded mlines nl nc nF np ntr nb mbestCost nso nsi nit nsh nsf nss nrc mtraced mdealer mnumber mwhose msize misParted), (nw, iA G 1662 fnw), (nm, iA G 36 gnm5722)]) hP hD (fun hP hD => ?_)
          obtain ⟨hr5718, w5723⟩ := hr5718
          refine lv_icmp_ne (tgt := 61) hx hb gX12_why_3.2.2.2.1 (by decide) (fun c_55_5724 => ?_) (fun c_55_5724 => ?_)
          · refine lv_iconst (v := 0) hx hb gX12_why_3.2.2.2.2.2.2.1 (by decide) ?_
            refine lv_istore (lv' := [(4, .int 0), (3, .int (nI v5702)), (0, .ref h0), (1, .int (nI je)), (2, .int (nI jt))]) hx hb gX12_why_3.2.2.2.2.2.2.2.1 hl (by decide) rfl (fun ls hl => ?_)
            have keyQ : ∀ (nQ kQ : Nat) (vR : Nat → Int32) (H : Heap) (locs : List Loc) (ls : Array Slot), kQ + nQ = L5702 → va_PD G A [(ns, iA G 8 gns5697), (np, iA G 100 vR), (h0, oX12 nw nk mhasKept nt mtaped nr mrowMany mroundOf mroundFrom 0 nm fh15720 th15721 ns mfrom mto msort misFault mdeep mcoded mlines nl nc nF np ntr nb mbestCost nso nsi nit nsh nsf nss nrc mtraced mdealer mnumber mwhose msize misParted), (nw, iA G 1662 fnw), (nm, iA G 36 gnm5722)] H → va_S A s.heap H locs → lv_has ls 5 [(4, .int (nI kQ)), (3, .int (nI v5702)), (0, .ref h0), (1, .int (nI je)), (2, .int (nI jt))] → W p l e (RM 9 0 0) s m ([.ref h0, .int (nI je), .int (nI jt)] : List Value).toArray below meth c H locs 0 0 Q0 (F0 m 64 ls []) := by
              intro nQ
              induction nQ with
              | zero =>
                intro kQ vR H locs ls hkQ hPD hS hl
                refine Kan2 hPD (fun hP hD => ?_)
                obtain rfl : L5702 = kQ := by omega
                have hl : lv_has ls 5 [(4, .int (nI L5702)), (3, .int (nI v5702)), (0, .ref h0), (1, .int (nI je)), (2, .int (nI jt))] := hl
                refine lv_iload hx hb gX12_why_3.2.2.2.2.2.2.2.2.1 (lv_at0 hl) ?_
                refine lv_aload_n hx hb gX12_why_3.2.2.2.2.2.2.2.2.2 rfl (lv_at2 hl) ?_
                refine lv_iload_n hx hb gX12_why_4.1 rfl (lv_at1 hl) ?_
                refine pV hC hK hl hP hD (m_lines l G L5702 h0 v5702 nw nk mhasKept nt mtaped nr mrowMany mroundOf mroundFrom 0 nm fh15720 th15721 ns mfrom mto msort misFault mdeep mcoded mlines nl nc nF np ntr nb mbestCost nso nsi nit nsh nsf nss nrc mtraced mdealer mnumber mwhose msize misParted fnw (by omega) (eL5702)) si_X12_183 [2, 3] sm_2_3 fm_2_3 nd_2_3 rfl rfl rfl rfl rfl (Nat.le_of_ble_eq_true rfl) rm_9_1_2 ⟨by first | exact Nat.le_of_ble_eq_true rfl | exact Nat.zero_le _, by first | exact Nat.le_of_ble_eq_true rfl | exact Nat.zero_le _⟩ gX12_why_4.2.1 (Keqr ?_)
                refine lv_icmp_ge (tgt := 111) hx hb gX12_why_4.2.2.1 (by decide) (fun _ => ?_) (fun c9 => absurd (Int32.le_refl _) c9)
                refine lv_bipush (v := (-3)) hx hb gX12_why_6.2.2.2.1 (by decide) ?_
                refine toQ hQ0 ?_
                exact RI (v := (-3)) hC hP hD hS [2, 3, 4, 0, 1] (fh15720, th15721, gnm5722, gns5697, vR) rfl rfl (by decide) (⟨trivial, by first | assumption | exact hM⟩) rfl gX12_why_6.2.2.2.2
              | succ nQ ihQ =>
                intro kQ vR H locs ls hkQ hPD hS hl
                refine Kan2 hPD (fun hP hD => ?_)
                refine lv_iload hx hb gX12_why_3.2.2.2.2.2.2.2.2.1 (lv_at0 hl) ?_
                refine lv_aload_n hx hb gX12_why_3.2.2.2.2.2.2.2.2.2 rfl (lv_at2 hl) ?_
                refine lv_iload_n hx hb gX12_why_4.1 rfl (lv_at1 hl) ?_
                refine pV hC hK hl hP hD (m_lines l G L5702 h0 v5702 nw nk mhasKept nt mtaped nr mrowMany mroundOf mroundFrom 0 nm fh15720 th15721 ns mfrom mto msort misFault mdeep mcoded mlines nl nc nF np ntr nb mbestCost nso nsi nit nsh nsf nss nrc mtraced mdealer mnumber mwhose msize misParted fnw (by omega) (eL5702)) si_X12_183 [2, 3] sm_2_3 fm_2_3 nd_2_3 rfl rfl rfl rfl rfl (Nat.le_of_ble_eq_true rfl) rm_9_1_2 ⟨by first | exact Nat.le_of_ble_eq_true rfl | exact Nat.zero_le _, by first | exact Nat.le_of_ble_eq_true rfl | exact Nat.zero_le _⟩ gX12_why_4.2.1 (Keqr ?_)
                refine lv_icmp_ge (tgt := 111) hx hb gX12_why_4.2.2.1 (by decide) (fun c9 => absurd c9 (nI_ge (a := kQ) (b := L5702) (by omega) (by omega))) (fun _ => ?_)
                have hln5729 := hLN5702 kQ (by omega)
                refine lv_aload_n hx hb gX12_why_4.2.2.2.1 rfl (lv_at2 hl) ?_
                refine lv_iload_n hx hb gX12_why_4.2.2.2.2.1 rfl (lv_at1 hl) ?_
                refine lv_iload hx hb gX12_why_4.2.2.2.2.2.1 (lv_at0 hl) ?_
                refine pV hC hK hl hP hD (m_thingOf l G h0 v5702 kQ nw nk mhasKept nt mtaped nr mrowMany mroundOf mroundFrom 0 nm fh15720 th15721 ns mfrom mto msort misFault mdeep mcoded mlines nl nc nF np ntr nb mbestCost nso nsi nit nsh nsf nss nrc mtraced mdealer mnumber mwhose msize misParted fnw (by omega) (by omega) (hln5729)) si_X12_190 [2, 3] sm_2_3 fm_2_3 nd_2_3 rfl rfl rfl rfl rfl (Nat.le_of_ble_eq_true rfl) rm_9_2_4 ⟨by first | exact Nat.le_of_ble_eq_true rfl | exact Nat.zero_le _, by first | exact Nat.le_of_ble_eq_true rfl | exact Nat.zero_le _⟩ gX12_why_4.2.2.2.2.2.2.1 (fun r5730 hr5730 => ?_)
                obtain ⟨t9_5731, hpx5731, rfl⟩ := hr5730
                try dsimp only at hpx5731
                refine lv_iload_n hx hb gX12_why_4.2.2.2.2.2.2.2.1 rfl (lv_at4 hl) ?_
                refine lv_icmp_ne (tgt := 105) hx hb gX12_why_4.2.2.2.2.2.2.2.2.1 (by decide) (fun c_82_5732 => ?_) (fun c_82_5732 => ?_)
                · refine lv_iinc (v := nI (kQ + 1)) (lv' := [(4, .int (nI (kQ + 1))), (3, .int (nI v5702)), (0, .ref h0), (1, .int (nI je)), (2, .int (nI jt))]) hx hb gX12_why_6.2.1 hl (k := 0) rfl (nI_1 _) (by decide) rfl (fun ls hl => ?_)
                  refine lv_goto (tgt := 64) hx hb gX12_why_6.2.2.1 (by decide) ?_
                  exact ihQ (kQ + 1) vR _ _ _ (by omega) (And.intro hP hD) hS (lv_sub hl [0, 1, 2, 3, 4] rfl)
                · refine lv_aload_n hx hb gX12_why_4.2.2.2.2.2.2.2.2.2 rfl (lv_at2 hl) ?_
                  refine lv_iload_n hx hb gX12_why_5.1 rfl (lv_at1 hl) ?_
                  refine lv_iload hx hb gX12_why_5.2.1 (lv_at0 hl) ?_
                  refine lv_iload_n hx hb gX12_why_5.2.2.1 rfl (lv_at3 hl) ?_
                  refine iV (wr := [(nm, iA G 36 gnm5722)]) hC hK hl hP hD hS hA (m_fromLine l G h0 v5702 kQ je nw nk mhasKept nt mtaped nr mrowMany mroundOf mroundFrom 0 nm fh15720 th15721 ns mfrom mto msort misFault mdeep mcoded mlines nl nc nF np ntr nb mbestCost nso nsi nit nsh nsf nss nrc mtraced mdealer mnumber mwhose msize misParted fnw gns5697 vR (by omega) (by omega) (hln5729) (by omega) (hN)) si_X12_186 [2, 3, 0, 1] [4] sm_2_3_0_1 fm_2_3_0_1 nd_2_3_0_1 sm_4 nd_4 dj_2_3_0_1__4 rfl rfl rfl rfl rfl (Nat.le_of_ble_eq_true rfl) rm_9_6_6 ⟨Nat.le_of_ble_eq_true rfl, Nat.le_of_ble_eq_true rfl⟩ gX12_why_5.2.2.2.1 (fun r5733 gnp5735 H locs hr5733 hP hD hS => ?_)
                  try dsimp only at hr5733
                  refine Kpdr (ws := [(nm, iA G 36 gnm5722), (h0, oX12 nw nk mhasKept nt mtaped nr mrowMany mroundOf mroundFrom 0 nm fh15720 th15721 ns mfrom mto msort misFault mdeep mcoded mlines nl nc nF np ntr nb mbestCost nso nsi nit nsh nsf nss nrc mtraced mdealer mnumber mwhose msize misParted), (nw, iA G 1662 fnw), (ns, iA G 8 gns5697), (np, iA G 100 gnp5735)]) hP hD (fun hP hD => ?_)
                  refine lv_aload_n hx hb gX12_why_5.2.2.2.2.1 rfl (lv_at2 hl) ?_
                  refine gf_X12_29 hC rfl hK hP 1 rfl rfl gX12_why_5.2.2.2.2.2.1 ?_
                  refine lv_iload_n hx hb gX12_why_5.2.2.2.2.2.2.1 rfl (lv_at4 hl) ?_
                  refine aldN hC hK hP 3 rfl (k := jt) (by omega) (Nat.le_of_ble_eq_true rfl) (v := gns5697 jt) rfl gX12_why_5.2.2.2.2.2.2.2.1 ?_
                  refine lv_topi (fun x5736 ex5736 => ?_)
                  refine lv_icmp_ne (tgt := 105) hx hb gX12_why_5.2.2.2.2.2.2.2.2.1 (by decide) (fun c_99_5737 => ?_) (fun c_99_5737 => ?_)
                  · refine lv_iinc (v := nI (kQ + 1)) (lv' := [(4, .int (nI (kQ + 1))), (3, .int (nI v5702)), (0, .ref h0), (1, .int (nI je)), (2, .int (nI jt))]) hx hb gX12_why_6.2.1 hl (k := 0) rfl (nI_1 _) (by decide) rfl (fun ls hl => ?_)
                    refine lv_goto (tgt := 64) hx hb gX12_why_6.2.2.1 (by decide) ?_
                    refine Kpds (ws' := [(ns, iA G 8 gns5697), (np, iA G 100 gnp5735), (h0, oX12 nw nk mhasKept nt mtaped nr mrowMany mroundOf mroundFrom 0 nm fh15720 th15721 ns mfrom mto msort misFault mdeep mcoded mlines nl nc nF np ntr nb mbestCost nso nsi nit nsh nsf nss nrc mtraced mdealer mnumber mwhose msize misParted), (nw, iA G 1662 fnw), (nm, iA G 36 gnm5722)]) hP hD [3, 4, 1, 2, 0] fm_3_4_1_2_0 nd_3_4_1_2_0 sm_3_4_1_2_0 (fun hP hD => ?_)
                    exact ihQ (kQ + 1) gnp5735 _ _ _ (by omega) (And.intro hP hD) hS (lv_sub hl [0, 1, 2, 3, 4] rfl)
                  · refine lv_iload hx hb gX12_why_5.2.2.2.2.2.2.2.2.2 (lv_at0 hl) ?_
                    refine toQ hQ0 ?_
                    exact RI (v := nI kQ) hC hP hD hS [1, 2, 0, 3, 4] (fh15720, th15721, gnm5722, gns5697, gnp5735) rfl rfl (by decide) (⟨trivial, by first | assumption | exact hM⟩) rfl gX12_why_6.1
            exact keyQ L5702 0 gnp5698 _ _ _ (by omega) (And.intro hP hD) hS (lv_sub hl [0, 1, 2, 3, 4] rfl)
          · refine lv_bipush (v := (-3)) hx hb gX12_why_3.2.2.2.2.1 (by decide) ?_
            refine toQ hQ0 ?_
            exact RI (v := (-3)) hC hP hD hS [2, 3, 4, 0, 1] (fh15720, th15721, gnm5722, gns5697, gnp5698) rfl rfl (by decide) (⟨trivial, by first | assumption | exact hM⟩) rfl gX12_why_3.2.2.2.2.2.1
    · refine lv_if_ne (tgt := 21) hx hb gX12_why_0.2.2.2.2.2.2.2.2.2 (by decide) (fun c9 => absurd (by decide) c9) (fun _ => ?_)
      refine lv_iconst (v := (-1)) hx hb gX12_why_1.1 (by decide) ?_
      refine toQ hQ0 ?_
      exact RI (v := (-1)) hC hP hD hS [0, 1, 2, 3, 4] (mfromHour, mtoHour, fnm, fns, fnp) rfl rfl (by decide) (⟨trivial, by first | assumption | exact hM⟩) rfl gX12_why_1.2.1
  · refine lv_if_eq (tgt := 19) hx hb gX12_why_0.2.2.2.2.1 (by decide) (fun _ => ?_) (fun c9 => absurd (by decide) c9)
    refine lv_iconst (v := (-1)) hx hb gX12_why_1.1 (by decide) ?_
    refine toQ hQ0 ?_
    exact RI (v := (-1)) hC hP hD hS [0, 1, 2, 3, 4] (mfromHour, mtoHour, fnm, fns, fnp) rfl rfl (by decide) (⟨trivial, by first | assumption | exact hM⟩) rfl gX12_why_1.2.1
def K_m_stands (l : Launch) (G : GG) (h0 : Nat) (jf : Nat) (nw : Nat) (nk : Nat) (mhasKept : Int32) (nt : Nat) (mtaped : Int32) (nr : Nat) (mrowMany : Int32) (mroundOf : Int32) (mroundFrom : Int32) (mouts : Int32) (nm : Nat) (mfromHour : Int32) (mtoHour : Int32) (ns : Nat) (mfrom : Int32) (mto : Int32) (msort : Int32) (misFault : Int32) (mdeep : Int32) (mcoded : Int32) (mlines : Int32) (nl : Nat) (nc : Nat) (nF : Nat) (np : Nat) (ntr : Nat) (nb : Nat) (mbestCost : Int32) (nso : Nat) (nsi : Nat) (nit : Nat) (nsh : Nat) (nsf : Nat) (nss : Nat) (nrc : Nat) (mtraced : Int32) (mdealer : Int32) (mnumber : Int32) (mwhose : Int32) (msize : Int32) (misParted : Int32) (fnw : Nat → Int32) (fnm : Nat → Int32) (fns : Nat → Int32) (fnp : Nat → Int32) : Prop := MI l G yX12_stands cX12_stands 3 (some .boolean) 9 0 0 [.ref h0, .int (nI jf)] [(h0, oX12 nw nk mhasKept nt mtaped nr mrowMany mroundOf mroundFrom mouts nm mfromHour mtoHour ns mfrom mto msort misFault mdeep mcoded mlines nl nc nF np ntr nb mbestCost nso nsi nit nsh nsf nss nrc mtraced mdealer mnumber mwhose msize misParted), (nw, iA G 1662 fnw), (nm, iA G 36 fnm), (ns, iA G 8 fns), (np, iA G 100 fnp)] (fun (r : Int32) (u : Int32 × Int32 × (Nat → Int32) × (Nat → Int32) × (Nat → Int32)) => (r = 1 ∨ r = 0) ∧ (MB u.2.2.1)) (fun u : Int32 × Int32 × (Nat → Int32) × (Nat → Int32) × (Nat → Int32) => [(h0, oX12 nw nk mhasKept nt mtaped nr mrowMany mroundOf mroundFrom mouts nm u.1 u.2.1 ns mfrom mto msort misFault mdeep mcoded mlines nl nc nF np ntr nb mbestCost nso nsi nit nsh nsf nss nrc mtraced mdealer mnumber mwhose msize misParted), (nw, iA G 1662 fnw), (nm, iA G 36 u.2.2.1), (ns, iA G 8 u.2.2.2.1), (np, iA G 100 u.2.2.2.2)])
set_option maxHeartbeats 4000000 in
set_option maxRecDepth 100000 in
theorem m_stands (l : Launch) (G : GG) (h0 : Nat) (jf : Nat) (nw : Nat) (nk : Nat) (mhasKept : Int32) (nt : Nat) (mtaped : Int32) (nr : Nat) (mrowMany : Int32) (mroundOf : Int32) (mroundFrom : Int32) (mouts : Int32) (nm : Nat) (mfromHour : Int32) (mtoHour : Int32) (ns : Nat) (mfrom : Int32) (mto : Int32) (msort : Int32) (misFault : Int32) (mdeep : Int32) (mcoded : Int32) (mlines : Int32) (nl : Nat) (nc : Nat) (nF : Nat) (np : Nat) (ntr : Nat) (nb : Nat) (mbestCost : Int32) (nso : Nat) (nsi : Nat) (nit : Nat) (nsh : Nat) (nsf : Nat) (nss : Nat) (nrc : Nat) (mtraced : Int32) (mdealer : Int32) (mnumber : Int32) (mwhose : Int32) (msize : Int32) (misParted : Int32) (fnw : Nat → Int32) (fnm : Nat → Int32) (fns : Nat → Int32) (fnp : Nat → Int32) (hjf : jf < 12) (hN : NI fnw) (hV : VI fnw) (hM : MB fnm) : K_m_stands l G h0 jf nw nk mhasKept nt mtaped nr mrowMany mroundOf mroundFrom mouts nm mfromHour mtoHour ns mfrom mto msort misFault mdeep mcoded mlines nl nc nF np ntr nb mbestCost nso nsi nit nsh nsf nss nrc mtraced mdealer mnumber mwhose msize misParted fnw fnm fns fnp := by
  refine MI.start (by decide +kernel) (Nat.le_of_ble_eq_true rfl) ?_
  intro p e s m below meth c A ls hC hK hP hD hS hA hl
  refine absQ (fun Q0 hQ0 => ?_)
  have hl : lv_has ls 3 [(0, .ref h0), (1, .int (nI jf))] := hl
  refine Kan8 hC (fun hx hb hr hml hB hown hlocks hnm => ?_)
  refine lv_sipush (v := 1552) hx hb gX12_stands_0.1 (by decide) ?_
  refine lv_iconst (v := 4) hx hb gX12_stands_0.2.1 (by decide) ?_
  refine lv_iload_n hx hb gX12_stands_0.2.2.1 rfl (lv_at1 hl) ?_
  refine lv_imul hx hb gX12_stands_0.2.2.2.1 ?_
  refine eqi (x1 := nI (4 * jf)) (nI_mul 4 jf) ?_
  refine lv_iadd hx hb gX12_stands_0.2.2.2.2.1 ?_
  refine eqi (x1 := nI (1552 + 4 * jf)) (nI_add 1552 (4 * jf)) ?_
  refine lv_istore_n (lv' := [(2, .int (nI (1552 + 4 * jf))), (0, .ref h0), (1, .int (nI jf))]) hx hb gX12_stands_0.2.2.2.2.2.1 rfl hl (by decide) rfl (fun ls hl => ?_)
  refine lv_aload_n hx hb gX12_stands_0.2.2.2.2.2.2.1 rfl (lv_at1 hl) ?_
  refine gf_X12_9 hC rfl hK hP 0 rfl rfl gX12_stands_0.2.2.2.2.2.2.2.1 ?_
  refine lv_iload_n hx hb gX12_stands_0.2.2.2.2.2.2.2.2.1 rfl (lv_at0 hl) ?_
  refine lv_iconst (v := 2) hx hb gX12_stands_0.2.2.2.2.2.2.2.2.2 (by decide) ?_
  refine lv_iadd hx hb gX12_stands_1.1 ?_
  refine eqi (x1 := nI (1552 + 4 * jf + 2)) (nI_add (1552 + 4 * jf) 2) ?_
  refine aldN hC hK hP 1 rfl (k := (1552 + 4 * jf + 2)) (by omega) (Nat.le_of_ble_eq_true rfl) (v := fnw (1552 + 4 * jf + 2)) rfl gX12_stands_1.2.1 ?_
  refine lv_topi (fun x5738 ex5738 => ?_)
  refine lv_aload_n hx hb gX12_stands_1.2.2.1 rfl (lv_at1 hl) ?_
  refine lv_aload_n hx hb gX12_stands_1.2.2.2.1 rfl (lv_at1 hl) ?_
  refine gf_X12_9 hC rfl hK hP 0 rfl rfl gX12_stands_1.2.2.2.2.1 ?_
  refine lv_iload_n hx hb gX12_stands_1.2.2.2.2.2.1 rfl (lv_at0 hl) ?_
  refine lv_iconst (v := 0) hx hb gX12_stands_1.2.2.2.2.2.2.1 (by decide) ?_
  refine lv_iadd hx hb gX12_stands_1.2.2.2.2.2.2.2.1 ?_
  refine eqi (x1 := nI (1552 + 4 * jf + 0)) (nI_add (1552 + 4 * jf) 0) ?_
  obtain ⟨fi5739, hfi5739, efi5739⟩ := NI.nat hN (i := (1552 + 4 * jf + 0)) (B := 9) (bnd_fin0 (s := jf) (by omega) (by omega)) (by decide)
  refine aldN hC hK hP 1 rfl (k := (1552 + 4 * jf + 0)) (by omega) (Nat.le_of_ble_eq_true rfl) (v := nI fi5739) (efi5739) gX12_stands_1.2.2.2.2.2.2.2.2.1 ?_
  refine lv_aload_n hx hb gX12_stands_1.2.2.2.2.2.2.2.2.2 rfl (lv_at1 hl) ?_
  refine gf_X12_9 hC rfl hK hP 0 rfl rfl gX12_stands_2.1 ?_
  refine lv_iload_n hx hb gX12_stands_2.2.1 rfl (lv_at0 hl) ?_
  refine lv_iconst (v := 1) hx hb gX12_stands_2.2.2.1 (by decide) ?_
  refine lv_iadd hx hb gX12_stands_2.2.2.2.1 ?_
  refine eqi (x1 := nI (1552 + 4 * jf + 1)) (nI_add (1552 + 4 * jf) 1) ?_
  obtain ⟨fi5740, hfi5740, efi5740⟩ := NI.nat hN (i := (1552 + 4 * jf + 1)) (B := 7) (bnd_fin1 (s := jf) (by omega) (by omega)) (by decide)
  refine aldN hC hK hP 1 rfl (k := (1552 + 4 * jf + 1)) (by omega) (Nat.le_of_ble_eq_true rfl) (v := nI fi5740) (efi5740) gX12_stands_2.2.2.2.2.1 ?_
  refine lv_aload_n hx hb gX12_stands_2.2.2.2.2.2.1 rfl (lv_at1 hl) ?_
  refine gf_X12_9 hC rfl hK hP 0 rfl rfl gX12_stands_2.2.2.2.2.2.2.1 ?_
  refine lv_iload_n hx hb gX12_stands_2.2.2.2.2.2.2.2.1 rfl (lv_at0 hl) ?_
  refine lv_iconst (v := 3) hx hb gX12_stands_2.2.2.2.2.2.2.2.2.1 (by decide) ?_
  refine lv_iadd hx hb gX12_stands_2.2.2.2.2.2.2.2.2.2 ?_
  refine eqi (x1 := nI (1552 + 4 * jf + 3)) (nI_add (1552 + 4 * jf) 3) ?_
  refine aldN hC hK hP 1 rfl (k := (1552 + 4 * jf + 3)) (by omega) (Nat.le_of_ble_eq_true rfl) (v := fnw (1552 + 4 * jf + 3)) rfl gX12_stands_3.1 ?_
  refine lv_topi (fun x5741 ex5741 => ?_)
  refine iV (wr := []) hC hK hl hP hD hS hA (m_fromOf l G h0 fi5739 fi5740 x5741 nw nk mhasKept nt mtaped nr mrowMany mroundOf mroundFrom mouts nm mfromHour mtoHour ns mfrom mto msort misFault mdeep mcoded mlines nl nc nF np ntr nb mbestCost nso nsi nit nsh nsf nss nrc mtraced mdealer mnumber mwhose msize misParted fnw fnm fns fnp (by omega) (by omega) (hN) (hV) (hM)) si_X12_203 [0, 1, 2, 3, 4] [] sm_0_1_2_3_4 fm_0_1_2_3_4 nd_0_1_2_3_4 rfl rfl (by decide) rfl rfl rfl rfl rfl (Nat.le_of_ble_eq_true rfl) rm_9_8_4 ⟨Nat.le_of_ble_eq_true rfl, Nat.le_of_ble_eq_true rfl⟩ gX12_stands_3.2.1 (fun r5742 => Ktu5 fun fh15744 th15745 gnm5746 gns5747 gnp5748 => ?_)
  intro H locs hr5742 hP hD hS
  try dsimp only at hr5742
  refine Kpdr (ws := [(h0, oX12 nw nk mhasKept nt mtaped nr mrowMany mroundOf mroundFrom mouts nm fh15744 th15745 ns mfrom mto msort misFault mdeep mcoded mlines nl nc nF np ntr nb mbestCost nso nsi nit nsh nsf nss nrc mtraced mdealer mnumber mwhose msize misParted), (nw, iA G 1662 fnw), (nm, iA G 36 gnm5746), (ns, iA G 8 gns5747), (np, iA G 100 gnp5748)]) hP hD (fun hP hD => ?_)
  obtain ⟨hr5742, w5749⟩ := hr5742
  refine lv_icmp_lt (tgt := 51) hx hb gX12_stands_3.2.2.1 (by decide) (fun c_44_5750 => ?_) (fun c_44_5750 => ?_)
  · refine lv_iconst (v := 0) hx hb gX12_stands_3.2.2.2.2.2.1 (by decide) ?_
    refine toQ hQ0 ?_
    exact RI (v := 0) hC hP hD hS [0, 1, 2, 3, 4] (fh15744, th15745, gnm5746, gns5747, gnp5748) rfl rfl (by decide) (⟨Or.inr (rfl), by first | assumption | exact hM⟩) (by decide +kernel) gX12_stands_3.2.2.2.2.2.2
  · refine lv_iconst (v := 1) hx hb gX12_stands_3.2.2.2.1 (by decide) ?_
    refine lv_goto (tgt := 52) hx hb gX12_stands_3.2.2.2.2.1 (by decide) ?_
    refine toQ hQ0 ?_
    exact RI (v := 1) hC hP hD hS [0, 1, 2, 3, 4] (fh15744, th15745, gnm5746, gns5747, gnp5748) rfl rfl (by decide) (⟨Or.inl (rfl), by first | assumption | exact hM⟩) (by decide +kernel) gX12_stands_3.2.2.2.2.2.2
def K_m_leans (l : Launch) (G : GG) (h0 : Nat) (jf : Nat) (nw : Nat) (nk : Nat) (mhasKept : Int32) (nt : Nat) (mtaped : Int32) (nr : Nat) (mrowMany : Int32) (mroundOf : Int32) (mroundFrom : Int32) (nm : Nat) (mfromHour : Int32) (mtoHour : Int32) (ns : Nat) (mfrom : Int32) (mto : Int32) (msort : Int32) (misFault : Int32) (mdeep : Int32) (mcoded : Int32) (mlines : Int32) (nl : Nat) (nc : Nat) (nF : Nat) (np : Nat) (ntr : Nat) (nb : Nat) (mbestCost : Int32) (nso : Nat) (nsi : Nat) (nit : Nat) (nsh : Nat) (nsf : Nat) (nss : Nat) (nrc : Nat) (mtraced : Int32) (mdealer : Int32) (mnumber : Int32) (mwhose : Int32) (msize : Int32) (misParted : Int32) (fnw : Nat → Int32) (fnm : Nat → Int32) (fns : Nat → Int32) (fnp : Nat → Int32) : Prop := MI l G yX12_leans cX12_leans 5 (some .int) 10 0 0 [.ref h0, .int (nI jf)] [(h0, oX12 nw nk mhasKept nt mtaped nr mrowMany mroundOf mroundFrom 0 nm mfromHour mtoHour ns mfrom mto msort misFault mdeep mcoded mlines nl nc nF np ntr nb mbestCost nso nsi nit nsh nsf nss nrc mtraced mdealer mnumber mwhose msize misParted), (nw, iA G 1662 fnw), (nm, iA G 36 fnm), (ns, iA G 8 fns), (np, iA G 100 fnp)] (fun (r : Int32) (u : Int32 × Int32 × (Nat → Int32) × (Nat → Int32) × (Nat → Int32)) => (True) ∧ (MB u.2.2.1)) (fun u : Int32 × Int32 × (Nat → Int32) × (Nat → Int32) × (Nat → Int32) => [(h0, oX12 nw nk mhasKept nt mtaped nr mrowMany mroundOf mroundFrom 0 nm u.1 u.2.1 ns mfrom mto msort misFault mdeep mcoded mlines nl nc nF np ntr nb mbestCost nso nsi nit nsh nsf nss nrc mtraced mdealer mnumber mwhose msize misParted), (nw, iA G 1662 fnw), (nm, iA G 36 u.2.2.1), (ns, iA G 8 u.2.2.2.1), (np, iA G 100 u.2.2.2.2)])
set_option maxHeartbeats 4000000 in
set_option maxRecDepth 100000 in
theorem m_leans (l : Launch) (G : GG) (h0 : Nat) (jf : Nat) (nw : Nat) (nk : Nat) (mhasKept : Int32) (nt : Nat) (mtaped : Int32) (nr : Nat) (mrowMany : Int32) (mroundOf : Int32) (mroundFrom : Int32) (nm : Nat) (mfromHour : Int32) (mtoHour : Int32) (ns : Nat) (mfrom : Int32) (mto : Int32) (msort : Int32) (misFault : Int32) (mdeep : Int32) (mcoded : Int32) (mlines : Int32) (nl : Nat) (nc : Nat) (nF : Nat) (np : Nat) (ntr : Nat) (nb : Nat) (mbestCost : Int32) (nso : Nat) (nsi : Nat) (nit : Nat) (nsh : Nat) (nsf : Nat) (nss : Nat) (nrc : Nat) (mtraced : Int32) (mdealer : Int32) (mnumber : Int32) (mwhose : Int32) (msize : Int32) (misParted : Int32) (fnw : Nat → Int32) (fnm : Nat → Int32) (fns : Nat → Int32) (fnp : Nat → Int32) (hjf : jf < 12) (hN : NI fnw) (hV : VI fnw) (hM : MB fnm) : K_m_leans l G h0 jf nw nk mhasKept nt mtaped nr mrowMany mroundOf mroundFrom nm mfromHour mtoHour ns mfrom mto msort misFault mdeep mcoded mlines nl nc nF np ntr nb mbestCost nso nsi nit nsh nsf nss nrc mtraced mdealer mnumber mwhose msize misParted fnw fnm fns fnp := by
  refine MI.start (by decide +kernel) (Nat.le_of_ble_eq_true rfl) ?_
  intro p e s m below meth c A ls hC hK hP hD hS hA hl
  refine absQ (fun Q0 hQ0 => ?_)
  have hl : lv_has ls 5 [(0, .ref h0), (1, .int (nI jf))] := hl
  refine Kan8 hC (fun hx hb hr hml hB hown hlocks hnm => ?_)
  obtain ⟨kq, hkq, ekq⟩ := NI.nat hN (i := 5) (B := 12) (by decide +kernel) (by decide)
  refine lv_aload_n hx hb gX12_leans_0.1 rfl (lv_at0 hl) ?_
  refine lv_iload_n hx hb gX12_leans_0.2.1 rfl (lv_at1 hl) ?_
  refine iV (wr := []) hC hK hl hP hD hS hA (m_stands l G h0 jf nw nk mhasKept nt mtaped nr mrowMany mroundOf mroundFrom 0 nm mfromHour mtoHour ns mfrom mto msort misFault mdeep mcoded mlines nl nc nF np ntr nb mbestCost nso nsi nit nsh nsf nss nrc mtraced mdealer mnumber mwhose msize misParted fnw fnm fns fnp (hjf) (hN) (hV) (hM)) si_X12_305 [0, 1, 2, 3, 4] [] sm_0_1_2_3_4 fm_0_1_2_3_4 nd_0_1_2_3_4 rfl rfl (by decide) rfl rfl rfl rfl rfl (Nat.le_of_ble_eq_true rfl) rm_10_9_3 ⟨Nat.le_of_ble_eq_true rfl, Nat.le_of_ble_eq_true rfl⟩ gX12_leans_0.2.2.1 (fun r5751 => Ktu5 fun fh15753 th15754 gnm5755 gns5756 gnp5757 => ?_)
  intro H locs hr5751 hP hD hS
  try dsimp only at hr5751
  refine Kpdr (ws := [(h0, oX12 nw nk mhasKept nt mtaped nr mrowMany mroundOf mroundFrom 0 nm fh15753 th15754 ns mfrom mto msort misFault mdeep mcoded mlines nl nc nF np ntr nb mbestCost nso nsi nit nsh nsf nss nrc mtraced mdealer mnumber mwhose msize misParted), (nw, iA G 1662 fnw), (nm, iA G 36 gnm5755), (ns, iA G 8 gns5756), (np, iA G 100 gnp5757)]) hP hD (fun hP hD => ?_)
  obtain ⟨hr5751, w5758⟩ := hr5751
  rcases hr5751 with rfl | rfl
  · refine lv_if_eq (tgt := 15) hx hb gX12_leans_0.2.2.2.1 (by decide) (fun c9 => absurd c9 (by decide)) (fun _ => ?_)
    refine lv_aload_n hx hb gX12_leans_0.2.2.2.2.1 rfl (lv_at0 hl) ?_
    refine pV hC hK hl hP hD (m_inView l G h0 nw nk mhasKept nt mtaped nr mrowMany mroundOf mroundFrom 0 nm fh15753 th15754 ns mfrom mto msort misFault mdeep mcoded mlines nl nc nF np ntr nb mbestCost nso nsi nit nsh nsf nss nrc mtraced mdealer mnumber mwhose msize misParted fnw (hN)) si_X12_107 [0, 1] sm_0_1 fm_0_1 nd_0_1 rfl rfl rfl rfl rfl (Nat.le_of_ble_eq_true rfl) rm_10_3_3 ⟨by first | exact Nat.le_of_ble_eq_true rfl | exact Nat.zero_le _, by first | exact Nat.le_of_ble_eq_true rfl | exact Nat.zero_le _⟩ gX12_leans_0.2.2.2.2.2.1 (fun r5760 hr5760 => ?_)
    refine lv_goto (tgt := 16) hx hb gX12_leans_0.2.2.2.2.2.2.1 (by decide) ?_
    refine lv_istore_n (lv' := [(2, .int r5760), (0, .ref h0), (1, .int (nI jf))]) hx hb gX12_leans_0.2.2.2.2.2.2.2.2.1 rfl hl (by decide) rfl (fun ls hl => ?_)
    refine lv_iconst (v := 0) hx hb gX12_leans_0.2.2.2.2.2.2.2.2.2 (by decide) ?_
    refine lv_istore_n (lv' := [(3, .int 0), (2, .int r5760), (0, .ref h0), (1, .int (nI jf))]) hx hb gX12_leans_1.1 rfl hl (by decide) rfl (fun ls hl => ?_)
    refine lv_iconst (v := 0) hx hb gX12_leans_1.2.1 (by decide) ?_
    refine lv_istore (lv' := [(4, .int 0), (3, .int 0), (2, .int r5760), (0, .ref h0), (1, .int (nI jf))]) hx hb gX12_leans_1.2.2.1 hl (by decide) rfl (fun ls hl => ?_)
    have keyP : ∀ (nP kP : Nat) (se : Int32) (vfh : Int32) (vth : Int32) (vA : Nat → Int32) (vS : Nat → Int32) (vR : Nat → Int32) (H : Heap) (locs : List Loc) (ls : Array Slot), kP + nP = kq → (MB vA) → va_PD G A [(h0, oX12 nw nk mhasKept nt mtaped nr mrowMany mroundOf mroundFrom 0 nm vfh vth ns mfrom mto msort misFault mdeep mcoded mlines nl nc nF np ntr nb mbestCost nso nsi nit nsh nsf nss nrc mtraced mdealer mnumber mwhose msize misParted), (nw, iA G 1662 fnw), (nm, iA G 36 vA), (ns, iA G 8 vS), (np, iA G 100 vR)] H → va_S A s.heap H locs → lv_has ls 5 [(4, .int (nI kP)), (3, .int se), (2, .int r5760), (0, .ref h0), (1, .int (nI jf))] → W p l e (RM 10 0 0) s m ([.ref h0, .int (nI jf)] : List Value).toArray below meth c H locs 0 0 Q0 (F0 m 22 ls []) := by
      intro nP
      induction nP with
      | zero =>
        intro kP se vfh vth vA vS vR H locs ls hkP hvA hPD hS hl
        refine Kan2 hPD (fun hP hD => ?_)
        obtain rfl : kq = kP := by omega
        have hl : lv_has ls 5 [(4, .int (nI kq)), (3, .int se), (2, .int r5760), (0, .ref h0), (1, .int (nI jf))] := hl
        refine lv_iload hx hb gX12_leans_1.2.2.2.1 (lv_at0 hl) ?_
        refine lv_aload_n hx hb gX12_leans_1.2.2.2.2.1 rfl (lv_at3 hl) ?_
        refine gf_X12_9 hC rfl hK hP 0 rfl rfl gX12_leans_1.2.2.2.2.2.1 ?_
        refine lv_iconst (v := 5) hx hb gX12_leans_1.2.2.2.2.2.2.1 (by decide) ?_
        refine ald hC hK hP 1 rfl (vin (by decide +kernel)) (k := 5) (by decide +kernel) (v := nI kq) (ekq) gX12_leans_1.2.2.2.2.2.2.2.1 ?_
        refine lv_icmp_ge (tgt := 80) hx hb gX12_leans_1.2.2.2.2.2.2.2.2.1 (by decide) (fun _ => ?_) (fun c9 => absurd (Int32.le_refl _) c9)
        refine lv_iload_n hx hb gX12_leans_4.2.2.2.2.2.1 rfl (lv_at1 hl) ?_
        refine toQ hQ0 ?_
        exact RI (v := se) hC hP hD hS [0, 1, 2, 3, 4] (vfh, vth, vA, vS, vR) rfl rfl (by decide) (⟨trivial, by first | assumption | exact hM⟩) rfl gX12_leans_4.2.2.2.2.2.2
      | succ nP ihP =>
        intro kP se vfh vth vA vS vR H locs ls hkP hvA hPD hS hl
        refine Kan2 hPD (fun hP hD => ?_)
        refine lv_iload hx hb gX12_leans_1.2.2.2.1 (lv_at0 hl) ?_
        refine lv_aload_n hx hb gX12_leans_1.2.2.2.2.1 rfl (lv_at3 hl) ?_
        refine gf_X12_9 hC rfl hK hP 0 rfl rfl gX12_leans_1.2.2.2.2.2.1 ?_
        refine lv_iconst (v := 5) hx hb gX12_leans_1.2.2.2.2.2.2.1 (by decide) ?_
        refine ald hC hK hP 1 rfl (vin (by decide +kernel)) (k := 5) (by decide +kernel) (v := nI kq) (ekq) gX12_leans_1.2.2.2.2.2.2.2.1 ?_
        refine lv_icmp_ge (tgt := 80) hx hb gX12_leans_1.2.2.2.2.2.2.2.2.1 (by decide) (fun c9 => absurd c9 (nI_ge (a := kP) (b := kq) (by omega) (by omega))) (fun _ => ?_)
        refine lv_iload_n hx hb gX12_leans_1.2.2.2.2.2.2.2.2.2 rfl (lv_at2 hl) ?_
        refine lv_iload hx hb gX12_leans_2.1 (lv_at0 hl) ?_
        refine pS hC hK hl (m_has l G r5760 (nI kP)) si_X12_99 rfl rfl (Nat.le_of_ble_eq_true rfl) rm_10_1_2 ⟨by first | exact Nat.le_of_ble_eq_true rfl | exact Nat.zero_le _, by first | exact Nat.le_of_ble_eq_true rfl | exact Nat.zero_le _⟩ gX12_leans_2.2.1 (Kors (Keqa fun a5762 => ?_) (Keqa fun a5762 => ?_))
        · refine lv_if_eq (tgt := 74) hx hb gX12_leans_2.2.2.1 (by decide) (fun c9 => absurd c9 (by decide)) (fun _ => ?_)
          refine lv_aload_n hx hb gX12_leans_2.2.2.2.1 rfl (lv_at3 hl) ?_
          refine lv_iconst (v := 1) hx hb gX12_leans_2.2.2.2.2.1 (by decide) ?_
          refine lv_iload hx hb gX12_leans_2.2.2.2.2.2.1 (lv_at0 hl) ?_
          refine lv_ishl hx hb gX12_leans_2.2.2.2.2.2.2.1 ?_
          refine pf_X12_96 hC rfl hK hP hD hS 0 (ws' := [(h0, oX12 nw nk mhasKept nt mtaped nr mrowMany mroundOf mroundFrom (1 <<< ((nI kP) &&& 31)) nm vfh vth ns mfrom mto msort misFault mdeep mcoded mlines nl nc nF np ntr nb mbestCost nso nsi nit nsh nsf nss nrc mtraced mdealer mnumber mwhose msize misParted), (nw, iA G 1662 fnw), (nm, iA G 36 vA), (ns, iA G 8 vS), (np, iA G 100 vR)]) rfl (Nat.le_of_ble_eq_true rfl) rfl rfl rfl gX12_leans_2.2.2.2.2.2.2.2.1 (fun H locs hP hD hS => ?_)
          refine lv_iload_n hx hb gX12_leans_2.2.2.2.2.2.2.2.2.1 rfl (lv_at1 hl) ?_
          refine lv_aload_n hx hb gX12_leans_2.2.2.2.2.2.2.2.2.2 rfl (lv_at3 hl) ?_
          refine lv_iload_n hx hb gX12_leans_3.1 rfl (lv_at4 hl) ?_
          refine iV (wr := []) hC hK hl hP hD hS hA (m_stands l G h0 jf nw nk mhasKept nt mtaped nr mrowMany mroundOf mroundFrom (1 <<< ((nI kP) &&& 31)) nm vfh vth ns mfrom mto msort misFault mdeep mcoded mlines nl nc nF np ntr nb mbestCost nso nsi nit nsh nsf nss nrc mtraced mdealer mnumber mwhose msize misParted fnw vA vS vR (hjf) (hN) (hV) (hvA)) si_X12_305 [0, 1, 2, 3, 4] [] sm_0_1_2_3_4 fm_0_1_2_3_4 nd_0_1_2_3_4 rfl rfl (by decide) rfl rfl rfl rfl rfl (Nat.le_of_ble_eq_true rfl) rm_10_9_3 ⟨Nat.le_of_ble_eq_true rfl, Nat.le_of_ble_eq_true rfl⟩ gX12_leans_3.2.1 (fun r5763 => Ktu5 fun fh15765 th15766 gnm5767 gns5768 gnp5769 => ?_)
          intro H locs hr5763 hP hD hS
          try dsimp only at hr5763
          refine Kpdr (ws := [(h0, oX12 nw nk mhasKept nt mtaped nr mrowMany mroundOf mroundFrom (1 <<< ((nI kP) &&& 31)) nm fh15765 th15766 ns mfrom mto msort misFault mdeep mcoded mlines nl nc nF np ntr nb mbestCost nso nsi nit nsh nsf nss nrc mtraced mdealer mnumber mwhose msize misParted), (nw, iA G 1662 fnw), (nm, iA G 36 gnm5767), (ns, iA G 8 gns5768), (np, iA G 100 gnp5769)]) hP hD (fun hP hD => ?_)
          obtain ⟨hr5763, w5770⟩ := hr5763
          rcases hr5763 with rfl | rfl
          · refine lv_if_eq (tgt := 63) hx hb gX12_leans_3.2.2.1 (by decide) (fun c9 => absurd c9 (by decide)) (fun _ => ?_)
            refine lv_iconst (v := 0) hx hb gX12_leans_3.2.2.2.1 (by decide) ?_
            refine lv_goto (tgt := 67) hx hb gX12_leans_3.2.2.2.2.1 (by decide) ?_
            refine lv_ior hx hb gX12_leans_3.2.2.2.2.2.2.2.2.1 ?_
            refine lv_istore_n (lv' := [(3, .int (se ||| 0)), (4, .int (nI kP)), (2, .int r5760), (0, .ref h0), (1, .int (nI jf))]) hx hb gX12_leans_3.2.2.2.2.2.2.2.2.2 rfl hl (by decide) rfl (fun ls hl => ?_)
            refine lv_aload_n hx hb gX12_leans_4.1 rfl (lv_at3 hl) ?_
            refine lv_iconst (v := 0) hx hb gX12_leans_4.2.1 (by decide) ?_
            refine pf_X12_96 hC rfl hK hP hD hS 0 (ws' := [(h0, oX12 nw nk mhasKept nt mtaped nr mrowMany mroundOf mroundFrom 0 nm fh15765 th15766 ns mfrom mto msort misFault mdeep mcoded mlines nl nc nF np ntr nb mbestCost nso nsi nit nsh nsf nss nrc mtraced mdealer mnumber mwhose msize misParted), (nw, iA G 1662 fnw), (nm, iA G 36 gnm5767), (ns, iA G 8 gns5768), (np, iA G 100 gnp5769)]) rfl (Nat.le_of_ble_eq_true rfl) rfl rfl rfl gX12_leans_4.2.2.1 (fun H locs hP hD hS => ?_)
            refine lv_iinc (v := nI (kP + 1)) (lv' := [(4, .int (nI (kP + 1))), (3, .int (se ||| 0)), (2, .int r5760), (0, .ref h0), (1, .int (nI jf))]) hx hb gX12_leans_4.2.2.2.1 hl (k := 1) rfl (nI_1 _) (by decide) rfl (fun ls hl => ?_)
            refine lv_goto (tgt := 22) hx hb gX12_leans_4.2.2.2.2.1 (by decide) ?_
            exact ihP (kP + 1) (se ||| 0) fh15765 th15766 gnm5767 gns5768 gnp5769 _ _ _ (by omega) (by first | assumption | exact Or.inl rfl | exact Or.inr rfl) (And.intro hP hD) hS (lv_sub hl [0, 1, 2, 3, 4] rfl)
          · refine lv_if_eq (tgt := 63) hx hb gX12_leans_3.2.2.1 (by decide) (fun _ => ?_) (fun c9 => absurd (by decide) c9)
            refine lv_iconst (v := 1) hx hb gX12_leans_3.2.2.2.2.2.1 (by decide) ?_
            refine lv_iload hx hb gX12_leans_3.2.2.2.2.2.2.1 (lv_at0 hl) ?_
            refine lv_ishl hx hb gX12_leans_3.2.2.2.2.2.2.2.1 ?_
            refine lv_ior hx hb gX12_leans_3.2.2.2.2.2.2.2.2.1 ?_
            refine lv_istore_n (lv' := [(3, .int (se ||| (1 <<< ((nI kP) &&& 31)))), (4, .int (nI kP)), (2, .int r5760), (0, .ref h0), (1, .int (nI jf))]) hx hb gX12_leans_3.2.2.2.2.2.2.2.2.2 rfl hl (by decide) rfl (fun ls hl => ?_)
            refine lv_aload_n hx hb gX12_leans_4.1 rfl (lv_at3 hl) ?_
            refine lv_iconst (v := 0) hx hb gX12_leans_4.2.1 (by decide) ?_
            refine pf_X12_96 hC rfl hK hP hD hS 0 (ws' := [(h0, oX12 nw nk mhasKept nt mtaped nr mrowMany mroundOf mroundFrom 0 nm fh15765 th15766 ns mfrom mto msort misFault mdeep mcoded mlines nl nc nF np ntr nb mbestCost nso nsi nit nsh nsf nss nrc mtraced mdealer mnumber mwhose msize misParted), (nw, iA G 1662 fnw), (nm, iA G 36 gnm5767), (ns, iA G 8 gns5768), (np, iA G 100 gnp5769)]) rfl (Nat.le_of_ble_eq_true rfl) rfl rfl rfl gX12_leans_4.2.2.1 (fun H locs hP hD hS => ?_)
            refine lv_iinc (v := nI (kP + 1)) (lv' := [(4, .int (nI (kP + 1))), (3, .int (se ||| (1 <<< ((nI kP) &&& 31)))), (2, .int r5760), (0, .ref h0), (1, .int (nI jf))]) hx hb gX12_leans_4.2.2.2.1 hl (k := 1) rfl (nI_1 _) (by decide) rfl (fun ls hl => ?_)
            refine lv_goto (tgt := 22) hx hb gX12_leans_4.2.2.2.2.1 (by decide) ?_
            exact ihP (kP + 1) (se ||| (1 <<< ((nI kP) &&& 31))) fh15765 th15766 gnm5767 gns5768 gnp5769 _ _ _ (by omega) (by first | assumption | exact Or.inl rfl | exact Or.inr rfl) (And.intro hP hD) hS (lv_sub hl [0, 1, 2, 3, 4] rfl)
        · refine lv_if_eq (tgt := 74) hx hb gX12_leans_2.2.2.1 (by decide) (fun _ => ?_) (fun c9 => absurd (by decide) c9)
          refine lv_iinc (v := nI (kP + 1)) (lv' := [(4, .int (nI (kP + 1))), (3, .int se), (2, .int r5760), (0, .ref h0), (1, .int (nI jf))]) hx hb gX12_leans_4.2.2.2.1 hl (k := 0) rfl (nI_1 _) (by decide) rfl (fun ls hl => ?_)
          refine lv_goto (tgt := 22) hx hb gX12_leans_4.2.2.2.2.1 (by decide) ?_
          exact ihP (kP + 1) se vfh vth vA vS vR _ _ _ (by omega) (by first | assumption | exact Or.inl rfl | exact Or.inr rfl) (And.intro hP hD) hS (lv_sub hl [0, 1, 2, 3, 4] rfl)
    exact keyP kq 0 0 fh15753 th15754 gnm5755 gns5756 gnp5757 _ _ _ (by omega) (by first | assumption | exact Or.inl rfl | exact Or.inr rfl) (And.intro hP hD) hS (lv_sub hl [0, 1, 2, 3, 4] rfl)
  · refine lv_if_eq (tgt := 15) hx hb gX12_leans_0.2.2.2.1 (by decide) (fun _ => ?_) (fun c9 => absurd (by decide) c9)
    refine lv_iconst (v := 0) hx hb gX12_leans_0.2.2.2.2.2.2.2.1 (by decide) ?_
    refine lv_istore_n (lv' := [(2, .int 0), (0, .ref h0), (1, .int (nI jf))]) hx hb gX12_leans_0.2.2.2.2.2.2.2.2.1 rfl hl (by decide) rfl (fun ls hl => ?_)
    refine lv_iconst (v := 0) hx hb gX12_leans_0.2.2.2.2.2.2.2.2.2 (by decide) ?_
    refine lv_istore_n (lv' := [(3, .int 0), (2, .int 0), (0, .ref h0), (1, .int (nI jf))]) hx hb gX12_leans_1.1 rfl hl (by decide) rfl (fun ls hl => ?_)
    refine lv_iconst (v := 0) hx hb gX12_leans_1.2.1 (by decide) ?_
    refine lv_istore (lv' := [(4, .int 0), (3, .int 0), (2, .int 0), (0, .ref h0), (1, .int (nI jf))]) hx hb gX12_leans_1.2.2.1 hl (by decide) rfl (fun ls hl => ?_)
    have keyP : ∀ (nP kP : Nat) (se : Int32) (vfh : Int32) (vth : Int32) (vA : Nat → Int32) (vS : Nat → Int32) (vR : Nat → Int32) (H : Heap) (locs : List Loc) (ls : Array Slot), kP + nP = kq → (MB vA) → va_PD G A [(h0, oX12 nw nk mhasKept nt mtaped nr mrowMany mroundOf mroundFrom 0 nm vfh vth ns mfrom mto msort misFault mdeep mcoded mlines nl nc nF np ntr nb mbestCost nso nsi nit nsh nsf nss nrc mtraced mdealer mnumber mwhose msize misParted), (nw, iA G 1662 fnw), (nm, iA G 36 vA), (ns, iA G 8 vS), (np, iA G 100 vR)] H → va_S A s.heap H locs → lv_has ls 5 [(4, .int (nI kP)), (3, .int se), (2, .int 0), (0, .ref h0), (1, .int (nI jf))] → W p l e (RM 10 0 0) s m ([.ref h0, .int (nI jf)] : List Value).toArray below meth c H locs 0 0 Q0 (F0 m 22 ls []) := by
      intro nP
      induction nP with
      | zero =>
        intro kP se vfh vth vA vS vR H locs ls hkP hvA hPD hS hl
        refine Kan2 hPD (fun hP hD => ?_)
        obtain rfl : kq = kP := by omega
        have hl : lv_has ls 5 [(4, .int (nI kq)), (3, .int se), (2, .int 0), (0, .ref h0), (1, .int (nI jf))] := hl
        refine lv_iload hx hb gX12_leans_1.2.2.2.1 (lv_at0 hl) ?_
        refine lv_aload_n hx hb gX12_leans_1.2.2.2.2.1 rfl (lv_at3 hl) ?_
        refine gf_X12_9 hC rfl hK hP 0 rfl rfl gX12_leans_1.2.2.2.2.2.1 ?_
        refine lv_iconst (v := 5) hx hb gX12_leans_1.2.2.2.2.2.2.1 (by decide) ?_
        refine ald hC hK hP 1 rfl (vin (by decide +kernel)) (k := 5) (by decide +kernel) (v := nI kq) (ekq) gX12_leans_1.2.2.2.2.2.2.2.1 ?_
        refine lv_icmp_ge (tgt := 80) hx hb gX12_leans_1.2.2.2.2.2.2.2.2.1 (by decide) (fun _ => ?_) (fun c9 => absurd (Int32.le_refl _) c9)
        refine lv_iload_n hx hb gX12_leans_4.2.2.2.2.2.1 rfl (lv_at1 hl) ?_
        refine toQ hQ0 ?_
        exact RI (v := se) hC hP hD hS [0, 1, 2, 3, 4] (vfh, vth, vA, vS, vR) rfl rfl (by decide) (⟨trivial, by first | assumption | exact hM⟩) rfl gX12_leans_4.2.2.2.2.2.2
      | succ nP ihP =>
        intro kP se vfh vth vA vS vR H locs ls hkP hvA hPD hS hl
        refine Kan2 hPD (fun hP hD => ?_)
        refine lv_iload hx hb gX12_leans_1.2.2.2.1 (lv_at0 hl) ?_
        refine lv_aload_n hx hb gX12_leans_1.2.2.2.2.1 rfl (lv_at3 hl) ?_
        refine gf_X12_9 hC rfl hK hP 0 rfl rfl gX12_leans_1.2.2.2.2.2.1 ?_
        refine lv_iconst (v := 5) hx hb gX12_leans_1.2.2.2.2.2.2.1 (by decide) ?_
        refine ald hC hK hP 1 rfl (vin (by decide +kernel)) (k := 5) (by decide +kernel) (v := nI kq) (ekq) gX12_leans_1.2.2.2.2.2.2.2.1 ?_
        refine lv_icmp_ge (tgt := 80) hx hb gX12_leans_1.2.2.2.2.2.2.2.2.1 (by decide) (fun c9 => absurd c9 (nI_ge (a := kP) (b := kq) (by omega) (by omega))) (fun _ => ?_)
        refine lv_iload_n hx hb gX12_leans_1.2.2.2.2.2.2.2.2.2 rfl (lv_at2 hl) ?_
        refine lv_iload hx hb gX12_leans_2.1 (lv_at0 hl) ?_
        refine pS hC hK hl (m_has l G 0 (nI kP)) si_X12_99 rfl rfl (Nat.le_of_ble_eq_true rfl) rm_10_1_2 ⟨by first | exact Nat.le_of_ble_eq_true rfl | exact Nat.zero_le _, by first | exact Nat.le_of_ble_eq_true rfl | exact Nat.zero_le _⟩ gX12_leans_2.2.1 (Kors (Keqa fun a5773 => ?_) (Keqa fun a5773 => ?_))
        · refine lv_if_eq (tgt := 74) hx hb gX12_leans_2.2.2.1 (by decide) (fun c9 => absurd c9 (by decide)) (fun _ => ?_)
          refine lv_aload_n hx hb gX12_leans_2.2.2.2.1 rfl (lv_at3 hl) ?_
          refine lv_iconst (v := 1) hx hb gX12_leans_2.2.2.2.2.1 (by decide) ?_
          refine lv_iload hx hb gX12_leans_2.2.2.2.2.2.1 (lv_at0 hl) ?_
          refine lv_ishl hx hb gX12_leans_2.2.2.2.2.2.2.1 ?_
          refine pf_X12_96 hC rfl hK hP hD hS 0 (ws' := [(h0, oX12 nw nk mhasKept nt mtaped nr mrowMany mroundOf mroundFrom (1 <<< ((nI kP) &&& 31)) nm vfh vth ns mfrom mto msort misFault mdeep mcoded mlines nl nc nF np ntr nb mbestCost nso nsi nit nsh nsf nss nrc mtraced mdealer mnumber mwhose msize misParted), (nw, iA G 1662 fnw), (nm, iA G 36 vA), (ns, iA G 8 vS), (np, iA G 100 vR)]) rfl (Nat.le_of_ble_eq_true rfl) rfl rfl rfl gX12_leans_2.2.2.2.2.2.2.2.1 (fun H locs hP hD hS => ?_)
          refine lv_iload_n hx hb gX12_leans_2.2.2.2.2.2.2.2.2.1 rfl (lv_at1 hl) ?_
          refine lv_aload_n hx hb gX12_leans_2.2.2.2.2.2.2.2.2.2 rfl (lv_at3 hl) ?_
          refine lv_iload_n hx hb gX12_leans_3.1 rfl (lv_at4 hl) ?_
          refine iV (wr := []) hC hK hl hP hD hS hA (m_stands l G h0 jf nw nk mhasKept nt mtaped nr mrowMany mroundOf mroundFrom (1 <<< ((nI kP) &&& 31)) nm vfh vth ns mfrom mto msort misFault mdeep mcoded mlines nl nc nF np ntr nb mbestCost nso nsi nit nsh nsf nss nrc mtraced mdealer mnumber mwhose msize misParted fnw vA vS vR (hjf) (hN) (hV) (hvA)) si_X12_305 [0, 1, 2, 3, 4] [] sm_0_1_2_3_4 fm_0_1_2_3_4 nd_0_1_2_3_4 rfl rfl (by decide) rfl rfl rfl rfl rfl (Nat.le_of_ble_eq_true rfl) rm_10_9_3 ⟨Nat.le_of_ble_eq_true rfl, Nat.le_of_ble_eq_true rfl⟩ gX12_leans_3.2.1 (fun r5774 => Ktu5 fun fh15776 th15777 gnm5778 gns5779 gnp5780 => ?_)
          intro H locs hr5774 hP hD hS
          try dsimp only at hr5774
          refine Kpdr (ws := [(h0, oX12 nw nk mhasKept nt mtaped nr mrowMany mroundOf mroundFrom (1 <<< ((nI kP) &&& 31)) nm fh15776 th15777 ns mfrom mto msort misFault mdeep mcoded mlines nl nc nF np ntr nb mbestCost nso nsi nit nsh nsf nss nrc mtraced mdealer mnumber mwhose msize misParted), (nw, iA G 1662 fnw), (nm, iA G 36 gnm5778), (ns, iA G 8 gns5779), (np, iA G 100 gnp5780)]) hP hD (fun hP hD => ?_)
          obtain ⟨hr5774, w5781⟩ := hr5774
          rcases hr5774 with rfl | rfl
          · refine lv_if_eq (tgt := 63) hx hb gX12_leans_3.2.2.1 (by decide) (fun c9 => absurd c9 (by decide)) (fun _ => ?_)
            refine lv_iconst (v := 0) hx hb gX12_leans_3.2.2.2.1 (by decide) ?_
            refine lv_goto (tgt := 67) hx hb gX12_leans_3.2.2.2.2.1 (by decide) ?_
            refine lv_ior hx hb gX12_leans_3.2.2.2.2.2.2.2.2.1 ?_
            refine lv_istore_n (lv' := [(3, .int (se ||| 0)), (4, .int (nI kP)), (2, .int 0), (0, .ref h0), (1, .int (nI jf))]) hx hb gX12_leans_3.2.2.2.2.2.2.2.2.2 rfl hl (by decide) rfl (fun ls hl => ?_)
            refine lv_aload_n hx hb gX12_leans_4.1 rfl (lv_at3 hl) ?_
            refine lv_iconst (v := 0) hx hb gX12_leans_4.2.1 (by decide) ?_
            refine pf_X12_96 hC rfl hK hP hD hS 0 (ws' := [(h0, oX12 nw nk mhasKept nt mtaped nr mrowMany mroundOf mroundFrom 0 nm fh15776 th15777 ns mfrom mto msort misFault mdeep mcoded mlines nl nc nF np ntr nb mbestCost nso nsi nit nsh nsf nss nrc mtraced mdealer mnumber mwhose msize misParted), (nw, iA G 1662 fnw), (nm, iA G 36 gnm5778), (ns, iA G 8 gns5779), (np, iA G 100 gnp5780)]) rfl (Nat.le_of_ble_eq_true rfl) rfl rfl rfl gX12_leans_4.2.2.1 (fun H locs hP hD hS => ?_)
            refine lv_iinc (v := nI (kP + 1)) (lv' := [(4, .int (nI (kP + 1))), (3, .int (se ||| 0)), (2, .int 0), (0, .ref h0), (1, .int (nI jf))]) hx hb gX12_leans_4.2.2.2.1 hl (k := 1) rfl (nI_1 _) (by decide) rfl (fun ls hl => ?_)
            refine lv_goto (tgt := 22) hx hb gX12_leans_4.2.2.2.2.1 (by decide) ?_
            exact ihP (kP + 1) (se ||| 0) fh15776 th15777 gnm5778 gns5779 gnp5780 _ _ _ (by omega) (by first | assumption | exact Or.inl rfl | exact Or.inr rfl) (And.intro hP hD) hS (lv_sub hl [0, 1, 2, 3, 4] rfl)
          · refine lv_if_eq (tgt := 63) hx hb gX12_leans_3.2.2.1 (by decide) (fun _ => ?_) (fun c9 => absurd (by decide) c9)
            refine lv_iconst (v := 1) hx hb gX12_leans_3.2.2.2.2.2.1 (by decide) ?_
            refine lv_iload hx hb gX12_leans_3.2.2.2.2.2.2.1 (lv_at0 hl) ?_
            refine lv_ishl hx hb gX12_leans_3.2.2.2.2.2.2.2.1 ?_
            refine lv_ior hx hb gX12_leans_3.2.2.2.2.2.2.2.2.1 ?_
            refine lv_istore_n (lv' := [(3, .int (se ||| (1 <<< ((nI kP) &&& 31)))), (4, .int (nI kP)), (2, .int 0), (0, .ref h0), (1, .int (nI jf))]) hx hb gX12_leans_3.2.2.2.2.2.2.2.2.2 rfl hl (by decide) rfl (fun ls hl => ?_)
            refine lv_aload_n hx hb gX12_leans_4.1 rfl (lv_at3 hl) ?_
            refine lv_iconst (v := 0) hx hb gX12_leans_4.2.1 (by decide) ?_
            refine pf_X12_96 hC rfl hK hP hD hS 0 (ws' := [(h0, oX12 nw nk mhasKept nt mtaped nr mrowMany mroundOf mroundFrom 0 nm fh15776 th15777 ns mfrom mto msort misFault mdeep mcoded mlines nl nc nF np ntr nb mbestCost nso nsi nit nsh nsf nss nrc mtraced mdealer mnumber mwhose msize misParted), (nw, iA G 1662 fnw), (nm, iA G 36 gnm5778), (ns, iA G 8 gns5779), (np, iA G 100 gnp5780)]) rfl (Nat.le_of_ble_eq_true rfl) rfl rfl rfl gX12_leans_4.2.2.1 (fun H locs hP hD hS => ?_)
            refine lv_iinc (v := nI (kP + 1)) (lv' := [(4, .int (nI (kP + 1))), (3, .int (se ||| (1 <<< ((nI kP) &&& 31)))), (2, .int 0), (0, .ref h0), (1, .int (nI jf))]) hx hb gX12_leans_4.2.2.2.1 hl (k := 1) rfl (nI_1 _) (by decide) rfl (fun ls hl => ?_)
            refine lv_goto (tgt := 22) hx hb gX12_leans_4.2.2.2.2.1 (by decide) ?_
            exact ihP (kP + 1) (se ||| (1 <<< ((nI kP) &&& 31))) fh15776 th15777 gnm5778 gns5779 gnp5780 _ _ _ (by omega) (by first | assumption | exact Or.inl rfl | exact Or.inr rfl) (And.intro hP hD) hS (lv_sub hl [0, 1, 2, 3, 4] rfl)
        · refine lv_if_eq (tgt := 74) hx hb gX12_leans_2.2.2.1 (by decide) (fun _ => ?_) (fun c9 => absurd (by decide) c9)
          refine lv_iinc (v := nI (kP + 1)) (lv' := [(4, .int (nI (kP + 1))), (3, .int se), (2, .int 0), (0, .ref h0), (1, .int (nI jf))]) hx hb gX12_leans_4.2.2.2.1 hl (k := 0) rfl (nI_1 _) (by decide) rfl (fun ls hl => ?_)
          refine lv_goto (tgt := 22) hx hb gX12_leans_4.2.2.2.2.1 (by decide) ?_
          exact ihP (kP + 1) se vfh vth vA vS vR _ _ _ (by omega) (by first | assumption | exact Or.inl rfl | exact Or.inr rfl) (And.intro hP hD) hS (lv_sub hl [0, 1, 2, 3, 4] rfl)
    exact keyP kq 0 0 fh15753 th15754 gnm5755 gns5756 gnp5757 _ _ _ (by omega) (by first | assumption | exact Or.inl rfl | exact Or.inr rfl) (And.intro hP hD) hS (lv_sub hl [0, 1, 2, 3, 4] rfl)
def K_m_asked (l : Launch) (G : GG) (h0 : Nat) (je : Nat) (so9 : Int32) (nw : Nat) (nk : Nat) (mhasKept : Int32) (nt : Nat) (mtaped : Int32) (nr : Nat) (mrowMany : Int32) (mroundOf : Int32) (mroundFrom : Int32) (mouts : Int32) (nm : Nat) (mfromHour : Int32) (mtoHour : Int32) (ns : Nat) (mfrom : Int32) (mto : Int32) (msort : Int32) (misFault : Int32) (mdeep : Int32) (mcoded : Int32) (mlines : Int32) (nl : Nat) (nc : Nat) (nF : Nat) (np : Nat) (ntr : Nat) (nb : Nat) (mbestCost : Int32) (nso : Nat) (nsi : Nat) (nit : Nat) (nsh : Nat) (nsf : Nat) (nss : Nat) (nrc : Nat) (mtraced : Int32) (mdealer : Int32) (mnumber : Int32) (mwhose : Int32) (msize : Int32) (misParted : Int32) (fnw : Nat → Int32) (fnp : Nat → Int32) : Prop := MI l G yX12_asked cX12_asked 7 (some .int) 7 0 0 [.ref h0, .int (nI je), .int so9] [(h0, oX12 nw nk mhasKept nt mtaped nr mrowMany mroundOf mroundFrom mouts nm mfromHour mtoHour ns mfrom mto msort misFault mdeep mcoded mlines nl nc nF np ntr nb mbestCost nso nsi nit nsh nsf nss nrc mtraced mdealer mnumber mwhose msize misParted), (nw, iA G 1662 fnw), (np, iA G 100 fnp)] (fun (r : Int32) (u : (Nat → Int32)) => (True)) (fun u : (Nat → Int32) => [(h0, oX12 nw nk mhasKept nt mtaped nr mrowMany mroundOf mroundFrom mouts nm mfromHour mtoHour ns mfrom mto msort misFault mdeep mcoded mlines nl nc nF np ntr nb mbestCost nso nsi nit nsh nsf nss nrc mtraced mdealer mnumber mwhose msize misParted), (nw, iA G 1662 fnw), (np, iA G 100 u)])
set_option maxHeartbeats 4000000 in
set_option maxRecDepth 100000 in
theorem m_asked (l : Launch) (G : GG) (h0 : Nat) (je : Nat) (so9 : Int32) (nw : Nat) (nk : Nat) (mhasKept : Int32) (nt : Nat) (mtaped : Int32) (nr : Nat) (mrowMany : Int32) (mroundOf : Int32) (mroundFrom : Int32) (mouts : Int32) (nm : Nat) (mfromHour : Int32) (mtoHour : Int32) (ns : Nat) (mfrom : Int32) (mto : Int32) (msort : Int32) (misFault : Int32) (mdeep : Int32) (mcoded : Int32) (mlines : Int32) (nl : Nat) (nc : Nat) (nF : Nat) (np : Nat) (ntr : Nat) (nb : Nat) (mbestCost : Int32) (nso : Nat) (nsi : Nat) (nit : Nat) (nsh : Nat) (nsf : Nat) (nss : Nat) (nrc : Nat) (mtraced : Int32) (mdealer : Int32) (mnumber : Int32) (mwhose : Int32) (msize : Int32) (misParted : Int32) (fnw : Nat → Int32) (fnp : Nat → Int32) (hje : je < 10) (hN : NI fnw) (hV : VI fnw) : K_m_asked l G h0 je so9 nw nk mhasKept nt mtaped nr mrowMany mroundOf mroundFrom mouts nm mfromHour mtoHour ns mfrom mto msort misFault mdeep mcoded mlines nl nc nF np ntr nb mbestCost nso nsi nit nsh nsf nss nrc mtraced mdealer mnumber mwhose msize misParted fnw fnp := by
  refine MI.start (by decide +kernel) (Nat.le_of_ble_eq_true rfl) ?_
  intro p e s m below meth c A ls hC hK hP hD hS hA hl
  refine absQ (fun Q0 hQ0 => ?_)
  have hl : lv_has ls 7 [(0, .ref h0), (1, .int (nI je)), (2, .int so9)] := hl
  refine Kan8 hC (fun hx hb hr hml hB hown hlocks hnm => ?_)
  refine lv_aload_n hx hb gX12_asked_0.1 rfl (lv_at0 hl) ?_
  refine pV hC hK hl hP hD (m_rules l G h0 nw nk mhasKept nt mtaped nr mrowMany mroundOf mroundFrom mouts nm mfromHour mtoHour ns mfrom mto msort misFault mdeep mcoded mlines nl nc nF np ntr nb mbestCost nso nsi nit nsh nsf nss nrc mtraced mdealer mnumber mwhose msize misParted fnw (hN)) si_X12_180 [0, 1] sm_0_1 fm_0_1 nd_0_1 rfl rfl rfl rfl rfl (Nat.le_of_ble_eq_true rfl) rm_7_2_3 ⟨by first | exact Nat.le_of_ble_eq_true rfl | exact Nat.zero_le _, by first | exact Nat.le_of_ble_eq_true rfl | exact Nat.zero_le _⟩ gX12_asked_0.2.1 (fun r5783 hr5783 => ?_)
  obtain ⟨jv_5784, hpx5784, rfl⟩ := hr5783
  try dsimp only at hpx5784
  rcases Nat.eq_zero_or_pos jv_5784 with rfl | hpv5785
  · refine eqi (x1 := (-1)) (by decide) ?_
    refine lv_istore_n (lv' := [(3, .int (-1)), (0, .ref h0), (1, .int (nI je)), (2, .int so9)]) hx hb gX12_asked_0.2.2.1 rfl hl (by decide) rfl (fun ls hl => ?_)
    refine lv_iconst (v := (-1)) hx hb gX12_asked_0.2.2.2.1 (by decide) ?_
    refine lv_istore (lv' := [(4, .int (-1)), (3, .int (-1)), (0, .ref h0), (1, .int (nI je)), (2, .int so9)]) hx hb gX12_asked_0.2.2.2.2.1 hl (by decide) rfl (fun ls hl => ?_)
    refine lv_iconst (v := 0) hx hb gX12_asked_0.2.2.2.2.2.1 (by decide) ?_
    refine lv_istore (lv' := [(5, .int 0), (4, .int (-1)), (3, .int (-1)), (0, .ref h0), (1, .int (nI je)), (2, .int so9)]) hx hb gX12_asked_0.2.2.2.2.2.2.1 hl (by decide) rfl (fun ls hl => ?_)
    refine lv_iload hx hb gX12_asked_0.2.2.2.2.2.2.2.1 (lv_at0 hl) ?_
    refine lv_aload_n hx hb gX12_asked_0.2.2.2.2.2.2.2.2.1 rfl (lv_at3 hl) ?_
    refine lv_iload_n hx hb gX12_asked_0.2.2.2.2.2.2.2.2.2 rfl (lv_at2 hl) ?_
    refine pV hC hK hl hP hD (m_linesN l G h0 nw nk mhasKept nt mtaped nr mrowMany mroundOf mroundFrom mouts nm mfromHour mtoHour ns mfrom mto msort misFault mdeep mcoded mlines nl nc nF np ntr nb mbestCost nso nsi nit nsh nsf nss nrc mtraced mdealer mnumber mwhose msize misParted fnw) si_X12_183 [0, 1] sm_0_1 fm_0_1 nd_0_1 rfl rfl rfl rfl rfl (Nat.le_of_ble_eq_true rfl) rm_7_1_2 ⟨by first | exact Nat.le_of_ble_eq_true rfl | exact Nat.zero_le _, by first | exact Nat.le_of_ble_eq_true rfl | exact Nat.zero_le _⟩ gX12_asked_1.1 (Keqr ?_)
    refine lv_icmp_ge (tgt := 87) hx hb gX12_asked_1.2.1 (by decide) (fun _ => ?_) (fun c9 => absurd (by decide) c9)
    refine lv_iconst (v := 0) hx hb gX12_asked_4.2.2.2.2.2.2.1 (by decide) ?_
    refine lv_iload hx hb gX12_asked_4.2.2.2.2.2.2.2.1 (lv_at1 hl) ?_
    refine va_mmax hx hb (hml.trans hl.1.symm) hown (hB _ m_1319) (hB _ m_142) (hB _ m_105) (hB _ m_143) (Nat.le_of_ble_eq_true rfl) (Nat.le_of_ble_eq_true rfl) (by first | exact Nat.le_of_ble_eq_true rfl | exact Nat.zero_le _)  (by first | exact Nat.le_of_ble_eq_true rfl | exact Nat.zero_le _) gX12_asked_4.2.2.2.2.2.2.2.2.1 ?_
    refine eqi (x1 := 0) (by decide) ?_
    refine toQ hQ0 ?_
    exact RI (v := 0) hC hP hD hS [0, 1, 2] fnp rfl rfl (by decide) (trivial) rfl gX12_asked_4.2.2.2.2.2.2.2.2.2
  · obtain ⟨v5785, rfl⟩ : ∃ z9, jv_5784 = z9 + 1 := ⟨jv_5784 - 1, by omega⟩
    refine eqi (x1 := nI v5785) (nI_sub1 v5785) ?_
    obtain ⟨L5785, hL5785, eL5785, hLN5785⟩ := VI.line hV (v := v5785) (by omega)
    refine lv_istore_n (lv' := [(3, .int (nI v5785)), (0, .ref h0), (1, .int (nI je)), (2, .int so9)]) hx hb gX12_asked_0.2.2.1 rfl hl (by decide) rfl (fun ls hl => ?_)
    refine lv_iconst (v := (-1)) hx hb gX12_asked_0.2.2.2.1 (by decide) ?_
    refine lv_istore (lv' := [(4, .int (-1)), (3, .int (nI v5785)), (0, .ref h0), (1, .int (nI je)), (2, .int so9)]) hx hb gX12_asked_0.2.2.2.2.1 hl (by decide) rfl (fun ls hl => ?_)
    refine lv_iconst (v := 0) hx hb gX12_asked_0.2.2.2.2.2.1 (by decide) ?_
    refine lv_istore (lv' := [(5, .int 0), (4, .int (-1)), (3, .int (nI v5785)), (0, .ref h0), (1, .int (nI je)), (2, .int so9)]) hx hb gX12_asked_0.2.2.2.2.2.2.1 hl (by decide) rfl (fun ls hl => ?_)
    have keyQ : ∀ (nQ kQ : Nat) (nn : Int32) (vR : Nat → Int32) (H : Heap) (locs : List Loc) (ls : Array Slot), kQ + nQ = L5785 → va_PD G A [(h0, oX12 nw nk mhasKept nt mtaped nr mrowMany mroundOf mroundFrom mouts nm mfromHour mtoHour ns mfrom mto msort misFault mdeep mcoded mlines nl nc nF np ntr nb mbestCost nso nsi nit nsh nsf nss nrc mtraced mdealer mnumber mwhose msize misParted), (nw, iA G 1662 fnw), (np, iA G 100 vR)] H → va_S A s.heap H locs → lv_has ls 7 [(5, .int (nI kQ)), (4, .int nn), (3, .int (nI v5785)), (0, .ref h0), (1, .int (nI je)), (2, .int so9)] → W p l e (RM 7 0 0) s m ([.ref h0, .int (nI je), .int so9] : List Value).toArray below meth c H locs 0 0 Q0 (F0 m 11 ls []) := by
      intro nQ
      induction nQ with
      | zero =>
        intro kQ nn vR H locs ls hkQ hPD hS hl
        refine Kan2 hPD (fun hP hD => ?_)
        obtain rfl : L5785 = kQ := by omega
        have hl : lv_has ls 7 [(5, .int (nI L5785)), (4, .int nn), (3, .int (nI v5785)), (0, .ref h0), (1, .int (nI je)), (2, .int so9)] := hl
        refine lv_iload hx hb gX12_asked_0.2.2.2.2.2.2.2.1 (lv_at0 hl) ?_
        refine lv_aload_n hx hb gX12_asked_0.2.2.2.2.2.2.2.2.1 rfl (lv_at3 hl) ?_
        refine lv_iload_n hx hb gX12_asked_0.2.2.2.2.2.2.2.2.2 rfl (lv_at2 hl) ?_
        refine pV hC hK hl hP hD (m_lines l G L5785 h0 v5785 nw nk mhasKept nt mtaped nr mrowMany mroundOf mroundFrom mouts nm mfromHour mtoHour ns mfrom mto msort misFault mdeep mcoded mlines nl nc nF np ntr nb mbestCost nso nsi nit nsh nsf nss nrc mtraced mdealer mnumber mwhose msize misParted fnw (by omega) (eL5785)) si_X12_183 [0, 1] sm_0_1 fm_0_1 nd_0_1 rfl rfl rfl rfl rfl (Nat.le_of_ble_eq_true rfl) rm_7_1_2 ⟨by first | exact Nat.le_of_ble_eq_true rfl | exact Nat.zero_le _, by first | exact Nat.le_of_ble_eq_true rfl | exact Nat.zero_le _⟩ gX12_asked_1.1 (Keqr ?_)
        refine lv_icmp_ge (tgt := 87) hx hb gX12_asked_1.2.1 (by decide) (fun _ => ?_) (fun c9 => absurd (Int32.le_refl _) c9)
        refine lv_iconst (v := 0) hx hb gX12_asked_4.2.2.2.2.2.2.1 (by decide) ?_
        refine lv_iload hx hb gX12_asked_4.2.2.2.2.2.2.2.1 (lv_at1 hl) ?_
        refine va_mmax hx hb (hml.trans hl.1.symm) hown (hB _ m_1319) (hB _ m_142) (hB _ m_105) (hB _ m_143) (Nat.le_of_ble_eq_true rfl) (Nat.le_of_ble_eq_true rfl) (by first | exact Nat.le_of_ble_eq_true rfl | exact Nat.zero_le _)  (by first | exact Nat.le_of_ble_eq_true rfl | exact Nat.zero_le _) gX12_asked_4.2.2.2.2.2.2.2.2.1 ?_
        refine lv_topi (fun x5790 ex5790 => ?_)
        refine toQ hQ0 ?_
        exact RI (v := x5790) hC hP hD hS [0, 1, 2] vR rfl rfl (by decide) (trivial) rfl gX12_asked_4.2.2.2.2.2.2.2.2.2
      | succ nQ ihQ =>
        intro kQ nn vR H locs ls hkQ hPD hS hl
        refine Kan2 hPD (fun hP hD => ?_)
        refine lv_iload hx hb gX12_asked_0.2.2.2.2.2.2.2.1 (lv_at0 hl) ?_
        refine lv_aload_n hx hb gX12_asked_0.2.2.2.2.2.2.2.2.1 rfl (lv_at3 hl) ?_
        refine lv_iload_n hx hb gX12_asked_0.2.2.2.2.2.2.2.2.2 rfl (lv_at2 hl) ?_
        refine pV hC hK hl hP hD (m_lines l G L5785 h0 v5785 nw nk mhasKept nt mtaped nr mrowMany mroundOf mroundFrom mouts nm mfromHour mtoHour ns mfrom mto msort misFault mdeep mcoded mlines nl nc nF np ntr nb mbestCost nso nsi nit nsh nsf nss nrc mtraced mdealer mnumber mwhose msize misParted fnw (by omega) (eL5785)) si_X12_183 [0, 1] sm_0_1 fm_0_1 nd_0_1 rfl rfl rfl rfl rfl (Nat.le_of_ble_eq_true rfl) rm_7_1_2 ⟨by first | exact Nat.le_of_ble_eq_true rfl | exact Nat.zero_le _, by first | exact Nat.le_of_ble_eq_true rfl | exact Nat.zero_le _⟩ gX12_asked_1.1 (Keqr ?_)
        refine lv_icmp_ge (tgt := 87) hx hb gX12_asked_1.2.1 (by decide) (fun c9 => absurd c9 (nI_ge (a := kQ) (b := L5785) (by omega) (by omega))) (fun _ => ?_)
        have hln5793 := hLN5785 kQ (by omega)
        refine lv_aload_n hx hb gX12_asked_1.2.2.1 rfl (lv_at3 hl) ?_
        refine lv_iload_n hx hb gX12_asked_1.2.2.2.1 rfl (lv_at2 hl) ?_
        refine lv_iload hx hb gX12_asked_1.2.2.2.2.1 (lv_at0 hl) ?_
        refine lv_iconst (v := 0) hx hb gX12_asked_1.2.2.2.2.2.1 (by decide) ?_
        refine pV hC hK hl hP hD (m_lineOf l G h0 v5785 kQ 0 nw nk mhasKept nt mtaped nr mrowMany mroundOf mroundFrom mouts nm mfromHour mtoHour ns mfrom mto msort misFault mdeep mcoded mlines nl nc nF np ntr nb mbestCost nso nsi nit nsh nsf nss nrc mtraced mdealer mnumber mwhose msize misParted fnw (by omega) (by omega) (by omega)) si_X12_193 [0, 1] sm_0_1 fm_0_1 nd_0_1 rfl rfl rfl rfl rfl (Nat.le_of_ble_eq_true rfl) rm_7_1_4 ⟨by first | exact Nat.le_of_ble_eq_true rfl | exact Nat.zero_le _, by first | exact Nat.le_of_ble_eq_true rfl | exact Nat.zero_le _⟩ gX12_asked_1.2.2.2.2.2.2.1 (Keqr ?_)
        refine lv_iload_n hx hb gX12_asked_1.2.2.2.2.2.2.2.1 rfl (lv_at5 hl) ?_
        refine lv_icmp_ne (tgt := 58) hx hb gX12_asked_1.2.2.2.2.2.2.2.2.1 (by decide) (fun c_30_5796 => ?_) (fun c_30_5796 => ?_)
        · refine lv_iconst (v := 0) hx hb gX12_asked_3.2.2.1 (by decide) ?_
          refine lv_istore (lv' := [(6, .int 0), (5, .int (nI kQ)), (4, .int nn), (3, .int (nI v5785)), (0, .ref h0), (1, .int (nI je)), (2, .int so9)]) hx hb gX12_asked_3.2.2.2.1 hl (by decide) rfl (fun ls hl => ?_)
          refine lv_iload hx hb gX12_asked_3.2.2.2.2.1 (lv_at0 hl) ?_
          refine lv_if_eq (tgt := 77) hx hb gX12_asked_3.2.2.2.2.2.1 (by decide) (fun _ => ?_) (fun c9 => absurd (by decide) c9)
          refine lv_iload hx hb gX12_asked_4.2.2.1 (lv_at2 hl) ?_
          refine lv_istore (lv' := [(4, .int nn), (6, .int 0), (5, .int (nI kQ)), (3, .int (nI v5785)), (0, .ref h0), (1, .int (nI je)), (2, .int so9)]) hx hb gX12_asked_4.2.2.2.1 hl (by decide) rfl (fun ls hl => ?_)
          refine lv_iinc (v := nI (kQ + 1)) (lv' := [(5, .int (nI (kQ + 1))), (4, .int nn), (6, .int 0), (3, .int (nI v5785)), (0, .ref h0), (1, .int (nI je)), (2, .int so9)]) hx hb gX12_asked_4.2.2.2.2.1 hl (k := 2) rfl (nI_1 _) (by decide) rfl (fun ls hl => ?_)
          refine lv_goto (tgt := 11) hx hb gX12_asked_4.2.2.2.2.2.1 (by decide) ?_
          exact ihQ (kQ + 1) nn vR _ _ _ (by omega) (And.intro hP hD) hS (lv_sub hl [0, 1, 3, 4, 5, 6] rfl)
        · refine lv_iload_n hx hb gX12_asked_1.2.2.2.2.2.2.2.2.2 rfl (lv_at5 hl) ?_
          refine lv_iconst (v := 3) hx hb gX12_asked_2.1 (by decide) ?_
          refine lv_icmp_eq (tgt := 54) hx hb gX12_asked_2.2.1 (by decide) (fun c_35_5797 => ?_) (fun c_35_5797 => ?_)
          · refine lv_iconst (v := 1) hx hb gX12_asked_3.1 (by decide) ?_
            refine lv_goto (tgt := 59) hx hb gX12_asked_3.2.1 (by decide) ?_
            refine lv_istore (lv' := [(6, .int 1), (5, .int (nI kQ)), (4, .int nn), (3, .int (nI v5785)), (0, .ref h0), (1, .int (nI je)), (2, .int so9)]) hx hb gX12_asked_3.2.2.2.1 hl (by decide) rfl (fun ls hl => ?_)
            refine lv_iload hx hb gX12_asked_3.2.2.2.2.1 (lv_at0 hl) ?_
            refine lv_if_eq (tgt := 77) hx hb gX12_asked_3.2.2.2.2.2.1 (by decide) (fun c9 => absurd c9 (by decide)) (fun _ => ?_)
            refine lv_aload_n hx hb gX12_asked_3.2.2.2.2.2.2.1 rfl (lv_at4 hl) ?_
            refine lv_iload_n hx hb gX12_asked_3.2.2.2.2.2.2.2.1 rfl (lv_at3 hl) ?_
            refine lv_iload hx hb gX12_asked_3.2.2.2.2.2.2.2.2.1 (lv_at1 hl) ?_
            refine lv_iconst (v := 1) hx hb gX12_asked_3.2.2.2.2.2.2.2.2.2 (by decide) ?_
            refine pV hC hK hl hP hD (m_lineOf l G h0 v5785 kQ 1 nw nk mhasKept nt mtaped nr mrowMany mroundOf mroundFrom mouts nm mfromHour mtoHour ns mfrom mto msort misFault mdeep mcoded mlines nl nc nF np ntr nb mbestCost nso nsi nit nsh nsf nss nrc mtraced mdealer mnumber mwhose msize misParted fnw (by omega) (by omega) (by omega)) si_X12_193 [0, 1] sm_0_1 fm_0_1 nd_0_1 rfl rfl rfl rfl rfl (Nat.le_of_ble_eq_true rfl) rm_7_1_4 ⟨by first | exact Nat.le_of_ble_eq_true rfl | exact Nat.zero_le _, by first | exact Nat.le_of_ble_eq_true rfl | exact Nat.zero_le _⟩ gX12_asked_4.1 (Keqr ?_)
            refine lv_goto (tgt := 79) hx hb gX12_asked_4.2.1 (by decide) ?_
            refine lv_istore (lv' := [(4, .int (fnw (176 + 156 * v5785 + 2 + 6 * kQ + 1))), (6, .int 1), (5, .int (nI kQ)), (3, .int (nI v5785)), (0, .ref h0), (1, .int (nI je)), (2, .int so9)]) hx hb gX12_asked_4.2.2.2.1 hl (by decide) rfl (fun ls hl => ?_)
            refine lv_iinc (v := nI (kQ + 1)) (lv' := [(5, .int (nI (kQ + 1))), (4, .int (fnw (176 + 156 * v5785 + 2 + 6 * kQ + 1))), (6, .int 1), (3, .int (nI v5785)), (0, .ref h0), (1, .int (nI je)), (2, .int so9)]) hx hb gX12_asked_4.2.2.2.2.1 hl (k := 2) rfl (nI_1 _) (by decide) rfl (fun ls hl => ?_)
            refine lv_goto (tgt := 11) hx hb gX12_asked_4.2.2.2.2.2.1 (by decide) ?_
            exact ihQ (kQ + 1) (fnw (176 + 156 * v5785 + 2 + 6 * kQ + 1)) vR _ _ _ (by omega) (And.intro hP hD) hS (lv_sub hl [0, 1, 3, 4, 5, 6] rfl)
          · refine lv_iload hx hb gX12_asked_2.2.2.1 (lv_at1 hl) ?_
            refine lv_if_ge (tgt := 58) hx hb gX12_asked_2.2.2.2.1 (by decide) (fun c_40_5800 => ?_) (fun c_40_5800 => ?_)
            · refine lv_iconst (v := 0) hx hb gX12_asked_3.2.2.1 (by decide) ?_
              refine lv_istore (lv' := [(6, .int 0), (5, .int (nI kQ)), (4, .int nn), (3, .int (nI v5785)), (0, .ref h0), (1, .int (nI je)), (2, .int so9)]) hx hb gX12_asked_3.2.2.2.1 hl (by decide) rfl (fun ls hl => ?_)
              refine lv_iload hx hb gX12_asked_3.2.2.2.2.1 (lv_at0 hl) ?_
              refine lv_if_eq (tgt := 77) hx hb gX12_asked_3.2.2.2.2.2.1 (by decide) (fun _ => ?_) (fun c9 => absurd (by decide) c9)
              refine lv_iload hx hb gX12_asked_4.2.2.1 (lv_at2 hl) ?_
              refine lv_istore (lv' := [(4, .int nn), (6, .int 0), (5, .int (nI kQ)), (3, .int (nI v5785)), (0, .ref h0), (1, .int (nI je)), (2, .int so9)]) hx hb gX12_asked_4.2.2.2.1 hl (by decide) rfl (fun ls hl => ?_)
              refine lv_iinc (v := nI (kQ + 1)) (lv' := [(5, .int (nI (kQ + 1))), (4, .int nn), (6, .int 0), (3, .int (nI v5785)), (0, .ref h0), (1, .int (nI je)), (2, .int so9)]) hx hb gX12_asked_4.2.2.2.2.1 hl (k := 2) rfl (nI_1 _) (by decide) rfl (fun ls hl => ?_)
              refine lv_goto (tgt := 11) hx hb gX12_asked_4.2.2.2.2.2.1 (by decide) ?_
              exact ihQ (kQ + 1) nn vR _ _ _ (by omega) (And.intro hP hD) hS (lv_sub hl [0, 1, 3, 4, 5, 6] rfl)
            · refine lv_aload_n hx hb gX12_asked_2.2.2.2.2.1 rfl (lv_at3 hl) ?_
              refine lv_iload_n hx hb gX12_asked_2.2.2.2.2.2.1 rfl (lv_at2 hl) ?_
              refine lv_iload hx hb gX12_asked_2.2.2.2.2.2.2.1 (lv_at0 hl) ?_
              refine lv_iload_n hx hb gX12_asked_2.2.2.2.2.2.2.2.1 rfl (lv_at4 hl) ?_
              refine iV (wr := []) hC hK hl hP hD hS hA (m_holds l G h0 v5785 kQ je nw nk mhasKept nt mtaped nr mrowMany mroundOf mroundFrom mouts nm mfromHour mtoHour ns mfrom mto msort misFault mdeep mcoded mlines nl nc nF np ntr nb mbestCost nso nsi nit nsh nsf nss nrc mtraced mdealer mnumber mwhose msize misParted fnw vR (by omega) (by omega) (hln5793) (hje) (hN)) si_X12_196 [0, 1, 2] [] sm_0_1_2 fm_0_1_2 nd_0_1_2 rfl rfl (by decide) rfl rfl rfl rfl rfl (Nat.le_of_ble_eq_true rfl) rm_7_5_12 ⟨Nat.le_of_ble_eq_true rfl, Nat.le_of_ble_eq_true rfl⟩ gX12_asked_2.2.2.2.2.2.2.2.2.1 (fun r5801 gnp5803 H locs hr5801 hP hD hS => ?_)
              try dsimp only at hr5801
              refine Kpdr (ws := [(h0, oX12 nw nk mhasKept nt mtaped nr mrowMany mroundOf mroundFrom mouts nm mfromHour mtoHour ns mfrom mto msort misFault mdeep mcoded mlines nl nc nF np ntr nb mbestCost nso nsi nit nsh nsf nss nrc mtraced mdealer mnumber mwhose msize misParted), (nw, iA G 1662 fnw), (np, iA G 100 gnp5803)]) hP hD (fun hP hD => ?_)
              rcases hr5801 with rfl | rfl
              · refine lv_if_eq (tgt := 58) hx hb gX12_asked_2.2.2.2.2.2.2.2.2.2 (by decide) (fun c9 => absurd c9 (by decide)) (fun _ => ?_)
                refine lv_iconst (v := 1) hx hb gX12_asked_3.1 (by decide) ?_
                refine lv_goto (tgt := 59) hx hb gX12_asked_3.2.1 (by decide) ?_
                refine lv_istore (lv' := [(6, .int 1), (5, .int (nI kQ)), (4, .int nn), (3, .int (nI v5785)), (0, .ref h0), (1, .int (nI je)), (2, .int so9)]) hx hb gX12_asked_3.2.2.2.1 hl (by decide) rfl (fun ls hl => ?_)
                refine lv_iload hx hb gX12_asked_3.2.2.2.2.1 (lv_at0 hl) ?_
                refine lv_if_eq (tgt := 77) hx hb gX12_asked_3.2.2.2.2.2.1 (by decide) (fun c9 => absurd c9 (by decide)) (fun _ => ?_)
                refine lv_aload_n hx hb gX12_asked_3.2.2.2.2.2.2.1 rfl (lv_at4 hl) ?_
                refine lv_iload_n hx hb gX12_asked_3.2.2.2.2.2.2.2.1 rfl (lv_at3 hl) ?_
                refine lv_iload hx hb gX12_asked_3.2.2.2.2.2.2.2.2.1 (lv_at1 hl) ?_
                refine lv_iconst (v := 1) hx hb gX12_asked_3.2.2.2.2.2.2.2.2.2 (by decide) ?_
                refine pV hC hK hl hP hD (m_lineOf l G h0 v5785 kQ 1 nw nk mhasKept nt mtaped nr mrowMany mroundOf mroundFrom mouts nm mfromHour mtoHour ns mfrom mto msort misFault mdeep mcoded mlines nl nc nF np ntr nb mbestCost nso nsi nit nsh nsf nss nrc mtraced mdealer mnumber mwhose msize misParted fnw (by omega) (by omega) (by omega)) si_X12_193 [0, 1] sm_0_1 fm_0_1 nd_0_1 rfl rfl rfl rfl rfl (Nat.le_of_ble_eq_true rfl) rm_7_1_4 ⟨by first | exact Nat.le_of_ble_eq_true rfl | exact Nat.zero_le _, by first | exact Nat.le_of_ble_eq_true rfl | exact Nat.zero_le _⟩ gX12_asked_4.1 (Keqr ?_)
                refine lv_goto (tgt := 79) hx hb gX12_asked_4.2.1 (by decide) ?_
                refine lv_istore (lv' := [(4, .int (fnw (176 + 156 * v5785 + 2 + 6 * kQ + 1))), (6, .int 1), (5, .int (nI kQ)), (3, .int (nI v5785)), (0, .ref h0), (1, .int (nI je)), (2, .int so9)]) hx hb gX12_asked_4.2.2.2.1 hl (by decide) rfl (fun ls hl => ?_)
                refine lv_iinc (v := nI (kQ + 1)) (lv' := [(5, .int (nI (kQ + 1))), (4, .int (fnw (176 + 156 * v5785 + 2 + 6 * kQ + 1))), (6, .int 1), (3, .int (nI v5785)), (0, .ref h0), (1, .int (nI je)), (2, .int so9)]) hx hb gX12_asked_4.2.2.2.2.1 hl (k := 2) rfl (nI_1 _) (by decide) rfl (fun ls hl => ?_)
                refine lv_goto (tgt := 11) hx hb gX12_asked_4.2.2.2.2.2.1 (by decide) ?_
                exact ihQ (kQ + 1) (fnw (176 + 156 * v5785 + 2 + 6 * kQ + 1)) gnp5803 _ _ _ (by omega) (And.intro hP hD) hS (lv_sub hl [0, 1, 3, 4, 5, 6] rfl)
              · refine lv_if_eq (tgt := 58) hx hb gX12_asked_2.2.2.2.2.2.2.2.2.2 (by decide) (fun _ => ?_) (fun c9 => absurd (by decide) c9)
                refine lv_iconst (v := 0) hx hb gX12_asked_3.2.2.1 (by decide) ?_
                refine lv_istore (lv' := [(6, .int 0), (5, .int (nI kQ)), (4, .int nn), (3, .int (nI v5785)), (0, .ref h0), (1, .int (nI je)), (2, .int so9)]) hx hb gX12_asked_3.2.2.2.1 hl (by decide) rfl (fun ls hl => ?_)
                refine lv_iload hx hb gX12_asked_3.2.2.2.2.1 (lv_at0 hl) ?_
                refine lv_if_eq (tgt := 77) hx hb gX12_asked_3.2.2.2.2.2.1 (by decide) (fun _ => ?_) (fun c9 => absurd (by decide) c9)
                refine lv_iload hx hb gX12_asked_4.2.2.1 (lv_at2 hl) ?_
                refine lv_istore (lv' := [(4, .int nn), (6, .int 0), (5, .int (nI kQ)), (3, .int (nI v5785)), (0, .ref h0), (1, .int (nI je)), (2, .int so9)]) hx hb gX12_asked_4.2.2.2.1 hl (by decide) rfl (fun ls hl => ?_)
                refine lv_iinc (v := nI (kQ + 1)) (lv' := [(5, .int (nI (kQ + 1))), (4, .int nn), (6, .int 0), (3, .int (nI v5785)), (0, .ref h0), (1, .int (nI je)), (2, .int so9)]) hx hb gX12_asked_4.2.2.2.2.1 hl (k := 2) rfl (nI_1 _) (by decide) rfl (fun ls hl => ?_)
                refine lv_goto (tgt := 11) hx hb gX12_asked_4.2.2.2.2.2.1 (by decide) ?_
                exact ihQ (kQ + 1) nn gnp5803 _ _ _ (by omega) (And.intro hP hD) hS (lv_sub hl [0, 1, 3, 4, 5, 6] rfl)
    exact keyQ L5785 0 (-1) fnp _ _ _ (by omega) (And.intro hP hD) hS (lv_sub hl [0, 1, 2, 3, 4, 5] rfl)
def K_m_isBarred (l : Launch) (G : GG) (h0 : Nat) (jf : Nat) (nw : Nat) (nk : Nat) (mhasKept : Int32) (nt : Nat) (mtaped : Int32) (nr : Nat) (mrowMany : Int32) (mroundOf : Int32) (mroundFrom : Int32) (nm : Nat) (mfromHour : Int32) (mtoHour : Int32) (ns : Nat) (mfrom : Int32) (mto : Int32) (msort : Int32) (misFault : Int32) (mdeep : Int32) (mcoded : Int32) (mlines : Int32) (nl : Nat) (nc : Nat) (nF : Nat) (np : Nat) (ntr : Nat) (nb : Nat) (mbestCost : Int32) (nso : Nat) (nsi : Nat) (nit : Nat) (nsh : Nat) (nsf : Nat) (nss : Nat) (nrc : Nat) (mtraced : Int32) (mdealer : Int32) (mnumber : Int32) (mwhose : Int32) (msize : Int32) (misParted : Int32) (fnw : Nat → Int32) (fnm : Nat → Int32) (fns : Nat → Int32) (fnp : Nat → Int32) : Prop := MI l G yX12_isBarred cX12_isBarred 8 (some .boolean) 11 0 0 [.ref h0, .int (nI jf)] [(h0, oX12 nw nk mhasKept nt mtaped nr mrowMany mroundOf mroundFrom 0 nm mfromHour mtoHour ns mfrom mto msort misFault mdeep mcoded mlines nl nc nF np ntr nb mbestCost nso nsi nit nsh nsf nss nrc mtraced mdealer mnumber mwhose msize misParted), (nw, iA G 1662 fnw), (nm, iA G 36 fnm), (ns, iA G 8 fns), (np, iA G 100 fnp)] (fun (r : Int32) (u : Int32 × Int32 × (Nat → Int32) × (Nat → Int32) × (Nat → Int32)) => (r = 1 ∨ r = 0) ∧ (MB u.2.2.1)) (fun u : Int32 × Int32 × (Nat → Int32) × (Nat → Int32) × (Nat → Int32) => [(h0, oX12 nw nk mhasKept nt mtaped nr mrowMany mroundOf mroundFrom 0 nm u.1 u.2.1 ns mfrom mto msort misFault mdeep mcoded mlines nl nc nF np ntr nb mbestCost nso nsi nit nsh nsf nss nrc mtraced mdealer mnumber mwhose msize misParted), (nw, iA G 1662 fnw), (nm, iA G 36 u.2.2.1), (ns, iA G 8 u.2.2.2.1), (np, iA G 100 u.2.2.2.2)])
set_option maxHeartbeats 4000000 in
set_option maxRecDepth 100000 in
theorem m_isBarred (l : Launch) (G : GG) (h0 : Nat) (jf : Nat) (nw : Nat) (nk : Nat) (mhasKept : Int32) (nt : Nat) (mtaped : Int32) (nr : Nat) (mrowMany : Int32) (mroundOf : Int32) (mroundFrom : Int32) (nm : Nat) (mfromHour : Int32) (mtoHour : Int32) (ns : Nat) (mfrom : Int32) (mto : Int32) (msort : Int32) (misFault : Int32) (mdeep : Int32) (mcoded : Int32) (mlines : Int32) (nl : Nat) (nc : Nat) (nF : Nat) (np : Nat) (ntr : Nat) (nb : Nat) (mbestCost : Int32) (nso : Nat) (nsi : Nat) (nit : Nat) (nsh : Nat) (nsf : Nat) (nss : Nat) (nrc : Nat) (mtraced : Int32) (mdealer : Int32) (mnumber : Int32) (mwhose : Int32) (msize : Int32) (misParted : Int32) (fnw : Nat → Int32) (fnm : Nat → Int32) (fns : Nat → Int32) (fnp : Nat → Int32) (hjf : jf < 12) (hN : NI fnw) (hV : VI fnw) (hM : MB fnm) : K_m_isBarred l G h0 jf nw nk mhasKept nt mtaped nr mrowMany mroundOf mroundFrom nm mfromHour mtoHour ns mfrom mto msort misFault mdeep mcoded mlines nl nc nF np ntr nb mbestCost nso nsi nit nsh nsf nss nrc mtraced mdealer mnumber mwhose msize misParted fnw fnm fns fnp := by
  refine MI.start (by decide +kernel) (Nat.le_of_ble_eq_true rfl) ?_
  intro p e s m below meth c A ls hC hK hP hD hS hA hl
  refine absQ (fun Q0 hQ0 => ?_)
  have hl : lv_has ls 8 [(0, .ref h0), (1, .int (nI jf))] := hl
  refine Kan8 hC (fun hx hb hr hml hB hown hlocks hnm => ?_)
  obtain ⟨k10, hk10, ek10⟩ := NI.nat hN (i := 10) (B := 16) (by decide +kernel) (by decide)
  refine lv_aload_n hx hb gX12_isBarred_0.1 rfl (lv_at0 hl) ?_
  refine gf_X12_9 hC rfl hK hP 0 rfl rfl gX12_isBarred_0.2.1 ?_
  refine lv_sipush (v := 1552) hx hb gX12_isBarred_0.2.2.1 (by decide) ?_
  refine lv_iconst (v := 4) hx hb gX12_isBarred_0.2.2.2.1 (by decide) ?_
  refine lv_iload_n hx hb gX12_isBarred_0.2.2.2.2.1 rfl (lv_at1 hl) ?_
  refine lv_imul hx hb gX12_isBarred_0.2.2.2.2.2.1 ?_
  refine eqi (x1 := nI (4 * jf)) (nI_mul 4 jf) ?_
  refine lv_iadd hx hb gX12_isBarred_0.2.2.2.2.2.2.1 ?_
  refine eqi (x1 := nI (1552 + 4 * jf)) (nI_add 1552 (4 * jf)) ?_
  refine lv_iconst (v := 0) hx hb gX12_isBarred_0.2.2.2.2.2.2.2.1 (by decide) ?_
  refine lv_iadd hx hb gX12_isBarred_0.2.2.2.2.2.2.2.2.1 ?_
  refine eqi (x1 := nI (1552 + 4 * jf + 0)) (nI_add (1552 + 4 * jf) 0) ?_
  obtain ⟨fi5807, hfi5807, efi5807⟩ := NI.nat hN (i := (1552 + 4 * jf + 0)) (B := 9) (bnd_fin0 (s := jf) (by omega) (by omega)) (by decide)
  refine aldN hC hK hP 1 rfl (k := (1552 + 4 * jf + 0)) (by omega) (Nat.le_of_ble_eq_true rfl) (v := nI fi5807) (efi5807) gX12_isBarred_0.2.2.2.2.2.2.2.2.2 ?_
  refine lv_istore_n (lv' := [(2, .int (nI fi5807)), (0, .ref h0), (1, .int (nI jf))]) hx hb gX12_isBarred_1.1 rfl hl (by decide) rfl (fun ls hl => ?_)
  refine lv_aload_n hx hb gX12_isBarred_1.2.1 rfl (lv_at1 hl) ?_
  refine lv_iload_n hx hb gX12_isBarred_1.2.2.1 rfl (lv_at2 hl) ?_
  refine iV (wr := []) hC hK hl hP hD hS hA (m_leans l G h0 jf nw nk mhasKept nt mtaped nr mrowMany mroundOf mroundFrom nm mfromHour mtoHour ns mfrom mto msort misFault mdeep mcoded mlines nl nc nF np ntr nb mbestCost nso nsi nit nsh nsf nss nrc mtraced mdealer mnumber mwhose msize misParted fnw fnm fns fnp (hjf) (hN) (hV) (hM)) si_X12_311 [0, 1, 2, 3, 4] [] sm_0_1_2_3_4 fm_0_1_2_3_4 nd_0_1_2_3_4 rfl rfl (by decide) rfl rfl rfl rfl rfl (Nat.le_of_ble_eq_true rfl) rm_11_10_5 ⟨Nat.le_of_ble_eq_true rfl, Nat.le_of_ble_eq_true rfl⟩ gX12_isBarred_1.2.2.2.1 (fun r5808 => Ktu5 fun fh15810 th15811 gnm5812 gns5813 gnp5814 => ?_)
  intro H locs hr5808 hP hD hS
  try dsimp only at hr5808
  refine Kpdr (ws := [(h0, oX12 nw nk mhasKept nt mtaped nr mrowMany mroundOf mroundFrom 0 nm fh15810 th15811 ns mfrom mto msort misFault mdeep mcoded mlines nl nc nF np ntr nb mbestCost nso nsi nit nsh nsf nss nrc mtraced mdealer mnumber mwhose msize misParted), (nw, iA G 1662 fnw), (nm, iA G 36 gnm5812), (ns, iA G 8 gns5813), (np, iA G 100 gnp5814)]) hP hD (fun hP hD => ?_)
  obtain ⟨hr5808, w5815⟩ := hr5808
  refine lv_istore_n (lv' := [(3, .int r5808), (2, .int (nI fi5807)), (0, .ref h0), (1, .int (nI jf))]) hx hb gX12_isBarred_1.2.2.2.2.1 rfl hl (by decide) rfl (fun ls hl => ?_)
  refine lv_aload_n hx hb gX12_isBarred_1.2.2.2.2.2.1 rfl (lv_at2 hl) ?_
  refine lv_iload_n hx hb gX12_isBarred_1.2.2.2.2.2.2.1 rfl (lv_at1 hl) ?_
  refine lv_iconst (v := 1) hx hb gX12_isBarred_1.2.2.2.2.2.2.2.1 (by decide) ?_
  refine iV (wr := [(nm, iA G 36 gnm5812), (ns, iA G 8 gns5813)]) hC hK hl hP hD hS hA (m_asked l G h0 fi5807 1 nw nk mhasKept nt mtaped nr mrowMany mroundOf mroundFrom 0 nm fh15810 th15811 ns mfrom mto msort misFault mdeep mcoded mlines nl nc nF np ntr nb mbestCost nso nsi nit nsh nsf nss nrc mtraced mdealer mnumber mwhose msize misParted fnw gnp5814 (by omega) (hN) (hV)) si_X12_314 [0, 1, 4] [2, 3] sm_0_1_4 fm_0_1_4 nd_0_1_4 sm_2_3 nd_2_3 dj_0_1_4__2_3 rfl rfl rfl rfl rfl (Nat.le_of_ble_eq_true rfl) rm_11_7_7 ⟨Nat.le_of_ble_eq_true rfl, Nat.le_of_ble_eq_true rfl⟩ gX12_isBarred_1.2.2.2.2.2.2.2.2.1 (fun r5816 gnp5818 H locs hr5816 hP hD hS => ?_)
  try dsimp only at hr5816
  refine Kpdr (ws := [(nm, iA G 36 gnm5812), (ns, iA G 8 gns5813), (h0, oX12 nw nk mhasKept nt mtaped nr mrowMany mroundOf mroundFrom 0 nm fh15810 th15811 ns mfrom mto msort misFault mdeep mcoded mlines nl nc nF np ntr nb mbestCost nso nsi nit nsh nsf nss nrc mtraced mdealer mnumber mwhose msize misParted), (nw, iA G 1662 fnw), (np, iA G 100 gnp5818)]) hP hD (fun hP hD => ?_)
  refine lv_istore (lv' := [(4, .int r5816), (3, .int r5808), (2, .int (nI fi5807)), (0, .ref h0), (1, .int (nI jf))]) hx hb gX12_isBarred_1.2.2.2.2.2.2.2.2.2 hl (by decide) rfl (fun ls hl => ?_)
  refine lv_iconst (v := 0) hx hb gX12_isBarred_2.1 (by decide) ?_
  refine lv_istore (lv' := [(5, .int 0), (4, .int r5816), (3, .int r5808), (2, .int (nI fi5807)), (0, .ref h0), (1, .int (nI jf))]) hx hb gX12_isBarred_2.2.1 hl (by decide) rfl (fun ls hl => ?_)
  have keyP : ∀ (nP kP : Nat) (op : Int32) (H : Heap) (locs : List Loc) (ls : Array Slot), kP + nP = k10 → va_PD G A [(nm, iA G 36 gnm5812), (ns, iA G 8 gns5813), (h0, oX12 nw nk mhasKept nt mtaped nr mrowMany mroundOf mroundFrom 0 nm fh15810 th15811 ns mfrom mto msort misFault mdeep mcoded mlines nl nc nF np ntr nb mbestCost nso nsi nit nsh nsf nss nrc mtraced mdealer mnumber mwhose msize misParted), (nw, iA G 1662 fnw), (np, iA G 100 gnp5818)] H → va_S A s.heap H locs → lv_has ls 8 [(5, .int (nI kP)), (4, .int r5816), (3, .int op), (2, .int (nI fi5807)), (0, .ref h0), (1, .int (nI jf))] → W p l e (RM 11 0 0) s m ([.ref h0, .int (nI jf)] : List Value).toArray below meth c H locs 0 0 Q0 (F0 m 32 ls []) := by
    intro nP
    induction nP with
    | zero =>
      intro kP op H locs ls hkP hPD hS hl
      refine Kan2 hPD (fun hP hD => ?_)
      obtain rfl : k10 = kP := by omega
      have hl : lv_has ls 8 [(5, .int (nI k10)), (4, .int r5816), (3, .int op), (2, .int (nI fi5807)), (0, .ref h0), (1, .int (nI jf))] := hl
      refine lv_iload hx hb gX12_isBarred_2.2.2.1 (lv_at0 hl) ?_
      refine lv_aload_n hx hb gX12_isBarred_2.2.2.2.1 rfl (lv_at4 hl) ?_
      refine gf_X12_9 hC rfl hK hP 2 rfl rfl gX12_isBarred_2.2.2.2.2.1 ?_
      refine lv_bipush (v := 10) hx hb gX12_isBarred_2.2.2.2.2.2.1 (by decide) ?_
      refine ald hC hK hP 3 rfl (vin (by decide +kernel)) (k := 10) (by decide +kernel) (v := nI k10) (ek10) gX12_isBarred_2.2.2.2.2.2.2.1 ?_
      refine lv_icmp_ge (tgt := 138) hx hb gX12_isBarred_2.2.2.2.2.2.2.2.1 (by decide) (fun _ => ?_) (fun c9 => absurd (Int32.le_refl _) c9)
      refine lv_iload_n hx hb gX12_isBarred_8.2.2.2.1 rfl (lv_at2 hl) ?_
      refine lv_if_ne (tgt := 156) hx hb gX12_isBarred_8.2.2.2.2.1 (by decide) (fun c_139_5819 => ?_) (fun c_139_5819 => ?_)
      · refine lv_iconst (v := 1) hx hb gX12_isBarred_9.2.2.2.1 (by decide) ?_
        refine lv_goto (tgt := 161) hx hb gX12_isBarred_9.2.2.2.2.1 (by decide) ?_
        refine toQ hQ0 ?_
        exact RI (v := 1) hC hP hD hS [2, 3, 0, 1, 4] (fh15810, th15811, gnm5812, gns5813, gnp5818) rfl rfl (by decide) (⟨Or.inl (rfl), by first | assumption | exact hM⟩) (by decide +kernel) gX12_isBarred_9.2.2.2.2.2.2
      · refine lv_aload_n hx hb gX12_isBarred_8.2.2.2.2.2.1 rfl (lv_at4 hl) ?_
        refine lv_iload_n hx hb gX12_isBarred_8.2.2.2.2.2.2.1 rfl (lv_at3 hl) ?_
        refine pV hC hK hl hP hD (m_saidBy l G h0 (nI fi5807) nw nk mhasKept nt mtaped nr mrowMany mroundOf mroundFrom 0 nm fh15810 th15811 ns mfrom mto msort misFault mdeep mcoded mlines nl nc nF np ntr nb mbestCost nso nsi nit nsh nsf nss nrc mtraced mdealer mnumber mwhose msize misParted fnw (hN)) si_X12_127 [2, 3] sm_2_3 fm_2_3 nd_2_3 rfl rfl rfl rfl rfl (Nat.le_of_ble_eq_true rfl) rm_11_5_4 ⟨by first | exact Nat.le_of_ble_eq_true rfl | exact Nat.zero_le _, by first | exact Nat.le_of_ble_eq_true rfl | exact Nat.zero_le _⟩ gX12_isBarred_8.2.2.2.2.2.2.2.1 (fun r5820 hr5820 => ?_)
        refine lv_aload_n hx hb gX12_isBarred_8.2.2.2.2.2.2.2.2.1 rfl (lv_at4 hl) ?_
        refine lv_iload_n hx hb gX12_isBarred_8.2.2.2.2.2.2.2.2.2 rfl (lv_at3 hl) ?_
        refine lv_iconst (v := 3) hx hb gX12_isBarred_9.1 (by decide) ?_
        refine iV (wr := [(nm, iA G 36 gnm5812), (ns, iA G 8 gns5813)]) hC hK hl hP hD hS hA (m_asked l G h0 fi5807 3 nw nk mhasKept nt mtaped nr mrowMany mroundOf mroundFrom 0 nm fh15810 th15811 ns mfrom mto msort misFault mdeep mcoded mlines nl nc nF np ntr nb mbestCost nso nsi nit nsh nsf nss nrc mtraced mdealer mnumber mwhose msize misParted fnw gnp5818 (by omega) (hN) (hV)) si_X12_314 [2, 3, 4] [0, 1] sm_2_3_4 fm_2_3_4 nd_2_3_4 sm_0_1 nd_0_1 dj_2_3_4__0_1 rfl rfl rfl rfl rfl (Nat.le_of_ble_eq_true rfl) rm_11_7_7 ⟨Nat.le_of_ble_eq_true rfl, Nat.le_of_ble_eq_true rfl⟩ gX12_isBarred_9.2.1 (fun r5821 gnp5823 H locs hr5821 hP hD hS => ?_)
        try dsimp only at hr5821
        refine Kpdr (ws := [(nm, iA G 36 gnm5812), (ns, iA G 8 gns5813), (h0, oX12 nw nk mhasKept nt mtaped nr mrowMany mroundOf mroundFrom 0 nm fh15810 th15811 ns mfrom mto msort misFault mdeep mcoded mlines nl nc nF np ntr nb mbestCost nso nsi nit nsh nsf nss nrc mtraced mdealer mnumber mwhose msize misParted), (nw, iA G 1662 fnw), (np, iA G 100 gnp5823)]) hP hD (fun hP hD => ?_)
        refine lv_icmp_ge (tgt := 160) hx hb gX12_isBarred_9.2.2.1 (by decide) (fun c_153_5824 => ?_) (fun c_153_5824 => ?_)
        · refine lv_iconst (v := 0) hx hb gX12_isBarred_9.2.2.2.2.2.1 (by decide) ?_
          refine toQ hQ0 ?_
          exact RI (v := 0) hC hP hD hS [2, 3, 0, 1, 4] (fh15810, th15811, gnm5812, gns5813, gnp5823) rfl rfl (by decide) (⟨Or.inr (rfl), by first | assumption | exact hM⟩) (by decide +kernel) gX12_isBarred_9.2.2.2.2.2.2
        · refine lv_iconst (v := 1) hx hb gX12_isBarred_9.2.2.2.1 (by decide) ?_
          refine lv_goto (tgt := 161) hx hb gX12_isBarred_9.2.2.2.2.1 (by decide) ?_
          refine toQ hQ0 ?_
          exact RI (v := 1) hC hP hD hS [2, 3, 0, 1, 4] (fh15810, th15811, gnm5812, gns5813, gnp5823) rfl rfl (by decide) (⟨Or.inl (rfl), by first | assumption | exact hM⟩) (by decide +kernel) gX12_isBarred_9.2.2.2.2.2.2
    | succ nP ihP =>
      intro kP op H locs ls hkP hPD hS hl
      refine Kan2 hPD (fun hP hD => ?_)
      refine lv_iload hx hb gX12_isBarred_2.2.2.1 (lv_at0 hl) ?_
      refine lv_aload_n hx hb gX12_isBarred_2.2.2.2.1 rfl (lv_at4 hl) ?_
      refine gf_X12_9 hC rfl hK hP 2 rfl rfl gX12_isBarred_2.2.2.2.2.1 ?_
      refine lv_bipush (v := 10) hx hb gX12_isBarred_2.2.2.2.2.2.1 (by decide) ?_
      refine ald hC hK hP 3 rfl (vin (by decide +kernel)) (k := 10) (by decide +kernel) (v := nI k10) (ek10) gX12_isBarred_2.2.2.2.2.2.2.1 ?_
      refine lv_icmp_ge (tgt := 138) hx hb gX12_isBarred_2.2.2.2.2.2.2.2.1 (by decide) (fun c9 => absurd c9 (nI_ge (a := kP) (b := k10) (by omega) (by omega))) (fun _ => ?_)
      refine lv_sipush (v := 1600) hx hb gX12_isBarred_2.2.2.2.2.2.2.2.2.1 (by decide) ?_
      refine lv_iconst (v := 3) hx hb gX12_isBarred_2.2.2.2.2.2.2.2.2.2 (by decide) ?_
      refine lv_iload hx hb gX12_isBarred_3.1 (lv_at0 hl) ?_
      refine lv_imul hx hb gX12_isBarred_3.2.1 ?_
      refine eqi (x1 := nI (3 * kP)) (nI_mul 3 kP) ?_
      refine lv_iadd hx hb gX12_isBarred_3.2.2.1 ?_
      refine eqi (x1 := nI (1600 + 3 * kP)) (nI_add 1600 (3 * kP)) ?_
      refine lv_istore (lv' := [(6, .int (nI (1600 + 3 * kP))), (5, .int (nI kP)), (4, .int r5816), (3, .int op), (2, .int (nI fi5807)), (0, .ref h0), (1, .int (nI jf))]) hx hb gX12_isBarred_3.2.2.2.1 hl (by decide) rfl (fun ls hl => ?_)
      refine lv_aload_n hx hb gX12_isBarred_3.2.2.2.2.1 rfl (lv_at5 hl) ?_
      refine gf_X12_9 hC rfl hK hP 2 rfl rfl gX12_isBarred_3.2.2.2.2.2.1 ?_
      refine lv_iload hx hb gX12_isBarred_3.2.2.2.2.2.2.1 (lv_at0 hl) ?_
      refine aldN hC hK hP 3 rfl (k := (1600 + 3 * kP)) (by omega) (Nat.le_of_ble_eq_true rfl) (v := fnw (1600 + 3 * kP)) rfl gX12_isBarred_3.2.2.2.2.2.2.2.1 ?_
      refine lv_topi (fun x5825 ex5825 => ?_)
      refine lv_iload_n hx hb gX12_isBarred_3.2.2.2.2.2.2.2.2.1 rfl (lv_at4 hl) ?_
      refine lv_icmp_ne (tgt := 104) hx hb gX12_isBarred_3.2.2.2.2.2.2.2.2.2 (by decide) (fun c_62_5826 => ?_) (fun c_62_5826 => ?_)
      · refine lv_iconst (v := 0) hx hb gX12_isBarred_6.2.2.1 (by decide) ?_
        refine lv_istore (lv' := [(7, .int 0), (6, .int (nI (1600 + 3 * kP))), (5, .int (nI kP)), (4, .int r5816), (3, .int op), (2, .int (nI fi5807)), (0, .ref h0), (1, .int (nI jf))]) hx hb gX12_isBarred_6.2.2.2.1 hl (by decide) rfl (fun ls hl => ?_)
        refine lv_iload_n hx hb gX12_isBarred_6.2.2.2.2.1 rfl (lv_at4 hl) ?_
        refine lv_iload hx hb gX12_isBarred_6.2.2.2.2.2.1 (lv_at0 hl) ?_
        refine lv_if_eq (tgt := 129) hx hb gX12_isBarred_6.2.2.2.2.2.2.1 (by decide) (fun _ => ?_) (fun c9 => absurd (by decide) c9)
        refine lv_iconst (v := (-1)) hx hb gX12_isBarred_7.2.2.2.2.2.2.2.2.1 (by decide) ?_
        refine lv_iand hx hb gX12_isBarred_7.2.2.2.2.2.2.2.2.2 ?_
        refine lv_istore_n (lv' := [(3, .int (op &&& (-1))), (7, .int 0), (6, .int (nI (1600 + 3 * kP))), (5, .int (nI kP)), (4, .int r5816), (2, .int (nI fi5807)), (0, .ref h0), (1, .int (nI jf))]) hx hb gX12_isBarred_8.1 rfl hl (by decide) rfl (fun ls hl => ?_)
        refine lv_iinc (v := nI (kP + 1)) (lv' := [(5, .int (nI (kP + 1))), (3, .int (op &&& (-1))), (7, .int 0), (6, .int (nI (1600 + 3 * kP))), (4, .int r5816), (2, .int (nI fi5807)), (0, .ref h0), (1, .int (nI jf))]) hx hb gX12_isBarred_8.2.1 hl (k := 3) rfl (nI_1 _) (by decide) rfl (fun ls hl => ?_)
        refine lv_goto (tgt := 32) hx hb gX12_isBarred_8.2.2.1 (by decide) ?_
        exact ihP (kP + 1) (op &&& (-1)) _ _ _ (by omega) (And.intro hP hD) hS (lv_sub hl [0, 4, 1, 5, 6, 7] rfl)
      · refine lv_aload_n hx hb gX12_isBarred_4.1 rfl (lv_at5 hl) ?_
        refine gf_X12_9 hC rfl hK hP 2 rfl rfl gX12_isBarred_4.2.1 ?_
        refine lv_iload hx hb gX12_isBarred_4.2.2.1 (lv_at0 hl) ?_
        refine lv_iconst (v := 2) hx hb gX12_isBarred_4.2.2.2.1 (by decide) ?_
        refine lv_iadd hx hb gX12_isBarred_4.2.2.2.2.1 ?_
        refine eqi (x1 := nI (1600 + 3 * kP + 2)) (nI_add (1600 + 3 * kP) 2) ?_
        refine aldN hC hK hP 3 rfl (k := (1600 + 3 * kP + 2)) (by omega) (Nat.le_of_ble_eq_true rfl) (v := fnw (1600 + 3 * kP + 2)) rfl gX12_isBarred_4.2.2.2.2.2.1 ?_
        refine lv_topi (fun x5827 ex5827 => ?_)
        refine lv_aload_n hx hb gX12_isBarred_4.2.2.2.2.2.2.1 rfl (lv_at5 hl) ?_
        refine pV hC hK hl hP hD (m_day l G h0 nw nk mhasKept nt mtaped nr mrowMany mroundOf mroundFrom 0 nm fh15810 th15811 ns mfrom mto msort misFault mdeep mcoded mlines nl nc nF np ntr nb mbestCost nso nsi nit nsh nsf nss nrc mtraced mdealer mnumber mwhose msize misParted fnw) si_X12_92 [2, 3] sm_2_3 fm_2_3 nd_2_3 rfl rfl rfl rfl rfl (Nat.le_of_ble_eq_true rfl) rm_11_1_1 ⟨by first | exact Nat.le_of_ble_eq_true rfl | exact Nat.zero_le _, by first | exact Nat.le_of_ble_eq_true rfl | exact Nat.zero_le _⟩ gX12_isBarred_4.2.2.2.2.2.2.2.1 (fun r5828 hr5828 => ?_)
        refine lv_icmp_gt (tgt := 104) hx hb gX12_isBarred_4.2.2.2.2.2.2.2.2.1 (by decide) (fun c_78_5829 => ?_) (fun c_78_5829 => ?_)
        · refine lv_iconst (v := 0) hx hb gX12_isBarred_6.2.2.1 (by decide) ?_
          refine lv_istore (lv' := [(7, .int 0), (6, .int (nI (1600 + 3 * kP))), (5, .int (nI kP)), (4, .int r5816), (3, .int op), (2, .int (nI fi5807)), (0, .ref h0), (1, .int (nI jf))]) hx hb gX12_isBarred_6.2.2.2.1 hl (by decide) rfl (fun ls hl => ?_)
          refine lv_iload_n hx hb gX12_isBarred_6.2.2.2.2.1 rfl (lv_at4 hl) ?_
          refine lv_iload hx hb gX12_isBarred_6.2.2.2.2.2.1 (lv_at0 hl) ?_
          refine lv_if_eq (tgt := 129) hx hb gX12_isBarred_6.2.2.2.2.2.2.1 (by decide) (fun _ => ?_) (fun c9 => absurd (by decide) c9)
          refine lv_iconst (v := (-1)) hx hb gX12_isBarred_7.2.2.2.2.2.2.2.2.1 (by decide) ?_
          refine lv_iand hx hb gX12_isBarred_7.2.2.2.2.2.2.2.2.2 ?_
          refine lv_istore_n (lv' := [(3, .int (op &&& (-1))), (7, .int 0), (6, .int (nI (1600 + 3 * kP))), (5, .int (nI kP)), (4, .int r5816), (2, .int (nI fi5807)), (0, .ref h0), (1, .int (nI jf))]) hx hb gX12_isBarred_8.1 rfl hl (by decide) rfl (fun ls hl => ?_)
          refine lv_iinc (v := nI (kP + 1)) (lv' := [(5, .int (nI (kP + 1))), (3, .int (op &&& (-1))), (7, .int 0), (6, .int (nI (1600 + 3 * kP))), (4, .int r5816), (2, .int (nI fi5807)), (0, .ref h0), (1, .int (nI jf))]) hx hb gX12_isBarred_8.2.1 hl (k := 3) rfl (nI_1 _) (by decide) rfl (fun ls hl => ?_)
          refine lv_goto (tgt := 32) hx hb gX12_isBarred_8.2.2.1 (by decide) ?_
          exact ihP (kP + 1) (op &&& (-1)) _ _ _ (by omega) (And.intro hP hD) hS (lv_sub hl [0, 4, 1, 5, 6, 7] rfl)
        · refine lv_aload_n hx hb gX12_isBarred_4.2.2.2.2.2.2.2.2.2 rfl (lv_at5 hl) ?_
          refine pV hC hK hl hP hD (m_day l G h0 nw nk mhasKept nt mtaped nr mrowMany mroundOf mroundFrom 0 nm fh15810 th15811 ns mfrom mto msort misFault mdeep mcoded mlines nl nc nF np ntr nb mbestCost nso nsi nit nsh nsf nss nrc mtraced mdealer mnumber mwhose msize misParted fnw) si_X12_92 [2, 3] sm_2_3 fm_2_3 nd_2_3 rfl rfl rfl rfl rfl (Nat.le_of_ble_eq_true rfl) rm_11_1_1 ⟨by first | exact Nat.le_of_ble_eq_true rfl | exact Nat.zero_le _, by first | exact Nat.le_of_ble_eq_true rfl | exact Nat.zero_le _⟩ gX12_isBarred_5.1 (fun r5830 hr5830 => ?_)
          refine lv_aload_n hx hb gX12_isBarred_5.2.1 rfl (lv_at5 hl) ?_
          refine gf_X12_9 hC rfl hK hP 2 rfl rfl gX12_isBarred_5.2.2.1 ?_
          refine lv_iload hx hb gX12_isBarred_5.2.2.2.1 (lv_at0 hl) ?_
          refine lv_iconst (v := 2) hx hb gX12_isBarred_5.2.2.2.2.1 (by decide) ?_
          refine lv_iadd hx hb gX12_isBarred_5.2.2.2.2.2.1 ?_
          refine eqi (x1 := nI (1600 + 3 * kP + 2)) (nI_add (1600 + 3 * kP) 2) ?_
          refine aldN hC hK hP 3 rfl (k := (1600 + 3 * kP + 2)) (by omega) (Nat.le_of_ble_eq_true rfl) (v := fnw (1600 + 3 * kP + 2)) rfl gX12_isBarred_5.2.2.2.2.2.2.1 ?_
          refine lv_topi (fun x5831 ex5831 => ?_)
          refine lv_isub hx hb gX12_isBarred_5.2.2.2.2.2.2.2.1 ?_
          refine lv_iload hx hb gX12_isBarred_5.2.2.2.2.2.2.2.2.1 (lv_at2 hl) ?_
          refine lv_icmp_lt (tgt := 104) hx hb gX12_isBarred_5.2.2.2.2.2.2.2.2.2 (by decide) (fun c_97_5832 => ?_) (fun c_97_5832 => ?_)
          · refine lv_iconst (v := 0) hx hb gX12_isBarred_6.2.2.1 (by decide) ?_
            refine lv_istore (lv' := [(7, .int 0), (6, .int (nI (1600 + 3 * kP))), (5, .int (nI kP)), (4, .int r5816), (3, .int op), (2, .int (nI fi5807)), (0, .ref h0), (1, .int (nI jf))]) hx hb gX12_isBarred_6.2.2.2.1 hl (by decide) rfl (fun ls hl => ?_)
            refine lv_iload_n hx hb gX12_isBarred_6.2.2.2.2.1 rfl (lv_at4 hl) ?_
            refine lv_iload hx hb gX12_isBarred_6.2.2.2.2.2.1 (lv_at0 hl) ?_
            refine lv_if_eq (tgt := 129) hx hb gX12_isBarred_6.2.2.2.2.2.2.1 (by decide) (fun _ => ?_) (fun c9 => absurd (by decide) c9)
            refine lv_iconst (v := (-1)) hx hb gX12_isBarred_7.2.2.2.2.2.2.2.2.1 (by decide) ?_
            refine lv_iand hx hb gX12_isBarred_7.2.2.2.2.2.2.2.2.2 ?_
            refine lv_istore_n (lv' := [(3, .int (op &&& (-1))), (7, .int 0), (6, .int (nI (1600 + 3 * kP))), (5, .int (nI kP)), (4, .int r5816), (2, .int (nI fi5807)), (0, .ref h0), (1, .int (nI jf))]) hx hb gX12_isBarred_8.1 rfl hl (by decide) rfl (fun ls hl => ?_)
            refine lv_iinc (v := nI (kP + 1)) (lv' := [(5, .int (nI (kP + 1))), (3, .int (op &&& (-1))), (7, .int 0), (6, .int (nI (1600 + 3 * kP))), (4, .int r5816), (2, .int (nI fi5807)), (0, .ref h0), (1, .int (nI jf))]) hx hb gX12_isBarred_8.2.1 hl (k := 3) rfl (nI_1 _) (by decide) rfl (fun ls hl => ?_)
            refine lv_goto (tgt := 32) hx hb gX12_isBarred_8.2.2.1 (by decide) ?_
            exact ihP (kP + 1) (op &&& (-1)) _ _ _ (by omega) (And.intro hP hD) hS (lv_sub hl [0, 4, 1, 5, 6, 7] rfl)
          · refine lv_iconst (v := 1) hx hb gX12_isBarred_6.1 (by decide) ?_
            refine lv_goto (tgt := 105) hx hb gX12_isBarred_6.2.1 (by decide) ?_
            refine lv_istore (lv' := [(7, .int 1), (6, .int (nI (1600 + 3 * kP))), (5, .int (nI kP)), (4, .int r5816), (3, .int op), (2, .int (nI fi5807)), (0, .ref h0), (1, .int (nI jf))]) hx hb gX12_isBarred_6.2.2.2.1 hl (by decide) rfl (fun ls hl => ?_)
            refine lv_iload_n hx hb gX12_isBarred_6.2.2.2.2.1 rfl (lv_at4 hl) ?_
            refine lv_iload hx hb gX12_isBarred_6.2.2.2.2.2.1 (lv_at0 hl) ?_
            refine lv_if_eq (tgt := 129) hx hb gX12_isBarred_6.2.2.2.2.2.2.1 (by decide) (fun c9 => absurd c9 (by decide)) (fun _ => ?_)
            refine lv_iconst (v := 1) hx hb gX12_isBarred_6.2.2.2.2.2.2.2.1 (by decide) ?_
            refine lv_aload_n hx hb gX12_isBarred_6.2.2.2.2.2.2.2.2.1 rfl (lv_at6 hl) ?_
            refine gf_X12_9 hC rfl hK hP 2 rfl rfl gX12_isBarred_6.2.2.2.2.2.2.2.2.2 ?_
            refine lv_iload hx hb gX12_isBarred_7.1 (lv_at1 hl) ?_
            refine lv_iconst (v := 1) hx hb gX12_isBarred_7.2.1 (by decide) ?_
            refine lv_iadd hx hb gX12_isBarred_7.2.2.1 ?_
            refine eqi (x1 := nI (1600 + 3 * kP + 1)) (nI_add (1600 + 3 * kP) 1) ?_
            refine aldN hC hK hP 3 rfl (k := (1600 + 3 * kP + 1)) (by omega) (Nat.le_of_ble_eq_true rfl) (v := fnw (1600 + 3 * kP + 1)) rfl gX12_isBarred_7.2.2.2.1 ?_
            refine lv_topi (fun x5833 ex5833 => ?_)
            refine lv_ishl hx hb gX12_isBarred_7.2.2.2.2.1 ?_
            refine lv_iconst (v := (-1)) hx hb gX12_isBarred_7.2.2.2.2.2.1 (by decide) ?_
            refine lv_ixor hx hb gX12_isBarred_7.2.2.2.2.2.2.1 ?_
            refine lv_goto (tgt := 130) hx hb gX12_isBarred_7.2.2.2.2.2.2.2.1 (by decide) ?_
            refine lv_iand hx hb gX12_isBarred_7.2.2.2.2.2.2.2.2.2 ?_
            refine lv_istore_n (lv' := [(3, .int (op &&& ((1 <<< (x5833 &&& 31)) ^^^ (-1)))), (7, .int 1), (6, .int (nI (1600 + 3 * kP))), (5, .int (nI kP)), (4, .int r5816), (2, .int (nI fi5807)), (0, .ref h0), (1, .int (nI jf))]) hx hb gX12_isBarred_8.1 rfl hl (by decide) rfl (fun ls hl => ?_)
            refine lv_iinc (v := nI (kP + 1)) (lv' := [(5, .int (nI (kP + 1))), (3, .int (op &&& ((1 <<< (x5833 &&& 31)) ^^^ (-1)))), (7, .int 1), (6, .int (nI (1600 + 3 * kP))), (4, .int r5816), (2, .int (nI fi5807)), (0, .ref h0), (1, .int (nI jf))]) hx hb gX12_isBarred_8.2.1 hl (k := 3) rfl (nI_1 _) (by decide) rfl (fun ls hl => ?_)
            refine lv_goto (tgt := 32) hx hb gX12_isBarred_8.2.2.1 (by decide) ?_
            exact ihP (kP + 1) (op &&& ((1 <<< (x5833 &&& 31)) ^^^ (-1))) _ _ _ (by omega) (And.intro hP hD) hS (lv_sub hl [0, 4, 1, 5, 6, 7] rfl)
  exact keyP k10 0 r5808 _ _ _ (by omega) (And.intro hP hD) hS (lv_sub hl [0, 1, 2, 3, 4, 5] rfl)
def K_r_findingOf (l : Launch) (G : GG) (h0 : Nat) (x1 : Int32) (x2 : Int32) (nw : Nat) (nk : Nat) (mhasKept : Int32) (nt : Nat) (mtaped : Int32) (nr : Nat) (mrowMany : Int32) (mroundOf : Int32) (mroundFrom : Int32) (nm : Nat) (mfromHour : Int32) (mtoHour : Int32) (ns : Nat) (mfrom : Int32) (mto : Int32) (msort : Int32) (misFault : Int32) (mdeep : Int32) (mcoded : Int32) (mlines : Int32) (nl : Nat) (nc : Nat) (nF : Nat) (np : Nat) (ntr : Nat) (nb : Nat) (mbestCost : Int32) (nso : Nat) (nsi : Nat) (nit : Nat) (nsh : Nat) (nsf : Nat) (nss : Nat) (nrc : Nat) (mtraced : Int32) (mdealer : Int32) (mnumber : Int32) (mwhose : Int32) (msize : Int32) (misParted : Int32) (fnw : Nat → Int32) (fnm : Nat → Int32) (fns : Nat → Int32) (fnp : Nat → Int32) : Prop := MI l G yX12_findingOf cX12_findingOf 3 (some .int) 12 0 0 [.ref h0, .int x1, .int x2] [(h0, oX12 nw nk mhasKept nt mtaped nr mrowMany mroundOf mroundFrom 0 nm mfromHour mtoHour ns mfrom mto msort misFault mdeep mcoded mlines nl nc nF np ntr nb mbestCost nso nsi nit nsh nsf nss nrc mtraced mdealer mnumber mwhose msize misParted), (nw, iA G 1662 fnw), (nm, iA G 36 fnm), (ns, iA G 8 fns), (np, iA G 100 fnp)] (fun (r : Int32) (u : Int32 × Int32 × (Nat → Int32) × (Nat → Int32) × (Nat → Int32)) => (True) ∧ (MB u.2.2.1)) (fun u : Int32 × Int32 × (Nat → Int32) × (Nat → Int32) × (Nat → Int32) => [(h0, oX12 nw nk mhasKept nt mtaped nr mrowMany mroundOf mroundFrom 0 nm u.1 u.2.1 ns mfrom mto msort misFault mdeep mcoded mlines nl nc nF np ntr nb mbestCost nso nsi nit nsh nsf nss nrc mtraced mdealer mnumber mwhose msize misParted), (nw, iA G 1662 fnw), (nm, iA G 36 u.2.2.1), (ns, iA G 8 u.2.2.2.1), (np, iA G 100 u.2.2.2.2)])
set_option maxHeartbeats 4000000 in
set_option maxRecDepth 100000 in
theorem r_findingOf (l : Launch) (G : GG) (h0 : Nat) (x1 : Int32) (x2 : Int32) (nw : Nat) (nk : Nat) (mhasKept : Int32) (nt : Nat) (mtaped : Int32) (nr : Nat) (mrowMany : Int32) (mroundOf : Int32) (mroundFrom : Int32) (nm : Nat) (mfromHour : Int32) (mtoHour : Int32) (ns : Nat) (mfrom : Int32) (mto : Int32) (msort : Int32) (misFault : Int32) (mdeep : Int32) (mcoded : Int32) (mlines : Int32) (nl : Nat) (nc : Nat) (nF : Nat) (np : Nat) (ntr : Nat) (nb : Nat) (mbestCost : Int32) (nso : Nat) (nsi : Nat) (nit : Nat) (nsh : Nat) (nsf : Nat) (nss : Nat) (nrc : Nat) (mtraced : Int32) (mdealer : Int32) (mnumber : Int32) (mwhose : Int32) (msize : Int32) (misParted : Int32) (fnw : Nat → Int32) (fnm : Nat → Int32) (fns : Nat → Int32) (fnp : Nat → Int32) (hN : NI fnw) (hV : VI fnw) (hM : MB fnm) : K_r_findingOf l G h0 x1 x2 nw nk mhasKept nt mtaped nr mrowMany mroundOf mroundFrom nm mfromHour mtoHour ns mfrom mto msort misFault mdeep mcoded mlines nl nc nF np ntr nb mbestCost nso nsi nit nsh nsf nss nrc mtraced mdealer mnumber mwhose msize misParted fnw fnm fns fnp := by
  refine MI.start (by decide +kernel) (Nat.le_of_ble_eq_true rfl) ?_
  intro p e s m below meth c A ls hC hK hP hD hS hA hl
  refine absQ (fun Q0 hQ0 => ?_)
  have hl : lv_has ls 3 [(0, .ref h0), (1, .int x1), (2, .int x2)] := hl
  refine Kan8 hC (fun hx hb hr hml hB hown hlocks hnm => ?_)
  obtain ⟨k9, hk9, ek9⟩ := NI.nat hN (i := 9) (B := 12) (by decide +kernel) (by decide)
  refine lv_aload_n hx hb gX12_findingOf_0.1 rfl (lv_at0 hl) ?_
  refine lv_iload_n hx hb gX12_findingOf_0.2.1 rfl (lv_at1 hl) ?_
  refine lv_bipush (v := 9) hx hb gX12_findingOf_0.2.2.1 (by decide) ?_
  refine pV hC hK hl hP hD (m_is l G k9 h0 x1 9 nw nk mhasKept nt mtaped nr mrowMany mroundOf mroundFrom 0 nm mfromHour mtoHour ns mfrom mto msort misFault mdeep mcoded mlines nl nc nF np ntr nb mbestCost nso nsi nit nsh nsf nss nrc mtraced mdealer mnumber mwhose msize misParted fnw (by omega) (ek9) (by omega)) si_X12_120 [0, 1] sm_0_1 fm_0_1 nd_0_1 rfl rfl rfl rfl rfl (Nat.le_of_ble_eq_true rfl) rm_12_2_3 ⟨by first | exact Nat.le_of_ble_eq_true rfl | exact Nat.zero_le _, by first | exact Nat.le_of_ble_eq_true rfl | exact Nat.zero_le _⟩ gX12_findingOf_0.2.2.2.1 (Kors (Keqa fun a5835 => ?_) (Keqa fun a5835 => ?_))
  · refine lv_if_eq (tgt := 20) hx hb gX12_findingOf_0.2.2.2.2.1 (by decide) (fun c9 => absurd c9 (by decide)) (fun _ => ?_)
    refine lv_iload_n hx hb gX12_findingOf_0.2.2.2.2.2.1 rfl (lv_at2 hl) ?_
    refine lv_iconst (v := 0) hx hb gX12_findingOf_0.2.2.2.2.2.2.1 (by decide) ?_
    refine lv_bipush (v := 6) hx hb gX12_findingOf_0.2.2.2.2.2.2.2.1 (by decide) ?_
    refine pS hC hK hl (m_within l G x2 0 6) si_X12_84 rfl rfl (Nat.le_of_ble_eq_true rfl) rm_12_1_3 ⟨by first | exact Nat.le_of_ble_eq_true rfl | exact Nat.zero_le _, by first | exact Nat.le_of_ble_eq_true rfl | exact Nat.zero_le _⟩ gX12_findingOf_0.2.2.2.2.2.2.2.2.1 (Kors (Keqa fun a5837 => ?_) (Keqa fun a5837 => ?_))
    · refine lv_if_ne (tgt := 22) hx hb gX12_findingOf_0.2.2.2.2.2.2.2.2.2 (by decide) (fun _ => ?_) (fun c9 => absurd c9 (by decide))
      obtain ⟨jf, hjf, rfl⟩ := Hs_nat (by omega) a5835
      refine lv_iload_n hx hb gX12_findingOf_1.2.2.1 rfl (lv_at2 hl) ?_
      refine lv_iconst (v := 4) hx hb gX12_findingOf_1.2.2.2.1 (by decide) ?_
      refine lv_icmp_ge (tgt := 44) hx hb gX12_findingOf_1.2.2.2.2.1 (by decide) (fun c_24_5838 => ?_) (fun c_24_5838 => ?_)
      · refine lv_iload_n hx hb gX12_findingOf_2.2.2.2.2.2.2.1 rfl (lv_at2 hl) ?_
        refine lv_iconst (v := 4) hx hb gX12_findingOf_2.2.2.2.2.2.2.2.1 (by decide) ?_
        refine lv_icmp_ne (tgt := 65) hx hb gX12_findingOf_2.2.2.2.2.2.2.2.2.1 (by decide) (fun c_46_5839 => ?_) (fun c_46_5839 => ?_)
        · refine lv_iload_n hx hb gX12_findingOf_3.2.2.2.2.2.2.2.1 rfl (lv_at2 hl) ?_
          refine lv_iconst (v := 5) hx hb gX12_findingOf_3.2.2.2.2.2.2.2.2.1 (by decide) ?_
          refine lv_icmp_ne (tgt := 78) hx hb gX12_findingOf_3.2.2.2.2.2.2.2.2.2 (by decide) (fun c_67_5840 => ?_) (fun c_67_5840 => ?_)
          · refine lv_aload_n hx hb gX12_findingOf_4.2.2.2.2.1 rfl (lv_at0 hl) ?_
            refine lv_iload_n hx hb gX12_findingOf_4.2.2.2.2.2.1 rfl (lv_at1 hl) ?_
            refine iV (wr := []) hC hK hl hP hD hS hA (m_isBarred l G h0 jf nw nk mhasKept nt mtaped nr mrowMany mroundOf mroundFrom nm mfromHour mtoHour ns mfrom mto msort misFault mdeep mcoded mlines nl nc nF np ntr nb mbestCost nso nsi nit nsh nsf nss nrc mtraced mdealer mnumber mwhose msize misParted fnw fnm fns fnp (by omega) (hN) (hV) (hM)) si_X12_317 [0, 1, 2, 3, 4] [] sm_0_1_2_3_4 fm_0_1_2_3_4 nd_0_1_2_3_4 rfl rfl (by decide) rfl rfl rfl rfl rfl (Nat.le_of_ble_eq_true rfl) rm_12_11_8 ⟨Nat.le_of_ble_eq_true rfl, Nat.le_of_ble_eq_true rfl⟩ gX12_findingOf_4.2.2.2.2.2.2.1 (fun r5841 => Ktu5 fun fh15843 th15844 gnm5845 gns5846 gnp5847 => ?_)
            intro H locs hr5841 hP hD hS
            try dsimp only at hr5841
            refine Kpdr (ws := [(h0, oX12 nw nk mhasKept nt mtaped nr mrowMany mroundOf mroundFrom 0 nm fh15843 th15844 ns mfrom mto msort misFault mdeep mcoded mlines nl nc nF np ntr nb mbestCost nso nsi nit nsh nsf nss nrc mtraced mdealer mnumber mwhose msize misParted), (nw, iA G 1662 fnw), (nm, iA G 36 gnm5845), (ns, iA G 8 gns5846), (np, iA G 100 gnp5847)]) hP hD (fun hP hD => ?_)
            obtain ⟨hr5841, w5848⟩ := hr5841
            rcases hr5841 with rfl | rfl
            · refine lv_if_eq (tgt := 90) hx hb gX12_findingOf_4.2.2.2.2.2.2.2.1 (by decide) (fun c9 => absurd c9 (by decide)) (fun _ => ?_)
              refine lv_iconst (v := 1) hx hb gX12_findingOf_4.2.2.2.2.2.2.2.2.1 (by decide) ?_
              refine lv_goto (tgt := 91) hx hb gX12_findingOf_4.2.2.2.2.2.2.2.2.2 (by decide) ?_
              refine toQ hQ0 ?_
              exact RI (v := 1) hC hP hD hS [0, 1, 2, 3, 4] (fh15843, th15844, gnm5845, gns5846, gnp5847) rfl rfl (by decide) (⟨trivial, by first | assumption | exact hM⟩) rfl gX12_findingOf_5.2
            · refine lv_if_eq (tgt := 90) hx hb gX12_findingOf_4.2.2.2.2.2.2.2.1 (by decide) (fun _ => ?_) (fun c9 => absurd (by decide) c9)
              refine lv_iconst (v := 0) hx hb gX12_findingOf_5.1 (by decide) ?_
              refine toQ hQ0 ?_
              exact RI (v := 0) hC hP hD hS [0, 1, 2, 3, 4] (fh15843, th15844, gnm5845, gns5846, gnp5847) rfl rfl (by decide) (⟨trivial, by first | assumption | exact hM⟩) rfl gX12_findingOf_5.2
          · refine lv_aload_n hx hb gX12_findingOf_4.1 rfl (lv_at0 hl) ?_
            refine lv_iload_n hx hb gX12_findingOf_4.2.1 rfl (lv_at1 hl) ?_
            refine iV (wr := []) hC hK hl hP hD hS hA (m_leans l G h0 jf nw nk mhasKept nt mtaped nr mrowMany mroundOf mroundFrom nm mfromHour mtoHour ns mfrom mto msort misFault mdeep mcoded mlines nl nc nF np ntr nb mbestCost nso nsi nit nsh nsf nss nrc mtraced mdealer mnumber mwhose msize misParted fnw fnm fns fnp (by omega) (hN) (hV) (hM)) si_X12_311 [0, 1, 2, 3, 4] [] sm_0_1_2_3_4 fm_0_1_2_3_4 nd_0_1_2_3_4 rfl rfl (by decide) rfl rfl rfl rfl rfl (Nat.le_of_ble_eq_true rfl) rm_12_10_5 ⟨Nat.le_of_ble_eq_true rfl, Nat.le_of_ble_eq_true rfl⟩ gX12_findingOf_4.2.2.1 (fun r5850 => Ktu5 fun fh15852 th15853 gnm5854 gns5855 gnp5856 => ?_)
            intro H locs hr5850 hP hD hS
            try dsimp only at hr5850
            refine Kpdr (ws := [(h0, oX12 nw nk mhasKept nt mtaped nr mrowMany mroundOf mroundFrom 0 nm fh15852 th15853 ns mfrom mto msort misFault mdeep mcoded mlines nl nc nF np ntr nb mbestCost nso nsi nit nsh nsf nss nrc mtraced mdealer mnumber mwhose msize misParted), (nw, iA G 1662 fnw), (nm, iA G 36 gnm5854), (ns, iA G 8 gns5855), (np, iA G 100 gnp5856)]) hP hD (fun hP hD => ?_)
            obtain ⟨hr5850, w5857⟩ := hr5850
            refine lv_goto (tgt := 91) hx hb gX12_findingOf_4.2.2.2.1 (by decide) ?_
            refine toQ hQ0 ?_
            exact RI (v := r5850) hC hP hD hS [0, 1, 2, 3, 4] (fh15852, th15853, gnm5854, gns5855, gnp5856) rfl rfl (by decide) (⟨trivial, by first | assumption | exact hM⟩) rfl gX12_findingOf_5.2
        · refine lv_aload_n hx hb gX12_findingOf_2.2.2.2.2.2.2.2.2.2 rfl (lv_at0 hl) ?_
          refine lv_iload_n hx hb gX12_findingOf_3.1 rfl (lv_at1 hl) ?_
          refine iV (wr := []) hC hK hl hP hD hS hA (m_stands l G h0 jf nw nk mhasKept nt mtaped nr mrowMany mroundOf mroundFrom 0 nm mfromHour mtoHour ns mfrom mto msort misFault mdeep mcoded mlines nl nc nF np ntr nb mbestCost nso nsi nit nsh nsf nss nrc mtraced mdealer mnumber mwhose msize misParted fnw fnm fns fnp (by omega) (hN) (hV) (hM)) si_X12_305 [0, 1, 2, 3, 4] [] sm_0_1_2_3_4 fm_0_1_2_3_4 nd_0_1_2_3_4 rfl rfl (by decide) rfl rfl rfl rfl rfl (Nat.le_of_ble_eq_true rfl) rm_12_9_3 ⟨Nat.le_of_ble_eq_true rfl, Nat.le_of_ble_eq_true rfl⟩ gX12_findingOf_3.2.1 (fun r5858 => Ktu5 fun fh15860 th15861 gnm5862 gns5863 gnp5864 => ?_)
          intro H locs hr5858 hP hD hS
          try dsimp only at hr5858
          refine Kpdr (ws := [(h0, oX12 nw nk mhasKept nt mtaped nr mrowMany mroundOf mroundFrom 0 nm fh15860 th15861 ns mfrom mto msort misFault mdeep mcoded mlines nl nc nF np ntr nb mbestCost nso nsi nit nsh nsf nss nrc mtraced mdealer mnumber mwhose msize misParted), (nw, iA G 1662 fnw), (nm, iA G 36 gnm5862), (ns, iA G 8 gns5863), (np, iA G 100 gnp5864)]) hP hD (fun hP hD => ?_)
          obtain ⟨hr5858, w5865⟩ := hr5858
          rcases hr5858 with rfl | rfl
          · refine lv_if_eq (tgt := 61) hx hb gX12_findingOf_3.2.2.1 (by decide) (fun c9 => absurd c9 (by decide)) (fun _ => ?_)
            refine lv_iconst (v := 1) hx hb gX12_findingOf_3.2.2.2.1 (by decide) ?_
            refine lv_goto (tgt := 91) hx hb gX12_findingOf_3.2.2.2.2.1 (by decide) ?_
            refine toQ hQ0 ?_
            exact RI (v := 1) hC hP hD hS [0, 1, 2, 3, 4] (fh15860, th15861, gnm5862, gns5863, gnp5864) rfl rfl (by decide) (⟨trivial, by first | assumption | exact hM⟩) rfl gX12_findingOf_5.2
          · refine lv_if_eq (tgt := 61) hx hb gX12_findingOf_3.2.2.1 (by decide) (fun _ => ?_) (fun c9 => absurd (by decide) c9)
            refine lv_iconst (v := 0) hx hb gX12_findingOf_3.2.2.2.2.2.1 (by decide) ?_
            refine lv_goto (tgt := 91) hx hb gX12_findingOf_3.2.2.2.2.2.2.1 (by decide) ?_
            refine toQ hQ0 ?_
            exact RI (v := 0) hC hP hD hS [0, 1, 2, 3, 4] (fh15860, th15861, gnm5862, gns5863, gnp5864) rfl rfl (by decide) (⟨trivial, by first | assumption | exact hM⟩) rfl gX12_findingOf_5.2
      · obtain ⟨jw, hjw, rfl⟩ := Wi_nat (N := 6) (by decide) a5837
        have hjw4 := nge_nat (R := 4) (k := jw) (by decide) (by omega) c_24_5838
        refine lv_aload_n hx hb gX12_findingOf_1.2.2.2.2.2.1 rfl (lv_at0 hl) ?_
        refine gf_X12_9 hC rfl hK hP 0 rfl rfl gX12_findingOf_1.2.2.2.2.2.2.1 ?_
        refine lv_sipush (v := 1552) hx hb gX12_findingOf_1.2.2.2.2.2.2.2.1 (by decide) ?_
        refine lv_iconst (v := 4) hx hb gX12_findingOf_1.2.2.2.2.2.2.2.2.1 (by decide) ?_
        refine lv_iload_n hx hb gX12_findingOf_1.2.2.2.2.2.2.2.2.2 rfl (lv_at1 hl) ?_
        refine lv_imul hx hb gX12_findingOf_2.1 ?_
        refine eqi (x1 := nI (4 * jf)) (nI_mul 4 jf) ?_
        refine lv_iadd hx hb gX12_findingOf_2.2.1 ?_
        refine eqi (x1 := nI (1552 + 4 * jf)) (nI_add 1552 (4 * jf)) ?_
        refine lv_iload_n hx hb gX12_findingOf_2.2.2.1 rfl (lv_at2 hl) ?_
        refine lv_iadd hx hb gX12_findingOf_2.2.2.2.1 ?_
        refine eqi (x1 := nI (1552 + 4 * jf + jw)) (nI_add (1552 + 4 * jf) jw) ?_
        refine aldN hC hK hP 1 rfl (k := (1552 + 4 * jf + jw)) (by omega) (Nat.le_of_ble_eq_true rfl) (v := fnw (1552 + 4 * jf + jw)) rfl gX12_findingOf_2.2.2.2.2.1 ?_
        refine lv_topi (fun x5867 ex5867 => ?_)
        refine lv_goto (tgt := 91) hx hb gX12_findingOf_2.2.2.2.2.2.1 (by decide) ?_
        refine toQ hQ0 ?_
        exact RI (v := x5867) hC hP hD hS [0, 1, 2, 3, 4] (mfromHour, mtoHour, fnm, fns, fnp) rfl rfl (by decide) (⟨trivial, by first | assumption | exact hM⟩) rfl gX12_findingOf_5.2
    · refine lv_if_ne (tgt := 22) hx hb gX12_findingOf_0.2.2.2.2.2.2.2.2.2 (by decide) (fun c9 => absurd (by decide) c9) (fun _ => ?_)
      refine lv_iconst (v := (-1)) hx hb gX12_findingOf_1.1 (by decide) ?_
      refine toQ hQ0 ?_
      exact RI (v := (-1)) hC hP hD hS [0, 1, 2, 3, 4] (mfromHour, mtoHour, fnm, fns, fnp) rfl rfl (by decide) (⟨trivial, by first | assumption | exact hM⟩) rfl gX12_findingOf_1.2.1
  · refine lv_if_eq (tgt := 20) hx hb gX12_findingOf_0.2.2.2.2.1 (by decide) (fun _ => ?_) (fun c9 => absurd (by decide) c9)
    refine lv_iconst (v := (-1)) hx hb gX12_findingOf_1.1 (by decide) ?_
    refine toQ hQ0 ?_
    exact RI (v := (-1)) hC hP hD hS [0, 1, 2, 3, 4] (mfromHour, mtoHour, fnm, fns, fnp) rfl rfl (by decide) (⟨trivial, by first | assumption | exact hM⟩) rfl gX12_findingOf_1.2.1
