section WR
variable {p : Program} {l : Launch} {e : Env} {R : Room} {s : State} {m : MethodId} {args : Array Value} {below : List Frame} {meth : Method} {c : Code} {H : Heap} {locs : List Loc} {cells slots : Nat} {Q : State → Prop}
variable {pc : Nat} {ls : Array Slot} {rest : List Value} {G : GG} {ws : va_W} {A : Nat → Prop} {y0 : MethodName} {b0 : ByteArray} {mL0 : Nat} {rt0 : Option FieldType} {a : Nat} {H0 : Heap}
theorem dX12_fromLine_0 : decode cX12_fromLine 0 = .ok (.aload_n 0, 1) := by decide +kernel
theorem dX12_fromLine_1 : decode cX12_fromLine 1 = .ok (.iload_n 1, 1) := by decide +kernel
theorem dX12_fromLine_2 : decode cX12_fromLine 2 = .ok (.iload_n 2, 1) := by decide +kernel
theorem dX12_fromLine_3 : decode cX12_fromLine 3 = .ok (.iconst 0, 1) := by decide +kernel
theorem dX12_fromLine_4 : decode cX12_fromLine 4 = .ok (.invokevirtual 193, 3) := by decide +kernel
theorem dX12_fromLine_7 : decode cX12_fromLine 7 = .ok (.istore 4, 2) := by decide +kernel
theorem dX12_fromLine_9 : decode cX12_fromLine 9 = .ok (.iload 4, 2) := by decide +kernel
theorem dX12_fromLine_11 : decode cX12_fromLine 11 = .ok (.ifCond .eq 9, 3) := by decide +kernel
theorem dX12_fromLine_20 : decode cX12_fromLine 20 = .ok (.aload_n 0, 1) := by decide +kernel
theorem dX12_fromLine_21 : decode cX12_fromLine 21 = .ok (.iload_n 1, 1) := by decide +kernel
theorem dX12_fromLine_22 : decode cX12_fromLine 22 = .ok (.iload_n 2, 1) := by decide +kernel
theorem dX12_fromLine_23 : decode cX12_fromLine 23 = .ok (.iload_n 3, 1) := by decide +kernel
theorem dX12_fromLine_24 : decode cX12_fromLine 24 = .ok (.invokevirtual 196, 3) := by decide +kernel
theorem m_725 : Cond.code yX12_holds cX12_holds 12 (some .boolean) ∈ BW := List.mem_of_getElem? (i := 725) (by decide +kernel)
theorem m_722 : Cond.methodLink RX12 196 yX12_holds ∈ BW := List.mem_of_getElem? (i := 722) (by decide +kernel)
theorem m_723 : Cond.instanceMethod yX12_holds ∈ BW := List.mem_of_getElem? (i := 723) (by decide +kernel)
theorem m_724 : Cond.selects RX12 yX12_holds yX12_holds ∈ BW := List.mem_of_getElem? (i := 724) (by decide +kernel)
theorem si_X12_196 : SV RX12 RX12 196 yX12_holds cX12_holds 12 (some .boolean) 3 := ⟨⟨m_722, m_723, m_724, m_5, m_725⟩, rfl, by decide +kernel, by decide +kernel, by decide +kernel⟩
theorem dX12_fromLine_27 : decode cX12_fromLine 27 = .ok (.ifCond .ne 6, 3) := by decide +kernel
theorem dX12_fromLine_33 : decode cX12_fromLine 33 = .ok (.iload 4, 2) := by decide +kernel
theorem dX12_fromLine_35 : decode cX12_fromLine 35 = .ok (.iconst 2, 1) := by decide +kernel
theorem dX12_fromLine_36 : decode cX12_fromLine 36 = .ok (.if_icmp .ne 13, 3) := by decide +kernel
theorem dX12_fromLine_49 : decode cX12_fromLine 49 = .ok (.aload_n 0, 1) := by decide +kernel
theorem dX12_fromLine_50 : decode cX12_fromLine 50 = .ok (.getfield 29, 3) := by decide +kernel
theorem m_193 : Cond.fieldLink RX12 29 "InquiryBenchModel" "should" "[I" ∈ BW := List.mem_of_getElem? (i := 193) (by decide +kernel)
theorem gf_X12_29 (hC : CX p s m meth c y0 b0 mL0 rt0 args) (hy0 : y0.cls = RX12) (hK : KK G s) (hP : va_P G.1 vwCl ws H) (q0 : Nat) {fs : List Value} {v : Value} (he : ws[q0]? = some (a, .inr (12, fs))) (hv : fs[13]? = some v) (hdg : decode b0 pc = .ok (.getfield 29, 3)) (kk : W p l e R s m args below meth c H locs cells slots Q (F0 m (pc + 3) ls (v :: rest))) : W p l e R s m args below meth c H locs cells slots Q (F0 m pc ls (.ref a :: rest)) := by
  obtain ⟨hx, hb, hr, hml, hB, hown, hlocks, hnm⟩ := hC
  rw [hy0] at hown
  exact va_get (ci := 12) (C := RX12) (T := TX12) (N := 41) hx hb hB in_X12 hown hK.1 hP q0 he rfl 13 (by decide) (hB _ m_193) (fun _ h => h) hv hdg kk
theorem dX12_fromLine_53 : decode cX12_fromLine 53 = .ok (.aload_n 0, 1) := by decide +kernel
theorem dX12_fromLine_54 : decode cX12_fromLine 54 = .ok (.iload_n 1, 1) := by decide +kernel
theorem dX12_fromLine_55 : decode cX12_fromLine 55 = .ok (.iload_n 2, 1) := by decide +kernel
theorem dX12_fromLine_56 : decode cX12_fromLine 56 = .ok (.iconst 3, 1) := by decide +kernel
theorem dX12_fromLine_57 : decode cX12_fromLine 57 = .ok (.invokevirtual 193, 3) := by decide +kernel
theorem dX12_fromLine_60 : decode cX12_fromLine 60 = .ok (.iaload, 1) := by decide +kernel
theorem dX12_fromLine_61 : decode cX12_fromLine 61 = .ok (.istore 5, 2) := by decide +kernel
theorem dX12_fromLine_63 : decode cX12_fromLine 63 = .ok (.iload 4, 2) := by decide +kernel
theorem dX12_fromLine_65 : decode cX12_fromLine 65 = .ok (.iconst 2, 1) := by decide +kernel
theorem dX12_fromLine_66 : decode cX12_fromLine 66 = .ok (.if_icmp .eq 10, 3) := by decide +kernel
theorem dX12_fromLine_69 : decode cX12_fromLine 69 = .ok (.iload 5, 2) := by decide +kernel
theorem dX12_fromLine_71 : decode cX12_fromLine 71 = .ok (.ldc 175, 2) := by decide +kernel
theorem dX12_fromLine_73 : decode cX12_fromLine 73 = .ok (.if_icmp .ne 8, 3) := by decide +kernel
theorem dX12_fromLine_81 : decode cX12_fromLine 81 = .ok (.iload 5, 2) := by decide +kernel
theorem dX12_fromLine_83 : decode cX12_fromLine 83 = .ok (.aload_n 0, 1) := by decide +kernel
theorem dX12_fromLine_84 : decode cX12_fromLine 84 = .ok (.iload_n 1, 1) := by decide +kernel
theorem dX12_fromLine_85 : decode cX12_fromLine 85 = .ok (.iload_n 2, 1) := by decide +kernel
theorem dX12_fromLine_86 : decode cX12_fromLine 86 = .ok (.iconst 1, 1) := by decide +kernel
theorem dX12_fromLine_87 : decode cX12_fromLine 87 = .ok (.invokevirtual 193, 3) := by decide +kernel
theorem dX12_fromLine_90 : decode cX12_fromLine 90 = .ok (.iadd, 1) := by decide +kernel
theorem dX12_fromLine_91 : decode cX12_fromLine 91 = .ok (.ireturn, 1) := by decide +kernel
theorem dX12_fromLine_76 : decode cX12_fromLine 76 = .ok (.iload 5, 2) := by decide +kernel
theorem dX12_fromLine_78 : decode cX12_fromLine 78 = .ok (.goto 13, 3) := by decide +kernel
theorem dX12_fromLine_39 : decode cX12_fromLine 39 = .ok (.aload_n 0, 1) := by decide +kernel
theorem dX12_fromLine_40 : decode cX12_fromLine 40 = .ok (.iload_n 1, 1) := by decide +kernel
theorem dX12_fromLine_41 : decode cX12_fromLine 41 = .ok (.iload_n 2, 1) := by decide +kernel
theorem dX12_fromLine_42 : decode cX12_fromLine 42 = .ok (.iconst 2, 1) := by decide +kernel
theorem dX12_fromLine_43 : decode cX12_fromLine 43 = .ok (.invokevirtual 193, 3) := by decide +kernel
theorem dX12_fromLine_46 : decode cX12_fromLine 46 = .ok (.goto 15, 3) := by decide +kernel
theorem dX12_fromLine_30 : decode cX12_fromLine 30 = .ok (.ldc 175, 2) := by decide +kernel
theorem dX12_fromLine_32 : decode cX12_fromLine 32 = .ok (.ireturn, 1) := by decide +kernel
theorem dX12_fromLine_14 : decode cX12_fromLine 14 = .ok (.iload 4, 2) := by decide +kernel
theorem dX12_fromLine_16 : decode cX12_fromLine 16 = .ok (.iconst 2, 1) := by decide +kernel
theorem dX12_fromLine_17 : decode cX12_fromLine 17 = .ok (.if_icmp .ne 13, 3) := by decide +kernel
theorem dX12_findShould_0 : decode cX12_findShould 0 = .ok (.iconst 0, 1) := by decide +kernel
theorem dX12_findShould_1 : decode cX12_findShould 1 = .ok (.istore_n 2, 1) := by decide +kernel
theorem dX12_findShould_2 : decode cX12_findShould 2 = .ok (.iload_n 2, 1) := by decide +kernel
theorem dX12_findShould_3 : decode cX12_findShould 3 = .ok (.bipush 8, 2) := by decide +kernel
theorem dX12_findShould_5 : decode cX12_findShould 5 = .ok (.if_icmp .ge 22, 3) := by decide +kernel
theorem dX12_findShould_27 : decode cX12_findShould 27 = .ok (.aload_n 0, 1) := by decide +kernel
theorem dX12_findShould_28 : decode cX12_findShould 28 = .ok (.invokevirtual 180, 3) := by decide +kernel
theorem m_709 : Cond.code yX12_rules cX12_rules 3 (some .int) ∈ BW := List.mem_of_getElem? (i := 709) (by decide +kernel)
theorem m_706 : Cond.methodLink RX12 180 yX12_rules ∈ BW := List.mem_of_getElem? (i := 706) (by decide +kernel)
theorem m_707 : Cond.instanceMethod yX12_rules ∈ BW := List.mem_of_getElem? (i := 707) (by decide +kernel)
theorem m_708 : Cond.selects RX12 yX12_rules yX12_rules ∈ BW := List.mem_of_getElem? (i := 708) (by decide +kernel)
theorem si_X12_180 : SV RX12 RX12 180 yX12_rules cX12_rules 3 (some .int) 0 := ⟨⟨m_706, m_707, m_708, m_5, m_709⟩, rfl, by decide +kernel, by decide +kernel, by decide +kernel⟩
theorem dX12_findShould_31 : decode cX12_findShould 31 = .ok (.istore_n 2, 1) := by decide +kernel
theorem dX12_findShould_32 : decode cX12_findShould 32 = .ok (.iload_n 2, 1) := by decide +kernel
theorem dX12_findShould_33 : decode cX12_findShould 33 = .ok (.ifCond .lt 7, 3) := by decide +kernel
theorem dX12_findShould_40 : decode cX12_findShould 40 = .ok (.iconst 0, 1) := by decide +kernel
theorem dX12_findShould_41 : decode cX12_findShould 41 = .ok (.istore_n 3, 1) := by decide +kernel
theorem dX12_findShould_42 : decode cX12_findShould 42 = .ok (.iload_n 3, 1) := by decide +kernel
theorem dX12_findShould_43 : decode cX12_findShould 43 = .ok (.ifCond .eq 69, 3) := by decide +kernel
theorem dX12_findShould_112 : decode cX12_findShould 112 = .ok (.return_, 1) := by decide +kernel
theorem dX12_findShould_36 : decode cX12_findShould 36 = .ok (.iconst 1, 1) := by decide +kernel
theorem dX12_findShould_37 : decode cX12_findShould 37 = .ok (.goto 4, 3) := by decide +kernel
theorem dX12_findShould_46 : decode cX12_findShould 46 = .ok (.iconst 0, 1) := by decide +kernel
theorem dX12_findShould_47 : decode cX12_findShould 47 = .ok (.istore_n 3, 1) := by decide +kernel
theorem dX12_findShould_48 : decode cX12_findShould 48 = .ok (.iconst 0, 1) := by decide +kernel
theorem dX12_findShould_49 : decode cX12_findShould 49 = .ok (.istore 4, 2) := by decide +kernel
theorem dX12_findShould_51 : decode cX12_findShould 51 = .ok (.iload 4, 2) := by decide +kernel
theorem dX12_findShould_53 : decode cX12_findShould 53 = .ok (.aload_n 0, 1) := by decide +kernel
theorem dX12_findShould_54 : decode cX12_findShould 54 = .ok (.iload_n 2, 1) := by decide +kernel
theorem dX12_findShould_55 : decode cX12_findShould 55 = .ok (.invokevirtual 183, 3) := by decide +kernel
theorem m_713 : Cond.code yX12_linesOf cX12_linesOf 2 (some .int) ∈ BW := List.mem_of_getElem? (i := 713) (by decide +kernel)
theorem m_710 : Cond.methodLink RX12 183 yX12_linesOf ∈ BW := List.mem_of_getElem? (i := 710) (by decide +kernel)
theorem m_711 : Cond.instanceMethod yX12_linesOf ∈ BW := List.mem_of_getElem? (i := 711) (by decide +kernel)
theorem m_712 : Cond.selects RX12 yX12_linesOf yX12_linesOf ∈ BW := List.mem_of_getElem? (i := 712) (by decide +kernel)
theorem si_X12_183 : SV RX12 RX12 183 yX12_linesOf cX12_linesOf 2 (some .int) 1 := ⟨⟨m_710, m_711, m_712, m_5, m_713⟩, rfl, by decide +kernel, by decide +kernel, by decide +kernel⟩
theorem dX12_findShould_58 : decode cX12_findShould 58 = .ok (.if_icmp .ge 51, 3) := by decide +kernel
theorem dX12_findShould_109 : decode cX12_findShould 109 = .ok (.goto (-67), 3) := by decide +kernel
theorem dX12_findShould_61 : decode cX12_findShould 61 = .ok (.aload_n 0, 1) := by decide +kernel
theorem dX12_findShould_62 : decode cX12_findShould 62 = .ok (.iload_n 2, 1) := by decide +kernel
theorem dX12_findShould_63 : decode cX12_findShould 63 = .ok (.iload 4, 2) := by decide +kernel
theorem dX12_findShould_65 : decode cX12_findShould 65 = .ok (.iload_n 1, 1) := by decide +kernel
theorem dX12_findShould_66 : decode cX12_findShould 66 = .ok (.invokevirtual 186, 3) := by decide +kernel
theorem m_717 : Cond.code yX12_fromLine cX12_fromLine 6 (some .int) ∈ BW := List.mem_of_getElem? (i := 717) (by decide +kernel)
theorem m_714 : Cond.methodLink RX12 186 yX12_fromLine ∈ BW := List.mem_of_getElem? (i := 714) (by decide +kernel)
theorem m_715 : Cond.instanceMethod yX12_fromLine ∈ BW := List.mem_of_getElem? (i := 715) (by decide +kernel)
theorem m_716 : Cond.selects RX12 yX12_fromLine yX12_fromLine ∈ BW := List.mem_of_getElem? (i := 716) (by decide +kernel)
theorem si_X12_186 : SV RX12 RX12 186 yX12_fromLine cX12_fromLine 6 (some .int) 3 := ⟨⟨m_714, m_715, m_716, m_5, m_717⟩, rfl, by decide +kernel, by decide +kernel, by decide +kernel⟩
theorem dX12_findShould_69 : decode cX12_findShould 69 = .ok (.istore 5, 2) := by decide +kernel
theorem dX12_findShould_71 : decode cX12_findShould 71 = .ok (.aload_n 0, 1) := by decide +kernel
theorem dX12_findShould_72 : decode cX12_findShould 72 = .ok (.iload_n 2, 1) := by decide +kernel
theorem dX12_findShould_73 : decode cX12_findShould 73 = .ok (.iload 4, 2) := by decide +kernel
theorem dX12_findShould_75 : decode cX12_findShould 75 = .ok (.invokevirtual 190, 3) := by decide +kernel
theorem m_733 : Cond.code yX12_thingOf cX12_thingOf 4 (some .int) ∈ BW := List.mem_of_getElem? (i := 733) (by decide +kernel)
theorem m_730 : Cond.methodLink RX12 190 yX12_thingOf ∈ BW := List.mem_of_getElem? (i := 730) (by decide +kernel)
theorem m_731 : Cond.instanceMethod yX12_thingOf ∈ BW := List.mem_of_getElem? (i := 731) (by decide +kernel)
theorem m_732 : Cond.selects RX12 yX12_thingOf yX12_thingOf ∈ BW := List.mem_of_getElem? (i := 732) (by decide +kernel)
theorem si_X12_190 : SV RX12 RX12 190 yX12_thingOf cX12_thingOf 4 (some .int) 2 := ⟨⟨m_730, m_731, m_732, m_5, m_733⟩, rfl, by decide +kernel, by decide +kernel, by decide +kernel⟩
theorem dX12_findShould_78 : decode cX12_findShould 78 = .ok (.istore 6, 2) := by decide +kernel
theorem dX12_findShould_80 : decode cX12_findShould 80 = .ok (.iload 5, 2) := by decide +kernel
theorem dX12_findShould_82 : decode cX12_findShould 82 = .ok (.aload_n 0, 1) := by decide +kernel
theorem dX12_findShould_83 : decode cX12_findShould 83 = .ok (.getfield 29, 3) := by decide +kernel
theorem dX12_findShould_86 : decode cX12_findShould 86 = .ok (.iload 6, 2) := by decide +kernel
theorem dX12_findShould_88 : decode cX12_findShould 88 = .ok (.iaload, 1) := by decide +kernel
theorem dX12_findShould_89 : decode cX12_findShould 89 = .ok (.if_icmp .ge 14, 3) := by decide +kernel
theorem dX12_findShould_103 : decode cX12_findShould 103 = .ok (.iinc 4 1, 3) := by decide +kernel
theorem dX12_findShould_106 : decode cX12_findShould 106 = .ok (.goto (-55), 3) := by decide +kernel
theorem dX12_findShould_92 : decode cX12_findShould 92 = .ok (.aload_n 0, 1) := by decide +kernel
theorem dX12_findShould_93 : decode cX12_findShould 93 = .ok (.getfield 29, 3) := by decide +kernel
theorem dX12_findShould_96 : decode cX12_findShould 96 = .ok (.iload 6, 2) := by decide +kernel
theorem dX12_findShould_98 : decode cX12_findShould 98 = .ok (.iload 5, 2) := by decide +kernel
theorem dX12_findShould_100 : decode cX12_findShould 100 = .ok (.iastore, 1) := by decide +kernel
theorem dX12_findShould_101 : decode cX12_findShould 101 = .ok (.iconst 1, 1) := by decide +kernel
theorem dX12_findShould_102 : decode cX12_findShould 102 = .ok (.istore_n 3, 1) := by decide +kernel
theorem dX12_findShould_8 : decode cX12_findShould 8 = .ok (.aload_n 0, 1) := by decide +kernel
theorem dX12_findShould_9 : decode cX12_findShould 9 = .ok (.getfield 29, 3) := by decide +kernel
theorem dX12_findShould_12 : decode cX12_findShould 12 = .ok (.iload_n 2, 1) := by decide +kernel
theorem dX12_findShould_13 : decode cX12_findShould 13 = .ok (.aload_n 0, 1) := by decide +kernel
theorem dX12_findShould_14 : decode cX12_findShould 14 = .ok (.iload_n 1, 1) := by decide +kernel
theorem dX12_findShould_15 : decode cX12_findShould 15 = .ok (.iload_n 2, 1) := by decide +kernel
theorem dX12_findShould_16 : decode cX12_findShould 16 = .ok (.iconst 1, 1) := by decide +kernel
theorem dX12_findShould_17 : decode cX12_findShould 17 = .ok (.invokevirtual 176, 3) := by decide +kernel
theorem m_701 : Cond.code yX12_knewBy cX12_knewBy 7 (some .int) ∈ BW := List.mem_of_getElem? (i := 701) (by decide +kernel)
theorem m_698 : Cond.methodLink RX12 176 yX12_knewBy ∈ BW := List.mem_of_getElem? (i := 698) (by decide +kernel)
theorem m_699 : Cond.instanceMethod yX12_knewBy ∈ BW := List.mem_of_getElem? (i := 699) (by decide +kernel)
theorem m_700 : Cond.selects RX12 yX12_knewBy yX12_knewBy ∈ BW := List.mem_of_getElem? (i := 700) (by decide +kernel)
theorem si_X12_176 : SV RX12 RX12 176 yX12_knewBy cX12_knewBy 7 (some .int) 3 := ⟨⟨m_698, m_699, m_700, m_5, m_701⟩, rfl, by decide +kernel, by decide +kernel, by decide +kernel⟩
theorem dX12_findShould_20 : decode cX12_findShould 20 = .ok (.iastore, 1) := by decide +kernel
theorem dX12_findShould_21 : decode cX12_findShould 21 = .ok (.iinc 2 1, 3) := by decide +kernel
theorem dX12_findShould_24 : decode cX12_findShould 24 = .ok (.goto (-22), 3) := by decide +kernel
theorem dX12_fromOf_0 : decode cX12_fromOf 0 = .ok (.iload_n 3, 1) := by decide +kernel
theorem dX12_fromOf_1 : decode cX12_fromOf 1 = .ok (.iconst 2, 1) := by decide +kernel
theorem dX12_fromOf_2 : decode cX12_fromOf 2 = .ok (.if_icmp .ge 19, 3) := by decide +kernel
theorem dX12_fromOf_21 : decode cX12_fromOf 21 = .ok (.aload_n 0, 1) := by decide +kernel
theorem dX12_fromOf_22 : decode cX12_fromOf 22 = .ok (.iload_n 1, 1) := by decide +kernel
theorem dX12_fromOf_23 : decode cX12_fromOf 23 = .ok (.invokevirtual 199, 3) := by decide +kernel
theorem m_705 : Cond.code yX12_findShould cX12_findShould 7 none ∈ BW := List.mem_of_getElem? (i := 705) (by decide +kernel)
theorem m_702 : Cond.methodLink RX12 199 yX12_findShould ∈ BW := List.mem_of_getElem? (i := 702) (by decide +kernel)
theorem m_703 : Cond.instanceMethod yX12_findShould ∈ BW := List.mem_of_getElem? (i := 703) (by decide +kernel)
theorem m_704 : Cond.selects RX12 yX12_findShould yX12_findShould ∈ BW := List.mem_of_getElem? (i := 704) (by decide +kernel)
theorem si_X12_199 : SV RX12 RX12 199 yX12_findShould cX12_findShould 7 none 1 := ⟨⟨m_702, m_703, m_704, m_5, m_705⟩, rfl, by decide +kernel, by decide +kernel, by decide +kernel⟩
theorem dX12_fromOf_26 : decode cX12_fromOf 26 = .ok (.aload_n 0, 1) := by decide +kernel
theorem dX12_fromOf_27 : decode cX12_fromOf 27 = .ok (.getfield 29, 3) := by decide +kernel
theorem dX12_fromOf_30 : decode cX12_fromOf 30 = .ok (.iload_n 2, 1) := by decide +kernel
theorem dX12_fromOf_31 : decode cX12_fromOf 31 = .ok (.iaload, 1) := by decide +kernel
theorem dX12_fromOf_32 : decode cX12_fromOf 32 = .ok (.ireturn, 1) := by decide +kernel
theorem dX12_fromOf_5 : decode cX12_fromOf 5 = .ok (.aload_n 0, 1) := by decide +kernel
theorem dX12_fromOf_6 : decode cX12_fromOf 6 = .ok (.iload_n 1, 1) := by decide +kernel
theorem dX12_fromOf_7 : decode cX12_fromOf 7 = .ok (.iload_n 2, 1) := by decide +kernel
theorem dX12_fromOf_8 : decode cX12_fromOf 8 = .ok (.iload_n 3, 1) := by decide +kernel
theorem dX12_fromOf_9 : decode cX12_fromOf 9 = .ok (.ifCond .ne 7, 3) := by decide +kernel
theorem dX12_fromOf_16 : decode cX12_fromOf 16 = .ok (.iconst 0, 1) := by decide +kernel
theorem dX12_fromOf_17 : decode cX12_fromOf 17 = .ok (.invokevirtual 176, 3) := by decide +kernel
theorem dX12_fromOf_20 : decode cX12_fromOf 20 = .ok (.ireturn, 1) := by decide +kernel
theorem dX12_fromOf_12 : decode cX12_fromOf 12 = .ok (.iconst 1, 1) := by decide +kernel
theorem dX12_fromOf_13 : decode cX12_fromOf 13 = .ok (.goto 4, 3) := by decide +kernel
theorem dX12_knew_0 : decode cX12_knew 0 = .ok (.aload_n 0, 1) := by decide +kernel
theorem dX12_knew_1 : decode cX12_knew 1 = .ok (.iload_n 1, 1) := by decide +kernel
theorem dX12_knew_2 : decode cX12_knew 2 = .ok (.iconst 4, 1) := by decide +kernel
theorem dX12_knew_3 : decode cX12_knew 3 = .ok (.invokevirtual 120, 3) := by decide +kernel
theorem dX12_knew_6 : decode cX12_knew 6 = .ok (.ifCond .eq 22, 3) := by decide +kernel
theorem dX12_knew_9 : decode cX12_knew 9 = .ok (.iload_n 2, 1) := by decide +kernel
theorem dX12_knew_10 : decode cX12_knew 10 = .ok (.iconst 0, 1) := by decide +kernel
theorem dX12_knew_11 : decode cX12_knew 11 = .ok (.bipush 7, 2) := by decide +kernel
theorem dX12_knew_13 : decode cX12_knew 13 = .ok (.invokestatic 84, 3) := by decide +kernel
theorem dX12_knew_16 : decode cX12_knew 16 = .ok (.ifCond .eq 12, 3) := by decide +kernel
theorem dX12_knew_19 : decode cX12_knew 19 = .ok (.iload_n 3, 1) := by decide +kernel
theorem dX12_knew_20 : decode cX12_knew 20 = .ok (.iconst 0, 1) := by decide +kernel
theorem dX12_knew_21 : decode cX12_knew 21 = .ok (.iconst 2, 1) := by decide +kernel
theorem dX12_knew_22 : decode cX12_knew 22 = .ok (.invokestatic 84, 3) := by decide +kernel
theorem dX12_knew_25 : decode cX12_knew 25 = .ok (.ifCond .ne 5, 3) := by decide +kernel
theorem dX12_knew_30 : decode cX12_knew 30 = .ok (.aload_n 0, 1) := by decide +kernel
theorem dX12_knew_31 : decode cX12_knew 31 = .ok (.iload_n 1, 1) := by decide +kernel
theorem dX12_knew_32 : decode cX12_knew 32 = .ok (.iload_n 2, 1) := by decide +kernel
theorem dX12_knew_33 : decode cX12_knew 33 = .ok (.iload_n 3, 1) := by decide +kernel
theorem dX12_knew_34 : decode cX12_knew 34 = .ok (.invokevirtual 203, 3) := by decide +kernel
theorem m_697 : Cond.code yX12_fromOf cX12_fromOf 4 (some .int) ∈ BW := List.mem_of_getElem? (i := 697) (by decide +kernel)
theorem m_694 : Cond.methodLink RX12 203 yX12_fromOf ∈ BW := List.mem_of_getElem? (i := 694) (by decide +kernel)
theorem m_695 : Cond.instanceMethod yX12_fromOf ∈ BW := List.mem_of_getElem? (i := 695) (by decide +kernel)
theorem m_696 : Cond.selects RX12 yX12_fromOf yX12_fromOf ∈ BW := List.mem_of_getElem? (i := 696) (by decide +kernel)
theorem si_X12_203 : SV RX12 RX12 203 yX12_fromOf cX12_fromOf 4 (some .int) 3 := ⟨⟨m_694, m_695, m_696, m_5, m_697⟩, rfl, by decide +kernel, by decide +kernel, by decide +kernel⟩
theorem dX12_knew_37 : decode cX12_knew 37 = .ok (.istore 4, 2) := by decide +kernel
theorem dX12_knew_39 : decode cX12_knew 39 = .ok (.iload 4, 2) := by decide +kernel
theorem dX12_knew_41 : decode cX12_knew 41 = .ok (.ldc 175, 2) := by decide +kernel
theorem dX12_knew_43 : decode cX12_knew 43 = .ok (.if_icmp .ne 8, 3) := by decide +kernel
theorem dX12_knew_51 : decode cX12_knew 51 = .ok (.sipush 1000, 3) := by decide +kernel
theorem dX12_knew_54 : decode cX12_knew 54 = .ok (.iload 4, 2) := by decide +kernel
theorem dX12_knew_56 : decode cX12_knew 56 = .ok (.iadd, 1) := by decide +kernel
theorem dX12_knew_57 : decode cX12_knew 57 = .ok (.ireturn, 1) := by decide +kernel
theorem dX12_knew_46 : decode cX12_knew 46 = .ok (.bipush (-3), 2) := by decide +kernel
theorem dX12_knew_48 : decode cX12_knew 48 = .ok (.goto 9, 3) := by decide +kernel
theorem dX12_knew_28 : decode cX12_knew 28 = .ok (.iconst (-1), 1) := by decide +kernel
theorem dX12_knew_29 : decode cX12_knew 29 = .ok (.ireturn, 1) := by decide +kernel
theorem dX12_why_0 : decode cX12_why 0 = .ok (.aload_n 0, 1) := by decide +kernel
theorem dX12_why_1 : decode cX12_why 1 = .ok (.iload_n 1, 1) := by decide +kernel
theorem dX12_why_2 : decode cX12_why 2 = .ok (.iconst 4, 1) := by decide +kernel
theorem dX12_why_3 : decode cX12_why 3 = .ok (.invokevirtual 120, 3) := by decide +kernel
theorem dX12_why_6 : decode cX12_why 6 = .ok (.ifCond .eq 13, 3) := by decide +kernel
theorem dX12_why_9 : decode cX12_why 9 = .ok (.iload_n 2, 1) := by decide +kernel
theorem dX12_why_10 : decode cX12_why 10 = .ok (.iconst 0, 1) := by decide +kernel
theorem dX12_why_11 : decode cX12_why 11 = .ok (.bipush 7, 2) := by decide +kernel
theorem dX12_why_13 : decode cX12_why 13 = .ok (.invokestatic 84, 3) := by decide +kernel
theorem dX12_why_16 : decode cX12_why 16 = .ok (.ifCond .ne 5, 3) := by decide +kernel
theorem dX12_why_21 : decode cX12_why 21 = .ok (.aload_n 0, 1) := by decide +kernel
theorem dX12_why_22 : decode cX12_why 22 = .ok (.iload_n 1, 1) := by decide +kernel
theorem dX12_why_23 : decode cX12_why 23 = .ok (.invokevirtual 199, 3) := by decide +kernel
theorem dX12_why_26 : decode cX12_why 26 = .ok (.aload_n 0, 1) := by decide +kernel
theorem dX12_why_27 : decode cX12_why 27 = .ok (.invokevirtual 180, 3) := by decide +kernel
theorem dX12_why_30 : decode cX12_why 30 = .ok (.istore_n 3, 1) := by decide +kernel
theorem dX12_why_31 : decode cX12_why 31 = .ok (.aload_n 0, 1) := by decide +kernel
theorem dX12_why_32 : decode cX12_why 32 = .ok (.getfield 29, 3) := by decide +kernel
theorem dX12_why_35 : decode cX12_why 35 = .ok (.iload_n 2, 1) := by decide +kernel
theorem dX12_why_36 : decode cX12_why 36 = .ok (.iaload, 1) := by decide +kernel
theorem dX12_why_37 : decode cX12_why 37 = .ok (.ldc 175, 2) := by decide +kernel
theorem dX12_why_39 : decode cX12_why 39 = .ok (.if_icmp .eq 19, 3) := by decide +kernel
theorem dX12_why_58 : decode cX12_why 58 = .ok (.bipush (-3), 2) := by decide +kernel
theorem dX12_why_60 : decode cX12_why 60 = .ok (.ireturn, 1) := by decide +kernel
theorem dX12_why_42 : decode cX12_why 42 = .ok (.aload_n 0, 1) := by decide +kernel
theorem dX12_why_43 : decode cX12_why 43 = .ok (.getfield 29, 3) := by decide +kernel
theorem dX12_why_46 : decode cX12_why 46 = .ok (.iload_n 2, 1) := by decide +kernel
theorem dX12_why_47 : decode cX12_why 47 = .ok (.iaload, 1) := by decide +kernel
theorem dX12_why_48 : decode cX12_why 48 = .ok (.aload_n 0, 1) := by decide +kernel
theorem dX12_why_49 : decode cX12_why 49 = .ok (.iload_n 1, 1) := by decide +kernel
theorem dX12_why_50 : decode cX12_why 50 = .ok (.iload_n 2, 1) := by decide +kernel
theorem dX12_why_51 : decode cX12_why 51 = .ok (.iconst 1, 1) := by decide +kernel
theorem dX12_why_52 : decode cX12_why 52 = .ok (.invokevirtual 176, 3) := by decide +kernel
theorem dX12_why_55 : decode cX12_why 55 = .ok (.if_icmp .ne 6, 3) := by decide +kernel
theorem dX12_why_61 : decode cX12_why 61 = .ok (.iconst 0, 1) := by decide +kernel
theorem dX12_why_62 : decode cX12_why 62 = .ok (.istore 4, 2) := by decide +kernel
theorem dX12_why_64 : decode cX12_why 64 = .ok (.iload 4, 2) := by decide +kernel
theorem dX12_why_66 : decode cX12_why 66 = .ok (.aload_n 0, 1) := by decide +kernel
theorem dX12_why_67 : decode cX12_why 67 = .ok (.iload_n 3, 1) := by decide +kernel
theorem dX12_why_68 : decode cX12_why 68 = .ok (.invokevirtual 183, 3) := by decide +kernel
theorem dX12_why_71 : decode cX12_why 71 = .ok (.if_icmp .ge 40, 3) := by decide +kernel
theorem dX12_why_111 : decode cX12_why 111 = .ok (.bipush (-3), 2) := by decide +kernel
theorem dX12_why_113 : decode cX12_why 113 = .ok (.ireturn, 1) := by decide +kernel
theorem dX12_why_74 : decode cX12_why 74 = .ok (.aload_n 0, 1) := by decide +kernel
theorem dX12_why_75 : decode cX12_why 75 = .ok (.iload_n 3, 1) := by decide +kernel
theorem dX12_why_76 : decode cX12_why 76 = .ok (.iload 4, 2) := by decide +kernel
theorem dX12_why_78 : decode cX12_why 78 = .ok (.invokevirtual 190, 3) := by decide +kernel
theorem dX12_why_81 : decode cX12_why 81 = .ok (.iload_n 2, 1) := by decide +kernel
theorem dX12_why_82 : decode cX12_why 82 = .ok (.if_icmp .ne 23, 3) := by decide +kernel
theorem dX12_why_105 : decode cX12_why 105 = .ok (.iinc 4 1, 3) := by decide +kernel
theorem dX12_why_108 : decode cX12_why 108 = .ok (.goto (-44), 3) := by decide +kernel
theorem dX12_why_85 : decode cX12_why 85 = .ok (.aload_n 0, 1) := by decide +kernel
theorem dX12_why_86 : decode cX12_why 86 = .ok (.iload_n 3, 1) := by decide +kernel
theorem dX12_why_87 : decode cX12_why 87 = .ok (.iload 4, 2) := by decide +kernel
theorem dX12_why_89 : decode cX12_why 89 = .ok (.iload_n 1, 1) := by decide +kernel
theorem dX12_why_90 : decode cX12_why 90 = .ok (.invokevirtual 186, 3) := by decide +kernel
theorem dX12_why_93 : decode cX12_why 93 = .ok (.aload_n 0, 1) := by decide +kernel
theorem dX12_why_94 : decode cX12_why 94 = .ok (.getfield 29, 3) := by decide +kernel
theorem dX12_why_97 : decode cX12_why 97 = .ok (.iload_n 2, 1) := by decide +kernel
theorem dX12_why_98 : decode cX12_why 98 = .ok (.iaload, 1) := by decide +kernel
theorem dX12_why_99 : decode cX12_why 99 = .ok (.if_icmp .ne 6, 3) := by decide +kernel
theorem dX12_why_102 : decode cX12_why 102 = .ok (.iload 4, 2) := by decide +kernel
theorem dX12_why_104 : decode cX12_why 104 = .ok (.ireturn, 1) := by decide +kernel
theorem dX12_why_19 : decode cX12_why 19 = .ok (.iconst (-1), 1) := by decide +kernel
theorem dX12_why_20 : decode cX12_why 20 = .ok (.ireturn, 1) := by decide +kernel
theorem dX12_stands_0 : decode cX12_stands 0 = .ok (.sipush 1552, 3) := by decide +kernel
theorem dX12_stands_3 : decode cX12_stands 3 = .ok (.iconst 4, 1) := by decide +kernel
theorem dX12_stands_4 : decode cX12_stands 4 = .ok (.iload_n 1, 1) := by decide +kernel
theorem dX12_stands_5 : decode cX12_stands 5 = .ok (.imul, 1) := by decide +kernel
theorem dX12_stands_6 : decode cX12_stands 6 = .ok (.iadd, 1) := by decide +kernel
theorem dX12_stands_7 : decode cX12_stands 7 = .ok (.istore_n 2, 1) := by decide +kernel
theorem dX12_stands_8 : decode cX12_stands 8 = .ok (.aload_n 0, 1) := by decide +kernel
theorem dX12_stands_9 : decode cX12_stands 9 = .ok (.getfield 9, 3) := by decide +kernel
theorem dX12_stands_12 : decode cX12_stands 12 = .ok (.iload_n 2, 1) := by decide +kernel
theorem dX12_stands_13 : decode cX12_stands 13 = .ok (.iconst 2, 1) := by decide +kernel
theorem dX12_stands_14 : decode cX12_stands 14 = .ok (.iadd, 1) := by decide +kernel
theorem dX12_stands_15 : decode cX12_stands 15 = .ok (.iaload, 1) := by decide +kernel
theorem dX12_stands_16 : decode cX12_stands 16 = .ok (.aload_n 0, 1) := by decide +kernel
theorem dX12_stands_17 : decode cX12_stands 17 = .ok (.aload_n 0, 1) := by decide +kernel
theorem dX12_stands_18 : decode cX12_stands 18 = .ok (.getfield 9, 3) := by decide +kernel
theorem dX12_stands_21 : decode cX12_stands 21 = .ok (.iload_n 2, 1) := by decide +kernel
theorem dX12_stands_22 : decode cX12_stands 22 = .ok (.iconst 0, 1) := by decide +kernel
theorem dX12_stands_23 : decode cX12_stands 23 = .ok (.iadd, 1) := by decide +kernel
theorem dX12_stands_24 : decode cX12_stands 24 = .ok (.iaload, 1) := by decide +kernel
theorem dX12_stands_25 : decode cX12_stands 25 = .ok (.aload_n 0, 1) := by decide +kernel
theorem dX12_stands_26 : decode cX12_stands 26 = .ok (.getfield 9, 3) := by decide +kernel
theorem dX12_stands_29 : decode cX12_stands 29 = .ok (.iload_n 2, 1) := by decide +kernel
theorem dX12_stands_30 : decode cX12_stands 30 = .ok (.iconst 1, 1) := by decide +kernel
theorem dX12_stands_31 : decode cX12_stands 31 = .ok (.iadd, 1) := by decide +kernel
theorem dX12_stands_32 : decode cX12_stands 32 = .ok (.iaload, 1) := by decide +kernel
theorem dX12_stands_33 : decode cX12_stands 33 = .ok (.aload_n 0, 1) := by decide +kernel
theorem dX12_stands_34 : decode cX12_stands 34 = .ok (.getfield 9, 3) := by decide +kernel
theorem dX12_stands_37 : decode cX12_stands 37 = .ok (.iload_n 2, 1) := by decide +kernel
theorem dX12_stands_38 : decode cX12_stands 38 = .ok (.iconst 3, 1) := by decide +kernel
theorem dX12_stands_39 : decode cX12_stands 39 = .ok (.iadd, 1) := by decide +kernel
theorem dX12_stands_40 : decode cX12_stands 40 = .ok (.iaload, 1) := by decide +kernel
theorem dX12_stands_41 : decode cX12_stands 41 = .ok (.invokevirtual 203, 3) := by decide +kernel
theorem dX12_stands_44 : decode cX12_stands 44 = .ok (.if_icmp .lt 7, 3) := by decide +kernel
theorem dX12_stands_51 : decode cX12_stands 51 = .ok (.iconst 0, 1) := by decide +kernel
theorem dX12_stands_52 : decode cX12_stands 52 = .ok (.ireturn, 1) := by decide +kernel
theorem dX12_stands_47 : decode cX12_stands 47 = .ok (.iconst 1, 1) := by decide +kernel
theorem dX12_stands_48 : decode cX12_stands 48 = .ok (.goto 4, 3) := by decide +kernel
theorem dX12_leans_0 : decode cX12_leans 0 = .ok (.aload_n 0, 1) := by decide +kernel
theorem dX12_leans_1 : decode cX12_leans 1 = .ok (.iload_n 1, 1) := by decide +kernel
theorem dX12_leans_2 : decode cX12_leans 2 = .ok (.invokevirtual 305, 3) := by decide +kernel
theorem m_1090 : Cond.code yX12_stands cX12_stands 3 (some .boolean) ∈ BW := List.mem_of_getElem? (i := 1090) (by decide +kernel)
theorem m_1087 : Cond.methodLink RX12 305 yX12_stands ∈ BW := List.mem_of_getElem? (i := 1087) (by decide +kernel)
theorem m_1088 : Cond.instanceMethod yX12_stands ∈ BW := List.mem_of_getElem? (i := 1088) (by decide +kernel)
theorem m_1089 : Cond.selects RX12 yX12_stands yX12_stands ∈ BW := List.mem_of_getElem? (i := 1089) (by decide +kernel)
theorem si_X12_305 : SV RX12 RX12 305 yX12_stands cX12_stands 3 (some .boolean) 1 := ⟨⟨m_1087, m_1088, m_1089, m_5, m_1090⟩, rfl, by decide +kernel, by decide +kernel, by decide +kernel⟩
theorem dX12_leans_5 : decode cX12_leans 5 = .ok (.ifCond .eq 10, 3) := by decide +kernel
theorem dX12_leans_8 : decode cX12_leans 8 = .ok (.aload_n 0, 1) := by decide +kernel
theorem dX12_leans_9 : decode cX12_leans 9 = .ok (.invokevirtual 107, 3) := by decide +kernel
theorem m_256 : Cond.code yX12_inView cX12_inView 3 (some .int) ∈ BW := List.mem_of_getElem? (i := 256) (by decide +kernel)
theorem m_253 : Cond.methodLink RX12 107 yX12_inView ∈ BW := List.mem_of_getElem? (i := 253) (by decide +kernel)
theorem m_254 : Cond.instanceMethod yX12_inView ∈ BW := List.mem_of_getElem? (i := 254) (by decide +kernel)
theorem m_255 : Cond.selects RX12 yX12_inView yX12_inView ∈ BW := List.mem_of_getElem? (i := 255) (by decide +kernel)
theorem si_X12_107 : SV RX12 RX12 107 yX12_inView cX12_inView 3 (some .int) 0 := ⟨⟨m_253, m_254, m_255, m_5, m_256⟩, rfl, by decide +kernel, by decide +kernel, by decide +kernel⟩
theorem dX12_leans_12 : decode cX12_leans 12 = .ok (.goto 4, 3) := by decide +kernel
theorem dX12_leans_16 : decode cX12_leans 16 = .ok (.istore_n 2, 1) := by decide +kernel
theorem dX12_leans_17 : decode cX12_leans 17 = .ok (.iconst 0, 1) := by decide +kernel
theorem dX12_leans_18 : decode cX12_leans 18 = .ok (.istore_n 3, 1) := by decide +kernel
theorem dX12_leans_19 : decode cX12_leans 19 = .ok (.iconst 0, 1) := by decide +kernel
theorem dX12_leans_20 : decode cX12_leans 20 = .ok (.istore 4, 2) := by decide +kernel
theorem dX12_leans_22 : decode cX12_leans 22 = .ok (.iload 4, 2) := by decide +kernel
theorem dX12_leans_24 : decode cX12_leans 24 = .ok (.aload_n 0, 1) := by decide +kernel
theorem dX12_leans_25 : decode cX12_leans 25 = .ok (.getfield 9, 3) := by decide +kernel
theorem dX12_leans_28 : decode cX12_leans 28 = .ok (.iconst 5, 1) := by decide +kernel
theorem dX12_leans_29 : decode cX12_leans 29 = .ok (.iaload, 1) := by decide +kernel
theorem dX12_leans_30 : decode cX12_leans 30 = .ok (.if_icmp .ge 50, 3) := by decide +kernel
theorem dX12_leans_80 : decode cX12_leans 80 = .ok (.iload_n 3, 1) := by decide +kernel
theorem dX12_leans_81 : decode cX12_leans 81 = .ok (.ireturn, 1) := by decide +kernel
theorem dX12_leans_33 : decode cX12_leans 33 = .ok (.iload_n 2, 1) := by decide +kernel
theorem dX12_leans_34 : decode cX12_leans 34 = .ok (.iload 4, 2) := by decide +kernel
theorem dX12_leans_36 : decode cX12_leans 36 = .ok (.invokestatic 99, 3) := by decide +kernel
theorem dX12_leans_39 : decode cX12_leans 39 = .ok (.ifCond .eq 35, 3) := by decide +kernel
theorem dX12_leans_42 : decode cX12_leans 42 = .ok (.aload_n 0, 1) := by decide +kernel
theorem dX12_leans_43 : decode cX12_leans 43 = .ok (.iconst 1, 1) := by decide +kernel
theorem dX12_leans_44 : decode cX12_leans 44 = .ok (.iload 4, 2) := by decide +kernel
theorem dX12_leans_46 : decode cX12_leans 46 = .ok (.ishl, 1) := by decide +kernel
theorem dX12_leans_47 : decode cX12_leans 47 = .ok (.putfield 96, 3) := by decide +kernel
theorem dX12_leans_50 : decode cX12_leans 50 = .ok (.iload_n 3, 1) := by decide +kernel
theorem dX12_leans_51 : decode cX12_leans 51 = .ok (.aload_n 0, 1) := by decide +kernel
theorem dX12_leans_52 : decode cX12_leans 52 = .ok (.iload_n 1, 1) := by decide +kernel
theorem dX12_leans_53 : decode cX12_leans 53 = .ok (.invokevirtual 305, 3) := by decide +kernel
theorem dX12_leans_56 : decode cX12_leans 56 = .ok (.ifCond .eq 7, 3) := by decide +kernel
theorem dX12_leans_59 : decode cX12_leans 59 = .ok (.iconst 0, 1) := by decide +kernel
theorem dX12_leans_60 : decode cX12_leans 60 = .ok (.goto 7, 3) := by decide +kernel
theorem dX12_leans_67 : decode cX12_leans 67 = .ok (.ior, 1) := by decide +kernel
theorem dX12_leans_68 : decode cX12_leans 68 = .ok (.istore_n 3, 1) := by decide +kernel
theorem dX12_leans_69 : decode cX12_leans 69 = .ok (.aload_n 0, 1) := by decide +kernel
theorem dX12_leans_70 : decode cX12_leans 70 = .ok (.iconst 0, 1) := by decide +kernel
theorem dX12_leans_71 : decode cX12_leans 71 = .ok (.putfield 96, 3) := by decide +kernel
theorem dX12_leans_74 : decode cX12_leans 74 = .ok (.iinc 4 1, 3) := by decide +kernel
theorem dX12_leans_77 : decode cX12_leans 77 = .ok (.goto (-55), 3) := by decide +kernel
theorem dX12_leans_63 : decode cX12_leans 63 = .ok (.iconst 1, 1) := by decide +kernel
theorem dX12_leans_64 : decode cX12_leans 64 = .ok (.iload 4, 2) := by decide +kernel
theorem dX12_leans_66 : decode cX12_leans 66 = .ok (.ishl, 1) := by decide +kernel
theorem dX12_leans_15 : decode cX12_leans 15 = .ok (.iconst 0, 1) := by decide +kernel
theorem dX12_asked_0 : decode cX12_asked 0 = .ok (.aload_n 0, 1) := by decide +kernel
theorem dX12_asked_1 : decode cX12_asked 1 = .ok (.invokevirtual 180, 3) := by decide +kernel
theorem dX12_asked_4 : decode cX12_asked 4 = .ok (.istore_n 3, 1) := by decide +kernel
theorem dX12_asked_5 : decode cX12_asked 5 = .ok (.iconst (-1), 1) := by decide +kernel
theorem dX12_asked_6 : decode cX12_asked 6 = .ok (.istore 4, 2) := by decide +kernel
theorem dX12_asked_8 : decode cX12_asked 8 = .ok (.iconst 0, 1) := by decide +kernel
theorem dX12_asked_9 : decode cX12_asked 9 = .ok (.istore 5, 2) := by decide +kernel
theorem dX12_asked_11 : decode cX12_asked 11 = .ok (.iload 5, 2) := by decide +kernel
theorem dX12_asked_13 : decode cX12_asked 13 = .ok (.aload_n 0, 1) := by decide +kernel
theorem dX12_asked_14 : decode cX12_asked 14 = .ok (.iload_n 3, 1) := by decide +kernel
theorem dX12_asked_15 : decode cX12_asked 15 = .ok (.invokevirtual 183, 3) := by decide +kernel
theorem dX12_asked_18 : decode cX12_asked 18 = .ok (.if_icmp .ge 69, 3) := by decide +kernel
theorem dX12_asked_87 : decode cX12_asked 87 = .ok (.iconst 0, 1) := by decide +kernel
theorem dX12_asked_88 : decode cX12_asked 88 = .ok (.iload 4, 2) := by decide +kernel
theorem dX12_asked_90 : decode cX12_asked 90 = .ok (.invokestatic 308, 3) := by decide +kernel
theorem m_1103 : Cond.methodLink RX12 308 Lib.Math.max.name ∈ BW := List.mem_of_getElem? (i := 1103) (by decide +kernel)
theorem m_76 : Cond.static Lib.Math.max.name ∈ BW := List.mem_of_getElem? (i := 76) (by decide +kernel)
theorem m_78 : Cond.code Lib.Math.max.name Lib.Math.max.code 2 (some .int) ∈ BW := List.mem_of_getElem? (i := 78) (by decide +kernel)
theorem dX12_asked_93 : decode cX12_asked 93 = .ok (.ireturn, 1) := by decide +kernel
theorem dX12_asked_21 : decode cX12_asked 21 = .ok (.aload_n 0, 1) := by decide +kernel
theorem dX12_asked_22 : decode cX12_asked 22 = .ok (.iload_n 3, 1) := by decide +kernel
theorem dX12_asked_23 : decode cX12_asked 23 = .ok (.iload 5, 2) := by decide +kernel
theorem dX12_asked_25 : decode cX12_asked 25 = .ok (.iconst 0, 1) := by decide +kernel
theorem dX12_asked_26 : decode cX12_asked 26 = .ok (.invokevirtual 193, 3) := by decide +kernel
theorem dX12_asked_29 : decode cX12_asked 29 = .ok (.iload_n 2, 1) := by decide +kernel
theorem dX12_asked_30 : decode cX12_asked 30 = .ok (.if_icmp .ne 28, 3) := by decide +kernel
theorem dX12_asked_58 : decode cX12_asked 58 = .ok (.iconst 0, 1) := by decide +kernel
theorem dX12_asked_59 : decode cX12_asked 59 = .ok (.istore 6, 2) := by decide +kernel
theorem dX12_asked_61 : decode cX12_asked 61 = .ok (.iload 6, 2) := by decide +kernel
theorem dX12_asked_63 : decode cX12_asked 63 = .ok (.ifCond .eq 14, 3) := by decide +kernel
theorem dX12_asked_77 : decode cX12_asked 77 = .ok (.iload 4, 2) := by decide +kernel
theorem dX12_asked_79 : decode cX12_asked 79 = .ok (.istore 4, 2) := by decide +kernel
theorem dX12_asked_81 : decode cX12_asked 81 = .ok (.iinc 5 1, 3) := by decide +kernel
theorem dX12_asked_84 : decode cX12_asked 84 = .ok (.goto (-73), 3) := by decide +kernel
theorem dX12_asked_33 : decode cX12_asked 33 = .ok (.iload_n 2, 1) := by decide +kernel
theorem dX12_asked_34 : decode cX12_asked 34 = .ok (.iconst 3, 1) := by decide +kernel
theorem dX12_asked_35 : decode cX12_asked 35 = .ok (.if_icmp .eq 19, 3) := by decide +kernel
theorem dX12_asked_54 : decode cX12_asked 54 = .ok (.iconst 1, 1) := by decide +kernel
theorem dX12_asked_55 : decode cX12_asked 55 = .ok (.goto 4, 3) := by decide +kernel
theorem dX12_asked_66 : decode cX12_asked 66 = .ok (.aload_n 0, 1) := by decide +kernel
theorem dX12_asked_67 : decode cX12_asked 67 = .ok (.iload_n 3, 1) := by decide +kernel
theorem dX12_asked_68 : decode cX12_asked 68 = .ok (.iload 5, 2) := by decide +kernel
theorem dX12_asked_70 : decode cX12_asked 70 = .ok (.iconst 1, 1) := by decide +kernel
theorem dX12_asked_71 : decode cX12_asked 71 = .ok (.invokevirtual 193, 3) := by decide +kernel
theorem dX12_asked_74 : decode cX12_asked 74 = .ok (.goto 5, 3) := by decide +kernel
theorem dX12_asked_38 : decode cX12_asked 38 = .ok (.iload 4, 2) := by decide +kernel
theorem dX12_asked_40 : decode cX12_asked 40 = .ok (.ifCond .ge 18, 3) := by decide +kernel
theorem dX12_asked_43 : decode cX12_asked 43 = .ok (.aload_n 0, 1) := by decide +kernel
theorem dX12_asked_44 : decode cX12_asked 44 = .ok (.iload_n 3, 1) := by decide +kernel
theorem dX12_asked_45 : decode cX12_asked 45 = .ok (.iload 5, 2) := by decide +kernel
theorem dX12_asked_47 : decode cX12_asked 47 = .ok (.iload_n 1, 1) := by decide +kernel
theorem dX12_asked_48 : decode cX12_asked 48 = .ok (.invokevirtual 196, 3) := by decide +kernel
theorem dX12_asked_51 : decode cX12_asked 51 = .ok (.ifCond .eq 7, 3) := by decide +kernel
theorem dX12_isBarred_0 : decode cX12_isBarred 0 = .ok (.aload_n 0, 1) := by decide +kernel
theorem dX12_isBarred_1 : decode cX12_isBarred 1 = .ok (.getfield 9, 3) := by decide +kernel
theorem dX12_isBarred_4 : decode cX12_isBarred 4 = .ok (.sipush 1552, 3) := by decide +kernel
theorem dX12_isBarred_7 : decode cX12_isBarred 7 = .ok (.iconst 4, 1) := by decide +kernel
theorem dX12_isBarred_8 : decode cX12_isBarred 8 = .ok (.iload_n 1, 1) := by decide +kernel
theorem dX12_isBarred_9 : decode cX12_isBarred 9 = .ok (.imul, 1) := by decide +kernel
theorem dX12_isBarred_10 : decode cX12_isBarred 10 = .ok (.iadd, 1) := by decide +kernel
theorem dX12_isBarred_11 : decode cX12_isBarred 11 = .ok (.iconst 0, 1) := by decide +kernel
theorem dX12_isBarred_12 : decode cX12_isBarred 12 = .ok (.iadd, 1) := by decide +kernel
theorem dX12_isBarred_13 : decode cX12_isBarred 13 = .ok (.iaload, 1) := by decide +kernel
theorem dX12_isBarred_14 : decode cX12_isBarred 14 = .ok (.istore_n 2, 1) := by decide +kernel
theorem dX12_isBarred_15 : decode cX12_isBarred 15 = .ok (.aload_n 0, 1) := by decide +kernel
theorem dX12_isBarred_16 : decode cX12_isBarred 16 = .ok (.iload_n 1, 1) := by decide +kernel
theorem dX12_isBarred_17 : decode cX12_isBarred 17 = .ok (.invokevirtual 311, 3) := by decide +kernel
theorem m_1094 : Cond.code yX12_leans cX12_leans 5 (some .int) ∈ BW := List.mem_of_getElem? (i := 1094) (by decide +kernel)
theorem m_1091 : Cond.methodLink RX12 311 yX12_leans ∈ BW := List.mem_of_getElem? (i := 1091) (by decide +kernel)
theorem m_1092 : Cond.instanceMethod yX12_leans ∈ BW := List.mem_of_getElem? (i := 1092) (by decide +kernel)
theorem m_1093 : Cond.selects RX12 yX12_leans yX12_leans ∈ BW := List.mem_of_getElem? (i := 1093) (by decide +kernel)
theorem si_X12_311 : SV RX12 RX12 311 yX12_leans cX12_leans 5 (some .int) 1 := ⟨⟨m_1091, m_1092, m_1093, m_5, m_1094⟩, rfl, by decide +kernel, by decide +kernel, by decide +kernel⟩
theorem dX12_isBarred_20 : decode cX12_isBarred 20 = .ok (.istore_n 3, 1) := by decide +kernel
theorem dX12_isBarred_21 : decode cX12_isBarred 21 = .ok (.aload_n 0, 1) := by decide +kernel
theorem dX12_isBarred_22 : decode cX12_isBarred 22 = .ok (.iload_n 2, 1) := by decide +kernel
theorem dX12_isBarred_23 : decode cX12_isBarred 23 = .ok (.iconst 1, 1) := by decide +kernel
theorem dX12_isBarred_24 : decode cX12_isBarred 24 = .ok (.invokevirtual 314, 3) := by decide +kernel
theorem m_1102 : Cond.code yX12_asked cX12_asked 7 (some .int) ∈ BW := List.mem_of_getElem? (i := 1102) (by decide +kernel)
theorem m_1099 : Cond.methodLink RX12 314 yX12_asked ∈ BW := List.mem_of_getElem? (i := 1099) (by decide +kernel)
theorem m_1100 : Cond.instanceMethod yX12_asked ∈ BW := List.mem_of_getElem? (i := 1100) (by decide +kernel)
theorem m_1101 : Cond.selects RX12 yX12_asked yX12_asked ∈ BW := List.mem_of_getElem? (i := 1101) (by decide +kernel)
theorem si_X12_314 : SV RX12 RX12 314 yX12_asked cX12_asked 7 (some .int) 2 := ⟨⟨m_1099, m_1100, m_1101, m_5, m_1102⟩, rfl, by decide +kernel, by decide +kernel, by decide +kernel⟩
theorem dX12_isBarred_27 : decode cX12_isBarred 27 = .ok (.istore 4, 2) := by decide +kernel
theorem dX12_isBarred_29 : decode cX12_isBarred 29 = .ok (.iconst 0, 1) := by decide +kernel
theorem dX12_isBarred_30 : decode cX12_isBarred 30 = .ok (.istore 5, 2) := by decide +kernel
theorem dX12_isBarred_32 : decode cX12_isBarred 32 = .ok (.iload 5, 2) := by decide +kernel
theorem dX12_isBarred_34 : decode cX12_isBarred 34 = .ok (.aload_n 0, 1) := by decide +kernel
theorem dX12_isBarred_35 : decode cX12_isBarred 35 = .ok (.getfield 9, 3) := by decide +kernel
theorem dX12_isBarred_38 : decode cX12_isBarred 38 = .ok (.bipush 10, 2) := by decide +kernel
theorem dX12_isBarred_40 : decode cX12_isBarred 40 = .ok (.iaload, 1) := by decide +kernel
theorem dX12_isBarred_41 : decode cX12_isBarred 41 = .ok (.if_icmp .ge 97, 3) := by decide +kernel
theorem dX12_isBarred_138 : decode cX12_isBarred 138 = .ok (.iload_n 3, 1) := by decide +kernel
theorem dX12_isBarred_139 : decode cX12_isBarred 139 = .ok (.ifCond .ne 17, 3) := by decide +kernel
theorem dX12_isBarred_156 : decode cX12_isBarred 156 = .ok (.iconst 1, 1) := by decide +kernel
theorem dX12_isBarred_157 : decode cX12_isBarred 157 = .ok (.goto 4, 3) := by decide +kernel
theorem dX12_isBarred_161 : decode cX12_isBarred 161 = .ok (.ireturn, 1) := by decide +kernel
theorem dX12_isBarred_142 : decode cX12_isBarred 142 = .ok (.aload_n 0, 1) := by decide +kernel
theorem dX12_isBarred_143 : decode cX12_isBarred 143 = .ok (.iload_n 2, 1) := by decide +kernel
theorem dX12_isBarred_144 : decode cX12_isBarred 144 = .ok (.invokevirtual 127, 3) := by decide +kernel
theorem m_338 : Cond.code yX12_saidBy cX12_saidBy 4 (some .int) ∈ BW := List.mem_of_getElem? (i := 338) (by decide +kernel)
theorem m_335 : Cond.methodLink RX12 127 yX12_saidBy ∈ BW := List.mem_of_getElem? (i := 335) (by decide +kernel)
theorem m_336 : Cond.instanceMethod yX12_saidBy ∈ BW := List.mem_of_getElem? (i := 336) (by decide +kernel)
theorem m_337 : Cond.selects RX12 yX12_saidBy yX12_saidBy ∈ BW := List.mem_of_getElem? (i := 337) (by decide +kernel)
theorem si_X12_127 : SV RX12 RX12 127 yX12_saidBy cX12_saidBy 4 (some .int) 1 := ⟨⟨m_335, m_336, m_337, m_5, m_338⟩, rfl, by decide +kernel, by decide +kernel, by decide +kernel⟩
theorem dX12_isBarred_147 : decode cX12_isBarred 147 = .ok (.aload_n 0, 1) := by decide +kernel
theorem dX12_isBarred_148 : decode cX12_isBarred 148 = .ok (.iload_n 2, 1) := by decide +kernel
theorem dX12_isBarred_149 : decode cX12_isBarred 149 = .ok (.iconst 3, 1) := by decide +kernel
theorem dX12_isBarred_150 : decode cX12_isBarred 150 = .ok (.invokevirtual 314, 3) := by decide +kernel
theorem dX12_isBarred_153 : decode cX12_isBarred 153 = .ok (.if_icmp .ge 7, 3) := by decide +kernel
theorem dX12_isBarred_160 : decode cX12_isBarred 160 = .ok (.iconst 0, 1) := by decide +kernel
theorem dX12_isBarred_44 : decode cX12_isBarred 44 = .ok (.sipush 1600, 3) := by decide +kernel
theorem dX12_isBarred_47 : decode cX12_isBarred 47 = .ok (.iconst 3, 1) := by decide +kernel
theorem dX12_isBarred_48 : decode cX12_isBarred 48 = .ok (.iload 5, 2) := by decide +kernel
theorem dX12_isBarred_50 : decode cX12_isBarred 50 = .ok (.imul, 1) := by decide +kernel
theorem dX12_isBarred_51 : decode cX12_isBarred 51 = .ok (.iadd, 1) := by decide +kernel
theorem dX12_isBarred_52 : decode cX12_isBarred 52 = .ok (.istore 6, 2) := by decide +kernel
theorem dX12_isBarred_54 : decode cX12_isBarred 54 = .ok (.aload_n 0, 1) := by decide +kernel
theorem dX12_isBarred_55 : decode cX12_isBarred 55 = .ok (.getfield 9, 3) := by decide +kernel
theorem dX12_isBarred_58 : decode cX12_isBarred 58 = .ok (.iload 6, 2) := by decide +kernel
theorem dX12_isBarred_60 : decode cX12_isBarred 60 = .ok (.iaload, 1) := by decide +kernel
theorem dX12_isBarred_61 : decode cX12_isBarred 61 = .ok (.iload_n 2, 1) := by decide +kernel
theorem dX12_isBarred_62 : decode cX12_isBarred 62 = .ok (.if_icmp .ne 42, 3) := by decide +kernel
theorem dX12_isBarred_104 : decode cX12_isBarred 104 = .ok (.iconst 0, 1) := by decide +kernel
theorem dX12_isBarred_105 : decode cX12_isBarred 105 = .ok (.istore 7, 2) := by decide +kernel
theorem dX12_isBarred_107 : decode cX12_isBarred 107 = .ok (.iload_n 3, 1) := by decide +kernel
theorem dX12_isBarred_108 : decode cX12_isBarred 108 = .ok (.iload 7, 2) := by decide +kernel
theorem dX12_isBarred_110 : decode cX12_isBarred 110 = .ok (.ifCond .eq 19, 3) := by decide +kernel
theorem dX12_isBarred_129 : decode cX12_isBarred 129 = .ok (.iconst (-1), 1) := by decide +kernel
theorem dX12_isBarred_130 : decode cX12_isBarred 130 = .ok (.iand, 1) := by decide +kernel
theorem dX12_isBarred_131 : decode cX12_isBarred 131 = .ok (.istore_n 3, 1) := by decide +kernel
theorem dX12_isBarred_132 : decode cX12_isBarred 132 = .ok (.iinc 5 1, 3) := by decide +kernel
theorem dX12_isBarred_135 : decode cX12_isBarred 135 = .ok (.goto (-103), 3) := by decide +kernel
theorem dX12_isBarred_65 : decode cX12_isBarred 65 = .ok (.aload_n 0, 1) := by decide +kernel
theorem dX12_isBarred_66 : decode cX12_isBarred 66 = .ok (.getfield 9, 3) := by decide +kernel
theorem dX12_isBarred_69 : decode cX12_isBarred 69 = .ok (.iload 6, 2) := by decide +kernel
theorem dX12_isBarred_71 : decode cX12_isBarred 71 = .ok (.iconst 2, 1) := by decide +kernel
theorem dX12_isBarred_72 : decode cX12_isBarred 72 = .ok (.iadd, 1) := by decide +kernel
theorem dX12_isBarred_73 : decode cX12_isBarred 73 = .ok (.iaload, 1) := by decide +kernel
theorem dX12_isBarred_74 : decode cX12_isBarred 74 = .ok (.aload_n 0, 1) := by decide +kernel
theorem dX12_isBarred_75 : decode cX12_isBarred 75 = .ok (.invokevirtual 92, 3) := by decide +kernel
theorem dX12_isBarred_78 : decode cX12_isBarred 78 = .ok (.if_icmp .gt 26, 3) := by decide +kernel
theorem dX12_isBarred_81 : decode cX12_isBarred 81 = .ok (.aload_n 0, 1) := by decide +kernel
theorem dX12_isBarred_82 : decode cX12_isBarred 82 = .ok (.invokevirtual 92, 3) := by decide +kernel
theorem dX12_isBarred_85 : decode cX12_isBarred 85 = .ok (.aload_n 0, 1) := by decide +kernel
theorem dX12_isBarred_86 : decode cX12_isBarred 86 = .ok (.getfield 9, 3) := by decide +kernel
theorem dX12_isBarred_89 : decode cX12_isBarred 89 = .ok (.iload 6, 2) := by decide +kernel
theorem dX12_isBarred_91 : decode cX12_isBarred 91 = .ok (.iconst 2, 1) := by decide +kernel
theorem dX12_isBarred_92 : decode cX12_isBarred 92 = .ok (.iadd, 1) := by decide +kernel
theorem dX12_isBarred_93 : decode cX12_isBarred 93 = .ok (.iaload, 1) := by decide +kernel
theorem dX12_isBarred_94 : decode cX12_isBarred 94 = .ok (.isub, 1) := by decide +kernel
theorem dX12_isBarred_95 : decode cX12_isBarred 95 = .ok (.iload 4, 2) := by decide +kernel
theorem dX12_isBarred_97 : decode cX12_isBarred 97 = .ok (.if_icmp .lt 7, 3) := by decide +kernel
theorem dX12_isBarred_100 : decode cX12_isBarred 100 = .ok (.iconst 1, 1) := by decide +kernel
theorem dX12_isBarred_101 : decode cX12_isBarred 101 = .ok (.goto 4, 3) := by decide +kernel
theorem dX12_isBarred_113 : decode cX12_isBarred 113 = .ok (.iconst 1, 1) := by decide +kernel
theorem dX12_isBarred_114 : decode cX12_isBarred 114 = .ok (.aload_n 0, 1) := by decide +kernel
theorem dX12_isBarred_115 : decode cX12_isBarred 115 = .ok (.getfield 9, 3) := by decide +kernel
theorem dX12_isBarred_118 : decode cX12_isBarred 118 = .ok (.iload 6, 2) := by decide +kernel
theorem dX12_isBarred_120 : decode cX12_isBarred 120 = .ok (.iconst 1, 1) := by decide +kernel
theorem dX12_isBarred_121 : decode cX12_isBarred 121 = .ok (.iadd, 1) := by decide +kernel
theorem dX12_isBarred_122 : decode cX12_isBarred 122 = .ok (.iaload, 1) := by decide +kernel
theorem dX12_isBarred_123 : decode cX12_isBarred 123 = .ok (.ishl, 1) := by decide +kernel
theorem dX12_isBarred_124 : decode cX12_isBarred 124 = .ok (.iconst (-1), 1) := by decide +kernel
theorem dX12_isBarred_125 : decode cX12_isBarred 125 = .ok (.ixor, 1) := by decide +kernel
theorem dX12_isBarred_126 : decode cX12_isBarred 126 = .ok (.goto 4, 3) := by decide +kernel
theorem dX12_findingOf_0 : decode cX12_findingOf 0 = .ok (.aload_n 0, 1) := by decide +kernel
theorem dX12_findingOf_1 : decode cX12_findingOf 1 = .ok (.iload_n 1, 1) := by decide +kernel
theorem dX12_findingOf_2 : decode cX12_findingOf 2 = .ok (.bipush 9, 2) := by decide +kernel
theorem dX12_findingOf_4 : decode cX12_findingOf 4 = .ok (.invokevirtual 120, 3) := by decide +kernel
theorem dX12_findingOf_7 : decode cX12_findingOf 7 = .ok (.ifCond .eq 13, 3) := by decide +kernel
theorem dX12_findingOf_10 : decode cX12_findingOf 10 = .ok (.iload_n 2, 1) := by decide +kernel
theorem dX12_findingOf_11 : decode cX12_findingOf 11 = .ok (.iconst 0, 1) := by decide +kernel
theorem dX12_findingOf_12 : decode cX12_findingOf 12 = .ok (.bipush 6, 2) := by decide +kernel
theorem dX12_findingOf_14 : decode cX12_findingOf 14 = .ok (.invokestatic 84, 3) := by decide +kernel
theorem dX12_findingOf_17 : decode cX12_findingOf 17 = .ok (.ifCond .ne 5, 3) := by decide +kernel
theorem dX12_findingOf_22 : decode cX12_findingOf 22 = .ok (.iload_n 2, 1) := by decide +kernel
theorem dX12_findingOf_23 : decode cX12_findingOf 23 = .ok (.iconst 4, 1) := by decide +kernel
theorem dX12_findingOf_24 : decode cX12_findingOf 24 = .ok (.if_icmp .ge 20, 3) := by decide +kernel
theorem dX12_findingOf_44 : decode cX12_findingOf 44 = .ok (.iload_n 2, 1) := by decide +kernel
theorem dX12_findingOf_45 : decode cX12_findingOf 45 = .ok (.iconst 4, 1) := by decide +kernel
theorem dX12_findingOf_46 : decode cX12_findingOf 46 = .ok (.if_icmp .ne 19, 3) := by decide +kernel
theorem dX12_findingOf_65 : decode cX12_findingOf 65 = .ok (.iload_n 2, 1) := by decide +kernel
theorem dX12_findingOf_66 : decode cX12_findingOf 66 = .ok (.iconst 5, 1) := by decide +kernel
theorem dX12_findingOf_67 : decode cX12_findingOf 67 = .ok (.if_icmp .ne 11, 3) := by decide +kernel
theorem dX12_findingOf_78 : decode cX12_findingOf 78 = .ok (.aload_n 0, 1) := by decide +kernel
theorem dX12_findingOf_79 : decode cX12_findingOf 79 = .ok (.iload_n 1, 1) := by decide +kernel
theorem dX12_findingOf_80 : decode cX12_findingOf 80 = .ok (.invokevirtual 317, 3) := by decide +kernel
theorem m_1098 : Cond.code yX12_isBarred cX12_isBarred 8 (some .boolean) ∈ BW := List.mem_of_getElem? (i := 1098) (by decide +kernel)
theorem m_1095 : Cond.methodLink RX12 317 yX12_isBarred ∈ BW := List.mem_of_getElem? (i := 1095) (by decide +kernel)
theorem m_1096 : Cond.instanceMethod yX12_isBarred ∈ BW := List.mem_of_getElem? (i := 1096) (by decide +kernel)
theorem m_1097 : Cond.selects RX12 yX12_isBarred yX12_isBarred ∈ BW := List.mem_of_getElem? (i := 1097) (by decide +kernel)
theorem si_X12_317 : SV RX12 RX12 317 yX12_isBarred cX12_isBarred 8 (some .boolean) 1 := ⟨⟨m_1095, m_1096, m_1097, m_5, m_1098⟩, rfl, by decide +kernel, by decide +kernel, by decide +kernel⟩
theorem dX12_findingOf_83 : decode cX12_findingOf 83 = .ok (.ifCond .eq 7, 3) := by decide +kernel
theorem dX12_findingOf_86 : decode cX12_findingOf 86 = .ok (.iconst 1, 1) := by decide +kernel
theorem dX12_findingOf_87 : decode cX12_findingOf 87 = .ok (.goto 4, 3) := by decide +kernel
theorem dX12_findingOf_91 : decode cX12_findingOf 91 = .ok (.ireturn, 1) := by decide +kernel
theorem dX12_findingOf_90 : decode cX12_findingOf 90 = .ok (.iconst 0, 1) := by decide +kernel
theorem dX12_findingOf_70 : decode cX12_findingOf 70 = .ok (.aload_n 0, 1) := by decide +kernel
theorem dX12_findingOf_71 : decode cX12_findingOf 71 = .ok (.iload_n 1, 1) := by decide +kernel
theorem dX12_findingOf_72 : decode cX12_findingOf 72 = .ok (.invokevirtual 311, 3) := by decide +kernel
theorem dX12_findingOf_75 : decode cX12_findingOf 75 = .ok (.goto 16, 3) := by decide +kernel
theorem dX12_findingOf_49 : decode cX12_findingOf 49 = .ok (.aload_n 0, 1) := by decide +kernel
theorem dX12_findingOf_50 : decode cX12_findingOf 50 = .ok (.iload_n 1, 1) := by decide +kernel
theorem dX12_findingOf_51 : decode cX12_findingOf 51 = .ok (.invokevirtual 305, 3) := by decide +kernel
theorem dX12_findingOf_54 : decode cX12_findingOf 54 = .ok (.ifCond .eq 7, 3) := by decide +kernel
theorem dX12_findingOf_57 : decode cX12_findingOf 57 = .ok (.iconst 1, 1) := by decide +kernel
theorem dX12_findingOf_58 : decode cX12_findingOf 58 = .ok (.goto 33, 3) := by decide +kernel
theorem dX12_findingOf_61 : decode cX12_findingOf 61 = .ok (.iconst 0, 1) := by decide +kernel
theorem dX12_findingOf_62 : decode cX12_findingOf 62 = .ok (.goto 29, 3) := by decide +kernel
theorem dX12_findingOf_27 : decode cX12_findingOf 27 = .ok (.aload_n 0, 1) := by decide +kernel
theorem dX12_findingOf_28 : decode cX12_findingOf 28 = .ok (.getfield 9, 3) := by decide +kernel
theorem dX12_findingOf_31 : decode cX12_findingOf 31 = .ok (.sipush 1552, 3) := by decide +kernel
theorem dX12_findingOf_34 : decode cX12_findingOf 34 = .ok (.iconst 4, 1) := by decide +kernel
theorem dX12_findingOf_35 : decode cX12_findingOf 35 = .ok (.iload_n 1, 1) := by decide +kernel
theorem dX12_findingOf_36 : decode cX12_findingOf 36 = .ok (.imul, 1) := by decide +kernel
theorem dX12_findingOf_37 : decode cX12_findingOf 37 = .ok (.iadd, 1) := by decide +kernel
theorem dX12_findingOf_38 : decode cX12_findingOf 38 = .ok (.iload_n 2, 1) := by decide +kernel
theorem dX12_findingOf_39 : decode cX12_findingOf 39 = .ok (.iadd, 1) := by decide +kernel
theorem dX12_findingOf_40 : decode cX12_findingOf 40 = .ok (.iaload, 1) := by decide +kernel
theorem dX12_findingOf_41 : decode cX12_findingOf 41 = .ok (.goto 50, 3) := by decide +kernel
theorem dX12_findingOf_20 : decode cX12_findingOf 20 = .ok (.iconst (-1), 1) := by decide +kernel
theorem dX12_findingOf_21 : decode cX12_findingOf 21 = .ok (.ireturn, 1) := by decide +kernel
end WR
set_option maxHeartbeats 4000000 in
set_option maxRecDepth 100000 in
theorem m_fromLine (l : Launch) (G : GG) (h0 : Nat) (jv : Nat) (jl : Nat) (je : Nat) (nw : Nat) (nk : Nat) (mhasKept : Int32) (nt : Nat) (mtaped : Int32) (nr : Nat) (mrowMany : Int32) (mroundOf : Int32) (mroundFrom : Int32) (mouts : Int32) (nm : Nat) (mfromHour : Int32) (mtoHour : Int32) (ns : Nat) (mfrom : Int32) (mto : Int32) (msort : Int32) (misFault : Int32) (mdeep : Int32) (mcoded : Int32) (mlines : Int32) (nl : Nat) (nc : Nat) (nF : Nat) (np : Nat) (ntr : Nat) (nb : Nat) (mbestCost : Int32) (nso : Nat) (nsi : Nat) (nit : Nat) (nsh : Nat) (nsf : Nat) (nss : Nat) (nrc : Nat) (mtraced : Int32) (mdealer : Int32) (mnumber : Int32) (mwhose : Int32) (msize : Int32) (misParted : Int32) (fnw : Nat → Int32) (fns : Nat → Int32) (fnp : Nat → Int32) (hjv : jv < 8) (hjl : jl < 9) (hln : LN fnw jv jl) (hje : je < 10) (hN : NI fnw) : MI l G yX12_fromLine cX12_fromLine 6 (some .int) 6 0 0 [.ref h0, .int (nI jv), .int (nI jl), .int (nI je)] [(h0, .inr (12, [.ref nw, .ref nk, .int mhasKept, .ref nt, .int mtaped, .ref nr, .int mrowMany, .int mroundOf, .int mroundFrom, .int mouts, .ref nm, .int mfromHour, .int mtoHour, .ref ns, .int mfrom, .int mto, .int msort, .int misFault, .int mdeep, .int mcoded, .int mlines, .ref nl, .ref nc, .ref nF, .ref np, .ref ntr, .ref nb, .int mbestCost, .ref nso, .ref nsi, .ref nit, .ref nsh, .ref nsf, .ref nss, .ref nrc, .int mtraced, .int mdealer, .int mnumber, .int mwhose, .int msize, .int misParted])), (nw, .inl (G.2.1, 1662, .inl fnw)), (ns, .inl (G.2.1, 8, .inl fns)), (np, .inl (G.2.1, 100, .inl fnp))] (fun (r : Int32) (u : (Nat → Int32)) => (True)) (fun u : (Nat → Int32) => [(h0, .inr (12, [.ref nw, .ref nk, .int mhasKept, .ref nt, .int mtaped, .ref nr, .int mrowMany, .int mroundOf, .int mroundFrom, .int mouts, .ref nm, .int mfromHour, .int mtoHour, .ref ns, .int mfrom, .int mto, .int msort, .int misFault, .int mdeep, .int mcoded, .int mlines, .ref nl, .ref nc, .ref nF, .ref np, .ref ntr, .ref nb, .int mbestCost, .ref nso, .ref nsi, .ref nit, .ref nsh, .ref nsf, .ref nss, .ref nrc, .int mtraced, .int mdealer, .int mnumber, .int mwhose, .int msize, .int misParted])), (nw, .inl (G.2.1, 1662, .inl fnw)), (ns, .inl (G.2.1, 8, .inl fns)), (np, .inl (G.2.1, 100, .inl u))]) := by
  refine MI.start (by decide +kernel) (Nat.le_of_ble_eq_true rfl) ?_
  intro p e s m below meth c A ls hC hK hP hD hS hA hl
  have hl : lv_has ls 6 [(0, .ref h0), (1, .int (nI jv)), (2, .int (nI jl)), (3, .int (nI je))] := hl
  obtain ⟨hx, hb, hr, hml, hB, hown, hlocks, hnm⟩ := id hC
  have hln0 := hln
  obtain ⟨⟨so, hso, e0, hAl, hBl⟩, la9, lb9, e4, e5, hab9, hlb9, ht9, h09, hst9⟩ := hln
  refine lv_aload_n hx hb dX12_fromLine_0 rfl (lv_at hl 0 rfl) ?_
  refine lv_iload_n hx hb dX12_fromLine_1 rfl (lv_at hl 1 rfl) ?_
  refine lv_iload_n hx hb dX12_fromLine_2 rfl (lv_at hl 2 rfl) ?_
  refine lv_iconst (v := 0) hx hb dX12_fromLine_3 (by decide) ?_
  refine pV hC hK hl hP hD (m_lineOf l G h0 jv jl 0 nw nk mhasKept nt mtaped nr mrowMany mroundOf mroundFrom mouts nm mfromHour mtoHour ns mfrom mto msort misFault mdeep mcoded mlines nl nc nF np ntr nb mbestCost nso nsi nit nsh nsf nss nrc mtraced mdealer mnumber mwhose msize misParted fnw (by omega) (by omega) (by omega)) si_X12_193 [0, 1] rfl rfl (by decide) rfl rfl rfl rfl rfl (Nat.le_of_ble_eq_true rfl) ⟨Nat.le_of_ble_eq_true rfl, Nat.le_of_ble_eq_true rfl⟩ ⟨by first | exact Nat.le_of_ble_eq_true rfl | exact Nat.zero_le _, by first | exact Nat.le_of_ble_eq_true rfl | exact Nat.zero_le _⟩ dX12_fromLine_4 (fun r4891 hr4891 => ?_)
  obtain rfl := hr4891
  refine eqi (x1 := nI so) (e0) ?_
  refine lv_istore (lv' := [(4, .int (nI so)), (0, .ref h0), (1, .int (nI jv)), (2, .int (nI jl)), (3, .int (nI je))]) hx hb dX12_fromLine_7 hl (by decide) rfl (fun ls hl => ?_)
  refine lv_iload hx hb dX12_fromLine_9 (lv_at hl 0 rfl) ?_
  refine lv_if_eq (tgt := 20) hx hb dX12_fromLine_11 (by decide) (fun c_11_4893 => ?_) (fun c_11_4893 => ?_)
  · refine lv_aload_n hx hb dX12_fromLine_20 rfl (lv_at hl 1 rfl) ?_
    refine lv_iload_n hx hb dX12_fromLine_21 rfl (lv_at hl 2 rfl) ?_
    refine lv_iload_n hx hb dX12_fromLine_22 rfl (lv_at hl 3 rfl) ?_
    refine lv_iload_n hx hb dX12_fromLine_23 rfl (lv_at hl 4 rfl) ?_
    refine iV (wr := [(ns, .inl (G.2.1, 8, .inl fns))]) hC hK hl hP hD hS hA (m_holds l G h0 jv jl je nw nk mhasKept nt mtaped nr mrowMany mroundOf mroundFrom mouts nm mfromHour mtoHour ns mfrom mto msort misFault mdeep mcoded mlines nl nc nF np ntr nb mbestCost nso nsi nit nsh nsf nss nrc mtraced mdealer mnumber mwhose msize misParted fnw fnp (by omega) (by omega) (hln0) (by omega) (hN)) si_X12_196 [0, 1, 3] [2] rfl rfl (by decide) rfl (by decide) (by decide) rfl rfl rfl rfl rfl (Nat.le_of_ble_eq_true rfl) ⟨Nat.le_of_ble_eq_true rfl, Nat.le_of_ble_eq_true rfl⟩ ⟨Nat.le_of_ble_eq_true rfl, Nat.le_of_ble_eq_true rfl⟩ dX12_fromLine_24 (fun r4894 u4895 H locs hr4894 hP hD hS => ?_)
    obtain ⟨gnp4896, rfl⟩ : ∃ z9, z9 = u4895 := ⟨_, rfl⟩
    try dsimp only at hr4894
    have hP : va_P G.1 vwCl [(ns, .inl (G.2.1, 8, .inl fns)), (h0, .inr (12, [.ref nw, .ref nk, .int mhasKept, .ref nt, .int mtaped, .ref nr, .int mrowMany, .int mroundOf, .int mroundFrom, .int mouts, .ref nm, .int mfromHour, .int mtoHour, .ref ns, .int mfrom, .int mto, .int msort, .int misFault, .int mdeep, .int mcoded, .int mlines, .ref nl, .ref nc, .ref nF, .ref np, .ref ntr, .ref nb, .int mbestCost, .ref nso, .ref nsi, .ref nit, .ref nsh, .ref nsf, .ref nss, .ref nrc, .int mtraced, .int mdealer, .int mnumber, .int mwhose, .int msize, .int misParted])), (nw, .inl (G.2.1, 1662, .inl fnw)), (np, .inl (G.2.1, 100, .inl gnp4896))] H := hP
    have hD : va_D A [(ns, .inl (G.2.1, 8, .inl fns)), (h0, .inr (12, [.ref nw, .ref nk, .int mhasKept, .ref nt, .int mtaped, .ref nr, .int mrowMany, .int mroundOf, .int mroundFrom, .int mouts, .ref nm, .int mfromHour, .int mtoHour, .ref ns, .int mfrom, .int mto, .int msort, .int misFault, .int mdeep, .int mcoded, .int mlines, .ref nl, .ref nc, .ref nF, .ref np, .ref ntr, .ref nb, .int mbestCost, .ref nso, .ref nsi, .ref nit, .ref nsh, .ref nsf, .ref nss, .ref nrc, .int mtraced, .int mdealer, .int mnumber, .int mwhose, .int msize, .int misParted])), (nw, .inl (G.2.1, 1662, .inl fnw)), (np, .inl (G.2.1, 100, .inl gnp4896))] := hD
    rcases hr4894 with rfl | rfl
    · refine lv_if_ne (tgt := 33) hx hb dX12_fromLine_27 (by decide) (fun _ => ?_) (fun c9 => absurd c9 (by decide))
      refine lv_iload hx hb dX12_fromLine_33 (lv_at hl 0 rfl) ?_
      refine lv_iconst (v := 2) hx hb dX12_fromLine_35 (by decide) ?_
      refine lv_icmp_ne (tgt := 49) hx hb dX12_fromLine_36 (by decide) (fun c_36_4898 => ?_) (fun c_36_4898 => ?_)
      · refine lv_aload_n hx hb dX12_fromLine_49 rfl (lv_at hl 1 rfl) ?_
        refine gf_X12_29 hC rfl hK hP 1 rfl rfl dX12_fromLine_50 ?_
        refine lv_aload_n hx hb dX12_fromLine_53 rfl (lv_at hl 1 rfl) ?_
        refine lv_iload_n hx hb dX12_fromLine_54 rfl (lv_at hl 2 rfl) ?_
        refine lv_iload_n hx hb dX12_fromLine_55 rfl (lv_at hl 3 rfl) ?_
        refine lv_iconst (v := 3) hx hb dX12_fromLine_56 (by decide) ?_
        refine pV hC hK hl hP hD (m_lineOf l G h0 jv jl 3 nw nk mhasKept nt mtaped nr mrowMany mroundOf mroundFrom mouts nm mfromHour mtoHour ns mfrom mto msort misFault mdeep mcoded mlines nl nc nF np ntr nb mbestCost nso nsi nit nsh nsf nss nrc mtraced mdealer mnumber mwhose msize misParted fnw (by omega) (by omega) (by omega)) si_X12_193 [1, 2] rfl rfl (by decide) rfl rfl rfl rfl rfl (Nat.le_of_ble_eq_true rfl) ⟨Nat.le_of_ble_eq_true rfl, Nat.le_of_ble_eq_true rfl⟩ ⟨by first | exact Nat.le_of_ble_eq_true rfl | exact Nat.zero_le _, by first | exact Nat.le_of_ble_eq_true rfl | exact Nat.zero_le _⟩ dX12_fromLine_57 (fun r4899 hr4899 => ?_)
        obtain rfl := hr4899
        obtain ⟨n9_4901, hn9_4901, en9_4901⟩ := (hAl ((nI_eq (b := 0) (by omega) (by decide)).mp c_11_4893)).2
        refine eqi (x1 := nI n9_4901) en9_4901 ?_
        refine ald hC hK hP 0 rfl (vp_in_nI (by omega) (by omega)) (k := n9_4901) (nI_clamp (by omega)) (v := fns n9_4901) rfl dX12_fromLine_60 ?_
        refine lv_topi (fun x4902 ex4902 => ?_)
        refine lv_istore (lv' := [(5, .int x4902), (4, .int (nI so)), (0, .ref h0), (1, .int (nI jv)), (2, .int (nI jl)), (3, .int (nI je))]) hx hb dX12_fromLine_61 hl (by decide) rfl (fun ls hl => ?_)
        refine lv_iload hx hb dX12_fromLine_63 (lv_at hl 1 rfl) ?_
        refine lv_iconst (v := 2) hx hb dX12_fromLine_65 (by decide) ?_
        refine lv_icmp_eq (tgt := 76) hx hb dX12_fromLine_66 (by decide) (fun c9 => absurd c9 (c_36_4898)) (fun _ => ?_)
        refine lv_iload hx hb dX12_fromLine_69 (lv_at hl 0 rfl) ?_
        refine lv_ldc hx hb hown (hB _ m_693) dX12_fromLine_71 ?_
        refine lv_icmp_ne (tgt := 81) hx hb dX12_fromLine_73 (by decide) (fun c_73_4903 => ?_) (fun c_73_4903 => ?_)
        · refine lv_iload hx hb dX12_fromLine_81 (lv_at hl 0 rfl) ?_
          refine lv_aload_n hx hb dX12_fromLine_83 rfl (lv_at hl 2 rfl) ?_
          refine lv_iload_n hx hb dX12_fromLine_84 rfl (lv_at hl 3 rfl) ?_
          refine lv_iload_n hx hb dX12_fromLine_85 rfl (lv_at hl 4 rfl) ?_
          refine lv_iconst (v := 1) hx hb dX12_fromLine_86 (by decide) ?_
          refine pV hC hK hl hP hD (m_lineOf l G h0 jv jl 1 nw nk mhasKept nt mtaped nr mrowMany mroundOf mroundFrom mouts nm mfromHour mtoHour ns mfrom mto msort misFault mdeep mcoded mlines nl nc nF np ntr nb mbestCost nso nsi nit nsh nsf nss nrc mtraced mdealer mnumber mwhose msize misParted fnw (by omega) (by omega) (by omega)) si_X12_193 [1, 2] rfl rfl (by decide) rfl rfl rfl rfl rfl (Nat.le_of_ble_eq_true rfl) ⟨Nat.le_of_ble_eq_true rfl, Nat.le_of_ble_eq_true rfl⟩ ⟨by first | exact Nat.le_of_ble_eq_true rfl | exact Nat.zero_le _, by first | exact Nat.le_of_ble_eq_true rfl | exact Nat.zero_le _⟩ dX12_fromLine_87 (fun r4904 hr4904 => ?_)
          obtain rfl := hr4904
          refine lv_iadd hx hb dX12_fromLine_90 ?_
          exact RI (v := x4902 + (fnw (176 + 156 * jv + 2 + 6 * jl + 1))) hC hP hD hS [1, 2, 0, 3] gnp4896 rfl rfl (by decide) (trivial) rfl dX12_fromLine_91
        · refine lv_iload hx hb dX12_fromLine_76 (lv_at hl 0 rfl) ?_
          refine lv_goto (tgt := 91) hx hb dX12_fromLine_78 (by decide) ?_
          exact RI (v := x4902) hC hP hD hS [1, 2, 0, 3] gnp4896 rfl rfl (by decide) (trivial) rfl dX12_fromLine_91
      · refine lv_aload_n hx hb dX12_fromLine_39 rfl (lv_at hl 1 rfl) ?_
        refine lv_iload_n hx hb dX12_fromLine_40 rfl (lv_at hl 2 rfl) ?_
        refine lv_iload_n hx hb dX12_fromLine_41 rfl (lv_at hl 3 rfl) ?_
        refine lv_iconst (v := 2) hx hb dX12_fromLine_42 (by decide) ?_
        refine pV hC hK hl hP hD (m_lineOf l G h0 jv jl 2 nw nk mhasKept nt mtaped nr mrowMany mroundOf mroundFrom mouts nm mfromHour mtoHour ns mfrom mto msort misFault mdeep mcoded mlines nl nc nF np ntr nb mbestCost nso nsi nit nsh nsf nss nrc mtraced mdealer mnumber mwhose msize misParted fnw (by omega) (by omega) (by omega)) si_X12_193 [1, 2] rfl rfl (by decide) rfl rfl rfl rfl rfl (Nat.le_of_ble_eq_true rfl) ⟨Nat.le_of_ble_eq_true rfl, Nat.le_of_ble_eq_true rfl⟩ ⟨by first | exact Nat.le_of_ble_eq_true rfl | exact Nat.zero_le _, by first | exact Nat.le_of_ble_eq_true rfl | exact Nat.zero_le _⟩ dX12_fromLine_43 (fun r4906 hr4906 => ?_)
        obtain rfl := hr4906
        refine lv_goto (tgt := 61) hx hb dX12_fromLine_46 (by decide) ?_
        refine lv_istore (lv' := [(5, .int (fnw (176 + 156 * jv + 2 + 6 * jl + 2))), (4, .int (nI so)), (0, .ref h0), (1, .int (nI jv)), (2, .int (nI jl)), (3, .int (nI je))]) hx hb dX12_fromLine_61 hl (by decide) rfl (fun ls hl => ?_)
        refine lv_iload hx hb dX12_fromLine_63 (lv_at hl 1 rfl) ?_
        refine lv_iconst (v := 2) hx hb dX12_fromLine_65 (by decide) ?_
        refine lv_icmp_eq (tgt := 76) hx hb dX12_fromLine_66 (by decide) (fun _ => ?_) (fun c9 => absurd (c_36_4898) c9)
        refine lv_iload hx hb dX12_fromLine_76 (lv_at hl 0 rfl) ?_
        refine lv_goto (tgt := 91) hx hb dX12_fromLine_78 (by decide) ?_
        exact RI (v := fnw (176 + 156 * jv + 2 + 6 * jl + 2)) hC hP hD hS [1, 2, 0, 3] gnp4896 rfl rfl (by decide) (trivial) rfl dX12_fromLine_91
    · refine lv_if_ne (tgt := 33) hx hb dX12_fromLine_27 (by decide) (fun c9 => absurd (by decide) c9) (fun _ => ?_)
      refine lv_ldc hx hb hown (hB _ m_693) dX12_fromLine_30 ?_
      exact RI (v := 100000) hC hP hD hS [1, 2, 0, 3] gnp4896 rfl rfl (by decide) (trivial) rfl dX12_fromLine_32
  · refine lv_iload hx hb dX12_fromLine_14 (lv_at hl 0 rfl) ?_
    refine lv_iconst (v := 2) hx hb dX12_fromLine_16 (by decide) ?_
    refine lv_icmp_ne (tgt := 30) hx hb dX12_fromLine_17 (by decide) (fun c_17_4908 => ?_) (fun c_17_4908 => ?_)
    · refine lv_ldc hx hb hown (hB _ m_693) dX12_fromLine_30 ?_
      exact RI (v := 100000) hC hP hD hS [0, 1, 2, 3] fnp rfl rfl (by decide) (trivial) rfl dX12_fromLine_32
    · refine lv_aload_n hx hb dX12_fromLine_20 rfl (lv_at hl 1 rfl) ?_
      refine lv_iload_n hx hb dX12_fromLine_21 rfl (lv_at hl 2 rfl) ?_
      refine lv_iload_n hx hb dX12_fromLine_22 rfl (lv_at hl 3 rfl) ?_
      refine lv_iload_n hx hb dX12_fromLine_23 rfl (lv_at hl 4 rfl) ?_
      refine iV (wr := [(ns, .inl (G.2.1, 8, .inl fns))]) hC hK hl hP hD hS hA (m_holds l G h0 jv jl je nw nk mhasKept nt mtaped nr mrowMany mroundOf mroundFrom mouts nm mfromHour mtoHour ns mfrom mto msort misFault mdeep mcoded mlines nl nc nF np ntr nb mbestCost nso nsi nit nsh nsf nss nrc mtraced mdealer mnumber mwhose msize misParted fnw fnp (by omega) (by omega) (hln0) (by omega) (hN)) si_X12_196 [0, 1, 3] [2] rfl rfl (by decide) rfl (by decide) (by decide) rfl rfl rfl rfl rfl (Nat.le_of_ble_eq_true rfl) ⟨Nat.le_of_ble_eq_true rfl, Nat.le_of_ble_eq_true rfl⟩ ⟨Nat.le_of_ble_eq_true rfl, Nat.le_of_ble_eq_true rfl⟩ dX12_fromLine_24 (fun r4909 u4910 H locs hr4909 hP hD hS => ?_)
      obtain ⟨gnp4911, rfl⟩ : ∃ z9, z9 = u4910 := ⟨_, rfl⟩
      try dsimp only at hr4909
      have hP : va_P G.1 vwCl [(ns, .inl (G.2.1, 8, .inl fns)), (h0, .inr (12, [.ref nw, .ref nk, .int mhasKept, .ref nt, .int mtaped, .ref nr, .int mrowMany, .int mroundOf, .int mroundFrom, .int mouts, .ref nm, .int mfromHour, .int mtoHour, .ref ns, .int mfrom, .int mto, .int msort, .int misFault, .int mdeep, .int mcoded, .int mlines, .ref nl, .ref nc, .ref nF, .ref np, .ref ntr, .ref nb, .int mbestCost, .ref nso, .ref nsi, .ref nit, .ref nsh, .ref nsf, .ref nss, .ref nrc, .int mtraced, .int mdealer, .int mnumber, .int mwhose, .int msize, .int misParted])), (nw, .inl (G.2.1, 1662, .inl fnw)), (np, .inl (G.2.1, 100, .inl gnp4911))] H := hP
      have hD : va_D A [(ns, .inl (G.2.1, 8, .inl fns)), (h0, .inr (12, [.ref nw, .ref nk, .int mhasKept, .ref nt, .int mtaped, .ref nr, .int mrowMany, .int mroundOf, .int mroundFrom, .int mouts, .ref nm, .int mfromHour, .int mtoHour, .ref ns, .int mfrom, .int mto, .int msort, .int misFault, .int mdeep, .int mcoded, .int mlines, .ref nl, .ref nc, .ref nF, .ref np, .ref ntr, .ref nb, .int mbestCost, .ref nso, .ref nsi, .ref nit, .ref nsh, .ref nsf, .ref nss, .ref nrc, .int mtraced, .int mdealer, .int mnumber, .int mwhose, .int msize, .int misParted])), (nw, .inl (G.2.1, 1662, .inl fnw)), (np, .inl (G.2.1, 100, .inl gnp4911))] := hD
      rcases hr4909 with rfl | rfl
      · refine lv_if_ne (tgt := 33) hx hb dX12_fromLine_27 (by decide) (fun _ => ?_) (fun c9 => absurd c9 (by decide))
        refine lv_iload hx hb dX12_fromLine_33 (lv_at hl 0 rfl) ?_
        refine lv_iconst (v := 2) hx hb dX12_fromLine_35 (by decide) ?_
        refine lv_icmp_ne (tgt := 49) hx hb dX12_fromLine_36 (by decide) (fun c9 => absurd (c_17_4908) c9) (fun _ => ?_)
        refine lv_aload_n hx hb dX12_fromLine_39 rfl (lv_at hl 1 rfl) ?_
        refine lv_iload_n hx hb dX12_fromLine_40 rfl (lv_at hl 2 rfl) ?_
        refine lv_iload_n hx hb dX12_fromLine_41 rfl (lv_at hl 3 rfl) ?_
        refine lv_iconst (v := 2) hx hb dX12_fromLine_42 (by decide) ?_
        refine pV hC hK hl hP hD (m_lineOf l G h0 jv jl 2 nw nk mhasKept nt mtaped nr mrowMany mroundOf mroundFrom mouts nm mfromHour mtoHour ns mfrom mto msort misFault mdeep mcoded mlines nl nc nF np ntr nb mbestCost nso nsi nit nsh nsf nss nrc mtraced mdealer mnumber mwhose msize misParted fnw (by omega) (by omega) (by omega)) si_X12_193 [1, 2] rfl rfl (by decide) rfl rfl rfl rfl rfl (Nat.le_of_ble_eq_true rfl) ⟨Nat.le_of_ble_eq_true rfl, Nat.le_of_ble_eq_true rfl⟩ ⟨by first | exact Nat.le_of_ble_eq_true rfl | exact Nat.zero_le _, by first | exact Nat.le_of_ble_eq_true rfl | exact Nat.zero_le _⟩ dX12_fromLine_43 (fun r4913 hr4913 => ?_)
        obtain rfl := hr4913
        refine lv_goto (tgt := 61) hx hb dX12_fromLine_46 (by decide) ?_
        refine lv_istore (lv' := [(5, .int (fnw (176 + 156 * jv + 2 + 6 * jl + 2))), (4, .int (nI so)), (0, .ref h0), (1, .int (nI jv)), (2, .int (nI jl)), (3, .int (nI je))]) hx hb dX12_fromLine_61 hl (by decide) rfl (fun ls hl => ?_)
        refine lv_iload hx hb dX12_fromLine_63 (lv_at hl 1 rfl) ?_
        refine lv_iconst (v := 2) hx hb dX12_fromLine_65 (by decide) ?_
        refine lv_icmp_eq (tgt := 76) hx hb dX12_fromLine_66 (by decide) (fun _ => ?_) (fun c9 => absurd (c_17_4908) c9)
        refine lv_iload hx hb dX12_fromLine_76 (lv_at hl 0 rfl) ?_
        refine lv_goto (tgt := 91) hx hb dX12_fromLine_78 (by decide) ?_
        exact RI (v := fnw (176 + 156 * jv + 2 + 6 * jl + 2)) hC hP hD hS [1, 2, 0, 3] gnp4911 rfl rfl (by decide) (trivial) rfl dX12_fromLine_91
      · refine lv_if_ne (tgt := 33) hx hb dX12_fromLine_27 (by decide) (fun c9 => absurd (by decide) c9) (fun _ => ?_)
        refine lv_ldc hx hb hown (hB _ m_693) dX12_fromLine_30 ?_
        exact RI (v := 100000) hC hP hD hS [1, 2, 0, 3] gnp4911 rfl rfl (by decide) (trivial) rfl dX12_fromLine_32
set_option maxHeartbeats 4000000 in
set_option maxRecDepth 100000 in
theorem m_findShould (l : Launch) (G : GG) (h0 : Nat) (je : Nat) (nw : Nat) (nk : Nat) (mhasKept : Int32) (nt : Nat) (mtaped : Int32) (nr : Nat) (mrowMany : Int32) (mroundOf : Int32) (mroundFrom : Int32) (mouts : Int32) (nm : Nat) (mfromHour : Int32) (mtoHour : Int32) (ns : Nat) (mfrom : Int32) (mto : Int32) (msort : Int32) (misFault : Int32) (mdeep : Int32) (mcoded : Int32) (mlines : Int32) (nl : Nat) (nc : Nat) (nF : Nat) (np : Nat) (ntr : Nat) (nb : Nat) (mbestCost : Int32) (nso : Nat) (nsi : Nat) (nit : Nat) (nsh : Nat) (nsf : Nat) (nss : Nat) (nrc : Nat) (mtraced : Int32) (mdealer : Int32) (mnumber : Int32) (mwhose : Int32) (msize : Int32) (misParted : Int32) (fnw : Nat → Int32) (fnm : Nat → Int32) (fns : Nat → Int32) (fnp : Nat → Int32) (hje : je < 10) (hN : NI fnw) (hV : VI fnw) (hM : MB fnm) : MV l G yX12_findShould cX12_findShould 7 7 0 0 [.ref h0, .int (nI je)] [(h0, .inr (12, [.ref nw, .ref nk, .int mhasKept, .ref nt, .int mtaped, .ref nr, .int mrowMany, .int mroundOf, .int mroundFrom, .int mouts, .ref nm, .int mfromHour, .int mtoHour, .ref ns, .int mfrom, .int mto, .int msort, .int misFault, .int mdeep, .int mcoded, .int mlines, .ref nl, .ref nc, .ref nF, .ref np, .ref ntr, .ref nb, .int mbestCost, .ref nso, .ref nsi, .ref nit, .ref nsh, .ref nsf, .ref nss, .ref nrc, .int mtraced, .int mdealer, .int mnumber, .int mwhose, .int msize, .int misParted])), (nw, .inl (G.2.1, 1662, .inl fnw)), (nm, .inl (G.2.1, 36, .inl fnm)), (ns, .inl (G.2.1, 8, .inl fns)), (np, .inl (G.2.1, 100, .inl fnp))] (fun u : Int32 × Int32 × (Nat → Int32) × (Nat → Int32) × (Nat → Int32) => MB u.2.2.1) (fun u : Int32 × Int32 × (Nat → Int32) × (Nat → Int32) × (Nat → Int32) => [(h0, .inr (12, [.ref nw, .ref nk, .int mhasKept, .ref nt, .int mtaped, .ref nr, .int mrowMany, .int mroundOf, .int mroundFrom, .int mouts, .ref nm, .int u.1, .int u.2.1, .ref ns, .int mfrom, .int mto, .int msort, .int misFault, .int mdeep, .int mcoded, .int mlines, .ref nl, .ref nc, .ref nF, .ref np, .ref ntr, .ref nb, .int mbestCost, .ref nso, .ref nsi, .ref nit, .ref nsh, .ref nsf, .ref nss, .ref nrc, .int mtraced, .int mdealer, .int mnumber, .int mwhose, .int msize, .int misParted])), (nw, .inl (G.2.1, 1662, .inl fnw)), (nm, .inl (G.2.1, 36, .inl u.2.2.1)), (ns, .inl (G.2.1, 8, .inl u.2.2.2.1)), (np, .inl (G.2.1, 100, .inl u.2.2.2.2))]) := by
  refine MV.start (by decide +kernel) (Nat.le_of_ble_eq_true rfl) ?_
  intro p e s m below meth c A ls hC hK hP hD hS hA hl
  have hl : lv_has ls 7 [(0, .ref h0), (1, .int (nI je))] := hl
  obtain ⟨hx, hb, hr, hml, hB, hown, hlocks, hnm⟩ := id hC
  obtain ⟨kq, hkq, ekq⟩ := NI.nat hN (i := 5) (B := 12) (by decide +kernel) (by decide)
  obtain ⟨k6, hk6, ek6⟩ := NI.nat hN (i := 6) (B := 24) (by decide +kernel) (by decide)
  refine lv_iconst (v := 0) hx hb dX12_findShould_0 (by decide) ?_
  refine lv_istore_n (lv' := [(2, .int 0), (0, .ref h0), (1, .int (nI je))]) hx hb dX12_findShould_1 rfl hl (by decide) rfl (fun ls hl => ?_)
  have keyA : ∀ (nA kA : Nat) (vfh : Int32) (vth : Int32) (vA : Nat → Int32) (vS : Nat → Int32) (H : Heap) (locs : List Loc) (ls : Array Slot), kA + nA = 8 → (MB vA) → va_P G.1 vwCl [(h0, .inr (12, [.ref nw, .ref nk, .int mhasKept, .ref nt, .int mtaped, .ref nr, .int mrowMany, .int mroundOf, .int mroundFrom, .int mouts, .ref nm, .int vfh, .int vth, .ref ns, .int mfrom, .int mto, .int msort, .int misFault, .int mdeep, .int mcoded, .int mlines, .ref nl, .ref nc, .ref nF, .ref np, .ref ntr, .ref nb, .int mbestCost, .ref nso, .ref nsi, .ref nit, .ref nsh, .ref nsf, .ref nss, .ref nrc, .int mtraced, .int mdealer, .int mnumber, .int mwhose, .int msize, .int misParted])), (nw, .inl (G.2.1, 1662, .inl fnw)), (nm, .inl (G.2.1, 36, .inl vA)), (ns, .inl (G.2.1, 8, .inl vS)), (np, .inl (G.2.1, 100, .inl fnp))] H → va_D A [(h0, .inr (12, [.ref nw, .ref nk, .int mhasKept, .ref nt, .int mtaped, .ref nr, .int mrowMany, .int mroundOf, .int mroundFrom, .int mouts, .ref nm, .int vfh, .int vth, .ref ns, .int mfrom, .int mto, .int msort, .int misFault, .int mdeep, .int mcoded, .int mlines, .ref nl, .ref nc, .ref nF, .ref np, .ref ntr, .ref nb, .int mbestCost, .ref nso, .ref nsi, .ref nit, .ref nsh, .ref nsf, .ref nss, .ref nrc, .int mtraced, .int mdealer, .int mnumber, .int mwhose, .int msize, .int misParted])), (nw, .inl (G.2.1, 1662, .inl fnw)), (nm, .inl (G.2.1, 36, .inl vA)), (ns, .inl (G.2.1, 8, .inl vS)), (np, .inl (G.2.1, 100, .inl fnp))] → va_S A s.heap H locs → lv_has ls 7 [(2, .int (nI kA)), (0, .ref h0), (1, .int (nI je))] → W p l e (RM 7 0 0) s m ([.ref h0, .int (nI je)] : List Value).toArray below meth c H locs 0 0 (MQ below (QV G (fun u : Int32 × Int32 × (Nat → Int32) × (Nat → Int32) × (Nat → Int32) => MB u.2.2.1) (fun u : Int32 × Int32 × (Nat → Int32) × (Nat → Int32) × (Nat → Int32) => [(h0, .inr (12, [.ref nw, .ref nk, .int mhasKept, .ref nt, .int mtaped, .ref nr, .int mrowMany, .int mroundOf, .int mroundFrom, .int mouts, .ref nm, .int u.1, .int u.2.1, .ref ns, .int mfrom, .int mto, .int msort, .int misFault, .int mdeep, .int mcoded, .int mlines, .ref nl, .ref nc, .ref nF, .ref np, .ref ntr, .ref nb, .int mbestCost, .ref nso, .ref nsi, .ref nit, .ref nsh, .ref nsf, .ref nss, .ref nrc, .int mtraced, .int mdealer, .int mnumber, .int mwhose, .int msize, .int misParted])), (nw, .inl (G.2.1, 1662, .inl fnw)), (nm, .inl (G.2.1, 36, .inl u.2.2.1)), (ns, .inl (G.2.1, 8, .inl u.2.2.2.1)), (np, .inl (G.2.1, 100, .inl u.2.2.2.2))]) A) ([.ref h0, .int (nI je)] : List Value).toArray s 0 0 A) (F0 m 2 ls []) := by
    intro nA
    induction nA with
    | zero =>
      intro kA vfh vth vA vS H locs ls hkA hvA hP hD hS hl
      obtain rfl : 8 = kA := by omega
      have hl : lv_has ls 7 [(2, .int 8), (0, .ref h0), (1, .int (nI je))] := hl
      refine lv_iload_n hx hb dX12_findShould_2 rfl (lv_at hl 0 rfl) ?_
      refine lv_bipush (v := 8) hx hb dX12_findShould_3 (by decide) ?_
      refine lv_icmp_ge (tgt := 27) hx hb dX12_findShould_5 (by decide) (fun _ => ?_) (fun c9 => absurd (by decide) c9)
      refine lv_aload_n hx hb dX12_findShould_27 rfl (lv_at hl 1 rfl) ?_
      refine pV hC hK hl hP hD (m_rules l G h0 nw nk mhasKept nt mtaped nr mrowMany mroundOf mroundFrom mouts nm vfh vth ns mfrom mto msort misFault mdeep mcoded mlines nl nc nF np ntr nb mbestCost nso nsi nit nsh nsf nss nrc mtraced mdealer mnumber mwhose msize misParted fnw (hN)) si_X12_180 [0, 1] rfl rfl (by decide) rfl rfl rfl rfl rfl (Nat.le_of_ble_eq_true rfl) ⟨Nat.le_of_ble_eq_true rfl, Nat.le_of_ble_eq_true rfl⟩ ⟨by first | exact Nat.le_of_ble_eq_true rfl | exact Nat.zero_le _, by first | exact Nat.le_of_ble_eq_true rfl | exact Nat.zero_le _⟩ dX12_findShould_28 (fun r4915 hr4915 => ?_)
      obtain ⟨jv_4916, hpx4916, rfl⟩ := hr4915
      try dsimp only at hpx4916
      rcases Nat.eq_zero_or_pos jv_4916 with rfl | hpv4917
      · refine eqi (x1 := (-1)) (by decide) ?_
        refine lv_istore_n (lv' := [(2, .int (-1)), (0, .ref h0), (1, .int (nI je))]) hx hb dX12_findShould_31 rfl hl (by decide) rfl (fun ls hl => ?_)
        refine lv_iload_n hx hb dX12_findShould_32 rfl (lv_at hl 0 rfl) ?_
        refine lv_if_lt (tgt := 40) hx hb dX12_findShould_33 (by decide) (fun _ => ?_) (fun c9 => absurd (by decide) c9)
        refine lv_iconst (v := 0) hx hb dX12_findShould_40 (by decide) ?_
        refine lv_istore_n (lv' := [(3, .int 0), (2, .int (-1)), (0, .ref h0), (1, .int (nI je))]) hx hb dX12_findShould_41 rfl hl (by decide) rfl (fun ls hl => ?_)
        refine lv_iload_n hx hb dX12_findShould_42 rfl (lv_at hl 0 rfl) ?_
        refine lv_if_eq (tgt := 112) hx hb dX12_findShould_43 (by decide) (fun _ => ?_) (fun c9 => absurd (by decide) c9)
        exact RV hC hP hD hS [0, 1, 2, 3, 4] (vfh, vth, vA, vS, fnp) rfl rfl (by decide) (by first | assumption | exact hM) dX12_findShould_112
      · obtain ⟨v4917, rfl⟩ : ∃ z9, jv_4916 = z9 + 1 := ⟨jv_4916 - 1, by omega⟩
        refine eqi (x1 := nI v4917) (nI_sub1 v4917) ?_
        obtain ⟨L4917, hL4917, eL4917, hLN4917⟩ := VI.line hV (v := v4917) (by omega)
        refine lv_istore_n (lv' := [(2, .int (nI v4917)), (0, .ref h0), (1, .int (nI je))]) hx hb dX12_findShould_31 rfl hl (by decide) rfl (fun ls hl => ?_)
        refine lv_iload_n hx hb dX12_findShould_32 rfl (lv_at hl 0 rfl) ?_
        refine lv_if_lt (tgt := 40) hx hb dX12_findShould_33 (by decide) (fun c_33_4918 => ?_) (fun c_33_4918 => ?_)
        · refine lv_iconst (v := 0) hx hb dX12_findShould_40 (by decide) ?_
          refine lv_istore_n (lv' := [(3, .int 0), (2, .int (nI v4917)), (0, .ref h0), (1, .int (nI je))]) hx hb dX12_findShould_41 rfl hl (by decide) rfl (fun ls hl => ?_)
          refine lv_iload_n hx hb dX12_findShould_42 rfl (lv_at hl 0 rfl) ?_
          refine lv_if_eq (tgt := 112) hx hb dX12_findShould_43 (by decide) (fun _ => ?_) (fun c9 => absurd (by decide) c9)
          exact RV hC hP hD hS [0, 1, 2, 3, 4] (vfh, vth, vA, vS, fnp) rfl rfl (by decide) (by first | assumption | exact hM) dX12_findShould_112
        · refine lv_iconst (v := 1) hx hb dX12_findShould_36 (by decide) ?_
          refine lv_goto (tgt := 41) hx hb dX12_findShould_37 (by decide) ?_
          refine lv_istore_n (lv' := [(3, .int 1), (2, .int (nI v4917)), (0, .ref h0), (1, .int (nI je))]) hx hb dX12_findShould_41 rfl hl (by decide) rfl (fun ls hl => ?_)
          have keyW : ∀ (nW : Nat) (eaW : Int32) (w0 : Nat → Int32) (w1 : Nat → Int32) (H : Heap) (locs : List Loc) (ls : Array Slot), (eaW = 0 ∨ (eaW = 1 ∧ mu w0 < nW)) → va_P G.1 vwCl [(h0, .inr (12, [.ref nw, .ref nk, .int mhasKept, .ref nt, .int mtaped, .ref nr, .int mrowMany, .int mroundOf, .int mroundFrom, .int mouts, .ref nm, .int vfh, .int vth, .ref ns, .int mfrom, .int mto, .int msort, .int misFault, .int mdeep, .int mcoded, .int mlines, .ref nl, .ref nc, .ref nF, .ref np, .ref ntr, .ref nb, .int mbestCost, .ref nso, .ref nsi, .ref nit, .ref nsh, .ref nsf, .ref nss, .ref nrc, .int mtraced, .int mdealer, .int mnumber, .int mwhose, .int msize, .int misParted])), (nw, .inl (G.2.1, 1662, .inl fnw)), (nm, .inl (G.2.1, 36, .inl vA)), (ns, .inl (G.2.1, 8, .inl w0)), (np, .inl (G.2.1, 100, .inl w1))] H → va_D A [(h0, .inr (12, [.ref nw, .ref nk, .int mhasKept, .ref nt, .int mtaped, .ref nr, .int mrowMany, .int mroundOf, .int mroundFrom, .int mouts, .ref nm, .int vfh, .int vth, .ref ns, .int mfrom, .int mto, .int msort, .int misFault, .int mdeep, .int mcoded, .int mlines, .ref nl, .ref nc, .ref nF, .ref np, .ref ntr, .ref nb, .int mbestCost, .ref nso, .ref nsi, .ref nit, .ref nsh, .ref nsf, .ref nss, .ref nrc, .int mtraced, .int mdealer, .int mnumber, .int mwhose, .int msize, .int misParted])), (nw, .inl (G.2.1, 1662, .inl fnw)), (nm, .inl (G.2.1, 36, .inl vA)), (ns, .inl (G.2.1, 8, .inl w0)), (np, .inl (G.2.1, 100, .inl w1))] → va_S A s.heap H locs → lv_has ls 7 [(3, .int eaW), (2, .int (nI v4917)), (0, .ref h0), (1, .int (nI je))] → W p l e (RM 7 0 0) s m ([.ref h0, .int (nI je)] : List Value).toArray below meth c H locs 0 0 (MQ below (QV G (fun u : Int32 × Int32 × (Nat → Int32) × (Nat → Int32) × (Nat → Int32) => MB u.2.2.1) (fun u : Int32 × Int32 × (Nat → Int32) × (Nat → Int32) × (Nat → Int32) => [(h0, .inr (12, [.ref nw, .ref nk, .int mhasKept, .ref nt, .int mtaped, .ref nr, .int mrowMany, .int mroundOf, .int mroundFrom, .int mouts, .ref nm, .int u.1, .int u.2.1, .ref ns, .int mfrom, .int mto, .int msort, .int misFault, .int mdeep, .int mcoded, .int mlines, .ref nl, .ref nc, .ref nF, .ref np, .ref ntr, .ref nb, .int mbestCost, .ref nso, .ref nsi, .ref nit, .ref nsh, .ref nsf, .ref nss, .ref nrc, .int mtraced, .int mdealer, .int mnumber, .int mwhose, .int msize, .int misParted])), (nw, .inl (G.2.1, 1662, .inl fnw)), (nm, .inl (G.2.1, 36, .inl u.2.2.1)), (ns, .inl (G.2.1, 8, .inl u.2.2.2.1)), (np, .inl (G.2.1, 100, .inl u.2.2.2.2))]) A) ([.ref h0, .int (nI je)] : List Value).toArray s 0 0 A) (F0 m 42 ls []) := by
            intro nW
            induction nW with
            | zero =>
              intro eaW w0 w1 H locs ls hWW hP hD hS hl
              obtain rfl : eaW = 0 := hWW.elim (fun h => h) (fun h => absurd h.2 (Nat.not_lt_zero _))
              refine lv_iload_n hx hb dX12_findShould_42 rfl (lv_at hl 0 rfl) ?_
              refine lv_if_eq (tgt := 112) hx hb dX12_findShould_43 (by decide) (fun _ => ?_) (fun c9 => absurd (by decide) c9)
              exact RV hC hP hD hS [0, 1, 2, 3, 4] (vfh, vth, vA, w0, w1) rfl rfl (by decide) (by first | assumption | exact hM) dX12_findShould_112
            | succ nW ihW =>
              intro eaW w0 w1 H locs ls hWW hP hD hS hl
              rcases hWW with rfl | ⟨rfl, hWW⟩
              · refine lv_iload_n hx hb dX12_findShould_42 rfl (lv_at hl 0 rfl) ?_
                refine lv_if_eq (tgt := 112) hx hb dX12_findShould_43 (by decide) (fun _ => ?_) (fun c9 => absurd (by decide) c9)
                exact RV hC hP hD hS [0, 1, 2, 3, 4] (vfh, vth, vA, w0, w1) rfl rfl (by decide) (by first | assumption | exact hM) dX12_findShould_112
              · refine lv_iload_n hx hb dX12_findShould_42 rfl (lv_at hl 0 rfl) ?_
                refine lv_if_eq (tgt := 112) hx hb dX12_findShould_43 (by decide) (fun c9 => absurd c9 (by decide)) (fun _ => ?_)
                refine lv_iconst (v := 0) hx hb dX12_findShould_46 (by decide) ?_
                refine lv_istore_n (lv' := [(3, .int 0), (2, .int (nI v4917)), (0, .ref h0), (1, .int (nI je))]) hx hb dX12_findShould_47 rfl hl (by decide) rfl (fun ls hl => ?_)
                refine lv_iconst (v := 0) hx hb dX12_findShould_48 (by decide) ?_
                refine lv_istore (lv' := [(4, .int 0), (3, .int 0), (2, .int (nI v4917)), (0, .ref h0), (1, .int (nI je))]) hx hb dX12_findShould_49 hl (by decide) rfl (fun ls hl => ?_)
                have keyQ : ∀ (nQ kQ : Nat) (ea : Int32) (vQ : Nat → Int32) (vR : Nat → Int32) (H : Heap) (locs : List Loc) (ls : Array Slot), kQ + nQ = L4917 → ((ea = 0 ∧ mu vQ ≤ mu w0) ∨ (ea = 1 ∧ mu vQ < mu w0)) → va_P G.1 vwCl [(h0, .inr (12, [.ref nw, .ref nk, .int mhasKept, .ref nt, .int mtaped, .ref nr, .int mrowMany, .int mroundOf, .int mroundFrom, .int mouts, .ref nm, .int vfh, .int vth, .ref ns, .int mfrom, .int mto, .int msort, .int misFault, .int mdeep, .int mcoded, .int mlines, .ref nl, .ref nc, .ref nF, .ref np, .ref ntr, .ref nb, .int mbestCost, .ref nso, .ref nsi, .ref nit, .ref nsh, .ref nsf, .ref nss, .ref nrc, .int mtraced, .int mdealer, .int mnumber, .int mwhose, .int msize, .int misParted])), (nw, .inl (G.2.1, 1662, .inl fnw)), (nm, .inl (G.2.1, 36, .inl vA)), (ns, .inl (G.2.1, 8, .inl vQ)), (np, .inl (G.2.1, 100, .inl vR))] H → va_D A [(h0, .inr (12, [.ref nw, .ref nk, .int mhasKept, .ref nt, .int mtaped, .ref nr, .int mrowMany, .int mroundOf, .int mroundFrom, .int mouts, .ref nm, .int vfh, .int vth, .ref ns, .int mfrom, .int mto, .int msort, .int misFault, .int mdeep, .int mcoded, .int mlines, .ref nl, .ref nc, .ref nF, .ref np, .ref ntr, .ref nb, .int mbestCost, .ref nso, .ref nsi, .ref nit, .ref nsh, .ref nsf, .ref nss, .ref nrc, .int mtraced, .int mdealer, .int mnumber, .int mwhose, .int msize, .int misParted])), (nw, .inl (G.2.1, 1662, .inl fnw)), (nm, .inl (G.2.1, 36, .inl vA)), (ns, .inl (G.2.1, 8, .inl vQ)), (np, .inl (G.2.1, 100, .inl vR))] → va_S A s.heap H locs → lv_has ls 7 [(4, .int (nI kQ)), (3, .int ea), (2, .int (nI v4917)), (0, .ref h0), (1, .int (nI je))] → W p l e (RM 7 0 0) s m ([.ref h0, .int (nI je)] : List Value).toArray below meth c H locs 0 0 (MQ below (QV G (fun u : Int32 × Int32 × (Nat → Int32) × (Nat → Int32) × (Nat → Int32) => MB u.2.2.1) (fun u : Int32 × Int32 × (Nat → Int32) × (Nat → Int32) × (Nat → Int32) => [(h0, .inr (12, [.ref nw, .ref nk, .int mhasKept, .ref nt, .int mtaped, .ref nr, .int mrowMany, .int mroundOf, .int mroundFrom, .int mouts, .ref nm, .int u.1, .int u.2.1, .ref ns, .int mfrom, .int mto, .int msort, .int misFault, .int mdeep, .int mcoded, .int mlines, .ref nl, .ref nc, .ref nF, .ref np, .ref ntr, .ref nb, .int mbestCost, .ref nso, .ref nsi, .ref nit, .ref nsh, .ref nsf, .ref nss, .ref nrc, .int mtraced, .int mdealer, .int mnumber, .int mwhose, .int msize, .int misParted])), (nw, .inl (G.2.1, 1662, .inl fnw)), (nm, .inl (G.2.1, 36, .inl u.2.2.1)), (ns, .inl (G.2.1, 8, .inl u.2.2.2.1)), (np, .inl (G.2.1, 100, .inl u.2.2.2.2))]) A) ([.ref h0, .int (nI je)] : List Value).toArray s 0 0 A) (F0 m 51 ls []) := by
                  intro nQ
                  induction nQ with
                  | zero =>
                    intro kQ ea vQ vR H locs ls hkQ hQ hP hD hS hl
                    obtain rfl : L4917 = kQ := by omega
                    have hl : lv_has ls 7 [(4, .int (nI L4917)), (3, .int ea), (2, .int (nI v4917)), (0, .ref h0), (1, .int (nI je))] := hl
                    refine lv_iload hx hb dX12_findShould_51 (lv_at hl 0 rfl) ?_
                    refine lv_aload_n hx hb dX12_findShould_53 rfl (lv_at hl 3 rfl) ?_
                    refine lv_iload_n hx hb dX12_findShould_54 rfl (lv_at hl 2 rfl) ?_
                    refine pV hC hK hl hP hD (m_lines l G L4917 h0 v4917 nw nk mhasKept nt mtaped nr mrowMany mroundOf mroundFrom mouts nm vfh vth ns mfrom mto msort misFault mdeep mcoded mlines nl nc nF np ntr nb mbestCost nso nsi nit nsh nsf nss nrc mtraced mdealer mnumber mwhose msize misParted fnw (by omega) (eL4917)) si_X12_183 [0, 1] rfl rfl (by decide) rfl rfl rfl rfl rfl (Nat.le_of_ble_eq_true rfl) ⟨Nat.le_of_ble_eq_true rfl, Nat.le_of_ble_eq_true rfl⟩ ⟨by first | exact Nat.le_of_ble_eq_true rfl | exact Nat.zero_le _, by first | exact Nat.le_of_ble_eq_true rfl | exact Nat.zero_le _⟩ dX12_findShould_55 (fun r4919 hr4919 => ?_)
                    obtain rfl := hr4919
                    refine lv_icmp_ge (tgt := 109) hx hb dX12_findShould_58 (by decide) (fun _ => ?_) (fun c9 => absurd (Int32.le_refl _) c9)
                    refine lv_goto (tgt := 42) hx hb dX12_findShould_109 (by decide) ?_
                    exact ihW ea vQ vR _ _ _ (hQ.elim (fun h => Or.inl h.1) (fun h => Or.inr ⟨h.1, by have := h.2; omega⟩)) hP hD hS (lv_sub hl [1, 2, 3, 4] rfl)
                  | succ nQ ihQ =>
                    intro kQ ea vQ vR H locs ls hkQ hQ hP hD hS hl
                    refine lv_iload hx hb dX12_findShould_51 (lv_at hl 0 rfl) ?_
                    refine lv_aload_n hx hb dX12_findShould_53 rfl (lv_at hl 3 rfl) ?_
                    refine lv_iload_n hx hb dX12_findShould_54 rfl (lv_at hl 2 rfl) ?_
                    refine pV hC hK hl hP hD (m_lines l G L4917 h0 v4917 nw nk mhasKept nt mtaped nr mrowMany mroundOf mroundFrom mouts nm vfh vth ns mfrom mto msort misFault mdeep mcoded mlines nl nc nF np ntr nb mbestCost nso nsi nit nsh nsf nss nrc mtraced mdealer mnumber mwhose msize misParted fnw (by omega) (eL4917)) si_X12_183 [0, 1] rfl rfl (by decide) rfl rfl rfl rfl rfl (Nat.le_of_ble_eq_true rfl) ⟨Nat.le_of_ble_eq_true rfl, Nat.le_of_ble_eq_true rfl⟩ ⟨by first | exact Nat.le_of_ble_eq_true rfl | exact Nat.zero_le _, by first | exact Nat.le_of_ble_eq_true rfl | exact Nat.zero_le _⟩ dX12_findShould_55 (fun r4921 hr4921 => ?_)
                    obtain rfl := hr4921
                    refine lv_icmp_ge (tgt := 109) hx hb dX12_findShould_58 (by decide) (fun c9 => absurd c9 (nI_ge (a := kQ) (b := L4917) (by omega) (by omega))) (fun _ => ?_)
                    have hln4923 := hLN4917 kQ (by omega)
                    refine lv_aload_n hx hb dX12_findShould_61 rfl (lv_at hl 3 rfl) ?_
                    refine lv_iload_n hx hb dX12_findShould_62 rfl (lv_at hl 2 rfl) ?_
                    refine lv_iload hx hb dX12_findShould_63 (lv_at hl 0 rfl) ?_
                    refine lv_iload_n hx hb dX12_findShould_65 rfl (lv_at hl 4 rfl) ?_
                    refine iV (wr := [(nm, .inl (G.2.1, 36, .inl vA))]) hC hK hl hP hD hS hA (m_fromLine l G h0 v4917 kQ je nw nk mhasKept nt mtaped nr mrowMany mroundOf mroundFrom mouts nm vfh vth ns mfrom mto msort misFault mdeep mcoded mlines nl nc nF np ntr nb mbestCost nso nsi nit nsh nsf nss nrc mtraced mdealer mnumber mwhose msize misParted fnw vQ vR (by omega) (by omega) (hln4923) (by omega) (hN)) si_X12_186 [0, 1, 3, 4] [2] rfl rfl (by decide) rfl (by decide) (by decide) rfl rfl rfl rfl rfl (Nat.le_of_ble_eq_true rfl) ⟨Nat.le_of_ble_eq_true rfl, Nat.le_of_ble_eq_true rfl⟩ ⟨Nat.le_of_ble_eq_true rfl, Nat.le_of_ble_eq_true rfl⟩ dX12_findShould_66 (fun r4924 u4925 H locs hr4924 hP hD hS => ?_)
                    obtain ⟨gnp4926, rfl⟩ : ∃ z9, z9 = u4925 := ⟨_, rfl⟩
                    try dsimp only at hr4924
                    have hP : va_P G.1 vwCl [(nm, .inl (G.2.1, 36, .inl vA)), (h0, .inr (12, [.ref nw, .ref nk, .int mhasKept, .ref nt, .int mtaped, .ref nr, .int mrowMany, .int mroundOf, .int mroundFrom, .int mouts, .ref nm, .int vfh, .int vth, .ref ns, .int mfrom, .int mto, .int msort, .int misFault, .int mdeep, .int mcoded, .int mlines, .ref nl, .ref nc, .ref nF, .ref np, .ref ntr, .ref nb, .int mbestCost, .ref nso, .ref nsi, .ref nit, .ref nsh, .ref nsf, .ref nss, .ref nrc, .int mtraced, .int mdealer, .int mnumber, .int mwhose, .int msize, .int misParted])), (nw, .inl (G.2.1, 1662, .inl fnw)), (ns, .inl (G.2.1, 8, .inl vQ)), (np, .inl (G.2.1, 100, .inl gnp4926))] H := hP
                    have hD : va_D A [(nm, .inl (G.2.1, 36, .inl vA)), (h0, .inr (12, [.ref nw, .ref nk, .int mhasKept, .ref nt, .int mtaped, .ref nr, .int mrowMany, .int mroundOf, .int mroundFrom, .int mouts, .ref nm, .int vfh, .int vth, .ref ns, .int mfrom, .int mto, .int msort, .int misFault, .int mdeep, .int mcoded, .int mlines, .ref nl, .ref nc, .ref nF, .ref np, .ref ntr, .ref nb, .int mbestCost, .ref nso, .ref nsi, .ref nit, .ref nsh, .ref nsf, .ref nss, .ref nrc, .int mtraced, .int mdealer, .int mnumber, .int mwhose, .int msize, .int misParted])), (nw, .inl (G.2.1, 1662, .inl fnw)), (ns, .inl (G.2.1, 8, .inl vQ)), (np, .inl (G.2.1, 100, .inl gnp4926))] := hD
                    refine lv_istore (lv' := [(5, .int r4924), (4, .int (nI kQ)), (3, .int ea), (2, .int (nI v4917)), (0, .ref h0), (1, .int (nI je))]) hx hb dX12_findShould_69 hl (by decide) rfl (fun ls hl => ?_)
                    refine lv_aload_n hx hb dX12_findShould_71 rfl (lv_at hl 4 rfl) ?_
                    refine lv_iload_n hx hb dX12_findShould_72 rfl (lv_at hl 3 rfl) ?_
                    refine lv_iload hx hb dX12_findShould_73 (lv_at hl 1 rfl) ?_
                    refine pV hC hK hl hP hD (m_thingOf l G h0 v4917 kQ nw nk mhasKept nt mtaped nr mrowMany mroundOf mroundFrom mouts nm vfh vth ns mfrom mto msort misFault mdeep mcoded mlines nl nc nF np ntr nb mbestCost nso nsi nit nsh nsf nss nrc mtraced mdealer mnumber mwhose msize misParted fnw (by omega) (by omega) (hln4923)) si_X12_190 [1, 2] rfl rfl (by decide) rfl rfl rfl rfl rfl (Nat.le_of_ble_eq_true rfl) ⟨Nat.le_of_ble_eq_true rfl, Nat.le_of_ble_eq_true rfl⟩ ⟨by first | exact Nat.le_of_ble_eq_true rfl | exact Nat.zero_le _, by first | exact Nat.le_of_ble_eq_true rfl | exact Nat.zero_le _⟩ dX12_findShould_75 (fun r4927 hr4927 => ?_)
                    obtain ⟨t9_4928, hpx4928, rfl⟩ := hr4927
                    try dsimp only at hpx4928
                    refine lv_istore (lv' := [(6, .int (nI t9_4928)), (5, .int r4924), (4, .int (nI kQ)), (3, .int ea), (2, .int (nI v4917)), (0, .ref h0), (1, .int (nI je))]) hx hb dX12_findShould_78 hl (by decide) rfl (fun ls hl => ?_)
                    refine lv_iload hx hb dX12_findShould_80 (lv_at hl 1 rfl) ?_
                    refine lv_aload_n hx hb dX12_findShould_82 rfl (lv_at hl 5 rfl) ?_
                    refine gf_X12_29 hC rfl hK hP 1 rfl rfl dX12_findShould_83 ?_
                    refine lv_iload hx hb dX12_findShould_86 (lv_at hl 0 rfl) ?_
                    refine ald hC hK hP 3 rfl (vp_in_nI (by omega) (by omega)) (k := t9_4928) (nI_clamp (by omega)) (v := vQ t9_4928) rfl dX12_findShould_88 ?_
                    refine lv_topi (fun x4929 ex4929 => ?_)
                    refine lv_icmp_ge (tgt := 103) hx hb dX12_findShould_89 (by decide) (fun c_89_4930 => ?_) (fun c_89_4930 => ?_)
                    · refine lv_iinc (v := nI (kQ + 1)) (lv' := [(4, .int (nI (kQ + 1))), (6, .int (nI t9_4928)), (5, .int r4924), (3, .int ea), (2, .int (nI v4917)), (0, .ref h0), (1, .int (nI je))]) hx hb dX12_findShould_103 hl (k := 2) rfl (nI_1 _) (by decide) rfl (fun ls hl => ?_)
                      refine lv_goto (tgt := 51) hx hb dX12_findShould_106 (by decide) ?_
                      have hP := hP.sub (ws' := [(h0, .inr (12, [.ref nw, .ref nk, .int mhasKept, .ref nt, .int mtaped, .ref nr, .int mrowMany, .int mroundOf, .int mroundFrom, .int mouts, .ref nm, .int vfh, .int vth, .ref ns, .int mfrom, .int mto, .int msort, .int misFault, .int mdeep, .int mcoded, .int mlines, .ref nl, .ref nc, .ref nF, .ref np, .ref ntr, .ref nb, .int mbestCost, .ref nso, .ref nsi, .ref nit, .ref nsh, .ref nsf, .ref nss, .ref nrc, .int mtraced, .int mdealer, .int mnumber, .int mwhose, .int msize, .int misParted])), (nw, .inl (G.2.1, 1662, .inl fnw)), (nm, .inl (G.2.1, 36, .inl vA)), (ns, .inl (G.2.1, 8, .inl vQ)), (np, .inl (G.2.1, 100, .inl gnp4926))]) [1, 2, 0, 3, 4] rfl
                      have hD := hD.sub (ws' := [(h0, .inr (12, [.ref nw, .ref nk, .int mhasKept, .ref nt, .int mtaped, .ref nr, .int mrowMany, .int mroundOf, .int mroundFrom, .int mouts, .ref nm, .int vfh, .int vth, .ref ns, .int mfrom, .int mto, .int msort, .int misFault, .int mdeep, .int mcoded, .int mlines, .ref nl, .ref nc, .ref nF, .ref np, .ref ntr, .ref nb, .int mbestCost, .ref nso, .ref nsi, .ref nit, .ref nsh, .ref nsf, .ref nss, .ref nrc, .int mtraced, .int mdealer, .int mnumber, .int mwhose, .int msize, .int misParted])), (nw, .inl (G.2.1, 1662, .inl fnw)), (nm, .inl (G.2.1, 36, .inl vA)), (ns, .inl (G.2.1, 8, .inl vQ)), (np, .inl (G.2.1, 100, .inl gnp4926))]) [1, 2, 0, 3, 4] (by decide) rfl
                      exact ihQ (kQ + 1) ea vQ gnp4926 _ _ _ (by omega) (by first | assumption | exact Or.inl rfl | exact Or.inr rfl | exact Or.inl ⟨rfl, Nat.le_refl _⟩) hP hD hS (lv_sub hl [0, 3, 4, 5, 6] rfl)
                    · refine lv_aload_n hx hb dX12_findShould_92 rfl (lv_at hl 5 rfl) ?_
                      refine gf_X12_29 hC rfl hK hP 1 rfl rfl dX12_findShould_93 ?_
                      refine lv_iload hx hb dX12_findShould_96 (lv_at hl 0 rfl) ?_
                      refine lv_iload hx hb dX12_findShould_98 (lv_at hl 1 rfl) ?_
                      refine ast hC hK hP hD hS 3 (ws' := [(nm, .inl (G.2.1, 36, .inl vA)), (h0, .inr (12, [.ref nw, .ref nk, .int mhasKept, .ref nt, .int mtaped, .ref nr, .int mrowMany, .int mroundOf, .int mroundFrom, .int mouts, .ref nm, .int vfh, .int vth, .ref ns, .int mfrom, .int mto, .int msort, .int misFault, .int mdeep, .int mcoded, .int mlines, .ref nl, .ref nc, .ref nF, .ref np, .ref ntr, .ref nb, .int mbestCost, .ref nso, .ref nsi, .ref nit, .ref nsh, .ref nsf, .ref nss, .ref nrc, .int mtraced, .int mdealer, .int mnumber, .int mwhose, .int msize, .int misParted])), (nw, .inl (G.2.1, 1662, .inl fnw)), (ns, .inl (G.2.1, 8, .inl (upd vQ t9_4928 r4924))), (np, .inl (G.2.1, 100, .inl gnp4926))]) rfl (vp_in_nI (by omega) (by omega)) (k := t9_4928) (nI_clamp (by omega)) (rfl) dX12_findShould_100 (fun H locs hP hD hS => ?_)
                      have hmu9 := mu_upd (f := vQ) (t := t9_4928) (x := r4924) (y := x4929) (by omega) ex4929 c_89_4930
                      have hQ2 : mu vQ ≤ mu w0 := hQ.elim (fun h => h.2) (fun h => Nat.le_of_lt h.2)
                      have hQ3 : ((1 : Int32) = 0 ∧ mu (upd vQ t9_4928 r4924) ≤ mu w0) ∨ ((1 : Int32) = 1 ∧ mu (upd vQ t9_4928 r4924) < mu w0) := Or.inr ⟨rfl, by omega⟩
                      refine lv_iconst (v := 1) hx hb dX12_findShould_101 (by decide) ?_
                      refine lv_istore_n (lv' := [(3, .int 1), (6, .int (nI t9_4928)), (5, .int r4924), (4, .int (nI kQ)), (2, .int (nI v4917)), (0, .ref h0), (1, .int (nI je))]) hx hb dX12_findShould_102 rfl hl (by decide) rfl (fun ls hl => ?_)
                      refine lv_iinc (v := nI (kQ + 1)) (lv' := [(4, .int (nI (kQ + 1))), (3, .int 1), (6, .int (nI t9_4928)), (5, .int r4924), (2, .int (nI v4917)), (0, .ref h0), (1, .int (nI je))]) hx hb dX12_findShould_103 hl (k := 3) rfl (nI_1 _) (by decide) rfl (fun ls hl => ?_)
                      refine lv_goto (tgt := 51) hx hb dX12_findShould_106 (by decide) ?_
                      have hP := hP.sub (ws' := [(h0, .inr (12, [.ref nw, .ref nk, .int mhasKept, .ref nt, .int mtaped, .ref nr, .int mrowMany, .int mroundOf, .int mroundFrom, .int mouts, .ref nm, .int vfh, .int vth, .ref ns, .int mfrom, .int mto, .int msort, .int misFault, .int mdeep, .int mcoded, .int mlines, .ref nl, .ref nc, .ref nF, .ref np, .ref ntr, .ref nb, .int mbestCost, .ref nso, .ref nsi, .ref nit, .ref nsh, .ref nsf, .ref nss, .ref nrc, .int mtraced, .int mdealer, .int mnumber, .int mwhose, .int msize, .int misParted])), (nw, .inl (G.2.1, 1662, .inl fnw)), (nm, .inl (G.2.1, 36, .inl vA)), (ns, .inl (G.2.1, 8, .inl (upd vQ t9_4928 r4924))), (np, .inl (G.2.1, 100, .inl gnp4926))]) [1, 2, 0, 3, 4] rfl
                      have hD := hD.sub (ws' := [(h0, .inr (12, [.ref nw, .ref nk, .int mhasKept, .ref nt, .int mtaped, .ref nr, .int mrowMany, .int mroundOf, .int mroundFrom, .int mouts, .ref nm, .int vfh, .int vth, .ref ns, .int mfrom, .int mto, .int msort, .int misFault, .int mdeep, .int mcoded, .int mlines, .ref nl, .ref nc, .ref nF, .ref np, .ref ntr, .ref nb, .int mbestCost, .ref nso, .ref nsi, .ref nit, .ref nsh, .ref nsf, .ref nss, .ref nrc, .int mtraced, .int mdealer, .int mnumber, .int mwhose, .int msize, .int misParted])), (nw, .inl (G.2.1, 1662, .inl fnw)), (nm, .inl (G.2.1, 36, .inl vA)), (ns, .inl (G.2.1, 8, .inl (upd vQ t9_4928 r4924))), (np, .inl (G.2.1, 100, .inl gnp4926))]) [1, 2, 0, 3, 4] (by decide) rfl
                      exact ihQ (kQ + 1) 1 (upd vQ t9_4928 r4924) gnp4926 _ _ _ (by omega) (by first | assumption | exact Or.inl rfl | exact Or.inr rfl | exact Or.inl ⟨rfl, Nat.le_refl _⟩) hP hD hS (lv_sub hl [0, 1, 4, 5, 6] rfl)
                exact keyQ L4917 0 0 w0 w1 _ _ _ (by omega) (by first | assumption | exact Or.inl rfl | exact Or.inr rfl | exact Or.inl ⟨rfl, Nat.le_refl _⟩) hP hD hS (lv_sub hl [0, 1, 2, 3, 4] rfl)
          exact keyW (mu vS + 1) 1 vS fnp _ _ _ (Or.inr ⟨rfl, Nat.lt_succ_self _⟩) hP hD hS (lv_sub hl [0, 1, 2, 3] rfl)
    | succ nA ihA =>
      intro kA vfh vth vA vS H locs ls hkA hvA hP hD hS hl
      refine lv_iload_n hx hb dX12_findShould_2 rfl (lv_at hl 0 rfl) ?_
      refine lv_bipush (v := 8) hx hb dX12_findShould_3 (by decide) ?_
      refine lv_icmp_ge (tgt := 27) hx hb dX12_findShould_5 (by decide) (fun c9 => absurd c9 (nI_ge (a := kA) (b := 8) (by omega) (by omega))) (fun _ => ?_)
      refine lv_aload_n hx hb dX12_findShould_8 rfl (lv_at hl 1 rfl) ?_
      refine gf_X12_29 hC rfl hK hP 0 rfl rfl dX12_findShould_9 ?_
      refine lv_iload_n hx hb dX12_findShould_12 rfl (lv_at hl 0 rfl) ?_
      refine lv_aload_n hx hb dX12_findShould_13 rfl (lv_at hl 1 rfl) ?_
      refine lv_iload_n hx hb dX12_findShould_14 rfl (lv_at hl 2 rfl) ?_
      refine lv_iload_n hx hb dX12_findShould_15 rfl (lv_at hl 0 rfl) ?_
      refine lv_iconst (v := 1) hx hb dX12_findShould_16 (by decide) ?_
      refine iV (wr := [(ns, .inl (G.2.1, 8, .inl vS)), (np, .inl (G.2.1, 100, .inl fnp))]) hC hK hl hP hD hS hA (m_knewBy l G h0 je (nI kA) 1 nw nk mhasKept nt mtaped nr mrowMany mroundOf mroundFrom mouts nm vfh vth ns mfrom mto msort misFault mdeep mcoded mlines nl nc nF np ntr nb mbestCost nso nsi nit nsh nsf nss nrc mtraced mdealer mnumber mwhose msize misParted fnw vA (by omega) (hN) (hvA)) si_X12_176 [0, 1, 2] [3, 4] rfl rfl (by decide) rfl (by decide) (by decide) rfl rfl rfl rfl rfl (Nat.le_of_ble_eq_true rfl) ⟨Nat.le_of_ble_eq_true rfl, Nat.le_of_ble_eq_true rfl⟩ ⟨Nat.le_of_ble_eq_true rfl, Nat.le_of_ble_eq_true rfl⟩ dX12_findShould_17 (fun r4931 u4932 H locs hr4931 hP hD hS => ?_)
      obtain ⟨fh14933, th14934, gnm4935⟩ := u4932
      try dsimp only at hr4931
      have hP : va_P G.1 vwCl [(ns, .inl (G.2.1, 8, .inl vS)), (np, .inl (G.2.1, 100, .inl fnp)), (h0, .inr (12, [.ref nw, .ref nk, .int mhasKept, .ref nt, .int mtaped, .ref nr, .int mrowMany, .int mroundOf, .int mroundFrom, .int mouts, .ref nm, .int fh14933, .int th14934, .ref ns, .int mfrom, .int mto, .int msort, .int misFault, .int mdeep, .int mcoded, .int mlines, .ref nl, .ref nc, .ref nF, .ref np, .ref ntr, .ref nb, .int mbestCost, .ref nso, .ref nsi, .ref nit, .ref nsh, .ref nsf, .ref nss, .ref nrc, .int mtraced, .int mdealer, .int mnumber, .int mwhose, .int msize, .int misParted])), (nw, .inl (G.2.1, 1662, .inl fnw)), (nm, .inl (G.2.1, 36, .inl gnm4935))] H := hP
      have hD : va_D A [(ns, .inl (G.2.1, 8, .inl vS)), (np, .inl (G.2.1, 100, .inl fnp)), (h0, .inr (12, [.ref nw, .ref nk, .int mhasKept, .ref nt, .int mtaped, .ref nr, .int mrowMany, .int mroundOf, .int mroundFrom, .int mouts, .ref nm, .int fh14933, .int th14934, .ref ns, .int mfrom, .int mto, .int msort, .int misFault, .int mdeep, .int mcoded, .int mlines, .ref nl, .ref nc, .ref nF, .ref np, .ref ntr, .ref nb, .int mbestCost, .ref nso, .ref nsi, .ref nit, .ref nsh, .ref nsf, .ref nss, .ref nrc, .int mtraced, .int mdealer, .int mnumber, .int mwhose, .int msize, .int misParted])), (nw, .inl (G.2.1, 1662, .inl fnw)), (nm, .inl (G.2.1, 36, .inl gnm4935))] := hD
      obtain ⟨hr4931, w4936⟩ := hr4931
      refine ast hC hK hP hD hS 0 (ws' := [(ns, .inl (G.2.1, 8, .inl (upd vS kA r4931))), (np, .inl (G.2.1, 100, .inl fnp)), (h0, .inr (12, [.ref nw, .ref nk, .int mhasKept, .ref nt, .int mtaped, .ref nr, .int mrowMany, .int mroundOf, .int mroundFrom, .int mouts, .ref nm, .int fh14933, .int th14934, .ref ns, .int mfrom, .int mto, .int msort, .int misFault, .int mdeep, .int mcoded, .int mlines, .ref nl, .ref nc, .ref nF, .ref np, .ref ntr, .ref nb, .int mbestCost, .ref nso, .ref nsi, .ref nit, .ref nsh, .ref nsf, .ref nss, .ref nrc, .int mtraced, .int mdealer, .int mnumber, .int mwhose, .int msize, .int misParted])), (nw, .inl (G.2.1, 1662, .inl fnw)), (nm, .inl (G.2.1, 36, .inl gnm4935))]) rfl (vp_in_nI (by omega) (by omega)) (k := kA) (nI_clamp (by omega)) (rfl) dX12_findShould_20 (fun H locs hP hD hS => ?_)
      refine lv_iinc (v := nI (kA + 1)) (lv' := [(2, .int (nI (kA + 1))), (0, .ref h0), (1, .int (nI je))]) hx hb dX12_findShould_21 hl (k := 0) rfl (nI_1 _) (by decide) rfl (fun ls hl => ?_)
      refine lv_goto (tgt := 2) hx hb dX12_findShould_24 (by decide) ?_
      have hP := hP.sub (ws' := [(h0, .inr (12, [.ref nw, .ref nk, .int mhasKept, .ref nt, .int mtaped, .ref nr, .int mrowMany, .int mroundOf, .int mroundFrom, .int mouts, .ref nm, .int fh14933, .int th14934, .ref ns, .int mfrom, .int mto, .int msort, .int misFault, .int mdeep, .int mcoded, .int mlines, .ref nl, .ref nc, .ref nF, .ref np, .ref ntr, .ref nb, .int mbestCost, .ref nso, .ref nsi, .ref nit, .ref nsh, .ref nsf, .ref nss, .ref nrc, .int mtraced, .int mdealer, .int mnumber, .int mwhose, .int msize, .int misParted])), (nw, .inl (G.2.1, 1662, .inl fnw)), (nm, .inl (G.2.1, 36, .inl gnm4935)), (ns, .inl (G.2.1, 8, .inl (upd vS kA r4931))), (np, .inl (G.2.1, 100, .inl fnp))]) [2, 3, 4, 0, 1] rfl
      have hD := hD.sub (ws' := [(h0, .inr (12, [.ref nw, .ref nk, .int mhasKept, .ref nt, .int mtaped, .ref nr, .int mrowMany, .int mroundOf, .int mroundFrom, .int mouts, .ref nm, .int fh14933, .int th14934, .ref ns, .int mfrom, .int mto, .int msort, .int misFault, .int mdeep, .int mcoded, .int mlines, .ref nl, .ref nc, .ref nF, .ref np, .ref ntr, .ref nb, .int mbestCost, .ref nso, .ref nsi, .ref nit, .ref nsh, .ref nsf, .ref nss, .ref nrc, .int mtraced, .int mdealer, .int mnumber, .int mwhose, .int msize, .int misParted])), (nw, .inl (G.2.1, 1662, .inl fnw)), (nm, .inl (G.2.1, 36, .inl gnm4935)), (ns, .inl (G.2.1, 8, .inl (upd vS kA r4931))), (np, .inl (G.2.1, 100, .inl fnp))]) [2, 3, 4, 0, 1] (by decide) rfl
      exact ihA (kA + 1) fh14933 th14934 gnm4935 (upd vS kA r4931) _ _ _ (by omega) (by first | assumption | exact Or.inl rfl | exact Or.inr rfl) hP hD hS (lv_sub hl [0, 1, 2] rfl)
  exact keyA 8 0 mfromHour mtoHour fnm fns _ _ _ (by omega) (by first | assumption | exact Or.inl rfl | exact Or.inr rfl) hP hD hS (lv_sub hl [0, 1, 2] rfl)
set_option maxHeartbeats 4000000 in
set_option maxRecDepth 100000 in
theorem m_fromOf (l : Launch) (G : GG) (h0 : Nat) (je : Nat) (jt : Nat) (wy : Int32) (nw : Nat) (nk : Nat) (mhasKept : Int32) (nt : Nat) (mtaped : Int32) (nr : Nat) (mrowMany : Int32) (mroundOf : Int32) (mroundFrom : Int32) (mouts : Int32) (nm : Nat) (mfromHour : Int32) (mtoHour : Int32) (ns : Nat) (mfrom : Int32) (mto : Int32) (msort : Int32) (misFault : Int32) (mdeep : Int32) (mcoded : Int32) (mlines : Int32) (nl : Nat) (nc : Nat) (nF : Nat) (np : Nat) (ntr : Nat) (nb : Nat) (mbestCost : Int32) (nso : Nat) (nsi : Nat) (nit : Nat) (nsh : Nat) (nsf : Nat) (nss : Nat) (nrc : Nat) (mtraced : Int32) (mdealer : Int32) (mnumber : Int32) (mwhose : Int32) (msize : Int32) (misParted : Int32) (fnw : Nat → Int32) (fnm : Nat → Int32) (fns : Nat → Int32) (fnp : Nat → Int32) (hje : je < 10) (hjt : jt < 8) (hN : NI fnw) (hV : VI fnw) (hM : MB fnm) : MI l G yX12_fromOf cX12_fromOf 4 (some .int) 8 0 0 [.ref h0, .int (nI je), .int (nI jt), .int wy] [(h0, .inr (12, [.ref nw, .ref nk, .int mhasKept, .ref nt, .int mtaped, .ref nr, .int mrowMany, .int mroundOf, .int mroundFrom, .int mouts, .ref nm, .int mfromHour, .int mtoHour, .ref ns, .int mfrom, .int mto, .int msort, .int misFault, .int mdeep, .int mcoded, .int mlines, .ref nl, .ref nc, .ref nF, .ref np, .ref ntr, .ref nb, .int mbestCost, .ref nso, .ref nsi, .ref nit, .ref nsh, .ref nsf, .ref nss, .ref nrc, .int mtraced, .int mdealer, .int mnumber, .int mwhose, .int msize, .int misParted])), (nw, .inl (G.2.1, 1662, .inl fnw)), (nm, .inl (G.2.1, 36, .inl fnm)), (ns, .inl (G.2.1, 8, .inl fns)), (np, .inl (G.2.1, 100, .inl fnp))] (fun (r : Int32) (u : Int32 × Int32 × (Nat → Int32) × (Nat → Int32) × (Nat → Int32)) => (True) ∧ (MB u.2.2.1)) (fun u : Int32 × Int32 × (Nat → Int32) × (Nat → Int32) × (Nat → Int32) => [(h0, .inr (12, [.ref nw, .ref nk, .int mhasKept, .ref nt, .int mtaped, .ref nr, .int mrowMany, .int mroundOf, .int mroundFrom, .int mouts, .ref nm, .int u.1, .int u.2.1, .ref ns, .int mfrom, .int mto, .int msort, .int misFault, .int mdeep, .int mcoded, .int mlines, .ref nl, .ref nc, .ref nF, .ref np, .ref ntr, .ref nb, .int mbestCost, .ref nso, .ref nsi, .ref nit, .ref nsh, .ref nsf, .ref nss, .ref nrc, .int mtraced, .int mdealer, .int mnumber, .int mwhose, .int msize, .int misParted])), (nw, .inl (G.2.1, 1662, .inl fnw)), (nm, .inl (G.2.1, 36, .inl u.2.2.1)), (ns, .inl (G.2.1, 8, .inl u.2.2.2.1)), (np, .inl (G.2.1, 100, .inl u.2.2.2.2))]) := by
  refine MI.start (by decide +kernel) (Nat.le_of_ble_eq_true rfl) ?_
  intro p e s m below meth c A ls hC hK hP hD hS hA hl
  have hl : lv_has ls 4 [(0, .ref h0), (1, .int (nI je)), (2, .int (nI jt)), (3, .int wy)] := hl
  obtain ⟨hx, hb, hr, hml, hB, hown, hlocks, hnm⟩ := id hC
  refine lv_iload_n hx hb dX12_fromOf_0 rfl (lv_at hl 3 rfl) ?_
  refine lv_iconst (v := 2) hx hb dX12_fromOf_1 (by decide) ?_
  refine lv_icmp_ge (tgt := 21) hx hb dX12_fromOf_2 (by decide) (fun c_2_4937 => ?_) (fun c_2_4937 => ?_)
  · refine lv_aload_n hx hb dX12_fromOf_21 rfl (lv_at hl 0 rfl) ?_
    refine lv_iload_n hx hb dX12_fromOf_22 rfl (lv_at hl 1 rfl) ?_
    refine vV (wr := []) hC hK hl hP hD hS hA (m_findShould l G h0 je nw nk mhasKept nt mtaped nr mrowMany mroundOf mroundFrom mouts nm mfromHour mtoHour ns mfrom mto msort misFault mdeep mcoded mlines nl nc nF np ntr nb mbestCost nso nsi nit nsh nsf nss nrc mtraced mdealer mnumber mwhose msize misParted fnw fnm fns fnp (by omega) (hN) (hV) (hM)) si_X12_199 [0, 1, 2, 3, 4] [] rfl rfl (by decide) rfl (by decide) (by decide) rfl rfl rfl rfl rfl (Nat.le_of_ble_eq_true rfl) ⟨Nat.le_of_ble_eq_true rfl, Nat.le_of_ble_eq_true rfl⟩ ⟨Nat.le_of_ble_eq_true rfl, Nat.le_of_ble_eq_true rfl⟩ dX12_fromOf_23 (fun u4939 H locs hr4938 hP hD hS => ?_)
    obtain ⟨fh14940, th14941, gnm4942, gns4943, gnp4944⟩ := u4939
    try dsimp only at hr4938
    have hP : va_P G.1 vwCl [(h0, .inr (12, [.ref nw, .ref nk, .int mhasKept, .ref nt, .int mtaped, .ref nr, .int mrowMany, .int mroundOf, .int mroundFrom, .int mouts, .ref nm, .int fh14940, .int th14941, .ref ns, .int mfrom, .int mto, .int msort, .int misFault, .int mdeep, .int mcoded, .int mlines, .ref nl, .ref nc, .ref nF, .ref np, .ref ntr, .ref nb, .int mbestCost, .ref nso, .ref nsi, .ref nit, .ref nsh, .ref nsf, .ref nss, .ref nrc, .int mtraced, .int mdealer, .int mnumber, .int mwhose, .int msize, .int misParted])), (nw, .inl (G.2.1, 1662, .inl fnw)), (nm, .inl (G.2.1, 36, .inl gnm4942)), (ns, .inl (G.2.1, 8, .inl gns4943)), (np, .inl (G.2.1, 100, .inl gnp4944))] H := hP
    have hD : va_D A [(h0, .inr (12, [.ref nw, .ref nk, .int mhasKept, .ref nt, .int mtaped, .ref nr, .int mrowMany, .int mroundOf, .int mroundFrom, .int mouts, .ref nm, .int fh14940, .int th14941, .ref ns, .int mfrom, .int mto, .int msort, .int misFault, .int mdeep, .int mcoded, .int mlines, .ref nl, .ref nc, .ref nF, .ref np, .ref ntr, .ref nb, .int mbestCost, .ref nso, .ref nsi, .ref nit, .ref nsh, .ref nsf, .ref nss, .ref nrc, .int mtraced, .int mdealer, .int mnumber, .int mwhose, .int msize, .int misParted])), (nw, .inl (G.2.1, 1662, .inl fnw)), (nm, .inl (G.2.1, 36, .inl gnm4942)), (ns, .inl (G.2.1, 8, .inl gns4943)), (np, .inl (G.2.1, 100, .inl gnp4944))] := hD
    have w4945 := hr4938
    refine lv_aload_n hx hb dX12_fromOf_26 rfl (lv_at hl 0 rfl) ?_
    refine gf_X12_29 hC rfl hK hP 0 rfl rfl dX12_fromOf_27 ?_
    refine lv_iload_n hx hb dX12_fromOf_30 rfl (lv_at hl 2 rfl) ?_
    refine ald hC hK hP 3 rfl (vp_in_nI (by omega) (by omega)) (k := jt) (nI_clamp (by omega)) (v := gns4943 jt) rfl dX12_fromOf_31 ?_
    refine lv_topi (fun x4946 ex4946 => ?_)
    exact RI (v := x4946) hC hP hD hS [0, 1, 2, 3, 4] (fh14940, th14941, gnm4942, gns4943, gnp4944) rfl rfl (by decide) (⟨trivial, by first | assumption | exact hM⟩) rfl dX12_fromOf_32
  · refine lv_aload_n hx hb dX12_fromOf_5 rfl (lv_at hl 0 rfl) ?_
    refine lv_iload_n hx hb dX12_fromOf_6 rfl (lv_at hl 1 rfl) ?_
    refine lv_iload_n hx hb dX12_fromOf_7 rfl (lv_at hl 2 rfl) ?_
    refine lv_iload_n hx hb dX12_fromOf_8 rfl (lv_at hl 3 rfl) ?_
    refine lv_if_ne (tgt := 16) hx hb dX12_fromOf_9 (by decide) (fun c_9_4947 => ?_) (fun c_9_4947 => ?_)
    · refine lv_iconst (v := 0) hx hb dX12_fromOf_16 (by decide) ?_
      refine iV (wr := [(ns, .inl (G.2.1, 8, .inl fns)), (np, .inl (G.2.1, 100, .inl fnp))]) hC hK hl hP hD hS hA (m_knewBy l G h0 je (nI jt) 0 nw nk mhasKept nt mtaped nr mrowMany mroundOf mroundFrom mouts nm mfromHour mtoHour ns mfrom mto msort misFault mdeep mcoded mlines nl nc nF np ntr nb mbestCost nso nsi nit nsh nsf nss nrc mtraced mdealer mnumber mwhose msize misParted fnw fnm (by omega) (hN) (hM)) si_X12_176 [0, 1, 2] [3, 4] rfl rfl (by decide) rfl (by decide) (by decide) rfl rfl rfl rfl rfl (Nat.le_of_ble_eq_true rfl) ⟨Nat.le_of_ble_eq_true rfl, Nat.le_of_ble_eq_true rfl⟩ ⟨Nat.le_of_ble_eq_true rfl, Nat.le_of_ble_eq_true rfl⟩ dX12_fromOf_17 (fun r4948 u4949 H locs hr4948 hP hD hS => ?_)
      obtain ⟨fh14950, th14951, gnm4952⟩ := u4949
      try dsimp only at hr4948
      have hP : va_P G.1 vwCl [(ns, .inl (G.2.1, 8, .inl fns)), (np, .inl (G.2.1, 100, .inl fnp)), (h0, .inr (12, [.ref nw, .ref nk, .int mhasKept, .ref nt, .int mtaped, .ref nr, .int mrowMany, .int mroundOf, .int mroundFrom, .int mouts, .ref nm, .int fh14950, .int th14951, .ref ns, .int mfrom, .int mto, .int msort, .int misFault, .int mdeep, .int mcoded, .int mlines, .ref nl, .ref nc, .ref nF, .ref np, .ref ntr, .ref nb, .int mbestCost, .ref nso, .ref nsi, .ref nit, .ref nsh, .ref nsf, .ref nss, .ref nrc, .int mtraced, .int mdealer, .int mnumber, .int mwhose, .int msize, .int misParted])), (nw, .inl (G.2.1, 1662, .inl fnw)), (nm, .inl (G.2.1, 36, .inl gnm4952))] H := hP
      have hD : va_D A [(ns, .inl (G.2.1, 8, .inl fns)), (np, .inl (G.2.1, 100, .inl fnp)), (h0, .inr (12, [.ref nw, .ref nk, .int mhasKept, .ref nt, .int mtaped, .ref nr, .int mrowMany, .int mroundOf, .int mroundFrom, .int mouts, .ref nm, .int fh14950, .int th14951, .ref ns, .int mfrom, .int mto, .int msort, .int misFault, .int mdeep, .int mcoded, .int mlines, .ref nl, .ref nc, .ref nF, .ref np, .ref ntr, .ref nb, .int mbestCost, .ref nso, .ref nsi, .ref nit, .ref nsh, .ref nsf, .ref nss, .ref nrc, .int mtraced, .int mdealer, .int mnumber, .int mwhose, .int msize, .int misParted])), (nw, .inl (G.2.1, 1662, .inl fnw)), (nm, .inl (G.2.1, 36, .inl gnm4952))] := hD
      obtain ⟨hr4948, w4953⟩ := hr4948
      exact RI (v := r4948) hC hP hD hS [2, 3, 4, 0, 1] (fh14950, th14951, gnm4952, fns, fnp) rfl rfl (by decide) (⟨trivial, by first | assumption | exact hM⟩) rfl dX12_fromOf_20
    · refine lv_iconst (v := 1) hx hb dX12_fromOf_12 (by decide) ?_
      refine lv_goto (tgt := 17) hx hb dX12_fromOf_13 (by decide) ?_
      refine iV (wr := [(ns, .inl (G.2.1, 8, .inl fns)), (np, .inl (G.2.1, 100, .inl fnp))]) hC hK hl hP hD hS hA (m_knewBy l G h0 je (nI jt) 1 nw nk mhasKept nt mtaped nr mrowMany mroundOf mroundFrom mouts nm mfromHour mtoHour ns mfrom mto msort misFault mdeep mcoded mlines nl nc nF np ntr nb mbestCost nso nsi nit nsh nsf nss nrc mtraced mdealer mnumber mwhose msize misParted fnw fnm (by omega) (hN) (hM)) si_X12_176 [0, 1, 2] [3, 4] rfl rfl (by decide) rfl (by decide) (by decide) rfl rfl rfl rfl rfl (Nat.le_of_ble_eq_true rfl) ⟨Nat.le_of_ble_eq_true rfl, Nat.le_of_ble_eq_true rfl⟩ ⟨Nat.le_of_ble_eq_true rfl, Nat.le_of_ble_eq_true rfl⟩ dX12_fromOf_17 (fun r4954 u4955 H locs hr4954 hP hD hS => ?_)
      obtain ⟨fh14956, th14957, gnm4958⟩ := u4955
      try dsimp only at hr4954
      have hP : va_P G.1 vwCl [(ns, .inl (G.2.1, 8, .inl fns)), (np, .inl (G.2.1, 100, .inl fnp)), (h0, .inr (12, [.ref nw, .ref nk, .int mhasKept, .ref nt, .int mtaped, .ref nr, .int mrowMany, .int mroundOf, .int mroundFrom, .int mouts, .ref nm, .int fh14956, .int th14957, .ref ns, .int mfrom, .int mto, .int msort, .int misFault, .int mdeep, .int mcoded, .int mlines, .ref nl, .ref nc, .ref nF, .ref np, .ref ntr, .ref nb, .int mbestCost, .ref nso, .ref nsi, .ref nit, .ref nsh, .ref nsf, .ref nss, .ref nrc, .int mtraced, .int mdealer, .int mnumber, .int mwhose, .int msize, .int misParted])), (nw, .inl (G.2.1, 1662, .inl fnw)), (nm, .inl (G.2.1, 36, .inl gnm4958))] H := hP
      have hD : va_D A [(ns, .inl (G.2.1, 8, .inl fns)), (np, .inl (G.2.1, 100, .inl fnp)), (h0, .inr (12, [.ref nw, .ref nk, .int mhasKept, .ref nt, .int mtaped, .ref nr, .int mrowMany, .int mroundOf, .int mroundFrom, .int mouts, .ref nm, .int fh14956, .int th14957, .ref ns, .int mfrom, .int mto, .int msort, .int misFault, .int mdeep, .int mcoded, .int mlines, .ref nl, .ref nc, .ref nF, .ref np, .ref ntr, .ref nb, .int mbestCost, .ref nso, .ref nsi, .ref nit, .ref nsh, .ref nsf, .ref nss, .ref nrc, .int mtraced, .int mdealer, .int mnumber, .int mwhose, .int msize, .int misParted])), (nw, .inl (G.2.1, 1662, .inl fnw)), (nm, .inl (G.2.1, 36, .inl gnm4958))] := hD
      obtain ⟨hr4954, w4959⟩ := hr4954
      exact RI (v := r4954) hC hP hD hS [2, 3, 4, 0, 1] (fh14956, th14957, gnm4958, fns, fnp) rfl rfl (by decide) (⟨trivial, by first | assumption | exact hM⟩) rfl dX12_fromOf_20
set_option maxHeartbeats 4000000 in
set_option maxRecDepth 100000 in
theorem r_knew (l : Launch) (G : GG) (h0 : Nat) (x1 : Int32) (x2 : Int32) (x3 : Int32) (nw : Nat) (nk : Nat) (mhasKept : Int32) (nt : Nat) (mtaped : Int32) (nr : Nat) (mrowMany : Int32) (mroundOf : Int32) (mroundFrom : Int32) (nm : Nat) (mfromHour : Int32) (mtoHour : Int32) (ns : Nat) (mfrom : Int32) (mto : Int32) (msort : Int32) (misFault : Int32) (mdeep : Int32) (mcoded : Int32) (mlines : Int32) (nl : Nat) (nc : Nat) (nF : Nat) (np : Nat) (ntr : Nat) (nb : Nat) (mbestCost : Int32) (nso : Nat) (nsi : Nat) (nit : Nat) (nsh : Nat) (nsf : Nat) (nss : Nat) (nrc : Nat) (mtraced : Int32) (mdealer : Int32) (mnumber : Int32) (mwhose : Int32) (msize : Int32) (misParted : Int32) (fnw : Nat → Int32) (fnm : Nat → Int32) (fns : Nat → Int32) (fnp : Nat → Int32) (hN : NI fnw) (hV : VI fnw) (hM : MB fnm) : MI l G yX12_knew cX12_knew 5 (some .int) 9 0 0 [.ref h0, .int x1, .int x2, .int x3] [(h0, .inr (12, [.ref nw, .ref nk, .int mhasKept, .ref nt, .int mtaped, .ref nr, .int mrowMany, .int mroundOf, .int mroundFrom, .int 0, .ref nm, .int mfromHour, .int mtoHour, .ref ns, .int mfrom, .int mto, .int msort, .int misFault, .int mdeep, .int mcoded, .int mlines, .ref nl, .ref nc, .ref nF, .ref np, .ref ntr, .ref nb, .int mbestCost, .ref nso, .ref nsi, .ref nit, .ref nsh, .ref nsf, .ref nss, .ref nrc, .int mtraced, .int mdealer, .int mnumber, .int mwhose, .int msize, .int misParted])), (nw, .inl (G.2.1, 1662, .inl fnw)), (nm, .inl (G.2.1, 36, .inl fnm)), (ns, .inl (G.2.1, 8, .inl fns)), (np, .inl (G.2.1, 100, .inl fnp))] (fun (r : Int32) (u : Int32 × Int32 × (Nat → Int32) × (Nat → Int32) × (Nat → Int32)) => (True) ∧ (MB u.2.2.1)) (fun u : Int32 × Int32 × (Nat → Int32) × (Nat → Int32) × (Nat → Int32) => [(h0, .inr (12, [.ref nw, .ref nk, .int mhasKept, .ref nt, .int mtaped, .ref nr, .int mrowMany, .int mroundOf, .int mroundFrom, .int 0, .ref nm, .int u.1, .int u.2.1, .ref ns, .int mfrom, .int mto, .int msort, .int misFault, .int mdeep, .int mcoded, .int mlines, .ref nl, .ref nc, .ref nF, .ref np, .ref ntr, .ref nb, .int mbestCost, .ref nso, .ref nsi, .ref nit, .ref nsh, .ref nsf, .ref nss, .ref nrc, .int mtraced, .int mdealer, .int mnumber, .int mwhose, .int msize, .int misParted])), (nw, .inl (G.2.1, 1662, .inl fnw)), (nm, .inl (G.2.1, 36, .inl u.2.2.1)), (ns, .inl (G.2.1, 8, .inl u.2.2.2.1)), (np, .inl (G.2.1, 100, .inl u.2.2.2.2))]) := by
  refine MI.start (by decide +kernel) (Nat.le_of_ble_eq_true rfl) ?_
  intro p e s m below meth c A ls hC hK hP hD hS hA hl
  have hl : lv_has ls 5 [(0, .ref h0), (1, .int x1), (2, .int x2), (3, .int x3)] := hl
  obtain ⟨hx, hb, hr, hml, hB, hown, hlocks, hnm⟩ := id hC
  obtain ⟨kp, hkp, ekp⟩ := NI.nat hN (i := 4) (B := 10) (by decide +kernel) (by decide)
  obtain ⟨kq, hkq, ekq⟩ := NI.nat hN (i := 5) (B := 12) (by decide +kernel) (by decide)
  obtain ⟨k6, hk6, ek6⟩ := NI.nat hN (i := 6) (B := 24) (by decide +kernel) (by decide)
  refine lv_aload_n hx hb dX12_knew_0 rfl (lv_at hl 0 rfl) ?_
  refine lv_iload_n hx hb dX12_knew_1 rfl (lv_at hl 1 rfl) ?_
  refine lv_iconst (v := 4) hx hb dX12_knew_2 (by decide) ?_
  refine pV hC hK hl hP hD (m_is l G kp h0 x1 4 nw nk mhasKept nt mtaped nr mrowMany mroundOf mroundFrom 0 nm mfromHour mtoHour ns mfrom mto msort misFault mdeep mcoded mlines nl nc nF np ntr nb mbestCost nso nsi nit nsh nsf nss nrc mtraced mdealer mnumber mwhose msize misParted fnw (by omega) (ekp) (by omega)) si_X12_120 [0, 1] rfl rfl (by decide) rfl rfl rfl rfl rfl (Nat.le_of_ble_eq_true rfl) ⟨Nat.le_of_ble_eq_true rfl, Nat.le_of_ble_eq_true rfl⟩ ⟨by first | exact Nat.le_of_ble_eq_true rfl | exact Nat.zero_le _, by first | exact Nat.le_of_ble_eq_true rfl | exact Nat.zero_le _⟩ dX12_knew_3 (fun r4960 hr4960 => ?_)
  rcases hr4960 with ⟨rfl, a4961⟩ | ⟨rfl, a4961⟩
  · refine lv_if_eq (tgt := 28) hx hb dX12_knew_6 (by decide) (fun c9 => absurd c9 (by decide)) (fun _ => ?_)
    refine lv_iload_n hx hb dX12_knew_9 rfl (lv_at hl 2 rfl) ?_
    refine lv_iconst (v := 0) hx hb dX12_knew_10 (by decide) ?_
    refine lv_bipush (v := 7) hx hb dX12_knew_11 (by decide) ?_
    refine pS hC hK hl (m_within l G x2 0 7) si_X12_84 rfl rfl (Nat.le_of_ble_eq_true rfl) ⟨Nat.le_of_ble_eq_true rfl, Nat.le_of_ble_eq_true rfl⟩ ⟨by first | exact Nat.le_of_ble_eq_true rfl | exact Nat.zero_le _, by first | exact Nat.le_of_ble_eq_true rfl | exact Nat.zero_le _⟩ dX12_knew_13 (fun r4962 hr4962 => ?_)
    rcases hr4962 with ⟨rfl, a4963⟩ | ⟨rfl, a4963⟩
    · refine lv_if_eq (tgt := 28) hx hb dX12_knew_16 (by decide) (fun c9 => absurd c9 (by decide)) (fun _ => ?_)
      refine lv_iload_n hx hb dX12_knew_19 rfl (lv_at hl 3 rfl) ?_
      refine lv_iconst (v := 0) hx hb dX12_knew_20 (by decide) ?_
      refine lv_iconst (v := 2) hx hb dX12_knew_21 (by decide) ?_
      refine pS hC hK hl (m_within l G x3 0 2) si_X12_84 rfl rfl (Nat.le_of_ble_eq_true rfl) ⟨Nat.le_of_ble_eq_true rfl, Nat.le_of_ble_eq_true rfl⟩ ⟨by first | exact Nat.le_of_ble_eq_true rfl | exact Nat.zero_le _, by first | exact Nat.le_of_ble_eq_true rfl | exact Nat.zero_le _⟩ dX12_knew_22 (fun r4964 hr4964 => ?_)
      rcases hr4964 with ⟨rfl, a4965⟩ | ⟨rfl, a4965⟩
      · refine lv_if_ne (tgt := 30) hx hb dX12_knew_25 (by decide) (fun _ => ?_) (fun c9 => absurd c9 (by decide))
        obtain ⟨je, hje, rfl⟩ := Hs_nat (by omega) a4961
        obtain ⟨jt, hjt, rfl⟩ := Wi7 a4963
        refine lv_aload_n hx hb dX12_knew_30 rfl (lv_at hl 0 rfl) ?_
        refine lv_iload_n hx hb dX12_knew_31 rfl (lv_at hl 1 rfl) ?_
        refine lv_iload_n hx hb dX12_knew_32 rfl (lv_at hl 2 rfl) ?_
        refine lv_iload_n hx hb dX12_knew_33 rfl (lv_at hl 3 rfl) ?_
        refine iV (wr := []) hC hK hl hP hD hS hA (m_fromOf l G h0 je jt x3 nw nk mhasKept nt mtaped nr mrowMany mroundOf mroundFrom 0 nm mfromHour mtoHour ns mfrom mto msort misFault mdeep mcoded mlines nl nc nF np ntr nb mbestCost nso nsi nit nsh nsf nss nrc mtraced mdealer mnumber mwhose msize misParted fnw fnm fns fnp (by omega) (by omega) (hN) (hV) (hM)) si_X12_203 [0, 1, 2, 3, 4] [] rfl rfl (by decide) rfl (by decide) (by decide) rfl rfl rfl rfl rfl (Nat.le_of_ble_eq_true rfl) ⟨Nat.le_of_ble_eq_true rfl, Nat.le_of_ble_eq_true rfl⟩ ⟨Nat.le_of_ble_eq_true rfl, Nat.le_of_ble_eq_true rfl⟩ dX12_knew_34 (fun r4966 u4967 H locs hr4966 hP hD hS => ?_)
        obtain ⟨fh14968, th14969, gnm4970, gns4971, gnp4972⟩ := u4967
        try dsimp only at hr4966
        have hP : va_P G.1 vwCl [(h0, .inr (12, [.ref nw, .ref nk, .int mhasKept, .ref nt, .int mtaped, .ref nr, .int mrowMany, .int mroundOf, .int mroundFrom, .int 0, .ref nm, .int fh14968, .int th14969, .ref ns, .int mfrom, .int mto, .int msort, .int misFault, .int mdeep, .int mcoded, .int mlines, .ref nl, .ref nc, .ref nF, .ref np, .ref ntr, .ref nb, .int mbestCost, .ref nso, .ref nsi, .ref nit, .ref nsh, .ref nsf, .ref nss, .ref nrc, .int mtraced, .int mdealer, .int mnumber, .int mwhose, .int msize, .int misParted])), (nw, .inl (G.2.1, 1662, .inl fnw)), (nm, .inl (G.2.1, 36, .inl gnm4970)), (ns, .inl (G.2.1, 8, .inl gns4971)), (np, .inl (G.2.1, 100, .inl gnp4972))] H := hP
        have hD : va_D A [(h0, .inr (12, [.ref nw, .ref nk, .int mhasKept, .ref nt, .int mtaped, .ref nr, .int mrowMany, .int mroundOf, .int mroundFrom, .int 0, .ref nm, .int fh14968, .int th14969, .ref ns, .int mfrom, .int mto, .int msort, .int misFault, .int mdeep, .int mcoded, .int mlines, .ref nl, .ref nc, .ref nF, .ref np, .ref ntr, .ref nb, .int mbestCost, .ref nso, .ref nsi, .ref nit, .ref nsh, .ref nsf, .ref nss, .ref nrc, .int mtraced, .int mdealer, .int mnumber, .int mwhose, .int msize, .int misParted])), (nw, .inl (G.2.1, 1662, .inl fnw)), (nm, .inl (G.2.1, 36, .inl gnm4970)), (ns, .inl (G.2.1, 8, .inl gns4971)), (np, .inl (G.2.1, 100, .inl gnp4972))] := hD
        obtain ⟨hr4966, w4973⟩ := hr4966
        refine lv_istore (lv' := [(4, .int r4966), (0, .ref h0), (1, .int (nI je)), (2, .int (nI jt)), (3, .int x3)]) hx hb dX12_knew_37 hl (by decide) rfl (fun ls hl => ?_)
        refine lv_iload hx hb dX12_knew_39 (lv_at hl 0 rfl) ?_
        refine lv_ldc hx hb hown (hB _ m_693) dX12_knew_41 ?_
        refine lv_icmp_ne (tgt := 51) hx hb dX12_knew_43 (by decide) (fun c_43_4974 => ?_) (fun c_43_4974 => ?_)
        · refine lv_sipush (v := 1000) hx hb dX12_knew_51 (by decide) ?_
          refine lv_iload hx hb dX12_knew_54 (lv_at hl 0 rfl) ?_
          refine lv_iadd hx hb dX12_knew_56 ?_
          exact RI (v := 1000 + r4966) hC hP hD hS [0, 1, 2, 3, 4] (fh14968, th14969, gnm4970, gns4971, gnp4972) rfl rfl (by decide) (⟨trivial, by first | assumption | exact hM⟩) rfl dX12_knew_57
        · refine lv_bipush (v := (-3)) hx hb dX12_knew_46 (by decide) ?_
          refine lv_goto (tgt := 57) hx hb dX12_knew_48 (by decide) ?_
          exact RI (v := (-3)) hC hP hD hS [0, 1, 2, 3, 4] (fh14968, th14969, gnm4970, gns4971, gnp4972) rfl rfl (by decide) (⟨trivial, by first | assumption | exact hM⟩) rfl dX12_knew_57
      · refine lv_if_ne (tgt := 30) hx hb dX12_knew_25 (by decide) (fun c9 => absurd (by decide) c9) (fun _ => ?_)
        refine lv_iconst (v := (-1)) hx hb dX12_knew_28 (by decide) ?_
        exact RI (v := (-1)) hC hP hD hS [0, 1, 2, 3, 4] (mfromHour, mtoHour, fnm, fns, fnp) rfl rfl (by decide) (⟨trivial, by first | assumption | exact hM⟩) rfl dX12_knew_29
    · refine lv_if_eq (tgt := 28) hx hb dX12_knew_16 (by decide) (fun _ => ?_) (fun c9 => absurd (by decide) c9)
      refine lv_iconst (v := (-1)) hx hb dX12_knew_28 (by decide) ?_
      exact RI (v := (-1)) hC hP hD hS [0, 1, 2, 3, 4] (mfromHour, mtoHour, fnm, fns, fnp) rfl rfl (by decide) (⟨trivial, by first | assumption | exact hM⟩) rfl dX12_knew_29
  · refine lv_if_eq (tgt := 28) hx hb dX12_knew_6 (by decide) (fun _ => ?_) (fun c9 => absurd (by decide) c9)
    refine lv_iconst (v := (-1)) hx hb dX12_knew_28 (by decide) ?_
    exact RI (v := (-1)) hC hP hD hS [0, 1, 2, 3, 4] (mfromHour, mtoHour, fnm, fns, fnp) rfl rfl (by decide) (⟨trivial, by first | assumption | exact hM⟩) rfl dX12_knew_29
set_option maxHeartbeats 4000000 in
set_option maxRecDepth 100000 in
theorem r_why (l : Launch) (G : GG) (h0 : Nat) (x1 : Int32) (x2 : Int32) (nw : Nat) (nk : Nat) (mhasKept : Int32) (nt : Nat) (mtaped : Int32) (nr : Nat) (mrowMany : Int32) (mroundOf : Int32) (mroundFrom : Int32) (nm : Nat) (mfromHour : Int32) (mtoHour : Int32) (ns : Nat) (mfrom : Int32) (mto : Int32) (msort : Int32) (misFault : Int32) (mdeep : Int32) (mcoded : Int32) (mlines : Int32) (nl : Nat) (nc : Nat) (nF : Nat) (np : Nat) (ntr : Nat) (nb : Nat) (mbestCost : Int32) (nso : Nat) (nsi : Nat) (nit : Nat) (nsh : Nat) (nsf : Nat) (nss : Nat) (nrc : Nat) (mtraced : Int32) (mdealer : Int32) (mnumber : Int32) (mwhose : Int32) (msize : Int32) (misParted : Int32) (fnw : Nat → Int32) (fnm : Nat → Int32) (fns : Nat → Int32) (fnp : Nat → Int32) (hN : NI fnw) (hV : VI fnw) (hM : MB fnm) : MI l G yX12_why cX12_why 5 (some .int) 9 0 0 [.ref h0, .int x1, .int x2] [(h0, .inr (12, [.ref nw, .ref nk, .int mhasKept, .ref nt, .int mtaped, .ref nr, .int mrowMany, .int mroundOf, .int mroundFrom, .int 0, .ref nm, .int mfromHour, .int mtoHour, .ref ns, .int mfrom, .int mto, .int msort, .int misFault, .int mdeep, .int mcoded, .int mlines, .ref nl, .ref nc, .ref nF, .ref np, .ref ntr, .ref nb, .int mbestCost, .ref nso, .ref nsi, .ref nit, .ref nsh, .ref nsf, .ref nss, .ref nrc, .int mtraced, .int mdealer, .int mnumber, .int mwhose, .int msize, .int misParted])), (nw, .inl (G.2.1, 1662, .inl fnw)), (nm, .inl (G.2.1, 36, .inl fnm)), (ns, .inl (G.2.1, 8, .inl fns)), (np, .inl (G.2.1, 100, .inl fnp))] (fun (r : Int32) (u : Int32 × Int32 × (Nat → Int32) × (Nat → Int32) × (Nat → Int32)) => (True) ∧ (MB u.2.2.1)) (fun u : Int32 × Int32 × (Nat → Int32) × (Nat → Int32) × (Nat → Int32) => [(h0, .inr (12, [.ref nw, .ref nk, .int mhasKept, .ref nt, .int mtaped, .ref nr, .int mrowMany, .int mroundOf, .int mroundFrom, .int 0, .ref nm, .int u.1, .int u.2.1, .ref ns, .int mfrom, .int mto, .int msort, .int misFault, .int mdeep, .int mcoded, .int mlines, .ref nl, .ref nc, .ref nF, .ref np, .ref ntr, .ref nb, .int mbestCost, .ref nso, .ref nsi, .ref nit, .ref nsh, .ref nsf, .ref nss, .ref nrc, .int mtraced, .int mdealer, .int mnumber, .int mwhose, .int msize, .int misParted])), (nw, .inl (G.2.1, 1662, .inl fnw)), (nm, .inl (G.2.1, 36, .inl u.2.2.1)), (ns, .inl (G.2.1, 8, .inl u.2.2.2.1)), (np, .inl (G.2.1, 100, .inl u.2.2.2.2))]) := by
  refine MI.start (by decide +kernel) (Nat.le_of_ble_eq_true rfl) ?_
  intro p e s m below meth c A ls hC hK hP hD hS hA hl
  have hl : lv_has ls 5 [(0, .ref h0), (1, .int x1), (2, .int x2)] := hl
  obtain ⟨hx, hb, hr, hml, hB, hown, hlocks, hnm⟩ := id hC
  obtain ⟨kp, hkp, ekp⟩ := NI.nat hN (i := 4) (B := 10) (by decide +kernel) (by decide)
  obtain ⟨kq, hkq, ekq⟩ := NI.nat hN (i := 5) (B := 12) (by decide +kernel) (by decide)
  obtain ⟨k6, hk6, ek6⟩ := NI.nat hN (i := 6) (B := 24) (by decide +kernel) (by decide)
  refine lv_aload_n hx hb dX12_why_0 rfl (lv_at hl 0 rfl) ?_
  refine lv_iload_n hx hb dX12_why_1 rfl (lv_at hl 1 rfl) ?_
  refine lv_iconst (v := 4) hx hb dX12_why_2 (by decide) ?_
  refine pV hC hK hl hP hD (m_is l G kp h0 x1 4 nw nk mhasKept nt mtaped nr mrowMany mroundOf mroundFrom 0 nm mfromHour mtoHour ns mfrom mto msort misFault mdeep mcoded mlines nl nc nF np ntr nb mbestCost nso nsi nit nsh nsf nss nrc mtraced mdealer mnumber mwhose msize misParted fnw (by omega) (ekp) (by omega)) si_X12_120 [0, 1] rfl rfl (by decide) rfl rfl rfl rfl rfl (Nat.le_of_ble_eq_true rfl) ⟨Nat.le_of_ble_eq_true rfl, Nat.le_of_ble_eq_true rfl⟩ ⟨by first | exact Nat.le_of_ble_eq_true rfl | exact Nat.zero_le _, by first | exact Nat.le_of_ble_eq_true rfl | exact Nat.zero_le _⟩ dX12_why_3 (fun r4975 hr4975 => ?_)
  rcases hr4975 with ⟨rfl, a4976⟩ | ⟨rfl, a4976⟩
  · refine lv_if_eq (tgt := 19) hx hb dX12_why_6 (by decide) (fun c9 => absurd c9 (by decide)) (fun _ => ?_)
    refine lv_iload_n hx hb dX12_why_9 rfl (lv_at hl 2 rfl) ?_
    refine lv_iconst (v := 0) hx hb dX12_why_10 (by decide) ?_
    refine lv_bipush (v := 7) hx hb dX12_why_11 (by decide) ?_
    refine pS hC hK hl (m_within l G x2 0 7) si_X12_84 rfl rfl (Nat.le_of_ble_eq_true rfl) ⟨Nat.le_of_ble_eq_true rfl, Nat.le_of_ble_eq_true rfl⟩ ⟨by first | exact Nat.le_of_ble_eq_true rfl | exact Nat.zero_le _, by first | exact Nat.le_of_ble_eq_true rfl | exact Nat.zero_le _⟩ dX12_why_13 (fun r4977 hr4977 => ?_)
    rcases hr4977 with ⟨rfl, a4978⟩ | ⟨rfl, a4978⟩
    · refine lv_if_ne (tgt := 21) hx hb dX12_why_16 (by decide) (fun _ => ?_) (fun c9 => absurd c9 (by decide))
      obtain ⟨je, hje, rfl⟩ := Hs_nat (by omega) a4976
      obtain ⟨jt, hjt, rfl⟩ := Wi7 a4978
      refine lv_aload_n hx hb dX12_why_21 rfl (lv_at hl 0 rfl) ?_
      refine lv_iload_n hx hb dX12_why_22 rfl (lv_at hl 1 rfl) ?_
      refine vV (wr := []) hC hK hl hP hD hS hA (m_findShould l G h0 je nw nk mhasKept nt mtaped nr mrowMany mroundOf mroundFrom 0 nm mfromHour mtoHour ns mfrom mto msort misFault mdeep mcoded mlines nl nc nF np ntr nb mbestCost nso nsi nit nsh nsf nss nrc mtraced mdealer mnumber mwhose msize misParted fnw fnm fns fnp (by omega) (hN) (hV) (hM)) si_X12_199 [0, 1, 2, 3, 4] [] rfl rfl (by decide) rfl (by decide) (by decide) rfl rfl rfl rfl rfl (Nat.le_of_ble_eq_true rfl) ⟨Nat.le_of_ble_eq_true rfl, Nat.le_of_ble_eq_true rfl⟩ ⟨Nat.le_of_ble_eq_true rfl, Nat.le_of_ble_eq_true rfl⟩ dX12_why_23 (fun u4980 H locs hr4979 hP hD hS => ?_)
      obtain ⟨fh14981, th14982, gnm4983, gns4984, gnp4985⟩ := u4980
      try dsimp only at hr4979
      have hP : va_P G.1 vwCl [(h0, .inr (12, [.ref nw, .ref nk, .int mhasKept, .ref nt, .int mtaped, .ref nr, .int mrowMany, .int mroundOf, .int mroundFrom, .int 0, .ref nm, .int fh14981, .int th14982, .ref ns, .int mfrom, .int mto, .int msort, .int misFault, .int mdeep, .int mcoded, .int mlines, .ref nl, .ref nc, .ref nF, .ref np, .ref ntr, .ref nb, .int mbestCost, .ref nso, .ref nsi, .ref nit, .ref nsh, .ref nsf, .ref nss, .ref nrc, .int mtraced, .int mdealer, .int mnumber, .int mwhose, .int msize, .int misParted])), (nw, .inl (G.2.1, 1662, .inl fnw)), (nm, .inl (G.2.1, 36, .inl gnm4983)), (ns, .inl (G.2.1, 8, .inl gns4984)), (np, .inl (G.2.1, 100, .inl gnp4985))] H := hP
      have hD : va_D A [(h0, .inr (12, [.ref nw, .ref nk, .int mhasKept, .ref nt, .int mtaped, .ref nr, .int mrowMany, .int mroundOf, .int mroundFrom, .int 0, .ref nm, .int fh14981, .int th14982, .ref ns, .int mfrom, .int mto, .int msort, .int misFault, .int mdeep, .int mcoded, .int mlines, .ref nl, .ref nc, .ref nF, .ref np, .ref ntr, .ref nb, .int mbestCost, .ref nso, .ref nsi, .ref nit, .ref nsh, .ref nsf, .ref nss, .ref nrc, .int mtraced, .int mdealer, .int mnumber, .int mwhose, .int msize, .int misParted])), (nw, .inl (G.2.1, 1662, .inl fnw)), (nm, .inl (G.2.1, 36, .inl gnm4983)), (ns, .inl (G.2.1, 8, .inl gns4984)), (np, .inl (G.2.1, 100, .inl gnp4985))] := hD
      have w4986 := hr4979
      refine lv_aload_n hx hb dX12_why_26 rfl (lv_at hl 0 rfl) ?_
      refine pV hC hK hl hP hD (m_rules l G h0 nw nk mhasKept nt mtaped nr mrowMany mroundOf mroundFrom 0 nm fh14981 th14982 ns mfrom mto msort misFault mdeep mcoded mlines nl nc nF np ntr nb mbestCost nso nsi nit nsh nsf nss nrc mtraced mdealer mnumber mwhose msize misParted fnw (hN)) si_X12_180 [0, 1] rfl rfl (by decide) rfl rfl rfl rfl rfl (Nat.le_of_ble_eq_true rfl) ⟨Nat.le_of_ble_eq_true rfl, Nat.le_of_ble_eq_true rfl⟩ ⟨by first | exact Nat.le_of_ble_eq_true rfl | exact Nat.zero_le _, by first | exact Nat.le_of_ble_eq_true rfl | exact Nat.zero_le _⟩ dX12_why_27 (fun r4987 hr4987 => ?_)
      obtain ⟨jv_4988, hpx4988, rfl⟩ := hr4987
      try dsimp only at hpx4988
      rcases Nat.eq_zero_or_pos jv_4988 with rfl | hpv4989
      · refine eqi (x1 := (-1)) (by decide) ?_
        refine lv_istore_n (lv' := [(3, .int (-1)), (0, .ref h0), (1, .int (nI je)), (2, .int (nI jt))]) hx hb dX12_why_30 rfl hl (by decide) rfl (fun ls hl => ?_)
        refine lv_aload_n hx hb dX12_why_31 rfl (lv_at hl 1 rfl) ?_
        refine gf_X12_29 hC rfl hK hP 0 rfl rfl dX12_why_32 ?_
        refine lv_iload_n hx hb dX12_why_35 rfl (lv_at hl 3 rfl) ?_
        refine ald hC hK hP 3 rfl (vp_in_nI (by omega) (by omega)) (k := jt) (nI_clamp (by omega)) (v := gns4984 jt) rfl dX12_why_36 ?_
        refine lv_topi (fun x4990 ex4990 => ?_)
        refine lv_ldc hx hb hown (hB _ m_693) dX12_why_37 ?_
        refine lv_icmp_eq (tgt := 58) hx hb dX12_why_39 (by decide) (fun c_39_4991 => ?_) (fun c_39_4991 => ?_)
        · refine lv_bipush (v := (-3)) hx hb dX12_why_58 (by decide) ?_
          exact RI (v := (-3)) hC hP hD hS [0, 1, 2, 3, 4] (fh14981, th14982, gnm4983, gns4984, gnp4985) rfl rfl (by decide) (⟨trivial, by first | assumption | exact hM⟩) rfl dX12_why_60
        · refine lv_aload_n hx hb dX12_why_42 rfl (lv_at hl 1 rfl) ?_
          refine gf_X12_29 hC rfl hK hP 0 rfl rfl dX12_why_43 ?_
          refine lv_iload_n hx hb dX12_why_46 rfl (lv_at hl 3 rfl) ?_
          refine ald hC hK hP 3 rfl (vp_in_nI (by omega) (by omega)) (k := jt) (nI_clamp (by omega)) (v := gns4984 jt) rfl dX12_why_47 ?_
          refine lv_topi (fun x4992 ex4992 => ?_)
          refine lv_aload_n hx hb dX12_why_48 rfl (lv_at hl 1 rfl) ?_
          refine lv_iload_n hx hb dX12_why_49 rfl (lv_at hl 2 rfl) ?_
          refine lv_iload_n hx hb dX12_why_50 rfl (lv_at hl 3 rfl) ?_
          refine lv_iconst (v := 1) hx hb dX12_why_51 (by decide) ?_
          refine iV (wr := [(ns, .inl (G.2.1, 8, .inl gns4984)), (np, .inl (G.2.1, 100, .inl gnp4985))]) hC hK hl hP hD hS hA (m_knewBy l G h0 je (nI jt) 1 nw nk mhasKept nt mtaped nr mrowMany mroundOf mroundFrom 0 nm fh14981 th14982 ns mfrom mto msort misFault mdeep mcoded mlines nl nc nF np ntr nb mbestCost nso nsi nit nsh nsf nss nrc mtraced mdealer mnumber mwhose msize misParted fnw gnm4983 (by omega) (hN) (w4986)) si_X12_176 [0, 1, 2] [3, 4] rfl rfl (by decide) rfl (by decide) (by decide) rfl rfl rfl rfl rfl (Nat.le_of_ble_eq_true rfl) ⟨Nat.le_of_ble_eq_true rfl, Nat.le_of_ble_eq_true rfl⟩ ⟨Nat.le_of_ble_eq_true rfl, Nat.le_of_ble_eq_true rfl⟩ dX12_why_52 (fun r4993 u4994 H locs hr4993 hP hD hS => ?_)
          obtain ⟨fh14995, th14996, gnm4997⟩ := u4994
          try dsimp only at hr4993
          have hP : va_P G.1 vwCl [(ns, .inl (G.2.1, 8, .inl gns4984)), (np, .inl (G.2.1, 100, .inl gnp4985)), (h0, .inr (12, [.ref nw, .ref nk, .int mhasKept, .ref nt, .int mtaped, .ref nr, .int mrowMany, .int mroundOf, .int mroundFrom, .int 0, .ref nm, .int fh14995, .int th14996, .ref ns, .int mfrom, .int mto, .int msort, .int misFault, .int mdeep, .int mcoded, .int mlines, .ref nl, .ref nc, .ref nF, .ref np, .ref ntr, .ref nb, .int mbestCost, .ref nso, .ref nsi, .ref nit, .ref nsh, .ref nsf, .ref nss, .ref nrc, .int mtraced, .int mdealer, .int mnumber, .int mwhose, .int msize, .int misParted])), (nw, .inl (G.2.1, 1662, .inl fnw)), (nm, .inl (G.2.1, 36, .inl gnm4997))] H := hP
          have hD : va_D A [(ns, .inl (G.2.1, 8, .inl gns4984)), (np, .inl (G.2.1, 100, .inl gnp4985)), (h0, .inr (12, [.ref nw, .ref nk, .int mhasKept, .ref nt, .int mtaped, .ref nr, .int mrowMany, .int mroundOf, .int mroundFrom, .int 0, .ref nm, .int fh14995, .int th14996, .ref ns, .int mfrom, .int mto, .int msort, .int misFault, .int mdeep, .int mcoded, .int mlines, .ref nl, .ref nc, .ref nF, .ref np, .ref ntr, .ref nb, .int mbestCost, .ref nso, .ref nsi, .ref nit, .ref nsh, .ref nsf, .ref nss, .ref nrc, .int mtraced, .int mdealer, .int mnumber, .int mwhose, .int msize, .int misParted])), (nw, .inl (G.2.1, 1662, .inl fnw)), (nm, .inl (G.2.1, 36, .inl gnm4997))] := hD
          obtain ⟨hr4993, w4998⟩ := hr4993
          refine lv_icmp_ne (tgt := 61) hx hb dX12_why_55 (by decide) (fun c_55_4999 => ?_) (fun c_55_4999 => ?_)
          · refine lv_iconst (v := 0) hx hb dX12_why_61 (by decide) ?_
            refine lv_istore (lv' := [(4, .int 0), (3, .int (-1)), (0, .ref h0), (1, .int (nI je)), (2, .int (nI jt))]) hx hb dX12_why_62 hl (by decide) rfl (fun ls hl => ?_)
            refine lv_iload hx hb dX12_why_64 (lv_at hl 0 rfl) ?_
            refine lv_aload_n hx hb dX12_why_66 rfl (lv_at hl 2 rfl) ?_
            refine lv_iload_n hx hb dX12_why_67 rfl (lv_at hl 1 rfl) ?_
            refine pV hC hK hl hP hD (m_linesN l G h0 nw nk mhasKept nt mtaped nr mrowMany mroundOf mroundFrom 0 nm fh14995 th14996 ns mfrom mto msort misFault mdeep mcoded mlines nl nc nF np ntr nb mbestCost nso nsi nit nsh nsf nss nrc mtraced mdealer mnumber mwhose msize misParted fnw) si_X12_183 [2, 3] rfl rfl (by decide) rfl rfl rfl rfl rfl (Nat.le_of_ble_eq_true rfl) ⟨Nat.le_of_ble_eq_true rfl, Nat.le_of_ble_eq_true rfl⟩ ⟨by first | exact Nat.le_of_ble_eq_true rfl | exact Nat.zero_le _, by first | exact Nat.le_of_ble_eq_true rfl | exact Nat.zero_le _⟩ dX12_why_68 (fun r5000 hr5000 => ?_)
            obtain rfl := hr5000
            refine lv_icmp_ge (tgt := 111) hx hb dX12_why_71 (by decide) (fun _ => ?_) (fun c9 => absurd (by decide) c9)
            refine lv_bipush (v := (-3)) hx hb dX12_why_111 (by decide) ?_
            exact RI (v := (-3)) hC hP hD hS [2, 3, 4, 0, 1] (fh14995, th14996, gnm4997, gns4984, gnp4985) rfl rfl (by decide) (⟨trivial, by first | assumption | exact hM⟩) rfl dX12_why_113
          · refine lv_bipush (v := (-3)) hx hb dX12_why_58 (by decide) ?_
            exact RI (v := (-3)) hC hP hD hS [2, 3, 4, 0, 1] (fh14995, th14996, gnm4997, gns4984, gnp4985) rfl rfl (by decide) (⟨trivial, by first | assumption | exact hM⟩) rfl dX12_why_60
      · obtain ⟨v4989, rfl⟩ : ∃ z9, jv_4988 = z9 + 1 := ⟨jv_4988 - 1, by omega⟩
        refine eqi (x1 := nI v4989) (nI_sub1 v4989) ?_
        obtain ⟨L4989, hL4989, eL4989, hLN4989⟩ := VI.line hV (v := v4989) (by omega)
        refine lv_istore_n (lv' := [(3, .int (nI v4989)), (0, .ref h0), (1, .int (nI je)), (2, .int (nI jt))]) hx hb dX12_why_30 rfl hl (by decide) rfl (fun ls hl => ?_)
        refine lv_aload_n hx hb dX12_why_31 rfl (lv_at hl 1 rfl) ?_
        refine gf_X12_29 hC rfl hK hP 0 rfl rfl dX12_why_32 ?_
        refine lv_iload_n hx hb dX12_why_35 rfl (lv_at hl 3 rfl) ?_
        refine ald hC hK hP 3 rfl (vp_in_nI (by omega) (by omega)) (k := jt) (nI_clamp (by omega)) (v := gns4984 jt) rfl dX12_why_36 ?_
        refine lv_topi (fun x5002 ex5002 => ?_)
        refine lv_ldc hx hb hown (hB _ m_693) dX12_why_37 ?_
        refine lv_icmp_eq (tgt := 58) hx hb dX12_why_39 (by decide) (fun c_39_5003 => ?_) (fun c_39_5003 => ?_)
        · refine lv_bipush (v := (-3)) hx hb dX12_why_58 (by decide) ?_
          exact RI (v := (-3)) hC hP hD hS [0, 1, 2, 3, 4] (fh14981, th14982, gnm4983, gns4984, gnp4985) rfl rfl (by decide) (⟨trivial, by first | assumption | exact hM⟩) rfl dX12_why_60
        · refine lv_aload_n hx hb dX12_why_42 rfl (lv_at hl 1 rfl) ?_
          refine gf_X12_29 hC rfl hK hP 0 rfl rfl dX12_why_43 ?_
          refine lv_iload_n hx hb dX12_why_46 rfl (lv_at hl 3 rfl) ?_
          refine ald hC hK hP 3 rfl (vp_in_nI (by omega) (by omega)) (k := jt) (nI_clamp (by omega)) (v := gns4984 jt) rfl dX12_why_47 ?_
          refine lv_topi (fun x5004 ex5004 => ?_)
          refine lv_aload_n hx hb dX12_why_48 rfl (lv_at hl 1 rfl) ?_
          refine lv_iload_n hx hb dX12_why_49 rfl (lv_at hl 2 rfl) ?_
          refine lv_iload_n hx hb dX12_why_50 rfl (lv_at hl 3 rfl) ?_
          refine lv_iconst (v := 1) hx hb dX12_why_51 (by decide) ?_
          refine iV (wr := [(ns, .inl (G.2.1, 8, .inl gns4984)), (np, .inl (G.2.1, 100, .inl gnp4985))]) hC hK hl hP hD hS hA (m_knewBy l G h0 je (nI jt) 1 nw nk mhasKept nt mtaped nr mrowMany mroundOf mroundFrom 0 nm fh14981 th14982 ns mfrom mto msort misFault mdeep mcoded mlines nl nc nF np ntr nb mbestCost nso nsi nit nsh nsf nss nrc mtraced mdealer mnumber mwhose msize misParted fnw gnm4983 (by omega) (hN) (w4986)) si_X12_176 [0, 1, 2] [3, 4] rfl rfl (by decide) rfl (by decide) (by decide) rfl rfl rfl rfl rfl (Nat.le_of_ble_eq_true rfl) ⟨Nat.le_of_ble_eq_true rfl, Nat.le_of_ble_eq_true rfl⟩ ⟨Nat.le_of_ble_eq_true rfl, Nat.le_of_ble_eq_true rfl⟩ dX12_why_52 (fun r5005 u5006 H locs hr5005 hP hD hS => ?_)
          obtain ⟨fh15007, th15008, gnm5009⟩ := u5006
          try dsimp only at hr5005
          have hP : va_P G.1 vwCl [(ns, .inl (G.2.1, 8, .inl gns4984)), (np, .inl (G.2.1, 100, .inl gnp4985)), (h0, .inr (12, [.ref nw, .ref nk, .int mhasKept, .ref nt, .int mtaped, .ref nr, .int mrowMany, .int mroundOf, .int mroundFrom, .int 0, .ref nm, .int fh15007, .int th15008, .ref ns, .int mfrom, .int mto, .int msort, .int misFault, .int mdeep, .int mcoded, .int mlines, .ref nl, .ref nc, .ref nF, .ref np, .ref ntr, .ref nb, .int mbestCost, .ref nso, .ref nsi, .ref nit, .ref nsh, .ref nsf, .ref nss, .ref nrc, .int mtraced, .int mdealer, .int mnumber, .int mwhose, .int msize, .int misParted])), (nw, .inl (G.2.1, 1662, .inl fnw)), (nm, .inl (G.2.1, 36, .inl gnm5009))] H := hP
          have hD : va_D A [(ns, .inl (G.2.1, 8, .inl gns4984)), (np, .inl (G.2.1, 100, .inl gnp4985)), (h0, .inr (12, [.ref nw, .ref nk, .int mhasKept, .ref nt, .int mtaped, .ref nr, .int mrowMany, .int mroundOf, .int mroundFrom, .int 0, .ref nm, .int fh15007, .int th15008, .ref ns, .int mfrom, .int mto, .int msort, .int misFault, .int mdeep, .int mcoded, .int mlines, .ref nl, .ref nc, .ref nF, .ref np, .ref ntr, .ref nb, .int mbestCost, .ref nso, .ref nsi, .ref nit, .ref nsh, .ref nsf, .ref nss, .ref nrc, .int mtraced, .int mdealer, .int mnumber, .int mwhose, .int msize, .int misParted])), (nw, .inl (G.2.1, 1662, .inl fnw)), (nm, .inl (G.2.1, 36, .inl gnm5009))] := hD
          obtain ⟨hr5005, w5010⟩ := hr5005
          refine lv_icmp_ne (tgt := 61) hx hb dX12_why_55 (by decide) (fun c_55_5011 => ?_) (fun c_55_5011 => ?_)
          · refine lv_iconst (v := 0) hx hb dX12_why_61 (by decide) ?_
            refine lv_istore (lv' := [(4, .int 0), (3, .int (nI v4989)), (0, .ref h0), (1, .int (nI je)), (2, .int (nI jt))]) hx hb dX12_why_62 hl (by decide) rfl (fun ls hl => ?_)
            have keyQ : ∀ (nQ kQ : Nat) (vR : Nat → Int32) (H : Heap) (locs : List Loc) (ls : Array Slot), kQ + nQ = L4989 → va_P G.1 vwCl [(ns, .inl (G.2.1, 8, .inl gns4984)), (np, .inl (G.2.1, 100, .inl vR)), (h0, .inr (12, [.ref nw, .ref nk, .int mhasKept, .ref nt, .int mtaped, .ref nr, .int mrowMany, .int mroundOf, .int mroundFrom, .int 0, .ref nm, .int fh15007, .int th15008, .ref ns, .int mfrom, .int mto, .int msort, .int misFault, .int mdeep, .int mcoded, .int mlines, .ref nl, .ref nc, .ref nF, .ref np, .ref ntr, .ref nb, .int mbestCost, .ref nso, .ref nsi, .ref nit, .ref nsh, .ref nsf, .ref nss, .ref nrc, .int mtraced, .int mdealer, .int mnumber, .int mwhose, .int msize, .int misParted])), (nw, .inl (G.2.1, 1662, .inl fnw)), (nm, .inl (G.2.1, 36, .inl gnm5009))] H → va_D A [(ns, .inl (G.2.1, 8, .inl gns4984)), (np, .inl (G.2.1, 100, .inl vR)), (h0, .inr (12, [.ref nw, .ref nk, .int mhasKept, .ref nt, .int mtaped, .ref nr, .int mrowMany, .int mroundOf, .int mroundFrom, .int 0, .ref nm, .int fh15007, .int th15008, .ref ns, .int mfrom, .int mto, .int msort, .int misFault, .int mdeep, .int mcoded, .int mlines, .ref nl, .ref nc, .ref nF, .ref np, .ref ntr, .ref nb, .int mbestCost, .ref nso, .ref nsi, .ref nit, .ref nsh, .ref nsf, .ref nss, .ref nrc, .int mtraced, .int mdealer, .int mnumber, .int mwhose, .int msize, .int misParted])), (nw, .inl (G.2.1, 1662, .inl fnw)), (nm, .inl (G.2.1, 36, .inl gnm5009))] → va_S A s.heap H locs → lv_has ls 5 [(4, .int (nI kQ)), (3, .int (nI v4989)), (0, .ref h0), (1, .int (nI je)), (2, .int (nI jt))] → W p l e (RM 9 0 0) s m ([.ref h0, .int (nI je), .int (nI jt)] : List Value).toArray below meth c H locs 0 0 (MQ below (QI G (fun (r : Int32) (u : Int32 × Int32 × (Nat → Int32) × (Nat → Int32) × (Nat → Int32)) => (True) ∧ (MB u.2.2.1)) (fun u : Int32 × Int32 × (Nat → Int32) × (Nat → Int32) × (Nat → Int32) => [(h0, .inr (12, [.ref nw, .ref nk, .int mhasKept, .ref nt, .int mtaped, .ref nr, .int mrowMany, .int mroundOf, .int mroundFrom, .int 0, .ref nm, .int u.1, .int u.2.1, .ref ns, .int mfrom, .int mto, .int msort, .int misFault, .int mdeep, .int mcoded, .int mlines, .ref nl, .ref nc, .ref nF, .ref np, .ref ntr, .ref nb, .int mbestCost, .ref nso, .ref nsi, .ref nit, .ref nsh, .ref nsf, .ref nss, .ref nrc, .int mtraced, .int mdealer, .int mnumber, .int mwhose, .int msize, .int misParted])), (nw, .inl (G.2.1, 1662, .inl fnw)), (nm, .inl (G.2.1, 36, .inl u.2.2.1)), (ns, .inl (G.2.1, 8, .inl u.2.2.2.1)), (np, .inl (G.2.1, 100, .inl u.2.2.2.2))]) A) ([.ref h0, .int (nI je), .int (nI jt)] : List Value).toArray s 0 0 A) (F0 m 64 ls []) := by
              intro nQ
              induction nQ with
              | zero =>
                intro kQ vR H locs ls hkQ hP hD hS hl
                obtain rfl : L4989 = kQ := by omega
                have hl : lv_has ls 5 [(4, .int (nI L4989)), (3, .int (nI v4989)), (0, .ref h0), (1, .int (nI je)), (2, .int (nI jt))] := hl
                refine lv_iload hx hb dX12_why_64 (lv_at hl 0 rfl) ?_
                refine lv_aload_n hx hb dX12_why_66 rfl (lv_at hl 2 rfl) ?_
                refine lv_iload_n hx hb dX12_why_67 rfl (lv_at hl 1 rfl) ?_
                refine pV hC hK hl hP hD (m_lines l G L4989 h0 v4989 nw nk mhasKept nt mtaped nr mrowMany mroundOf mroundFrom 0 nm fh15007 th15008 ns mfrom mto msort misFault mdeep mcoded mlines nl nc nF np ntr nb mbestCost nso nsi nit nsh nsf nss nrc mtraced mdealer mnumber mwhose msize misParted fnw (by omega) (eL4989)) si_X12_183 [2, 3] rfl rfl (by decide) rfl rfl rfl rfl rfl (Nat.le_of_ble_eq_true rfl) ⟨Nat.le_of_ble_eq_true rfl, Nat.le_of_ble_eq_true rfl⟩ ⟨by first | exact Nat.le_of_ble_eq_true rfl | exact Nat.zero_le _, by first | exact Nat.le_of_ble_eq_true rfl | exact Nat.zero_le _⟩ dX12_why_68 (fun r5012 hr5012 => ?_)
                obtain rfl := hr5012
                refine lv_icmp_ge (tgt := 111) hx hb dX12_why_71 (by decide) (fun _ => ?_) (fun c9 => absurd (Int32.le_refl _) c9)
                refine lv_bipush (v := (-3)) hx hb dX12_why_111 (by decide) ?_
                exact RI (v := (-3)) hC hP hD hS [2, 3, 4, 0, 1] (fh15007, th15008, gnm5009, gns4984, vR) rfl rfl (by decide) (⟨trivial, by first | assumption | exact hM⟩) rfl dX12_why_113
              | succ nQ ihQ =>
                intro kQ vR H locs ls hkQ hP hD hS hl
                refine lv_iload hx hb dX12_why_64 (lv_at hl 0 rfl) ?_
                refine lv_aload_n hx hb dX12_why_66 rfl (lv_at hl 2 rfl) ?_
                refine lv_iload_n hx hb dX12_why_67 rfl (lv_at hl 1 rfl) ?_
                refine pV hC hK hl hP hD (m_lines l G L4989 h0 v4989 nw nk mhasKept nt mtaped nr mrowMany mroundOf mroundFrom 0 nm fh15007 th15008 ns mfrom mto msort misFault mdeep mcoded mlines nl nc nF np ntr nb mbestCost nso nsi nit nsh nsf nss nrc mtraced mdealer mnumber mwhose msize misParted fnw (by omega) (eL4989)) si_X12_183 [2, 3] rfl rfl (by decide) rfl rfl rfl rfl rfl (Nat.le_of_ble_eq_true rfl) ⟨Nat.le_of_ble_eq_true rfl, Nat.le_of_ble_eq_true rfl⟩ ⟨by first | exact Nat.le_of_ble_eq_true rfl | exact Nat.zero_le _, by first | exact Nat.le_of_ble_eq_true rfl | exact Nat.zero_le _⟩ dX12_why_68 (fun r5014 hr5014 => ?_)
                obtain rfl := hr5014
                refine lv_icmp_ge (tgt := 111) hx hb dX12_why_71 (by decide) (fun c9 => absurd c9 (nI_ge (a := kQ) (b := L4989) (by omega) (by omega))) (fun _ => ?_)
                have hln5016 := hLN4989 kQ (by omega)
                refine lv_aload_n hx hb dX12_why_74 rfl (lv_at hl 2 rfl) ?_
                refine lv_iload_n hx hb dX12_why_75 rfl (lv_at hl 1 rfl) ?_
                refine lv_iload hx hb dX12_why_76 (lv_at hl 0 rfl) ?_
                refine pV hC hK hl hP hD (m_thingOf l G h0 v4989 kQ nw nk mhasKept nt mtaped nr mrowMany mroundOf mroundFrom 0 nm fh15007 th15008 ns mfrom mto msort misFault mdeep mcoded mlines nl nc nF np ntr nb mbestCost nso nsi nit nsh nsf nss nrc mtraced mdealer mnumber mwhose msize misParted fnw (by omega) (by omega) (hln5016)) si_X12_190 [2, 3] rfl rfl (by decide) rfl rfl rfl rfl rfl (Nat.le_of_ble_eq_true rfl) ⟨Nat.le_of_ble_eq_true rfl, Nat.le_of_ble_eq_true rfl⟩ ⟨by first | exact Nat.le_of_ble_eq_true rfl | exact Nat.zero_le _, by first | exact Nat.le_of_ble_eq_true rfl | exact Nat.zero_le _⟩ dX12_why_78 (fun r5017 hr5017 => ?_)
                obtain ⟨t9_5018, hpx5018, rfl⟩ := hr5017
                try dsimp only at hpx5018
                refine lv_iload_n hx hb dX12_why_81 rfl (lv_at hl 4 rfl) ?_
                refine lv_icmp_ne (tgt := 105) hx hb dX12_why_82 (by decide) (fun c_82_5019 => ?_) (fun c_82_5019 => ?_)
                · refine lv_iinc (v := nI (kQ + 1)) (lv' := [(4, .int (nI (kQ + 1))), (3, .int (nI v4989)), (0, .ref h0), (1, .int (nI je)), (2, .int (nI jt))]) hx hb dX12_why_105 hl (k := 0) rfl (nI_1 _) (by decide) rfl (fun ls hl => ?_)
                  refine lv_goto (tgt := 64) hx hb dX12_why_108 (by decide) ?_
                  exact ihQ (kQ + 1) vR _ _ _ (by omega) hP hD hS (lv_sub hl [0, 1, 2, 3, 4] rfl)
                · refine lv_aload_n hx hb dX12_why_85 rfl (lv_at hl 2 rfl) ?_
                  refine lv_iload_n hx hb dX12_why_86 rfl (lv_at hl 1 rfl) ?_
                  refine lv_iload hx hb dX12_why_87 (lv_at hl 0 rfl) ?_
                  refine lv_iload_n hx hb dX12_why_89 rfl (lv_at hl 3 rfl) ?_
                  refine iV (wr := [(nm, .inl (G.2.1, 36, .inl gnm5009))]) hC hK hl hP hD hS hA (m_fromLine l G h0 v4989 kQ je nw nk mhasKept nt mtaped nr mrowMany mroundOf mroundFrom 0 nm fh15007 th15008 ns mfrom mto msort misFault mdeep mcoded mlines nl nc nF np ntr nb mbestCost nso nsi nit nsh nsf nss nrc mtraced mdealer mnumber mwhose msize misParted fnw gns4984 vR (by omega) (by omega) (hln5016) (by omega) (hN)) si_X12_186 [2, 3, 0, 1] [4] rfl rfl (by decide) rfl (by decide) (by decide) rfl rfl rfl rfl rfl (Nat.le_of_ble_eq_true rfl) ⟨Nat.le_of_ble_eq_true rfl, Nat.le_of_ble_eq_true rfl⟩ ⟨Nat.le_of_ble_eq_true rfl, Nat.le_of_ble_eq_true rfl⟩ dX12_why_90 (fun r5020 u5021 H locs hr5020 hP hD hS => ?_)
                  obtain ⟨gnp5022, rfl⟩ : ∃ z9, z9 = u5021 := ⟨_, rfl⟩
                  try dsimp only at hr5020
                  have hP : va_P G.1 vwCl [(nm, .inl (G.2.1, 36, .inl gnm5009)), (h0, .inr (12, [.ref nw, .ref nk, .int mhasKept, .ref nt, .int mtaped, .ref nr, .int mrowMany, .int mroundOf, .int mroundFrom, .int 0, .ref nm, .int fh15007, .int th15008, .ref ns, .int mfrom, .int mto, .int msort, .int misFault, .int mdeep, .int mcoded, .int mlines, .ref nl, .ref nc, .ref nF, .ref np, .ref ntr, .ref nb, .int mbestCost, .ref nso, .ref nsi, .ref nit, .ref nsh, .ref nsf, .ref nss, .ref nrc, .int mtraced, .int mdealer, .int mnumber, .int mwhose, .int msize, .int misParted])), (nw, .inl (G.2.1, 1662, .inl fnw)), (ns, .inl (G.2.1, 8, .inl gns4984)), (np, .inl (G.2.1, 100, .inl gnp5022))] H := hP
                  have hD : va_D A [(nm, .inl (G.2.1, 36, .inl gnm5009)), (h0, .inr (12, [.ref nw, .ref nk, .int mhasKept, .ref nt, .int mtaped, .ref nr, .int mrowMany, .int mroundOf, .int mroundFrom, .int 0, .ref nm, .int fh15007, .int th15008, .ref ns, .int mfrom, .int mto, .int msort, .int misFault, .int mdeep, .int mcoded, .int mlines, .ref nl, .ref nc, .ref nF, .ref np, .ref ntr, .ref nb, .int mbestCost, .ref nso, .ref nsi, .ref nit, .ref nsh, .ref nsf, .ref nss, .ref nrc, .int mtraced, .int mdealer, .int mnumber, .int mwhose, .int msize, .int misParted])), (nw, .inl (G.2.1, 1662, .inl fnw)), (ns, .inl (G.2.1, 8, .inl gns4984)), (np, .inl (G.2.1, 100, .inl gnp5022))] := hD
                  refine lv_aload_n hx hb dX12_why_93 rfl (lv_at hl 2 rfl) ?_
                  refine gf_X12_29 hC rfl hK hP 1 rfl rfl dX12_why_94 ?_
                  refine lv_iload_n hx hb dX12_why_97 rfl (lv_at hl 4 rfl) ?_
                  refine ald hC hK hP 3 rfl (vp_in_nI (by omega) (by omega)) (k := jt) (nI_clamp (by omega)) (v := gns4984 jt) rfl dX12_why_98 ?_
                  refine lv_topi (fun x5023 ex5023 => ?_)
                  refine lv_icmp_ne (tgt := 105) hx hb dX12_why_99 (by decide) (fun c_99_5024 => ?_) (fun c_99_5024 => ?_)
                  · refine lv_iinc (v := nI (kQ + 1)) (lv' := [(4, .int (nI (kQ + 1))), (3, .int (nI v4989)), (0, .ref h0), (1, .int (nI je)), (2, .int (nI jt))]) hx hb dX12_why_105 hl (k := 0) rfl (nI_1 _) (by decide) rfl (fun ls hl => ?_)
                    refine lv_goto (tgt := 64) hx hb dX12_why_108 (by decide) ?_
                    have hP := hP.sub (ws' := [(ns, .inl (G.2.1, 8, .inl gns4984)), (np, .inl (G.2.1, 100, .inl gnp5022)), (h0, .inr (12, [.ref nw, .ref nk, .int mhasKept, .ref nt, .int mtaped, .ref nr, .int mrowMany, .int mroundOf, .int mroundFrom, .int 0, .ref nm, .int fh15007, .int th15008, .ref ns, .int mfrom, .int mto, .int msort, .int misFault, .int mdeep, .int mcoded, .int mlines, .ref nl, .ref nc, .ref nF, .ref np, .ref ntr, .ref nb, .int mbestCost, .ref nso, .ref nsi, .ref nit, .ref nsh, .ref nsf, .ref nss, .ref nrc, .int mtraced, .int mdealer, .int mnumber, .int mwhose, .int msize, .int misParted])), (nw, .inl (G.2.1, 1662, .inl fnw)), (nm, .inl (G.2.1, 36, .inl gnm5009))]) [3, 4, 1, 2, 0] rfl
                    have hD := hD.sub (ws' := [(ns, .inl (G.2.1, 8, .inl gns4984)), (np, .inl (G.2.1, 100, .inl gnp5022)), (h0, .inr (12, [.ref nw, .ref nk, .int mhasKept, .ref nt, .int mtaped, .ref nr, .int mrowMany, .int mroundOf, .int mroundFrom, .int 0, .ref nm, .int fh15007, .int th15008, .ref ns, .int mfrom, .int mto, .int msort, .int misFault, .int mdeep, .int mcoded, .int mlines, .ref nl, .ref nc, .ref nF, .ref np, .ref ntr, .ref nb, .int mbestCost, .ref nso, .ref nsi, .ref nit, .ref nsh, .ref nsf, .ref nss, .ref nrc, .int mtraced, .int mdealer, .int mnumber, .int mwhose, .int msize, .int misParted])), (nw, .inl (G.2.1, 1662, .inl fnw)), (nm, .inl (G.2.1, 36, .inl gnm5009))]) [3, 4, 1, 2, 0] (by decide) rfl
                    exact ihQ (kQ + 1) gnp5022 _ _ _ (by omega) hP hD hS (lv_sub hl [0, 1, 2, 3, 4] rfl)
                  · refine lv_iload hx hb dX12_why_102 (lv_at hl 0 rfl) ?_
                    exact RI (v := nI kQ) hC hP hD hS [1, 2, 0, 3, 4] (fh15007, th15008, gnm5009, gns4984, gnp5022) rfl rfl (by decide) (⟨trivial, by first | assumption | exact hM⟩) rfl dX12_why_104
            exact keyQ L4989 0 gnp4985 _ _ _ (by omega) hP hD hS (lv_sub hl [0, 1, 2, 3, 4] rfl)
          · refine lv_bipush (v := (-3)) hx hb dX12_why_58 (by decide) ?_
            exact RI (v := (-3)) hC hP hD hS [2, 3, 4, 0, 1] (fh15007, th15008, gnm5009, gns4984, gnp4985) rfl rfl (by decide) (⟨trivial, by first | assumption | exact hM⟩) rfl dX12_why_60
    · refine lv_if_ne (tgt := 21) hx hb dX12_why_16 (by decide) (fun c9 => absurd (by decide) c9) (fun _ => ?_)
      refine lv_iconst (v := (-1)) hx hb dX12_why_19 (by decide) ?_
      exact RI (v := (-1)) hC hP hD hS [0, 1, 2, 3, 4] (mfromHour, mtoHour, fnm, fns, fnp) rfl rfl (by decide) (⟨trivial, by first | assumption | exact hM⟩) rfl dX12_why_20
  · refine lv_if_eq (tgt := 19) hx hb dX12_why_6 (by decide) (fun _ => ?_) (fun c9 => absurd (by decide) c9)
    refine lv_iconst (v := (-1)) hx hb dX12_why_19 (by decide) ?_
    exact RI (v := (-1)) hC hP hD hS [0, 1, 2, 3, 4] (mfromHour, mtoHour, fnm, fns, fnp) rfl rfl (by decide) (⟨trivial, by first | assumption | exact hM⟩) rfl dX12_why_20
set_option maxHeartbeats 4000000 in
set_option maxRecDepth 100000 in
theorem m_stands (l : Launch) (G : GG) (h0 : Nat) (jf : Nat) (nw : Nat) (nk : Nat) (mhasKept : Int32) (nt : Nat) (mtaped : Int32) (nr : Nat) (mrowMany : Int32) (mroundOf : Int32) (mroundFrom : Int32) (mouts : Int32) (nm : Nat) (mfromHour : Int32) (mtoHour : Int32) (ns : Nat) (mfrom : Int32) (mto : Int32) (msort : Int32) (misFault : Int32) (mdeep : Int32) (mcoded : Int32) (mlines : Int32) (nl : Nat) (nc : Nat) (nF : Nat) (np : Nat) (ntr : Nat) (nb : Nat) (mbestCost : Int32) (nso : Nat) (nsi : Nat) (nit : Nat) (nsh : Nat) (nsf : Nat) (nss : Nat) (nrc : Nat) (mtraced : Int32) (mdealer : Int32) (mnumber : Int32) (mwhose : Int32) (msize : Int32) (misParted : Int32) (fnw : Nat → Int32) (fnm : Nat → Int32) (fns : Nat → Int32) (fnp : Nat → Int32) (hjf : jf < 12) (hN : NI fnw) (hV : VI fnw) (hM : MB fnm) : MI l G yX12_stands cX12_stands 3 (some .boolean) 9 0 0 [.ref h0, .int (nI jf)] [(h0, .inr (12, [.ref nw, .ref nk, .int mhasKept, .ref nt, .int mtaped, .ref nr, .int mrowMany, .int mroundOf, .int mroundFrom, .int mouts, .ref nm, .int mfromHour, .int mtoHour, .ref ns, .int mfrom, .int mto, .int msort, .int misFault, .int mdeep, .int mcoded, .int mlines, .ref nl, .ref nc, .ref nF, .ref np, .ref ntr, .ref nb, .int mbestCost, .ref nso, .ref nsi, .ref nit, .ref nsh, .ref nsf, .ref nss, .ref nrc, .int mtraced, .int mdealer, .int mnumber, .int mwhose, .int msize, .int misParted])), (nw, .inl (G.2.1, 1662, .inl fnw)), (nm, .inl (G.2.1, 36, .inl fnm)), (ns, .inl (G.2.1, 8, .inl fns)), (np, .inl (G.2.1, 100, .inl fnp))] (fun (r : Int32) (u : Int32 × Int32 × (Nat → Int32) × (Nat → Int32) × (Nat → Int32)) => (r = 1 ∨ r = 0) ∧ (MB u.2.2.1)) (fun u : Int32 × Int32 × (Nat → Int32) × (Nat → Int32) × (Nat → Int32) => [(h0, .inr (12, [.ref nw, .ref nk, .int mhasKept, .ref nt, .int mtaped, .ref nr, .int mrowMany, .int mroundOf, .int mroundFrom, .int mouts, .ref nm, .int u.1, .int u.2.1, .ref ns, .int mfrom, .int mto, .int msort, .int misFault, .int mdeep, .int mcoded, .int mlines, .ref nl, .ref nc, .ref nF, .ref np, .ref ntr, .ref nb, .int mbestCost, .ref nso, .ref nsi, .ref nit, .ref nsh, .ref nsf, .ref nss, .ref nrc, .int mtraced, .int mdealer, .int mnumber, .int mwhose, .int msize, .int misParted])), (nw, .inl (G.2.1, 1662, .inl fnw)), (nm, .inl (G.2.1, 36, .inl u.2.2.1)), (ns, .inl (G.2.1, 8, .inl u.2.2.2.1)), (np, .inl (G.2.1, 100, .inl u.2.2.2.2))]) := by
  refine MI.start (by decide +kernel) (Nat.le_of_ble_eq_true rfl) ?_
  intro p e s m below meth c A ls hC hK hP hD hS hA hl
  have hl : lv_has ls 3 [(0, .ref h0), (1, .int (nI jf))] := hl
  obtain ⟨hx, hb, hr, hml, hB, hown, hlocks, hnm⟩ := id hC
  refine lv_sipush (v := 1552) hx hb dX12_stands_0 (by decide) ?_
  refine lv_iconst (v := 4) hx hb dX12_stands_3 (by decide) ?_
  refine lv_iload_n hx hb dX12_stands_4 rfl (lv_at hl 1 rfl) ?_
  refine lv_imul hx hb dX12_stands_5 ?_
  refine eqi (x1 := nI (4 * jf)) (nI_mul 4 jf) ?_
  refine lv_iadd hx hb dX12_stands_6 ?_
  refine eqi (x1 := nI (1552 + 4 * jf)) (nI_add 1552 (4 * jf)) ?_
  refine lv_istore_n (lv' := [(2, .int (nI (1552 + 4 * jf))), (0, .ref h0), (1, .int (nI jf))]) hx hb dX12_stands_7 rfl hl (by decide) rfl (fun ls hl => ?_)
  refine lv_aload_n hx hb dX12_stands_8 rfl (lv_at hl 1 rfl) ?_
  refine gf_X12_9 hC rfl hK hP 0 rfl rfl dX12_stands_9 ?_
  refine lv_iload_n hx hb dX12_stands_12 rfl (lv_at hl 0 rfl) ?_
  refine lv_iconst (v := 2) hx hb dX12_stands_13 (by decide) ?_
  refine lv_iadd hx hb dX12_stands_14 ?_
  refine eqi (x1 := nI (1552 + 4 * jf + 2)) (nI_add (1552 + 4 * jf) 2) ?_
  refine ald hC hK hP 1 rfl (vp_in_nI (by omega) (by omega)) (k := (1552 + 4 * jf + 2)) (nI_clamp (by omega)) (v := fnw (1552 + 4 * jf + 2)) rfl dX12_stands_15 ?_
  refine lv_topi (fun x5025 ex5025 => ?_)
  refine lv_aload_n hx hb dX12_stands_16 rfl (lv_at hl 1 rfl) ?_
  refine lv_aload_n hx hb dX12_stands_17 rfl (lv_at hl 1 rfl) ?_
  refine gf_X12_9 hC rfl hK hP 0 rfl rfl dX12_stands_18 ?_
  refine lv_iload_n hx hb dX12_stands_21 rfl (lv_at hl 0 rfl) ?_
  refine lv_iconst (v := 0) hx hb dX12_stands_22 (by decide) ?_
  refine lv_iadd hx hb dX12_stands_23 ?_
  refine eqi (x1 := nI (1552 + 4 * jf + 0)) (nI_add (1552 + 4 * jf) 0) ?_
  obtain ⟨fi5026, hfi5026, efi5026⟩ := NI.nat hN (i := (1552 + 4 * jf + 0)) (B := 9) (bnd_fin0 (s := jf) (by omega) (by omega)) (by decide)
  refine ald hC hK hP 1 rfl (vp_in_nI (by omega) (by omega)) (k := (1552 + 4 * jf + 0)) (nI_clamp (by omega)) (v := nI fi5026) (efi5026) dX12_stands_24 ?_
  refine lv_aload_n hx hb dX12_stands_25 rfl (lv_at hl 1 rfl) ?_
  refine gf_X12_9 hC rfl hK hP 0 rfl rfl dX12_stands_26 ?_
  refine lv_iload_n hx hb dX12_stands_29 rfl (lv_at hl 0 rfl) ?_
  refine lv_iconst (v := 1) hx hb dX12_stands_30 (by decide) ?_
  refine lv_iadd hx hb dX12_stands_31 ?_
  refine eqi (x1 := nI (1552 + 4 * jf + 1)) (nI_add (1552 + 4 * jf) 1) ?_
  obtain ⟨fi5027, hfi5027, efi5027⟩ := NI.nat hN (i := (1552 + 4 * jf + 1)) (B := 7) (bnd_fin1 (s := jf) (by omega) (by omega)) (by decide)
  refine ald hC hK hP 1 rfl (vp_in_nI (by omega) (by omega)) (k := (1552 + 4 * jf + 1)) (nI_clamp (by omega)) (v := nI fi5027) (efi5027) dX12_stands_32 ?_
  refine lv_aload_n hx hb dX12_stands_33 rfl (lv_at hl 1 rfl) ?_
  refine gf_X12_9 hC rfl hK hP 0 rfl rfl dX12_stands_34 ?_
  refine lv_iload_n hx hb dX12_stands_37 rfl (lv_at hl 0 rfl) ?_
  refine lv_iconst (v := 3) hx hb dX12_stands_38 (by decide) ?_
  refine lv_iadd hx hb dX12_stands_39 ?_
  refine eqi (x1 := nI (1552 + 4 * jf + 3)) (nI_add (1552 + 4 * jf) 3) ?_
  refine ald hC hK hP 1 rfl (vp_in_nI (by omega) (by omega)) (k := (1552 + 4 * jf + 3)) (nI_clamp (by omega)) (v := fnw (1552 + 4 * jf + 3)) rfl dX12_stands_40 ?_
  refine lv_topi (fun x5028 ex5028 => ?_)
  refine iV (wr := []) hC hK hl hP hD hS hA (m_fromOf l G h0 fi5026 fi5027 x5028 nw nk mhasKept nt mtaped nr mrowMany mroundOf mroundFrom mouts nm mfromHour mtoHour ns mfrom mto msort misFault mdeep mcoded mlines nl nc nF np ntr nb mbestCost nso nsi nit nsh nsf nss nrc mtraced mdealer mnumber mwhose msize misParted fnw fnm fns fnp (by omega) (by omega) (hN) (hV) (hM)) si_X12_203 [0, 1, 2, 3, 4] [] rfl rfl (by decide) rfl (by decide) (by decide) rfl rfl rfl rfl rfl (Nat.le_of_ble_eq_true rfl) ⟨Nat.le_of_ble_eq_true rfl, Nat.le_of_ble_eq_true rfl⟩ ⟨Nat.le_of_ble_eq_true rfl, Nat.le_of_ble_eq_true rfl⟩ dX12_stands_41 (fun r5029 u5030 H locs hr5029 hP hD hS => ?_)
  obtain ⟨fh15031, th15032, gnm5033, gns5034, gnp5035⟩ := u5030
  try dsimp only at hr5029
  have hP : va_P G.1 vwCl [(h0, .inr (12, [.ref nw, .ref nk, .int mhasKept, .ref nt, .int mtaped, .ref nr, .int mrowMany, .int mroundOf, .int mroundFrom, .int mouts, .ref nm, .int fh15031, .int th15032, .ref ns, .int mfrom, .int mto, .int msort, .int misFault, .int mdeep, .int mcoded, .int mlines, .ref nl, .ref nc, .ref nF, .ref np, .ref ntr, .ref nb, .int mbestCost, .ref nso, .ref nsi, .ref nit, .ref nsh, .ref nsf, .ref nss, .ref nrc, .int mtraced, .int mdealer, .int mnumber, .int mwhose, .int msize, .int misParted])), (nw, .inl (G.2.1, 1662, .inl fnw)), (nm, .inl (G.2.1, 36, .inl gnm5033)), (ns, .inl (G.2.1, 8, .inl gns5034)), (np, .inl (G.2.1, 100, .inl gnp5035))] H := hP
  have hD : va_D A [(h0, .inr (12, [.ref nw, .ref nk, .int mhasKept, .ref nt, .int mtaped, .ref nr, .int mrowMany, .int mroundOf, .int mroundFrom, .int mouts, .ref nm, .int fh15031, .int th15032, .ref ns, .int mfrom, .int mto, .int msort, .int misFault, .int mdeep, .int mcoded, .int mlines, .ref nl, .ref nc, .ref nF, .ref np, .ref ntr, .ref nb, .int mbestCost, .ref nso, .ref nsi, .ref nit, .ref nsh, .ref nsf, .ref nss, .ref nrc, .int mtraced, .int mdealer, .int mnumber, .int mwhose, .int msize, .int misParted])), (nw, .inl (G.2.1, 1662, .inl fnw)), (nm, .inl (G.2.1, 36, .inl gnm5033)), (ns, .inl (G.2.1, 8, .inl gns5034)), (np, .inl (G.2.1, 100, .inl gnp5035))] := hD
  obtain ⟨hr5029, w5036⟩ := hr5029
  refine lv_icmp_lt (tgt := 51) hx hb dX12_stands_44 (by decide) (fun c_44_5037 => ?_) (fun c_44_5037 => ?_)
  · refine lv_iconst (v := 0) hx hb dX12_stands_51 (by decide) ?_
    exact RI (v := 0) hC hP hD hS [0, 1, 2, 3, 4] (fh15031, th15032, gnm5033, gns5034, gnp5035) rfl rfl (by decide) (⟨Or.inr (rfl), by first | assumption | exact hM⟩) (by decide +kernel) dX12_stands_52
  · refine lv_iconst (v := 1) hx hb dX12_stands_47 (by decide) ?_
    refine lv_goto (tgt := 52) hx hb dX12_stands_48 (by decide) ?_
    exact RI (v := 1) hC hP hD hS [0, 1, 2, 3, 4] (fh15031, th15032, gnm5033, gns5034, gnp5035) rfl rfl (by decide) (⟨Or.inl (rfl), by first | assumption | exact hM⟩) (by decide +kernel) dX12_stands_52
set_option maxHeartbeats 4000000 in
set_option maxRecDepth 100000 in
theorem m_leans (l : Launch) (G : GG) (h0 : Nat) (jf : Nat) (nw : Nat) (nk : Nat) (mhasKept : Int32) (nt : Nat) (mtaped : Int32) (nr : Nat) (mrowMany : Int32) (mroundOf : Int32) (mroundFrom : Int32) (nm : Nat) (mfromHour : Int32) (mtoHour : Int32) (ns : Nat) (mfrom : Int32) (mto : Int32) (msort : Int32) (misFault : Int32) (mdeep : Int32) (mcoded : Int32) (mlines : Int32) (nl : Nat) (nc : Nat) (nF : Nat) (np : Nat) (ntr : Nat) (nb : Nat) (mbestCost : Int32) (nso : Nat) (nsi : Nat) (nit : Nat) (nsh : Nat) (nsf : Nat) (nss : Nat) (nrc : Nat) (mtraced : Int32) (mdealer : Int32) (mnumber : Int32) (mwhose : Int32) (msize : Int32) (misParted : Int32) (fnw : Nat → Int32) (fnm : Nat → Int32) (fns : Nat → Int32) (fnp : Nat → Int32) (hjf : jf < 12) (hN : NI fnw) (hV : VI fnw) (hM : MB fnm) : MI l G yX12_leans cX12_leans 5 (some .int) 10 0 0 [.ref h0, .int (nI jf)] [(h0, .inr (12, [.ref nw, .ref nk, .int mhasKept, .ref nt, .int mtaped, .ref nr, .int mrowMany, .int mroundOf, .int mroundFrom, .int 0, .ref nm, .int mfromHour, .int mtoHour, .ref ns, .int mfrom, .int mto, .int msort, .int misFault, .int mdeep, .int mcoded, .int mlines, .ref nl, .ref nc, .ref nF, .ref np, .ref ntr, .ref nb, .int mbestCost, .ref nso, .ref nsi, .ref nit, .ref nsh, .ref nsf, .ref nss, .ref nrc, .int mtraced, .int mdealer, .int mnumber, .int mwhose, .int msize, .int misParted])), (nw, .inl (G.2.1, 1662, .inl fnw)), (nm, .inl (G.2.1, 36, .inl fnm)), (ns, .inl (G.2.1, 8, .inl fns)), (np, .inl (G.2.1, 100, .inl fnp))] (fun (r : Int32) (u : Int32 × Int32 × (Nat → Int32) × (Nat → Int32) × (Nat → Int32)) => (True) ∧ (MB u.2.2.1)) (fun u : Int32 × Int32 × (Nat → Int32) × (Nat → Int32) × (Nat → Int32) => [(h0, .inr (12, [.ref nw, .ref nk, .int mhasKept, .ref nt, .int mtaped, .ref nr, .int mrowMany, .int mroundOf, .int mroundFrom, .int 0, .ref nm, .int u.1, .int u.2.1, .ref ns, .int mfrom, .int mto, .int msort, .int misFault, .int mdeep, .int mcoded, .int mlines, .ref nl, .ref nc, .ref nF, .ref np, .ref ntr, .ref nb, .int mbestCost, .ref nso, .ref nsi, .ref nit, .ref nsh, .ref nsf, .ref nss, .ref nrc, .int mtraced, .int mdealer, .int mnumber, .int mwhose, .int msize, .int misParted])), (nw, .inl (G.2.1, 1662, .inl fnw)), (nm, .inl (G.2.1, 36, .inl u.2.2.1)), (ns, .inl (G.2.1, 8, .inl u.2.2.2.1)), (np, .inl (G.2.1, 100, .inl u.2.2.2.2))]) := by
  refine MI.start (by decide +kernel) (Nat.le_of_ble_eq_true rfl) ?_
  intro p e s m below meth c A ls hC hK hP hD hS hA hl
  have hl : lv_has ls 5 [(0, .ref h0), (1, .int (nI jf))] := hl
  obtain ⟨hx, hb, hr, hml, hB, hown, hlocks, hnm⟩ := id hC
  obtain ⟨kq, hkq, ekq⟩ := NI.nat hN (i := 5) (B := 12) (by decide +kernel) (by decide)
  refine lv_aload_n hx hb dX12_leans_0 rfl (lv_at hl 0 rfl) ?_
  refine lv_iload_n hx hb dX12_leans_1 rfl (lv_at hl 1 rfl) ?_
  refine iV (wr := []) hC hK hl hP hD hS hA (m_stands l G h0 jf nw nk mhasKept nt mtaped nr mrowMany mroundOf mroundFrom 0 nm mfromHour mtoHour ns mfrom mto msort misFault mdeep mcoded mlines nl nc nF np ntr nb mbestCost nso nsi nit nsh nsf nss nrc mtraced mdealer mnumber mwhose msize misParted fnw fnm fns fnp (by omega) (hN) (hV) (hM)) si_X12_305 [0, 1, 2, 3, 4] [] rfl rfl (by decide) rfl (by decide) (by decide) rfl rfl rfl rfl rfl (Nat.le_of_ble_eq_true rfl) ⟨Nat.le_of_ble_eq_true rfl, Nat.le_of_ble_eq_true rfl⟩ ⟨Nat.le_of_ble_eq_true rfl, Nat.le_of_ble_eq_true rfl⟩ dX12_leans_2 (fun r5038 u5039 H locs hr5038 hP hD hS => ?_)
  obtain ⟨fh15040, th15041, gnm5042, gns5043, gnp5044⟩ := u5039
  try dsimp only at hr5038
  have hP : va_P G.1 vwCl [(h0, .inr (12, [.ref nw, .ref nk, .int mhasKept, .ref nt, .int mtaped, .ref nr, .int mrowMany, .int mroundOf, .int mroundFrom, .int 0, .ref nm, .int fh15040, .int th15041, .ref ns, .int mfrom, .int mto, .int msort, .int misFault, .int mdeep, .int mcoded, .int mlines, .ref nl, .ref nc, .ref nF, .ref np, .ref ntr, .ref nb, .int mbestCost, .ref nso, .ref nsi, .ref nit, .ref nsh, .ref nsf, .ref nss, .ref nrc, .int mtraced, .int mdealer, .int mnumber, .int mwhose, .int msize, .int misParted])), (nw, .inl (G.2.1, 1662, .inl fnw)), (nm, .inl (G.2.1, 36, .inl gnm5042)), (ns, .inl (G.2.1, 8, .inl gns5043)), (np, .inl (G.2.1, 100, .inl gnp5044))] H := hP
  have hD : va_D A [(h0, .inr (12, [.ref nw, .ref nk, .int mhasKept, .ref nt, .int mtaped, .ref nr, .int mrowMany, .int mroundOf, .int mroundFrom, .int 0, .ref nm, .int fh15040, .int th15041, .ref ns, .int mfrom, .int mto, .int msort, .int misFault, .int mdeep, .int mcoded, .int mlines, .ref nl, .ref nc, .ref nF, .ref np, .ref ntr, .ref nb, .int mbestCost, .ref nso, .ref nsi, .ref nit, .ref nsh, .ref nsf, .ref nss, .ref nrc, .int mtraced, .int mdealer, .int mnumber, .int mwhose, .int msize, .int misParted])), (nw, .inl (G.2.1, 1662, .inl fnw)), (nm, .inl (G.2.1, 36, .inl gnm5042)), (ns, .inl (G.2.1, 8, .inl gns5043)), (np, .inl (G.2.1, 100, .inl gnp5044))] := hD
  obtain ⟨hr5038, w5045⟩ := hr5038
  rcases hr5038 with rfl | rfl
  · refine lv_if_eq (tgt := 15) hx hb dX12_leans_5 (by decide) (fun c9 => absurd c9 (by decide)) (fun _ => ?_)
    refine lv_aload_n hx hb dX12_leans_8 rfl (lv_at hl 0 rfl) ?_
    refine pV hC hK hl hP hD (m_inView l G h0 nw nk mhasKept nt mtaped nr mrowMany mroundOf mroundFrom 0 nm fh15040 th15041 ns mfrom mto msort misFault mdeep mcoded mlines nl nc nF np ntr nb mbestCost nso nsi nit nsh nsf nss nrc mtraced mdealer mnumber mwhose msize misParted fnw (hN)) si_X12_107 [0, 1] rfl rfl (by decide) rfl rfl rfl rfl rfl (Nat.le_of_ble_eq_true rfl) ⟨Nat.le_of_ble_eq_true rfl, Nat.le_of_ble_eq_true rfl⟩ ⟨by first | exact Nat.le_of_ble_eq_true rfl | exact Nat.zero_le _, by first | exact Nat.le_of_ble_eq_true rfl | exact Nat.zero_le _⟩ dX12_leans_9 (fun r5047 hr5047 => ?_)
    refine lv_goto (tgt := 16) hx hb dX12_leans_12 (by decide) ?_
    refine lv_istore_n (lv' := [(2, .int r5047), (0, .ref h0), (1, .int (nI jf))]) hx hb dX12_leans_16 rfl hl (by decide) rfl (fun ls hl => ?_)
    refine lv_iconst (v := 0) hx hb dX12_leans_17 (by decide) ?_
    refine lv_istore_n (lv' := [(3, .int 0), (2, .int r5047), (0, .ref h0), (1, .int (nI jf))]) hx hb dX12_leans_18 rfl hl (by decide) rfl (fun ls hl => ?_)
    refine lv_iconst (v := 0) hx hb dX12_leans_19 (by decide) ?_
    refine lv_istore (lv' := [(4, .int 0), (3, .int 0), (2, .int r5047), (0, .ref h0), (1, .int (nI jf))]) hx hb dX12_leans_20 hl (by decide) rfl (fun ls hl => ?_)
    have keyP : ∀ (nP kP : Nat) (se : Int32) (vfh : Int32) (vth : Int32) (vA : Nat → Int32) (vS : Nat → Int32) (vR : Nat → Int32) (H : Heap) (locs : List Loc) (ls : Array Slot), kP + nP = kq → (MB vA) → va_P G.1 vwCl [(h0, .inr (12, [.ref nw, .ref nk, .int mhasKept, .ref nt, .int mtaped, .ref nr, .int mrowMany, .int mroundOf, .int mroundFrom, .int 0, .ref nm, .int vfh, .int vth, .ref ns, .int mfrom, .int mto, .int msort, .int misFault, .int mdeep, .int mcoded, .int mlines, .ref nl, .ref nc, .ref nF, .ref np, .ref ntr, .ref nb, .int mbestCost, .ref nso, .ref nsi, .ref nit, .ref nsh, .ref nsf, .ref nss, .ref nrc, .int mtraced, .int mdealer, .int mnumber, .int mwhose, .int msize, .int misParted])), (nw, .inl (G.2.1, 1662, .inl fnw)), (nm, .inl (G.2.1, 36, .inl vA)), (ns, .inl (G.2.1, 8, .inl vS)), (np, .inl (G.2.1, 100, .inl vR))] H → va_D A [(h0, .inr (12, [.ref nw, .ref nk, .int mhasKept, .ref nt, .int mtaped, .ref nr, .int mrowMany, .int mroundOf, .int mroundFrom, .int 0, .ref nm, .int vfh, .int vth, .ref ns, .int mfrom, .int mto, .int msort, .int misFault, .int mdeep, .int mcoded, .int mlines, .ref nl, .ref nc, .ref nF, .ref np, .ref ntr, .ref nb, .int mbestCost, .ref nso, .ref nsi, .ref nit, .ref nsh, .ref nsf, .ref nss, .ref nrc, .int mtraced, .int mdealer, .int mnumber, .int mwhose, .int msize, .int misParted])), (nw, .inl (G.2.1, 1662, .inl fnw)), (nm, .inl (G.2.1, 36, .inl vA)), (ns, .inl (G.2.1, 8, .inl vS)), (np, .inl (G.2.1, 100, .inl vR))] → va_S A s.heap H locs → lv_has ls 5 [(4, .int (nI kP)), (3, .int se), (2, .int r5047), (0, .ref h0), (1, .int (nI jf))] → W p l e (RM 10 0 0) s m ([.ref h0, .int (nI jf)] : List Value).toArray below meth c H locs 0 0 (MQ below (QI G (fun (r : Int32) (u : Int32 × Int32 × (Nat → Int32) × (Nat → Int32) × (Nat → Int32)) => (True) ∧ (MB u.2.2.1)) (fun u : Int32 × Int32 × (Nat → Int32) × (Nat → Int32) × (Nat → Int32) => [(h0, .inr (12, [.ref nw, .ref nk, .int mhasKept, .ref nt, .int mtaped, .ref nr, .int mrowMany, .int mroundOf, .int mroundFrom, .int 0, .ref nm, .int u.1, .int u.2.1, .ref ns, .int mfrom, .int mto, .int msort, .int misFault, .int mdeep, .int mcoded, .int mlines, .ref nl, .ref nc, .ref nF, .ref np, .ref ntr, .ref nb, .int mbestCost, .ref nso, .ref nsi, .ref nit, .ref nsh, .ref nsf, .ref nss, .ref nrc, .int mtraced, .int mdealer, .int mnumber, .int mwhose, .int msize, .int misParted])), (nw, .inl (G.2.1, 1662, .inl fnw)), (nm, .inl (G.2.1, 36, .inl u.2.2.1)), (ns, .inl (G.2.1, 8, .inl u.2.2.2.1)), (np, .inl (G.2.1, 100, .inl u.2.2.2.2))]) A) ([.ref h0, .int (nI jf)] : List Value).toArray s 0 0 A) (F0 m 22 ls []) := by
      intro nP
      induction nP with
      | zero =>
        intro kP se vfh vth vA vS vR H locs ls hkP hvA hP hD hS hl
        obtain rfl : kq = kP := by omega
        have hl : lv_has ls 5 [(4, .int (nI kq)), (3, .int se), (2, .int r5047), (0, .ref h0), (1, .int (nI jf))] := hl
        refine lv_iload hx hb dX12_leans_22 (lv_at hl 0 rfl) ?_
        refine lv_aload_n hx hb dX12_leans_24 rfl (lv_at hl 3 rfl) ?_
        refine gf_X12_9 hC rfl hK hP 0 rfl rfl dX12_leans_25 ?_
        refine lv_iconst (v := 5) hx hb dX12_leans_28 (by decide) ?_
        refine ald hC hK hP 1 rfl (vin (by decide +kernel)) (k := 5) (by decide +kernel) (v := nI kq) (ekq) dX12_leans_29 ?_
        refine lv_icmp_ge (tgt := 80) hx hb dX12_leans_30 (by decide) (fun _ => ?_) (fun c9 => absurd (Int32.le_refl _) c9)
        refine lv_iload_n hx hb dX12_leans_80 rfl (lv_at hl 1 rfl) ?_
        exact RI (v := se) hC hP hD hS [0, 1, 2, 3, 4] (vfh, vth, vA, vS, vR) rfl rfl (by decide) (⟨trivial, by first | assumption | exact hM⟩) rfl dX12_leans_81
      | succ nP ihP =>
        intro kP se vfh vth vA vS vR H locs ls hkP hvA hP hD hS hl
        refine lv_iload hx hb dX12_leans_22 (lv_at hl 0 rfl) ?_
        refine lv_aload_n hx hb dX12_leans_24 rfl (lv_at hl 3 rfl) ?_
        refine gf_X12_9 hC rfl hK hP 0 rfl rfl dX12_leans_25 ?_
        refine lv_iconst (v := 5) hx hb dX12_leans_28 (by decide) ?_
        refine ald hC hK hP 1 rfl (vin (by decide +kernel)) (k := 5) (by decide +kernel) (v := nI kq) (ekq) dX12_leans_29 ?_
        refine lv_icmp_ge (tgt := 80) hx hb dX12_leans_30 (by decide) (fun c9 => absurd c9 (nI_ge (a := kP) (b := kq) (by omega) (by omega))) (fun _ => ?_)
        refine lv_iload_n hx hb dX12_leans_33 rfl (lv_at hl 2 rfl) ?_
        refine lv_iload hx hb dX12_leans_34 (lv_at hl 0 rfl) ?_
        refine pS hC hK hl (m_has l G r5047 (nI kP)) si_X12_99 rfl rfl (Nat.le_of_ble_eq_true rfl) ⟨Nat.le_of_ble_eq_true rfl, Nat.le_of_ble_eq_true rfl⟩ ⟨by first | exact Nat.le_of_ble_eq_true rfl | exact Nat.zero_le _, by first | exact Nat.le_of_ble_eq_true rfl | exact Nat.zero_le _⟩ dX12_leans_36 (fun r5048 hr5048 => ?_)
        rcases hr5048 with ⟨rfl, a5049⟩ | ⟨rfl, a5049⟩
        · refine lv_if_eq (tgt := 74) hx hb dX12_leans_39 (by decide) (fun c9 => absurd c9 (by decide)) (fun _ => ?_)
          refine lv_aload_n hx hb dX12_leans_42 rfl (lv_at hl 3 rfl) ?_
          refine lv_iconst (v := 1) hx hb dX12_leans_43 (by decide) ?_
          refine lv_iload hx hb dX12_leans_44 (lv_at hl 0 rfl) ?_
          refine lv_ishl hx hb dX12_leans_46 ?_
          refine pf_X12_96 hC rfl hK hP hD hS 0 (ws' := [(h0, .inr (12, [.ref nw, .ref nk, .int mhasKept, .ref nt, .int mtaped, .ref nr, .int mrowMany, .int mroundOf, .int mroundFrom, .int (1 <<< ((nI kP) &&& 31)), .ref nm, .int vfh, .int vth, .ref ns, .int mfrom, .int mto, .int msort, .int misFault, .int mdeep, .int mcoded, .int mlines, .ref nl, .ref nc, .ref nF, .ref np, .ref ntr, .ref nb, .int mbestCost, .ref nso, .ref nsi, .ref nit, .ref nsh, .ref nsf, .ref nss, .ref nrc, .int mtraced, .int mdealer, .int mnumber, .int mwhose, .int msize, .int misParted])), (nw, .inl (G.2.1, 1662, .inl fnw)), (nm, .inl (G.2.1, 36, .inl vA)), (ns, .inl (G.2.1, 8, .inl vS)), (np, .inl (G.2.1, 100, .inl vR))]) rfl (Nat.le_of_ble_eq_true rfl) rfl rfl rfl dX12_leans_47 (fun H locs hP hD hS => ?_)
          refine lv_iload_n hx hb dX12_leans_50 rfl (lv_at hl 1 rfl) ?_
          refine lv_aload_n hx hb dX12_leans_51 rfl (lv_at hl 3 rfl) ?_
          refine lv_iload_n hx hb dX12_leans_52 rfl (lv_at hl 4 rfl) ?_
          refine iV (wr := []) hC hK hl hP hD hS hA (m_stands l G h0 jf nw nk mhasKept nt mtaped nr mrowMany mroundOf mroundFrom (1 <<< ((nI kP) &&& 31)) nm vfh vth ns mfrom mto msort misFault mdeep mcoded mlines nl nc nF np ntr nb mbestCost nso nsi nit nsh nsf nss nrc mtraced mdealer mnumber mwhose msize misParted fnw vA vS vR (by omega) (hN) (hV) (hvA)) si_X12_305 [0, 1, 2, 3, 4] [] rfl rfl (by decide) rfl (by decide) (by decide) rfl rfl rfl rfl rfl (Nat.le_of_ble_eq_true rfl) ⟨Nat.le_of_ble_eq_true rfl, Nat.le_of_ble_eq_true rfl⟩ ⟨Nat.le_of_ble_eq_true rfl, Nat.le_of_ble_eq_true rfl⟩ dX12_leans_53 (fun r5050 u5051 H locs hr5050 hP hD hS => ?_)
          obtain ⟨fh15052, th15053, gnm5054, gns5055, gnp5056⟩ := u5051
          try dsimp only at hr5050
          have hP : va_P G.1 vwCl [(h0, .inr (12, [.ref nw, .ref nk, .int mhasKept, .ref nt, .int mtaped, .ref nr, .int mrowMany, .int mroundOf, .int mroundFrom, .int (1 <<< ((nI kP) &&& 31)), .ref nm, .int fh15052, .int th15053, .ref ns, .int mfrom, .int mto, .int msort, .int misFault, .int mdeep, .int mcoded, .int mlines, .ref nl, .ref nc, .ref nF, .ref np, .ref ntr, .ref nb, .int mbestCost, .ref nso, .ref nsi, .ref nit, .ref nsh, .ref nsf, .ref nss, .ref nrc, .int mtraced, .int mdealer, .int mnumber, .int mwhose, .int msize, .int misParted])), (nw, .inl (G.2.1, 1662, .inl fnw)), (nm, .inl (G.2.1, 36, .inl gnm5054)), (ns, .inl (G.2.1, 8, .inl gns5055)), (np, .inl (G.2.1, 100, .inl gnp5056))] H := hP
          have hD : va_D A [(h0, .inr (12, [.ref nw, .ref nk, .int mhasKept, .ref nt, .int mtaped, .ref nr, .int mrowMany, .int mroundOf, .int mroundFrom, .int (1 <<< ((nI kP) &&& 31)), .ref nm, .int fh15052, .int th15053, .ref ns, .int mfrom, .int mto, .int msort, .int misFault, .int mdeep, .int mcoded, .int mlines, .ref nl, .ref nc, .ref nF, .ref np, .ref ntr, .ref nb, .int mbestCost, .ref nso, .ref nsi, .ref nit, .ref nsh, .ref nsf, .ref nss, .ref nrc, .int mtraced, .int mdealer, .int mnumber, .int mwhose, .int msize, .int misParted])), (nw, .inl (G.2.1, 1662, .inl fnw)), (nm, .inl (G.2.1, 36, .inl gnm5054)), (ns, .inl (G.2.1, 8, .inl gns5055)), (np, .inl (G.2.1, 100, .inl gnp5056))] := hD
          obtain ⟨hr5050, w5057⟩ := hr5050
          rcases hr5050 with rfl | rfl
          · refine lv_if_eq (tgt := 63) hx hb dX12_leans_56 (by decide) (fun c9 => absurd c9 (by decide)) (fun _ => ?_)
            refine lv_iconst (v := 0) hx hb dX12_leans_59 (by decide) ?_
            refine lv_goto (tgt := 67) hx hb dX12_leans_60 (by decide) ?_
            refine lv_ior hx hb dX12_leans_67 ?_
            refine lv_istore_n (lv' := [(3, .int (se ||| 0)), (4, .int (nI kP)), (2, .int r5047), (0, .ref h0), (1, .int (nI jf))]) hx hb dX12_leans_68 rfl hl (by decide) rfl (fun ls hl => ?_)
            refine lv_aload_n hx hb dX12_leans_69 rfl (lv_at hl 3 rfl) ?_
            refine lv_iconst (v := 0) hx hb dX12_leans_70 (by decide) ?_
            refine pf_X12_96 hC rfl hK hP hD hS 0 (ws' := [(h0, .inr (12, [.ref nw, .ref nk, .int mhasKept, .ref nt, .int mtaped, .ref nr, .int mrowMany, .int mroundOf, .int mroundFrom, .int 0, .ref nm, .int fh15052, .int th15053, .ref ns, .int mfrom, .int mto, .int msort, .int misFault, .int mdeep, .int mcoded, .int mlines, .ref nl, .ref nc, .ref nF, .ref np, .ref ntr, .ref nb, .int mbestCost, .ref nso, .ref nsi, .ref nit, .ref nsh, .ref nsf, .ref nss, .ref nrc, .int mtraced, .int mdealer, .int mnumber, .int mwhose, .int msize, .int misParted])), (nw, .inl (G.2.1, 1662, .inl fnw)), (nm, .inl (G.2.1, 36, .inl gnm5054)), (ns, .inl (G.2.1, 8, .inl gns5055)), (np, .inl (G.2.1, 100, .inl gnp5056))]) rfl (Nat.le_of_ble_eq_true rfl) rfl rfl rfl dX12_leans_71 (fun H locs hP hD hS => ?_)
            refine lv_iinc (v := nI (kP + 1)) (lv' := [(4, .int (nI (kP + 1))), (3, .int (se ||| 0)), (2, .int r5047), (0, .ref h0), (1, .int (nI jf))]) hx hb dX12_leans_74 hl (k := 1) rfl (nI_1 _) (by decide) rfl (fun ls hl => ?_)
            refine lv_goto (tgt := 22) hx hb dX12_leans_77 (by decide) ?_
            exact ihP (kP + 1) (se ||| 0) fh15052 th15053 gnm5054 gns5055 gnp5056 _ _ _ (by omega) (by first | assumption | exact Or.inl rfl | exact Or.inr rfl) hP hD hS (lv_sub hl [0, 1, 2, 3, 4] rfl)
          · refine lv_if_eq (tgt := 63) hx hb dX12_leans_56 (by decide) (fun _ => ?_) (fun c9 => absurd (by decide) c9)
            refine lv_iconst (v := 1) hx hb dX12_leans_63 (by decide) ?_
            refine lv_iload hx hb dX12_leans_64 (lv_at hl 0 rfl) ?_
            refine lv_ishl hx hb dX12_leans_66 ?_
            refine lv_ior hx hb dX12_leans_67 ?_
            refine lv_istore_n (lv' := [(3, .int (se ||| (1 <<< ((nI kP) &&& 31)))), (4, .int (nI kP)), (2, .int r5047), (0, .ref h0), (1, .int (nI jf))]) hx hb dX12_leans_68 rfl hl (by decide) rfl (fun ls hl => ?_)
            refine lv_aload_n hx hb dX12_leans_69 rfl (lv_at hl 3 rfl) ?_
            refine lv_iconst (v := 0) hx hb dX12_leans_70 (by decide) ?_
            refine pf_X12_96 hC rfl hK hP hD hS 0 (ws' := [(h0, .inr (12, [.ref nw, .ref nk, .int mhasKept, .ref nt, .int mtaped, .ref nr, .int mrowMany, .int mroundOf, .int mroundFrom, .int 0, .ref nm, .int fh15052, .int th15053, .ref ns, .int mfrom, .int mto, .int msort, .int misFault, .int mdeep, .int mcoded, .int mlines, .ref nl, .ref nc, .ref nF, .ref np, .ref ntr, .ref nb, .int mbestCost, .ref nso, .ref nsi, .ref nit, .ref nsh, .ref nsf, .ref nss, .ref nrc, .int mtraced, .int mdealer, .int mnumber, .int mwhose, .int msize, .int misParted])), (nw, .inl (G.2.1, 1662, .inl fnw)), (nm, .inl (G.2.1, 36, .inl gnm5054)), (ns, .inl (G.2.1, 8, .inl gns5055)), (np, .inl (G.2.1, 100, .inl gnp5056))]) rfl (Nat.le_of_ble_eq_true rfl) rfl rfl rfl dX12_leans_71 (fun H locs hP hD hS => ?_)
            refine lv_iinc (v := nI (kP + 1)) (lv' := [(4, .int (nI (kP + 1))), (3, .int (se ||| (1 <<< ((nI kP) &&& 31)))), (2, .int r5047), (0, .ref h0), (1, .int (nI jf))]) hx hb dX12_leans_74 hl (k := 1) rfl (nI_1 _) (by decide) rfl (fun ls hl => ?_)
            refine lv_goto (tgt := 22) hx hb dX12_leans_77 (by decide) ?_
            exact ihP (kP + 1) (se ||| (1 <<< ((nI kP) &&& 31))) fh15052 th15053 gnm5054 gns5055 gnp5056 _ _ _ (by omega) (by first | assumption | exact Or.inl rfl | exact Or.inr rfl) hP hD hS (lv_sub hl [0, 1, 2, 3, 4] rfl)
        · refine lv_if_eq (tgt := 74) hx hb dX12_leans_39 (by decide) (fun _ => ?_) (fun c9 => absurd (by decide) c9)
          refine lv_iinc (v := nI (kP + 1)) (lv' := [(4, .int (nI (kP + 1))), (3, .int se), (2, .int r5047), (0, .ref h0), (1, .int (nI jf))]) hx hb dX12_leans_74 hl (k := 0) rfl (nI_1 _) (by decide) rfl (fun ls hl => ?_)
          refine lv_goto (tgt := 22) hx hb dX12_leans_77 (by decide) ?_
          exact ihP (kP + 1) se vfh vth vA vS vR _ _ _ (by omega) (by first | assumption | exact Or.inl rfl | exact Or.inr rfl) hP hD hS (lv_sub hl [0, 1, 2, 3, 4] rfl)
    exact keyP kq 0 0 fh15040 th15041 gnm5042 gns5043 gnp5044 _ _ _ (by omega) (by first | assumption | exact Or.inl rfl | exact Or.inr rfl) hP hD hS (lv_sub hl [0, 1, 2, 3, 4] rfl)
  · refine lv_if_eq (tgt := 15) hx hb dX12_leans_5 (by decide) (fun _ => ?_) (fun c9 => absurd (by decide) c9)
    refine lv_iconst (v := 0) hx hb dX12_leans_15 (by decide) ?_
    refine lv_istore_n (lv' := [(2, .int 0), (0, .ref h0), (1, .int (nI jf))]) hx hb dX12_leans_16 rfl hl (by decide) rfl (fun ls hl => ?_)
    refine lv_iconst (v := 0) hx hb dX12_leans_17 (by decide) ?_
    refine lv_istore_n (lv' := [(3, .int 0), (2, .int 0), (0, .ref h0), (1, .int (nI jf))]) hx hb dX12_leans_18 rfl hl (by decide) rfl (fun ls hl => ?_)
    refine lv_iconst (v := 0) hx hb dX12_leans_19 (by decide) ?_
    refine lv_istore (lv' := [(4, .int 0), (3, .int 0), (2, .int 0), (0, .ref h0), (1, .int (nI jf))]) hx hb dX12_leans_20 hl (by decide) rfl (fun ls hl => ?_)
    have keyP : ∀ (nP kP : Nat) (se : Int32) (vfh : Int32) (vth : Int32) (vA : Nat → Int32) (vS : Nat → Int32) (vR : Nat → Int32) (H : Heap) (locs : List Loc) (ls : Array Slot), kP + nP = kq → (MB vA) → va_P G.1 vwCl [(h0, .inr (12, [.ref nw, .ref nk, .int mhasKept, .ref nt, .int mtaped, .ref nr, .int mrowMany, .int mroundOf, .int mroundFrom, .int 0, .ref nm, .int vfh, .int vth, .ref ns, .int mfrom, .int mto, .int msort, .int misFault, .int mdeep, .int mcoded, .int mlines, .ref nl, .ref nc, .ref nF, .ref np, .ref ntr, .ref nb, .int mbestCost, .ref nso, .ref nsi, .ref nit, .ref nsh, .ref nsf, .ref nss, .ref nrc, .int mtraced, .int mdealer, .int mnumber, .int mwhose, .int msize, .int misParted])), (nw, .inl (G.2.1, 1662, .inl fnw)), (nm, .inl (G.2.1, 36, .inl vA)), (ns, .inl (G.2.1, 8, .inl vS)), (np, .inl (G.2.1, 100, .inl vR))] H → va_D A [(h0, .inr (12, [.ref nw, .ref nk, .int mhasKept, .ref nt, .int mtaped, .ref nr, .int mrowMany, .int mroundOf, .int mroundFrom, .int 0, .ref nm, .int vfh, .int vth, .ref ns, .int mfrom, .int mto, .int msort, .int misFault, .int mdeep, .int mcoded, .int mlines, .ref nl, .ref nc, .ref nF, .ref np, .ref ntr, .ref nb, .int mbestCost, .ref nso, .ref nsi, .ref nit, .ref nsh, .ref nsf, .ref nss, .ref nrc, .int mtraced, .int mdealer, .int mnumber, .int mwhose, .int msize, .int misParted])), (nw, .inl (G.2.1, 1662, .inl fnw)), (nm, .inl (G.2.1, 36, .inl vA)), (ns, .inl (G.2.1, 8, .inl vS)), (np, .inl (G.2.1, 100, .inl vR))] → va_S A s.heap H locs → lv_has ls 5 [(4, .int (nI kP)), (3, .int se), (2, .int 0), (0, .ref h0), (1, .int (nI jf))] → W p l e (RM 10 0 0) s m ([.ref h0, .int (nI jf)] : List Value).toArray below meth c H locs 0 0 (MQ below (QI G (fun (r : Int32) (u : Int32 × Int32 × (Nat → Int32) × (Nat → Int32) × (Nat → Int32)) => (True) ∧ (MB u.2.2.1)) (fun u : Int32 × Int32 × (Nat → Int32) × (Nat → Int32) × (Nat → Int32) => [(h0, .inr (12, [.ref nw, .ref nk, .int mhasKept, .ref nt, .int mtaped, .ref nr, .int mrowMany, .int mroundOf, .int mroundFrom, .int 0, .ref nm, .int u.1, .int u.2.1, .ref ns, .int mfrom, .int mto, .int msort, .int misFault, .int mdeep, .int mcoded, .int mlines, .ref nl, .ref nc, .ref nF, .ref np, .ref ntr, .ref nb, .int mbestCost, .ref nso, .ref nsi, .ref nit, .ref nsh, .ref nsf, .ref nss, .ref nrc, .int mtraced, .int mdealer, .int mnumber, .int mwhose, .int msize, .int misParted])), (nw, .inl (G.2.1, 1662, .inl fnw)), (nm, .inl (G.2.1, 36, .inl u.2.2.1)), (ns, .inl (G.2.1, 8, .inl u.2.2.2.1)), (np, .inl (G.2.1, 100, .inl u.2.2.2.2))]) A) ([.ref h0, .int (nI jf)] : List Value).toArray s 0 0 A) (F0 m 22 ls []) := by
      intro nP
      induction nP with
      | zero =>
        intro kP se vfh vth vA vS vR H locs ls hkP hvA hP hD hS hl
        obtain rfl : kq = kP := by omega
        have hl : lv_has ls 5 [(4, .int (nI kq)), (3, .int se), (2, .int 0), (0, .ref h0), (1, .int (nI jf))] := hl
        refine lv_iload hx hb dX12_leans_22 (lv_at hl 0 rfl) ?_
        refine lv_aload_n hx hb dX12_leans_24 rfl (lv_at hl 3 rfl) ?_
        refine gf_X12_9 hC rfl hK hP 0 rfl rfl dX12_leans_25 ?_
        refine lv_iconst (v := 5) hx hb dX12_leans_28 (by decide) ?_
        refine ald hC hK hP 1 rfl (vin (by decide +kernel)) (k := 5) (by decide +kernel) (v := nI kq) (ekq) dX12_leans_29 ?_
        refine lv_icmp_ge (tgt := 80) hx hb dX12_leans_30 (by decide) (fun _ => ?_) (fun c9 => absurd (Int32.le_refl _) c9)
        refine lv_iload_n hx hb dX12_leans_80 rfl (lv_at hl 1 rfl) ?_
        exact RI (v := se) hC hP hD hS [0, 1, 2, 3, 4] (vfh, vth, vA, vS, vR) rfl rfl (by decide) (⟨trivial, by first | assumption | exact hM⟩) rfl dX12_leans_81
      | succ nP ihP =>
        intro kP se vfh vth vA vS vR H locs ls hkP hvA hP hD hS hl
        refine lv_iload hx hb dX12_leans_22 (lv_at hl 0 rfl) ?_
        refine lv_aload_n hx hb dX12_leans_24 rfl (lv_at hl 3 rfl) ?_
        refine gf_X12_9 hC rfl hK hP 0 rfl rfl dX12_leans_25 ?_
        refine lv_iconst (v := 5) hx hb dX12_leans_28 (by decide) ?_
        refine ald hC hK hP 1 rfl (vin (by decide +kernel)) (k := 5) (by decide +kernel) (v := nI kq) (ekq) dX12_leans_29 ?_
        refine lv_icmp_ge (tgt := 80) hx hb dX12_leans_30 (by decide) (fun c9 => absurd c9 (nI_ge (a := kP) (b := kq) (by omega) (by omega))) (fun _ => ?_)
        refine lv_iload_n hx hb dX12_leans_33 rfl (lv_at hl 2 rfl) ?_
        refine lv_iload hx hb dX12_leans_34 (lv_at hl 0 rfl) ?_
        refine pS hC hK hl (m_has l G 0 (nI kP)) si_X12_99 rfl rfl (Nat.le_of_ble_eq_true rfl) ⟨Nat.le_of_ble_eq_true rfl, Nat.le_of_ble_eq_true rfl⟩ ⟨by first | exact Nat.le_of_ble_eq_true rfl | exact Nat.zero_le _, by first | exact Nat.le_of_ble_eq_true rfl | exact Nat.zero_le _⟩ dX12_leans_36 (fun r5059 hr5059 => ?_)
        rcases hr5059 with ⟨rfl, a5060⟩ | ⟨rfl, a5060⟩
        · refine lv_if_eq (tgt := 74) hx hb dX12_leans_39 (by decide) (fun c9 => absurd c9 (by decide)) (fun _ => ?_)
          refine lv_aload_n hx hb dX12_leans_42 rfl (lv_at hl 3 rfl) ?_
          refine lv_iconst (v := 1) hx hb dX12_leans_43 (by decide) ?_
          refine lv_iload hx hb dX12_leans_44 (lv_at hl 0 rfl) ?_
          refine lv_ishl hx hb dX12_leans_46 ?_
          refine pf_X12_96 hC rfl hK hP hD hS 0 (ws' := [(h0, .inr (12, [.ref nw, .ref nk, .int mhasKept, .ref nt, .int mtaped, .ref nr, .int mrowMany, .int mroundOf, .int mroundFrom, .int (1 <<< ((nI kP) &&& 31)), .ref nm, .int vfh, .int vth, .ref ns, .int mfrom, .int mto, .int msort, .int misFault, .int mdeep, .int mcoded, .int mlines, .ref nl, .ref nc, .ref nF, .ref np, .ref ntr, .ref nb, .int mbestCost, .ref nso, .ref nsi, .ref nit, .ref nsh, .ref nsf, .ref nss, .ref nrc, .int mtraced, .int mdealer, .int mnumber, .int mwhose, .int msize, .int misParted])), (nw, .inl (G.2.1, 1662, .inl fnw)), (nm, .inl (G.2.1, 36, .inl vA)), (ns, .inl (G.2.1, 8, .inl vS)), (np, .inl (G.2.1, 100, .inl vR))]) rfl (Nat.le_of_ble_eq_true rfl) rfl rfl rfl dX12_leans_47 (fun H locs hP hD hS => ?_)
          refine lv_iload_n hx hb dX12_leans_50 rfl (lv_at hl 1 rfl) ?_
          refine lv_aload_n hx hb dX12_leans_51 rfl (lv_at hl 3 rfl) ?_
          refine lv_iload_n hx hb dX12_leans_52 rfl (lv_at hl 4 rfl) ?_
          refine iV (wr := []) hC hK hl hP hD hS hA (m_stands l G h0 jf nw nk mhasKept nt mtaped nr mrowMany mroundOf mroundFrom (1 <<< ((nI kP) &&& 31)) nm vfh vth ns mfrom mto msort misFault mdeep mcoded mlines nl nc nF np ntr nb mbestCost nso nsi nit nsh nsf nss nrc mtraced mdealer mnumber mwhose msize misParted fnw vA vS vR (by omega) (hN) (hV) (hvA)) si_X12_305 [0, 1, 2, 3, 4] [] rfl rfl (by decide) rfl (by decide) (by decide) rfl rfl rfl rfl rfl (Nat.le_of_ble_eq_true rfl) ⟨Nat.le_of_ble_eq_true rfl, Nat.le_of_ble_eq_true rfl⟩ ⟨Nat.le_of_ble_eq_true rfl, Nat.le_of_ble_eq_true rfl⟩ dX12_leans_53 (fun r5061 u5062 H locs hr5061 hP hD hS => ?_)
          obtain ⟨fh15063, th15064, gnm5065, gns5066, gnp5067⟩ := u5062
          try dsimp only at hr5061
          have hP : va_P G.1 vwCl [(h0, .inr (12, [.ref nw, .ref nk, .int mhasKept, .ref nt, .int mtaped, .ref nr, .int mrowMany, .int mroundOf, .int mroundFrom, .int (1 <<< ((nI kP) &&& 31)), .ref nm, .int fh15063, .int th15064, .ref ns, .int mfrom, .int mto, .int msort, .int misFault, .int mdeep, .int mcoded, .int mlines, .ref nl, .ref nc, .ref nF, .ref np, .ref ntr, .ref nb, .int mbestCost, .ref nso, .ref nsi, .ref nit, .ref nsh, .ref nsf, .ref nss, .ref nrc, .int mtraced, .int mdealer, .int mnumber, .int mwhose, .int msize, .int misParted])), (nw, .inl (G.2.1, 1662, .inl fnw)), (nm, .inl (G.2.1, 36, .inl gnm5065)), (ns, .inl (G.2.1, 8, .inl gns5066)), (np, .inl (G.2.1, 100, .inl gnp5067))] H := hP
          have hD : va_D A [(h0, .inr (12, [.ref nw, .ref nk, .int mhasKept, .ref nt, .int mtaped, .ref nr, .int mrowMany, .int mroundOf, .int mroundFrom, .int (1 <<< ((nI kP) &&& 31)), .ref nm, .int fh15063, .int th15064, .ref ns, .int mfrom, .int mto, .int msort, .int misFault, .int mdeep, .int mcoded, .int mlines, .ref nl, .ref nc, .ref nF, .ref np, .ref ntr, .ref nb, .int mbestCost, .ref nso, .ref nsi, .ref nit, .ref nsh, .ref nsf, .ref nss, .ref nrc, .int mtraced, .int mdealer, .int mnumber, .int mwhose, .int msize, .int misParted])), (nw, .inl (G.2.1, 1662, .inl fnw)), (nm, .inl (G.2.1, 36, .inl gnm5065)), (ns, .inl (G.2.1, 8, .inl gns5066)), (np, .inl (G.2.1, 100, .inl gnp5067))] := hD
          obtain ⟨hr5061, w5068⟩ := hr5061
          rcases hr5061 with rfl | rfl
          · refine lv_if_eq (tgt := 63) hx hb dX12_leans_56 (by decide) (fun c9 => absurd c9 (by decide)) (fun _ => ?_)
            refine lv_iconst (v := 0) hx hb dX12_leans_59 (by decide) ?_
            refine lv_goto (tgt := 67) hx hb dX12_leans_60 (by decide) ?_
            refine lv_ior hx hb dX12_leans_67 ?_
            refine lv_istore_n (lv' := [(3, .int (se ||| 0)), (4, .int (nI kP)), (2, .int 0), (0, .ref h0), (1, .int (nI jf))]) hx hb dX12_leans_68 rfl hl (by decide) rfl (fun ls hl => ?_)
            refine lv_aload_n hx hb dX12_leans_69 rfl (lv_at hl 3 rfl) ?_
            refine lv_iconst (v := 0) hx hb dX12_leans_70 (by decide) ?_
            refine pf_X12_96 hC rfl hK hP hD hS 0 (ws' := [(h0, .inr (12, [.ref nw, .ref nk, .int mhasKept, .ref nt, .int mtaped, .ref nr, .int mrowMany, .int mroundOf, .int mroundFrom, .int 0, .ref nm, .int fh15063, .int th15064, .ref ns, .int mfrom, .int mto, .int msort, .int misFault, .int mdeep, .int mcoded, .int mlines, .ref nl, .ref nc, .ref nF, .ref np, .ref ntr, .ref nb, .int mbestCost, .ref nso, .ref nsi, .ref nit, .ref nsh, .ref nsf, .ref nss, .ref nrc, .int mtraced, .int mdealer, .int mnumber, .int mwhose, .int msize, .int misParted])), (nw, .inl (G.2.1, 1662, .inl fnw)), (nm, .inl (G.2.1, 36, .inl gnm5065)), (ns, .inl (G.2.1, 8, .inl gns5066)), (np, .inl (G.2.1, 100, .inl gnp5067))]) rfl (Nat.le_of_ble_eq_true rfl) rfl rfl rfl dX12_leans_71 (fun H locs hP hD hS => ?_)
            refine lv_iinc (v := nI (kP + 1)) (lv' := [(4, .int (nI (kP + 1))), (3, .int (se ||| 0)), (2, .int 0), (0, .ref h0), (1, .int (nI jf))]) hx hb dX12_leans_74 hl (k := 1) rfl (nI_1 _) (by decide) rfl (fun ls hl => ?_)
            refine lv_goto (tgt := 22) hx hb dX12_leans_77 (by decide) ?_
            exact ihP (kP + 1) (se ||| 0) fh15063 th15064 gnm5065 gns5066 gnp5067 _ _ _ (by omega) (by first | assumption | exact Or.inl rfl | exact Or.inr rfl) hP hD hS (lv_sub hl [0, 1, 2, 3, 4] rfl)
          · refine lv_if_eq (tgt := 63) hx hb dX12_leans_56 (by decide) (fun _ => ?_) (fun c9 => absurd (by decide) c9)
            refine lv_iconst (v := 1) hx hb dX12_leans_63 (by decide) ?_
            refine lv_iload hx hb dX12_leans_64 (lv_at hl 0 rfl) ?_
            refine lv_ishl hx hb dX12_leans_66 ?_
            refine lv_ior hx hb dX12_leans_67 ?_
            refine lv_istore_n (lv' := [(3, .int (se ||| (1 <<< ((nI kP) &&& 31)))), (4, .int (nI kP)), (2, .int 0), (0, .ref h0), (1, .int (nI jf))]) hx hb dX12_leans_68 rfl hl (by decide) rfl (fun ls hl => ?_)
            refine lv_aload_n hx hb dX12_leans_69 rfl (lv_at hl 3 rfl) ?_
            refine lv_iconst (v := 0) hx hb dX12_leans_70 (by decide) ?_
            refine pf_X12_96 hC rfl hK hP hD hS 0 (ws' := [(h0, .inr (12, [.ref nw, .ref nk, .int mhasKept, .ref nt, .int mtaped, .ref nr, .int mrowMany, .int mroundOf, .int mroundFrom, .int 0, .ref nm, .int fh15063, .int th15064, .ref ns, .int mfrom, .int mto, .int msort, .int misFault, .int mdeep, .int mcoded, .int mlines, .ref nl, .ref nc, .ref nF, .ref np, .ref ntr, .ref nb, .int mbestCost, .ref nso, .ref nsi, .ref nit, .ref nsh, .ref nsf, .ref nss, .ref nrc, .int mtraced, .int mdealer, .int mnumber, .int mwhose, .int msize, .int misParted])), (nw, .inl (G.2.1, 1662, .inl fnw)), (nm, .inl (G.2.1, 36, .inl gnm5065)), (ns, .inl (G.2.1, 8, .inl gns5066)), (np, .inl (G.2.1, 100, .inl gnp5067))]) rfl (Nat.le_of_ble_eq_true rfl) rfl rfl rfl dX12_leans_71 (fun H locs hP hD hS => ?_)
            refine lv_iinc (v := nI (kP + 1)) (lv' := [(4, .int (nI (kP + 1))), (3, .int (se ||| (1 <<< ((nI kP) &&& 31)))), (2, .int 0), (0, .ref h0), (1, .int (nI jf))]) hx hb dX12_leans_74 hl (k := 1) rfl (nI_1 _) (by decide) rfl (fun ls hl => ?_)
            refine lv_goto (tgt := 22) hx hb dX12_leans_77 (by decide) ?_
            exact ihP (kP + 1) (se ||| (1 <<< ((nI kP) &&& 31))) fh15063 th15064 gnm5065 gns5066 gnp5067 _ _ _ (by omega) (by first | assumption | exact Or.inl rfl | exact Or.inr rfl) hP hD hS (lv_sub hl [0, 1, 2, 3, 4] rfl)
        · refine lv_if_eq (tgt := 74) hx hb dX12_leans_39 (by decide) (fun _ => ?_) (fun c9 => absurd (by decide) c9)
          refine lv_iinc (v := nI (kP + 1)) (lv' := [(4, .int (nI (kP + 1))), (3, .int se), (2, .int 0), (0, .ref h0), (1, .int (nI jf))]) hx hb dX12_leans_74 hl (k := 0) rfl (nI_1 _) (by decide) rfl (fun ls hl => ?_)
          refine lv_goto (tgt := 22) hx hb dX12_leans_77 (by decide) ?_
          exact ihP (kP + 1) se vfh vth vA vS vR _ _ _ (by omega) (by first | assumption | exact Or.inl rfl | exact Or.inr rfl) hP hD hS (lv_sub hl [0, 1, 2, 3, 4] rfl)
    exact keyP kq 0 0 fh15040 th15041 gnm5042 gns5043 gnp5044 _ _ _ (by omega) (by first | assumption | exact Or.inl rfl | exact Or.inr rfl) hP hD hS (lv_sub hl [0, 1, 2, 3, 4] rfl)
set_option maxHeartbeats 4000000 in
set_option maxRecDepth 100000 in
theorem m_asked (l : Launch) (G : GG) (h0 : Nat) (je : Nat) (so9 : Int32) (nw : Nat) (nk : Nat) (mhasKept : Int32) (nt : Nat) (mtaped : Int32) (nr : Nat) (mrowMany : Int32) (mroundOf : Int32) (mroundFrom : Int32) (mouts : Int32) (nm : Nat) (mfromHour : Int32) (mtoHour : Int32) (ns : Nat) (mfrom : Int32) (mto : Int32) (msort : Int32) (misFault : Int32) (mdeep : Int32) (mcoded : Int32) (mlines : Int32) (nl : Nat) (nc : Nat) (nF : Nat) (np : Nat) (ntr : Nat) (nb : Nat) (mbestCost : Int32) (nso : Nat) (nsi : Nat) (nit : Nat) (nsh : Nat) (nsf : Nat) (nss : Nat) (nrc : Nat) (mtraced : Int32) (mdealer : Int32) (mnumber : Int32) (mwhose : Int32) (msize : Int32) (misParted : Int32) (fnw : Nat → Int32) (fnp : Nat → Int32) (hje : je < 10) (hN : NI fnw) (hV : VI fnw) : MI l G yX12_asked cX12_asked 7 (some .int) 7 0 0 [.ref h0, .int (nI je), .int so9] [(h0, .inr (12, [.ref nw, .ref nk, .int mhasKept, .ref nt, .int mtaped, .ref nr, .int mrowMany, .int mroundOf, .int mroundFrom, .int mouts, .ref nm, .int mfromHour, .int mtoHour, .ref ns, .int mfrom, .int mto, .int msort, .int misFault, .int mdeep, .int mcoded, .int mlines, .ref nl, .ref nc, .ref nF, .ref np, .ref ntr, .ref nb, .int mbestCost, .ref nso, .ref nsi, .ref nit, .ref nsh, .ref nsf, .ref nss, .ref nrc, .int mtraced, .int mdealer, .int mnumber, .int mwhose, .int msize, .int misParted])), (nw, .inl (G.2.1, 1662, .inl fnw)), (np, .inl (G.2.1, 100, .inl fnp))] (fun (r : Int32) (u : (Nat → Int32)) => (True)) (fun u : (Nat → Int32) => [(h0, .inr (12, [.ref nw, .ref nk, .int mhasKept, .ref nt, .int mtaped, .ref nr, .int mrowMany, .int mroundOf, .int mroundFrom, .int mouts, .ref nm, .int mfromHour, .int mtoHour, .ref ns, .int mfrom, .int mto, .int msort, .int misFault, .int mdeep, .int mcoded, .int mlines, .ref nl, .ref nc, .ref nF, .ref np, .ref ntr, .ref nb, .int mbestCost, .ref nso, .ref nsi, .ref nit, .ref nsh, .ref nsf, .ref nss, .ref nrc, .int mtraced, .int mdealer, .int mnumber, .int mwhose, .int msize, .int misParted])), (nw, .inl (G.2.1, 1662, .inl fnw)), (np, .inl (G.2.1, 100, .inl u))]) := by
  refine MI.start (by decide +kernel) (Nat.le_of_ble_eq_true rfl) ?_
  intro p e s m below meth c A ls hC hK hP hD hS hA hl
  have hl : lv_has ls 7 [(0, .ref h0), (1, .int (nI je)), (2, .int so9)] := hl
  obtain ⟨hx, hb, hr, hml, hB, hown, hlocks, hnm⟩ := id hC
  refine lv_aload_n hx hb dX12_asked_0 rfl (lv_at hl 0 rfl) ?_
  refine pV hC hK hl hP hD (m_rules l G h0 nw nk mhasKept nt mtaped nr mrowMany mroundOf mroundFrom mouts nm mfromHour mtoHour ns mfrom mto msort misFault mdeep mcoded mlines nl nc nF np ntr nb mbestCost nso nsi nit nsh nsf nss nrc mtraced mdealer mnumber mwhose msize misParted fnw (hN)) si_X12_180 [0, 1] rfl rfl (by decide) rfl rfl rfl rfl rfl (Nat.le_of_ble_eq_true rfl) ⟨Nat.le_of_ble_eq_true rfl, Nat.le_of_ble_eq_true rfl⟩ ⟨by first | exact Nat.le_of_ble_eq_true rfl | exact Nat.zero_le _, by first | exact Nat.le_of_ble_eq_true rfl | exact Nat.zero_le _⟩ dX12_asked_1 (fun r5070 hr5070 => ?_)
  obtain ⟨jv_5071, hpx5071, rfl⟩ := hr5070
  try dsimp only at hpx5071
  rcases Nat.eq_zero_or_pos jv_5071 with rfl | hpv5072
  · refine eqi (x1 := (-1)) (by decide) ?_
    refine lv_istore_n (lv' := [(3, .int (-1)), (0, .ref h0), (1, .int (nI je)), (2, .int so9)]) hx hb dX12_asked_4 rfl hl (by decide) rfl (fun ls hl => ?_)
    refine lv_iconst (v := (-1)) hx hb dX12_asked_5 (by decide) ?_
    refine lv_istore (lv' := [(4, .int (-1)), (3, .int (-1)), (0, .ref h0), (1, .int (nI je)), (2, .int so9)]) hx hb dX12_asked_6 hl (by decide) rfl (fun ls hl => ?_)
    refine lv_iconst (v := 0) hx hb dX12_asked_8 (by decide) ?_
    refine lv_istore (lv' := [(5, .int 0), (4, .int (-1)), (3, .int (-1)), (0, .ref h0), (1, .int (nI je)), (2, .int so9)]) hx hb dX12_asked_9 hl (by decide) rfl (fun ls hl => ?_)
    refine lv_iload hx hb dX12_asked_11 (lv_at hl 0 rfl) ?_
    refine lv_aload_n hx hb dX12_asked_13 rfl (lv_at hl 3 rfl) ?_
    refine lv_iload_n hx hb dX12_asked_14 rfl (lv_at hl 2 rfl) ?_
    refine pV hC hK hl hP hD (m_linesN l G h0 nw nk mhasKept nt mtaped nr mrowMany mroundOf mroundFrom mouts nm mfromHour mtoHour ns mfrom mto msort misFault mdeep mcoded mlines nl nc nF np ntr nb mbestCost nso nsi nit nsh nsf nss nrc mtraced mdealer mnumber mwhose msize misParted fnw) si_X12_183 [0, 1] rfl rfl (by decide) rfl rfl rfl rfl rfl (Nat.le_of_ble_eq_true rfl) ⟨Nat.le_of_ble_eq_true rfl, Nat.le_of_ble_eq_true rfl⟩ ⟨by first | exact Nat.le_of_ble_eq_true rfl | exact Nat.zero_le _, by first | exact Nat.le_of_ble_eq_true rfl | exact Nat.zero_le _⟩ dX12_asked_15 (fun r5073 hr5073 => ?_)
    obtain rfl := hr5073
    refine lv_icmp_ge (tgt := 87) hx hb dX12_asked_18 (by decide) (fun _ => ?_) (fun c9 => absurd (by decide) c9)
    refine lv_iconst (v := 0) hx hb dX12_asked_87 (by decide) ?_
    refine lv_iload hx hb dX12_asked_88 (lv_at hl 1 rfl) ?_
    refine va_mmax hx hb (hml.trans hl.1.symm) hown (hB _ m_1103) (hB _ m_76) (hB _ m_77) (hB _ m_78) (Nat.le_of_ble_eq_true rfl) (Nat.le_of_ble_eq_true rfl) (by first | exact Nat.le_of_ble_eq_true rfl | exact Nat.zero_le _)  (by first | exact Nat.le_of_ble_eq_true rfl | exact Nat.zero_le _) dX12_asked_90 ?_
    refine eqi (x1 := 0) (by decide) ?_
    exact RI (v := 0) hC hP hD hS [0, 1, 2] fnp rfl rfl (by decide) (trivial) rfl dX12_asked_93
  · obtain ⟨v5072, rfl⟩ : ∃ z9, jv_5071 = z9 + 1 := ⟨jv_5071 - 1, by omega⟩
    refine eqi (x1 := nI v5072) (nI_sub1 v5072) ?_
    obtain ⟨L5072, hL5072, eL5072, hLN5072⟩ := VI.line hV (v := v5072) (by omega)
    refine lv_istore_n (lv' := [(3, .int (nI v5072)), (0, .ref h0), (1, .int (nI je)), (2, .int so9)]) hx hb dX12_asked_4 rfl hl (by decide) rfl (fun ls hl => ?_)
    refine lv_iconst (v := (-1)) hx hb dX12_asked_5 (by decide) ?_
    refine lv_istore (lv' := [(4, .int (-1)), (3, .int (nI v5072)), (0, .ref h0), (1, .int (nI je)), (2, .int so9)]) hx hb dX12_asked_6 hl (by decide) rfl (fun ls hl => ?_)
    refine lv_iconst (v := 0) hx hb dX12_asked_8 (by decide) ?_
    refine lv_istore (lv' := [(5, .int 0), (4, .int (-1)), (3, .int (nI v5072)), (0, .ref h0), (1, .int (nI je)), (2, .int so9)]) hx hb dX12_asked_9 hl (by decide) rfl (fun ls hl => ?_)
    have keyQ : ∀ (nQ kQ : Nat) (nn : Int32) (vR : Nat → Int32) (H : Heap) (locs : List Loc) (ls : Array Slot), kQ + nQ = L5072 → va_P G.1 vwCl [(h0, .inr (12, [.ref nw, .ref nk, .int mhasKept, .ref nt, .int mtaped, .ref nr, .int mrowMany, .int mroundOf, .int mroundFrom, .int mouts, .ref nm, .int mfromHour, .int mtoHour, .ref ns, .int mfrom, .int mto, .int msort, .int misFault, .int mdeep, .int mcoded, .int mlines, .ref nl, .ref nc, .ref nF, .ref np, .ref ntr, .ref nb, .int mbestCost, .ref nso, .ref nsi, .ref nit, .ref nsh, .ref nsf, .ref nss, .ref nrc, .int mtraced, .int mdealer, .int mnumber, .int mwhose, .int msize, .int misParted])), (nw, .inl (G.2.1, 1662, .inl fnw)), (np, .inl (G.2.1, 100, .inl vR))] H → va_D A [(h0, .inr (12, [.ref nw, .ref nk, .int mhasKept, .ref nt, .int mtaped, .ref nr, .int mrowMany, .int mroundOf, .int mroundFrom, .int mouts, .ref nm, .int mfromHour, .int mtoHour, .ref ns, .int mfrom, .int mto, .int msort, .int misFault, .int mdeep, .int mcoded, .int mlines, .ref nl, .ref nc, .ref nF, .ref np, .ref ntr, .ref nb, .int mbestCost, .ref nso, .ref nsi, .ref nit, .ref nsh, .ref nsf, .ref nss, .ref nrc, .int mtraced, .int mdealer, .int mnumber, .int mwhose, .int msize, .int misParted])), (nw, .inl (G.2.1, 1662, .inl fnw)), (np, .inl (G.2.1, 100, .inl vR))] → va_S A s.heap H locs → lv_has ls 7 [(5, .int (nI kQ)), (4, .int nn), (3, .int (nI v5072)), (0, .ref h0), (1, .int (nI je)), (2, .int so9)] → W p l e (RM 7 0 0) s m ([.ref h0, .int (nI je), .int so9] : List Value).toArray below meth c H locs 0 0 (MQ below (QI G (fun (r : Int32) (u : (Nat → Int32)) => (True)) (fun u : (Nat → Int32) => [(h0, .inr (12, [.ref nw, .ref nk, .int mhasKept, .ref nt, .int mtaped, .ref nr, .int mrowMany, .int mroundOf, .int mroundFrom, .int mouts, .ref nm, .int mfromHour, .int mtoHour, .ref ns, .int mfrom, .int mto, .int msort, .int misFault, .int mdeep, .int mcoded, .int mlines, .ref nl, .ref nc, .ref nF, .ref np, .ref ntr, .ref nb, .int mbestCost, .ref nso, .ref nsi, .ref nit, .ref nsh, .ref nsf, .ref nss, .ref nrc, .int mtraced, .int mdealer, .int mnumber, .int mwhose, .int msize, .int misParted])), (nw, .inl (G.2.1, 1662, .inl fnw)), (np, .inl (G.2.1, 100, .inl u))]) A) ([.ref h0, .int (nI je), .int so9] : List Value).toArray s 0 0 A) (F0 m 11 ls []) := by
      intro nQ
      induction nQ with
      | zero =>
        intro kQ nn vR H locs ls hkQ hP hD hS hl
        obtain rfl : L5072 = kQ := by omega
        have hl : lv_has ls 7 [(5, .int (nI L5072)), (4, .int nn), (3, .int (nI v5072)), (0, .ref h0), (1, .int (nI je)), (2, .int so9)] := hl
        refine lv_iload hx hb dX12_asked_11 (lv_at hl 0 rfl) ?_
        refine lv_aload_n hx hb dX12_asked_13 rfl (lv_at hl 3 rfl) ?_
        refine lv_iload_n hx hb dX12_asked_14 rfl (lv_at hl 2 rfl) ?_
        refine pV hC hK hl hP hD (m_lines l G L5072 h0 v5072 nw nk mhasKept nt mtaped nr mrowMany mroundOf mroundFrom mouts nm mfromHour mtoHour ns mfrom mto msort misFault mdeep mcoded mlines nl nc nF np ntr nb mbestCost nso nsi nit nsh nsf nss nrc mtraced mdealer mnumber mwhose msize misParted fnw (by omega) (eL5072)) si_X12_183 [0, 1] rfl rfl (by decide) rfl rfl rfl rfl rfl (Nat.le_of_ble_eq_true rfl) ⟨Nat.le_of_ble_eq_true rfl, Nat.le_of_ble_eq_true rfl⟩ ⟨by first | exact Nat.le_of_ble_eq_true rfl | exact Nat.zero_le _, by first | exact Nat.le_of_ble_eq_true rfl | exact Nat.zero_le _⟩ dX12_asked_15 (fun r5075 hr5075 => ?_)
        obtain rfl := hr5075
        refine lv_icmp_ge (tgt := 87) hx hb dX12_asked_18 (by decide) (fun _ => ?_) (fun c9 => absurd (Int32.le_refl _) c9)
        refine lv_iconst (v := 0) hx hb dX12_asked_87 (by decide) ?_
        refine lv_iload hx hb dX12_asked_88 (lv_at hl 1 rfl) ?_
        refine va_mmax hx hb (hml.trans hl.1.symm) hown (hB _ m_1103) (hB _ m_76) (hB _ m_77) (hB _ m_78) (Nat.le_of_ble_eq_true rfl) (Nat.le_of_ble_eq_true rfl) (by first | exact Nat.le_of_ble_eq_true rfl | exact Nat.zero_le _)  (by first | exact Nat.le_of_ble_eq_true rfl | exact Nat.zero_le _) dX12_asked_90 ?_
        refine lv_topi (fun x5077 ex5077 => ?_)
        exact RI (v := x5077) hC hP hD hS [0, 1, 2] vR rfl rfl (by decide) (trivial) rfl dX12_asked_93
      | succ nQ ihQ =>
        intro kQ nn vR H locs ls hkQ hP hD hS hl
        refine lv_iload hx hb dX12_asked_11 (lv_at hl 0 rfl) ?_
        refine lv_aload_n hx hb dX12_asked_13 rfl (lv_at hl 3 rfl) ?_
        refine lv_iload_n hx hb dX12_asked_14 rfl (lv_at hl 2 rfl) ?_
        refine pV hC hK hl hP hD (m_lines l G L5072 h0 v5072 nw nk mhasKept nt mtaped nr mrowMany mroundOf mroundFrom mouts nm mfromHour mtoHour ns mfrom mto msort misFault mdeep mcoded mlines nl nc nF np ntr nb mbestCost nso nsi nit nsh nsf nss nrc mtraced mdealer mnumber mwhose msize misParted fnw (by omega) (eL5072)) si_X12_183 [0, 1] rfl rfl (by decide) rfl rfl rfl rfl rfl (Nat.le_of_ble_eq_true rfl) ⟨Nat.le_of_ble_eq_true rfl, Nat.le_of_ble_eq_true rfl⟩ ⟨by first | exact Nat.le_of_ble_eq_true rfl | exact Nat.zero_le _, by first | exact Nat.le_of_ble_eq_true rfl | exact Nat.zero_le _⟩ dX12_asked_15 (fun r5078 hr5078 => ?_)
        obtain rfl := hr5078
        refine lv_icmp_ge (tgt := 87) hx hb dX12_asked_18 (by decide) (fun c9 => absurd c9 (nI_ge (a := kQ) (b := L5072) (by omega) (by omega))) (fun _ => ?_)
        have hln5080 := hLN5072 kQ (by omega)
        refine lv_aload_n hx hb dX12_asked_21 rfl (lv_at hl 3 rfl) ?_
        refine lv_iload_n hx hb dX12_asked_22 rfl (lv_at hl 2 rfl) ?_
        refine lv_iload hx hb dX12_asked_23 (lv_at hl 0 rfl) ?_
        refine lv_iconst (v := 0) hx hb dX12_asked_25 (by decide) ?_
        refine pV hC hK hl hP hD (m_lineOf l G h0 v5072 kQ 0 nw nk mhasKept nt mtaped nr mrowMany mroundOf mroundFrom mouts nm mfromHour mtoHour ns mfrom mto msort misFault mdeep mcoded mlines nl nc nF np ntr nb mbestCost nso nsi nit nsh nsf nss nrc mtraced mdealer mnumber mwhose msize misParted fnw (by omega) (by omega) (by omega)) si_X12_193 [0, 1] rfl rfl (by decide) rfl rfl rfl rfl rfl (Nat.le_of_ble_eq_true rfl) ⟨Nat.le_of_ble_eq_true rfl, Nat.le_of_ble_eq_true rfl⟩ ⟨by first | exact Nat.le_of_ble_eq_true rfl | exact Nat.zero_le _, by first | exact Nat.le_of_ble_eq_true rfl | exact Nat.zero_le _⟩ dX12_asked_26 (fun r5081 hr5081 => ?_)
        obtain rfl := hr5081
        refine lv_iload_n hx hb dX12_asked_29 rfl (lv_at hl 5 rfl) ?_
        refine lv_icmp_ne (tgt := 58) hx hb dX12_asked_30 (by decide) (fun c_30_5083 => ?_) (fun c_30_5083 => ?_)
        · refine lv_iconst (v := 0) hx hb dX12_asked_58 (by decide) ?_
          refine lv_istore (lv' := [(6, .int 0), (5, .int (nI kQ)), (4, .int nn), (3, .int (nI v5072)), (0, .ref h0), (1, .int (nI je)), (2, .int so9)]) hx hb dX12_asked_59 hl (by decide) rfl (fun ls hl => ?_)
          refine lv_iload hx hb dX12_asked_61 (lv_at hl 0 rfl) ?_
          refine lv_if_eq (tgt := 77) hx hb dX12_asked_63 (by decide) (fun _ => ?_) (fun c9 => absurd (by decide) c9)
          refine lv_iload hx hb dX12_asked_77 (lv_at hl 2 rfl) ?_
          refine lv_istore (lv' := [(4, .int nn), (6, .int 0), (5, .int (nI kQ)), (3, .int (nI v5072)), (0, .ref h0), (1, .int (nI je)), (2, .int so9)]) hx hb dX12_asked_79 hl (by decide) rfl (fun ls hl => ?_)
          refine lv_iinc (v := nI (kQ + 1)) (lv' := [(5, .int (nI (kQ + 1))), (4, .int nn), (6, .int 0), (3, .int (nI v5072)), (0, .ref h0), (1, .int (nI je)), (2, .int so9)]) hx hb dX12_asked_81 hl (k := 2) rfl (nI_1 _) (by decide) rfl (fun ls hl => ?_)
          refine lv_goto (tgt := 11) hx hb dX12_asked_84 (by decide) ?_
          exact ihQ (kQ + 1) nn vR _ _ _ (by omega) hP hD hS (lv_sub hl [0, 1, 3, 4, 5, 6] rfl)
        · refine lv_iload_n hx hb dX12_asked_33 rfl (lv_at hl 5 rfl) ?_
          refine lv_iconst (v := 3) hx hb dX12_asked_34 (by decide) ?_
          refine lv_icmp_eq (tgt := 54) hx hb dX12_asked_35 (by decide) (fun c_35_5084 => ?_) (fun c_35_5084 => ?_)
          · refine lv_iconst (v := 1) hx hb dX12_asked_54 (by decide) ?_
            refine lv_goto (tgt := 59) hx hb dX12_asked_55 (by decide) ?_
            refine lv_istore (lv' := [(6, .int 1), (5, .int (nI kQ)), (4, .int nn), (3, .int (nI v5072)), (0, .ref h0), (1, .int (nI je)), (2, .int so9)]) hx hb dX12_asked_59 hl (by decide) rfl (fun ls hl => ?_)
            refine lv_iload hx hb dX12_asked_61 (lv_at hl 0 rfl) ?_
            refine lv_if_eq (tgt := 77) hx hb dX12_asked_63 (by decide) (fun c9 => absurd c9 (by decide)) (fun _ => ?_)
            refine lv_aload_n hx hb dX12_asked_66 rfl (lv_at hl 4 rfl) ?_
            refine lv_iload_n hx hb dX12_asked_67 rfl (lv_at hl 3 rfl) ?_
            refine lv_iload hx hb dX12_asked_68 (lv_at hl 1 rfl) ?_
            refine lv_iconst (v := 1) hx hb dX12_asked_70 (by decide) ?_
            refine pV hC hK hl hP hD (m_lineOf l G h0 v5072 kQ 1 nw nk mhasKept nt mtaped nr mrowMany mroundOf mroundFrom mouts nm mfromHour mtoHour ns mfrom mto msort misFault mdeep mcoded mlines nl nc nF np ntr nb mbestCost nso nsi nit nsh nsf nss nrc mtraced mdealer mnumber mwhose msize misParted fnw (by omega) (by omega) (by omega)) si_X12_193 [0, 1] rfl rfl (by decide) rfl rfl rfl rfl rfl (Nat.le_of_ble_eq_true rfl) ⟨Nat.le_of_ble_eq_true rfl, Nat.le_of_ble_eq_true rfl⟩ ⟨by first | exact Nat.le_of_ble_eq_true rfl | exact Nat.zero_le _, by first | exact Nat.le_of_ble_eq_true rfl | exact Nat.zero_le _⟩ dX12_asked_71 (fun r5085 hr5085 => ?_)
            obtain rfl := hr5085
            refine lv_goto (tgt := 79) hx hb dX12_asked_74 (by decide) ?_
            refine lv_istore (lv' := [(4, .int (fnw (176 + 156 * v5072 + 2 + 6 * kQ + 1))), (6, .int 1), (5, .int (nI kQ)), (3, .int (nI v5072)), (0, .ref h0), (1, .int (nI je)), (2, .int so9)]) hx hb dX12_asked_79 hl (by decide) rfl (fun ls hl => ?_)
            refine lv_iinc (v := nI (kQ + 1)) (lv' := [(5, .int (nI (kQ + 1))), (4, .int (fnw (176 + 156 * v5072 + 2 + 6 * kQ + 1))), (6, .int 1), (3, .int (nI v5072)), (0, .ref h0), (1, .int (nI je)), (2, .int so9)]) hx hb dX12_asked_81 hl (k := 2) rfl (nI_1 _) (by decide) rfl (fun ls hl => ?_)
            refine lv_goto (tgt := 11) hx hb dX12_asked_84 (by decide) ?_
            exact ihQ (kQ + 1) (fnw (176 + 156 * v5072 + 2 + 6 * kQ + 1)) vR _ _ _ (by omega) hP hD hS (lv_sub hl [0, 1, 3, 4, 5, 6] rfl)
          · refine lv_iload hx hb dX12_asked_38 (lv_at hl 1 rfl) ?_
            refine lv_if_ge (tgt := 58) hx hb dX12_asked_40 (by decide) (fun c_40_5087 => ?_) (fun c_40_5087 => ?_)
            · refine lv_iconst (v := 0) hx hb dX12_asked_58 (by decide) ?_
              refine lv_istore (lv' := [(6, .int 0), (5, .int (nI kQ)), (4, .int nn), (3, .int (nI v5072)), (0, .ref h0), (1, .int (nI je)), (2, .int so9)]) hx hb dX12_asked_59 hl (by decide) rfl (fun ls hl => ?_)
              refine lv_iload hx hb dX12_asked_61 (lv_at hl 0 rfl) ?_
              refine lv_if_eq (tgt := 77) hx hb dX12_asked_63 (by decide) (fun _ => ?_) (fun c9 => absurd (by decide) c9)
              refine lv_iload hx hb dX12_asked_77 (lv_at hl 2 rfl) ?_
              refine lv_istore (lv' := [(4, .int nn), (6, .int 0), (5, .int (nI kQ)), (3, .int (nI v5072)), (0, .ref h0), (1, .int (nI je)), (2, .int so9)]) hx hb dX12_asked_79 hl (by decide) rfl (fun ls hl => ?_)
              refine lv_iinc (v := nI (kQ + 1)) (lv' := [(5, .int (nI (kQ + 1))), (4, .int nn), (6, .int 0), (3, .int (nI v5072)), (0, .ref h0), (1, .int (nI je)), (2, .int so9)]) hx hb dX12_asked_81 hl (k := 2) rfl (nI_1 _) (by decide) rfl (fun ls hl => ?_)
              refine lv_goto (tgt := 11) hx hb dX12_asked_84 (by decide) ?_
              exact ihQ (kQ + 1) nn vR _ _ _ (by omega) hP hD hS (lv_sub hl [0, 1, 3, 4, 5, 6] rfl)
            · refine lv_aload_n hx hb dX12_asked_43 rfl (lv_at hl 3 rfl) ?_
              refine lv_iload_n hx hb dX12_asked_44 rfl (lv_at hl 2 rfl) ?_
              refine lv_iload hx hb dX12_asked_45 (lv_at hl 0 rfl) ?_
              refine lv_iload_n hx hb dX12_asked_47 rfl (lv_at hl 4 rfl) ?_
              refine iV (wr := []) hC hK hl hP hD hS hA (m_holds l G h0 v5072 kQ je nw nk mhasKept nt mtaped nr mrowMany mroundOf mroundFrom mouts nm mfromHour mtoHour ns mfrom mto msort misFault mdeep mcoded mlines nl nc nF np ntr nb mbestCost nso nsi nit nsh nsf nss nrc mtraced mdealer mnumber mwhose msize misParted fnw vR (by omega) (by omega) (hln5080) (by omega) (hN)) si_X12_196 [0, 1, 2] [] rfl rfl (by decide) rfl (by decide) (by decide) rfl rfl rfl rfl rfl (Nat.le_of_ble_eq_true rfl) ⟨Nat.le_of_ble_eq_true rfl, Nat.le_of_ble_eq_true rfl⟩ ⟨Nat.le_of_ble_eq_true rfl, Nat.le_of_ble_eq_true rfl⟩ dX12_asked_48 (fun r5088 u5089 H locs hr5088 hP hD hS => ?_)
              obtain ⟨gnp5090, rfl⟩ : ∃ z9, z9 = u5089 := ⟨_, rfl⟩
              try dsimp only at hr5088
              have hP : va_P G.1 vwCl [(h0, .inr (12, [.ref nw, .ref nk, .int mhasKept, .ref nt, .int mtaped, .ref nr, .int mrowMany, .int mroundOf, .int mroundFrom, .int mouts, .ref nm, .int mfromHour, .int mtoHour, .ref ns, .int mfrom, .int mto, .int msort, .int misFault, .int mdeep, .int mcoded, .int mlines, .ref nl, .ref nc, .ref nF, .ref np, .ref ntr, .ref nb, .int mbestCost, .ref nso, .ref nsi, .ref nit, .ref nsh, .ref nsf, .ref nss, .ref nrc, .int mtraced, .int mdealer, .int mnumber, .int mwhose, .int msize, .int misParted])), (nw, .inl (G.2.1, 1662, .inl fnw)), (np, .inl (G.2.1, 100, .inl gnp5090))] H := hP
              have hD : va_D A [(h0, .inr (12, [.ref nw, .ref nk, .int mhasKept, .ref nt, .int mtaped, .ref nr, .int mrowMany, .int mroundOf, .int mroundFrom, .int mouts, .ref nm, .int mfromHour, .int mtoHour, .ref ns, .int mfrom, .int mto, .int msort, .int misFault, .int mdeep, .int mcoded, .int mlines, .ref nl, .ref nc, .ref nF, .ref np, .ref ntr, .ref nb, .int mbestCost, .ref nso, .ref nsi, .ref nit, .ref nsh, .ref nsf, .ref nss, .ref nrc, .int mtraced, .int mdealer, .int mnumber, .int mwhose, .int msize, .int misParted])), (nw, .inl (G.2.1, 1662, .inl fnw)), (np, .inl (G.2.1, 100, .inl gnp5090))] := hD
              rcases hr5088 with rfl | rfl
              · refine lv_if_eq (tgt := 58) hx hb dX12_asked_51 (by decide) (fun c9 => absurd c9 (by decide)) (fun _ => ?_)
                refine lv_iconst (v := 1) hx hb dX12_asked_54 (by decide) ?_
                refine lv_goto (tgt := 59) hx hb dX12_asked_55 (by decide) ?_
                refine lv_istore (lv' := [(6, .int 1), (5, .int (nI kQ)), (4, .int nn), (3, .int (nI v5072)), (0, .ref h0), (1, .int (nI je)), (2, .int so9)]) hx hb dX12_asked_59 hl (by decide) rfl (fun ls hl => ?_)
                refine lv_iload hx hb dX12_asked_61 (lv_at hl 0 rfl) ?_
                refine lv_if_eq (tgt := 77) hx hb dX12_asked_63 (by decide) (fun c9 => absurd c9 (by decide)) (fun _ => ?_)
                refine lv_aload_n hx hb dX12_asked_66 rfl (lv_at hl 4 rfl) ?_
                refine lv_iload_n hx hb dX12_asked_67 rfl (lv_at hl 3 rfl) ?_
                refine lv_iload hx hb dX12_asked_68 (lv_at hl 1 rfl) ?_
                refine lv_iconst (v := 1) hx hb dX12_asked_70 (by decide) ?_
                refine pV hC hK hl hP hD (m_lineOf l G h0 v5072 kQ 1 nw nk mhasKept nt mtaped nr mrowMany mroundOf mroundFrom mouts nm mfromHour mtoHour ns mfrom mto msort misFault mdeep mcoded mlines nl nc nF np ntr nb mbestCost nso nsi nit nsh nsf nss nrc mtraced mdealer mnumber mwhose msize misParted fnw (by omega) (by omega) (by omega)) si_X12_193 [0, 1] rfl rfl (by decide) rfl rfl rfl rfl rfl (Nat.le_of_ble_eq_true rfl) ⟨Nat.le_of_ble_eq_true rfl, Nat.le_of_ble_eq_true rfl⟩ ⟨by first | exact Nat.le_of_ble_eq_true rfl | exact Nat.zero_le _, by first | exact Nat.le_of_ble_eq_true rfl | exact Nat.zero_le _⟩ dX12_asked_71 (fun r5092 hr5092 => ?_)
                obtain rfl := hr5092
                refine lv_goto (tgt := 79) hx hb dX12_asked_74 (by decide) ?_
                refine lv_istore (lv' := [(4, .int (fnw (176 + 156 * v5072 + 2 + 6 * kQ + 1))), (6, .int 1), (5, .int (nI kQ)), (3, .int (nI v5072)), (0, .ref h0), (1, .int (nI je)), (2, .int so9)]) hx hb dX12_asked_79 hl (by decide) rfl (fun ls hl => ?_)
                refine lv_iinc (v := nI (kQ + 1)) (lv' := [(5, .int (nI (kQ + 1))), (4, .int (fnw (176 + 156 * v5072 + 2 + 6 * kQ + 1))), (6, .int 1), (3, .int (nI v5072)), (0, .ref h0), (1, .int (nI je)), (2, .int so9)]) hx hb dX12_asked_81 hl (k := 2) rfl (nI_1 _) (by decide) rfl (fun ls hl => ?_)
                refine lv_goto (tgt := 11) hx hb dX12_asked_84 (by decide) ?_
                exact ihQ (kQ + 1) (fnw (176 + 156 * v5072 + 2 + 6 * kQ + 1)) gnp5090 _ _ _ (by omega) hP hD hS (lv_sub hl [0, 1, 3, 4, 5, 6] rfl)
              · refine lv_if_eq (tgt := 58) hx hb dX12_asked_51 (by decide) (fun _ => ?_) (fun c9 => absurd (by decide) c9)
                refine lv_iconst (v := 0) hx hb dX12_asked_58 (by decide) ?_
                refine lv_istore (lv' := [(6, .int 0), (5, .int (nI kQ)), (4, .int nn), (3, .int (nI v5072)), (0, .ref h0), (1, .int (nI je)), (2, .int so9)]) hx hb dX12_asked_59 hl (by decide) rfl (fun ls hl => ?_)
                refine lv_iload hx hb dX12_asked_61 (lv_at hl 0 rfl) ?_
                refine lv_if_eq (tgt := 77) hx hb dX12_asked_63 (by decide) (fun _ => ?_) (fun c9 => absurd (by decide) c9)
                refine lv_iload hx hb dX12_asked_77 (lv_at hl 2 rfl) ?_
                refine lv_istore (lv' := [(4, .int nn), (6, .int 0), (5, .int (nI kQ)), (3, .int (nI v5072)), (0, .ref h0), (1, .int (nI je)), (2, .int so9)]) hx hb dX12_asked_79 hl (by decide) rfl (fun ls hl => ?_)
                refine lv_iinc (v := nI (kQ + 1)) (lv' := [(5, .int (nI (kQ + 1))), (4, .int nn), (6, .int 0), (3, .int (nI v5072)), (0, .ref h0), (1, .int (nI je)), (2, .int so9)]) hx hb dX12_asked_81 hl (k := 2) rfl (nI_1 _) (by decide) rfl (fun ls hl => ?_)
                refine lv_goto (tgt := 11) hx hb dX12_asked_84 (by decide) ?_
                exact ihQ (kQ + 1) nn gnp5090 _ _ _ (by omega) hP hD hS (lv_sub hl [0, 1, 3, 4, 5, 6] rfl)
    exact keyQ L5072 0 (-1) fnp _ _ _ (by omega) hP hD hS (lv_sub hl [0, 1, 2, 3, 4, 5] rfl)
set_option maxHeartbeats 4000000 in
set_option maxRecDepth 100000 in
theorem m_isBarred (l : Launch) (G : GG) (h0 : Nat) (jf : Nat) (nw : Nat) (nk : Nat) (mhasKept : Int32) (nt : Nat) (mtaped : Int32) (nr : Nat) (mrowMany : Int32) (mroundOf : Int32) (mroundFrom : Int32) (nm : Nat) (mfromHour : Int32) (mtoHour : Int32) (ns : Nat) (mfrom : Int32) (mto : Int32) (msort : Int32) (misFault : Int32) (mdeep : Int32) (mcoded : Int32) (mlines : Int32) (nl : Nat) (nc : Nat) (nF : Nat) (np : Nat) (ntr : Nat) (nb : Nat) (mbestCost : Int32) (nso : Nat) (nsi : Nat) (nit : Nat) (nsh : Nat) (nsf : Nat) (nss : Nat) (nrc : Nat) (mtraced : Int32) (mdealer : Int32) (mnumber : Int32) (mwhose : Int32) (msize : Int32) (misParted : Int32) (fnw : Nat → Int32) (fnm : Nat → Int32) (fns : Nat → Int32) (fnp : Nat → Int32) (hjf : jf < 12) (hN : NI fnw) (hV : VI fnw) (hM : MB fnm) : MI l G yX12_isBarred cX12_isBarred 8 (some .boolean) 11 0 0 [.ref h0, .int (nI jf)] [(h0, .inr (12, [.ref nw, .ref nk, .int mhasKept, .ref nt, .int mtaped, .ref nr, .int mrowMany, .int mroundOf, .int mroundFrom, .int 0, .ref nm, .int mfromHour, .int mtoHour, .ref ns, .int mfrom, .int mto, .int msort, .int misFault, .int mdeep, .int mcoded, .int mlines, .ref nl, .ref nc, .ref nF, .ref np, .ref ntr, .ref nb, .int mbestCost, .ref nso, .ref nsi, .ref nit, .ref nsh, .ref nsf, .ref nss, .ref nrc, .int mtraced, .int mdealer, .int mnumber, .int mwhose, .int msize, .int misParted])), (nw, .inl (G.2.1, 1662, .inl fnw)), (nm, .inl (G.2.1, 36, .inl fnm)), (ns, .inl (G.2.1, 8, .inl fns)), (np, .inl (G.2.1, 100, .inl fnp))] (fun (r : Int32) (u : Int32 × Int32 × (Nat → Int32) × (Nat → Int32) × (Nat → Int32)) => (r = 1 ∨ r = 0) ∧ (MB u.2.2.1)) (fun u : Int32 × Int32 × (Nat → Int32) × (Nat → Int32) × (Nat → Int32) => [(h0, .inr (12, [.ref nw, .ref nk, .int mhasKept, .ref nt, .int mtaped, .ref nr, .int mrowMany, .int mroundOf, .int mroundFrom, .int 0, .ref nm, .int u.1, .int u.2.1, .ref ns, .int mfrom, .int mto, .int msort, .int misFault, .int mdeep, .int mcoded, .int mlines, .ref nl, .ref nc, .ref nF, .ref np, .ref ntr, .ref nb, .int mbestCost, .ref nso, .ref nsi, .ref nit, .ref nsh, .ref nsf, .ref nss, .ref nrc, .int mtraced, .int mdealer, .int mnumber, .int mwhose, .int msize, .int misParted])), (nw, .inl (G.2.1, 1662, .inl fnw)), (nm, .inl (G.2.1, 36, .inl u.2.2.1)), (ns, .inl (G.2.1, 8, .inl u.2.2.2.1)), (np, .inl (G.2.1, 100, .inl u.2.2.2.2))]) := by
  refine MI.start (by decide +kernel) (Nat.le_of_ble_eq_true rfl) ?_
  intro p e s m below meth c A ls hC hK hP hD hS hA hl
  have hl : lv_has ls 8 [(0, .ref h0), (1, .int (nI jf))] := hl
  obtain ⟨hx, hb, hr, hml, hB, hown, hlocks, hnm⟩ := id hC
  obtain ⟨k10, hk10, ek10⟩ := NI.nat hN (i := 10) (B := 16) (by decide +kernel) (by decide)
  refine lv_aload_n hx hb dX12_isBarred_0 rfl (lv_at hl 0 rfl) ?_
  refine gf_X12_9 hC rfl hK hP 0 rfl rfl dX12_isBarred_1 ?_
  refine lv_sipush (v := 1552) hx hb dX12_isBarred_4 (by decide) ?_
  refine lv_iconst (v := 4) hx hb dX12_isBarred_7 (by decide) ?_
  refine lv_iload_n hx hb dX12_isBarred_8 rfl (lv_at hl 1 rfl) ?_
  refine lv_imul hx hb dX12_isBarred_9 ?_
  refine eqi (x1 := nI (4 * jf)) (nI_mul 4 jf) ?_
  refine lv_iadd hx hb dX12_isBarred_10 ?_
  refine eqi (x1 := nI (1552 + 4 * jf)) (nI_add 1552 (4 * jf)) ?_
  refine lv_iconst (v := 0) hx hb dX12_isBarred_11 (by decide) ?_
  refine lv_iadd hx hb dX12_isBarred_12 ?_
  refine eqi (x1 := nI (1552 + 4 * jf + 0)) (nI_add (1552 + 4 * jf) 0) ?_
  obtain ⟨fi5094, hfi5094, efi5094⟩ := NI.nat hN (i := (1552 + 4 * jf + 0)) (B := 9) (bnd_fin0 (s := jf) (by omega) (by omega)) (by decide)
  refine ald hC hK hP 1 rfl (vp_in_nI (by omega) (by omega)) (k := (1552 + 4 * jf + 0)) (nI_clamp (by omega)) (v := nI fi5094) (efi5094) dX12_isBarred_13 ?_
  refine lv_istore_n (lv' := [(2, .int (nI fi5094)), (0, .ref h0), (1, .int (nI jf))]) hx hb dX12_isBarred_14 rfl hl (by decide) rfl (fun ls hl => ?_)
  refine lv_aload_n hx hb dX12_isBarred_15 rfl (lv_at hl 1 rfl) ?_
  refine lv_iload_n hx hb dX12_isBarred_16 rfl (lv_at hl 2 rfl) ?_
  refine iV (wr := []) hC hK hl hP hD hS hA (m_leans l G h0 jf nw nk mhasKept nt mtaped nr mrowMany mroundOf mroundFrom nm mfromHour mtoHour ns mfrom mto msort misFault mdeep mcoded mlines nl nc nF np ntr nb mbestCost nso nsi nit nsh nsf nss nrc mtraced mdealer mnumber mwhose msize misParted fnw fnm fns fnp (by omega) (hN) (hV) (hM)) si_X12_311 [0, 1, 2, 3, 4] [] rfl rfl (by decide) rfl (by decide) (by decide) rfl rfl rfl rfl rfl (Nat.le_of_ble_eq_true rfl) ⟨Nat.le_of_ble_eq_true rfl, Nat.le_of_ble_eq_true rfl⟩ ⟨Nat.le_of_ble_eq_true rfl, Nat.le_of_ble_eq_true rfl⟩ dX12_isBarred_17 (fun r5095 u5096 H locs hr5095 hP hD hS => ?_)
  obtain ⟨fh15097, th15098, gnm5099, gns5100, gnp5101⟩ := u5096
  try dsimp only at hr5095
  have hP : va_P G.1 vwCl [(h0, .inr (12, [.ref nw, .ref nk, .int mhasKept, .ref nt, .int mtaped, .ref nr, .int mrowMany, .int mroundOf, .int mroundFrom, .int 0, .ref nm, .int fh15097, .int th15098, .ref ns, .int mfrom, .int mto, .int msort, .int misFault, .int mdeep, .int mcoded, .int mlines, .ref nl, .ref nc, .ref nF, .ref np, .ref ntr, .ref nb, .int mbestCost, .ref nso, .ref nsi, .ref nit, .ref nsh, .ref nsf, .ref nss, .ref nrc, .int mtraced, .int mdealer, .int mnumber, .int mwhose, .int msize, .int misParted])), (nw, .inl (G.2.1, 1662, .inl fnw)), (nm, .inl (G.2.1, 36, .inl gnm5099)), (ns, .inl (G.2.1, 8, .inl gns5100)), (np, .inl (G.2.1, 100, .inl gnp5101))] H := hP
  have hD : va_D A [(h0, .inr (12, [.ref nw, .ref nk, .int mhasKept, .ref nt, .int mtaped, .ref nr, .int mrowMany, .int mroundOf, .int mroundFrom, .int 0, .ref nm, .int fh15097, .int th15098, .ref ns, .int mfrom, .int mto, .int msort, .int misFault, .int mdeep, .int mcoded, .int mlines, .ref nl, .ref nc, .ref nF, .ref np, .ref ntr, .ref nb, .int mbestCost, .ref nso, .ref nsi, .ref nit, .ref nsh, .ref nsf, .ref nss, .ref nrc, .int mtraced, .int mdealer, .int mnumber, .int mwhose, .int msize, .int misParted])), (nw, .inl (G.2.1, 1662, .inl fnw)), (nm, .inl (G.2.1, 36, .inl gnm5099)), (ns, .inl (G.2.1, 8, .inl gns5100)), (np, .inl (G.2.1, 100, .inl gnp5101))] := hD
  obtain ⟨hr5095, w5102⟩ := hr5095
  refine lv_istore_n (lv' := [(3, .int r5095), (2, .int (nI fi5094)), (0, .ref h0), (1, .int (nI jf))]) hx hb dX12_isBarred_20 rfl hl (by decide) rfl (fun ls hl => ?_)
  refine lv_aload_n hx hb dX12_isBarred_21 rfl (lv_at hl 2 rfl) ?_
  refine lv_iload_n hx hb dX12_isBarred_22 rfl (lv_at hl 1 rfl) ?_
  refine lv_iconst (v := 1) hx hb dX12_isBarred_23 (by decide) ?_
  refine iV (wr := [(nm, .inl (G.2.1, 36, .inl gnm5099)), (ns, .inl (G.2.1, 8, .inl gns5100))]) hC hK hl hP hD hS hA (m_asked l G h0 fi5094 1 nw nk mhasKept nt mtaped nr mrowMany mroundOf mroundFrom 0 nm fh15097 th15098 ns mfrom mto msort misFault mdeep mcoded mlines nl nc nF np ntr nb mbestCost nso nsi nit nsh nsf nss nrc mtraced mdealer mnumber mwhose msize misParted fnw gnp5101 (by omega) (hN) (hV)) si_X12_314 [0, 1, 4] [2, 3] rfl rfl (by decide) rfl (by decide) (by decide) rfl rfl rfl rfl rfl (Nat.le_of_ble_eq_true rfl) ⟨Nat.le_of_ble_eq_true rfl, Nat.le_of_ble_eq_true rfl⟩ ⟨Nat.le_of_ble_eq_true rfl, Nat.le_of_ble_eq_true rfl⟩ dX12_isBarred_24 (fun r5103 u5104 H locs hr5103 hP hD hS => ?_)
  obtain ⟨gnp5105, rfl⟩ : ∃ z9, z9 = u5104 := ⟨_, rfl⟩
  try dsimp only at hr5103
  have hP : va_P G.1 vwCl [(nm, .inl (G.2.1, 36, .inl gnm5099)), (ns, .inl (G.2.1, 8, .inl gns5100)), (h0, .inr (12, [.ref nw, .ref nk, .int mhasKept, .ref nt, .int mtaped, .ref nr, .int mrowMany, .int mroundOf, .int mroundFrom, .int 0, .ref nm, .int fh15097, .int th15098, .ref ns, .int mfrom, .int mto, .int msort, .int misFault, .int mdeep, .int mcoded, .int mlines, .ref nl, .ref nc, .ref nF, .ref np, .ref ntr, .ref nb, .int mbestCost, .ref nso, .ref nsi, .ref nit, .ref nsh, .ref nsf, .ref nss, .ref nrc, .int mtraced, .int mdealer, .int mnumber, .int mwhose, .int msize, .int misParted])), (nw, .inl (G.2.1, 1662, .inl fnw)), (np, .inl (G.2.1, 100, .inl gnp5105))] H := hP
  have hD : va_D A [(nm, .inl (G.2.1, 36, .inl gnm5099)), (ns, .inl (G.2.1, 8, .inl gns5100)), (h0, .inr (12, [.ref nw, .ref nk, .int mhasKept, .ref nt, .int mtaped, .ref nr, .int mrowMany, .int mroundOf, .int mroundFrom, .int 0, .ref nm, .int fh15097, .int th15098, .ref ns, .int mfrom, .int mto, .int msort, .int misFault, .int mdeep, .int mcoded, .int mlines, .ref nl, .ref nc, .ref nF, .ref np, .ref ntr, .ref nb, .int mbestCost, .ref nso, .ref nsi, .ref nit, .ref nsh, .ref nsf, .ref nss, .ref nrc, .int mtraced, .int mdealer, .int mnumber, .int mwhose, .int msize, .int misParted])), (nw, .inl (G.2.1, 1662, .inl fnw)), (np, .inl (G.2.1, 100, .inl gnp5105))] := hD
  refine lv_istore (lv' := [(4, .int r5103), (3, .int r5095), (2, .int (nI fi5094)), (0, .ref h0), (1, .int (nI jf))]) hx hb dX12_isBarred_27 hl (by decide) rfl (fun ls hl => ?_)
  refine lv_iconst (v := 0) hx hb dX12_isBarred_29 (by decide) ?_
  refine lv_istore (lv' := [(5, .int 0), (4, .int r5103), (3, .int r5095), (2, .int (nI fi5094)), (0, .ref h0), (1, .int (nI jf))]) hx hb dX12_isBarred_30 hl (by decide) rfl (fun ls hl => ?_)
  have keyP : ∀ (nP kP : Nat) (op : Int32) (H : Heap) (locs : List Loc) (ls : Array Slot), kP + nP = k10 → va_P G.1 vwCl [(nm, .inl (G.2.1, 36, .inl gnm5099)), (ns, .inl (G.2.1, 8, .inl gns5100)), (h0, .inr (12, [.ref nw, .ref nk, .int mhasKept, .ref nt, .int mtaped, .ref nr, .int mrowMany, .int mroundOf, .int mroundFrom, .int 0, .ref nm, .int fh15097, .int th15098, .ref ns, .int mfrom, .int mto, .int msort, .int misFault, .int mdeep, .int mcoded, .int mlines, .ref nl, .ref nc, .ref nF, .ref np, .ref ntr, .ref nb, .int mbestCost, .ref nso, .ref nsi, .ref nit, .ref nsh, .ref nsf, .ref nss, .ref nrc, .int mtraced, .int mdealer, .int mnumber, .int mwhose, .int msize, .int misParted])), (nw, .inl (G.2.1, 1662, .inl fnw)), (np, .inl (G.2.1, 100, .inl gnp5105))] H → va_D A [(nm, .inl (G.2.1, 36, .inl gnm5099)), (ns, .inl (G.2.1, 8, .inl gns5100)), (h0, .inr (12, [.ref nw, .ref nk, .int mhasKept, .ref nt, .int mtaped, .ref nr, .int mrowMany, .int mroundOf, .int mroundFrom, .int 0, .ref nm, .int fh15097, .int th15098, .ref ns, .int mfrom, .int mto, .int msort, .int misFault, .int mdeep, .int mcoded, .int mlines, .ref nl, .ref nc, .ref nF, .ref np, .ref ntr, .ref nb, .int mbestCost, .ref nso, .ref nsi, .ref nit, .ref nsh, .ref nsf, .ref nss, .ref nrc, .int mtraced, .int mdealer, .int mnumber, .int mwhose, .int msize, .int misParted])), (nw, .inl (G.2.1, 1662, .inl fnw)), (np, .inl (G.2.1, 100, .inl gnp5105))] → va_S A s.heap H locs → lv_has ls 8 [(5, .int (nI kP)), (4, .int r5103), (3, .int op), (2, .int (nI fi5094)), (0, .ref h0), (1, .int (nI jf))] → W p l e (RM 11 0 0) s m ([.ref h0, .int (nI jf)] : List Value).toArray below meth c H locs 0 0 (MQ below (QI G (fun (r : Int32) (u : Int32 × Int32 × (Nat → Int32) × (Nat → Int32) × (Nat → Int32)) => (r = 1 ∨ r = 0) ∧ (MB u.2.2.1)) (fun u : Int32 × Int32 × (Nat → Int32) × (Nat → Int32) × (Nat → Int32) => [(h0, .inr (12, [.ref nw, .ref nk, .int mhasKept, .ref nt, .int mtaped, .ref nr, .int mrowMany, .int mroundOf, .int mroundFrom, .int 0, .ref nm, .int u.1, .int u.2.1, .ref ns, .int mfrom, .int mto, .int msort, .int misFault, .int mdeep, .int mcoded, .int mlines, .ref nl, .ref nc, .ref nF, .ref np, .ref ntr, .ref nb, .int mbestCost, .ref nso, .ref nsi, .ref nit, .ref nsh, .ref nsf, .ref nss, .ref nrc, .int mtraced, .int mdealer, .int mnumber, .int mwhose, .int msize, .int misParted])), (nw, .inl (G.2.1, 1662, .inl fnw)), (nm, .inl (G.2.1, 36, .inl u.2.2.1)), (ns, .inl (G.2.1, 8, .inl u.2.2.2.1)), (np, .inl (G.2.1, 100, .inl u.2.2.2.2))]) A) ([.ref h0, .int (nI jf)] : List Value).toArray s 0 0 A) (F0 m 32 ls []) := by
    intro nP
    induction nP with
    | zero =>
      intro kP op H locs ls hkP hP hD hS hl
      obtain rfl : k10 = kP := by omega
      have hl : lv_has ls 8 [(5, .int (nI k10)), (4, .int r5103), (3, .int op), (2, .int (nI fi5094)), (0, .ref h0), (1, .int (nI jf))] := hl
      refine lv_iload hx hb dX12_isBarred_32 (lv_at hl 0 rfl) ?_
      refine lv_aload_n hx hb dX12_isBarred_34 rfl (lv_at hl 4 rfl) ?_
      refine gf_X12_9 hC rfl hK hP 2 rfl rfl dX12_isBarred_35 ?_
      refine lv_bipush (v := 10) hx hb dX12_isBarred_38 (by decide) ?_
      refine ald hC hK hP 3 rfl (vin (by decide +kernel)) (k := 10) (by decide +kernel) (v := nI k10) (ek10) dX12_isBarred_40 ?_
      refine lv_icmp_ge (tgt := 138) hx hb dX12_isBarred_41 (by decide) (fun _ => ?_) (fun c9 => absurd (Int32.le_refl _) c9)
      refine lv_iload_n hx hb dX12_isBarred_138 rfl (lv_at hl 2 rfl) ?_
      refine lv_if_ne (tgt := 156) hx hb dX12_isBarred_139 (by decide) (fun c_139_5106 => ?_) (fun c_139_5106 => ?_)
      · refine lv_iconst (v := 1) hx hb dX12_isBarred_156 (by decide) ?_
        refine lv_goto (tgt := 161) hx hb dX12_isBarred_157 (by decide) ?_
        exact RI (v := 1) hC hP hD hS [2, 3, 0, 1, 4] (fh15097, th15098, gnm5099, gns5100, gnp5105) rfl rfl (by decide) (⟨Or.inl (rfl), by first | assumption | exact hM⟩) (by decide +kernel) dX12_isBarred_161
      · refine lv_aload_n hx hb dX12_isBarred_142 rfl (lv_at hl 4 rfl) ?_
        refine lv_iload_n hx hb dX12_isBarred_143 rfl (lv_at hl 3 rfl) ?_
        refine pV hC hK hl hP hD (m_saidBy l G h0 (nI fi5094) nw nk mhasKept nt mtaped nr mrowMany mroundOf mroundFrom 0 nm fh15097 th15098 ns mfrom mto msort misFault mdeep mcoded mlines nl nc nF np ntr nb mbestCost nso nsi nit nsh nsf nss nrc mtraced mdealer mnumber mwhose msize misParted fnw (hN)) si_X12_127 [2, 3] rfl rfl (by decide) rfl rfl rfl rfl rfl (Nat.le_of_ble_eq_true rfl) ⟨Nat.le_of_ble_eq_true rfl, Nat.le_of_ble_eq_true rfl⟩ ⟨by first | exact Nat.le_of_ble_eq_true rfl | exact Nat.zero_le _, by first | exact Nat.le_of_ble_eq_true rfl | exact Nat.zero_le _⟩ dX12_isBarred_144 (fun r5107 hr5107 => ?_)
        refine lv_aload_n hx hb dX12_isBarred_147 rfl (lv_at hl 4 rfl) ?_
        refine lv_iload_n hx hb dX12_isBarred_148 rfl (lv_at hl 3 rfl) ?_
        refine lv_iconst (v := 3) hx hb dX12_isBarred_149 (by decide) ?_
        refine iV (wr := [(nm, .inl (G.2.1, 36, .inl gnm5099)), (ns, .inl (G.2.1, 8, .inl gns5100))]) hC hK hl hP hD hS hA (m_asked l G h0 fi5094 3 nw nk mhasKept nt mtaped nr mrowMany mroundOf mroundFrom 0 nm fh15097 th15098 ns mfrom mto msort misFault mdeep mcoded mlines nl nc nF np ntr nb mbestCost nso nsi nit nsh nsf nss nrc mtraced mdealer mnumber mwhose msize misParted fnw gnp5105 (by omega) (hN) (hV)) si_X12_314 [2, 3, 4] [0, 1] rfl rfl (by decide) rfl (by decide) (by decide) rfl rfl rfl rfl rfl (Nat.le_of_ble_eq_true rfl) ⟨Nat.le_of_ble_eq_true rfl, Nat.le_of_ble_eq_true rfl⟩ ⟨Nat.le_of_ble_eq_true rfl, Nat.le_of_ble_eq_true rfl⟩ dX12_isBarred_150 (fun r5108 u5109 H locs hr5108 hP hD hS => ?_)
        obtain ⟨gnp5110, rfl⟩ : ∃ z9, z9 = u5109 := ⟨_, rfl⟩
        try dsimp only at hr5108
        have hP : va_P G.1 vwCl [(nm, .inl (G.2.1, 36, .inl gnm5099)), (ns, .inl (G.2.1, 8, .inl gns5100)), (h0, .inr (12, [.ref nw, .ref nk, .int mhasKept, .ref nt, .int mtaped, .ref nr, .int mrowMany, .int mroundOf, .int mroundFrom, .int 0, .ref nm, .int fh15097, .int th15098, .ref ns, .int mfrom, .int mto, .int msort, .int misFault, .int mdeep, .int mcoded, .int mlines, .ref nl, .ref nc, .ref nF, .ref np, .ref ntr, .ref nb, .int mbestCost, .ref nso, .ref nsi, .ref nit, .ref nsh, .ref nsf, .ref nss, .ref nrc, .int mtraced, .int mdealer, .int mnumber, .int mwhose, .int msize, .int misParted])), (nw, .inl (G.2.1, 1662, .inl fnw)), (np, .inl (G.2.1, 100, .inl gnp5110))] H := hP
        have hD : va_D A [(nm, .inl (G.2.1, 36, .inl gnm5099)), (ns, .inl (G.2.1, 8, .inl gns5100)), (h0, .inr (12, [.ref nw, .ref nk, .int mhasKept, .ref nt, .int mtaped, .ref nr, .int mrowMany, .int mroundOf, .int mroundFrom, .int 0, .ref nm, .int fh15097, .int th15098, .ref ns, .int mfrom, .int mto, .int msort, .int misFault, .int mdeep, .int mcoded, .int mlines, .ref nl, .ref nc, .ref nF, .ref np, .ref ntr, .ref nb, .int mbestCost, .ref nso, .ref nsi, .ref nit, .ref nsh, .ref nsf, .ref nss, .ref nrc, .int mtraced, .int mdealer, .int mnumber, .int mwhose, .int msize, .int misParted])), (nw, .inl (G.2.1, 1662, .inl fnw)), (np, .inl (G.2.1, 100, .inl gnp5110))] := hD
        refine lv_icmp_ge (tgt := 160) hx hb dX12_isBarred_153 (by decide) (fun c_153_5111 => ?_) (fun c_153_5111 => ?_)
        · refine lv_iconst (v := 0) hx hb dX12_isBarred_160 (by decide) ?_
          exact RI (v := 0) hC hP hD hS [2, 3, 0, 1, 4] (fh15097, th15098, gnm5099, gns5100, gnp5110) rfl rfl (by decide) (⟨Or.inr (rfl), by first | assumption | exact hM⟩) (by decide +kernel) dX12_isBarred_161
        · refine lv_iconst (v := 1) hx hb dX12_isBarred_156 (by decide) ?_
          refine lv_goto (tgt := 161) hx hb dX12_isBarred_157 (by decide) ?_
          exact RI (v := 1) hC hP hD hS [2, 3, 0, 1, 4] (fh15097, th15098, gnm5099, gns5100, gnp5110) rfl rfl (by decide) (⟨Or.inl (rfl), by first | assumption | exact hM⟩) (by decide +kernel) dX12_isBarred_161
    | succ nP ihP =>
      intro kP op H locs ls hkP hP hD hS hl
      refine lv_iload hx hb dX12_isBarred_32 (lv_at hl 0 rfl) ?_
      refine lv_aload_n hx hb dX12_isBarred_34 rfl (lv_at hl 4 rfl) ?_
      refine gf_X12_9 hC rfl hK hP 2 rfl rfl dX12_isBarred_35 ?_
      refine lv_bipush (v := 10) hx hb dX12_isBarred_38 (by decide) ?_
      refine ald hC hK hP 3 rfl (vin (by decide +kernel)) (k := 10) (by decide +kernel) (v := nI k10) (ek10) dX12_isBarred_40 ?_
      refine lv_icmp_ge (tgt := 138) hx hb dX12_isBarred_41 (by decide) (fun c9 => absurd c9 (nI_ge (a := kP) (b := k10) (by omega) (by omega))) (fun _ => ?_)
      refine lv_sipush (v := 1600) hx hb dX12_isBarred_44 (by decide) ?_
      refine lv_iconst (v := 3) hx hb dX12_isBarred_47 (by decide) ?_
      refine lv_iload hx hb dX12_isBarred_48 (lv_at hl 0 rfl) ?_
      refine lv_imul hx hb dX12_isBarred_50 ?_
      refine eqi (x1 := nI (3 * kP)) (nI_mul 3 kP) ?_
      refine lv_iadd hx hb dX12_isBarred_51 ?_
      refine eqi (x1 := nI (1600 + 3 * kP)) (nI_add 1600 (3 * kP)) ?_
      refine lv_istore (lv' := [(6, .int (nI (1600 + 3 * kP))), (5, .int (nI kP)), (4, .int r5103), (3, .int op), (2, .int (nI fi5094)), (0, .ref h0), (1, .int (nI jf))]) hx hb dX12_isBarred_52 hl (by decide) rfl (fun ls hl => ?_)
      refine lv_aload_n hx hb dX12_isBarred_54 rfl (lv_at hl 5 rfl) ?_
      refine gf_X12_9 hC rfl hK hP 2 rfl rfl dX12_isBarred_55 ?_
      refine lv_iload hx hb dX12_isBarred_58 (lv_at hl 0 rfl) ?_
      refine ald hC hK hP 3 rfl (vp_in_nI (by omega) (by omega)) (k := (1600 + 3 * kP)) (nI_clamp (by omega)) (v := fnw (1600 + 3 * kP)) rfl dX12_isBarred_60 ?_
      refine lv_topi (fun x5112 ex5112 => ?_)
      refine lv_iload_n hx hb dX12_isBarred_61 rfl (lv_at hl 4 rfl) ?_
      refine lv_icmp_ne (tgt := 104) hx hb dX12_isBarred_62 (by decide) (fun c_62_5113 => ?_) (fun c_62_5113 => ?_)
      · refine lv_iconst (v := 0) hx hb dX12_isBarred_104 (by decide) ?_
        refine lv_istore (lv' := [(7, .int 0), (6, .int (nI (1600 + 3 * kP))), (5, .int (nI kP)), (4, .int r5103), (3, .int op), (2, .int (nI fi5094)), (0, .ref h0), (1, .int (nI jf))]) hx hb dX12_isBarred_105 hl (by decide) rfl (fun ls hl => ?_)
        refine lv_iload_n hx hb dX12_isBarred_107 rfl (lv_at hl 4 rfl) ?_
        refine lv_iload hx hb dX12_isBarred_108 (lv_at hl 0 rfl) ?_
        refine lv_if_eq (tgt := 129) hx hb dX12_isBarred_110 (by decide) (fun _ => ?_) (fun c9 => absurd (by decide) c9)
        refine lv_iconst (v := (-1)) hx hb dX12_isBarred_129 (by decide) ?_
        refine lv_iand hx hb dX12_isBarred_130 ?_
        refine lv_istore_n (lv' := [(3, .int (op &&& (-1))), (7, .int 0), (6, .int (nI (1600 + 3 * kP))), (5, .int (nI kP)), (4, .int r5103), (2, .int (nI fi5094)), (0, .ref h0), (1, .int (nI jf))]) hx hb dX12_isBarred_131 rfl hl (by decide) rfl (fun ls hl => ?_)
        refine lv_iinc (v := nI (kP + 1)) (lv' := [(5, .int (nI (kP + 1))), (3, .int (op &&& (-1))), (7, .int 0), (6, .int (nI (1600 + 3 * kP))), (4, .int r5103), (2, .int (nI fi5094)), (0, .ref h0), (1, .int (nI jf))]) hx hb dX12_isBarred_132 hl (k := 3) rfl (nI_1 _) (by decide) rfl (fun ls hl => ?_)
        refine lv_goto (tgt := 32) hx hb dX12_isBarred_135 (by decide) ?_
        exact ihP (kP + 1) (op &&& (-1)) _ _ _ (by omega) hP hD hS (lv_sub hl [0, 4, 1, 5, 6, 7] rfl)
      · refine lv_aload_n hx hb dX12_isBarred_65 rfl (lv_at hl 5 rfl) ?_
        refine gf_X12_9 hC rfl hK hP 2 rfl rfl dX12_isBarred_66 ?_
        refine lv_iload hx hb dX12_isBarred_69 (lv_at hl 0 rfl) ?_
        refine lv_iconst (v := 2) hx hb dX12_isBarred_71 (by decide) ?_
        refine lv_iadd hx hb dX12_isBarred_72 ?_
        refine eqi (x1 := nI (1600 + 3 * kP + 2)) (nI_add (1600 + 3 * kP) 2) ?_
        refine ald hC hK hP 3 rfl (vp_in_nI (by omega) (by omega)) (k := (1600 + 3 * kP + 2)) (nI_clamp (by omega)) (v := fnw (1600 + 3 * kP + 2)) rfl dX12_isBarred_73 ?_
        refine lv_topi (fun x5114 ex5114 => ?_)
        refine lv_aload_n hx hb dX12_isBarred_74 rfl (lv_at hl 5 rfl) ?_
        refine pV hC hK hl hP hD (m_day l G h0 nw nk mhasKept nt mtaped nr mrowMany mroundOf mroundFrom 0 nm fh15097 th15098 ns mfrom mto msort misFault mdeep mcoded mlines nl nc nF np ntr nb mbestCost nso nsi nit nsh nsf nss nrc mtraced mdealer mnumber mwhose msize misParted fnw) si_X12_92 [2, 3] rfl rfl (by decide) rfl rfl rfl rfl rfl (Nat.le_of_ble_eq_true rfl) ⟨Nat.le_of_ble_eq_true rfl, Nat.le_of_ble_eq_true rfl⟩ ⟨by first | exact Nat.le_of_ble_eq_true rfl | exact Nat.zero_le _, by first | exact Nat.le_of_ble_eq_true rfl | exact Nat.zero_le _⟩ dX12_isBarred_75 (fun r5115 hr5115 => ?_)
        refine lv_icmp_gt (tgt := 104) hx hb dX12_isBarred_78 (by decide) (fun c_78_5116 => ?_) (fun c_78_5116 => ?_)
        · refine lv_iconst (v := 0) hx hb dX12_isBarred_104 (by decide) ?_
          refine lv_istore (lv' := [(7, .int 0), (6, .int (nI (1600 + 3 * kP))), (5, .int (nI kP)), (4, .int r5103), (3, .int op), (2, .int (nI fi5094)), (0, .ref h0), (1, .int (nI jf))]) hx hb dX12_isBarred_105 hl (by decide) rfl (fun ls hl => ?_)
          refine lv_iload_n hx hb dX12_isBarred_107 rfl (lv_at hl 4 rfl) ?_
          refine lv_iload hx hb dX12_isBarred_108 (lv_at hl 0 rfl) ?_
          refine lv_if_eq (tgt := 129) hx hb dX12_isBarred_110 (by decide) (fun _ => ?_) (fun c9 => absurd (by decide) c9)
          refine lv_iconst (v := (-1)) hx hb dX12_isBarred_129 (by decide) ?_
          refine lv_iand hx hb dX12_isBarred_130 ?_
          refine lv_istore_n (lv' := [(3, .int (op &&& (-1))), (7, .int 0), (6, .int (nI (1600 + 3 * kP))), (5, .int (nI kP)), (4, .int r5103), (2, .int (nI fi5094)), (0, .ref h0), (1, .int (nI jf))]) hx hb dX12_isBarred_131 rfl hl (by decide) rfl (fun ls hl => ?_)
          refine lv_iinc (v := nI (kP + 1)) (lv' := [(5, .int (nI (kP + 1))), (3, .int (op &&& (-1))), (7, .int 0), (6, .int (nI (1600 + 3 * kP))), (4, .int r5103), (2, .int (nI fi5094)), (0, .ref h0), (1, .int (nI jf))]) hx hb dX12_isBarred_132 hl (k := 3) rfl (nI_1 _) (by decide) rfl (fun ls hl => ?_)
          refine lv_goto (tgt := 32) hx hb dX12_isBarred_135 (by decide) ?_
          exact ihP (kP + 1) (op &&& (-1)) _ _ _ (by omega) hP hD hS (lv_sub hl [0, 4, 1, 5, 6, 7] rfl)
        · refine lv_aload_n hx hb dX12_isBarred_81 rfl (lv_at hl 5 rfl) ?_
          refine pV hC hK hl hP hD (m_day l G h0 nw nk mhasKept nt mtaped nr mrowMany mroundOf mroundFrom 0 nm fh15097 th15098 ns mfrom mto msort misFault mdeep mcoded mlines nl nc nF np ntr nb mbestCost nso nsi nit nsh nsf nss nrc mtraced mdealer mnumber mwhose msize misParted fnw) si_X12_92 [2, 3] rfl rfl (by decide) rfl rfl rfl rfl rfl (Nat.le_of_ble_eq_true rfl) ⟨Nat.le_of_ble_eq_true rfl, Nat.le_of_ble_eq_true rfl⟩ ⟨by first | exact Nat.le_of_ble_eq_true rfl | exact Nat.zero_le _, by first | exact Nat.le_of_ble_eq_true rfl | exact Nat.zero_le _⟩ dX12_isBarred_82 (fun r5117 hr5117 => ?_)
          refine lv_aload_n hx hb dX12_isBarred_85 rfl (lv_at hl 5 rfl) ?_
          refine gf_X12_9 hC rfl hK hP 2 rfl rfl dX12_isBarred_86 ?_
          refine lv_iload hx hb dX12_isBarred_89 (lv_at hl 0 rfl) ?_
          refine lv_iconst (v := 2) hx hb dX12_isBarred_91 (by decide) ?_
          refine lv_iadd hx hb dX12_isBarred_92 ?_
          refine eqi (x1 := nI (1600 + 3 * kP + 2)) (nI_add (1600 + 3 * kP) 2) ?_
          refine ald hC hK hP 3 rfl (vp_in_nI (by omega) (by omega)) (k := (1600 + 3 * kP + 2)) (nI_clamp (by omega)) (v := fnw (1600 + 3 * kP + 2)) rfl dX12_isBarred_93 ?_
          refine lv_topi (fun x5118 ex5118 => ?_)
          refine lv_isub hx hb dX12_isBarred_94 ?_
          refine lv_iload hx hb dX12_isBarred_95 (lv_at hl 2 rfl) ?_
          refine lv_icmp_lt (tgt := 104) hx hb dX12_isBarred_97 (by decide) (fun c_97_5119 => ?_) (fun c_97_5119 => ?_)
          · refine lv_iconst (v := 0) hx hb dX12_isBarred_104 (by decide) ?_
            refine lv_istore (lv' := [(7, .int 0), (6, .int (nI (1600 + 3 * kP))), (5, .int (nI kP)), (4, .int r5103), (3, .int op), (2, .int (nI fi5094)), (0, .ref h0), (1, .int (nI jf))]) hx hb dX12_isBarred_105 hl (by decide) rfl (fun ls hl => ?_)
            refine lv_iload_n hx hb dX12_isBarred_107 rfl (lv_at hl 4 rfl) ?_
            refine lv_iload hx hb dX12_isBarred_108 (lv_at hl 0 rfl) ?_
            refine lv_if_eq (tgt := 129) hx hb dX12_isBarred_110 (by decide) (fun _ => ?_) (fun c9 => absurd (by decide) c9)
            refine lv_iconst (v := (-1)) hx hb dX12_isBarred_129 (by decide) ?_
            refine lv_iand hx hb dX12_isBarred_130 ?_
            refine lv_istore_n (lv' := [(3, .int (op &&& (-1))), (7, .int 0), (6, .int (nI (1600 + 3 * kP))), (5, .int (nI kP)), (4, .int r5103), (2, .int (nI fi5094)), (0, .ref h0), (1, .int (nI jf))]) hx hb dX12_isBarred_131 rfl hl (by decide) rfl (fun ls hl => ?_)
            refine lv_iinc (v := nI (kP + 1)) (lv' := [(5, .int (nI (kP + 1))), (3, .int (op &&& (-1))), (7, .int 0), (6, .int (nI (1600 + 3 * kP))), (4, .int r5103), (2, .int (nI fi5094)), (0, .ref h0), (1, .int (nI jf))]) hx hb dX12_isBarred_132 hl (k := 3) rfl (nI_1 _) (by decide) rfl (fun ls hl => ?_)
            refine lv_goto (tgt := 32) hx hb dX12_isBarred_135 (by decide) ?_
            exact ihP (kP + 1) (op &&& (-1)) _ _ _ (by omega) hP hD hS (lv_sub hl [0, 4, 1, 5, 6, 7] rfl)
          · refine lv_iconst (v := 1) hx hb dX12_isBarred_100 (by decide) ?_
            refine lv_goto (tgt := 105) hx hb dX12_isBarred_101 (by decide) ?_
            refine lv_istore (lv' := [(7, .int 1), (6, .int (nI (1600 + 3 * kP))), (5, .int (nI kP)), (4, .int r5103), (3, .int op), (2, .int (nI fi5094)), (0, .ref h0), (1, .int (nI jf))]) hx hb dX12_isBarred_105 hl (by decide) rfl (fun ls hl => ?_)
            refine lv_iload_n hx hb dX12_isBarred_107 rfl (lv_at hl 4 rfl) ?_
            refine lv_iload hx hb dX12_isBarred_108 (lv_at hl 0 rfl) ?_
            refine lv_if_eq (tgt := 129) hx hb dX12_isBarred_110 (by decide) (fun c9 => absurd c9 (by decide)) (fun _ => ?_)
            refine lv_iconst (v := 1) hx hb dX12_isBarred_113 (by decide) ?_
            refine lv_aload_n hx hb dX12_isBarred_114 rfl (lv_at hl 6 rfl) ?_
            refine gf_X12_9 hC rfl hK hP 2 rfl rfl dX12_isBarred_115 ?_
            refine lv_iload hx hb dX12_isBarred_118 (lv_at hl 1 rfl) ?_
            refine lv_iconst (v := 1) hx hb dX12_isBarred_120 (by decide) ?_
            refine lv_iadd hx hb dX12_isBarred_121 ?_
            refine eqi (x1 := nI (1600 + 3 * kP + 1)) (nI_add (1600 + 3 * kP) 1) ?_
            refine ald hC hK hP 3 rfl (vp_in_nI (by omega) (by omega)) (k := (1600 + 3 * kP + 1)) (nI_clamp (by omega)) (v := fnw (1600 + 3 * kP + 1)) rfl dX12_isBarred_122 ?_
            refine lv_topi (fun x5120 ex5120 => ?_)
            refine lv_ishl hx hb dX12_isBarred_123 ?_
            refine lv_iconst (v := (-1)) hx hb dX12_isBarred_124 (by decide) ?_
            refine lv_ixor hx hb dX12_isBarred_125 ?_
            refine lv_goto (tgt := 130) hx hb dX12_isBarred_126 (by decide) ?_
            refine lv_iand hx hb dX12_isBarred_130 ?_
            refine lv_istore_n (lv' := [(3, .int (op &&& ((1 <<< (x5120 &&& 31)) ^^^ (-1)))), (7, .int 1), (6, .int (nI (1600 + 3 * kP))), (5, .int (nI kP)), (4, .int r5103), (2, .int (nI fi5094)), (0, .ref h0), (1, .int (nI jf))]) hx hb dX12_isBarred_131 rfl hl (by decide) rfl (fun ls hl => ?_)
            refine lv_iinc (v := nI (kP + 1)) (lv' := [(5, .int (nI (kP + 1))), (3, .int (op &&& ((1 <<< (x5120 &&& 31)) ^^^ (-1)))), (7, .int 1), (6, .int (nI (1600 + 3 * kP))), (4, .int r5103), (2, .int (nI fi5094)), (0, .ref h0), (1, .int (nI jf))]) hx hb dX12_isBarred_132 hl (k := 3) rfl (nI_1 _) (by decide) rfl (fun ls hl => ?_)
            refine lv_goto (tgt := 32) hx hb dX12_isBarred_135 (by decide) ?_
            exact ihP (kP + 1) (op &&& ((1 <<< (x5120 &&& 31)) ^^^ (-1))) _ _ _ (by omega) hP hD hS (lv_sub hl [0, 4, 1, 5, 6, 7] rfl)
  exact keyP k10 0 r5095 _ _ _ (by omega) hP hD hS (lv_sub hl [0, 1, 2, 3, 4, 5] rfl)
set_option maxHeartbeats 4000000 in
set_option maxRecDepth 100000 in
theorem r_findingOf (l : Launch) (G : GG) (h0 : Nat) (x1 : Int32) (x2 : Int32) (nw : Nat) (nk : Nat) (mhasKept : Int32) (nt : Nat) (mtaped : Int32) (nr : Nat) (mrowMany : Int32) (mroundOf : Int32) (mroundFrom : Int32) (nm : Nat) (mfromHour : Int32) (mtoHour : Int32) (ns : Nat) (mfrom : Int32) (mto : Int32) (msort : Int32) (misFault : Int32) (mdeep : Int32) (mcoded : Int32) (mlines : Int32) (nl : Nat) (nc : Nat) (nF : Nat) (np : Nat) (ntr : Nat) (nb : Nat) (mbestCost : Int32) (nso : Nat) (nsi : Nat) (nit : Nat) (nsh : Nat) (nsf : Nat) (nss : Nat) (nrc : Nat) (mtraced : Int32) (mdealer : Int32) (mnumber : Int32) (mwhose : Int32) (msize : Int32) (misParted : Int32) (fnw : Nat → Int32) (fnm : Nat → Int32) (fns : Nat → Int32) (fnp : Nat → Int32) (hN : NI fnw) (hV : VI fnw) (hM : MB fnm) : MI l G yX12_findingOf cX12_findingOf 3 (some .int) 12 0 0 [.ref h0, .int x1, .int x2] [(h0, .inr (12, [.ref nw, .ref nk, .int mhasKept, .ref nt, .int mtaped, .ref nr, .int mrowMany, .int mroundOf, .int mroundFrom, .int 0, .ref nm, .int mfromHour, .int mtoHour, .ref ns, .int mfrom, .int mto, .int msort, .int misFault, .int mdeep, .int mcoded, .int mlines, .ref nl, .ref nc, .ref nF, .ref np, .ref ntr, .ref nb, .int mbestCost, .ref nso, .ref nsi, .ref nit, .ref nsh, .ref nsf, .ref nss, .ref nrc, .int mtraced, .int mdealer, .int mnumber, .int mwhose, .int msize, .int misParted])), (nw, .inl (G.2.1, 1662, .inl fnw)), (nm, .inl (G.2.1, 36, .inl fnm)), (ns, .inl (G.2.1, 8, .inl fns)), (np, .inl (G.2.1, 100, .inl fnp))] (fun (r : Int32) (u : Int32 × Int32 × (Nat → Int32) × (Nat → Int32) × (Nat → Int32)) => (True) ∧ (MB u.2.2.1)) (fun u : Int32 × Int32 × (Nat → Int32) × (Nat → Int32) × (Nat → Int32) => [(h0, .inr (12, [.ref nw, .ref nk, .int mhasKept, .ref nt, .int mtaped, .ref nr, .int mrowMany, .int mroundOf, .int mroundFrom, .int 0, .ref nm, .int u.1, .int u.2.1, .ref ns, .int mfrom, .int mto, .int msort, .int misFault, .int mdeep, .int mcoded, .int mlines, .ref nl, .ref nc, .ref nF, .ref np, .ref ntr, .ref nb, .int mbestCost, .ref nso, .ref nsi, .ref nit, .ref nsh, .ref nsf, .ref nss, .ref nrc, .int mtraced, .int mdealer, .int mnumber, .int mwhose, .int msize, .int misParted])), (nw, .inl (G.2.1, 1662, .inl fnw)), (nm, .inl (G.2.1, 36, .inl u.2.2.1)), (ns, .inl (G.2.1, 8, .inl u.2.2.2.1)), (np, .inl (G.2.1, 100, .inl u.2.2.2.2))]) := by
  refine MI.start (by decide +kernel) (Nat.le_of_ble_eq_true rfl) ?_
  intro p e s m below meth c A ls hC hK hP hD hS hA hl
  have hl : lv_has ls 3 [(0, .ref h0), (1, .int x1), (2, .int x2)] := hl
  obtain ⟨hx, hb, hr, hml, hB, hown, hlocks, hnm⟩ := id hC
  obtain ⟨k9, hk9, ek9⟩ := NI.nat hN (i := 9) (B := 12) (by decide +kernel) (by decide)
  refine lv_aload_n hx hb dX12_findingOf_0 rfl (lv_at hl 0 rfl) ?_
  refine lv_iload_n hx hb dX12_findingOf_1 rfl (lv_at hl 1 rfl) ?_
  refine lv_bipush (v := 9) hx hb dX12_findingOf_2 (by decide) ?_
  refine pV hC hK hl hP hD (m_is l G k9 h0 x1 9 nw nk mhasKept nt mtaped nr mrowMany mroundOf mroundFrom 0 nm mfromHour mtoHour ns mfrom mto msort misFault mdeep mcoded mlines nl nc nF np ntr nb mbestCost nso nsi nit nsh nsf nss nrc mtraced mdealer mnumber mwhose msize misParted fnw (by omega) (ek9) (by omega)) si_X12_120 [0, 1] rfl rfl (by decide) rfl rfl rfl rfl rfl (Nat.le_of_ble_eq_true rfl) ⟨Nat.le_of_ble_eq_true rfl, Nat.le_of_ble_eq_true rfl⟩ ⟨by first | exact Nat.le_of_ble_eq_true rfl | exact Nat.zero_le _, by first | exact Nat.le_of_ble_eq_true rfl | exact Nat.zero_le _⟩ dX12_findingOf_4 (fun r5121 hr5121 => ?_)
  rcases hr5121 with ⟨rfl, a5122⟩ | ⟨rfl, a5122⟩
  · refine lv_if_eq (tgt := 20) hx hb dX12_findingOf_7 (by decide) (fun c9 => absurd c9 (by decide)) (fun _ => ?_)
    refine lv_iload_n hx hb dX12_findingOf_10 rfl (lv_at hl 2 rfl) ?_
    refine lv_iconst (v := 0) hx hb dX12_findingOf_11 (by decide) ?_
    refine lv_bipush (v := 6) hx hb dX12_findingOf_12 (by decide) ?_
    refine pS hC hK hl (m_within l G x2 0 6) si_X12_84 rfl rfl (Nat.le_of_ble_eq_true rfl) ⟨Nat.le_of_ble_eq_true rfl, Nat.le_of_ble_eq_true rfl⟩ ⟨by first | exact Nat.le_of_ble_eq_true rfl | exact Nat.zero_le _, by first | exact Nat.le_of_ble_eq_true rfl | exact Nat.zero_le _⟩ dX12_findingOf_14 (fun r5123 hr5123 => ?_)
    rcases hr5123 with ⟨rfl, a5124⟩ | ⟨rfl, a5124⟩
    · refine lv_if_ne (tgt := 22) hx hb dX12_findingOf_17 (by decide) (fun _ => ?_) (fun c9 => absurd c9 (by decide))
      obtain ⟨jf, hjf, rfl⟩ := Hs_nat (by omega) a5122
      refine lv_iload_n hx hb dX12_findingOf_22 rfl (lv_at hl 2 rfl) ?_
      refine lv_iconst (v := 4) hx hb dX12_findingOf_23 (by decide) ?_
      refine lv_icmp_ge (tgt := 44) hx hb dX12_findingOf_24 (by decide) (fun c_24_5125 => ?_) (fun c_24_5125 => ?_)
      · refine lv_iload_n hx hb dX12_findingOf_44 rfl (lv_at hl 2 rfl) ?_
        refine lv_iconst (v := 4) hx hb dX12_findingOf_45 (by decide) ?_
        refine lv_icmp_ne (tgt := 65) hx hb dX12_findingOf_46 (by decide) (fun c_46_5126 => ?_) (fun c_46_5126 => ?_)
        · refine lv_iload_n hx hb dX12_findingOf_65 rfl (lv_at hl 2 rfl) ?_
          refine lv_iconst (v := 5) hx hb dX12_findingOf_66 (by decide) ?_
          refine lv_icmp_ne (tgt := 78) hx hb dX12_findingOf_67 (by decide) (fun c_67_5127 => ?_) (fun c_67_5127 => ?_)
          · refine lv_aload_n hx hb dX12_findingOf_78 rfl (lv_at hl 0 rfl) ?_
            refine lv_iload_n hx hb dX12_findingOf_79 rfl (lv_at hl 1 rfl) ?_
            refine iV (wr := []) hC hK hl hP hD hS hA (m_isBarred l G h0 jf nw nk mhasKept nt mtaped nr mrowMany mroundOf mroundFrom nm mfromHour mtoHour ns mfrom mto msort misFault mdeep mcoded mlines nl nc nF np ntr nb mbestCost nso nsi nit nsh nsf nss nrc mtraced mdealer mnumber mwhose msize misParted fnw fnm fns fnp (by omega) (hN) (hV) (hM)) si_X12_317 [0, 1, 2, 3, 4] [] rfl rfl (by decide) rfl (by decide) (by decide) rfl rfl rfl rfl rfl (Nat.le_of_ble_eq_true rfl) ⟨Nat.le_of_ble_eq_true rfl, Nat.le_of_ble_eq_true rfl⟩ ⟨Nat.le_of_ble_eq_true rfl, Nat.le_of_ble_eq_true rfl⟩ dX12_findingOf_80 (fun r5128 u5129 H locs hr5128 hP hD hS => ?_)
            obtain ⟨fh15130, th15131, gnm5132, gns5133, gnp5134⟩ := u5129
            try dsimp only at hr5128
            have hP : va_P G.1 vwCl [(h0, .inr (12, [.ref nw, .ref nk, .int mhasKept, .ref nt, .int mtaped, .ref nr, .int mrowMany, .int mroundOf, .int mroundFrom, .int 0, .ref nm, .int fh15130, .int th15131, .ref ns, .int mfrom, .int mto, .int msort, .int misFault, .int mdeep, .int mcoded, .int mlines, .ref nl, .ref nc, .ref nF, .ref np, .ref ntr, .ref nb, .int mbestCost, .ref nso, .ref nsi, .ref nit, .ref nsh, .ref nsf, .ref nss, .ref nrc, .int mtraced, .int mdealer, .int mnumber, .int mwhose, .int msize, .int misParted])), (nw, .inl (G.2.1, 1662, .inl fnw)), (nm, .inl (G.2.1, 36, .inl gnm5132)), (ns, .inl (G.2.1, 8, .inl gns5133)), (np, .inl (G.2.1, 100, .inl gnp5134))] H := hP
            have hD : va_D A [(h0, .inr (12, [.ref nw, .ref nk, .int mhasKept, .ref nt, .int mtaped, .ref nr, .int mrowMany, .int mroundOf, .int mroundFrom, .int 0, .ref nm, .int fh15130, .int th15131, .ref ns, .int mfrom, .int mto, .int msort, .int misFault, .int mdeep, .int mcoded, .int mlines, .ref nl, .ref nc, .ref nF, .ref np, .ref ntr, .ref nb, .int mbestCost, .ref nso, .ref nsi, .ref nit, .ref nsh, .ref nsf, .ref nss, .ref nrc, .int mtraced, .int mdealer, .int mnumber, .int mwhose, .int msize, .int misParted])), (nw, .inl (G.2.1, 1662, .inl fnw)), (nm, .inl (G.2.1, 36, .inl gnm5132)), (ns, .inl (G.2.1, 8, .inl gns5133)), (np, .inl (G.2.1, 100, .inl gnp5134))] := hD
            obtain ⟨hr5128, w5135⟩ := hr5128
            rcases hr5128 with rfl | rfl
            · refine lv_if_eq (tgt := 90) hx hb dX12_findingOf_83 (by decide) (fun c9 => absurd c9 (by decide)) (fun _ => ?_)
              refine lv_iconst (v := 1) hx hb dX12_findingOf_86 (by decide) ?_
              refine lv_goto (tgt := 91) hx hb dX12_findingOf_87 (by decide) ?_
              exact RI (v := 1) hC hP hD hS [0, 1, 2, 3, 4] (fh15130, th15131, gnm5132, gns5133, gnp5134) rfl rfl (by decide) (⟨trivial, by first | assumption | exact hM⟩) rfl dX12_findingOf_91
            · refine lv_if_eq (tgt := 90) hx hb dX12_findingOf_83 (by decide) (fun _ => ?_) (fun c9 => absurd (by decide) c9)
              refine lv_iconst (v := 0) hx hb dX12_findingOf_90 (by decide) ?_
              exact RI (v := 0) hC hP hD hS [0, 1, 2, 3, 4] (fh15130, th15131, gnm5132, gns5133, gnp5134) rfl rfl (by decide) (⟨trivial, by first | assumption | exact hM⟩) rfl dX12_findingOf_91
          · refine lv_aload_n hx hb dX12_findingOf_70 rfl (lv_at hl 0 rfl) ?_
            refine lv_iload_n hx hb dX12_findingOf_71 rfl (lv_at hl 1 rfl) ?_
            refine iV (wr := []) hC hK hl hP hD hS hA (m_leans l G h0 jf nw nk mhasKept nt mtaped nr mrowMany mroundOf mroundFrom nm mfromHour mtoHour ns mfrom mto msort misFault mdeep mcoded mlines nl nc nF np ntr nb mbestCost nso nsi nit nsh nsf nss nrc mtraced mdealer mnumber mwhose msize misParted fnw fnm fns fnp (by omega) (hN) (hV) (hM)) si_X12_311 [0, 1, 2, 3, 4] [] rfl rfl (by decide) rfl (by decide) (by decide) rfl rfl rfl rfl rfl (Nat.le_of_ble_eq_true rfl) ⟨Nat.le_of_ble_eq_true rfl, Nat.le_of_ble_eq_true rfl⟩ ⟨Nat.le_of_ble_eq_true rfl, Nat.le_of_ble_eq_true rfl⟩ dX12_findingOf_72 (fun r5137 u5138 H locs hr5137 hP hD hS => ?_)
            obtain ⟨fh15139, th15140, gnm5141, gns5142, gnp5143⟩ := u5138
            try dsimp only at hr5137
            have hP : va_P G.1 vwCl [(h0, .inr (12, [.ref nw, .ref nk, .int mhasKept, .ref nt, .int mtaped, .ref nr, .int mrowMany, .int mroundOf, .int mroundFrom, .int 0, .ref nm, .int fh15139, .int th15140, .ref ns, .int mfrom, .int mto, .int msort, .int misFault, .int mdeep, .int mcoded, .int mlines, .ref nl, .ref nc, .ref nF, .ref np, .ref ntr, .ref nb, .int mbestCost, .ref nso, .ref nsi, .ref nit, .ref nsh, .ref nsf, .ref nss, .ref nrc, .int mtraced, .int mdealer, .int mnumber, .int mwhose, .int msize, .int misParted])), (nw, .inl (G.2.1, 1662, .inl fnw)), (nm, .inl (G.2.1, 36, .inl gnm5141)), (ns, .inl (G.2.1, 8, .inl gns5142)), (np, .inl (G.2.1, 100, .inl gnp5143))] H := hP
            have hD : va_D A [(h0, .inr (12, [.ref nw, .ref nk, .int mhasKept, .ref nt, .int mtaped, .ref nr, .int mrowMany, .int mroundOf, .int mroundFrom, .int 0, .ref nm, .int fh15139, .int th15140, .ref ns, .int mfrom, .int mto, .int msort, .int misFault, .int mdeep, .int mcoded, .int mlines, .ref nl, .ref nc, .ref nF, .ref np, .ref ntr, .ref nb, .int mbestCost, .ref nso, .ref nsi, .ref nit, .ref nsh, .ref nsf, .ref nss, .ref nrc, .int mtraced, .int mdealer, .int mnumber, .int mwhose, .int msize, .int misParted])), (nw, .inl (G.2.1, 1662, .inl fnw)), (nm, .inl (G.2.1, 36, .inl gnm5141)), (ns, .inl (G.2.1, 8, .inl gns5142)), (np, .inl (G.2.1, 100, .inl gnp5143))] := hD
            obtain ⟨hr5137, w5144⟩ := hr5137
            refine lv_goto (tgt := 91) hx hb dX12_findingOf_75 (by decide) ?_
            exact RI (v := r5137) hC hP hD hS [0, 1, 2, 3, 4] (fh15139, th15140, gnm5141, gns5142, gnp5143) rfl rfl (by decide) (⟨trivial, by first | assumption | exact hM⟩) rfl dX12_findingOf_91
        · refine lv_aload_n hx hb dX12_findingOf_49 rfl (lv_at hl 0 rfl) ?_
          refine lv_iload_n hx hb dX12_findingOf_50 rfl (lv_at hl 1 rfl) ?_
          refine iV (wr := []) hC hK hl hP hD hS hA (m_stands l G h0 jf nw nk mhasKept nt mtaped nr mrowMany mroundOf mroundFrom 0 nm mfromHour mtoHour ns mfrom mto msort misFault mdeep mcoded mlines nl nc nF np ntr nb mbestCost nso nsi nit nsh nsf nss nrc mtraced mdealer mnumber mwhose msize misParted fnw fnm fns fnp (by omega) (hN) (hV) (hM)) si_X12_305 [0, 1, 2, 3, 4] [] rfl rfl (by decide) rfl (by decide) (by decide) rfl rfl rfl rfl rfl (Nat.le_of_ble_eq_true rfl) ⟨Nat.le_of_ble_eq_true rfl, Nat.le_of_ble_eq_true rfl⟩ ⟨Nat.le_of_ble_eq_true rfl, Nat.le_of_ble_eq_true rfl⟩ dX12_findingOf_51 (fun r5145 u5146 H locs hr5145 hP hD hS => ?_)
          obtain ⟨fh15147, th15148, gnm5149, gns5150, gnp5151⟩ := u5146
          try dsimp only at hr5145
          have hP : va_P G.1 vwCl [(h0, .inr (12, [.ref nw, .ref nk, .int mhasKept, .ref nt, .int mtaped, .ref nr, .int mrowMany, .int mroundOf, .int mroundFrom, .int 0, .ref nm, .int fh15147, .int th15148, .ref ns, .int mfrom, .int mto, .int msort, .int misFault, .int mdeep, .int mcoded, .int mlines, .ref nl, .ref nc, .ref nF, .ref np, .ref ntr, .ref nb, .int mbestCost, .ref nso, .ref nsi, .ref nit, .ref nsh, .ref nsf, .ref nss, .ref nrc, .int mtraced, .int mdealer, .int mnumber, .int mwhose, .int msize, .int misParted])), (nw, .inl (G.2.1, 1662, .inl fnw)), (nm, .inl (G.2.1, 36, .inl gnm5149)), (ns, .inl (G.2.1, 8, .inl gns5150)), (np, .inl (G.2.1, 100, .inl gnp5151))] H := hP
          have hD : va_D A [(h0, .inr (12, [.ref nw, .ref nk, .int mhasKept, .ref nt, .int mtaped, .ref nr, .int mrowMany, .int mroundOf, .int mroundFrom, .int 0, .ref nm, .int fh15147, .int th15148, .ref ns, .int mfrom, .int mto, .int msort, .int misFault, .int mdeep, .int mcoded, .int mlines, .ref nl, .ref nc, .ref nF, .ref np, .ref ntr, .ref nb, .int mbestCost, .ref nso, .ref nsi, .ref nit, .ref nsh, .ref nsf, .ref nss, .ref nrc, .int mtraced, .int mdealer, .int mnumber, .int mwhose, .int msize, .int misParted])), (nw, .inl (G.2.1, 1662, .inl fnw)), (nm, .inl (G.2.1, 36, .inl gnm5149)), (ns, .inl (G.2.1, 8, .inl gns5150)), (np, .inl (G.2.1, 100, .inl gnp5151))] := hD
          obtain ⟨hr5145, w5152⟩ := hr5145
          rcases hr5145 with rfl | rfl
          · refine lv_if_eq (tgt := 61) hx hb dX12_findingOf_54 (by decide) (fun c9 => absurd c9 (by decide)) (fun _ => ?_)
            refine lv_iconst (v := 1) hx hb dX12_findingOf_57 (by decide) ?_
            refine lv_goto (tgt := 91) hx hb dX12_findingOf_58 (by decide) ?_
            exact RI (v := 1) hC hP hD hS [0, 1, 2, 3, 4] (fh15147, th15148, gnm5149, gns5150, gnp5151) rfl rfl (by decide) (⟨trivial, by first | assumption | exact hM⟩) rfl dX12_findingOf_91
          · refine lv_if_eq (tgt := 61) hx hb dX12_findingOf_54 (by decide) (fun _ => ?_) (fun c9 => absurd (by decide) c9)
            refine lv_iconst (v := 0) hx hb dX12_findingOf_61 (by decide) ?_
            refine lv_goto (tgt := 91) hx hb dX12_findingOf_62 (by decide) ?_
            exact RI (v := 0) hC hP hD hS [0, 1, 2, 3, 4] (fh15147, th15148, gnm5149, gns5150, gnp5151) rfl rfl (by decide) (⟨trivial, by first | assumption | exact hM⟩) rfl dX12_findingOf_91
      · obtain ⟨jw, hjw, rfl⟩ := Wi_nat (N := 6) (by decide) a5124
        have hjw4 := nge_nat (R := 4) (k := jw) (by decide) (by omega) c_24_5125
        refine lv_aload_n hx hb dX12_findingOf_27 rfl (lv_at hl 0 rfl) ?_
        refine gf_X12_9 hC rfl hK hP 0 rfl rfl dX12_findingOf_28 ?_
        refine lv_sipush (v := 1552) hx hb dX12_findingOf_31 (by decide) ?_
        refine lv_iconst (v := 4) hx hb dX12_findingOf_34 (by decide) ?_
        refine lv_iload_n hx hb dX12_findingOf_35 rfl (lv_at hl 1 rfl) ?_
        refine lv_imul hx hb dX12_findingOf_36 ?_
        refine eqi (x1 := nI (4 * jf)) (nI_mul 4 jf) ?_
        refine lv_iadd hx hb dX12_findingOf_37 ?_
        refine eqi (x1 := nI (1552 + 4 * jf)) (nI_add 1552 (4 * jf)) ?_
        refine lv_iload_n hx hb dX12_findingOf_38 rfl (lv_at hl 2 rfl) ?_
        refine lv_iadd hx hb dX12_findingOf_39 ?_
        refine eqi (x1 := nI (1552 + 4 * jf + jw)) (nI_add (1552 + 4 * jf) jw) ?_
        refine ald hC hK hP 1 rfl (vp_in_nI (by omega) (by omega)) (k := (1552 + 4 * jf + jw)) (nI_clamp (by omega)) (v := fnw (1552 + 4 * jf + jw)) rfl dX12_findingOf_40 ?_
        refine lv_topi (fun x5154 ex5154 => ?_)
        refine lv_goto (tgt := 91) hx hb dX12_findingOf_41 (by decide) ?_
        exact RI (v := x5154) hC hP hD hS [0, 1, 2, 3, 4] (mfromHour, mtoHour, fnm, fns, fnp) rfl rfl (by decide) (⟨trivial, by first | assumption | exact hM⟩) rfl dX12_findingOf_91
    · refine lv_if_ne (tgt := 22) hx hb dX12_findingOf_17 (by decide) (fun c9 => absurd (by decide) c9) (fun _ => ?_)
      refine lv_iconst (v := (-1)) hx hb dX12_findingOf_20 (by decide) ?_
      exact RI (v := (-1)) hC hP hD hS [0, 1, 2, 3, 4] (mfromHour, mtoHour, fnm, fns, fnp) rfl rfl (by decide) (⟨trivial, by first | assumption | exact hM⟩) rfl dX12_findingOf_21
  · refine lv_if_eq (tgt := 20) hx hb dX12_findingOf_7 (by decide) (fun _ => ?_) (fun c9 => absurd (by decide) c9)
    refine lv_iconst (v := (-1)) hx hb dX12_findingOf_20 (by decide) ?_
    exact RI (v := (-1)) hC hP hD hS [0, 1, 2, 3, 4] (mfromHour, mtoHour, fnm, fns, fnp) rfl rfl (by decide) (⟨trivial, by first | assumption | exact hM⟩) rfl dX12_findingOf_21
