section WR
variable {p : Program} {l : Launch} {e : Env} {R : Room} {s : State} {m : MethodId} {args : Array Value} {below : List Frame} {meth : Method} {c : Code} {H : Heap} {locs : List Loc} {cells slots : Nat} {Q : State → Prop}
variable {pc : Nat} {ls : Array Slot} {rest : List Value} {G : GG} {ws : va_W} {A : Nat → Prop} {y0 : MethodName} {b0 : ByteArray} {mL0 : Nat} {rt0 : Option FieldType} {a : Nat} {H0 : Heap}
theorem dX11_clash_0 : decode cX11_clash 0 = .ok (.iload_n 1, 1) := by decide +kernel
theorem dX11_clash_1 : decode cX11_clash 1 = .ok (.iconst 0, 1) := by decide +kernel
theorem dX11_clash_2 : decode cX11_clash 2 = .ok (.iconst 1, 1) := by decide +kernel
theorem dX11_clash_3 : decode cX11_clash 3 = .ok (.invokestatic 83, 3) := by decide +kernel
theorem dX11_clash_6 : decode cX11_clash 6 = .ok (.ifCond .ne 5, 3) := by decide +kernel
theorem dX11_clash_11 : decode cX11_clash 11 = .ok (.iload_n 1, 1) := by decide +kernel
theorem dX11_clash_12 : decode cX11_clash 12 = .ok (.iconst 1, 1) := by decide +kernel
theorem dX11_clash_13 : decode cX11_clash 13 = .ok (.if_icmp .ne 18, 3) := by decide +kernel
theorem dX11_clash_31 : decode cX11_clash 31 = .ok (.aload_n 0, 1) := by decide +kernel
theorem dX11_clash_32 : decode cX11_clash 32 = .ok (.getfield 28, 3) := by decide +kernel
theorem dX11_clash_35 : decode cX11_clash 35 = .ok (.aload_n 0, 1) := by decide +kernel
theorem dX11_clash_36 : decode cX11_clash 36 = .ok (.getfield 15, 3) := by decide +kernel
theorem dX11_clash_39 : decode cX11_clash 39 = .ok (.invokevirtual 97, 3) := by decide +kernel
theorem dX11_clash_42 : decode cX11_clash 42 = .ok (.invokevirtual 183, 3) := by decide +kernel
theorem dX11_clash_45 : decode cX11_clash 45 = .ok (.aload_n 0, 1) := by decide +kernel
theorem dX11_clash_46 : decode cX11_clash 46 = .ok (.getfield 28, 3) := by decide +kernel
theorem dX11_clash_49 : decode cX11_clash 49 = .ok (.invokevirtual 187, 3) := by decide +kernel
theorem dX11_clash_52 : decode cX11_clash 52 = .ok (.ifCond .eq 7, 3) := by decide +kernel
theorem dX11_clash_55 : decode cX11_clash 55 = .ok (.iconst 1, 1) := by decide +kernel
theorem dX11_clash_56 : decode cX11_clash 56 = .ok (.goto 4, 3) := by decide +kernel
theorem dX11_clash_60 : decode cX11_clash 60 = .ok (.ireturn, 1) := by decide +kernel
theorem dX11_clash_59 : decode cX11_clash 59 = .ok (.iconst 0, 1) := by decide +kernel
theorem dX11_clash_16 : decode cX11_clash 16 = .ok (.aload_n 0, 1) := by decide +kernel
theorem dX11_clash_17 : decode cX11_clash 17 = .ok (.getfield 35, 3) := by decide +kernel
theorem m_281 : Cond.fieldLink RX11 35 "InquiryBench" "doubt" "LInquiryBench$Doubt;" ∈ BW := iB_BW15 _ (List.mem_of_getElem? (i := 7) rfl)
theorem gf_X11_35 (hC : CX p s m meth c y0 b0 mL0 rt0 args) (hy0 : y0.cls = RX11) (hK : KK G s) (hP : va_P G.1 vwCl ws H) (q0 : Nat) {fs : List Value} {v : Value} (he : ws[q0]? = some (a, .inr (11, fs))) (hv : fs[4]? = some v) (hdg : decode b0 pc = .ok (.getfield 35, 3)) (kk : W p l e R s m args below meth c H locs cells slots Q (F0 m (pc + 3) ls (v :: rest))) : W p l e R s m args below meth c H locs cells slots Q (F0 m pc ls (.ref a :: rest)) := by
  obtain ⟨hx, hb, hr, hml, hB, hown, hlocks, hnm⟩ := hC
  rw [hy0] at hown
  exact va_get (ci := 11) (C := RX11) (T := TX11) (N := 11) hx hb hB in_X11 hown hK.1 hP q0 he rfl 4 (by decide) (hB _ m_281) (fun _ h => h) hv hdg kk
theorem dX11_clash_20 : decode cX11_clash 20 = .ok (.aload_n 0, 1) := by decide +kernel
theorem dX11_clash_21 : decode cX11_clash 21 = .ok (.getfield 15, 3) := by decide +kernel
theorem dX11_clash_24 : decode cX11_clash 24 = .ok (.invokevirtual 97, 3) := by decide +kernel
theorem dX11_clash_27 : decode cX11_clash 27 = .ok (.invokevirtual 180, 3) := by decide +kernel
theorem m_436 : Cond.code yX3_fewest cX3_fewest 3 (some .int) ∈ BW := iB_BW24 _ (List.mem_of_getElem? (i := 0) rfl)
theorem m_433 : Cond.methodLink RX11 180 yX3_fewest ∈ BW := iB_BW23 _ (List.mem_of_getElem? (i := 17) rfl)
theorem m_434 : Cond.instanceMethod yX3_fewest ∈ BW := iB_BW23 _ (List.mem_of_getElem? (i := 18) rfl)
theorem m_435 : Cond.selects RX3 yX3_fewest yX3_fewest ∈ BW := iB_BW23 _ (List.mem_of_getElem? (i := 19) rfl)
theorem si_X11_180 : SV RX11 RX3 180 yX3_fewest cX3_fewest 3 (some .int) 1 := ⟨⟨m_433, m_434, m_435, m_108, m_436⟩, rfl, nK_RX3.1, nK_RX3.2, pd_7⟩
theorem dX11_clash_30 : decode cX11_clash 30 = .ok (.ireturn, 1) := by decide +kernel
theorem dX11_clash_9 : decode cX11_clash 9 = .ok (.iconst (-1), 1) := by decide +kernel
theorem dX11_clash_10 : decode cX11_clash 10 = .ok (.ireturn, 1) := by decide +kernel
theorem dX11_knownFrom_0 : decode cX11_knownFrom 0 = .ok (.aload_n 0, 1) := by decide +kernel
theorem dX11_knownFrom_1 : decode cX11_knownFrom 1 = .ok (.getfield 28, 3) := by decide +kernel
theorem dX11_knownFrom_4 : decode cX11_knownFrom 4 = .ok (.iload 4, 2) := by decide +kernel
theorem dX11_knownFrom_6 : decode cX11_knownFrom 6 = .ok (.invokevirtual 183, 3) := by decide +kernel
theorem dX11_knownFrom_9 : decode cX11_knownFrom 9 = .ok (.iload_n 3, 1) := by decide +kernel
theorem dX11_knownFrom_10 : decode cX11_knownFrom 10 = .ok (.iconst 2, 1) := by decide +kernel
theorem dX11_knownFrom_11 : decode cX11_knownFrom 11 = .ok (.if_icmp .eq 22, 3) := by decide +kernel
theorem dX11_knownFrom_33 : decode cX11_knownFrom 33 = .ok (.aload_n 0, 1) := by decide +kernel
theorem dX11_knownFrom_34 : decode cX11_knownFrom 34 = .ok (.getfield 44, 3) := by decide +kernel
theorem m_282 : Cond.fieldLink RX11 44 "InquiryBench" "rules" "LInquiryBench$Rules;" ∈ BW := iB_BW15 _ (List.mem_of_getElem? (i := 8) rfl)
theorem gf_X11_44 (hC : CX p s m meth c y0 b0 mL0 rt0 args) (hy0 : y0.cls = RX11) (hK : KK G s) (hP : va_P G.1 vwCl ws H) (q0 : Nat) {fs : List Value} {v : Value} (he : ws[q0]? = some (a, .inr (11, fs))) (hv : fs[5]? = some v) (hdg : decode b0 pc = .ok (.getfield 44, 3)) (kk : W p l e R s m args below meth c H locs cells slots Q (F0 m (pc + 3) ls (v :: rest))) : W p l e R s m args below meth c H locs cells slots Q (F0 m pc ls (.ref a :: rest)) := by
  obtain ⟨hx, hb, hr, hml, hB, hown, hlocks, hnm⟩ := hC
  rw [hy0] at hown
  exact va_get (ci := 11) (C := RX11) (T := TX11) (N := 11) hx hb hB in_X11 hown hK.1 hP q0 he rfl 5 (by decide) (hB _ m_282) (fun _ h => h) hv hdg kk
theorem dX11_knownFrom_37 : decode cX11_knownFrom 37 = .ok (.iload_n 1, 1) := by decide +kernel
theorem dX11_knownFrom_38 : decode cX11_knownFrom 38 = .ok (.iload 4, 2) := by decide +kernel
theorem dX11_knownFrom_40 : decode cX11_knownFrom 40 = .ok (.invokevirtual 243, 3) := by decide +kernel
theorem m_565 : Cond.code yX6_settle cX6_settle 5 none ∈ BW := iB_BW30 _ (List.mem_of_getElem? (i := 9) rfl)
theorem m_562 : Cond.methodLink RX11 243 yX6_settle ∈ BW := iB_BW30 _ (List.mem_of_getElem? (i := 6) rfl)
theorem m_563 : Cond.instanceMethod yX6_settle ∈ BW := iB_BW30 _ (List.mem_of_getElem? (i := 7) rfl)
theorem m_564 : Cond.selects RX6 yX6_settle yX6_settle ∈ BW := iB_BW30 _ (List.mem_of_getElem? (i := 8) rfl)
theorem si_X11_243 : SV RX11 RX6 243 yX6_settle cX6_settle 5 none 2 := ⟨⟨m_562, m_563, m_564, m_109, m_565⟩, rfl, nK_RX6.1, nK_RX6.2, pd_14⟩
theorem dX11_knownFrom_43 : decode cX11_knownFrom 43 = .ok (.aload_n 0, 1) := by decide +kernel
theorem dX11_knownFrom_44 : decode cX11_knownFrom 44 = .ok (.getfield 44, 3) := by decide +kernel
theorem dX11_knownFrom_47 : decode cX11_knownFrom 47 = .ok (.iload_n 2, 1) := by decide +kernel
theorem dX11_knownFrom_48 : decode cX11_knownFrom 48 = .ok (.invokevirtual 247, 3) := by decide +kernel
theorem m_598 : Cond.methodLink RX11 247 yX6_shouldHour ∈ BW := iB_BW32 _ (List.mem_of_getElem? (i := 18) rfl)
theorem si_X11_247 : SV RX11 RX6 247 yX6_shouldHour cX6_shouldHour 2 (some .int) 1 := ⟨⟨m_598, m_594, m_595, m_109, m_596⟩, rfl, nK_RX6.1, nK_RX6.2, pd_7⟩
theorem dX11_knownFrom_51 : decode cX11_knownFrom 51 = .ok (.ireturn, 1) := by decide +kernel
theorem dX11_knownFrom_14 : decode cX11_knownFrom 14 = .ok (.aload_n 0, 1) := by decide +kernel
theorem dX11_knownFrom_15 : decode cX11_knownFrom 15 = .ok (.getfield 28, 3) := by decide +kernel
theorem dX11_knownFrom_18 : decode cX11_knownFrom 18 = .ok (.iload_n 1, 1) := by decide +kernel
theorem dX11_knownFrom_19 : decode cX11_knownFrom 19 = .ok (.iload_n 2, 1) := by decide +kernel
theorem dX11_knownFrom_20 : decode cX11_knownFrom 20 = .ok (.iload_n 3, 1) := by decide +kernel
theorem dX11_knownFrom_21 : decode cX11_knownFrom 21 = .ok (.ifCond .ne 7, 3) := by decide +kernel
theorem dX11_knownFrom_28 : decode cX11_knownFrom 28 = .ok (.iconst 0, 1) := by decide +kernel
theorem dX11_knownFrom_29 : decode cX11_knownFrom 29 = .ok (.invokevirtual 250, 3) := by decide +kernel
theorem m_554 : Cond.methodLink RX11 250 yX7_toldHour ∈ BW := iB_BW29 _ (List.mem_of_getElem? (i := 18) rfl)
theorem si_X11_250 : SV RX11 RX7 250 yX7_toldHour cX7_toldHour 6 (some .int) 3 := ⟨⟨m_554, m_555, m_556, m_106, m_557⟩, rfl, nK_RX7.1, nK_RX7.2, pd_6⟩
theorem dX11_knownFrom_32 : decode cX11_knownFrom 32 = .ok (.ireturn, 1) := by decide +kernel
theorem dX11_knownFrom_24 : decode cX11_knownFrom 24 = .ok (.iconst 1, 1) := by decide +kernel
theorem dX11_knownFrom_25 : decode cX11_knownFrom 25 = .ok (.goto 4, 3) := by decide +kernel
theorem dX11_knew_0 : decode cX11_knew 0 = .ok (.aload_n 0, 1) := by decide +kernel
theorem dX11_knew_1 : decode cX11_knew 1 = .ok (.getfield 15, 3) := by decide +kernel
theorem dX11_knew_4 : decode cX11_knew 4 = .ok (.getfield 107, 3) := by decide +kernel
theorem dX11_knew_7 : decode cX11_knew 7 = .ok (.iload_n 1, 1) := by decide +kernel
theorem dX11_knew_8 : decode cX11_knew 8 = .ok (.invokevirtual 124, 3) := by decide +kernel
theorem dX11_knew_11 : decode cX11_knew 11 = .ok (.ifCond .eq 17, 3) := by decide +kernel
theorem dX11_knew_14 : decode cX11_knew 14 = .ok (.iload_n 2, 1) := by decide +kernel
theorem dX11_knew_15 : decode cX11_knew 15 = .ok (.invokestatic 213, 3) := by decide +kernel
theorem dX11_knew_18 : decode cX11_knew 18 = .ok (.ifCond .eq 10, 3) := by decide +kernel
theorem dX11_knew_21 : decode cX11_knew 21 = .ok (.iload_n 3, 1) := by decide +kernel
theorem dX11_knew_22 : decode cX11_knew 22 = .ok (.invokestatic 216, 3) := by decide +kernel
theorem dX11_knew_25 : decode cX11_knew 25 = .ok (.ifCond .ne 5, 3) := by decide +kernel
theorem dX11_knew_30 : decode cX11_knew 30 = .ok (.aload_n 0, 1) := by decide +kernel
theorem dX11_knew_31 : decode cX11_knew 31 = .ok (.iload_n 1, 1) := by decide +kernel
theorem dX11_knew_32 : decode cX11_knew 32 = .ok (.iload_n 2, 1) := by decide +kernel
theorem dX11_knew_33 : decode cX11_knew 33 = .ok (.iload_n 3, 1) := by decide +kernel
theorem dX11_knew_34 : decode cX11_knew 34 = .ok (.aload_n 0, 1) := by decide +kernel
theorem dX11_knew_35 : decode cX11_knew 35 = .ok (.getfield 15, 3) := by decide +kernel
theorem dX11_knew_38 : decode cX11_knew 38 = .ok (.invokevirtual 97, 3) := by decide +kernel
theorem dX11_knew_41 : decode cX11_knew 41 = .ok (.invokevirtual 219, 3) := by decide +kernel
theorem m_553 : Cond.code yX11_knownFrom cX11_knownFrom 5 (some .int) ∈ BW := iB_BW29 _ (List.mem_of_getElem? (i := 17) rfl)
theorem m_551 : Cond.methodLink RX11 219 yX11_knownFrom ∈ BW := iB_BW29 _ (List.mem_of_getElem? (i := 15) rfl)
theorem m_552 : Cond.instanceMethod yX11_knownFrom ∈ BW := iB_BW29 _ (List.mem_of_getElem? (i := 16) rfl)
theorem m_8 : Cond.selects RX11 yX11_knownFrom yX11_knownFrom ∈ BW := iB_BW0 _ (List.mem_of_getElem? (i := 8) rfl)
theorem si_X11_219 : SV RX11 RX11 219 yX11_knownFrom cX11_knownFrom 5 (some .int) 4 := ⟨⟨m_551, m_552, m_8, m_102, m_553⟩, rfl, nK_RX11.1, nK_RX11.2, pd_17⟩
theorem dX11_knew_44 : decode cX11_knew 44 = .ok (.istore 4, 2) := by decide +kernel
theorem dX11_knew_46 : decode cX11_knew 46 = .ok (.iload 4, 2) := by decide +kernel
theorem dX11_knew_48 : decode cX11_knew 48 = .ok (.ldc 223, 2) := by decide +kernel
theorem m_599 : Cond.constant RX11 223 (1000000) ∈ BW := iB_BW32 _ (List.mem_of_getElem? (i := 19) rfl)
theorem dX11_knew_50 : decode cX11_knew 50 = .ok (.if_icmp .ne 8, 3) := by decide +kernel
theorem dX11_knew_58 : decode cX11_knew 58 = .ok (.iload 4, 2) := by decide +kernel
theorem dX11_knew_60 : decode cX11_knew 60 = .ok (.sipush 1000, 3) := by decide +kernel
theorem dX11_knew_63 : decode cX11_knew 63 = .ok (.iadd, 1) := by decide +kernel
theorem dX11_knew_64 : decode cX11_knew 64 = .ok (.ireturn, 1) := by decide +kernel
theorem dX11_knew_53 : decode cX11_knew 53 = .ok (.bipush (-3), 2) := by decide +kernel
theorem dX11_knew_55 : decode cX11_knew 55 = .ok (.goto 9, 3) := by decide +kernel
theorem dX11_knew_28 : decode cX11_knew 28 = .ok (.iconst (-1), 1) := by decide +kernel
theorem dX11_knew_29 : decode cX11_knew 29 = .ok (.ireturn, 1) := by decide +kernel
theorem dX11_why_0 : decode cX11_why 0 = .ok (.aload_n 0, 1) := by decide +kernel
theorem dX11_why_1 : decode cX11_why 1 = .ok (.getfield 15, 3) := by decide +kernel
theorem dX11_why_4 : decode cX11_why 4 = .ok (.getfield 107, 3) := by decide +kernel
theorem dX11_why_7 : decode cX11_why 7 = .ok (.iload_n 1, 1) := by decide +kernel
theorem dX11_why_8 : decode cX11_why 8 = .ok (.invokevirtual 124, 3) := by decide +kernel
theorem dX11_why_11 : decode cX11_why 11 = .ok (.ifCond .eq 10, 3) := by decide +kernel
theorem dX11_why_14 : decode cX11_why 14 = .ok (.iload_n 2, 1) := by decide +kernel
theorem dX11_why_15 : decode cX11_why 15 = .ok (.invokestatic 213, 3) := by decide +kernel
theorem dX11_why_18 : decode cX11_why 18 = .ok (.ifCond .ne 5, 3) := by decide +kernel
theorem dX11_why_23 : decode cX11_why 23 = .ok (.aload_n 0, 1) := by decide +kernel
theorem dX11_why_24 : decode cX11_why 24 = .ok (.getfield 15, 3) := by decide +kernel
theorem dX11_why_27 : decode cX11_why 27 = .ok (.invokevirtual 97, 3) := by decide +kernel
theorem dX11_why_30 : decode cX11_why 30 = .ok (.istore_n 3, 1) := by decide +kernel
theorem dX11_why_31 : decode cX11_why 31 = .ok (.aload_n 0, 1) := by decide +kernel
theorem dX11_why_32 : decode cX11_why 32 = .ok (.getfield 28, 3) := by decide +kernel
theorem dX11_why_35 : decode cX11_why 35 = .ok (.iload_n 3, 1) := by decide +kernel
theorem dX11_why_36 : decode cX11_why 36 = .ok (.invokevirtual 183, 3) := by decide +kernel
theorem dX11_why_39 : decode cX11_why 39 = .ok (.aload_n 0, 1) := by decide +kernel
theorem dX11_why_40 : decode cX11_why 40 = .ok (.getfield 44, 3) := by decide +kernel
theorem dX11_why_43 : decode cX11_why 43 = .ok (.iload_n 1, 1) := by decide +kernel
theorem dX11_why_44 : decode cX11_why 44 = .ok (.iload_n 3, 1) := by decide +kernel
theorem dX11_why_45 : decode cX11_why 45 = .ok (.invokevirtual 243, 3) := by decide +kernel
theorem dX11_why_48 : decode cX11_why 48 = .ok (.aload_n 0, 1) := by decide +kernel
theorem dX11_why_49 : decode cX11_why 49 = .ok (.getfield 44, 3) := by decide +kernel
theorem dX11_why_52 : decode cX11_why 52 = .ok (.iload_n 2, 1) := by decide +kernel
theorem dX11_why_53 : decode cX11_why 53 = .ok (.invokevirtual 247, 3) := by decide +kernel
theorem dX11_why_56 : decode cX11_why 56 = .ok (.istore 4, 2) := by decide +kernel
theorem dX11_why_58 : decode cX11_why 58 = .ok (.iload 4, 2) := by decide +kernel
theorem dX11_why_60 : decode cX11_why 60 = .ok (.ldc 223, 2) := by decide +kernel
theorem dX11_why_62 : decode cX11_why 62 = .ok (.if_icmp .eq 18, 3) := by decide +kernel
theorem dX11_why_80 : decode cX11_why 80 = .ok (.bipush (-3), 2) := by decide +kernel
theorem dX11_why_82 : decode cX11_why 82 = .ok (.ireturn, 1) := by decide +kernel
theorem dX11_why_65 : decode cX11_why 65 = .ok (.iload 4, 2) := by decide +kernel
theorem dX11_why_67 : decode cX11_why 67 = .ok (.aload_n 0, 1) := by decide +kernel
theorem dX11_why_68 : decode cX11_why 68 = .ok (.getfield 28, 3) := by decide +kernel
theorem dX11_why_71 : decode cX11_why 71 = .ok (.iload_n 1, 1) := by decide +kernel
theorem dX11_why_72 : decode cX11_why 72 = .ok (.iload_n 2, 1) := by decide +kernel
theorem dX11_why_73 : decode cX11_why 73 = .ok (.iconst 1, 1) := by decide +kernel
theorem dX11_why_74 : decode cX11_why 74 = .ok (.invokevirtual 250, 3) := by decide +kernel
theorem dX11_why_77 : decode cX11_why 77 = .ok (.if_icmp .ne 6, 3) := by decide +kernel
theorem dX11_why_83 : decode cX11_why 83 = .ok (.aload_n 0, 1) := by decide +kernel
theorem dX11_why_84 : decode cX11_why 84 = .ok (.getfield 44, 3) := by decide +kernel
theorem dX11_why_87 : decode cX11_why 87 = .ok (.iload_n 2, 1) := by decide +kernel
theorem dX11_why_88 : decode cX11_why 88 = .ok (.invokevirtual 253, 3) := by decide +kernel
theorem m_750 : Cond.code yX6_firstLineFor cX6_firstLineFor 3 (some .int) ∈ BW := iB_BW40 _ (List.mem_of_getElem? (i := 10) rfl)
theorem m_747 : Cond.methodLink RX11 253 yX6_firstLineFor ∈ BW := iB_BW40 _ (List.mem_of_getElem? (i := 7) rfl)
theorem m_748 : Cond.instanceMethod yX6_firstLineFor ∈ BW := iB_BW40 _ (List.mem_of_getElem? (i := 8) rfl)
theorem m_749 : Cond.selects RX6 yX6_firstLineFor yX6_firstLineFor ∈ BW := iB_BW40 _ (List.mem_of_getElem? (i := 9) rfl)
theorem si_X11_253 : SV RX11 RX6 253 yX6_firstLineFor cX6_firstLineFor 3 (some .int) 1 := ⟨⟨m_747, m_748, m_749, m_109, m_750⟩, rfl, nK_RX6.1, nK_RX6.2, pd_7⟩
theorem dX11_why_91 : decode cX11_why 91 = .ok (.ireturn, 1) := by decide +kernel
theorem dX11_why_21 : decode cX11_why 21 = .ok (.iconst (-1), 1) := by decide +kernel
theorem dX11_why_22 : decode cX11_why 22 = .ok (.ireturn, 1) := by decide +kernel
theorem dX11_stands_0 : decode cX11_stands 0 = .ok (.aload_n 0, 1) := by decide +kernel
theorem dX11_stands_1 : decode cX11_stands 1 = .ok (.getfield 15, 3) := by decide +kernel
theorem dX11_stands_4 : decode cX11_stands 4 = .ok (.getfield 271, 3) := by decide +kernel
theorem dX11_stands_7 : decode cX11_stands 7 = .ok (.iload_n 1, 1) := by decide +kernel
theorem dX11_stands_8 : decode cX11_stands 8 = .ok (.iconst 0, 1) := by decide +kernel
theorem dX11_stands_9 : decode cX11_stands 9 = .ok (.invokevirtual 128, 3) := by decide +kernel
theorem dX11_stands_12 : decode cX11_stands 12 = .ok (.istore_n 3, 1) := by decide +kernel
theorem dX11_stands_13 : decode cX11_stands 13 = .ok (.aload_n 0, 1) := by decide +kernel
theorem dX11_stands_14 : decode cX11_stands 14 = .ok (.getfield 15, 3) := by decide +kernel
theorem dX11_stands_17 : decode cX11_stands 17 = .ok (.getfield 271, 3) := by decide +kernel
theorem dX11_stands_20 : decode cX11_stands 20 = .ok (.iload_n 1, 1) := by decide +kernel
theorem dX11_stands_21 : decode cX11_stands 21 = .ok (.iconst 1, 1) := by decide +kernel
theorem dX11_stands_22 : decode cX11_stands 22 = .ok (.invokevirtual 128, 3) := by decide +kernel
theorem dX11_stands_25 : decode cX11_stands 25 = .ok (.istore 4, 2) := by decide +kernel
theorem dX11_stands_27 : decode cX11_stands 27 = .ok (.aload_n 0, 1) := by decide +kernel
theorem dX11_stands_28 : decode cX11_stands 28 = .ok (.getfield 15, 3) := by decide +kernel
theorem dX11_stands_31 : decode cX11_stands 31 = .ok (.getfield 271, 3) := by decide +kernel
theorem dX11_stands_34 : decode cX11_stands 34 = .ok (.iload_n 1, 1) := by decide +kernel
theorem dX11_stands_35 : decode cX11_stands 35 = .ok (.iconst 3, 1) := by decide +kernel
theorem dX11_stands_36 : decode cX11_stands 36 = .ok (.invokevirtual 128, 3) := by decide +kernel
theorem dX11_stands_39 : decode cX11_stands 39 = .ok (.istore 5, 2) := by decide +kernel
theorem dX11_stands_41 : decode cX11_stands 41 = .ok (.aload_n 0, 1) := by decide +kernel
theorem dX11_stands_42 : decode cX11_stands 42 = .ok (.getfield 15, 3) := by decide +kernel
theorem dX11_stands_45 : decode cX11_stands 45 = .ok (.getfield 271, 3) := by decide +kernel
theorem dX11_stands_48 : decode cX11_stands 48 = .ok (.iload_n 1, 1) := by decide +kernel
theorem dX11_stands_49 : decode cX11_stands 49 = .ok (.iconst 2, 1) := by decide +kernel
theorem dX11_stands_50 : decode cX11_stands 50 = .ok (.invokevirtual 128, 3) := by decide +kernel
theorem dX11_stands_53 : decode cX11_stands 53 = .ok (.aload_n 0, 1) := by decide +kernel
theorem dX11_stands_54 : decode cX11_stands 54 = .ok (.iload_n 3, 1) := by decide +kernel
theorem dX11_stands_55 : decode cX11_stands 55 = .ok (.iload 4, 2) := by decide +kernel
theorem dX11_stands_57 : decode cX11_stands 57 = .ok (.iload 5, 2) := by decide +kernel
theorem dX11_stands_59 : decode cX11_stands 59 = .ok (.iload_n 2, 1) := by decide +kernel
theorem dX11_stands_60 : decode cX11_stands 60 = .ok (.invokevirtual 219, 3) := by decide +kernel
theorem dX11_stands_63 : decode cX11_stands 63 = .ok (.if_icmp .lt 7, 3) := by decide +kernel
theorem dX11_stands_70 : decode cX11_stands 70 = .ok (.iconst 0, 1) := by decide +kernel
theorem dX11_stands_71 : decode cX11_stands 71 = .ok (.ireturn, 1) := by decide +kernel
theorem dX11_stands_66 : decode cX11_stands 66 = .ok (.iconst 1, 1) := by decide +kernel
theorem dX11_stands_67 : decode cX11_stands 67 = .ok (.goto 4, 3) := by decide +kernel
theorem dX11_leansOn_0 : decode cX11_leansOn 0 = .ok (.aload_n 0, 1) := by decide +kernel
theorem dX11_leansOn_1 : decode cX11_leansOn 1 = .ok (.iload_n 1, 1) := by decide +kernel
theorem dX11_leansOn_2 : decode cX11_leansOn 2 = .ok (.iload_n 2, 1) := by decide +kernel
theorem dX11_leansOn_3 : decode cX11_leansOn 3 = .ok (.invokevirtual 274, 3) := by decide +kernel
theorem m_803 : Cond.code yX11_stands cX11_stands 6 (some .boolean) ∈ BW := iB_BW43 _ (List.mem_of_getElem? (i := 12) rfl)
theorem m_801 : Cond.methodLink RX11 274 yX11_stands ∈ BW := iB_BW43 _ (List.mem_of_getElem? (i := 10) rfl)
theorem m_802 : Cond.instanceMethod yX11_stands ∈ BW := iB_BW43 _ (List.mem_of_getElem? (i := 11) rfl)
theorem m_35 : Cond.selects RX11 yX11_stands yX11_stands ∈ BW := iB_BW1 _ (List.mem_of_getElem? (i := 15) rfl)
theorem si_X11_274 : SV RX11 RX11 274 yX11_stands cX11_stands 6 (some .boolean) 2 := ⟨⟨m_801, m_802, m_35, m_102, m_803⟩, rfl, nK_RX11.1, nK_RX11.2, pd_3⟩
theorem dX11_leansOn_6 : decode cX11_leansOn 6 = .ok (.ifCond .ne 5, 3) := by decide +kernel
theorem dX11_leansOn_11 : decode cX11_leansOn 11 = .ok (.iconst 0, 1) := by decide +kernel
theorem dX11_leansOn_12 : decode cX11_leansOn 12 = .ok (.istore_n 3, 1) := by decide +kernel
theorem dX11_leansOn_13 : decode cX11_leansOn 13 = .ok (.iconst 0, 1) := by decide +kernel
theorem dX11_leansOn_14 : decode cX11_leansOn 14 = .ok (.istore 4, 2) := by decide +kernel
theorem dX11_leansOn_16 : decode cX11_leansOn 16 = .ok (.iload 4, 2) := by decide +kernel
theorem dX11_leansOn_18 : decode cX11_leansOn 18 = .ok (.aload_n 0, 1) := by decide +kernel
theorem dX11_leansOn_19 : decode cX11_leansOn 19 = .ok (.getfield 15, 3) := by decide +kernel
theorem dX11_leansOn_22 : decode cX11_leansOn 22 = .ok (.getfield 144, 3) := by decide +kernel
theorem dX11_leansOn_25 : decode cX11_leansOn 25 = .ok (.invokevirtual 174, 3) := by decide +kernel
theorem m_424 : Cond.methodLink RX11 174 yX8_count ∈ BW := iB_BW23 _ (List.mem_of_getElem? (i := 8) rfl)
theorem si_X11_174 : SV RX11 RX8 174 yX8_count cX8_count 1 (some .int) 0 := ⟨⟨m_424, m_308, m_309, m_104, m_310⟩, rfl, nK_RX8.1, nK_RX8.2, pd_1⟩
theorem dX11_leansOn_28 : decode cX11_leansOn 28 = .ok (.if_icmp .ge 41, 3) := by decide +kernel
theorem dX11_leansOn_69 : decode cX11_leansOn 69 = .ok (.iload_n 3, 1) := by decide +kernel
theorem dX11_leansOn_70 : decode cX11_leansOn 70 = .ok (.ireturn, 1) := by decide +kernel
theorem dX11_leansOn_31 : decode cX11_leansOn 31 = .ok (.iload_n 2, 1) := by decide +kernel
theorem dX11_leansOn_32 : decode cX11_leansOn 32 = .ok (.iload 4, 2) := by decide +kernel
theorem dX11_leansOn_34 : decode cX11_leansOn 34 = .ok (.invokestatic 150, 3) := by decide +kernel
theorem dX11_leansOn_37 : decode cX11_leansOn 37 = .ok (.ifCond .eq 26, 3) := by decide +kernel
theorem dX11_leansOn_40 : decode cX11_leansOn 40 = .ok (.aload_n 0, 1) := by decide +kernel
theorem dX11_leansOn_41 : decode cX11_leansOn 41 = .ok (.iload_n 1, 1) := by decide +kernel
theorem dX11_leansOn_42 : decode cX11_leansOn 42 = .ok (.iload_n 2, 1) := by decide +kernel
theorem dX11_leansOn_43 : decode cX11_leansOn 43 = .ok (.iconst 1, 1) := by decide +kernel
theorem dX11_leansOn_44 : decode cX11_leansOn 44 = .ok (.iload 4, 2) := by decide +kernel
theorem dX11_leansOn_46 : decode cX11_leansOn 46 = .ok (.ishl, 1) := by decide +kernel
theorem dX11_leansOn_47 : decode cX11_leansOn 47 = .ok (.iconst (-1), 1) := by decide +kernel
theorem dX11_leansOn_48 : decode cX11_leansOn 48 = .ok (.ixor, 1) := by decide +kernel
theorem dX11_leansOn_49 : decode cX11_leansOn 49 = .ok (.iand, 1) := by decide +kernel
theorem dX11_leansOn_50 : decode cX11_leansOn 50 = .ok (.invokevirtual 274, 3) := by decide +kernel
theorem dX11_leansOn_53 : decode cX11_leansOn 53 = .ok (.ifCond .ne 10, 3) := by decide +kernel
theorem dX11_leansOn_63 : decode cX11_leansOn 63 = .ok (.iinc 4 1, 3) := by decide +kernel
theorem dX11_leansOn_66 : decode cX11_leansOn 66 = .ok (.goto (-50), 3) := by decide +kernel
theorem dX11_leansOn_56 : decode cX11_leansOn 56 = .ok (.iload_n 3, 1) := by decide +kernel
theorem dX11_leansOn_57 : decode cX11_leansOn 57 = .ok (.iconst 1, 1) := by decide +kernel
theorem dX11_leansOn_58 : decode cX11_leansOn 58 = .ok (.iload 4, 2) := by decide +kernel
theorem dX11_leansOn_60 : decode cX11_leansOn 60 = .ok (.ishl, 1) := by decide +kernel
theorem dX11_leansOn_61 : decode cX11_leansOn 61 = .ok (.ior, 1) := by decide +kernel
theorem dX11_leansOn_62 : decode cX11_leansOn 62 = .ok (.istore_n 3, 1) := by decide +kernel
theorem dX11_leansOn_9 : decode cX11_leansOn 9 = .ok (.iconst 0, 1) := by decide +kernel
theorem dX11_leansOn_10 : decode cX11_leansOn 10 = .ok (.ireturn, 1) := by decide +kernel
theorem dX11_countStanding_0 : decode cX11_countStanding 0 = .ok (.iconst 0, 1) := by decide +kernel
theorem dX11_countStanding_1 : decode cX11_countStanding 1 = .ok (.istore_n 2, 1) := by decide +kernel
theorem dX11_countStanding_2 : decode cX11_countStanding 2 = .ok (.iconst 0, 1) := by decide +kernel
theorem dX11_countStanding_3 : decode cX11_countStanding 3 = .ok (.istore_n 3, 1) := by decide +kernel
theorem dX11_countStanding_4 : decode cX11_countStanding 4 = .ok (.iload_n 3, 1) := by decide +kernel
theorem dX11_countStanding_5 : decode cX11_countStanding 5 = .ok (.aload_n 0, 1) := by decide +kernel
theorem dX11_countStanding_6 : decode cX11_countStanding 6 = .ok (.getfield 15, 3) := by decide +kernel
theorem dX11_countStanding_9 : decode cX11_countStanding 9 = .ok (.getfield 271, 3) := by decide +kernel
theorem dX11_countStanding_12 : decode cX11_countStanding 12 = .ok (.invokevirtual 174, 3) := by decide +kernel
theorem dX11_countStanding_15 : decode cX11_countStanding 15 = .ok (.if_icmp .ge 21, 3) := by decide +kernel
theorem dX11_countStanding_36 : decode cX11_countStanding 36 = .ok (.iload_n 2, 1) := by decide +kernel
theorem dX11_countStanding_37 : decode cX11_countStanding 37 = .ok (.ireturn, 1) := by decide +kernel
theorem dX11_countStanding_18 : decode cX11_countStanding 18 = .ok (.aload_n 0, 1) := by decide +kernel
theorem dX11_countStanding_19 : decode cX11_countStanding 19 = .ok (.iload_n 3, 1) := by decide +kernel
theorem dX11_countStanding_20 : decode cX11_countStanding 20 = .ok (.iload_n 1, 1) := by decide +kernel
theorem dX11_countStanding_21 : decode cX11_countStanding 21 = .ok (.invokevirtual 274, 3) := by decide +kernel
theorem dX11_countStanding_24 : decode cX11_countStanding 24 = .ok (.ifCond .eq 6, 3) := by decide +kernel
theorem dX11_countStanding_27 : decode cX11_countStanding 27 = .ok (.iinc 2 1, 3) := by decide +kernel
theorem dX11_countStanding_30 : decode cX11_countStanding 30 = .ok (.iinc 3 1, 3) := by decide +kernel
theorem dX11_countStanding_33 : decode cX11_countStanding 33 = .ok (.goto (-29), 3) := by decide +kernel
theorem dX11_isBarred_0 : decode cX11_isBarred 0 = .ok (.aload_n 0, 1) := by decide +kernel
theorem dX11_isBarred_1 : decode cX11_isBarred 1 = .ok (.getfield 15, 3) := by decide +kernel
theorem dX11_isBarred_4 : decode cX11_isBarred 4 = .ok (.getfield 271, 3) := by decide +kernel
theorem dX11_isBarred_7 : decode cX11_isBarred 7 = .ok (.iload_n 1, 1) := by decide +kernel
theorem dX11_isBarred_8 : decode cX11_isBarred 8 = .ok (.iconst 0, 1) := by decide +kernel
theorem dX11_isBarred_9 : decode cX11_isBarred 9 = .ok (.invokevirtual 128, 3) := by decide +kernel
theorem dX11_isBarred_12 : decode cX11_isBarred 12 = .ok (.istore 4, 2) := by decide +kernel
theorem dX11_isBarred_14 : decode cX11_isBarred 14 = .ok (.aload_n 0, 1) := by decide +kernel
theorem dX11_isBarred_15 : decode cX11_isBarred 15 = .ok (.getfield 44, 3) := by decide +kernel
theorem dX11_isBarred_18 : decode cX11_isBarred 18 = .ok (.iload 4, 2) := by decide +kernel
theorem dX11_isBarred_20 : decode cX11_isBarred 20 = .ok (.iload_n 2, 1) := by decide +kernel
theorem dX11_isBarred_21 : decode cX11_isBarred 21 = .ok (.invokevirtual 364, 3) := by decide +kernel
theorem m_810 : Cond.methodLink RX11 364 yX6_consider ∈ BW := iB_BW43 _ (List.mem_of_getElem? (i := 19) rfl)
theorem si_X11_364 : SV RX11 RX6 364 yX6_consider cX6_consider 5 none 2 := ⟨⟨m_810, m_567, m_568, m_109, m_569⟩, rfl, nK_RX6.1, nK_RX6.2, pd_14⟩
theorem dX11_isBarred_24 : decode cX11_isBarred 24 = .ok (.aload_n 0, 1) := by decide +kernel
theorem dX11_isBarred_25 : decode cX11_isBarred 25 = .ok (.getfield 15, 3) := by decide +kernel
theorem dX11_isBarred_28 : decode cX11_isBarred 28 = .ok (.iload 4, 2) := by decide +kernel
theorem dX11_isBarred_30 : decode cX11_isBarred 30 = .ok (.iload_n 2, 1) := by decide +kernel
theorem dX11_isBarred_31 : decode cX11_isBarred 31 = .ok (.invokevirtual 138, 3) := by decide +kernel
theorem dX11_isBarred_34 : decode cX11_isBarred 34 = .ok (.aload_n 0, 1) := by decide +kernel
theorem dX11_isBarred_35 : decode cX11_isBarred 35 = .ok (.getfield 44, 3) := by decide +kernel
theorem dX11_isBarred_38 : decode cX11_isBarred 38 = .ok (.invokevirtual 367, 3) := by decide +kernel
theorem m_814 : Cond.code yX6_leastHeard cX6_leastHeard 3 (some .int) ∈ BW := iB_BW44 _ (List.mem_of_getElem? (i := 3) rfl)
theorem m_811 : Cond.methodLink RX11 367 yX6_leastHeard ∈ BW := iB_BW44 _ (List.mem_of_getElem? (i := 0) rfl)
theorem m_812 : Cond.instanceMethod yX6_leastHeard ∈ BW := iB_BW44 _ (List.mem_of_getElem? (i := 1) rfl)
theorem m_813 : Cond.selects RX6 yX6_leastHeard yX6_leastHeard ∈ BW := iB_BW44 _ (List.mem_of_getElem? (i := 2) rfl)
theorem si_X11_367 : SV RX11 RX6 367 yX6_leastHeard cX6_leastHeard 3 (some .int) 0 := ⟨⟨m_811, m_812, m_813, m_109, m_814⟩, rfl, nK_RX6.1, nK_RX6.2, pd_1⟩
theorem dX11_isBarred_41 : decode cX11_isBarred 41 = .ok (.if_icmp .ge 5, 3) := by decide +kernel
theorem dX11_isBarred_46 : decode cX11_isBarred 46 = .ok (.aload_n 0, 1) := by decide +kernel
theorem dX11_isBarred_47 : decode cX11_isBarred 47 = .ok (.getfield 15, 3) := by decide +kernel
theorem dX11_isBarred_50 : decode cX11_isBarred 50 = .ok (.invokevirtual 370, 3) := by decide +kernel
theorem m_815 : Cond.methodLink RX11 370 yX0_viewedDay ∈ BW := iB_BW44 _ (List.mem_of_getElem? (i := 4) rfl)
theorem si_X11_370 : SV RX11 RX0 370 yX0_viewedDay cX0_viewedDay 1 (some .int) 0 := ⟨⟨m_815, m_304, m_305, m_103, m_306⟩, rfl, nK_RX0.1, nK_RX0.2, pd_1⟩
theorem dX11_isBarred_53 : decode cX11_isBarred 53 = .ok (.aload_n 0, 1) := by decide +kernel
theorem dX11_isBarred_54 : decode cX11_isBarred 54 = .ok (.getfield 44, 3) := by decide +kernel
theorem dX11_isBarred_57 : decode cX11_isBarred 57 = .ok (.invokevirtual 373, 3) := by decide +kernel
theorem m_819 : Cond.code yX6_warnDays cX6_warnDays 3 (some .int) ∈ BW := iB_BW44 _ (List.mem_of_getElem? (i := 8) rfl)
theorem m_816 : Cond.methodLink RX11 373 yX6_warnDays ∈ BW := iB_BW44 _ (List.mem_of_getElem? (i := 5) rfl)
theorem m_817 : Cond.instanceMethod yX6_warnDays ∈ BW := iB_BW44 _ (List.mem_of_getElem? (i := 6) rfl)
theorem m_818 : Cond.selects RX6 yX6_warnDays yX6_warnDays ∈ BW := iB_BW44 _ (List.mem_of_getElem? (i := 7) rfl)
theorem si_X11_373 : SV RX11 RX6 373 yX6_warnDays cX6_warnDays 3 (some .int) 0 := ⟨⟨m_816, m_817, m_818, m_109, m_819⟩, rfl, nK_RX6.1, nK_RX6.2, pd_1⟩
theorem dX11_isBarred_60 : decode cX11_isBarred 60 = .ok (.isub, 1) := by decide +kernel
theorem dX11_isBarred_61 : decode cX11_isBarred 61 = .ok (.istore 5, 2) := by decide +kernel
theorem dX11_isBarred_63 : decode cX11_isBarred 63 = .ok (.iconst 0, 1) := by decide +kernel
theorem dX11_isBarred_64 : decode cX11_isBarred 64 = .ok (.istore 6, 2) := by decide +kernel
theorem dX11_isBarred_66 : decode cX11_isBarred 66 = .ok (.iload 6, 2) := by decide +kernel
theorem dX11_isBarred_68 : decode cX11_isBarred 68 = .ok (.aload_n 0, 1) := by decide +kernel
theorem dX11_isBarred_69 : decode cX11_isBarred 69 = .ok (.getfield 15, 3) := by decide +kernel
theorem dX11_isBarred_72 : decode cX11_isBarred 72 = .ok (.getfield 144, 3) := by decide +kernel
theorem dX11_isBarred_75 : decode cX11_isBarred 75 = .ok (.invokevirtual 174, 3) := by decide +kernel
theorem dX11_isBarred_78 : decode cX11_isBarred 78 = .ok (.if_icmp .ge 36, 3) := by decide +kernel
theorem dX11_isBarred_114 : decode cX11_isBarred 114 = .ok (.iconst 0, 1) := by decide +kernel
theorem dX11_isBarred_115 : decode cX11_isBarred 115 = .ok (.ireturn, 1) := by decide +kernel
theorem dX11_isBarred_81 : decode cX11_isBarred 81 = .ok (.iload_n 3, 1) := by decide +kernel
theorem dX11_isBarred_82 : decode cX11_isBarred 82 = .ok (.iload 6, 2) := by decide +kernel
theorem dX11_isBarred_84 : decode cX11_isBarred 84 = .ok (.invokestatic 150, 3) := by decide +kernel
theorem dX11_isBarred_87 : decode cX11_isBarred 87 = .ok (.ifCond .eq 21, 3) := by decide +kernel
theorem dX11_isBarred_90 : decode cX11_isBarred 90 = .ok (.aload_n 0, 1) := by decide +kernel
theorem dX11_isBarred_91 : decode cX11_isBarred 91 = .ok (.getfield 15, 3) := by decide +kernel
theorem dX11_isBarred_94 : decode cX11_isBarred 94 = .ok (.iload 4, 2) := by decide +kernel
theorem dX11_isBarred_96 : decode cX11_isBarred 96 = .ok (.iload 6, 2) := by decide +kernel
theorem dX11_isBarred_98 : decode cX11_isBarred 98 = .ok (.iload 5, 2) := by decide +kernel
theorem dX11_isBarred_100 : decode cX11_isBarred 100 = .ok (.invokevirtual 376, 3) := by decide +kernel
theorem m_823 : Cond.code yX0_isWarned cX0_isWarned 5 (some .boolean) ∈ BW := iB_BW44 _ (List.mem_of_getElem? (i := 12) rfl)
theorem m_820 : Cond.methodLink RX11 376 yX0_isWarned ∈ BW := iB_BW44 _ (List.mem_of_getElem? (i := 9) rfl)
theorem m_821 : Cond.instanceMethod yX0_isWarned ∈ BW := iB_BW44 _ (List.mem_of_getElem? (i := 10) rfl)
theorem m_822 : Cond.selects RX0 yX0_isWarned yX0_isWarned ∈ BW := iB_BW44 _ (List.mem_of_getElem? (i := 11) rfl)
theorem si_X11_376 : SV RX11 RX0 376 yX0_isWarned cX0_isWarned 5 (some .boolean) 3 := ⟨⟨m_820, m_821, m_822, m_103, m_823⟩, rfl, nK_RX0.1, nK_RX0.2, pd_0⟩
theorem dX11_isBarred_103 : decode cX11_isBarred 103 = .ok (.ifCond .ne 5, 3) := by decide +kernel
theorem dX11_isBarred_108 : decode cX11_isBarred 108 = .ok (.iinc 6 1, 3) := by decide +kernel
theorem dX11_isBarred_111 : decode cX11_isBarred 111 = .ok (.goto (-45), 3) := by decide +kernel
theorem dX11_isBarred_106 : decode cX11_isBarred 106 = .ok (.iconst 1, 1) := by decide +kernel
theorem dX11_isBarred_107 : decode cX11_isBarred 107 = .ok (.ireturn, 1) := by decide +kernel
theorem dX11_isBarred_44 : decode cX11_isBarred 44 = .ok (.iconst 1, 1) := by decide +kernel
theorem dX11_isBarred_45 : decode cX11_isBarred 45 = .ok (.ireturn, 1) := by decide +kernel
theorem dX11_findingOf_0 : decode cX11_findingOf 0 = .ok (.aload_n 0, 1) := by decide +kernel
theorem dX11_findingOf_1 : decode cX11_findingOf 1 = .ok (.getfield 15, 3) := by decide +kernel
theorem dX11_findingOf_4 : decode cX11_findingOf 4 = .ok (.getfield 271, 3) := by decide +kernel
theorem dX11_findingOf_7 : decode cX11_findingOf 7 = .ok (.iload_n 1, 1) := by decide +kernel
theorem dX11_findingOf_8 : decode cX11_findingOf 8 = .ok (.invokevirtual 124, 3) := by decide +kernel
theorem dX11_findingOf_11 : decode cX11_findingOf 11 = .ok (.ifCond .ne 5, 3) := by decide +kernel
theorem dX11_findingOf_16 : decode cX11_findingOf 16 = .ok (.aload_n 0, 1) := by decide +kernel
theorem dX11_findingOf_17 : decode cX11_findingOf 17 = .ok (.getfield 15, 3) := by decide +kernel
theorem dX11_findingOf_20 : decode cX11_findingOf 20 = .ok (.invokevirtual 97, 3) := by decide +kernel
theorem dX11_findingOf_23 : decode cX11_findingOf 23 = .ok (.istore_n 3, 1) := by decide +kernel
theorem dX11_findingOf_24 : decode cX11_findingOf 24 = .ok (.iload_n 2, 1) := by decide +kernel
theorem dX11_findingOf_25 : decode cX11_findingOf 25 = .ok (.tableswitch 138 0 6 #[43, 56, 69, 82, 95, 110, 117], 43) := by decide +kernel
theorem dX11_findingOf_68 : decode cX11_findingOf 68 = .ok (.aload_n 0, 1) := by decide +kernel
theorem dX11_findingOf_69 : decode cX11_findingOf 69 = .ok (.getfield 15, 3) := by decide +kernel
theorem dX11_findingOf_72 : decode cX11_findingOf 72 = .ok (.getfield 271, 3) := by decide +kernel
theorem dX11_findingOf_75 : decode cX11_findingOf 75 = .ok (.iload_n 1, 1) := by decide +kernel
theorem dX11_findingOf_76 : decode cX11_findingOf 76 = .ok (.iconst 0, 1) := by decide +kernel
theorem dX11_findingOf_77 : decode cX11_findingOf 77 = .ok (.invokevirtual 128, 3) := by decide +kernel
theorem dX11_findingOf_80 : decode cX11_findingOf 80 = .ok (.ireturn, 1) := by decide +kernel
theorem dX11_findingOf_81 : decode cX11_findingOf 81 = .ok (.aload_n 0, 1) := by decide +kernel
theorem dX11_findingOf_82 : decode cX11_findingOf 82 = .ok (.getfield 15, 3) := by decide +kernel
theorem dX11_findingOf_85 : decode cX11_findingOf 85 = .ok (.getfield 271, 3) := by decide +kernel
theorem dX11_findingOf_88 : decode cX11_findingOf 88 = .ok (.iload_n 1, 1) := by decide +kernel
theorem dX11_findingOf_89 : decode cX11_findingOf 89 = .ok (.iconst 1, 1) := by decide +kernel
theorem dX11_findingOf_90 : decode cX11_findingOf 90 = .ok (.invokevirtual 128, 3) := by decide +kernel
theorem dX11_findingOf_93 : decode cX11_findingOf 93 = .ok (.ireturn, 1) := by decide +kernel
theorem dX11_findingOf_94 : decode cX11_findingOf 94 = .ok (.aload_n 0, 1) := by decide +kernel
theorem dX11_findingOf_95 : decode cX11_findingOf 95 = .ok (.getfield 15, 3) := by decide +kernel
theorem dX11_findingOf_98 : decode cX11_findingOf 98 = .ok (.getfield 271, 3) := by decide +kernel
theorem dX11_findingOf_101 : decode cX11_findingOf 101 = .ok (.iload_n 1, 1) := by decide +kernel
theorem dX11_findingOf_102 : decode cX11_findingOf 102 = .ok (.iconst 2, 1) := by decide +kernel
theorem dX11_findingOf_103 : decode cX11_findingOf 103 = .ok (.invokevirtual 128, 3) := by decide +kernel
theorem dX11_findingOf_106 : decode cX11_findingOf 106 = .ok (.ireturn, 1) := by decide +kernel
theorem dX11_findingOf_107 : decode cX11_findingOf 107 = .ok (.aload_n 0, 1) := by decide +kernel
theorem dX11_findingOf_108 : decode cX11_findingOf 108 = .ok (.getfield 15, 3) := by decide +kernel
theorem dX11_findingOf_111 : decode cX11_findingOf 111 = .ok (.getfield 271, 3) := by decide +kernel
theorem dX11_findingOf_114 : decode cX11_findingOf 114 = .ok (.iload_n 1, 1) := by decide +kernel
theorem dX11_findingOf_115 : decode cX11_findingOf 115 = .ok (.iconst 3, 1) := by decide +kernel
theorem dX11_findingOf_116 : decode cX11_findingOf 116 = .ok (.invokevirtual 128, 3) := by decide +kernel
theorem dX11_findingOf_119 : decode cX11_findingOf 119 = .ok (.ireturn, 1) := by decide +kernel
theorem dX11_findingOf_120 : decode cX11_findingOf 120 = .ok (.aload_n 0, 1) := by decide +kernel
theorem dX11_findingOf_121 : decode cX11_findingOf 121 = .ok (.iload_n 1, 1) := by decide +kernel
theorem dX11_findingOf_122 : decode cX11_findingOf 122 = .ok (.iload_n 3, 1) := by decide +kernel
theorem dX11_findingOf_123 : decode cX11_findingOf 123 = .ok (.invokevirtual 274, 3) := by decide +kernel
theorem dX11_findingOf_126 : decode cX11_findingOf 126 = .ok (.ifCond .eq 7, 3) := by decide +kernel
theorem dX11_findingOf_129 : decode cX11_findingOf 129 = .ok (.iconst 1, 1) := by decide +kernel
theorem dX11_findingOf_130 : decode cX11_findingOf 130 = .ok (.goto 4, 3) := by decide +kernel
theorem dX11_findingOf_134 : decode cX11_findingOf 134 = .ok (.ireturn, 1) := by decide +kernel
theorem dX11_findingOf_133 : decode cX11_findingOf 133 = .ok (.iconst 0, 1) := by decide +kernel
theorem dX11_findingOf_135 : decode cX11_findingOf 135 = .ok (.aload_n 0, 1) := by decide +kernel
theorem dX11_findingOf_136 : decode cX11_findingOf 136 = .ok (.iload_n 1, 1) := by decide +kernel
theorem dX11_findingOf_137 : decode cX11_findingOf 137 = .ok (.iload_n 3, 1) := by decide +kernel
theorem dX11_findingOf_138 : decode cX11_findingOf 138 = .ok (.invokevirtual 277, 3) := by decide +kernel
theorem m_806 : Cond.code yX11_leansOn cX11_leansOn 5 (some .int) ∈ BW := iB_BW43 _ (List.mem_of_getElem? (i := 15) rfl)
theorem m_804 : Cond.methodLink RX11 277 yX11_leansOn ∈ BW := iB_BW43 _ (List.mem_of_getElem? (i := 13) rfl)
theorem m_805 : Cond.instanceMethod yX11_leansOn ∈ BW := iB_BW43 _ (List.mem_of_getElem? (i := 14) rfl)
theorem m_36 : Cond.selects RX11 yX11_leansOn yX11_leansOn ∈ BW := iB_BW1 _ (List.mem_of_getElem? (i := 16) rfl)
theorem si_X11_277 : SV RX11 RX11 277 yX11_leansOn cX11_leansOn 5 (some .int) 2 := ⟨⟨m_804, m_805, m_36, m_102, m_806⟩, rfl, nK_RX11.1, nK_RX11.2, pd_2⟩
theorem dX11_findingOf_141 : decode cX11_findingOf 141 = .ok (.ireturn, 1) := by decide +kernel
theorem dX11_findingOf_142 : decode cX11_findingOf 142 = .ok (.aload_n 0, 1) := by decide +kernel
theorem dX11_findingOf_143 : decode cX11_findingOf 143 = .ok (.iload_n 1, 1) := by decide +kernel
theorem dX11_findingOf_144 : decode cX11_findingOf 144 = .ok (.iload_n 3, 1) := by decide +kernel
theorem dX11_findingOf_145 : decode cX11_findingOf 145 = .ok (.aload_n 0, 1) := by decide +kernel
theorem dX11_findingOf_146 : decode cX11_findingOf 146 = .ok (.iload_n 1, 1) := by decide +kernel
theorem dX11_findingOf_147 : decode cX11_findingOf 147 = .ok (.iload_n 3, 1) := by decide +kernel
theorem dX11_findingOf_148 : decode cX11_findingOf 148 = .ok (.invokevirtual 277, 3) := by decide +kernel
theorem dX11_findingOf_151 : decode cX11_findingOf 151 = .ok (.invokevirtual 280, 3) := by decide +kernel
theorem m_809 : Cond.code yX11_isBarred cX11_isBarred 7 (some .boolean) ∈ BW := iB_BW43 _ (List.mem_of_getElem? (i := 18) rfl)
theorem m_807 : Cond.methodLink RX11 280 yX11_isBarred ∈ BW := iB_BW43 _ (List.mem_of_getElem? (i := 16) rfl)
theorem m_808 : Cond.instanceMethod yX11_isBarred ∈ BW := iB_BW43 _ (List.mem_of_getElem? (i := 17) rfl)
theorem m_37 : Cond.selects RX11 yX11_isBarred yX11_isBarred ∈ BW := iB_BW1 _ (List.mem_of_getElem? (i := 17) rfl)
theorem si_X11_280 : SV RX11 RX11 280 yX11_isBarred cX11_isBarred 7 (some .boolean) 3 := ⟨⟨m_807, m_808, m_37, m_102, m_809⟩, rfl, nK_RX11.1, nK_RX11.2, pd_0⟩
theorem dX11_findingOf_154 : decode cX11_findingOf 154 = .ok (.ifCond .eq 7, 3) := by decide +kernel
theorem dX11_findingOf_157 : decode cX11_findingOf 157 = .ok (.iconst 1, 1) := by decide +kernel
theorem dX11_findingOf_158 : decode cX11_findingOf 158 = .ok (.goto 4, 3) := by decide +kernel
theorem dX11_findingOf_162 : decode cX11_findingOf 162 = .ok (.ireturn, 1) := by decide +kernel
theorem dX11_findingOf_161 : decode cX11_findingOf 161 = .ok (.iconst 0, 1) := by decide +kernel
theorem dX11_findingOf_163 : decode cX11_findingOf 163 = .ok (.iconst (-1), 1) := by decide +kernel
theorem dX11_findingOf_164 : decode cX11_findingOf 164 = .ok (.ireturn, 1) := by decide +kernel
theorem dX11_findingOf_14 : decode cX11_findingOf 14 = .ok (.iconst (-1), 1) := by decide +kernel
theorem dX11_findingOf_15 : decode cX11_findingOf 15 = .ok (.ireturn, 1) := by decide +kernel
theorem dX9_leastWeight_0 : decode cX9_leastWeight 0 = .ok (.aload_n 0, 1) := by decide +kernel
theorem dX9_leastWeight_1 : decode cX9_leastWeight 1 = .ok (.getfield 26, 3) := by decide +kernel
theorem dX9_leastWeight_4 : decode cX9_leastWeight 4 = .ok (.ireturn, 1) := by decide +kernel
theorem dX9_believedHour_0 : decode cX9_believedHour 0 = .ok (.aload_n 0, 1) := by decide +kernel
theorem dX9_believedHour_1 : decode cX9_believedHour 1 = .ok (.getfield 29, 3) := by decide +kernel
theorem dX9_believedHour_4 : decode cX9_believedHour 4 = .ok (.ireturn, 1) := by decide +kernel
theorem dX11_quarrel_0 : decode cX11_quarrel 0 = .ok (.aload_n 0, 1) := by decide +kernel
theorem dX11_quarrel_1 : decode cX11_quarrel 1 = .ok (.getfield 15, 3) := by decide +kernel
theorem dX11_quarrel_4 : decode cX11_quarrel 4 = .ok (.getfield 107, 3) := by decide +kernel
theorem dX11_quarrel_7 : decode cX11_quarrel 7 = .ok (.iload_n 1, 1) := by decide +kernel
theorem dX11_quarrel_8 : decode cX11_quarrel 8 = .ok (.invokevirtual 124, 3) := by decide +kernel
theorem dX11_quarrel_11 : decode cX11_quarrel 11 = .ok (.ifCond .eq 26, 3) := by decide +kernel
theorem dX11_quarrel_14 : decode cX11_quarrel 14 = .ok (.aload_n 0, 1) := by decide +kernel
theorem dX11_quarrel_15 : decode cX11_quarrel 15 = .ok (.getfield 15, 3) := by decide +kernel
theorem dX11_quarrel_18 : decode cX11_quarrel 18 = .ok (.getfield 144, 3) := by decide +kernel
theorem dX11_quarrel_21 : decode cX11_quarrel 21 = .ok (.iload_n 2, 1) := by decide +kernel
theorem dX11_quarrel_22 : decode cX11_quarrel 22 = .ok (.invokevirtual 124, 3) := by decide +kernel
theorem dX11_quarrel_25 : decode cX11_quarrel 25 = .ok (.ifCond .eq 12, 3) := by decide +kernel
theorem dX11_quarrel_28 : decode cX11_quarrel 28 = .ok (.iload_n 3, 1) := by decide +kernel
theorem dX11_quarrel_29 : decode cX11_quarrel 29 = .ok (.iconst 0, 1) := by decide +kernel
theorem dX11_quarrel_30 : decode cX11_quarrel 30 = .ok (.iconst 1, 1) := by decide +kernel
theorem dX11_quarrel_31 : decode cX11_quarrel 31 = .ok (.invokestatic 83, 3) := by decide +kernel
theorem dX11_quarrel_34 : decode cX11_quarrel 34 = .ok (.ifCond .ne 5, 3) := by decide +kernel
theorem dX11_quarrel_39 : decode cX11_quarrel 39 = .ok (.aload_n 0, 1) := by decide +kernel
theorem dX11_quarrel_40 : decode cX11_quarrel 40 = .ok (.getfield 15, 3) := by decide +kernel
theorem dX11_quarrel_43 : decode cX11_quarrel 43 = .ok (.invokevirtual 97, 3) := by decide +kernel
theorem dX11_quarrel_46 : decode cX11_quarrel 46 = .ok (.istore 4, 2) := by decide +kernel
theorem dX11_quarrel_48 : decode cX11_quarrel 48 = .ok (.iload 4, 2) := by decide +kernel
theorem dX11_quarrel_50 : decode cX11_quarrel 50 = .ok (.iload_n 2, 1) := by decide +kernel
theorem dX11_quarrel_51 : decode cX11_quarrel 51 = .ok (.invokestatic 150, 3) := by decide +kernel
theorem dX11_quarrel_54 : decode cX11_quarrel 54 = .ok (.ifCond .ne 6, 3) := by decide +kernel
theorem dX11_quarrel_60 : decode cX11_quarrel 60 = .ok (.aload_n 0, 1) := by decide +kernel
theorem dX11_quarrel_61 : decode cX11_quarrel 61 = .ok (.getfield 28, 3) := by decide +kernel
theorem dX11_quarrel_64 : decode cX11_quarrel 64 = .ok (.iload 4, 2) := by decide +kernel
theorem dX11_quarrel_66 : decode cX11_quarrel 66 = .ok (.invokevirtual 183, 3) := by decide +kernel
theorem dX11_quarrel_69 : decode cX11_quarrel 69 = .ok (.aload_n 0, 1) := by decide +kernel
theorem dX11_quarrel_70 : decode cX11_quarrel 70 = .ok (.getfield 51, 3) := by decide +kernel
theorem m_283 : Cond.fieldLink RX11 51 "InquiryBench" "talk" "LInquiryBench$Talk;" ∈ BW := iB_BW15 _ (List.mem_of_getElem? (i := 9) rfl)
theorem gf_X11_51 (hC : CX p s m meth c y0 b0 mL0 rt0 args) (hy0 : y0.cls = RX11) (hK : KK G s) (hP : va_P G.1 vwCl ws H) (q0 : Nat) {fs : List Value} {v : Value} (he : ws[q0]? = some (a, .inr (11, fs))) (hv : fs[6]? = some v) (hdg : decode b0 pc = .ok (.getfield 51, 3)) (kk : W p l e R s m args below meth c H locs cells slots Q (F0 m (pc + 3) ls (v :: rest))) : W p l e R s m args below meth c H locs cells slots Q (F0 m pc ls (.ref a :: rest)) := by
  obtain ⟨hx, hb, hr, hml, hB, hown, hlocks, hnm⟩ := hC
  rw [hy0] at hown
  exact va_get (ci := 11) (C := RX11) (T := TX11) (N := 11) hx hb hB in_X11 hown hK.1 hP q0 he rfl 6 (by decide) (hB _ m_283) (fun _ h => h) hv hdg kk
theorem dX11_quarrel_73 : decode cX11_quarrel 73 = .ok (.iload_n 1, 1) := by decide +kernel
theorem dX11_quarrel_74 : decode cX11_quarrel 74 = .ok (.iload_n 2, 1) := by decide +kernel
theorem dX11_quarrel_75 : decode cX11_quarrel 75 = .ok (.iload 4, 2) := by decide +kernel
theorem dX11_quarrel_77 : decode cX11_quarrel 77 = .ok (.invokevirtual 259, 3) := by decide +kernel
theorem m_762 : Cond.code yX9_weigh cX9_weigh 7 none ∈ BW := iB_BW41 _ (List.mem_of_getElem? (i := 2) rfl)
theorem m_759 : Cond.methodLink RX11 259 yX9_weigh ∈ BW := iB_BW40 _ (List.mem_of_getElem? (i := 19) rfl)
theorem m_760 : Cond.instanceMethod yX9_weigh ∈ BW := iB_BW41 _ (List.mem_of_getElem? (i := 0) rfl)
theorem m_761 : Cond.selects RX9 yX9_weigh yX9_weigh ∈ BW := iB_BW41 _ (List.mem_of_getElem? (i := 1) rfl)
theorem si_X11_259 : SV RX11 RX9 259 yX9_weigh cX9_weigh 7 none 3 := ⟨⟨m_759, m_760, m_761, m_110, m_762⟩, rfl, nK_RX9.1, nK_RX9.2, pd_4⟩
theorem dX11_quarrel_80 : decode cX11_quarrel 80 = .ok (.iload_n 3, 1) := by decide +kernel
theorem dX11_quarrel_81 : decode cX11_quarrel 81 = .ok (.ifCond .ne 13, 3) := by decide +kernel
theorem dX11_quarrel_94 : decode cX11_quarrel 94 = .ok (.aload_n 0, 1) := by decide +kernel
theorem dX11_quarrel_95 : decode cX11_quarrel 95 = .ok (.getfield 51, 3) := by decide +kernel
theorem dX11_quarrel_98 : decode cX11_quarrel 98 = .ok (.invokevirtual 265, 3) := by decide +kernel
theorem m_784 : Cond.code yX9_believedHour cX9_believedHour 1 (some .int) ∈ BW := iB_BW42 _ (List.mem_of_getElem? (i := 13) rfl)
theorem m_781 : Cond.methodLink RX11 265 yX9_believedHour ∈ BW := iB_BW42 _ (List.mem_of_getElem? (i := 10) rfl)
theorem m_782 : Cond.instanceMethod yX9_believedHour ∈ BW := iB_BW42 _ (List.mem_of_getElem? (i := 11) rfl)
theorem m_783 : Cond.selects RX9 yX9_believedHour yX9_believedHour ∈ BW := iB_BW42 _ (List.mem_of_getElem? (i := 12) rfl)
theorem si_X11_265 : SV RX11 RX9 265 yX9_believedHour cX9_believedHour 1 (some .int) 0 := ⟨⟨m_781, m_782, m_783, m_110, m_784⟩, rfl, nK_RX9.1, nK_RX9.2, pd_1⟩
theorem dX11_quarrel_101 : decode cX11_quarrel 101 = .ok (.sipush 1000, 3) := by decide +kernel
theorem dX11_quarrel_104 : decode cX11_quarrel 104 = .ok (.iadd, 1) := by decide +kernel
theorem dX11_quarrel_105 : decode cX11_quarrel 105 = .ok (.ireturn, 1) := by decide +kernel
theorem dX11_quarrel_84 : decode cX11_quarrel 84 = .ok (.aload_n 0, 1) := by decide +kernel
theorem dX11_quarrel_85 : decode cX11_quarrel 85 = .ok (.getfield 51, 3) := by decide +kernel
theorem dX11_quarrel_88 : decode cX11_quarrel 88 = .ok (.invokevirtual 262, 3) := by decide +kernel
theorem m_780 : Cond.code yX9_leastWeight cX9_leastWeight 1 (some .int) ∈ BW := iB_BW42 _ (List.mem_of_getElem? (i := 9) rfl)
theorem m_777 : Cond.methodLink RX11 262 yX9_leastWeight ∈ BW := iB_BW42 _ (List.mem_of_getElem? (i := 6) rfl)
theorem m_778 : Cond.instanceMethod yX9_leastWeight ∈ BW := iB_BW42 _ (List.mem_of_getElem? (i := 7) rfl)
theorem m_779 : Cond.selects RX9 yX9_leastWeight yX9_leastWeight ∈ BW := iB_BW42 _ (List.mem_of_getElem? (i := 8) rfl)
theorem si_X11_262 : SV RX11 RX9 262 yX9_leastWeight cX9_leastWeight 1 (some .int) 0 := ⟨⟨m_777, m_778, m_779, m_110, m_780⟩, rfl, nK_RX9.1, nK_RX9.2, pd_1⟩
theorem dX11_quarrel_91 : decode cX11_quarrel 91 = .ok (.goto 14, 3) := by decide +kernel
theorem dX11_quarrel_57 : decode cX11_quarrel 57 = .ok (.bipush (-3), 2) := by decide +kernel
theorem dX11_quarrel_59 : decode cX11_quarrel 59 = .ok (.ireturn, 1) := by decide +kernel
theorem dX11_quarrel_37 : decode cX11_quarrel 37 = .ok (.iconst (-1), 1) := by decide +kernel
theorem dX11_quarrel_38 : decode cX11_quarrel 38 = .ok (.ireturn, 1) := by decide +kernel
theorem dX11_impossible_0 : decode cX11_impossible 0 = .ok (.aload_n 0, 1) := by decide +kernel
theorem dX11_impossible_1 : decode cX11_impossible 1 = .ok (.getfield 15, 3) := by decide +kernel
theorem dX11_impossible_4 : decode cX11_impossible 4 = .ok (.invokevirtual 97, 3) := by decide +kernel
theorem dX11_impossible_7 : decode cX11_impossible 7 = .ok (.istore_n 1, 1) := by decide +kernel
theorem dX11_impossible_8 : decode cX11_impossible 8 = .ok (.aload_n 0, 1) := by decide +kernel
theorem dX11_impossible_9 : decode cX11_impossible 9 = .ok (.getfield 28, 3) := by decide +kernel
theorem dX11_impossible_12 : decode cX11_impossible 12 = .ok (.iload_n 1, 1) := by decide +kernel
theorem dX11_impossible_13 : decode cX11_impossible 13 = .ok (.invokevirtual 183, 3) := by decide +kernel
theorem dX11_impossible_16 : decode cX11_impossible 16 = .ok (.aload_n 0, 1) := by decide +kernel
theorem dX11_impossible_17 : decode cX11_impossible 17 = .ok (.getfield 51, 3) := by decide +kernel
theorem dX11_impossible_20 : decode cX11_impossible 20 = .ok (.iload_n 1, 1) := by decide +kernel
theorem dX11_impossible_21 : decode cX11_impossible 21 = .ok (.invokevirtual 268, 3) := by decide +kernel
theorem m_792 : Cond.code yX9_impossibleOnes cX9_impossibleOnes 6 (some .int) ∈ BW := iB_BW43 _ (List.mem_of_getElem? (i := 1) rfl)
theorem m_789 : Cond.methodLink RX11 268 yX9_impossibleOnes ∈ BW := iB_BW42 _ (List.mem_of_getElem? (i := 18) rfl)
theorem m_790 : Cond.instanceMethod yX9_impossibleOnes ∈ BW := iB_BW42 _ (List.mem_of_getElem? (i := 19) rfl)
theorem m_791 : Cond.selects RX9 yX9_impossibleOnes yX9_impossibleOnes ∈ BW := iB_BW43 _ (List.mem_of_getElem? (i := 0) rfl)
theorem si_X11_268 : SV RX11 RX9 268 yX9_impossibleOnes cX9_impossibleOnes 6 (some .int) 1 := ⟨⟨m_789, m_790, m_791, m_110, m_792⟩, rfl, nK_RX9.1, nK_RX9.2, pd_7⟩
theorem dX11_impossible_24 : decode cX11_impossible 24 = .ok (.ireturn, 1) := by decide +kernel
end WR
theorem rm_42_1_3 {mc ms : Nat} : 1 + 1 ≤ (RM 42 mc ms).frames ∧ 8 + (3 + 11) + 40 * 1 ≤ (RM 42 mc ms).locals := ⟨by show 1 + 1 ≤ 42; decide, by show 8 + (3 + 11) + 40 * 1 ≤ 40 * 42; decide⟩
theorem rm_42_3_6 {mc ms : Nat} : 3 + 1 ≤ (RM 42 mc ms).frames ∧ 8 + (6 + 11) + 40 * 3 ≤ (RM 42 mc ms).locals := ⟨by show 3 + 1 ≤ 42; decide, by show 8 + (6 + 11) + 40 * 3 ≤ 40 * 42; decide⟩
theorem sm_1_39_40 {a0 a1 a2 a3 a4 a5 a6 a7 a8 a9 a10 a11 a12 a13 a14 a15 a16 a17 a18 a19 a20 a21 a22 a23 a24 a25 a26 a27 a28 a29 a30 a31 a32 a33 a34 a35 a36 a37 a38 a39 a40 : Nat × va_E} {l : va_W} : ([1, 39, 40] : List Nat).map (fun i => (a0 :: a1 :: a2 :: a3 :: a4 :: a5 :: a6 :: a7 :: a8 :: a9 :: a10 :: a11 :: a12 :: a13 :: a14 :: a15 :: a16 :: a17 :: a18 :: a19 :: a20 :: a21 :: a22 :: a23 :: a24 :: a25 :: a26 :: a27 :: a28 :: a29 :: a30 :: a31 :: a32 :: a33 :: a34 :: a35 :: a36 :: a37 :: a38 :: a39 :: a40 :: l : va_W)[i]?) = ([a1, a39, a40] : va_W).map some := rfl
theorem fm_1_39_40 {a0 a1 a2 a3 a4 a5 a6 a7 a8 a9 a10 a11 a12 a13 a14 a15 a16 a17 a18 a19 a20 a21 a22 a23 a24 a25 a26 a27 a28 a29 a30 a31 a32 a33 a34 a35 a36 a37 a38 a39 a40 : Nat × va_E} {l : va_W} : ([1, 39, 40] : List Nat).filterMap (fun i => (a0 :: a1 :: a2 :: a3 :: a4 :: a5 :: a6 :: a7 :: a8 :: a9 :: a10 :: a11 :: a12 :: a13 :: a14 :: a15 :: a16 :: a17 :: a18 :: a19 :: a20 :: a21 :: a22 :: a23 :: a24 :: a25 :: a26 :: a27 :: a28 :: a29 :: a30 :: a31 :: a32 :: a33 :: a34 :: a35 :: a36 :: a37 :: a38 :: a39 :: a40 :: l : va_W)[i]?) = ([a1, a39, a40] : va_W) := rfl
theorem nd_1_39_40 : va_nd [1, 39, 40] = true := by decide
theorem rm_42_5_4 {mc ms : Nat} : 5 + 1 ≤ (RM 42 mc ms).frames ∧ 8 + (4 + 11) + 40 * 5 ≤ (RM 42 mc ms).locals := ⟨by show 5 + 1 ≤ 42; decide, by show 8 + (4 + 11) + 40 * 5 ≤ 40 * 42; decide⟩
theorem sm_2_3_4_5_6_7_8_9_10_1_41_42 {a0 a1 a2 a3 a4 a5 a6 a7 a8 a9 a10 a11 a12 a13 a14 a15 a16 a17 a18 a19 a20 a21 a22 a23 a24 a25 a26 a27 a28 a29 a30 a31 a32 a33 a34 a35 a36 a37 a38 a39 a40 a41 a42 : Nat × va_E} {l : va_W} : ([2, 3, 4, 5, 6, 7, 8, 9, 10, 1, 41, 42] : List Nat).map (fun i => (a0 :: a1 :: a2 :: a3 :: a4 :: a5 :: a6 :: a7 :: a8 :: a9 :: a10 :: a11 :: a12 :: a13 :: a14 :: a15 :: a16 :: a17 :: a18 :: a19 :: a20 :: a21 :: a22 :: a23 :: a24 :: a25 :: a26 :: a27 :: a28 :: a29 :: a30 :: a31 :: a32 :: a33 :: a34 :: a35 :: a36 :: a37 :: a38 :: a39 :: a40 :: a41 :: a42 :: l : va_W)[i]?) = ([a2, a3, a4, a5, a6, a7, a8, a9, a10, a1, a41, a42] : va_W).map some := rfl
theorem fm_2_3_4_5_6_7_8_9_10_1_41_42 {a0 a1 a2 a3 a4 a5 a6 a7 a8 a9 a10 a11 a12 a13 a14 a15 a16 a17 a18 a19 a20 a21 a22 a23 a24 a25 a26 a27 a28 a29 a30 a31 a32 a33 a34 a35 a36 a37 a38 a39 a40 a41 a42 : Nat × va_E} {l : va_W} : ([2, 3, 4, 5, 6, 7, 8, 9, 10, 1, 41, 42] : List Nat).filterMap (fun i => (a0 :: a1 :: a2 :: a3 :: a4 :: a5 :: a6 :: a7 :: a8 :: a9 :: a10 :: a11 :: a12 :: a13 :: a14 :: a15 :: a16 :: a17 :: a18 :: a19 :: a20 :: a21 :: a22 :: a23 :: a24 :: a25 :: a26 :: a27 :: a28 :: a29 :: a30 :: a31 :: a32 :: a33 :: a34 :: a35 :: a36 :: a37 :: a38 :: a39 :: a40 :: a41 :: a42 :: l : va_W)[i]?) = ([a2, a3, a4, a5, a6, a7, a8, a9, a10, a1, a41, a42] : va_W) := rfl
theorem nd_2_3_4_5_6_7_8_9_10_1_41_42 : va_nd [2, 3, 4, 5, 6, 7, 8, 9, 10, 1, 41, 42] = true := by decide
theorem sm_0_11_12_13_14_15_16_17_18_19_20_21_22_23_24_25_26_27_28_29_30_31_32_33_34_35_36_37_38_39_40 {a0 a1 a2 a3 a4 a5 a6 a7 a8 a9 a10 a11 a12 a13 a14 a15 a16 a17 a18 a19 a20 a21 a22 a23 a24 a25 a26 a27 a28 a29 a30 a31 a32 a33 a34 a35 a36 a37 a38 a39 a40 : Nat × va_E} {l : va_W} : ([0, 11, 12, 13, 14, 15, 16, 17, 18, 19, 20, 21, 22, 23, 24, 25, 26, 27, 28, 29, 30, 31, 32, 33, 34, 35, 36, 37, 38, 39, 40] : List Nat).map (fun i => (a0 :: a1 :: a2 :: a3 :: a4 :: a5 :: a6 :: a7 :: a8 :: a9 :: a10 :: a11 :: a12 :: a13 :: a14 :: a15 :: a16 :: a17 :: a18 :: a19 :: a20 :: a21 :: a22 :: a23 :: a24 :: a25 :: a26 :: a27 :: a28 :: a29 :: a30 :: a31 :: a32 :: a33 :: a34 :: a35 :: a36 :: a37 :: a38 :: a39 :: a40 :: l : va_W)[i]?) = ([a0, a11, a12, a13, a14, a15, a16, a17, a18, a19, a20, a21, a22, a23, a24, a25, a26, a27, a28, a29, a30, a31, a32, a33, a34, a35, a36, a37, a38, a39, a40] : va_W).map some := rfl
theorem nd_0_11_12_13_14_15_16_17_18_19_20_21_22_23_24_25_26_27_28_29_30_31_32_33_34_35_36_37_38_39_40 : va_nd [0, 11, 12, 13, 14, 15, 16, 17, 18, 19, 20, 21, 22, 23, 24, 25, 26, 27, 28, 29, 30, 31, 32, 33, 34, 35, 36, 37, 38, 39, 40] = true := by decide
theorem dj_2_3_4_5_6_7_8_9_10_1_41_42__0_11_12_13_14_15_16_17_18_19_20_21_22_23_24_25_26_27_28_29_30_31_32_33_34_35_36_37_38_39_40 : ∀ i ∈ ([0, 11, 12, 13, 14, 15, 16, 17, 18, 19, 20, 21, 22, 23, 24, 25, 26, 27, 28, 29, 30, 31, 32, 33, 34, 35, 36, 37, 38, 39, 40] : List Nat), i ∉ ([2, 3, 4, 5, 6, 7, 8, 9, 10, 1, 41, 42] : List Nat) := by decide
theorem rm_42_1_1 {mc ms : Nat} : 1 + 1 ≤ (RM 42 mc ms).frames ∧ 8 + (1 + 11) + 40 * 1 ≤ (RM 42 mc ms).locals := ⟨by show 1 + 1 ≤ 42; decide, by show 8 + (1 + 11) + 40 * 1 ≤ 40 * 42; decide⟩
theorem rm_42_40_3 {mc ms : Nat} : 40 + 1 ≤ (RM 42 mc ms).frames ∧ 8 + (3 + 11) + 40 * 40 ≤ (RM 42 mc ms).locals := ⟨by show 40 + 1 ≤ 42; decide, by show 8 + (3 + 11) + 40 * 40 ≤ 40 * 42; decide⟩
theorem sm_11_12_13_14_15_16_17_18_19_20_21_22_23_24_25_26_27_28_29_30_31_32_33_34_35_36_37_38_1_41_42_39_40 {a0 a1 a2 a3 a4 a5 a6 a7 a8 a9 a10 a11 a12 a13 a14 a15 a16 a17 a18 a19 a20 a21 a22 a23 a24 a25 a26 a27 a28 a29 a30 a31 a32 a33 a34 a35 a36 a37 a38 a39 a40 a41 a42 : Nat × va_E} {l : va_W} : ([11, 12, 13, 14, 15, 16, 17, 18, 19, 20, 21, 22, 23, 24, 25, 26, 27, 28, 29, 30, 31, 32, 33, 34, 35, 36, 37, 38, 1, 41, 42, 39, 40] : List Nat).map (fun i => (a0 :: a1 :: a2 :: a3 :: a4 :: a5 :: a6 :: a7 :: a8 :: a9 :: a10 :: a11 :: a12 :: a13 :: a14 :: a15 :: a16 :: a17 :: a18 :: a19 :: a20 :: a21 :: a22 :: a23 :: a24 :: a25 :: a26 :: a27 :: a28 :: a29 :: a30 :: a31 :: a32 :: a33 :: a34 :: a35 :: a36 :: a37 :: a38 :: a39 :: a40 :: a41 :: a42 :: l : va_W)[i]?) = ([a11, a12, a13, a14, a15, a16, a17, a18, a19, a20, a21, a22, a23, a24, a25, a26, a27, a28, a29, a30, a31, a32, a33, a34, a35, a36, a37, a38, a1, a41, a42, a39, a40] : va_W).map some := rfl
theorem fm_11_12_13_14_15_16_17_18_19_20_21_22_23_24_25_26_27_28_29_30_31_32_33_34_35_36_37_38_1_41_42_39_40 {a0 a1 a2 a3 a4 a5 a6 a7 a8 a9 a10 a11 a12 a13 a14 a15 a16 a17 a18 a19 a20 a21 a22 a23 a24 a25 a26 a27 a28 a29 a30 a31 a32 a33 a34 a35 a36 a37 a38 a39 a40 a41 a42 : Nat × va_E} {l : va_W} : ([11, 12, 13, 14, 15, 16, 17, 18, 19, 20, 21, 22, 23, 24, 25, 26, 27, 28, 29, 30, 31, 32, 33, 34, 35, 36, 37, 38, 1, 41, 42, 39, 40] : List Nat).filterMap (fun i => (a0 :: a1 :: a2 :: a3 :: a4 :: a5 :: a6 :: a7 :: a8 :: a9 :: a10 :: a11 :: a12 :: a13 :: a14 :: a15 :: a16 :: a17 :: a18 :: a19 :: a20 :: a21 :: a22 :: a23 :: a24 :: a25 :: a26 :: a27 :: a28 :: a29 :: a30 :: a31 :: a32 :: a33 :: a34 :: a35 :: a36 :: a37 :: a38 :: a39 :: a40 :: a41 :: a42 :: l : va_W)[i]?) = ([a11, a12, a13, a14, a15, a16, a17, a18, a19, a20, a21, a22, a23, a24, a25, a26, a27, a28, a29, a30, a31, a32, a33, a34, a35, a36, a37, a38, a1, a41, a42, a39, a40] : va_W) := rfl
theorem nd_11_12_13_14_15_16_17_18_19_20_21_22_23_24_25_26_27_28_29_30_31_32_33_34_35_36_37_38_1_41_42_39_40 : va_nd [11, 12, 13, 14, 15, 16, 17, 18, 19, 20, 21, 22, 23, 24, 25, 26, 27, 28, 29, 30, 31, 32, 33, 34, 35, 36, 37, 38, 1, 41, 42, 39, 40] = true := by decide
theorem sm_0_2_3_4_5_6_7_8_9_10 {a0 a1 a2 a3 a4 a5 a6 a7 a8 a9 a10 : Nat × va_E} {l : va_W} : ([0, 2, 3, 4, 5, 6, 7, 8, 9, 10] : List Nat).map (fun i => (a0 :: a1 :: a2 :: a3 :: a4 :: a5 :: a6 :: a7 :: a8 :: a9 :: a10 :: l : va_W)[i]?) = ([a0, a2, a3, a4, a5, a6, a7, a8, a9, a10] : va_W).map some := rfl
theorem nd_0_2_3_4_5_6_7_8_9_10 : va_nd [0, 2, 3, 4, 5, 6, 7, 8, 9, 10] = true := by decide
theorem dj_11_12_13_14_15_16_17_18_19_20_21_22_23_24_25_26_27_28_29_30_31_32_33_34_35_36_37_38_1_41_42_39_40__0_2_3_4_5_6_7_8_9_10 : ∀ i ∈ ([0, 2, 3, 4, 5, 6, 7, 8, 9, 10] : List Nat), i ∉ ([11, 12, 13, 14, 15, 16, 17, 18, 19, 20, 21, 22, 23, 24, 25, 26, 27, 28, 29, 30, 31, 32, 33, 34, 35, 36, 37, 38, 1, 41, 42, 39, 40] : List Nat) := by decide
theorem rm_6_5_4 {mc ms : Nat} : 5 + 1 ≤ (RM 6 mc ms).frames ∧ 8 + (4 + 11) + 40 * 5 ≤ (RM 6 mc ms).locals := ⟨by show 5 + 1 ≤ 6; decide, by show 8 + (4 + 11) + 40 * 5 ≤ 40 * 6; decide⟩
theorem sm_1_2_3_4_5_6_7_8_9_13_24_25 {a0 a1 a2 a3 a4 a5 a6 a7 a8 a9 a10 a11 a12 a13 a14 a15 a16 a17 a18 a19 a20 a21 a22 a23 a24 a25 : Nat × va_E} {l : va_W} : ([1, 2, 3, 4, 5, 6, 7, 8, 9, 13, 24, 25] : List Nat).map (fun i => (a0 :: a1 :: a2 :: a3 :: a4 :: a5 :: a6 :: a7 :: a8 :: a9 :: a10 :: a11 :: a12 :: a13 :: a14 :: a15 :: a16 :: a17 :: a18 :: a19 :: a20 :: a21 :: a22 :: a23 :: a24 :: a25 :: l : va_W)[i]?) = ([a1, a2, a3, a4, a5, a6, a7, a8, a9, a13, a24, a25] : va_W).map some := rfl
theorem fm_1_2_3_4_5_6_7_8_9_13_24_25 {a0 a1 a2 a3 a4 a5 a6 a7 a8 a9 a10 a11 a12 a13 a14 a15 a16 a17 a18 a19 a20 a21 a22 a23 a24 a25 : Nat × va_E} {l : va_W} : ([1, 2, 3, 4, 5, 6, 7, 8, 9, 13, 24, 25] : List Nat).filterMap (fun i => (a0 :: a1 :: a2 :: a3 :: a4 :: a5 :: a6 :: a7 :: a8 :: a9 :: a10 :: a11 :: a12 :: a13 :: a14 :: a15 :: a16 :: a17 :: a18 :: a19 :: a20 :: a21 :: a22 :: a23 :: a24 :: a25 :: l : va_W)[i]?) = ([a1, a2, a3, a4, a5, a6, a7, a8, a9, a13, a24, a25] : va_W) := rfl
theorem nd_1_2_3_4_5_6_7_8_9_13_24_25 : va_nd [1, 2, 3, 4, 5, 6, 7, 8, 9, 13, 24, 25] = true := by decide
theorem sm_0_10_11_12_14_15_16_17_18_19_20_21_22_23 {a0 a1 a2 a3 a4 a5 a6 a7 a8 a9 a10 a11 a12 a13 a14 a15 a16 a17 a18 a19 a20 a21 a22 a23 : Nat × va_E} {l : va_W} : ([0, 10, 11, 12, 14, 15, 16, 17, 18, 19, 20, 21, 22, 23] : List Nat).map (fun i => (a0 :: a1 :: a2 :: a3 :: a4 :: a5 :: a6 :: a7 :: a8 :: a9 :: a10 :: a11 :: a12 :: a13 :: a14 :: a15 :: a16 :: a17 :: a18 :: a19 :: a20 :: a21 :: a22 :: a23 :: l : va_W)[i]?) = ([a0, a10, a11, a12, a14, a15, a16, a17, a18, a19, a20, a21, a22, a23] : va_W).map some := rfl
theorem nd_0_10_11_12_14_15_16_17_18_19_20_21_22_23 : va_nd [0, 10, 11, 12, 14, 15, 16, 17, 18, 19, 20, 21, 22, 23] = true := by decide
theorem dj_1_2_3_4_5_6_7_8_9_13_24_25__0_10_11_12_14_15_16_17_18_19_20_21_22_23 : ∀ i ∈ ([0, 10, 11, 12, 14, 15, 16, 17, 18, 19, 20, 21, 22, 23] : List Nat), i ∉ ([1, 2, 3, 4, 5, 6, 7, 8, 9, 13, 24, 25] : List Nat) := by decide
theorem rm_6_5_5 {mc ms : Nat} : 5 + 1 ≤ (RM 6 mc ms).frames ∧ 8 + (5 + 11) + 40 * 5 ≤ (RM 6 mc ms).locals := ⟨by show 5 + 1 ≤ 6; decide, by show 8 + (5 + 11) + 40 * 5 ≤ 40 * 6; decide⟩
theorem sm_1_2_3_14_18_19_20_21_22_23_4_5_6_7_8_9_10_11_12_13 {a0 a1 a2 a3 a4 a5 a6 a7 a8 a9 a10 a11 a12 a13 a14 a15 a16 a17 a18 a19 a20 a21 a22 a23 : Nat × va_E} {l : va_W} : ([1, 2, 3, 14, 18, 19, 20, 21, 22, 23, 4, 5, 6, 7, 8, 9, 10, 11, 12, 13] : List Nat).map (fun i => (a0 :: a1 :: a2 :: a3 :: a4 :: a5 :: a6 :: a7 :: a8 :: a9 :: a10 :: a11 :: a12 :: a13 :: a14 :: a15 :: a16 :: a17 :: a18 :: a19 :: a20 :: a21 :: a22 :: a23 :: l : va_W)[i]?) = ([a1, a2, a3, a14, a18, a19, a20, a21, a22, a23, a4, a5, a6, a7, a8, a9, a10, a11, a12, a13] : va_W).map some := rfl
theorem fm_1_2_3_14_18_19_20_21_22_23_4_5_6_7_8_9_10_11_12_13 {a0 a1 a2 a3 a4 a5 a6 a7 a8 a9 a10 a11 a12 a13 a14 a15 a16 a17 a18 a19 a20 a21 a22 a23 : Nat × va_E} {l : va_W} : ([1, 2, 3, 14, 18, 19, 20, 21, 22, 23, 4, 5, 6, 7, 8, 9, 10, 11, 12, 13] : List Nat).filterMap (fun i => (a0 :: a1 :: a2 :: a3 :: a4 :: a5 :: a6 :: a7 :: a8 :: a9 :: a10 :: a11 :: a12 :: a13 :: a14 :: a15 :: a16 :: a17 :: a18 :: a19 :: a20 :: a21 :: a22 :: a23 :: l : va_W)[i]?) = ([a1, a2, a3, a14, a18, a19, a20, a21, a22, a23, a4, a5, a6, a7, a8, a9, a10, a11, a12, a13] : va_W) := rfl
theorem nd_1_2_3_14_18_19_20_21_22_23_4_5_6_7_8_9_10_11_12_13 : va_nd [1, 2, 3, 14, 18, 19, 20, 21, 22, 23, 4, 5, 6, 7, 8, 9, 10, 11, 12, 13] = true := by decide
theorem sm_0_15_16_17_24_25 {a0 a1 a2 a3 a4 a5 a6 a7 a8 a9 a10 a11 a12 a13 a14 a15 a16 a17 a18 a19 a20 a21 a22 a23 a24 a25 : Nat × va_E} {l : va_W} : ([0, 15, 16, 17, 24, 25] : List Nat).map (fun i => (a0 :: a1 :: a2 :: a3 :: a4 :: a5 :: a6 :: a7 :: a8 :: a9 :: a10 :: a11 :: a12 :: a13 :: a14 :: a15 :: a16 :: a17 :: a18 :: a19 :: a20 :: a21 :: a22 :: a23 :: a24 :: a25 :: l : va_W)[i]?) = ([a0, a15, a16, a17, a24, a25] : va_W).map some := rfl
theorem nd_0_15_16_17_24_25 : va_nd [0, 15, 16, 17, 24, 25] = true := by decide
theorem dj_1_2_3_14_18_19_20_21_22_23_4_5_6_7_8_9_10_11_12_13__0_15_16_17_24_25 : ∀ i ∈ ([0, 15, 16, 17, 24, 25] : List Nat), i ∉ ([1, 2, 3, 14, 18, 19, 20, 21, 22, 23, 4, 5, 6, 7, 8, 9, 10, 11, 12, 13] : List Nat) := by decide
theorem sm_6_8 {a0 a1 a2 a3 a4 a5 a6 a7 a8 : Nat × va_E} {l : va_W} : ([6, 8] : List Nat).map (fun i => (a0 :: a1 :: a2 :: a3 :: a4 :: a5 :: a6 :: a7 :: a8 :: l : va_W)[i]?) = ([a6, a8] : va_W).map some := rfl
theorem fm_6_8 {a0 a1 a2 a3 a4 a5 a6 a7 a8 : Nat × va_E} {l : va_W} : ([6, 8] : List Nat).filterMap (fun i => (a0 :: a1 :: a2 :: a3 :: a4 :: a5 :: a6 :: a7 :: a8 :: l : va_W)[i]?) = ([a6, a8] : va_W) := rfl
theorem nd_6_8 : va_nd [6, 8] = true := by decide
theorem rm_6_4_6 {mc ms : Nat} : 4 + 1 ≤ (RM 6 mc ms).frames ∧ 8 + (6 + 11) + 40 * 4 ≤ (RM 6 mc ms).locals := ⟨by show 4 + 1 ≤ 6; decide, by show 8 + (6 + 11) + 40 * 4 ≤ 40 * 6; decide⟩
theorem sm_14_18_19_20_21_22_23_8_9_6_7 {a0 a1 a2 a3 a4 a5 a6 a7 a8 a9 a10 a11 a12 a13 a14 a15 a16 a17 a18 a19 a20 a21 a22 a23 : Nat × va_E} {l : va_W} : ([14, 18, 19, 20, 21, 22, 23, 8, 9, 6, 7] : List Nat).map (fun i => (a0 :: a1 :: a2 :: a3 :: a4 :: a5 :: a6 :: a7 :: a8 :: a9 :: a10 :: a11 :: a12 :: a13 :: a14 :: a15 :: a16 :: a17 :: a18 :: a19 :: a20 :: a21 :: a22 :: a23 :: l : va_W)[i]?) = ([a14, a18, a19, a20, a21, a22, a23, a8, a9, a6, a7] : va_W).map some := rfl
theorem fm_14_18_19_20_21_22_23_8_9_6_7 {a0 a1 a2 a3 a4 a5 a6 a7 a8 a9 a10 a11 a12 a13 a14 a15 a16 a17 a18 a19 a20 a21 a22 a23 : Nat × va_E} {l : va_W} : ([14, 18, 19, 20, 21, 22, 23, 8, 9, 6, 7] : List Nat).filterMap (fun i => (a0 :: a1 :: a2 :: a3 :: a4 :: a5 :: a6 :: a7 :: a8 :: a9 :: a10 :: a11 :: a12 :: a13 :: a14 :: a15 :: a16 :: a17 :: a18 :: a19 :: a20 :: a21 :: a22 :: a23 :: l : va_W)[i]?) = ([a14, a18, a19, a20, a21, a22, a23, a8, a9, a6, a7] : va_W) := rfl
theorem nd_14_18_19_20_21_22_23_8_9_6_7 : va_nd [14, 18, 19, 20, 21, 22, 23, 8, 9, 6, 7] = true := by decide
theorem sm_16 {a0 a1 a2 a3 a4 a5 a6 a7 a8 a9 a10 a11 a12 a13 a14 a15 a16 : Nat × va_E} {l : va_W} : ([16] : List Nat).map (fun i => (a0 :: a1 :: a2 :: a3 :: a4 :: a5 :: a6 :: a7 :: a8 :: a9 :: a10 :: a11 :: a12 :: a13 :: a14 :: a15 :: a16 :: l : va_W)[i]?) = ([a16] : va_W).map some := rfl
theorem fm_16 {a0 a1 a2 a3 a4 a5 a6 a7 a8 a9 a10 a11 a12 a13 a14 a15 a16 : Nat × va_E} {l : va_W} : ([16] : List Nat).filterMap (fun i => (a0 :: a1 :: a2 :: a3 :: a4 :: a5 :: a6 :: a7 :: a8 :: a9 :: a10 :: a11 :: a12 :: a13 :: a14 :: a15 :: a16 :: l : va_W)[i]?) = ([a16] : va_W) := rfl
theorem nd_16 : va_nd [16] = true := by decide
theorem rm_7_2_1 {mc ms : Nat} : 2 + 1 ≤ (RM 7 mc ms).frames ∧ 8 + (1 + 11) + 40 * 2 ≤ (RM 7 mc ms).locals := ⟨by show 2 + 1 ≤ 7; decide, by show 8 + (1 + 11) + 40 * 2 ≤ 40 * 7; decide⟩
theorem sm_13_18_19 {a0 a1 a2 a3 a4 a5 a6 a7 a8 a9 a10 a11 a12 a13 a14 a15 a16 a17 a18 a19 : Nat × va_E} {l : va_W} : ([13, 18, 19] : List Nat).map (fun i => (a0 :: a1 :: a2 :: a3 :: a4 :: a5 :: a6 :: a7 :: a8 :: a9 :: a10 :: a11 :: a12 :: a13 :: a14 :: a15 :: a16 :: a17 :: a18 :: a19 :: l : va_W)[i]?) = ([a13, a18, a19] : va_W).map some := rfl
theorem fm_13_18_19 {a0 a1 a2 a3 a4 a5 a6 a7 a8 a9 a10 a11 a12 a13 a14 a15 a16 a17 a18 a19 : Nat × va_E} {l : va_W} : ([13, 18, 19] : List Nat).filterMap (fun i => (a0 :: a1 :: a2 :: a3 :: a4 :: a5 :: a6 :: a7 :: a8 :: a9 :: a10 :: a11 :: a12 :: a13 :: a14 :: a15 :: a16 :: a17 :: a18 :: a19 :: l : va_W)[i]?) = ([a13, a18, a19] : va_W) := rfl
theorem nd_13_18_19 : va_nd [13, 18, 19] = true := by decide
theorem rm_7_6_5 {mc ms : Nat} : 6 + 1 ≤ (RM 7 mc ms).frames ∧ 8 + (5 + 11) + 40 * 6 ≤ (RM 7 mc ms).locals := ⟨by show 6 + 1 ≤ 7; decide, by show 8 + (5 + 11) + 40 * 6 ≤ 40 * 7; decide⟩
theorem sm_0_1_2_3_4_5_6_7_8_9_10_11_12_13_14_15_16_17_18_19_20_21_22_23_24_25 {a0 a1 a2 a3 a4 a5 a6 a7 a8 a9 a10 a11 a12 a13 a14 a15 a16 a17 a18 a19 a20 a21 a22 a23 a24 a25 : Nat × va_E} {l : va_W} : ([0, 1, 2, 3, 4, 5, 6, 7, 8, 9, 10, 11, 12, 13, 14, 15, 16, 17, 18, 19, 20, 21, 22, 23, 24, 25] : List Nat).map (fun i => (a0 :: a1 :: a2 :: a3 :: a4 :: a5 :: a6 :: a7 :: a8 :: a9 :: a10 :: a11 :: a12 :: a13 :: a14 :: a15 :: a16 :: a17 :: a18 :: a19 :: a20 :: a21 :: a22 :: a23 :: a24 :: a25 :: l : va_W)[i]?) = ([a0, a1, a2, a3, a4, a5, a6, a7, a8, a9, a10, a11, a12, a13, a14, a15, a16, a17, a18, a19, a20, a21, a22, a23, a24, a25] : va_W).map some := rfl
theorem fm_0_1_2_3_4_5_6_7_8_9_10_11_12_13_14_15_16_17_18_19_20_21_22_23_24_25 {a0 a1 a2 a3 a4 a5 a6 a7 a8 a9 a10 a11 a12 a13 a14 a15 a16 a17 a18 a19 a20 a21 a22 a23 a24 a25 : Nat × va_E} {l : va_W} : ([0, 1, 2, 3, 4, 5, 6, 7, 8, 9, 10, 11, 12, 13, 14, 15, 16, 17, 18, 19, 20, 21, 22, 23, 24, 25] : List Nat).filterMap (fun i => (a0 :: a1 :: a2 :: a3 :: a4 :: a5 :: a6 :: a7 :: a8 :: a9 :: a10 :: a11 :: a12 :: a13 :: a14 :: a15 :: a16 :: a17 :: a18 :: a19 :: a20 :: a21 :: a22 :: a23 :: a24 :: a25 :: l : va_W)[i]?) = ([a0, a1, a2, a3, a4, a5, a6, a7, a8, a9, a10, a11, a12, a13, a14, a15, a16, a17, a18, a19, a20, a21, a22, a23, a24, a25] : va_W) := rfl
theorem nd_0_1_2_3_4_5_6_7_8_9_10_11_12_13_14_15_16_17_18_19_20_21_22_23_24_25 : va_nd [0, 1, 2, 3, 4, 5, 6, 7, 8, 9, 10, 11, 12, 13, 14, 15, 16, 17, 18, 19, 20, 21, 22, 23, 24, 25] = true := by decide
theorem rm_7_5_5 {mc ms : Nat} : 5 + 1 ≤ (RM 7 mc ms).frames ∧ 8 + (5 + 11) + 40 * 5 ≤ (RM 7 mc ms).locals := ⟨by show 5 + 1 ≤ 7; decide, by show 8 + (5 + 11) + 40 * 5 ≤ 40 * 7; decide⟩
theorem rm_7_4_6 {mc ms : Nat} : 4 + 1 ≤ (RM 7 mc ms).frames ∧ 8 + (6 + 11) + 40 * 4 ≤ (RM 7 mc ms).locals := ⟨by show 4 + 1 ≤ 7; decide, by show 8 + (6 + 11) + 40 * 4 ≤ 40 * 7; decide⟩
theorem sm_9_10_11_12_13_14_15_20_21_18_19 {a0 a1 a2 a3 a4 a5 a6 a7 a8 a9 a10 a11 a12 a13 a14 a15 a16 a17 a18 a19 a20 a21 : Nat × va_E} {l : va_W} : ([9, 10, 11, 12, 13, 14, 15, 20, 21, 18, 19] : List Nat).map (fun i => (a0 :: a1 :: a2 :: a3 :: a4 :: a5 :: a6 :: a7 :: a8 :: a9 :: a10 :: a11 :: a12 :: a13 :: a14 :: a15 :: a16 :: a17 :: a18 :: a19 :: a20 :: a21 :: l : va_W)[i]?) = ([a9, a10, a11, a12, a13, a14, a15, a20, a21, a18, a19] : va_W).map some := rfl
theorem fm_9_10_11_12_13_14_15_20_21_18_19 {a0 a1 a2 a3 a4 a5 a6 a7 a8 a9 a10 a11 a12 a13 a14 a15 a16 a17 a18 a19 a20 a21 : Nat × va_E} {l : va_W} : ([9, 10, 11, 12, 13, 14, 15, 20, 21, 18, 19] : List Nat).filterMap (fun i => (a0 :: a1 :: a2 :: a3 :: a4 :: a5 :: a6 :: a7 :: a8 :: a9 :: a10 :: a11 :: a12 :: a13 :: a14 :: a15 :: a16 :: a17 :: a18 :: a19 :: a20 :: a21 :: l : va_W)[i]?) = ([a9, a10, a11, a12, a13, a14, a15, a20, a21, a18, a19] : va_W) := rfl
theorem nd_9_10_11_12_13_14_15_20_21_18_19 : va_nd [9, 10, 11, 12, 13, 14, 15, 20, 21, 18, 19] = true := by decide
theorem sm_6_8_15_22_23 {a0 a1 a2 a3 a4 a5 a6 a7 a8 a9 a10 a11 a12 a13 a14 a15 a16 a17 a18 a19 a20 a21 a22 a23 : Nat × va_E} {l : va_W} : ([6, 8, 15, 22, 23] : List Nat).map (fun i => (a0 :: a1 :: a2 :: a3 :: a4 :: a5 :: a6 :: a7 :: a8 :: a9 :: a10 :: a11 :: a12 :: a13 :: a14 :: a15 :: a16 :: a17 :: a18 :: a19 :: a20 :: a21 :: a22 :: a23 :: l : va_W)[i]?) = ([a6, a8, a15, a22, a23] : va_W).map some := rfl
theorem fm_6_8_15_22_23 {a0 a1 a2 a3 a4 a5 a6 a7 a8 a9 a10 a11 a12 a13 a14 a15 a16 a17 a18 a19 a20 a21 a22 a23 : Nat × va_E} {l : va_W} : ([6, 8, 15, 22, 23] : List Nat).filterMap (fun i => (a0 :: a1 :: a2 :: a3 :: a4 :: a5 :: a6 :: a7 :: a8 :: a9 :: a10 :: a11 :: a12 :: a13 :: a14 :: a15 :: a16 :: a17 :: a18 :: a19 :: a20 :: a21 :: a22 :: a23 :: l : va_W)[i]?) = ([a6, a8, a15, a22, a23] : va_W) := rfl
theorem nd_6_8_15_22_23 : va_nd [6, 8, 15, 22, 23] = true := by decide
theorem sm_26_27 {a0 a1 a2 a3 a4 a5 a6 a7 a8 a9 a10 a11 a12 a13 a14 a15 a16 a17 a18 a19 a20 a21 a22 a23 a24 a25 a26 a27 : Nat × va_E} {l : va_W} : ([26, 27] : List Nat).map (fun i => (a0 :: a1 :: a2 :: a3 :: a4 :: a5 :: a6 :: a7 :: a8 :: a9 :: a10 :: a11 :: a12 :: a13 :: a14 :: a15 :: a16 :: a17 :: a18 :: a19 :: a20 :: a21 :: a22 :: a23 :: a24 :: a25 :: a26 :: a27 :: l : va_W)[i]?) = ([a26, a27] : va_W).map some := rfl
theorem fm_26_27 {a0 a1 a2 a3 a4 a5 a6 a7 a8 a9 a10 a11 a12 a13 a14 a15 a16 a17 a18 a19 a20 a21 a22 a23 a24 a25 a26 a27 : Nat × va_E} {l : va_W} : ([26, 27] : List Nat).filterMap (fun i => (a0 :: a1 :: a2 :: a3 :: a4 :: a5 :: a6 :: a7 :: a8 :: a9 :: a10 :: a11 :: a12 :: a13 :: a14 :: a15 :: a16 :: a17 :: a18 :: a19 :: a20 :: a21 :: a22 :: a23 :: a24 :: a25 :: a26 :: a27 :: l : va_W)[i]?) = ([a26, a27] : va_W) := rfl
theorem nd_26_27 : va_nd [26, 27] = true := by decide
theorem dj_0_1_2_3_4_5_6_7_8_9_10_11_12_13_14_15_16_17_18_19_20_21_22_23_24_25__26_27 : ∀ i ∈ ([26, 27] : List Nat), i ∉ ([0, 1, 2, 3, 4, 5, 6, 7, 8, 9, 10, 11, 12, 13, 14, 15, 16, 17, 18, 19, 20, 21, 22, 23, 24, 25] : List Nat) := by decide
theorem rm_8_7_6 {mc ms : Nat} : 7 + 1 ≤ (RM 8 mc ms).frames ∧ 8 + (6 + 11) + 40 * 7 ≤ (RM 8 mc ms).locals := ⟨by show 7 + 1 ≤ 8; decide, by show 8 + (6 + 11) + 40 * 7 ≤ 40 * 8; decide⟩
theorem sm_0_1_2_3_4_5_6_7_8_9_10_11_12_13_14_15_16_17_18_19_20_21_22_23_24_25_26_27 {a0 a1 a2 a3 a4 a5 a6 a7 a8 a9 a10 a11 a12 a13 a14 a15 a16 a17 a18 a19 a20 a21 a22 a23 a24 a25 a26 a27 : Nat × va_E} {l : va_W} : ([0, 1, 2, 3, 4, 5, 6, 7, 8, 9, 10, 11, 12, 13, 14, 15, 16, 17, 18, 19, 20, 21, 22, 23, 24, 25, 26, 27] : List Nat).map (fun i => (a0 :: a1 :: a2 :: a3 :: a4 :: a5 :: a6 :: a7 :: a8 :: a9 :: a10 :: a11 :: a12 :: a13 :: a14 :: a15 :: a16 :: a17 :: a18 :: a19 :: a20 :: a21 :: a22 :: a23 :: a24 :: a25 :: a26 :: a27 :: l : va_W)[i]?) = ([a0, a1, a2, a3, a4, a5, a6, a7, a8, a9, a10, a11, a12, a13, a14, a15, a16, a17, a18, a19, a20, a21, a22, a23, a24, a25, a26, a27] : va_W).map some := rfl
theorem fm_0_1_2_3_4_5_6_7_8_9_10_11_12_13_14_15_16_17_18_19_20_21_22_23_24_25_26_27 {a0 a1 a2 a3 a4 a5 a6 a7 a8 a9 a10 a11 a12 a13 a14 a15 a16 a17 a18 a19 a20 a21 a22 a23 a24 a25 a26 a27 : Nat × va_E} {l : va_W} : ([0, 1, 2, 3, 4, 5, 6, 7, 8, 9, 10, 11, 12, 13, 14, 15, 16, 17, 18, 19, 20, 21, 22, 23, 24, 25, 26, 27] : List Nat).filterMap (fun i => (a0 :: a1 :: a2 :: a3 :: a4 :: a5 :: a6 :: a7 :: a8 :: a9 :: a10 :: a11 :: a12 :: a13 :: a14 :: a15 :: a16 :: a17 :: a18 :: a19 :: a20 :: a21 :: a22 :: a23 :: a24 :: a25 :: a26 :: a27 :: l : va_W)[i]?) = ([a0, a1, a2, a3, a4, a5, a6, a7, a8, a9, a10, a11, a12, a13, a14, a15, a16, a17, a18, a19, a20, a21, a22, a23, a24, a25, a26, a27] : va_W) := rfl
theorem nd_0_1_2_3_4_5_6_7_8_9_10_11_12_13_14_15_16_17_18_19_20_21_22_23_24_25_26_27 : va_nd [0, 1, 2, 3, 4, 5, 6, 7, 8, 9, 10, 11, 12, 13, 14, 15, 16, 17, 18, 19, 20, 21, 22, 23, 24, 25, 26, 27] = true := by decide
theorem rm_8_1_1 {mc ms : Nat} : 1 + 1 ≤ (RM 8 mc ms).frames ∧ 8 + (1 + 11) + 40 * 1 ≤ (RM 8 mc ms).locals := ⟨by show 1 + 1 ≤ 8; decide, by show 8 + (1 + 11) + 40 * 1 ≤ 40 * 8; decide⟩
theorem sm_18 {a0 a1 a2 a3 a4 a5 a6 a7 a8 a9 a10 a11 a12 a13 a14 a15 a16 a17 a18 : Nat × va_E} {l : va_W} : ([18] : List Nat).map (fun i => (a0 :: a1 :: a2 :: a3 :: a4 :: a5 :: a6 :: a7 :: a8 :: a9 :: a10 :: a11 :: a12 :: a13 :: a14 :: a15 :: a16 :: a17 :: a18 :: l : va_W)[i]?) = ([a18] : va_W).map some := rfl
theorem fm_18 {a0 a1 a2 a3 a4 a5 a6 a7 a8 a9 a10 a11 a12 a13 a14 a15 a16 a17 a18 : Nat × va_E} {l : va_W} : ([18] : List Nat).filterMap (fun i => (a0 :: a1 :: a2 :: a3 :: a4 :: a5 :: a6 :: a7 :: a8 :: a9 :: a10 :: a11 :: a12 :: a13 :: a14 :: a15 :: a16 :: a17 :: a18 :: l : va_W)[i]?) = ([a18] : va_W) := rfl
theorem nd_18 : va_nd [18] = true := by decide
theorem rm_8_1_2 {mc ms : Nat} : 1 + 1 ≤ (RM 8 mc ms).frames ∧ 8 + (2 + 11) + 40 * 1 ≤ (RM 8 mc ms).locals := ⟨by show 1 + 1 ≤ 8; decide, by show 8 + (2 + 11) + 40 * 1 ≤ 40 * 8; decide⟩
theorem sm_26 {a0 a1 a2 a3 a4 a5 a6 a7 a8 a9 a10 a11 a12 a13 a14 a15 a16 a17 a18 a19 a20 a21 a22 a23 a24 a25 a26 : Nat × va_E} {l : va_W} : ([26] : List Nat).map (fun i => (a0 :: a1 :: a2 :: a3 :: a4 :: a5 :: a6 :: a7 :: a8 :: a9 :: a10 :: a11 :: a12 :: a13 :: a14 :: a15 :: a16 :: a17 :: a18 :: a19 :: a20 :: a21 :: a22 :: a23 :: a24 :: a25 :: a26 :: l : va_W)[i]?) = ([a26] : va_W).map some := rfl
theorem fm_26 {a0 a1 a2 a3 a4 a5 a6 a7 a8 a9 a10 a11 a12 a13 a14 a15 a16 a17 a18 a19 a20 a21 a22 a23 a24 a25 a26 : Nat × va_E} {l : va_W} : ([26] : List Nat).filterMap (fun i => (a0 :: a1 :: a2 :: a3 :: a4 :: a5 :: a6 :: a7 :: a8 :: a9 :: a10 :: a11 :: a12 :: a13 :: a14 :: a15 :: a16 :: a17 :: a18 :: a19 :: a20 :: a21 :: a22 :: a23 :: a24 :: a25 :: a26 :: l : va_W)[i]?) = ([a26] : va_W) := rfl
theorem nd_26 : va_nd [26] = true := by decide
theorem sm_15_16 {a0 a1 a2 a3 a4 a5 a6 a7 a8 a9 a10 a11 a12 a13 a14 a15 a16 : Nat × va_E} {l : va_W} : ([15, 16] : List Nat).map (fun i => (a0 :: a1 :: a2 :: a3 :: a4 :: a5 :: a6 :: a7 :: a8 :: a9 :: a10 :: a11 :: a12 :: a13 :: a14 :: a15 :: a16 :: l : va_W)[i]?) = ([a15, a16] : va_W).map some := rfl
theorem fm_15_16 {a0 a1 a2 a3 a4 a5 a6 a7 a8 a9 a10 a11 a12 a13 a14 a15 a16 : Nat × va_E} {l : va_W} : ([15, 16] : List Nat).filterMap (fun i => (a0 :: a1 :: a2 :: a3 :: a4 :: a5 :: a6 :: a7 :: a8 :: a9 :: a10 :: a11 :: a12 :: a13 :: a14 :: a15 :: a16 :: l : va_W)[i]?) = ([a15, a16] : va_W) := rfl
theorem nd_15_16 : va_nd [15, 16] = true := by decide
theorem rm_7_4_5 {mc ms : Nat} : 4 + 1 ≤ (RM 7 mc ms).frames ∧ 8 + (5 + 11) + 40 * 4 ≤ (RM 7 mc ms).locals := ⟨by show 4 + 1 ≤ 7; decide, by show 8 + (5 + 11) + 40 * 4 ≤ 40 * 7; decide⟩
theorem sm_1_2_4_5_6_7_8_9_10_11_12_13_14 {a0 a1 a2 a3 a4 a5 a6 a7 a8 a9 a10 a11 a12 a13 a14 : Nat × va_E} {l : va_W} : ([1, 2, 4, 5, 6, 7, 8, 9, 10, 11, 12, 13, 14] : List Nat).map (fun i => (a0 :: a1 :: a2 :: a3 :: a4 :: a5 :: a6 :: a7 :: a8 :: a9 :: a10 :: a11 :: a12 :: a13 :: a14 :: l : va_W)[i]?) = ([a1, a2, a4, a5, a6, a7, a8, a9, a10, a11, a12, a13, a14] : va_W).map some := rfl
theorem fm_1_2_4_5_6_7_8_9_10_11_12_13_14 {a0 a1 a2 a3 a4 a5 a6 a7 a8 a9 a10 a11 a12 a13 a14 : Nat × va_E} {l : va_W} : ([1, 2, 4, 5, 6, 7, 8, 9, 10, 11, 12, 13, 14] : List Nat).filterMap (fun i => (a0 :: a1 :: a2 :: a3 :: a4 :: a5 :: a6 :: a7 :: a8 :: a9 :: a10 :: a11 :: a12 :: a13 :: a14 :: l : va_W)[i]?) = ([a1, a2, a4, a5, a6, a7, a8, a9, a10, a11, a12, a13, a14] : va_W) := rfl
theorem nd_1_2_4_5_6_7_8_9_10_11_12_13_14 : va_nd [1, 2, 4, 5, 6, 7, 8, 9, 10, 11, 12, 13, 14] = true := by decide
theorem sm_0_3_15_16_17_18_19_20 {a0 a1 a2 a3 a4 a5 a6 a7 a8 a9 a10 a11 a12 a13 a14 a15 a16 a17 a18 a19 a20 : Nat × va_E} {l : va_W} : ([0, 3, 15, 16, 17, 18, 19, 20] : List Nat).map (fun i => (a0 :: a1 :: a2 :: a3 :: a4 :: a5 :: a6 :: a7 :: a8 :: a9 :: a10 :: a11 :: a12 :: a13 :: a14 :: a15 :: a16 :: a17 :: a18 :: a19 :: a20 :: l : va_W)[i]?) = ([a0, a3, a15, a16, a17, a18, a19, a20] : va_W).map some := rfl
theorem nd_0_3_15_16_17_18_19_20 : va_nd [0, 3, 15, 16, 17, 18, 19, 20] = true := by decide
theorem dj_1_2_4_5_6_7_8_9_10_11_12_13_14__0_3_15_16_17_18_19_20 : ∀ i ∈ ([0, 3, 15, 16, 17, 18, 19, 20] : List Nat), i ∉ ([1, 2, 4, 5, 6, 7, 8, 9, 10, 11, 12, 13, 14] : List Nat) := by decide
theorem sm_10_4_5 {a0 a1 a2 a3 a4 a5 a6 a7 a8 a9 a10 : Nat × va_E} {l : va_W} : ([10, 4, 5] : List Nat).map (fun i => (a0 :: a1 :: a2 :: a3 :: a4 :: a5 :: a6 :: a7 :: a8 :: a9 :: a10 :: l : va_W)[i]?) = ([a10, a4, a5] : va_W).map some := rfl
theorem fm_10_4_5 {a0 a1 a2 a3 a4 a5 a6 a7 a8 a9 a10 : Nat × va_E} {l : va_W} : ([10, 4, 5] : List Nat).filterMap (fun i => (a0 :: a1 :: a2 :: a3 :: a4 :: a5 :: a6 :: a7 :: a8 :: a9 :: a10 :: l : va_W)[i]?) = ([a10, a4, a5] : va_W) := rfl
theorem nd_10_4_5 : va_nd [10, 4, 5] = true := by decide
theorem sm_8_10_17_18 {a0 a1 a2 a3 a4 a5 a6 a7 a8 a9 a10 a11 a12 a13 a14 a15 a16 a17 a18 : Nat × va_E} {l : va_W} : ([8, 10, 17, 18] : List Nat).map (fun i => (a0 :: a1 :: a2 :: a3 :: a4 :: a5 :: a6 :: a7 :: a8 :: a9 :: a10 :: a11 :: a12 :: a13 :: a14 :: a15 :: a16 :: a17 :: a18 :: l : va_W)[i]?) = ([a8, a10, a17, a18] : va_W).map some := rfl
theorem fm_8_10_17_18 {a0 a1 a2 a3 a4 a5 a6 a7 a8 a9 a10 a11 a12 a13 a14 a15 a16 a17 a18 : Nat × va_E} {l : va_W} : ([8, 10, 17, 18] : List Nat).filterMap (fun i => (a0 :: a1 :: a2 :: a3 :: a4 :: a5 :: a6 :: a7 :: a8 :: a9 :: a10 :: a11 :: a12 :: a13 :: a14 :: a15 :: a16 :: a17 :: a18 :: l : va_W)[i]?) = ([a8, a10, a17, a18] : va_W) := rfl
theorem nd_8_10_17_18 : va_nd [8, 10, 17, 18] = true := by decide
theorem sm_10 {a0 a1 a2 a3 a4 a5 a6 a7 a8 a9 a10 : Nat × va_E} {l : va_W} : ([10] : List Nat).map (fun i => (a0 :: a1 :: a2 :: a3 :: a4 :: a5 :: a6 :: a7 :: a8 :: a9 :: a10 :: l : va_W)[i]?) = ([a10] : va_W).map some := rfl
theorem fm_10 {a0 a1 a2 a3 a4 a5 a6 a7 a8 a9 a10 : Nat × va_E} {l : va_W} : ([10] : List Nat).filterMap (fun i => (a0 :: a1 :: a2 :: a3 :: a4 :: a5 :: a6 :: a7 :: a8 :: a9 :: a10 :: l : va_W)[i]?) = ([a10] : va_W) := rfl
theorem nd_10 : va_nd [10] = true := by decide
theorem rm_7_3_5 {mc ms : Nat} : 3 + 1 ≤ (RM 7 mc ms).frames ∧ 8 + (5 + 11) + 40 * 3 ≤ (RM 7 mc ms).locals := ⟨by show 3 + 1 ≤ 7; decide, by show 8 + (5 + 11) + 40 * 3 ≤ 40 * 7; decide⟩
theorem sm_10_6_7 {a0 a1 a2 a3 a4 a5 a6 a7 a8 a9 a10 : Nat × va_E} {l : va_W} : ([10, 6, 7] : List Nat).map (fun i => (a0 :: a1 :: a2 :: a3 :: a4 :: a5 :: a6 :: a7 :: a8 :: a9 :: a10 :: l : va_W)[i]?) = ([a10, a6, a7] : va_W).map some := rfl
theorem fm_10_6_7 {a0 a1 a2 a3 a4 a5 a6 a7 a8 a9 a10 : Nat × va_E} {l : va_W} : ([10, 6, 7] : List Nat).filterMap (fun i => (a0 :: a1 :: a2 :: a3 :: a4 :: a5 :: a6 :: a7 :: a8 :: a9 :: a10 :: l : va_W)[i]?) = ([a10, a6, a7] : va_W) := rfl
theorem nd_10_6_7 : va_nd [10, 6, 7] = true := by decide
theorem rm_9_1_2 {mc ms : Nat} : 1 + 1 ≤ (RM 9 mc ms).frames ∧ 8 + (2 + 11) + 40 * 1 ≤ (RM 9 mc ms).locals := ⟨by show 1 + 1 ≤ 9; decide, by show 8 + (2 + 11) + 40 * 1 ≤ 40 * 9; decide⟩
theorem rm_9_3_6 {mc ms : Nat} : 3 + 1 ≤ (RM 9 mc ms).frames ∧ 8 + (6 + 11) + 40 * 3 ≤ (RM 9 mc ms).locals := ⟨by show 3 + 1 ≤ 9; decide, by show 8 + (6 + 11) + 40 * 3 ≤ 40 * 9; decide⟩
theorem rm_9_1_3 {mc ms : Nat} : 1 + 1 ≤ (RM 9 mc ms).frames ∧ 8 + (3 + 11) + 40 * 1 ≤ (RM 9 mc ms).locals := ⟨by show 1 + 1 ≤ 9; decide, by show 8 + (3 + 11) + 40 * 1 ≤ 40 * 9; decide⟩
theorem rm_9_7_6 {mc ms : Nat} : 7 + 1 ≤ (RM 9 mc ms).frames ∧ 8 + (6 + 11) + 40 * 7 ≤ (RM 9 mc ms).locals := ⟨by show 7 + 1 ≤ 9; decide, by show 8 + (6 + 11) + 40 * 7 ≤ 40 * 9; decide⟩
theorem sm_28_29_30_31 {a0 a1 a2 a3 a4 a5 a6 a7 a8 a9 a10 a11 a12 a13 a14 a15 a16 a17 a18 a19 a20 a21 a22 a23 a24 a25 a26 a27 a28 a29 a30 a31 : Nat × va_E} {l : va_W} : ([28, 29, 30, 31] : List Nat).map (fun i => (a0 :: a1 :: a2 :: a3 :: a4 :: a5 :: a6 :: a7 :: a8 :: a9 :: a10 :: a11 :: a12 :: a13 :: a14 :: a15 :: a16 :: a17 :: a18 :: a19 :: a20 :: a21 :: a22 :: a23 :: a24 :: a25 :: a26 :: a27 :: a28 :: a29 :: a30 :: a31 :: l : va_W)[i]?) = ([a28, a29, a30, a31] : va_W).map some := rfl
theorem nd_28_29_30_31 : va_nd [28, 29, 30, 31] = true := by decide
theorem dj_0_1_2_3_4_5_6_7_8_9_10_11_12_13_14_15_16_17_18_19_20_21_22_23_24_25_26_27__28_29_30_31 : ∀ i ∈ ([28, 29, 30, 31] : List Nat), i ∉ ([0, 1, 2, 3, 4, 5, 6, 7, 8, 9, 10, 11, 12, 13, 14, 15, 16, 17, 18, 19, 20, 21, 22, 23, 24, 25, 26, 27] : List Nat) := by decide
theorem rm_9_8_5 {mc ms : Nat} : 8 + 1 ≤ (RM 9 mc ms).frames ∧ 8 + (5 + 11) + 40 * 8 ≤ (RM 9 mc ms).locals := ⟨by show 8 + 1 ≤ 9; decide, by show 8 + (5 + 11) + 40 * 8 ≤ 40 * 9; decide⟩
theorem rm_9_7_7 {mc ms : Nat} : 7 + 1 ≤ (RM 9 mc ms).frames ∧ 8 + (7 + 11) + 40 * 7 ≤ (RM 9 mc ms).locals := ⟨by show 7 + 1 ≤ 9; decide, by show 8 + (7 + 11) + 40 * 7 ≤ 40 * 9; decide⟩
theorem sm_4_14_15_16_17_18_19_20_21_22_23_24_25_26_27_30_31_0_1_2_3 {a0 a1 a2 a3 a4 a5 a6 a7 a8 a9 a10 a11 a12 a13 a14 a15 a16 a17 a18 a19 a20 a21 a22 a23 a24 a25 a26 a27 a28 a29 a30 a31 : Nat × va_E} {l : va_W} : ([4, 14, 15, 16, 17, 18, 19, 20, 21, 22, 23, 24, 25, 26, 27, 30, 31, 0, 1, 2, 3] : List Nat).map (fun i => (a0 :: a1 :: a2 :: a3 :: a4 :: a5 :: a6 :: a7 :: a8 :: a9 :: a10 :: a11 :: a12 :: a13 :: a14 :: a15 :: a16 :: a17 :: a18 :: a19 :: a20 :: a21 :: a22 :: a23 :: a24 :: a25 :: a26 :: a27 :: a28 :: a29 :: a30 :: a31 :: l : va_W)[i]?) = ([a4, a14, a15, a16, a17, a18, a19, a20, a21, a22, a23, a24, a25, a26, a27, a30, a31, a0, a1, a2, a3] : va_W).map some := rfl
theorem fm_4_14_15_16_17_18_19_20_21_22_23_24_25_26_27_30_31_0_1_2_3 {a0 a1 a2 a3 a4 a5 a6 a7 a8 a9 a10 a11 a12 a13 a14 a15 a16 a17 a18 a19 a20 a21 a22 a23 a24 a25 a26 a27 a28 a29 a30 a31 : Nat × va_E} {l : va_W} : ([4, 14, 15, 16, 17, 18, 19, 20, 21, 22, 23, 24, 25, 26, 27, 30, 31, 0, 1, 2, 3] : List Nat).filterMap (fun i => (a0 :: a1 :: a2 :: a3 :: a4 :: a5 :: a6 :: a7 :: a8 :: a9 :: a10 :: a11 :: a12 :: a13 :: a14 :: a15 :: a16 :: a17 :: a18 :: a19 :: a20 :: a21 :: a22 :: a23 :: a24 :: a25 :: a26 :: a27 :: a28 :: a29 :: a30 :: a31 :: l : va_W)[i]?) = ([a4, a14, a15, a16, a17, a18, a19, a20, a21, a22, a23, a24, a25, a26, a27, a30, a31, a0, a1, a2, a3] : va_W) := rfl
theorem nd_4_14_15_16_17_18_19_20_21_22_23_24_25_26_27_30_31_0_1_2_3 : va_nd [4, 14, 15, 16, 17, 18, 19, 20, 21, 22, 23, 24, 25, 26, 27, 30, 31, 0, 1, 2, 3] = true := by decide
theorem sm_5_6_7_8_9_10_11_12_13_28_29 {a0 a1 a2 a3 a4 a5 a6 a7 a8 a9 a10 a11 a12 a13 a14 a15 a16 a17 a18 a19 a20 a21 a22 a23 a24 a25 a26 a27 a28 a29 : Nat × va_E} {l : va_W} : ([5, 6, 7, 8, 9, 10, 11, 12, 13, 28, 29] : List Nat).map (fun i => (a0 :: a1 :: a2 :: a3 :: a4 :: a5 :: a6 :: a7 :: a8 :: a9 :: a10 :: a11 :: a12 :: a13 :: a14 :: a15 :: a16 :: a17 :: a18 :: a19 :: a20 :: a21 :: a22 :: a23 :: a24 :: a25 :: a26 :: a27 :: a28 :: a29 :: l : va_W)[i]?) = ([a5, a6, a7, a8, a9, a10, a11, a12, a13, a28, a29] : va_W).map some := rfl
theorem nd_5_6_7_8_9_10_11_12_13_28_29 : va_nd [5, 6, 7, 8, 9, 10, 11, 12, 13, 28, 29] = true := by decide
theorem dj_4_14_15_16_17_18_19_20_21_22_23_24_25_26_27_30_31_0_1_2_3__5_6_7_8_9_10_11_12_13_28_29 : ∀ i ∈ ([5, 6, 7, 8, 9, 10, 11, 12, 13, 28, 29] : List Nat), i ∉ ([4, 14, 15, 16, 17, 18, 19, 20, 21, 22, 23, 24, 25, 26, 27, 30, 31, 0, 1, 2, 3] : List Nat) := by decide
theorem sm_14 {a0 a1 a2 a3 a4 a5 a6 a7 a8 a9 a10 a11 a12 a13 a14 : Nat × va_E} {l : va_W} : ([14] : List Nat).map (fun i => (a0 :: a1 :: a2 :: a3 :: a4 :: a5 :: a6 :: a7 :: a8 :: a9 :: a10 :: a11 :: a12 :: a13 :: a14 :: l : va_W)[i]?) = ([a14] : va_W).map some := rfl
theorem fm_14 {a0 a1 a2 a3 a4 a5 a6 a7 a8 a9 a10 a11 a12 a13 a14 : Nat × va_E} {l : va_W} : ([14] : List Nat).filterMap (fun i => (a0 :: a1 :: a2 :: a3 :: a4 :: a5 :: a6 :: a7 :: a8 :: a9 :: a10 :: a11 :: a12 :: a13 :: a14 :: l : va_W)[i]?) = ([a14] : va_W) := rfl
theorem nd_14 : va_nd [14] = true := by decide
theorem rm_8_1_3 {mc ms : Nat} : 1 + 1 ≤ (RM 8 mc ms).frames ∧ 8 + (3 + 11) + 40 * 1 ≤ (RM 8 mc ms).locals := ⟨by show 1 + 1 ≤ 8; decide, by show 8 + (3 + 11) + 40 * 1 ≤ 40 * 8; decide⟩
theorem rm_8_3_6 {mc ms : Nat} : 3 + 1 ≤ (RM 8 mc ms).frames ∧ 8 + (6 + 11) + 40 * 3 ≤ (RM 8 mc ms).locals := ⟨by show 3 + 1 ≤ 8; decide, by show 8 + (6 + 11) + 40 * 3 ≤ 40 * 8; decide⟩
theorem sm_11_12_13 {a0 a1 a2 a3 a4 a5 a6 a7 a8 a9 a10 a11 a12 a13 : Nat × va_E} {l : va_W} : ([11, 12, 13] : List Nat).map (fun i => (a0 :: a1 :: a2 :: a3 :: a4 :: a5 :: a6 :: a7 :: a8 :: a9 :: a10 :: a11 :: a12 :: a13 :: l : va_W)[i]?) = ([a11, a12, a13] : va_W).map some := rfl
theorem fm_11_12_13 {a0 a1 a2 a3 a4 a5 a6 a7 a8 a9 a10 a11 a12 a13 : Nat × va_E} {l : va_W} : ([11, 12, 13] : List Nat).filterMap (fun i => (a0 :: a1 :: a2 :: a3 :: a4 :: a5 :: a6 :: a7 :: a8 :: a9 :: a10 :: a11 :: a12 :: a13 :: l : va_W)[i]?) = ([a11, a12, a13] : va_W) := rfl
theorem nd_11_12_13 : va_nd [11, 12, 13] = true := by decide
theorem rm_8_5_4 {mc ms : Nat} : 5 + 1 ≤ (RM 8 mc ms).frames ∧ 8 + (4 + 11) + 40 * 5 ≤ (RM 8 mc ms).locals := ⟨by show 5 + 1 ≤ 8; decide, by show 8 + (4 + 11) + 40 * 5 ≤ 40 * 8; decide⟩
theorem sm_1_2_3_4_5_6_7_8_9_11_18_19 {a0 a1 a2 a3 a4 a5 a6 a7 a8 a9 a10 a11 a12 a13 a14 a15 a16 a17 a18 a19 : Nat × va_E} {l : va_W} : ([1, 2, 3, 4, 5, 6, 7, 8, 9, 11, 18, 19] : List Nat).map (fun i => (a0 :: a1 :: a2 :: a3 :: a4 :: a5 :: a6 :: a7 :: a8 :: a9 :: a10 :: a11 :: a12 :: a13 :: a14 :: a15 :: a16 :: a17 :: a18 :: a19 :: l : va_W)[i]?) = ([a1, a2, a3, a4, a5, a6, a7, a8, a9, a11, a18, a19] : va_W).map some := rfl
theorem fm_1_2_3_4_5_6_7_8_9_11_18_19 {a0 a1 a2 a3 a4 a5 a6 a7 a8 a9 a10 a11 a12 a13 a14 a15 a16 a17 a18 a19 : Nat × va_E} {l : va_W} : ([1, 2, 3, 4, 5, 6, 7, 8, 9, 11, 18, 19] : List Nat).filterMap (fun i => (a0 :: a1 :: a2 :: a3 :: a4 :: a5 :: a6 :: a7 :: a8 :: a9 :: a10 :: a11 :: a12 :: a13 :: a14 :: a15 :: a16 :: a17 :: a18 :: a19 :: l : va_W)[i]?) = ([a1, a2, a3, a4, a5, a6, a7, a8, a9, a11, a18, a19] : va_W) := rfl
theorem nd_1_2_3_4_5_6_7_8_9_11_18_19 : va_nd [1, 2, 3, 4, 5, 6, 7, 8, 9, 11, 18, 19] = true := by decide
theorem sm_0_10_12_13_14_15_16_17 {a0 a1 a2 a3 a4 a5 a6 a7 a8 a9 a10 a11 a12 a13 a14 a15 a16 a17 : Nat × va_E} {l : va_W} : ([0, 10, 12, 13, 14, 15, 16, 17] : List Nat).map (fun i => (a0 :: a1 :: a2 :: a3 :: a4 :: a5 :: a6 :: a7 :: a8 :: a9 :: a10 :: a11 :: a12 :: a13 :: a14 :: a15 :: a16 :: a17 :: l : va_W)[i]?) = ([a0, a10, a12, a13, a14, a15, a16, a17] : va_W).map some := rfl
theorem nd_0_10_12_13_14_15_16_17 : va_nd [0, 10, 12, 13, 14, 15, 16, 17] = true := by decide
theorem dj_1_2_3_4_5_6_7_8_9_11_18_19__0_10_12_13_14_15_16_17 : ∀ i ∈ ([0, 10, 12, 13, 14, 15, 16, 17] : List Nat), i ∉ ([1, 2, 3, 4, 5, 6, 7, 8, 9, 11, 18, 19] : List Nat) := by decide
theorem rm_8_6_7 {mc ms : Nat} : 6 + 1 ≤ (RM 8 mc ms).frames ∧ 8 + (7 + 11) + 40 * 6 ≤ (RM 8 mc ms).locals := ⟨by show 6 + 1 ≤ 8; decide, by show 8 + (7 + 11) + 40 * 6 ≤ 40 * 8; decide⟩
theorem sm_1_8_12_13_14_15_16_17_2_3_4_5_6_7 {a0 a1 a2 a3 a4 a5 a6 a7 a8 a9 a10 a11 a12 a13 a14 a15 a16 a17 : Nat × va_E} {l : va_W} : ([1, 8, 12, 13, 14, 15, 16, 17, 2, 3, 4, 5, 6, 7] : List Nat).map (fun i => (a0 :: a1 :: a2 :: a3 :: a4 :: a5 :: a6 :: a7 :: a8 :: a9 :: a10 :: a11 :: a12 :: a13 :: a14 :: a15 :: a16 :: a17 :: l : va_W)[i]?) = ([a1, a8, a12, a13, a14, a15, a16, a17, a2, a3, a4, a5, a6, a7] : va_W).map some := rfl
theorem fm_1_8_12_13_14_15_16_17_2_3_4_5_6_7 {a0 a1 a2 a3 a4 a5 a6 a7 a8 a9 a10 a11 a12 a13 a14 a15 a16 a17 : Nat × va_E} {l : va_W} : ([1, 8, 12, 13, 14, 15, 16, 17, 2, 3, 4, 5, 6, 7] : List Nat).filterMap (fun i => (a0 :: a1 :: a2 :: a3 :: a4 :: a5 :: a6 :: a7 :: a8 :: a9 :: a10 :: a11 :: a12 :: a13 :: a14 :: a15 :: a16 :: a17 :: l : va_W)[i]?) = ([a1, a8, a12, a13, a14, a15, a16, a17, a2, a3, a4, a5, a6, a7] : va_W) := rfl
theorem nd_1_8_12_13_14_15_16_17_2_3_4_5_6_7 : va_nd [1, 8, 12, 13, 14, 15, 16, 17, 2, 3, 4, 5, 6, 7] = true := by decide
theorem sm_0_9_10_11_18_19 {a0 a1 a2 a3 a4 a5 a6 a7 a8 a9 a10 a11 a12 a13 a14 a15 a16 a17 a18 a19 : Nat × va_E} {l : va_W} : ([0, 9, 10, 11, 18, 19] : List Nat).map (fun i => (a0 :: a1 :: a2 :: a3 :: a4 :: a5 :: a6 :: a7 :: a8 :: a9 :: a10 :: a11 :: a12 :: a13 :: a14 :: a15 :: a16 :: a17 :: a18 :: a19 :: l : va_W)[i]?) = ([a0, a9, a10, a11, a18, a19] : va_W).map some := rfl
theorem nd_0_9_10_11_18_19 : va_nd [0, 9, 10, 11, 18, 19] = true := by decide
theorem dj_1_8_12_13_14_15_16_17_2_3_4_5_6_7__0_9_10_11_18_19 : ∀ i ∈ ([0, 9, 10, 11, 18, 19] : List Nat), i ∉ ([1, 8, 12, 13, 14, 15, 16, 17, 2, 3, 4, 5, 6, 7] : List Nat) := by decide
def K_p_clash (l : Launch) (G : GG) (h0 : Nat) (x1 : Int32) (bb : Nat) (kk : Nat) (ikp : Int32) (sg : Nat) (do9 : Nat) (ru9 : Nat) (ta9 : Nat) (tp9 : Nat) (ro9 : Nat) (ho9 : Nat) (de9 : Nat) (bpersons : Nat) (bpapers : Nat) (bstamps : Nat) (bversions : Nat) (blines : Nat) (bsteps : Nat) (bsayings : Nat) (bfindings : Nat) (bwarnings : Nat) (bquestions : Nat) (td : Int32) (vd : Int32) (vl : Int32) (gp : Int32) (clk : Nat) (fi : Nat) (la : Nat) (ml : Nat) (mm : Nat) (sl : Nat) (sm : Nat) (cl : Int32) (clm : Nat) (fclm : Nat → Int32) (ffi : Nat → Int32) (fla : Nat → Int32) (fml : Nat → Int32) (fmm : Nat → Int32) (fsl : Nat → Int32) (fsm : Nat → Int32) (hd : Nat) (bo : Int32) (le : Int32) (bi : Int32) (hf : Nat → Option Nat) (kc0 : Nat) (km0 : Nat) (fk0 : Nat → Int32) (kc1 : Nat) (km1 : Nat) (fk1 : Nat → Int32) (kc2 : Nat) (km2 : Nat) (fk2 : Nat → Int32) (kc3 : Nat) (km3 : Nat) (fk3 : Nat → Int32) (kc4 : Nat) (km4 : Nat) (fk4 : Nat → Int32) (kc5 : Nat) (km5 : Nat) (fk5 : Nat → Int32) (kc6 : Nat) (km6 : Nat) (fk6 : Nat → Int32) (kc7 : Nat) (km7 : Nat) (fk7 : Nat → Int32) (kc8 : Nat) (km8 : Nat) (fk8 : Nat → Int32) (kc9 : Nat) (km9 : Nat) (fk9 : Nat → Int32) (kc10 : Nat) (km10 : Nat) (fk10 : Nat → Int32) (kc11 : Nat) (km11 : Nat) (fk11 : Nat → Int32) (kc12 : Nat) (km12 : Nat) (fk12 : Nat → Int32) (bpapersc : Nat) (kbpapers : Nat) (fbpapers : Nat → Int32) (bstampsc : Nat) (kbstamps : Nat) (fbstamps : Nat → Int32) : Prop := MI l G yX11_clash cX11_clash 2 (some .int) 42 0 0 [.ref h0, .int x1] [(h0, oX11 bb kk ikp sg do9 ru9 ta9 tp9 ro9 ho9 de9), (bb, oX0 bpersons bpapers bstamps bversions blines bsteps bsayings bfindings bwarnings bquestions td vd vl gp), (sg, oX7 bb clk fi la ml mm sl sm cl), (clk, oX1 clm), (clm, iA G 36 fclm), (fi, iA G 12 ffi), (la, iA G 12 fla), (ml, iA G 12 fml), (mm, iA G 12 fmm), (sl, iA G 12 fsl), (sm, iA G 12 fsm), (do9, oX3 bb hd bo le bi), (hd, cA G 13 hf), (kc0, oX1 km0), (km0, iA G 36 fk0), (kc1, oX1 km1), (km1, iA G 36 fk1), (kc2, oX1 km2), (km2, iA G 36 fk2), (kc3, oX1 km3), (km3, iA G 36 fk3), (kc4, oX1 km4), (km4, iA G 36 fk4), (kc5, oX1 km5), (km5, iA G 36 fk5), (kc6, oX1 km6), (km6, iA G 36 fk6), (kc7, oX1 km7), (km7, iA G 36 fk7), (kc8, oX1 km8), (km8, iA G 36 fk8), (kc9, oX1 km9), (km9, iA G 36 fk9), (kc10, oX1 km10), (km10, iA G 36 fk10), (kc11, oX1 km11), (km11, iA G 36 fk11), (kc12, oX1 km12), (km12, iA G 36 fk12), (bpapers, oX8 12 6 bpapersc (nI kbpapers)), (bpapersc, iA G 72 fbpapers), (bstamps, oX8 24 3 bstampsc (nI kbstamps)), (bstampsc, iA G 72 fbstamps)] (fun (r : Int32) (u : Int32 × (Nat → Int32) × (Nat → Int32) × (Nat → Int32) × (Nat → Int32) × (Nat → Int32) × (Nat → Int32) × (Nat → Int32) × Int32 × Int32 × Int32 × (Nat → Int32) × (Nat → Int32) × (Nat → Int32) × (Nat → Int32) × (Nat → Int32) × (Nat → Int32) × (Nat → Int32) × (Nat → Int32) × (Nat → Int32) × (Nat → Int32) × (Nat → Int32) × (Nat → Int32) × (Nat → Int32)) => (True) ∧ (u.1 = 0 ∨ u.1 = 1)) (fun u : Int32 × (Nat → Int32) × (Nat → Int32) × (Nat → Int32) × (Nat → Int32) × (Nat → Int32) × (Nat → Int32) × (Nat → Int32) × Int32 × Int32 × Int32 × (Nat → Int32) × (Nat → Int32) × (Nat → Int32) × (Nat → Int32) × (Nat → Int32) × (Nat → Int32) × (Nat → Int32) × (Nat → Int32) × (Nat → Int32) × (Nat → Int32) × (Nat → Int32) × (Nat → Int32) × (Nat → Int32) => [(h0, oX11 bb kk ikp sg do9 ru9 ta9 tp9 ro9 ho9 de9), (bb, oX0 bpersons bpapers bstamps bversions blines bsteps bsayings bfindings bwarnings bquestions td vd vl gp), (sg, oX7 bb clk fi la ml mm sl sm u.1), (clk, oX1 clm), (clm, iA G 36 u.2.1), (fi, iA G 12 u.2.2.1), (la, iA G 12 u.2.2.2.1), (ml, iA G 12 u.2.2.2.2.1), (mm, iA G 12 u.2.2.2.2.2.1), (sl, iA G 12 u.2.2.2.2.2.2.1), (sm, iA G 12 u.2.2.2.2.2.2.2.1), (do9, oX3 bb hd u.2.2.2.2.2.2.2.2.1 u.2.2.2.2.2.2.2.2.2.1 u.2.2.2.2.2.2.2.2.2.2.1), (hd, cA G 13 hf), (kc0, oX1 km0), (km0, iA G 36 u.2.2.2.2.2.2.2.2.2.2.2.1), (kc1, oX1 km1), (km1, iA G 36 u.2.2.2.2.2.2.2.2.2.2.2.2.1), (kc2, oX1 km2), (km2, iA G 36 u.2.2.2.2.2.2.2.2.2.2.2.2.2.1), (kc3, oX1 km3), (km3, iA G 36 u.2.2.2.2.2.2.2.2.2.2.2.2.2.2.1), (kc4, oX1 km4), (km4, iA G 36 u.2.2.2.2.2.2.2.2.2.2.2.2.2.2.2.1), (kc5, oX1 km5), (km5, iA G 36 u.2.2.2.2.2.2.2.2.2.2.2.2.2.2.2.2.1), (kc6, oX1 km6), (km6, iA G 36 u.2.2.2.2.2.2.2.2.2.2.2.2.2.2.2.2.2.1), (kc7, oX1 km7), (km7, iA G 36 u.2.2.2.2.2.2.2.2.2.2.2.2.2.2.2.2.2.2.1), (kc8, oX1 km8), (km8, iA G 36 u.2.2.2.2.2.2.2.2.2.2.2.2.2.2.2.2.2.2.2.1), (kc9, oX1 km9), (km9, iA G 36 u.2.2.2.2.2.2.2.2.2.2.2.2.2.2.2.2.2.2.2.2.1), (kc10, oX1 km10), (km10, iA G 36 u.2.2.2.2.2.2.2.2.2.2.2.2.2.2.2.2.2.2.2.2.2.1), (kc11, oX1 km11), (km11, iA G 36 u.2.2.2.2.2.2.2.2.2.2.2.2.2.2.2.2.2.2.2.2.2.2.1), (kc12, oX1 km12), (km12, iA G 36 u.2.2.2.2.2.2.2.2.2.2.2.2.2.2.2.2.2.2.2.2.2.2.2), (bpapers, oX8 12 6 bpapersc (nI kbpapers)), (bpapersc, iA G 72 fbpapers), (bstamps, oX8 24 3 bstampsc (nI kbstamps)), (bstampsc, iA G 72 fbstamps)])
set_option maxHeartbeats 4000000 in
set_option maxRecDepth 100000 in
theorem p_clash (l : Launch) (G : GG) (h0 : Nat) (x1 : Int32) (bb : Nat) (kk : Nat) (ikp : Int32) (sg : Nat) (do9 : Nat) (ru9 : Nat) (ta9 : Nat) (tp9 : Nat) (ro9 : Nat) (ho9 : Nat) (de9 : Nat) (bpersons : Nat) (bpapers : Nat) (bstamps : Nat) (bversions : Nat) (blines : Nat) (bsteps : Nat) (bsayings : Nat) (bfindings : Nat) (bwarnings : Nat) (bquestions : Nat) (td : Int32) (vd : Int32) (vl : Int32) (gp : Int32) (clk : Nat) (fi : Nat) (la : Nat) (ml : Nat) (mm : Nat) (sl : Nat) (sm : Nat) (cl : Int32) (clm : Nat) (fclm : Nat → Int32) (ffi : Nat → Int32) (fla : Nat → Int32) (fml : Nat → Int32) (fmm : Nat → Int32) (fsl : Nat → Int32) (fsm : Nat → Int32) (hd : Nat) (bo : Int32) (le : Int32) (bi : Int32) (hf : Nat → Option Nat) (kc0 : Nat) (km0 : Nat) (fk0 : Nat → Int32) (kc1 : Nat) (km1 : Nat) (fk1 : Nat → Int32) (kc2 : Nat) (km2 : Nat) (fk2 : Nat → Int32) (kc3 : Nat) (km3 : Nat) (fk3 : Nat → Int32) (kc4 : Nat) (km4 : Nat) (fk4 : Nat → Int32) (kc5 : Nat) (km5 : Nat) (fk5 : Nat → Int32) (kc6 : Nat) (km6 : Nat) (fk6 : Nat → Int32) (kc7 : Nat) (km7 : Nat) (fk7 : Nat → Int32) (kc8 : Nat) (km8 : Nat) (fk8 : Nat → Int32) (kc9 : Nat) (km9 : Nat) (fk9 : Nat → Int32) (kc10 : Nat) (km10 : Nat) (fk10 : Nat → Int32) (kc11 : Nat) (km11 : Nat) (fk11 : Nat → Int32) (kc12 : Nat) (km12 : Nat) (fk12 : Nat → Int32) (bpapersc : Nat) (kbpapers : Nat) (fbpapers : Nat → Int32) (bstampsc : Nat) (kbstamps : Nat) (fbstamps : Nat → Int32) (hkbpapers : kbpapers ≤ 12) (hkbstamps : kbstamps ≤ 24) (hcl : cl = 0 ∨ cl = 1) (hh0 : hf 0 = some kc0) (hh1 : hf 1 = some kc1) (hh2 : hf 2 = some kc2) (hh3 : hf 3 = some kc3) (hh4 : hf 4 = some kc4) (hh5 : hf 5 = some kc5) (hh6 : hf 6 = some kc6) (hh7 : hf 7 = some kc7) (hh8 : hf 8 = some kc8) (hh9 : hf 9 = some kc9) (hh10 : hf 10 = some kc10) (hh11 : hf 11 = some kc11) (hh12 : hf 12 = some kc12) : K_p_clash l G h0 x1 bb kk ikp sg do9 ru9 ta9 tp9 ro9 ho9 de9 bpersons bpapers bstamps bversions blines bsteps bsayings bfindings bwarnings bquestions td vd vl gp clk fi la ml mm sl sm cl clm fclm ffi fla fml fmm fsl fsm hd bo le bi hf kc0 km0 fk0 kc1 km1 fk1 kc2 km2 fk2 kc3 km3 fk3 kc4 km4 fk4 kc5 km5 fk5 kc6 km6 fk6 kc7 km7 fk7 kc8 km8 fk8 kc9 km9 fk9 kc10 km10 fk10 kc11 km11 fk11 kc12 km12 fk12 bpapersc kbpapers fbpapers bstampsc kbstamps fbstamps := by
  refine MI.start (by decide +kernel) (Nat.le_of_ble_eq_true rfl) ?_
  intro p e s m below meth c A ls hC hK hP hD hS hA hl
  refine absQ (fun Q0 hQ0 => ?_)
  have hl : lv_has ls 2 [(0, .ref h0), (1, .int x1)] := hl
  refine Kan8 hC (fun hx hb hr hml hB hown hlocks hnm => ?_)
  refine lv_iload_n hx hb dX11_clash_0 rfl (lv_at1 hl) ?_
  refine lv_iconst (v := 0) hx hb dX11_clash_1 (by decide) ?_
  refine lv_iconst (v := 1) hx hb dX11_clash_2 (by decide) ?_
  refine pS hC hK hl (c_within l G x1 0 1) si_X11_83 rfl rfl (Nat.le_of_ble_eq_true rfl) rm_42_1_3 ⟨by first | exact Nat.le_of_ble_eq_true rfl | exact Nat.zero_le _, by first | exact Nat.le_of_ble_eq_true rfl | exact Nat.zero_le _⟩ dX11_clash_3 (Kors (Keqa fun a2092 => ?_) (Keqa fun a2092 => ?_))
  · refine lv_if_ne (tgt := 11) hx hb dX11_clash_6 (by decide) (fun _ => ?_) (fun c9 => absurd c9 (by decide))
    refine lv_iload_n hx hb dX11_clash_11 rfl (lv_at1 hl) ?_
    refine lv_iconst (v := 1) hx hb dX11_clash_12 (by decide) ?_
    refine lv_icmp_ne (tgt := 31) hx hb dX11_clash_13 (by decide) (fun c_13_2093 => ?_) (fun c_13_2093 => ?_)
    · refine lv_aload_n hx hb dX11_clash_31 rfl (lv_at0 hl) ?_
      refine gf_X11_28 hC rfl hK hP 0 rfl rfl dX11_clash_32 ?_
      refine lv_aload_n hx hb dX11_clash_35 rfl (lv_at0 hl) ?_
      refine gf_X11_15 hC rfl hK hP 0 rfl rfl dX11_clash_36 ?_
      refine pV hC hK hl hP hD (c_inView l G bb bpersons bpapers bstamps bversions blines bsteps bsayings bfindings bwarnings bquestions td vd vl gp bpapersc kbpapers fbpapers (hkbpapers)) si_X11_97 [1, 39, 40] sm_1_39_40 fm_1_39_40 nd_1_39_40 rfl rfl rfl rfl rfl (Nat.le_of_ble_eq_true rfl) rm_42_3_6 ⟨by first | exact Nat.le_of_ble_eq_true rfl | exact Nat.zero_le _, by first | exact Nat.le_of_ble_eq_true rfl | exact Nat.zero_le _⟩ dX11_clash_39 (fun r2094 hr2094 => ?_)
      refine vV (wr := [(h0, oX11 bb kk ikp sg do9 ru9 ta9 tp9 ro9 ho9 de9), (do9, oX3 bb hd bo le bi), (hd, cA G 13 hf), (kc0, oX1 km0), (km0, iA G 36 fk0), (kc1, oX1 km1), (km1, iA G 36 fk1), (kc2, oX1 km2), (km2, iA G 36 fk2), (kc3, oX1 km3), (km3, iA G 36 fk3), (kc4, oX1 km4), (km4, iA G 36 fk4), (kc5, oX1 km5), (km5, iA G 36 fk5), (kc6, oX1 km6), (km6, iA G 36 fk6), (kc7, oX1 km7), (km7, iA G 36 fk7), (kc8, oX1 km8), (km8, iA G 36 fk8), (kc9, oX1 km9), (km9, iA G 36 fk9), (kc10, oX1 km10), (km10, iA G 36 fk10), (kc11, oX1 km11), (km11, iA G 36 fk11), (kc12, oX1 km12), (km12, iA G 36 fk12), (bpapers, oX8 12 6 bpapersc (nI kbpapers)), (bpapersc, iA G 72 fbpapers)]) hC hK hl hP hD hS hA (c_look l G sg r2094 bb clk fi la ml mm sl sm cl clm fclm ffi fla fml fmm fsl fsm bpersons bpapers bstamps bversions blines bsteps bsayings bfindings bwarnings bquestions td vd vl gp bstampsc kbstamps fbstamps (hkbstamps)) si_X11_183 [2, 3, 4, 5, 6, 7, 8, 9, 10, 1, 41, 42] [0, 11, 12, 13, 14, 15, 16, 17, 18, 19, 20, 21, 22, 23, 24, 25, 26, 27, 28, 29, 30, 31, 32, 33, 34, 35, 36, 37, 38, 39, 40] sm_2_3_4_5_6_7_8_9_10_1_41_42 fm_2_3_4_5_6_7_8_9_10_1_41_42 nd_2_3_4_5_6_7_8_9_10_1_41_42 sm_0_11_12_13_14_15_16_17_18_19_20_21_22_23_24_25_26_27_28_29_30_31_32_33_34_35_36_37_38_39_40 nd_0_11_12_13_14_15_16_17_18_19_20_21_22_23_24_25_26_27_28_29_30_31_32_33_34_35_36_37_38_39_40 dj_2_3_4_5_6_7_8_9_10_1_41_42__0_11_12_13_14_15_16_17_18_19_20_21_22_23_24_25_26_27_28_29_30_31_32_33_34_35_36_37_38_39_40 rfl rfl rfl rfl rfl (Nat.le_of_ble_eq_true rfl) rm_42_5_4 ⟨Nat.le_of_ble_eq_true rfl, Nat.le_of_ble_eq_true rfl⟩ dX11_clash_42 (Ktu8 fun cl12097 gclm2098 gfi2099 gla2100 gml2101 gmm2102 gsl2103 gsm2104 => ?_)
      intro H locs hr2095 hP hD hS
      try dsimp only at hr2095
      refine Kpdr (ws := [(h0, oX11 bb kk ikp sg do9 ru9 ta9 tp9 ro9 ho9 de9), (do9, oX3 bb hd bo le bi), (hd, cA G 13 hf), (kc0, oX1 km0), (km0, iA G 36 fk0), (kc1, oX1 km1), (km1, iA G 36 fk1), (kc2, oX1 km2), (km2, iA G 36 fk2), (kc3, oX1 km3), (km3, iA G 36 fk3), (kc4, oX1 km4), (km4, iA G 36 fk4), (kc5, oX1 km5), (km5, iA G 36 fk5), (kc6, oX1 km6), (km6, iA G 36 fk6), (kc7, oX1 km7), (km7, iA G 36 fk7), (kc8, oX1 km8), (km8, iA G 36 fk8), (kc9, oX1 km9), (km9, iA G 36 fk9), (kc10, oX1 km10), (km10, iA G 36 fk10), (kc11, oX1 km11), (km11, iA G 36 fk11), (kc12, oX1 km12), (km12, iA G 36 fk12), (bpapers, oX8 12 6 bpapersc (nI kbpapers)), (bpapersc, iA G 72 fbpapers), (sg, oX7 bb clk fi la ml mm sl sm cl12097), (clk, oX1 clm), (clm, iA G 36 gclm2098), (fi, iA G 12 gfi2099), (la, iA G 12 gla2100), (ml, iA G 12 gml2101), (mm, iA G 12 gmm2102), (sl, iA G 12 gsl2103), (sm, iA G 12 gsm2104), (bb, oX0 bpersons bpapers bstamps bversions blines bsteps bsayings bfindings bwarnings bquestions td vd vl gp), (bstamps, oX8 24 3 bstampsc (nI kbstamps)), (bstampsc, iA G 72 fbstamps)]) hP hD (fun hP hD => ?_)
      have w2105 := hr2095
      refine lv_aload_n hx hb dX11_clash_45 rfl (lv_at0 hl) ?_
      refine gf_X11_28 hC rfl hK hP 0 rfl rfl dX11_clash_46 ?_
      refine pV hC hK hl hP hD (c_clashes l G sg bb clk fi la ml mm sl sm cl12097 (w2105)) si_X11_187 [31] sm_31 fm_31 nd_31 rfl rfl rfl rfl rfl (Nat.le_of_ble_eq_true rfl) rm_42_1_1 ⟨by first | exact Nat.le_of_ble_eq_true rfl | exact Nat.zero_le _, by first | exact Nat.le_of_ble_eq_true rfl | exact Nat.zero_le _⟩ dX11_clash_49 (Kors (Keqr ?_) (Keqr ?_))
      · refine lv_if_eq (tgt := 59) hx hb dX11_clash_52 (by decide) (fun c9 => absurd c9 (by decide)) (fun _ => ?_)
        refine lv_iconst (v := 1) hx hb dX11_clash_55 (by decide) ?_
        refine lv_goto (tgt := 60) hx hb dX11_clash_56 (by decide) ?_
        exact toQ hQ0 (RI (v := 1) hC hP hD hS [0, 40, 31, 32, 33, 34, 35, 36, 37, 38, 39, 1, 2, 3, 4, 5, 6, 7, 8, 9, 10, 11, 12, 13, 14, 15, 16, 17, 18, 19, 20, 21, 22, 23, 24, 25, 26, 27, 28, 29, 30, 41, 42] (cl12097, gclm2098, gfi2099, gla2100, gml2101, gmm2102, gsl2103, gsm2104, bo, le, bi, fk0, fk1, fk2, fk3, fk4, fk5, fk6, fk7, fk8, fk9, fk10, fk11, fk12) rfl rfl (by decide) (⟨trivial, w2105⟩) rfl dX11_clash_60)
      · refine lv_if_eq (tgt := 59) hx hb dX11_clash_52 (by decide) (fun _ => ?_) (fun c9 => absurd (by decide) c9)
        refine lv_iconst (v := 0) hx hb dX11_clash_59 (by decide) ?_
        exact toQ hQ0 (RI (v := 0) hC hP hD hS [0, 40, 31, 32, 33, 34, 35, 36, 37, 38, 39, 1, 2, 3, 4, 5, 6, 7, 8, 9, 10, 11, 12, 13, 14, 15, 16, 17, 18, 19, 20, 21, 22, 23, 24, 25, 26, 27, 28, 29, 30, 41, 42] (cl12097, gclm2098, gfi2099, gla2100, gml2101, gmm2102, gsl2103, gsm2104, bo, le, bi, fk0, fk1, fk2, fk3, fk4, fk5, fk6, fk7, fk8, fk9, fk10, fk11, fk12) rfl rfl (by decide) (⟨trivial, w2105⟩) rfl dX11_clash_60)
    · refine lv_aload_n hx hb dX11_clash_16 rfl (lv_at0 hl) ?_
      refine gf_X11_35 hC rfl hK hP 0 rfl rfl dX11_clash_17 ?_
      refine lv_aload_n hx hb dX11_clash_20 rfl (lv_at0 hl) ?_
      refine gf_X11_15 hC rfl hK hP 0 rfl rfl dX11_clash_21 ?_
      refine pV hC hK hl hP hD (c_inView l G bb bpersons bpapers bstamps bversions blines bsteps bsayings bfindings bwarnings bquestions td vd vl gp bpapersc kbpapers fbpapers (hkbpapers)) si_X11_97 [1, 39, 40] sm_1_39_40 fm_1_39_40 nd_1_39_40 rfl rfl rfl rfl rfl (Nat.le_of_ble_eq_true rfl) rm_42_3_6 ⟨by first | exact Nat.le_of_ble_eq_true rfl | exact Nat.zero_le _, by first | exact Nat.le_of_ble_eq_true rfl | exact Nat.zero_le _⟩ dX11_clash_24 (fun r2108 hr2108 => ?_)
      refine iV (wr := [(h0, oX11 bb kk ikp sg do9 ru9 ta9 tp9 ro9 ho9 de9), (sg, oX7 bb clk fi la ml mm sl sm cl), (clk, oX1 clm), (clm, iA G 36 fclm), (fi, iA G 12 ffi), (la, iA G 12 fla), (ml, iA G 12 fml), (mm, iA G 12 fmm), (sl, iA G 12 fsl), (sm, iA G 12 fsm)]) hC hK hl hP hD hS hA (c_fewest l G do9 r2108 bb hd bo le bi hf kc0 km0 fk0 kc1 km1 fk1 kc2 km2 fk2 kc3 km3 fk3 kc4 km4 fk4 kc5 km5 fk5 kc6 km6 fk6 kc7 km7 fk7 kc8 km8 fk8 kc9 km9 fk9 kc10 km10 fk10 kc11 km11 fk11 kc12 km12 fk12 bpersons bpapers bstamps bversions blines bsteps bsayings bfindings bwarnings bquestions td vd vl gp bstampsc kbstamps fbstamps bpapersc kbpapers fbpapers (hkbstamps) (hkbpapers) (hh0) (hh1) (hh2) (hh3) (hh4) (hh5) (hh6) (hh7) (hh8) (hh9) (hh10) (hh11) (hh12)) si_X11_180 [11, 12, 13, 14, 15, 16, 17, 18, 19, 20, 21, 22, 23, 24, 25, 26, 27, 28, 29, 30, 31, 32, 33, 34, 35, 36, 37, 38, 1, 41, 42, 39, 40] [0, 2, 3, 4, 5, 6, 7, 8, 9, 10] sm_11_12_13_14_15_16_17_18_19_20_21_22_23_24_25_26_27_28_29_30_31_32_33_34_35_36_37_38_1_41_42_39_40 fm_11_12_13_14_15_16_17_18_19_20_21_22_23_24_25_26_27_28_29_30_31_32_33_34_35_36_37_38_1_41_42_39_40 nd_11_12_13_14_15_16_17_18_19_20_21_22_23_24_25_26_27_28_29_30_31_32_33_34_35_36_37_38_1_41_42_39_40 sm_0_2_3_4_5_6_7_8_9_10 nd_0_2_3_4_5_6_7_8_9_10 dj_11_12_13_14_15_16_17_18_19_20_21_22_23_24_25_26_27_28_29_30_31_32_33_34_35_36_37_38_1_41_42_39_40__0_2_3_4_5_6_7_8_9_10 rfl rfl rfl rfl rfl (Nat.le_of_ble_eq_true rfl) rm_42_40_3 ⟨Nat.le_of_ble_eq_true rfl, Nat.le_of_ble_eq_true rfl⟩ dX11_clash_27 (fun r2109 => Ktu16 fun le12111 bi12112 gk02113 gk12114 gk22115 gk32116 gk42117 gk52118 gk62119 gk72120 gk82121 gk92122 gk102123 gk112124 gk122125 bo12126 => ?_)
      intro H locs hr2109 hP hD hS
      try dsimp only at hr2109
      refine Kpdr (ws := [(h0, oX11 bb kk ikp sg do9 ru9 ta9 tp9 ro9 ho9 de9), (sg, oX7 bb clk fi la ml mm sl sm cl), (clk, oX1 clm), (clm, iA G 36 fclm), (fi, iA G 12 ffi), (la, iA G 12 fla), (ml, iA G 12 fml), (mm, iA G 12 fmm), (sl, iA G 12 fsl), (sm, iA G 12 fsm), (do9, oX3 bb hd bo12126 le12111 bi12112), (hd, cA G 13 hf), (kc0, oX1 km0), (km0, iA G 36 gk02113), (kc1, oX1 km1), (km1, iA G 36 gk12114), (kc2, oX1 km2), (km2, iA G 36 gk22115), (kc3, oX1 km3), (km3, iA G 36 gk32116), (kc4, oX1 km4), (km4, iA G 36 gk42117), (kc5, oX1 km5), (km5, iA G 36 gk52118), (kc6, oX1 km6), (km6, iA G 36 gk62119), (kc7, oX1 km7), (km7, iA G 36 gk72120), (kc8, oX1 km8), (km8, iA G 36 gk82121), (kc9, oX1 km9), (km9, iA G 36 gk92122), (kc10, oX1 km10), (km10, iA G 36 gk102123), (kc11, oX1 km11), (km11, iA G 36 gk112124), (kc12, oX1 km12), (km12, iA G 36 gk122125), (bb, oX0 bpersons bpapers bstamps bversions blines bsteps bsayings bfindings bwarnings bquestions td vd vl gp), (bstamps, oX8 24 3 bstampsc (nI kbstamps)), (bstampsc, iA G 72 fbstamps), (bpapers, oX8 12 6 bpapersc (nI kbpapers)), (bpapersc, iA G 72 fbpapers)]) hP hD (fun hP hD => ?_)
      exact toQ hQ0 (RI (v := r2109) hC hP hD hS [0, 38, 1, 2, 3, 4, 5, 6, 7, 8, 9, 10, 11, 12, 13, 14, 15, 16, 17, 18, 19, 20, 21, 22, 23, 24, 25, 26, 27, 28, 29, 30, 31, 32, 33, 34, 35, 36, 37, 41, 42, 39, 40] (cl, fclm, ffi, fla, fml, fmm, fsl, fsm, bo12126, le12111, bi12112, gk02113, gk12114, gk22115, gk32116, gk42117, gk52118, gk62119, gk72120, gk82121, gk92122, gk102123, gk112124, gk122125) rfl rfl (by decide) (⟨trivial, hcl⟩) rfl dX11_clash_30)
  · refine lv_if_ne (tgt := 11) hx hb dX11_clash_6 (by decide) (fun c9 => absurd (by decide) c9) (fun _ => ?_)
    refine lv_iconst (v := (-1)) hx hb dX11_clash_9 (by decide) ?_
    exact toQ hQ0 (RI (v := (-1)) hC hP hD hS [0, 1, 2, 3, 4, 5, 6, 7, 8, 9, 10, 11, 12, 13, 14, 15, 16, 17, 18, 19, 20, 21, 22, 23, 24, 25, 26, 27, 28, 29, 30, 31, 32, 33, 34, 35, 36, 37, 38, 39, 40, 41, 42] (cl, fclm, ffi, fla, fml, fmm, fsl, fsm, bo, le, bi, fk0, fk1, fk2, fk3, fk4, fk5, fk6, fk7, fk8, fk9, fk10, fk11, fk12) rfl rfl (by decide) (⟨trivial, hcl⟩) rfl dX11_clash_10)
def K_c_known (l : Launch) (G : GG) (h0 : Nat) (x1 : Int32) (x2 : Int32) (x3 : Int32) (x4 : Int32) (bb : Nat) (kk : Nat) (ikp : Int32) (sg : Nat) (do9 : Nat) (ru9 : Nat) (ta9 : Nat) (tp9 : Nat) (ro9 : Nat) (ho9 : Nat) (de9 : Nat) (clk : Nat) (fi : Nat) (la : Nat) (ml : Nat) (mm : Nat) (sl : Nat) (sm : Nat) (cl : Int32) (clm : Nat) (fclm : Nat → Int32) (ffi : Nat → Int32) (fla : Nat → Int32) (fml : Nat → Int32) (fmm : Nat → Int32) (fsl : Nat → Int32) (fsm : Nat → Int32) (fc : Nat) (sh : Nat) (r1 : Int32) (rc : Int32) (rh : Int32) (ffc : Nat → Int32) (fsh : Nat → Int32) (bpersons : Nat) (bpapers : Nat) (bstamps : Nat) (bversions : Nat) (blines : Nat) (bsteps : Nat) (bsayings : Nat) (bfindings : Nat) (bwarnings : Nat) (bquestions : Nat) (td : Int32) (vd : Int32) (vl : Int32) (gp : Int32) (bversionsc : Nat) (kbversions : Nat) (fbversions : Nat → Int32) (bpersonsc : Nat) (kbpersons : Nat) (fbpersons : Nat → Int32) (bpapersc : Nat) (kbpapers : Nat) (fbpapers : Nat → Int32) (blinesc : Nat) (kblines : Nat) (fblines : Nat → Int32) (bstepsc : Nat) (kbsteps : Nat) (fbsteps : Nat → Int32) (bstampsc : Nat) (kbstamps : Nat) (fbstamps : Nat → Int32) : Prop := MI l G yX11_knownFrom cX11_knownFrom 5 (some .int) 6 0 0 [.ref h0, .int x1, .int x2, .int x3, .int x4] [(h0, oX11 bb kk ikp sg do9 ru9 ta9 tp9 ro9 ho9 de9), (sg, oX7 bb clk fi la ml mm sl sm cl), (clk, oX1 clm), (clm, iA G 36 fclm), (fi, iA G 12 ffi), (la, iA G 12 fla), (ml, iA G 12 fml), (mm, iA G 12 fmm), (sl, iA G 12 fsl), (sm, iA G 12 fsm), (ru9, oX6 bb sg fc sh r1 rc rh), (fc, iA G 5 ffc), (sh, iA G 8 fsh), (bb, oX0 bpersons bpapers bstamps bversions blines bsteps bsayings bfindings bwarnings bquestions td vd vl gp), (bversions, oX8 8 3 bversionsc (nI kbversions)), (bversionsc, iA G 24 fbversions), (bpersons, oX8 10 2 bpersonsc (nI kbpersons)), (bpersonsc, iA G 20 fbpersons), (bpapers, oX8 12 6 bpapersc (nI kbpapers)), (bpapersc, iA G 72 fbpapers), (blines, oX8 72 7 blinesc (nI kblines)), (blinesc, iA G 504 fblines), (bsteps, oX8 960 1 bstepsc (nI kbsteps)), (bstepsc, iA G 960 fbsteps), (bstamps, oX8 24 3 bstampsc (nI kbstamps)), (bstampsc, iA G 72 fbstamps)] (fun (r : Int32) (u : Int32 × (Nat → Int32) × (Nat → Int32) × (Nat → Int32) × (Nat → Int32) × (Nat → Int32) × (Nat → Int32) × (Nat → Int32) × Int32 × Int32 × Int32 × (Nat → Int32) × (Nat → Int32)) => (True) ∧ (u.1 = 0 ∨ u.1 = 1)) (fun u : Int32 × (Nat → Int32) × (Nat → Int32) × (Nat → Int32) × (Nat → Int32) × (Nat → Int32) × (Nat → Int32) × (Nat → Int32) × Int32 × Int32 × Int32 × (Nat → Int32) × (Nat → Int32) => [(h0, oX11 bb kk ikp sg do9 ru9 ta9 tp9 ro9 ho9 de9), (sg, oX7 bb clk fi la ml mm sl sm u.1), (clk, oX1 clm), (clm, iA G 36 u.2.1), (fi, iA G 12 u.2.2.1), (la, iA G 12 u.2.2.2.1), (ml, iA G 12 u.2.2.2.2.1), (mm, iA G 12 u.2.2.2.2.2.1), (sl, iA G 12 u.2.2.2.2.2.2.1), (sm, iA G 12 u.2.2.2.2.2.2.2.1), (ru9, oX6 bb sg fc sh u.2.2.2.2.2.2.2.2.1 u.2.2.2.2.2.2.2.2.2.1 u.2.2.2.2.2.2.2.2.2.2.1), (fc, iA G 5 u.2.2.2.2.2.2.2.2.2.2.2.1), (sh, iA G 8 u.2.2.2.2.2.2.2.2.2.2.2.2), (bb, oX0 bpersons bpapers bstamps bversions blines bsteps bsayings bfindings bwarnings bquestions td vd vl gp), (bversions, oX8 8 3 bversionsc (nI kbversions)), (bversionsc, iA G 24 fbversions), (bpersons, oX8 10 2 bpersonsc (nI kbpersons)), (bpersonsc, iA G 20 fbpersons), (bpapers, oX8 12 6 bpapersc (nI kbpapers)), (bpapersc, iA G 72 fbpapers), (blines, oX8 72 7 blinesc (nI kblines)), (blinesc, iA G 504 fblines), (bsteps, oX8 960 1 bstepsc (nI kbsteps)), (bstepsc, iA G 960 fbsteps), (bstamps, oX8 24 3 bstampsc (nI kbstamps)), (bstampsc, iA G 72 fbstamps)])
set_option maxHeartbeats 4000000 in
set_option maxRecDepth 100000 in
theorem c_known (l : Launch) (G : GG) (h0 : Nat) (x1 : Int32) (x2 : Int32) (x3 : Int32) (x4 : Int32) (bb : Nat) (kk : Nat) (ikp : Int32) (sg : Nat) (do9 : Nat) (ru9 : Nat) (ta9 : Nat) (tp9 : Nat) (ro9 : Nat) (ho9 : Nat) (de9 : Nat) (clk : Nat) (fi : Nat) (la : Nat) (ml : Nat) (mm : Nat) (sl : Nat) (sm : Nat) (cl : Int32) (clm : Nat) (fclm : Nat → Int32) (ffi : Nat → Int32) (fla : Nat → Int32) (fml : Nat → Int32) (fmm : Nat → Int32) (fsl : Nat → Int32) (fsm : Nat → Int32) (fc : Nat) (sh : Nat) (r1 : Int32) (rc : Int32) (rh : Int32) (ffc : Nat → Int32) (fsh : Nat → Int32) (bpersons : Nat) (bpapers : Nat) (bstamps : Nat) (bversions : Nat) (blines : Nat) (bsteps : Nat) (bsayings : Nat) (bfindings : Nat) (bwarnings : Nat) (bquestions : Nat) (td : Int32) (vd : Int32) (vl : Int32) (gp : Int32) (bversionsc : Nat) (kbversions : Nat) (fbversions : Nat → Int32) (bpersonsc : Nat) (kbpersons : Nat) (fbpersons : Nat → Int32) (bpapersc : Nat) (kbpapers : Nat) (fbpapers : Nat → Int32) (blinesc : Nat) (kblines : Nat) (fblines : Nat → Int32) (bstepsc : Nat) (kbsteps : Nat) (fbsteps : Nat → Int32) (bstampsc : Nat) (kbstamps : Nat) (fbstamps : Nat → Int32) (hkbversions : kbversions ≤ 8) (hkbpersons : kbpersons ≤ 10) (hkbpapers : kbpapers ≤ 12) (hkblines : kblines ≤ 72) (hkbsteps : kbsteps ≤ 960) (hkbstamps : kbstamps ≤ 24) : K_c_known l G h0 x1 x2 x3 x4 bb kk ikp sg do9 ru9 ta9 tp9 ro9 ho9 de9 clk fi la ml mm sl sm cl clm fclm ffi fla fml fmm fsl fsm fc sh r1 rc rh ffc fsh bpersons bpapers bstamps bversions blines bsteps bsayings bfindings bwarnings bquestions td vd vl gp bversionsc kbversions fbversions bpersonsc kbpersons fbpersons bpapersc kbpapers fbpapers blinesc kblines fblines bstepsc kbsteps fbsteps bstampsc kbstamps fbstamps := by
  refine MI.start (by decide +kernel) (Nat.le_of_ble_eq_true rfl) ?_
  intro p e s m below meth c A ls hC hK hP hD hS hA hl
  refine absQ (fun Q0 hQ0 => ?_)
  have hl : lv_has ls 5 [(0, .ref h0), (1, .int x1), (2, .int x2), (3, .int x3), (4, .int x4)] := hl
  refine Kan8 hC (fun hx hb hr hml hB hown hlocks hnm => ?_)
  refine lv_aload_n hx hb dX11_knownFrom_0 rfl (lv_at0 hl) ?_
  refine gf_X11_28 hC rfl hK hP 0 rfl rfl dX11_knownFrom_1 ?_
  refine lv_iload hx hb dX11_knownFrom_4 (lv_at4 hl) ?_
  refine vV (wr := [(h0, oX11 bb kk ikp sg do9 ru9 ta9 tp9 ro9 ho9 de9), (ru9, oX6 bb sg fc sh r1 rc rh), (fc, iA G 5 ffc), (sh, iA G 8 fsh), (bversions, oX8 8 3 bversionsc (nI kbversions)), (bversionsc, iA G 24 fbversions), (bpersons, oX8 10 2 bpersonsc (nI kbpersons)), (bpersonsc, iA G 20 fbpersons), (bpapers, oX8 12 6 bpapersc (nI kbpapers)), (bpapersc, iA G 72 fbpapers), (blines, oX8 72 7 blinesc (nI kblines)), (blinesc, iA G 504 fblines), (bsteps, oX8 960 1 bstepsc (nI kbsteps)), (bstepsc, iA G 960 fbsteps)]) hC hK hl hP hD hS hA (c_look l G sg x4 bb clk fi la ml mm sl sm cl clm fclm ffi fla fml fmm fsl fsm bpersons bpapers bstamps bversions blines bsteps bsayings bfindings bwarnings bquestions td vd vl gp bstampsc kbstamps fbstamps (hkbstamps)) si_X11_183 [1, 2, 3, 4, 5, 6, 7, 8, 9, 13, 24, 25] [0, 10, 11, 12, 14, 15, 16, 17, 18, 19, 20, 21, 22, 23] sm_1_2_3_4_5_6_7_8_9_13_24_25 fm_1_2_3_4_5_6_7_8_9_13_24_25 nd_1_2_3_4_5_6_7_8_9_13_24_25 sm_0_10_11_12_14_15_16_17_18_19_20_21_22_23 nd_0_10_11_12_14_15_16_17_18_19_20_21_22_23 dj_1_2_3_4_5_6_7_8_9_13_24_25__0_10_11_12_14_15_16_17_18_19_20_21_22_23 rfl rfl rfl rfl rfl (Nat.le_of_ble_eq_true rfl) rm_6_5_4 ⟨Nat.le_of_ble_eq_true rfl, Nat.le_of_ble_eq_true rfl⟩ dX11_knownFrom_6 (Ktu8 fun cl12129 gclm2130 gfi2131 gla2132 gml2133 gmm2134 gsl2135 gsm2136 => ?_)
  intro H locs hr2127 hP hD hS
  try dsimp only at hr2127
  refine Kpdr (ws := [(h0, oX11 bb kk ikp sg do9 ru9 ta9 tp9 ro9 ho9 de9), (ru9, oX6 bb sg fc sh r1 rc rh), (fc, iA G 5 ffc), (sh, iA G 8 fsh), (bversions, oX8 8 3 bversionsc (nI kbversions)), (bversionsc, iA G 24 fbversions), (bpersons, oX8 10 2 bpersonsc (nI kbpersons)), (bpersonsc, iA G 20 fbpersons), (bpapers, oX8 12 6 bpapersc (nI kbpapers)), (bpapersc, iA G 72 fbpapers), (blines, oX8 72 7 blinesc (nI kblines)), (blinesc, iA G 504 fblines), (bsteps, oX8 960 1 bstepsc (nI kbsteps)), (bstepsc, iA G 960 fbsteps), (sg, oX7 bb clk fi la ml mm sl sm cl12129), (clk, oX1 clm), (clm, iA G 36 gclm2130), (fi, iA G 12 gfi2131), (la, iA G 12 gla2132), (ml, iA G 12 gml2133), (mm, iA G 12 gmm2134), (sl, iA G 12 gsl2135), (sm, iA G 12 gsm2136), (bb, oX0 bpersons bpapers bstamps bversions blines bsteps bsayings bfindings bwarnings bquestions td vd vl gp), (bstamps, oX8 24 3 bstampsc (nI kbstamps)), (bstampsc, iA G 72 fbstamps)]) hP hD (fun hP hD => ?_)
  have w2137 := hr2127
  refine lv_iload_n hx hb dX11_knownFrom_9 rfl (lv_at3 hl) ?_
  refine lv_iconst (v := 2) hx hb dX11_knownFrom_10 (by decide) ?_
  refine lv_icmp_eq (tgt := 33) hx hb dX11_knownFrom_11 (by decide) (fun c_11_2138 => ?_) (fun c_11_2138 => ?_)
  · refine lv_aload_n hx hb dX11_knownFrom_33 rfl (lv_at0 hl) ?_
    refine gf_X11_44 hC rfl hK hP 0 rfl rfl dX11_knownFrom_34 ?_
    refine lv_iload_n hx hb dX11_knownFrom_37 rfl (lv_at1 hl) ?_
    refine lv_iload hx hb dX11_knownFrom_38 (lv_at4 hl) ?_
    refine vV (wr := [(h0, oX11 bb kk ikp sg do9 ru9 ta9 tp9 ro9 ho9 de9), (clk, oX1 clm), (clm, iA G 36 gclm2130), (fi, iA G 12 gfi2131), (bstamps, oX8 24 3 bstampsc (nI kbstamps)), (bstampsc, iA G 72 fbstamps)]) hC hK hl hP hD hS hA (c_settle l G ru9 x1 x4 bb sg fc sh r1 rc rh ffc fsh clk fi la ml mm sl sm cl12129 gla2132 gml2133 gmm2134 gsl2135 gsm2136 bpersons bpapers bstamps bversions blines bsteps bsayings bfindings bwarnings bquestions td vd vl gp bversionsc kbversions fbversions bpersonsc kbpersons fbpersons bpapersc kbpapers fbpapers blinesc kblines fblines bstepsc kbsteps fbsteps (hkbversions) (hkbpersons) (hkbpapers) (hkblines) (hkbsteps)) si_X11_243 [1, 2, 3, 14, 18, 19, 20, 21, 22, 23, 4, 5, 6, 7, 8, 9, 10, 11, 12, 13] [0, 15, 16, 17, 24, 25] sm_1_2_3_14_18_19_20_21_22_23_4_5_6_7_8_9_10_11_12_13 fm_1_2_3_14_18_19_20_21_22_23_4_5_6_7_8_9_10_11_12_13 nd_1_2_3_14_18_19_20_21_22_23_4_5_6_7_8_9_10_11_12_13 sm_0_15_16_17_24_25 nd_0_15_16_17_24_25 dj_1_2_3_14_18_19_20_21_22_23_4_5_6_7_8_9_10_11_12_13__0_15_16_17_24_25 rfl rfl rfl rfl rfl (Nat.le_of_ble_eq_true rfl) rm_6_5_5 ⟨Nat.le_of_ble_eq_true rfl, Nat.le_of_ble_eq_true rfl⟩ dX11_knownFrom_40 (Ktu5 fun r112141 rc12142 rh12143 gfc2144 gsh2145 => ?_)
    intro H locs hr2139 hP hD hS
    try dsimp only at hr2139
    refine Kpdr (ws := [(h0, oX11 bb kk ikp sg do9 ru9 ta9 tp9 ro9 ho9 de9), (clk, oX1 clm), (clm, iA G 36 gclm2130), (fi, iA G 12 gfi2131), (bstamps, oX8 24 3 bstampsc (nI kbstamps)), (bstampsc, iA G 72 fbstamps), (ru9, oX6 bb sg fc sh r112141 rc12142 rh12143), (fc, iA G 5 gfc2144), (sh, iA G 8 gsh2145), (sg, oX7 bb clk fi la ml mm sl sm cl12129), (la, iA G 12 gla2132), (ml, iA G 12 gml2133), (mm, iA G 12 gmm2134), (sl, iA G 12 gsl2135), (sm, iA G 12 gsm2136), (bb, oX0 bpersons bpapers bstamps bversions blines bsteps bsayings bfindings bwarnings bquestions td vd vl gp), (bversions, oX8 8 3 bversionsc (nI kbversions)), (bversionsc, iA G 24 fbversions), (bpersons, oX8 10 2 bpersonsc (nI kbpersons)), (bpersonsc, iA G 20 fbpersons), (bpapers, oX8 12 6 bpapersc (nI kbpapers)), (bpapersc, iA G 72 fbpapers), (blines, oX8 72 7 blinesc (nI kblines)), (blinesc, iA G 504 fblines), (bsteps, oX8 960 1 bstepsc (nI kbsteps)), (bstepsc, iA G 960 fbsteps)]) hP hD (fun hP hD => ?_)
    refine lv_aload_n hx hb dX11_knownFrom_43 rfl (lv_at0 hl) ?_
    refine gf_X11_44 hC rfl hK hP 0 rfl rfl dX11_knownFrom_44 ?_
    refine lv_iload_n hx hb dX11_knownFrom_47 rfl (lv_at2 hl) ?_
    refine pV hC hK hl hP hD (c_shouldHour l G ru9 x2 bb sg fc sh r112141 rc12142 rh12143 gsh2145) si_X11_247 [6, 8] sm_6_8 fm_6_8 nd_6_8 rfl rfl rfl rfl rfl (Nat.le_of_ble_eq_true rfl) rm_6_1_2 ⟨by first | exact Nat.le_of_ble_eq_true rfl | exact Nat.zero_le _, by first | exact Nat.le_of_ble_eq_true rfl | exact Nat.zero_le _⟩ dX11_knownFrom_48 (fun r2146 hr2146 => ?_)
    exact toQ hQ0 (RI (v := r2146) hC hP hD hS [0, 9, 1, 2, 3, 10, 11, 12, 13, 14, 6, 7, 8, 15, 16, 17, 18, 19, 20, 21, 22, 23, 24, 25, 4, 5] (cl12129, gclm2130, gfi2131, gla2132, gml2133, gmm2134, gsl2135, gsm2136, r112141, rc12142, rh12143, gfc2144, gsh2145) rfl rfl (by decide) (⟨trivial, w2137⟩) rfl dX11_knownFrom_51)
  · refine lv_aload_n hx hb dX11_knownFrom_14 rfl (lv_at0 hl) ?_
    refine gf_X11_28 hC rfl hK hP 0 rfl rfl dX11_knownFrom_15 ?_
    refine lv_iload_n hx hb dX11_knownFrom_18 rfl (lv_at1 hl) ?_
    refine lv_iload_n hx hb dX11_knownFrom_19 rfl (lv_at2 hl) ?_
    refine lv_iload_n hx hb dX11_knownFrom_20 rfl (lv_at3 hl) ?_
    refine lv_if_ne (tgt := 28) hx hb dX11_knownFrom_21 (by decide) (fun c_21_2147 => ?_) (fun c_21_2147 => ?_)
    · refine lv_iconst (v := 0) hx hb dX11_knownFrom_28 (by decide) ?_
      refine pV hC hK hl hP hD (c_toldHour l G sg x1 x2 0 bb clk fi la ml mm sl sm cl12129 gla2132 gml2133 gmm2134 gsl2135 gsm2136 bpersons bpapers bstamps bversions blines bsteps bsayings bfindings bwarnings bquestions td vd vl gp bpapersc kbpapers fbpapers bpersonsc kbpersons fbpersons (hkbpapers) (hkbpersons)) si_X11_250 [14, 18, 19, 20, 21, 22, 23, 8, 9, 6, 7] sm_14_18_19_20_21_22_23_8_9_6_7 fm_14_18_19_20_21_22_23_8_9_6_7 nd_14_18_19_20_21_22_23_8_9_6_7 rfl rfl rfl rfl rfl (Nat.le_of_ble_eq_true rfl) rm_6_4_6 ⟨by first | exact Nat.le_of_ble_eq_true rfl | exact Nat.zero_le _, by first | exact Nat.le_of_ble_eq_true rfl | exact Nat.zero_le _⟩ dX11_knownFrom_29 (fun r2148 hr2148 => ?_)
      exact toQ hQ0 (RI (v := r2148) hC hP hD hS [0, 14, 15, 16, 17, 18, 19, 20, 21, 22, 1, 2, 3, 23, 4, 5, 6, 7, 8, 9, 10, 11, 12, 13, 24, 25] (cl12129, gclm2130, gfi2131, gla2132, gml2133, gmm2134, gsl2135, gsm2136, r1, rc, rh, ffc, fsh) rfl rfl (by decide) (⟨trivial, w2137⟩) rfl dX11_knownFrom_32)
    · refine lv_iconst (v := 1) hx hb dX11_knownFrom_24 (by decide) ?_
      refine lv_goto (tgt := 29) hx hb dX11_knownFrom_25 (by decide) ?_
      refine pV hC hK hl hP hD (c_toldHour l G sg x1 x2 1 bb clk fi la ml mm sl sm cl12129 gla2132 gml2133 gmm2134 gsl2135 gsm2136 bpersons bpapers bstamps bversions blines bsteps bsayings bfindings bwarnings bquestions td vd vl gp bpapersc kbpapers fbpapers bpersonsc kbpersons fbpersons (hkbpapers) (hkbpersons)) si_X11_250 [14, 18, 19, 20, 21, 22, 23, 8, 9, 6, 7] sm_14_18_19_20_21_22_23_8_9_6_7 fm_14_18_19_20_21_22_23_8_9_6_7 nd_14_18_19_20_21_22_23_8_9_6_7 rfl rfl rfl rfl rfl (Nat.le_of_ble_eq_true rfl) rm_6_4_6 ⟨by first | exact Nat.le_of_ble_eq_true rfl | exact Nat.zero_le _, by first | exact Nat.le_of_ble_eq_true rfl | exact Nat.zero_le _⟩ dX11_knownFrom_29 (fun r2149 hr2149 => ?_)
      exact toQ hQ0 (RI (v := r2149) hC hP hD hS [0, 14, 15, 16, 17, 18, 19, 20, 21, 22, 1, 2, 3, 23, 4, 5, 6, 7, 8, 9, 10, 11, 12, 13, 24, 25] (cl12129, gclm2130, gfi2131, gla2132, gml2133, gmm2134, gsl2135, gsm2136, r1, rc, rh, ffc, fsh) rfl rfl (by decide) (⟨trivial, w2137⟩) rfl dX11_knownFrom_32)
def K_p_knew (l : Launch) (G : GG) (h0 : Nat) (x1 : Int32) (x2 : Int32) (x3 : Int32) (bb : Nat) (kk : Nat) (ikp : Int32) (sg : Nat) (do9 : Nat) (ru9 : Nat) (ta9 : Nat) (tp9 : Nat) (ro9 : Nat) (ho9 : Nat) (de9 : Nat) (clk : Nat) (fi : Nat) (la : Nat) (ml : Nat) (mm : Nat) (sl : Nat) (sm : Nat) (cl : Int32) (clm : Nat) (fclm : Nat → Int32) (ffi : Nat → Int32) (fla : Nat → Int32) (fml : Nat → Int32) (fmm : Nat → Int32) (fsl : Nat → Int32) (fsm : Nat → Int32) (fc : Nat) (sh : Nat) (r1 : Int32) (rc : Int32) (rh : Int32) (ffc : Nat → Int32) (fsh : Nat → Int32) (bpersons : Nat) (bpapers : Nat) (bstamps : Nat) (bversions : Nat) (blines : Nat) (bsteps : Nat) (bsayings : Nat) (bfindings : Nat) (bwarnings : Nat) (bquestions : Nat) (td : Int32) (vd : Int32) (vl : Int32) (gp : Int32) (bversionsc : Nat) (kbversions : Nat) (fbversions : Nat → Int32) (bpersonsc : Nat) (kbpersons : Nat) (fbpersons : Nat → Int32) (bpapersc : Nat) (kbpapers : Nat) (fbpapers : Nat → Int32) (blinesc : Nat) (kblines : Nat) (fblines : Nat → Int32) (bstepsc : Nat) (kbsteps : Nat) (fbsteps : Nat → Int32) (bstampsc : Nat) (kbstamps : Nat) (fbstamps : Nat → Int32) : Prop := MI l G yX11_knew cX11_knew 5 (some .int) 7 0 0 [.ref h0, .int x1, .int x2, .int x3] [(h0, oX11 bb kk ikp sg do9 ru9 ta9 tp9 ro9 ho9 de9), (sg, oX7 bb clk fi la ml mm sl sm cl), (clk, oX1 clm), (clm, iA G 36 fclm), (fi, iA G 12 ffi), (la, iA G 12 fla), (ml, iA G 12 fml), (mm, iA G 12 fmm), (sl, iA G 12 fsl), (sm, iA G 12 fsm), (ru9, oX6 bb sg fc sh r1 rc rh), (fc, iA G 5 ffc), (sh, iA G 8 fsh), (bb, oX0 bpersons bpapers bstamps bversions blines bsteps bsayings bfindings bwarnings bquestions td vd vl gp), (bversions, oX8 8 3 bversionsc (nI kbversions)), (bversionsc, iA G 24 fbversions), (bpersons, oX8 10 2 bpersonsc (nI kbpersons)), (bpersonsc, iA G 20 fbpersons), (bpapers, oX8 12 6 bpapersc (nI kbpapers)), (bpapersc, iA G 72 fbpapers), (blines, oX8 72 7 blinesc (nI kblines)), (blinesc, iA G 504 fblines), (bsteps, oX8 960 1 bstepsc (nI kbsteps)), (bstepsc, iA G 960 fbsteps), (bstamps, oX8 24 3 bstampsc (nI kbstamps)), (bstampsc, iA G 72 fbstamps)] (fun (r : Int32) (u : Int32 × (Nat → Int32) × (Nat → Int32) × (Nat → Int32) × (Nat → Int32) × (Nat → Int32) × (Nat → Int32) × (Nat → Int32) × Int32 × Int32 × Int32 × (Nat → Int32) × (Nat → Int32)) => (True) ∧ (u.1 = 0 ∨ u.1 = 1)) (fun u : Int32 × (Nat → Int32) × (Nat → Int32) × (Nat → Int32) × (Nat → Int32) × (Nat → Int32) × (Nat → Int32) × (Nat → Int32) × Int32 × Int32 × Int32 × (Nat → Int32) × (Nat → Int32) => [(h0, oX11 bb kk ikp sg do9 ru9 ta9 tp9 ro9 ho9 de9), (sg, oX7 bb clk fi la ml mm sl sm u.1), (clk, oX1 clm), (clm, iA G 36 u.2.1), (fi, iA G 12 u.2.2.1), (la, iA G 12 u.2.2.2.1), (ml, iA G 12 u.2.2.2.2.1), (mm, iA G 12 u.2.2.2.2.2.1), (sl, iA G 12 u.2.2.2.2.2.2.1), (sm, iA G 12 u.2.2.2.2.2.2.2.1), (ru9, oX6 bb sg fc sh u.2.2.2.2.2.2.2.2.1 u.2.2.2.2.2.2.2.2.2.1 u.2.2.2.2.2.2.2.2.2.2.1), (fc, iA G 5 u.2.2.2.2.2.2.2.2.2.2.2.1), (sh, iA G 8 u.2.2.2.2.2.2.2.2.2.2.2.2), (bb, oX0 bpersons bpapers bstamps bversions blines bsteps bsayings bfindings bwarnings bquestions td vd vl gp), (bversions, oX8 8 3 bversionsc (nI kbversions)), (bversionsc, iA G 24 fbversions), (bpersons, oX8 10 2 bpersonsc (nI kbpersons)), (bpersonsc, iA G 20 fbpersons), (bpapers, oX8 12 6 bpapersc (nI kbpapers)), (bpapersc, iA G 72 fbpapers), (blines, oX8 72 7 blinesc (nI kblines)), (blinesc, iA G 504 fblines), (bsteps, oX8 960 1 bstepsc (nI kbsteps)), (bstepsc, iA G 960 fbsteps), (bstamps, oX8 24 3 bstampsc (nI kbstamps)), (bstampsc, iA G 72 fbstamps)])
set_option maxHeartbeats 4000000 in
set_option maxRecDepth 100000 in
theorem p_knew (l : Launch) (G : GG) (h0 : Nat) (x1 : Int32) (x2 : Int32) (x3 : Int32) (bb : Nat) (kk : Nat) (ikp : Int32) (sg : Nat) (do9 : Nat) (ru9 : Nat) (ta9 : Nat) (tp9 : Nat) (ro9 : Nat) (ho9 : Nat) (de9 : Nat) (clk : Nat) (fi : Nat) (la : Nat) (ml : Nat) (mm : Nat) (sl : Nat) (sm : Nat) (cl : Int32) (clm : Nat) (fclm : Nat → Int32) (ffi : Nat → Int32) (fla : Nat → Int32) (fml : Nat → Int32) (fmm : Nat → Int32) (fsl : Nat → Int32) (fsm : Nat → Int32) (fc : Nat) (sh : Nat) (r1 : Int32) (rc : Int32) (rh : Int32) (ffc : Nat → Int32) (fsh : Nat → Int32) (bpersons : Nat) (bpapers : Nat) (bstamps : Nat) (bversions : Nat) (blines : Nat) (bsteps : Nat) (bsayings : Nat) (bfindings : Nat) (bwarnings : Nat) (bquestions : Nat) (td : Int32) (vd : Int32) (vl : Int32) (gp : Int32) (bversionsc : Nat) (kbversions : Nat) (fbversions : Nat → Int32) (bpersonsc : Nat) (kbpersons : Nat) (fbpersons : Nat → Int32) (bpapersc : Nat) (kbpapers : Nat) (fbpapers : Nat → Int32) (blinesc : Nat) (kblines : Nat) (fblines : Nat → Int32) (bstepsc : Nat) (kbsteps : Nat) (fbsteps : Nat → Int32) (bstampsc : Nat) (kbstamps : Nat) (fbstamps : Nat → Int32) (hkbversions : kbversions ≤ 8) (hkbpersons : kbpersons ≤ 10) (hkbpapers : kbpapers ≤ 12) (hkblines : kblines ≤ 72) (hkbsteps : kbsteps ≤ 960) (hkbstamps : kbstamps ≤ 24) (hcl : cl = 0 ∨ cl = 1) : K_p_knew l G h0 x1 x2 x3 bb kk ikp sg do9 ru9 ta9 tp9 ro9 ho9 de9 clk fi la ml mm sl sm cl clm fclm ffi fla fml fmm fsl fsm fc sh r1 rc rh ffc fsh bpersons bpapers bstamps bversions blines bsteps bsayings bfindings bwarnings bquestions td vd vl gp bversionsc kbversions fbversions bpersonsc kbpersons fbpersons bpapersc kbpapers fbpapers blinesc kblines fblines bstepsc kbsteps fbsteps bstampsc kbstamps fbstamps := by
  refine MI.start (by decide +kernel) (Nat.le_of_ble_eq_true rfl) ?_
  intro p e s m below meth c A ls hC hK hP hD hS hA hl
  refine absQ (fun Q0 hQ0 => ?_)
  have hl : lv_has ls 5 [(0, .ref h0), (1, .int x1), (2, .int x2), (3, .int x3)] := hl
  refine Kan8 hC (fun hx hb hr hml hB hown hlocks hnm => ?_)
  refine lv_aload_n hx hb dX11_knew_0 rfl (lv_at0 hl) ?_
  refine gf_X11_15 hC rfl hK hP 0 rfl rfl dX11_knew_1 ?_
  refine gf_X11_107 hC rfl hK hP 13 rfl rfl dX11_knew_4 ?_
  refine lv_iload_n hx hb dX11_knew_7 rfl (lv_at1 hl) ?_
  refine pV hC hK hl hP hD (c_T_has l G bpersons x1 10 2 bpersonsc kbpersons) si_X11_124 [16] sm_16 fm_16 nd_16 rfl rfl rfl rfl rfl (Nat.le_of_ble_eq_true rfl) rm_7_1_2 ⟨by first | exact Nat.le_of_ble_eq_true rfl | exact Nat.zero_le _, by first | exact Nat.le_of_ble_eq_true rfl | exact Nat.zero_le _⟩ dX11_knew_8 (Kors (Keqa fun a2151 => ?_) (Keqa fun a2151 => ?_))
  · refine lv_if_eq (tgt := 28) hx hb dX11_knew_11 (by decide) (fun c9 => absurd c9 (by decide)) (fun _ => ?_)
    refine lv_iload_n hx hb dX11_knew_14 rfl (lv_at2 hl) ?_
    refine pS hC hK hl (c_isThing l G x2) si_X11_213 rfl rfl (Nat.le_of_ble_eq_true rfl) rm_7_2_1 ⟨by first | exact Nat.le_of_ble_eq_true rfl | exact Nat.zero_le _, by first | exact Nat.le_of_ble_eq_true rfl | exact Nat.zero_le _⟩ dX11_knew_15 (Kors (Keqa fun a2153 => ?_) (Keqa fun a2153 => ?_))
    · refine lv_if_eq (tgt := 28) hx hb dX11_knew_18 (by decide) (fun c9 => absurd c9 (by decide)) (fun _ => ?_)
      refine lv_iload_n hx hb dX11_knew_21 rfl (lv_at3 hl) ?_
      refine pS hC hK hl (c_isWay l G x3) si_X11_216 rfl rfl (Nat.le_of_ble_eq_true rfl) rm_7_2_1 ⟨by first | exact Nat.le_of_ble_eq_true rfl | exact Nat.zero_le _, by first | exact Nat.le_of_ble_eq_true rfl | exact Nat.zero_le _⟩ dX11_knew_22 (Kors (Keqa fun a2155 => ?_) (Keqa fun a2155 => ?_))
      · refine lv_if_ne (tgt := 30) hx hb dX11_knew_25 (by decide) (fun _ => ?_) (fun c9 => absurd c9 (by decide))
        refine lv_aload_n hx hb dX11_knew_30 rfl (lv_at0 hl) ?_
        refine lv_iload_n hx hb dX11_knew_31 rfl (lv_at1 hl) ?_
        refine lv_iload_n hx hb dX11_knew_32 rfl (lv_at2 hl) ?_
        refine lv_iload_n hx hb dX11_knew_33 rfl (lv_at3 hl) ?_
        refine lv_aload_n hx hb dX11_knew_34 rfl (lv_at0 hl) ?_
        refine gf_X11_15 hC rfl hK hP 0 rfl rfl dX11_knew_35 ?_
        refine pV hC hK hl hP hD (c_inView l G bb bpersons bpapers bstamps bversions blines bsteps bsayings bfindings bwarnings bquestions td vd vl gp bpapersc kbpapers fbpapers (hkbpapers)) si_X11_97 [13, 18, 19] sm_13_18_19 fm_13_18_19 nd_13_18_19 rfl rfl rfl rfl rfl (Nat.le_of_ble_eq_true rfl) rm_7_3_6 ⟨by first | exact Nat.le_of_ble_eq_true rfl | exact Nat.zero_le _, by first | exact Nat.le_of_ble_eq_true rfl | exact Nat.zero_le _⟩ dX11_knew_38 (fun r2156 hr2156 => ?_)
        refine iV (wr := []) hC hK hl hP hD hS hA (c_known l G h0 x1 x2 x3 r2156 bb kk ikp sg do9 ru9 ta9 tp9 ro9 ho9 de9 clk fi la ml mm sl sm cl clm fclm ffi fla fml fmm fsl fsm fc sh r1 rc rh ffc fsh bpersons bpapers bstamps bversions blines bsteps bsayings bfindings bwarnings bquestions td vd vl gp bversionsc kbversions fbversions bpersonsc kbpersons fbpersons bpapersc kbpapers fbpapers blinesc kblines fblines bstepsc kbsteps fbsteps bstampsc kbstamps fbstamps (hkbversions) (hkbpersons) (hkbpapers) (hkblines) (hkbsteps) (hkbstamps)) si_X11_219 [0, 1, 2, 3, 4, 5, 6, 7, 8, 9, 10, 11, 12, 13, 14, 15, 16, 17, 18, 19, 20, 21, 22, 23, 24, 25] [] sm_0_1_2_3_4_5_6_7_8_9_10_11_12_13_14_15_16_17_18_19_20_21_22_23_24_25 fm_0_1_2_3_4_5_6_7_8_9_10_11_12_13_14_15_16_17_18_19_20_21_22_23_24_25 nd_0_1_2_3_4_5_6_7_8_9_10_11_12_13_14_15_16_17_18_19_20_21_22_23_24_25 rfl rfl (by decide) rfl rfl rfl rfl rfl (Nat.le_of_ble_eq_true rfl) rm_7_6_5 ⟨Nat.le_of_ble_eq_true rfl, Nat.le_of_ble_eq_true rfl⟩ dX11_knew_41 (fun r2157 => Ktu13 fun cl12159 gclm2160 gfi2161 gla2162 gml2163 gmm2164 gsl2165 gsm2166 r112167 rc12168 rh12169 gfc2170 gsh2171 => ?_)
        intro H locs hr2157 hP hD hS
        try dsimp only at hr2157
        refine Kpdr (ws := [(h0, oX11 bb kk ikp sg do9 ru9 ta9 tp9 ro9 ho9 de9), (sg, oX7 bb clk fi la ml mm sl sm cl12159), (clk, oX1 clm), (clm, iA G 36 gclm2160), (fi, iA G 12 gfi2161), (la, iA G 12 gla2162), (ml, iA G 12 gml2163), (mm, iA G 12 gmm2164), (sl, iA G 12 gsl2165), (sm, iA G 12 gsm2166), (ru9, oX6 bb sg fc sh r112167 rc12168 rh12169), (fc, iA G 5 gfc2170), (sh, iA G 8 gsh2171), (bb, oX0 bpersons bpapers bstamps bversions blines bsteps bsayings bfindings bwarnings bquestions td vd vl gp), (bversions, oX8 8 3 bversionsc (nI kbversions)), (bversionsc, iA G 24 fbversions), (bpersons, oX8 10 2 bpersonsc (nI kbpersons)), (bpersonsc, iA G 20 fbpersons), (bpapers, oX8 12 6 bpapersc (nI kbpapers)), (bpapersc, iA G 72 fbpapers), (blines, oX8 72 7 blinesc (nI kblines)), (blinesc, iA G 504 fblines), (bsteps, oX8 960 1 bstepsc (nI kbsteps)), (bstepsc, iA G 960 fbsteps), (bstamps, oX8 24 3 bstampsc (nI kbstamps)), (bstampsc, iA G 72 fbstamps)]) hP hD (fun hP hD => ?_)
        obtain ⟨hr2157, w2172⟩ := hr2157
        refine lv_istore (lv' := [(4, .int r2157), (0, .ref h0), (1, .int x1), (2, .int x2), (3, .int x3)]) hx hb dX11_knew_44 hl (by decide) rfl (fun ls hl => ?_)
        refine lv_iload hx hb dX11_knew_46 (lv_at0 hl) ?_
        refine lv_ldc hx hb hown (hB _ m_599) dX11_knew_48 ?_
        refine lv_icmp_ne (tgt := 58) hx hb dX11_knew_50 (by decide) (fun c_50_2173 => ?_) (fun c_50_2173 => ?_)
        · refine lv_iload hx hb dX11_knew_58 (lv_at0 hl) ?_
          refine lv_sipush (v := 1000) hx hb dX11_knew_60 (by decide) ?_
          refine lv_iadd hx hb dX11_knew_63 ?_
          exact toQ hQ0 (RI (v := r2157 + 1000) hC hP hD hS [0, 1, 2, 3, 4, 5, 6, 7, 8, 9, 10, 11, 12, 13, 14, 15, 16, 17, 18, 19, 20, 21, 22, 23, 24, 25] (cl12159, gclm2160, gfi2161, gla2162, gml2163, gmm2164, gsl2165, gsm2166, r112167, rc12168, rh12169, gfc2170, gsh2171) rfl rfl (by decide) (⟨trivial, w2172⟩) rfl dX11_knew_64)
        · refine lv_bipush (v := (-3)) hx hb dX11_knew_53 (by decide) ?_
          refine lv_goto (tgt := 64) hx hb dX11_knew_55 (by decide) ?_
          exact toQ hQ0 (RI (v := (-3)) hC hP hD hS [0, 1, 2, 3, 4, 5, 6, 7, 8, 9, 10, 11, 12, 13, 14, 15, 16, 17, 18, 19, 20, 21, 22, 23, 24, 25] (cl12159, gclm2160, gfi2161, gla2162, gml2163, gmm2164, gsl2165, gsm2166, r112167, rc12168, rh12169, gfc2170, gsh2171) rfl rfl (by decide) (⟨trivial, w2172⟩) rfl dX11_knew_64)
      · refine lv_if_ne (tgt := 30) hx hb dX11_knew_25 (by decide) (fun c9 => absurd (by decide) c9) (fun _ => ?_)
        refine lv_iconst (v := (-1)) hx hb dX11_knew_28 (by decide) ?_
        exact toQ hQ0 (RI (v := (-1)) hC hP hD hS [0, 1, 2, 3, 4, 5, 6, 7, 8, 9, 10, 11, 12, 13, 14, 15, 16, 17, 18, 19, 20, 21, 22, 23, 24, 25] (cl, fclm, ffi, fla, fml, fmm, fsl, fsm, r1, rc, rh, ffc, fsh) rfl rfl (by decide) (⟨trivial, hcl⟩) rfl dX11_knew_29)
    · refine lv_if_eq (tgt := 28) hx hb dX11_knew_18 (by decide) (fun _ => ?_) (fun c9 => absurd (by decide) c9)
      refine lv_iconst (v := (-1)) hx hb dX11_knew_28 (by decide) ?_
      exact toQ hQ0 (RI (v := (-1)) hC hP hD hS [0, 1, 2, 3, 4, 5, 6, 7, 8, 9, 10, 11, 12, 13, 14, 15, 16, 17, 18, 19, 20, 21, 22, 23, 24, 25] (cl, fclm, ffi, fla, fml, fmm, fsl, fsm, r1, rc, rh, ffc, fsh) rfl rfl (by decide) (⟨trivial, hcl⟩) rfl dX11_knew_29)
  · refine lv_if_eq (tgt := 28) hx hb dX11_knew_11 (by decide) (fun _ => ?_) (fun c9 => absurd (by decide) c9)
    refine lv_iconst (v := (-1)) hx hb dX11_knew_28 (by decide) ?_
    exact toQ hQ0 (RI (v := (-1)) hC hP hD hS [0, 1, 2, 3, 4, 5, 6, 7, 8, 9, 10, 11, 12, 13, 14, 15, 16, 17, 18, 19, 20, 21, 22, 23, 24, 25] (cl, fclm, ffi, fla, fml, fmm, fsl, fsm, r1, rc, rh, ffc, fsh) rfl rfl (by decide) (⟨trivial, hcl⟩) rfl dX11_knew_29)
def K_p_why (l : Launch) (G : GG) (h0 : Nat) (x1 : Int32) (x2 : Int32) (bb : Nat) (kk : Nat) (ikp : Int32) (sg : Nat) (do9 : Nat) (ru9 : Nat) (ta9 : Nat) (tp9 : Nat) (ro9 : Nat) (ho9 : Nat) (de9 : Nat) (clk : Nat) (fi : Nat) (la : Nat) (ml : Nat) (mm : Nat) (sl : Nat) (sm : Nat) (cl : Int32) (clm : Nat) (fclm : Nat → Int32) (ffi : Nat → Int32) (fla : Nat → Int32) (fml : Nat → Int32) (fmm : Nat → Int32) (fsl : Nat → Int32) (fsm : Nat → Int32) (fc : Nat) (sh : Nat) (r1 : Int32) (rc : Int32) (rh : Int32) (ffc : Nat → Int32) (fsh : Nat → Int32) (bpersons : Nat) (bpapers : Nat) (bstamps : Nat) (bversions : Nat) (blines : Nat) (bsteps : Nat) (bsayings : Nat) (bfindings : Nat) (bwarnings : Nat) (bquestions : Nat) (td : Int32) (vd : Int32) (vl : Int32) (gp : Int32) (bversionsc : Nat) (kbversions : Nat) (fbversions : Nat → Int32) (bpersonsc : Nat) (kbpersons : Nat) (fbpersons : Nat → Int32) (bpapersc : Nat) (kbpapers : Nat) (fbpapers : Nat → Int32) (blinesc : Nat) (kblines : Nat) (fblines : Nat → Int32) (bstepsc : Nat) (kbsteps : Nat) (fbsteps : Nat → Int32) (bstampsc : Nat) (kbstamps : Nat) (fbstamps : Nat → Int32) : Prop := MI l G yX11_why cX11_why 5 (some .int) 7 0 0 [.ref h0, .int x1, .int x2] [(h0, oX11 bb kk ikp sg do9 ru9 ta9 tp9 ro9 ho9 de9), (sg, oX7 bb clk fi la ml mm sl sm cl), (clk, oX1 clm), (clm, iA G 36 fclm), (fi, iA G 12 ffi), (la, iA G 12 fla), (ml, iA G 12 fml), (mm, iA G 12 fmm), (sl, iA G 12 fsl), (sm, iA G 12 fsm), (ru9, oX6 bb sg fc sh r1 rc rh), (fc, iA G 5 ffc), (sh, iA G 8 fsh), (bb, oX0 bpersons bpapers bstamps bversions blines bsteps bsayings bfindings bwarnings bquestions td vd vl gp), (bversions, oX8 8 3 bversionsc (nI kbversions)), (bversionsc, iA G 24 fbversions), (bpersons, oX8 10 2 bpersonsc (nI kbpersons)), (bpersonsc, iA G 20 fbpersons), (bpapers, oX8 12 6 bpapersc (nI kbpapers)), (bpapersc, iA G 72 fbpapers), (blines, oX8 72 7 blinesc (nI kblines)), (blinesc, iA G 504 fblines), (bsteps, oX8 960 1 bstepsc (nI kbsteps)), (bstepsc, iA G 960 fbsteps), (bstamps, oX8 24 3 bstampsc (nI kbstamps)), (bstampsc, iA G 72 fbstamps)] (fun (r : Int32) (u : Int32 × (Nat → Int32) × (Nat → Int32) × (Nat → Int32) × (Nat → Int32) × (Nat → Int32) × (Nat → Int32) × (Nat → Int32) × Int32 × Int32 × Int32 × (Nat → Int32) × (Nat → Int32)) => (True) ∧ (u.1 = 0 ∨ u.1 = 1)) (fun u : Int32 × (Nat → Int32) × (Nat → Int32) × (Nat → Int32) × (Nat → Int32) × (Nat → Int32) × (Nat → Int32) × (Nat → Int32) × Int32 × Int32 × Int32 × (Nat → Int32) × (Nat → Int32) => [(h0, oX11 bb kk ikp sg do9 ru9 ta9 tp9 ro9 ho9 de9), (sg, oX7 bb clk fi la ml mm sl sm u.1), (clk, oX1 clm), (clm, iA G 36 u.2.1), (fi, iA G 12 u.2.2.1), (la, iA G 12 u.2.2.2.1), (ml, iA G 12 u.2.2.2.2.1), (mm, iA G 12 u.2.2.2.2.2.1), (sl, iA G 12 u.2.2.2.2.2.2.1), (sm, iA G 12 u.2.2.2.2.2.2.2.1), (ru9, oX6 bb sg fc sh u.2.2.2.2.2.2.2.2.1 u.2.2.2.2.2.2.2.2.2.1 u.2.2.2.2.2.2.2.2.2.2.1), (fc, iA G 5 u.2.2.2.2.2.2.2.2.2.2.2.1), (sh, iA G 8 u.2.2.2.2.2.2.2.2.2.2.2.2), (bb, oX0 bpersons bpapers bstamps bversions blines bsteps bsayings bfindings bwarnings bquestions td vd vl gp), (bversions, oX8 8 3 bversionsc (nI kbversions)), (bversionsc, iA G 24 fbversions), (bpersons, oX8 10 2 bpersonsc (nI kbpersons)), (bpersonsc, iA G 20 fbpersons), (bpapers, oX8 12 6 bpapersc (nI kbpapers)), (bpapersc, iA G 72 fbpapers), (blines, oX8 72 7 blinesc (nI kblines)), (blinesc, iA G 504 fblines), (bsteps, oX8 960 1 bstepsc (nI kbsteps)), (bstepsc, iA G 960 fbsteps), (bstamps, oX8 24 3 bstampsc (nI kbstamps)), (bstampsc, iA G 72 fbstamps)])
set_option maxHeartbeats 4000000 in
set_option maxRecDepth 100000 in
theorem p_why (l : Launch) (G : GG) (h0 : Nat) (x1 : Int32) (x2 : Int32) (bb : Nat) (kk : Nat) (ikp : Int32) (sg : Nat) (do9 : Nat) (ru9 : Nat) (ta9 : Nat) (tp9 : Nat) (ro9 : Nat) (ho9 : Nat) (de9 : Nat) (clk : Nat) (fi : Nat) (la : Nat) (ml : Nat) (mm : Nat) (sl : Nat) (sm : Nat) (cl : Int32) (clm : Nat) (fclm : Nat → Int32) (ffi : Nat → Int32) (fla : Nat → Int32) (fml : Nat → Int32) (fmm : Nat → Int32) (fsl : Nat → Int32) (fsm : Nat → Int32) (fc : Nat) (sh : Nat) (r1 : Int32) (rc : Int32) (rh : Int32) (ffc : Nat → Int32) (fsh : Nat → Int32) (bpersons : Nat) (bpapers : Nat) (bstamps : Nat) (bversions : Nat) (blines : Nat) (bsteps : Nat) (bsayings : Nat) (bfindings : Nat) (bwarnings : Nat) (bquestions : Nat) (td : Int32) (vd : Int32) (vl : Int32) (gp : Int32) (bversionsc : Nat) (kbversions : Nat) (fbversions : Nat → Int32) (bpersonsc : Nat) (kbpersons : Nat) (fbpersons : Nat → Int32) (bpapersc : Nat) (kbpapers : Nat) (fbpapers : Nat → Int32) (blinesc : Nat) (kblines : Nat) (fblines : Nat → Int32) (bstepsc : Nat) (kbsteps : Nat) (fbsteps : Nat → Int32) (bstampsc : Nat) (kbstamps : Nat) (fbstamps : Nat → Int32) (hkbversions : kbversions ≤ 8) (hkbpersons : kbpersons ≤ 10) (hkbpapers : kbpapers ≤ 12) (hkblines : kblines ≤ 72) (hkbsteps : kbsteps ≤ 960) (hkbstamps : kbstamps ≤ 24) (hcl : cl = 0 ∨ cl = 1) : K_p_why l G h0 x1 x2 bb kk ikp sg do9 ru9 ta9 tp9 ro9 ho9 de9 clk fi la ml mm sl sm cl clm fclm ffi fla fml fmm fsl fsm fc sh r1 rc rh ffc fsh bpersons bpapers bstamps bversions blines bsteps bsayings bfindings bwarnings bquestions td vd vl gp bversionsc kbversions fbversions bpersonsc kbpersons fbpersons bpapersc kbpapers fbpapers blinesc kblines fblines bstepsc kbsteps fbsteps bstampsc kbstamps fbstamps := by
  refine MI.start (by decide +kernel) (Nat.le_of_ble_eq_true rfl) ?_
  intro p e s m below meth c A ls hC hK hP hD hS hA hl
  refine absQ (fun Q0 hQ0 => ?_)
  have hl : lv_has ls 5 [(0, .ref h0), (1, .int x1), (2, .int x2)] := hl
  refine Kan8 hC (fun hx hb hr hml hB hown hlocks hnm => ?_)
  refine lv_aload_n hx hb dX11_why_0 rfl (lv_at0 hl) ?_
  refine gf_X11_15 hC rfl hK hP 0 rfl rfl dX11_why_1 ?_
  refine gf_X11_107 hC rfl hK hP 13 rfl rfl dX11_why_4 ?_
  refine lv_iload_n hx hb dX11_why_7 rfl (lv_at1 hl) ?_
  refine pV hC hK hl hP hD (c_T_has l G bpersons x1 10 2 bpersonsc kbpersons) si_X11_124 [16] sm_16 fm_16 nd_16 rfl rfl rfl rfl rfl (Nat.le_of_ble_eq_true rfl) rm_7_1_2 ⟨by first | exact Nat.le_of_ble_eq_true rfl | exact Nat.zero_le _, by first | exact Nat.le_of_ble_eq_true rfl | exact Nat.zero_le _⟩ dX11_why_8 (Kors (Keqa fun a2175 => ?_) (Keqa fun a2175 => ?_))
  · refine lv_if_eq (tgt := 21) hx hb dX11_why_11 (by decide) (fun c9 => absurd c9 (by decide)) (fun _ => ?_)
    refine lv_iload_n hx hb dX11_why_14 rfl (lv_at2 hl) ?_
    refine pS hC hK hl (c_isThing l G x2) si_X11_213 rfl rfl (Nat.le_of_ble_eq_true rfl) rm_7_2_1 ⟨by first | exact Nat.le_of_ble_eq_true rfl | exact Nat.zero_le _, by first | exact Nat.le_of_ble_eq_true rfl | exact Nat.zero_le _⟩ dX11_why_15 (Kors (Keqa fun a2177 => ?_) (Keqa fun a2177 => ?_))
    · refine lv_if_ne (tgt := 23) hx hb dX11_why_18 (by decide) (fun _ => ?_) (fun c9 => absurd c9 (by decide))
      refine lv_aload_n hx hb dX11_why_23 rfl (lv_at0 hl) ?_
      refine gf_X11_15 hC rfl hK hP 0 rfl rfl dX11_why_24 ?_
      refine pV hC hK hl hP hD (c_inView l G bb bpersons bpapers bstamps bversions blines bsteps bsayings bfindings bwarnings bquestions td vd vl gp bpapersc kbpapers fbpapers (hkbpapers)) si_X11_97 [13, 18, 19] sm_13_18_19 fm_13_18_19 nd_13_18_19 rfl rfl rfl rfl rfl (Nat.le_of_ble_eq_true rfl) rm_7_3_6 ⟨by first | exact Nat.le_of_ble_eq_true rfl | exact Nat.zero_le _, by first | exact Nat.le_of_ble_eq_true rfl | exact Nat.zero_le _⟩ dX11_why_27 (fun r2178 hr2178 => ?_)
      refine lv_istore_n (lv' := [(3, .int r2178), (0, .ref h0), (1, .int x1), (2, .int x2)]) hx hb dX11_why_30 rfl hl (by decide) rfl (fun ls hl => ?_)
      refine lv_aload_n hx hb dX11_why_31 rfl (lv_at1 hl) ?_
      refine gf_X11_28 hC rfl hK hP 0 rfl rfl dX11_why_32 ?_
      refine lv_iload_n hx hb dX11_why_35 rfl (lv_at0 hl) ?_
      refine vV (wr := [(h0, oX11 bb kk ikp sg do9 ru9 ta9 tp9 ro9 ho9 de9), (ru9, oX6 bb sg fc sh r1 rc rh), (fc, iA G 5 ffc), (sh, iA G 8 fsh), (bversions, oX8 8 3 bversionsc (nI kbversions)), (bversionsc, iA G 24 fbversions), (bpersons, oX8 10 2 bpersonsc (nI kbpersons)), (bpersonsc, iA G 20 fbpersons), (bpapers, oX8 12 6 bpapersc (nI kbpapers)), (bpapersc, iA G 72 fbpapers), (blines, oX8 72 7 blinesc (nI kblines)), (blinesc, iA G 504 fblines), (bsteps, oX8 960 1 bstepsc (nI kbsteps)), (bstepsc, iA G 960 fbsteps)]) hC hK hl hP hD hS hA (c_look l G sg r2178 bb clk fi la ml mm sl sm cl clm fclm ffi fla fml fmm fsl fsm bpersons bpapers bstamps bversions blines bsteps bsayings bfindings bwarnings bquestions td vd vl gp bstampsc kbstamps fbstamps (hkbstamps)) si_X11_183 [1, 2, 3, 4, 5, 6, 7, 8, 9, 13, 24, 25] [0, 10, 11, 12, 14, 15, 16, 17, 18, 19, 20, 21, 22, 23] sm_1_2_3_4_5_6_7_8_9_13_24_25 fm_1_2_3_4_5_6_7_8_9_13_24_25 nd_1_2_3_4_5_6_7_8_9_13_24_25 sm_0_10_11_12_14_15_16_17_18_19_20_21_22_23 nd_0_10_11_12_14_15_16_17_18_19_20_21_22_23 dj_1_2_3_4_5_6_7_8_9_13_24_25__0_10_11_12_14_15_16_17_18_19_20_21_22_23 rfl rfl rfl rfl rfl (Nat.le_of_ble_eq_true rfl) rm_7_5_4 ⟨Nat.le_of_ble_eq_true rfl, Nat.le_of_ble_eq_true rfl⟩ dX11_why_36 (Ktu8 fun cl12181 gclm2182 gfi2183 gla2184 gml2185 gmm2186 gsl2187 gsm2188 => ?_)
      intro H locs hr2179 hP hD hS
      try dsimp only at hr2179
      refine Kpdr (ws := [(h0, oX11 bb kk ikp sg do9 ru9 ta9 tp9 ro9 ho9 de9), (ru9, oX6 bb sg fc sh r1 rc rh), (fc, iA G 5 ffc), (sh, iA G 8 fsh), (bversions, oX8 8 3 bversionsc (nI kbversions)), (bversionsc, iA G 24 fbversions), (bpersons, oX8 10 2 bpersonsc (nI kbpersons)), (bpersonsc, iA G 20 fbpersons), (bpapers, oX8 12 6 bpapersc (nI kbpapers)), (bpapersc, iA G 72 fbpapers), (blines, oX8 72 7 blinesc (nI kblines)), (blinesc, iA G 504 fblines), (bsteps, oX8 960 1 bstepsc (nI kbsteps)), (bstepsc, iA G 960 fbsteps), (sg, oX7 bb clk fi la ml mm sl sm cl12181), (clk, oX1 clm), (clm, iA G 36 gclm2182), (fi, iA G 12 gfi2183), (la, iA G 12 gla2184), (ml, iA G 12 gml2185), (mm, iA G 12 gmm2186), (sl, iA G 12 gsl2187), (sm, iA G 12 gsm2188), (bb, oX0 bpersons bpapers bstamps bversions blines bsteps bsayings bfindings bwarnings bquestions td vd vl gp), (bstamps, oX8 24 3 bstampsc (nI kbstamps)), (bstampsc, iA G 72 fbstamps)]) hP hD (fun hP hD => ?_)
      have w2189 := hr2179
      refine lv_aload_n hx hb dX11_why_39 rfl (lv_at1 hl) ?_
      refine gf_X11_44 hC rfl hK hP 0 rfl rfl dX11_why_40 ?_
      refine lv_iload_n hx hb dX11_why_43 rfl (lv_at2 hl) ?_
      refine lv_iload_n hx hb dX11_why_44 rfl (lv_at0 hl) ?_
      refine vV (wr := [(h0, oX11 bb kk ikp sg do9 ru9 ta9 tp9 ro9 ho9 de9), (clk, oX1 clm), (clm, iA G 36 gclm2182), (fi, iA G 12 gfi2183), (bstamps, oX8 24 3 bstampsc (nI kbstamps)), (bstampsc, iA G 72 fbstamps)]) hC hK hl hP hD hS hA (c_settle l G ru9 x1 r2178 bb sg fc sh r1 rc rh ffc fsh clk fi la ml mm sl sm cl12181 gla2184 gml2185 gmm2186 gsl2187 gsm2188 bpersons bpapers bstamps bversions blines bsteps bsayings bfindings bwarnings bquestions td vd vl gp bversionsc kbversions fbversions bpersonsc kbpersons fbpersons bpapersc kbpapers fbpapers blinesc kblines fblines bstepsc kbsteps fbsteps (hkbversions) (hkbpersons) (hkbpapers) (hkblines) (hkbsteps)) si_X11_243 [1, 2, 3, 14, 18, 19, 20, 21, 22, 23, 4, 5, 6, 7, 8, 9, 10, 11, 12, 13] [0, 15, 16, 17, 24, 25] sm_1_2_3_14_18_19_20_21_22_23_4_5_6_7_8_9_10_11_12_13 fm_1_2_3_14_18_19_20_21_22_23_4_5_6_7_8_9_10_11_12_13 nd_1_2_3_14_18_19_20_21_22_23_4_5_6_7_8_9_10_11_12_13 sm_0_15_16_17_24_25 nd_0_15_16_17_24_25 dj_1_2_3_14_18_19_20_21_22_23_4_5_6_7_8_9_10_11_12_13__0_15_16_17_24_25 rfl rfl rfl rfl rfl (Nat.le_of_ble_eq_true rfl) rm_7_5_5 ⟨Nat.le_of_ble_eq_true rfl, Nat.le_of_ble_eq_true rfl⟩ dX11_why_45 (Ktu5 fun r112192 rc12193 rh12194 gfc2195 gsh2196 => ?_)
      intro H locs hr2190 hP hD hS
      try dsimp only at hr2190
      refine Kpdr (ws := [(h0, oX11 bb kk ikp sg do9 ru9 ta9 tp9 ro9 ho9 de9), (clk, oX1 clm), (clm, iA G 36 gclm2182), (fi, iA G 12 gfi2183), (bstamps, oX8 24 3 bstampsc (nI kbstamps)), (bstampsc, iA G 72 fbstamps), (ru9, oX6 bb sg fc sh r112192 rc12193 rh12194), (fc, iA G 5 gfc2195), (sh, iA G 8 gsh2196), (sg, oX7 bb clk fi la ml mm sl sm cl12181), (la, iA G 12 gla2184), (ml, iA G 12 gml2185), (mm, iA G 12 gmm2186), (sl, iA G 12 gsl2187), (sm, iA G 12 gsm2188), (bb, oX0 bpersons bpapers bstamps bversions blines bsteps bsayings bfindings bwarnings bquestions td vd vl gp), (bversions, oX8 8 3 bversionsc (nI kbversions)), (bversionsc, iA G 24 fbversions), (bpersons, oX8 10 2 bpersonsc (nI kbpersons)), (bpersonsc, iA G 20 fbpersons), (bpapers, oX8 12 6 bpapersc (nI kbpapers)), (bpapersc, iA G 72 fbpapers), (blines, oX8 72 7 blinesc (nI kblines)), (blinesc, iA G 504 fblines), (bsteps, oX8 960 1 bstepsc (nI kbsteps)), (bstepsc, iA G 960 fbsteps)]) hP hD (fun hP hD => ?_)
      refine lv_aload_n hx hb dX11_why_48 rfl (lv_at1 hl) ?_
      refine gf_X11_44 hC rfl hK hP 0 rfl rfl dX11_why_49 ?_
      refine lv_iload_n hx hb dX11_why_52 rfl (lv_at3 hl) ?_
      refine pV hC hK hl hP hD (c_shouldHour l G ru9 x2 bb sg fc sh r112192 rc12193 rh12194 gsh2196) si_X11_247 [6, 8] sm_6_8 fm_6_8 nd_6_8 rfl rfl rfl rfl rfl (Nat.le_of_ble_eq_true rfl) rm_7_1_2 ⟨by first | exact Nat.le_of_ble_eq_true rfl | exact Nat.zero_le _, by first | exact Nat.le_of_ble_eq_true rfl | exact Nat.zero_le _⟩ dX11_why_53 (fun r2197 hr2197 => ?_)
      refine lv_istore (lv' := [(4, .int r2197), (3, .int r2178), (0, .ref h0), (1, .int x1), (2, .int x2)]) hx hb dX11_why_56 hl (by decide) rfl (fun ls hl => ?_)
      refine lv_iload hx hb dX11_why_58 (lv_at0 hl) ?_
      refine lv_ldc hx hb hown (hB _ m_599) dX11_why_60 ?_
      refine lv_icmp_eq (tgt := 80) hx hb dX11_why_62 (by decide) (fun c_62_2198 => ?_) (fun c_62_2198 => ?_)
      · refine lv_bipush (v := (-3)) hx hb dX11_why_80 (by decide) ?_
        exact toQ hQ0 (RI (v := (-3)) hC hP hD hS [0, 9, 1, 2, 3, 10, 11, 12, 13, 14, 6, 7, 8, 15, 16, 17, 18, 19, 20, 21, 22, 23, 24, 25, 4, 5] (cl12181, gclm2182, gfi2183, gla2184, gml2185, gmm2186, gsl2187, gsm2188, r112192, rc12193, rh12194, gfc2195, gsh2196) rfl rfl (by decide) (⟨trivial, w2189⟩) rfl dX11_why_82)
      · refine lv_iload hx hb dX11_why_65 (lv_at0 hl) ?_
        refine lv_aload_n hx hb dX11_why_67 rfl (lv_at2 hl) ?_
        refine gf_X11_28 hC rfl hK hP 0 rfl rfl dX11_why_68 ?_
        refine lv_iload_n hx hb dX11_why_71 rfl (lv_at3 hl) ?_
        refine lv_iload_n hx hb dX11_why_72 rfl (lv_at4 hl) ?_
        refine lv_iconst (v := 1) hx hb dX11_why_73 (by decide) ?_
        refine pV hC hK hl hP hD (c_toldHour l G sg x1 x2 1 bb clk fi la ml mm sl sm cl12181 gla2184 gml2185 gmm2186 gsl2187 gsm2188 bpersons bpapers bstamps bversions blines bsteps bsayings bfindings bwarnings bquestions td vd vl gp bpapersc kbpapers fbpapers bpersonsc kbpersons fbpersons (hkbpapers) (hkbpersons)) si_X11_250 [9, 10, 11, 12, 13, 14, 15, 20, 21, 18, 19] sm_9_10_11_12_13_14_15_20_21_18_19 fm_9_10_11_12_13_14_15_20_21_18_19 nd_9_10_11_12_13_14_15_20_21_18_19 rfl rfl rfl rfl rfl (Nat.le_of_ble_eq_true rfl) rm_7_4_6 ⟨by first | exact Nat.le_of_ble_eq_true rfl | exact Nat.zero_le _, by first | exact Nat.le_of_ble_eq_true rfl | exact Nat.zero_le _⟩ dX11_why_74 (fun r2199 hr2199 => ?_)
        refine lv_icmp_ne (tgt := 83) hx hb dX11_why_77 (by decide) (fun c_77_2200 => ?_) (fun c_77_2200 => ?_)
        · refine lv_aload_n hx hb dX11_why_83 rfl (lv_at2 hl) ?_
          refine gf_X11_44 hC rfl hK hP 0 rfl rfl dX11_why_84 ?_
          refine lv_iload_n hx hb dX11_why_87 rfl (lv_at4 hl) ?_
          refine pV hC hK hl hP hD (c_firstLineFor l G ru9 x2 bb sg fc sh r112192 rc12193 rh12194 gsh2196 bpersons bpapers bstamps bversions blines bsteps bsayings bfindings bwarnings bquestions td vd vl gp blinesc kblines fblines (hkblines)) si_X11_253 [6, 8, 15, 22, 23] sm_6_8_15_22_23 fm_6_8_15_22_23 nd_6_8_15_22_23 rfl rfl rfl rfl rfl (Nat.le_of_ble_eq_true rfl) rm_7_4_3 ⟨by first | exact Nat.le_of_ble_eq_true rfl | exact Nat.zero_le _, by first | exact Nat.le_of_ble_eq_true rfl | exact Nat.zero_le _⟩ dX11_why_88 (fun r2201 hr2201 => ?_)
          exact toQ hQ0 (RI (v := r2201) hC hP hD hS [0, 9, 1, 2, 3, 10, 11, 12, 13, 14, 6, 7, 8, 15, 16, 17, 18, 19, 20, 21, 22, 23, 24, 25, 4, 5] (cl12181, gclm2182, gfi2183, gla2184, gml2185, gmm2186, gsl2187, gsm2188, r112192, rc12193, rh12194, gfc2195, gsh2196) rfl rfl (by decide) (⟨trivial, w2189⟩) rfl dX11_why_91)
        · refine lv_bipush (v := (-3)) hx hb dX11_why_80 (by decide) ?_
          exact toQ hQ0 (RI (v := (-3)) hC hP hD hS [0, 9, 1, 2, 3, 10, 11, 12, 13, 14, 6, 7, 8, 15, 16, 17, 18, 19, 20, 21, 22, 23, 24, 25, 4, 5] (cl12181, gclm2182, gfi2183, gla2184, gml2185, gmm2186, gsl2187, gsm2188, r112192, rc12193, rh12194, gfc2195, gsh2196) rfl rfl (by decide) (⟨trivial, w2189⟩) rfl dX11_why_82)
    · refine lv_if_ne (tgt := 23) hx hb dX11_why_18 (by decide) (fun c9 => absurd (by decide) c9) (fun _ => ?_)
      refine lv_iconst (v := (-1)) hx hb dX11_why_21 (by decide) ?_
      exact toQ hQ0 (RI (v := (-1)) hC hP hD hS [0, 1, 2, 3, 4, 5, 6, 7, 8, 9, 10, 11, 12, 13, 14, 15, 16, 17, 18, 19, 20, 21, 22, 23, 24, 25] (cl, fclm, ffi, fla, fml, fmm, fsl, fsm, r1, rc, rh, ffc, fsh) rfl rfl (by decide) (⟨trivial, hcl⟩) rfl dX11_why_22)
  · refine lv_if_eq (tgt := 21) hx hb dX11_why_11 (by decide) (fun _ => ?_) (fun c9 => absurd (by decide) c9)
    refine lv_iconst (v := (-1)) hx hb dX11_why_21 (by decide) ?_
    exact toQ hQ0 (RI (v := (-1)) hC hP hD hS [0, 1, 2, 3, 4, 5, 6, 7, 8, 9, 10, 11, 12, 13, 14, 15, 16, 17, 18, 19, 20, 21, 22, 23, 24, 25] (cl, fclm, ffi, fla, fml, fmm, fsl, fsm, r1, rc, rh, ffc, fsh) rfl rfl (by decide) (⟨trivial, hcl⟩) rfl dX11_why_22)
def K_c_stands (l : Launch) (G : GG) (h0 : Nat) (x1 : Int32) (x2 : Int32) (bb : Nat) (kk : Nat) (ikp : Int32) (sg : Nat) (do9 : Nat) (ru9 : Nat) (ta9 : Nat) (tp9 : Nat) (ro9 : Nat) (ho9 : Nat) (de9 : Nat) (clk : Nat) (fi : Nat) (la : Nat) (ml : Nat) (mm : Nat) (sl : Nat) (sm : Nat) (cl : Int32) (clm : Nat) (fclm : Nat → Int32) (ffi : Nat → Int32) (fla : Nat → Int32) (fml : Nat → Int32) (fmm : Nat → Int32) (fsl : Nat → Int32) (fsm : Nat → Int32) (fc : Nat) (sh : Nat) (r1 : Int32) (rc : Int32) (rh : Int32) (ffc : Nat → Int32) (fsh : Nat → Int32) (bpersons : Nat) (bpapers : Nat) (bstamps : Nat) (bversions : Nat) (blines : Nat) (bsteps : Nat) (bsayings : Nat) (bfindings : Nat) (bwarnings : Nat) (bquestions : Nat) (td : Int32) (vd : Int32) (vl : Int32) (gp : Int32) (bversionsc : Nat) (kbversions : Nat) (fbversions : Nat → Int32) (bpersonsc : Nat) (kbpersons : Nat) (fbpersons : Nat → Int32) (bpapersc : Nat) (kbpapers : Nat) (fbpapers : Nat → Int32) (blinesc : Nat) (kblines : Nat) (fblines : Nat → Int32) (bstepsc : Nat) (kbsteps : Nat) (fbsteps : Nat → Int32) (bstampsc : Nat) (kbstamps : Nat) (fbstamps : Nat → Int32) (bfindingsc : Nat) (kbfindings : Nat) (fbfindings : Nat → Int32) : Prop := MI l G yX11_stands cX11_stands 6 (some .boolean) 7 0 0 [.ref h0, .int x1, .int x2] [(h0, oX11 bb kk ikp sg do9 ru9 ta9 tp9 ro9 ho9 de9), (sg, oX7 bb clk fi la ml mm sl sm cl), (clk, oX1 clm), (clm, iA G 36 fclm), (fi, iA G 12 ffi), (la, iA G 12 fla), (ml, iA G 12 fml), (mm, iA G 12 fmm), (sl, iA G 12 fsl), (sm, iA G 12 fsm), (ru9, oX6 bb sg fc sh r1 rc rh), (fc, iA G 5 ffc), (sh, iA G 8 fsh), (bb, oX0 bpersons bpapers bstamps bversions blines bsteps bsayings bfindings bwarnings bquestions td vd vl gp), (bversions, oX8 8 3 bversionsc (nI kbversions)), (bversionsc, iA G 24 fbversions), (bpersons, oX8 10 2 bpersonsc (nI kbpersons)), (bpersonsc, iA G 20 fbpersons), (bpapers, oX8 12 6 bpapersc (nI kbpapers)), (bpapersc, iA G 72 fbpapers), (blines, oX8 72 7 blinesc (nI kblines)), (blinesc, iA G 504 fblines), (bsteps, oX8 960 1 bstepsc (nI kbsteps)), (bstepsc, iA G 960 fbsteps), (bstamps, oX8 24 3 bstampsc (nI kbstamps)), (bstampsc, iA G 72 fbstamps), (bfindings, oX8 12 4 bfindingsc (nI kbfindings)), (bfindingsc, iA G 48 fbfindings)] (fun (r : Int32) (u : Int32 × (Nat → Int32) × (Nat → Int32) × (Nat → Int32) × (Nat → Int32) × (Nat → Int32) × (Nat → Int32) × (Nat → Int32) × Int32 × Int32 × Int32 × (Nat → Int32) × (Nat → Int32)) => (r = 1 ∨ r = 0) ∧ (u.1 = 0 ∨ u.1 = 1)) (fun u : Int32 × (Nat → Int32) × (Nat → Int32) × (Nat → Int32) × (Nat → Int32) × (Nat → Int32) × (Nat → Int32) × (Nat → Int32) × Int32 × Int32 × Int32 × (Nat → Int32) × (Nat → Int32) => [(h0, oX11 bb kk ikp sg do9 ru9 ta9 tp9 ro9 ho9 de9), (sg, oX7 bb clk fi la ml mm sl sm u.1), (clk, oX1 clm), (clm, iA G 36 u.2.1), (fi, iA G 12 u.2.2.1), (la, iA G 12 u.2.2.2.1), (ml, iA G 12 u.2.2.2.2.1), (mm, iA G 12 u.2.2.2.2.2.1), (sl, iA G 12 u.2.2.2.2.2.2.1), (sm, iA G 12 u.2.2.2.2.2.2.2.1), (ru9, oX6 bb sg fc sh u.2.2.2.2.2.2.2.2.1 u.2.2.2.2.2.2.2.2.2.1 u.2.2.2.2.2.2.2.2.2.2.1), (fc, iA G 5 u.2.2.2.2.2.2.2.2.2.2.2.1), (sh, iA G 8 u.2.2.2.2.2.2.2.2.2.2.2.2), (bb, oX0 bpersons bpapers bstamps bversions blines bsteps bsayings bfindings bwarnings bquestions td vd vl gp), (bversions, oX8 8 3 bversionsc (nI kbversions)), (bversionsc, iA G 24 fbversions), (bpersons, oX8 10 2 bpersonsc (nI kbpersons)), (bpersonsc, iA G 20 fbpersons), (bpapers, oX8 12 6 bpapersc (nI kbpapers)), (bpapersc, iA G 72 fbpapers), (blines, oX8 72 7 blinesc (nI kblines)), (blinesc, iA G 504 fblines), (bsteps, oX8 960 1 bstepsc (nI kbsteps)), (bstepsc, iA G 960 fbsteps), (bstamps, oX8 24 3 bstampsc (nI kbstamps)), (bstampsc, iA G 72 fbstamps), (bfindings, oX8 12 4 bfindingsc (nI kbfindings)), (bfindingsc, iA G 48 fbfindings)])
set_option maxHeartbeats 4000000 in
set_option maxRecDepth 100000 in
theorem c_stands (l : Launch) (G : GG) (h0 : Nat) (x1 : Int32) (x2 : Int32) (bb : Nat) (kk : Nat) (ikp : Int32) (sg : Nat) (do9 : Nat) (ru9 : Nat) (ta9 : Nat) (tp9 : Nat) (ro9 : Nat) (ho9 : Nat) (de9 : Nat) (clk : Nat) (fi : Nat) (la : Nat) (ml : Nat) (mm : Nat) (sl : Nat) (sm : Nat) (cl : Int32) (clm : Nat) (fclm : Nat → Int32) (ffi : Nat → Int32) (fla : Nat → Int32) (fml : Nat → Int32) (fmm : Nat → Int32) (fsl : Nat → Int32) (fsm : Nat → Int32) (fc : Nat) (sh : Nat) (r1 : Int32) (rc : Int32) (rh : Int32) (ffc : Nat → Int32) (fsh : Nat → Int32) (bpersons : Nat) (bpapers : Nat) (bstamps : Nat) (bversions : Nat) (blines : Nat) (bsteps : Nat) (bsayings : Nat) (bfindings : Nat) (bwarnings : Nat) (bquestions : Nat) (td : Int32) (vd : Int32) (vl : Int32) (gp : Int32) (bversionsc : Nat) (kbversions : Nat) (fbversions : Nat → Int32) (bpersonsc : Nat) (kbpersons : Nat) (fbpersons : Nat → Int32) (bpapersc : Nat) (kbpapers : Nat) (fbpapers : Nat → Int32) (blinesc : Nat) (kblines : Nat) (fblines : Nat → Int32) (bstepsc : Nat) (kbsteps : Nat) (fbsteps : Nat → Int32) (bstampsc : Nat) (kbstamps : Nat) (fbstamps : Nat → Int32) (bfindingsc : Nat) (kbfindings : Nat) (fbfindings : Nat → Int32) (hkbversions : kbversions ≤ 8) (hkbpersons : kbpersons ≤ 10) (hkbpapers : kbpapers ≤ 12) (hkblines : kblines ≤ 72) (hkbsteps : kbsteps ≤ 960) (hkbstamps : kbstamps ≤ 24) (hkbfindings : kbfindings ≤ 12) : K_c_stands l G h0 x1 x2 bb kk ikp sg do9 ru9 ta9 tp9 ro9 ho9 de9 clk fi la ml mm sl sm cl clm fclm ffi fla fml fmm fsl fsm fc sh r1 rc rh ffc fsh bpersons bpapers bstamps bversions blines bsteps bsayings bfindings bwarnings bquestions td vd vl gp bversionsc kbversions fbversions bpersonsc kbpersons fbpersons bpapersc kbpapers fbpapers blinesc kblines fblines bstepsc kbsteps fbsteps bstampsc kbstamps fbstamps bfindingsc kbfindings fbfindings := by
  refine MI.start (by decide +kernel) (Nat.le_of_ble_eq_true rfl) ?_
  intro p e s m below meth c A ls hC hK hP hD hS hA hl
  refine absQ (fun Q0 hQ0 => ?_)
  have hl : lv_has ls 6 [(0, .ref h0), (1, .int x1), (2, .int x2)] := hl
  refine Kan8 hC (fun hx hb hr hml hB hown hlocks hnm => ?_)
  refine lv_aload_n hx hb dX11_stands_0 rfl (lv_at0 hl) ?_
  refine gf_X11_15 hC rfl hK hP 0 rfl rfl dX11_stands_1 ?_
  refine gf_X11_271 hC rfl hK hP 13 rfl rfl dX11_stands_4 ?_
  refine lv_iload_n hx hb dX11_stands_7 rfl (lv_at1 hl) ?_
  refine lv_iconst (v := 0) hx hb dX11_stands_8 (by decide) ?_
  refine pV hC hK hl hP hD (c_T_at l G bfindings x1 0 12 4 bfindingsc kbfindings fbfindings (hkbfindings) (by omega) (by omega)) si_X11_128 [26, 27] sm_26_27 fm_26_27 nd_26_27 rfl rfl rfl rfl rfl (Nat.le_of_ble_eq_true rfl) rm_7_1_3 ⟨by first | exact Nat.le_of_ble_eq_true rfl | exact Nat.zero_le _, by first | exact Nat.le_of_ble_eq_true rfl | exact Nat.zero_le _⟩ dX11_stands_9 (fun r2202 hr2202 => ?_)
  refine lv_istore_n (lv' := [(3, .int r2202), (0, .ref h0), (1, .int x1), (2, .int x2)]) hx hb dX11_stands_12 rfl hl (by decide) rfl (fun ls hl => ?_)
  refine lv_aload_n hx hb dX11_stands_13 rfl (lv_at1 hl) ?_
  refine gf_X11_15 hC rfl hK hP 0 rfl rfl dX11_stands_14 ?_
  refine gf_X11_271 hC rfl hK hP 13 rfl rfl dX11_stands_17 ?_
  refine lv_iload_n hx hb dX11_stands_20 rfl (lv_at2 hl) ?_
  refine lv_iconst (v := 1) hx hb dX11_stands_21 (by decide) ?_
  refine pV hC hK hl hP hD (c_T_at l G bfindings x1 1 12 4 bfindingsc kbfindings fbfindings (hkbfindings) (by omega) (by omega)) si_X11_128 [26, 27] sm_26_27 fm_26_27 nd_26_27 rfl rfl rfl rfl rfl (Nat.le_of_ble_eq_true rfl) rm_7_1_3 ⟨by first | exact Nat.le_of_ble_eq_true rfl | exact Nat.zero_le _, by first | exact Nat.le_of_ble_eq_true rfl | exact Nat.zero_le _⟩ dX11_stands_22 (fun r2204 hr2204 => ?_)
  refine lv_istore (lv' := [(4, .int r2204), (3, .int r2202), (0, .ref h0), (1, .int x1), (2, .int x2)]) hx hb dX11_stands_25 hl (by decide) rfl (fun ls hl => ?_)
  refine lv_aload_n hx hb dX11_stands_27 rfl (lv_at2 hl) ?_
  refine gf_X11_15 hC rfl hK hP 0 rfl rfl dX11_stands_28 ?_
  refine gf_X11_271 hC rfl hK hP 13 rfl rfl dX11_stands_31 ?_
  refine lv_iload_n hx hb dX11_stands_34 rfl (lv_at3 hl) ?_
  refine lv_iconst (v := 3) hx hb dX11_stands_35 (by decide) ?_
  refine pV hC hK hl hP hD (c_T_at l G bfindings x1 3 12 4 bfindingsc kbfindings fbfindings (hkbfindings) (by omega) (by omega)) si_X11_128 [26, 27] sm_26_27 fm_26_27 nd_26_27 rfl rfl rfl rfl rfl (Nat.le_of_ble_eq_true rfl) rm_7_1_3 ⟨by first | exact Nat.le_of_ble_eq_true rfl | exact Nat.zero_le _, by first | exact Nat.le_of_ble_eq_true rfl | exact Nat.zero_le _⟩ dX11_stands_36 (fun r2206 hr2206 => ?_)
  refine lv_istore (lv' := [(5, .int r2206), (4, .int r2204), (3, .int r2202), (0, .ref h0), (1, .int x1), (2, .int x2)]) hx hb dX11_stands_39 hl (by decide) rfl (fun ls hl => ?_)
  refine lv_aload_n hx hb dX11_stands_41 rfl (lv_at3 hl) ?_
  refine gf_X11_15 hC rfl hK hP 0 rfl rfl dX11_stands_42 ?_
  refine gf_X11_271 hC rfl hK hP 13 rfl rfl dX11_stands_45 ?_
  refine lv_iload_n hx hb dX11_stands_48 rfl (lv_at4 hl) ?_
  refine lv_iconst (v := 2) hx hb dX11_stands_49 (by decide) ?_
  refine pV hC hK hl hP hD (c_T_at l G bfindings x1 2 12 4 bfindingsc kbfindings fbfindings (hkbfindings) (by omega) (by omega)) si_X11_128 [26, 27] sm_26_27 fm_26_27 nd_26_27 rfl rfl rfl rfl rfl (Nat.le_of_ble_eq_true rfl) rm_7_1_3 ⟨by first | exact Nat.le_of_ble_eq_true rfl | exact Nat.zero_le _, by first | exact Nat.le_of_ble_eq_true rfl | exact Nat.zero_le _⟩ dX11_stands_50 (fun r2208 hr2208 => ?_)
  refine lv_aload_n hx hb dX11_stands_53 rfl (lv_at3 hl) ?_
  refine lv_iload_n hx hb dX11_stands_54 rfl (lv_at2 hl) ?_
  refine lv_iload hx hb dX11_stands_55 (lv_at1 hl) ?_
  refine lv_iload hx hb dX11_stands_57 (lv_at0 hl) ?_
  refine lv_iload_n hx hb dX11_stands_59 rfl (lv_at5 hl) ?_
  refine iV (wr := [(bfindings, oX8 12 4 bfindingsc (nI kbfindings)), (bfindingsc, iA G 48 fbfindings)]) hC hK hl hP hD hS hA (c_known l G h0 r2202 r2204 r2206 x2 bb kk ikp sg do9 ru9 ta9 tp9 ro9 ho9 de9 clk fi la ml mm sl sm cl clm fclm ffi fla fml fmm fsl fsm fc sh r1 rc rh ffc fsh bpersons bpapers bstamps bversions blines bsteps bsayings bfindings bwarnings bquestions td vd vl gp bversionsc kbversions fbversions bpersonsc kbpersons fbpersons bpapersc kbpapers fbpapers blinesc kblines fblines bstepsc kbsteps fbsteps bstampsc kbstamps fbstamps (hkbversions) (hkbpersons) (hkbpapers) (hkblines) (hkbsteps) (hkbstamps)) si_X11_219 [0, 1, 2, 3, 4, 5, 6, 7, 8, 9, 10, 11, 12, 13, 14, 15, 16, 17, 18, 19, 20, 21, 22, 23, 24, 25] [26, 27] sm_0_1_2_3_4_5_6_7_8_9_10_11_12_13_14_15_16_17_18_19_20_21_22_23_24_25 fm_0_1_2_3_4_5_6_7_8_9_10_11_12_13_14_15_16_17_18_19_20_21_22_23_24_25 nd_0_1_2_3_4_5_6_7_8_9_10_11_12_13_14_15_16_17_18_19_20_21_22_23_24_25 sm_26_27 nd_26_27 dj_0_1_2_3_4_5_6_7_8_9_10_11_12_13_14_15_16_17_18_19_20_21_22_23_24_25__26_27 rfl rfl rfl rfl rfl (Nat.le_of_ble_eq_true rfl) rm_7_6_5 ⟨Nat.le_of_ble_eq_true rfl, Nat.le_of_ble_eq_true rfl⟩ dX11_stands_60 (fun r2210 => Ktu13 fun cl12212 gclm2213 gfi2214 gla2215 gml2216 gmm2217 gsl2218 gsm2219 r112220 rc12221 rh12222 gfc2223 gsh2224 => ?_)
  intro H locs hr2210 hP hD hS
  try dsimp only at hr2210
  refine Kpdr (ws := [(bfindings, oX8 12 4 bfindingsc (nI kbfindings)), (bfindingsc, iA G 48 fbfindings), (h0, oX11 bb kk ikp sg do9 ru9 ta9 tp9 ro9 ho9 de9), (sg, oX7 bb clk fi la ml mm sl sm cl12212), (clk, oX1 clm), (clm, iA G 36 gclm2213), (fi, iA G 12 gfi2214), (la, iA G 12 gla2215), (ml, iA G 12 gml2216), (mm, iA G 12 gmm2217), (sl, iA G 12 gsl2218), (sm, iA G 12 gsm2219), (ru9, oX6 bb sg fc sh r112220 rc12221 rh12222), (fc, iA G 5 gfc2223), (sh, iA G 8 gsh2224), (bb, oX0 bpersons bpapers bstamps bversions blines bsteps bsayings bfindings bwarnings bquestions td vd vl gp), (bversions, oX8 8 3 bversionsc (nI kbversions)), (bversionsc, iA G 24 fbversions), (bpersons, oX8 10 2 bpersonsc (nI kbpersons)), (bpersonsc, iA G 20 fbpersons), (bpapers, oX8 12 6 bpapersc (nI kbpapers)), (bpapersc, iA G 72 fbpapers), (blines, oX8 72 7 blinesc (nI kblines)), (blinesc, iA G 504 fblines), (bsteps, oX8 960 1 bstepsc (nI kbsteps)), (bstepsc, iA G 960 fbsteps), (bstamps, oX8 24 3 bstampsc (nI kbstamps)), (bstampsc, iA G 72 fbstamps)]) hP hD (fun hP hD => ?_)
  obtain ⟨hr2210, w2225⟩ := hr2210
  refine lv_icmp_lt (tgt := 70) hx hb dX11_stands_63 (by decide) (fun c_63_2226 => ?_) (fun c_63_2226 => ?_)
  · refine lv_iconst (v := 0) hx hb dX11_stands_70 (by decide) ?_
    exact toQ hQ0 (RI (v := 0) hC hP hD hS [2, 3, 4, 5, 6, 7, 8, 9, 10, 11, 12, 13, 14, 15, 16, 17, 18, 19, 20, 21, 22, 23, 24, 25, 26, 27, 0, 1] (cl12212, gclm2213, gfi2214, gla2215, gml2216, gmm2217, gsl2218, gsm2219, r112220, rc12221, rh12222, gfc2223, gsh2224) rfl rfl (by decide) (⟨Or.inr (rfl), w2225⟩) (by decide +kernel) dX11_stands_71)
  · refine lv_iconst (v := 1) hx hb dX11_stands_66 (by decide) ?_
    refine lv_goto (tgt := 71) hx hb dX11_stands_67 (by decide) ?_
    exact toQ hQ0 (RI (v := 1) hC hP hD hS [2, 3, 4, 5, 6, 7, 8, 9, 10, 11, 12, 13, 14, 15, 16, 17, 18, 19, 20, 21, 22, 23, 24, 25, 26, 27, 0, 1] (cl12212, gclm2213, gfi2214, gla2215, gml2216, gmm2217, gsl2218, gsm2219, r112220, rc12221, rh12222, gfc2223, gsh2224) rfl rfl (by decide) (⟨Or.inl (rfl), w2225⟩) (by decide +kernel) dX11_stands_71)
def K_c_leansOn (l : Launch) (G : GG) (h0 : Nat) (x1 : Int32) (x2 : Int32) (bb : Nat) (kk : Nat) (ikp : Int32) (sg : Nat) (do9 : Nat) (ru9 : Nat) (ta9 : Nat) (tp9 : Nat) (ro9 : Nat) (ho9 : Nat) (de9 : Nat) (clk : Nat) (fi : Nat) (la : Nat) (ml : Nat) (mm : Nat) (sl : Nat) (sm : Nat) (cl : Int32) (clm : Nat) (fclm : Nat → Int32) (ffi : Nat → Int32) (fla : Nat → Int32) (fml : Nat → Int32) (fmm : Nat → Int32) (fsl : Nat → Int32) (fsm : Nat → Int32) (fc : Nat) (sh : Nat) (r1 : Int32) (rc : Int32) (rh : Int32) (ffc : Nat → Int32) (fsh : Nat → Int32) (bpersons : Nat) (bpapers : Nat) (bstamps : Nat) (bversions : Nat) (blines : Nat) (bsteps : Nat) (bsayings : Nat) (bfindings : Nat) (bwarnings : Nat) (bquestions : Nat) (td : Int32) (vd : Int32) (vl : Int32) (gp : Int32) (bversionsc : Nat) (kbversions : Nat) (fbversions : Nat → Int32) (bpersonsc : Nat) (kbpersons : Nat) (fbpersons : Nat → Int32) (bpapersc : Nat) (kbpapers : Nat) (fbpapers : Nat → Int32) (blinesc : Nat) (kblines : Nat) (fblines : Nat → Int32) (bstepsc : Nat) (kbsteps : Nat) (fbsteps : Nat → Int32) (bstampsc : Nat) (kbstamps : Nat) (fbstamps : Nat → Int32) (bfindingsc : Nat) (kbfindings : Nat) (fbfindings : Nat → Int32) : Prop := MI l G yX11_leansOn cX11_leansOn 5 (some .int) 8 0 0 [.ref h0, .int x1, .int x2] [(h0, oX11 bb kk ikp sg do9 ru9 ta9 tp9 ro9 ho9 de9), (sg, oX7 bb clk fi la ml mm sl sm cl), (clk, oX1 clm), (clm, iA G 36 fclm), (fi, iA G 12 ffi), (la, iA G 12 fla), (ml, iA G 12 fml), (mm, iA G 12 fmm), (sl, iA G 12 fsl), (sm, iA G 12 fsm), (ru9, oX6 bb sg fc sh r1 rc rh), (fc, iA G 5 ffc), (sh, iA G 8 fsh), (bb, oX0 bpersons bpapers bstamps bversions blines bsteps bsayings bfindings bwarnings bquestions td vd vl gp), (bversions, oX8 8 3 bversionsc (nI kbversions)), (bversionsc, iA G 24 fbversions), (bpersons, oX8 10 2 bpersonsc (nI kbpersons)), (bpersonsc, iA G 20 fbpersons), (bpapers, oX8 12 6 bpapersc (nI kbpapers)), (bpapersc, iA G 72 fbpapers), (blines, oX8 72 7 blinesc (nI kblines)), (blinesc, iA G 504 fblines), (bsteps, oX8 960 1 bstepsc (nI kbsteps)), (bstepsc, iA G 960 fbsteps), (bstamps, oX8 24 3 bstampsc (nI kbstamps)), (bstampsc, iA G 72 fbstamps), (bfindings, oX8 12 4 bfindingsc (nI kbfindings)), (bfindingsc, iA G 48 fbfindings)] (fun (r : Int32) (u : Int32 × (Nat → Int32) × (Nat → Int32) × (Nat → Int32) × (Nat → Int32) × (Nat → Int32) × (Nat → Int32) × (Nat → Int32) × Int32 × Int32 × Int32 × (Nat → Int32) × (Nat → Int32)) => (True) ∧ (u.1 = 0 ∨ u.1 = 1)) (fun u : Int32 × (Nat → Int32) × (Nat → Int32) × (Nat → Int32) × (Nat → Int32) × (Nat → Int32) × (Nat → Int32) × (Nat → Int32) × Int32 × Int32 × Int32 × (Nat → Int32) × (Nat → Int32) => [(h0, oX11 bb kk ikp sg do9 ru9 ta9 tp9 ro9 ho9 de9), (sg, oX7 bb clk fi la ml mm sl sm u.1), (clk, oX1 clm), (clm, iA G 36 u.2.1), (fi, iA G 12 u.2.2.1), (la, iA G 12 u.2.2.2.1), (ml, iA G 12 u.2.2.2.2.1), (mm, iA G 12 u.2.2.2.2.2.1), (sl, iA G 12 u.2.2.2.2.2.2.1), (sm, iA G 12 u.2.2.2.2.2.2.2.1), (ru9, oX6 bb sg fc sh u.2.2.2.2.2.2.2.2.1 u.2.2.2.2.2.2.2.2.2.1 u.2.2.2.2.2.2.2.2.2.2.1), (fc, iA G 5 u.2.2.2.2.2.2.2.2.2.2.2.1), (sh, iA G 8 u.2.2.2.2.2.2.2.2.2.2.2.2), (bb, oX0 bpersons bpapers bstamps bversions blines bsteps bsayings bfindings bwarnings bquestions td vd vl gp), (bversions, oX8 8 3 bversionsc (nI kbversions)), (bversionsc, iA G 24 fbversions), (bpersons, oX8 10 2 bpersonsc (nI kbpersons)), (bpersonsc, iA G 20 fbpersons), (bpapers, oX8 12 6 bpapersc (nI kbpapers)), (bpapersc, iA G 72 fbpapers), (blines, oX8 72 7 blinesc (nI kblines)), (blinesc, iA G 504 fblines), (bsteps, oX8 960 1 bstepsc (nI kbsteps)), (bstepsc, iA G 960 fbsteps), (bstamps, oX8 24 3 bstampsc (nI kbstamps)), (bstampsc, iA G 72 fbstamps), (bfindings, oX8 12 4 bfindingsc (nI kbfindings)), (bfindingsc, iA G 48 fbfindings)])
set_option maxHeartbeats 4000000 in
set_option maxRecDepth 100000 in
theorem c_leansOn (l : Launch) (G : GG) (h0 : Nat) (x1 : Int32) (x2 : Int32) (bb : Nat) (kk : Nat) (ikp : Int32) (sg : Nat) (do9 : Nat) (ru9 : Nat) (ta9 : Nat) (tp9 : Nat) (ro9 : Nat) (ho9 : Nat) (de9 : Nat) (clk : Nat) (fi : Nat) (la : Nat) (ml : Nat) (mm : Nat) (sl : Nat) (sm : Nat) (cl : Int32) (clm : Nat) (fclm : Nat → Int32) (ffi : Nat → Int32) (fla : Nat → Int32) (fml : Nat → Int32) (fmm : Nat → Int32) (fsl : Nat → Int32) (fsm : Nat → Int32) (fc : Nat) (sh : Nat) (r1 : Int32) (rc : Int32) (rh : Int32) (ffc : Nat → Int32) (fsh : Nat → Int32) (bpersons : Nat) (bpapers : Nat) (bstamps : Nat) (bversions : Nat) (blines : Nat) (bsteps : Nat) (bsayings : Nat) (bfindings : Nat) (bwarnings : Nat) (bquestions : Nat) (td : Int32) (vd : Int32) (vl : Int32) (gp : Int32) (bversionsc : Nat) (kbversions : Nat) (fbversions : Nat → Int32) (bpersonsc : Nat) (kbpersons : Nat) (fbpersons : Nat → Int32) (bpapersc : Nat) (kbpapers : Nat) (fbpapers : Nat → Int32) (blinesc : Nat) (kblines : Nat) (fblines : Nat → Int32) (bstepsc : Nat) (kbsteps : Nat) (fbsteps : Nat → Int32) (bstampsc : Nat) (kbstamps : Nat) (fbstamps : Nat → Int32) (bfindingsc : Nat) (kbfindings : Nat) (fbfindings : Nat → Int32) (hkbversions : kbversions ≤ 8) (hkbpersons : kbpersons ≤ 10) (hkbpapers : kbpapers ≤ 12) (hkblines : kblines ≤ 72) (hkbsteps : kbsteps ≤ 960) (hkbstamps : kbstamps ≤ 24) (hkbfindings : kbfindings ≤ 12) : K_c_leansOn l G h0 x1 x2 bb kk ikp sg do9 ru9 ta9 tp9 ro9 ho9 de9 clk fi la ml mm sl sm cl clm fclm ffi fla fml fmm fsl fsm fc sh r1 rc rh ffc fsh bpersons bpapers bstamps bversions blines bsteps bsayings bfindings bwarnings bquestions td vd vl gp bversionsc kbversions fbversions bpersonsc kbpersons fbpersons bpapersc kbpapers fbpapers blinesc kblines fblines bstepsc kbsteps fbsteps bstampsc kbstamps fbstamps bfindingsc kbfindings fbfindings := by
  refine MI.start (by decide +kernel) (Nat.le_of_ble_eq_true rfl) ?_
  intro p e s m below meth c A ls hC hK hP hD hS hA hl
  refine absQ (fun Q0 hQ0 => ?_)
  have hl : lv_has ls 5 [(0, .ref h0), (1, .int x1), (2, .int x2)] := hl
  refine Kan8 hC (fun hx hb hr hml hB hown hlocks hnm => ?_)
  refine lv_aload_n hx hb dX11_leansOn_0 rfl (lv_at0 hl) ?_
  refine lv_iload_n hx hb dX11_leansOn_1 rfl (lv_at1 hl) ?_
  refine lv_iload_n hx hb dX11_leansOn_2 rfl (lv_at2 hl) ?_
  refine iV (wr := []) hC hK hl hP hD hS hA (c_stands l G h0 x1 x2 bb kk ikp sg do9 ru9 ta9 tp9 ro9 ho9 de9 clk fi la ml mm sl sm cl clm fclm ffi fla fml fmm fsl fsm fc sh r1 rc rh ffc fsh bpersons bpapers bstamps bversions blines bsteps bsayings bfindings bwarnings bquestions td vd vl gp bversionsc kbversions fbversions bpersonsc kbpersons fbpersons bpapersc kbpapers fbpapers blinesc kblines fblines bstepsc kbsteps fbsteps bstampsc kbstamps fbstamps bfindingsc kbfindings fbfindings (hkbversions) (hkbpersons) (hkbpapers) (hkblines) (hkbsteps) (hkbstamps) (hkbfindings)) si_X11_274 [0, 1, 2, 3, 4, 5, 6, 7, 8, 9, 10, 11, 12, 13, 14, 15, 16, 17, 18, 19, 20, 21, 22, 23, 24, 25, 26, 27] [] sm_0_1_2_3_4_5_6_7_8_9_10_11_12_13_14_15_16_17_18_19_20_21_22_23_24_25_26_27 fm_0_1_2_3_4_5_6_7_8_9_10_11_12_13_14_15_16_17_18_19_20_21_22_23_24_25_26_27 nd_0_1_2_3_4_5_6_7_8_9_10_11_12_13_14_15_16_17_18_19_20_21_22_23_24_25_26_27 rfl rfl (by decide) rfl rfl rfl rfl rfl (Nat.le_of_ble_eq_true rfl) rm_8_7_6 ⟨Nat.le_of_ble_eq_true rfl, Nat.le_of_ble_eq_true rfl⟩ dX11_leansOn_3 (fun r2227 => Ktu13 fun cl12229 gclm2230 gfi2231 gla2232 gml2233 gmm2234 gsl2235 gsm2236 r112237 rc12238 rh12239 gfc2240 gsh2241 => ?_)
  intro H locs hr2227 hP hD hS
  try dsimp only at hr2227
  refine Kpdr (ws := [(h0, oX11 bb kk ikp sg do9 ru9 ta9 tp9 ro9 ho9 de9), (sg, oX7 bb clk fi la ml mm sl sm cl12229), (clk, oX1 clm), (clm, iA G 36 gclm2230), (fi, iA G 12 gfi2231), (la, iA G 12 gla2232), (ml, iA G 12 gml2233), (mm, iA G 12 gmm2234), (sl, iA G 12 gsl2235), (sm, iA G 12 gsm2236), (ru9, oX6 bb sg fc sh r112237 rc12238 rh12239), (fc, iA G 5 gfc2240), (sh, iA G 8 gsh2241), (bb, oX0 bpersons bpapers bstamps bversions blines bsteps bsayings bfindings bwarnings bquestions td vd vl gp), (bversions, oX8 8 3 bversionsc (nI kbversions)), (bversionsc, iA G 24 fbversions), (bpersons, oX8 10 2 bpersonsc (nI kbpersons)), (bpersonsc, iA G 20 fbpersons), (bpapers, oX8 12 6 bpapersc (nI kbpapers)), (bpapersc, iA G 72 fbpapers), (blines, oX8 72 7 blinesc (nI kblines)), (blinesc, iA G 504 fblines), (bsteps, oX8 960 1 bstepsc (nI kbsteps)), (bstepsc, iA G 960 fbsteps), (bstamps, oX8 24 3 bstampsc (nI kbstamps)), (bstampsc, iA G 72 fbstamps), (bfindings, oX8 12 4 bfindingsc (nI kbfindings)), (bfindingsc, iA G 48 fbfindings)]) hP hD (fun hP hD => ?_)
  obtain ⟨hr2227, w2242⟩ := hr2227
  rcases hr2227 with rfl | rfl
  · refine lv_if_ne (tgt := 11) hx hb dX11_leansOn_6 (by decide) (fun _ => ?_) (fun c9 => absurd c9 (by decide))
    refine lv_iconst (v := 0) hx hb dX11_leansOn_11 (by decide) ?_
    refine lv_istore_n (lv' := [(3, .int 0), (0, .ref h0), (1, .int x1), (2, .int x2)]) hx hb dX11_leansOn_12 rfl hl (by decide) rfl (fun ls hl => ?_)
    refine lv_iconst (v := 0) hx hb dX11_leansOn_13 (by decide) ?_
    refine lv_istore (lv' := [(4, .int 0), (3, .int 0), (0, .ref h0), (1, .int x1), (2, .int x2)]) hx hb dX11_leansOn_14 hl (by decide) rfl (fun ls hl => ?_)
    have keyP : ∀ (nP kP : Nat) (le : Int32) (wcl : Int32) (wr1 : Int32) (wrc : Int32) (wrh : Int32) (vclm : Nat → Int32) (vfi : Nat → Int32) (vla : Nat → Int32) (vml : Nat → Int32) (vmm : Nat → Int32) (vsl : Nat → Int32) (vsm : Nat → Int32) (vfc : Nat → Int32) (vsh : Nat → Int32) (H : Heap) (locs : List Loc) (ls : Array Slot), kP + nP = kbpapers → (wcl = 0 ∨ wcl = 1) → va_PD G A [(h0, oX11 bb kk ikp sg do9 ru9 ta9 tp9 ro9 ho9 de9), (sg, oX7 bb clk fi la ml mm sl sm wcl), (clk, oX1 clm), (clm, iA G 36 vclm), (fi, iA G 12 vfi), (la, iA G 12 vla), (ml, iA G 12 vml), (mm, iA G 12 vmm), (sl, iA G 12 vsl), (sm, iA G 12 vsm), (ru9, oX6 bb sg fc sh wr1 wrc wrh), (fc, iA G 5 vfc), (sh, iA G 8 vsh), (bb, oX0 bpersons bpapers bstamps bversions blines bsteps bsayings bfindings bwarnings bquestions td vd vl gp), (bversions, oX8 8 3 bversionsc (nI kbversions)), (bversionsc, iA G 24 fbversions), (bpersons, oX8 10 2 bpersonsc (nI kbpersons)), (bpersonsc, iA G 20 fbpersons), (bpapers, oX8 12 6 bpapersc (nI kbpapers)), (bpapersc, iA G 72 fbpapers), (blines, oX8 72 7 blinesc (nI kblines)), (blinesc, iA G 504 fblines), (bsteps, oX8 960 1 bstepsc (nI kbsteps)), (bstepsc, iA G 960 fbsteps), (bstamps, oX8 24 3 bstampsc (nI kbstamps)), (bstampsc, iA G 72 fbstamps), (bfindings, oX8 12 4 bfindingsc (nI kbfindings)), (bfindingsc, iA G 48 fbfindings)] H → va_S A s.heap H locs → lv_has ls 5 [(4, .int (nI kP)), (3, .int le), (0, .ref h0), (1, .int x1), (2, .int x2)] → W p l e (RM 8 0 0) s m ([.ref h0, .int x1, .int x2] : List Value).toArray below meth c H locs 0 0 Q0 (F0 m 16 ls []) := by
      intro nP
      induction nP with
      | zero =>
        intro kP le wcl wr1 wrc wrh vclm vfi vla vml vmm vsl vsm vfc vsh H locs ls hkP hwcl hPD hS hl
        refine Kan2 hPD (fun hP hD => ?_)
        obtain rfl : kbpapers = kP := by omega
        have hl : lv_has ls 5 [(4, .int (nI kbpapers)), (3, .int le), (0, .ref h0), (1, .int x1), (2, .int x2)] := hl
        refine lv_iload hx hb dX11_leansOn_16 (lv_at0 hl) ?_
        refine lv_aload_n hx hb dX11_leansOn_18 rfl (lv_at2 hl) ?_
        refine gf_X11_15 hC rfl hK hP 0 rfl rfl dX11_leansOn_19 ?_
        refine gf_X11_144 hC rfl hK hP 13 rfl rfl dX11_leansOn_22 ?_
        refine pV hC hK hl hP hD (c_T_count l G bpapers 12 6 bpapersc kbpapers) si_X11_174 [18] sm_18 fm_18 nd_18 rfl rfl rfl rfl rfl (Nat.le_of_ble_eq_true rfl) rm_8_1_1 ⟨by first | exact Nat.le_of_ble_eq_true rfl | exact Nat.zero_le _, by first | exact Nat.le_of_ble_eq_true rfl | exact Nat.zero_le _⟩ dX11_leansOn_25 (Keqr ?_)
        refine lv_icmp_ge (tgt := 69) hx hb dX11_leansOn_28 (by decide) (fun _ => ?_) (fun c9 => absurd (Int32.le_refl _) c9)
        refine lv_iload_n hx hb dX11_leansOn_69 rfl (lv_at1 hl) ?_
        exact toQ hQ0 (RI (v := le) hC hP hD hS [0, 1, 2, 3, 4, 5, 6, 7, 8, 9, 10, 11, 12, 13, 14, 15, 16, 17, 18, 19, 20, 21, 22, 23, 24, 25, 26, 27] (wcl, vclm, vfi, vla, vml, vmm, vsl, vsm, wr1, wrc, wrh, vfc, vsh) rfl rfl (by decide) (⟨trivial, hwcl⟩) rfl dX11_leansOn_70)
      | succ nP ihP =>
        intro kP le wcl wr1 wrc wrh vclm vfi vla vml vmm vsl vsm vfc vsh H locs ls hkP hwcl hPD hS hl
        refine Kan2 hPD (fun hP hD => ?_)
        refine lv_iload hx hb dX11_leansOn_16 (lv_at0 hl) ?_
        refine lv_aload_n hx hb dX11_leansOn_18 rfl (lv_at2 hl) ?_
        refine gf_X11_15 hC rfl hK hP 0 rfl rfl dX11_leansOn_19 ?_
        refine gf_X11_144 hC rfl hK hP 13 rfl rfl dX11_leansOn_22 ?_
        refine pV hC hK hl hP hD (c_T_count l G bpapers 12 6 bpapersc kbpapers) si_X11_174 [18] sm_18 fm_18 nd_18 rfl rfl rfl rfl rfl (Nat.le_of_ble_eq_true rfl) rm_8_1_1 ⟨by first | exact Nat.le_of_ble_eq_true rfl | exact Nat.zero_le _, by first | exact Nat.le_of_ble_eq_true rfl | exact Nat.zero_le _⟩ dX11_leansOn_25 (Keqr ?_)
        refine lv_icmp_ge (tgt := 69) hx hb dX11_leansOn_28 (by decide) (fun c9 => absurd c9 (nI_ge (a := kP) (b := kbpapers) (by omega) (by omega))) (fun _ => ?_)
        refine lv_iload_n hx hb dX11_leansOn_31 rfl (lv_at4 hl) ?_
        refine lv_iload hx hb dX11_leansOn_32 (lv_at0 hl) ?_
        refine pS hC hK hl (c_hasBit l G x2 (nI kP)) si_X11_150 rfl rfl (Nat.le_of_ble_eq_true rfl) rm_8_1_2 ⟨by first | exact Nat.le_of_ble_eq_true rfl | exact Nat.zero_le _, by first | exact Nat.le_of_ble_eq_true rfl | exact Nat.zero_le _⟩ dX11_leansOn_34 (Kors (Keqa fun a2249 => ?_) (Keqa fun a2249 => ?_))
        · refine lv_if_eq (tgt := 63) hx hb dX11_leansOn_37 (by decide) (fun c9 => absurd c9 (by decide)) (fun _ => ?_)
          refine lv_aload_n hx hb dX11_leansOn_40 rfl (lv_at2 hl) ?_
          refine lv_iload_n hx hb dX11_leansOn_41 rfl (lv_at3 hl) ?_
          refine lv_iload_n hx hb dX11_leansOn_42 rfl (lv_at4 hl) ?_
          refine lv_iconst (v := 1) hx hb dX11_leansOn_43 (by decide) ?_
          refine lv_iload hx hb dX11_leansOn_44 (lv_at0 hl) ?_
          refine lv_ishl hx hb dX11_leansOn_46 ?_
          refine lv_iconst (v := (-1)) hx hb dX11_leansOn_47 (by decide) ?_
          refine lv_ixor hx hb dX11_leansOn_48 ?_
          refine lv_iand hx hb dX11_leansOn_49 ?_
          refine iV (wr := []) hC hK hl hP hD hS hA (c_stands l G h0 x1 (x2 &&& ((1 <<< ((nI kP) &&& 31)) ^^^ (-1))) bb kk ikp sg do9 ru9 ta9 tp9 ro9 ho9 de9 clk fi la ml mm sl sm wcl clm vclm vfi vla vml vmm vsl vsm fc sh wr1 wrc wrh vfc vsh bpersons bpapers bstamps bversions blines bsteps bsayings bfindings bwarnings bquestions td vd vl gp bversionsc kbversions fbversions bpersonsc kbpersons fbpersons bpapersc kbpapers fbpapers blinesc kblines fblines bstepsc kbsteps fbsteps bstampsc kbstamps fbstamps bfindingsc kbfindings fbfindings (hkbversions) (hkbpersons) (hkbpapers) (hkblines) (hkbsteps) (hkbstamps) (hkbfindings)) si_X11_274 [0, 1, 2, 3, 4, 5, 6, 7, 8, 9, 10, 11, 12, 13, 14, 15, 16, 17, 18, 19, 20, 21, 22, 23, 24, 25, 26, 27] [] sm_0_1_2_3_4_5_6_7_8_9_10_11_12_13_14_15_16_17_18_19_20_21_22_23_24_25_26_27 fm_0_1_2_3_4_5_6_7_8_9_10_11_12_13_14_15_16_17_18_19_20_21_22_23_24_25_26_27 nd_0_1_2_3_4_5_6_7_8_9_10_11_12_13_14_15_16_17_18_19_20_21_22_23_24_25_26_27 rfl rfl (by decide) rfl rfl rfl rfl rfl (Nat.le_of_ble_eq_true rfl) rm_8_7_6 ⟨Nat.le_of_ble_eq_true rfl, Nat.le_of_ble_eq_true rfl⟩ dX11_leansOn_50 (fun r2250 => Ktu13 fun cl12252 gclm2253 gfi2254 gla2255 gml2256 gmm2257 gsl2258 gsm2259 r112260 rc12261 rh12262 gfc2263 gsh2264 => ?_)
          intro H locs hr2250 hP hD hS
          try dsimp only at hr2250
          refine Kpdr (ws := [(h0, oX11 bb kk ikp sg do9 ru9 ta9 tp9 ro9 ho9 de9), (sg, oX7 bb clk fi la ml mm sl sm cl12252), (clk, oX1 clm), (clm, iA G 36 gclm2253), (fi, iA G 12 gfi2254), (la, iA G 12 gla2255), (ml, iA G 12 gml2256), (mm, iA G 12 gmm2257), (sl, iA G 12 gsl2258), (sm, iA G 12 gsm2259), (ru9, oX6 bb sg fc sh r112260 rc12261 rh12262), (fc, iA G 5 gfc2263), (sh, iA G 8 gsh2264), (bb, oX0 bpersons bpapers bstamps bversions blines bsteps bsayings bfindings bwarnings bquestions td vd vl gp), (bversions, oX8 8 3 bversionsc (nI kbversions)), (bversionsc, iA G 24 fbversions), (bpersons, oX8 10 2 bpersonsc (nI kbpersons)), (bpersonsc, iA G 20 fbpersons), (bpapers, oX8 12 6 bpapersc (nI kbpapers)), (bpapersc, iA G 72 fbpapers), (blines, oX8 72 7 blinesc (nI kblines)), (blinesc, iA G 504 fblines), (bsteps, oX8 960 1 bstepsc (nI kbsteps)), (bstepsc, iA G 960 fbsteps), (bstamps, oX8 24 3 bstampsc (nI kbstamps)), (bstampsc, iA G 72 fbstamps), (bfindings, oX8 12 4 bfindingsc (nI kbfindings)), (bfindingsc, iA G 48 fbfindings)]) hP hD (fun hP hD => ?_)
          obtain ⟨hr2250, w2265⟩ := hr2250
          rcases hr2250 with rfl | rfl
          · refine lv_if_ne (tgt := 63) hx hb dX11_leansOn_53 (by decide) (fun _ => ?_) (fun c9 => absurd c9 (by decide))
            refine lv_iinc (v := nI (kP + 1)) (lv' := [(4, .int (nI (kP + 1))), (3, .int le), (0, .ref h0), (1, .int x1), (2, .int x2)]) hx hb dX11_leansOn_63 hl (k := 0) rfl (nI_1 _) (by decide) rfl (fun ls hl => ?_)
            refine lv_goto (tgt := 16) hx hb dX11_leansOn_66 (by decide) ?_
            exact ihP (kP + 1) le cl12252 r112260 rc12261 rh12262 gclm2253 gfi2254 gla2255 gml2256 gmm2257 gsl2258 gsm2259 gfc2263 gsh2264 _ _ _ (by omega) (by first | assumption | exact Or.inl rfl | exact Or.inr rfl) (And.intro hP hD) hS (lv_sub hl [0, 1, 2, 3, 4] rfl)
          · refine lv_if_ne (tgt := 63) hx hb dX11_leansOn_53 (by decide) (fun c9 => absurd (by decide) c9) (fun _ => ?_)
            refine lv_iload_n hx hb dX11_leansOn_56 rfl (lv_at1 hl) ?_
            refine lv_iconst (v := 1) hx hb dX11_leansOn_57 (by decide) ?_
            refine lv_iload hx hb dX11_leansOn_58 (lv_at0 hl) ?_
            refine lv_ishl hx hb dX11_leansOn_60 ?_
            refine lv_ior hx hb dX11_leansOn_61 ?_
            refine lv_istore_n (lv' := [(3, .int (le ||| (1 <<< ((nI kP) &&& 31)))), (4, .int (nI kP)), (0, .ref h0), (1, .int x1), (2, .int x2)]) hx hb dX11_leansOn_62 rfl hl (by decide) rfl (fun ls hl => ?_)
            refine lv_iinc (v := nI (kP + 1)) (lv' := [(4, .int (nI (kP + 1))), (3, .int (le ||| (1 <<< ((nI kP) &&& 31)))), (0, .ref h0), (1, .int x1), (2, .int x2)]) hx hb dX11_leansOn_63 hl (k := 1) rfl (nI_1 _) (by decide) rfl (fun ls hl => ?_)
            refine lv_goto (tgt := 16) hx hb dX11_leansOn_66 (by decide) ?_
            exact ihP (kP + 1) (le ||| (1 <<< ((nI kP) &&& 31))) cl12252 r112260 rc12261 rh12262 gclm2253 gfi2254 gla2255 gml2256 gmm2257 gsl2258 gsm2259 gfc2263 gsh2264 _ _ _ (by omega) (by first | assumption | exact Or.inl rfl | exact Or.inr rfl) (And.intro hP hD) hS (lv_sub hl [0, 1, 2, 3, 4] rfl)
        · refine lv_if_eq (tgt := 63) hx hb dX11_leansOn_37 (by decide) (fun _ => ?_) (fun c9 => absurd (by decide) c9)
          refine lv_iinc (v := nI (kP + 1)) (lv' := [(4, .int (nI (kP + 1))), (3, .int le), (0, .ref h0), (1, .int x1), (2, .int x2)]) hx hb dX11_leansOn_63 hl (k := 0) rfl (nI_1 _) (by decide) rfl (fun ls hl => ?_)
          refine lv_goto (tgt := 16) hx hb dX11_leansOn_66 (by decide) ?_
          exact ihP (kP + 1) le wcl wr1 wrc wrh vclm vfi vla vml vmm vsl vsm vfc vsh _ _ _ (by omega) (by first | assumption | exact Or.inl rfl | exact Or.inr rfl) (And.intro hP hD) hS (lv_sub hl [0, 1, 2, 3, 4] rfl)
    exact keyP kbpapers 0 0 cl12229 r112237 rc12238 rh12239 gclm2230 gfi2231 gla2232 gml2233 gmm2234 gsl2235 gsm2236 gfc2240 gsh2241 _ _ _ (by omega) (by first | assumption | exact Or.inl rfl | exact Or.inr rfl) (And.intro hP hD) hS (lv_sub hl [0, 1, 2, 3, 4] rfl)
  · refine lv_if_ne (tgt := 11) hx hb dX11_leansOn_6 (by decide) (fun c9 => absurd (by decide) c9) (fun _ => ?_)
    refine lv_iconst (v := 0) hx hb dX11_leansOn_9 (by decide) ?_
    exact toQ hQ0 (RI (v := 0) hC hP hD hS [0, 1, 2, 3, 4, 5, 6, 7, 8, 9, 10, 11, 12, 13, 14, 15, 16, 17, 18, 19, 20, 21, 22, 23, 24, 25, 26, 27] (cl12229, gclm2230, gfi2231, gla2232, gml2233, gmm2234, gsl2235, gsm2236, r112237, rc12238, rh12239, gfc2240, gsh2241) rfl rfl (by decide) (⟨trivial, w2242⟩) rfl dX11_leansOn_10)
def K_c_countStanding (l : Launch) (G : GG) (h0 : Nat) (x1 : Int32) (bb : Nat) (kk : Nat) (ikp : Int32) (sg : Nat) (do9 : Nat) (ru9 : Nat) (ta9 : Nat) (tp9 : Nat) (ro9 : Nat) (ho9 : Nat) (de9 : Nat) (clk : Nat) (fi : Nat) (la : Nat) (ml : Nat) (mm : Nat) (sl : Nat) (sm : Nat) (cl : Int32) (clm : Nat) (fclm : Nat → Int32) (ffi : Nat → Int32) (fla : Nat → Int32) (fml : Nat → Int32) (fmm : Nat → Int32) (fsl : Nat → Int32) (fsm : Nat → Int32) (fc : Nat) (sh : Nat) (r1 : Int32) (rc : Int32) (rh : Int32) (ffc : Nat → Int32) (fsh : Nat → Int32) (bpersons : Nat) (bpapers : Nat) (bstamps : Nat) (bversions : Nat) (blines : Nat) (bsteps : Nat) (bsayings : Nat) (bfindings : Nat) (bwarnings : Nat) (bquestions : Nat) (td : Int32) (vd : Int32) (vl : Int32) (gp : Int32) (bversionsc : Nat) (kbversions : Nat) (fbversions : Nat → Int32) (bpersonsc : Nat) (kbpersons : Nat) (fbpersons : Nat → Int32) (bpapersc : Nat) (kbpapers : Nat) (fbpapers : Nat → Int32) (blinesc : Nat) (kblines : Nat) (fblines : Nat → Int32) (bstepsc : Nat) (kbsteps : Nat) (fbsteps : Nat → Int32) (bstampsc : Nat) (kbstamps : Nat) (fbstamps : Nat → Int32) (bfindingsc : Nat) (kbfindings : Nat) (fbfindings : Nat → Int32) : Prop := MI l G yX11_countStanding cX11_countStanding 4 (some .int) 8 0 0 [.ref h0, .int x1] [(h0, oX11 bb kk ikp sg do9 ru9 ta9 tp9 ro9 ho9 de9), (sg, oX7 bb clk fi la ml mm sl sm cl), (clk, oX1 clm), (clm, iA G 36 fclm), (fi, iA G 12 ffi), (la, iA G 12 fla), (ml, iA G 12 fml), (mm, iA G 12 fmm), (sl, iA G 12 fsl), (sm, iA G 12 fsm), (ru9, oX6 bb sg fc sh r1 rc rh), (fc, iA G 5 ffc), (sh, iA G 8 fsh), (bb, oX0 bpersons bpapers bstamps bversions blines bsteps bsayings bfindings bwarnings bquestions td vd vl gp), (bversions, oX8 8 3 bversionsc (nI kbversions)), (bversionsc, iA G 24 fbversions), (bpersons, oX8 10 2 bpersonsc (nI kbpersons)), (bpersonsc, iA G 20 fbpersons), (bpapers, oX8 12 6 bpapersc (nI kbpapers)), (bpapersc, iA G 72 fbpapers), (blines, oX8 72 7 blinesc (nI kblines)), (blinesc, iA G 504 fblines), (bsteps, oX8 960 1 bstepsc (nI kbsteps)), (bstepsc, iA G 960 fbsteps), (bstamps, oX8 24 3 bstampsc (nI kbstamps)), (bstampsc, iA G 72 fbstamps), (bfindings, oX8 12 4 bfindingsc (nI kbfindings)), (bfindingsc, iA G 48 fbfindings)] (fun (r : Int32) (u : Int32 × (Nat → Int32) × (Nat → Int32) × (Nat → Int32) × (Nat → Int32) × (Nat → Int32) × (Nat → Int32) × (Nat → Int32) × Int32 × Int32 × Int32 × (Nat → Int32) × (Nat → Int32)) => (True) ∧ (u.1 = 0 ∨ u.1 = 1)) (fun u : Int32 × (Nat → Int32) × (Nat → Int32) × (Nat → Int32) × (Nat → Int32) × (Nat → Int32) × (Nat → Int32) × (Nat → Int32) × Int32 × Int32 × Int32 × (Nat → Int32) × (Nat → Int32) => [(h0, oX11 bb kk ikp sg do9 ru9 ta9 tp9 ro9 ho9 de9), (sg, oX7 bb clk fi la ml mm sl sm u.1), (clk, oX1 clm), (clm, iA G 36 u.2.1), (fi, iA G 12 u.2.2.1), (la, iA G 12 u.2.2.2.1), (ml, iA G 12 u.2.2.2.2.1), (mm, iA G 12 u.2.2.2.2.2.1), (sl, iA G 12 u.2.2.2.2.2.2.1), (sm, iA G 12 u.2.2.2.2.2.2.2.1), (ru9, oX6 bb sg fc sh u.2.2.2.2.2.2.2.2.1 u.2.2.2.2.2.2.2.2.2.1 u.2.2.2.2.2.2.2.2.2.2.1), (fc, iA G 5 u.2.2.2.2.2.2.2.2.2.2.2.1), (sh, iA G 8 u.2.2.2.2.2.2.2.2.2.2.2.2), (bb, oX0 bpersons bpapers bstamps bversions blines bsteps bsayings bfindings bwarnings bquestions td vd vl gp), (bversions, oX8 8 3 bversionsc (nI kbversions)), (bversionsc, iA G 24 fbversions), (bpersons, oX8 10 2 bpersonsc (nI kbpersons)), (bpersonsc, iA G 20 fbpersons), (bpapers, oX8 12 6 bpapersc (nI kbpapers)), (bpapersc, iA G 72 fbpapers), (blines, oX8 72 7 blinesc (nI kblines)), (blinesc, iA G 504 fblines), (bsteps, oX8 960 1 bstepsc (nI kbsteps)), (bstepsc, iA G 960 fbsteps), (bstamps, oX8 24 3 bstampsc (nI kbstamps)), (bstampsc, iA G 72 fbstamps), (bfindings, oX8 12 4 bfindingsc (nI kbfindings)), (bfindingsc, iA G 48 fbfindings)])
set_option maxHeartbeats 4000000 in
set_option maxRecDepth 100000 in
theorem c_countStanding (l : Launch) (G : GG) (h0 : Nat) (x1 : Int32) (bb : Nat) (kk : Nat) (ikp : Int32) (sg : Nat) (do9 : Nat) (ru9 : Nat) (ta9 : Nat) (tp9 : Nat) (ro9 : Nat) (ho9 : Nat) (de9 : Nat) (clk : Nat) (fi : Nat) (la : Nat) (ml : Nat) (mm : Nat) (sl : Nat) (sm : Nat) (cl : Int32) (clm : Nat) (fclm : Nat → Int32) (ffi : Nat → Int32) (fla : Nat → Int32) (fml : Nat → Int32) (fmm : Nat → Int32) (fsl : Nat → Int32) (fsm : Nat → Int32) (fc : Nat) (sh : Nat) (r1 : Int32) (rc : Int32) (rh : Int32) (ffc : Nat → Int32) (fsh : Nat → Int32) (bpersons : Nat) (bpapers : Nat) (bstamps : Nat) (bversions : Nat) (blines : Nat) (bsteps : Nat) (bsayings : Nat) (bfindings : Nat) (bwarnings : Nat) (bquestions : Nat) (td : Int32) (vd : Int32) (vl : Int32) (gp : Int32) (bversionsc : Nat) (kbversions : Nat) (fbversions : Nat → Int32) (bpersonsc : Nat) (kbpersons : Nat) (fbpersons : Nat → Int32) (bpapersc : Nat) (kbpapers : Nat) (fbpapers : Nat → Int32) (blinesc : Nat) (kblines : Nat) (fblines : Nat → Int32) (bstepsc : Nat) (kbsteps : Nat) (fbsteps : Nat → Int32) (bstampsc : Nat) (kbstamps : Nat) (fbstamps : Nat → Int32) (bfindingsc : Nat) (kbfindings : Nat) (fbfindings : Nat → Int32) (hkbversions : kbversions ≤ 8) (hkbpersons : kbpersons ≤ 10) (hkbpapers : kbpapers ≤ 12) (hkblines : kblines ≤ 72) (hkbsteps : kbsteps ≤ 960) (hkbstamps : kbstamps ≤ 24) (hkbfindings : kbfindings ≤ 12) (hcl : cl = 0 ∨ cl = 1) : K_c_countStanding l G h0 x1 bb kk ikp sg do9 ru9 ta9 tp9 ro9 ho9 de9 clk fi la ml mm sl sm cl clm fclm ffi fla fml fmm fsl fsm fc sh r1 rc rh ffc fsh bpersons bpapers bstamps bversions blines bsteps bsayings bfindings bwarnings bquestions td vd vl gp bversionsc kbversions fbversions bpersonsc kbpersons fbpersons bpapersc kbpapers fbpapers blinesc kblines fblines bstepsc kbsteps fbsteps bstampsc kbstamps fbstamps bfindingsc kbfindings fbfindings := by
  refine MI.start (by decide +kernel) (Nat.le_of_ble_eq_true rfl) ?_
  intro p e s m below meth c A ls hC hK hP hD hS hA hl
  refine absQ (fun Q0 hQ0 => ?_)
  have hl : lv_has ls 4 [(0, .ref h0), (1, .int x1)] := hl
  refine Kan8 hC (fun hx hb hr hml hB hown hlocks hnm => ?_)
  refine lv_iconst (v := 0) hx hb dX11_countStanding_0 (by decide) ?_
  refine lv_istore_n (lv' := [(2, .int 0), (0, .ref h0), (1, .int x1)]) hx hb dX11_countStanding_1 rfl hl (by decide) rfl (fun ls hl => ?_)
  refine lv_iconst (v := 0) hx hb dX11_countStanding_2 (by decide) ?_
  refine lv_istore_n (lv' := [(3, .int 0), (2, .int 0), (0, .ref h0), (1, .int x1)]) hx hb dX11_countStanding_3 rfl hl (by decide) rfl (fun ls hl => ?_)
  have keyP : ∀ (nP kP : Nat) (cn : Int32) (wcl : Int32) (wr1 : Int32) (wrc : Int32) (wrh : Int32) (vclm : Nat → Int32) (vfi : Nat → Int32) (vla : Nat → Int32) (vml : Nat → Int32) (vmm : Nat → Int32) (vsl : Nat → Int32) (vsm : Nat → Int32) (vfc : Nat → Int32) (vsh : Nat → Int32) (H : Heap) (locs : List Loc) (ls : Array Slot), kP + nP = kbfindings → (wcl = 0 ∨ wcl = 1) → va_PD G A [(h0, oX11 bb kk ikp sg do9 ru9 ta9 tp9 ro9 ho9 de9), (sg, oX7 bb clk fi la ml mm sl sm wcl), (clk, oX1 clm), (clm, iA G 36 vclm), (fi, iA G 12 vfi), (la, iA G 12 vla), (ml, iA G 12 vml), (mm, iA G 12 vmm), (sl, iA G 12 vsl), (sm, iA G 12 vsm), (ru9, oX6 bb sg fc sh wr1 wrc wrh), (fc, iA G 5 vfc), (sh, iA G 8 vsh), (bb, oX0 bpersons bpapers bstamps bversions blines bsteps bsayings bfindings bwarnings bquestions td vd vl gp), (bversions, oX8 8 3 bversionsc (nI kbversions)), (bversionsc, iA G 24 fbversions), (bpersons, oX8 10 2 bpersonsc (nI kbpersons)), (bpersonsc, iA G 20 fbpersons), (bpapers, oX8 12 6 bpapersc (nI kbpapers)), (bpapersc, iA G 72 fbpapers), (blines, oX8 72 7 blinesc (nI kblines)), (blinesc, iA G 504 fblines), (bsteps, oX8 960 1 bstepsc (nI kbsteps)), (bstepsc, iA G 960 fbsteps), (bstamps, oX8 24 3 bstampsc (nI kbstamps)), (bstampsc, iA G 72 fbstamps), (bfindings, oX8 12 4 bfindingsc (nI kbfindings)), (bfindingsc, iA G 48 fbfindings)] H → va_S A s.heap H locs → lv_has ls 4 [(3, .int (nI kP)), (2, .int cn), (0, .ref h0), (1, .int x1)] → W p l e (RM 8 0 0) s m ([.ref h0, .int x1] : List Value).toArray below meth c H locs 0 0 Q0 (F0 m 4 ls []) := by
    intro nP
    induction nP with
    | zero =>
      intro kP cn wcl wr1 wrc wrh vclm vfi vla vml vmm vsl vsm vfc vsh H locs ls hkP hwcl hPD hS hl
      refine Kan2 hPD (fun hP hD => ?_)
      obtain rfl : kbfindings = kP := by omega
      have hl : lv_has ls 4 [(3, .int (nI kbfindings)), (2, .int cn), (0, .ref h0), (1, .int x1)] := hl
      refine lv_iload_n hx hb dX11_countStanding_4 rfl (lv_at0 hl) ?_
      refine lv_aload_n hx hb dX11_countStanding_5 rfl (lv_at2 hl) ?_
      refine gf_X11_15 hC rfl hK hP 0 rfl rfl dX11_countStanding_6 ?_
      refine gf_X11_271 hC rfl hK hP 13 rfl rfl dX11_countStanding_9 ?_
      refine pV hC hK hl hP hD (c_T_count l G bfindings 12 4 bfindingsc kbfindings) si_X11_174 [26] sm_26 fm_26 nd_26 rfl rfl rfl rfl rfl (Nat.le_of_ble_eq_true rfl) rm_8_1_1 ⟨by first | exact Nat.le_of_ble_eq_true rfl | exact Nat.zero_le _, by first | exact Nat.le_of_ble_eq_true rfl | exact Nat.zero_le _⟩ dX11_countStanding_12 (Keqr ?_)
      refine lv_icmp_ge (tgt := 36) hx hb dX11_countStanding_15 (by decide) (fun _ => ?_) (fun c9 => absurd (Int32.le_refl _) c9)
      refine lv_iload_n hx hb dX11_countStanding_36 rfl (lv_at1 hl) ?_
      exact toQ hQ0 (RI (v := cn) hC hP hD hS [0, 1, 2, 3, 4, 5, 6, 7, 8, 9, 10, 11, 12, 13, 14, 15, 16, 17, 18, 19, 20, 21, 22, 23, 24, 25, 26, 27] (wcl, vclm, vfi, vla, vml, vmm, vsl, vsm, wr1, wrc, wrh, vfc, vsh) rfl rfl (by decide) (⟨trivial, hwcl⟩) rfl dX11_countStanding_37)
    | succ nP ihP =>
      intro kP cn wcl wr1 wrc wrh vclm vfi vla vml vmm vsl vsm vfc vsh H locs ls hkP hwcl hPD hS hl
      refine Kan2 hPD (fun hP hD => ?_)
      refine lv_iload_n hx hb dX11_countStanding_4 rfl (lv_at0 hl) ?_
      refine lv_aload_n hx hb dX11_countStanding_5 rfl (lv_at2 hl) ?_
      refine gf_X11_15 hC rfl hK hP 0 rfl rfl dX11_countStanding_6 ?_
      refine gf_X11_271 hC rfl hK hP 13 rfl rfl dX11_countStanding_9 ?_
      refine pV hC hK hl hP hD (c_T_count l G bfindings 12 4 bfindingsc kbfindings) si_X11_174 [26] sm_26 fm_26 nd_26 rfl rfl rfl rfl rfl (Nat.le_of_ble_eq_true rfl) rm_8_1_1 ⟨by first | exact Nat.le_of_ble_eq_true rfl | exact Nat.zero_le _, by first | exact Nat.le_of_ble_eq_true rfl | exact Nat.zero_le _⟩ dX11_countStanding_12 (Keqr ?_)
      refine lv_icmp_ge (tgt := 36) hx hb dX11_countStanding_15 (by decide) (fun c9 => absurd c9 (nI_ge (a := kP) (b := kbfindings) (by omega) (by omega))) (fun _ => ?_)
      refine lv_aload_n hx hb dX11_countStanding_18 rfl (lv_at2 hl) ?_
      refine lv_iload_n hx hb dX11_countStanding_19 rfl (lv_at0 hl) ?_
      refine lv_iload_n hx hb dX11_countStanding_20 rfl (lv_at3 hl) ?_
      refine iV (wr := []) hC hK hl hP hD hS hA (c_stands l G h0 (nI kP) x1 bb kk ikp sg do9 ru9 ta9 tp9 ro9 ho9 de9 clk fi la ml mm sl sm wcl clm vclm vfi vla vml vmm vsl vsm fc sh wr1 wrc wrh vfc vsh bpersons bpapers bstamps bversions blines bsteps bsayings bfindings bwarnings bquestions td vd vl gp bversionsc kbversions fbversions bpersonsc kbpersons fbpersons bpapersc kbpapers fbpapers blinesc kblines fblines bstepsc kbsteps fbsteps bstampsc kbstamps fbstamps bfindingsc kbfindings fbfindings (hkbversions) (hkbpersons) (hkbpapers) (hkblines) (hkbsteps) (hkbstamps) (hkbfindings)) si_X11_274 [0, 1, 2, 3, 4, 5, 6, 7, 8, 9, 10, 11, 12, 13, 14, 15, 16, 17, 18, 19, 20, 21, 22, 23, 24, 25, 26, 27] [] sm_0_1_2_3_4_5_6_7_8_9_10_11_12_13_14_15_16_17_18_19_20_21_22_23_24_25_26_27 fm_0_1_2_3_4_5_6_7_8_9_10_11_12_13_14_15_16_17_18_19_20_21_22_23_24_25_26_27 nd_0_1_2_3_4_5_6_7_8_9_10_11_12_13_14_15_16_17_18_19_20_21_22_23_24_25_26_27 rfl rfl (by decide) rfl rfl rfl rfl rfl (Nat.le_of_ble_eq_true rfl) rm_8_7_6 ⟨Nat.le_of_ble_eq_true rfl, Nat.le_of_ble_eq_true rfl⟩ dX11_countStanding_21 (fun r2271 => Ktu13 fun cl12273 gclm2274 gfi2275 gla2276 gml2277 gmm2278 gsl2279 gsm2280 r112281 rc12282 rh12283 gfc2284 gsh2285 => ?_)
      intro H locs hr2271 hP hD hS
      try dsimp only at hr2271
      refine Kpdr (ws := [(h0, oX11 bb kk ikp sg do9 ru9 ta9 tp9 ro9 ho9 de9), (sg, oX7 bb clk fi la ml mm sl sm cl12273), (clk, oX1 clm), (clm, iA G 36 gclm2274), (fi, iA G 12 gfi2275), (la, iA G 12 gla2276), (ml, iA G 12 gml2277), (mm, iA G 12 gmm2278), (sl, iA G 12 gsl2279), (sm, iA G 12 gsm2280), (ru9, oX6 bb sg fc sh r112281 rc12282 rh12283), (fc, iA G 5 gfc2284), (sh, iA G 8 gsh2285), (bb, oX0 bpersons bpapers bstamps bversions blines bsteps bsayings bfindings bwarnings bquestions td vd vl gp), (bversions, oX8 8 3 bversionsc (nI kbversions)), (bversionsc, iA G 24 fbversions), (bpersons, oX8 10 2 bpersonsc (nI kbpersons)), (bpersonsc, iA G 20 fbpersons), (bpapers, oX8 12 6 bpapersc (nI kbpapers)), (bpapersc, iA G 72 fbpapers), (blines, oX8 72 7 blinesc (nI kblines)), (blinesc, iA G 504 fblines), (bsteps, oX8 960 1 bstepsc (nI kbsteps)), (bstepsc, iA G 960 fbsteps), (bstamps, oX8 24 3 bstampsc (nI kbstamps)), (bstampsc, iA G 72 fbstamps), (bfindings, oX8 12 4 bfindingsc (nI kbfindings)), (bfindingsc, iA G 48 fbfindings)]) hP hD (fun hP hD => ?_)
      obtain ⟨hr2271, w2286⟩ := hr2271
      rcases hr2271 with rfl | rfl
      · refine lv_if_eq (tgt := 30) hx hb dX11_countStanding_24 (by decide) (fun c9 => absurd c9 (by decide)) (fun _ => ?_)
        refine lv_iinc (v := cn + 1) (lv' := [(2, .int (cn + 1)), (3, .int (nI kP)), (0, .ref h0), (1, .int x1)]) hx hb dX11_countStanding_27 hl (k := 1) rfl (rfl) (by decide) rfl (fun ls hl => ?_)
        refine lv_iinc (v := nI (kP + 1)) (lv' := [(3, .int (nI (kP + 1))), (2, .int (cn + 1)), (0, .ref h0), (1, .int x1)]) hx hb dX11_countStanding_30 hl (k := 1) rfl (nI_1 _) (by decide) rfl (fun ls hl => ?_)
        refine lv_goto (tgt := 4) hx hb dX11_countStanding_33 (by decide) ?_
        exact ihP (kP + 1) (cn + 1) cl12273 r112281 rc12282 rh12283 gclm2274 gfi2275 gla2276 gml2277 gmm2278 gsl2279 gsm2280 gfc2284 gsh2285 _ _ _ (by omega) (by first | assumption | exact Or.inl rfl | exact Or.inr rfl) (And.intro hP hD) hS (lv_sub hl [0, 1, 2, 3] rfl)
      · refine lv_if_eq (tgt := 30) hx hb dX11_countStanding_24 (by decide) (fun _ => ?_) (fun c9 => absurd (by decide) c9)
        refine lv_iinc (v := nI (kP + 1)) (lv' := [(3, .int (nI (kP + 1))), (2, .int cn), (0, .ref h0), (1, .int x1)]) hx hb dX11_countStanding_30 hl (k := 0) rfl (nI_1 _) (by decide) rfl (fun ls hl => ?_)
        refine lv_goto (tgt := 4) hx hb dX11_countStanding_33 (by decide) ?_
        exact ihP (kP + 1) cn cl12273 r112281 rc12282 rh12283 gclm2274 gfi2275 gla2276 gml2277 gmm2278 gsl2279 gsm2280 gfc2284 gsh2285 _ _ _ (by omega) (by first | assumption | exact Or.inl rfl | exact Or.inr rfl) (And.intro hP hD) hS (lv_sub hl [0, 1, 2, 3] rfl)
  exact keyP kbfindings 0 0 cl r1 rc rh fclm ffi fla fml fmm fsl fsm ffc fsh _ _ _ (by omega) (by first | assumption | exact Or.inl rfl | exact Or.inr rfl) (And.intro hP hD) hS (lv_sub hl [0, 1, 2, 3] rfl)
def K_c_isBarred (l : Launch) (G : GG) (h0 : Nat) (x1 : Int32) (x2 : Int32) (x3 : Int32) (bb : Nat) (kk : Nat) (ikp : Int32) (sg : Nat) (do9 : Nat) (ru9 : Nat) (ta9 : Nat) (tp9 : Nat) (ro9 : Nat) (ho9 : Nat) (de9 : Nat) (fc : Nat) (sh : Nat) (r1 : Int32) (rc : Int32) (rh : Int32) (ffc : Nat → Int32) (fsh : Nat → Int32) (bpersons : Nat) (bpapers : Nat) (bstamps : Nat) (bversions : Nat) (blines : Nat) (bsteps : Nat) (bsayings : Nat) (bfindings : Nat) (bwarnings : Nat) (bquestions : Nat) (td : Int32) (vd : Int32) (vl : Int32) (gp : Int32) (bversionsc : Nat) (kbversions : Nat) (fbversions : Nat → Int32) (bpersonsc : Nat) (kbpersons : Nat) (fbpersons : Nat → Int32) (bpapersc : Nat) (kbpapers : Nat) (fbpapers : Nat → Int32) (blinesc : Nat) (kblines : Nat) (fblines : Nat → Int32) (bstepsc : Nat) (kbsteps : Nat) (fbsteps : Nat → Int32) (bfindingsc : Nat) (kbfindings : Nat) (fbfindings : Nat → Int32) (bsayingsc : Nat) (kbsayings : Nat) (fbsayings : Nat → Int32) (bwarningsc : Nat) (kbwarnings : Nat) (fbwarnings : Nat → Int32) : Prop := MI l G yX11_isBarred cX11_isBarred 7 (some .boolean) 7 0 0 [.ref h0, .int x1, .int x2, .int x3] [(h0, oX11 bb kk ikp sg do9 ru9 ta9 tp9 ro9 ho9 de9), (ru9, oX6 bb sg fc sh r1 rc rh), (fc, iA G 5 ffc), (sh, iA G 8 fsh), (bb, oX0 bpersons bpapers bstamps bversions blines bsteps bsayings bfindings bwarnings bquestions td vd vl gp), (bversions, oX8 8 3 bversionsc (nI kbversions)), (bversionsc, iA G 24 fbversions), (bpersons, oX8 10 2 bpersonsc (nI kbpersons)), (bpersonsc, iA G 20 fbpersons), (bpapers, oX8 12 6 bpapersc (nI kbpapers)), (bpapersc, iA G 72 fbpapers), (blines, oX8 72 7 blinesc (nI kblines)), (blinesc, iA G 504 fblines), (bsteps, oX8 960 1 bstepsc (nI kbsteps)), (bstepsc, iA G 960 fbsteps), (bfindings, oX8 12 4 bfindingsc (nI kbfindings)), (bfindingsc, iA G 48 fbfindings), (bsayings, oX8 16 8 bsayingsc (nI kbsayings)), (bsayingsc, iA G 128 fbsayings), (bwarnings, oX8 16 3 bwarningsc (nI kbwarnings)), (bwarningsc, iA G 48 fbwarnings)] (fun (r : Int32) (u : Int32 × Int32 × Int32 × (Nat → Int32)) => (r = 1 ∨ r = 0)) (fun u : Int32 × Int32 × Int32 × (Nat → Int32) => [(h0, oX11 bb kk ikp sg do9 ru9 ta9 tp9 ro9 ho9 de9), (ru9, oX6 bb sg fc sh u.1 u.2.1 u.2.2.1), (fc, iA G 5 u.2.2.2), (sh, iA G 8 fsh), (bb, oX0 bpersons bpapers bstamps bversions blines bsteps bsayings bfindings bwarnings bquestions td vd vl gp), (bversions, oX8 8 3 bversionsc (nI kbversions)), (bversionsc, iA G 24 fbversions), (bpersons, oX8 10 2 bpersonsc (nI kbpersons)), (bpersonsc, iA G 20 fbpersons), (bpapers, oX8 12 6 bpapersc (nI kbpapers)), (bpapersc, iA G 72 fbpapers), (blines, oX8 72 7 blinesc (nI kblines)), (blinesc, iA G 504 fblines), (bsteps, oX8 960 1 bstepsc (nI kbsteps)), (bstepsc, iA G 960 fbsteps), (bfindings, oX8 12 4 bfindingsc (nI kbfindings)), (bfindingsc, iA G 48 fbfindings), (bsayings, oX8 16 8 bsayingsc (nI kbsayings)), (bsayingsc, iA G 128 fbsayings), (bwarnings, oX8 16 3 bwarningsc (nI kbwarnings)), (bwarningsc, iA G 48 fbwarnings)])
set_option maxHeartbeats 4000000 in
set_option maxRecDepth 100000 in
theorem c_isBarred (l : Launch) (G : GG) (h0 : Nat) (x1 : Int32) (x2 : Int32) (x3 : Int32) (bb : Nat) (kk : Nat) (ikp : Int32) (sg : Nat) (do9 : Nat) (ru9 : Nat) (ta9 : Nat) (tp9 : Nat) (ro9 : Nat) (ho9 : Nat) (de9 : Nat) (fc : Nat) (sh : Nat) (r1 : Int32) (rc : Int32) (rh : Int32) (ffc : Nat → Int32) (fsh : Nat → Int32) (bpersons : Nat) (bpapers : Nat) (bstamps : Nat) (bversions : Nat) (blines : Nat) (bsteps : Nat) (bsayings : Nat) (bfindings : Nat) (bwarnings : Nat) (bquestions : Nat) (td : Int32) (vd : Int32) (vl : Int32) (gp : Int32) (bversionsc : Nat) (kbversions : Nat) (fbversions : Nat → Int32) (bpersonsc : Nat) (kbpersons : Nat) (fbpersons : Nat → Int32) (bpapersc : Nat) (kbpapers : Nat) (fbpapers : Nat → Int32) (blinesc : Nat) (kblines : Nat) (fblines : Nat → Int32) (bstepsc : Nat) (kbsteps : Nat) (fbsteps : Nat → Int32) (bfindingsc : Nat) (kbfindings : Nat) (fbfindings : Nat → Int32) (bsayingsc : Nat) (kbsayings : Nat) (fbsayings : Nat → Int32) (bwarningsc : Nat) (kbwarnings : Nat) (fbwarnings : Nat → Int32) (hkbversions : kbversions ≤ 8) (hkbpersons : kbpersons ≤ 10) (hkbpapers : kbpapers ≤ 12) (hkblines : kblines ≤ 72) (hkbsteps : kbsteps ≤ 960) (hkbfindings : kbfindings ≤ 12) (hkbsayings : kbsayings ≤ 16) (hkbwarnings : kbwarnings ≤ 16) : K_c_isBarred l G h0 x1 x2 x3 bb kk ikp sg do9 ru9 ta9 tp9 ro9 ho9 de9 fc sh r1 rc rh ffc fsh bpersons bpapers bstamps bversions blines bsteps bsayings bfindings bwarnings bquestions td vd vl gp bversionsc kbversions fbversions bpersonsc kbpersons fbpersons bpapersc kbpapers fbpapers blinesc kblines fblines bstepsc kbsteps fbsteps bfindingsc kbfindings fbfindings bsayingsc kbsayings fbsayings bwarningsc kbwarnings fbwarnings := by
  refine MI.start (by decide +kernel) (Nat.le_of_ble_eq_true rfl) ?_
  intro p e s m below meth c A ls hC hK hP hD hS hA hl
  refine absQ (fun Q0 hQ0 => ?_)
  have hl : lv_has ls 7 [(0, .ref h0), (1, .int x1), (2, .int x2), (3, .int x3)] := hl
  refine Kan8 hC (fun hx hb hr hml hB hown hlocks hnm => ?_)
  refine lv_aload_n hx hb dX11_isBarred_0 rfl (lv_at0 hl) ?_
  refine gf_X11_15 hC rfl hK hP 0 rfl rfl dX11_isBarred_1 ?_
  refine gf_X11_271 hC rfl hK hP 4 rfl rfl dX11_isBarred_4 ?_
  refine lv_iload_n hx hb dX11_isBarred_7 rfl (lv_at1 hl) ?_
  refine lv_iconst (v := 0) hx hb dX11_isBarred_8 (by decide) ?_
  refine pV hC hK hl hP hD (c_T_at l G bfindings x1 0 12 4 bfindingsc kbfindings fbfindings (hkbfindings) (by omega) (by omega)) si_X11_128 [15, 16] sm_15_16 fm_15_16 nd_15_16 rfl rfl rfl rfl rfl (Nat.le_of_ble_eq_true rfl) rm_7_1_3 ⟨by first | exact Nat.le_of_ble_eq_true rfl | exact Nat.zero_le _, by first | exact Nat.le_of_ble_eq_true rfl | exact Nat.zero_le _⟩ dX11_isBarred_9 (fun r2288 hr2288 => ?_)
  refine lv_istore (lv' := [(4, .int r2288), (0, .ref h0), (1, .int x1), (2, .int x2), (3, .int x3)]) hx hb dX11_isBarred_12 hl (by decide) rfl (fun ls hl => ?_)
  refine lv_aload_n hx hb dX11_isBarred_14 rfl (lv_at1 hl) ?_
  refine gf_X11_44 hC rfl hK hP 0 rfl rfl dX11_isBarred_15 ?_
  refine lv_iload hx hb dX11_isBarred_18 (lv_at0 hl) ?_
  refine lv_iload_n hx hb dX11_isBarred_20 rfl (lv_at3 hl) ?_
  refine vV (wr := [(h0, oX11 bb kk ikp sg do9 ru9 ta9 tp9 ro9 ho9 de9), (sh, iA G 8 fsh), (bfindings, oX8 12 4 bfindingsc (nI kbfindings)), (bfindingsc, iA G 48 fbfindings), (bsayings, oX8 16 8 bsayingsc (nI kbsayings)), (bsayingsc, iA G 128 fbsayings), (bwarnings, oX8 16 3 bwarningsc (nI kbwarnings)), (bwarningsc, iA G 48 fbwarnings)]) hC hK hl hP hD hS hA (c_consider l G ru9 r2288 x2 bb sg fc sh r1 rc rh ffc bpersons bpapers bstamps bversions blines bsteps bsayings bfindings bwarnings bquestions td vd vl gp bversionsc kbversions fbversions bpersonsc kbpersons fbpersons bpapersc kbpapers fbpapers blinesc kblines fblines bstepsc kbsteps fbsteps (hkbversions) (hkbpersons) (hkbpapers) (hkblines) (hkbsteps)) si_X11_364 [1, 2, 4, 5, 6, 7, 8, 9, 10, 11, 12, 13, 14] [0, 3, 15, 16, 17, 18, 19, 20] sm_1_2_4_5_6_7_8_9_10_11_12_13_14 fm_1_2_4_5_6_7_8_9_10_11_12_13_14 nd_1_2_4_5_6_7_8_9_10_11_12_13_14 sm_0_3_15_16_17_18_19_20 nd_0_3_15_16_17_18_19_20 dj_1_2_4_5_6_7_8_9_10_11_12_13_14__0_3_15_16_17_18_19_20 rfl rfl rfl rfl rfl (Nat.le_of_ble_eq_true rfl) rm_7_4_5 ⟨Nat.le_of_ble_eq_true rfl, Nat.le_of_ble_eq_true rfl⟩ dX11_isBarred_21 (Ktu4 fun r112292 rc12293 rh12294 gfc2295 => ?_)
  intro H locs hr2290 hP hD hS
  try dsimp only at hr2290
  refine Kpdr (ws := [(h0, oX11 bb kk ikp sg do9 ru9 ta9 tp9 ro9 ho9 de9), (sh, iA G 8 fsh), (bfindings, oX8 12 4 bfindingsc (nI kbfindings)), (bfindingsc, iA G 48 fbfindings), (bsayings, oX8 16 8 bsayingsc (nI kbsayings)), (bsayingsc, iA G 128 fbsayings), (bwarnings, oX8 16 3 bwarningsc (nI kbwarnings)), (bwarningsc, iA G 48 fbwarnings), (ru9, oX6 bb sg fc sh r112292 rc12293 rh12294), (fc, iA G 5 gfc2295), (bb, oX0 bpersons bpapers bstamps bversions blines bsteps bsayings bfindings bwarnings bquestions td vd vl gp), (bversions, oX8 8 3 bversionsc (nI kbversions)), (bversionsc, iA G 24 fbversions), (bpersons, oX8 10 2 bpersonsc (nI kbpersons)), (bpersonsc, iA G 20 fbpersons), (bpapers, oX8 12 6 bpapersc (nI kbpapers)), (bpapersc, iA G 72 fbpapers), (blines, oX8 72 7 blinesc (nI kblines)), (blinesc, iA G 504 fblines), (bsteps, oX8 960 1 bstepsc (nI kbsteps)), (bstepsc, iA G 960 fbsteps)]) hP hD (fun hP hD => ?_)
  refine lv_aload_n hx hb dX11_isBarred_24 rfl (lv_at1 hl) ?_
  refine gf_X11_15 hC rfl hK hP 0 rfl rfl dX11_isBarred_25 ?_
  refine lv_iload hx hb dX11_isBarred_28 (lv_at0 hl) ?_
  refine lv_iload_n hx hb dX11_isBarred_30 rfl (lv_at3 hl) ?_
  refine pV hC hK hl hP hD (c_countSayingsBy l G bb r2288 x2 bpersons bpapers bstamps bversions blines bsteps bsayings bfindings bwarnings bquestions td vd vl gp bsayingsc kbsayings fbsayings (hkbsayings)) si_X11_138 [10, 4, 5] sm_10_4_5 fm_10_4_5 nd_10_4_5 rfl rfl rfl rfl rfl (Nat.le_of_ble_eq_true rfl) rm_7_4_5 ⟨by first | exact Nat.le_of_ble_eq_true rfl | exact Nat.zero_le _, by first | exact Nat.le_of_ble_eq_true rfl | exact Nat.zero_le _⟩ dX11_isBarred_31 (fun r2296 hr2296 => ?_)
  refine lv_aload_n hx hb dX11_isBarred_34 rfl (lv_at1 hl) ?_
  refine gf_X11_44 hC rfl hK hP 0 rfl rfl dX11_isBarred_35 ?_
  refine pV hC hK hl hP hD (c_leastHeard l G ru9 bb sg fc sh r112292 rc12293 rh12294 bpersons bpapers bstamps bversions blines bsteps bsayings bfindings bwarnings bquestions td vd vl gp blinesc kblines fblines (hkblines)) si_X11_367 [8, 10, 17, 18] sm_8_10_17_18 fm_8_10_17_18 nd_8_10_17_18 rfl rfl rfl rfl rfl (Nat.le_of_ble_eq_true rfl) rm_7_4_3 ⟨by first | exact Nat.le_of_ble_eq_true rfl | exact Nat.zero_le _, by first | exact Nat.le_of_ble_eq_true rfl | exact Nat.zero_le _⟩ dX11_isBarred_38 (fun r2297 hr2297 => ?_)
  refine lv_icmp_ge (tgt := 46) hx hb dX11_isBarred_41 (by decide) (fun c_41_2298 => ?_) (fun c_41_2298 => ?_)
  · refine lv_aload_n hx hb dX11_isBarred_46 rfl (lv_at1 hl) ?_
    refine gf_X11_15 hC rfl hK hP 0 rfl rfl dX11_isBarred_47 ?_
    refine pV hC hK hl hP hD (c_viewedDay l G bb bpersons bpapers bstamps bversions blines bsteps bsayings bfindings bwarnings bquestions td vd vl gp) si_X11_370 [10] sm_10 fm_10 nd_10 rfl rfl rfl rfl rfl (Nat.le_of_ble_eq_true rfl) rm_7_1_1 ⟨by first | exact Nat.le_of_ble_eq_true rfl | exact Nat.zero_le _, by first | exact Nat.le_of_ble_eq_true rfl | exact Nat.zero_le _⟩ dX11_isBarred_50 (fun r2299 hr2299 => ?_)
    rcases hr2299 with ⟨hE9, a2300⟩ | ⟨hE9, a2300⟩
    · refine eqi (x1 := td) hE9 ?_
      refine lv_aload_n hx hb dX11_isBarred_53 rfl (lv_at1 hl) ?_
      refine gf_X11_44 hC rfl hK hP 0 rfl rfl dX11_isBarred_54 ?_
      refine pV hC hK hl hP hD (c_warnDays l G ru9 bb sg fc sh r112292 rc12293 rh12294 bpersons bpapers bstamps bversions blines bsteps bsayings bfindings bwarnings bquestions td vd vl gp blinesc kblines fblines (hkblines)) si_X11_373 [8, 10, 17, 18] sm_8_10_17_18 fm_8_10_17_18 nd_8_10_17_18 rfl rfl rfl rfl rfl (Nat.le_of_ble_eq_true rfl) rm_7_4_3 ⟨by first | exact Nat.le_of_ble_eq_true rfl | exact Nat.zero_le _, by first | exact Nat.le_of_ble_eq_true rfl | exact Nat.zero_le _⟩ dX11_isBarred_57 (fun r2301 hr2301 => ?_)
      refine lv_isub hx hb dX11_isBarred_60 ?_
      refine lv_istore (lv' := [(5, .int (td - r2301)), (4, .int r2288), (0, .ref h0), (1, .int x1), (2, .int x2), (3, .int x3)]) hx hb dX11_isBarred_61 hl (by decide) rfl (fun ls hl => ?_)
      refine lv_iconst (v := 0) hx hb dX11_isBarred_63 (by decide) ?_
      refine lv_istore (lv' := [(6, .int 0), (5, .int (td - r2301)), (4, .int r2288), (0, .ref h0), (1, .int x1), (2, .int x2), (3, .int x3)]) hx hb dX11_isBarred_64 hl (by decide) rfl (fun ls hl => ?_)
      have keyP : ∀ (nP kP : Nat) (H : Heap) (locs : List Loc) (ls : Array Slot), kP + nP = kbpapers → va_PD G A [(h0, oX11 bb kk ikp sg do9 ru9 ta9 tp9 ro9 ho9 de9), (sh, iA G 8 fsh), (bfindings, oX8 12 4 bfindingsc (nI kbfindings)), (bfindingsc, iA G 48 fbfindings), (bsayings, oX8 16 8 bsayingsc (nI kbsayings)), (bsayingsc, iA G 128 fbsayings), (bwarnings, oX8 16 3 bwarningsc (nI kbwarnings)), (bwarningsc, iA G 48 fbwarnings), (ru9, oX6 bb sg fc sh r112292 rc12293 rh12294), (fc, iA G 5 gfc2295), (bb, oX0 bpersons bpapers bstamps bversions blines bsteps bsayings bfindings bwarnings bquestions td vd vl gp), (bversions, oX8 8 3 bversionsc (nI kbversions)), (bversionsc, iA G 24 fbversions), (bpersons, oX8 10 2 bpersonsc (nI kbpersons)), (bpersonsc, iA G 20 fbpersons), (bpapers, oX8 12 6 bpapersc (nI kbpapers)), (bpapersc, iA G 72 fbpapers), (blines, oX8 72 7 blinesc (nI kblines)), (blinesc, iA G 504 fblines), (bsteps, oX8 960 1 bstepsc (nI kbsteps)), (bstepsc, iA G 960 fbsteps)] H → va_S A s.heap H locs → lv_has ls 7 [(6, .int (nI kP)), (5, .int (td - r2301)), (4, .int r2288), (0, .ref h0), (1, .int x1), (2, .int x2), (3, .int x3)] → W p l e (RM 7 0 0) s m ([.ref h0, .int x1, .int x2, .int x3] : List Value).toArray below meth c H locs 0 0 Q0 (F0 m 66 ls []) := by
        intro nP
        induction nP with
        | zero =>
          intro kP H locs ls hkP hPD hS hl
          refine Kan2 hPD (fun hP hD => ?_)
          obtain rfl : kbpapers = kP := by omega
          have hl : lv_has ls 7 [(6, .int (nI kbpapers)), (5, .int (td - r2301)), (4, .int r2288), (0, .ref h0), (1, .int x1), (2, .int x2), (3, .int x3)] := hl
          refine lv_iload hx hb dX11_isBarred_66 (lv_at0 hl) ?_
          refine lv_aload_n hx hb dX11_isBarred_68 rfl (lv_at3 hl) ?_
          refine gf_X11_15 hC rfl hK hP 0 rfl rfl dX11_isBarred_69 ?_
          refine gf_X11_144 hC rfl hK hP 10 rfl rfl dX11_isBarred_72 ?_
          refine pV hC hK hl hP hD (c_T_count l G bpapers 12 6 bpapersc kbpapers) si_X11_174 [15] sm_15 fm_15 nd_15 rfl rfl rfl rfl rfl (Nat.le_of_ble_eq_true rfl) rm_7_1_1 ⟨by first | exact Nat.le_of_ble_eq_true rfl | exact Nat.zero_le _, by first | exact Nat.le_of_ble_eq_true rfl | exact Nat.zero_le _⟩ dX11_isBarred_75 (Keqr ?_)
          refine lv_icmp_ge (tgt := 114) hx hb dX11_isBarred_78 (by decide) (fun _ => ?_) (fun c9 => absurd (Int32.le_refl _) c9)
          refine lv_iconst (v := 0) hx hb dX11_isBarred_114 (by decide) ?_
          exact toQ hQ0 (RI (v := 0) hC hP hD hS [0, 8, 9, 1, 10, 11, 12, 13, 14, 15, 16, 17, 18, 19, 20, 2, 3, 4, 5, 6, 7] (r112292, rc12293, rh12294, gfc2295) rfl rfl (by decide) (Or.inr (rfl)) (by decide +kernel) dX11_isBarred_115)
        | succ nP ihP =>
          intro kP H locs ls hkP hPD hS hl
          refine Kan2 hPD (fun hP hD => ?_)
          refine lv_iload hx hb dX11_isBarred_66 (lv_at0 hl) ?_
          refine lv_aload_n hx hb dX11_isBarred_68 rfl (lv_at3 hl) ?_
          refine gf_X11_15 hC rfl hK hP 0 rfl rfl dX11_isBarred_69 ?_
          refine gf_X11_144 hC rfl hK hP 10 rfl rfl dX11_isBarred_72 ?_
          refine pV hC hK hl hP hD (c_T_count l G bpapers 12 6 bpapersc kbpapers) si_X11_174 [15] sm_15 fm_15 nd_15 rfl rfl rfl rfl rfl (Nat.le_of_ble_eq_true rfl) rm_7_1_1 ⟨by first | exact Nat.le_of_ble_eq_true rfl | exact Nat.zero_le _, by first | exact Nat.le_of_ble_eq_true rfl | exact Nat.zero_le _⟩ dX11_isBarred_75 (Keqr ?_)
          refine lv_icmp_ge (tgt := 114) hx hb dX11_isBarred_78 (by decide) (fun c9 => absurd c9 (nI_ge (a := kP) (b := kbpapers) (by omega) (by omega))) (fun _ => ?_)
          refine lv_iload_n hx hb dX11_isBarred_81 rfl (lv_at6 hl) ?_
          refine lv_iload hx hb dX11_isBarred_82 (lv_at0 hl) ?_
          refine pS hC hK hl (c_hasBit l G x3 (nI kP)) si_X11_150 rfl rfl (Nat.le_of_ble_eq_true rfl) rm_7_1_2 ⟨by first | exact Nat.le_of_ble_eq_true rfl | exact Nat.zero_le _, by first | exact Nat.le_of_ble_eq_true rfl | exact Nat.zero_le _⟩ dX11_isBarred_84 (Kors (Keqa fun a2307 => ?_) (Keqa fun a2307 => ?_))
          · refine lv_if_eq (tgt := 108) hx hb dX11_isBarred_87 (by decide) (fun c9 => absurd c9 (by decide)) (fun _ => ?_)
            refine lv_aload_n hx hb dX11_isBarred_90 rfl (lv_at3 hl) ?_
            refine gf_X11_15 hC rfl hK hP 0 rfl rfl dX11_isBarred_91 ?_
            refine lv_iload hx hb dX11_isBarred_94 (lv_at2 hl) ?_
            refine lv_iload hx hb dX11_isBarred_96 (lv_at0 hl) ?_
            refine lv_iload hx hb dX11_isBarred_98 (lv_at1 hl) ?_
            refine pV hC hK hl hP hD (c_isWarned l G bb r2288 (nI kP) (td - r2301) bpersons bpapers bstamps bversions blines bsteps bsayings bfindings bwarnings bquestions td vd vl gp bwarningsc kbwarnings fbwarnings (hkbwarnings)) si_X11_376 [10, 6, 7] sm_10_6_7 fm_10_6_7 nd_10_6_7 rfl rfl rfl rfl rfl (Nat.le_of_ble_eq_true rfl) rm_7_3_5 ⟨by first | exact Nat.le_of_ble_eq_true rfl | exact Nat.zero_le _, by first | exact Nat.le_of_ble_eq_true rfl | exact Nat.zero_le _⟩ dX11_isBarred_100 (Kors (Keqr ?_) (Keqr ?_))
            · refine lv_if_ne (tgt := 108) hx hb dX11_isBarred_103 (by decide) (fun _ => ?_) (fun c9 => absurd c9 (by decide))
              refine lv_iinc (v := nI (kP + 1)) (lv' := [(6, .int (nI (kP + 1))), (5, .int (td - r2301)), (4, .int r2288), (0, .ref h0), (1, .int x1), (2, .int x2), (3, .int x3)]) hx hb dX11_isBarred_108 hl (k := 0) rfl (nI_1 _) (by decide) rfl (fun ls hl => ?_)
              refine lv_goto (tgt := 66) hx hb dX11_isBarred_111 (by decide) ?_
              exact ihP (kP + 1) _ _ _ (by omega) (And.intro hP hD) hS (lv_sub hl [0, 1, 2, 3, 4, 5, 6] rfl)
            · refine lv_if_ne (tgt := 108) hx hb dX11_isBarred_103 (by decide) (fun c9 => absurd (by decide) c9) (fun _ => ?_)
              refine lv_iconst (v := 1) hx hb dX11_isBarred_106 (by decide) ?_
              exact toQ hQ0 (RI (v := 1) hC hP hD hS [0, 8, 9, 1, 10, 11, 12, 13, 14, 15, 16, 17, 18, 19, 20, 2, 3, 4, 5, 6, 7] (r112292, rc12293, rh12294, gfc2295) rfl rfl (by decide) (Or.inl (rfl)) (by decide +kernel) dX11_isBarred_107)
          · refine lv_if_eq (tgt := 108) hx hb dX11_isBarred_87 (by decide) (fun _ => ?_) (fun c9 => absurd (by decide) c9)
            refine lv_iinc (v := nI (kP + 1)) (lv' := [(6, .int (nI (kP + 1))), (5, .int (td - r2301)), (4, .int r2288), (0, .ref h0), (1, .int x1), (2, .int x2), (3, .int x3)]) hx hb dX11_isBarred_108 hl (k := 0) rfl (nI_1 _) (by decide) rfl (fun ls hl => ?_)
            refine lv_goto (tgt := 66) hx hb dX11_isBarred_111 (by decide) ?_
            exact ihP (kP + 1) _ _ _ (by omega) (And.intro hP hD) hS (lv_sub hl [0, 1, 2, 3, 4, 5, 6] rfl)
      exact keyP kbpapers 0 _ _ _ (by omega) (And.intro hP hD) hS (lv_sub hl [0, 1, 2, 3, 4, 5, 6] rfl)
    · refine eqi (x1 := vd) hE9 ?_
      refine lv_aload_n hx hb dX11_isBarred_53 rfl (lv_at1 hl) ?_
      refine gf_X11_44 hC rfl hK hP 0 rfl rfl dX11_isBarred_54 ?_
      refine pV hC hK hl hP hD (c_warnDays l G ru9 bb sg fc sh r112292 rc12293 rh12294 bpersons bpapers bstamps bversions blines bsteps bsayings bfindings bwarnings bquestions td vd vl gp blinesc kblines fblines (hkblines)) si_X11_373 [8, 10, 17, 18] sm_8_10_17_18 fm_8_10_17_18 nd_8_10_17_18 rfl rfl rfl rfl rfl (Nat.le_of_ble_eq_true rfl) rm_7_4_3 ⟨by first | exact Nat.le_of_ble_eq_true rfl | exact Nat.zero_le _, by first | exact Nat.le_of_ble_eq_true rfl | exact Nat.zero_le _⟩ dX11_isBarred_57 (fun r2310 hr2310 => ?_)
      refine lv_isub hx hb dX11_isBarred_60 ?_
      refine lv_istore (lv' := [(5, .int (vd - r2310)), (4, .int r2288), (0, .ref h0), (1, .int x1), (2, .int x2), (3, .int x3)]) hx hb dX11_isBarred_61 hl (by decide) rfl (fun ls hl => ?_)
      refine lv_iconst (v := 0) hx hb dX11_isBarred_63 (by decide) ?_
      refine lv_istore (lv' := [(6, .int 0), (5, .int (vd - r2310)), (4, .int r2288), (0, .ref h0), (1, .int x1), (2, .int x2), (3, .int x3)]) hx hb dX11_isBarred_64 hl (by decide) rfl (fun ls hl => ?_)
      have keyP : ∀ (nP kP : Nat) (H : Heap) (locs : List Loc) (ls : Array Slot), kP + nP = kbpapers → va_PD G A [(h0, oX11 bb kk ikp sg do9 ru9 ta9 tp9 ro9 ho9 de9), (sh, iA G 8 fsh), (bfindings, oX8 12 4 bfindingsc (nI kbfindings)), (bfindingsc, iA G 48 fbfindings), (bsayings, oX8 16 8 bsayingsc (nI kbsayings)), (bsayingsc, iA G 128 fbsayings), (bwarnings, oX8 16 3 bwarningsc (nI kbwarnings)), (bwarningsc, iA G 48 fbwarnings), (ru9, oX6 bb sg fc sh r112292 rc12293 rh12294), (fc, iA G 5 gfc2295), (bb, oX0 bpersons bpapers bstamps bversions blines bsteps bsayings bfindings bwarnings bquestions td vd vl gp), (bversions, oX8 8 3 bversionsc (nI kbversions)), (bversionsc, iA G 24 fbversions), (bpersons, oX8 10 2 bpersonsc (nI kbpersons)), (bpersonsc, iA G 20 fbpersons), (bpapers, oX8 12 6 bpapersc (nI kbpapers)), (bpapersc, iA G 72 fbpapers), (blines, oX8 72 7 blinesc (nI kblines)), (blinesc, iA G 504 fblines), (bsteps, oX8 960 1 bstepsc (nI kbsteps)), (bstepsc, iA G 960 fbsteps)] H → va_S A s.heap H locs → lv_has ls 7 [(6, .int (nI kP)), (5, .int (vd - r2310)), (4, .int r2288), (0, .ref h0), (1, .int x1), (2, .int x2), (3, .int x3)] → W p l e (RM 7 0 0) s m ([.ref h0, .int x1, .int x2, .int x3] : List Value).toArray below meth c H locs 0 0 Q0 (F0 m 66 ls []) := by
        intro nP
        induction nP with
        | zero =>
          intro kP H locs ls hkP hPD hS hl
          refine Kan2 hPD (fun hP hD => ?_)
          obtain rfl : kbpapers = kP := by omega
          have hl : lv_has ls 7 [(6, .int (nI kbpapers)), (5, .int (vd - r2310)), (4, .int r2288), (0, .ref h0), (1, .int x1), (2, .int x2), (3, .int x3)] := hl
          refine lv_iload hx hb dX11_isBarred_66 (lv_at0 hl) ?_
          refine lv_aload_n hx hb dX11_isBarred_68 rfl (lv_at3 hl) ?_
          refine gf_X11_15 hC rfl hK hP 0 rfl rfl dX11_isBarred_69 ?_
          refine gf_X11_144 hC rfl hK hP 10 rfl rfl dX11_isBarred_72 ?_
          refine pV hC hK hl hP hD (c_T_count l G bpapers 12 6 bpapersc kbpapers) si_X11_174 [15] sm_15 fm_15 nd_15 rfl rfl rfl rfl rfl (Nat.le_of_ble_eq_true rfl) rm_7_1_1 ⟨by first | exact Nat.le_of_ble_eq_true rfl | exact Nat.zero_le _, by first | exact Nat.le_of_ble_eq_true rfl | exact Nat.zero_le _⟩ dX11_isBarred_75 (Keqr ?_)
          refine lv_icmp_ge (tgt := 114) hx hb dX11_isBarred_78 (by decide) (fun _ => ?_) (fun c9 => absurd (Int32.le_refl _) c9)
          refine lv_iconst (v := 0) hx hb dX11_isBarred_114 (by decide) ?_
          exact toQ hQ0 (RI (v := 0) hC hP hD hS [0, 8, 9, 1, 10, 11, 12, 13, 14, 15, 16, 17, 18, 19, 20, 2, 3, 4, 5, 6, 7] (r112292, rc12293, rh12294, gfc2295) rfl rfl (by decide) (Or.inr (rfl)) (by decide +kernel) dX11_isBarred_115)
        | succ nP ihP =>
          intro kP H locs ls hkP hPD hS hl
          refine Kan2 hPD (fun hP hD => ?_)
          refine lv_iload hx hb dX11_isBarred_66 (lv_at0 hl) ?_
          refine lv_aload_n hx hb dX11_isBarred_68 rfl (lv_at3 hl) ?_
          refine gf_X11_15 hC rfl hK hP 0 rfl rfl dX11_isBarred_69 ?_
          refine gf_X11_144 hC rfl hK hP 10 rfl rfl dX11_isBarred_72 ?_
          refine pV hC hK hl hP hD (c_T_count l G bpapers 12 6 bpapersc kbpapers) si_X11_174 [15] sm_15 fm_15 nd_15 rfl rfl rfl rfl rfl (Nat.le_of_ble_eq_true rfl) rm_7_1_1 ⟨by first | exact Nat.le_of_ble_eq_true rfl | exact Nat.zero_le _, by first | exact Nat.le_of_ble_eq_true rfl | exact Nat.zero_le _⟩ dX11_isBarred_75 (Keqr ?_)
          refine lv_icmp_ge (tgt := 114) hx hb dX11_isBarred_78 (by decide) (fun c9 => absurd c9 (nI_ge (a := kP) (b := kbpapers) (by omega) (by omega))) (fun _ => ?_)
          refine lv_iload_n hx hb dX11_isBarred_81 rfl (lv_at6 hl) ?_
          refine lv_iload hx hb dX11_isBarred_82 (lv_at0 hl) ?_
          refine pS hC hK hl (c_hasBit l G x3 (nI kP)) si_X11_150 rfl rfl (Nat.le_of_ble_eq_true rfl) rm_7_1_2 ⟨by first | exact Nat.le_of_ble_eq_true rfl | exact Nat.zero_le _, by first | exact Nat.le_of_ble_eq_true rfl | exact Nat.zero_le _⟩ dX11_isBarred_84 (Kors (Keqa fun a2316 => ?_) (Keqa fun a2316 => ?_))
          · refine lv_if_eq (tgt := 108) hx hb dX11_isBarred_87 (by decide) (fun c9 => absurd c9 (by decide)) (fun _ => ?_)
            refine lv_aload_n hx hb dX11_isBarred_90 rfl (lv_at3 hl) ?_
            refine gf_X11_15 hC rfl hK hP 0 rfl rfl dX11_isBarred_91 ?_
            refine lv_iload hx hb dX11_isBarred_94 (lv_at2 hl) ?_
            refine lv_iload hx hb dX11_isBarred_96 (lv_at0 hl) ?_
            refine lv_iload hx hb dX11_isBarred_98 (lv_at1 hl) ?_
            refine pV hC hK hl hP hD (c_isWarned l G bb r2288 (nI kP) (vd - r2310) bpersons bpapers bstamps bversions blines bsteps bsayings bfindings bwarnings bquestions td vd vl gp bwarningsc kbwarnings fbwarnings (hkbwarnings)) si_X11_376 [10, 6, 7] sm_10_6_7 fm_10_6_7 nd_10_6_7 rfl rfl rfl rfl rfl (Nat.le_of_ble_eq_true rfl) rm_7_3_5 ⟨by first | exact Nat.le_of_ble_eq_true rfl | exact Nat.zero_le _, by first | exact Nat.le_of_ble_eq_true rfl | exact Nat.zero_le _⟩ dX11_isBarred_100 (Kors (Keqr ?_) (Keqr ?_))
            · refine lv_if_ne (tgt := 108) hx hb dX11_isBarred_103 (by decide) (fun _ => ?_) (fun c9 => absurd c9 (by decide))
              refine lv_iinc (v := nI (kP + 1)) (lv' := [(6, .int (nI (kP + 1))), (5, .int (vd - r2310)), (4, .int r2288), (0, .ref h0), (1, .int x1), (2, .int x2), (3, .int x3)]) hx hb dX11_isBarred_108 hl (k := 0) rfl (nI_1 _) (by decide) rfl (fun ls hl => ?_)
              refine lv_goto (tgt := 66) hx hb dX11_isBarred_111 (by decide) ?_
              exact ihP (kP + 1) _ _ _ (by omega) (And.intro hP hD) hS (lv_sub hl [0, 1, 2, 3, 4, 5, 6] rfl)
            · refine lv_if_ne (tgt := 108) hx hb dX11_isBarred_103 (by decide) (fun c9 => absurd (by decide) c9) (fun _ => ?_)
              refine lv_iconst (v := 1) hx hb dX11_isBarred_106 (by decide) ?_
              exact toQ hQ0 (RI (v := 1) hC hP hD hS [0, 8, 9, 1, 10, 11, 12, 13, 14, 15, 16, 17, 18, 19, 20, 2, 3, 4, 5, 6, 7] (r112292, rc12293, rh12294, gfc2295) rfl rfl (by decide) (Or.inl (rfl)) (by decide +kernel) dX11_isBarred_107)
          · refine lv_if_eq (tgt := 108) hx hb dX11_isBarred_87 (by decide) (fun _ => ?_) (fun c9 => absurd (by decide) c9)
            refine lv_iinc (v := nI (kP + 1)) (lv' := [(6, .int (nI (kP + 1))), (5, .int (vd - r2310)), (4, .int r2288), (0, .ref h0), (1, .int x1), (2, .int x2), (3, .int x3)]) hx hb dX11_isBarred_108 hl (k := 0) rfl (nI_1 _) (by decide) rfl (fun ls hl => ?_)
            refine lv_goto (tgt := 66) hx hb dX11_isBarred_111 (by decide) ?_
            exact ihP (kP + 1) _ _ _ (by omega) (And.intro hP hD) hS (lv_sub hl [0, 1, 2, 3, 4, 5, 6] rfl)
      exact keyP kbpapers 0 _ _ _ (by omega) (And.intro hP hD) hS (lv_sub hl [0, 1, 2, 3, 4, 5, 6] rfl)
  · refine lv_iconst (v := 1) hx hb dX11_isBarred_44 (by decide) ?_
    exact toQ hQ0 (RI (v := 1) hC hP hD hS [0, 8, 9, 1, 10, 11, 12, 13, 14, 15, 16, 17, 18, 19, 20, 2, 3, 4, 5, 6, 7] (r112292, rc12293, rh12294, gfc2295) rfl rfl (by decide) (Or.inl (rfl)) (by decide +kernel) dX11_isBarred_45)
def K_p_findingOf (l : Launch) (G : GG) (h0 : Nat) (x1 : Int32) (x2 : Int32) (bb : Nat) (kk : Nat) (ikp : Int32) (sg : Nat) (do9 : Nat) (ru9 : Nat) (ta9 : Nat) (tp9 : Nat) (ro9 : Nat) (ho9 : Nat) (de9 : Nat) (clk : Nat) (fi : Nat) (la : Nat) (ml : Nat) (mm : Nat) (sl : Nat) (sm : Nat) (cl : Int32) (clm : Nat) (fclm : Nat → Int32) (ffi : Nat → Int32) (fla : Nat → Int32) (fml : Nat → Int32) (fmm : Nat → Int32) (fsl : Nat → Int32) (fsm : Nat → Int32) (fc : Nat) (sh : Nat) (r1 : Int32) (rc : Int32) (rh : Int32) (ffc : Nat → Int32) (fsh : Nat → Int32) (bpersons : Nat) (bpapers : Nat) (bstamps : Nat) (bversions : Nat) (blines : Nat) (bsteps : Nat) (bsayings : Nat) (bfindings : Nat) (bwarnings : Nat) (bquestions : Nat) (td : Int32) (vd : Int32) (vl : Int32) (gp : Int32) (bversionsc : Nat) (kbversions : Nat) (fbversions : Nat → Int32) (bpersonsc : Nat) (kbpersons : Nat) (fbpersons : Nat → Int32) (bpapersc : Nat) (kbpapers : Nat) (fbpapers : Nat → Int32) (blinesc : Nat) (kblines : Nat) (fblines : Nat → Int32) (bstepsc : Nat) (kbsteps : Nat) (fbsteps : Nat → Int32) (bstampsc : Nat) (kbstamps : Nat) (fbstamps : Nat → Int32) (bfindingsc : Nat) (kbfindings : Nat) (fbfindings : Nat → Int32) (bsayingsc : Nat) (kbsayings : Nat) (fbsayings : Nat → Int32) (bwarningsc : Nat) (kbwarnings : Nat) (fbwarnings : Nat → Int32) : Prop := MI l G yX11_findingOf cX11_findingOf 4 (some .int) 9 0 0 [.ref h0, .int x1, .int x2] [(h0, oX11 bb kk ikp sg do9 ru9 ta9 tp9 ro9 ho9 de9), (sg, oX7 bb clk fi la ml mm sl sm cl), (clk, oX1 clm), (clm, iA G 36 fclm), (fi, iA G 12 ffi), (la, iA G 12 fla), (ml, iA G 12 fml), (mm, iA G 12 fmm), (sl, iA G 12 fsl), (sm, iA G 12 fsm), (ru9, oX6 bb sg fc sh r1 rc rh), (fc, iA G 5 ffc), (sh, iA G 8 fsh), (bb, oX0 bpersons bpapers bstamps bversions blines bsteps bsayings bfindings bwarnings bquestions td vd vl gp), (bversions, oX8 8 3 bversionsc (nI kbversions)), (bversionsc, iA G 24 fbversions), (bpersons, oX8 10 2 bpersonsc (nI kbpersons)), (bpersonsc, iA G 20 fbpersons), (bpapers, oX8 12 6 bpapersc (nI kbpapers)), (bpapersc, iA G 72 fbpapers), (blines, oX8 72 7 blinesc (nI kblines)), (blinesc, iA G 504 fblines), (bsteps, oX8 960 1 bstepsc (nI kbsteps)), (bstepsc, iA G 960 fbsteps), (bstamps, oX8 24 3 bstampsc (nI kbstamps)), (bstampsc, iA G 72 fbstamps), (bfindings, oX8 12 4 bfindingsc (nI kbfindings)), (bfindingsc, iA G 48 fbfindings), (bsayings, oX8 16 8 bsayingsc (nI kbsayings)), (bsayingsc, iA G 128 fbsayings), (bwarnings, oX8 16 3 bwarningsc (nI kbwarnings)), (bwarningsc, iA G 48 fbwarnings)] (fun (r : Int32) (u : Int32 × (Nat → Int32) × (Nat → Int32) × (Nat → Int32) × (Nat → Int32) × (Nat → Int32) × (Nat → Int32) × (Nat → Int32) × Int32 × Int32 × Int32 × (Nat → Int32) × (Nat → Int32)) => (True) ∧ (u.1 = 0 ∨ u.1 = 1)) (fun u : Int32 × (Nat → Int32) × (Nat → Int32) × (Nat → Int32) × (Nat → Int32) × (Nat → Int32) × (Nat → Int32) × (Nat → Int32) × Int32 × Int32 × Int32 × (Nat → Int32) × (Nat → Int32) => [(h0, oX11 bb kk ikp sg do9 ru9 ta9 tp9 ro9 ho9 de9), (sg, oX7 bb clk fi la ml mm sl sm u.1), (clk, oX1 clm), (clm, iA G 36 u.2.1), (fi, iA G 12 u.2.2.1), (la, iA G 12 u.2.2.2.1), (ml, iA G 12 u.2.2.2.2.1), (mm, iA G 12 u.2.2.2.2.2.1), (sl, iA G 12 u.2.2.2.2.2.2.1), (sm, iA G 12 u.2.2.2.2.2.2.2.1), (ru9, oX6 bb sg fc sh u.2.2.2.2.2.2.2.2.1 u.2.2.2.2.2.2.2.2.2.1 u.2.2.2.2.2.2.2.2.2.2.1), (fc, iA G 5 u.2.2.2.2.2.2.2.2.2.2.2.1), (sh, iA G 8 u.2.2.2.2.2.2.2.2.2.2.2.2), (bb, oX0 bpersons bpapers bstamps bversions blines bsteps bsayings bfindings bwarnings bquestions td vd vl gp), (bversions, oX8 8 3 bversionsc (nI kbversions)), (bversionsc, iA G 24 fbversions), (bpersons, oX8 10 2 bpersonsc (nI kbpersons)), (bpersonsc, iA G 20 fbpersons), (bpapers, oX8 12 6 bpapersc (nI kbpapers)), (bpapersc, iA G 72 fbpapers), (blines, oX8 72 7 blinesc (nI kblines)), (blinesc, iA G 504 fblines), (bsteps, oX8 960 1 bstepsc (nI kbsteps)), (bstepsc, iA G 960 fbsteps), (bstamps, oX8 24 3 bstampsc (nI kbstamps)), (bstampsc, iA G 72 fbstamps), (bfindings, oX8 12 4 bfindingsc (nI kbfindings)), (bfindingsc, iA G 48 fbfindings), (bsayings, oX8 16 8 bsayingsc (nI kbsayings)), (bsayingsc, iA G 128 fbsayings), (bwarnings, oX8 16 3 bwarningsc (nI kbwarnings)), (bwarningsc, iA G 48 fbwarnings)])
set_option maxHeartbeats 4000000 in
set_option maxRecDepth 100000 in
theorem p_findingOf (l : Launch) (G : GG) (h0 : Nat) (x1 : Int32) (x2 : Int32) (bb : Nat) (kk : Nat) (ikp : Int32) (sg : Nat) (do9 : Nat) (ru9 : Nat) (ta9 : Nat) (tp9 : Nat) (ro9 : Nat) (ho9 : Nat) (de9 : Nat) (clk : Nat) (fi : Nat) (la : Nat) (ml : Nat) (mm : Nat) (sl : Nat) (sm : Nat) (cl : Int32) (clm : Nat) (fclm : Nat → Int32) (ffi : Nat → Int32) (fla : Nat → Int32) (fml : Nat → Int32) (fmm : Nat → Int32) (fsl : Nat → Int32) (fsm : Nat → Int32) (fc : Nat) (sh : Nat) (r1 : Int32) (rc : Int32) (rh : Int32) (ffc : Nat → Int32) (fsh : Nat → Int32) (bpersons : Nat) (bpapers : Nat) (bstamps : Nat) (bversions : Nat) (blines : Nat) (bsteps : Nat) (bsayings : Nat) (bfindings : Nat) (bwarnings : Nat) (bquestions : Nat) (td : Int32) (vd : Int32) (vl : Int32) (gp : Int32) (bversionsc : Nat) (kbversions : Nat) (fbversions : Nat → Int32) (bpersonsc : Nat) (kbpersons : Nat) (fbpersons : Nat → Int32) (bpapersc : Nat) (kbpapers : Nat) (fbpapers : Nat → Int32) (blinesc : Nat) (kblines : Nat) (fblines : Nat → Int32) (bstepsc : Nat) (kbsteps : Nat) (fbsteps : Nat → Int32) (bstampsc : Nat) (kbstamps : Nat) (fbstamps : Nat → Int32) (bfindingsc : Nat) (kbfindings : Nat) (fbfindings : Nat → Int32) (bsayingsc : Nat) (kbsayings : Nat) (fbsayings : Nat → Int32) (bwarningsc : Nat) (kbwarnings : Nat) (fbwarnings : Nat → Int32) (hkbversions : kbversions ≤ 8) (hkbpersons : kbpersons ≤ 10) (hkbpapers : kbpapers ≤ 12) (hkblines : kblines ≤ 72) (hkbsteps : kbsteps ≤ 960) (hkbstamps : kbstamps ≤ 24) (hkbfindings : kbfindings ≤ 12) (hkbsayings : kbsayings ≤ 16) (hkbwarnings : kbwarnings ≤ 16) (hcl : cl = 0 ∨ cl = 1) : K_p_findingOf l G h0 x1 x2 bb kk ikp sg do9 ru9 ta9 tp9 ro9 ho9 de9 clk fi la ml mm sl sm cl clm fclm ffi fla fml fmm fsl fsm fc sh r1 rc rh ffc fsh bpersons bpapers bstamps bversions blines bsteps bsayings bfindings bwarnings bquestions td vd vl gp bversionsc kbversions fbversions bpersonsc kbpersons fbpersons bpapersc kbpapers fbpapers blinesc kblines fblines bstepsc kbsteps fbsteps bstampsc kbstamps fbstamps bfindingsc kbfindings fbfindings bsayingsc kbsayings fbsayings bwarningsc kbwarnings fbwarnings := by
  refine MI.start (by decide +kernel) (Nat.le_of_ble_eq_true rfl) ?_
  intro p e s m below meth c A ls hC hK hP hD hS hA hl
  refine absQ (fun Q0 hQ0 => ?_)
  have hl : lv_has ls 4 [(0, .ref h0), (1, .int x1), (2, .int x2)] := hl
  refine Kan8 hC (fun hx hb hr hml hB hown hlocks hnm => ?_)
  refine lv_aload_n hx hb dX11_findingOf_0 rfl (lv_at0 hl) ?_
  refine gf_X11_15 hC rfl hK hP 0 rfl rfl dX11_findingOf_1 ?_
  refine gf_X11_271 hC rfl hK hP 13 rfl rfl dX11_findingOf_4 ?_
  refine lv_iload_n hx hb dX11_findingOf_7 rfl (lv_at1 hl) ?_
  refine pV hC hK hl hP hD (c_T_has l G bfindings x1 12 4 bfindingsc kbfindings) si_X11_124 [26] sm_26 fm_26 nd_26 rfl rfl rfl rfl rfl (Nat.le_of_ble_eq_true rfl) rm_9_1_2 ⟨by first | exact Nat.le_of_ble_eq_true rfl | exact Nat.zero_le _, by first | exact Nat.le_of_ble_eq_true rfl | exact Nat.zero_le _⟩ dX11_findingOf_8 (Kors (Keqa fun a2320 => ?_) (Keqa fun a2320 => ?_))
  · refine lv_if_ne (tgt := 16) hx hb dX11_findingOf_11 (by decide) (fun _ => ?_) (fun c9 => absurd c9 (by decide))
    refine lv_aload_n hx hb dX11_findingOf_16 rfl (lv_at0 hl) ?_
    refine gf_X11_15 hC rfl hK hP 0 rfl rfl dX11_findingOf_17 ?_
    refine pV hC hK hl hP hD (c_inView l G bb bpersons bpapers bstamps bversions blines bsteps bsayings bfindings bwarnings bquestions td vd vl gp bpapersc kbpapers fbpapers (hkbpapers)) si_X11_97 [13, 18, 19] sm_13_18_19 fm_13_18_19 nd_13_18_19 rfl rfl rfl rfl rfl (Nat.le_of_ble_eq_true rfl) rm_9_3_6 ⟨by first | exact Nat.le_of_ble_eq_true rfl | exact Nat.zero_le _, by first | exact Nat.le_of_ble_eq_true rfl | exact Nat.zero_le _⟩ dX11_findingOf_20 (fun r2321 hr2321 => ?_)
    refine lv_istore_n (lv' := [(3, .int r2321), (0, .ref h0), (1, .int x1), (2, .int x2)]) hx hb dX11_findingOf_23 rfl hl (by decide) rfl (fun ls hl => ?_)
    refine lv_iload_n hx hb dX11_findingOf_24 rfl (lv_at3 hl) ?_
    by_cases c_25_2322 : x2 = 0
    · refine lv_tableIn (tgt := 68) hx hb dX11_findingOf_25 (by rw [c_25_2322]; decide) (by rw [c_25_2322]; decide) (by rw [c_25_2322]; rfl) (by decide) ?_
      refine lv_aload_n hx hb dX11_findingOf_68 rfl (lv_at1 hl) ?_
      refine gf_X11_15 hC rfl hK hP 0 rfl rfl dX11_findingOf_69 ?_
      refine gf_X11_271 hC rfl hK hP 13 rfl rfl dX11_findingOf_72 ?_
      refine lv_iload_n hx hb dX11_findingOf_75 rfl (lv_at2 hl) ?_
      refine lv_iconst (v := 0) hx hb dX11_findingOf_76 (by decide) ?_
      refine pV hC hK hl hP hD (c_T_at l G bfindings x1 0 12 4 bfindingsc kbfindings fbfindings (hkbfindings) (by omega) (by omega)) si_X11_128 [26, 27] sm_26_27 fm_26_27 nd_26_27 rfl rfl rfl rfl rfl (Nat.le_of_ble_eq_true rfl) rm_9_1_3 ⟨by first | exact Nat.le_of_ble_eq_true rfl | exact Nat.zero_le _, by first | exact Nat.le_of_ble_eq_true rfl | exact Nat.zero_le _⟩ dX11_findingOf_77 (fun r2323 hr2323 => ?_)
      exact toQ hQ0 (RI (v := r2323) hC hP hD hS [0, 1, 2, 3, 4, 5, 6, 7, 8, 9, 10, 11, 12, 13, 14, 15, 16, 17, 18, 19, 20, 21, 22, 23, 24, 25, 26, 27, 28, 29, 30, 31] (cl, fclm, ffi, fla, fml, fmm, fsl, fsm, r1, rc, rh, ffc, fsh) rfl rfl (by decide) (⟨trivial, hcl⟩) rfl dX11_findingOf_80)
    by_cases c_25_2325 : x2 = 1
    · refine lv_tableIn (tgt := 81) hx hb dX11_findingOf_25 (by rw [c_25_2325]; decide) (by rw [c_25_2325]; decide) (by rw [c_25_2325]; rfl) (by decide) ?_
      refine lv_aload_n hx hb dX11_findingOf_81 rfl (lv_at1 hl) ?_
      refine gf_X11_15 hC rfl hK hP 0 rfl rfl dX11_findingOf_82 ?_
      refine gf_X11_271 hC rfl hK hP 13 rfl rfl dX11_findingOf_85 ?_
      refine lv_iload_n hx hb dX11_findingOf_88 rfl (lv_at2 hl) ?_
      refine lv_iconst (v := 1) hx hb dX11_findingOf_89 (by decide) ?_
      refine pV hC hK hl hP hD (c_T_at l G bfindings x1 1 12 4 bfindingsc kbfindings fbfindings (hkbfindings) (by omega) (by omega)) si_X11_128 [26, 27] sm_26_27 fm_26_27 nd_26_27 rfl rfl rfl rfl rfl (Nat.le_of_ble_eq_true rfl) rm_9_1_3 ⟨by first | exact Nat.le_of_ble_eq_true rfl | exact Nat.zero_le _, by first | exact Nat.le_of_ble_eq_true rfl | exact Nat.zero_le _⟩ dX11_findingOf_90 (fun r2326 hr2326 => ?_)
      exact toQ hQ0 (RI (v := r2326) hC hP hD hS [0, 1, 2, 3, 4, 5, 6, 7, 8, 9, 10, 11, 12, 13, 14, 15, 16, 17, 18, 19, 20, 21, 22, 23, 24, 25, 26, 27, 28, 29, 30, 31] (cl, fclm, ffi, fla, fml, fmm, fsl, fsm, r1, rc, rh, ffc, fsh) rfl rfl (by decide) (⟨trivial, hcl⟩) rfl dX11_findingOf_93)
    by_cases c_25_2328 : x2 = 2
    · refine lv_tableIn (tgt := 94) hx hb dX11_findingOf_25 (by rw [c_25_2328]; decide) (by rw [c_25_2328]; decide) (by rw [c_25_2328]; rfl) (by decide) ?_
      refine lv_aload_n hx hb dX11_findingOf_94 rfl (lv_at1 hl) ?_
      refine gf_X11_15 hC rfl hK hP 0 rfl rfl dX11_findingOf_95 ?_
      refine gf_X11_271 hC rfl hK hP 13 rfl rfl dX11_findingOf_98 ?_
      refine lv_iload_n hx hb dX11_findingOf_101 rfl (lv_at2 hl) ?_
      refine lv_iconst (v := 2) hx hb dX11_findingOf_102 (by decide) ?_
      refine pV hC hK hl hP hD (c_T_at l G bfindings x1 2 12 4 bfindingsc kbfindings fbfindings (hkbfindings) (by omega) (by omega)) si_X11_128 [26, 27] sm_26_27 fm_26_27 nd_26_27 rfl rfl rfl rfl rfl (Nat.le_of_ble_eq_true rfl) rm_9_1_3 ⟨by first | exact Nat.le_of_ble_eq_true rfl | exact Nat.zero_le _, by first | exact Nat.le_of_ble_eq_true rfl | exact Nat.zero_le _⟩ dX11_findingOf_103 (fun r2329 hr2329 => ?_)
      exact toQ hQ0 (RI (v := r2329) hC hP hD hS [0, 1, 2, 3, 4, 5, 6, 7, 8, 9, 10, 11, 12, 13, 14, 15, 16, 17, 18, 19, 20, 21, 22, 23, 24, 25, 26, 27, 28, 29, 30, 31] (cl, fclm, ffi, fla, fml, fmm, fsl, fsm, r1, rc, rh, ffc, fsh) rfl rfl (by decide) (⟨trivial, hcl⟩) rfl dX11_findingOf_106)
    by_cases c_25_2331 : x2 = 3
    · refine lv_tableIn (tgt := 107) hx hb dX11_findingOf_25 (by rw [c_25_2331]; decide) (by rw [c_25_2331]; decide) (by rw [c_25_2331]; rfl) (by decide) ?_
      refine lv_aload_n hx hb dX11_findingOf_107 rfl (lv_at1 hl) ?_
      refine gf_X11_15 hC rfl hK hP 0 rfl rfl dX11_findingOf_108 ?_
      refine gf_X11_271 hC rfl hK hP 13 rfl rfl dX11_findingOf_111 ?_
      refine lv_iload_n hx hb dX11_findingOf_114 rfl (lv_at2 hl) ?_
      refine lv_iconst (v := 3) hx hb dX11_findingOf_115 (by decide) ?_
      refine pV hC hK hl hP hD (c_T_at l G bfindings x1 3 12 4 bfindingsc kbfindings fbfindings (hkbfindings) (by omega) (by omega)) si_X11_128 [26, 27] sm_26_27 fm_26_27 nd_26_27 rfl rfl rfl rfl rfl (Nat.le_of_ble_eq_true rfl) rm_9_1_3 ⟨by first | exact Nat.le_of_ble_eq_true rfl | exact Nat.zero_le _, by first | exact Nat.le_of_ble_eq_true rfl | exact Nat.zero_le _⟩ dX11_findingOf_116 (fun r2332 hr2332 => ?_)
      exact toQ hQ0 (RI (v := r2332) hC hP hD hS [0, 1, 2, 3, 4, 5, 6, 7, 8, 9, 10, 11, 12, 13, 14, 15, 16, 17, 18, 19, 20, 21, 22, 23, 24, 25, 26, 27, 28, 29, 30, 31] (cl, fclm, ffi, fla, fml, fmm, fsl, fsm, r1, rc, rh, ffc, fsh) rfl rfl (by decide) (⟨trivial, hcl⟩) rfl dX11_findingOf_119)
    by_cases c_25_2334 : x2 = 4
    · refine lv_tableIn (tgt := 120) hx hb dX11_findingOf_25 (by rw [c_25_2334]; decide) (by rw [c_25_2334]; decide) (by rw [c_25_2334]; rfl) (by decide) ?_
      refine lv_aload_n hx hb dX11_findingOf_120 rfl (lv_at1 hl) ?_
      refine lv_iload_n hx hb dX11_findingOf_121 rfl (lv_at2 hl) ?_
      refine lv_iload_n hx hb dX11_findingOf_122 rfl (lv_at0 hl) ?_
      refine iV (wr := [(bsayings, oX8 16 8 bsayingsc (nI kbsayings)), (bsayingsc, iA G 128 fbsayings), (bwarnings, oX8 16 3 bwarningsc (nI kbwarnings)), (bwarningsc, iA G 48 fbwarnings)]) hC hK hl hP hD hS hA (c_stands l G h0 x1 r2321 bb kk ikp sg do9 ru9 ta9 tp9 ro9 ho9 de9 clk fi la ml mm sl sm cl clm fclm ffi fla fml fmm fsl fsm fc sh r1 rc rh ffc fsh bpersons bpapers bstamps bversions blines bsteps bsayings bfindings bwarnings bquestions td vd vl gp bversionsc kbversions fbversions bpersonsc kbpersons fbpersons bpapersc kbpapers fbpapers blinesc kblines fblines bstepsc kbsteps fbsteps bstampsc kbstamps fbstamps bfindingsc kbfindings fbfindings (hkbversions) (hkbpersons) (hkbpapers) (hkblines) (hkbsteps) (hkbstamps) (hkbfindings)) si_X11_274 [0, 1, 2, 3, 4, 5, 6, 7, 8, 9, 10, 11, 12, 13, 14, 15, 16, 17, 18, 19, 20, 21, 22, 23, 24, 25, 26, 27] [28, 29, 30, 31] sm_0_1_2_3_4_5_6_7_8_9_10_11_12_13_14_15_16_17_18_19_20_21_22_23_24_25_26_27 fm_0_1_2_3_4_5_6_7_8_9_10_11_12_13_14_15_16_17_18_19_20_21_22_23_24_25_26_27 nd_0_1_2_3_4_5_6_7_8_9_10_11_12_13_14_15_16_17_18_19_20_21_22_23_24_25_26_27 sm_28_29_30_31 nd_28_29_30_31 dj_0_1_2_3_4_5_6_7_8_9_10_11_12_13_14_15_16_17_18_19_20_21_22_23_24_25_26_27__28_29_30_31 rfl rfl rfl rfl rfl (Nat.le_of_ble_eq_true rfl) rm_9_7_6 ⟨Nat.le_of_ble_eq_true rfl, Nat.le_of_ble_eq_true rfl⟩ dX11_findingOf_123 (fun r2335 => Ktu13 fun cl12337 gclm2338 gfi2339 gla2340 gml2341 gmm2342 gsl2343 gsm2344 r112345 rc12346 rh12347 gfc2348 gsh2349 => ?_)
      intro H locs hr2335 hP hD hS
      try dsimp only at hr2335
      refine Kpdr (ws := [(bsayings, oX8 16 8 bsayingsc (nI kbsayings)), (bsayingsc, iA G 128 fbsayings), (bwarnings, oX8 16 3 bwarningsc (nI kbwarnings)), (bwarningsc, iA G 48 fbwarnings), (h0, oX11 bb kk ikp sg do9 ru9 ta9 tp9 ro9 ho9 de9), (sg, oX7 bb clk fi la ml mm sl sm cl12337), (clk, oX1 clm), (clm, iA G 36 gclm2338), (fi, iA G 12 gfi2339), (la, iA G 12 gla2340), (ml, iA G 12 gml2341), (mm, iA G 12 gmm2342), (sl, iA G 12 gsl2343), (sm, iA G 12 gsm2344), (ru9, oX6 bb sg fc sh r112345 rc12346 rh12347), (fc, iA G 5 gfc2348), (sh, iA G 8 gsh2349), (bb, oX0 bpersons bpapers bstamps bversions blines bsteps bsayings bfindings bwarnings bquestions td vd vl gp), (bversions, oX8 8 3 bversionsc (nI kbversions)), (bversionsc, iA G 24 fbversions), (bpersons, oX8 10 2 bpersonsc (nI kbpersons)), (bpersonsc, iA G 20 fbpersons), (bpapers, oX8 12 6 bpapersc (nI kbpapers)), (bpapersc, iA G 72 fbpapers), (blines, oX8 72 7 blinesc (nI kblines)), (blinesc, iA G 504 fblines), (bsteps, oX8 960 1 bstepsc (nI kbsteps)), (bstepsc, iA G 960 fbsteps), (bstamps, oX8 24 3 bstampsc (nI kbstamps)), (bstampsc, iA G 72 fbstamps), (bfindings, oX8 12 4 bfindingsc (nI kbfindings)), (bfindingsc, iA G 48 fbfindings)]) hP hD (fun hP hD => ?_)
      obtain ⟨hr2335, w2350⟩ := hr2335
      rcases hr2335 with rfl | rfl
      · refine lv_if_eq (tgt := 133) hx hb dX11_findingOf_126 (by decide) (fun c9 => absurd c9 (by decide)) (fun _ => ?_)
        refine lv_iconst (v := 1) hx hb dX11_findingOf_129 (by decide) ?_
        refine lv_goto (tgt := 134) hx hb dX11_findingOf_130 (by decide) ?_
        exact toQ hQ0 (RI (v := 1) hC hP hD hS [4, 5, 6, 7, 8, 9, 10, 11, 12, 13, 14, 15, 16, 17, 18, 19, 20, 21, 22, 23, 24, 25, 26, 27, 28, 29, 30, 31, 0, 1, 2, 3] (cl12337, gclm2338, gfi2339, gla2340, gml2341, gmm2342, gsl2343, gsm2344, r112345, rc12346, rh12347, gfc2348, gsh2349) rfl rfl (by decide) (⟨trivial, w2350⟩) rfl dX11_findingOf_134)
      · refine lv_if_eq (tgt := 133) hx hb dX11_findingOf_126 (by decide) (fun _ => ?_) (fun c9 => absurd (by decide) c9)
        refine lv_iconst (v := 0) hx hb dX11_findingOf_133 (by decide) ?_
        exact toQ hQ0 (RI (v := 0) hC hP hD hS [4, 5, 6, 7, 8, 9, 10, 11, 12, 13, 14, 15, 16, 17, 18, 19, 20, 21, 22, 23, 24, 25, 26, 27, 28, 29, 30, 31, 0, 1, 2, 3] (cl12337, gclm2338, gfi2339, gla2340, gml2341, gmm2342, gsl2343, gsm2344, r112345, rc12346, rh12347, gfc2348, gsh2349) rfl rfl (by decide) (⟨trivial, w2350⟩) rfl dX11_findingOf_134)
    by_cases c_25_2352 : x2 = 5
    · refine lv_tableIn (tgt := 135) hx hb dX11_findingOf_25 (by rw [c_25_2352]; decide) (by rw [c_25_2352]; decide) (by rw [c_25_2352]; rfl) (by decide) ?_
      refine lv_aload_n hx hb dX11_findingOf_135 rfl (lv_at1 hl) ?_
      refine lv_iload_n hx hb dX11_findingOf_136 rfl (lv_at2 hl) ?_
      refine lv_iload_n hx hb dX11_findingOf_137 rfl (lv_at0 hl) ?_
      refine iV (wr := [(bsayings, oX8 16 8 bsayingsc (nI kbsayings)), (bsayingsc, iA G 128 fbsayings), (bwarnings, oX8 16 3 bwarningsc (nI kbwarnings)), (bwarningsc, iA G 48 fbwarnings)]) hC hK hl hP hD hS hA (c_leansOn l G h0 x1 r2321 bb kk ikp sg do9 ru9 ta9 tp9 ro9 ho9 de9 clk fi la ml mm sl sm cl clm fclm ffi fla fml fmm fsl fsm fc sh r1 rc rh ffc fsh bpersons bpapers bstamps bversions blines bsteps bsayings bfindings bwarnings bquestions td vd vl gp bversionsc kbversions fbversions bpersonsc kbpersons fbpersons bpapersc kbpapers fbpapers blinesc kblines fblines bstepsc kbsteps fbsteps bstampsc kbstamps fbstamps bfindingsc kbfindings fbfindings (hkbversions) (hkbpersons) (hkbpapers) (hkblines) (hkbsteps) (hkbstamps) (hkbfindings)) si_X11_277 [0, 1, 2, 3, 4, 5, 6, 7, 8, 9, 10, 11, 12, 13, 14, 15, 16, 17, 18, 19, 20, 21, 22, 23, 24, 25, 26, 27] [28, 29, 30, 31] sm_0_1_2_3_4_5_6_7_8_9_10_11_12_13_14_15_16_17_18_19_20_21_22_23_24_25_26_27 fm_0_1_2_3_4_5_6_7_8_9_10_11_12_13_14_15_16_17_18_19_20_21_22_23_24_25_26_27 nd_0_1_2_3_4_5_6_7_8_9_10_11_12_13_14_15_16_17_18_19_20_21_22_23_24_25_26_27 sm_28_29_30_31 nd_28_29_30_31 dj_0_1_2_3_4_5_6_7_8_9_10_11_12_13_14_15_16_17_18_19_20_21_22_23_24_25_26_27__28_29_30_31 rfl rfl rfl rfl rfl (Nat.le_of_ble_eq_true rfl) rm_9_8_5 ⟨Nat.le_of_ble_eq_true rfl, Nat.le_of_ble_eq_true rfl⟩ dX11_findingOf_138 (fun r2353 => Ktu13 fun cl12355 gclm2356 gfi2357 gla2358 gml2359 gmm2360 gsl2361 gsm2362 r112363 rc12364 rh12365 gfc2366 gsh2367 => ?_)
      intro H locs hr2353 hP hD hS
      try dsimp only at hr2353
      refine Kpdr (ws := [(bsayings, oX8 16 8 bsayingsc (nI kbsayings)), (bsayingsc, iA G 128 fbsayings), (bwarnings, oX8 16 3 bwarningsc (nI kbwarnings)), (bwarningsc, iA G 48 fbwarnings), (h0, oX11 bb kk ikp sg do9 ru9 ta9 tp9 ro9 ho9 de9), (sg, oX7 bb clk fi la ml mm sl sm cl12355), (clk, oX1 clm), (clm, iA G 36 gclm2356), (fi, iA G 12 gfi2357), (la, iA G 12 gla2358), (ml, iA G 12 gml2359), (mm, iA G 12 gmm2360), (sl, iA G 12 gsl2361), (sm, iA G 12 gsm2362), (ru9, oX6 bb sg fc sh r112363 rc12364 rh12365), (fc, iA G 5 gfc2366), (sh, iA G 8 gsh2367), (bb, oX0 bpersons bpapers bstamps bversions blines bsteps bsayings bfindings bwarnings bquestions td vd vl gp), (bversions, oX8 8 3 bversionsc (nI kbversions)), (bversionsc, iA G 24 fbversions), (bpersons, oX8 10 2 bpersonsc (nI kbpersons)), (bpersonsc, iA G 20 fbpersons), (bpapers, oX8 12 6 bpapersc (nI kbpapers)), (bpapersc, iA G 72 fbpapers), (blines, oX8 72 7 blinesc (nI kblines)), (blinesc, iA G 504 fblines), (bsteps, oX8 960 1 bstepsc (nI kbsteps)), (bstepsc, iA G 960 fbsteps), (bstamps, oX8 24 3 bstampsc (nI kbstamps)), (bstampsc, iA G 72 fbstamps), (bfindings, oX8 12 4 bfindingsc (nI kbfindings)), (bfindingsc, iA G 48 fbfindings)]) hP hD (fun hP hD => ?_)
      obtain ⟨hr2353, w2368⟩ := hr2353
      exact toQ hQ0 (RI (v := r2353) hC hP hD hS [4, 5, 6, 7, 8, 9, 10, 11, 12, 13, 14, 15, 16, 17, 18, 19, 20, 21, 22, 23, 24, 25, 26, 27, 28, 29, 30, 31, 0, 1, 2, 3] (cl12355, gclm2356, gfi2357, gla2358, gml2359, gmm2360, gsl2361, gsm2362, r112363, rc12364, rh12365, gfc2366, gsh2367) rfl rfl (by decide) (⟨trivial, w2368⟩) rfl dX11_findingOf_141)
    by_cases c_25_2369 : x2 = 6
    · refine lv_tableIn (tgt := 142) hx hb dX11_findingOf_25 (by rw [c_25_2369]; decide) (by rw [c_25_2369]; decide) (by rw [c_25_2369]; rfl) (by decide) ?_
      refine lv_aload_n hx hb dX11_findingOf_142 rfl (lv_at1 hl) ?_
      refine lv_iload_n hx hb dX11_findingOf_143 rfl (lv_at2 hl) ?_
      refine lv_iload_n hx hb dX11_findingOf_144 rfl (lv_at0 hl) ?_
      refine lv_aload_n hx hb dX11_findingOf_145 rfl (lv_at1 hl) ?_
      refine lv_iload_n hx hb dX11_findingOf_146 rfl (lv_at2 hl) ?_
      refine lv_iload_n hx hb dX11_findingOf_147 rfl (lv_at0 hl) ?_
      refine iV (wr := [(bsayings, oX8 16 8 bsayingsc (nI kbsayings)), (bsayingsc, iA G 128 fbsayings), (bwarnings, oX8 16 3 bwarningsc (nI kbwarnings)), (bwarningsc, iA G 48 fbwarnings)]) hC hK hl hP hD hS hA (c_leansOn l G h0 x1 r2321 bb kk ikp sg do9 ru9 ta9 tp9 ro9 ho9 de9 clk fi la ml mm sl sm cl clm fclm ffi fla fml fmm fsl fsm fc sh r1 rc rh ffc fsh bpersons bpapers bstamps bversions blines bsteps bsayings bfindings bwarnings bquestions td vd vl gp bversionsc kbversions fbversions bpersonsc kbpersons fbpersons bpapersc kbpapers fbpapers blinesc kblines fblines bstepsc kbsteps fbsteps bstampsc kbstamps fbstamps bfindingsc kbfindings fbfindings (hkbversions) (hkbpersons) (hkbpapers) (hkblines) (hkbsteps) (hkbstamps) (hkbfindings)) si_X11_277 [0, 1, 2, 3, 4, 5, 6, 7, 8, 9, 10, 11, 12, 13, 14, 15, 16, 17, 18, 19, 20, 21, 22, 23, 24, 25, 26, 27] [28, 29, 30, 31] sm_0_1_2_3_4_5_6_7_8_9_10_11_12_13_14_15_16_17_18_19_20_21_22_23_24_25_26_27 fm_0_1_2_3_4_5_6_7_8_9_10_11_12_13_14_15_16_17_18_19_20_21_22_23_24_25_26_27 nd_0_1_2_3_4_5_6_7_8_9_10_11_12_13_14_15_16_17_18_19_20_21_22_23_24_25_26_27 sm_28_29_30_31 nd_28_29_30_31 dj_0_1_2_3_4_5_6_7_8_9_10_11_12_13_14_15_16_17_18_19_20_21_22_23_24_25_26_27__28_29_30_31 rfl rfl rfl rfl rfl (Nat.le_of_ble_eq_true rfl) rm_9_8_5 ⟨Nat.le_of_ble_eq_true rfl, Nat.le_of_ble_eq_true rfl⟩ dX11_findingOf_148 (fun r2370 => Ktu13 fun cl12372 gclm2373 gfi2374 gla2375 gml2376 gmm2377 gsl2378 gsm2379 r112380 rc12381 rh12382 gfc2383 gsh2384 => ?_)
      intro H locs hr2370 hP hD hS
      try dsimp only at hr2370
      refine Kpdr (ws := [(bsayings, oX8 16 8 bsayingsc (nI kbsayings)), (bsayingsc, iA G 128 fbsayings), (bwarnings, oX8 16 3 bwarningsc (nI kbwarnings)), (bwarningsc, iA G 48 fbwarnings), (h0, oX11 bb kk ikp sg do9 ru9 ta9 tp9 ro9 ho9 de9), (sg, oX7 bb clk fi la ml mm sl sm cl12372), (clk, oX1 clm), (clm, iA G 36 gclm2373), (fi, iA G 12 gfi2374), (la, iA G 12 gla2375), (ml, iA G 12 gml2376), (mm, iA G 12 gmm2377), (sl, iA G 12 gsl2378), (sm, iA G 12 gsm2379), (ru9, oX6 bb sg fc sh r112380 rc12381 rh12382), (fc, iA G 5 gfc2383), (sh, iA G 8 gsh2384), (bb, oX0 bpersons bpapers bstamps bversions blines bsteps bsayings bfindings bwarnings bquestions td vd vl gp), (bversions, oX8 8 3 bversionsc (nI kbversions)), (bversionsc, iA G 24 fbversions), (bpersons, oX8 10 2 bpersonsc (nI kbpersons)), (bpersonsc, iA G 20 fbpersons), (bpapers, oX8 12 6 bpapersc (nI kbpapers)), (bpapersc, iA G 72 fbpapers), (blines, oX8 72 7 blinesc (nI kblines)), (blinesc, iA G 504 fblines), (bsteps, oX8 960 1 bstepsc (nI kbsteps)), (bstepsc, iA G 960 fbsteps), (bstamps, oX8 24 3 bstampsc (nI kbstamps)), (bstampsc, iA G 72 fbstamps), (bfindings, oX8 12 4 bfindingsc (nI kbfindings)), (bfindingsc, iA G 48 fbfindings)]) hP hD (fun hP hD => ?_)
      obtain ⟨hr2370, w2385⟩ := hr2370
      refine iV (wr := [(sg, oX7 bb clk fi la ml mm sl sm cl12372), (clk, oX1 clm), (clm, iA G 36 gclm2373), (fi, iA G 12 gfi2374), (la, iA G 12 gla2375), (ml, iA G 12 gml2376), (mm, iA G 12 gmm2377), (sl, iA G 12 gsl2378), (sm, iA G 12 gsm2379), (bstamps, oX8 24 3 bstampsc (nI kbstamps)), (bstampsc, iA G 72 fbstamps)]) hC hK hl hP hD hS hA (c_isBarred l G h0 x1 r2321 r2370 bb kk ikp sg do9 ru9 ta9 tp9 ro9 ho9 de9 fc sh r112380 rc12381 rh12382 gfc2383 gsh2384 bpersons bpapers bstamps bversions blines bsteps bsayings bfindings bwarnings bquestions td vd vl gp bversionsc kbversions fbversions bpersonsc kbpersons fbpersons bpapersc kbpapers fbpapers blinesc kblines fblines bstepsc kbsteps fbsteps bfindingsc kbfindings fbfindings bsayingsc kbsayings fbsayings bwarningsc kbwarnings fbwarnings (hkbversions) (hkbpersons) (hkbpapers) (hkblines) (hkbsteps) (hkbfindings) (hkbsayings) (hkbwarnings)) si_X11_280 [4, 14, 15, 16, 17, 18, 19, 20, 21, 22, 23, 24, 25, 26, 27, 30, 31, 0, 1, 2, 3] [5, 6, 7, 8, 9, 10, 11, 12, 13, 28, 29] sm_4_14_15_16_17_18_19_20_21_22_23_24_25_26_27_30_31_0_1_2_3 fm_4_14_15_16_17_18_19_20_21_22_23_24_25_26_27_30_31_0_1_2_3 nd_4_14_15_16_17_18_19_20_21_22_23_24_25_26_27_30_31_0_1_2_3 sm_5_6_7_8_9_10_11_12_13_28_29 nd_5_6_7_8_9_10_11_12_13_28_29 dj_4_14_15_16_17_18_19_20_21_22_23_24_25_26_27_30_31_0_1_2_3__5_6_7_8_9_10_11_12_13_28_29 rfl rfl rfl rfl rfl (Nat.le_of_ble_eq_true rfl) rm_9_7_7 ⟨Nat.le_of_ble_eq_true rfl, Nat.le_of_ble_eq_true rfl⟩ dX11_findingOf_151 (fun r2386 => Ktu4 fun r112388 rc12389 rh12390 gfc2391 => ?_)
      intro H locs hr2386 hP hD hS
      try dsimp only at hr2386
      refine Kpdr (ws := [(sg, oX7 bb clk fi la ml mm sl sm cl12372), (clk, oX1 clm), (clm, iA G 36 gclm2373), (fi, iA G 12 gfi2374), (la, iA G 12 gla2375), (ml, iA G 12 gml2376), (mm, iA G 12 gmm2377), (sl, iA G 12 gsl2378), (sm, iA G 12 gsm2379), (bstamps, oX8 24 3 bstampsc (nI kbstamps)), (bstampsc, iA G 72 fbstamps), (h0, oX11 bb kk ikp sg do9 ru9 ta9 tp9 ro9 ho9 de9), (ru9, oX6 bb sg fc sh r112388 rc12389 rh12390), (fc, iA G 5 gfc2391), (sh, iA G 8 gsh2384), (bb, oX0 bpersons bpapers bstamps bversions blines bsteps bsayings bfindings bwarnings bquestions td vd vl gp), (bversions, oX8 8 3 bversionsc (nI kbversions)), (bversionsc, iA G 24 fbversions), (bpersons, oX8 10 2 bpersonsc (nI kbpersons)), (bpersonsc, iA G 20 fbpersons), (bpapers, oX8 12 6 bpapersc (nI kbpapers)), (bpapersc, iA G 72 fbpapers), (blines, oX8 72 7 blinesc (nI kblines)), (blinesc, iA G 504 fblines), (bsteps, oX8 960 1 bstepsc (nI kbsteps)), (bstepsc, iA G 960 fbsteps), (bfindings, oX8 12 4 bfindingsc (nI kbfindings)), (bfindingsc, iA G 48 fbfindings), (bsayings, oX8 16 8 bsayingsc (nI kbsayings)), (bsayingsc, iA G 128 fbsayings), (bwarnings, oX8 16 3 bwarningsc (nI kbwarnings)), (bwarningsc, iA G 48 fbwarnings)]) hP hD (fun hP hD => ?_)
      rcases hr2386 with rfl | rfl
      · refine lv_if_eq (tgt := 161) hx hb dX11_findingOf_154 (by decide) (fun c9 => absurd c9 (by decide)) (fun _ => ?_)
        refine lv_iconst (v := 1) hx hb dX11_findingOf_157 (by decide) ?_
        refine lv_goto (tgt := 162) hx hb dX11_findingOf_158 (by decide) ?_
        exact toQ hQ0 (RI (v := 1) hC hP hD hS [11, 0, 1, 2, 3, 4, 5, 6, 7, 8, 12, 13, 14, 15, 16, 17, 18, 19, 20, 21, 22, 23, 24, 25, 9, 10, 26, 27, 28, 29, 30, 31] (cl12372, gclm2373, gfi2374, gla2375, gml2376, gmm2377, gsl2378, gsm2379, r112388, rc12389, rh12390, gfc2391, gsh2384) rfl rfl (by decide) (⟨trivial, w2385⟩) rfl dX11_findingOf_162)
      · refine lv_if_eq (tgt := 161) hx hb dX11_findingOf_154 (by decide) (fun _ => ?_) (fun c9 => absurd (by decide) c9)
        refine lv_iconst (v := 0) hx hb dX11_findingOf_161 (by decide) ?_
        exact toQ hQ0 (RI (v := 0) hC hP hD hS [11, 0, 1, 2, 3, 4, 5, 6, 7, 8, 12, 13, 14, 15, 16, 17, 18, 19, 20, 21, 22, 23, 24, 25, 9, 10, 26, 27, 28, 29, 30, 31] (cl12372, gclm2373, gfi2374, gla2375, gml2376, gmm2377, gsl2378, gsm2379, r112388, rc12389, rh12390, gfc2391, gsh2384) rfl rfl (by decide) (⟨trivial, w2385⟩) rfl dX11_findingOf_162)
    refine lv_tableOut (tgt := 163) hx hb dX11_findingOf_25 (by have q9 := sw_0_6 (x := x2); simp only [c_25_2322, c_25_2325, c_25_2328, c_25_2331, c_25_2334, c_25_2352, c_25_2369, not_false_eq_true, true_implies] at q9; exact q9) (by decide) ?_
    refine lv_iconst (v := (-1)) hx hb dX11_findingOf_163 (by decide) ?_
    exact toQ hQ0 (RI (v := (-1)) hC hP hD hS [0, 1, 2, 3, 4, 5, 6, 7, 8, 9, 10, 11, 12, 13, 14, 15, 16, 17, 18, 19, 20, 21, 22, 23, 24, 25, 26, 27, 28, 29, 30, 31] (cl, fclm, ffi, fla, fml, fmm, fsl, fsm, r1, rc, rh, ffc, fsh) rfl rfl (by decide) (⟨trivial, hcl⟩) rfl dX11_findingOf_164)
  · refine lv_if_ne (tgt := 16) hx hb dX11_findingOf_11 (by decide) (fun c9 => absurd (by decide) c9) (fun _ => ?_)
    refine lv_iconst (v := (-1)) hx hb dX11_findingOf_14 (by decide) ?_
    exact toQ hQ0 (RI (v := (-1)) hC hP hD hS [0, 1, 2, 3, 4, 5, 6, 7, 8, 9, 10, 11, 12, 13, 14, 15, 16, 17, 18, 19, 20, 21, 22, 23, 24, 25, 26, 27, 28, 29, 30, 31] (cl, fclm, ffi, fla, fml, fmm, fsl, fsm, r1, rc, rh, ffc, fsh) rfl rfl (by decide) (⟨trivial, hcl⟩) rfl dX11_findingOf_15)
def K_c_leastWeight (l : Launch) (G : GG) (h0 : Nat) (bb : Nat) (sg : Nat) (tf : Int32) (tt9 : Int32) (tl : Int32) (tbv : Int32) : Prop := MP l G yX9_leastWeight cX9_leastWeight 1 (some .int) 1 [.ref h0] [(h0, oX9 bb sg tf tt9 tl tbv)] (fun r : Int32 => True)
set_option maxHeartbeats 4000000 in
set_option maxRecDepth 100000 in
theorem c_leastWeight (l : Launch) (G : GG) (h0 : Nat) (bb : Nat) (sg : Nat) (tf : Int32) (tt9 : Int32) (tl : Int32) (tbv : Int32) : K_c_leastWeight l G h0 bb sg tf tt9 tl tbv := by
  refine MP.start (by decide +kernel) (Nat.le_of_ble_eq_true rfl) ?_
  intro p e s m below meth c ls hC hK hP hD hl
  refine absQ (fun Q0 hQ0 => ?_)
  have hl : lv_has ls 1 [(0, .ref h0)] := hl
  refine Kan8 hC (fun hx hb hr hml hB hown hlocks hnm => ?_)
  refine lv_aload_n hx hb dX9_leastWeight_0 rfl (lv_at0 hl) ?_
  refine gf_X9_26 hC rfl hK hP 0 rfl rfl dX9_leastWeight_1 ?_
  exact toQ hQ0 (RP (v := tl) hC (trivial) rfl dX9_leastWeight_4)
def K_c_believed (l : Launch) (G : GG) (h0 : Nat) (bb : Nat) (sg : Nat) (tf : Int32) (tt9 : Int32) (tl : Int32) (tbv : Int32) : Prop := MP l G yX9_believedHour cX9_believedHour 1 (some .int) 1 [.ref h0] [(h0, oX9 bb sg tf tt9 tl tbv)] (fun r : Int32 => True)
set_option maxHeartbeats 4000000 in
set_option maxRecDepth 100000 in
theorem c_believed (l : Launch) (G : GG) (h0 : Nat) (bb : Nat) (sg : Nat) (tf : Int32) (tt9 : Int32) (tl : Int32) (tbv : Int32) : K_c_believed l G h0 bb sg tf tt9 tl tbv := by
  refine MP.start (by decide +kernel) (Nat.le_of_ble_eq_true rfl) ?_
  intro p e s m below meth c ls hC hK hP hD hl
  refine absQ (fun Q0 hQ0 => ?_)
  have hl : lv_has ls 1 [(0, .ref h0)] := hl
  refine Kan8 hC (fun hx hb hr hml hB hown hlocks hnm => ?_)
  refine lv_aload_n hx hb dX9_believedHour_0 rfl (lv_at0 hl) ?_
  refine gf_X9_29 hC rfl hK hP 0 rfl rfl dX9_believedHour_1 ?_
  exact toQ hQ0 (RP (v := tbv) hC (trivial) rfl dX9_believedHour_4)
def K_p_quarrel (l : Launch) (G : GG) (h0 : Nat) (x1 : Int32) (x2 : Int32) (x3 : Int32) (bb : Nat) (kk : Nat) (ikp : Int32) (sg : Nat) (do9 : Nat) (ru9 : Nat) (ta9 : Nat) (tp9 : Nat) (ro9 : Nat) (ho9 : Nat) (de9 : Nat) (clk : Nat) (fi : Nat) (la : Nat) (ml : Nat) (mm : Nat) (sl : Nat) (sm : Nat) (cl : Int32) (clm : Nat) (fclm : Nat → Int32) (ffi : Nat → Int32) (fla : Nat → Int32) (fml : Nat → Int32) (fmm : Nat → Int32) (fsl : Nat → Int32) (fsm : Nat → Int32) (tf : Int32) (tt9 : Int32) (tl : Int32) (tbv : Int32) (bpersons : Nat) (bpapers : Nat) (bstamps : Nat) (bversions : Nat) (blines : Nat) (bsteps : Nat) (bsayings : Nat) (bfindings : Nat) (bwarnings : Nat) (bquestions : Nat) (td : Int32) (vd : Int32) (vl : Int32) (gp : Int32) (bpapersc : Nat) (kbpapers : Nat) (fbpapers : Nat → Int32) (bpersonsc : Nat) (kbpersons : Nat) (fbpersons : Nat → Int32) (bsayingsc : Nat) (kbsayings : Nat) (fbsayings : Nat → Int32) (bstampsc : Nat) (kbstamps : Nat) (fbstamps : Nat → Int32) : Prop := MI l G yX11_quarrel cX11_quarrel 5 (some .int) 8 0 0 [.ref h0, .int x1, .int x2, .int x3] [(h0, oX11 bb kk ikp sg do9 ru9 ta9 tp9 ro9 ho9 de9), (sg, oX7 bb clk fi la ml mm sl sm cl), (clk, oX1 clm), (clm, iA G 36 fclm), (fi, iA G 12 ffi), (la, iA G 12 fla), (ml, iA G 12 fml), (mm, iA G 12 fmm), (sl, iA G 12 fsl), (sm, iA G 12 fsm), (ta9, oX9 bb sg tf tt9 tl tbv), (bb, oX0 bpersons bpapers bstamps bversions blines bsteps bsayings bfindings bwarnings bquestions td vd vl gp), (bpapers, oX8 12 6 bpapersc (nI kbpapers)), (bpapersc, iA G 72 fbpapers), (bpersons, oX8 10 2 bpersonsc (nI kbpersons)), (bpersonsc, iA G 20 fbpersons), (bsayings, oX8 16 8 bsayingsc (nI kbsayings)), (bsayingsc, iA G 128 fbsayings), (bstamps, oX8 24 3 bstampsc (nI kbstamps)), (bstampsc, iA G 72 fbstamps)] (fun (r : Int32) (u : Int32 × (Nat → Int32) × (Nat → Int32) × (Nat → Int32) × (Nat → Int32) × (Nat → Int32) × (Nat → Int32) × (Nat → Int32) × Int32 × Int32 × Int32 × Int32) => (True) ∧ (u.1 = 0 ∨ u.1 = 1)) (fun u : Int32 × (Nat → Int32) × (Nat → Int32) × (Nat → Int32) × (Nat → Int32) × (Nat → Int32) × (Nat → Int32) × (Nat → Int32) × Int32 × Int32 × Int32 × Int32 => [(h0, oX11 bb kk ikp sg do9 ru9 ta9 tp9 ro9 ho9 de9), (sg, oX7 bb clk fi la ml mm sl sm u.1), (clk, oX1 clm), (clm, iA G 36 u.2.1), (fi, iA G 12 u.2.2.1), (la, iA G 12 u.2.2.2.1), (ml, iA G 12 u.2.2.2.2.1), (mm, iA G 12 u.2.2.2.2.2.1), (sl, iA G 12 u.2.2.2.2.2.2.1), (sm, iA G 12 u.2.2.2.2.2.2.2.1), (ta9, oX9 bb sg u.2.2.2.2.2.2.2.2.1 u.2.2.2.2.2.2.2.2.2.1 u.2.2.2.2.2.2.2.2.2.2.1 u.2.2.2.2.2.2.2.2.2.2.2), (bb, oX0 bpersons bpapers bstamps bversions blines bsteps bsayings bfindings bwarnings bquestions td vd vl gp), (bpapers, oX8 12 6 bpapersc (nI kbpapers)), (bpapersc, iA G 72 fbpapers), (bpersons, oX8 10 2 bpersonsc (nI kbpersons)), (bpersonsc, iA G 20 fbpersons), (bsayings, oX8 16 8 bsayingsc (nI kbsayings)), (bsayingsc, iA G 128 fbsayings), (bstamps, oX8 24 3 bstampsc (nI kbstamps)), (bstampsc, iA G 72 fbstamps)])
set_option maxHeartbeats 4000000 in
set_option maxRecDepth 100000 in
theorem p_quarrel (l : Launch) (G : GG) (h0 : Nat) (x1 : Int32) (x2 : Int32) (x3 : Int32) (bb : Nat) (kk : Nat) (ikp : Int32) (sg : Nat) (do9 : Nat) (ru9 : Nat) (ta9 : Nat) (tp9 : Nat) (ro9 : Nat) (ho9 : Nat) (de9 : Nat) (clk : Nat) (fi : Nat) (la : Nat) (ml : Nat) (mm : Nat) (sl : Nat) (sm : Nat) (cl : Int32) (clm : Nat) (fclm : Nat → Int32) (ffi : Nat → Int32) (fla : Nat → Int32) (fml : Nat → Int32) (fmm : Nat → Int32) (fsl : Nat → Int32) (fsm : Nat → Int32) (tf : Int32) (tt9 : Int32) (tl : Int32) (tbv : Int32) (bpersons : Nat) (bpapers : Nat) (bstamps : Nat) (bversions : Nat) (blines : Nat) (bsteps : Nat) (bsayings : Nat) (bfindings : Nat) (bwarnings : Nat) (bquestions : Nat) (td : Int32) (vd : Int32) (vl : Int32) (gp : Int32) (bpapersc : Nat) (kbpapers : Nat) (fbpapers : Nat → Int32) (bpersonsc : Nat) (kbpersons : Nat) (fbpersons : Nat → Int32) (bsayingsc : Nat) (kbsayings : Nat) (fbsayings : Nat → Int32) (bstampsc : Nat) (kbstamps : Nat) (fbstamps : Nat → Int32) (hkbpapers : kbpapers ≤ 12) (hkbpersons : kbpersons ≤ 10) (hkbsayings : kbsayings ≤ 16) (hkbstamps : kbstamps ≤ 24) (hcl : cl = 0 ∨ cl = 1) : K_p_quarrel l G h0 x1 x2 x3 bb kk ikp sg do9 ru9 ta9 tp9 ro9 ho9 de9 clk fi la ml mm sl sm cl clm fclm ffi fla fml fmm fsl fsm tf tt9 tl tbv bpersons bpapers bstamps bversions blines bsteps bsayings bfindings bwarnings bquestions td vd vl gp bpapersc kbpapers fbpapers bpersonsc kbpersons fbpersons bsayingsc kbsayings fbsayings bstampsc kbstamps fbstamps := by
  refine MI.start (by decide +kernel) (Nat.le_of_ble_eq_true rfl) ?_
  intro p e s m below meth c A ls hC hK hP hD hS hA hl
  refine absQ (fun Q0 hQ0 => ?_)
  have hl : lv_has ls 5 [(0, .ref h0), (1, .int x1), (2, .int x2), (3, .int x3)] := hl
  refine Kan8 hC (fun hx hb hr hml hB hown hlocks hnm => ?_)
  refine lv_aload_n hx hb dX11_quarrel_0 rfl (lv_at0 hl) ?_
  refine gf_X11_15 hC rfl hK hP 0 rfl rfl dX11_quarrel_1 ?_
  refine gf_X11_107 hC rfl hK hP 11 rfl rfl dX11_quarrel_4 ?_
  refine lv_iload_n hx hb dX11_quarrel_7 rfl (lv_at1 hl) ?_
  refine pV hC hK hl hP hD (c_T_has l G bpersons x1 10 2 bpersonsc kbpersons) si_X11_124 [14] sm_14 fm_14 nd_14 rfl rfl rfl rfl rfl (Nat.le_of_ble_eq_true rfl) rm_8_1_2 ⟨by first | exact Nat.le_of_ble_eq_true rfl | exact Nat.zero_le _, by first | exact Nat.le_of_ble_eq_true rfl | exact Nat.zero_le _⟩ dX11_quarrel_8 (Kors (Keqa fun a2394 => ?_) (Keqa fun a2394 => ?_))
  · refine lv_if_eq (tgt := 37) hx hb dX11_quarrel_11 (by decide) (fun c9 => absurd c9 (by decide)) (fun _ => ?_)
    refine lv_aload_n hx hb dX11_quarrel_14 rfl (lv_at0 hl) ?_
    refine gf_X11_15 hC rfl hK hP 0 rfl rfl dX11_quarrel_15 ?_
    refine gf_X11_144 hC rfl hK hP 11 rfl rfl dX11_quarrel_18 ?_
    refine lv_iload_n hx hb dX11_quarrel_21 rfl (lv_at2 hl) ?_
    refine pV hC hK hl hP hD (c_T_has l G bpapers x2 12 6 bpapersc kbpapers) si_X11_124 [12] sm_12 fm_12 nd_12 rfl rfl rfl rfl rfl (Nat.le_of_ble_eq_true rfl) rm_8_1_2 ⟨by first | exact Nat.le_of_ble_eq_true rfl | exact Nat.zero_le _, by first | exact Nat.le_of_ble_eq_true rfl | exact Nat.zero_le _⟩ dX11_quarrel_22 (Kors (Keqa fun a2396 => ?_) (Keqa fun a2396 => ?_))
    · refine lv_if_eq (tgt := 37) hx hb dX11_quarrel_25 (by decide) (fun c9 => absurd c9 (by decide)) (fun _ => ?_)
      refine lv_iload_n hx hb dX11_quarrel_28 rfl (lv_at3 hl) ?_
      refine lv_iconst (v := 0) hx hb dX11_quarrel_29 (by decide) ?_
      refine lv_iconst (v := 1) hx hb dX11_quarrel_30 (by decide) ?_
      refine pS hC hK hl (c_within l G x3 0 1) si_X11_83 rfl rfl (Nat.le_of_ble_eq_true rfl) rm_8_1_3 ⟨by first | exact Nat.le_of_ble_eq_true rfl | exact Nat.zero_le _, by first | exact Nat.le_of_ble_eq_true rfl | exact Nat.zero_le _⟩ dX11_quarrel_31 (Kors (Keqa fun a2398 => ?_) (Keqa fun a2398 => ?_))
      · refine lv_if_ne (tgt := 39) hx hb dX11_quarrel_34 (by decide) (fun _ => ?_) (fun c9 => absurd c9 (by decide))
        refine lv_aload_n hx hb dX11_quarrel_39 rfl (lv_at0 hl) ?_
        refine gf_X11_15 hC rfl hK hP 0 rfl rfl dX11_quarrel_40 ?_
        refine pV hC hK hl hP hD (c_inView l G bb bpersons bpapers bstamps bversions blines bsteps bsayings bfindings bwarnings bquestions td vd vl gp bpapersc kbpapers fbpapers (hkbpapers)) si_X11_97 [11, 12, 13] sm_11_12_13 fm_11_12_13 nd_11_12_13 rfl rfl rfl rfl rfl (Nat.le_of_ble_eq_true rfl) rm_8_3_6 ⟨by first | exact Nat.le_of_ble_eq_true rfl | exact Nat.zero_le _, by first | exact Nat.le_of_ble_eq_true rfl | exact Nat.zero_le _⟩ dX11_quarrel_43 (fun r2399 hr2399 => ?_)
        refine lv_istore (lv' := [(4, .int r2399), (0, .ref h0), (1, .int x1), (2, .int x2), (3, .int x3)]) hx hb dX11_quarrel_46 hl (by decide) rfl (fun ls hl => ?_)
        refine lv_iload hx hb dX11_quarrel_48 (lv_at0 hl) ?_
        refine lv_iload_n hx hb dX11_quarrel_50 rfl (lv_at3 hl) ?_
        refine pS hC hK hl (c_hasBit l G r2399 x2) si_X11_150 rfl rfl (Nat.le_of_ble_eq_true rfl) rm_8_1_2 ⟨by first | exact Nat.le_of_ble_eq_true rfl | exact Nat.zero_le _, by first | exact Nat.le_of_ble_eq_true rfl | exact Nat.zero_le _⟩ dX11_quarrel_51 (Kors (Keqa fun a2401 => ?_) (Keqa fun a2401 => ?_))
        · refine lv_if_ne (tgt := 60) hx hb dX11_quarrel_54 (by decide) (fun _ => ?_) (fun c9 => absurd c9 (by decide))
          refine lv_aload_n hx hb dX11_quarrel_60 rfl (lv_at1 hl) ?_
          refine gf_X11_28 hC rfl hK hP 0 rfl rfl dX11_quarrel_61 ?_
          refine lv_iload hx hb dX11_quarrel_64 (lv_at0 hl) ?_
          refine vV (wr := [(h0, oX11 bb kk ikp sg do9 ru9 ta9 tp9 ro9 ho9 de9), (ta9, oX9 bb sg tf tt9 tl tbv), (bpapers, oX8 12 6 bpapersc (nI kbpapers)), (bpapersc, iA G 72 fbpapers), (bpersons, oX8 10 2 bpersonsc (nI kbpersons)), (bpersonsc, iA G 20 fbpersons), (bsayings, oX8 16 8 bsayingsc (nI kbsayings)), (bsayingsc, iA G 128 fbsayings)]) hC hK hl hP hD hS hA (c_look l G sg r2399 bb clk fi la ml mm sl sm cl clm fclm ffi fla fml fmm fsl fsm bpersons bpapers bstamps bversions blines bsteps bsayings bfindings bwarnings bquestions td vd vl gp bstampsc kbstamps fbstamps (hkbstamps)) si_X11_183 [1, 2, 3, 4, 5, 6, 7, 8, 9, 11, 18, 19] [0, 10, 12, 13, 14, 15, 16, 17] sm_1_2_3_4_5_6_7_8_9_11_18_19 fm_1_2_3_4_5_6_7_8_9_11_18_19 nd_1_2_3_4_5_6_7_8_9_11_18_19 sm_0_10_12_13_14_15_16_17 nd_0_10_12_13_14_15_16_17 dj_1_2_3_4_5_6_7_8_9_11_18_19__0_10_12_13_14_15_16_17 rfl rfl rfl rfl rfl (Nat.le_of_ble_eq_true rfl) rm_8_5_4 ⟨Nat.le_of_ble_eq_true rfl, Nat.le_of_ble_eq_true rfl⟩ dX11_quarrel_66 (Ktu8 fun cl12404 gclm2405 gfi2406 gla2407 gml2408 gmm2409 gsl2410 gsm2411 => ?_)
          intro H locs hr2402 hP hD hS
          try dsimp only at hr2402
          refine Kpdr (ws := [(h0, oX11 bb kk ikp sg do9 ru9 ta9 tp9 ro9 ho9 de9), (ta9, oX9 bb sg tf tt9 tl tbv), (bpapers, oX8 12 6 bpapersc (nI kbpapers)), (bpapersc, iA G 72 fbpapers), (bpersons, oX8 10 2 bpersonsc (nI kbpersons)), (bpersonsc, iA G 20 fbpersons), (bsayings, oX8 16 8 bsayingsc (nI kbsayings)), (bsayingsc, iA G 128 fbsayings), (sg, oX7 bb clk fi la ml mm sl sm cl12404), (clk, oX1 clm), (clm, iA G 36 gclm2405), (fi, iA G 12 gfi2406), (la, iA G 12 gla2407), (ml, iA G 12 gml2408), (mm, iA G 12 gmm2409), (sl, iA G 12 gsl2410), (sm, iA G 12 gsm2411), (bb, oX0 bpersons bpapers bstamps bversions blines bsteps bsayings bfindings bwarnings bquestions td vd vl gp), (bstamps, oX8 24 3 bstampsc (nI kbstamps)), (bstampsc, iA G 72 fbstamps)]) hP hD (fun hP hD => ?_)
          have w2412 := hr2402
          refine lv_aload_n hx hb dX11_quarrel_69 rfl (lv_at1 hl) ?_
          refine gf_X11_51 hC rfl hK hP 0 rfl rfl dX11_quarrel_70 ?_
          refine lv_iload_n hx hb dX11_quarrel_73 rfl (lv_at2 hl) ?_
          refine lv_iload_n hx hb dX11_quarrel_74 rfl (lv_at3 hl) ?_
          refine lv_iload hx hb dX11_quarrel_75 (lv_at0 hl) ?_
          refine vV (wr := [(h0, oX11 bb kk ikp sg do9 ru9 ta9 tp9 ro9 ho9 de9), (clk, oX1 clm), (clm, iA G 36 gclm2405), (fi, iA G 12 gfi2406), (bstamps, oX8 24 3 bstampsc (nI kbstamps)), (bstampsc, iA G 72 fbstamps)]) hC hK hl hP hD hS hA (c_weigh l G ta9 x1 x2 r2399 bb sg tf tt9 tl tbv clk fi la ml mm sl sm cl12404 gla2407 gml2408 gmm2409 gsl2410 gsm2411 bpersons bpapers bstamps bversions blines bsteps bsayings bfindings bwarnings bquestions td vd vl gp bpapersc kbpapers fbpapers bpersonsc kbpersons fbpersons bsayingsc kbsayings fbsayings (hkbpapers) (hkbpersons) (hkbsayings)) si_X11_259 [1, 8, 12, 13, 14, 15, 16, 17, 2, 3, 4, 5, 6, 7] [0, 9, 10, 11, 18, 19] sm_1_8_12_13_14_15_16_17_2_3_4_5_6_7 fm_1_8_12_13_14_15_16_17_2_3_4_5_6_7 nd_1_8_12_13_14_15_16_17_2_3_4_5_6_7 sm_0_9_10_11_18_19 nd_0_9_10_11_18_19 dj_1_8_12_13_14_15_16_17_2_3_4_5_6_7__0_9_10_11_18_19 rfl rfl rfl rfl rfl (Nat.le_of_ble_eq_true rfl) rm_8_6_7 ⟨Nat.le_of_ble_eq_true rfl, Nat.le_of_ble_eq_true rfl⟩ dX11_quarrel_77 (Ktu4 fun tf12415 tt12416 tl12417 tb12418 => ?_)
          intro H locs hr2413 hP hD hS
          try dsimp only at hr2413
          refine Kpdr (ws := [(h0, oX11 bb kk ikp sg do9 ru9 ta9 tp9 ro9 ho9 de9), (clk, oX1 clm), (clm, iA G 36 gclm2405), (fi, iA G 12 gfi2406), (bstamps, oX8 24 3 bstampsc (nI kbstamps)), (bstampsc, iA G 72 fbstamps), (ta9, oX9 bb sg tf12415 tt12416 tl12417 tb12418), (sg, oX7 bb clk fi la ml mm sl sm cl12404), (la, iA G 12 gla2407), (ml, iA G 12 gml2408), (mm, iA G 12 gmm2409), (sl, iA G 12 gsl2410), (sm, iA G 12 gsm2411), (bb, oX0 bpersons bpapers bstamps bversions blines bsteps bsayings bfindings bwarnings bquestions td vd vl gp), (bpapers, oX8 12 6 bpapersc (nI kbpapers)), (bpapersc, iA G 72 fbpapers), (bpersons, oX8 10 2 bpersonsc (nI kbpersons)), (bpersonsc, iA G 20 fbpersons), (bsayings, oX8 16 8 bsayingsc (nI kbsayings)), (bsayingsc, iA G 128 fbsayings)]) hP hD (fun hP hD => ?_)
          refine lv_iload_n hx hb dX11_quarrel_80 rfl (lv_at4 hl) ?_
          refine lv_if_ne (tgt := 94) hx hb dX11_quarrel_81 (by decide) (fun c_81_2419 => ?_) (fun c_81_2419 => ?_)
          · refine lv_aload_n hx hb dX11_quarrel_94 rfl (lv_at1 hl) ?_
            refine gf_X11_51 hC rfl hK hP 0 rfl rfl dX11_quarrel_95 ?_
            refine pV hC hK hl hP hD (c_believed l G ta9 bb sg tf12415 tt12416 tl12417 tb12418) si_X11_265 [6] sm_6 fm_6 nd_6 rfl rfl rfl rfl rfl (Nat.le_of_ble_eq_true rfl) rm_8_1_1 ⟨by first | exact Nat.le_of_ble_eq_true rfl | exact Nat.zero_le _, by first | exact Nat.le_of_ble_eq_true rfl | exact Nat.zero_le _⟩ dX11_quarrel_98 (fun r2420 hr2420 => ?_)
            refine lv_sipush (v := 1000) hx hb dX11_quarrel_101 (by decide) ?_
            refine lv_iadd hx hb dX11_quarrel_104 ?_
            exact toQ hQ0 (RI (v := r2420 + 1000) hC hP hD hS [0, 7, 1, 2, 3, 8, 9, 10, 11, 12, 6, 13, 14, 15, 16, 17, 18, 19, 4, 5] (cl12404, gclm2405, gfi2406, gla2407, gml2408, gmm2409, gsl2410, gsm2411, tf12415, tt12416, tl12417, tb12418) rfl rfl (by decide) (⟨trivial, w2412⟩) rfl dX11_quarrel_105)
          · refine lv_aload_n hx hb dX11_quarrel_84 rfl (lv_at1 hl) ?_
            refine gf_X11_51 hC rfl hK hP 0 rfl rfl dX11_quarrel_85 ?_
            refine pV hC hK hl hP hD (c_leastWeight l G ta9 bb sg tf12415 tt12416 tl12417 tb12418) si_X11_262 [6] sm_6 fm_6 nd_6 rfl rfl rfl rfl rfl (Nat.le_of_ble_eq_true rfl) rm_8_1_1 ⟨by first | exact Nat.le_of_ble_eq_true rfl | exact Nat.zero_le _, by first | exact Nat.le_of_ble_eq_true rfl | exact Nat.zero_le _⟩ dX11_quarrel_88 (fun r2421 hr2421 => ?_)
            refine lv_goto (tgt := 105) hx hb dX11_quarrel_91 (by decide) ?_
            exact toQ hQ0 (RI (v := r2421) hC hP hD hS [0, 7, 1, 2, 3, 8, 9, 10, 11, 12, 6, 13, 14, 15, 16, 17, 18, 19, 4, 5] (cl12404, gclm2405, gfi2406, gla2407, gml2408, gmm2409, gsl2410, gsm2411, tf12415, tt12416, tl12417, tb12418) rfl rfl (by decide) (⟨trivial, w2412⟩) rfl dX11_quarrel_105)
        · refine lv_if_ne (tgt := 60) hx hb dX11_quarrel_54 (by decide) (fun c9 => absurd (by decide) c9) (fun _ => ?_)
          refine lv_bipush (v := (-3)) hx hb dX11_quarrel_57 (by decide) ?_
          exact toQ hQ0 (RI (v := (-3)) hC hP hD hS [0, 1, 2, 3, 4, 5, 6, 7, 8, 9, 10, 11, 12, 13, 14, 15, 16, 17, 18, 19] (cl, fclm, ffi, fla, fml, fmm, fsl, fsm, tf, tt9, tl, tbv) rfl rfl (by decide) (⟨trivial, hcl⟩) rfl dX11_quarrel_59)
      · refine lv_if_ne (tgt := 39) hx hb dX11_quarrel_34 (by decide) (fun c9 => absurd (by decide) c9) (fun _ => ?_)
        refine lv_iconst (v := (-1)) hx hb dX11_quarrel_37 (by decide) ?_
        exact toQ hQ0 (RI (v := (-1)) hC hP hD hS [0, 1, 2, 3, 4, 5, 6, 7, 8, 9, 10, 11, 12, 13, 14, 15, 16, 17, 18, 19] (cl, fclm, ffi, fla, fml, fmm, fsl, fsm, tf, tt9, tl, tbv) rfl rfl (by decide) (⟨trivial, hcl⟩) rfl dX11_quarrel_38)
    · refine lv_if_eq (tgt := 37) hx hb dX11_quarrel_25 (by decide) (fun _ => ?_) (fun c9 => absurd (by decide) c9)
      refine lv_iconst (v := (-1)) hx hb dX11_quarrel_37 (by decide) ?_
      exact toQ hQ0 (RI (v := (-1)) hC hP hD hS [0, 1, 2, 3, 4, 5, 6, 7, 8, 9, 10, 11, 12, 13, 14, 15, 16, 17, 18, 19] (cl, fclm, ffi, fla, fml, fmm, fsl, fsm, tf, tt9, tl, tbv) rfl rfl (by decide) (⟨trivial, hcl⟩) rfl dX11_quarrel_38)
  · refine lv_if_eq (tgt := 37) hx hb dX11_quarrel_11 (by decide) (fun _ => ?_) (fun c9 => absurd (by decide) c9)
    refine lv_iconst (v := (-1)) hx hb dX11_quarrel_37 (by decide) ?_
    exact toQ hQ0 (RI (v := (-1)) hC hP hD hS [0, 1, 2, 3, 4, 5, 6, 7, 8, 9, 10, 11, 12, 13, 14, 15, 16, 17, 18, 19] (cl, fclm, ffi, fla, fml, fmm, fsl, fsm, tf, tt9, tl, tbv) rfl rfl (by decide) (⟨trivial, hcl⟩) rfl dX11_quarrel_38)
def K_p_impossible (l : Launch) (G : GG) (h0 : Nat) (bb : Nat) (kk : Nat) (ikp : Int32) (sg : Nat) (do9 : Nat) (ru9 : Nat) (ta9 : Nat) (tp9 : Nat) (ro9 : Nat) (ho9 : Nat) (de9 : Nat) (clk : Nat) (fi : Nat) (la : Nat) (ml : Nat) (mm : Nat) (sl : Nat) (sm : Nat) (cl : Int32) (clm : Nat) (fclm : Nat → Int32) (ffi : Nat → Int32) (fla : Nat → Int32) (fml : Nat → Int32) (fmm : Nat → Int32) (fsl : Nat → Int32) (fsm : Nat → Int32) (tf : Int32) (tt9 : Int32) (tl : Int32) (tbv : Int32) (bpersons : Nat) (bpapers : Nat) (bstamps : Nat) (bversions : Nat) (blines : Nat) (bsteps : Nat) (bsayings : Nat) (bfindings : Nat) (bwarnings : Nat) (bquestions : Nat) (td : Int32) (vd : Int32) (vl : Int32) (gp : Int32) (bpapersc : Nat) (kbpapers : Nat) (fbpapers : Nat → Int32) (bpersonsc : Nat) (kbpersons : Nat) (fbpersons : Nat → Int32) (bsayingsc : Nat) (kbsayings : Nat) (fbsayings : Nat → Int32) (bstampsc : Nat) (kbstamps : Nat) (fbstamps : Nat → Int32) : Prop := MI l G yX11_impossible cX11_impossible 2 (some .int) 8 0 0 [.ref h0] [(h0, oX11 bb kk ikp sg do9 ru9 ta9 tp9 ro9 ho9 de9), (sg, oX7 bb clk fi la ml mm sl sm cl), (clk, oX1 clm), (clm, iA G 36 fclm), (fi, iA G 12 ffi), (la, iA G 12 fla), (ml, iA G 12 fml), (mm, iA G 12 fmm), (sl, iA G 12 fsl), (sm, iA G 12 fsm), (ta9, oX9 bb sg tf tt9 tl tbv), (bb, oX0 bpersons bpapers bstamps bversions blines bsteps bsayings bfindings bwarnings bquestions td vd vl gp), (bpapers, oX8 12 6 bpapersc (nI kbpapers)), (bpapersc, iA G 72 fbpapers), (bpersons, oX8 10 2 bpersonsc (nI kbpersons)), (bpersonsc, iA G 20 fbpersons), (bsayings, oX8 16 8 bsayingsc (nI kbsayings)), (bsayingsc, iA G 128 fbsayings), (bstamps, oX8 24 3 bstampsc (nI kbstamps)), (bstampsc, iA G 72 fbstamps)] (fun (r : Int32) (u : Int32 × (Nat → Int32) × (Nat → Int32) × (Nat → Int32) × (Nat → Int32) × (Nat → Int32) × (Nat → Int32) × (Nat → Int32) × Int32 × Int32) => (True) ∧ (u.1 = 0 ∨ u.1 = 1)) (fun u : Int32 × (Nat → Int32) × (Nat → Int32) × (Nat → Int32) × (Nat → Int32) × (Nat → Int32) × (Nat → Int32) × (Nat → Int32) × Int32 × Int32 => [(h0, oX11 bb kk ikp sg do9 ru9 ta9 tp9 ro9 ho9 de9), (sg, oX7 bb clk fi la ml mm sl sm u.1), (clk, oX1 clm), (clm, iA G 36 u.2.1), (fi, iA G 12 u.2.2.1), (la, iA G 12 u.2.2.2.1), (ml, iA G 12 u.2.2.2.2.1), (mm, iA G 12 u.2.2.2.2.2.1), (sl, iA G 12 u.2.2.2.2.2.2.1), (sm, iA G 12 u.2.2.2.2.2.2.2.1), (ta9, oX9 bb sg u.2.2.2.2.2.2.2.2.1 u.2.2.2.2.2.2.2.2.2 tl tbv), (bb, oX0 bpersons bpapers bstamps bversions blines bsteps bsayings bfindings bwarnings bquestions td vd vl gp), (bpapers, oX8 12 6 bpapersc (nI kbpapers)), (bpapersc, iA G 72 fbpapers), (bpersons, oX8 10 2 bpersonsc (nI kbpersons)), (bpersonsc, iA G 20 fbpersons), (bsayings, oX8 16 8 bsayingsc (nI kbsayings)), (bsayingsc, iA G 128 fbsayings), (bstamps, oX8 24 3 bstampsc (nI kbstamps)), (bstampsc, iA G 72 fbstamps)])
set_option maxHeartbeats 4000000 in
set_option maxRecDepth 100000 in
theorem p_impossible (l : Launch) (G : GG) (h0 : Nat) (bb : Nat) (kk : Nat) (ikp : Int32) (sg : Nat) (do9 : Nat) (ru9 : Nat) (ta9 : Nat) (tp9 : Nat) (ro9 : Nat) (ho9 : Nat) (de9 : Nat) (clk : Nat) (fi : Nat) (la : Nat) (ml : Nat) (mm : Nat) (sl : Nat) (sm : Nat) (cl : Int32) (clm : Nat) (fclm : Nat → Int32) (ffi : Nat → Int32) (fla : Nat → Int32) (fml : Nat → Int32) (fmm : Nat → Int32) (fsl : Nat → Int32) (fsm : Nat → Int32) (tf : Int32) (tt9 : Int32) (tl : Int32) (tbv : Int32) (bpersons : Nat) (bpapers : Nat) (bstamps : Nat) (bversions : Nat) (blines : Nat) (bsteps : Nat) (bsayings : Nat) (bfindings : Nat) (bwarnings : Nat) (bquestions : Nat) (td : Int32) (vd : Int32) (vl : Int32) (gp : Int32) (bpapersc : Nat) (kbpapers : Nat) (fbpapers : Nat → Int32) (bpersonsc : Nat) (kbpersons : Nat) (fbpersons : Nat → Int32) (bsayingsc : Nat) (kbsayings : Nat) (fbsayings : Nat → Int32) (bstampsc : Nat) (kbstamps : Nat) (fbstamps : Nat → Int32) (hkbpapers : kbpapers ≤ 12) (hkbpersons : kbpersons ≤ 10) (hkbsayings : kbsayings ≤ 16) (hkbstamps : kbstamps ≤ 24) (hcl : cl = 0 ∨ cl = 1) : K_p_impossible l G h0 bb kk ikp sg do9 ru9 ta9 tp9 ro9 ho9 de9 clk fi la ml mm sl sm cl clm fclm ffi fla fml fmm fsl fsm tf tt9 tl tbv bpersons bpapers bstamps bversions blines bsteps bsayings bfindings bwarnings bquestions td vd vl gp bpapersc kbpapers fbpapers bpersonsc kbpersons fbpersons bsayingsc kbsayings fbsayings bstampsc kbstamps fbstamps := by
  refine MI.start (by decide +kernel) (Nat.le_of_ble_eq_true rfl) ?_
  intro p e s m below meth c A ls hC hK hP hD hS hA hl
  refine absQ (fun Q0 hQ0 => ?_)
  have hl : lv_has ls 2 [(0, .ref h0)] := hl
  refine Kan8 hC (fun hx hb hr hml hB hown hlocks hnm => ?_)
  refine lv_aload_n hx hb dX11_impossible_0 rfl (lv_at0 hl) ?_
  refine gf_X11_15 hC rfl hK hP 0 rfl rfl dX11_impossible_1 ?_
  refine pV hC hK hl hP hD (c_inView l G bb bpersons bpapers bstamps bversions blines bsteps bsayings bfindings bwarnings bquestions td vd vl gp bpapersc kbpapers fbpapers (hkbpapers)) si_X11_97 [11, 12, 13] sm_11_12_13 fm_11_12_13 nd_11_12_13 rfl rfl rfl rfl rfl (Nat.le_of_ble_eq_true rfl) rm_8_3_6 ⟨by first | exact Nat.le_of_ble_eq_true rfl | exact Nat.zero_le _, by first | exact Nat.le_of_ble_eq_true rfl | exact Nat.zero_le _⟩ dX11_impossible_4 (fun r2422 hr2422 => ?_)
  refine lv_istore_n (lv' := [(1, .int r2422), (0, .ref h0)]) hx hb dX11_impossible_7 rfl hl (by decide) rfl (fun ls hl => ?_)
  refine lv_aload_n hx hb dX11_impossible_8 rfl (lv_at1 hl) ?_
  refine gf_X11_28 hC rfl hK hP 0 rfl rfl dX11_impossible_9 ?_
  refine lv_iload_n hx hb dX11_impossible_12 rfl (lv_at0 hl) ?_
  refine vV (wr := [(h0, oX11 bb kk ikp sg do9 ru9 ta9 tp9 ro9 ho9 de9), (ta9, oX9 bb sg tf tt9 tl tbv), (bpapers, oX8 12 6 bpapersc (nI kbpapers)), (bpapersc, iA G 72 fbpapers), (bpersons, oX8 10 2 bpersonsc (nI kbpersons)), (bpersonsc, iA G 20 fbpersons), (bsayings, oX8 16 8 bsayingsc (nI kbsayings)), (bsayingsc, iA G 128 fbsayings)]) hC hK hl hP hD hS hA (c_look l G sg r2422 bb clk fi la ml mm sl sm cl clm fclm ffi fla fml fmm fsl fsm bpersons bpapers bstamps bversions blines bsteps bsayings bfindings bwarnings bquestions td vd vl gp bstampsc kbstamps fbstamps (hkbstamps)) si_X11_183 [1, 2, 3, 4, 5, 6, 7, 8, 9, 11, 18, 19] [0, 10, 12, 13, 14, 15, 16, 17] sm_1_2_3_4_5_6_7_8_9_11_18_19 fm_1_2_3_4_5_6_7_8_9_11_18_19 nd_1_2_3_4_5_6_7_8_9_11_18_19 sm_0_10_12_13_14_15_16_17 nd_0_10_12_13_14_15_16_17 dj_1_2_3_4_5_6_7_8_9_11_18_19__0_10_12_13_14_15_16_17 rfl rfl rfl rfl rfl (Nat.le_of_ble_eq_true rfl) rm_8_5_4 ⟨Nat.le_of_ble_eq_true rfl, Nat.le_of_ble_eq_true rfl⟩ dX11_impossible_13 (Ktu8 fun cl12425 gclm2426 gfi2427 gla2428 gml2429 gmm2430 gsl2431 gsm2432 => ?_)
  intro H locs hr2423 hP hD hS
  try dsimp only at hr2423
  refine Kpdr (ws := [(h0, oX11 bb kk ikp sg do9 ru9 ta9 tp9 ro9 ho9 de9), (ta9, oX9 bb sg tf tt9 tl tbv), (bpapers, oX8 12 6 bpapersc (nI kbpapers)), (bpapersc, iA G 72 fbpapers), (bpersons, oX8 10 2 bpersonsc (nI kbpersons)), (bpersonsc, iA G 20 fbpersons), (bsayings, oX8 16 8 bsayingsc (nI kbsayings)), (bsayingsc, iA G 128 fbsayings), (sg, oX7 bb clk fi la ml mm sl sm cl12425), (clk, oX1 clm), (clm, iA G 36 gclm2426), (fi, iA G 12 gfi2427), (la, iA G 12 gla2428), (ml, iA G 12 gml2429), (mm, iA G 12 gmm2430), (sl, iA G 12 gsl2431), (sm, iA G 12 gsm2432), (bb, oX0 bpersons bpapers bstamps bversions blines bsteps bsayings bfindings bwarnings bquestions td vd vl gp), (bstamps, oX8 24 3 bstampsc (nI kbstamps)), (bstampsc, iA G 72 fbstamps)]) hP hD (fun hP hD => ?_)
  have w2433 := hr2423
  refine lv_aload_n hx hb dX11_impossible_16 rfl (lv_at1 hl) ?_
  refine gf_X11_51 hC rfl hK hP 0 rfl rfl dX11_impossible_17 ?_
  refine lv_iload_n hx hb dX11_impossible_20 rfl (lv_at0 hl) ?_
  refine iV (wr := [(h0, oX11 bb kk ikp sg do9 ru9 ta9 tp9 ro9 ho9 de9), (clk, oX1 clm), (clm, iA G 36 gclm2426), (fi, iA G 12 gfi2427), (bstamps, oX8 24 3 bstampsc (nI kbstamps)), (bstampsc, iA G 72 fbstamps)]) hC hK hl hP hD hS hA (c_impOnes l G ta9 r2422 bb sg tf tt9 tl tbv clk fi la ml mm sl sm cl12425 gla2428 gml2429 gmm2430 gsl2431 gsm2432 bpersons bpapers bstamps bversions blines bsteps bsayings bfindings bwarnings bquestions td vd vl gp bpapersc kbpapers fbpapers bpersonsc kbpersons fbpersons bsayingsc kbsayings fbsayings (hkbpapers) (hkbpersons) (hkbsayings)) si_X11_268 [1, 8, 12, 13, 14, 15, 16, 17, 2, 3, 4, 5, 6, 7] [0, 9, 10, 11, 18, 19] sm_1_8_12_13_14_15_16_17_2_3_4_5_6_7 fm_1_8_12_13_14_15_16_17_2_3_4_5_6_7 nd_1_8_12_13_14_15_16_17_2_3_4_5_6_7 sm_0_9_10_11_18_19 nd_0_9_10_11_18_19 dj_1_8_12_13_14_15_16_17_2_3_4_5_6_7__0_9_10_11_18_19 rfl rfl rfl rfl rfl (Nat.le_of_ble_eq_true rfl) rm_8_6_6 ⟨Nat.le_of_ble_eq_true rfl, Nat.le_of_ble_eq_true rfl⟩ dX11_impossible_21 (fun r2434 => Ktu2 fun tf12436 tt12437 => ?_)
  intro H locs hr2434 hP hD hS
  try dsimp only at hr2434
  refine Kpdr (ws := [(h0, oX11 bb kk ikp sg do9 ru9 ta9 tp9 ro9 ho9 de9), (clk, oX1 clm), (clm, iA G 36 gclm2426), (fi, iA G 12 gfi2427), (bstamps, oX8 24 3 bstampsc (nI kbstamps)), (bstampsc, iA G 72 fbstamps), (ta9, oX9 bb sg tf12436 tt12437 tl tbv), (sg, oX7 bb clk fi la ml mm sl sm cl12425), (la, iA G 12 gla2428), (ml, iA G 12 gml2429), (mm, iA G 12 gmm2430), (sl, iA G 12 gsl2431), (sm, iA G 12 gsm2432), (bb, oX0 bpersons bpapers bstamps bversions blines bsteps bsayings bfindings bwarnings bquestions td vd vl gp), (bpapers, oX8 12 6 bpapersc (nI kbpapers)), (bpapersc, iA G 72 fbpapers), (bpersons, oX8 10 2 bpersonsc (nI kbpersons)), (bpersonsc, iA G 20 fbpersons), (bsayings, oX8 16 8 bsayingsc (nI kbsayings)), (bsayingsc, iA G 128 fbsayings)]) hP hD (fun hP hD => ?_)
  exact toQ hQ0 (RI (v := r2434) hC hP hD hS [0, 7, 1, 2, 3, 8, 9, 10, 11, 12, 6, 13, 14, 15, 16, 17, 18, 19, 4, 5] (cl12425, gclm2426, gfi2427, gla2428, gml2429, gmm2430, gsl2431, gsm2432, tf12436, tt12437) rfl rfl (by decide) (⟨trivial, w2433⟩) rfl dX11_impossible_24)
