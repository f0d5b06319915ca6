section WR
variable {p : Program} {l : Launch} {e : Env} {R : Room} {s : State} {m : MethodId} {args : Array Value} {below : List Frame} {meth : Method} {c : Code} {H : Heap} {locs : List Loc} {cells slots : Nat} {Q : State → Prop}
variable {pc : Nat} {ls : Array Slot} {rest : List Value} {G : GG} {ws : va_W} {A : Nat → Prop} {y0 : MethodName} {b0 : ByteArray} {mL0 : Nat} {rt0 : Option FieldType} {a : Nat} {H0 : Heap}
theorem gX11_clash_0 : (decode cX11_clash 0 = .ok (.iload_n 1, 1)) ∧ (decode cX11_clash 1 = .ok (.iconst 0, 1)) ∧ (decode cX11_clash 2 = .ok (.iconst 1, 1)) ∧ (decode cX11_clash 3 = .ok (.invokestatic 83, 3)) ∧ (decode cX11_clash 6 = .ok (.ifCond .ne 5, 3)) ∧ (decode cX11_clash 9 = .ok (.iconst (-1), 1)) ∧ (decode cX11_clash 10 = .ok (.ireturn, 1)) ∧ (decode cX11_clash 11 = .ok (.iload_n 1, 1)) ∧ (decode cX11_clash 12 = .ok (.iconst 1, 1)) ∧ (decode cX11_clash 13 = .ok (.if_icmp .ne 18, 3)) := by decide +kernel
theorem gX11_clash_1 : (decode cX11_clash 16 = .ok (.aload_n 0, 1)) ∧ (decode cX11_clash 17 = .ok (.getfield 35, 3)) ∧ (decode cX11_clash 20 = .ok (.aload_n 0, 1)) ∧ (decode cX11_clash 21 = .ok (.getfield 15, 3)) ∧ (decode cX11_clash 24 = .ok (.invokevirtual 97, 3)) ∧ (decode cX11_clash 27 = .ok (.invokevirtual 180, 3)) ∧ (decode cX11_clash 30 = .ok (.ireturn, 1)) ∧ (decode cX11_clash 31 = .ok (.aload_n 0, 1)) ∧ (decode cX11_clash 32 = .ok (.getfield 28, 3)) ∧ (decode cX11_clash 35 = .ok (.aload_n 0, 1)) := by decide +kernel
theorem gX11_clash_2 : (decode cX11_clash 36 = .ok (.getfield 15, 3)) ∧ (decode cX11_clash 39 = .ok (.invokevirtual 97, 3)) ∧ (decode cX11_clash 42 = .ok (.invokevirtual 183, 3)) ∧ (decode cX11_clash 45 = .ok (.aload_n 0, 1)) ∧ (decode cX11_clash 46 = .ok (.getfield 28, 3)) ∧ (decode cX11_clash 49 = .ok (.invokevirtual 187, 3)) ∧ (decode cX11_clash 52 = .ok (.ifCond .eq 7, 3)) ∧ (decode cX11_clash 55 = .ok (.iconst 1, 1)) ∧ (decode cX11_clash 56 = .ok (.goto 4, 3)) ∧ (decode cX11_clash 59 = .ok (.iconst 0, 1)) := by decide +kernel
theorem gX11_clash_3 : (decode cX11_clash 60 = .ok (.ireturn, 1)) := by decide +kernel
theorem m_281 : Cond.fieldLink RX11 35 "InquiryBench" "doubt" "LInquiryBench$Doubt;" ∈ BW := iB_BW15 _ (List.mem_of_getElem? (i := 7) rfl)
theorem gf_X11_35 (hC : CX p s m meth c y0 b0 mL0 rt0 args) (hy0 : y0.cls = RX11) (hK : KK G s) (hP : va_P G.1 vwCl ws H) (q0 : Nat) {fs : List Value} {v : Value} (he : ws[q0]? = some (a, .inr (11, fs))) (hv : fs[4]? = some v) (hdg : decode b0 pc = .ok (.getfield 35, 3)) (kk : W p l e R s m args below meth c H locs cells slots Q (F0 m (pc + 3) ls (v :: rest))) : W p l e R s m args below meth c H locs cells slots Q (F0 m pc ls (.ref a :: rest)) := by
  obtain ⟨hx, hb, hr, hml, hB, hown, hlocks, hnm⟩ := hC
  rw [hy0] at hown
  exact va_get (ci := 11) (C := RX11) (T := TX11) (N := 11) hx hb hB in_X11 hown hK.1 hP q0 he rfl 4 (by decide) (hB _ m_281) (fun _ h => h) hv hdg kk
theorem m_436 : Cond.code yX3_fewest cX3_fewest 3 (some .int) ∈ BW := iB_BW24 _ (List.mem_of_getElem? (i := 0) rfl)
theorem m_433 : Cond.methodLink RX11 180 yX3_fewest ∈ BW := iB_BW23 _ (List.mem_of_getElem? (i := 17) rfl)
theorem m_434 : Cond.instanceMethod yX3_fewest ∈ BW := iB_BW23 _ (List.mem_of_getElem? (i := 18) rfl)
theorem m_435 : Cond.selects RX3 yX3_fewest yX3_fewest ∈ BW := iB_BW23 _ (List.mem_of_getElem? (i := 19) rfl)
theorem si_X11_180 : SV RX11 RX3 180 yX3_fewest cX3_fewest 3 (some .int) 1 := ⟨⟨m_433, m_434, m_435, m_108, m_436⟩, rfl, nK_RX3.1, nK_RX3.2, pd_7⟩
theorem gX11_knownFrom_0 : (decode cX11_knownFrom 0 = .ok (.aload_n 0, 1)) ∧ (decode cX11_knownFrom 1 = .ok (.getfield 28, 3)) ∧ (decode cX11_knownFrom 4 = .ok (.iload 4, 2)) ∧ (decode cX11_knownFrom 6 = .ok (.invokevirtual 183, 3)) ∧ (decode cX11_knownFrom 9 = .ok (.iload_n 3, 1)) ∧ (decode cX11_knownFrom 10 = .ok (.iconst 2, 1)) ∧ (decode cX11_knownFrom 11 = .ok (.if_icmp .eq 22, 3)) ∧ (decode cX11_knownFrom 14 = .ok (.aload_n 0, 1)) ∧ (decode cX11_knownFrom 15 = .ok (.getfield 28, 3)) ∧ (decode cX11_knownFrom 18 = .ok (.iload_n 1, 1)) := by decide +kernel
theorem gX11_knownFrom_1 : (decode cX11_knownFrom 19 = .ok (.iload_n 2, 1)) ∧ (decode cX11_knownFrom 20 = .ok (.iload_n 3, 1)) ∧ (decode cX11_knownFrom 21 = .ok (.ifCond .ne 7, 3)) ∧ (decode cX11_knownFrom 24 = .ok (.iconst 1, 1)) ∧ (decode cX11_knownFrom 25 = .ok (.goto 4, 3)) ∧ (decode cX11_knownFrom 28 = .ok (.iconst 0, 1)) ∧ (decode cX11_knownFrom 29 = .ok (.invokevirtual 250, 3)) ∧ (decode cX11_knownFrom 32 = .ok (.ireturn, 1)) ∧ (decode cX11_knownFrom 33 = .ok (.aload_n 0, 1)) ∧ (decode cX11_knownFrom 34 = .ok (.getfield 44, 3)) := by decide +kernel
theorem m_282 : Cond.fieldLink RX11 44 "InquiryBench" "rules" "LInquiryBench$Rules;" ∈ BW := iB_BW15 _ (List.mem_of_getElem? (i := 8) rfl)
theorem gf_X11_44 (hC : CX p s m meth c y0 b0 mL0 rt0 args) (hy0 : y0.cls = RX11) (hK : KK G s) (hP : va_P G.1 vwCl ws H) (q0 : Nat) {fs : List Value} {v : Value} (he : ws[q0]? = some (a, .inr (11, fs))) (hv : fs[5]? = some v) (hdg : decode b0 pc = .ok (.getfield 44, 3)) (kk : W p l e R s m args below meth c H locs cells slots Q (F0 m (pc + 3) ls (v :: rest))) : W p l e R s m args below meth c H locs cells slots Q (F0 m pc ls (.ref a :: rest)) := by
  obtain ⟨hx, hb, hr, hml, hB, hown, hlocks, hnm⟩ := hC
  rw [hy0] at hown
  exact va_get (ci := 11) (C := RX11) (T := TX11) (N := 11) hx hb hB in_X11 hown hK.1 hP q0 he rfl 5 (by decide) (hB _ m_282) (fun _ h => h) hv hdg kk
theorem gX11_knownFrom_2 : (decode cX11_knownFrom 37 = .ok (.iload_n 1, 1)) ∧ (decode cX11_knownFrom 38 = .ok (.iload 4, 2)) ∧ (decode cX11_knownFrom 40 = .ok (.invokevirtual 243, 3)) ∧ (decode cX11_knownFrom 43 = .ok (.aload_n 0, 1)) ∧ (decode cX11_knownFrom 44 = .ok (.getfield 44, 3)) ∧ (decode cX11_knownFrom 47 = .ok (.iload_n 2, 1)) ∧ (decode cX11_knownFrom 48 = .ok (.invokevirtual 247, 3)) ∧ (decode cX11_knownFrom 51 = .ok (.ireturn, 1)) := by decide +kernel
theorem m_565 : Cond.code yX6_settle cX6_settle 5 none ∈ BW := iB_BW30 _ (List.mem_of_getElem? (i := 9) rfl)
theorem m_562 : Cond.methodLink RX11 243 yX6_settle ∈ BW := iB_BW30 _ (List.mem_of_getElem? (i := 6) rfl)
theorem m_563 : Cond.instanceMethod yX6_settle ∈ BW := iB_BW30 _ (List.mem_of_getElem? (i := 7) rfl)
theorem m_564 : Cond.selects RX6 yX6_settle yX6_settle ∈ BW := iB_BW30 _ (List.mem_of_getElem? (i := 8) rfl)
theorem si_X11_243 : SV RX11 RX6 243 yX6_settle cX6_settle 5 none 2 := ⟨⟨m_562, m_563, m_564, m_109, m_565⟩, rfl, nK_RX6.1, nK_RX6.2, pd_14⟩
theorem m_598 : Cond.methodLink RX11 247 yX6_shouldHour ∈ BW := iB_BW32 _ (List.mem_of_getElem? (i := 18) rfl)
theorem si_X11_247 : SV RX11 RX6 247 yX6_shouldHour cX6_shouldHour 2 (some .int) 1 := ⟨⟨m_598, m_594, m_595, m_109, m_596⟩, rfl, nK_RX6.1, nK_RX6.2, pd_7⟩
theorem m_554 : Cond.methodLink RX11 250 yX7_toldHour ∈ BW := iB_BW29 _ (List.mem_of_getElem? (i := 18) rfl)
theorem si_X11_250 : SV RX11 RX7 250 yX7_toldHour cX7_toldHour 6 (some .int) 3 := ⟨⟨m_554, m_555, m_556, m_106, m_557⟩, rfl, nK_RX7.1, nK_RX7.2, pd_6⟩
theorem gX11_knew_0 : (decode cX11_knew 0 = .ok (.aload_n 0, 1)) ∧ (decode cX11_knew 1 = .ok (.getfield 15, 3)) ∧ (decode cX11_knew 4 = .ok (.getfield 107, 3)) ∧ (decode cX11_knew 7 = .ok (.iload_n 1, 1)) ∧ (decode cX11_knew 8 = .ok (.invokevirtual 124, 3)) ∧ (decode cX11_knew 11 = .ok (.ifCond .eq 17, 3)) ∧ (decode cX11_knew 14 = .ok (.iload_n 2, 1)) ∧ (decode cX11_knew 15 = .ok (.invokestatic 213, 3)) ∧ (decode cX11_knew 18 = .ok (.ifCond .eq 10, 3)) ∧ (decode cX11_knew 21 = .ok (.iload_n 3, 1)) := by decide +kernel
theorem gX11_knew_1 : (decode cX11_knew 22 = .ok (.invokestatic 216, 3)) ∧ (decode cX11_knew 25 = .ok (.ifCond .ne 5, 3)) ∧ (decode cX11_knew 28 = .ok (.iconst (-1), 1)) ∧ (decode cX11_knew 29 = .ok (.ireturn, 1)) ∧ (decode cX11_knew 30 = .ok (.aload_n 0, 1)) ∧ (decode cX11_knew 31 = .ok (.iload_n 1, 1)) ∧ (decode cX11_knew 32 = .ok (.iload_n 2, 1)) ∧ (decode cX11_knew 33 = .ok (.iload_n 3, 1)) ∧ (decode cX11_knew 34 = .ok (.aload_n 0, 1)) ∧ (decode cX11_knew 35 = .ok (.getfield 15, 3)) := by decide +kernel
theorem gX11_knew_2 : (decode cX11_knew 38 = .ok (.invokevirtual 97, 3)) ∧ (decode cX11_knew 41 = .ok (.invokevirtual 219, 3)) ∧ (decode cX11_knew 44 = .ok (.istore 4, 2)) ∧ (decode cX11_knew 46 = .ok (.iload 4, 2)) ∧ (decode cX11_knew 48 = .ok (.ldc 223, 2)) ∧ (decode cX11_knew 50 = .ok (.if_icmp .ne 8, 3)) ∧ (decode cX11_knew 53 = .ok (.bipush (-3), 2)) ∧ (decode cX11_knew 55 = .ok (.goto 9, 3)) ∧ (decode cX11_knew 58 = .ok (.iload 4, 2)) ∧ (decode cX11_knew 60 = .ok (.sipush 1000, 3)) := by decide +kernel
theorem m_553 : Cond.code yX11_knownFrom cX11_knownFrom 5 (some .int) ∈ BW := iB_BW29 _ (List.mem_of_getElem? (i := 17) rfl)
theorem m_551 : Cond.methodLink RX11 219 yX11_knownFrom ∈ BW := iB_BW29 _ (List.mem_of_getElem? (i := 15) rfl)
theorem m_552 : Cond.instanceMethod yX11_knownFrom ∈ BW := iB_BW29 _ (List.mem_of_getElem? (i := 16) rfl)
theorem m_8 : Cond.selects RX11 yX11_knownFrom yX11_knownFrom ∈ BW := iB_BW0 _ (List.mem_of_getElem? (i := 8) rfl)
theorem si_X11_219 : SV RX11 RX11 219 yX11_knownFrom cX11_knownFrom 5 (some .int) 4 := ⟨⟨m_551, m_552, m_8, m_102, m_553⟩, rfl, nK_RX11.1, nK_RX11.2, pd_17⟩
theorem m_599 : Cond.constant RX11 223 (1000000) ∈ BW := iB_BW32 _ (List.mem_of_getElem? (i := 19) rfl)
theorem gX11_knew_3 : (decode cX11_knew 63 = .ok (.iadd, 1)) ∧ (decode cX11_knew 64 = .ok (.ireturn, 1)) := by decide +kernel
theorem gX11_why_0 : (decode cX11_why 0 = .ok (.aload_n 0, 1)) ∧ (decode cX11_why 1 = .ok (.getfield 15, 3)) ∧ (decode cX11_why 4 = .ok (.getfield 107, 3)) ∧ (decode cX11_why 7 = .ok (.iload_n 1, 1)) ∧ (decode cX11_why 8 = .ok (.invokevirtual 124, 3)) ∧ (decode cX11_why 11 = .ok (.ifCond .eq 10, 3)) ∧ (decode cX11_why 14 = .ok (.iload_n 2, 1)) ∧ (decode cX11_why 15 = .ok (.invokestatic 213, 3)) ∧ (decode cX11_why 18 = .ok (.ifCond .ne 5, 3)) ∧ (decode cX11_why 21 = .ok (.iconst (-1), 1)) := by decide +kernel
theorem gX11_why_1 : (decode cX11_why 22 = .ok (.ireturn, 1)) ∧ (decode cX11_why 23 = .ok (.aload_n 0, 1)) ∧ (decode cX11_why 24 = .ok (.getfield 15, 3)) ∧ (decode cX11_why 27 = .ok (.invokevirtual 97, 3)) ∧ (decode cX11_why 30 = .ok (.istore_n 3, 1)) ∧ (decode cX11_why 31 = .ok (.aload_n 0, 1)) ∧ (decode cX11_why 32 = .ok (.getfield 28, 3)) ∧ (decode cX11_why 35 = .ok (.iload_n 3, 1)) ∧ (decode cX11_why 36 = .ok (.invokevirtual 183, 3)) ∧ (decode cX11_why 39 = .ok (.aload_n 0, 1)) := by decide +kernel
theorem gX11_why_2 : (decode cX11_why 40 = .ok (.getfield 44, 3)) ∧ (decode cX11_why 43 = .ok (.iload_n 1, 1)) ∧ (decode cX11_why 44 = .ok (.iload_n 3, 1)) ∧ (decode cX11_why 45 = .ok (.invokevirtual 243, 3)) ∧ (decode cX11_why 48 = .ok (.aload_n 0, 1)) ∧ (decode cX11_why 49 = .ok (.getfield 44, 3)) ∧ (decode cX11_why 52 = .ok (.iload_n 2, 1)) ∧ (decode cX11_why 53 = .ok (.invokevirtual 247, 3)) ∧ (decode cX11_why 56 = .ok (.istore 4, 2)) ∧ (decode cX11_why 58 = .ok (.iload 4, 2)) := by decide +kernel
theorem gX11_why_3 : (decode cX11_why 60 = .ok (.ldc 223, 2)) ∧ (decode cX11_why 62 = .ok (.if_icmp .eq 18, 3)) ∧ (decode cX11_why 65 = .ok (.iload 4, 2)) ∧ (decode cX11_why 67 = .ok (.aload_n 0, 1)) ∧ (decode cX11_why 68 = .ok (.getfield 28, 3)) ∧ (decode cX11_why 71 = .ok (.iload_n 1, 1)) ∧ (decode cX11_why 72 = .ok (.iload_n 2, 1)) ∧ (decode cX11_why 73 = .ok (.iconst 1, 1)) ∧ (decode cX11_why 74 = .ok (.invokevirtual 250, 3)) ∧ (decode cX11_why 77 = .ok (.if_icmp .ne 6, 3)) := by decide +kernel
theorem gX11_why_4 : (decode cX11_why 80 = .ok (.bipush (-3), 2)) ∧ (decode cX11_why 82 = .ok (.ireturn, 1)) ∧ (decode cX11_why 83 = .ok (.aload_n 0, 1)) ∧ (decode cX11_why 84 = .ok (.getfield 44, 3)) ∧ (decode cX11_why 87 = .ok (.iload_n 2, 1)) ∧ (decode cX11_why 88 = .ok (.invokevirtual 253, 3)) ∧ (decode cX11_why 91 = .ok (.ireturn, 1)) := by decide +kernel
theorem m_750 : Cond.code yX6_firstLineFor cX6_firstLineFor 3 (some .int) ∈ BW := iB_BW40 _ (List.mem_of_getElem? (i := 10) rfl)
theorem m_747 : Cond.methodLink RX11 253 yX6_firstLineFor ∈ BW := iB_BW40 _ (List.mem_of_getElem? (i := 7) rfl)
theorem m_748 : Cond.instanceMethod yX6_firstLineFor ∈ BW := iB_BW40 _ (List.mem_of_getElem? (i := 8) rfl)
theorem m_749 : Cond.selects RX6 yX6_firstLineFor yX6_firstLineFor ∈ BW := iB_BW40 _ (List.mem_of_getElem? (i := 9) rfl)
theorem si_X11_253 : SV RX11 RX6 253 yX6_firstLineFor cX6_firstLineFor 3 (some .int) 1 := ⟨⟨m_747, m_748, m_749, m_109, m_750⟩, rfl, nK_RX6.1, nK_RX6.2, pd_7⟩
theorem gX11_stands_0 : (decode cX11_stands 0 = .ok (.aload_n 0, 1)) ∧ (decode cX11_stands 1 = .ok (.getfield 15, 3)) ∧ (decode cX11_stands 4 = .ok (.getfield 271, 3)) ∧ (decode cX11_stands 7 = .ok (.iload_n 1, 1)) ∧ (decode cX11_stands 8 = .ok (.iconst 0, 1)) ∧ (decode cX11_stands 9 = .ok (.invokevirtual 128, 3)) ∧ (decode cX11_stands 12 = .ok (.istore_n 3, 1)) ∧ (decode cX11_stands 13 = .ok (.aload_n 0, 1)) ∧ (decode cX11_stands 14 = .ok (.getfield 15, 3)) ∧ (decode cX11_stands 17 = .ok (.getfield 271, 3)) := by decide +kernel
theorem gX11_stands_1 : (decode cX11_stands 20 = .ok (.iload_n 1, 1)) ∧ (decode cX11_stands 21 = .ok (.iconst 1, 1)) ∧ (decode cX11_stands 22 = .ok (.invokevirtual 128, 3)) ∧ (decode cX11_stands 25 = .ok (.istore 4, 2)) ∧ (decode cX11_stands 27 = .ok (.aload_n 0, 1)) ∧ (decode cX11_stands 28 = .ok (.getfield 15, 3)) ∧ (decode cX11_stands 31 = .ok (.getfield 271, 3)) ∧ (decode cX11_stands 34 = .ok (.iload_n 1, 1)) ∧ (decode cX11_stands 35 = .ok (.iconst 3, 1)) ∧ (decode cX11_stands 36 = .ok (.invokevirtual 128, 3)) := by decide +kernel
theorem gX11_stands_2 : (decode cX11_stands 39 = .ok (.istore 5, 2)) ∧ (decode cX11_stands 41 = .ok (.aload_n 0, 1)) ∧ (decode cX11_stands 42 = .ok (.getfield 15, 3)) ∧ (decode cX11_stands 45 = .ok (.getfield 271, 3)) ∧ (decode cX11_stands 48 = .ok (.iload_n 1, 1)) ∧ (decode cX11_stands 49 = .ok (.iconst 2, 1)) ∧ (decode cX11_stands 50 = .ok (.invokevirtual 128, 3)) ∧ (decode cX11_stands 53 = .ok (.aload_n 0, 1)) ∧ (decode cX11_stands 54 = .ok (.iload_n 3, 1)) ∧ (decode cX11_stands 55 = .ok (.iload 4, 2)) := by decide +kernel
theorem gX11_stands_3 : (decode cX11_stands 57 = .ok (.iload 5, 2)) ∧ (decode cX11_stands 59 = .ok (.iload_n 2, 1)) ∧ (decode cX11_stands 60 = .ok (.invokevirtual 219, 3)) ∧ (decode cX11_stands 63 = .ok (.if_icmp .lt 7, 3)) ∧ (decode cX11_stands 66 = .ok (.iconst 1, 1)) ∧ (decode cX11_stands 67 = .ok (.goto 4, 3)) ∧ (decode cX11_stands 70 = .ok (.iconst 0, 1)) ∧ (decode cX11_stands 71 = .ok (.ireturn, 1)) := by decide +kernel
theorem gX11_leansOn_0 : (decode cX11_leansOn 0 = .ok (.aload_n 0, 1)) ∧ (decode cX11_leansOn 1 = .ok (.iload_n 1, 1)) ∧ (decode cX11_leansOn 2 = .ok (.iload_n 2, 1)) ∧ (decode cX11_leansOn 3 = .ok (.invokevirtual 274, 3)) ∧ (decode cX11_leansOn 6 = .ok (.ifCond .ne 5, 3)) ∧ (decode cX11_leansOn 9 = .ok (.iconst 0, 1)) ∧ (decode cX11_leansOn 10 = .ok (.ireturn, 1)) ∧ (decode cX11_leansOn 11 = .ok (.iconst 0, 1)) ∧ (decode cX11_leansOn 12 = .ok (.istore_n 3, 1)) ∧ (decode cX11_leansOn 13 = .ok (.iconst 0, 1)) := by decide +kernel
theorem m_803 : Cond.code yX11_stands cX11_stands 6 (some .boolean) ∈ BW := iB_BW43 _ (List.mem_of_getElem? (i := 12) rfl)
theorem m_801 : Cond.methodLink RX11 274 yX11_stands ∈ BW := iB_BW43 _ (List.mem_of_getElem? (i := 10) rfl)
theorem m_802 : Cond.instanceMethod yX11_stands ∈ BW := iB_BW43 _ (List.mem_of_getElem? (i := 11) rfl)
theorem m_35 : Cond.selects RX11 yX11_stands yX11_stands ∈ BW := iB_BW1 _ (List.mem_of_getElem? (i := 15) rfl)
theorem si_X11_274 : SV RX11 RX11 274 yX11_stands cX11_stands 6 (some .boolean) 2 := ⟨⟨m_801, m_802, m_35, m_102, m_803⟩, rfl, nK_RX11.1, nK_RX11.2, pd_3⟩
theorem gX11_leansOn_1 : (decode cX11_leansOn 14 = .ok (.istore 4, 2)) ∧ (decode cX11_leansOn 16 = .ok (.iload 4, 2)) ∧ (decode cX11_leansOn 18 = .ok (.aload_n 0, 1)) ∧ (decode cX11_leansOn 19 = .ok (.getfield 15, 3)) ∧ (decode cX11_leansOn 22 = .ok (.getfield 144, 3)) ∧ (decode cX11_leansOn 25 = .ok (.invokevirtual 174, 3)) ∧ (decode cX11_leansOn 28 = .ok (.if_icmp .ge 41, 3)) ∧ (decode cX11_leansOn 31 = .ok (.iload_n 2, 1)) ∧ (decode cX11_leansOn 32 = .ok (.iload 4, 2)) ∧ (decode cX11_leansOn 34 = .ok (.invokestatic 150, 3)) := by decide +kernel
theorem m_424 : Cond.methodLink RX11 174 yX8_count ∈ BW := iB_BW23 _ (List.mem_of_getElem? (i := 8) rfl)
theorem si_X11_174 : SV RX11 RX8 174 yX8_count cX8_count 1 (some .int) 0 := ⟨⟨m_424, m_308, m_309, m_104, m_310⟩, rfl, nK_RX8.1, nK_RX8.2, pd_1⟩
theorem gX11_leansOn_4 : (decode cX11_leansOn 69 = .ok (.iload_n 3, 1)) ∧ (decode cX11_leansOn 70 = .ok (.ireturn, 1)) := by decide +kernel
theorem gX11_leansOn_2 : (decode cX11_leansOn 37 = .ok (.ifCond .eq 26, 3)) ∧ (decode cX11_leansOn 40 = .ok (.aload_n 0, 1)) ∧ (decode cX11_leansOn 41 = .ok (.iload_n 1, 1)) ∧ (decode cX11_leansOn 42 = .ok (.iload_n 2, 1)) ∧ (decode cX11_leansOn 43 = .ok (.iconst 1, 1)) ∧ (decode cX11_leansOn 44 = .ok (.iload 4, 2)) ∧ (decode cX11_leansOn 46 = .ok (.ishl, 1)) ∧ (decode cX11_leansOn 47 = .ok (.iconst (-1), 1)) ∧ (decode cX11_leansOn 48 = .ok (.ixor, 1)) ∧ (decode cX11_leansOn 49 = .ok (.iand, 1)) := by decide +kernel
theorem gX11_leansOn_3 : (decode cX11_leansOn 50 = .ok (.invokevirtual 274, 3)) ∧ (decode cX11_leansOn 53 = .ok (.ifCond .ne 10, 3)) ∧ (decode cX11_leansOn 56 = .ok (.iload_n 3, 1)) ∧ (decode cX11_leansOn 57 = .ok (.iconst 1, 1)) ∧ (decode cX11_leansOn 58 = .ok (.iload 4, 2)) ∧ (decode cX11_leansOn 60 = .ok (.ishl, 1)) ∧ (decode cX11_leansOn 61 = .ok (.ior, 1)) ∧ (decode cX11_leansOn 62 = .ok (.istore_n 3, 1)) ∧ (decode cX11_leansOn 63 = .ok (.iinc 4 1, 3)) ∧ (decode cX11_leansOn 66 = .ok (.goto (-50), 3)) := by decide +kernel
theorem gX11_countStanding_0 : (decode cX11_countStanding 0 = .ok (.iconst 0, 1)) ∧ (decode cX11_countStanding 1 = .ok (.istore_n 2, 1)) ∧ (decode cX11_countStanding 2 = .ok (.iconst 0, 1)) ∧ (decode cX11_countStanding 3 = .ok (.istore_n 3, 1)) ∧ (decode cX11_countStanding 4 = .ok (.iload_n 3, 1)) ∧ (decode cX11_countStanding 5 = .ok (.aload_n 0, 1)) ∧ (decode cX11_countStanding 6 = .ok (.getfield 15, 3)) ∧ (decode cX11_countStanding 9 = .ok (.getfield 271, 3)) ∧ (decode cX11_countStanding 12 = .ok (.invokevirtual 174, 3)) ∧ (decode cX11_countStanding 15 = .ok (.if_icmp .ge 21, 3)) := by decide +kernel
theorem gX11_countStanding_1 : (decode cX11_countStanding 18 = .ok (.aload_n 0, 1)) ∧ (decode cX11_countStanding 19 = .ok (.iload_n 3, 1)) ∧ (decode cX11_countStanding 20 = .ok (.iload_n 1, 1)) ∧ (decode cX11_countStanding 21 = .ok (.invokevirtual 274, 3)) ∧ (decode cX11_countStanding 24 = .ok (.ifCond .eq 6, 3)) ∧ (decode cX11_countStanding 27 = .ok (.iinc 2 1, 3)) ∧ (decode cX11_countStanding 30 = .ok (.iinc 3 1, 3)) ∧ (decode cX11_countStanding 33 = .ok (.goto (-29), 3)) ∧ (decode cX11_countStanding 36 = .ok (.iload_n 2, 1)) ∧ (decode cX11_countStanding 37 = .ok (.ireturn, 1)) := by decide +kernel
theorem gX11_isBarred_0 : (decode cX11_isBarred 0 = .ok (.aload_n 0, 1)) ∧ (decode cX11_isBarred 1 = .ok (.getfield 15, 3)) ∧ (decode cX11_isBarred 4 = .ok (.getfield 271, 3)) ∧ (decode cX11_isBarred 7 = .ok (.iload_n 1, 1)) ∧ (decode cX11_isBarred 8 = .ok (.iconst 0, 1)) ∧ (decode cX11_isBarred 9 = .ok (.invokevirtual 128, 3)) ∧ (decode cX11_isBarred 12 = .ok (.istore 4, 2)) ∧ (decode cX11_isBarred 14 = .ok (.aload_n 0, 1)) ∧ (decode cX11_isBarred 15 = .ok (.getfield 44, 3)) ∧ (decode cX11_isBarred 18 = .ok (.iload 4, 2)) := by decide +kernel
theorem gX11_isBarred_1 : (decode cX11_isBarred 20 = .ok (.iload_n 2, 1)) ∧ (decode cX11_isBarred 21 = .ok (.invokevirtual 364, 3)) ∧ (decode cX11_isBarred 24 = .ok (.aload_n 0, 1)) ∧ (decode cX11_isBarred 25 = .ok (.getfield 15, 3)) ∧ (decode cX11_isBarred 28 = .ok (.iload 4, 2)) ∧ (decode cX11_isBarred 30 = .ok (.iload_n 2, 1)) ∧ (decode cX11_isBarred 31 = .ok (.invokevirtual 138, 3)) ∧ (decode cX11_isBarred 34 = .ok (.aload_n 0, 1)) ∧ (decode cX11_isBarred 35 = .ok (.getfield 44, 3)) ∧ (decode cX11_isBarred 38 = .ok (.invokevirtual 367, 3)) := by decide +kernel
theorem m_810 : Cond.methodLink RX11 364 yX6_consider ∈ BW := iB_BW43 _ (List.mem_of_getElem? (i := 19) rfl)
theorem si_X11_364 : SV RX11 RX6 364 yX6_consider cX6_consider 5 none 2 := ⟨⟨m_810, m_567, m_568, m_109, m_569⟩, rfl, nK_RX6.1, nK_RX6.2, pd_14⟩
theorem m_814 : Cond.code yX6_leastHeard cX6_leastHeard 3 (some .int) ∈ BW := iB_BW44 _ (List.mem_of_getElem? (i := 3) rfl)
theorem m_811 : Cond.methodLink RX11 367 yX6_leastHeard ∈ BW := iB_BW44 _ (List.mem_of_getElem? (i := 0) rfl)
theorem m_812 : Cond.instanceMethod yX6_leastHeard ∈ BW := iB_BW44 _ (List.mem_of_getElem? (i := 1) rfl)
theorem m_813 : Cond.selects RX6 yX6_leastHeard yX6_leastHeard ∈ BW := iB_BW44 _ (List.mem_of_getElem? (i := 2) rfl)
theorem si_X11_367 : SV RX11 RX6 367 yX6_leastHeard cX6_leastHeard 3 (some .int) 0 := ⟨⟨m_811, m_812, m_813, m_109, m_814⟩, rfl, nK_RX6.1, nK_RX6.2, pd_1⟩
theorem gX11_isBarred_2 : (decode cX11_isBarred 41 = .ok (.if_icmp .ge 5, 3)) ∧ (decode cX11_isBarred 44 = .ok (.iconst 1, 1)) ∧ (decode cX11_isBarred 45 = .ok (.ireturn, 1)) ∧ (decode cX11_isBarred 46 = .ok (.aload_n 0, 1)) ∧ (decode cX11_isBarred 47 = .ok (.getfield 15, 3)) ∧ (decode cX11_isBarred 50 = .ok (.invokevirtual 370, 3)) ∧ (decode cX11_isBarred 53 = .ok (.aload_n 0, 1)) ∧ (decode cX11_isBarred 54 = .ok (.getfield 44, 3)) ∧ (decode cX11_isBarred 57 = .ok (.invokevirtual 373, 3)) ∧ (decode cX11_isBarred 60 = .ok (.isub, 1)) := by decide +kernel
theorem m_815 : Cond.methodLink RX11 370 yX0_viewedDay ∈ BW := iB_BW44 _ (List.mem_of_getElem? (i := 4) rfl)
theorem si_X11_370 : SV RX11 RX0 370 yX0_viewedDay cX0_viewedDay 1 (some .int) 0 := ⟨⟨m_815, m_304, m_305, m_103, m_306⟩, rfl, nK_RX0.1, nK_RX0.2, pd_1⟩
theorem m_819 : Cond.code yX6_warnDays cX6_warnDays 3 (some .int) ∈ BW := iB_BW44 _ (List.mem_of_getElem? (i := 8) rfl)
theorem m_816 : Cond.methodLink RX11 373 yX6_warnDays ∈ BW := iB_BW44 _ (List.mem_of_getElem? (i := 5) rfl)
theorem m_817 : Cond.instanceMethod yX6_warnDays ∈ BW := iB_BW44 _ (List.mem_of_getElem? (i := 6) rfl)
theorem m_818 : Cond.selects RX6 yX6_warnDays yX6_warnDays ∈ BW := iB_BW44 _ (List.mem_of_getElem? (i := 7) rfl)
theorem si_X11_373 : SV RX11 RX6 373 yX6_warnDays cX6_warnDays 3 (some .int) 0 := ⟨⟨m_816, m_817, m_818, m_109, m_819⟩, rfl, nK_RX6.1, nK_RX6.2, pd_1⟩
theorem gX11_isBarred_3 : (decode cX11_isBarred 61 = .ok (.istore 5, 2)) ∧ (decode cX11_isBarred 63 = .ok (.iconst 0, 1)) ∧ (decode cX11_isBarred 64 = .ok (.istore 6, 2)) ∧ (decode cX11_isBarred 66 = .ok (.iload 6, 2)) ∧ (decode cX11_isBarred 68 = .ok (.aload_n 0, 1)) ∧ (decode cX11_isBarred 69 = .ok (.getfield 15, 3)) ∧ (decode cX11_isBarred 72 = .ok (.getfield 144, 3)) ∧ (decode cX11_isBarred 75 = .ok (.invokevirtual 174, 3)) ∧ (decode cX11_isBarred 78 = .ok (.if_icmp .ge 36, 3)) ∧ (decode cX11_isBarred 81 = .ok (.iload_n 3, 1)) := by decide +kernel
theorem gX11_isBarred_5 : (decode cX11_isBarred 106 = .ok (.iconst 1, 1)) ∧ (decode cX11_isBarred 107 = .ok (.ireturn, 1)) ∧ (decode cX11_isBarred 108 = .ok (.iinc 6 1, 3)) ∧ (decode cX11_isBarred 111 = .ok (.goto (-45), 3)) ∧ (decode cX11_isBarred 114 = .ok (.iconst 0, 1)) ∧ (decode cX11_isBarred 115 = .ok (.ireturn, 1)) := by decide +kernel
theorem gX11_isBarred_4 : (decode cX11_isBarred 82 = .ok (.iload 6, 2)) ∧ (decode cX11_isBarred 84 = .ok (.invokestatic 150, 3)) ∧ (decode cX11_isBarred 87 = .ok (.ifCond .eq 21, 3)) ∧ (decode cX11_isBarred 90 = .ok (.aload_n 0, 1)) ∧ (decode cX11_isBarred 91 = .ok (.getfield 15, 3)) ∧ (decode cX11_isBarred 94 = .ok (.iload 4, 2)) ∧ (decode cX11_isBarred 96 = .ok (.iload 6, 2)) ∧ (decode cX11_isBarred 98 = .ok (.iload 5, 2)) ∧ (decode cX11_isBarred 100 = .ok (.invokevirtual 376, 3)) ∧ (decode cX11_isBarred 103 = .ok (.ifCond .ne 5, 3)) := by decide +kernel
theorem m_823 : Cond.code yX0_isWarned cX0_isWarned 5 (some .boolean) ∈ BW := iB_BW44 _ (List.mem_of_getElem? (i := 12) rfl)
theorem m_820 : Cond.methodLink RX11 376 yX0_isWarned ∈ BW := iB_BW44 _ (List.mem_of_getElem? (i := 9) rfl)
theorem m_821 : Cond.instanceMethod yX0_isWarned ∈ BW := iB_BW44 _ (List.mem_of_getElem? (i := 10) rfl)
theorem m_822 : Cond.selects RX0 yX0_isWarned yX0_isWarned ∈ BW := iB_BW44 _ (List.mem_of_getElem? (i := 11) rfl)
theorem si_X11_376 : SV RX11 RX0 376 yX0_isWarned cX0_isWarned 5 (some .boolean) 3 := ⟨⟨m_820, m_821, m_822, m_103, m_823⟩, rfl, nK_RX0.1, nK_RX0.2, pd_0⟩
theorem gX11_findingOf_0 : (decode cX11_findingOf 0 = .ok (.aload_n 0, 1)) ∧ (decode cX11_findingOf 1 = .ok (.getfield 15, 3)) ∧ (decode cX11_findingOf 4 = .ok (.getfield 271, 3)) ∧ (decode cX11_findingOf 7 = .ok (.iload_n 1, 1)) ∧ (decode cX11_findingOf 8 = .ok (.invokevirtual 124, 3)) ∧ (decode cX11_findingOf 11 = .ok (.ifCond .ne 5, 3)) ∧ (decode cX11_findingOf 14 = .ok (.iconst (-1), 1)) ∧ (decode cX11_findingOf 15 = .ok (.ireturn, 1)) ∧ (decode cX11_findingOf 16 = .ok (.aload_n 0, 1)) ∧ (decode cX11_findingOf 17 = .ok (.getfield 15, 3)) := by decide +kernel
theorem gX11_findingOf_1 : (decode cX11_findingOf 20 = .ok (.invokevirtual 97, 3)) ∧ (decode cX11_findingOf 23 = .ok (.istore_n 3, 1)) ∧ (decode cX11_findingOf 24 = .ok (.iload_n 2, 1)) ∧ (decode cX11_findingOf 25 = .ok (.tableswitch 138 0 6 #[43, 56, 69, 82, 95, 110, 117], 43)) ∧ (decode cX11_findingOf 68 = .ok (.aload_n 0, 1)) ∧ (decode cX11_findingOf 69 = .ok (.getfield 15, 3)) ∧ (decode cX11_findingOf 72 = .ok (.getfield 271, 3)) ∧ (decode cX11_findingOf 75 = .ok (.iload_n 1, 1)) ∧ (decode cX11_findingOf 76 = .ok (.iconst 0, 1)) ∧ (decode cX11_findingOf 77 = .ok (.invokevirtual 128, 3)) := by decide +kernel
theorem gX11_findingOf_2 : (decode cX11_findingOf 80 = .ok (.ireturn, 1)) ∧ (decode cX11_findingOf 81 = .ok (.aload_n 0, 1)) ∧ (decode cX11_findingOf 82 = .ok (.getfield 15, 3)) ∧ (decode cX11_findingOf 85 = .ok (.getfield 271, 3)) ∧ (decode cX11_findingOf 88 = .ok (.iload_n 1, 1)) ∧ (decode cX11_findingOf 89 = .ok (.iconst 1, 1)) ∧ (decode cX11_findingOf 90 = .ok (.invokevirtual 128, 3)) ∧ (decode cX11_findingOf 93 = .ok (.ireturn, 1)) ∧ (decode cX11_findingOf 94 = .ok (.aload_n 0, 1)) ∧ (decode cX11_findingOf 95 = .ok (.getfield 15, 3)) := by decide +kernel
theorem gX11_findingOf_3 : (decode cX11_findingOf 98 = .ok (.getfield 271, 3)) ∧ (decode cX11_findingOf 101 = .ok (.iload_n 1, 1)) ∧ (decode cX11_findingOf 102 = .ok (.iconst 2, 1)) ∧ (decode cX11_findingOf 103 = .ok (.invokevirtual 128, 3)) ∧ (decode cX11_findingOf 106 = .ok (.ireturn, 1)) ∧ (decode cX11_findingOf 107 = .ok (.aload_n 0, 1)) ∧ (decode cX11_findingOf 108 = .ok (.getfield 15, 3)) ∧ (decode cX11_findingOf 111 = .ok (.getfield 271, 3)) ∧ (decode cX11_findingOf 114 = .ok (.iload_n 1, 1)) ∧ (decode cX11_findingOf 115 = .ok (.iconst 3, 1)) := by decide +kernel
theorem gX11_findingOf_4 : (decode cX11_findingOf 116 = .ok (.invokevirtual 128, 3)) ∧ (decode cX11_findingOf 119 = .ok (.ireturn, 1)) ∧ (decode cX11_findingOf 120 = .ok (.aload_n 0, 1)) ∧ (decode cX11_findingOf 121 = .ok (.iload_n 1, 1)) ∧ (decode cX11_findingOf 122 = .ok (.iload_n 3, 1)) ∧ (decode cX11_findingOf 123 = .ok (.invokevirtual 274, 3)) ∧ (decode cX11_findingOf 126 = .ok (.ifCond .eq 7, 3)) ∧ (decode cX11_findingOf 129 = .ok (.iconst 1, 1)) ∧ (decode cX11_findingOf 130 = .ok (.goto 4, 3)) ∧ (decode cX11_findingOf 133 = .ok (.iconst 0, 1)) := by decide +kernel
theorem gX11_findingOf_5 : (decode cX11_findingOf 134 = .ok (.ireturn, 1)) ∧ (decode cX11_findingOf 135 = .ok (.aload_n 0, 1)) ∧ (decode cX11_findingOf 136 = .ok (.iload_n 1, 1)) ∧ (decode cX11_findingOf 137 = .ok (.iload_n 3, 1)) ∧ (decode cX11_findingOf 138 = .ok (.invokevirtual 277, 3)) ∧ (decode cX11_findingOf 141 = .ok (.ireturn, 1)) ∧ (decode cX11_findingOf 142 = .ok (.aload_n 0, 1)) ∧ (decode cX11_findingOf 143 = .ok (.iload_n 1, 1)) ∧ (decode cX11_findingOf 144 = .ok (.iload_n 3, 1)) ∧ (decode cX11_findingOf 145 = .ok (.aload_n 0, 1)) := by decide +kernel
theorem m_806 : Cond.code yX11_leansOn cX11_leansOn 5 (some .int) ∈ BW := iB_BW43 _ (List.mem_of_getElem? (i := 15) rfl)
theorem m_804 : Cond.methodLink RX11 277 yX11_leansOn ∈ BW := iB_BW43 _ (List.mem_of_getElem? (i := 13) rfl)
theorem m_805 : Cond.instanceMethod yX11_leansOn ∈ BW := iB_BW43 _ (List.mem_of_getElem? (i := 14) rfl)
theorem m_36 : Cond.selects RX11 yX11_leansOn yX11_leansOn ∈ BW := iB_BW1 _ (List.mem_of_getElem? (i := 16) rfl)
theorem si_X11_277 : SV RX11 RX11 277 yX11_leansOn cX11_leansOn 5 (some .int) 2 := ⟨⟨m_804, m_805, m_36, m_102, m_806⟩, rfl, nK_RX11.1, nK_RX11.2, pd_2⟩
theorem gX11_findingOf_6 : (decode cX11_findingOf 146 = .ok (.iload_n 1, 1)) ∧ (decode cX11_findingOf 147 = .ok (.iload_n 3, 1)) ∧ (decode cX11_findingOf 148 = .ok (.invokevirtual 277, 3)) ∧ (decode cX11_findingOf 151 = .ok (.invokevirtual 280, 3)) ∧ (decode cX11_findingOf 154 = .ok (.ifCond .eq 7, 3)) ∧ (decode cX11_findingOf 157 = .ok (.iconst 1, 1)) ∧ (decode cX11_findingOf 158 = .ok (.goto 4, 3)) ∧ (decode cX11_findingOf 161 = .ok (.iconst 0, 1)) ∧ (decode cX11_findingOf 162 = .ok (.ireturn, 1)) ∧ (decode cX11_findingOf 163 = .ok (.iconst (-1), 1)) := by decide +kernel
theorem m_809 : Cond.code yX11_isBarred cX11_isBarred 7 (some .boolean) ∈ BW := iB_BW43 _ (List.mem_of_getElem? (i := 18) rfl)
theorem m_807 : Cond.methodLink RX11 280 yX11_isBarred ∈ BW := iB_BW43 _ (List.mem_of_getElem? (i := 16) rfl)
theorem m_808 : Cond.instanceMethod yX11_isBarred ∈ BW := iB_BW43 _ (List.mem_of_getElem? (i := 17) rfl)
theorem m_37 : Cond.selects RX11 yX11_isBarred yX11_isBarred ∈ BW := iB_BW1 _ (List.mem_of_getElem? (i := 17) rfl)
theorem si_X11_280 : SV RX11 RX11 280 yX11_isBarred cX11_isBarred 7 (some .boolean) 3 := ⟨⟨m_807, m_808, m_37, m_102, m_809⟩, rfl, nK_RX11.1, nK_RX11.2, pd_0⟩
theorem gX11_findingOf_7 : (decode cX11_findingOf 164 = .ok (.ireturn, 1)) := by decide +kernel
theorem gX9_leastWeight_0 : (decode cX9_leastWeight 0 = .ok (.aload_n 0, 1)) ∧ (decode cX9_leastWeight 1 = .ok (.getfield 26, 3)) ∧ (decode cX9_leastWeight 4 = .ok (.ireturn, 1)) := by decide +kernel
theorem gX9_believedHour_0 : (decode cX9_believedHour 0 = .ok (.aload_n 0, 1)) ∧ (decode cX9_believedHour 1 = .ok (.getfield 29, 3)) ∧ (decode cX9_believedHour 4 = .ok (.ireturn, 1)) := by decide +kernel
theorem gX11_quarrel_0 : (decode cX11_quarrel 0 = .ok (.aload_n 0, 1)) ∧ (decode cX11_quarrel 1 = .ok (.getfield 15, 3)) ∧ (decode cX11_quarrel 4 = .ok (.getfield 107, 3)) ∧ (decode cX11_quarrel 7 = .ok (.iload_n 1, 1)) ∧ (decode cX11_quarrel 8 = .ok (.invokevirtual 124, 3)) ∧ (decode cX11_quarrel 11 = .ok (.ifCond .eq 26, 3)) ∧ (decode cX11_quarrel 14 = .ok (.aload_n 0, 1)) ∧ (decode cX11_quarrel 15 = .ok (.getfield 15, 3)) ∧ (decode cX11_quarrel 18 = .ok (.getfield 144, 3)) ∧ (decode cX11_quarrel 21 = .ok (.iload_n 2, 1)) := by decide +kernel
theorem gX11_quarrel_1 : (decode cX11_quarrel 22 = .ok (.invokevirtual 124, 3)) ∧ (decode cX11_quarrel 25 = .ok (.ifCond .eq 12, 3)) ∧ (decode cX11_quarrel 28 = .ok (.iload_n 3, 1)) ∧ (decode cX11_quarrel 29 = .ok (.iconst 0, 1)) ∧ (decode cX11_quarrel 30 = .ok (.iconst 1, 1)) ∧ (decode cX11_quarrel 31 = .ok (.invokestatic 83, 3)) ∧ (decode cX11_quarrel 34 = .ok (.ifCond .ne 5, 3)) ∧ (decode cX11_quarrel 37 = .ok (.iconst (-1), 1)) ∧ (decode cX11_quarrel 38 = .ok (.ireturn, 1)) ∧ (decode cX11_quarrel 39 = .ok (.aload_n 0, 1)) := by decide +kernel
theorem gX11_quarrel_2 : (decode cX11_quarrel 40 = .ok (.getfield 15, 3)) ∧ (decode cX11_quarrel 43 = .ok (.invokevirtual 97, 3)) ∧ (decode cX11_quarrel 46 = .ok (.istore 4, 2)) ∧ (decode cX11_quarrel 48 = .ok (.iload 4, 2)) ∧ (decode cX11_quarrel 50 = .ok (.iload_n 2, 1)) ∧ (decode cX11_quarrel 51 = .ok (.invokestatic 150, 3)) ∧ (decode cX11_quarrel 54 = .ok (.ifCond .ne 6, 3)) ∧ (decode cX11_quarrel 57 = .ok (.bipush (-3), 2)) ∧ (decode cX11_quarrel 59 = .ok (.ireturn, 1)) ∧ (decode cX11_quarrel 60 = .ok (.aload_n 0, 1)) := by decide +kernel
theorem gX11_quarrel_3 : (decode cX11_quarrel 61 = .ok (.getfield 28, 3)) ∧ (decode cX11_quarrel 64 = .ok (.iload 4, 2)) ∧ (decode cX11_quarrel 66 = .ok (.invokevirtual 183, 3)) ∧ (decode cX11_quarrel 69 = .ok (.aload_n 0, 1)) ∧ (decode cX11_quarrel 70 = .ok (.getfield 51, 3)) ∧ (decode cX11_quarrel 73 = .ok (.iload_n 1, 1)) ∧ (decode cX11_quarrel 74 = .ok (.iload_n 2, 1)) ∧ (decode cX11_quarrel 75 = .ok (.iload 4, 2)) ∧ (decode cX11_quarrel 77 = .ok (.invokevirtual 259, 3)) ∧ (decode cX11_quarrel 80 = .ok (.iload_n 3, 1)) := by decide +kernel
theorem m_283 : Cond.fieldLink RX11 51 "InquiryBench" "talk" "LInquiryBench$Talk;" ∈ BW := iB_BW15 _ (List.mem_of_getElem? (i := 9) rfl)
theorem gf_X11_51 (hC : CX p s m meth c y0 b0 mL0 rt0 args) (hy0 : y0.cls = RX11) (hK : KK G s) (hP : va_P G.1 vwCl ws H) (q0 : Nat) {fs : List Value} {v : Value} (he : ws[q0]? = some (a, .inr (11, fs))) (hv : fs[6]? = some v) (hdg : decode b0 pc = .ok (.getfield 51, 3)) (kk : W p l e R s m args below meth c H locs cells slots Q (F0 m (pc + 3) ls (v :: rest))) : W p l e R s m args below meth c H locs cells slots Q (F0 m pc ls (.ref a :: rest)) := by
  obtain ⟨hx, hb, hr, hml, hB, hown, hlocks, hnm⟩ := hC
  rw [hy0] at hown
  exact va_get (ci := 11) (C := RX11) (T := TX11) (N := 11) hx hb hB in_X11 hown hK.1 hP q0 he rfl 6 (by decide) (hB _ m_283) (fun _ h => h) hv hdg kk
theorem m_762 : Cond.code yX9_weigh cX9_weigh 7 none ∈ BW := iB_BW41 _ (List.mem_of_getElem? (i := 2) rfl)
theorem m_759 : Cond.methodLink RX11 259 yX9_weigh ∈ BW := iB_BW40 _ (List.mem_of_getElem? (i := 19) rfl)
theorem m_760 : Cond.instanceMethod yX9_weigh ∈ BW := iB_BW41 _ (List.mem_of_getElem? (i := 0) rfl)
theorem m_761 : Cond.selects RX9 yX9_weigh yX9_weigh ∈ BW := iB_BW41 _ (List.mem_of_getElem? (i := 1) rfl)
theorem si_X11_259 : SV RX11 RX9 259 yX9_weigh cX9_weigh 7 none 3 := ⟨⟨m_759, m_760, m_761, m_110, m_762⟩, rfl, nK_RX9.1, nK_RX9.2, pd_4⟩
theorem gX11_quarrel_4 : (decode cX11_quarrel 81 = .ok (.ifCond .ne 13, 3)) ∧ (decode cX11_quarrel 84 = .ok (.aload_n 0, 1)) ∧ (decode cX11_quarrel 85 = .ok (.getfield 51, 3)) ∧ (decode cX11_quarrel 88 = .ok (.invokevirtual 262, 3)) ∧ (decode cX11_quarrel 91 = .ok (.goto 14, 3)) ∧ (decode cX11_quarrel 94 = .ok (.aload_n 0, 1)) ∧ (decode cX11_quarrel 95 = .ok (.getfield 51, 3)) ∧ (decode cX11_quarrel 98 = .ok (.invokevirtual 265, 3)) ∧ (decode cX11_quarrel 101 = .ok (.sipush 1000, 3)) ∧ (decode cX11_quarrel 104 = .ok (.iadd, 1)) := by decide +kernel
theorem m_784 : Cond.code yX9_believedHour cX9_believedHour 1 (some .int) ∈ BW := iB_BW42 _ (List.mem_of_getElem? (i := 13) rfl)
theorem m_781 : Cond.methodLink RX11 265 yX9_believedHour ∈ BW := iB_BW42 _ (List.mem_of_getElem? (i := 10) rfl)
theorem m_782 : Cond.instanceMethod yX9_believedHour ∈ BW := iB_BW42 _ (List.mem_of_getElem? (i := 11) rfl)
theorem m_783 : Cond.selects RX9 yX9_believedHour yX9_believedHour ∈ BW := iB_BW42 _ (List.mem_of_getElem? (i := 12) rfl)
theorem si_X11_265 : SV RX11 RX9 265 yX9_believedHour cX9_believedHour 1 (some .int) 0 := ⟨⟨m_781, m_782, m_783, m_110, m_784⟩, rfl, nK_RX9.1, nK_RX9.2, pd_1⟩
theorem gX11_quarrel_5 : (decode cX11_quarrel 105 = .ok (.ireturn, 1)) := by decide +kernel
theorem m_780 : Cond.code yX9_leastWeight cX9_leastWeight 1 (some .int) ∈ BW := iB_BW42 _ (List.mem_of_getElem? (i := 9) rfl)
theorem m_777 : Cond.methodLink RX11 262 yX9_leastWeight ∈ BW := iB_BW42 _ (List.mem_of_getElem? (i := 6) rfl)
theorem m_778 : Cond.instanceMethod yX9_leastWeight ∈ BW := iB_BW42 _ (List.mem_of_getElem? (i := 7) rfl)
theorem m_779 : Cond.selects RX9 yX9_leastWeight yX9_leastWeight ∈ BW := iB_BW42 _ (List.mem_of_getElem? (i := 8) rfl)
theorem si_X11_262 : SV RX11 RX9 262 yX9_leastWeight cX9_leastWeight 1 (some .int) 0 := ⟨⟨m_777, m_778, m_779, m_110, m_780⟩, rfl, nK_RX9.1, nK_RX9.2, pd_1⟩
end WR
theorem TRQ {K : Nat → Nat → Int → Prop} {ft M N : Nat → Int32} {s : Nat} (h1 : CLB K (MAT M)) (h2 : CLB K (MAT N)) (hc : CKS ft s < 6) : TR0 ft M s = TR0 ft N s ∧ TR1 ft M s = TR1 ft N s := by
  have e1 := CLB.eq h1 h2 (a := 0) (b := CKS ft s) (by decide) hc
  have e2 := CLB.eq h1 h2 (a := CKS ft s) (b := 0) hc (by decide)
  unfold TR0 TR1
  rw [e1, e2]
  exact ⟨rfl, rfl⟩
/-- what the sight tells of papers -/
def SGQ (K : Nat → Nat → Int → Prop) (ft : Nat → Int32) (V : Nat → Prop) (k : Nat) (c : Int32) (g a b sl sm : Nat → Int32) : Prop := ∀ p, p < 12 → (¬ (c = 0 ∧ ¬ g p < 0) → NOS K ∨ ¬ V p ∨ ∀ s, s < k → ¬ ft (s * 3 + 0) = nI p) ∧ (c = 0 ∧ ¬ g p < 0 → ∃ M : Nat → Int32, CLB K (MAT M) ∧ V p ∧ (∃ s, FST ft k p s ∧ a p = TR0 ft M s ∧ b p = TR1 ft M s) ∧ ∃ s, LST ft k p s ∧ sl p = TR0 ft M s ∧ sm p = TR1 ft M s)
theorem LKP.sgq {ft : Nat → Int32} {pp gp : Int32} {k : Nat} {c : Int32} {fm f g ml mm sl sm : Nat → Int32} (h : LKP ft pp gp k c fm f g ml mm sl sm) (hk : k < 2 ^ 31) : SGQ (KST ft (VPP pp) gp.toInt k) ft (VPP pp) k c g ml mm sl sm := fun p hp => ⟨fun hn => h.none hp hk hn, fun hn => by
  obtain ⟨h1, h2, h3⟩ := h.fst hp hk hn
  obtain ⟨-, -, h4⟩ := h.some hp hk hn
  exact ⟨fm, h1, h2, h3, h4⟩⟩
/-- a paper in hand from f to t; not in hand -/
def INQ (K : Nat → Nat → Int → Prop) (ft : Nat → Int32) (V : Nat → Prop) (by9 to9 z : Int32) (k p e : Nat) (f t : Int32) : Prop := (∃ (M : Nat → Int32) (s : Nat), CLB K (MAT M) ∧ V p ∧ by9 = nI e ∧ FST ft k p s ∧ f = TR0 ft M s ∧ t = TR1 ft M s) ∨ (∃ (M : Nat → Int32) (s : Nat), CLB K (MAT M) ∧ V p ∧ ¬ by9 = nI e ∧ HB to9 (nI e) ∧ LST ft k p s ∧ f = TR0 ft M s ∧ t = TR1 ft M s + z)
def NIQ (K : Nat → Nat → Int → Prop) (ft : Nat → Int32) (V : Nat → Prop) (by9 to9 : Int32) (k p e : Nat) : Prop := NOS K ∨ ¬ V p ∨ (∀ s, s < k → ¬ ft (s * 3 + 0) = nI p) ∨ (¬ by9 = nI e ∧ ¬ HB to9 (nI e))
theorem INQ.uniq {K : Nat → Nat → Int → Prop} {ft : Nat → Int32} {V : Nat → Prop} {by9 to9 z : Int32} {k p e : Nat} {f t f2 t2 : Int32} (hS : SVL ft k) (h1 : INQ K ft V by9 to9 z k p e f t) (h2 : INQ K ft V by9 to9 z k p e f2 t2) : f = f2 ∧ t = t2 := by
  rcases h1 with ⟨M, s, c, v, b, l, e1, e2⟩ | ⟨M, s, c, v, b, hb, l, e1, e2⟩
  · rcases h2 with ⟨N, s2, c2, v2, b2, l2, d1, d2⟩ | ⟨N, s2, c2, v2, b2, -⟩
    · rw [← l.uniq l2] at d1 d2
      obtain ⟨q1, q2⟩ := TRQ c c2 (hS.ck l.1)
      exact ⟨e1.trans (q1.trans d1.symm), e2.trans (q2.trans d2.symm)⟩
    · exact absurd b b2
  · rcases h2 with ⟨N, s2, c2, v2, b2, l2, d1, d2⟩ | ⟨N, s2, c2, v2, b2, hb2, l2, d1, d2⟩
    · exact absurd b2 b
    · rw [← l.uniq l2] at d1 d2
      obtain ⟨q1, q2⟩ := TRQ c c2 (hS.ck l.1)
      exact ⟨e1.trans (q1.trans d1.symm), by rw [e2, d2, q2]⟩
theorem INQ.no {K : Nat → Nat → Int → Prop} {ft : Nat → Int32} {V : Nat → Prop} {by9 to9 z : Int32} {k p e : Nat} {f t : Int32} (h1 : INQ K ft V by9 to9 z k p e f t) (h2 : NIQ K ft V by9 to9 k p e) : False := by
  rcases h1 with ⟨M, s, c, v, b, l, -⟩ | ⟨M, s, c, v, b, hb, l, -⟩
  · rcases h2 with h2 | h2 | h2 | h2
    · exact c.nos h2
    · exact h2 v
    · exact h2 s l.1 l.2.1
    · exact h2.1 b
  · rcases h2 with h2 | h2 | h2 | h2
    · exact c.nos h2
    · exact h2 v
    · exact h2 s l.1 l.2.1
    · exact h2.2 hb
theorem INQ.cg {K : Nat → Nat → Int → Prop} {ft gt : Nat → Int32} {V U : Nat → Prop} {by9 to9 z : Int32} {k p e : Nat} {f t : Int32} (h : ∀ i, i < 72 → gt i = ft i) (hn : k ≤ 24) (hv : U p ↔ V p) (h1 : INQ K gt U by9 to9 z k p e f t) : INQ K ft V by9 to9 z k p e f t := by
  have tr : ∀ (M : Nat → Int32) s, s < k → TR0 gt M s = TR0 ft M s ∧ TR1 gt M s = TR1 ft M s := fun M s hs => by
    unfold TR0 TR1 CKS
    rw [h (s * 3 + 2) (by omega), h (s * 3 + 1) (by omega)]
    exact ⟨rfl, rfl⟩
  rcases h1 with ⟨M, s, c, v, b, l, e1, e2⟩ | ⟨M, s, c, v, b, hb, l, e1, e2⟩
  · obtain ⟨q1, q2⟩ := tr M s l.1
    exact Or.inl ⟨M, s, c, hv.mp v, b, FST.cg h hn l, e1.trans q1, e2.trans q2⟩
  · obtain ⟨q1, q2⟩ := tr M s l.1
    exact Or.inr ⟨M, s, c, hv.mp v, b, hb, LST.cg h hn l, e1.trans q1, by rw [e2, q2]⟩
theorem NIQ.cg {K : Nat → Nat → Int → Prop} {ft gt : Nat → Int32} {V U : Nat → Prop} {by9 to9 : Int32} {k p e : Nat} (h : ∀ i, i < 72 → gt i = ft i) (hn : k ≤ 24) (hv : U p ↔ V p) (h1 : NIQ K gt U by9 to9 k p e) : NIQ K ft V by9 to9 k p e := by
  rcases h1 with h1 | h1 | h1 | h1
  · exact Or.inl h1
  · exact Or.inr (Or.inl fun h9 => h1 (hv.mpr h9))
  · exact Or.inr (Or.inr (Or.inl fun s hs e => h1 s hs ((h (s * 3 + 0) (by omega)).trans e)))
  · exact Or.inr (Or.inr (Or.inr h1))
/-- the hours from which a paper might have been in hand -/
def HIQ (K : Nat → Nat → Int → Prop) (ft : Nat → Int32) (V : Nat → Prop) (by9 to9 z : Int32) (k p e : Nat) (f t : Int32) : Prop := INQ K ft V by9 to9 z k p e f t ∨ (NIQ K ft V by9 to9 k p e ∧ f = 0 ∧ t = 1000)
theorem HIQ.uniq {K : Nat → Nat → Int → Prop} {ft : Nat → Int32} {V : Nat → Prop} {by9 to9 z : Int32} {k p e : Nat} {f t f2 t2 : Int32} (hS : SVL ft k) (h1 : HIQ K ft V by9 to9 z k p e f t) (h2 : HIQ K ft V by9 to9 z k p e f2 t2) : f = f2 ∧ t = t2 := by
  rcases h1 with h1 | ⟨n1, a1, b1⟩
  · rcases h2 with h2 | ⟨n2, a2, b2⟩
    · exact h1.uniq hS h2
    · exact (h1.no n2).elim
  · rcases h2 with h2 | ⟨n2, a2, b2⟩
    · exact (h2.no n1).elim
    · exact ⟨a1.trans a2.symm, b1.trans b2.symm⟩
theorem HIQ.cg {K : Nat → Nat → Int → Prop} {ft gt : Nat → Int32} {V U : Nat → Prop} {by9 to9 z : Int32} {k p e : Nat} {f t : Int32} (h : ∀ i, i < 72 → gt i = ft i) (hn : k ≤ 24) (hv : U p ↔ V p) (h1 : HIQ K gt U by9 to9 z k p e f t) : HIQ K ft V by9 to9 z k p e f t := by
  rcases h1 with h1 | ⟨n1, a1, b1⟩
  · exact Or.inl (h1.cg h hn hv)
  · exact Or.inr ⟨n1.cg h hn hv, a1, b1⟩
theorem NIQ.of {K : Nat → Nat → Int → Prop} {ft : Nat → Int32} {V : Nat → Prop} {by9 to9 : Int32} {k p e : Nat} {c : Int32} {g a b sl sm : Nat → Int32} (h : SGQ K ft V k c g a b sl sm) (hp : p < 12) (hn : ¬ ((c = 0 ∧ ¬ g p < 0) ∧ (by9 = nI e ∨ HB to9 (nI e)))) : NIQ K ft V by9 to9 k p e := by
  by_cases h1 : c = 0 ∧ ¬ g p < 0
  · exact Or.inr (Or.inr (Or.inr ⟨fun h9 => hn ⟨h1, Or.inl h9⟩, fun h9 => hn ⟨h1, Or.inr h9⟩⟩))
  · rcases (h p hp).1 h1 with h2 | h2 | h2
    · exact Or.inl h2
    · exact Or.inr (Or.inl h2)
    · exact Or.inr (Or.inr (Or.inl h2))
theorem INQ.made {K : Nat → Nat → Int → Prop} {ft : Nat → Int32} {V : Nat → Prop} {by9 to9 z : Int32} {k p e : Nat} {c : Int32} {g a b sl sm : Nat → Int32} (h : SGQ K ft V k c g a b sl sm) (hp : p < 12) (hn : c = 0 ∧ ¬ g p < 0) (hb : by9 = nI e) : INQ K ft V by9 to9 z k p e (a p) (b p) := by
  obtain ⟨M, h1, h2, ⟨s, h3, h4, h5⟩, -⟩ := (h p hp).2 hn
  exact Or.inl ⟨M, s, h1, h2, hb, h3, h4, h5⟩
theorem INQ.sent {K : Nat → Nat → Int → Prop} {ft : Nat → Int32} {V : Nat → Prop} {by9 to9 z : Int32} {k p e : Nat} {c : Int32} {g a b sl sm : Nat → Int32} (h : SGQ K ft V k c g a b sl sm) (hp : p < 12) (hn : c = 0 ∧ ¬ g p < 0) (hb : ¬ by9 = nI e) (ht : HB to9 (nI e)) : INQ K ft V by9 to9 z k p e (sl p) (sm p + z) := by
  obtain ⟨M, h1, h2, -, s, h3, h4, h5⟩ := (h p hp).2 hn
  exact Or.inr ⟨M, s, h1, h2, hb, ht, h3, h4, by rw [h5]⟩
/-- bits of the first n that are so -/
noncomputable def IMB (P : Nat → Prop) : Nat → Int32
  | 0 => 0
  | n + 1 => ifc (P n) (IMB P n ||| 1 <<< (nI n &&& 31)) (IMB P n)
theorem IMB.cg {P Q : Nat → Prop} : ∀ n, (∀ k, k < n → (P k ↔ Q k)) → IMB P n = IMB Q n
  | 0, _ => rfl
  | n + 1, h => by
    show ifc (P n) _ _ = ifc (Q n) _ _
    rw [IMB.cg n (fun k hk => h k (by omega))]
    by_cases c : P n
    · rw [ifc_t c, ifc_t ((h n (by omega)).mp c)]
    · rw [ifc_f c, ifc_f (fun h9 => c ((h n (by omega)).mpr h9))]
theorem IMB.y {P : Nat → Prop} {n : Nat} {b : Int32} (h : b = IMB P n) (p : P n) : b ||| 1 <<< (nI n &&& 31) = IMB P (n + 1) := by
  subst h
  exact (ifc_t p).symm
theorem IMB.n {P : Nat → Prop} {n : Nat} {b : Int32} (h : b = IMB P n) (p : ¬ P n) : b = IMB P (n + 1) := by
  subst h
  exact (ifc_f p).symm
/-- a saying goes against an hour -/
def AGF (fs : Nat → Int32) (h : Int32) (s : Nat) : Prop := (fs (s * 8 + 5) = 1 ∧ fs (s * 8 + 3) < h) ∨ (¬ fs (s * 8 + 5) = 1 ∧ h ≤ fs (s * 8 + 3))
theorem i_le_trans {a b c : Int32} (h1 : a ≤ b) (h2 : b ≤ c) : a ≤ c := by
  rw [Int32.le_iff_toInt_le] at *
  omega
theorem i_lt_le {a b c : Int32} (h1 : a < b) (h2 : b ≤ c) : a < c := by
  rw [Int32.le_iff_toInt_le] at h2
  rw [Int32.lt_iff_toInt_lt] at *
  omega
theorem i_lt_le2 {a b : Int32} (h : a < b) : a ≤ b := by
  rw [Int32.lt_iff_toInt_lt] at h
  rw [Int32.le_iff_toInt_le]
  omega
theorem TR.le {K : Nat → Nat → Int → Prop} {ft M : Nat → Int32} {n s : Nat} (hc : CLB K (MAT M)) (h : SVL ft n) (hs : s < n) : (TR0 ft M s).toInt ≤ (TR1 ft M s).toInt ∧ -200 ≤ (TR0 ft M s).toInt ∧ (TR1 ft M s).toInt ≤ 1119 := by
  have h1 := h.hrs hs
  have h2 := hc.lim 0 (CKS ft s) (by decide) (h.ck hs)
  have h3 := hc.lim (CKS ft s) 0 (h.ck hs) (by decide)
  have h4 := hc.1.2.1 0 (CKS ft s) 0 (by decide) (h.ck hs) (by decide)
  have h5 := hc.1.1 0 (by decide)
  have e0 : (ft (s * 3 + 2)).toInt = HRS ft s := rfl
  have e1 : (M (0 * 6 + CKS ft s)).toInt = MAT M 0 (CKS ft s) := rfl
  have e2 : (M (CKS ft s * 6 + 0)).toInt = MAT M (CKS ft s) 0 := rfl
  have e3 : (TR0 ft M s).toInt = HRS ft s - MAT M 0 (CKS ft s) := by
    unfold TR0
    rw [ti_ad (by omega) (by omega) (by rw [ti_ng (by omega) (by omega)]; omega) (by rw [ti_ng (by omega) (by omega)]; omega), ti_ng (by omega) (by omega), e0, e1]
    omega
  have e4 : (TR1 ft M s).toInt = HRS ft s + MAT M (CKS ft s) 0 := by
    unfold TR1
    rw [ti_ad (by omega) (by omega) (by omega) (by omega), e0, e2]
  omega
theorem HIQ.le {K : Nat → Nat → Int → Prop} {ft : Nat → Int32} {V : Nat → Prop} {by9 to9 z : Int32} {k p e : Nat} {f t : Int32} (hS : SVL ft k) (h0 : 0 ≤ z.toInt) (h48 : z.toInt ≤ 48) (h : HIQ K ft V by9 to9 z k p e f t) : f ≤ t ∧ -200 ≤ f.toInt ∧ t.toInt ≤ 1167 := by
  rw [Int32.le_iff_toInt_le]
  rcases h with (⟨M, s, c, v, b, l, e1, e2⟩ | ⟨M, s, c, v, b, hb, l, e1, e2⟩) | ⟨-, e1, e2⟩
  · have h1 := TR.le c hS l.1
    rw [e1, e2]
    omega
  · have h1 := TR.le c hS l.1
    rw [e1, e2, ti_ad (by omega) (by omega) (by omega) (by omega)]
    omega
  · rw [e1, e2]
    decide
/-- a saying goes against every hour of its paper and person -/
def IMS (fs : Nat → Int32) (Q : Nat → Int32 → Int32 → Prop) (s : Nat) : Prop := ∃ f t, Q s f t ∧ ((fs (s * 8 + 5) = 1 ∧ fs (s * 8 + 3) < f) ∨ (¬ fs (s * 8 + 5) = 1 ∧ t ≤ fs (s * 8 + 3)))
def QSF (K : Nat → Nat → Int → Prop) (ft : Nat → Int32) (V : Nat → Prop) (fp fe fs : Nat → Int32) (k : Nat) : Nat → Int32 → Int32 → Prop := fun s f t => HIQ K ft V (fp ((fs (s * 8 + 2)).toNatClampNeg * 6 + 0)) (fp ((fs (s * 8 + 2)).toNatClampNeg * 6 + 1)) (fe ((fs (s * 8 + 1)).toNatClampNeg * 2 + 1)) k (fs (s * 8 + 2)).toNatClampNeg (fs (s * 8 + 1)).toNatClampNeg f t
theorem QSF.mk {K : Nat → Nat → Int → Prop} {ft : Nat → Int32} {V : Nat → Prop} {fp fe fs : Nat → Int32} {k s p e : Nat} {f t : Int32} (e1 : fs (s * 8 + 2) = nI p) (e2 : fs (s * 8 + 1) = nI e) (hp : p < 2 ^ 31) (he : e < 2 ^ 31) (h : HIQ K ft V (fp (p * 6 + 0)) (fp (p * 6 + 1)) (fe (e * 2 + 1)) k p e f t) : QSF K ft V fp fe fs k s f t := by
  unfold QSF
  rw [e1, e2, nI_clamp hp, nI_clamp he]
  exact h
theorem IMS.no {K : Nat → Nat → Int → Prop} {ft : Nat → Int32} {V : Nat → Prop} {fp fe fs : Nat → Int32} {k s : Nat} {f t : Int32} (hS : SVL ft k) (hq : QSF K ft V fp fe fs k s f t) (hn : ¬ ((fs (s * 8 + 5) = 1 ∧ fs (s * 8 + 3) < f) ∨ (¬ fs (s * 8 + 5) = 1 ∧ t ≤ fs (s * 8 + 3)))) : ¬ IMS fs (QSF K ft V fp fe fs k) s := by
  intro ⟨f2, t2, h2, h3⟩
  obtain ⟨e1, e2⟩ := HIQ.uniq hS hq h2
  rw [← e1, ← e2] at h3
  exact hn h3
section WR
variable {p : Program} {l : Launch} {e : Env} {R : Room} {s : State} {m : MethodId} {args : Array Value} {below : List Frame} {meth : Method} {c : Code} {H : Heap} {locs : List Loc} {cells slots : Nat} {Q : State → Prop}
variable {pc : Nat} {ls : Array Slot} {rest : List Value} {G : GG} {ws : va_W} {A : Nat → Prop} {y0 : MethodName} {b0 : ByteArray} {mL0 : Nat} {rt0 : Option FieldType} {a : Nat} {H0 : Heap}
theorem gX11_impossible_0 : (decode cX11_impossible 0 = .ok (.aload_n 0, 1)) ∧ (decode cX11_impossible 1 = .ok (.getfield 15, 3)) ∧ (decode cX11_impossible 4 = .ok (.invokevirtual 97, 3)) ∧ (decode cX11_impossible 7 = .ok (.istore_n 1, 1)) ∧ (decode cX11_impossible 8 = .ok (.aload_n 0, 1)) ∧ (decode cX11_impossible 9 = .ok (.getfield 28, 3)) ∧ (decode cX11_impossible 12 = .ok (.iload_n 1, 1)) ∧ (decode cX11_impossible 13 = .ok (.invokevirtual 183, 3)) ∧ (decode cX11_impossible 16 = .ok (.aload_n 0, 1)) ∧ (decode cX11_impossible 17 = .ok (.getfield 51, 3)) := by decide +kernel
theorem gX11_impossible_1 : (decode cX11_impossible 20 = .ok (.iload_n 1, 1)) ∧ (decode cX11_impossible 21 = .ok (.invokevirtual 268, 3)) ∧ (decode cX11_impossible 24 = .ok (.ireturn, 1)) := by decide +kernel
theorem m_792 : Cond.code yX9_impossibleOnes cX9_impossibleOnes 6 (some .int) ∈ BW := iB_BW43 _ (List.mem_of_getElem? (i := 1) rfl)
theorem m_789 : Cond.methodLink RX11 268 yX9_impossibleOnes ∈ BW := iB_BW42 _ (List.mem_of_getElem? (i := 18) rfl)
theorem m_790 : Cond.instanceMethod yX9_impossibleOnes ∈ BW := iB_BW42 _ (List.mem_of_getElem? (i := 19) rfl)
theorem m_791 : Cond.selects RX9 yX9_impossibleOnes yX9_impossibleOnes ∈ BW := iB_BW43 _ (List.mem_of_getElem? (i := 0) rfl)
theorem si_X11_268 : SV RX11 RX9 268 yX9_impossibleOnes cX9_impossibleOnes 6 (some .int) 1 := ⟨⟨m_789, m_790, m_791, m_110, m_792⟩, rfl, nK_RX9.1, nK_RX9.2, pd_7⟩
end WR
/-- the weight that goes against an hour -/
noncomputable def WGS (P : Nat → Prop) (fs : Nat → Int32) (h : Int32) : Nat → Int32
  | 0 => 0
  | n + 1 => ifc (P n ∧ AGF fs h n) (WGS P fs h n + fs (n * 8 + 4)) (WGS P fs h n)
theorem WGS.y {P : Nat → Prop} {fs : Nat → Int32} {h w : Int32} {n : Nat} (e : w = WGS P fs h n) (p : P n ∧ AGF fs h n) : w + fs (n * 8 + 4) = WGS P fs h (n + 1) := by
  subst e
  exact (ifc_t p).symm
theorem WGS.n {P : Nat → Prop} {fs : Nat → Int32} {h w : Int32} {n : Nat} (e : w = WGS P fs h n) (p : ¬ (P n ∧ AGF fs h n)) : w = WGS P fs h (n + 1) := by
  subst e
  exact (ifc_f p).symm
theorem WGS.n0 {P : Nat → Prop} {fs : Nat → Int32} {h w : Int32} {n : Nat} (e : w = WGS P fs h n) (p : ¬ (P n ∧ AGF fs h n)) : w + 0 = WGS P fs h (n + 1) := by
  rw [Int32.add_zero]
  exact WGS.n e p
theorem WGS.cg {P Q : Nat → Prop} {fs gs : Nat → Int32} {h g : Int32} : ∀ n, (∀ s, s < n → ((P s ∧ AGF fs h s) ↔ (Q s ∧ AGF gs g s)) ∧ fs (s * 8 + 4) = gs (s * 8 + 4)) → WGS P fs h n = WGS Q gs g n
  | 0, _ => rfl
  | n + 1, e => by
    show ifc (P n ∧ AGF fs h n) _ _ = ifc (Q n ∧ AGF gs g n) _ _
    rw [WGS.cg n (fun k hk => e k (by omega)), (e n (by omega)).2]
    by_cases c : P n ∧ AGF fs h n
    · rw [ifc_t c, ifc_t ((e n (by omega)).1.mp c)]
    · rw [ifc_f c, ifc_f (fun h9 => c ((e n (by omega)).1.mpr h9))]
/-- the least weight in f to t, and the least hour with it -/
def BST (W : Int32 → Int32) (f t b l : Int32) : Prop := l = W b ∧ f ≤ b ∧ b ≤ t ∧ (∀ h, f ≤ h → h ≤ t → W b ≤ W h) ∧ ∀ h, f ≤ h → h < b → W b < W h
theorem i_tri (a b : Int32) : a < b ∨ a = b ∨ b < a := by
  rw [Int32.lt_iff_toInt_lt, Int32.lt_iff_toInt_lt, ← Int32.toInt_inj]
  omega
theorem BST.uniq {W : Int32 → Int32} {f t b l b2 l2 : Int32} (h : BST W f t b l) (h2 : BST W f t b2 l2) : b = b2 ∧ l = l2 := by
  obtain ⟨a1, a2, a3, a4, a5⟩ := h
  obtain ⟨c1, c2, c3, c4, c5⟩ := h2
  have e : b = b2 := by
    rcases i_tri b b2 with q | q | q
    · exact absurd (c5 b a2 q) (Int32.not_lt.mpr (a4 b2 c2 c3))
    · exact q
    · exact absurd (a5 b2 c2 q) (Int32.not_lt.mpr (c4 b a2 a3))
  exact ⟨e, by rw [a1, c1, e]⟩
/-- the hours at which the weight may change, by the first k sayings -/
def CAN (P : Nat → Prop) (fs : Nat → Int32) (f t : Int32) (k : Nat) (h : Int32) : Prop := h = f ∨ ∃ s, s < k ∧ P s ∧ h = fs (s * 8 + 3) + 1 ∧ f ≤ h ∧ h ≤ t
def LBT (W : Int32 → Int32) (C : Int32 → Prop) (b l : Int32) : Prop := C b ∧ l = W b ∧ ∀ h, C h → W b < W h ∨ (W b = W h ∧ b ≤ h)
theorem CAN.up {P : Nat → Prop} {fs : Nat → Int32} {f t h : Int32} {k : Nat} (c : CAN P fs f t k h) : CAN P fs f t (k + 1) h := by
  rcases c with c | ⟨s, h1, h2⟩
  · exact Or.inl c
  · exact Or.inr ⟨s, by omega, h2⟩
theorem CAN.dn {P : Nat → Prop} {fs : Nat → Int32} {f t h : Int32} {k : Nat} (c : CAN P fs f t (k + 1) h) : CAN P fs f t k h ∨ (P k ∧ h = fs (k * 8 + 3) + 1 ∧ f ≤ h ∧ h ≤ t) := by
  rcases c with c | ⟨s, h1, h2⟩
  · exact Or.inl (Or.inl c)
  · by_cases e : s = k
    · rw [e] at h2
      exact Or.inr h2
    · exact Or.inl (Or.inr ⟨s, by omega, h2⟩)
theorem LBT.zero {P : Nat → Prop} {fs : Nat → Int32} {f t : Int32} {W : Int32 → Int32} : LBT W (CAN P fs f t 0) f (W f) := ⟨Or.inl rfl, rfl, fun h hc => by
  rcases hc with rfl | ⟨s, h1, -⟩
  · exact Or.inr ⟨rfl, Int32.le_refl _⟩
  · exact absurd h1 (Nat.not_lt_zero s)⟩
theorem LBT.skip {P : Nat → Prop} {fs : Nat → Int32} {f t b l : Int32} {W : Int32 → Int32} {k : Nat} (h : LBT W (CAN P fs f t k) b l) (hn : ¬ (P k ∧ f ≤ fs (k * 8 + 3) + 1 ∧ fs (k * 8 + 3) + 1 ≤ t)) : LBT W (CAN P fs f t (k + 1)) b l := by
  refine ⟨h.1.up, h.2.1, fun x hx => ?_⟩
  rcases hx.dn with hx | ⟨h1, h2, h3, h4⟩
  · exact h.2.2 x hx
  · rw [h2] at h3 h4
    exact absurd ⟨h1, h3, h4⟩ hn
theorem LBT.more {P : Nat → Prop} {fs : Nat → Int32} {f t b l w : Int32} {W : Int32 → Int32} {k : Nat} (h : LBT W (CAN P fs f t k) b l) (hw : w = W (fs (k * 8 + 3) + 1)) (hl : l < w) : LBT W (CAN P fs f t (k + 1)) b l := by
  refine ⟨h.1.up, h.2.1, fun x hx => ?_⟩
  rcases hx.dn with hx | ⟨h1, h2, h3, h4⟩
  · exact h.2.2 x hx
  · rw [h2, ← hw, ← h.2.1]
    exact Or.inl hl
theorem LBT.late {P : Nat → Prop} {fs : Nat → Int32} {f t b l w : Int32} {W : Int32 → Int32} {k : Nat} (h : LBT W (CAN P fs f t k) b l) (hw : w = W (fs (k * 8 + 3) + 1)) (hl : w = l) (hb : b ≤ fs (k * 8 + 3) + 1) : LBT W (CAN P fs f t (k + 1)) b l := by
  refine ⟨h.1.up, h.2.1, fun x hx => ?_⟩
  rcases hx.dn with hx | ⟨h1, h2, h3, h4⟩
  · exact h.2.2 x hx
  · rw [h2, ← hw, ← h.2.1]
    exact Or.inr ⟨hl.symm, hb⟩
theorem LBT.new {P : Nat → Prop} {fs : Nat → Int32} {f t b l w : Int32} {W : Int32 → Int32} {k : Nat} (h : LBT W (CAN P fs f t k) b l) (hw : w = W (fs (k * 8 + 3) + 1)) (hP : P k) (h1 : f ≤ fs (k * 8 + 3) + 1) (h2 : fs (k * 8 + 3) + 1 ≤ t) (hl : w < l ∨ (w = l ∧ fs (k * 8 + 3) + 1 < b)) : LBT W (CAN P fs f t (k + 1)) (fs (k * 8 + 3) + 1) w := by
  refine ⟨Or.inr ⟨k, by omega, hP, rfl, h1, h2⟩, hw, fun x hx => ?_⟩
  rcases hx.dn with hx | ⟨-, e, -⟩
  · have q := h.2.2 x hx
    rw [← h.2.1] at q
    rw [← hw]
    rw [Int32.lt_iff_toInt_lt, Int32.lt_iff_toInt_lt, ← Int32.toInt_inj] at hl
    rw [Int32.lt_iff_toInt_lt, Int32.le_iff_toInt_le, ← Int32.toInt_inj] at q
    rw [Int32.lt_iff_toInt_lt, Int32.le_iff_toInt_le, ← Int32.toInt_inj]
    omega
  · rw [e]
    exact Or.inr ⟨rfl, Int32.le_refl _⟩
theorem WGS.step {P : Nat → Prop} {fs : Nat → Int32} {n : Nat} {h g : Int32} (hg : g.toInt = h.toInt - 1) (hv : ∀ s, s < n → ∃ v, v ≤ 999 ∧ fs (s * 8 + 3) = nI v) (hn : ∀ s, s < n → P s → (fs (s * 8 + 3)).toInt ≠ g.toInt) : WGS P fs g n = WGS P fs h n := by
  refine WGS.cg n (fun s hs => ⟨and_congr_right (fun hp => ?_), rfl⟩)
  have q := hn s hs hp
  unfold AGF
  rw [Int32.lt_iff_toInt_lt, Int32.lt_iff_toInt_lt, Int32.le_iff_toInt_le, Int32.le_iff_toInt_le]
  refine or_congr (and_congr_right (fun _ => ?_)) (and_congr_right (fun _ => ?_))
  · omega
  · omega
theorem dec_ti {h : Int32} (h1 : -100000 ≤ h.toInt) (h2 : h.toInt ≤ 100000) : (h - 1).toInt = h.toInt - 1 := by
  have e1 : (1 : Int32).toInt = 1 := by decide
  rw [ti_sb (by omega) (by omega) (by rw [e1]; decide) (by rw [e1]; decide), e1]
theorem inc_ti {v : Nat} (h : v ≤ 999) : (nI v + 1).toInt = (v : Int) + 1 := by
  have e1 : (1 : Int32).toInt = 1 := by decide
  have e2 := nI_toInt (n := v) (by omega)
  rw [ti_ad (by omega) (by omega) (by rw [e1]; decide) (by rw [e1]; decide), e1, e2]
theorem CAN.near {P : Nat → Prop} {fs : Nat → Int32} {f t : Int32} {n : Nat} (hv : ∀ s, s < n → ∃ v, v ≤ 999 ∧ fs (s * 8 + 3) = nI v) (hf : -200 ≤ f.toInt) (ht : t.toInt ≤ 1167) : ∀ (d : Nat) (h : Int32), h.toInt = f.toInt + (d : Int) → h ≤ t → ∃ c, CAN P fs f t n c ∧ c ≤ h ∧ WGS P fs c n = WGS P fs h n
  | 0, h, e, _ => ⟨f, Or.inl rfl, by rw [Int32.le_iff_toInt_le]; omega, by rw [show h = f from Int32.toInt_inj.mp (by omega)]⟩
  | d + 1, h, e, hht => by
    have hh := hht
    rw [Int32.le_iff_toInt_le] at hh
    by_cases c : ∃ s, s < n ∧ P s ∧ h = fs (s * 8 + 3) + 1
    · obtain ⟨s, h1, h2, h3⟩ := c
      exact ⟨h, Or.inr ⟨s, h1, h2, h3, by rw [Int32.le_iff_toInt_le]; omega, hht⟩, Int32.le_refl h, rfl⟩
    · have e2 := dec_ti (h := h) (by omega) (by omega)
      obtain ⟨x, x1, x2, x3⟩ := CAN.near hv hf ht d (h - 1) (by omega) (by rw [Int32.le_iff_toInt_le]; omega)
      refine ⟨x, x1, by rw [Int32.le_iff_toInt_le] at *; omega, x3.trans (WGS.step e2 hv (fun s hs hp q => c ⟨s, hs, hp, ?_⟩))⟩
      obtain ⟨v, v1, v2⟩ := hv s hs
      rw [v2]
      rw [v2, nI_toInt (by omega)] at q
      exact Int32.toInt_inj.mp (by rw [inc_ti v1]; omega)
theorem LBT.bst {P : Nat → Prop} {fs : Nat → Int32} {f t b l : Int32} {n : Nat} (hv : ∀ s, s < n → ∃ v, v ≤ 999 ∧ fs (s * 8 + 3) = nI v) (hft : f ≤ t) (hf : -200 ≤ f.toInt) (ht : t.toInt ≤ 1167) (h : LBT (fun h9 => WGS P fs h9 n) (CAN P fs f t n) b l) : BST (fun h9 => WGS P fs h9 n) f t b l := by
  have hb : f ≤ b ∧ b ≤ t := by
    rcases h.1 with e | ⟨s, -, -, -, h1, h2⟩
    · rw [e]; exact ⟨Int32.le_refl f, hft⟩
    · exact ⟨h1, h2⟩
  have nr : ∀ x, f ≤ x → x ≤ t → ∃ c, CAN P fs f t n c ∧ c ≤ x ∧ WGS P fs c n = WGS P fs x n := fun x h1 h2 => by
    have h1' := h1
    rw [Int32.le_iff_toInt_le] at h1'
    exact CAN.near hv hf ht (x.toInt - f.toInt).toNat x (by omega) h2
  refine ⟨h.2.1, hb.1, hb.2, fun x h1 h2 => ?_, fun x h1 h2 => ?_⟩
  · obtain ⟨c, c1, c2, c3⟩ := nr x h1 h2
    have q : WGS P fs b n < WGS P fs c n ∨ (WGS P fs b n = WGS P fs c n ∧ b ≤ c) := h.2.2 c c1
    show WGS P fs b n ≤ WGS P fs x n
    rw [← c3]
    rcases q with q | ⟨q, -⟩
    · exact i_lt_le2 q
    · rw [q]; exact Int32.le_refl _
  · obtain ⟨c, c1, c2, c3⟩ := nr x h1 (i_le_trans (i_lt_le2 h2) hb.2)
    have q : WGS P fs b n < WGS P fs c n ∨ (WGS P fs b n = WGS P fs c n ∧ b ≤ c) := h.2.2 c c1
    show WGS P fs b n < WGS P fs x n
    rw [← c3]
    rcases q with q | ⟨-, q⟩
    · exact q
    · exact absurd (i_le_trans q c2) (Int32.not_le.mpr h2)
/-- the sayings of a person and a paper that count -/
def PWS (fs fp : Nat → Int32) (td vd vl : Int32) (e p : Nat) (s : Nat) : Prop := fs (s * 8 + 1) = nI e ∧ fs (s * 8 + 2) = nI p ∧ CSQ fs fp td vd vl s
def PSL (fe : Nat → Int32) : Prop := ∀ e, e < 10 → 0 ≤ (fe (e * 2 + 1)).toInt ∧ (fe (e * 2 + 1)).toInt ≤ 48
/-- what quarrel answers -/
def QRQ (K : Nat → Nat → Int → Prop) (ft : Nat → Int32) (V : Nat → Prop) (fp fe fs : Nat → Int32) (td vd vl : Int32) (k kp ke n : Nat) (x1 x2 x3 r : Int32) : Prop := (¬ (Hs x1 ke ∧ Hs x2 kp ∧ Wi x3 0 1) ∧ r = (-1)) ∨ ∃ e p, e < ke ∧ p < kp ∧ x1 = nI e ∧ x2 = nI p ∧ Wi x3 0 1 ∧ ((¬ V p ∧ r = (-3)) ∨ (V p ∧ ∃ f t b l, HIQ K ft V (fp (p * 6 + 0)) (fp (p * 6 + 1)) (fe (e * 2 + 1)) k p e f t ∧ BST (fun h9 => WGS (PWS fs fp td vd vl e p) fs h9 n) f t b l ∧ ((x3 = 0 ∧ r = l) ∨ (¬ x3 = 0 ∧ r = b + 1000))))
section WR
variable {p : Program} {l : Launch} {e : Env} {R : Room} {s : State} {m : MethodId} {args : Array Value} {below : List Frame} {meth : Method} {c : Code} {H : Heap} {locs : List Loc} {cells slots : Nat} {Q : State → Prop}
variable {pc : Nat} {ls : Array Slot} {rest : List Value} {G : GG} {ws : va_W} {A : Nat → Prop} {y0 : MethodName} {b0 : ByteArray} {mL0 : Nat} {rt0 : Option FieldType} {a : Nat} {H0 : Heap}
end WR
theorem Wi_le {x a b : Int32} : Wi x a b ↔ a ≤ x ∧ x ≤ b := by
  unfold Wi
  rw [Int32.not_lt, Int32.not_lt]
theorem i_le_ne {a b : Int32} (h : a ≤ b) (h2 : ¬ a = b) : a < b := by
  rw [Int32.le_iff_toInt_le] at h
  rw [← Int32.toInt_inj] at h2
  rw [Int32.lt_iff_toInt_lt]
  omega
section WR
variable {p : Program} {l : Launch} {e : Env} {R : Room} {s : State} {m : MethodId} {args : Array Value} {below : List Frame} {meth : Method} {c : Code} {H : Heap} {locs : List Loc} {cells slots : Nat} {Q : State → Prop}
variable {pc : Nat} {ls : Array Slot} {rest : List Value} {G : GG} {ws : va_W} {A : Nat → Prop} {y0 : MethodName} {b0 : ByteArray} {mL0 : Nat} {rt0 : Option FieldType} {a : Nat} {H0 : Heap}
end WR
theorem rm_42_1_3 {mc ms : Nat} : 1 + 1 ≤ (RM 42 mc ms).frames ∧ 8 + (3 + 11) + 40 * 1 ≤ (RM 42 mc ms).locals := ⟨by show 1 + 1 ≤ 42; decide, by show 8 + (3 + 11) + 40 * 1 ≤ 40 * 42; decide⟩
theorem rm_42_3_6 {mc ms : Nat} : 3 + 1 ≤ (RM 42 mc ms).frames ∧ 8 + (6 + 11) + 40 * 3 ≤ (RM 42 mc ms).locals := ⟨by show 3 + 1 ≤ 42; decide, by show 8 + (6 + 11) + 40 * 3 ≤ 40 * 42; decide⟩
theorem sm_1_39_40 {a0 a1 a2 a3 a4 a5 a6 a7 a8 a9 a10 a11 a12 a13 a14 a15 a16 a17 a18 a19 a20 a21 a22 a23 a24 a25 a26 a27 a28 a29 a30 a31 a32 a33 a34 a35 a36 a37 a38 a39 a40 : Nat × va_E} {l : va_W} : ([1, 39, 40] : List Nat).map (fun i => (a0 :: a1 :: a2 :: a3 :: a4 :: a5 :: a6 :: a7 :: a8 :: a9 :: a10 :: a11 :: a12 :: a13 :: a14 :: a15 :: a16 :: a17 :: a18 :: a19 :: a20 :: a21 :: a22 :: a23 :: a24 :: a25 :: a26 :: a27 :: a28 :: a29 :: a30 :: a31 :: a32 :: a33 :: a34 :: a35 :: a36 :: a37 :: a38 :: a39 :: a40 :: l : va_W)[i]?) = ([a1, a39, a40] : va_W).map some := rfl
theorem fm_1_39_40 {a0 a1 a2 a3 a4 a5 a6 a7 a8 a9 a10 a11 a12 a13 a14 a15 a16 a17 a18 a19 a20 a21 a22 a23 a24 a25 a26 a27 a28 a29 a30 a31 a32 a33 a34 a35 a36 a37 a38 a39 a40 : Nat × va_E} {l : va_W} : ([1, 39, 40] : List Nat).filterMap (fun i => (a0 :: a1 :: a2 :: a3 :: a4 :: a5 :: a6 :: a7 :: a8 :: a9 :: a10 :: a11 :: a12 :: a13 :: a14 :: a15 :: a16 :: a17 :: a18 :: a19 :: a20 :: a21 :: a22 :: a23 :: a24 :: a25 :: a26 :: a27 :: a28 :: a29 :: a30 :: a31 :: a32 :: a33 :: a34 :: a35 :: a36 :: a37 :: a38 :: a39 :: a40 :: l : va_W)[i]?) = ([a1, a39, a40] : va_W) := rfl
theorem nd_1_39_40 : va_nd [1, 39, 40] = true := by decide
theorem rm_42_5_4 {mc ms : Nat} : 5 + 1 ≤ (RM 42 mc ms).frames ∧ 8 + (4 + 11) + 40 * 5 ≤ (RM 42 mc ms).locals := ⟨by show 5 + 1 ≤ 42; decide, by show 8 + (4 + 11) + 40 * 5 ≤ 40 * 42; decide⟩
theorem sm_2_3_4_5_6_7_8_9_10_1_41_42 {a0 a1 a2 a3 a4 a5 a6 a7 a8 a9 a10 a11 a12 a13 a14 a15 a16 a17 a18 a19 a20 a21 a22 a23 a24 a25 a26 a27 a28 a29 a30 a31 a32 a33 a34 a35 a36 a37 a38 a39 a40 a41 a42 : Nat × va_E} {l : va_W} : ([2, 3, 4, 5, 6, 7, 8, 9, 10, 1, 41, 42] : List Nat).map (fun i => (a0 :: a1 :: a2 :: a3 :: a4 :: a5 :: a6 :: a7 :: a8 :: a9 :: a10 :: a11 :: a12 :: a13 :: a14 :: a15 :: a16 :: a17 :: a18 :: a19 :: a20 :: a21 :: a22 :: a23 :: a24 :: a25 :: a26 :: a27 :: a28 :: a29 :: a30 :: a31 :: a32 :: a33 :: a34 :: a35 :: a36 :: a37 :: a38 :: a39 :: a40 :: a41 :: a42 :: l : va_W)[i]?) = ([a2, a3, a4, a5, a6, a7, a8, a9, a10, a1, a41, a42] : va_W).map some := rfl
theorem fm_2_3_4_5_6_7_8_9_10_1_41_42 {a0 a1 a2 a3 a4 a5 a6 a7 a8 a9 a10 a11 a12 a13 a14 a15 a16 a17 a18 a19 a20 a21 a22 a23 a24 a25 a26 a27 a28 a29 a30 a31 a32 a33 a34 a35 a36 a37 a38 a39 a40 a41 a42 : Nat × va_E} {l : va_W} : ([2, 3, 4, 5, 6, 7, 8, 9, 10, 1, 41, 42] : List Nat).filterMap (fun i => (a0 :: a1 :: a2 :: a3 :: a4 :: a5 :: a6 :: a7 :: a8 :: a9 :: a10 :: a11 :: a12 :: a13 :: a14 :: a15 :: a16 :: a17 :: a18 :: a19 :: a20 :: a21 :: a22 :: a23 :: a24 :: a25 :: a26 :: a27 :: a28 :: a29 :: a30 :: a31 :: a32 :: a33 :: a34 :: a35 :: a36 :: a37 :: a38 :: a39 :: a40 :: a41 :: a42 :: l : va_W)[i]?) = ([a2, a3, a4, a5, a6, a7, a8, a9, a10, a1, a41, a42] : va_W) := rfl
theorem nd_2_3_4_5_6_7_8_9_10_1_41_42 : va_nd [2, 3, 4, 5, 6, 7, 8, 9, 10, 1, 41, 42] = true := by decide
theorem sm_0_11_12_13_14_15_16_17_18_19_20_21_22_23_24_25_26_27_28_29_30_31_32_33_34_35_36_37_38_39_40 {a0 a1 a2 a3 a4 a5 a6 a7 a8 a9 a10 a11 a12 a13 a14 a15 a16 a17 a18 a19 a20 a21 a22 a23 a24 a25 a26 a27 a28 a29 a30 a31 a32 a33 a34 a35 a36 a37 a38 a39 a40 : Nat × va_E} {l : va_W} : ([0, 11, 12, 13, 14, 15, 16, 17, 18, 19, 20, 21, 22, 23, 24, 25, 26, 27, 28, 29, 30, 31, 32, 33, 34, 35, 36, 37, 38, 39, 40] : List Nat).map (fun i => (a0 :: a1 :: a2 :: a3 :: a4 :: a5 :: a6 :: a7 :: a8 :: a9 :: a10 :: a11 :: a12 :: a13 :: a14 :: a15 :: a16 :: a17 :: a18 :: a19 :: a20 :: a21 :: a22 :: a23 :: a24 :: a25 :: a26 :: a27 :: a28 :: a29 :: a30 :: a31 :: a32 :: a33 :: a34 :: a35 :: a36 :: a37 :: a38 :: a39 :: a40 :: l : va_W)[i]?) = ([a0, a11, a12, a13, a14, a15, a16, a17, a18, a19, a20, a21, a22, a23, a24, a25, a26, a27, a28, a29, a30, a31, a32, a33, a34, a35, a36, a37, a38, a39, a40] : va_W).map some := rfl
theorem nd_0_11_12_13_14_15_16_17_18_19_20_21_22_23_24_25_26_27_28_29_30_31_32_33_34_35_36_37_38_39_40 : va_nd [0, 11, 12, 13, 14, 15, 16, 17, 18, 19, 20, 21, 22, 23, 24, 25, 26, 27, 28, 29, 30, 31, 32, 33, 34, 35, 36, 37, 38, 39, 40] = true := by decide
theorem dj_2_3_4_5_6_7_8_9_10_1_41_42__0_11_12_13_14_15_16_17_18_19_20_21_22_23_24_25_26_27_28_29_30_31_32_33_34_35_36_37_38_39_40 : ∀ i ∈ ([0, 11, 12, 13, 14, 15, 16, 17, 18, 19, 20, 21, 22, 23, 24, 25, 26, 27, 28, 29, 30, 31, 32, 33, 34, 35, 36, 37, 38, 39, 40] : List Nat), i ∉ ([2, 3, 4, 5, 6, 7, 8, 9, 10, 1, 41, 42] : List Nat) := by decide
theorem rm_42_1_1 {mc ms : Nat} : 1 + 1 ≤ (RM 42 mc ms).frames ∧ 8 + (1 + 11) + 40 * 1 ≤ (RM 42 mc ms).locals := ⟨by show 1 + 1 ≤ 42; decide, by show 8 + (1 + 11) + 40 * 1 ≤ 40 * 42; decide⟩
theorem rm_42_40_3 {mc ms : Nat} : 40 + 1 ≤ (RM 42 mc ms).frames ∧ 8 + (3 + 11) + 40 * 40 ≤ (RM 42 mc ms).locals := ⟨by show 40 + 1 ≤ 42; decide, by show 8 + (3 + 11) + 40 * 40 ≤ 40 * 42; decide⟩
theorem sm_11_12_13_14_15_16_17_18_19_20_21_22_23_24_25_26_27_28_29_30_31_32_33_34_35_36_37_38_1_41_42_39_40 {a0 a1 a2 a3 a4 a5 a6 a7 a8 a9 a10 a11 a12 a13 a14 a15 a16 a17 a18 a19 a20 a21 a22 a23 a24 a25 a26 a27 a28 a29 a30 a31 a32 a33 a34 a35 a36 a37 a38 a39 a40 a41 a42 : Nat × va_E} {l : va_W} : ([11, 12, 13, 14, 15, 16, 17, 18, 19, 20, 21, 22, 23, 24, 25, 26, 27, 28, 29, 30, 31, 32, 33, 34, 35, 36, 37, 38, 1, 41, 42, 39, 40] : List Nat).map (fun i => (a0 :: a1 :: a2 :: a3 :: a4 :: a5 :: a6 :: a7 :: a8 :: a9 :: a10 :: a11 :: a12 :: a13 :: a14 :: a15 :: a16 :: a17 :: a18 :: a19 :: a20 :: a21 :: a22 :: a23 :: a24 :: a25 :: a26 :: a27 :: a28 :: a29 :: a30 :: a31 :: a32 :: a33 :: a34 :: a35 :: a36 :: a37 :: a38 :: a39 :: a40 :: a41 :: a42 :: l : va_W)[i]?) = ([a11, a12, a13, a14, a15, a16, a17, a18, a19, a20, a21, a22, a23, a24, a25, a26, a27, a28, a29, a30, a31, a32, a33, a34, a35, a36, a37, a38, a1, a41, a42, a39, a40] : va_W).map some := rfl
theorem fm_11_12_13_14_15_16_17_18_19_20_21_22_23_24_25_26_27_28_29_30_31_32_33_34_35_36_37_38_1_41_42_39_40 {a0 a1 a2 a3 a4 a5 a6 a7 a8 a9 a10 a11 a12 a13 a14 a15 a16 a17 a18 a19 a20 a21 a22 a23 a24 a25 a26 a27 a28 a29 a30 a31 a32 a33 a34 a35 a36 a37 a38 a39 a40 a41 a42 : Nat × va_E} {l : va_W} : ([11, 12, 13, 14, 15, 16, 17, 18, 19, 20, 21, 22, 23, 24, 25, 26, 27, 28, 29, 30, 31, 32, 33, 34, 35, 36, 37, 38, 1, 41, 42, 39, 40] : List Nat).filterMap (fun i => (a0 :: a1 :: a2 :: a3 :: a4 :: a5 :: a6 :: a7 :: a8 :: a9 :: a10 :: a11 :: a12 :: a13 :: a14 :: a15 :: a16 :: a17 :: a18 :: a19 :: a20 :: a21 :: a22 :: a23 :: a24 :: a25 :: a26 :: a27 :: a28 :: a29 :: a30 :: a31 :: a32 :: a33 :: a34 :: a35 :: a36 :: a37 :: a38 :: a39 :: a40 :: a41 :: a42 :: l : va_W)[i]?) = ([a11, a12, a13, a14, a15, a16, a17, a18, a19, a20, a21, a22, a23, a24, a25, a26, a27, a28, a29, a30, a31, a32, a33, a34, a35, a36, a37, a38, a1, a41, a42, a39, a40] : va_W) := rfl
theorem nd_11_12_13_14_15_16_17_18_19_20_21_22_23_24_25_26_27_28_29_30_31_32_33_34_35_36_37_38_1_41_42_39_40 : va_nd [11, 12, 13, 14, 15, 16, 17, 18, 19, 20, 21, 22, 23, 24, 25, 26, 27, 28, 29, 30, 31, 32, 33, 34, 35, 36, 37, 38, 1, 41, 42, 39, 40] = true := by decide
theorem sm_0_2_3_4_5_6_7_8_9_10 {a0 a1 a2 a3 a4 a5 a6 a7 a8 a9 a10 : Nat × va_E} {l : va_W} : ([0, 2, 3, 4, 5, 6, 7, 8, 9, 10] : List Nat).map (fun i => (a0 :: a1 :: a2 :: a3 :: a4 :: a5 :: a6 :: a7 :: a8 :: a9 :: a10 :: l : va_W)[i]?) = ([a0, a2, a3, a4, a5, a6, a7, a8, a9, a10] : va_W).map some := rfl
theorem nd_0_2_3_4_5_6_7_8_9_10 : va_nd [0, 2, 3, 4, 5, 6, 7, 8, 9, 10] = true := by decide
theorem dj_11_12_13_14_15_16_17_18_19_20_21_22_23_24_25_26_27_28_29_30_31_32_33_34_35_36_37_38_1_41_42_39_40__0_2_3_4_5_6_7_8_9_10 : ∀ i ∈ ([0, 2, 3, 4, 5, 6, 7, 8, 9, 10] : List Nat), i ∉ ([11, 12, 13, 14, 15, 16, 17, 18, 19, 20, 21, 22, 23, 24, 25, 26, 27, 28, 29, 30, 31, 32, 33, 34, 35, 36, 37, 38, 1, 41, 42, 39, 40] : List Nat) := by decide
theorem rm_6_5_4 {mc ms : Nat} : 5 + 1 ≤ (RM 6 mc ms).frames ∧ 8 + (4 + 11) + 40 * 5 ≤ (RM 6 mc ms).locals := ⟨by show 5 + 1 ≤ 6; decide, by show 8 + (4 + 11) + 40 * 5 ≤ 40 * 6; decide⟩
theorem sm_1_2_3_4_5_6_7_8_9_13_24_25 {a0 a1 a2 a3 a4 a5 a6 a7 a8 a9 a10 a11 a12 a13 a14 a15 a16 a17 a18 a19 a20 a21 a22 a23 a24 a25 : Nat × va_E} {l : va_W} : ([1, 2, 3, 4, 5, 6, 7, 8, 9, 13, 24, 25] : List Nat).map (fun i => (a0 :: a1 :: a2 :: a3 :: a4 :: a5 :: a6 :: a7 :: a8 :: a9 :: a10 :: a11 :: a12 :: a13 :: a14 :: a15 :: a16 :: a17 :: a18 :: a19 :: a20 :: a21 :: a22 :: a23 :: a24 :: a25 :: l : va_W)[i]?) = ([a1, a2, a3, a4, a5, a6, a7, a8, a9, a13, a24, a25] : va_W).map some := rfl
theorem fm_1_2_3_4_5_6_7_8_9_13_24_25 {a0 a1 a2 a3 a4 a5 a6 a7 a8 a9 a10 a11 a12 a13 a14 a15 a16 a17 a18 a19 a20 a21 a22 a23 a24 a25 : Nat × va_E} {l : va_W} : ([1, 2, 3, 4, 5, 6, 7, 8, 9, 13, 24, 25] : List Nat).filterMap (fun i => (a0 :: a1 :: a2 :: a3 :: a4 :: a5 :: a6 :: a7 :: a8 :: a9 :: a10 :: a11 :: a12 :: a13 :: a14 :: a15 :: a16 :: a17 :: a18 :: a19 :: a20 :: a21 :: a22 :: a23 :: a24 :: a25 :: l : va_W)[i]?) = ([a1, a2, a3, a4, a5, a6, a7, a8, a9, a13, a24, a25] : va_W) := rfl
theorem nd_1_2_3_4_5_6_7_8_9_13_24_25 : va_nd [1, 2, 3, 4, 5, 6, 7, 8, 9, 13, 24, 25] = true := by decide
theorem sm_0_10_11_12_14_15_16_17_18_19_20_21_22_23 {a0 a1 a2 a3 a4 a5 a6 a7 a8 a9 a10 a11 a12 a13 a14 a15 a16 a17 a18 a19 a20 a21 a22 a23 : Nat × va_E} {l : va_W} : ([0, 10, 11, 12, 14, 15, 16, 17, 18, 19, 20, 21, 22, 23] : List Nat).map (fun i => (a0 :: a1 :: a2 :: a3 :: a4 :: a5 :: a6 :: a7 :: a8 :: a9 :: a10 :: a11 :: a12 :: a13 :: a14 :: a15 :: a16 :: a17 :: a18 :: a19 :: a20 :: a21 :: a22 :: a23 :: l : va_W)[i]?) = ([a0, a10, a11, a12, a14, a15, a16, a17, a18, a19, a20, a21, a22, a23] : va_W).map some := rfl
theorem nd_0_10_11_12_14_15_16_17_18_19_20_21_22_23 : va_nd [0, 10, 11, 12, 14, 15, 16, 17, 18, 19, 20, 21, 22, 23] = true := by decide
theorem dj_1_2_3_4_5_6_7_8_9_13_24_25__0_10_11_12_14_15_16_17_18_19_20_21_22_23 : ∀ i ∈ ([0, 10, 11, 12, 14, 15, 16, 17, 18, 19, 20, 21, 22, 23] : List Nat), i ∉ ([1, 2, 3, 4, 5, 6, 7, 8, 9, 13, 24, 25] : List Nat) := by decide
theorem rm_6_5_5 {mc ms : Nat} : 5 + 1 ≤ (RM 6 mc ms).frames ∧ 8 + (5 + 11) + 40 * 5 ≤ (RM 6 mc ms).locals := ⟨by show 5 + 1 ≤ 6; decide, by show 8 + (5 + 11) + 40 * 5 ≤ 40 * 6; decide⟩
theorem sm_1_2_3_14_18_19_20_21_22_23_4_5_6_7_8_9_10_11_12_13 {a0 a1 a2 a3 a4 a5 a6 a7 a8 a9 a10 a11 a12 a13 a14 a15 a16 a17 a18 a19 a20 a21 a22 a23 : Nat × va_E} {l : va_W} : ([1, 2, 3, 14, 18, 19, 20, 21, 22, 23, 4, 5, 6, 7, 8, 9, 10, 11, 12, 13] : List Nat).map (fun i => (a0 :: a1 :: a2 :: a3 :: a4 :: a5 :: a6 :: a7 :: a8 :: a9 :: a10 :: a11 :: a12 :: a13 :: a14 :: a15 :: a16 :: a17 :: a18 :: a19 :: a20 :: a21 :: a22 :: a23 :: l : va_W)[i]?) = ([a1, a2, a3, a14, a18, a19, a20, a21, a22, a23, a4, a5, a6, a7, a8, a9, a10, a11, a12, a13] : va_W).map some := rfl
theorem fm_1_2_3_14_18_19_20_21_22_23_4_5_6_7_8_9_10_11_12_13 {a0 a1 a2 a3 a4 a5 a6 a7 a8 a9 a10 a11 a12 a13 a14 a15 a16 a17 a18 a19 a20 a21 a22 a23 : Nat × va_E} {l : va_W} : ([1, 2, 3, 14, 18, 19, 20, 21, 22, 23, 4, 5, 6, 7, 8, 9, 10, 11, 12, 13] : List Nat).filterMap (fun i => (a0 :: a1 :: a2 :: a3 :: a4 :: a5 :: a6 :: a7 :: a8 :: a9 :: a10 :: a11 :: a12 :: a13 :: a14 :: a15 :: a16 :: a17 :: a18 :: a19 :: a20 :: a21 :: a22 :: a23 :: l : va_W)[i]?) = ([a1, a2, a3, a14, a18, a19, a20, a21, a22, a23, a4, a5, a6, a7, a8, a9, a10, a11, a12, a13] : va_W) := rfl
theorem nd_1_2_3_14_18_19_20_21_22_23_4_5_6_7_8_9_10_11_12_13 : va_nd [1, 2, 3, 14, 18, 19, 20, 21, 22, 23, 4, 5, 6, 7, 8, 9, 10, 11, 12, 13] = true := by decide
theorem sm_0_15_16_17_24_25 {a0 a1 a2 a3 a4 a5 a6 a7 a8 a9 a10 a11 a12 a13 a14 a15 a16 a17 a18 a19 a20 a21 a22 a23 a24 a25 : Nat × va_E} {l : va_W} : ([0, 15, 16, 17, 24, 25] : List Nat).map (fun i => (a0 :: a1 :: a2 :: a3 :: a4 :: a5 :: a6 :: a7 :: a8 :: a9 :: a10 :: a11 :: a12 :: a13 :: a14 :: a15 :: a16 :: a17 :: a18 :: a19 :: a20 :: a21 :: a22 :: a23 :: a24 :: a25 :: l : va_W)[i]?) = ([a0, a15, a16, a17, a24, a25] : va_W).map some := rfl
theorem nd_0_15_16_17_24_25 : va_nd [0, 15, 16, 17, 24, 25] = true := by decide
theorem dj_1_2_3_14_18_19_20_21_22_23_4_5_6_7_8_9_10_11_12_13__0_15_16_17_24_25 : ∀ i ∈ ([0, 15, 16, 17, 24, 25] : List Nat), i ∉ ([1, 2, 3, 14, 18, 19, 20, 21, 22, 23, 4, 5, 6, 7, 8, 9, 10, 11, 12, 13] : List Nat) := by decide
theorem sm_6_8 {a0 a1 a2 a3 a4 a5 a6 a7 a8 : Nat × va_E} {l : va_W} : ([6, 8] : List Nat).map (fun i => (a0 :: a1 :: a2 :: a3 :: a4 :: a5 :: a6 :: a7 :: a8 :: l : va_W)[i]?) = ([a6, a8] : va_W).map some := rfl
theorem fm_6_8 {a0 a1 a2 a3 a4 a5 a6 a7 a8 : Nat × va_E} {l : va_W} : ([6, 8] : List Nat).filterMap (fun i => (a0 :: a1 :: a2 :: a3 :: a4 :: a5 :: a6 :: a7 :: a8 :: l : va_W)[i]?) = ([a6, a8] : va_W) := rfl
theorem nd_6_8 : va_nd [6, 8] = true := by decide
theorem rm_6_4_6 {mc ms : Nat} : 4 + 1 ≤ (RM 6 mc ms).frames ∧ 8 + (6 + 11) + 40 * 4 ≤ (RM 6 mc ms).locals := ⟨by show 4 + 1 ≤ 6; decide, by show 8 + (6 + 11) + 40 * 4 ≤ 40 * 6; decide⟩
theorem sm_14_18_19_20_21_22_23_8_9_6_7 {a0 a1 a2 a3 a4 a5 a6 a7 a8 a9 a10 a11 a12 a13 a14 a15 a16 a17 a18 a19 a20 a21 a22 a23 : Nat × va_E} {l : va_W} : ([14, 18, 19, 20, 21, 22, 23, 8, 9, 6, 7] : List Nat).map (fun i => (a0 :: a1 :: a2 :: a3 :: a4 :: a5 :: a6 :: a7 :: a8 :: a9 :: a10 :: a11 :: a12 :: a13 :: a14 :: a15 :: a16 :: a17 :: a18 :: a19 :: a20 :: a21 :: a22 :: a23 :: l : va_W)[i]?) = ([a14, a18, a19, a20, a21, a22, a23, a8, a9, a6, a7] : va_W).map some := rfl
theorem fm_14_18_19_20_21_22_23_8_9_6_7 {a0 a1 a2 a3 a4 a5 a6 a7 a8 a9 a10 a11 a12 a13 a14 a15 a16 a17 a18 a19 a20 a21 a22 a23 : Nat × va_E} {l : va_W} : ([14, 18, 19, 20, 21, 22, 23, 8, 9, 6, 7] : List Nat).filterMap (fun i => (a0 :: a1 :: a2 :: a3 :: a4 :: a5 :: a6 :: a7 :: a8 :: a9 :: a10 :: a11 :: a12 :: a13 :: a14 :: a15 :: a16 :: a17 :: a18 :: a19 :: a20 :: a21 :: a22 :: a23 :: l : va_W)[i]?) = ([a14, a18, a19, a20, a21, a22, a23, a8, a9, a6, a7] : va_W) := rfl
theorem nd_14_18_19_20_21_22_23_8_9_6_7 : va_nd [14, 18, 19, 20, 21, 22, 23, 8, 9, 6, 7] = true := by decide
theorem sm_16 {a0 a1 a2 a3 a4 a5 a6 a7 a8 a9 a10 a11 a12 a13 a14 a15 a16 : Nat × va_E} {l : va_W} : ([16] : List Nat).map (fun i => (a0 :: a1 :: a2 :: a3 :: a4 :: a5 :: a6 :: a7 :: a8 :: a9 :: a10 :: a11 :: a12 :: a13 :: a14 :: a15 :: a16 :: l : va_W)[i]?) = ([a16] : va_W).map some := rfl
theorem fm_16 {a0 a1 a2 a3 a4 a5 a6 a7 a8 a9 a10 a11 a12 a13 a14 a15 a16 : Nat × va_E} {l : va_W} : ([16] : List Nat).filterMap (fun i => (a0 :: a1 :: a2 :: a3 :: a4 :: a5 :: a6 :: a7 :: a8 :: a9 :: a10 :: a11 :: a12 :: a13 :: a14 :: a15 :: a16 :: l : va_W)[i]?) = ([a16] : va_W) := rfl
theorem nd_16 : va_nd [16] = true := by decide
theorem rm_7_2_1 {mc ms : Nat} : 2 + 1 ≤ (RM 7 mc ms).frames ∧ 8 + (1 + 11) + 40 * 2 ≤ (RM 7 mc ms).locals := ⟨by show 2 + 1 ≤ 7; decide, by show 8 + (1 + 11) + 40 * 2 ≤ 40 * 7; decide⟩
theorem sm_13_18_19 {a0 a1 a2 a3 a4 a5 a6 a7 a8 a9 a10 a11 a12 a13 a14 a15 a16 a17 a18 a19 : Nat × va_E} {l : va_W} : ([13, 18, 19] : List Nat).map (fun i => (a0 :: a1 :: a2 :: a3 :: a4 :: a5 :: a6 :: a7 :: a8 :: a9 :: a10 :: a11 :: a12 :: a13 :: a14 :: a15 :: a16 :: a17 :: a18 :: a19 :: l : va_W)[i]?) = ([a13, a18, a19] : va_W).map some := rfl
theorem fm_13_18_19 {a0 a1 a2 a3 a4 a5 a6 a7 a8 a9 a10 a11 a12 a13 a14 a15 a16 a17 a18 a19 : Nat × va_E} {l : va_W} : ([13, 18, 19] : List Nat).filterMap (fun i => (a0 :: a1 :: a2 :: a3 :: a4 :: a5 :: a6 :: a7 :: a8 :: a9 :: a10 :: a11 :: a12 :: a13 :: a14 :: a15 :: a16 :: a17 :: a18 :: a19 :: l : va_W)[i]?) = ([a13, a18, a19] : va_W) := rfl
theorem nd_13_18_19 : va_nd [13, 18, 19] = true := by decide
theorem rm_7_6_5 {mc ms : Nat} : 6 + 1 ≤ (RM 7 mc ms).frames ∧ 8 + (5 + 11) + 40 * 6 ≤ (RM 7 mc ms).locals := ⟨by show 6 + 1 ≤ 7; decide, by show 8 + (5 + 11) + 40 * 6 ≤ 40 * 7; decide⟩
theorem sm_0_1_2_3_4_5_6_7_8_9_10_11_12_13_14_15_16_17_18_19_20_21_22_23_24_25 {a0 a1 a2 a3 a4 a5 a6 a7 a8 a9 a10 a11 a12 a13 a14 a15 a16 a17 a18 a19 a20 a21 a22 a23 a24 a25 : Nat × va_E} {l : va_W} : ([0, 1, 2, 3, 4, 5, 6, 7, 8, 9, 10, 11, 12, 13, 14, 15, 16, 17, 18, 19, 20, 21, 22, 23, 24, 25] : List Nat).map (fun i => (a0 :: a1 :: a2 :: a3 :: a4 :: a5 :: a6 :: a7 :: a8 :: a9 :: a10 :: a11 :: a12 :: a13 :: a14 :: a15 :: a16 :: a17 :: a18 :: a19 :: a20 :: a21 :: a22 :: a23 :: a24 :: a25 :: l : va_W)[i]?) = ([a0, a1, a2, a3, a4, a5, a6, a7, a8, a9, a10, a11, a12, a13, a14, a15, a16, a17, a18, a19, a20, a21, a22, a23, a24, a25] : va_W).map some := rfl
theorem fm_0_1_2_3_4_5_6_7_8_9_10_11_12_13_14_15_16_17_18_19_20_21_22_23_24_25 {a0 a1 a2 a3 a4 a5 a6 a7 a8 a9 a10 a11 a12 a13 a14 a15 a16 a17 a18 a19 a20 a21 a22 a23 a24 a25 : Nat × va_E} {l : va_W} : ([0, 1, 2, 3, 4, 5, 6, 7, 8, 9, 10, 11, 12, 13, 14, 15, 16, 17, 18, 19, 20, 21, 22, 23, 24, 25] : List Nat).filterMap (fun i => (a0 :: a1 :: a2 :: a3 :: a4 :: a5 :: a6 :: a7 :: a8 :: a9 :: a10 :: a11 :: a12 :: a13 :: a14 :: a15 :: a16 :: a17 :: a18 :: a19 :: a20 :: a21 :: a22 :: a23 :: a24 :: a25 :: l : va_W)[i]?) = ([a0, a1, a2, a3, a4, a5, a6, a7, a8, a9, a10, a11, a12, a13, a14, a15, a16, a17, a18, a19, a20, a21, a22, a23, a24, a25] : va_W) := rfl
theorem nd_0_1_2_3_4_5_6_7_8_9_10_11_12_13_14_15_16_17_18_19_20_21_22_23_24_25 : va_nd [0, 1, 2, 3, 4, 5, 6, 7, 8, 9, 10, 11, 12, 13, 14, 15, 16, 17, 18, 19, 20, 21, 22, 23, 24, 25] = true := by decide
theorem rm_7_5_5 {mc ms : Nat} : 5 + 1 ≤ (RM 7 mc ms).frames ∧ 8 + (5 + 11) + 40 * 5 ≤ (RM 7 mc ms).locals := ⟨by show 5 + 1 ≤ 7; decide, by show 8 + (5 + 11) + 40 * 5 ≤ 40 * 7; decide⟩
theorem rm_7_4_6 {mc ms : Nat} : 4 + 1 ≤ (RM 7 mc ms).frames ∧ 8 + (6 + 11) + 40 * 4 ≤ (RM 7 mc ms).locals := ⟨by show 4 + 1 ≤ 7; decide, by show 8 + (6 + 11) + 40 * 4 ≤ 40 * 7; decide⟩
theorem sm_9_10_11_12_13_14_15_20_21_18_19 {a0 a1 a2 a3 a4 a5 a6 a7 a8 a9 a10 a11 a12 a13 a14 a15 a16 a17 a18 a19 a20 a21 : Nat × va_E} {l : va_W} : ([9, 10, 11, 12, 13, 14, 15, 20, 21, 18, 19] : List Nat).map (fun i => (a0 :: a1 :: a2 :: a3 :: a4 :: a5 :: a6 :: a7 :: a8 :: a9 :: a10 :: a11 :: a12 :: a13 :: a14 :: a15 :: a16 :: a17 :: a18 :: a19 :: a20 :: a21 :: l : va_W)[i]?) = ([a9, a10, a11, a12, a13, a14, a15, a20, a21, a18, a19] : va_W).map some := rfl
theorem fm_9_10_11_12_13_14_15_20_21_18_19 {a0 a1 a2 a3 a4 a5 a6 a7 a8 a9 a10 a11 a12 a13 a14 a15 a16 a17 a18 a19 a20 a21 : Nat × va_E} {l : va_W} : ([9, 10, 11, 12, 13, 14, 15, 20, 21, 18, 19] : List Nat).filterMap (fun i => (a0 :: a1 :: a2 :: a3 :: a4 :: a5 :: a6 :: a7 :: a8 :: a9 :: a10 :: a11 :: a12 :: a13 :: a14 :: a15 :: a16 :: a17 :: a18 :: a19 :: a20 :: a21 :: l : va_W)[i]?) = ([a9, a10, a11, a12, a13, a14, a15, a20, a21, a18, a19] : va_W) := rfl
theorem nd_9_10_11_12_13_14_15_20_21_18_19 : va_nd [9, 10, 11, 12, 13, 14, 15, 20, 21, 18, 19] = true := by decide
theorem sm_6_8_15_22_23 {a0 a1 a2 a3 a4 a5 a6 a7 a8 a9 a10 a11 a12 a13 a14 a15 a16 a17 a18 a19 a20 a21 a22 a23 : Nat × va_E} {l : va_W} : ([6, 8, 15, 22, 23] : List Nat).map (fun i => (a0 :: a1 :: a2 :: a3 :: a4 :: a5 :: a6 :: a7 :: a8 :: a9 :: a10 :: a11 :: a12 :: a13 :: a14 :: a15 :: a16 :: a17 :: a18 :: a19 :: a20 :: a21 :: a22 :: a23 :: l : va_W)[i]?) = ([a6, a8, a15, a22, a23] : va_W).map some := rfl
theorem fm_6_8_15_22_23 {a0 a1 a2 a3 a4 a5 a6 a7 a8 a9 a10 a11 a12 a13 a14 a15 a16 a17 a18 a19 a20 a21 a22 a23 : Nat × va_E} {l : va_W} : ([6, 8, 15, 22, 23] : List Nat).filterMap (fun i => (a0 :: a1 :: a2 :: a3 :: a4 :: a5 :: a6 :: a7 :: a8 :: a9 :: a10 :: a11 :: a12 :: a13 :: a14 :: a15 :: a16 :: a17 :: a18 :: a19 :: a20 :: a21 :: a22 :: a23 :: l : va_W)[i]?) = ([a6, a8, a15, a22, a23] : va_W) := rfl
theorem nd_6_8_15_22_23 : va_nd [6, 8, 15, 22, 23] = true := by decide
theorem sm_26_27 {a0 a1 a2 a3 a4 a5 a6 a7 a8 a9 a10 a11 a12 a13 a14 a15 a16 a17 a18 a19 a20 a21 a22 a23 a24 a25 a26 a27 : Nat × va_E} {l : va_W} : ([26, 27] : List Nat).map (fun i => (a0 :: a1 :: a2 :: a3 :: a4 :: a5 :: a6 :: a7 :: a8 :: a9 :: a10 :: a11 :: a12 :: a13 :: a14 :: a15 :: a16 :: a17 :: a18 :: a19 :: a20 :: a21 :: a22 :: a23 :: a24 :: a25 :: a26 :: a27 :: l : va_W)[i]?) = ([a26, a27] : va_W).map some := rfl
theorem fm_26_27 {a0 a1 a2 a3 a4 a5 a6 a7 a8 a9 a10 a11 a12 a13 a14 a15 a16 a17 a18 a19 a20 a21 a22 a23 a24 a25 a26 a27 : Nat × va_E} {l : va_W} : ([26, 27] : List Nat).filterMap (fun i => (a0 :: a1 :: a2 :: a3 :: a4 :: a5 :: a6 :: a7 :: a8 :: a9 :: a10 :: a11 :: a12 :: a13 :: a14 :: a15 :: a16 :: a17 :: a18 :: a19 :: a20 :: a21 :: a22 :: a23 :: a24 :: a25 :: a26 :: a27 :: l : va_W)[i]?) = ([a26, a27] : va_W) := rfl
theorem nd_26_27 : va_nd [26, 27] = true := by decide
theorem dj_0_1_2_3_4_5_6_7_8_9_10_11_12_13_14_15_16_17_18_19_20_21_22_23_24_25__26_27 : ∀ i ∈ ([26, 27] : List Nat), i ∉ ([0, 1, 2, 3, 4, 5, 6, 7, 8, 9, 10, 11, 12, 13, 14, 15, 16, 17, 18, 19, 20, 21, 22, 23, 24, 25] : List Nat) := by decide
theorem rm_8_7_6 {mc ms : Nat} : 7 + 1 ≤ (RM 8 mc ms).frames ∧ 8 + (6 + 11) + 40 * 7 ≤ (RM 8 mc ms).locals := ⟨by show 7 + 1 ≤ 8; decide, by show 8 + (6 + 11) + 40 * 7 ≤ 40 * 8; decide⟩
theorem sm_0_1_2_3_4_5_6_7_8_9_10_11_12_13_14_15_16_17_18_19_20_21_22_23_24_25_26_27 {a0 a1 a2 a3 a4 a5 a6 a7 a8 a9 a10 a11 a12 a13 a14 a15 a16 a17 a18 a19 a20 a21 a22 a23 a24 a25 a26 a27 : Nat × va_E} {l : va_W} : ([0, 1, 2, 3, 4, 5, 6, 7, 8, 9, 10, 11, 12, 13, 14, 15, 16, 17, 18, 19, 20, 21, 22, 23, 24, 25, 26, 27] : List Nat).map (fun i => (a0 :: a1 :: a2 :: a3 :: a4 :: a5 :: a6 :: a7 :: a8 :: a9 :: a10 :: a11 :: a12 :: a13 :: a14 :: a15 :: a16 :: a17 :: a18 :: a19 :: a20 :: a21 :: a22 :: a23 :: a24 :: a25 :: a26 :: a27 :: l : va_W)[i]?) = ([a0, a1, a2, a3, a4, a5, a6, a7, a8, a9, a10, a11, a12, a13, a14, a15, a16, a17, a18, a19, a20, a21, a22, a23, a24, a25, a26, a27] : va_W).map some := rfl
theorem fm_0_1_2_3_4_5_6_7_8_9_10_11_12_13_14_15_16_17_18_19_20_21_22_23_24_25_26_27 {a0 a1 a2 a3 a4 a5 a6 a7 a8 a9 a10 a11 a12 a13 a14 a15 a16 a17 a18 a19 a20 a21 a22 a23 a24 a25 a26 a27 : Nat × va_E} {l : va_W} : ([0, 1, 2, 3, 4, 5, 6, 7, 8, 9, 10, 11, 12, 13, 14, 15, 16, 17, 18, 19, 20, 21, 22, 23, 24, 25, 26, 27] : List Nat).filterMap (fun i => (a0 :: a1 :: a2 :: a3 :: a4 :: a5 :: a6 :: a7 :: a8 :: a9 :: a10 :: a11 :: a12 :: a13 :: a14 :: a15 :: a16 :: a17 :: a18 :: a19 :: a20 :: a21 :: a22 :: a23 :: a24 :: a25 :: a26 :: a27 :: l : va_W)[i]?) = ([a0, a1, a2, a3, a4, a5, a6, a7, a8, a9, a10, a11, a12, a13, a14, a15, a16, a17, a18, a19, a20, a21, a22, a23, a24, a25, a26, a27] : va_W) := rfl
theorem nd_0_1_2_3_4_5_6_7_8_9_10_11_12_13_14_15_16_17_18_19_20_21_22_23_24_25_26_27 : va_nd [0, 1, 2, 3, 4, 5, 6, 7, 8, 9, 10, 11, 12, 13, 14, 15, 16, 17, 18, 19, 20, 21, 22, 23, 24, 25, 26, 27] = true := by decide
theorem rm_8_1_1 {mc ms : Nat} : 1 + 1 ≤ (RM 8 mc ms).frames ∧ 8 + (1 + 11) + 40 * 1 ≤ (RM 8 mc ms).locals := ⟨by show 1 + 1 ≤ 8; decide, by show 8 + (1 + 11) + 40 * 1 ≤ 40 * 8; decide⟩
theorem sm_18 {a0 a1 a2 a3 a4 a5 a6 a7 a8 a9 a10 a11 a12 a13 a14 a15 a16 a17 a18 : Nat × va_E} {l : va_W} : ([18] : List Nat).map (fun i => (a0 :: a1 :: a2 :: a3 :: a4 :: a5 :: a6 :: a7 :: a8 :: a9 :: a10 :: a11 :: a12 :: a13 :: a14 :: a15 :: a16 :: a17 :: a18 :: l : va_W)[i]?) = ([a18] : va_W).map some := rfl
theorem fm_18 {a0 a1 a2 a3 a4 a5 a6 a7 a8 a9 a10 a11 a12 a13 a14 a15 a16 a17 a18 : Nat × va_E} {l : va_W} : ([18] : List Nat).filterMap (fun i => (a0 :: a1 :: a2 :: a3 :: a4 :: a5 :: a6 :: a7 :: a8 :: a9 :: a10 :: a11 :: a12 :: a13 :: a14 :: a15 :: a16 :: a17 :: a18 :: l : va_W)[i]?) = ([a18] : va_W) := rfl
theorem nd_18 : va_nd [18] = true := by decide
theorem rm_8_1_2 {mc ms : Nat} : 1 + 1 ≤ (RM 8 mc ms).frames ∧ 8 + (2 + 11) + 40 * 1 ≤ (RM 8 mc ms).locals := ⟨by show 1 + 1 ≤ 8; decide, by show 8 + (2 + 11) + 40 * 1 ≤ 40 * 8; decide⟩
theorem sm_26 {a0 a1 a2 a3 a4 a5 a6 a7 a8 a9 a10 a11 a12 a13 a14 a15 a16 a17 a18 a19 a20 a21 a22 a23 a24 a25 a26 : Nat × va_E} {l : va_W} : ([26] : List Nat).map (fun i => (a0 :: a1 :: a2 :: a3 :: a4 :: a5 :: a6 :: a7 :: a8 :: a9 :: a10 :: a11 :: a12 :: a13 :: a14 :: a15 :: a16 :: a17 :: a18 :: a19 :: a20 :: a21 :: a22 :: a23 :: a24 :: a25 :: a26 :: l : va_W)[i]?) = ([a26] : va_W).map some := rfl
theorem fm_26 {a0 a1 a2 a3 a4 a5 a6 a7 a8 a9 a10 a11 a12 a13 a14 a15 a16 a17 a18 a19 a20 a21 a22 a23 a24 a25 a26 : Nat × va_E} {l : va_W} : ([26] : List Nat).filterMap (fun i => (a0 :: a1 :: a2 :: a3 :: a4 :: a5 :: a6 :: a7 :: a8 :: a9 :: a10 :: a11 :: a12 :: a13 :: a14 :: a15 :: a16 :: a17 :: a18 :: a19 :: a20 :: a21 :: a22 :: a23 :: a24 :: a25 :: a26 :: l : va_W)[i]?) = ([a26] : va_W) := rfl
theorem nd_26 : va_nd [26] = true := by decide
theorem sm_15_16 {a0 a1 a2 a3 a4 a5 a6 a7 a8 a9 a10 a11 a12 a13 a14 a15 a16 : Nat × va_E} {l : va_W} : ([15, 16] : List Nat).map (fun i => (a0 :: a1 :: a2 :: a3 :: a4 :: a5 :: a6 :: a7 :: a8 :: a9 :: a10 :: a11 :: a12 :: a13 :: a14 :: a15 :: a16 :: l : va_W)[i]?) = ([a15, a16] : va_W).map some := rfl
theorem fm_15_16 {a0 a1 a2 a3 a4 a5 a6 a7 a8 a9 a10 a11 a12 a13 a14 a15 a16 : Nat × va_E} {l : va_W} : ([15, 16] : List Nat).filterMap (fun i => (a0 :: a1 :: a2 :: a3 :: a4 :: a5 :: a6 :: a7 :: a8 :: a9 :: a10 :: a11 :: a12 :: a13 :: a14 :: a15 :: a16 :: l : va_W)[i]?) = ([a15, a16] : va_W) := rfl
theorem nd_15_16 : va_nd [15, 16] = true := by decide
theorem rm_7_4_5 {mc ms : Nat} : 4 + 1 ≤ (RM 7 mc ms).frames ∧ 8 + (5 + 11) + 40 * 4 ≤ (RM 7 mc ms).locals := ⟨by show 4 + 1 ≤ 7; decide, by show 8 + (5 + 11) + 40 * 4 ≤ 40 * 7; decide⟩
theorem sm_1_2_4_5_6_7_8_9_10_11_12_13_14 {a0 a1 a2 a3 a4 a5 a6 a7 a8 a9 a10 a11 a12 a13 a14 : Nat × va_E} {l : va_W} : ([1, 2, 4, 5, 6, 7, 8, 9, 10, 11, 12, 13, 14] : List Nat).map (fun i => (a0 :: a1 :: a2 :: a3 :: a4 :: a5 :: a6 :: a7 :: a8 :: a9 :: a10 :: a11 :: a12 :: a13 :: a14 :: l : va_W)[i]?) = ([a1, a2, a4, a5, a6, a7, a8, a9, a10, a11, a12, a13, a14] : va_W).map some := rfl
theorem fm_1_2_4_5_6_7_8_9_10_11_12_13_14 {a0 a1 a2 a3 a4 a5 a6 a7 a8 a9 a10 a11 a12 a13 a14 : Nat × va_E} {l : va_W} : ([1, 2, 4, 5, 6, 7, 8, 9, 10, 11, 12, 13, 14] : List Nat).filterMap (fun i => (a0 :: a1 :: a2 :: a3 :: a4 :: a5 :: a6 :: a7 :: a8 :: a9 :: a10 :: a11 :: a12 :: a13 :: a14 :: l : va_W)[i]?) = ([a1, a2, a4, a5, a6, a7, a8, a9, a10, a11, a12, a13, a14] : va_W) := rfl
theorem nd_1_2_4_5_6_7_8_9_10_11_12_13_14 : va_nd [1, 2, 4, 5, 6, 7, 8, 9, 10, 11, 12, 13, 14] = true := by decide
theorem sm_0_3_15_16_17_18_19_20 {a0 a1 a2 a3 a4 a5 a6 a7 a8 a9 a10 a11 a12 a13 a14 a15 a16 a17 a18 a19 a20 : Nat × va_E} {l : va_W} : ([0, 3, 15, 16, 17, 18, 19, 20] : List Nat).map (fun i => (a0 :: a1 :: a2 :: a3 :: a4 :: a5 :: a6 :: a7 :: a8 :: a9 :: a10 :: a11 :: a12 :: a13 :: a14 :: a15 :: a16 :: a17 :: a18 :: a19 :: a20 :: l : va_W)[i]?) = ([a0, a3, a15, a16, a17, a18, a19, a20] : va_W).map some := rfl
theorem nd_0_3_15_16_17_18_19_20 : va_nd [0, 3, 15, 16, 17, 18, 19, 20] = true := by decide
theorem dj_1_2_4_5_6_7_8_9_10_11_12_13_14__0_3_15_16_17_18_19_20 : ∀ i ∈ ([0, 3, 15, 16, 17, 18, 19, 20] : List Nat), i ∉ ([1, 2, 4, 5, 6, 7, 8, 9, 10, 11, 12, 13, 14] : List Nat) := by decide
theorem sm_10_4_5 {a0 a1 a2 a3 a4 a5 a6 a7 a8 a9 a10 : Nat × va_E} {l : va_W} : ([10, 4, 5] : List Nat).map (fun i => (a0 :: a1 :: a2 :: a3 :: a4 :: a5 :: a6 :: a7 :: a8 :: a9 :: a10 :: l : va_W)[i]?) = ([a10, a4, a5] : va_W).map some := rfl
theorem fm_10_4_5 {a0 a1 a2 a3 a4 a5 a6 a7 a8 a9 a10 : Nat × va_E} {l : va_W} : ([10, 4, 5] : List Nat).filterMap (fun i => (a0 :: a1 :: a2 :: a3 :: a4 :: a5 :: a6 :: a7 :: a8 :: a9 :: a10 :: l : va_W)[i]?) = ([a10, a4, a5] : va_W) := rfl
theorem nd_10_4_5 : va_nd [10, 4, 5] = true := by decide
theorem sm_8_10_17_18 {a0 a1 a2 a3 a4 a5 a6 a7 a8 a9 a10 a11 a12 a13 a14 a15 a16 a17 a18 : Nat × va_E} {l : va_W} : ([8, 10, 17, 18] : List Nat).map (fun i => (a0 :: a1 :: a2 :: a3 :: a4 :: a5 :: a6 :: a7 :: a8 :: a9 :: a10 :: a11 :: a12 :: a13 :: a14 :: a15 :: a16 :: a17 :: a18 :: l : va_W)[i]?) = ([a8, a10, a17, a18] : va_W).map some := rfl
theorem fm_8_10_17_18 {a0 a1 a2 a3 a4 a5 a6 a7 a8 a9 a10 a11 a12 a13 a14 a15 a16 a17 a18 : Nat × va_E} {l : va_W} : ([8, 10, 17, 18] : List Nat).filterMap (fun i => (a0 :: a1 :: a2 :: a3 :: a4 :: a5 :: a6 :: a7 :: a8 :: a9 :: a10 :: a11 :: a12 :: a13 :: a14 :: a15 :: a16 :: a17 :: a18 :: l : va_W)[i]?) = ([a8, a10, a17, a18] : va_W) := rfl
theorem nd_8_10_17_18 : va_nd [8, 10, 17, 18] = true := by decide
theorem sm_10 {a0 a1 a2 a3 a4 a5 a6 a7 a8 a9 a10 : Nat × va_E} {l : va_W} : ([10] : List Nat).map (fun i => (a0 :: a1 :: a2 :: a3 :: a4 :: a5 :: a6 :: a7 :: a8 :: a9 :: a10 :: l : va_W)[i]?) = ([a10] : va_W).map some := rfl
theorem fm_10 {a0 a1 a2 a3 a4 a5 a6 a7 a8 a9 a10 : Nat × va_E} {l : va_W} : ([10] : List Nat).filterMap (fun i => (a0 :: a1 :: a2 :: a3 :: a4 :: a5 :: a6 :: a7 :: a8 :: a9 :: a10 :: l : va_W)[i]?) = ([a10] : va_W) := rfl
theorem nd_10 : va_nd [10] = true := by decide
theorem rm_7_3_5 {mc ms : Nat} : 3 + 1 ≤ (RM 7 mc ms).frames ∧ 8 + (5 + 11) + 40 * 3 ≤ (RM 7 mc ms).locals := ⟨by show 3 + 1 ≤ 7; decide, by show 8 + (5 + 11) + 40 * 3 ≤ 40 * 7; decide⟩
theorem sm_10_6_7 {a0 a1 a2 a3 a4 a5 a6 a7 a8 a9 a10 : Nat × va_E} {l : va_W} : ([10, 6, 7] : List Nat).map (fun i => (a0 :: a1 :: a2 :: a3 :: a4 :: a5 :: a6 :: a7 :: a8 :: a9 :: a10 :: l : va_W)[i]?) = ([a10, a6, a7] : va_W).map some := rfl
theorem fm_10_6_7 {a0 a1 a2 a3 a4 a5 a6 a7 a8 a9 a10 : Nat × va_E} {l : va_W} : ([10, 6, 7] : List Nat).filterMap (fun i => (a0 :: a1 :: a2 :: a3 :: a4 :: a5 :: a6 :: a7 :: a8 :: a9 :: a10 :: l : va_W)[i]?) = ([a10, a6, a7] : va_W) := rfl
theorem nd_10_6_7 : va_nd [10, 6, 7] = true := by decide
theorem rm_9_1_2 {mc ms : Nat} : 1 + 1 ≤ (RM 9 mc ms).frames ∧ 8 + (2 + 11) + 40 * 1 ≤ (RM 9 mc ms).locals := ⟨by show 1 + 1 ≤ 9; decide, by show 8 + (2 + 11) + 40 * 1 ≤ 40 * 9; decide⟩
theorem rm_9_3_6 {mc ms : Nat} : 3 + 1 ≤ (RM 9 mc ms).frames ∧ 8 + (6 + 11) + 40 * 3 ≤ (RM 9 mc ms).locals := ⟨by show 3 + 1 ≤ 9; decide, by show 8 + (6 + 11) + 40 * 3 ≤ 40 * 9; decide⟩
theorem rm_9_1_3 {mc ms : Nat} : 1 + 1 ≤ (RM 9 mc ms).frames ∧ 8 + (3 + 11) + 40 * 1 ≤ (RM 9 mc ms).locals := ⟨by show 1 + 1 ≤ 9; decide, by show 8 + (3 + 11) + 40 * 1 ≤ 40 * 9; decide⟩
theorem rm_9_7_6 {mc ms : Nat} : 7 + 1 ≤ (RM 9 mc ms).frames ∧ 8 + (6 + 11) + 40 * 7 ≤ (RM 9 mc ms).locals := ⟨by show 7 + 1 ≤ 9; decide, by show 8 + (6 + 11) + 40 * 7 ≤ 40 * 9; decide⟩
theorem sm_28_29_30_31 {a0 a1 a2 a3 a4 a5 a6 a7 a8 a9 a10 a11 a12 a13 a14 a15 a16 a17 a18 a19 a20 a21 a22 a23 a24 a25 a26 a27 a28 a29 a30 a31 : Nat × va_E} {l : va_W} : ([28, 29, 30, 31] : List Nat).map (fun i => (a0 :: a1 :: a2 :: a3 :: a4 :: a5 :: a6 :: a7 :: a8 :: a9 :: a10 :: a11 :: a12 :: a13 :: a14 :: a15 :: a16 :: a17 :: a18 :: a19 :: a20 :: a21 :: a22 :: a23 :: a24 :: a25 :: a26 :: a27 :: a28 :: a29 :: a30 :: a31 :: l : va_W)[i]?) = ([a28, a29, a30, a31] : va_W).map some := rfl
theorem nd_28_29_30_31 : va_nd [28, 29, 30, 31] = true := by decide
theorem dj_0_1_2_3_4_5_6_7_8_9_10_11_12_13_14_15_16_17_18_19_20_21_22_23_24_25_26_27__28_29_30_31 : ∀ i ∈ ([28, 29, 30, 31] : List Nat), i ∉ ([0, 1, 2, 3, 4, 5, 6, 7, 8, 9, 10, 11, 12, 13, 14, 15, 16, 17, 18, 19, 20, 21, 22, 23, 24, 25, 26, 27] : List Nat) := by decide
theorem rm_9_8_5 {mc ms : Nat} : 8 + 1 ≤ (RM 9 mc ms).frames ∧ 8 + (5 + 11) + 40 * 8 ≤ (RM 9 mc ms).locals := ⟨by show 8 + 1 ≤ 9; decide, by show 8 + (5 + 11) + 40 * 8 ≤ 40 * 9; decide⟩
theorem rm_9_7_7 {mc ms : Nat} : 7 + 1 ≤ (RM 9 mc ms).frames ∧ 8 + (7 + 11) + 40 * 7 ≤ (RM 9 mc ms).locals := ⟨by show 7 + 1 ≤ 9; decide, by show 8 + (7 + 11) + 40 * 7 ≤ 40 * 9; decide⟩
theorem sm_4_14_15_16_17_18_19_20_21_22_23_24_25_26_27_30_31_0_1_2_3 {a0 a1 a2 a3 a4 a5 a6 a7 a8 a9 a10 a11 a12 a13 a14 a15 a16 a17 a18 a19 a20 a21 a22 a23 a24 a25 a26 a27 a28 a29 a30 a31 : Nat × va_E} {l : va_W} : ([4, 14, 15, 16, 17, 18, 19, 20, 21, 22, 23, 24, 25, 26, 27, 30, 31, 0, 1, 2, 3] : List Nat).map (fun i => (a0 :: a1 :: a2 :: a3 :: a4 :: a5 :: a6 :: a7 :: a8 :: a9 :: a10 :: a11 :: a12 :: a13 :: a14 :: a15 :: a16 :: a17 :: a18 :: a19 :: a20 :: a21 :: a22 :: a23 :: a24 :: a25 :: a26 :: a27 :: a28 :: a29 :: a30 :: a31 :: l : va_W)[i]?) = ([a4, a14, a15, a16, a17, a18, a19, a20, a21, a22, a23, a24, a25, a26, a27, a30, a31, a0, a1, a2, a3] : va_W).map some := rfl
theorem fm_4_14_15_16_17_18_19_20_21_22_23_24_25_26_27_30_31_0_1_2_3 {a0 a1 a2 a3 a4 a5 a6 a7 a8 a9 a10 a11 a12 a13 a14 a15 a16 a17 a18 a19 a20 a21 a22 a23 a24 a25 a26 a27 a28 a29 a30 a31 : Nat × va_E} {l : va_W} : ([4, 14, 15, 16, 17, 18, 19, 20, 21, 22, 23, 24, 25, 26, 27, 30, 31, 0, 1, 2, 3] : List Nat).filterMap (fun i => (a0 :: a1 :: a2 :: a3 :: a4 :: a5 :: a6 :: a7 :: a8 :: a9 :: a10 :: a11 :: a12 :: a13 :: a14 :: a15 :: a16 :: a17 :: a18 :: a19 :: a20 :: a21 :: a22 :: a23 :: a24 :: a25 :: a26 :: a27 :: a28 :: a29 :: a30 :: a31 :: l : va_W)[i]?) = ([a4, a14, a15, a16, a17, a18, a19, a20, a21, a22, a23, a24, a25, a26, a27, a30, a31, a0, a1, a2, a3] : va_W) := rfl
theorem nd_4_14_15_16_17_18_19_20_21_22_23_24_25_26_27_30_31_0_1_2_3 : va_nd [4, 14, 15, 16, 17, 18, 19, 20, 21, 22, 23, 24, 25, 26, 27, 30, 31, 0, 1, 2, 3] = true := by decide
theorem sm_5_6_7_8_9_10_11_12_13_28_29 {a0 a1 a2 a3 a4 a5 a6 a7 a8 a9 a10 a11 a12 a13 a14 a15 a16 a17 a18 a19 a20 a21 a22 a23 a24 a25 a26 a27 a28 a29 : Nat × va_E} {l : va_W} : ([5, 6, 7, 8, 9, 10, 11, 12, 13, 28, 29] : List Nat).map (fun i => (a0 :: a1 :: a2 :: a3 :: a4 :: a5 :: a6 :: a7 :: a8 :: a9 :: a10 :: a11 :: a12 :: a13 :: a14 :: a15 :: a16 :: a17 :: a18 :: a19 :: a20 :: a21 :: a22 :: a23 :: a24 :: a25 :: a26 :: a27 :: a28 :: a29 :: l : va_W)[i]?) = ([a5, a6, a7, a8, a9, a10, a11, a12, a13, a28, a29] : va_W).map some := rfl
theorem nd_5_6_7_8_9_10_11_12_13_28_29 : va_nd [5, 6, 7, 8, 9, 10, 11, 12, 13, 28, 29] = true := by decide
theorem dj_4_14_15_16_17_18_19_20_21_22_23_24_25_26_27_30_31_0_1_2_3__5_6_7_8_9_10_11_12_13_28_29 : ∀ i ∈ ([5, 6, 7, 8, 9, 10, 11, 12, 13, 28, 29] : List Nat), i ∉ ([4, 14, 15, 16, 17, 18, 19, 20, 21, 22, 23, 24, 25, 26, 27, 30, 31, 0, 1, 2, 3] : List Nat) := by decide
theorem sm_14 {a0 a1 a2 a3 a4 a5 a6 a7 a8 a9 a10 a11 a12 a13 a14 : Nat × va_E} {l : va_W} : ([14] : List Nat).map (fun i => (a0 :: a1 :: a2 :: a3 :: a4 :: a5 :: a6 :: a7 :: a8 :: a9 :: a10 :: a11 :: a12 :: a13 :: a14 :: l : va_W)[i]?) = ([a14] : va_W).map some := rfl
theorem fm_14 {a0 a1 a2 a3 a4 a5 a6 a7 a8 a9 a10 a11 a12 a13 a14 : Nat × va_E} {l : va_W} : ([14] : List Nat).filterMap (fun i => (a0 :: a1 :: a2 :: a3 :: a4 :: a5 :: a6 :: a7 :: a8 :: a9 :: a10 :: a11 :: a12 :: a13 :: a14 :: l : va_W)[i]?) = ([a14] : va_W) := rfl
theorem nd_14 : va_nd [14] = true := by decide
theorem rm_8_1_3 {mc ms : Nat} : 1 + 1 ≤ (RM 8 mc ms).frames ∧ 8 + (3 + 11) + 40 * 1 ≤ (RM 8 mc ms).locals := ⟨by show 1 + 1 ≤ 8; decide, by show 8 + (3 + 11) + 40 * 1 ≤ 40 * 8; decide⟩
theorem rm_8_3_6 {mc ms : Nat} : 3 + 1 ≤ (RM 8 mc ms).frames ∧ 8 + (6 + 11) + 40 * 3 ≤ (RM 8 mc ms).locals := ⟨by show 3 + 1 ≤ 8; decide, by show 8 + (6 + 11) + 40 * 3 ≤ 40 * 8; decide⟩
theorem sm_11_12_13 {a0 a1 a2 a3 a4 a5 a6 a7 a8 a9 a10 a11 a12 a13 : Nat × va_E} {l : va_W} : ([11, 12, 13] : List Nat).map (fun i => (a0 :: a1 :: a2 :: a3 :: a4 :: a5 :: a6 :: a7 :: a8 :: a9 :: a10 :: a11 :: a12 :: a13 :: l : va_W)[i]?) = ([a11, a12, a13] : va_W).map some := rfl
theorem fm_11_12_13 {a0 a1 a2 a3 a4 a5 a6 a7 a8 a9 a10 a11 a12 a13 : Nat × va_E} {l : va_W} : ([11, 12, 13] : List Nat).filterMap (fun i => (a0 :: a1 :: a2 :: a3 :: a4 :: a5 :: a6 :: a7 :: a8 :: a9 :: a10 :: a11 :: a12 :: a13 :: l : va_W)[i]?) = ([a11, a12, a13] : va_W) := rfl
theorem nd_11_12_13 : va_nd [11, 12, 13] = true := by decide
theorem rm_8_5_4 {mc ms : Nat} : 5 + 1 ≤ (RM 8 mc ms).frames ∧ 8 + (4 + 11) + 40 * 5 ≤ (RM 8 mc ms).locals := ⟨by show 5 + 1 ≤ 8; decide, by show 8 + (4 + 11) + 40 * 5 ≤ 40 * 8; decide⟩
theorem sm_1_2_3_4_5_6_7_8_9_11_18_19 {a0 a1 a2 a3 a4 a5 a6 a7 a8 a9 a10 a11 a12 a13 a14 a15 a16 a17 a18 a19 : Nat × va_E} {l : va_W} : ([1, 2, 3, 4, 5, 6, 7, 8, 9, 11, 18, 19] : List Nat).map (fun i => (a0 :: a1 :: a2 :: a3 :: a4 :: a5 :: a6 :: a7 :: a8 :: a9 :: a10 :: a11 :: a12 :: a13 :: a14 :: a15 :: a16 :: a17 :: a18 :: a19 :: l : va_W)[i]?) = ([a1, a2, a3, a4, a5, a6, a7, a8, a9, a11, a18, a19] : va_W).map some := rfl
theorem fm_1_2_3_4_5_6_7_8_9_11_18_19 {a0 a1 a2 a3 a4 a5 a6 a7 a8 a9 a10 a11 a12 a13 a14 a15 a16 a17 a18 a19 : Nat × va_E} {l : va_W} : ([1, 2, 3, 4, 5, 6, 7, 8, 9, 11, 18, 19] : List Nat).filterMap (fun i => (a0 :: a1 :: a2 :: a3 :: a4 :: a5 :: a6 :: a7 :: a8 :: a9 :: a10 :: a11 :: a12 :: a13 :: a14 :: a15 :: a16 :: a17 :: a18 :: a19 :: l : va_W)[i]?) = ([a1, a2, a3, a4, a5, a6, a7, a8, a9, a11, a18, a19] : va_W) := rfl
theorem nd_1_2_3_4_5_6_7_8_9_11_18_19 : va_nd [1, 2, 3, 4, 5, 6, 7, 8, 9, 11, 18, 19] = true := by decide
theorem sm_0_10_12_13_14_15_16_17 {a0 a1 a2 a3 a4 a5 a6 a7 a8 a9 a10 a11 a12 a13 a14 a15 a16 a17 : Nat × va_E} {l : va_W} : ([0, 10, 12, 13, 14, 15, 16, 17] : List Nat).map (fun i => (a0 :: a1 :: a2 :: a3 :: a4 :: a5 :: a6 :: a7 :: a8 :: a9 :: a10 :: a11 :: a12 :: a13 :: a14 :: a15 :: a16 :: a17 :: l : va_W)[i]?) = ([a0, a10, a12, a13, a14, a15, a16, a17] : va_W).map some := rfl
theorem nd_0_10_12_13_14_15_16_17 : va_nd [0, 10, 12, 13, 14, 15, 16, 17] = true := by decide
theorem dj_1_2_3_4_5_6_7_8_9_11_18_19__0_10_12_13_14_15_16_17 : ∀ i ∈ ([0, 10, 12, 13, 14, 15, 16, 17] : List Nat), i ∉ ([1, 2, 3, 4, 5, 6, 7, 8, 9, 11, 18, 19] : List Nat) := by decide
theorem rm_8_6_7 {mc ms : Nat} : 6 + 1 ≤ (RM 8 mc ms).frames ∧ 8 + (7 + 11) + 40 * 6 ≤ (RM 8 mc ms).locals := ⟨by show 6 + 1 ≤ 8; decide, by show 8 + (7 + 11) + 40 * 6 ≤ 40 * 8; decide⟩
theorem sm_1_8_12_13_14_15_16_17_2_3_4_5_6_7 {a0 a1 a2 a3 a4 a5 a6 a7 a8 a9 a10 a11 a12 a13 a14 a15 a16 a17 : Nat × va_E} {l : va_W} : ([1, 8, 12, 13, 14, 15, 16, 17, 2, 3, 4, 5, 6, 7] : List Nat).map (fun i => (a0 :: a1 :: a2 :: a3 :: a4 :: a5 :: a6 :: a7 :: a8 :: a9 :: a10 :: a11 :: a12 :: a13 :: a14 :: a15 :: a16 :: a17 :: l : va_W)[i]?) = ([a1, a8, a12, a13, a14, a15, a16, a17, a2, a3, a4, a5, a6, a7] : va_W).map some := rfl
theorem fm_1_8_12_13_14_15_16_17_2_3_4_5_6_7 {a0 a1 a2 a3 a4 a5 a6 a7 a8 a9 a10 a11 a12 a13 a14 a15 a16 a17 : Nat × va_E} {l : va_W} : ([1, 8, 12, 13, 14, 15, 16, 17, 2, 3, 4, 5, 6, 7] : List Nat).filterMap (fun i => (a0 :: a1 :: a2 :: a3 :: a4 :: a5 :: a6 :: a7 :: a8 :: a9 :: a10 :: a11 :: a12 :: a13 :: a14 :: a15 :: a16 :: a17 :: l : va_W)[i]?) = ([a1, a8, a12, a13, a14, a15, a16, a17, a2, a3, a4, a5, a6, a7] : va_W) := rfl
theorem nd_1_8_12_13_14_15_16_17_2_3_4_5_6_7 : va_nd [1, 8, 12, 13, 14, 15, 16, 17, 2, 3, 4, 5, 6, 7] = true := by decide
theorem sm_0_9_10_11_18_19 {a0 a1 a2 a3 a4 a5 a6 a7 a8 a9 a10 a11 a12 a13 a14 a15 a16 a17 a18 a19 : Nat × va_E} {l : va_W} : ([0, 9, 10, 11, 18, 19] : List Nat).map (fun i => (a0 :: a1 :: a2 :: a3 :: a4 :: a5 :: a6 :: a7 :: a8 :: a9 :: a10 :: a11 :: a12 :: a13 :: a14 :: a15 :: a16 :: a17 :: a18 :: a19 :: l : va_W)[i]?) = ([a0, a9, a10, a11, a18, a19] : va_W).map some := rfl
theorem nd_0_9_10_11_18_19 : va_nd [0, 9, 10, 11, 18, 19] = true := by decide
theorem dj_1_8_12_13_14_15_16_17_2_3_4_5_6_7__0_9_10_11_18_19 : ∀ i ∈ ([0, 9, 10, 11, 18, 19] : List Nat), i ∉ ([1, 8, 12, 13, 14, 15, 16, 17, 2, 3, 4, 5, 6, 7] : List Nat) := by decide
theorem sm_7_12_13_8_9 {a0 a1 a2 a3 a4 a5 a6 a7 a8 a9 a10 a11 a12 a13 : Nat × va_E} {l : va_W} : ([7, 12, 13, 8, 9] : List Nat).map (fun i => (a0 :: a1 :: a2 :: a3 :: a4 :: a5 :: a6 :: a7 :: a8 :: a9 :: a10 :: a11 :: a12 :: a13 :: l : va_W)[i]?) = ([a7, a12, a13, a8, a9] : va_W).map some := rfl
theorem fm_7_12_13_8_9 {a0 a1 a2 a3 a4 a5 a6 a7 a8 a9 a10 a11 a12 a13 : Nat × va_E} {l : va_W} : ([7, 12, 13, 8, 9] : List Nat).filterMap (fun i => (a0 :: a1 :: a2 :: a3 :: a4 :: a5 :: a6 :: a7 :: a8 :: a9 :: a10 :: a11 :: a12 :: a13 :: l : va_W)[i]?) = ([a7, a12, a13, a8, a9] : va_W) := rfl
theorem nd_7_12_13_8_9 : va_nd [7, 12, 13, 8, 9] = true := by decide
theorem sm_1_2_3_4_5 {a0 a1 a2 a3 a4 a5 : Nat × va_E} {l : va_W} : ([1, 2, 3, 4, 5] : List Nat).map (fun i => (a0 :: a1 :: a2 :: a3 :: a4 :: a5 :: l : va_W)[i]?) = ([a1, a2, a3, a4, a5] : va_W).map some := rfl
theorem fm_1_2_3_4_5 {a0 a1 a2 a3 a4 a5 : Nat × va_E} {l : va_W} : ([1, 2, 3, 4, 5] : List Nat).filterMap (fun i => (a0 :: a1 :: a2 :: a3 :: a4 :: a5 :: l : va_W)[i]?) = ([a1, a2, a3, a4, a5] : va_W) := rfl
theorem nd_1_2_3_4_5 : va_nd [1, 2, 3, 4, 5] = true := by decide
theorem fm_0_1_2_3_4_5 {a0 a1 a2 a3 a4 a5 : Nat × va_E} {l : va_W} : ([0, 1, 2, 3, 4, 5] : List Nat).filterMap (fun i => (a0 :: a1 :: a2 :: a3 :: a4 :: a5 :: l : va_W)[i]?) = ([a0, a1, a2, a3, a4, a5] : va_W) := rfl
theorem sm_2_9_0_1_10_11 {a0 a1 a2 a3 a4 a5 a6 a7 a8 a9 a10 a11 : Nat × va_E} {l : va_W} : ([2, 9, 0, 1, 10, 11] : List Nat).map (fun i => (a0 :: a1 :: a2 :: a3 :: a4 :: a5 :: a6 :: a7 :: a8 :: a9 :: a10 :: a11 :: l : va_W)[i]?) = ([a2, a9, a0, a1, a10, a11] : va_W).map some := rfl
theorem fm_2_9_0_1_10_11 {a0 a1 a2 a3 a4 a5 a6 a7 a8 a9 a10 a11 : Nat × va_E} {l : va_W} : ([2, 9, 0, 1, 10, 11] : List Nat).filterMap (fun i => (a0 :: a1 :: a2 :: a3 :: a4 :: a5 :: a6 :: a7 :: a8 :: a9 :: a10 :: a11 :: l : va_W)[i]?) = ([a2, a9, a0, a1, a10, a11] : va_W) := rfl
theorem nd_2_9_0_1_10_11 : va_nd [2, 9, 0, 1, 10, 11] = true := by decide
def K_p_clash (l : Launch) (G : GG) (h0 : Nat) (x1 : Int32) (bb : Nat) (kk : Nat) (ikp : Int32) (sg : Nat) (do9 : Nat) (ru9 : Nat) (ta9 : Nat) (tp9 : Nat) (ro9 : Nat) (ho9 : Nat) (de9 : Nat) (bpersons : Nat) (bpapers : Nat) (bstamps : Nat) (bversions : Nat) (blines : Nat) (bsteps : Nat) (bsayings : Nat) (bfindings : Nat) (bwarnings : Nat) (bquestions : Nat) (td : Int32) (vd : Int32) (vl : Int32) (gp : Int32) (clk : Nat) (fi : Nat) (la : Nat) (ml : Nat) (mm : Nat) (sl : Nat) (sm : Nat) (cl : Int32) (clm : Nat) (fclm : Nat → Int32) (ffi : Nat → Int32) (fla : Nat → Int32) (fml : Nat → Int32) (fmm : Nat → Int32) (fsl : Nat → Int32) (fsm : Nat → Int32) (hd : Nat) (bo : Int32) (le : Int32) (bi : Int32) (hf : Nat → Option Nat) (kc0 : Nat) (km0 : Nat) (fk0 : Nat → Int32) (kc1 : Nat) (km1 : Nat) (fk1 : Nat → Int32) (kc2 : Nat) (km2 : Nat) (fk2 : Nat → Int32) (kc3 : Nat) (km3 : Nat) (fk3 : Nat → Int32) (kc4 : Nat) (km4 : Nat) (fk4 : Nat → Int32) (kc5 : Nat) (km5 : Nat) (fk5 : Nat → Int32) (kc6 : Nat) (km6 : Nat) (fk6 : Nat → Int32) (kc7 : Nat) (km7 : Nat) (fk7 : Nat → Int32) (kc8 : Nat) (km8 : Nat) (fk8 : Nat → Int32) (kc9 : Nat) (km9 : Nat) (fk9 : Nat → Int32) (kc10 : Nat) (km10 : Nat) (fk10 : Nat → Int32) (kc11 : Nat) (km11 : Nat) (fk11 : Nat → Int32) (kc12 : Nat) (km12 : Nat) (fk12 : Nat → Int32) (bpapersc : Nat) (kbpapers : Nat) (fbpapers : Nat → Int32) (bstampsc : Nat) (kbstamps : Nat) (fbstamps : Nat → Int32) : Prop := MI l G yX11_clash cX11_clash 2 (some .int) 42 0 0 [.ref h0, .int x1] [(h0, oX11 bb kk ikp sg do9 ru9 ta9 tp9 ro9 ho9 de9), (bb, oX0 bpersons bpapers bstamps bversions blines bsteps bsayings bfindings bwarnings bquestions td vd vl gp), (sg, oX7 bb clk fi la ml mm sl sm cl), (clk, oX1 clm), (clm, iA G 36 fclm), (fi, iA G 12 ffi), (la, iA G 12 fla), (ml, iA G 12 fml), (mm, iA G 12 fmm), (sl, iA G 12 fsl), (sm, iA G 12 fsm), (do9, oX3 bb hd bo le bi), (hd, cA G 13 hf), (kc0, oX1 km0), (km0, iA G 36 fk0), (kc1, oX1 km1), (km1, iA G 36 fk1), (kc2, oX1 km2), (km2, iA G 36 fk2), (kc3, oX1 km3), (km3, iA G 36 fk3), (kc4, oX1 km4), (km4, iA G 36 fk4), (kc5, oX1 km5), (km5, iA G 36 fk5), (kc6, oX1 km6), (km6, iA G 36 fk6), (kc7, oX1 km7), (km7, iA G 36 fk7), (kc8, oX1 km8), (km8, iA G 36 fk8), (kc9, oX1 km9), (km9, iA G 36 fk9), (kc10, oX1 km10), (km10, iA G 36 fk10), (kc11, oX1 km11), (km11, iA G 36 fk11), (kc12, oX1 km12), (km12, iA G 36 fk12), (bpapers, oX8 12 6 bpapersc (nI kbpapers)), (bpapersc, iA G 72 fbpapers), (bstamps, oX8 24 3 bstampsc (nI kbstamps)), (bstampsc, iA G 72 fbstamps)] (fun (r : Int32) (u : Int32 × (Nat → Int32) × (Nat → Int32) × (Nat → Int32) × (Nat → Int32) × (Nat → Int32) × (Nat → Int32) × (Nat → Int32) × Int32 × Int32 × Int32 × (Nat → Int32) × (Nat → Int32) × (Nat → Int32) × (Nat → Int32) × (Nat → Int32) × (Nat → Int32) × (Nat → Int32) × (Nat → Int32) × (Nat → Int32) × (Nat → Int32) × (Nat → Int32) × (Nat → Int32) × (Nat → Int32)) => (True) ∧ (u.1 = 0 ∨ u.1 = 1)) (fun u : Int32 × (Nat → Int32) × (Nat → Int32) × (Nat → Int32) × (Nat → Int32) × (Nat → Int32) × (Nat → Int32) × (Nat → Int32) × Int32 × Int32 × Int32 × (Nat → Int32) × (Nat → Int32) × (Nat → Int32) × (Nat → Int32) × (Nat → Int32) × (Nat → Int32) × (Nat → Int32) × (Nat → Int32) × (Nat → Int32) × (Nat → Int32) × (Nat → Int32) × (Nat → Int32) × (Nat → Int32) => [(h0, oX11 bb kk ikp sg do9 ru9 ta9 tp9 ro9 ho9 de9), (bb, oX0 bpersons bpapers bstamps bversions blines bsteps bsayings bfindings bwarnings bquestions td vd vl gp), (sg, oX7 bb clk fi la ml mm sl sm u.1), (clk, oX1 clm), (clm, iA G 36 u.2.1), (fi, iA G 12 u.2.2.1), (la, iA G 12 u.2.2.2.1), (ml, iA G 12 u.2.2.2.2.1), (mm, iA G 12 u.2.2.2.2.2.1), (sl, iA G 12 u.2.2.2.2.2.2.1), (sm, iA G 12 u.2.2.2.2.2.2.2.1), (do9, oX3 bb hd u.2.2.2.2.2.2.2.2.1 u.2.2.2.2.2.2.2.2.2.1 u.2.2.2.2.2.2.2.2.2.2.1), (hd, cA G 13 hf), (kc0, oX1 km0), (km0, iA G 36 u.2.2.2.2.2.2.2.2.2.2.2.1), (kc1, oX1 km1), (km1, iA G 36 u.2.2.2.2.2.2.2.2.2.2.2.2.1), (kc2, oX1 km2), (km2, iA G 36 u.2.2.2.2.2.2.2.2.2.2.2.2.2.1), (kc3, oX1 km3), (km3, iA G 36 u.2.2.2.2.2.2.2.2.2.2.2.2.2.2.1), (kc4, oX1 km4), (km4, iA G 36 u.2.2.2.2.2.2.2.2.2.2.2.2.2.2.2.1), (kc5, oX1 km5), (km5, iA G 36 u.2.2.2.2.2.2.2.2.2.2.2.2.2.2.2.2.1), (kc6, oX1 km6), (km6, iA G 36 u.2.2.2.2.2.2.2.2.2.2.2.2.2.2.2.2.2.1), (kc7, oX1 km7), (km7, iA G 36 u.2.2.2.2.2.2.2.2.2.2.2.2.2.2.2.2.2.2.1), (kc8, oX1 km8), (km8, iA G 36 u.2.2.2.2.2.2.2.2.2.2.2.2.2.2.2.2.2.2.2.1), (kc9, oX1 km9), (km9, iA G 36 u.2.2.2.2.2.2.2.2.2.2.2.2.2.2.2.2.2.2.2.2.1), (kc10, oX1 km10), (km10, iA G 36 u.2.2.2.2.2.2.2.2.2.2.2.2.2.2.2.2.2.2.2.2.2.1), (kc11, oX1 km11), (km11, iA G 36 u.2.2.2.2.2.2.2.2.2.2.2.2.2.2.2.2.2.2.2.2.2.2.1), (kc12, oX1 km12), (km12, iA G 36 u.2.2.2.2.2.2.2.2.2.2.2.2.2.2.2.2.2.2.2.2.2.2.2), (bpapers, oX8 12 6 bpapersc (nI kbpapers)), (bpapersc, iA G 72 fbpapers), (bstamps, oX8 24 3 bstampsc (nI kbstamps)), (bstampsc, iA G 72 fbstamps)])
set_option maxHeartbeats 4000000 in
set_option maxRecDepth 100000 in
theorem p_clash (l : Launch) (G : GG) (h0 : Nat) (x1 : Int32) (bb : Nat) (kk : Nat) (ikp : Int32) (sg : Nat) (do9 : Nat) (ru9 : Nat) (ta9 : Nat) (tp9 : Nat) (ro9 : Nat) (ho9 : Nat) (de9 : Nat) (bpersons : Nat) (bpapers : Nat) (bstamps : Nat) (bversions : Nat) (blines : Nat) (bsteps : Nat) (bsayings : Nat) (bfindings : Nat) (bwarnings : Nat) (bquestions : Nat) (td : Int32) (vd : Int32) (vl : Int32) (gp : Int32) (clk : Nat) (fi : Nat) (la : Nat) (ml : Nat) (mm : Nat) (sl : Nat) (sm : Nat) (cl : Int32) (clm : Nat) (fclm : Nat → Int32) (ffi : Nat → Int32) (fla : Nat → Int32) (fml : Nat → Int32) (fmm : Nat → Int32) (fsl : Nat → Int32) (fsm : Nat → Int32) (hd : Nat) (bo : Int32) (le : Int32) (bi : Int32) (hf : Nat → Option Nat) (kc0 : Nat) (km0 : Nat) (fk0 : Nat → Int32) (kc1 : Nat) (km1 : Nat) (fk1 : Nat → Int32) (kc2 : Nat) (km2 : Nat) (fk2 : Nat → Int32) (kc3 : Nat) (km3 : Nat) (fk3 : Nat → Int32) (kc4 : Nat) (km4 : Nat) (fk4 : Nat → Int32) (kc5 : Nat) (km5 : Nat) (fk5 : Nat → Int32) (kc6 : Nat) (km6 : Nat) (fk6 : Nat → Int32) (kc7 : Nat) (km7 : Nat) (fk7 : Nat → Int32) (kc8 : Nat) (km8 : Nat) (fk8 : Nat → Int32) (kc9 : Nat) (km9 : Nat) (fk9 : Nat → Int32) (kc10 : Nat) (km10 : Nat) (fk10 : Nat → Int32) (kc11 : Nat) (km11 : Nat) (fk11 : Nat → Int32) (kc12 : Nat) (km12 : Nat) (fk12 : Nat → Int32) (bpapersc : Nat) (kbpapers : Nat) (fbpapers : Nat → Int32) (bstampsc : Nat) (kbstamps : Nat) (fbstamps : Nat → Int32) (hkbpapers : kbpapers ≤ 12) (hkbstamps : kbstamps ≤ 24) (hcl : cl = 0 ∨ cl = 1) (hh0 : hf 0 = some kc0) (hh1 : hf 1 = some kc1) (hh2 : hf 2 = some kc2) (hh3 : hf 3 = some kc3) (hh4 : hf 4 = some kc4) (hh5 : hf 5 = some kc5) (hh6 : hf 6 = some kc6) (hh7 : hf 7 = some kc7) (hh8 : hf 8 = some kc8) (hh9 : hf 9 = some kc9) (hh10 : hf 10 = some kc10) (hh11 : hf 11 = some kc11) (hh12 : hf 12 = some kc12) : K_p_clash l G h0 x1 bb kk ikp sg do9 ru9 ta9 tp9 ro9 ho9 de9 bpersons bpapers bstamps bversions blines bsteps bsayings bfindings bwarnings bquestions td vd vl gp clk fi la ml mm sl sm cl clm fclm ffi fla fml fmm fsl fsm hd bo le bi hf kc0 km0 fk0 kc1 km1 fk1 kc2 km2 fk2 kc3 km3 fk3 kc4 km4 fk4 kc5 km5 fk5 kc6 km6 fk6 kc7 km7 fk7 kc8 km8 fk8 kc9 km9 fk9 kc10 km10 fk10 kc11 km11 fk11 kc12 km12 fk12 bpapersc kbpapers fbpapers bstampsc kbstamps fbstamps := by
  refine MI.start (by decide +kernel) (Nat.le_of_ble_eq_true rfl) ?_
  intro p e s m below meth c A ls hC hK hP hD hS hA hl
  refine absQ (fun Q0 hQ0 => ?_)
  have hl : lv_has ls 2 [(0, .ref h0), (1, .int x1)] := hl
  refine Kan8 hC (fun hx hb hr hml hB hown hlocks hnm => ?_)
  refine lv_iload_n hx hb gX11_clash_0.1 rfl (lv_at1 hl) ?_
  refine lv_iconst (v := 0) hx hb gX11_clash_0.2.1 (by decide) ?_
  refine lv_iconst (v := 1) hx hb gX11_clash_0.2.2.1 (by decide) ?_
  refine pS hC hK hl (c_within l G x1 0 1) si_X11_83 rfl rfl (Nat.le_of_ble_eq_true rfl) rm_42_1_3 ⟨by first | exact Nat.le_of_ble_eq_true rfl | exact Nat.zero_le _, by first | exact Nat.le_of_ble_eq_true rfl | exact Nat.zero_le _⟩ gX11_clash_0.2.2.2.1 (Kors (Keqa fun a2224 => ?_) (Keqa fun a2224 => ?_))
  · refine lv_if_ne (tgt := 11) hx hb gX11_clash_0.2.2.2.2.1 (by decide) (fun _ => ?_) (fun c9 => absurd c9 (by decide))
    refine lv_iload_n hx hb gX11_clash_0.2.2.2.2.2.2.2.1 rfl (lv_at1 hl) ?_
    refine lv_iconst (v := 1) hx hb gX11_clash_0.2.2.2.2.2.2.2.2.1 (by decide) ?_
    refine lv_icmp_ne (tgt := 31) hx hb gX11_clash_0.2.2.2.2.2.2.2.2.2 (by decide) (fun c_13_2225 => ?_) (fun c_13_2225 => ?_)
    · refine lv_aload_n hx hb gX11_clash_1.2.2.2.2.2.2.2.1 rfl (lv_at0 hl) ?_
      refine gf_X11_28 hC rfl hK hP 0 rfl rfl gX11_clash_1.2.2.2.2.2.2.2.2.1 ?_
      refine lv_aload_n hx hb gX11_clash_1.2.2.2.2.2.2.2.2.2 rfl (lv_at0 hl) ?_
      refine gf_X11_15 hC rfl hK hP 0 rfl rfl gX11_clash_2.1 ?_
      refine pV hC hK hl hP hD (c_inView l G bb bpersons bpapers bstamps bversions blines bsteps bsayings bfindings bwarnings bquestions td vd vl gp bpapersc kbpapers fbpapers (hkbpapers)) si_X11_97 [1, 39, 40] sm_1_39_40 fm_1_39_40 nd_1_39_40 rfl rfl rfl rfl rfl (Nat.le_of_ble_eq_true rfl) rm_42_3_6 ⟨by first | exact Nat.le_of_ble_eq_true rfl | exact Nat.zero_le _, by first | exact Nat.le_of_ble_eq_true rfl | exact Nat.zero_le _⟩ gX11_clash_2.2.1 (fun r2226 hr2226 => ?_)
      refine vV (wr := [(h0, oX11 bb kk ikp sg do9 ru9 ta9 tp9 ro9 ho9 de9), (do9, oX3 bb hd bo le bi), (hd, cA G 13 hf), (kc0, oX1 km0), (km0, iA G 36 fk0), (kc1, oX1 km1), (km1, iA G 36 fk1), (kc2, oX1 km2), (km2, iA G 36 fk2), (kc3, oX1 km3), (km3, iA G 36 fk3), (kc4, oX1 km4), (km4, iA G 36 fk4), (kc5, oX1 km5), (km5, iA G 36 fk5), (kc6, oX1 km6), (km6, iA G 36 fk6), (kc7, oX1 km7), (km7, iA G 36 fk7), (kc8, oX1 km8), (km8, iA G 36 fk8), (kc9, oX1 km9), (km9, iA G 36 fk9), (kc10, oX1 km10), (km10, iA G 36 fk10), (kc11, oX1 km11), (km11, iA G 36 fk11), (kc12, oX1 km12), (km12, iA G 36 fk12), (bpapers, oX8 12 6 bpapersc (nI kbpapers)), (bpapersc, iA G 72 fbpapers)]) hC hK hl hP hD hS hA (c_look l G sg r2226 bb clk fi la ml mm sl sm cl clm fclm ffi fla fml fmm fsl fsm bpersons bpapers bstamps bversions blines bsteps bsayings bfindings bwarnings bquestions td vd vl gp bstampsc kbstamps fbstamps (hkbstamps)) si_X11_183 [2, 3, 4, 5, 6, 7, 8, 9, 10, 1, 41, 42] [0, 11, 12, 13, 14, 15, 16, 17, 18, 19, 20, 21, 22, 23, 24, 25, 26, 27, 28, 29, 30, 31, 32, 33, 34, 35, 36, 37, 38, 39, 40] sm_2_3_4_5_6_7_8_9_10_1_41_42 fm_2_3_4_5_6_7_8_9_10_1_41_42 nd_2_3_4_5_6_7_8_9_10_1_41_42 sm_0_11_12_13_14_15_16_17_18_19_20_21_22_23_24_25_26_27_28_29_30_31_32_33_34_35_36_37_38_39_40 nd_0_11_12_13_14_15_16_17_18_19_20_21_22_23_24_25_26_27_28_29_30_31_32_33_34_35_36_37_38_39_40 dj_2_3_4_5_6_7_8_9_10_1_41_42__0_11_12_13_14_15_16_17_18_19_20_21_22_23_24_25_26_27_28_29_30_31_32_33_34_35_36_37_38_39_40 rfl rfl rfl rfl rfl (Nat.le_of_ble_eq_true rfl) rm_42_5_4 ⟨Nat.le_of_ble_eq_true rfl, Nat.le_of_ble_eq_true rfl⟩ gX11_clash_2.2.2.1 (Ktu8 fun cl12229 gclm2230 gfi2231 gla2232 gml2233 gmm2234 gsl2235 gsm2236 => ?_)
      intro H locs hr2227 hP hD hS
      try dsimp only at hr2227
      refine Kpdr (ws := [(h0, oX11 bb kk ikp sg do9 ru9 ta9 tp9 ro9 ho9 de9), (do9, oX3 bb hd bo le bi), (hd, cA G 13 hf), (kc0, oX1 km0), (km0, iA G 36 fk0), (kc1, oX1 km1), (km1, iA G 36 fk1), (kc2, oX1 km2), (km2, iA G 36 fk2), (kc3, oX1 km3), (km3, iA G 36 fk3), (kc4, oX1 km4), (km4, iA G 36 fk4), (kc5, oX1 km5), (km5, iA G 36 fk5), (kc6, oX1 km6), (km6, iA G 36 fk6), (kc7, oX1 km7), (km7, iA G 36 fk7), (kc8, oX1 km8), (km8, iA G 36 fk8), (kc9, oX1 km9), (km9, iA G 36 fk9), (kc10, oX1 km10), (km10, iA G 36 fk10), (kc11, oX1 km11), (km11, iA G 36 fk11), (kc12, oX1 km12), (km12, iA G 36 fk12), (bpapers, oX8 12 6 bpapersc (nI kbpapers)), (bpapersc, iA G 72 fbpapers), (sg, oX7 bb clk fi la ml mm sl sm cl12229), (clk, oX1 clm), (clm, iA G 36 gclm2230), (fi, iA G 12 gfi2231), (la, iA G 12 gla2232), (ml, iA G 12 gml2233), (mm, iA G 12 gmm2234), (sl, iA G 12 gsl2235), (sm, iA G 12 gsm2236), (bb, oX0 bpersons bpapers bstamps bversions blines bsteps bsayings bfindings bwarnings bquestions td vd vl gp), (bstamps, oX8 24 3 bstampsc (nI kbstamps)), (bstampsc, iA G 72 fbstamps)]) hP hD (fun hP hD => ?_)
      have w2237 := hr2227
      refine lv_aload_n hx hb gX11_clash_2.2.2.2.1 rfl (lv_at0 hl) ?_
      refine gf_X11_28 hC rfl hK hP 0 rfl rfl gX11_clash_2.2.2.2.2.1 ?_
      refine pV hC hK hl hP hD (c_clashes l G sg bb clk fi la ml mm sl sm cl12229 (w2237)) si_X11_187 [31] sm_31 fm_31 nd_31 rfl rfl rfl rfl rfl (Nat.le_of_ble_eq_true rfl) rm_42_1_1 ⟨by first | exact Nat.le_of_ble_eq_true rfl | exact Nat.zero_le _, by first | exact Nat.le_of_ble_eq_true rfl | exact Nat.zero_le _⟩ gX11_clash_2.2.2.2.2.2.1 (Kors (Keqr ?_) (Keqr ?_))
      · refine lv_if_eq (tgt := 59) hx hb gX11_clash_2.2.2.2.2.2.2.1 (by decide) (fun c9 => absurd c9 (by decide)) (fun _ => ?_)
        refine lv_iconst (v := 1) hx hb gX11_clash_2.2.2.2.2.2.2.2.1 (by decide) ?_
        refine lv_goto (tgt := 60) hx hb gX11_clash_2.2.2.2.2.2.2.2.2.1 (by decide) ?_
        refine toQ hQ0 ?_
        exact RI (v := 1) hC hP hD hS [0, 40, 31, 32, 33, 34, 35, 36, 37, 38, 39, 1, 2, 3, 4, 5, 6, 7, 8, 9, 10, 11, 12, 13, 14, 15, 16, 17, 18, 19, 20, 21, 22, 23, 24, 25, 26, 27, 28, 29, 30, 41, 42] (cl12229, gclm2230, gfi2231, gla2232, gml2233, gmm2234, gsl2235, gsm2236, bo, le, bi, fk0, fk1, fk2, fk3, fk4, fk5, fk6, fk7, fk8, fk9, fk10, fk11, fk12) rfl rfl (by decide) (⟨trivial, w2237⟩) rfl gX11_clash_3
      · refine lv_if_eq (tgt := 59) hx hb gX11_clash_2.2.2.2.2.2.2.1 (by decide) (fun _ => ?_) (fun c9 => absurd (by decide) c9)
        refine lv_iconst (v := 0) hx hb gX11_clash_2.2.2.2.2.2.2.2.2.2 (by decide) ?_
        refine toQ hQ0 ?_
        exact RI (v := 0) hC hP hD hS [0, 40, 31, 32, 33, 34, 35, 36, 37, 38, 39, 1, 2, 3, 4, 5, 6, 7, 8, 9, 10, 11, 12, 13, 14, 15, 16, 17, 18, 19, 20, 21, 22, 23, 24, 25, 26, 27, 28, 29, 30, 41, 42] (cl12229, gclm2230, gfi2231, gla2232, gml2233, gmm2234, gsl2235, gsm2236, bo, le, bi, fk0, fk1, fk2, fk3, fk4, fk5, fk6, fk7, fk8, fk9, fk10, fk11, fk12) rfl rfl (by decide) (⟨trivial, w2237⟩) rfl gX11_clash_3
    · refine lv_aload_n hx hb gX11_clash_1.1 rfl (lv_at0 hl) ?_
      refine gf_X11_35 hC rfl hK hP 0 rfl rfl gX11_clash_1.2.1 ?_
      refine lv_aload_n hx hb gX11_clash_1.2.2.1 rfl (lv_at0 hl) ?_
      refine gf_X11_15 hC rfl hK hP 0 rfl rfl gX11_clash_1.2.2.2.1 ?_
      refine pV hC hK hl hP hD (c_inView l G bb bpersons bpapers bstamps bversions blines bsteps bsayings bfindings bwarnings bquestions td vd vl gp bpapersc kbpapers fbpapers (hkbpapers)) si_X11_97 [1, 39, 40] sm_1_39_40 fm_1_39_40 nd_1_39_40 rfl rfl rfl rfl rfl (Nat.le_of_ble_eq_true rfl) rm_42_3_6 ⟨by first | exact Nat.le_of_ble_eq_true rfl | exact Nat.zero_le _, by first | exact Nat.le_of_ble_eq_true rfl | exact Nat.zero_le _⟩ gX11_clash_1.2.2.2.2.1 (fun r2240 hr2240 => ?_)
      refine iV (wr := [(h0, oX11 bb kk ikp sg do9 ru9 ta9 tp9 ro9 ho9 de9), (sg, oX7 bb clk fi la ml mm sl sm cl), (clk, oX1 clm), (clm, iA G 36 fclm), (fi, iA G 12 ffi), (la, iA G 12 fla), (ml, iA G 12 fml), (mm, iA G 12 fmm), (sl, iA G 12 fsl), (sm, iA G 12 fsm)]) hC hK hl hP hD hS hA (c_fewest l G do9 r2240 bb hd bo le bi hf kc0 km0 fk0 kc1 km1 fk1 kc2 km2 fk2 kc3 km3 fk3 kc4 km4 fk4 kc5 km5 fk5 kc6 km6 fk6 kc7 km7 fk7 kc8 km8 fk8 kc9 km9 fk9 kc10 km10 fk10 kc11 km11 fk11 kc12 km12 fk12 bpersons bpapers bstamps bversions blines bsteps bsayings bfindings bwarnings bquestions td vd vl gp bstampsc kbstamps fbstamps bpapersc kbpapers fbpapers (hkbstamps) (hkbpapers) (hh0) (hh1) (hh2) (hh3) (hh4) (hh5) (hh6) (hh7) (hh8) (hh9) (hh10) (hh11) (hh12)) si_X11_180 [11, 12, 13, 14, 15, 16, 17, 18, 19, 20, 21, 22, 23, 24, 25, 26, 27, 28, 29, 30, 31, 32, 33, 34, 35, 36, 37, 38, 1, 41, 42, 39, 40] [0, 2, 3, 4, 5, 6, 7, 8, 9, 10] sm_11_12_13_14_15_16_17_18_19_20_21_22_23_24_25_26_27_28_29_30_31_32_33_34_35_36_37_38_1_41_42_39_40 fm_11_12_13_14_15_16_17_18_19_20_21_22_23_24_25_26_27_28_29_30_31_32_33_34_35_36_37_38_1_41_42_39_40 nd_11_12_13_14_15_16_17_18_19_20_21_22_23_24_25_26_27_28_29_30_31_32_33_34_35_36_37_38_1_41_42_39_40 sm_0_2_3_4_5_6_7_8_9_10 nd_0_2_3_4_5_6_7_8_9_10 dj_11_12_13_14_15_16_17_18_19_20_21_22_23_24_25_26_27_28_29_30_31_32_33_34_35_36_37_38_1_41_42_39_40__0_2_3_4_5_6_7_8_9_10 rfl rfl rfl rfl rfl (Nat.le_of_ble_eq_true rfl) rm_42_40_3 ⟨Nat.le_of_ble_eq_true rfl, Nat.le_of_ble_eq_true rfl⟩ gX11_clash_1.2.2.2.2.2.1 (fun r2241 => Ktu16 fun le12243 bi12244 gk02245 gk12246 gk22247 gk32248 gk42249 gk52250 gk62251 gk72252 gk82253 gk92254 gk102255 gk112256 gk122257 bo12258 => ?_)
      intro H locs hr2241 hP hD hS
      try dsimp only at hr2241
      refine Kpdr (ws := [(h0, oX11 bb kk ikp sg do9 ru9 ta9 tp9 ro9 ho9 de9), (sg, oX7 bb clk fi la ml mm sl sm cl), (clk, oX1 clm), (clm, iA G 36 fclm), (fi, iA G 12 ffi), (la, iA G 12 fla), (ml, iA G 12 fml), (mm, iA G 12 fmm), (sl, iA G 12 fsl), (sm, iA G 12 fsm), (do9, oX3 bb hd bo12258 le12243 bi12244), (hd, cA G 13 hf), (kc0, oX1 km0), (km0, iA G 36 gk02245), (kc1, oX1 km1), (km1, iA G 36 gk12246), (kc2, oX1 km2), (km2, iA G 36 gk22247), (kc3, oX1 km3), (km3, iA G 36 gk32248), (kc4, oX1 km4), (km4, iA G 36 gk42249), (kc5, oX1 km5), (km5, iA G 36 gk52250), (kc6, oX1 km6), (km6, iA G 36 gk62251), (kc7, oX1 km7), (km7, iA G 36 gk72252), (kc8, oX1 km8), (km8, iA G 36 gk82253), (kc9, oX1 km9), (km9, iA G 36 gk92254), (kc10, oX1 km10), (km10, iA G 36 gk102255), (kc11, oX1 km11), (km11, iA G 36 gk112256), (kc12, oX1 km12), (km12, iA G 36 gk122257), (bb, oX0 bpersons bpapers bstamps bversions blines bsteps bsayings bfindings bwarnings bquestions td vd vl gp), (bstamps, oX8 24 3 bstampsc (nI kbstamps)), (bstampsc, iA G 72 fbstamps), (bpapers, oX8 12 6 bpapersc (nI kbpapers)), (bpapersc, iA G 72 fbpapers)]) hP hD (fun hP hD => ?_)
      refine toQ hQ0 ?_
      exact RI (v := r2241) hC hP hD hS [0, 38, 1, 2, 3, 4, 5, 6, 7, 8, 9, 10, 11, 12, 13, 14, 15, 16, 17, 18, 19, 20, 21, 22, 23, 24, 25, 26, 27, 28, 29, 30, 31, 32, 33, 34, 35, 36, 37, 41, 42, 39, 40] (cl, fclm, ffi, fla, fml, fmm, fsl, fsm, bo12258, le12243, bi12244, gk02245, gk12246, gk22247, gk32248, gk42249, gk52250, gk62251, gk72252, gk82253, gk92254, gk102255, gk112256, gk122257) rfl rfl (by decide) (⟨trivial, hcl⟩) rfl gX11_clash_1.2.2.2.2.2.2.1
  · refine lv_if_ne (tgt := 11) hx hb gX11_clash_0.2.2.2.2.1 (by decide) (fun c9 => absurd (by decide) c9) (fun _ => ?_)
    refine lv_iconst (v := (-1)) hx hb gX11_clash_0.2.2.2.2.2.1 (by decide) ?_
    refine toQ hQ0 ?_
    exact RI (v := (-1)) hC hP hD hS [0, 1, 2, 3, 4, 5, 6, 7, 8, 9, 10, 11, 12, 13, 14, 15, 16, 17, 18, 19, 20, 21, 22, 23, 24, 25, 26, 27, 28, 29, 30, 31, 32, 33, 34, 35, 36, 37, 38, 39, 40, 41, 42] (cl, fclm, ffi, fla, fml, fmm, fsl, fsm, bo, le, bi, fk0, fk1, fk2, fk3, fk4, fk5, fk6, fk7, fk8, fk9, fk10, fk11, fk12) rfl rfl (by decide) (⟨trivial, hcl⟩) rfl gX11_clash_0.2.2.2.2.2.2.1
def K_c_known (l : Launch) (G : GG) (h0 : Nat) (x1 : Int32) (x2 : Int32) (x3 : Int32) (x4 : Int32) (bb : Nat) (kk : Nat) (ikp : Int32) (sg : Nat) (do9 : Nat) (ru9 : Nat) (ta9 : Nat) (tp9 : Nat) (ro9 : Nat) (ho9 : Nat) (de9 : Nat) (clk : Nat) (fi : Nat) (la : Nat) (ml : Nat) (mm : Nat) (sl : Nat) (sm : Nat) (cl : Int32) (clm : Nat) (fclm : Nat → Int32) (ffi : Nat → Int32) (fla : Nat → Int32) (fml : Nat → Int32) (fmm : Nat → Int32) (fsl : Nat → Int32) (fsm : Nat → Int32) (fc : Nat) (sh : Nat) (r1 : Int32) (rc : Int32) (rh : Int32) (ffc : Nat → Int32) (fsh : Nat → Int32) (bpersons : Nat) (bpapers : Nat) (bstamps : Nat) (bversions : Nat) (blines : Nat) (bsteps : Nat) (bsayings : Nat) (bfindings : Nat) (bwarnings : Nat) (bquestions : Nat) (td : Int32) (vd : Int32) (vl : Int32) (gp : Int32) (bversionsc : Nat) (kbversions : Nat) (fbversions : Nat → Int32) (bpersonsc : Nat) (kbpersons : Nat) (fbpersons : Nat → Int32) (bpapersc : Nat) (kbpapers : Nat) (fbpapers : Nat → Int32) (blinesc : Nat) (kblines : Nat) (fblines : Nat → Int32) (bstepsc : Nat) (kbsteps : Nat) (fbsteps : Nat → Int32) (bstampsc : Nat) (kbstamps : Nat) (fbstamps : Nat → Int32) : Prop := MI l G yX11_knownFrom cX11_knownFrom 5 (some .int) 6 0 0 [.ref h0, .int x1, .int x2, .int x3, .int x4] [(h0, oX11 bb kk ikp sg do9 ru9 ta9 tp9 ro9 ho9 de9), (sg, oX7 bb clk fi la ml mm sl sm cl), (clk, oX1 clm), (clm, iA G 36 fclm), (fi, iA G 12 ffi), (la, iA G 12 fla), (ml, iA G 12 fml), (mm, iA G 12 fmm), (sl, iA G 12 fsl), (sm, iA G 12 fsm), (ru9, oX6 bb sg fc sh r1 rc rh), (fc, iA G 5 ffc), (sh, iA G 8 fsh), (bb, oX0 bpersons bpapers bstamps bversions blines bsteps bsayings bfindings bwarnings bquestions td vd vl gp), (bversions, oX8 8 3 bversionsc (nI kbversions)), (bversionsc, iA G 24 fbversions), (bpersons, oX8 10 2 bpersonsc (nI kbpersons)), (bpersonsc, iA G 20 fbpersons), (bpapers, oX8 12 6 bpapersc (nI kbpapers)), (bpapersc, iA G 72 fbpapers), (blines, oX8 72 7 blinesc (nI kblines)), (blinesc, iA G 504 fblines), (bsteps, oX8 960 1 bstepsc (nI kbsteps)), (bstepsc, iA G 960 fbsteps), (bstamps, oX8 24 3 bstampsc (nI kbstamps)), (bstampsc, iA G 72 fbstamps)] (fun (r : Int32) (u : Int32 × (Nat → Int32) × (Nat → Int32) × (Nat → Int32) × (Nat → Int32) × (Nat → Int32) × (Nat → Int32) × (Nat → Int32) × Int32 × Int32 × Int32 × (Nat → Int32) × (Nat → Int32)) => (True) ∧ (u.1 = 0 ∨ u.1 = 1)) (fun u : Int32 × (Nat → Int32) × (Nat → Int32) × (Nat → Int32) × (Nat → Int32) × (Nat → Int32) × (Nat → Int32) × (Nat → Int32) × Int32 × Int32 × Int32 × (Nat → Int32) × (Nat → Int32) => [(h0, oX11 bb kk ikp sg do9 ru9 ta9 tp9 ro9 ho9 de9), (sg, oX7 bb clk fi la ml mm sl sm u.1), (clk, oX1 clm), (clm, iA G 36 u.2.1), (fi, iA G 12 u.2.2.1), (la, iA G 12 u.2.2.2.1), (ml, iA G 12 u.2.2.2.2.1), (mm, iA G 12 u.2.2.2.2.2.1), (sl, iA G 12 u.2.2.2.2.2.2.1), (sm, iA G 12 u.2.2.2.2.2.2.2.1), (ru9, oX6 bb sg fc sh u.2.2.2.2.2.2.2.2.1 u.2.2.2.2.2.2.2.2.2.1 u.2.2.2.2.2.2.2.2.2.2.1), (fc, iA G 5 u.2.2.2.2.2.2.2.2.2.2.2.1), (sh, iA G 8 u.2.2.2.2.2.2.2.2.2.2.2.2), (bb, oX0 bpersons bpapers bstamps bversions blines bsteps bsayings bfindings bwarnings bquestions td vd vl gp), (bversions, oX8 8 3 bversionsc (nI kbversions)), (bversionsc, iA G 24 fbversions), (bpersons, oX8 10 2 bpersonsc (nI kbpersons)), (bpersonsc, iA G 20 fbpersons), (bpapers, oX8 12 6 bpapersc (nI kbpapers)), (bpapersc, iA G 72 fbpapers), (blines, oX8 72 7 blinesc (nI kblines)), (blinesc, iA G 504 fblines), (bsteps, oX8 960 1 bstepsc (nI kbsteps)), (bstepsc, iA G 960 fbsteps), (bstamps, oX8 24 3 bstampsc (nI kbstamps)), (bstampsc, iA G 72 fbstamps)])
set_option maxHeartbeats 4000000 in
set_option maxRecDepth 100000 in
theorem c_known (l : Launch) (G : GG) (h0 : Nat) (x1 : Int32) (x2 : Int32) (x3 : Int32) (x4 : Int32) (bb : Nat) (kk : Nat) (ikp : Int32) (sg : Nat) (do9 : Nat) (ru9 : Nat) (ta9 : Nat) (tp9 : Nat) (ro9 : Nat) (ho9 : Nat) (de9 : Nat) (clk : Nat) (fi : Nat) (la : Nat) (ml : Nat) (mm : Nat) (sl : Nat) (sm : Nat) (cl : Int32) (clm : Nat) (fclm : Nat → Int32) (ffi : Nat → Int32) (fla : Nat → Int32) (fml : Nat → Int32) (fmm : Nat → Int32) (fsl : Nat → Int32) (fsm : Nat → Int32) (fc : Nat) (sh : Nat) (r1 : Int32) (rc : Int32) (rh : Int32) (ffc : Nat → Int32) (fsh : Nat → Int32) (bpersons : Nat) (bpapers : Nat) (bstamps : Nat) (bversions : Nat) (blines : Nat) (bsteps : Nat) (bsayings : Nat) (bfindings : Nat) (bwarnings : Nat) (bquestions : Nat) (td : Int32) (vd : Int32) (vl : Int32) (gp : Int32) (bversionsc : Nat) (kbversions : Nat) (fbversions : Nat → Int32) (bpersonsc : Nat) (kbpersons : Nat) (fbpersons : Nat → Int32) (bpapersc : Nat) (kbpapers : Nat) (fbpapers : Nat → Int32) (blinesc : Nat) (kblines : Nat) (fblines : Nat → Int32) (bstepsc : Nat) (kbsteps : Nat) (fbsteps : Nat → Int32) (bstampsc : Nat) (kbstamps : Nat) (fbstamps : Nat → Int32) (hkbversions : kbversions ≤ 8) (hkbpersons : kbpersons ≤ 10) (hkbpapers : kbpapers ≤ 12) (hkblines : kblines ≤ 72) (hkbsteps : kbsteps ≤ 960) (hkbstamps : kbstamps ≤ 24) : K_c_known l G h0 x1 x2 x3 x4 bb kk ikp sg do9 ru9 ta9 tp9 ro9 ho9 de9 clk fi la ml mm sl sm cl clm fclm ffi fla fml fmm fsl fsm fc sh r1 rc rh ffc fsh bpersons bpapers bstamps bversions blines bsteps bsayings bfindings bwarnings bquestions td vd vl gp bversionsc kbversions fbversions bpersonsc kbpersons fbpersons bpapersc kbpapers fbpapers blinesc kblines fblines bstepsc kbsteps fbsteps bstampsc kbstamps fbstamps := by
  refine MI.start (by decide +kernel) (Nat.le_of_ble_eq_true rfl) ?_
  intro p e s m below meth c A ls hC hK hP hD hS hA hl
  refine absQ (fun Q0 hQ0 => ?_)
  have hl : lv_has ls 5 [(0, .ref h0), (1, .int x1), (2, .int x2), (3, .int x3), (4, .int x4)] := hl
  refine Kan8 hC (fun hx hb hr hml hB hown hlocks hnm => ?_)
  refine lv_aload_n hx hb gX11_knownFrom_0.1 rfl (lv_at0 hl) ?_
  refine gf_X11_28 hC rfl hK hP 0 rfl rfl gX11_knownFrom_0.2.1 ?_
  refine lv_iload hx hb gX11_knownFrom_0.2.2.1 (lv_at4 hl) ?_
  refine vV (wr := [(h0, oX11 bb kk ikp sg do9 ru9 ta9 tp9 ro9 ho9 de9), (ru9, oX6 bb sg fc sh r1 rc rh), (fc, iA G 5 ffc), (sh, iA G 8 fsh), (bversions, oX8 8 3 bversionsc (nI kbversions)), (bversionsc, iA G 24 fbversions), (bpersons, oX8 10 2 bpersonsc (nI kbpersons)), (bpersonsc, iA G 20 fbpersons), (bpapers, oX8 12 6 bpapersc (nI kbpapers)), (bpapersc, iA G 72 fbpapers), (blines, oX8 72 7 blinesc (nI kblines)), (blinesc, iA G 504 fblines), (bsteps, oX8 960 1 bstepsc (nI kbsteps)), (bstepsc, iA G 960 fbsteps)]) hC hK hl hP hD hS hA (c_look l G sg x4 bb clk fi la ml mm sl sm cl clm fclm ffi fla fml fmm fsl fsm bpersons bpapers bstamps bversions blines bsteps bsayings bfindings bwarnings bquestions td vd vl gp bstampsc kbstamps fbstamps (hkbstamps)) si_X11_183 [1, 2, 3, 4, 5, 6, 7, 8, 9, 13, 24, 25] [0, 10, 11, 12, 14, 15, 16, 17, 18, 19, 20, 21, 22, 23] sm_1_2_3_4_5_6_7_8_9_13_24_25 fm_1_2_3_4_5_6_7_8_9_13_24_25 nd_1_2_3_4_5_6_7_8_9_13_24_25 sm_0_10_11_12_14_15_16_17_18_19_20_21_22_23 nd_0_10_11_12_14_15_16_17_18_19_20_21_22_23 dj_1_2_3_4_5_6_7_8_9_13_24_25__0_10_11_12_14_15_16_17_18_19_20_21_22_23 rfl rfl rfl rfl rfl (Nat.le_of_ble_eq_true rfl) rm_6_5_4 ⟨Nat.le_of_ble_eq_true rfl, Nat.le_of_ble_eq_true rfl⟩ gX11_knownFrom_0.2.2.2.1 (Ktu8 fun cl12261 gclm2262 gfi2263 gla2264 gml2265 gmm2266 gsl2267 gsm2268 => ?_)
  intro H locs hr2259 hP hD hS
  try dsimp only at hr2259
  refine Kpdr (ws := [(h0, oX11 bb kk ikp sg do9 ru9 ta9 tp9 ro9 ho9 de9), (ru9, oX6 bb sg fc sh r1 rc rh), (fc, iA G 5 ffc), (sh, iA G 8 fsh), (bversions, oX8 8 3 bversionsc (nI kbversions)), (bversionsc, iA G 24 fbversions), (bpersons, oX8 10 2 bpersonsc (nI kbpersons)), (bpersonsc, iA G 20 fbpersons), (bpapers, oX8 12 6 bpapersc (nI kbpapers)), (bpapersc, iA G 72 fbpapers), (blines, oX8 72 7 blinesc (nI kblines)), (blinesc, iA G 504 fblines), (bsteps, oX8 960 1 bstepsc (nI kbsteps)), (bstepsc, iA G 960 fbsteps), (sg, oX7 bb clk fi la ml mm sl sm cl12261), (clk, oX1 clm), (clm, iA G 36 gclm2262), (fi, iA G 12 gfi2263), (la, iA G 12 gla2264), (ml, iA G 12 gml2265), (mm, iA G 12 gmm2266), (sl, iA G 12 gsl2267), (sm, iA G 12 gsm2268), (bb, oX0 bpersons bpapers bstamps bversions blines bsteps bsayings bfindings bwarnings bquestions td vd vl gp), (bstamps, oX8 24 3 bstampsc (nI kbstamps)), (bstampsc, iA G 72 fbstamps)]) hP hD (fun hP hD => ?_)
  have w2269 := hr2259
  refine lv_iload_n hx hb gX11_knownFrom_0.2.2.2.2.1 rfl (lv_at3 hl) ?_
  refine lv_iconst (v := 2) hx hb gX11_knownFrom_0.2.2.2.2.2.1 (by decide) ?_
  refine lv_icmp_eq (tgt := 33) hx hb gX11_knownFrom_0.2.2.2.2.2.2.1 (by decide) (fun c_11_2270 => ?_) (fun c_11_2270 => ?_)
  · refine lv_aload_n hx hb gX11_knownFrom_1.2.2.2.2.2.2.2.2.1 rfl (lv_at0 hl) ?_
    refine gf_X11_44 hC rfl hK hP 0 rfl rfl gX11_knownFrom_1.2.2.2.2.2.2.2.2.2 ?_
    refine lv_iload_n hx hb gX11_knownFrom_2.1 rfl (lv_at1 hl) ?_
    refine lv_iload hx hb gX11_knownFrom_2.2.1 (lv_at4 hl) ?_
    refine vV (wr := [(h0, oX11 bb kk ikp sg do9 ru9 ta9 tp9 ro9 ho9 de9), (clk, oX1 clm), (clm, iA G 36 gclm2262), (fi, iA G 12 gfi2263), (bstamps, oX8 24 3 bstampsc (nI kbstamps)), (bstampsc, iA G 72 fbstamps)]) hC hK hl hP hD hS hA (c_settle l G ru9 x1 x4 bb sg fc sh r1 rc rh ffc fsh clk fi la ml mm sl sm cl12261 gla2264 gml2265 gmm2266 gsl2267 gsm2268 bpersons bpapers bstamps bversions blines bsteps bsayings bfindings bwarnings bquestions td vd vl gp bversionsc kbversions fbversions bpersonsc kbpersons fbpersons bpapersc kbpapers fbpapers blinesc kblines fblines bstepsc kbsteps fbsteps (hkbversions) (hkbpersons) (hkbpapers) (hkblines) (hkbsteps)) si_X11_243 [1, 2, 3, 14, 18, 19, 20, 21, 22, 23, 4, 5, 6, 7, 8, 9, 10, 11, 12, 13] [0, 15, 16, 17, 24, 25] sm_1_2_3_14_18_19_20_21_22_23_4_5_6_7_8_9_10_11_12_13 fm_1_2_3_14_18_19_20_21_22_23_4_5_6_7_8_9_10_11_12_13 nd_1_2_3_14_18_19_20_21_22_23_4_5_6_7_8_9_10_11_12_13 sm_0_15_16_17_24_25 nd_0_15_16_17_24_25 dj_1_2_3_14_18_19_20_21_22_23_4_5_6_7_8_9_10_11_12_13__0_15_16_17_24_25 rfl rfl rfl rfl rfl (Nat.le_of_ble_eq_true rfl) rm_6_5_5 ⟨Nat.le_of_ble_eq_true rfl, Nat.le_of_ble_eq_true rfl⟩ gX11_knownFrom_2.2.2.1 (Ktu5 fun r112273 rc12274 rh12275 gfc2276 gsh2277 => ?_)
    intro H locs hr2271 hP hD hS
    try dsimp only at hr2271
    refine Kpdr (ws := [(h0, oX11 bb kk ikp sg do9 ru9 ta9 tp9 ro9 ho9 de9), (clk, oX1 clm), (clm, iA G 36 gclm2262), (fi, iA G 12 gfi2263), (bstamps, oX8 24 3 bstampsc (nI kbstamps)), (bstampsc, iA G 72 fbstamps), (ru9, oX6 bb sg fc sh r112273 rc12274 rh12275), (fc, iA G 5 gfc2276), (sh, iA G 8 gsh2277), (sg, oX7 bb clk fi la ml mm sl sm cl12261), (la, iA G 12 gla2264), (ml, iA G 12 gml2265), (mm, iA G 12 gmm2266), (sl, iA G 12 gsl2267), (sm, iA G 12 gsm2268), (bb, oX0 bpersons bpapers bstamps bversions blines bsteps bsayings bfindings bwarnings bquestions td vd vl gp), (bversions, oX8 8 3 bversionsc (nI kbversions)), (bversionsc, iA G 24 fbversions), (bpersons, oX8 10 2 bpersonsc (nI kbpersons)), (bpersonsc, iA G 20 fbpersons), (bpapers, oX8 12 6 bpapersc (nI kbpapers)), (bpapersc, iA G 72 fbpapers), (blines, oX8 72 7 blinesc (nI kblines)), (blinesc, iA G 504 fblines), (bsteps, oX8 960 1 bstepsc (nI kbsteps)), (bstepsc, iA G 960 fbsteps)]) hP hD (fun hP hD => ?_)
    refine lv_aload_n hx hb gX11_knownFrom_2.2.2.2.1 rfl (lv_at0 hl) ?_
    refine gf_X11_44 hC rfl hK hP 0 rfl rfl gX11_knownFrom_2.2.2.2.2.1 ?_
    refine lv_iload_n hx hb gX11_knownFrom_2.2.2.2.2.2.1 rfl (lv_at2 hl) ?_
    refine pV hC hK hl hP hD (c_shouldHour l G ru9 x2 bb sg fc sh r112273 rc12274 rh12275 gsh2277) si_X11_247 [6, 8] sm_6_8 fm_6_8 nd_6_8 rfl rfl rfl rfl rfl (Nat.le_of_ble_eq_true rfl) rm_6_1_2 ⟨by first | exact Nat.le_of_ble_eq_true rfl | exact Nat.zero_le _, by first | exact Nat.le_of_ble_eq_true rfl | exact Nat.zero_le _⟩ gX11_knownFrom_2.2.2.2.2.2.2.1 (fun r2278 hr2278 => ?_)
    refine toQ hQ0 ?_
    exact RI (v := r2278) hC hP hD hS [0, 9, 1, 2, 3, 10, 11, 12, 13, 14, 6, 7, 8, 15, 16, 17, 18, 19, 20, 21, 22, 23, 24, 25, 4, 5] (cl12261, gclm2262, gfi2263, gla2264, gml2265, gmm2266, gsl2267, gsm2268, r112273, rc12274, rh12275, gfc2276, gsh2277) rfl rfl (by decide) (⟨trivial, w2269⟩) rfl gX11_knownFrom_2.2.2.2.2.2.2.2
  · refine lv_aload_n hx hb gX11_knownFrom_0.2.2.2.2.2.2.2.1 rfl (lv_at0 hl) ?_
    refine gf_X11_28 hC rfl hK hP 0 rfl rfl gX11_knownFrom_0.2.2.2.2.2.2.2.2.1 ?_
    refine lv_iload_n hx hb gX11_knownFrom_0.2.2.2.2.2.2.2.2.2 rfl (lv_at1 hl) ?_
    refine lv_iload_n hx hb gX11_knownFrom_1.1 rfl (lv_at2 hl) ?_
    refine lv_iload_n hx hb gX11_knownFrom_1.2.1 rfl (lv_at3 hl) ?_
    refine lv_if_ne (tgt := 28) hx hb gX11_knownFrom_1.2.2.1 (by decide) (fun c_21_2279 => ?_) (fun c_21_2279 => ?_)
    · refine lv_iconst (v := 0) hx hb gX11_knownFrom_1.2.2.2.2.2.1 (by decide) ?_
      refine pV hC hK hl hP hD (c_toldHour l G sg x1 x2 0 bb clk fi la ml mm sl sm cl12261 gla2264 gml2265 gmm2266 gsl2267 gsm2268 bpersons bpapers bstamps bversions blines bsteps bsayings bfindings bwarnings bquestions td vd vl gp bpapersc kbpapers fbpapers bpersonsc kbpersons fbpersons (hkbpapers) (hkbpersons)) si_X11_250 [14, 18, 19, 20, 21, 22, 23, 8, 9, 6, 7] sm_14_18_19_20_21_22_23_8_9_6_7 fm_14_18_19_20_21_22_23_8_9_6_7 nd_14_18_19_20_21_22_23_8_9_6_7 rfl rfl rfl rfl rfl (Nat.le_of_ble_eq_true rfl) rm_6_4_6 ⟨by first | exact Nat.le_of_ble_eq_true rfl | exact Nat.zero_le _, by first | exact Nat.le_of_ble_eq_true rfl | exact Nat.zero_le _⟩ gX11_knownFrom_1.2.2.2.2.2.2.1 (fun r2280 hr2280 => ?_)
      refine toQ hQ0 ?_
      exact RI (v := r2280) hC hP hD hS [0, 14, 15, 16, 17, 18, 19, 20, 21, 22, 1, 2, 3, 23, 4, 5, 6, 7, 8, 9, 10, 11, 12, 13, 24, 25] (cl12261, gclm2262, gfi2263, gla2264, gml2265, gmm2266, gsl2267, gsm2268, r1, rc, rh, ffc, fsh) rfl rfl (by decide) (⟨trivial, w2269⟩) rfl gX11_knownFrom_1.2.2.2.2.2.2.2.1
    · refine lv_iconst (v := 1) hx hb gX11_knownFrom_1.2.2.2.1 (by decide) ?_
      refine lv_goto (tgt := 29) hx hb gX11_knownFrom_1.2.2.2.2.1 (by decide) ?_
      refine pV hC hK hl hP hD (c_toldHour l G sg x1 x2 1 bb clk fi la ml mm sl sm cl12261 gla2264 gml2265 gmm2266 gsl2267 gsm2268 bpersons bpapers bstamps bversions blines bsteps bsayings bfindings bwarnings bquestions td vd vl gp bpapersc kbpapers fbpapers bpersonsc kbpersons fbpersons (hkbpapers) (hkbpersons)) si_X11_250 [14, 18, 19, 20, 21, 22, 23, 8, 9, 6, 7] sm_14_18_19_20_21_22_23_8_9_6_7 fm_14_18_19_20_21_22_23_8_9_6_7 nd_14_18_19_20_21_22_23_8_9_6_7 rfl rfl rfl rfl rfl (Nat.le_of_ble_eq_true rfl) rm_6_4_6 ⟨by first | exact Nat.le_of_ble_eq_true rfl | exact Nat.zero_le _, by first | exact Nat.le_of_ble_eq_true rfl | exact Nat.zero_le _⟩ gX11_knownFrom_1.2.2.2.2.2.2.1 (fun r2281 hr2281 => ?_)
      refine toQ hQ0 ?_
      exact RI (v := r2281) hC hP hD hS [0, 14, 15, 16, 17, 18, 19, 20, 21, 22, 1, 2, 3, 23, 4, 5, 6, 7, 8, 9, 10, 11, 12, 13, 24, 25] (cl12261, gclm2262, gfi2263, gla2264, gml2265, gmm2266, gsl2267, gsm2268, r1, rc, rh, ffc, fsh) rfl rfl (by decide) (⟨trivial, w2269⟩) rfl gX11_knownFrom_1.2.2.2.2.2.2.2.1
def K_p_knew (l : Launch) (G : GG) (h0 : Nat) (x1 : Int32) (x2 : Int32) (x3 : Int32) (bb : Nat) (kk : Nat) (ikp : Int32) (sg : Nat) (do9 : Nat) (ru9 : Nat) (ta9 : Nat) (tp9 : Nat) (ro9 : Nat) (ho9 : Nat) (de9 : Nat) (clk : Nat) (fi : Nat) (la : Nat) (ml : Nat) (mm : Nat) (sl : Nat) (sm : Nat) (cl : Int32) (clm : Nat) (fclm : Nat → Int32) (ffi : Nat → Int32) (fla : Nat → Int32) (fml : Nat → Int32) (fmm : Nat → Int32) (fsl : Nat → Int32) (fsm : Nat → Int32) (fc : Nat) (sh : Nat) (r1 : Int32) (rc : Int32) (rh : Int32) (ffc : Nat → Int32) (fsh : Nat → Int32) (bpersons : Nat) (bpapers : Nat) (bstamps : Nat) (bversions : Nat) (blines : Nat) (bsteps : Nat) (bsayings : Nat) (bfindings : Nat) (bwarnings : Nat) (bquestions : Nat) (td : Int32) (vd : Int32) (vl : Int32) (gp : Int32) (bversionsc : Nat) (kbversions : Nat) (fbversions : Nat → Int32) (bpersonsc : Nat) (kbpersons : Nat) (fbpersons : Nat → Int32) (bpapersc : Nat) (kbpapers : Nat) (fbpapers : Nat → Int32) (blinesc : Nat) (kblines : Nat) (fblines : Nat → Int32) (bstepsc : Nat) (kbsteps : Nat) (fbsteps : Nat → Int32) (bstampsc : Nat) (kbstamps : Nat) (fbstamps : Nat → Int32) : Prop := MI l G yX11_knew cX11_knew 5 (some .int) 7 0 0 [.ref h0, .int x1, .int x2, .int x3] [(h0, oX11 bb kk ikp sg do9 ru9 ta9 tp9 ro9 ho9 de9), (sg, oX7 bb clk fi la ml mm sl sm cl), (clk, oX1 clm), (clm, iA G 36 fclm), (fi, iA G 12 ffi), (la, iA G 12 fla), (ml, iA G 12 fml), (mm, iA G 12 fmm), (sl, iA G 12 fsl), (sm, iA G 12 fsm), (ru9, oX6 bb sg fc sh r1 rc rh), (fc, iA G 5 ffc), (sh, iA G 8 fsh), (bb, oX0 bpersons bpapers bstamps bversions blines bsteps bsayings bfindings bwarnings bquestions td vd vl gp), (bversions, oX8 8 3 bversionsc (nI kbversions)), (bversionsc, iA G 24 fbversions), (bpersons, oX8 10 2 bpersonsc (nI kbpersons)), (bpersonsc, iA G 20 fbpersons), (bpapers, oX8 12 6 bpapersc (nI kbpapers)), (bpapersc, iA G 72 fbpapers), (blines, oX8 72 7 blinesc (nI kblines)), (blinesc, iA G 504 fblines), (bsteps, oX8 960 1 bstepsc (nI kbsteps)), (bstepsc, iA G 960 fbsteps), (bstamps, oX8 24 3 bstampsc (nI kbstamps)), (bstampsc, iA G 72 fbstamps)] (fun (r : Int32) (u : Int32 × (Nat → Int32) × (Nat → Int32) × (Nat → Int32) × (Nat → Int32) × (Nat → Int32) × (Nat → Int32) × (Nat → Int32) × Int32 × Int32 × Int32 × (Nat → Int32) × (Nat → Int32)) => (True) ∧ (u.1 = 0 ∨ u.1 = 1)) (fun u : Int32 × (Nat → Int32) × (Nat → Int32) × (Nat → Int32) × (Nat → Int32) × (Nat → Int32) × (Nat → Int32) × (Nat → Int32) × Int32 × Int32 × Int32 × (Nat → Int32) × (Nat → Int32) => [(h0, oX11 bb kk ikp sg do9 ru9 ta9 tp9 ro9 ho9 de9), (sg, oX7 bb clk fi la ml mm sl sm u.1), (clk, oX1 clm), (clm, iA G 36 u.2.1), (fi, iA G 12 u.2.2.1), (la, iA G 12 u.2.2.2.1), (ml, iA G 12 u.2.2.2.2.1), (mm, iA G 12 u.2.2.2.2.2.1), (sl, iA G 12 u.2.2.2.2.2.2.1), (sm, iA G 12 u.2.2.2.2.2.2.2.1), (ru9, oX6 bb sg fc sh u.2.2.2.2.2.2.2.2.1 u.2.2.2.2.2.2.2.2.2.1 u.2.2.2.2.2.2.2.2.2.2.1), (fc, iA G 5 u.2.2.2.2.2.2.2.2.2.2.2.1), (sh, iA G 8 u.2.2.2.2.2.2.2.2.2.2.2.2), (bb, oX0 bpersons bpapers bstamps bversions blines bsteps bsayings bfindings bwarnings bquestions td vd vl gp), (bversions, oX8 8 3 bversionsc (nI kbversions)), (bversionsc, iA G 24 fbversions), (bpersons, oX8 10 2 bpersonsc (nI kbpersons)), (bpersonsc, iA G 20 fbpersons), (bpapers, oX8 12 6 bpapersc (nI kbpapers)), (bpapersc, iA G 72 fbpapers), (blines, oX8 72 7 blinesc (nI kblines)), (blinesc, iA G 504 fblines), (bsteps, oX8 960 1 bstepsc (nI kbsteps)), (bstepsc, iA G 960 fbsteps), (bstamps, oX8 24 3 bstampsc (nI kbstamps)), (bstampsc, iA G 72 fbstamps)])
set_option maxHeartbeats 4000000 in
set_option maxRecDepth 100000 in
theorem p_knew (l : Launch) (G : GG) (h0 : Nat) (x1 : Int32) (x2 : Int32) (x3 : Int32) (bb : Nat) (kk : Nat) (ikp : Int32) (sg : Nat) (do9 : Nat) (ru9 : Nat) (ta9 : Nat) (tp9 : Nat) (ro9 : Nat) (ho9 : Nat) (de9 : Nat) (clk : Nat) (fi : Nat) (la : Nat) (ml : Nat) (mm : Nat) (sl : Nat) (sm : Nat) (cl : Int32) (clm : Nat) (fclm : Nat → Int32) (ffi : Nat → Int32) (fla : Nat → Int32) (fml : Nat → Int32) (fmm : Nat → Int32) (fsl : Nat → Int32) (fsm : Nat → Int32) (fc : Nat) (sh : Nat) (r1 : Int32) (rc : Int32) (rh : Int32) (ffc : Nat → Int32) (fsh : Nat → Int32) (bpersons : Nat) (bpapers : Nat) (bstamps : Nat) (bversions : Nat) (blines : Nat) (bsteps : Nat) (bsayings : Nat) (bfindings : Nat) (bwarnings : Nat) (bquestions : Nat) (td : Int32) (vd : Int32) (vl : Int32) (gp : Int32) (bversionsc : Nat) (kbversions : Nat) (fbversions : Nat → Int32) (bpersonsc : Nat) (kbpersons : Nat) (fbpersons : Nat → Int32) (bpapersc : Nat) (kbpapers : Nat) (fbpapers : Nat → Int32) (blinesc : Nat) (kblines : Nat) (fblines : Nat → Int32) (bstepsc : Nat) (kbsteps : Nat) (fbsteps : Nat → Int32) (bstampsc : Nat) (kbstamps : Nat) (fbstamps : Nat → Int32) (hkbversions : kbversions ≤ 8) (hkbpersons : kbpersons ≤ 10) (hkbpapers : kbpapers ≤ 12) (hkblines : kblines ≤ 72) (hkbsteps : kbsteps ≤ 960) (hkbstamps : kbstamps ≤ 24) (hcl : cl = 0 ∨ cl = 1) : K_p_knew l G h0 x1 x2 x3 bb kk ikp sg do9 ru9 ta9 tp9 ro9 ho9 de9 clk fi la ml mm sl sm cl clm fclm ffi fla fml fmm fsl fsm fc sh r1 rc rh ffc fsh bpersons bpapers bstamps bversions blines bsteps bsayings bfindings bwarnings bquestions td vd vl gp bversionsc kbversions fbversions bpersonsc kbpersons fbpersons bpapersc kbpapers fbpapers blinesc kblines fblines bstepsc kbsteps fbsteps bstampsc kbstamps fbstamps := by
  refine MI.start (by decide +kernel) (Nat.le_of_ble_eq_true rfl) ?_
  intro p e s m below meth c A ls hC hK hP hD hS hA hl
  refine absQ (fun Q0 hQ0 => ?_)
  have hl : lv_has ls 5 [(0, .ref h0), (1, .int x1), (2, .int x2), (3, .int x3)] := hl
  refine Kan8 hC (fun hx hb hr hml hB hown hlocks hnm => ?_)
  refine lv_aload_n hx hb gX11_knew_0.1 rfl (lv_at0 hl) ?_
  refine gf_X11_15 hC rfl hK hP 0 rfl rfl gX11_knew_0.2.1 ?_
  refine gf_X11_107 hC rfl hK hP 13 rfl rfl gX11_knew_0.2.2.1 ?_
  refine lv_iload_n hx hb gX11_knew_0.2.2.2.1 rfl (lv_at1 hl) ?_
  refine pV hC hK hl hP hD (c_T_has l G bpersons x1 10 2 bpersonsc kbpersons) si_X11_124 [16] sm_16 fm_16 nd_16 rfl rfl rfl rfl rfl (Nat.le_of_ble_eq_true rfl) rm_7_1_2 ⟨by first | exact Nat.le_of_ble_eq_true rfl | exact Nat.zero_le _, by first | exact Nat.le_of_ble_eq_true rfl | exact Nat.zero_le _⟩ gX11_knew_0.2.2.2.2.1 (Kors (Keqa fun a2283 => ?_) (Keqa fun a2283 => ?_))
  · refine lv_if_eq (tgt := 28) hx hb gX11_knew_0.2.2.2.2.2.1 (by decide) (fun c9 => absurd c9 (by decide)) (fun _ => ?_)
    refine lv_iload_n hx hb gX11_knew_0.2.2.2.2.2.2.1 rfl (lv_at2 hl) ?_
    refine pS hC hK hl (c_isThing l G x2) si_X11_213 rfl rfl (Nat.le_of_ble_eq_true rfl) rm_7_2_1 ⟨by first | exact Nat.le_of_ble_eq_true rfl | exact Nat.zero_le _, by first | exact Nat.le_of_ble_eq_true rfl | exact Nat.zero_le _⟩ gX11_knew_0.2.2.2.2.2.2.2.1 (Kors (Keqa fun a2285 => ?_) (Keqa fun a2285 => ?_))
    · refine lv_if_eq (tgt := 28) hx hb gX11_knew_0.2.2.2.2.2.2.2.2.1 (by decide) (fun c9 => absurd c9 (by decide)) (fun _ => ?_)
      refine lv_iload_n hx hb gX11_knew_0.2.2.2.2.2.2.2.2.2 rfl (lv_at3 hl) ?_
      refine pS hC hK hl (c_isWay l G x3) si_X11_216 rfl rfl (Nat.le_of_ble_eq_true rfl) rm_7_2_1 ⟨by first | exact Nat.le_of_ble_eq_true rfl | exact Nat.zero_le _, by first | exact Nat.le_of_ble_eq_true rfl | exact Nat.zero_le _⟩ gX11_knew_1.1 (Kors (Keqa fun a2287 => ?_) (Keqa fun a2287 => ?_))
      · refine lv_if_ne (tgt := 30) hx hb gX11_knew_1.2.1 (by decide) (fun _ => ?_) (fun c9 => absurd c9 (by decide))
        refine lv_aload_n hx hb gX11_knew_1.2.2.2.2.1 rfl (lv_at0 hl) ?_
        refine lv_iload_n hx hb gX11_knew_1.2.2.2.2.2.1 rfl (lv_at1 hl) ?_
        refine lv_iload_n hx hb gX11_knew_1.2.2.2.2.2.2.1 rfl (lv_at2 hl) ?_
        refine lv_iload_n hx hb gX11_knew_1.2.2.2.2.2.2.2.1 rfl (lv_at3 hl) ?_
        refine lv_aload_n hx hb gX11_knew_1.2.2.2.2.2.2.2.2.1 rfl (lv_at0 hl) ?_
        refine gf_X11_15 hC rfl hK hP 0 rfl rfl gX11_knew_1.2.2.2.2.2.2.2.2.2 ?_
        refine pV hC hK hl hP hD (c_inView l G bb bpersons bpapers bstamps bversions blines bsteps bsayings bfindings bwarnings bquestions td vd vl gp bpapersc kbpapers fbpapers (hkbpapers)) si_X11_97 [13, 18, 19] sm_13_18_19 fm_13_18_19 nd_13_18_19 rfl rfl rfl rfl rfl (Nat.le_of_ble_eq_true rfl) rm_7_3_6 ⟨by first | exact Nat.le_of_ble_eq_true rfl | exact Nat.zero_le _, by first | exact Nat.le_of_ble_eq_true rfl | exact Nat.zero_le _⟩ gX11_knew_2.1 (fun r2288 hr2288 => ?_)
        refine iV (wr := []) hC hK hl hP hD hS hA (c_known l G h0 x1 x2 x3 r2288 bb kk ikp sg do9 ru9 ta9 tp9 ro9 ho9 de9 clk fi la ml mm sl sm cl clm fclm ffi fla fml fmm fsl fsm fc sh r1 rc rh ffc fsh bpersons bpapers bstamps bversions blines bsteps bsayings bfindings bwarnings bquestions td vd vl gp bversionsc kbversions fbversions bpersonsc kbpersons fbpersons bpapersc kbpapers fbpapers blinesc kblines fblines bstepsc kbsteps fbsteps bstampsc kbstamps fbstamps (hkbversions) (hkbpersons) (hkbpapers) (hkblines) (hkbsteps) (hkbstamps)) si_X11_219 [0, 1, 2, 3, 4, 5, 6, 7, 8, 9, 10, 11, 12, 13, 14, 15, 16, 17, 18, 19, 20, 21, 22, 23, 24, 25] [] sm_0_1_2_3_4_5_6_7_8_9_10_11_12_13_14_15_16_17_18_19_20_21_22_23_24_25 fm_0_1_2_3_4_5_6_7_8_9_10_11_12_13_14_15_16_17_18_19_20_21_22_23_24_25 nd_0_1_2_3_4_5_6_7_8_9_10_11_12_13_14_15_16_17_18_19_20_21_22_23_24_25 rfl rfl (by decide) rfl rfl rfl rfl rfl (Nat.le_of_ble_eq_true rfl) rm_7_6_5 ⟨Nat.le_of_ble_eq_true rfl, Nat.le_of_ble_eq_true rfl⟩ gX11_knew_2.2.1 (fun r2289 => Ktu13 fun cl12291 gclm2292 gfi2293 gla2294 gml2295 gmm2296 gsl2297 gsm2298 r112299 rc12300 rh12301 gfc2302 gsh2303 => ?_)
        intro H locs hr2289 hP hD hS
        try dsimp only at hr2289
        refine Kpdr (ws := [(h0, oX11 bb kk ikp sg do9 ru9 ta9 tp9 ro9 ho9 de9), (sg, oX7 bb clk fi la ml mm sl sm cl12291), (clk, oX1 clm), (clm, iA G 36 gclm2292), (fi, iA G 12 gfi2293), (la, iA G 12 gla2294), (ml, iA G 12 gml2295), (mm, iA G 12 gmm2296), (sl, iA G 12 gsl2297), (sm, iA G 12 gsm2298), (ru9, oX6 bb sg fc sh r112299 rc12300 rh12301), (fc, iA G 5 gfc2302), (sh, iA G 8 gsh2303), (bb, oX0 bpersons bpapers bstamps bversions blines bsteps bsayings bfindings bwarnings bquestions td vd vl gp), (bversions, oX8 8 3 bversionsc (nI kbversions)), (bversionsc, iA G 24 fbversions), (bpersons, oX8 10 2 bpersonsc (nI kbpersons)), (bpersonsc, iA G 20 fbpersons), (bpapers, oX8 12 6 bpapersc (nI kbpapers)), (bpapersc, iA G 72 fbpapers), (blines, oX8 72 7 blinesc (nI kblines)), (blinesc, iA G 504 fblines), (bsteps, oX8 960 1 bstepsc (nI kbsteps)), (bstepsc, iA G 960 fbsteps), (bstamps, oX8 24 3 bstampsc (nI kbstamps)), (bstampsc, iA G 72 fbstamps)]) hP hD (fun hP hD => ?_)
        obtain ⟨hr2289, w2304⟩ := hr2289
        refine lv_istore (lv' := [(4, .int r2289), (0, .ref h0), (1, .int x1), (2, .int x2), (3, .int x3)]) hx hb gX11_knew_2.2.2.1 hl (by decide) rfl (fun ls hl => ?_)
        refine lv_iload hx hb gX11_knew_2.2.2.2.1 (lv_at0 hl) ?_
        refine lv_ldc hx hb hown (hB _ m_599) gX11_knew_2.2.2.2.2.1 ?_
        refine lv_icmp_ne (tgt := 58) hx hb gX11_knew_2.2.2.2.2.2.1 (by decide) (fun c_50_2305 => ?_) (fun c_50_2305 => ?_)
        · refine lv_iload hx hb gX11_knew_2.2.2.2.2.2.2.2.2.1 (lv_at0 hl) ?_
          refine lv_sipush (v := 1000) hx hb gX11_knew_2.2.2.2.2.2.2.2.2.2 (by decide) ?_
          refine lv_iadd hx hb gX11_knew_3.1 ?_
          refine toQ hQ0 ?_
          exact RI (v := r2289 + 1000) hC hP hD hS [0, 1, 2, 3, 4, 5, 6, 7, 8, 9, 10, 11, 12, 13, 14, 15, 16, 17, 18, 19, 20, 21, 22, 23, 24, 25] (cl12291, gclm2292, gfi2293, gla2294, gml2295, gmm2296, gsl2297, gsm2298, r112299, rc12300, rh12301, gfc2302, gsh2303) rfl rfl (by decide) (⟨trivial, w2304⟩) rfl gX11_knew_3.2
        · refine lv_bipush (v := (-3)) hx hb gX11_knew_2.2.2.2.2.2.2.1 (by decide) ?_
          refine lv_goto (tgt := 64) hx hb gX11_knew_2.2.2.2.2.2.2.2.1 (by decide) ?_
          refine toQ hQ0 ?_
          exact RI (v := (-3)) hC hP hD hS [0, 1, 2, 3, 4, 5, 6, 7, 8, 9, 10, 11, 12, 13, 14, 15, 16, 17, 18, 19, 20, 21, 22, 23, 24, 25] (cl12291, gclm2292, gfi2293, gla2294, gml2295, gmm2296, gsl2297, gsm2298, r112299, rc12300, rh12301, gfc2302, gsh2303) rfl rfl (by decide) (⟨trivial, w2304⟩) rfl gX11_knew_3.2
      · refine lv_if_ne (tgt := 30) hx hb gX11_knew_1.2.1 (by decide) (fun c9 => absurd (by decide) c9) (fun _ => ?_)
        refine lv_iconst (v := (-1)) hx hb gX11_knew_1.2.2.1 (by decide) ?_
        refine toQ hQ0 ?_
        exact RI (v := (-1)) hC hP hD hS [0, 1, 2, 3, 4, 5, 6, 7, 8, 9, 10, 11, 12, 13, 14, 15, 16, 17, 18, 19, 20, 21, 22, 23, 24, 25] (cl, fclm, ffi, fla, fml, fmm, fsl, fsm, r1, rc, rh, ffc, fsh) rfl rfl (by decide) (⟨trivial, hcl⟩) rfl gX11_knew_1.2.2.2.1
    · refine lv_if_eq (tgt := 28) hx hb gX11_knew_0.2.2.2.2.2.2.2.2.1 (by decide) (fun _ => ?_) (fun c9 => absurd (by decide) c9)
      refine lv_iconst (v := (-1)) hx hb gX11_knew_1.2.2.1 (by decide) ?_
      refine toQ hQ0 ?_
      exact RI (v := (-1)) hC hP hD hS [0, 1, 2, 3, 4, 5, 6, 7, 8, 9, 10, 11, 12, 13, 14, 15, 16, 17, 18, 19, 20, 21, 22, 23, 24, 25] (cl, fclm, ffi, fla, fml, fmm, fsl, fsm, r1, rc, rh, ffc, fsh) rfl rfl (by decide) (⟨trivial, hcl⟩) rfl gX11_knew_1.2.2.2.1
  · refine lv_if_eq (tgt := 28) hx hb gX11_knew_0.2.2.2.2.2.1 (by decide) (fun _ => ?_) (fun c9 => absurd (by decide) c9)
    refine lv_iconst (v := (-1)) hx hb gX11_knew_1.2.2.1 (by decide) ?_
    refine toQ hQ0 ?_
    exact RI (v := (-1)) hC hP hD hS [0, 1, 2, 3, 4, 5, 6, 7, 8, 9, 10, 11, 12, 13, 14, 15, 16, 17, 18, 19, 20, 21, 22, 23, 24, 25] (cl, fclm, ffi, fla, fml, fmm, fsl, fsm, r1, rc, rh, ffc, fsh) rfl rfl (by decide) (⟨trivial, hcl⟩) rfl gX11_knew_1.2.2.2.1
def K_p_why (l : Launch) (G : GG) (h0 : Nat) (x1 : Int32) (x2 : Int32) (bb : Nat) (kk : Nat) (ikp : Int32) (sg : Nat) (do9 : Nat) (ru9 : Nat) (ta9 : Nat) (tp9 : Nat) (ro9 : Nat) (ho9 : Nat) (de9 : Nat) (clk : Nat) (fi : Nat) (la : Nat) (ml : Nat) (mm : Nat) (sl : Nat) (sm : Nat) (cl : Int32) (clm : Nat) (fclm : Nat → Int32) (ffi : Nat → Int32) (fla : Nat → Int32) (fml : Nat → Int32) (fmm : Nat → Int32) (fsl : Nat → Int32) (fsm : Nat → Int32) (fc : Nat) (sh : Nat) (r1 : Int32) (rc : Int32) (rh : Int32) (ffc : Nat → Int32) (fsh : Nat → Int32) (bpersons : Nat) (bpapers : Nat) (bstamps : Nat) (bversions : Nat) (blines : Nat) (bsteps : Nat) (bsayings : Nat) (bfindings : Nat) (bwarnings : Nat) (bquestions : Nat) (td : Int32) (vd : Int32) (vl : Int32) (gp : Int32) (bversionsc : Nat) (kbversions : Nat) (fbversions : Nat → Int32) (bpersonsc : Nat) (kbpersons : Nat) (fbpersons : Nat → Int32) (bpapersc : Nat) (kbpapers : Nat) (fbpapers : Nat → Int32) (blinesc : Nat) (kblines : Nat) (fblines : Nat → Int32) (bstepsc : Nat) (kbsteps : Nat) (fbsteps : Nat → Int32) (bstampsc : Nat) (kbstamps : Nat) (fbstamps : Nat → Int32) : Prop := MI l G yX11_why cX11_why 5 (some .int) 7 0 0 [.ref h0, .int x1, .int x2] [(h0, oX11 bb kk ikp sg do9 ru9 ta9 tp9 ro9 ho9 de9), (sg, oX7 bb clk fi la ml mm sl sm cl), (clk, oX1 clm), (clm, iA G 36 fclm), (fi, iA G 12 ffi), (la, iA G 12 fla), (ml, iA G 12 fml), (mm, iA G 12 fmm), (sl, iA G 12 fsl), (sm, iA G 12 fsm), (ru9, oX6 bb sg fc sh r1 rc rh), (fc, iA G 5 ffc), (sh, iA G 8 fsh), (bb, oX0 bpersons bpapers bstamps bversions blines bsteps bsayings bfindings bwarnings bquestions td vd vl gp), (bversions, oX8 8 3 bversionsc (nI kbversions)), (bversionsc, iA G 24 fbversions), (bpersons, oX8 10 2 bpersonsc (nI kbpersons)), (bpersonsc, iA G 20 fbpersons), (bpapers, oX8 12 6 bpapersc (nI kbpapers)), (bpapersc, iA G 72 fbpapers), (blines, oX8 72 7 blinesc (nI kblines)), (blinesc, iA G 504 fblines), (bsteps, oX8 960 1 bstepsc (nI kbsteps)), (bstepsc, iA G 960 fbsteps), (bstamps, oX8 24 3 bstampsc (nI kbstamps)), (bstampsc, iA G 72 fbstamps)] (fun (r : Int32) (u : Int32 × (Nat → Int32) × (Nat → Int32) × (Nat → Int32) × (Nat → Int32) × (Nat → Int32) × (Nat → Int32) × (Nat → Int32) × Int32 × Int32 × Int32 × (Nat → Int32) × (Nat → Int32)) => (True) ∧ (u.1 = 0 ∨ u.1 = 1)) (fun u : Int32 × (Nat → Int32) × (Nat → Int32) × (Nat → Int32) × (Nat → Int32) × (Nat → Int32) × (Nat → Int32) × (Nat → Int32) × Int32 × Int32 × Int32 × (Nat → Int32) × (Nat → Int32) => [(h0, oX11 bb kk ikp sg do9 ru9 ta9 tp9 ro9 ho9 de9), (sg, oX7 bb clk fi la ml mm sl sm u.1), (clk, oX1 clm), (clm, iA G 36 u.2.1), (fi, iA G 12 u.2.2.1), (la, iA G 12 u.2.2.2.1), (ml, iA G 12 u.2.2.2.2.1), (mm, iA G 12 u.2.2.2.2.2.1), (sl, iA G 12 u.2.2.2.2.2.2.1), (sm, iA G 12 u.2.2.2.2.2.2.2.1), (ru9, oX6 bb sg fc sh u.2.2.2.2.2.2.2.2.1 u.2.2.2.2.2.2.2.2.2.1 u.2.2.2.2.2.2.2.2.2.2.1), (fc, iA G 5 u.2.2.2.2.2.2.2.2.2.2.2.1), (sh, iA G 8 u.2.2.2.2.2.2.2.2.2.2.2.2), (bb, oX0 bpersons bpapers bstamps bversions blines bsteps bsayings bfindings bwarnings bquestions td vd vl gp), (bversions, oX8 8 3 bversionsc (nI kbversions)), (bversionsc, iA G 24 fbversions), (bpersons, oX8 10 2 bpersonsc (nI kbpersons)), (bpersonsc, iA G 20 fbpersons), (bpapers, oX8 12 6 bpapersc (nI kbpapers)), (bpapersc, iA G 72 fbpapers), (blines, oX8 72 7 blinesc (nI kblines)), (blinesc, iA G 504 fblines), (bsteps, oX8 960 1 bstepsc (nI kbsteps)), (bstepsc, iA G 960 fbsteps), (bstamps, oX8 24 3 bstampsc (nI kbstamps)), (bstampsc, iA G 72 fbstamps)])
set_option maxHeartbeats 4000000 in
set_option maxRecDepth 100000 in
theorem p_why (l : Launch) (G : GG) (h0 : Nat) (x1 : Int32) (x2 : Int32) (bb : Nat) (kk : Nat) (ikp : Int32) (sg : Nat) (do9 : Nat) (ru9 : Nat) (ta9 : Nat) (tp9 : Nat) (ro9 : Nat) (ho9 : Nat) (de9 : Nat) (clk : Nat) (fi : Nat) (la : Nat) (ml : Nat) (mm : Nat) (sl : Nat) (sm : Nat) (cl : Int32) (clm : Nat) (fclm : Nat → Int32) (ffi : Nat → Int32) (fla : Nat → Int32) (fml : Nat → Int32) (fmm : Nat → Int32) (fsl : Nat → Int32) (fsm : Nat → Int32) (fc : Nat) (sh : Nat) (r1 : Int32) (rc : Int32) (rh : Int32) (ffc : Nat → Int32) (fsh : Nat → Int32) (bpersons : Nat) (bpapers : Nat) (bstamps : Nat) (bversions : Nat) (blines : Nat) (bsteps : Nat) (bsayings : Nat) (bfindings : Nat) (bwarnings : Nat) (bquestions : Nat) (td : Int32) (vd : Int32) (vl : Int32) (gp : Int32) (bversionsc : Nat) (kbversions : Nat) (fbversions : Nat → Int32) (bpersonsc : Nat) (kbpersons : Nat) (fbpersons : Nat → Int32) (bpapersc : Nat) (kbpapers : Nat) (fbpapers : Nat → Int32) (blinesc : Nat) (kblines : Nat) (fblines : Nat → Int32) (bstepsc : Nat) (kbsteps : Nat) (fbsteps : Nat → Int32) (bstampsc : Nat) (kbstamps : Nat) (fbstamps : Nat → Int32) (hkbversions : kbversions ≤ 8) (hkbpersons : kbpersons ≤ 10) (hkbpapers : kbpapers ≤ 12) (hkblines : kblines ≤ 72) (hkbsteps : kbsteps ≤ 960) (hkbstamps : kbstamps ≤ 24) (hcl : cl = 0 ∨ cl = 1) : K_p_why l G h0 x1 x2 bb kk ikp sg do9 ru9 ta9 tp9 ro9 ho9 de9 clk fi la ml mm sl sm cl clm fclm ffi fla fml fmm fsl fsm fc sh r1 rc rh ffc fsh bpersons bpapers bstamps bversions blines bsteps bsayings bfindings bwarnings bquestions td vd vl gp bversionsc kbversions fbversions bpersonsc kbpersons fbpersons bpapersc kbpapers fbpapers blinesc kblines fblines bstepsc kbsteps fbsteps bstampsc kbstamps fbstamps := by
  refine MI.start (by decide +kernel) (Nat.le_of_ble_eq_true rfl) ?_
  intro p e s m below meth c A ls hC hK hP hD hS hA hl
  refine absQ (fun Q0 hQ0 => ?_)
  have hl : lv_has ls 5 [(0, .ref h0), (1, .int x1), (2, .int x2)] := hl
  refine Kan8 hC (fun hx hb hr hml hB hown hlocks hnm => ?_)
  refine lv_aload_n hx hb gX11_why_0.1 rfl (lv_at0 hl) ?_
  refine gf_X11_15 hC rfl hK hP 0 rfl rfl gX11_why_0.2.1 ?_
  refine gf_X11_107 hC rfl hK hP 13 rfl rfl gX11_why_0.2.2.1 ?_
  refine lv_iload_n hx hb gX11_why_0.2.2.2.1 rfl (lv_at1 hl) ?_
  refine pV hC hK hl hP hD (c_T_has l G bpersons x1 10 2 bpersonsc kbpersons) si_X11_124 [16] sm_16 fm_16 nd_16 rfl rfl rfl rfl rfl (Nat.le_of_ble_eq_true rfl) rm_7_1_2 ⟨by first | exact Nat.le_of_ble_eq_true rfl | exact Nat.zero_le _, by first | exact Nat.le_of_ble_eq_true rfl | exact Nat.zero_le _⟩ gX11_why_0.2.2.2.2.1 (Kors (Keqa fun a2307 => ?_) (Keqa fun a2307 => ?_))
  · refine lv_if_eq (tgt := 21) hx hb gX11_why_0.2.2.2.2.2.1 (by decide) (fun c9 => absurd c9 (by decide)) (fun _ => ?_)
    refine lv_iload_n hx hb gX11_why_0.2.2.2.2.2.2.1 rfl (lv_at2 hl) ?_
    refine pS hC hK hl (c_isThing l G x2) si_X11_213 rfl rfl (Nat.le_of_ble_eq_true rfl) rm_7_2_1 ⟨by first | exact Nat.le_of_ble_eq_true rfl | exact Nat.zero_le _, by first | exact Nat.le_of_ble_eq_true rfl | exact Nat.zero_le _⟩ gX11_why_0.2.2.2.2.2.2.2.1 (Kors (Keqa fun a2309 => ?_) (Keqa fun a2309 => ?_))
    · refine lv_if_ne (tgt := 23) hx hb gX11_why_0.2.2.2.2.2.2.2.2.1 (by decide) (fun _ => ?_) (fun c9 => absurd c9 (by decide))
      refine lv_aload_n hx hb gX11_why_1.2.1 rfl (lv_at0 hl) ?_
      refine gf_X11_15 hC rfl hK hP 0 rfl rfl gX11_why_1.2.2.1 ?_
      refine pV hC hK hl hP hD (c_inView l G bb bpersons bpapers bstamps bversions blines bsteps bsayings bfindings bwarnings bquestions td vd vl gp bpapersc kbpapers fbpapers (hkbpapers)) si_X11_97 [13, 18, 19] sm_13_18_19 fm_13_18_19 nd_13_18_19 rfl rfl rfl rfl rfl (Nat.le_of_ble_eq_true rfl) rm_7_3_6 ⟨by first | exact Nat.le_of_ble_eq_true rfl | exact Nat.zero_le _, by first | exact Nat.le_of_ble_eq_true rfl | exact Nat.zero_le _⟩ gX11_why_1.2.2.2.1 (fun r2310 hr2310 => ?_)
      refine lv_istore_n (lv' := [(3, .int r2310), (0, .ref h0), (1, .int x1), (2, .int x2)]) hx hb gX11_why_1.2.2.2.2.1 rfl hl (by decide) rfl (fun ls hl => ?_)
      refine lv_aload_n hx hb gX11_why_1.2.2.2.2.2.1 rfl (lv_at1 hl) ?_
      refine gf_X11_28 hC rfl hK hP 0 rfl rfl gX11_why_1.2.2.2.2.2.2.1 ?_
      refine lv_iload_n hx hb gX11_why_1.2.2.2.2.2.2.2.1 rfl (lv_at0 hl) ?_
      refine vV (wr := [(h0, oX11 bb kk ikp sg do9 ru9 ta9 tp9 ro9 ho9 de9), (ru9, oX6 bb sg fc sh r1 rc rh), (fc, iA G 5 ffc), (sh, iA G 8 fsh), (bversions, oX8 8 3 bversionsc (nI kbversions)), (bversionsc, iA G 24 fbversions), (bpersons, oX8 10 2 bpersonsc (nI kbpersons)), (bpersonsc, iA G 20 fbpersons), (bpapers, oX8 12 6 bpapersc (nI kbpapers)), (bpapersc, iA G 72 fbpapers), (blines, oX8 72 7 blinesc (nI kblines)), (blinesc, iA G 504 fblines), (bsteps, oX8 960 1 bstepsc (nI kbsteps)), (bstepsc, iA G 960 fbsteps)]) hC hK hl hP hD hS hA (c_look l G sg r2310 bb clk fi la ml mm sl sm cl clm fclm ffi fla fml fmm fsl fsm bpersons bpapers bstamps bversions blines bsteps bsayings bfindings bwarnings bquestions td vd vl gp bstampsc kbstamps fbstamps (hkbstamps)) si_X11_183 [1, 2, 3, 4, 5, 6, 7, 8, 9, 13, 24, 25] [0, 10, 11, 12, 14, 15, 16, 17, 18, 19, 20, 21, 22, 23] sm_1_2_3_4_5_6_7_8_9_13_24_25 fm_1_2_3_4_5_6_7_8_9_13_24_25 nd_1_2_3_4_5_6_7_8_9_13_24_25 sm_0_10_11_12_14_15_16_17_18_19_20_21_22_23 nd_0_10_11_12_14_15_16_17_18_19_20_21_22_23 dj_1_2_3_4_5_6_7_8_9_13_24_25__0_10_11_12_14_15_16_17_18_19_20_21_22_23 rfl rfl rfl rfl rfl (Nat.le_of_ble_eq_true rfl) rm_7_5_4 ⟨Nat.le_of_ble_eq_true rfl, Nat.le_of_ble_eq_true rfl⟩ gX11_why_1.2.2.2.2.2.2.2.2.1 (Ktu8 fun cl12313 gclm2314 gfi2315 gla2316 gml2317 gmm2318 gsl2319 gsm2320 => ?_)
      intro H locs hr2311 hP hD hS
      try dsimp only at hr2311
      refine Kpdr (ws := [(h0, oX11 bb kk ikp sg do9 ru9 ta9 tp9 ro9 ho9 de9), (ru9, oX6 bb sg fc sh r1 rc rh), (fc, iA G 5 ffc), (sh, iA G 8 fsh), (bversions, oX8 8 3 bversionsc (nI kbversions)), (bversionsc, iA G 24 fbversions), (bpersons, oX8 10 2 bpersonsc (nI kbpersons)), (bpersonsc, iA G 20 fbpersons), (bpapers, oX8 12 6 bpapersc (nI kbpapers)), (bpapersc, iA G 72 fbpapers), (blines, oX8 72 7 blinesc (nI kblines)), (blinesc, iA G 504 fblines), (bsteps, oX8 960 1 bstepsc (nI kbsteps)), (bstepsc, iA G 960 fbsteps), (sg, oX7 bb clk fi la ml mm sl sm cl12313), (clk, oX1 clm), (clm, iA G 36 gclm2314), (fi, iA G 12 gfi2315), (la, iA G 12 gla2316), (ml, iA G 12 gml2317), (mm, iA G 12 gmm2318), (sl, iA G 12 gsl2319), (sm, iA G 12 gsm2320), (bb, oX0 bpersons bpapers bstamps bversions blines bsteps bsayings bfindings bwarnings bquestions td vd vl gp), (bstamps, oX8 24 3 bstampsc (nI kbstamps)), (bstampsc, iA G 72 fbstamps)]) hP hD (fun hP hD => ?_)
      have w2321 := hr2311
      refine lv_aload_n hx hb gX11_why_1.2.2.2.2.2.2.2.2.2 rfl (lv_at1 hl) ?_
      refine gf_X11_44 hC rfl hK hP 0 rfl rfl gX11_why_2.1 ?_
      refine lv_iload_n hx hb gX11_why_2.2.1 rfl (lv_at2 hl) ?_
      refine lv_iload_n hx hb gX11_why_2.2.2.1 rfl (lv_at0 hl) ?_
      refine vV (wr := [(h0, oX11 bb kk ikp sg do9 ru9 ta9 tp9 ro9 ho9 de9), (clk, oX1 clm), (clm, iA G 36 gclm2314), (fi, iA G 12 gfi2315), (bstamps, oX8 24 3 bstampsc (nI kbstamps)), (bstampsc, iA G 72 fbstamps)]) hC hK hl hP hD hS hA (c_settle l G ru9 x1 r2310 bb sg fc sh r1 rc rh ffc fsh clk fi la ml mm sl sm cl12313 gla2316 gml2317 gmm2318 gsl2319 gsm2320 bpersons bpapers bstamps bversions blines bsteps bsayings bfindings bwarnings bquestions td vd vl gp bversionsc kbversions fbversions bpersonsc kbpersons fbpersons bpapersc kbpapers fbpapers blinesc kblines fblines bstepsc kbsteps fbsteps (hkbversions) (hkbpersons) (hkbpapers) (hkblines) (hkbsteps)) si_X11_243 [1, 2, 3, 14, 18, 19, 20, 21, 22, 23, 4, 5, 6, 7, 8, 9, 10, 11, 12, 13] [0, 15, 16, 17, 24, 25] sm_1_2_3_14_18_19_20_21_22_23_4_5_6_7_8_9_10_11_12_13 fm_1_2_3_14_18_19_20_21_22_23_4_5_6_7_8_9_10_11_12_13 nd_1_2_3_14_18_19_20_21_22_23_4_5_6_7_8_9_10_11_12_13 sm_0_15_16_17_24_25 nd_0_15_16_17_24_25 dj_1_2_3_14_18_19_20_21_22_23_4_5_6_7_8_9_10_11_12_13__0_15_16_17_24_25 rfl rfl rfl rfl rfl (Nat.le_of_ble_eq_true rfl) rm_7_5_5 ⟨Nat.le_of_ble_eq_true rfl, Nat.le_of_ble_eq_true rfl⟩ gX11_why_2.2.2.2.1 (Ktu5 fun r112324 rc12325 rh12326 gfc2327 gsh2328 => ?_)
      intro H locs hr2322 hP hD hS
      try dsimp only at hr2322
      refine Kpdr (ws := [(h0, oX11 bb kk ikp sg do9 ru9 ta9 tp9 ro9 ho9 de9), (clk, oX1 clm), (clm, iA G 36 gclm2314), (fi, iA G 12 gfi2315), (bstamps, oX8 24 3 bstampsc (nI kbstamps)), (bstampsc, iA G 72 fbstamps), (ru9, oX6 bb sg fc sh r112324 rc12325 rh12326), (fc, iA G 5 gfc2327), (sh, iA G 8 gsh2328), (sg, oX7 bb clk fi la ml mm sl sm cl12313), (la, iA G 12 gla2316), (ml, iA G 12 gml2317), (mm, iA G 12 gmm2318), (sl, iA G 12 gsl2319), (sm, iA G 12 gsm2320), (bb, oX0 bpersons bpapers bstamps bversions blines bsteps bsayings bfindings bwarnings bquestions td vd vl gp), (bversions, oX8 8 3 bversionsc (nI kbversions)), (bversionsc, iA G 24 fbversions), (bpersons, oX8 10 2 bpersonsc (nI kbpersons)), (bpersonsc, iA G 20 fbpersons), (bpapers, oX8 12 6 bpapersc (nI kbpapers)), (bpapersc, iA G 72 fbpapers), (blines, oX8 72 7 blinesc (nI kblines)), (blinesc, iA G 504 fblines), (bsteps, oX8 960 1 bstepsc (nI kbsteps)), (bstepsc, iA G 960 fbsteps)]) hP hD (fun hP hD => ?_)
      refine lv_aload_n hx hb gX11_why_2.2.2.2.2.1 rfl (lv_at1 hl) ?_
      refine gf_X11_44 hC rfl hK hP 0 rfl rfl gX11_why_2.2.2.2.2.2.1 ?_
      refine lv_iload_n hx hb gX11_why_2.2.2.2.2.2.2.1 rfl (lv_at3 hl) ?_
      refine pV hC hK hl hP hD (c_shouldHour l G ru9 x2 bb sg fc sh r112324 rc12325 rh12326 gsh2328) si_X11_247 [6, 8] sm_6_8 fm_6_8 nd_6_8 rfl rfl rfl rfl rfl (Nat.le_of_ble_eq_true rfl) rm_7_1_2 ⟨by first | exact Nat.le_of_ble_eq_true rfl | exact Nat.zero_le _, by first | exact Nat.le_of_ble_eq_true rfl | exact Nat.zero_le _⟩ gX11_why_2.2.2.2.2.2.2.2.1 (fun r2329 hr2329 => ?_)
      refine lv_istore (lv' := [(4, .int r2329), (3, .int r2310), (0, .ref h0), (1, .int x1), (2, .int x2)]) hx hb gX11_why_2.2.2.2.2.2.2.2.2.1 hl (by decide) rfl (fun ls hl => ?_)
      refine lv_iload hx hb gX11_why_2.2.2.2.2.2.2.2.2.2 (lv_at0 hl) ?_
      refine lv_ldc hx hb hown (hB _ m_599) gX11_why_3.1 ?_
      refine lv_icmp_eq (tgt := 80) hx hb gX11_why_3.2.1 (by decide) (fun c_62_2330 => ?_) (fun c_62_2330 => ?_)
      · refine lv_bipush (v := (-3)) hx hb gX11_why_4.1 (by decide) ?_
        refine toQ hQ0 ?_
        exact RI (v := (-3)) hC hP hD hS [0, 9, 1, 2, 3, 10, 11, 12, 13, 14, 6, 7, 8, 15, 16, 17, 18, 19, 20, 21, 22, 23, 24, 25, 4, 5] (cl12313, gclm2314, gfi2315, gla2316, gml2317, gmm2318, gsl2319, gsm2320, r112324, rc12325, rh12326, gfc2327, gsh2328) rfl rfl (by decide) (⟨trivial, w2321⟩) rfl gX11_why_4.2.1
      · refine lv_iload hx hb gX11_why_3.2.2.1 (lv_at0 hl) ?_
        refine lv_aload_n hx hb gX11_why_3.2.2.2.1 rfl (lv_at2 hl) ?_
        refine gf_X11_28 hC rfl hK hP 0 rfl rfl gX11_why_3.2.2.2.2.1 ?_
        refine lv_iload_n hx hb gX11_why_3.2.2.2.2.2.1 rfl (lv_at3 hl) ?_
        refine lv_iload_n hx hb gX11_why_3.2.2.2.2.2.2.1 rfl (lv_at4 hl) ?_
        refine lv_iconst (v := 1) hx hb gX11_why_3.2.2.2.2.2.2.2.1 (by decide) ?_
        refine pV hC hK hl hP hD (c_toldHour l G sg x1 x2 1 bb clk fi la ml mm sl sm cl12313 gla2316 gml2317 gmm2318 gsl2319 gsm2320 bpersons bpapers bstamps bversions blines bsteps bsayings bfindings bwarnings bquestions td vd vl gp bpapersc kbpapers fbpapers bpersonsc kbpersons fbpersons (hkbpapers) (hkbpersons)) si_X11_250 [9, 10, 11, 12, 13, 14, 15, 20, 21, 18, 19] sm_9_10_11_12_13_14_15_20_21_18_19 fm_9_10_11_12_13_14_15_20_21_18_19 nd_9_10_11_12_13_14_15_20_21_18_19 rfl rfl rfl rfl rfl (Nat.le_of_ble_eq_true rfl) rm_7_4_6 ⟨by first | exact Nat.le_of_ble_eq_true rfl | exact Nat.zero_le _, by first | exact Nat.le_of_ble_eq_true rfl | exact Nat.zero_le _⟩ gX11_why_3.2.2.2.2.2.2.2.2.1 (fun r2331 hr2331 => ?_)
        refine lv_icmp_ne (tgt := 83) hx hb gX11_why_3.2.2.2.2.2.2.2.2.2 (by decide) (fun c_77_2332 => ?_) (fun c_77_2332 => ?_)
        · refine lv_aload_n hx hb gX11_why_4.2.2.1 rfl (lv_at2 hl) ?_
          refine gf_X11_44 hC rfl hK hP 0 rfl rfl gX11_why_4.2.2.2.1 ?_
          refine lv_iload_n hx hb gX11_why_4.2.2.2.2.1 rfl (lv_at4 hl) ?_
          refine pV hC hK hl hP hD (c_firstLineFor l G ru9 x2 bb sg fc sh r112324 rc12325 rh12326 gsh2328 bpersons bpapers bstamps bversions blines bsteps bsayings bfindings bwarnings bquestions td vd vl gp blinesc kblines fblines (hkblines)) si_X11_253 [6, 8, 15, 22, 23] sm_6_8_15_22_23 fm_6_8_15_22_23 nd_6_8_15_22_23 rfl rfl rfl rfl rfl (Nat.le_of_ble_eq_true rfl) rm_7_4_3 ⟨by first | exact Nat.le_of_ble_eq_true rfl | exact Nat.zero_le _, by first | exact Nat.le_of_ble_eq_true rfl | exact Nat.zero_le _⟩ gX11_why_4.2.2.2.2.2.1 (fun r2333 hr2333 => ?_)
          refine toQ hQ0 ?_
          exact RI (v := r2333) hC hP hD hS [0, 9, 1, 2, 3, 10, 11, 12, 13, 14, 6, 7, 8, 15, 16, 17, 18, 19, 20, 21, 22, 23, 24, 25, 4, 5] (cl12313, gclm2314, gfi2315, gla2316, gml2317, gmm2318, gsl2319, gsm2320, r112324, rc12325, rh12326, gfc2327, gsh2328) rfl rfl (by decide) (⟨trivial, w2321⟩) rfl gX11_why_4.2.2.2.2.2.2
        · refine lv_bipush (v := (-3)) hx hb gX11_why_4.1 (by decide) ?_
          refine toQ hQ0 ?_
          exact RI (v := (-3)) hC hP hD hS [0, 9, 1, 2, 3, 10, 11, 12, 13, 14, 6, 7, 8, 15, 16, 17, 18, 19, 20, 21, 22, 23, 24, 25, 4, 5] (cl12313, gclm2314, gfi2315, gla2316, gml2317, gmm2318, gsl2319, gsm2320, r112324, rc12325, rh12326, gfc2327, gsh2328) rfl rfl (by decide) (⟨trivial, w2321⟩) rfl gX11_why_4.2.1
    · refine lv_if_ne (tgt := 23) hx hb gX11_why_0.2.2.2.2.2.2.2.2.1 (by decide) (fun c9 => absurd (by decide) c9) (fun _ => ?_)
      refine lv_iconst (v := (-1)) hx hb gX11_why_0.2.2.2.2.2.2.2.2.2 (by decide) ?_
      refine toQ hQ0 ?_
      exact RI (v := (-1)) hC hP hD hS [0, 1, 2, 3, 4, 5, 6, 7, 8, 9, 10, 11, 12, 13, 14, 15, 16, 17, 18, 19, 20, 21, 22, 23, 24, 25] (cl, fclm, ffi, fla, fml, fmm, fsl, fsm, r1, rc, rh, ffc, fsh) rfl rfl (by decide) (⟨trivial, hcl⟩) rfl gX11_why_1.1
  · refine lv_if_eq (tgt := 21) hx hb gX11_why_0.2.2.2.2.2.1 (by decide) (fun _ => ?_) (fun c9 => absurd (by decide) c9)
    refine lv_iconst (v := (-1)) hx hb gX11_why_0.2.2.2.2.2.2.2.2.2 (by decide) ?_
    refine toQ hQ0 ?_
    exact RI (v := (-1)) hC hP hD hS [0, 1, 2, 3, 4, 5, 6, 7, 8, 9, 10, 11, 12, 13, 14, 15, 16, 17, 18, 19, 20, 21, 22, 23, 24, 25] (cl, fclm, ffi, fla, fml, fmm, fsl, fsm, r1, rc, rh, ffc, fsh) rfl rfl (by decide) (⟨trivial, hcl⟩) rfl gX11_why_1.1
def K_c_stands (l : Launch) (G : GG) (h0 : Nat) (x1 : Int32) (x2 : Int32) (bb : Nat) (kk : Nat) (ikp : Int32) (sg : Nat) (do9 : Nat) (ru9 : Nat) (ta9 : Nat) (tp9 : Nat) (ro9 : Nat) (ho9 : Nat) (de9 : Nat) (clk : Nat) (fi : Nat) (la : Nat) (ml : Nat) (mm : Nat) (sl : Nat) (sm : Nat) (cl : Int32) (clm : Nat) (fclm : Nat → Int32) (ffi : Nat → Int32) (fla : Nat → Int32) (fml : Nat → Int32) (fmm : Nat → Int32) (fsl : Nat → Int32) (fsm : Nat → Int32) (fc : Nat) (sh : Nat) (r1 : Int32) (rc : Int32) (rh : Int32) (ffc : Nat → Int32) (fsh : Nat → Int32) (bpersons : Nat) (bpapers : Nat) (bstamps : Nat) (bversions : Nat) (blines : Nat) (bsteps : Nat) (bsayings : Nat) (bfindings : Nat) (bwarnings : Nat) (bquestions : Nat) (td : Int32) (vd : Int32) (vl : Int32) (gp : Int32) (bversionsc : Nat) (kbversions : Nat) (fbversions : Nat → Int32) (bpersonsc : Nat) (kbpersons : Nat) (fbpersons : Nat → Int32) (bpapersc : Nat) (kbpapers : Nat) (fbpapers : Nat → Int32) (blinesc : Nat) (kblines : Nat) (fblines : Nat → Int32) (bstepsc : Nat) (kbsteps : Nat) (fbsteps : Nat → Int32) (bstampsc : Nat) (kbstamps : Nat) (fbstamps : Nat → Int32) (bfindingsc : Nat) (kbfindings : Nat) (fbfindings : Nat → Int32) : Prop := MI l G yX11_stands cX11_stands 6 (some .boolean) 7 0 0 [.ref h0, .int x1, .int x2] [(h0, oX11 bb kk ikp sg do9 ru9 ta9 tp9 ro9 ho9 de9), (sg, oX7 bb clk fi la ml mm sl sm cl), (clk, oX1 clm), (clm, iA G 36 fclm), (fi, iA G 12 ffi), (la, iA G 12 fla), (ml, iA G 12 fml), (mm, iA G 12 fmm), (sl, iA G 12 fsl), (sm, iA G 12 fsm), (ru9, oX6 bb sg fc sh r1 rc rh), (fc, iA G 5 ffc), (sh, iA G 8 fsh), (bb, oX0 bpersons bpapers bstamps bversions blines bsteps bsayings bfindings bwarnings bquestions td vd vl gp), (bversions, oX8 8 3 bversionsc (nI kbversions)), (bversionsc, iA G 24 fbversions), (bpersons, oX8 10 2 bpersonsc (nI kbpersons)), (bpersonsc, iA G 20 fbpersons), (bpapers, oX8 12 6 bpapersc (nI kbpapers)), (bpapersc, iA G 72 fbpapers), (blines, oX8 72 7 blinesc (nI kblines)), (blinesc, iA G 504 fblines), (bsteps, oX8 960 1 bstepsc (nI kbsteps)), (bstepsc, iA G 960 fbsteps), (bstamps, oX8 24 3 bstampsc (nI kbstamps)), (bstampsc, iA G 72 fbstamps), (bfindings, oX8 12 4 bfindingsc (nI kbfindings)), (bfindingsc, iA G 48 fbfindings)] (fun (r : Int32) (u : Int32 × (Nat → Int32) × (Nat → Int32) × (Nat → Int32) × (Nat → Int32) × (Nat → Int32) × (Nat → Int32) × (Nat → Int32) × Int32 × Int32 × Int32 × (Nat → Int32) × (Nat → Int32)) => (r = 1 ∨ r = 0) ∧ (u.1 = 0 ∨ u.1 = 1)) (fun u : Int32 × (Nat → Int32) × (Nat → Int32) × (Nat → Int32) × (Nat → Int32) × (Nat → Int32) × (Nat → Int32) × (Nat → Int32) × Int32 × Int32 × Int32 × (Nat → Int32) × (Nat → Int32) => [(h0, oX11 bb kk ikp sg do9 ru9 ta9 tp9 ro9 ho9 de9), (sg, oX7 bb clk fi la ml mm sl sm u.1), (clk, oX1 clm), (clm, iA G 36 u.2.1), (fi, iA G 12 u.2.2.1), (la, iA G 12 u.2.2.2.1), (ml, iA G 12 u.2.2.2.2.1), (mm, iA G 12 u.2.2.2.2.2.1), (sl, iA G 12 u.2.2.2.2.2.2.1), (sm, iA G 12 u.2.2.2.2.2.2.2.1), (ru9, oX6 bb sg fc sh u.2.2.2.2.2.2.2.2.1 u.2.2.2.2.2.2.2.2.2.1 u.2.2.2.2.2.2.2.2.2.2.1), (fc, iA G 5 u.2.2.2.2.2.2.2.2.2.2.2.1), (sh, iA G 8 u.2.2.2.2.2.2.2.2.2.2.2.2), (bb, oX0 bpersons bpapers bstamps bversions blines bsteps bsayings bfindings bwarnings bquestions td vd vl gp), (bversions, oX8 8 3 bversionsc (nI kbversions)), (bversionsc, iA G 24 fbversions), (bpersons, oX8 10 2 bpersonsc (nI kbpersons)), (bpersonsc, iA G 20 fbpersons), (bpapers, oX8 12 6 bpapersc (nI kbpapers)), (bpapersc, iA G 72 fbpapers), (blines, oX8 72 7 blinesc (nI kblines)), (blinesc, iA G 504 fblines), (bsteps, oX8 960 1 bstepsc (nI kbsteps)), (bstepsc, iA G 960 fbsteps), (bstamps, oX8 24 3 bstampsc (nI kbstamps)), (bstampsc, iA G 72 fbstamps), (bfindings, oX8 12 4 bfindingsc (nI kbfindings)), (bfindingsc, iA G 48 fbfindings)])
set_option maxHeartbeats 4000000 in
set_option maxRecDepth 100000 in
theorem c_stands (l : Launch) (G : GG) (h0 : Nat) (x1 : Int32) (x2 : Int32) (bb : Nat) (kk : Nat) (ikp : Int32) (sg : Nat) (do9 : Nat) (ru9 : Nat) (ta9 : Nat) (tp9 : Nat) (ro9 : Nat) (ho9 : Nat) (de9 : Nat) (clk : Nat) (fi : Nat) (la : Nat) (ml : Nat) (mm : Nat) (sl : Nat) (sm : Nat) (cl : Int32) (clm : Nat) (fclm : Nat → Int32) (ffi : Nat → Int32) (fla : Nat → Int32) (fml : Nat → Int32) (fmm : Nat → Int32) (fsl : Nat → Int32) (fsm : Nat → Int32) (fc : Nat) (sh : Nat) (r1 : Int32) (rc : Int32) (rh : Int32) (ffc : Nat → Int32) (fsh : Nat → Int32) (bpersons : Nat) (bpapers : Nat) (bstamps : Nat) (bversions : Nat) (blines : Nat) (bsteps : Nat) (bsayings : Nat) (bfindings : Nat) (bwarnings : Nat) (bquestions : Nat) (td : Int32) (vd : Int32) (vl : Int32) (gp : Int32) (bversionsc : Nat) (kbversions : Nat) (fbversions : Nat → Int32) (bpersonsc : Nat) (kbpersons : Nat) (fbpersons : Nat → Int32) (bpapersc : Nat) (kbpapers : Nat) (fbpapers : Nat → Int32) (blinesc : Nat) (kblines : Nat) (fblines : Nat → Int32) (bstepsc : Nat) (kbsteps : Nat) (fbsteps : Nat → Int32) (bstampsc : Nat) (kbstamps : Nat) (fbstamps : Nat → Int32) (bfindingsc : Nat) (kbfindings : Nat) (fbfindings : Nat → Int32) (hkbversions : kbversions ≤ 8) (hkbpersons : kbpersons ≤ 10) (hkbpapers : kbpapers ≤ 12) (hkblines : kblines ≤ 72) (hkbsteps : kbsteps ≤ 960) (hkbstamps : kbstamps ≤ 24) (hkbfindings : kbfindings ≤ 12) : K_c_stands l G h0 x1 x2 bb kk ikp sg do9 ru9 ta9 tp9 ro9 ho9 de9 clk fi la ml mm sl sm cl clm fclm ffi fla fml fmm fsl fsm fc sh r1 rc rh ffc fsh bpersons bpapers bstamps bversions blines bsteps bsayings bfindings bwarnings bquestions td vd vl gp bversionsc kbversions fbversions bpersonsc kbpersons fbpersons bpapersc kbpapers fbpapers blinesc kblines fblines bstepsc kbsteps fbsteps bstampsc kbstamps fbstamps bfindingsc kbfindings fbfindings := by
  refine MI.start (by decide +kernel) (Nat.le_of_ble_eq_true rfl) ?_
  intro p e s m below meth c A ls hC hK hP hD hS hA hl
  refine absQ (fun Q0 hQ0 => ?_)
  have hl : lv_has ls 6 [(0, .ref h0), (1, .int x1), (2, .int x2)] := hl
  refine Kan8 hC (fun hx hb hr hml hB hown hlocks hnm => ?_)
  refine lv_aload_n hx hb gX11_stands_0.1 rfl (lv_at0 hl) ?_
  refine gf_X11_15 hC rfl hK hP 0 rfl rfl gX11_stands_0.2.1 ?_
  refine gf_X11_271 hC rfl hK hP 13 rfl rfl gX11_stands_0.2.2.1 ?_
  refine lv_iload_n hx hb gX11_stands_0.2.2.2.1 rfl (lv_at1 hl) ?_
  refine lv_iconst (v := 0) hx hb gX11_stands_0.2.2.2.2.1 (by decide) ?_
  refine pV hC hK hl hP hD (c_T_at l G bfindings x1 0 12 4 bfindingsc kbfindings fbfindings (hkbfindings) (by omega) (by omega)) si_X11_128 [26, 27] sm_26_27 fm_26_27 nd_26_27 rfl rfl rfl rfl rfl (Nat.le_of_ble_eq_true rfl) rm_7_1_3 ⟨by first | exact Nat.le_of_ble_eq_true rfl | exact Nat.zero_le _, by first | exact Nat.le_of_ble_eq_true rfl | exact Nat.zero_le _⟩ gX11_stands_0.2.2.2.2.2.1 (fun r2334 hr2334 => ?_)
  refine lv_istore_n (lv' := [(3, .int r2334), (0, .ref h0), (1, .int x1), (2, .int x2)]) hx hb gX11_stands_0.2.2.2.2.2.2.1 rfl hl (by decide) rfl (fun ls hl => ?_)
  refine lv_aload_n hx hb gX11_stands_0.2.2.2.2.2.2.2.1 rfl (lv_at1 hl) ?_
  refine gf_X11_15 hC rfl hK hP 0 rfl rfl gX11_stands_0.2.2.2.2.2.2.2.2.1 ?_
  refine gf_X11_271 hC rfl hK hP 13 rfl rfl gX11_stands_0.2.2.2.2.2.2.2.2.2 ?_
  refine lv_iload_n hx hb gX11_stands_1.1 rfl (lv_at2 hl) ?_
  refine lv_iconst (v := 1) hx hb gX11_stands_1.2.1 (by decide) ?_
  refine pV hC hK hl hP hD (c_T_at l G bfindings x1 1 12 4 bfindingsc kbfindings fbfindings (hkbfindings) (by omega) (by omega)) si_X11_128 [26, 27] sm_26_27 fm_26_27 nd_26_27 rfl rfl rfl rfl rfl (Nat.le_of_ble_eq_true rfl) rm_7_1_3 ⟨by first | exact Nat.le_of_ble_eq_true rfl | exact Nat.zero_le _, by first | exact Nat.le_of_ble_eq_true rfl | exact Nat.zero_le _⟩ gX11_stands_1.2.2.1 (fun r2336 hr2336 => ?_)
  refine lv_istore (lv' := [(4, .int r2336), (3, .int r2334), (0, .ref h0), (1, .int x1), (2, .int x2)]) hx hb gX11_stands_1.2.2.2.1 hl (by decide) rfl (fun ls hl => ?_)
  refine lv_aload_n hx hb gX11_stands_1.2.2.2.2.1 rfl (lv_at2 hl) ?_
  refine gf_X11_15 hC rfl hK hP 0 rfl rfl gX11_stands_1.2.2.2.2.2.1 ?_
  refine gf_X11_271 hC rfl hK hP 13 rfl rfl gX11_stands_1.2.2.2.2.2.2.1 ?_
  refine lv_iload_n hx hb gX11_stands_1.2.2.2.2.2.2.2.1 rfl (lv_at3 hl) ?_
  refine lv_iconst (v := 3) hx hb gX11_stands_1.2.2.2.2.2.2.2.2.1 (by decide) ?_
  refine pV hC hK hl hP hD (c_T_at l G bfindings x1 3 12 4 bfindingsc kbfindings fbfindings (hkbfindings) (by omega) (by omega)) si_X11_128 [26, 27] sm_26_27 fm_26_27 nd_26_27 rfl rfl rfl rfl rfl (Nat.le_of_ble_eq_true rfl) rm_7_1_3 ⟨by first | exact Nat.le_of_ble_eq_true rfl | exact Nat.zero_le _, by first | exact Nat.le_of_ble_eq_true rfl | exact Nat.zero_le _⟩ gX11_stands_1.2.2.2.2.2.2.2.2.2 (fun r2338 hr2338 => ?_)
  refine lv_istore (lv' := [(5, .int r2338), (4, .int r2336), (3, .int r2334), (0, .ref h0), (1, .int x1), (2, .int x2)]) hx hb gX11_stands_2.1 hl (by decide) rfl (fun ls hl => ?_)
  refine lv_aload_n hx hb gX11_stands_2.2.1 rfl (lv_at3 hl) ?_
  refine gf_X11_15 hC rfl hK hP 0 rfl rfl gX11_stands_2.2.2.1 ?_
  refine gf_X11_271 hC rfl hK hP 13 rfl rfl gX11_stands_2.2.2.2.1 ?_
  refine lv_iload_n hx hb gX11_stands_2.2.2.2.2.1 rfl (lv_at4 hl) ?_
  refine lv_iconst (v := 2) hx hb gX11_stands_2.2.2.2.2.2.1 (by decide) ?_
  refine pV hC hK hl hP hD (c_T_at l G bfindings x1 2 12 4 bfindingsc kbfindings fbfindings (hkbfindings) (by omega) (by omega)) si_X11_128 [26, 27] sm_26_27 fm_26_27 nd_26_27 rfl rfl rfl rfl rfl (Nat.le_of_ble_eq_true rfl) rm_7_1_3 ⟨by first | exact Nat.le_of_ble_eq_true rfl | exact Nat.zero_le _, by first | exact Nat.le_of_ble_eq_true rfl | exact Nat.zero_le _⟩ gX11_stands_2.2.2.2.2.2.2.1 (fun r2340 hr2340 => ?_)
  refine lv_aload_n hx hb gX11_stands_2.2.2.2.2.2.2.2.1 rfl (lv_at3 hl) ?_
  refine lv_iload_n hx hb gX11_stands_2.2.2.2.2.2.2.2.2.1 rfl (lv_at2 hl) ?_
  refine lv_iload hx hb gX11_stands_2.2.2.2.2.2.2.2.2.2 (lv_at1 hl) ?_
  refine lv_iload hx hb gX11_stands_3.1 (lv_at0 hl) ?_
  refine lv_iload_n hx hb gX11_stands_3.2.1 rfl (lv_at5 hl) ?_
  refine iV (wr := [(bfindings, oX8 12 4 bfindingsc (nI kbfindings)), (bfindingsc, iA G 48 fbfindings)]) hC hK hl hP hD hS hA (c_known l G h0 r2334 r2336 r2338 x2 bb kk ikp sg do9 ru9 ta9 tp9 ro9 ho9 de9 clk fi la ml mm sl sm cl clm fclm ffi fla fml fmm fsl fsm fc sh r1 rc rh ffc fsh bpersons bpapers bstamps bversions blines bsteps bsayings bfindings bwarnings bquestions td vd vl gp bversionsc kbversions fbversions bpersonsc kbpersons fbpersons bpapersc kbpapers fbpapers blinesc kblines fblines bstepsc kbsteps fbsteps bstampsc kbstamps fbstamps (hkbversions) (hkbpersons) (hkbpapers) (hkblines) (hkbsteps) (hkbstamps)) si_X11_219 [0, 1, 2, 3, 4, 5, 6, 7, 8, 9, 10, 11, 12, 13, 14, 15, 16, 17, 18, 19, 20, 21, 22, 23, 24, 25] [26, 27] sm_0_1_2_3_4_5_6_7_8_9_10_11_12_13_14_15_16_17_18_19_20_21_22_23_24_25 fm_0_1_2_3_4_5_6_7_8_9_10_11_12_13_14_15_16_17_18_19_20_21_22_23_24_25 nd_0_1_2_3_4_5_6_7_8_9_10_11_12_13_14_15_16_17_18_19_20_21_22_23_24_25 sm_26_27 nd_26_27 dj_0_1_2_3_4_5_6_7_8_9_10_11_12_13_14_15_16_17_18_19_20_21_22_23_24_25__26_27 rfl rfl rfl rfl rfl (Nat.le_of_ble_eq_true rfl) rm_7_6_5 ⟨Nat.le_of_ble_eq_true rfl, Nat.le_of_ble_eq_true rfl⟩ gX11_stands_3.2.2.1 (fun r2342 => Ktu13 fun cl12344 gclm2345 gfi2346 gla2347 gml2348 gmm2349 gsl2350 gsm2351 r112352 rc12353 rh12354 gfc2355 gsh2356 => ?_)
  intro H locs hr2342 hP hD hS
  try dsimp only at hr2342
  refine Kpdr (ws := [(bfindings, oX8 12 4 bfindingsc (nI kbfindings)), (bfindingsc, iA G 48 fbfindings), (h0, oX11 bb kk ikp sg do9 ru9 ta9 tp9 ro9 ho9 de9), (sg, oX7 bb clk fi la ml mm sl sm cl12344), (clk, oX1 clm), (clm, iA G 36 gclm2345), (fi, iA G 12 gfi2346), (la, iA G 12 gla2347), (ml, iA G 12 gml2348), (mm, iA G 12 gmm2349), (sl, iA G 12 gsl2350), (sm, iA G 12 gsm2351), (ru9, oX6 bb sg fc sh r112352 rc12353 rh12354), (fc, iA G 5 gfc2355), (sh, iA G 8 gsh2356), (bb, oX0 bpersons bpapers bstamps bversions blines bsteps bsayings bfindings bwarnings bquestions td vd vl gp), (bversions, oX8 8 3 bversionsc (nI kbversions)), (bversionsc, iA G 24 fbversions), (bpersons, oX8 10 2 bpersonsc (nI kbpersons)), (bpersonsc, iA G 20 fbpersons), (bpapers, oX8 12 6 bpapersc (nI kbpapers)), (bpapersc, iA G 72 fbpapers), (blines, oX8 72 7 blinesc (nI kblines)), (blinesc, iA G 504 fblines), (bsteps, oX8 960 1 bstepsc (nI kbsteps)), (bstepsc, iA G 960 fbsteps), (bstamps, oX8 24 3 bstampsc (nI kbstamps)), (bstampsc, iA G 72 fbstamps)]) hP hD (fun hP hD => ?_)
  obtain ⟨hr2342, w2357⟩ := hr2342
  refine lv_icmp_lt (tgt := 70) hx hb gX11_stands_3.2.2.2.1 (by decide) (fun c_63_2358 => ?_) (fun c_63_2358 => ?_)
  · refine lv_iconst (v := 0) hx hb gX11_stands_3.2.2.2.2.2.2.1 (by decide) ?_
    refine toQ hQ0 ?_
    exact RI (v := 0) hC hP hD hS [2, 3, 4, 5, 6, 7, 8, 9, 10, 11, 12, 13, 14, 15, 16, 17, 18, 19, 20, 21, 22, 23, 24, 25, 26, 27, 0, 1] (cl12344, gclm2345, gfi2346, gla2347, gml2348, gmm2349, gsl2350, gsm2351, r112352, rc12353, rh12354, gfc2355, gsh2356) rfl rfl (by decide) (⟨Or.inr (rfl), w2357⟩) (by decide +kernel) gX11_stands_3.2.2.2.2.2.2.2
  · refine lv_iconst (v := 1) hx hb gX11_stands_3.2.2.2.2.1 (by decide) ?_
    refine lv_goto (tgt := 71) hx hb gX11_stands_3.2.2.2.2.2.1 (by decide) ?_
    refine toQ hQ0 ?_
    exact RI (v := 1) hC hP hD hS [2, 3, 4, 5, 6, 7, 8, 9, 10, 11, 12, 13, 14, 15, 16, 17, 18, 19, 20, 21, 22, 23, 24, 25, 26, 27, 0, 1] (cl12344, gclm2345, gfi2346, gla2347, gml2348, gmm2349, gsl2350, gsm2351, r112352, rc12353, rh12354, gfc2355, gsh2356) rfl rfl (by decide) (⟨Or.inl (rfl), w2357⟩) (by decide +kernel) gX11_stands_3.2.2.2.2.2.2.2
def K_c_leansOn (l : Launch) (G : GG) (h0 : Nat) (x1 : Int32) (x2 : Int32) (bb : Nat) (kk : Nat) (ikp : Int32) (sg : Nat) (do9 : Nat) (ru9 : Nat) (ta9 : Nat) (tp9 : Nat) (ro9 : Nat) (ho9 : Nat) (de9 : Nat) (clk : Nat) (fi : Nat) (la : Nat) (ml : Nat) (mm : Nat) (sl : Nat) (sm : Nat) (cl : Int32) (clm : Nat) (fclm : Nat → Int32) (ffi : Nat → Int32) (fla : Nat → Int32) (fml : Nat → Int32) (fmm : Nat → Int32) (fsl : Nat → Int32) (fsm : Nat → Int32) (fc : Nat) (sh : Nat) (r1 : Int32) (rc : Int32) (rh : Int32) (ffc : Nat → Int32) (fsh : Nat → Int32) (bpersons : Nat) (bpapers : Nat) (bstamps : Nat) (bversions : Nat) (blines : Nat) (bsteps : Nat) (bsayings : Nat) (bfindings : Nat) (bwarnings : Nat) (bquestions : Nat) (td : Int32) (vd : Int32) (vl : Int32) (gp : Int32) (bversionsc : Nat) (kbversions : Nat) (fbversions : Nat → Int32) (bpersonsc : Nat) (kbpersons : Nat) (fbpersons : Nat → Int32) (bpapersc : Nat) (kbpapers : Nat) (fbpapers : Nat → Int32) (blinesc : Nat) (kblines : Nat) (fblines : Nat → Int32) (bstepsc : Nat) (kbsteps : Nat) (fbsteps : Nat → Int32) (bstampsc : Nat) (kbstamps : Nat) (fbstamps : Nat → Int32) (bfindingsc : Nat) (kbfindings : Nat) (fbfindings : Nat → Int32) : Prop := MI l G yX11_leansOn cX11_leansOn 5 (some .int) 8 0 0 [.ref h0, .int x1, .int x2] [(h0, oX11 bb kk ikp sg do9 ru9 ta9 tp9 ro9 ho9 de9), (sg, oX7 bb clk fi la ml mm sl sm cl), (clk, oX1 clm), (clm, iA G 36 fclm), (fi, iA G 12 ffi), (la, iA G 12 fla), (ml, iA G 12 fml), (mm, iA G 12 fmm), (sl, iA G 12 fsl), (sm, iA G 12 fsm), (ru9, oX6 bb sg fc sh r1 rc rh), (fc, iA G 5 ffc), (sh, iA G 8 fsh), (bb, oX0 bpersons bpapers bstamps bversions blines bsteps bsayings bfindings bwarnings bquestions td vd vl gp), (bversions, oX8 8 3 bversionsc (nI kbversions)), (bversionsc, iA G 24 fbversions), (bpersons, oX8 10 2 bpersonsc (nI kbpersons)), (bpersonsc, iA G 20 fbpersons), (bpapers, oX8 12 6 bpapersc (nI kbpapers)), (bpapersc, iA G 72 fbpapers), (blines, oX8 72 7 blinesc (nI kblines)), (blinesc, iA G 504 fblines), (bsteps, oX8 960 1 bstepsc (nI kbsteps)), (bstepsc, iA G 960 fbsteps), (bstamps, oX8 24 3 bstampsc (nI kbstamps)), (bstampsc, iA G 72 fbstamps), (bfindings, oX8 12 4 bfindingsc (nI kbfindings)), (bfindingsc, iA G 48 fbfindings)] (fun (r : Int32) (u : Int32 × (Nat → Int32) × (Nat → Int32) × (Nat → Int32) × (Nat → Int32) × (Nat → Int32) × (Nat → Int32) × (Nat → Int32) × Int32 × Int32 × Int32 × (Nat → Int32) × (Nat → Int32)) => (True) ∧ (u.1 = 0 ∨ u.1 = 1)) (fun u : Int32 × (Nat → Int32) × (Nat → Int32) × (Nat → Int32) × (Nat → Int32) × (Nat → Int32) × (Nat → Int32) × (Nat → Int32) × Int32 × Int32 × Int32 × (Nat → Int32) × (Nat → Int32) => [(h0, oX11 bb kk ikp sg do9 ru9 ta9 tp9 ro9 ho9 de9), (sg, oX7 bb clk fi la ml mm sl sm u.1), (clk, oX1 clm), (clm, iA G 36 u.2.1), (fi, iA G 12 u.2.2.1), (la, iA G 12 u.2.2.2.1), (ml, iA G 12 u.2.2.2.2.1), (mm, iA G 12 u.2.2.2.2.2.1), (sl, iA G 12 u.2.2.2.2.2.2.1), (sm, iA G 12 u.2.2.2.2.2.2.2.1), (ru9, oX6 bb sg fc sh u.2.2.2.2.2.2.2.2.1 u.2.2.2.2.2.2.2.2.2.1 u.2.2.2.2.2.2.2.2.2.2.1), (fc, iA G 5 u.2.2.2.2.2.2.2.2.2.2.2.1), (sh, iA G 8 u.2.2.2.2.2.2.2.2.2.2.2.2), (bb, oX0 bpersons bpapers bstamps bversions blines bsteps bsayings bfindings bwarnings bquestions td vd vl gp), (bversions, oX8 8 3 bversionsc (nI kbversions)), (bversionsc, iA G 24 fbversions), (bpersons, oX8 10 2 bpersonsc (nI kbpersons)), (bpersonsc, iA G 20 fbpersons), (bpapers, oX8 12 6 bpapersc (nI kbpapers)), (bpapersc, iA G 72 fbpapers), (blines, oX8 72 7 blinesc (nI kblines)), (blinesc, iA G 504 fblines), (bsteps, oX8 960 1 bstepsc (nI kbsteps)), (bstepsc, iA G 960 fbsteps), (bstamps, oX8 24 3 bstampsc (nI kbstamps)), (bstampsc, iA G 72 fbstamps), (bfindings, oX8 12 4 bfindingsc (nI kbfindings)), (bfindingsc, iA G 48 fbfindings)])
set_option maxHeartbeats 4000000 in
set_option maxRecDepth 100000 in
theorem c_leansOn (l : Launch) (G : GG) (h0 : Nat) (x1 : Int32) (x2 : Int32) (bb : Nat) (kk : Nat) (ikp : Int32) (sg : Nat) (do9 : Nat) (ru9 : Nat) (ta9 : Nat) (tp9 : Nat) (ro9 : Nat) (ho9 : Nat) (de9 : Nat) (clk : Nat) (fi : Nat) (la : Nat) (ml : Nat) (mm : Nat) (sl : Nat) (sm : Nat) (cl : Int32) (clm : Nat) (fclm : Nat → Int32) (ffi : Nat → Int32) (fla : Nat → Int32) (fml : Nat → Int32) (fmm : Nat → Int32) (fsl : Nat → Int32) (fsm : Nat → Int32) (fc : Nat) (sh : Nat) (r1 : Int32) (rc : Int32) (rh : Int32) (ffc : Nat → Int32) (fsh : Nat → Int32) (bpersons : Nat) (bpapers : Nat) (bstamps : Nat) (bversions : Nat) (blines : Nat) (bsteps : Nat) (bsayings : Nat) (bfindings : Nat) (bwarnings : Nat) (bquestions : Nat) (td : Int32) (vd : Int32) (vl : Int32) (gp : Int32) (bversionsc : Nat) (kbversions : Nat) (fbversions : Nat → Int32) (bpersonsc : Nat) (kbpersons : Nat) (fbpersons : Nat → Int32) (bpapersc : Nat) (kbpapers : Nat) (fbpapers : Nat → Int32) (blinesc : Nat) (kblines : Nat) (fblines : Nat → Int32) (bstepsc : Nat) (kbsteps : Nat) (fbsteps : Nat → Int32) (bstampsc : Nat) (kbstamps : Nat) (fbstamps : Nat → Int32) (bfindingsc : Nat) (kbfindings : Nat) (fbfindings : Nat → Int32) (hkbversions : kbversions ≤ 8) (hkbpersons : kbpersons ≤ 10) (hkbpapers : kbpapers ≤ 12) (hkblines : kblines ≤ 72) (hkbsteps : kbsteps ≤ 960) (hkbstamps : kbstamps ≤ 24) (hkbfindings : kbfindings ≤ 12) : K_c_leansOn l G h0 x1 x2 bb kk ikp sg do9 ru9 ta9 tp9 ro9 ho9 de9 clk fi la ml mm sl sm cl clm fclm ffi fla fml fmm fsl fsm fc sh r1 rc rh ffc fsh bpersons bpapers bstamps bversions blines bsteps bsayings bfindings bwarnings bquestions td vd vl gp bversionsc kbversions fbversions bpersonsc kbpersons fbpersons bpapersc kbpapers fbpapers blinesc kblines fblines bstepsc kbsteps fbsteps bstampsc kbstamps fbstamps bfindingsc kbfindings fbfindings := by
  refine MI.start (by decide +kernel) (Nat.le_of_ble_eq_true rfl) ?_
  intro p e s m below meth c A ls hC hK hP hD hS hA hl
  refine absQ (fun Q0 hQ0 => ?_)
  have hl : lv_has ls 5 [(0, .ref h0), (1, .int x1), (2, .int x2)] := hl
  refine Kan8 hC (fun hx hb hr hml hB hown hlocks hnm => ?_)
  refine lv_aload_n hx hb gX11_leansOn_0.1 rfl (lv_at0 hl) ?_
  refine lv_iload_n hx hb gX11_leansOn_0.2.1 rfl (lv_at1 hl) ?_
  refine lv_iload_n hx hb gX11_leansOn_0.2.2.1 rfl (lv_at2 hl) ?_
  refine iV (wr := []) hC hK hl hP hD hS hA (c_stands l G h0 x1 x2 bb kk ikp sg do9 ru9 ta9 tp9 ro9 ho9 de9 clk fi la ml mm sl sm cl clm fclm ffi fla fml fmm fsl fsm fc sh r1 rc rh ffc fsh bpersons bpapers bstamps bversions blines bsteps bsayings bfindings bwarnings bquestions td vd vl gp bversionsc kbversions fbversions bpersonsc kbpersons fbpersons bpapersc kbpapers fbpapers blinesc kblines fblines bstepsc kbsteps fbsteps bstampsc kbstamps fbstamps bfindingsc kbfindings fbfindings (hkbversions) (hkbpersons) (hkbpapers) (hkblines) (hkbsteps) (hkbstamps) (hkbfindings)) si_X11_274 [0, 1, 2, 3, 4, 5, 6, 7, 8, 9, 10, 11, 12, 13, 14, 15, 16, 17, 18, 19, 20, 21, 22, 23, 24, 25, 26, 27] [] sm_0_1_2_3_4_5_6_7_8_9_10_11_12_13_14_15_16_17_18_19_20_21_22_23_24_25_26_27 fm_0_1_2_3_4_5_6_7_8_9_10_11_12_13_14_15_16_17_18_19_20_21_22_23_24_25_26_27 nd_0_1_2_3_4_5_6_7_8_9_10_11_12_13_14_15_16_17_18_19_20_21_22_23_24_25_26_27 rfl rfl (by decide) rfl rfl rfl rfl rfl (Nat.le_of_ble_eq_true rfl) rm_8_7_6 ⟨Nat.le_of_ble_eq_true rfl, Nat.le_of_ble_eq_true rfl⟩ gX11_leansOn_0.2.2.2.1 (fun r2359 => Ktu13 fun cl12361 gclm2362 gfi2363 gla2364 gml2365 gmm2366 gsl2367 gsm2368 r112369 rc12370 rh12371 gfc2372 gsh2373 => ?_)
  intro H locs hr2359 hP hD hS
  try dsimp only at hr2359
  refine Kpdr (ws := [(h0, oX11 bb kk ikp sg do9 ru9 ta9 tp9 ro9 ho9 de9), (sg, oX7 bb clk fi la ml mm sl sm cl12361), (clk, oX1 clm), (clm, iA G 36 gclm2362), (fi, iA G 12 gfi2363), (la, iA G 12 gla2364), (ml, iA G 12 gml2365), (mm, iA G 12 gmm2366), (sl, iA G 12 gsl2367), (sm, iA G 12 gsm2368), (ru9, oX6 bb sg fc sh r112369 rc12370 rh12371), (fc, iA G 5 gfc2372), (sh, iA G 8 gsh2373), (bb, oX0 bpersons bpapers bstamps bversions blines bsteps bsayings bfindings bwarnings bquestions td vd vl gp), (bversions, oX8 8 3 bversionsc (nI kbversions)), (bversionsc, iA G 24 fbversions), (bpersons, oX8 10 2 bpersonsc (nI kbpersons)), (bpersonsc, iA G 20 fbpersons), (bpapers, oX8 12 6 bpapersc (nI kbpapers)), (bpapersc, iA G 72 fbpapers), (blines, oX8 72 7 blinesc (nI kblines)), (blinesc, iA G 504 fblines), (bsteps, oX8 960 1 bstepsc (nI kbsteps)), (bstepsc, iA G 960 fbsteps), (bstamps, oX8 24 3 bstampsc (nI kbstamps)), (bstampsc, iA G 72 fbstamps), (bfindings, oX8 12 4 bfindingsc (nI kbfindings)), (bfindingsc, iA G 48 fbfindings)]) hP hD (fun hP hD => ?_)
  obtain ⟨hr2359, w2374⟩ := hr2359
  rcases hr2359 with rfl | rfl
  · refine lv_if_ne (tgt := 11) hx hb gX11_leansOn_0.2.2.2.2.1 (by decide) (fun _ => ?_) (fun c9 => absurd c9 (by decide))
    refine lv_iconst (v := 0) hx hb gX11_leansOn_0.2.2.2.2.2.2.2.1 (by decide) ?_
    refine lv_istore_n (lv' := [(3, .int 0), (0, .ref h0), (1, .int x1), (2, .int x2)]) hx hb gX11_leansOn_0.2.2.2.2.2.2.2.2.1 rfl hl (by decide) rfl (fun ls hl => ?_)
    refine lv_iconst (v := 0) hx hb gX11_leansOn_0.2.2.2.2.2.2.2.2.2 (by decide) ?_
    refine lv_istore (lv' := [(4, .int 0), (3, .int 0), (0, .ref h0), (1, .int x1), (2, .int x2)]) hx hb gX11_leansOn_1.1 hl (by decide) rfl (fun ls hl => ?_)
    have keyP : ∀ (nP kP : Nat) (le : Int32) (wcl : Int32) (wr1 : Int32) (wrc : Int32) (wrh : Int32) (vclm : Nat → Int32) (vfi : Nat → Int32) (vla : Nat → Int32) (vml : Nat → Int32) (vmm : Nat → Int32) (vsl : Nat → Int32) (vsm : Nat → Int32) (vfc : Nat → Int32) (vsh : Nat → Int32) (H : Heap) (locs : List Loc) (ls : Array Slot), kP + nP = kbpapers → (wcl = 0 ∨ wcl = 1) → va_PD G A [(h0, oX11 bb kk ikp sg do9 ru9 ta9 tp9 ro9 ho9 de9), (sg, oX7 bb clk fi la ml mm sl sm wcl), (clk, oX1 clm), (clm, iA G 36 vclm), (fi, iA G 12 vfi), (la, iA G 12 vla), (ml, iA G 12 vml), (mm, iA G 12 vmm), (sl, iA G 12 vsl), (sm, iA G 12 vsm), (ru9, oX6 bb sg fc sh wr1 wrc wrh), (fc, iA G 5 vfc), (sh, iA G 8 vsh), (bb, oX0 bpersons bpapers bstamps bversions blines bsteps bsayings bfindings bwarnings bquestions td vd vl gp), (bversions, oX8 8 3 bversionsc (nI kbversions)), (bversionsc, iA G 24 fbversions), (bpersons, oX8 10 2 bpersonsc (nI kbpersons)), (bpersonsc, iA G 20 fbpersons), (bpapers, oX8 12 6 bpapersc (nI kbpapers)), (bpapersc, iA G 72 fbpapers), (blines, oX8 72 7 blinesc (nI kblines)), (blinesc, iA G 504 fblines), (bsteps, oX8 960 1 bstepsc (nI kbsteps)), (bstepsc, iA G 960 fbsteps), (bstamps, oX8 24 3 bstampsc (nI kbstamps)), (bstampsc, iA G 72 fbstamps), (bfindings, oX8 12 4 bfindingsc (nI kbfindings)), (bfindingsc, iA G 48 fbfindings)] H → va_S A s.heap H locs → lv_has ls 5 [(4, .int (nI kP)), (3, .int le), (0, .ref h0), (1, .int x1), (2, .int x2)] → W p l e (RM 8 0 0) s m ([.ref h0, .int x1, .int x2] : List Value).toArray below meth c H locs 0 0 Q0 (F0 m 16 ls []) := by
      intro nP
      induction nP with
      | zero =>
        intro kP le wcl wr1 wrc wrh vclm vfi vla vml vmm vsl vsm vfc vsh H locs ls hkP hwcl hPD hS hl
        refine Kan2 hPD (fun hP hD => ?_)
        obtain rfl : kbpapers = kP := by omega
        have hl : lv_has ls 5 [(4, .int (nI kbpapers)), (3, .int le), (0, .ref h0), (1, .int x1), (2, .int x2)] := hl
        refine lv_iload hx hb gX11_leansOn_1.2.1 (lv_at0 hl) ?_
        refine lv_aload_n hx hb gX11_leansOn_1.2.2.1 rfl (lv_at2 hl) ?_
        refine gf_X11_15 hC rfl hK hP 0 rfl rfl gX11_leansOn_1.2.2.2.1 ?_
        refine gf_X11_144 hC rfl hK hP 13 rfl rfl gX11_leansOn_1.2.2.2.2.1 ?_
        refine pV hC hK hl hP hD (c_T_count l G bpapers 12 6 bpapersc kbpapers) si_X11_174 [18] sm_18 fm_18 nd_18 rfl rfl rfl rfl rfl (Nat.le_of_ble_eq_true rfl) rm_8_1_1 ⟨by first | exact Nat.le_of_ble_eq_true rfl | exact Nat.zero_le _, by first | exact Nat.le_of_ble_eq_true rfl | exact Nat.zero_le _⟩ gX11_leansOn_1.2.2.2.2.2.1 (Keqr ?_)
        refine lv_icmp_ge (tgt := 69) hx hb gX11_leansOn_1.2.2.2.2.2.2.1 (by decide) (fun _ => ?_) (fun c9 => absurd (Int32.le_refl _) c9)
        refine lv_iload_n hx hb gX11_leansOn_4.1 rfl (lv_at1 hl) ?_
        refine toQ hQ0 ?_
        exact RI (v := le) hC hP hD hS [0, 1, 2, 3, 4, 5, 6, 7, 8, 9, 10, 11, 12, 13, 14, 15, 16, 17, 18, 19, 20, 21, 22, 23, 24, 25, 26, 27] (wcl, vclm, vfi, vla, vml, vmm, vsl, vsm, wr1, wrc, wrh, vfc, vsh) rfl rfl (by decide) (⟨trivial, hwcl⟩) rfl gX11_leansOn_4.2
      | succ nP ihP =>
        intro kP le wcl wr1 wrc wrh vclm vfi vla vml vmm vsl vsm vfc vsh H locs ls hkP hwcl hPD hS hl
        refine Kan2 hPD (fun hP hD => ?_)
        refine lv_iload hx hb gX11_leansOn_1.2.1 (lv_at0 hl) ?_
        refine lv_aload_n hx hb gX11_leansOn_1.2.2.1 rfl (lv_at2 hl) ?_
        refine gf_X11_15 hC rfl hK hP 0 rfl rfl gX11_leansOn_1.2.2.2.1 ?_
        refine gf_X11_144 hC rfl hK hP 13 rfl rfl gX11_leansOn_1.2.2.2.2.1 ?_
        refine pV hC hK hl hP hD (c_T_count l G bpapers 12 6 bpapersc kbpapers) si_X11_174 [18] sm_18 fm_18 nd_18 rfl rfl rfl rfl rfl (Nat.le_of_ble_eq_true rfl) rm_8_1_1 ⟨by first | exact Nat.le_of_ble_eq_true rfl | exact Nat.zero_le _, by first | exact Nat.le_of_ble_eq_true rfl | exact Nat.zero_le _⟩ gX11_leansOn_1.2.2.2.2.2.1 (Keqr ?_)
        refine lv_icmp_ge (tgt := 69) hx hb gX11_leansOn_1.2.2.2.2.2.2.1 (by decide) (fun c9 => absurd c9 (nI_ge (a := kP) (b := kbpapers) (by omega) (by omega))) (fun _ => ?_)
        refine lv_iload_n hx hb gX11_leansOn_1.2.2.2.2.2.2.2.1 rfl (lv_at4 hl) ?_
        refine lv_iload hx hb gX11_leansOn_1.2.2.2.2.2.2.2.2.1 (lv_at0 hl) ?_
        refine pS hC hK hl (c_hasBit l G x2 (nI kP)) si_X11_150 rfl rfl (Nat.le_of_ble_eq_true rfl) rm_8_1_2 ⟨by first | exact Nat.le_of_ble_eq_true rfl | exact Nat.zero_le _, by first | exact Nat.le_of_ble_eq_true rfl | exact Nat.zero_le _⟩ gX11_leansOn_1.2.2.2.2.2.2.2.2.2 (Kors (Keqa fun a2381 => ?_) (Keqa fun a2381 => ?_))
        · refine lv_if_eq (tgt := 63) hx hb gX11_leansOn_2.1 (by decide) (fun c9 => absurd c9 (by decide)) (fun _ => ?_)
          refine lv_aload_n hx hb gX11_leansOn_2.2.1 rfl (lv_at2 hl) ?_
          refine lv_iload_n hx hb gX11_leansOn_2.2.2.1 rfl (lv_at3 hl) ?_
          refine lv_iload_n hx hb gX11_leansOn_2.2.2.2.1 rfl (lv_at4 hl) ?_
          refine lv_iconst (v := 1) hx hb gX11_leansOn_2.2.2.2.2.1 (by decide) ?_
          refine lv_iload hx hb gX11_leansOn_2.2.2.2.2.2.1 (lv_at0 hl) ?_
          refine lv_ishl hx hb gX11_leansOn_2.2.2.2.2.2.2.1 ?_
          refine lv_iconst (v := (-1)) hx hb gX11_leansOn_2.2.2.2.2.2.2.2.1 (by decide) ?_
          refine lv_ixor hx hb gX11_leansOn_2.2.2.2.2.2.2.2.2.1 ?_
          refine lv_iand hx hb gX11_leansOn_2.2.2.2.2.2.2.2.2.2 ?_
          refine iV (wr := []) hC hK hl hP hD hS hA (c_stands l G h0 x1 (x2 &&& ((1 <<< ((nI kP) &&& 31)) ^^^ (-1))) bb kk ikp sg do9 ru9 ta9 tp9 ro9 ho9 de9 clk fi la ml mm sl sm wcl clm vclm vfi vla vml vmm vsl vsm fc sh wr1 wrc wrh vfc vsh bpersons bpapers bstamps bversions blines bsteps bsayings bfindings bwarnings bquestions td vd vl gp bversionsc kbversions fbversions bpersonsc kbpersons fbpersons bpapersc kbpapers fbpapers blinesc kblines fblines bstepsc kbsteps fbsteps bstampsc kbstamps fbstamps bfindingsc kbfindings fbfindings (hkbversions) (hkbpersons) (hkbpapers) (hkblines) (hkbsteps) (hkbstamps) (hkbfindings)) si_X11_274 [0, 1, 2, 3, 4, 5, 6, 7, 8, 9, 10, 11, 12, 13, 14, 15, 16, 17, 18, 19, 20, 21, 22, 23, 24, 25, 26, 27] [] sm_0_1_2_3_4_5_6_7_8_9_10_11_12_13_14_15_16_17_18_19_20_21_22_23_24_25_26_27 fm_0_1_2_3_4_5_6_7_8_9_10_11_12_13_14_15_16_17_18_19_20_21_22_23_24_25_26_27 nd_0_1_2_3_4_5_6_7_8_9_10_11_12_13_14_15_16_17_18_19_20_21_22_23_24_25_26_27 rfl rfl (by decide) rfl rfl rfl rfl rfl (Nat.le_of_ble_eq_true rfl) rm_8_7_6 ⟨Nat.le_of_ble_eq_true rfl, Nat.le_of_ble_eq_true rfl⟩ gX11_leansOn_3.1 (fun r2382 => Ktu13 fun cl12384 gclm2385 gfi2386 gla2387 gml2388 gmm2389 gsl2390 gsm2391 r112392 rc12393 rh12394 gfc2395 gsh2396 => ?_)
          intro H locs hr2382 hP hD hS
          try dsimp only at hr2382
          refine Kpdr (ws := [(h0, oX11 bb kk ikp sg do9 ru9 ta9 tp9 ro9 ho9 de9), (sg, oX7 bb clk fi la ml mm sl sm cl12384), (clk, oX1 clm), (clm, iA G 36 gclm2385), (fi, iA G 12 gfi2386), (la, iA G 12 gla2387), (ml, iA G 12 gml2388), (mm, iA G 12 gmm2389), (sl, iA G 12 gsl2390), (sm, iA G 12 gsm2391), (ru9, oX6 bb sg fc sh r112392 rc12393 rh12394), (fc, iA G 5 gfc2395), (sh, iA G 8 gsh2396), (bb, oX0 bpersons bpapers bstamps bversions blines bsteps bsayings bfindings bwarnings bquestions td vd vl gp), (bversions, oX8 8 3 bversionsc (nI kbversions)), (bversionsc, iA G 24 fbversions), (bpersons, oX8 10 2 bpersonsc (nI kbpersons)), (bpersonsc, iA G 20 fbpersons), (bpapers, oX8 12 6 bpapersc (nI kbpapers)), (bpapersc, iA G 72 fbpapers), (blines, oX8 72 7 blinesc (nI kblines)), (blinesc, iA G 504 fblines), (bsteps, oX8 960 1 bstepsc (nI kbsteps)), (bstepsc, iA G 960 fbsteps), (bstamps, oX8 24 3 bstampsc (nI kbstamps)), (bstampsc, iA G 72 fbstamps), (bfindings, oX8 12 4 bfindingsc (nI kbfindings)), (bfindingsc, iA G 48 fbfindings)]) hP hD (fun hP hD => ?_)
          obtain ⟨hr2382, w2397⟩ := hr2382
          rcases hr2382 with rfl | rfl
          · refine lv_if_ne (tgt := 63) hx hb gX11_leansOn_3.2.1 (by decide) (fun _ => ?_) (fun c9 => absurd c9 (by decide))
            refine lv_iinc (v := nI (kP + 1)) (lv' := [(4, .int (nI (kP + 1))), (3, .int le), (0, .ref h0), (1, .int x1), (2, .int x2)]) hx hb gX11_leansOn_3.2.2.2.2.2.2.2.2.1 hl (k := 0) rfl (nI_1 _) (by decide) rfl (fun ls hl => ?_)
            refine lv_goto (tgt := 16) hx hb gX11_leansOn_3.2.2.2.2.2.2.2.2.2 (by decide) ?_
            exact ihP (kP + 1) le cl12384 r112392 rc12393 rh12394 gclm2385 gfi2386 gla2387 gml2388 gmm2389 gsl2390 gsm2391 gfc2395 gsh2396 _ _ _ (by omega) (by first | assumption | exact Or.inl rfl | exact Or.inr rfl) (And.intro hP hD) hS (lv_sub hl [0, 1, 2, 3, 4] rfl)
          · refine lv_if_ne (tgt := 63) hx hb gX11_leansOn_3.2.1 (by decide) (fun c9 => absurd (by decide) c9) (fun _ => ?_)
            refine lv_iload_n hx hb gX11_leansOn_3.2.2.1 rfl (lv_at1 hl) ?_
            refine lv_iconst (v := 1) hx hb gX11_leansOn_3.2.2.2.1 (by decide) ?_
            refine lv_iload hx hb gX11_leansOn_3.2.2.2.2.1 (lv_at0 hl) ?_
            refine lv_ishl hx hb gX11_leansOn_3.2.2.2.2.2.1 ?_
            refine lv_ior hx hb gX11_leansOn_3.2.2.2.2.2.2.1 ?_
            refine lv_istore_n (lv' := [(3, .int (le ||| (1 <<< ((nI kP) &&& 31)))), (4, .int (nI kP)), (0, .ref h0), (1, .int x1), (2, .int x2)]) hx hb gX11_leansOn_3.2.2.2.2.2.2.2.1 rfl hl (by decide) rfl (fun ls hl => ?_)
            refine lv_iinc (v := nI (kP + 1)) (lv' := [(4, .int (nI (kP + 1))), (3, .int (le ||| (1 <<< ((nI kP) &&& 31)))), (0, .ref h0), (1, .int x1), (2, .int x2)]) hx hb gX11_leansOn_3.2.2.2.2.2.2.2.2.1 hl (k := 1) rfl (nI_1 _) (by decide) rfl (fun ls hl => ?_)
            refine lv_goto (tgt := 16) hx hb gX11_leansOn_3.2.2.2.2.2.2.2.2.2 (by decide) ?_
            exact ihP (kP + 1) (le ||| (1 <<< ((nI kP) &&& 31))) cl12384 r112392 rc12393 rh12394 gclm2385 gfi2386 gla2387 gml2388 gmm2389 gsl2390 gsm2391 gfc2395 gsh2396 _ _ _ (by omega) (by first | assumption | exact Or.inl rfl | exact Or.inr rfl) (And.intro hP hD) hS (lv_sub hl [0, 1, 2, 3, 4] rfl)
        · refine lv_if_eq (tgt := 63) hx hb gX11_leansOn_2.1 (by decide) (fun _ => ?_) (fun c9 => absurd (by decide) c9)
          refine lv_iinc (v := nI (kP + 1)) (lv' := [(4, .int (nI (kP + 1))), (3, .int le), (0, .ref h0), (1, .int x1), (2, .int x2)]) hx hb gX11_leansOn_3.2.2.2.2.2.2.2.2.1 hl (k := 0) rfl (nI_1 _) (by decide) rfl (fun ls hl => ?_)
          refine lv_goto (tgt := 16) hx hb gX11_leansOn_3.2.2.2.2.2.2.2.2.2 (by decide) ?_
          exact ihP (kP + 1) le wcl wr1 wrc wrh vclm vfi vla vml vmm vsl vsm vfc vsh _ _ _ (by omega) (by first | assumption | exact Or.inl rfl | exact Or.inr rfl) (And.intro hP hD) hS (lv_sub hl [0, 1, 2, 3, 4] rfl)
    exact keyP kbpapers 0 0 cl12361 r112369 rc12370 rh12371 gclm2362 gfi2363 gla2364 gml2365 gmm2366 gsl2367 gsm2368 gfc2372 gsh2373 _ _ _ (by omega) (by first | assumption | exact Or.inl rfl | exact Or.inr rfl) (And.intro hP hD) hS (lv_sub hl [0, 1, 2, 3, 4] rfl)
  · refine lv_if_ne (tgt := 11) hx hb gX11_leansOn_0.2.2.2.2.1 (by decide) (fun c9 => absurd (by decide) c9) (fun _ => ?_)
    refine lv_iconst (v := 0) hx hb gX11_leansOn_0.2.2.2.2.2.1 (by decide) ?_
    refine toQ hQ0 ?_
    exact RI (v := 0) hC hP hD hS [0, 1, 2, 3, 4, 5, 6, 7, 8, 9, 10, 11, 12, 13, 14, 15, 16, 17, 18, 19, 20, 21, 22, 23, 24, 25, 26, 27] (cl12361, gclm2362, gfi2363, gla2364, gml2365, gmm2366, gsl2367, gsm2368, r112369, rc12370, rh12371, gfc2372, gsh2373) rfl rfl (by decide) (⟨trivial, w2374⟩) rfl gX11_leansOn_0.2.2.2.2.2.2.1
def K_c_countStanding (l : Launch) (G : GG) (h0 : Nat) (x1 : Int32) (bb : Nat) (kk : Nat) (ikp : Int32) (sg : Nat) (do9 : Nat) (ru9 : Nat) (ta9 : Nat) (tp9 : Nat) (ro9 : Nat) (ho9 : Nat) (de9 : Nat) (clk : Nat) (fi : Nat) (la : Nat) (ml : Nat) (mm : Nat) (sl : Nat) (sm : Nat) (cl : Int32) (clm : Nat) (fclm : Nat → Int32) (ffi : Nat → Int32) (fla : Nat → Int32) (fml : Nat → Int32) (fmm : Nat → Int32) (fsl : Nat → Int32) (fsm : Nat → Int32) (fc : Nat) (sh : Nat) (r1 : Int32) (rc : Int32) (rh : Int32) (ffc : Nat → Int32) (fsh : Nat → Int32) (bpersons : Nat) (bpapers : Nat) (bstamps : Nat) (bversions : Nat) (blines : Nat) (bsteps : Nat) (bsayings : Nat) (bfindings : Nat) (bwarnings : Nat) (bquestions : Nat) (td : Int32) (vd : Int32) (vl : Int32) (gp : Int32) (bversionsc : Nat) (kbversions : Nat) (fbversions : Nat → Int32) (bpersonsc : Nat) (kbpersons : Nat) (fbpersons : Nat → Int32) (bpapersc : Nat) (kbpapers : Nat) (fbpapers : Nat → Int32) (blinesc : Nat) (kblines : Nat) (fblines : Nat → Int32) (bstepsc : Nat) (kbsteps : Nat) (fbsteps : Nat → Int32) (bstampsc : Nat) (kbstamps : Nat) (fbstamps : Nat → Int32) (bfindingsc : Nat) (kbfindings : Nat) (fbfindings : Nat → Int32) : Prop := MI l G yX11_countStanding cX11_countStanding 4 (some .int) 8 0 0 [.ref h0, .int x1] [(h0, oX11 bb kk ikp sg do9 ru9 ta9 tp9 ro9 ho9 de9), (sg, oX7 bb clk fi la ml mm sl sm cl), (clk, oX1 clm), (clm, iA G 36 fclm), (fi, iA G 12 ffi), (la, iA G 12 fla), (ml, iA G 12 fml), (mm, iA G 12 fmm), (sl, iA G 12 fsl), (sm, iA G 12 fsm), (ru9, oX6 bb sg fc sh r1 rc rh), (fc, iA G 5 ffc), (sh, iA G 8 fsh), (bb, oX0 bpersons bpapers bstamps bversions blines bsteps bsayings bfindings bwarnings bquestions td vd vl gp), (bversions, oX8 8 3 bversionsc (nI kbversions)), (bversionsc, iA G 24 fbversions), (bpersons, oX8 10 2 bpersonsc (nI kbpersons)), (bpersonsc, iA G 20 fbpersons), (bpapers, oX8 12 6 bpapersc (nI kbpapers)), (bpapersc, iA G 72 fbpapers), (blines, oX8 72 7 blinesc (nI kblines)), (blinesc, iA G 504 fblines), (bsteps, oX8 960 1 bstepsc (nI kbsteps)), (bstepsc, iA G 960 fbsteps), (bstamps, oX8 24 3 bstampsc (nI kbstamps)), (bstampsc, iA G 72 fbstamps), (bfindings, oX8 12 4 bfindingsc (nI kbfindings)), (bfindingsc, iA G 48 fbfindings)] (fun (r : Int32) (u : Int32 × (Nat → Int32) × (Nat → Int32) × (Nat → Int32) × (Nat → Int32) × (Nat → Int32) × (Nat → Int32) × (Nat → Int32) × Int32 × Int32 × Int32 × (Nat → Int32) × (Nat → Int32)) => (True) ∧ (u.1 = 0 ∨ u.1 = 1)) (fun u : Int32 × (Nat → Int32) × (Nat → Int32) × (Nat → Int32) × (Nat → Int32) × (Nat → Int32) × (Nat → Int32) × (Nat → Int32) × Int32 × Int32 × Int32 × (Nat → Int32) × (Nat → Int32) => [(h0, oX11 bb kk ikp sg do9 ru9 ta9 tp9 ro9 ho9 de9), (sg, oX7 bb clk fi la ml mm sl sm u.1), (clk, oX1 clm), (clm, iA G 36 u.2.1), (fi, iA G 12 u.2.2.1), (la, iA G 12 u.2.2.2.1), (ml, iA G 12 u.2.2.2.2.1), (mm, iA G 12 u.2.2.2.2.2.1), (sl, iA G 12 u.2.2.2.2.2.2.1), (sm, iA G 12 u.2.2.2.2.2.2.2.1), (ru9, oX6 bb sg fc sh u.2.2.2.2.2.2.2.2.1 u.2.2.2.2.2.2.2.2.2.1 u.2.2.2.2.2.2.2.2.2.2.1), (fc, iA G 5 u.2.2.2.2.2.2.2.2.2.2.2.1), (sh, iA G 8 u.2.2.2.2.2.2.2.2.2.2.2.2), (bb, oX0 bpersons bpapers bstamps bversions blines bsteps bsayings bfindings bwarnings bquestions td vd vl gp), (bversions, oX8 8 3 bversionsc (nI kbversions)), (bversionsc, iA G 24 fbversions), (bpersons, oX8 10 2 bpersonsc (nI kbpersons)), (bpersonsc, iA G 20 fbpersons), (bpapers, oX8 12 6 bpapersc (nI kbpapers)), (bpapersc, iA G 72 fbpapers), (blines, oX8 72 7 blinesc (nI kblines)), (blinesc, iA G 504 fblines), (bsteps, oX8 960 1 bstepsc (nI kbsteps)), (bstepsc, iA G 960 fbsteps), (bstamps, oX8 24 3 bstampsc (nI kbstamps)), (bstampsc, iA G 72 fbstamps), (bfindings, oX8 12 4 bfindingsc (nI kbfindings)), (bfindingsc, iA G 48 fbfindings)])
set_option maxHeartbeats 4000000 in
set_option maxRecDepth 100000 in
theorem c_countStanding (l : Launch) (G : GG) (h0 : Nat) (x1 : Int32) (bb : Nat) (kk : Nat) (ikp : Int32) (sg : Nat) (do9 : Nat) (ru9 : Nat) (ta9 : Nat) (tp9 : Nat) (ro9 : Nat) (ho9 : Nat) (de9 : Nat) (clk : Nat) (fi : Nat) (la : Nat) (ml : Nat) (mm : Nat) (sl : Nat) (sm : Nat) (cl : Int32) (clm : Nat) (fclm : Nat → Int32) (ffi : Nat → Int32) (fla : Nat → Int32) (fml : Nat → Int32) (fmm : Nat → Int32) (fsl : Nat → Int32) (fsm : Nat → Int32) (fc : Nat) (sh : Nat) (r1 : Int32) (rc : Int32) (rh : Int32) (ffc : Nat → Int32) (fsh : Nat → Int32) (bpersons : Nat) (bpapers : Nat) (bstamps : Nat) (bversions : Nat) (blines : Nat) (bsteps : Nat) (bsayings : Nat) (bfindings : Nat) (bwarnings : Nat) (bquestions : Nat) (td : Int32) (vd : Int32) (vl : Int32) (gp : Int32) (bversionsc : Nat) (kbversions : Nat) (fbversions : Nat → Int32) (bpersonsc : Nat) (kbpersons : Nat) (fbpersons : Nat → Int32) (bpapersc : Nat) (kbpapers : Nat) (fbpapers : Nat → Int32) (blinesc : Nat) (kblines : Nat) (fblines : Nat → Int32) (bstepsc : Nat) (kbsteps : Nat) (fbsteps : Nat → Int32) (bstampsc : Nat) (kbstamps : Nat) (fbstamps : Nat → Int32) (bfindingsc : Nat) (kbfindings : Nat) (fbfindings : Nat → Int32) (hkbversions : kbversions ≤ 8) (hkbpersons : kbpersons ≤ 10) (hkbpapers : kbpapers ≤ 12) (hkblines : kblines ≤ 72) (hkbsteps : kbsteps ≤ 960) (hkbstamps : kbstamps ≤ 24) (hkbfindings : kbfindings ≤ 12) (hcl : cl = 0 ∨ cl = 1) : K_c_countStanding l G h0 x1 bb kk ikp sg do9 ru9 ta9 tp9 ro9 ho9 de9 clk fi la ml mm sl sm cl clm fclm ffi fla fml fmm fsl fsm fc sh r1 rc rh ffc fsh bpersons bpapers bstamps bversions blines bsteps bsayings bfindings bwarnings bquestions td vd vl gp bversionsc kbversions fbversions bpersonsc kbpersons fbpersons bpapersc kbpapers fbpapers blinesc kblines fblines bstepsc kbsteps fbsteps bstampsc kbstamps fbstamps bfindingsc kbfindings fbfindings := by
  refine MI.start (by decide +kernel) (Nat.le_of_ble_eq_true rfl) ?_
  intro p e s m below meth c A ls hC hK hP hD hS hA hl
  refine absQ (fun Q0 hQ0 => ?_)
  have hl : lv_has ls 4 [(0, .ref h0), (1, .int x1)] := hl
  refine Kan8 hC (fun hx hb hr hml hB hown hlocks hnm => ?_)
  refine lv_iconst (v := 0) hx hb gX11_countStanding_0.1 (by decide) ?_
  refine lv_istore_n (lv' := [(2, .int 0), (0, .ref h0), (1, .int x1)]) hx hb gX11_countStanding_0.2.1 rfl hl (by decide) rfl (fun ls hl => ?_)
  refine lv_iconst (v := 0) hx hb gX11_countStanding_0.2.2.1 (by decide) ?_
  refine lv_istore_n (lv' := [(3, .int 0), (2, .int 0), (0, .ref h0), (1, .int x1)]) hx hb gX11_countStanding_0.2.2.2.1 rfl hl (by decide) rfl (fun ls hl => ?_)
  have keyP : ∀ (nP kP : Nat) (cn : Int32) (wcl : Int32) (wr1 : Int32) (wrc : Int32) (wrh : Int32) (vclm : Nat → Int32) (vfi : Nat → Int32) (vla : Nat → Int32) (vml : Nat → Int32) (vmm : Nat → Int32) (vsl : Nat → Int32) (vsm : Nat → Int32) (vfc : Nat → Int32) (vsh : Nat → Int32) (H : Heap) (locs : List Loc) (ls : Array Slot), kP + nP = kbfindings → (wcl = 0 ∨ wcl = 1) → va_PD G A [(h0, oX11 bb kk ikp sg do9 ru9 ta9 tp9 ro9 ho9 de9), (sg, oX7 bb clk fi la ml mm sl sm wcl), (clk, oX1 clm), (clm, iA G 36 vclm), (fi, iA G 12 vfi), (la, iA G 12 vla), (ml, iA G 12 vml), (mm, iA G 12 vmm), (sl, iA G 12 vsl), (sm, iA G 12 vsm), (ru9, oX6 bb sg fc sh wr1 wrc wrh), (fc, iA G 5 vfc), (sh, iA G 8 vsh), (bb, oX0 bpersons bpapers bstamps bversions blines bsteps bsayings bfindings bwarnings bquestions td vd vl gp), (bversions, oX8 8 3 bversionsc (nI kbversions)), (bversionsc, iA G 24 fbversions), (bpersons, oX8 10 2 bpersonsc (nI kbpersons)), (bpersonsc, iA G 20 fbpersons), (bpapers, oX8 12 6 bpapersc (nI kbpapers)), (bpapersc, iA G 72 fbpapers), (blines, oX8 72 7 blinesc (nI kblines)), (blinesc, iA G 504 fblines), (bsteps, oX8 960 1 bstepsc (nI kbsteps)), (bstepsc, iA G 960 fbsteps), (bstamps, oX8 24 3 bstampsc (nI kbstamps)), (bstampsc, iA G 72 fbstamps), (bfindings, oX8 12 4 bfindingsc (nI kbfindings)), (bfindingsc, iA G 48 fbfindings)] H → va_S A s.heap H locs → lv_has ls 4 [(3, .int (nI kP)), (2, .int cn), (0, .ref h0), (1, .int x1)] → W p l e (RM 8 0 0) s m ([.ref h0, .int x1] : List Value).toArray below meth c H locs 0 0 Q0 (F0 m 4 ls []) := by
    intro nP
    induction nP with
    | zero =>
      intro kP cn wcl wr1 wrc wrh vclm vfi vla vml vmm vsl vsm vfc vsh H locs ls hkP hwcl hPD hS hl
      refine Kan2 hPD (fun hP hD => ?_)
      obtain rfl : kbfindings = kP := by omega
      have hl : lv_has ls 4 [(3, .int (nI kbfindings)), (2, .int cn), (0, .ref h0), (1, .int x1)] := hl
      refine lv_iload_n hx hb gX11_countStanding_0.2.2.2.2.1 rfl (lv_at0 hl) ?_
      refine lv_aload_n hx hb gX11_countStanding_0.2.2.2.2.2.1 rfl (lv_at2 hl) ?_
      refine gf_X11_15 hC rfl hK hP 0 rfl rfl gX11_countStanding_0.2.2.2.2.2.2.1 ?_
      refine gf_X11_271 hC rfl hK hP 13 rfl rfl gX11_countStanding_0.2.2.2.2.2.2.2.1 ?_
      refine pV hC hK hl hP hD (c_T_count l G bfindings 12 4 bfindingsc kbfindings) si_X11_174 [26] sm_26 fm_26 nd_26 rfl rfl rfl rfl rfl (Nat.le_of_ble_eq_true rfl) rm_8_1_1 ⟨by first | exact Nat.le_of_ble_eq_true rfl | exact Nat.zero_le _, by first | exact Nat.le_of_ble_eq_true rfl | exact Nat.zero_le _⟩ gX11_countStanding_0.2.2.2.2.2.2.2.2.1 (Keqr ?_)
      refine lv_icmp_ge (tgt := 36) hx hb gX11_countStanding_0.2.2.2.2.2.2.2.2.2 (by decide) (fun _ => ?_) (fun c9 => absurd (Int32.le_refl _) c9)
      refine lv_iload_n hx hb gX11_countStanding_1.2.2.2.2.2.2.2.2.1 rfl (lv_at1 hl) ?_
      refine toQ hQ0 ?_
      exact RI (v := cn) hC hP hD hS [0, 1, 2, 3, 4, 5, 6, 7, 8, 9, 10, 11, 12, 13, 14, 15, 16, 17, 18, 19, 20, 21, 22, 23, 24, 25, 26, 27] (wcl, vclm, vfi, vla, vml, vmm, vsl, vsm, wr1, wrc, wrh, vfc, vsh) rfl rfl (by decide) (⟨trivial, hwcl⟩) rfl gX11_countStanding_1.2.2.2.2.2.2.2.2.2
    | succ nP ihP =>
      intro kP cn wcl wr1 wrc wrh vclm vfi vla vml vmm vsl vsm vfc vsh H locs ls hkP hwcl hPD hS hl
      refine Kan2 hPD (fun hP hD => ?_)
      refine lv_iload_n hx hb gX11_countStanding_0.2.2.2.2.1 rfl (lv_at0 hl) ?_
      refine lv_aload_n hx hb gX11_countStanding_0.2.2.2.2.2.1 rfl (lv_at2 hl) ?_
      refine gf_X11_15 hC rfl hK hP 0 rfl rfl gX11_countStanding_0.2.2.2.2.2.2.1 ?_
      refine gf_X11_271 hC rfl hK hP 13 rfl rfl gX11_countStanding_0.2.2.2.2.2.2.2.1 ?_
      refine pV hC hK hl hP hD (c_T_count l G bfindings 12 4 bfindingsc kbfindings) si_X11_174 [26] sm_26 fm_26 nd_26 rfl rfl rfl rfl rfl (Nat.le_of_ble_eq_true rfl) rm_8_1_1 ⟨by first | exact Nat.le_of_ble_eq_true rfl | exact Nat.zero_le _, by first | exact Nat.le_of_ble_eq_true rfl | exact Nat.zero_le _⟩ gX11_countStanding_0.2.2.2.2.2.2.2.2.1 (Keqr ?_)
      refine lv_icmp_ge (tgt := 36) hx hb gX11_countStanding_0.2.2.2.2.2.2.2.2.2 (by decide) (fun c9 => absurd c9 (nI_ge (a := kP) (b := kbfindings) (by omega) (by omega))) (fun _ => ?_)
      refine lv_aload_n hx hb gX11_countStanding_1.1 rfl (lv_at2 hl) ?_
      refine lv_iload_n hx hb gX11_countStanding_1.2.1 rfl (lv_at0 hl) ?_
      refine lv_iload_n hx hb gX11_countStanding_1.2.2.1 rfl (lv_at3 hl) ?_
      refine iV (wr := []) hC hK hl hP hD hS hA (c_stands l G h0 (nI kP) x1 bb kk ikp sg do9 ru9 ta9 tp9 ro9 ho9 de9 clk fi la ml mm sl sm wcl clm vclm vfi vla vml vmm vsl vsm fc sh wr1 wrc wrh vfc vsh bpersons bpapers bstamps bversions blines bsteps bsayings bfindings bwarnings bquestions td vd vl gp bversionsc kbversions fbversions bpersonsc kbpersons fbpersons bpapersc kbpapers fbpapers blinesc kblines fblines bstepsc kbsteps fbsteps bstampsc kbstamps fbstamps bfindingsc kbfindings fbfindings (hkbversions) (hkbpersons) (hkbpapers) (hkblines) (hkbsteps) (hkbstamps) (hkbfindings)) si_X11_274 [0, 1, 2, 3, 4, 5, 6, 7, 8, 9, 10, 11, 12, 13, 14, 15, 16, 17, 18, 19, 20, 21, 22, 23, 24, 25, 26, 27] [] sm_0_1_2_3_4_5_6_7_8_9_10_11_12_13_14_15_16_17_18_19_20_21_22_23_24_25_26_27 fm_0_1_2_3_4_5_6_7_8_9_10_11_12_13_14_15_16_17_18_19_20_21_22_23_24_25_26_27 nd_0_1_2_3_4_5_6_7_8_9_10_11_12_13_14_15_16_17_18_19_20_21_22_23_24_25_26_27 rfl rfl (by decide) rfl rfl rfl rfl rfl (Nat.le_of_ble_eq_true rfl) rm_8_7_6 ⟨Nat.le_of_ble_eq_true rfl, Nat.le_of_ble_eq_true rfl⟩ gX11_countStanding_1.2.2.2.1 (fun r2403 => Ktu13 fun cl12405 gclm2406 gfi2407 gla2408 gml2409 gmm2410 gsl2411 gsm2412 r112413 rc12414 rh12415 gfc2416 gsh2417 => ?_)
      intro H locs hr2403 hP hD hS
      try dsimp only at hr2403
      refine Kpdr (ws := [(h0, oX11 bb kk ikp sg do9 ru9 ta9 tp9 ro9 ho9 de9), (sg, oX7 bb clk fi la ml mm sl sm cl12405), (clk, oX1 clm), (clm, iA G 36 gclm2406), (fi, iA G 12 gfi2407), (la, iA G 12 gla2408), (ml, iA G 12 gml2409), (mm, iA G 12 gmm2410), (sl, iA G 12 gsl2411), (sm, iA G 12 gsm2412), (ru9, oX6 bb sg fc sh r112413 rc12414 rh12415), (fc, iA G 5 gfc2416), (sh, iA G 8 gsh2417), (bb, oX0 bpersons bpapers bstamps bversions blines bsteps bsayings bfindings bwarnings bquestions td vd vl gp), (bversions, oX8 8 3 bversionsc (nI kbversions)), (bversionsc, iA G 24 fbversions), (bpersons, oX8 10 2 bpersonsc (nI kbpersons)), (bpersonsc, iA G 20 fbpersons), (bpapers, oX8 12 6 bpapersc (nI kbpapers)), (bpapersc, iA G 72 fbpapers), (blines, oX8 72 7 blinesc (nI kblines)), (blinesc, iA G 504 fblines), (bsteps, oX8 960 1 bstepsc (nI kbsteps)), (bstepsc, iA G 960 fbsteps), (bstamps, oX8 24 3 bstampsc (nI kbstamps)), (bstampsc, iA G 72 fbstamps), (bfindings, oX8 12 4 bfindingsc (nI kbfindings)), (bfindingsc, iA G 48 fbfindings)]) hP hD (fun hP hD => ?_)
      obtain ⟨hr2403, w2418⟩ := hr2403
      rcases hr2403 with rfl | rfl
      · refine lv_if_eq (tgt := 30) hx hb gX11_countStanding_1.2.2.2.2.1 (by decide) (fun c9 => absurd c9 (by decide)) (fun _ => ?_)
        refine lv_iinc (v := cn + 1) (lv' := [(2, .int (cn + 1)), (3, .int (nI kP)), (0, .ref h0), (1, .int x1)]) hx hb gX11_countStanding_1.2.2.2.2.2.1 hl (k := 1) rfl (rfl) (by decide) rfl (fun ls hl => ?_)
        refine lv_iinc (v := nI (kP + 1)) (lv' := [(3, .int (nI (kP + 1))), (2, .int (cn + 1)), (0, .ref h0), (1, .int x1)]) hx hb gX11_countStanding_1.2.2.2.2.2.2.1 hl (k := 1) rfl (nI_1 _) (by decide) rfl (fun ls hl => ?_)
        refine lv_goto (tgt := 4) hx hb gX11_countStanding_1.2.2.2.2.2.2.2.1 (by decide) ?_
        exact ihP (kP + 1) (cn + 1) cl12405 r112413 rc12414 rh12415 gclm2406 gfi2407 gla2408 gml2409 gmm2410 gsl2411 gsm2412 gfc2416 gsh2417 _ _ _ (by omega) (by first | assumption | exact Or.inl rfl | exact Or.inr rfl) (And.intro hP hD) hS (lv_sub hl [0, 1, 2, 3] rfl)
      · refine lv_if_eq (tgt := 30) hx hb gX11_countStanding_1.2.2.2.2.1 (by decide) (fun _ => ?_) (fun c9 => absurd (by decide) c9)
        refine lv_iinc (v := nI (kP + 1)) (lv' := [(3, .int (nI (kP + 1))), (2, .int cn), (0, .ref h0), (1, .int x1)]) hx hb gX11_countStanding_1.2.2.2.2.2.2.1 hl (k := 0) rfl (nI_1 _) (by decide) rfl (fun ls hl => ?_)
        refine lv_goto (tgt := 4) hx hb gX11_countStanding_1.2.2.2.2.2.2.2.1 (by decide) ?_
        exact ihP (kP + 1) cn cl12405 r112413 rc12414 rh12415 gclm2406 gfi2407 gla2408 gml2409 gmm2410 gsl2411 gsm2412 gfc2416 gsh2417 _ _ _ (by omega) (by first | assumption | exact Or.inl rfl | exact Or.inr rfl) (And.intro hP hD) hS (lv_sub hl [0, 1, 2, 3] rfl)
  exact keyP kbfindings 0 0 cl r1 rc rh fclm ffi fla fml fmm fsl fsm ffc fsh _ _ _ (by omega) (by first | assumption | exact Or.inl rfl | exact Or.inr rfl) (And.intro hP hD) hS (lv_sub hl [0, 1, 2, 3] rfl)
def K_c_isBarred (l : Launch) (G : GG) (h0 : Nat) (x1 : Int32) (x2 : Int32) (x3 : Int32) (bb : Nat) (kk : Nat) (ikp : Int32) (sg : Nat) (do9 : Nat) (ru9 : Nat) (ta9 : Nat) (tp9 : Nat) (ro9 : Nat) (ho9 : Nat) (de9 : Nat) (fc : Nat) (sh : Nat) (r1 : Int32) (rc : Int32) (rh : Int32) (ffc : Nat → Int32) (fsh : Nat → Int32) (bpersons : Nat) (bpapers : Nat) (bstamps : Nat) (bversions : Nat) (blines : Nat) (bsteps : Nat) (bsayings : Nat) (bfindings : Nat) (bwarnings : Nat) (bquestions : Nat) (td : Int32) (vd : Int32) (vl : Int32) (gp : Int32) (bversionsc : Nat) (kbversions : Nat) (fbversions : Nat → Int32) (bpersonsc : Nat) (kbpersons : Nat) (fbpersons : Nat → Int32) (bpapersc : Nat) (kbpapers : Nat) (fbpapers : Nat → Int32) (blinesc : Nat) (kblines : Nat) (fblines : Nat → Int32) (bstepsc : Nat) (kbsteps : Nat) (fbsteps : Nat → Int32) (bfindingsc : Nat) (kbfindings : Nat) (fbfindings : Nat → Int32) (bsayingsc : Nat) (kbsayings : Nat) (fbsayings : Nat → Int32) (bwarningsc : Nat) (kbwarnings : Nat) (fbwarnings : Nat → Int32) : Prop := MI l G yX11_isBarred cX11_isBarred 7 (some .boolean) 7 0 0 [.ref h0, .int x1, .int x2, .int x3] [(h0, oX11 bb kk ikp sg do9 ru9 ta9 tp9 ro9 ho9 de9), (ru9, oX6 bb sg fc sh r1 rc rh), (fc, iA G 5 ffc), (sh, iA G 8 fsh), (bb, oX0 bpersons bpapers bstamps bversions blines bsteps bsayings bfindings bwarnings bquestions td vd vl gp), (bversions, oX8 8 3 bversionsc (nI kbversions)), (bversionsc, iA G 24 fbversions), (bpersons, oX8 10 2 bpersonsc (nI kbpersons)), (bpersonsc, iA G 20 fbpersons), (bpapers, oX8 12 6 bpapersc (nI kbpapers)), (bpapersc, iA G 72 fbpapers), (blines, oX8 72 7 blinesc (nI kblines)), (blinesc, iA G 504 fblines), (bsteps, oX8 960 1 bstepsc (nI kbsteps)), (bstepsc, iA G 960 fbsteps), (bfindings, oX8 12 4 bfindingsc (nI kbfindings)), (bfindingsc, iA G 48 fbfindings), (bsayings, oX8 16 8 bsayingsc (nI kbsayings)), (bsayingsc, iA G 128 fbsayings), (bwarnings, oX8 16 3 bwarningsc (nI kbwarnings)), (bwarningsc, iA G 48 fbwarnings)] (fun (r : Int32) (u : Int32 × Int32 × Int32 × (Nat → Int32)) => (r = 1 ∨ r = 0)) (fun u : Int32 × Int32 × Int32 × (Nat → Int32) => [(h0, oX11 bb kk ikp sg do9 ru9 ta9 tp9 ro9 ho9 de9), (ru9, oX6 bb sg fc sh u.1 u.2.1 u.2.2.1), (fc, iA G 5 u.2.2.2), (sh, iA G 8 fsh), (bb, oX0 bpersons bpapers bstamps bversions blines bsteps bsayings bfindings bwarnings bquestions td vd vl gp), (bversions, oX8 8 3 bversionsc (nI kbversions)), (bversionsc, iA G 24 fbversions), (bpersons, oX8 10 2 bpersonsc (nI kbpersons)), (bpersonsc, iA G 20 fbpersons), (bpapers, oX8 12 6 bpapersc (nI kbpapers)), (bpapersc, iA G 72 fbpapers), (blines, oX8 72 7 blinesc (nI kblines)), (blinesc, iA G 504 fblines), (bsteps, oX8 960 1 bstepsc (nI kbsteps)), (bstepsc, iA G 960 fbsteps), (bfindings, oX8 12 4 bfindingsc (nI kbfindings)), (bfindingsc, iA G 48 fbfindings), (bsayings, oX8 16 8 bsayingsc (nI kbsayings)), (bsayingsc, iA G 128 fbsayings), (bwarnings, oX8 16 3 bwarningsc (nI kbwarnings)), (bwarningsc, iA G 48 fbwarnings)])
set_option maxHeartbeats 4000000 in
set_option maxRecDepth 100000 in
theorem c_isBarred (l : Launch) (G : GG) (h0 : Nat) (x1 : Int32) (x2 : Int32) (x3 : Int32) (bb : Nat) (kk : Nat) (ikp : Int32) (sg : Nat) (do9 : Nat) (ru9 : Nat) (ta9 : Nat) (tp9 : Nat) (ro9 : Nat) (ho9 : Nat) (de9 : Nat) (fc : Nat) (sh : Nat) (r1 : Int32) (rc : Int32) (rh : Int32) (ffc : Nat → Int32) (fsh : Nat → Int32) (bpersons : Nat) (bpapers : Nat) (bstamps : Nat) (bversions : Nat) (blines : Nat) (bsteps : Nat) (bsayings : Nat) (bfindings : Nat) (bwarnings : Nat) (bquestions : Nat) (td : Int32) (vd : Int32) (vl : Int32) (gp : Int32) (bversionsc : Nat) (kbversions : Nat) (fbversions : Nat → Int32) (bpersonsc : Nat) (kbpersons : Nat) (fbpersons : Nat → Int32) (bpapersc : Nat) (kbpapers : Nat) (fbpapers : Nat → Int32) (blinesc : Nat) (kblines : Nat) (fblines : Nat → Int32) (bstepsc : Nat) (kbsteps : Nat) (fbsteps : Nat → Int32) (bfindingsc : Nat) (kbfindings : Nat) (fbfindings : Nat → Int32) (bsayingsc : Nat) (kbsayings : Nat) (fbsayings : Nat → Int32) (bwarningsc : Nat) (kbwarnings : Nat) (fbwarnings : Nat → Int32) (hkbversions : kbversions ≤ 8) (hkbpersons : kbpersons ≤ 10) (hkbpapers : kbpapers ≤ 12) (hkblines : kblines ≤ 72) (hkbsteps : kbsteps ≤ 960) (hkbfindings : kbfindings ≤ 12) (hkbsayings : kbsayings ≤ 16) (hkbwarnings : kbwarnings ≤ 16) : K_c_isBarred l G h0 x1 x2 x3 bb kk ikp sg do9 ru9 ta9 tp9 ro9 ho9 de9 fc sh r1 rc rh ffc fsh bpersons bpapers bstamps bversions blines bsteps bsayings bfindings bwarnings bquestions td vd vl gp bversionsc kbversions fbversions bpersonsc kbpersons fbpersons bpapersc kbpapers fbpapers blinesc kblines fblines bstepsc kbsteps fbsteps bfindingsc kbfindings fbfindings bsayingsc kbsayings fbsayings bwarningsc kbwarnings fbwarnings := by
  refine MI.start (by decide +kernel) (Nat.le_of_ble_eq_true rfl) ?_
  intro p e s m below meth c A ls hC hK hP hD hS hA hl
  refine absQ (fun Q0 hQ0 => ?_)
  have hl : lv_has ls 7 [(0, .ref h0), (1, .int x1), (2, .int x2), (3, .int x3)] := hl
  refine Kan8 hC (fun hx hb hr hml hB hown hlocks hnm => ?_)
  refine lv_aload_n hx hb gX11_isBarred_0.1 rfl (lv_at0 hl) ?_
  refine gf_X11_15 hC rfl hK hP 0 rfl rfl gX11_isBarred_0.2.1 ?_
  refine gf_X11_271 hC rfl hK hP 4 rfl rfl gX11_isBarred_0.2.2.1 ?_
  refine lv_iload_n hx hb gX11_isBarred_0.2.2.2.1 rfl (lv_at1 hl) ?_
  refine lv_iconst (v := 0) hx hb gX11_isBarred_0.2.2.2.2.1 (by decide) ?_
  refine pV hC hK hl hP hD (c_T_at l G bfindings x1 0 12 4 bfindingsc kbfindings fbfindings (hkbfindings) (by omega) (by omega)) si_X11_128 [15, 16] sm_15_16 fm_15_16 nd_15_16 rfl rfl rfl rfl rfl (Nat.le_of_ble_eq_true rfl) rm_7_1_3 ⟨by first | exact Nat.le_of_ble_eq_true rfl | exact Nat.zero_le _, by first | exact Nat.le_of_ble_eq_true rfl | exact Nat.zero_le _⟩ gX11_isBarred_0.2.2.2.2.2.1 (fun r2420 hr2420 => ?_)
  refine lv_istore (lv' := [(4, .int r2420), (0, .ref h0), (1, .int x1), (2, .int x2), (3, .int x3)]) hx hb gX11_isBarred_0.2.2.2.2.2.2.1 hl (by decide) rfl (fun ls hl => ?_)
  refine lv_aload_n hx hb gX11_isBarred_0.2.2.2.2.2.2.2.1 rfl (lv_at1 hl) ?_
  refine gf_X11_44 hC rfl hK hP 0 rfl rfl gX11_isBarred_0.2.2.2.2.2.2.2.2.1 ?_
  refine lv_iload hx hb gX11_isBarred_0.2.2.2.2.2.2.2.2.2 (lv_at0 hl) ?_
  refine lv_iload_n hx hb gX11_isBarred_1.1 rfl (lv_at3 hl) ?_
  refine vV (wr := [(h0, oX11 bb kk ikp sg do9 ru9 ta9 tp9 ro9 ho9 de9), (sh, iA G 8 fsh), (bfindings, oX8 12 4 bfindingsc (nI kbfindings)), (bfindingsc, iA G 48 fbfindings), (bsayings, oX8 16 8 bsayingsc (nI kbsayings)), (bsayingsc, iA G 128 fbsayings), (bwarnings, oX8 16 3 bwarningsc (nI kbwarnings)), (bwarningsc, iA G 48 fbwarnings)]) hC hK hl hP hD hS hA (c_consider l G ru9 r2420 x2 bb sg fc sh r1 rc rh ffc bpersons bpapers bstamps bversions blines bsteps bsayings bfindings bwarnings bquestions td vd vl gp bversionsc kbversions fbversions bpersonsc kbpersons fbpersons bpapersc kbpapers fbpapers blinesc kblines fblines bstepsc kbsteps fbsteps (hkbversions) (hkbpersons) (hkbpapers) (hkblines) (hkbsteps)) si_X11_364 [1, 2, 4, 5, 6, 7, 8, 9, 10, 11, 12, 13, 14] [0, 3, 15, 16, 17, 18, 19, 20] sm_1_2_4_5_6_7_8_9_10_11_12_13_14 fm_1_2_4_5_6_7_8_9_10_11_12_13_14 nd_1_2_4_5_6_7_8_9_10_11_12_13_14 sm_0_3_15_16_17_18_19_20 nd_0_3_15_16_17_18_19_20 dj_1_2_4_5_6_7_8_9_10_11_12_13_14__0_3_15_16_17_18_19_20 rfl rfl rfl rfl rfl (Nat.le_of_ble_eq_true rfl) rm_7_4_5 ⟨Nat.le_of_ble_eq_true rfl, Nat.le_of_ble_eq_true rfl⟩ gX11_isBarred_1.2.1 (Ktu4 fun r112424 rc12425 rh12426 gfc2427 => ?_)
  intro H locs hr2422 hP hD hS
  try dsimp only at hr2422
  refine Kpdr (ws := [(h0, oX11 bb kk ikp sg do9 ru9 ta9 tp9 ro9 ho9 de9), (sh, iA G 8 fsh), (bfindings, oX8 12 4 bfindingsc (nI kbfindings)), (bfindingsc, iA G 48 fbfindings), (bsayings, oX8 16 8 bsayingsc (nI kbsayings)), (bsayingsc, iA G 128 fbsayings), (bwarnings, oX8 16 3 bwarningsc (nI kbwarnings)), (bwarningsc, iA G 48 fbwarnings), (ru9, oX6 bb sg fc sh r112424 rc12425 rh12426), (fc, iA G 5 gfc2427), (bb, oX0 bpersons bpapers bstamps bversions blines bsteps bsayings bfindings bwarnings bquestions td vd vl gp), (bversions, oX8 8 3 bversionsc (nI kbversions)), (bversionsc, iA G 24 fbversions), (bpersons, oX8 10 2 bpersonsc (nI kbpersons)), (bpersonsc, iA G 20 fbpersons), (bpapers, oX8 12 6 bpapersc (nI kbpapers)), (bpapersc, iA G 72 fbpapers), (blines, oX8 72 7 blinesc (nI kblines)), (blinesc, iA G 504 fblines), (bsteps, oX8 960 1 bstepsc (nI kbsteps)), (bstepsc, iA G 960 fbsteps)]) hP hD (fun hP hD => ?_)
  refine lv_aload_n hx hb gX11_isBarred_1.2.2.1 rfl (lv_at1 hl) ?_
  refine gf_X11_15 hC rfl hK hP 0 rfl rfl gX11_isBarred_1.2.2.2.1 ?_
  refine lv_iload hx hb gX11_isBarred_1.2.2.2.2.1 (lv_at0 hl) ?_
  refine lv_iload_n hx hb gX11_isBarred_1.2.2.2.2.2.1 rfl (lv_at3 hl) ?_
  refine pV hC hK hl hP hD (c_countSayingsBy l G bb r2420 x2 bpersons bpapers bstamps bversions blines bsteps bsayings bfindings bwarnings bquestions td vd vl gp bsayingsc kbsayings fbsayings (hkbsayings)) si_X11_138 [10, 4, 5] sm_10_4_5 fm_10_4_5 nd_10_4_5 rfl rfl rfl rfl rfl (Nat.le_of_ble_eq_true rfl) rm_7_4_5 ⟨by first | exact Nat.le_of_ble_eq_true rfl | exact Nat.zero_le _, by first | exact Nat.le_of_ble_eq_true rfl | exact Nat.zero_le _⟩ gX11_isBarred_1.2.2.2.2.2.2.1 (fun r2428 hr2428 => ?_)
  refine lv_aload_n hx hb gX11_isBarred_1.2.2.2.2.2.2.2.1 rfl (lv_at1 hl) ?_
  refine gf_X11_44 hC rfl hK hP 0 rfl rfl gX11_isBarred_1.2.2.2.2.2.2.2.2.1 ?_
  refine pV hC hK hl hP hD (c_leastHeard l G ru9 bb sg fc sh r112424 rc12425 rh12426 bpersons bpapers bstamps bversions blines bsteps bsayings bfindings bwarnings bquestions td vd vl gp blinesc kblines fblines (hkblines)) si_X11_367 [8, 10, 17, 18] sm_8_10_17_18 fm_8_10_17_18 nd_8_10_17_18 rfl rfl rfl rfl rfl (Nat.le_of_ble_eq_true rfl) rm_7_4_3 ⟨by first | exact Nat.le_of_ble_eq_true rfl | exact Nat.zero_le _, by first | exact Nat.le_of_ble_eq_true rfl | exact Nat.zero_le _⟩ gX11_isBarred_1.2.2.2.2.2.2.2.2.2 (fun r2429 hr2429 => ?_)
  refine lv_icmp_ge (tgt := 46) hx hb gX11_isBarred_2.1 (by decide) (fun c_41_2430 => ?_) (fun c_41_2430 => ?_)
  · refine lv_aload_n hx hb gX11_isBarred_2.2.2.2.1 rfl (lv_at1 hl) ?_
    refine gf_X11_15 hC rfl hK hP 0 rfl rfl gX11_isBarred_2.2.2.2.2.1 ?_
    refine pV hC hK hl hP hD (c_viewedDay l G bb bpersons bpapers bstamps bversions blines bsteps bsayings bfindings bwarnings bquestions td vd vl gp) si_X11_370 [10] sm_10 fm_10 nd_10 rfl rfl rfl rfl rfl (Nat.le_of_ble_eq_true rfl) rm_7_1_1 ⟨by first | exact Nat.le_of_ble_eq_true rfl | exact Nat.zero_le _, by first | exact Nat.le_of_ble_eq_true rfl | exact Nat.zero_le _⟩ gX11_isBarred_2.2.2.2.2.2.1 (fun r2431 hr2431 => ?_)
    rcases hr2431 with ⟨hE9, a2432⟩ | ⟨hE9, a2432⟩
    · refine eqi (x1 := td) hE9 ?_
      refine lv_aload_n hx hb gX11_isBarred_2.2.2.2.2.2.2.1 rfl (lv_at1 hl) ?_
      refine gf_X11_44 hC rfl hK hP 0 rfl rfl gX11_isBarred_2.2.2.2.2.2.2.2.1 ?_
      refine pV hC hK hl hP hD (c_warnDays l G ru9 bb sg fc sh r112424 rc12425 rh12426 bpersons bpapers bstamps bversions blines bsteps bsayings bfindings bwarnings bquestions td vd vl gp blinesc kblines fblines (hkblines)) si_X11_373 [8, 10, 17, 18] sm_8_10_17_18 fm_8_10_17_18 nd_8_10_17_18 rfl rfl rfl rfl rfl (Nat.le_of_ble_eq_true rfl) rm_7_4_3 ⟨by first | exact Nat.le_of_ble_eq_true rfl | exact Nat.zero_le _, by first | exact Nat.le_of_ble_eq_true rfl | exact Nat.zero_le _⟩ gX11_isBarred_2.2.2.2.2.2.2.2.2.1 (fun r2433 hr2433 => ?_)
      refine lv_isub hx hb gX11_isBarred_2.2.2.2.2.2.2.2.2.2 ?_
      refine lv_istore (lv' := [(5, .int (td - r2433)), (4, .int r2420), (0, .ref h0), (1, .int x1), (2, .int x2), (3, .int x3)]) hx hb gX11_isBarred_3.1 hl (by decide) rfl (fun ls hl => ?_)
      refine lv_iconst (v := 0) hx hb gX11_isBarred_3.2.1 (by decide) ?_
      refine lv_istore (lv' := [(6, .int 0), (5, .int (td - r2433)), (4, .int r2420), (0, .ref h0), (1, .int x1), (2, .int x2), (3, .int x3)]) hx hb gX11_isBarred_3.2.2.1 hl (by decide) rfl (fun ls hl => ?_)
      have keyP : ∀ (nP kP : Nat) (H : Heap) (locs : List Loc) (ls : Array Slot), kP + nP = kbpapers → va_PD G A [(h0, oX11 bb kk ikp sg do9 ru9 ta9 tp9 ro9 ho9 de9), (sh, iA G 8 fsh), (bfindings, oX8 12 4 bfindingsc (nI kbfindings)), (bfindingsc, iA G 48 fbfindings), (bsayings, oX8 16 8 bsayingsc (nI kbsayings)), (bsayingsc, iA G 128 fbsayings), (bwarnings, oX8 16 3 bwarningsc (nI kbwarnings)), (bwarningsc, iA G 48 fbwarnings), (ru9, oX6 bb sg fc sh r112424 rc12425 rh12426), (fc, iA G 5 gfc2427), (bb, oX0 bpersons bpapers bstamps bversions blines bsteps bsayings bfindings bwarnings bquestions td vd vl gp), (bversions, oX8 8 3 bversionsc (nI kbversions)), (bversionsc, iA G 24 fbversions), (bpersons, oX8 10 2 bpersonsc (nI kbpersons)), (bpersonsc, iA G 20 fbpersons), (bpapers, oX8 12 6 bpapersc (nI kbpapers)), (bpapersc, iA G 72 fbpapers), (blines, oX8 72 7 blinesc (nI kblines)), (blinesc, iA G 504 fblines), (bsteps, oX8 960 1 bstepsc (nI kbsteps)), (bstepsc, iA G 960 fbsteps)] H → va_S A s.heap H locs → lv_has ls 7 [(6, .int (nI kP)), (5, .int (td - r2433)), (4, .int r2420), (0, .ref h0), (1, .int x1), (2, .int x2), (3, .int x3)] → W p l e (RM 7 0 0) s m ([.ref h0, .int x1, .int x2, .int x3] : List Value).toArray below meth c H locs 0 0 Q0 (F0 m 66 ls []) := by
        intro nP
        induction nP with
        | zero =>
          intro kP H locs ls hkP hPD hS hl
          refine Kan2 hPD (fun hP hD => ?_)
          obtain rfl : kbpapers = kP := by omega
          have hl : lv_has ls 7 [(6, .int (nI kbpapers)), (5, .int (td - r2433)), (4, .int r2420), (0, .ref h0), (1, .int x1), (2, .int x2), (3, .int x3)] := hl
          refine lv_iload hx hb gX11_isBarred_3.2.2.2.1 (lv_at0 hl) ?_
          refine lv_aload_n hx hb gX11_isBarred_3.2.2.2.2.1 rfl (lv_at3 hl) ?_
          refine gf_X11_15 hC rfl hK hP 0 rfl rfl gX11_isBarred_3.2.2.2.2.2.1 ?_
          refine gf_X11_144 hC rfl hK hP 10 rfl rfl gX11_isBarred_3.2.2.2.2.2.2.1 ?_
          refine pV hC hK hl hP hD (c_T_count l G bpapers 12 6 bpapersc kbpapers) si_X11_174 [15] sm_15 fm_15 nd_15 rfl rfl rfl rfl rfl (Nat.le_of_ble_eq_true rfl) rm_7_1_1 ⟨by first | exact Nat.le_of_ble_eq_true rfl | exact Nat.zero_le _, by first | exact Nat.le_of_ble_eq_true rfl | exact Nat.zero_le _⟩ gX11_isBarred_3.2.2.2.2.2.2.2.1 (Keqr ?_)
          refine lv_icmp_ge (tgt := 114) hx hb gX11_isBarred_3.2.2.2.2.2.2.2.2.1 (by decide) (fun _ => ?_) (fun c9 => absurd (Int32.le_refl _) c9)
          refine lv_iconst (v := 0) hx hb gX11_isBarred_5.2.2.2.2.1 (by decide) ?_
          refine toQ hQ0 ?_
          exact RI (v := 0) hC hP hD hS [0, 8, 9, 1, 10, 11, 12, 13, 14, 15, 16, 17, 18, 19, 20, 2, 3, 4, 5, 6, 7] (r112424, rc12425, rh12426, gfc2427) rfl rfl (by decide) (Or.inr (rfl)) (by decide +kernel) gX11_isBarred_5.2.2.2.2.2
        | succ nP ihP =>
          intro kP H locs ls hkP hPD hS hl
          refine Kan2 hPD (fun hP hD => ?_)
          refine lv_iload hx hb gX11_isBarred_3.2.2.2.1 (lv_at0 hl) ?_
          refine lv_aload_n hx hb gX11_isBarred_3.2.2.2.2.1 rfl (lv_at3 hl) ?_
          refine gf_X11_15 hC rfl hK hP 0 rfl rfl gX11_isBarred_3.2.2.2.2.2.1 ?_
          refine gf_X11_144 hC rfl hK hP 10 rfl rfl gX11_isBarred_3.2.2.2.2.2.2.1 ?_
          refine pV hC hK hl hP hD (c_T_count l G bpapers 12 6 bpapersc kbpapers) si_X11_174 [15] sm_15 fm_15 nd_15 rfl rfl rfl rfl rfl (Nat.le_of_ble_eq_true rfl) rm_7_1_1 ⟨by first | exact Nat.le_of_ble_eq_true rfl | exact Nat.zero_le _, by first | exact Nat.le_of_ble_eq_true rfl | exact Nat.zero_le _⟩ gX11_isBarred_3.2.2.2.2.2.2.2.1 (Keqr ?_)
          refine lv_icmp_ge (tgt := 114) hx hb gX11_isBarred_3.2.2.2.2.2.2.2.2.1 (by decide) (fun c9 => absurd c9 (nI_ge (a := kP) (b := kbpapers) (by omega) (by omega))) (fun _ => ?_)
          refine lv_iload_n hx hb gX11_isBarred_3.2.2.2.2.2.2.2.2.2 rfl (lv_at6 hl) ?_
          refine lv_iload hx hb gX11_isBarred_4.1 (lv_at0 hl) ?_
          refine pS hC hK hl (c_hasBit l G x3 (nI kP)) si_X11_150 rfl rfl (Nat.le_of_ble_eq_true rfl) rm_7_1_2 ⟨by first | exact Nat.le_of_ble_eq_true rfl | exact Nat.zero_le _, by first | exact Nat.le_of_ble_eq_true rfl | exact Nat.zero_le _⟩ gX11_isBarred_4.2.1 (Kors (Keqa fun a2439 => ?_) (Keqa fun a2439 => ?_))
          · refine lv_if_eq (tgt := 108) hx hb gX11_isBarred_4.2.2.1 (by decide) (fun c9 => absurd c9 (by decide)) (fun _ => ?_)
            refine lv_aload_n hx hb gX11_isBarred_4.2.2.2.1 rfl (lv_at3 hl) ?_
            refine gf_X11_15 hC rfl hK hP 0 rfl rfl gX11_isBarred_4.2.2.2.2.1 ?_
            refine lv_iload hx hb gX11_isBarred_4.2.2.2.2.2.1 (lv_at2 hl) ?_
            refine lv_iload hx hb gX11_isBarred_4.2.2.2.2.2.2.1 (lv_at0 hl) ?_
            refine lv_iload hx hb gX11_isBarred_4.2.2.2.2.2.2.2.1 (lv_at1 hl) ?_
            refine pV hC hK hl hP hD (c_isWarned l G bb r2420 (nI kP) (td - r2433) bpersons bpapers bstamps bversions blines bsteps bsayings bfindings bwarnings bquestions td vd vl gp bwarningsc kbwarnings fbwarnings (hkbwarnings)) si_X11_376 [10, 6, 7] sm_10_6_7 fm_10_6_7 nd_10_6_7 rfl rfl rfl rfl rfl (Nat.le_of_ble_eq_true rfl) rm_7_3_5 ⟨by first | exact Nat.le_of_ble_eq_true rfl | exact Nat.zero_le _, by first | exact Nat.le_of_ble_eq_true rfl | exact Nat.zero_le _⟩ gX11_isBarred_4.2.2.2.2.2.2.2.2.1 (Kors (Keqr ?_) (Keqr ?_))
            · refine lv_if_ne (tgt := 108) hx hb gX11_isBarred_4.2.2.2.2.2.2.2.2.2 (by decide) (fun _ => ?_) (fun c9 => absurd c9 (by decide))
              refine lv_iinc (v := nI (kP + 1)) (lv' := [(6, .int (nI (kP + 1))), (5, .int (td - r2433)), (4, .int r2420), (0, .ref h0), (1, .int x1), (2, .int x2), (3, .int x3)]) hx hb gX11_isBarred_5.2.2.1 hl (k := 0) rfl (nI_1 _) (by decide) rfl (fun ls hl => ?_)
              refine lv_goto (tgt := 66) hx hb gX11_isBarred_5.2.2.2.1 (by decide) ?_
              exact ihP (kP + 1) _ _ _ (by omega) (And.intro hP hD) hS (lv_sub hl [0, 1, 2, 3, 4, 5, 6] rfl)
            · refine lv_if_ne (tgt := 108) hx hb gX11_isBarred_4.2.2.2.2.2.2.2.2.2 (by decide) (fun c9 => absurd (by decide) c9) (fun _ => ?_)
              refine lv_iconst (v := 1) hx hb gX11_isBarred_5.1 (by decide) ?_
              refine toQ hQ0 ?_
              exact RI (v := 1) hC hP hD hS [0, 8, 9, 1, 10, 11, 12, 13, 14, 15, 16, 17, 18, 19, 20, 2, 3, 4, 5, 6, 7] (r112424, rc12425, rh12426, gfc2427) rfl rfl (by decide) (Or.inl (rfl)) (by decide +kernel) gX11_isBarred_5.2.1
          · refine lv_if_eq (tgt := 108) hx hb gX11_isBarred_4.2.2.1 (by decide) (fun _ => ?_) (fun c9 => absurd (by decide) c9)
            refine lv_iinc (v := nI (kP + 1)) (lv' := [(6, .int (nI (kP + 1))), (5, .int (td - r2433)), (4, .int r2420), (0, .ref h0), (1, .int x1), (2, .int x2), (3, .int x3)]) hx hb gX11_isBarred_5.2.2.1 hl (k := 0) rfl (nI_1 _) (by decide) rfl (fun ls hl => ?_)
            refine lv_goto (tgt := 66) hx hb gX11_isBarred_5.2.2.2.1 (by decide) ?_
            exact ihP (kP + 1) _ _ _ (by omega) (And.intro hP hD) hS (lv_sub hl [0, 1, 2, 3, 4, 5, 6] rfl)
      exact keyP kbpapers 0 _ _ _ (by omega) (And.intro hP hD) hS (lv_sub hl [0, 1, 2, 3, 4, 5, 6] rfl)
    · refine eqi (x1 := vd) hE9 ?_
      refine lv_aload_n hx hb gX11_isBarred_2.2.2.2.2.2.2.1 rfl (lv_at1 hl) ?_
      refine gf_X11_44 hC rfl hK hP 0 rfl rfl gX11_isBarred_2.2.2.2.2.2.2.2.1 ?_
      refine pV hC hK hl hP hD (c_warnDays l G ru9 bb sg fc sh r112424 rc12425 rh12426 bpersons bpapers bstamps bversions blines bsteps bsayings bfindings bwarnings bquestions td vd vl gp blinesc kblines fblines (hkblines)) si_X11_373 [8, 10, 17, 18] sm_8_10_17_18 fm_8_10_17_18 nd_8_10_17_18 rfl rfl rfl rfl rfl (Nat.le_of_ble_eq_true rfl) rm_7_4_3 ⟨by first | exact Nat.le_of_ble_eq_true rfl | exact Nat.zero_le _, by first | exact Nat.le_of_ble_eq_true rfl | exact Nat.zero_le _⟩ gX11_isBarred_2.2.2.2.2.2.2.2.2.1 (fun r2442 hr2442 => ?_)
      refine lv_isub hx hb gX11_isBarred_2.2.2.2.2.2.2.2.2.2 ?_
      refine lv_istore (lv' := [(5, .int (vd - r2442)), (4, .int r2420), (0, .ref h0), (1, .int x1), (2, .int x2), (3, .int x3)]) hx hb gX11_isBarred_3.1 hl (by decide) rfl (fun ls hl => ?_)
      refine lv_iconst (v := 0) hx hb gX11_isBarred_3.2.1 (by decide) ?_
      refine lv_istore (lv' := [(6, .int 0), (5, .int (vd - r2442)), (4, .int r2420), (0, .ref h0), (1, .int x1), (2, .int x2), (3, .int x3)]) hx hb gX11_isBarred_3.2.2.1 hl (by decide) rfl (fun ls hl => ?_)
      have keyP : ∀ (nP kP : Nat) (H : Heap) (locs : List Loc) (ls : Array Slot), kP + nP = kbpapers → va_PD G A [(h0, oX11 bb kk ikp sg do9 ru9 ta9 tp9 ro9 ho9 de9), (sh, iA G 8 fsh), (bfindings, oX8 12 4 bfindingsc (nI kbfindings)), (bfindingsc, iA G 48 fbfindings), (bsayings, oX8 16 8 bsayingsc (nI kbsayings)), (bsayingsc, iA G 128 fbsayings), (bwarnings, oX8 16 3 bwarningsc (nI kbwarnings)), (bwarningsc, iA G 48 fbwarnings), (ru9, oX6 bb sg fc sh r112424 rc12425 rh12426), (fc, iA G 5 gfc2427), (bb, oX0 bpersons bpapers bstamps bversions blines bsteps bsayings bfindings bwarnings bquestions td vd vl gp), (bversions, oX8 8 3 bversionsc (nI kbversions)), (bversionsc, iA G 24 fbversions), (bpersons, oX8 10 2 bpersonsc (nI kbpersons)), (bpersonsc, iA G 20 fbpersons), (bpapers, oX8 12 6 bpapersc (nI kbpapers)), (bpapersc, iA G 72 fbpapers), (blines, oX8 72 7 blinesc (nI kblines)), (blinesc, iA G 504 fblines), (bsteps, oX8 960 1 bstepsc (nI kbsteps)), (bstepsc, iA G 960 fbsteps)] H → va_S A s.heap H locs → lv_has ls 7 [(6, .int (nI kP)), (5, .int (vd - r2442)), (4, .int r2420), (0, .ref h0), (1, .int x1), (2, .int x2), (3, .int x3)] → W p l e (RM 7 0 0) s m ([.ref h0, .int x1, .int x2, .int x3] : List Value).toArray below meth c H locs 0 0 Q0 (F0 m 66 ls []) := by
        intro nP
        induction nP with
        | zero =>
          intro kP H locs ls hkP hPD hS hl
          refine Kan2 hPD (fun hP hD => ?_)
          obtain rfl : kbpapers = kP := by omega
          have hl : lv_has ls 7 [(6, .int (nI kbpapers)), (5, .int (vd - r2442)), (4, .int r2420), (0, .ref h0), (1, .int x1), (2, .int x2), (3, .int x3)] := hl
          refine lv_iload hx hb gX11_isBarred_3.2.2.2.1 (lv_at0 hl) ?_
          refine lv_aload_n hx hb gX11_isBarred_3.2.2.2.2.1 rfl (lv_at3 hl) ?_
          refine gf_X11_15 hC rfl hK hP 0 rfl rfl gX11_isBarred_3.2.2.2.2.2.1 ?_
          refine gf_X11_144 hC rfl hK hP 10 rfl rfl gX11_isBarred_3.2.2.2.2.2.2.1 ?_
          refine pV hC hK hl hP hD (c_T_count l G bpapers 12 6 bpapersc kbpapers) si_X11_174 [15] sm_15 fm_15 nd_15 rfl rfl rfl rfl rfl (Nat.le_of_ble_eq_true rfl) rm_7_1_1 ⟨by first | exact Nat.le_of_ble_eq_true rfl | exact Nat.zero_le _, by first | exact Nat.le_of_ble_eq_true rfl | exact Nat.zero_le _⟩ gX11_isBarred_3.2.2.2.2.2.2.2.1 (Keqr ?_)
          refine lv_icmp_ge (tgt := 114) hx hb gX11_isBarred_3.2.2.2.2.2.2.2.2.1 (by decide) (fun _ => ?_) (fun c9 => absurd (Int32.le_refl _) c9)
          refine lv_iconst (v := 0) hx hb gX11_isBarred_5.2.2.2.2.1 (by decide) ?_
          refine toQ hQ0 ?_
          exact RI (v := 0) hC hP hD hS [0, 8, 9, 1, 10, 11, 12, 13, 14, 15, 16, 17, 18, 19, 20, 2, 3, 4, 5, 6, 7] (r112424, rc12425, rh12426, gfc2427) rfl rfl (by decide) (Or.inr (rfl)) (by decide +kernel) gX11_isBarred_5.2.2.2.2.2
        | succ nP ihP =>
          intro kP H locs ls hkP hPD hS hl
          refine Kan2 hPD (fun hP hD => ?_)
          refine lv_iload hx hb gX11_isBarred_3.2.2.2.1 (lv_at0 hl) ?_
          refine lv_aload_n hx hb gX11_isBarred_3.2.2.2.2.1 rfl (lv_at3 hl) ?_
          refine gf_X11_15 hC rfl hK hP 0 rfl rfl gX11_isBarred_3.2.2.2.2.2.1 ?_
          refine gf_X11_144 hC rfl hK hP 10 rfl rfl gX11_isBarred_3.2.2.2.2.2.2.1 ?_
          refine pV hC hK hl hP hD (c_T_count l G bpapers 12 6 bpapersc kbpapers) si_X11_174 [15] sm_15 fm_15 nd_15 rfl rfl rfl rfl rfl (Nat.le_of_ble_eq_true rfl) rm_7_1_1 ⟨by first | exact Nat.le_of_ble_eq_true rfl | exact Nat.zero_le _, by first | exact Nat.le_of_ble_eq_true rfl | exact Nat.zero_le _⟩ gX11_isBarred_3.2.2.2.2.2.2.2.1 (Keqr ?_)
          refine lv_icmp_ge (tgt := 114) hx hb gX11_isBarred_3.2.2.2.2.2.2.2.2.1 (by decide) (fun c9 => absurd c9 (nI_ge (a := kP) (b := kbpapers) (by omega) (by omega))) (fun _ => ?_)
          refine lv_iload_n hx hb gX11_isBarred_3.2.2.2.2.2.2.2.2.2 rfl (lv_at6 hl) ?_
          refine lv_iload hx hb gX11_isBarred_4.1 (lv_at0 hl) ?_
          refine pS hC hK hl (c_hasBit l G x3 (nI kP)) si_X11_150 rfl rfl (Nat.le_of_ble_eq_true rfl) rm_7_1_2 ⟨by first | exact Nat.le_of_ble_eq_true rfl | exact Nat.zero_le _, by first | exact Nat.le_of_ble_eq_true rfl | exact Nat.zero_le _⟩ gX11_isBarred_4.2.1 (Kors (Keqa fun a2448 => ?_) (Keqa fun a2448 => ?_))
          · refine lv_if_eq (tgt := 108) hx hb gX11_isBarred_4.2.2.1 (by decide) (fun c9 => absurd c9 (by decide)) (fun _ => ?_)
            refine lv_aload_n hx hb gX11_isBarred_4.2.2.2.1 rfl (lv_at3 hl) ?_
            refine gf_X11_15 hC rfl hK hP 0 rfl rfl gX11_isBarred_4.2.2.2.2.1 ?_
            refine lv_iload hx hb gX11_isBarred_4.2.2.2.2.2.1 (lv_at2 hl) ?_
            refine lv_iload hx hb gX11_isBarred_4.2.2.2.2.2.2.1 (lv_at0 hl) ?_
            refine lv_iload hx hb gX11_isBarred_4.2.2.2.2.2.2.2.1 (lv_at1 hl) ?_
            refine pV hC hK hl hP hD (c_isWarned l G bb r2420 (nI kP) (vd - r2442) bpersons bpapers bstamps bversions blines bsteps bsayings bfindings bwarnings bquestions td vd vl gp bwarningsc kbwarnings fbwarnings (hkbwarnings)) si_X11_376 [10, 6, 7] sm_10_6_7 fm_10_6_7 nd_10_6_7 rfl rfl rfl rfl rfl (Nat.le_of_ble_eq_true rfl) rm_7_3_5 ⟨by first | exact Nat.le_of_ble_eq_true rfl | exact Nat.zero_le _, by first | exact Nat.le_of_ble_eq_true rfl | exact Nat.zero_le _⟩ gX11_isBarred_4.2.2.2.2.2.2.2.2.1 (Kors (Keqr ?_) (Keqr ?_))
            · refine lv_if_ne (tgt := 108) hx hb gX11_isBarred_4.2.2.2.2.2.2.2.2.2 (by decide) (fun _ => ?_) (fun c9 => absurd c9 (by decide))
              refine lv_iinc (v := nI (kP + 1)) (lv' := [(6, .int (nI (kP + 1))), (5, .int (vd - r2442)), (4, .int r2420), (0, .ref h0), (1, .int x1), (2, .int x2), (3, .int x3)]) hx hb gX11_isBarred_5.2.2.1 hl (k := 0) rfl (nI_1 _) (by decide) rfl (fun ls hl => ?_)
              refine lv_goto (tgt := 66) hx hb gX11_isBarred_5.2.2.2.1 (by decide) ?_
              exact ihP (kP + 1) _ _ _ (by omega) (And.intro hP hD) hS (lv_sub hl [0, 1, 2, 3, 4, 5, 6] rfl)
            · refine lv_if_ne (tgt := 108) hx hb gX11_isBarred_4.2.2.2.2.2.2.2.2.2 (by decide) (fun c9 => absurd (by decide) c9) (fun _ => ?_)
              refine lv_iconst (v := 1) hx hb gX11_isBarred_5.1 (by decide) ?_
              refine toQ hQ0 ?_
              exact RI (v := 1) hC hP hD hS [0, 8, 9, 1, 10, 11, 12, 13, 14, 15, 16, 17, 18, 19, 20, 2, 3, 4, 5, 6, 7] (r112424, rc12425, rh12426, gfc2427) rfl rfl (by decide) (Or.inl (rfl)) (by decide +kernel) gX11_isBarred_5.2.1
          · refine lv_if_eq (tgt := 108) hx hb gX11_isBarred_4.2.2.1 (by decide) (fun _ => ?_) (fun c9 => absurd (by decide) c9)
            refine lv_iinc (v := nI (kP + 1)) (lv' := [(6, .int (nI (kP + 1))), (5, .int (vd - r2442)), (4, .int r2420), (0, .ref h0), (1, .int x1), (2, .int x2), (3, .int x3)]) hx hb gX11_isBarred_5.2.2.1 hl (k := 0) rfl (nI_1 _) (by decide) rfl (fun ls hl => ?_)
            refine lv_goto (tgt := 66) hx hb gX11_isBarred_5.2.2.2.1 (by decide) ?_
            exact ihP (kP + 1) _ _ _ (by omega) (And.intro hP hD) hS (lv_sub hl [0, 1, 2, 3, 4, 5, 6] rfl)
      exact keyP kbpapers 0 _ _ _ (by omega) (And.intro hP hD) hS (lv_sub hl [0, 1, 2, 3, 4, 5, 6] rfl)
  · refine lv_iconst (v := 1) hx hb gX11_isBarred_2.2.1 (by decide) ?_
    refine toQ hQ0 ?_
    exact RI (v := 1) hC hP hD hS [0, 8, 9, 1, 10, 11, 12, 13, 14, 15, 16, 17, 18, 19, 20, 2, 3, 4, 5, 6, 7] (r112424, rc12425, rh12426, gfc2427) rfl rfl (by decide) (Or.inl (rfl)) (by decide +kernel) gX11_isBarred_2.2.2.1
def K_p_findingOf (l : Launch) (G : GG) (h0 : Nat) (x1 : Int32) (x2 : Int32) (bb : Nat) (kk : Nat) (ikp : Int32) (sg : Nat) (do9 : Nat) (ru9 : Nat) (ta9 : Nat) (tp9 : Nat) (ro9 : Nat) (ho9 : Nat) (de9 : Nat) (clk : Nat) (fi : Nat) (la : Nat) (ml : Nat) (mm : Nat) (sl : Nat) (sm : Nat) (cl : Int32) (clm : Nat) (fclm : Nat → Int32) (ffi : Nat → Int32) (fla : Nat → Int32) (fml : Nat → Int32) (fmm : Nat → Int32) (fsl : Nat → Int32) (fsm : Nat → Int32) (fc : Nat) (sh : Nat) (r1 : Int32) (rc : Int32) (rh : Int32) (ffc : Nat → Int32) (fsh : Nat → Int32) (bpersons : Nat) (bpapers : Nat) (bstamps : Nat) (bversions : Nat) (blines : Nat) (bsteps : Nat) (bsayings : Nat) (bfindings : Nat) (bwarnings : Nat) (bquestions : Nat) (td : Int32) (vd : Int32) (vl : Int32) (gp : Int32) (bversionsc : Nat) (kbversions : Nat) (fbversions : Nat → Int32) (bpersonsc : Nat) (kbpersons : Nat) (fbpersons : Nat → Int32) (bpapersc : Nat) (kbpapers : Nat) (fbpapers : Nat → Int32) (blinesc : Nat) (kblines : Nat) (fblines : Nat → Int32) (bstepsc : Nat) (kbsteps : Nat) (fbsteps : Nat → Int32) (bstampsc : Nat) (kbstamps : Nat) (fbstamps : Nat → Int32) (bfindingsc : Nat) (kbfindings : Nat) (fbfindings : Nat → Int32) (bsayingsc : Nat) (kbsayings : Nat) (fbsayings : Nat → Int32) (bwarningsc : Nat) (kbwarnings : Nat) (fbwarnings : Nat → Int32) : Prop := MI l G yX11_findingOf cX11_findingOf 4 (some .int) 9 0 0 [.ref h0, .int x1, .int x2] [(h0, oX11 bb kk ikp sg do9 ru9 ta9 tp9 ro9 ho9 de9), (sg, oX7 bb clk fi la ml mm sl sm cl), (clk, oX1 clm), (clm, iA G 36 fclm), (fi, iA G 12 ffi), (la, iA G 12 fla), (ml, iA G 12 fml), (mm, iA G 12 fmm), (sl, iA G 12 fsl), (sm, iA G 12 fsm), (ru9, oX6 bb sg fc sh r1 rc rh), (fc, iA G 5 ffc), (sh, iA G 8 fsh), (bb, oX0 bpersons bpapers bstamps bversions blines bsteps bsayings bfindings bwarnings bquestions td vd vl gp), (bversions, oX8 8 3 bversionsc (nI kbversions)), (bversionsc, iA G 24 fbversions), (bpersons, oX8 10 2 bpersonsc (nI kbpersons)), (bpersonsc, iA G 20 fbpersons), (bpapers, oX8 12 6 bpapersc (nI kbpapers)), (bpapersc, iA G 72 fbpapers), (blines, oX8 72 7 blinesc (nI kblines)), (blinesc, iA G 504 fblines), (bsteps, oX8 960 1 bstepsc (nI kbsteps)), (bstepsc, iA G 960 fbsteps), (bstamps, oX8 24 3 bstampsc (nI kbstamps)), (bstampsc, iA G 72 fbstamps), (bfindings, oX8 12 4 bfindingsc (nI kbfindings)), (bfindingsc, iA G 48 fbfindings), (bsayings, oX8 16 8 bsayingsc (nI kbsayings)), (bsayingsc, iA G 128 fbsayings), (bwarnings, oX8 16 3 bwarningsc (nI kbwarnings)), (bwarningsc, iA G 48 fbwarnings)] (fun (r : Int32) (u : Int32 × (Nat → Int32) × (Nat → Int32) × (Nat → Int32) × (Nat → Int32) × (Nat → Int32) × (Nat → Int32) × (Nat → Int32) × Int32 × Int32 × Int32 × (Nat → Int32) × (Nat → Int32)) => (True) ∧ (u.1 = 0 ∨ u.1 = 1)) (fun u : Int32 × (Nat → Int32) × (Nat → Int32) × (Nat → Int32) × (Nat → Int32) × (Nat → Int32) × (Nat → Int32) × (Nat → Int32) × Int32 × Int32 × Int32 × (Nat → Int32) × (Nat → Int32) => [(h0, oX11 bb kk ikp sg do9 ru9 ta9 tp9 ro9 ho9 de9), (sg, oX7 bb clk fi la ml mm sl sm u.1), (clk, oX1 clm), (clm, iA G 36 u.2.1), (fi, iA G 12 u.2.2.1), (la, iA G 12 u.2.2.2.1), (ml, iA G 12 u.2.2.2.2.1), (mm, iA G 12 u.2.2.2.2.2.1), (sl, iA G 12 u.2.2.2.2.2.2.1), (sm, iA G 12 u.2.2.2.2.2.2.2.1), (ru9, oX6 bb sg fc sh u.2.2.2.2.2.2.2.2.1 u.2.2.2.2.2.2.2.2.2.1 u.2.2.2.2.2.2.2.2.2.2.1), (fc, iA G 5 u.2.2.2.2.2.2.2.2.2.2.2.1), (sh, iA G 8 u.2.2.2.2.2.2.2.2.2.2.2.2), (bb, oX0 bpersons bpapers bstamps bversions blines bsteps bsayings bfindings bwarnings bquestions td vd vl gp), (bversions, oX8 8 3 bversionsc (nI kbversions)), (bversionsc, iA G 24 fbversions), (bpersons, oX8 10 2 bpersonsc (nI kbpersons)), (bpersonsc, iA G 20 fbpersons), (bpapers, oX8 12 6 bpapersc (nI kbpapers)), (bpapersc, iA G 72 fbpapers), (blines, oX8 72 7 blinesc (nI kblines)), (blinesc, iA G 504 fblines), (bsteps, oX8 960 1 bstepsc (nI kbsteps)), (bstepsc, iA G 960 fbsteps), (bstamps, oX8 24 3 bstampsc (nI kbstamps)), (bstampsc, iA G 72 fbstamps), (bfindings, oX8 12 4 bfindingsc (nI kbfindings)), (bfindingsc, iA G 48 fbfindings), (bsayings, oX8 16 8 bsayingsc (nI kbsayings)), (bsayingsc, iA G 128 fbsayings), (bwarnings, oX8 16 3 bwarningsc (nI kbwarnings)), (bwarningsc, iA G 48 fbwarnings)])
set_option maxHeartbeats 4000000 in
set_option maxRecDepth 100000 in
theorem p_findingOf (l : Launch) (G : GG) (h0 : Nat) (x1 : Int32) (x2 : Int32) (bb : Nat) (kk : Nat) (ikp : Int32) (sg : Nat) (do9 : Nat) (ru9 : Nat) (ta9 : Nat) (tp9 : Nat) (ro9 : Nat) (ho9 : Nat) (de9 : Nat) (clk : Nat) (fi : Nat) (la : Nat) (ml : Nat) (mm : Nat) (sl : Nat) (sm : Nat) (cl : Int32) (clm : Nat) (fclm : Nat → Int32) (ffi : Nat → Int32) (fla : Nat → Int32) (fml : Nat → Int32) (fmm : Nat → Int32) (fsl : Nat → Int32) (fsm : Nat → Int32) (fc : Nat) (sh : Nat) (r1 : Int32) (rc : Int32) (rh : Int32) (ffc : Nat → Int32) (fsh : Nat → Int32) (bpersons : Nat) (bpapers : Nat) (bstamps : Nat) (bversions : Nat) (blines : Nat) (bsteps : Nat) (bsayings : Nat) (bfindings : Nat) (bwarnings : Nat) (bquestions : Nat) (td : Int32) (vd : Int32) (vl : Int32) (gp : Int32) (bversionsc : Nat) (kbversions : Nat) (fbversions : Nat → Int32) (bpersonsc : Nat) (kbpersons : Nat) (fbpersons : Nat → Int32) (bpapersc : Nat) (kbpapers : Nat) (fbpapers : Nat → Int32) (blinesc : Nat) (kblines : Nat) (fblines : Nat → Int32) (bstepsc : Nat) (kbsteps : Nat) (fbsteps : Nat → Int32) (bstampsc : Nat) (kbstamps : Nat) (fbstamps : Nat → Int32) (bfindingsc : Nat) (kbfindings : Nat) (fbfindings : Nat → Int32) (bsayingsc : Nat) (kbsayings : Nat) (fbsayings : Nat → Int32) (bwarningsc : Nat) (kbwarnings : Nat) (fbwarnings : Nat → Int32) (hkbversions : kbversions ≤ 8) (hkbpersons : kbpersons ≤ 10) (hkbpapers : kbpapers ≤ 12) (hkblines : kblines ≤ 72) (hkbsteps : kbsteps ≤ 960) (hkbstamps : kbstamps ≤ 24) (hkbfindings : kbfindings ≤ 12) (hkbsayings : kbsayings ≤ 16) (hkbwarnings : kbwarnings ≤ 16) (hcl : cl = 0 ∨ cl = 1) : K_p_findingOf l G h0 x1 x2 bb kk ikp sg do9 ru9 ta9 tp9 ro9 ho9 de9 clk fi la ml mm sl sm cl clm fclm ffi fla fml fmm fsl fsm fc sh r1 rc rh ffc fsh bpersons bpapers bstamps bversions blines bsteps bsayings bfindings bwarnings bquestions td vd vl gp bversionsc kbversions fbversions bpersonsc kbpersons fbpersons bpapersc kbpapers fbpapers blinesc kblines fblines bstepsc kbsteps fbsteps bstampsc kbstamps fbstamps bfindingsc kbfindings fbfindings bsayingsc kbsayings fbsayings bwarningsc kbwarnings fbwarnings := by
  refine MI.start (by decide +kernel) (Nat.le_of_ble_eq_true rfl) ?_
  intro p e s m below meth c A ls hC hK hP hD hS hA hl
  refine absQ (fun Q0 hQ0 => ?_)
  have hl : lv_has ls 4 [(0, .ref h0), (1, .int x1), (2, .int x2)] := hl
  refine Kan8 hC (fun hx hb hr hml hB hown hlocks hnm => ?_)
  refine lv_aload_n hx hb gX11_findingOf_0.1 rfl (lv_at0 hl) ?_
  refine gf_X11_15 hC rfl hK hP 0 rfl rfl gX11_findingOf_0.2.1 ?_
  refine gf_X11_271 hC rfl hK hP 13 rfl rfl gX11_findingOf_0.2.2.1 ?_
  refine lv_iload_n hx hb gX11_findingOf_0.2.2.2.1 rfl (lv_at1 hl) ?_
  refine pV hC hK hl hP hD (c_T_has l G bfindings x1 12 4 bfindingsc kbfindings) si_X11_124 [26] sm_26 fm_26 nd_26 rfl rfl rfl rfl rfl (Nat.le_of_ble_eq_true rfl) rm_9_1_2 ⟨by first | exact Nat.le_of_ble_eq_true rfl | exact Nat.zero_le _, by first | exact Nat.le_of_ble_eq_true rfl | exact Nat.zero_le _⟩ gX11_findingOf_0.2.2.2.2.1 (Kors (Keqa fun a2452 => ?_) (Keqa fun a2452 => ?_))
  · refine lv_if_ne (tgt := 16) hx hb gX11_findingOf_0.2.2.2.2.2.1 (by decide) (fun _ => ?_) (fun c9 => absurd c9 (by decide))
    refine lv_aload_n hx hb gX11_findingOf_0.2.2.2.2.2.2.2.2.1 rfl (lv_at0 hl) ?_
    refine gf_X11_15 hC rfl hK hP 0 rfl rfl gX11_findingOf_0.2.2.2.2.2.2.2.2.2 ?_
    refine pV hC hK hl hP hD (c_inView l G bb bpersons bpapers bstamps bversions blines bsteps bsayings bfindings bwarnings bquestions td vd vl gp bpapersc kbpapers fbpapers (hkbpapers)) si_X11_97 [13, 18, 19] sm_13_18_19 fm_13_18_19 nd_13_18_19 rfl rfl rfl rfl rfl (Nat.le_of_ble_eq_true rfl) rm_9_3_6 ⟨by first | exact Nat.le_of_ble_eq_true rfl | exact Nat.zero_le _, by first | exact Nat.le_of_ble_eq_true rfl | exact Nat.zero_le _⟩ gX11_findingOf_1.1 (fun r2453 hr2453 => ?_)
    refine lv_istore_n (lv' := [(3, .int r2453), (0, .ref h0), (1, .int x1), (2, .int x2)]) hx hb gX11_findingOf_1.2.1 rfl hl (by decide) rfl (fun ls hl => ?_)
    refine lv_iload_n hx hb gX11_findingOf_1.2.2.1 rfl (lv_at3 hl) ?_
    by_cases c_25_2454 : x2 = 0
    · refine lv_tableIn (tgt := 68) hx hb gX11_findingOf_1.2.2.2.1 (by rw [c_25_2454]; decide) (by rw [c_25_2454]; decide) (by rw [c_25_2454]; rfl) (by decide) ?_
      refine lv_aload_n hx hb gX11_findingOf_1.2.2.2.2.1 rfl (lv_at1 hl) ?_
      refine gf_X11_15 hC rfl hK hP 0 rfl rfl gX11_findingOf_1.2.2.2.2.2.1 ?_
      refine gf_X11_271 hC rfl hK hP 13 rfl rfl gX11_findingOf_1.2.2.2.2.2.2.1 ?_
      refine lv_iload_n hx hb gX11_findingOf_1.2.2.2.2.2.2.2.1 rfl (lv_at2 hl) ?_
      refine lv_iconst (v := 0) hx hb gX11_findingOf_1.2.2.2.2.2.2.2.2.1 (by decide) ?_
      refine pV hC hK hl hP hD (c_T_at l G bfindings x1 0 12 4 bfindingsc kbfindings fbfindings (hkbfindings) (by omega) (by omega)) si_X11_128 [26, 27] sm_26_27 fm_26_27 nd_26_27 rfl rfl rfl rfl rfl (Nat.le_of_ble_eq_true rfl) rm_9_1_3 ⟨by first | exact Nat.le_of_ble_eq_true rfl | exact Nat.zero_le _, by first | exact Nat.le_of_ble_eq_true rfl | exact Nat.zero_le _⟩ gX11_findingOf_1.2.2.2.2.2.2.2.2.2 (fun r2455 hr2455 => ?_)
      refine toQ hQ0 ?_
      exact RI (v := r2455) hC hP hD hS [0, 1, 2, 3, 4, 5, 6, 7, 8, 9, 10, 11, 12, 13, 14, 15, 16, 17, 18, 19, 20, 21, 22, 23, 24, 25, 26, 27, 28, 29, 30, 31] (cl, fclm, ffi, fla, fml, fmm, fsl, fsm, r1, rc, rh, ffc, fsh) rfl rfl (by decide) (⟨trivial, hcl⟩) rfl gX11_findingOf_2.1
    by_cases c_25_2457 : x2 = 1
    · refine lv_tableIn (tgt := 81) hx hb gX11_findingOf_1.2.2.2.1 (by rw [c_25_2457]; decide) (by rw [c_25_2457]; decide) (by rw [c_25_2457]; rfl) (by decide) ?_
      refine lv_aload_n hx hb gX11_findingOf_2.2.1 rfl (lv_at1 hl) ?_
      refine gf_X11_15 hC rfl hK hP 0 rfl rfl gX11_findingOf_2.2.2.1 ?_
      refine gf_X11_271 hC rfl hK hP 13 rfl rfl gX11_findingOf_2.2.2.2.1 ?_
      refine lv_iload_n hx hb gX11_findingOf_2.2.2.2.2.1 rfl (lv_at2 hl) ?_
      refine lv_iconst (v := 1) hx hb gX11_findingOf_2.2.2.2.2.2.1 (by decide) ?_
      refine pV hC hK hl hP hD (c_T_at l G bfindings x1 1 12 4 bfindingsc kbfindings fbfindings (hkbfindings) (by omega) (by omega)) si_X11_128 [26, 27] sm_26_27 fm_26_27 nd_26_27 rfl rfl rfl rfl rfl (Nat.le_of_ble_eq_true rfl) rm_9_1_3 ⟨by first | exact Nat.le_of_ble_eq_true rfl | exact Nat.zero_le _, by first | exact Nat.le_of_ble_eq_true rfl | exact Nat.zero_le _⟩ gX11_findingOf_2.2.2.2.2.2.2.1 (fun r2458 hr2458 => ?_)
      refine toQ hQ0 ?_
      exact RI (v := r2458) hC hP hD hS [0, 1, 2, 3, 4, 5, 6, 7, 8, 9, 10, 11, 12, 13, 14, 15, 16, 17, 18, 19, 20, 21, 22, 23, 24, 25, 26, 27, 28, 29, 30, 31] (cl, fclm, ffi, fla, fml, fmm, fsl, fsm, r1, rc, rh, ffc, fsh) rfl rfl (by decide) (⟨trivial, hcl⟩) rfl gX11_findingOf_2.2.2.2.2.2.2.2.1
    by_cases c_25_2460 : x2 = 2
    · refine lv_tableIn (tgt := 94) hx hb gX11_findingOf_1.2.2.2.1 (by rw [c_25_2460]; decide) (by rw [c_25_2460]; decide) (by rw [c_25_2460]; rfl) (by decide) ?_
      refine lv_aload_n hx hb gX11_findingOf_2.2.2.2.2.2.2.2.2.1 rfl (lv_at1 hl) ?_
      refine gf_X11_15 hC rfl hK hP 0 rfl rfl gX11_findingOf_2.2.2.2.2.2.2.2.2.2 ?_
      refine gf_X11_271 hC rfl hK hP 13 rfl rfl gX11_findingOf_3.1 ?_
      refine lv_iload_n hx hb gX11_findingOf_3.2.1 rfl (lv_at2 hl) ?_
      refine lv_iconst (v := 2) hx hb gX11_findingOf_3.2.2.1 (by decide) ?_
      refine pV hC hK hl hP hD (c_T_at l G bfindings x1 2 12 4 bfindingsc kbfindings fbfindings (hkbfindings) (by omega) (by omega)) si_X11_128 [26, 27] sm_26_27 fm_26_27 nd_26_27 rfl rfl rfl rfl rfl (Nat.le_of_ble_eq_true rfl) rm_9_1_3 ⟨by first | exact Nat.le_of_ble_eq_true rfl | exact Nat.zero_le _, by first | exact Nat.le_of_ble_eq_true rfl | exact Nat.zero_le _⟩ gX11_findingOf_3.2.2.2.1 (fun r2461 hr2461 => ?_)
      refine toQ hQ0 ?_
      exact RI (v := r2461) hC hP hD hS [0, 1, 2, 3, 4, 5, 6, 7, 8, 9, 10, 11, 12, 13, 14, 15, 16, 17, 18, 19, 20, 21, 22, 23, 24, 25, 26, 27, 28, 29, 30, 31] (cl, fclm, ffi, fla, fml, fmm, fsl, fsm, r1, rc, rh, ffc, fsh) rfl rfl (by decide) (⟨trivial, hcl⟩) rfl gX11_findingOf_3.2.2.2.2.1
    by_cases c_25_2463 : x2 = 3
    · refine lv_tableIn (tgt := 107) hx hb gX11_findingOf_1.2.2.2.1 (by rw [c_25_2463]; decide) (by rw [c_25_2463]; decide) (by rw [c_25_2463]; rfl) (by decide) ?_
      refine lv_aload_n hx hb gX11_findingOf_3.2.2.2.2.2.1 rfl (lv_at1 hl) ?_
      refine gf_X11_15 hC rfl hK hP 0 rfl rfl gX11_findingOf_3.2.2.2.2.2.2.1 ?_
      refine gf_X11_271 hC rfl hK hP 13 rfl rfl gX11_findingOf_3.2.2.2.2.2.2.2.1 ?_
      refine lv_iload_n hx hb gX11_findingOf_3.2.2.2.2.2.2.2.2.1 rfl (lv_at2 hl) ?_
      refine lv_iconst (v := 3) hx hb gX11_findingOf_3.2.2.2.2.2.2.2.2.2 (by decide) ?_
      refine pV hC hK hl hP hD (c_T_at l G bfindings x1 3 12 4 bfindingsc kbfindings fbfindings (hkbfindings) (by omega) (by omega)) si_X11_128 [26, 27] sm_26_27 fm_26_27 nd_26_27 rfl rfl rfl rfl rfl (Nat.le_of_ble_eq_true rfl) rm_9_1_3 ⟨by first | exact Nat.le_of_ble_eq_true rfl | exact Nat.zero_le _, by first | exact Nat.le_of_ble_eq_true rfl | exact Nat.zero_le _⟩ gX11_findingOf_4.1 (fun r2464 hr2464 => ?_)
      refine toQ hQ0 ?_
      exact RI (v := r2464) hC hP hD hS [0, 1, 2, 3, 4, 5, 6, 7, 8, 9, 10, 11, 12, 13, 14, 15, 16, 17, 18, 19, 20, 21, 22, 23, 24, 25, 26, 27, 28, 29, 30, 31] (cl, fclm, ffi, fla, fml, fmm, fsl, fsm, r1, rc, rh, ffc, fsh) rfl rfl (by decide) (⟨trivial, hcl⟩) rfl gX11_findingOf_4.2.1
    by_cases c_25_2466 : x2 = 4
    · refine lv_tableIn (tgt := 120) hx hb gX11_findingOf_1.2.2.2.1 (by rw [c_25_2466]; decide) (by rw [c_25_2466]; decide) (by rw [c_25_2466]; rfl) (by decide) ?_
      refine lv_aload_n hx hb gX11_findingOf_4.2.2.1 rfl (lv_at1 hl) ?_
      refine lv_iload_n hx hb gX11_findingOf_4.2.2.2.1 rfl (lv_at2 hl) ?_
      refine lv_iload_n hx hb gX11_findingOf_4.2.2.2.2.1 rfl (lv_at0 hl) ?_
      refine iV (wr := [(bsayings, oX8 16 8 bsayingsc (nI kbsayings)), (bsayingsc, iA G 128 fbsayings), (bwarnings, oX8 16 3 bwarningsc (nI kbwarnings)), (bwarningsc, iA G 48 fbwarnings)]) hC hK hl hP hD hS hA (c_stands l G h0 x1 r2453 bb kk ikp sg do9 ru9 ta9 tp9 ro9 ho9 de9 clk fi la ml mm sl sm cl clm fclm ffi fla fml fmm fsl fsm fc sh r1 rc rh ffc fsh bpersons bpapers bstamps bversions blines bsteps bsayings bfindings bwarnings bquestions td vd vl gp bversionsc kbversions fbversions bpersonsc kbpersons fbpersons bpapersc kbpapers fbpapers blinesc kblines fblines bstepsc kbsteps fbsteps bstampsc kbstamps fbstamps bfindingsc kbfindings fbfindings (hkbversions) (hkbpersons) (hkbpapers) (hkblines) (hkbsteps) (hkbstamps) (hkbfindings)) si_X11_274 [0, 1, 2, 3, 4, 5, 6, 7, 8, 9, 10, 11, 12, 13, 14, 15, 16, 17, 18, 19, 20, 21, 22, 23, 24, 25, 26, 27] [28, 29, 30, 31] sm_0_1_2_3_4_5_6_7_8_9_10_11_12_13_14_15_16_17_18_19_20_21_22_23_24_25_26_27 fm_0_1_2_3_4_5_6_7_8_9_10_11_12_13_14_15_16_17_18_19_20_21_22_23_24_25_26_27 nd_0_1_2_3_4_5_6_7_8_9_10_11_12_13_14_15_16_17_18_19_20_21_22_23_24_25_26_27 sm_28_29_30_31 nd_28_29_30_31 dj_0_1_2_3_4_5_6_7_8_9_10_11_12_13_14_15_16_17_18_19_20_21_22_23_24_25_26_27__28_29_30_31 rfl rfl rfl rfl rfl (Nat.le_of_ble_eq_true rfl) rm_9_7_6 ⟨Nat.le_of_ble_eq_true rfl, Nat.le_of_ble_eq_true rfl⟩ gX11_findingOf_4.2.2.2.2.2.1 (fun r2467 => Ktu13 fun cl12469 gclm2470 gfi2471 gla2472 gml2473 gmm2474 gsl2475 gsm2476 r112477 rc12478 rh12479 gfc2480 gsh2481 => ?_)
      intro H locs hr2467 hP hD hS
      try dsimp only at hr2467
      refine Kpdr (ws := [(bsayings, oX8 16 8 bsayingsc (nI kbsayings)), (bsayingsc, iA G 128 fbsayings), (bwarnings, oX8 16 3 bwarningsc (nI kbwarnings)), (bwarningsc, iA G 48 fbwarnings), (h0, oX11 bb kk ikp sg do9 ru9 ta9 tp9 ro9 ho9 de9), (sg, oX7 bb clk fi la ml mm sl sm cl12469), (clk, oX1 clm), (clm, iA G 36 gclm2470), (fi, iA G 12 gfi2471), (la, iA G 12 gla2472), (ml, iA G 12 gml2473), (mm, iA G 12 gmm2474), (sl, iA G 12 gsl2475), (sm, iA G 12 gsm2476), (ru9, oX6 bb sg fc sh r112477 rc12478 rh12479), (fc, iA G 5 gfc2480), (sh, iA G 8 gsh2481), (bb, oX0 bpersons bpapers bstamps bversions blines bsteps bsayings bfindings bwarnings bquestions td vd vl gp), (bversions, oX8 8 3 bversionsc (nI kbversions)), (bversionsc, iA G 24 fbversions), (bpersons, oX8 10 2 bpersonsc (nI kbpersons)), (bpersonsc, iA G 20 fbpersons), (bpapers, oX8 12 6 bpapersc (nI kbpapers)), (bpapersc, iA G 72 fbpapers), (blines, oX8 72 7 blinesc (nI kblines)), (blinesc, iA G 504 fblines), (bsteps, oX8 960 1 bstepsc (nI kbsteps)), (bstepsc, iA G 960 fbsteps), (bstamps, oX8 24 3 bstampsc (nI kbstamps)), (bstampsc, iA G 72 fbstamps), (bfindings, oX8 12 4 bfindingsc (nI kbfindings)), (bfindingsc, iA G 48 fbfindings)]) hP hD (fun hP hD => ?_)
      obtain ⟨hr2467, w2482⟩ := hr2467
      rcases hr2467 with rfl | rfl
      · refine lv_if_eq (tgt := 133) hx hb gX11_findingOf_4.2.2.2.2.2.2.1 (by decide) (fun c9 => absurd c9 (by decide)) (fun _ => ?_)
        refine lv_iconst (v := 1) hx hb gX11_findingOf_4.2.2.2.2.2.2.2.1 (by decide) ?_
        refine lv_goto (tgt := 134) hx hb gX11_findingOf_4.2.2.2.2.2.2.2.2.1 (by decide) ?_
        refine toQ hQ0 ?_
        exact RI (v := 1) hC hP hD hS [4, 5, 6, 7, 8, 9, 10, 11, 12, 13, 14, 15, 16, 17, 18, 19, 20, 21, 22, 23, 24, 25, 26, 27, 28, 29, 30, 31, 0, 1, 2, 3] (cl12469, gclm2470, gfi2471, gla2472, gml2473, gmm2474, gsl2475, gsm2476, r112477, rc12478, rh12479, gfc2480, gsh2481) rfl rfl (by decide) (⟨trivial, w2482⟩) rfl gX11_findingOf_5.1
      · refine lv_if_eq (tgt := 133) hx hb gX11_findingOf_4.2.2.2.2.2.2.1 (by decide) (fun _ => ?_) (fun c9 => absurd (by decide) c9)
        refine lv_iconst (v := 0) hx hb gX11_findingOf_4.2.2.2.2.2.2.2.2.2 (by decide) ?_
        refine toQ hQ0 ?_
        exact RI (v := 0) hC hP hD hS [4, 5, 6, 7, 8, 9, 10, 11, 12, 13, 14, 15, 16, 17, 18, 19, 20, 21, 22, 23, 24, 25, 26, 27, 28, 29, 30, 31, 0, 1, 2, 3] (cl12469, gclm2470, gfi2471, gla2472, gml2473, gmm2474, gsl2475, gsm2476, r112477, rc12478, rh12479, gfc2480, gsh2481) rfl rfl (by decide) (⟨trivial, w2482⟩) rfl gX11_findingOf_5.1
    by_cases c_25_2484 : x2 = 5
    · refine lv_tableIn (tgt := 135) hx hb gX11_findingOf_1.2.2.2.1 (by rw [c_25_2484]; decide) (by rw [c_25_2484]; decide) (by rw [c_25_2484]; rfl) (by decide) ?_
      refine lv_aload_n hx hb gX11_findingOf_5.2.1 rfl (lv_at1 hl) ?_
      refine lv_iload_n hx hb gX11_findingOf_5.2.2.1 rfl (lv_at2 hl) ?_
      refine lv_iload_n hx hb gX11_findingOf_5.2.2.2.1 rfl (lv_at0 hl) ?_
      refine iV (wr := [(bsayings, oX8 16 8 bsayingsc (nI kbsayings)), (bsayingsc, iA G 128 fbsayings), (bwarnings, oX8 16 3 bwarningsc (nI kbwarnings)), (bwarningsc, iA G 48 fbwarnings)]) hC hK hl hP hD hS hA (c_leansOn l G h0 x1 r2453 bb kk ikp sg do9 ru9 ta9 tp9 ro9 ho9 de9 clk fi la ml mm sl sm cl clm fclm ffi fla fml fmm fsl fsm fc sh r1 rc rh ffc fsh bpersons bpapers bstamps bversions blines bsteps bsayings bfindings bwarnings bquestions td vd vl gp bversionsc kbversions fbversions bpersonsc kbpersons fbpersons bpapersc kbpapers fbpapers blinesc kblines fblines bstepsc kbsteps fbsteps bstampsc kbstamps fbstamps bfindingsc kbfindings fbfindings (hkbversions) (hkbpersons) (hkbpapers) (hkblines) (hkbsteps) (hkbstamps) (hkbfindings)) si_X11_277 [0, 1, 2, 3, 4, 5, 6, 7, 8, 9, 10, 11, 12, 13, 14, 15, 16, 17, 18, 19, 20, 21, 22, 23, 24, 25, 26, 27] [28, 29, 30, 31] sm_0_1_2_3_4_5_6_7_8_9_10_11_12_13_14_15_16_17_18_19_20_21_22_23_24_25_26_27 fm_0_1_2_3_4_5_6_7_8_9_10_11_12_13_14_15_16_17_18_19_20_21_22_23_24_25_26_27 nd_0_1_2_3_4_5_6_7_8_9_10_11_12_13_14_15_16_17_18_19_20_21_22_23_24_25_26_27 sm_28_29_30_31 nd_28_29_30_31 dj_0_1_2_3_4_5_6_7_8_9_10_11_12_13_14_15_16_17_18_19_20_21_22_23_24_25_26_27__28_29_30_31 rfl rfl rfl rfl rfl (Nat.le_of_ble_eq_true rfl) rm_9_8_5 ⟨Nat.le_of_ble_eq_true rfl, Nat.le_of_ble_eq_true rfl⟩ gX11_findingOf_5.2.2.2.2.1 (fun r2485 => Ktu13 fun cl12487 gclm2488 gfi2489 gla2490 gml2491 gmm2492 gsl2493 gsm2494 r112495 rc12496 rh12497 gfc2498 gsh2499 => ?_)
      intro H locs hr2485 hP hD hS
      try dsimp only at hr2485
      refine Kpdr (ws := [(bsayings, oX8 16 8 bsayingsc (nI kbsayings)), (bsayingsc, iA G 128 fbsayings), (bwarnings, oX8 16 3 bwarningsc (nI kbwarnings)), (bwarningsc, iA G 48 fbwarnings), (h0, oX11 bb kk ikp sg do9 ru9 ta9 tp9 ro9 ho9 de9), (sg, oX7 bb clk fi la ml mm sl sm cl12487), (clk, oX1 clm), (clm, iA G 36 gclm2488), (fi, iA G 12 gfi2489), (la, iA G 12 gla2490), (ml, iA G 12 gml2491), (mm, iA G 12 gmm2492), (sl, iA G 12 gsl2493), (sm, iA G 12 gsm2494), (ru9, oX6 bb sg fc sh r112495 rc12496 rh12497), (fc, iA G 5 gfc2498), (sh, iA G 8 gsh2499), (bb, oX0 bpersons bpapers bstamps bversions blines bsteps bsayings bfindings bwarnings bquestions td vd vl gp), (bversions, oX8 8 3 bversionsc (nI kbversions)), (bversionsc, iA G 24 fbversions), (bpersons, oX8 10 2 bpersonsc (nI kbpersons)), (bpersonsc, iA G 20 fbpersons), (bpapers, oX8 12 6 bpapersc (nI kbpapers)), (bpapersc, iA G 72 fbpapers), (blines, oX8 72 7 blinesc (nI kblines)), (blinesc, iA G 504 fblines), (bsteps, oX8 960 1 bstepsc (nI kbsteps)), (bstepsc, iA G 960 fbsteps), (bstamps, oX8 24 3 bstampsc (nI kbstamps)), (bstampsc, iA G 72 fbstamps), (bfindings, oX8 12 4 bfindingsc (nI kbfindings)), (bfindingsc, iA G 48 fbfindings)]) hP hD (fun hP hD => ?_)
      obtain ⟨hr2485, w2500⟩ := hr2485
      refine toQ hQ0 ?_
      exact RI (v := r2485) hC hP hD hS [4, 5, 6, 7, 8, 9, 10, 11, 12, 13, 14, 15, 16, 17, 18, 19, 20, 21, 22, 23, 24, 25, 26, 27, 28, 29, 30, 31, 0, 1, 2, 3] (cl12487, gclm2488, gfi2489, gla2490, gml2491, gmm2492, gsl2493, gsm2494, r112495, rc12496, rh12497, gfc2498, gsh2499) rfl rfl (by decide) (⟨trivial, w2500⟩) rfl gX11_findingOf_5.2.2.2.2.2.1
    by_cases c_25_2501 : x2 = 6
    · refine lv_tableIn (tgt := 142) hx hb gX11_findingOf_1.2.2.2.1 (by rw [c_25_2501]; decide) (by rw [c_25_2501]; decide) (by rw [c_25_2501]; rfl) (by decide) ?_
      refine lv_aload_n hx hb gX11_findingOf_5.2.2.2.2.2.2.1 rfl (lv_at1 hl) ?_
      refine lv_iload_n hx hb gX11_findingOf_5.2.2.2.2.2.2.2.1 rfl (lv_at2 hl) ?_
      refine lv_iload_n hx hb gX11_findingOf_5.2.2.2.2.2.2.2.2.1 rfl (lv_at0 hl) ?_
      refine lv_aload_n hx hb gX11_findingOf_5.2.2.2.2.2.2.2.2.2 rfl (lv_at1 hl) ?_
      refine lv_iload_n hx hb gX11_findingOf_6.1 rfl (lv_at2 hl) ?_
      refine lv_iload_n hx hb gX11_findingOf_6.2.1 rfl (lv_at0 hl) ?_
      refine iV (wr := [(bsayings, oX8 16 8 bsayingsc (nI kbsayings)), (bsayingsc, iA G 128 fbsayings), (bwarnings, oX8 16 3 bwarningsc (nI kbwarnings)), (bwarningsc, iA G 48 fbwarnings)]) hC hK hl hP hD hS hA (c_leansOn l G h0 x1 r2453 bb kk ikp sg do9 ru9 ta9 tp9 ro9 ho9 de9 clk fi la ml mm sl sm cl clm fclm ffi fla fml fmm fsl fsm fc sh r1 rc rh ffc fsh bpersons bpapers bstamps bversions blines bsteps bsayings bfindings bwarnings bquestions td vd vl gp bversionsc kbversions fbversions bpersonsc kbpersons fbpersons bpapersc kbpapers fbpapers blinesc kblines fblines bstepsc kbsteps fbsteps bstampsc kbstamps fbstamps bfindingsc kbfindings fbfindings (hkbversions) (hkbpersons) (hkbpapers) (hkblines) (hkbsteps) (hkbstamps) (hkbfindings)) si_X11_277 [0, 1, 2, 3, 4, 5, 6, 7, 8, 9, 10, 11, 12, 13, 14, 15, 16, 17, 18, 19, 20, 21, 22, 23, 24, 25, 26, 27] [28, 29, 30, 31] sm_0_1_2_3_4_5_6_7_8_9_10_11_12_13_14_15_16_17_18_19_20_21_22_23_24_25_26_27 fm_0_1_2_3_4_5_6_7_8_9_10_11_12_13_14_15_16_17_18_19_20_21_22_23_24_25_26_27 nd_0_1_2_3_4_5_6_7_8_9_10_11_12_13_14_15_16_17_18_19_20_21_22_23_24_25_26_27 sm_28_29_30_31 nd_28_29_30_31 dj_0_1_2_3_4_5_6_7_8_9_10_11_12_13_14_15_16_17_18_19_20_21_22_23_24_25_26_27__28_29_30_31 rfl rfl rfl rfl rfl (Nat.le_of_ble_eq_true rfl) rm_9_8_5 ⟨Nat.le_of_ble_eq_true rfl, Nat.le_of_ble_eq_true rfl⟩ gX11_findingOf_6.2.2.1 (fun r2502 => Ktu13 fun cl12504 gclm2505 gfi2506 gla2507 gml2508 gmm2509 gsl2510 gsm2511 r112512 rc12513 rh12514 gfc2515 gsh2516 => ?_)
      intro H locs hr2502 hP hD hS
      try dsimp only at hr2502
      refine Kpdr (ws := [(bsayings, oX8 16 8 bsayingsc (nI kbsayings)), (bsayingsc, iA G 128 fbsayings), (bwarnings, oX8 16 3 bwarningsc (nI kbwarnings)), (bwarningsc, iA G 48 fbwarnings), (h0, oX11 bb kk ikp sg do9 ru9 ta9 tp9 ro9 ho9 de9), (sg, oX7 bb clk fi la ml mm sl sm cl12504), (clk, oX1 clm), (clm, iA G 36 gclm2505), (fi, iA G 12 gfi2506), (la, iA G 12 gla2507), (ml, iA G 12 gml2508), (mm, iA G 12 gmm2509), (sl, iA G 12 gsl2510), (sm, iA G 12 gsm2511), (ru9, oX6 bb sg fc sh r112512 rc12513 rh12514), (fc, iA G 5 gfc2515), (sh, iA G 8 gsh2516), (bb, oX0 bpersons bpapers bstamps bversions blines bsteps bsayings bfindings bwarnings bquestions td vd vl gp), (bversions, oX8 8 3 bversionsc (nI kbversions)), (bversionsc, iA G 24 fbversions), (bpersons, oX8 10 2 bpersonsc (nI kbpersons)), (bpersonsc, iA G 20 fbpersons), (bpapers, oX8 12 6 bpapersc (nI kbpapers)), (bpapersc, iA G 72 fbpapers), (blines, oX8 72 7 blinesc (nI kblines)), (blinesc, iA G 504 fblines), (bsteps, oX8 960 1 bstepsc (nI kbsteps)), (bstepsc, iA G 960 fbsteps), (bstamps, oX8 24 3 bstampsc (nI kbstamps)), (bstampsc, iA G 72 fbstamps), (bfindings, oX8 12 4 bfindingsc (nI kbfindings)), (bfindingsc, iA G 48 fbfindings)]) hP hD (fun hP hD => ?_)
      obtain ⟨hr2502, w2517⟩ := hr2502
      refine iV (wr := [(sg, oX7 bb clk fi la ml mm sl sm cl12504), (clk, oX1 clm), (clm, iA G 36 gclm2505), (fi, iA G 12 gfi2506), (la, iA G 12 gla2507), (ml, iA G 12 gml2508), (mm, iA G 12 gmm2509), (sl, iA G 12 gsl2510), (sm, iA G 12 gsm2511), (bstamps, oX8 24 3 bstampsc (nI kbstamps)), (bstampsc, iA G 72 fbstamps)]) hC hK hl hP hD hS hA (c_isBarred l G h0 x1 r2453 r2502 bb kk ikp sg do9 ru9 ta9 tp9 ro9 ho9 de9 fc sh r112512 rc12513 rh12514 gfc2515 gsh2516 bpersons bpapers bstamps bversions blines bsteps bsayings bfindings bwarnings bquestions td vd vl gp bversionsc kbversions fbversions bpersonsc kbpersons fbpersons bpapersc kbpapers fbpapers blinesc kblines fblines bstepsc kbsteps fbsteps bfindingsc kbfindings fbfindings bsayingsc kbsayings fbsayings bwarningsc kbwarnings fbwarnings (hkbversions) (hkbpersons) (hkbpapers) (hkblines) (hkbsteps) (hkbfindings) (hkbsayings) (hkbwarnings)) si_X11_280 [4, 14, 15, 16, 17, 18, 19, 20, 21, 22, 23, 24, 25, 26, 27, 30, 31, 0, 1, 2, 3] [5, 6, 7, 8, 9, 10, 11, 12, 13, 28, 29] sm_4_14_15_16_17_18_19_20_21_22_23_24_25_26_27_30_31_0_1_2_3 fm_4_14_15_16_17_18_19_20_21_22_23_24_25_26_27_30_31_0_1_2_3 nd_4_14_15_16_17_18_19_20_21_22_23_24_25_26_27_30_31_0_1_2_3 sm_5_6_7_8_9_10_11_12_13_28_29 nd_5_6_7_8_9_10_11_12_13_28_29 dj_4_14_15_16_17_18_19_20_21_22_23_24_25_26_27_30_31_0_1_2_3__5_6_7_8_9_10_11_12_13_28_29 rfl rfl rfl rfl rfl (Nat.le_of_ble_eq_true rfl) rm_9_7_7 ⟨Nat.le_of_ble_eq_true rfl, Nat.le_of_ble_eq_true rfl⟩ gX11_findingOf_6.2.2.2.1 (fun r2518 => Ktu4 fun r112520 rc12521 rh12522 gfc2523 => ?_)
      intro H locs hr2518 hP hD hS
      try dsimp only at hr2518
      refine Kpdr (ws := [(sg, oX7 bb clk fi la ml mm sl sm cl12504), (clk, oX1 clm), (clm, iA G 36 gclm2505), (fi, iA G 12 gfi2506), (la, iA G 12 gla2507), (ml, iA G 12 gml2508), (mm, iA G 12 gmm2509), (sl, iA G 12 gsl2510), (sm, iA G 12 gsm2511), (bstamps, oX8 24 3 bstampsc (nI kbstamps)), (bstampsc, iA G 72 fbstamps), (h0, oX11 bb kk ikp sg do9 ru9 ta9 tp9 ro9 ho9 de9), (ru9, oX6 bb sg fc sh r112520 rc12521 rh12522), (fc, iA G 5 gfc2523), (sh, iA G 8 gsh2516), (bb, oX0 bpersons bpapers bstamps bversions blines bsteps bsayings bfindings bwarnings bquestions td vd vl gp), (bversions, oX8 8 3 bversionsc (nI kbversions)), (bversionsc, iA G 24 fbversions), (bpersons, oX8 10 2 bpersonsc (nI kbpersons)), (bpersonsc, iA G 20 fbpersons), (bpapers, oX8 12 6 bpapersc (nI kbpapers)), (bpapersc, iA G 72 fbpapers), (blines, oX8 72 7 blinesc (nI kblines)), (blinesc, iA G 504 fblines), (bsteps, oX8 960 1 bstepsc (nI kbsteps)), (bstepsc, iA G 960 fbsteps), (bfindings, oX8 12 4 bfindingsc (nI kbfindings)), (bfindingsc, iA G 48 fbfindings), (bsayings, oX8 16 8 bsayingsc (nI kbsayings)), (bsayingsc, iA G 128 fbsayings), (bwarnings, oX8 16 3 bwarningsc (nI kbwarnings)), (bwarningsc, iA G 48 fbwarnings)]) hP hD (fun hP hD => ?_)
      rcases hr2518 with rfl | rfl
      · refine lv_if_eq (tgt := 161) hx hb gX11_findingOf_6.2.2.2.2.1 (by decide) (fun c9 => absurd c9 (by decide)) (fun _ => ?_)
        refine lv_iconst (v := 1) hx hb gX11_findingOf_6.2.2.2.2.2.1 (by decide) ?_
        refine lv_goto (tgt := 162) hx hb gX11_findingOf_6.2.2.2.2.2.2.1 (by decide) ?_
        refine toQ hQ0 ?_
        exact RI (v := 1) hC hP hD hS [11, 0, 1, 2, 3, 4, 5, 6, 7, 8, 12, 13, 14, 15, 16, 17, 18, 19, 20, 21, 22, 23, 24, 25, 9, 10, 26, 27, 28, 29, 30, 31] (cl12504, gclm2505, gfi2506, gla2507, gml2508, gmm2509, gsl2510, gsm2511, r112520, rc12521, rh12522, gfc2523, gsh2516) rfl rfl (by decide) (⟨trivial, w2517⟩) rfl gX11_findingOf_6.2.2.2.2.2.2.2.2.1
      · refine lv_if_eq (tgt := 161) hx hb gX11_findingOf_6.2.2.2.2.1 (by decide) (fun _ => ?_) (fun c9 => absurd (by decide) c9)
        refine lv_iconst (v := 0) hx hb gX11_findingOf_6.2.2.2.2.2.2.2.1 (by decide) ?_
        refine toQ hQ0 ?_
        exact RI (v := 0) hC hP hD hS [11, 0, 1, 2, 3, 4, 5, 6, 7, 8, 12, 13, 14, 15, 16, 17, 18, 19, 20, 21, 22, 23, 24, 25, 9, 10, 26, 27, 28, 29, 30, 31] (cl12504, gclm2505, gfi2506, gla2507, gml2508, gmm2509, gsl2510, gsm2511, r112520, rc12521, rh12522, gfc2523, gsh2516) rfl rfl (by decide) (⟨trivial, w2517⟩) rfl gX11_findingOf_6.2.2.2.2.2.2.2.2.1
    refine lv_tableOut (tgt := 163) hx hb gX11_findingOf_1.2.2.2.1 (by have q9 := sw_0_6 (x := x2); simp only [c_25_2454, c_25_2457, c_25_2460, c_25_2463, c_25_2466, c_25_2484, c_25_2501, not_false_eq_true, true_implies] at q9; exact q9) (by decide) ?_
    refine lv_iconst (v := (-1)) hx hb gX11_findingOf_6.2.2.2.2.2.2.2.2.2 (by decide) ?_
    refine toQ hQ0 ?_
    exact RI (v := (-1)) hC hP hD hS [0, 1, 2, 3, 4, 5, 6, 7, 8, 9, 10, 11, 12, 13, 14, 15, 16, 17, 18, 19, 20, 21, 22, 23, 24, 25, 26, 27, 28, 29, 30, 31] (cl, fclm, ffi, fla, fml, fmm, fsl, fsm, r1, rc, rh, ffc, fsh) rfl rfl (by decide) (⟨trivial, hcl⟩) rfl gX11_findingOf_7
  · refine lv_if_ne (tgt := 16) hx hb gX11_findingOf_0.2.2.2.2.2.1 (by decide) (fun c9 => absurd (by decide) c9) (fun _ => ?_)
    refine lv_iconst (v := (-1)) hx hb gX11_findingOf_0.2.2.2.2.2.2.1 (by decide) ?_
    refine toQ hQ0 ?_
    exact RI (v := (-1)) hC hP hD hS [0, 1, 2, 3, 4, 5, 6, 7, 8, 9, 10, 11, 12, 13, 14, 15, 16, 17, 18, 19, 20, 21, 22, 23, 24, 25, 26, 27, 28, 29, 30, 31] (cl, fclm, ffi, fla, fml, fmm, fsl, fsm, r1, rc, rh, ffc, fsh) rfl rfl (by decide) (⟨trivial, hcl⟩) rfl gX11_findingOf_0.2.2.2.2.2.2.2.1
def K_c_leastWeight (l : Launch) (G : GG) (h0 : Nat) (bb : Nat) (sg : Nat) (tf : Int32) (tt9 : Int32) (tl : Int32) (tbv : Int32) : Prop := MP l G yX9_leastWeight cX9_leastWeight 1 (some .int) 1 [.ref h0] [(h0, oX9 bb sg tf tt9 tl tbv)] (fun r : Int32 => True)
set_option maxHeartbeats 4000000 in
set_option maxRecDepth 100000 in
theorem c_leastWeight (l : Launch) (G : GG) (h0 : Nat) (bb : Nat) (sg : Nat) (tf : Int32) (tt9 : Int32) (tl : Int32) (tbv : Int32) : K_c_leastWeight l G h0 bb sg tf tt9 tl tbv := by
  refine MP.start (by decide +kernel) (Nat.le_of_ble_eq_true rfl) ?_
  intro p e s m below meth c ls hC hK hP hD hl
  refine absQ (fun Q0 hQ0 => ?_)
  have hl : lv_has ls 1 [(0, .ref h0)] := hl
  refine Kan8 hC (fun hx hb hr hml hB hown hlocks hnm => ?_)
  refine lv_aload_n hx hb gX9_leastWeight_0.1 rfl (lv_at0 hl) ?_
  refine gf_X9_26 hC rfl hK hP 0 rfl rfl gX9_leastWeight_0.2.1 ?_
  refine toQ hQ0 ?_
  exact RP (v := tl) hC (trivial) rfl gX9_leastWeight_0.2.2
def K_c_believed (l : Launch) (G : GG) (h0 : Nat) (bb : Nat) (sg : Nat) (tf : Int32) (tt9 : Int32) (tl : Int32) (tbv : Int32) : Prop := MP l G yX9_believedHour cX9_believedHour 1 (some .int) 1 [.ref h0] [(h0, oX9 bb sg tf tt9 tl tbv)] (fun r : Int32 => True)
set_option maxHeartbeats 4000000 in
set_option maxRecDepth 100000 in
theorem c_believed (l : Launch) (G : GG) (h0 : Nat) (bb : Nat) (sg : Nat) (tf : Int32) (tt9 : Int32) (tl : Int32) (tbv : Int32) : K_c_believed l G h0 bb sg tf tt9 tl tbv := by
  refine MP.start (by decide +kernel) (Nat.le_of_ble_eq_true rfl) ?_
  intro p e s m below meth c ls hC hK hP hD hl
  refine absQ (fun Q0 hQ0 => ?_)
  have hl : lv_has ls 1 [(0, .ref h0)] := hl
  refine Kan8 hC (fun hx hb hr hml hB hown hlocks hnm => ?_)
  refine lv_aload_n hx hb gX9_believedHour_0.1 rfl (lv_at0 hl) ?_
  refine gf_X9_29 hC rfl hK hP 0 rfl rfl gX9_believedHour_0.2.1 ?_
  refine toQ hQ0 ?_
  exact RP (v := tbv) hC (trivial) rfl gX9_believedHour_0.2.2
def K_p_quarrel (l : Launch) (G : GG) (h0 : Nat) (x1 : Int32) (x2 : Int32) (x3 : Int32) (bb : Nat) (kk : Nat) (ikp : Int32) (sg : Nat) (do9 : Nat) (ru9 : Nat) (ta9 : Nat) (tp9 : Nat) (ro9 : Nat) (ho9 : Nat) (de9 : Nat) (clk : Nat) (fi : Nat) (la : Nat) (ml : Nat) (mm : Nat) (sl : Nat) (sm : Nat) (cl : Int32) (clm : Nat) (fclm : Nat → Int32) (ffi : Nat → Int32) (fla : Nat → Int32) (fml : Nat → Int32) (fmm : Nat → Int32) (fsl : Nat → Int32) (fsm : Nat → Int32) (tf : Int32) (tt9 : Int32) (tl : Int32) (tbv : Int32) (bpersons : Nat) (bpapers : Nat) (bstamps : Nat) (bversions : Nat) (blines : Nat) (bsteps : Nat) (bsayings : Nat) (bfindings : Nat) (bwarnings : Nat) (bquestions : Nat) (td : Int32) (vd : Int32) (vl : Int32) (gp : Int32) (bpapersc : Nat) (kbpapers : Nat) (fbpapers : Nat → Int32) (bpersonsc : Nat) (kbpersons : Nat) (fbpersons : Nat → Int32) (bsayingsc : Nat) (kbsayings : Nat) (fbsayings : Nat → Int32) (bstampsc : Nat) (kbstamps : Nat) (fbstamps : Nat → Int32) : Prop := MI l G yX11_quarrel cX11_quarrel 5 (some .int) 8 0 0 [.ref h0, .int x1, .int x2, .int x3] [(h0, oX11 bb kk ikp sg do9 ru9 ta9 tp9 ro9 ho9 de9), (sg, oX7 bb clk fi la ml mm sl sm cl), (clk, oX1 clm), (clm, iA G 36 fclm), (fi, iA G 12 ffi), (la, iA G 12 fla), (ml, iA G 12 fml), (mm, iA G 12 fmm), (sl, iA G 12 fsl), (sm, iA G 12 fsm), (ta9, oX9 bb sg tf tt9 tl tbv), (bb, oX0 bpersons bpapers bstamps bversions blines bsteps bsayings bfindings bwarnings bquestions td vd vl gp), (bpapers, oX8 12 6 bpapersc (nI kbpapers)), (bpapersc, iA G 72 fbpapers), (bpersons, oX8 10 2 bpersonsc (nI kbpersons)), (bpersonsc, iA G 20 fbpersons), (bsayings, oX8 16 8 bsayingsc (nI kbsayings)), (bsayingsc, iA G 128 fbsayings), (bstamps, oX8 24 3 bstampsc (nI kbstamps)), (bstampsc, iA G 72 fbstamps)] (fun (r : Int32) (u : Int32 × (Nat → Int32) × (Nat → Int32) × (Nat → Int32) × (Nat → Int32) × (Nat → Int32) × (Nat → Int32) × (Nat → Int32) × Int32 × Int32 × Int32 × Int32) => (True) ∧ (u.1 = 0 ∨ u.1 = 1)) (fun u : Int32 × (Nat → Int32) × (Nat → Int32) × (Nat → Int32) × (Nat → Int32) × (Nat → Int32) × (Nat → Int32) × (Nat → Int32) × Int32 × Int32 × Int32 × Int32 => [(h0, oX11 bb kk ikp sg do9 ru9 ta9 tp9 ro9 ho9 de9), (sg, oX7 bb clk fi la ml mm sl sm u.1), (clk, oX1 clm), (clm, iA G 36 u.2.1), (fi, iA G 12 u.2.2.1), (la, iA G 12 u.2.2.2.1), (ml, iA G 12 u.2.2.2.2.1), (mm, iA G 12 u.2.2.2.2.2.1), (sl, iA G 12 u.2.2.2.2.2.2.1), (sm, iA G 12 u.2.2.2.2.2.2.2.1), (ta9, oX9 bb sg u.2.2.2.2.2.2.2.2.1 u.2.2.2.2.2.2.2.2.2.1 u.2.2.2.2.2.2.2.2.2.2.1 u.2.2.2.2.2.2.2.2.2.2.2), (bb, oX0 bpersons bpapers bstamps bversions blines bsteps bsayings bfindings bwarnings bquestions td vd vl gp), (bpapers, oX8 12 6 bpapersc (nI kbpapers)), (bpapersc, iA G 72 fbpapers), (bpersons, oX8 10 2 bpersonsc (nI kbpersons)), (bpersonsc, iA G 20 fbpersons), (bsayings, oX8 16 8 bsayingsc (nI kbsayings)), (bsayingsc, iA G 128 fbsayings), (bstamps, oX8 24 3 bstampsc (nI kbstamps)), (bstampsc, iA G 72 fbstamps)])
set_option maxHeartbeats 4000000 in
set_option maxRecDepth 100000 in
theorem p_quarrel (l : Launch) (G : GG) (h0 : Nat) (x1 : Int32) (x2 : Int32) (x3 : Int32) (bb : Nat) (kk : Nat) (ikp : Int32) (sg : Nat) (do9 : Nat) (ru9 : Nat) (ta9 : Nat) (tp9 : Nat) (ro9 : Nat) (ho9 : Nat) (de9 : Nat) (clk : Nat) (fi : Nat) (la : Nat) (ml : Nat) (mm : Nat) (sl : Nat) (sm : Nat) (cl : Int32) (clm : Nat) (fclm : Nat → Int32) (ffi : Nat → Int32) (fla : Nat → Int32) (fml : Nat → Int32) (fmm : Nat → Int32) (fsl : Nat → Int32) (fsm : Nat → Int32) (tf : Int32) (tt9 : Int32) (tl : Int32) (tbv : Int32) (bpersons : Nat) (bpapers : Nat) (bstamps : Nat) (bversions : Nat) (blines : Nat) (bsteps : Nat) (bsayings : Nat) (bfindings : Nat) (bwarnings : Nat) (bquestions : Nat) (td : Int32) (vd : Int32) (vl : Int32) (gp : Int32) (bpapersc : Nat) (kbpapers : Nat) (fbpapers : Nat → Int32) (bpersonsc : Nat) (kbpersons : Nat) (fbpersons : Nat → Int32) (bsayingsc : Nat) (kbsayings : Nat) (fbsayings : Nat → Int32) (bstampsc : Nat) (kbstamps : Nat) (fbstamps : Nat → Int32) (hkbpapers : kbpapers ≤ 12) (hkbpersons : kbpersons ≤ 10) (hkbsayings : kbsayings ≤ 16) (hkbstamps : kbstamps ≤ 24) (hcl : cl = 0 ∨ cl = 1) : K_p_quarrel l G h0 x1 x2 x3 bb kk ikp sg do9 ru9 ta9 tp9 ro9 ho9 de9 clk fi la ml mm sl sm cl clm fclm ffi fla fml fmm fsl fsm tf tt9 tl tbv bpersons bpapers bstamps bversions blines bsteps bsayings bfindings bwarnings bquestions td vd vl gp bpapersc kbpapers fbpapers bpersonsc kbpersons fbpersons bsayingsc kbsayings fbsayings bstampsc kbstamps fbstamps := by
  refine MI.start (by decide +kernel) (Nat.le_of_ble_eq_true rfl) ?_
  intro p e s m below meth c A ls hC hK hP hD hS hA hl
  refine absQ (fun Q0 hQ0 => ?_)
  have hl : lv_has ls 5 [(0, .ref h0), (1, .int x1), (2, .int x2), (3, .int x3)] := hl
  refine Kan8 hC (fun hx hb hr hml hB hown hlocks hnm => ?_)
  refine lv_aload_n hx hb gX11_quarrel_0.1 rfl (lv_at0 hl) ?_
  refine gf_X11_15 hC rfl hK hP 0 rfl rfl gX11_quarrel_0.2.1 ?_
  refine gf_X11_107 hC rfl hK hP 11 rfl rfl gX11_quarrel_0.2.2.1 ?_
  refine lv_iload_n hx hb gX11_quarrel_0.2.2.2.1 rfl (lv_at1 hl) ?_
  refine pV hC hK hl hP hD (c_T_has l G bpersons x1 10 2 bpersonsc kbpersons) si_X11_124 [14] sm_14 fm_14 nd_14 rfl rfl rfl rfl rfl (Nat.le_of_ble_eq_true rfl) rm_8_1_2 ⟨by first | exact Nat.le_of_ble_eq_true rfl | exact Nat.zero_le _, by first | exact Nat.le_of_ble_eq_true rfl | exact Nat.zero_le _⟩ gX11_quarrel_0.2.2.2.2.1 (Kors (Keqa fun a2526 => ?_) (Keqa fun a2526 => ?_))
  · refine lv_if_eq (tgt := 37) hx hb gX11_quarrel_0.2.2.2.2.2.1 (by decide) (fun c9 => absurd c9 (by decide)) (fun _ => ?_)
    refine lv_aload_n hx hb gX11_quarrel_0.2.2.2.2.2.2.1 rfl (lv_at0 hl) ?_
    refine gf_X11_15 hC rfl hK hP 0 rfl rfl gX11_quarrel_0.2.2.2.2.2.2.2.1 ?_
    refine gf_X11_144 hC rfl hK hP 11 rfl rfl gX11_quarrel_0.2.2.2.2.2.2.2.2.1 ?_
    refine lv_iload_n hx hb gX11_quarrel_0.2.2.2.2.2.2.2.2.2 rfl (lv_at2 hl) ?_
    refine pV hC hK hl hP hD (c_T_has l G bpapers x2 12 6 bpapersc kbpapers) si_X11_124 [12] sm_12 fm_12 nd_12 rfl rfl rfl rfl rfl (Nat.le_of_ble_eq_true rfl) rm_8_1_2 ⟨by first | exact Nat.le_of_ble_eq_true rfl | exact Nat.zero_le _, by first | exact Nat.le_of_ble_eq_true rfl | exact Nat.zero_le _⟩ gX11_quarrel_1.1 (Kors (Keqa fun a2528 => ?_) (Keqa fun a2528 => ?_))
    · refine lv_if_eq (tgt := 37) hx hb gX11_quarrel_1.2.1 (by decide) (fun c9 => absurd c9 (by decide)) (fun _ => ?_)
      refine lv_iload_n hx hb gX11_quarrel_1.2.2.1 rfl (lv_at3 hl) ?_
      refine lv_iconst (v := 0) hx hb gX11_quarrel_1.2.2.2.1 (by decide) ?_
      refine lv_iconst (v := 1) hx hb gX11_quarrel_1.2.2.2.2.1 (by decide) ?_
      refine pS hC hK hl (c_within l G x3 0 1) si_X11_83 rfl rfl (Nat.le_of_ble_eq_true rfl) rm_8_1_3 ⟨by first | exact Nat.le_of_ble_eq_true rfl | exact Nat.zero_le _, by first | exact Nat.le_of_ble_eq_true rfl | exact Nat.zero_le _⟩ gX11_quarrel_1.2.2.2.2.2.1 (Kors (Keqa fun a2530 => ?_) (Keqa fun a2530 => ?_))
      · refine lv_if_ne (tgt := 39) hx hb gX11_quarrel_1.2.2.2.2.2.2.1 (by decide) (fun _ => ?_) (fun c9 => absurd c9 (by decide))
        refine lv_aload_n hx hb gX11_quarrel_1.2.2.2.2.2.2.2.2.2 rfl (lv_at0 hl) ?_
        refine gf_X11_15 hC rfl hK hP 0 rfl rfl gX11_quarrel_2.1 ?_
        refine pV hC hK hl hP hD (c_inView l G bb bpersons bpapers bstamps bversions blines bsteps bsayings bfindings bwarnings bquestions td vd vl gp bpapersc kbpapers fbpapers (hkbpapers)) si_X11_97 [11, 12, 13] sm_11_12_13 fm_11_12_13 nd_11_12_13 rfl rfl rfl rfl rfl (Nat.le_of_ble_eq_true rfl) rm_8_3_6 ⟨by first | exact Nat.le_of_ble_eq_true rfl | exact Nat.zero_le _, by first | exact Nat.le_of_ble_eq_true rfl | exact Nat.zero_le _⟩ gX11_quarrel_2.2.1 (fun r2531 hr2531 => ?_)
        refine lv_istore (lv' := [(4, .int r2531), (0, .ref h0), (1, .int x1), (2, .int x2), (3, .int x3)]) hx hb gX11_quarrel_2.2.2.1 hl (by decide) rfl (fun ls hl => ?_)
        refine lv_iload hx hb gX11_quarrel_2.2.2.2.1 (lv_at0 hl) ?_
        refine lv_iload_n hx hb gX11_quarrel_2.2.2.2.2.1 rfl (lv_at3 hl) ?_
        refine pS hC hK hl (c_hasBit l G r2531 x2) si_X11_150 rfl rfl (Nat.le_of_ble_eq_true rfl) rm_8_1_2 ⟨by first | exact Nat.le_of_ble_eq_true rfl | exact Nat.zero_le _, by first | exact Nat.le_of_ble_eq_true rfl | exact Nat.zero_le _⟩ gX11_quarrel_2.2.2.2.2.2.1 (Kors (Keqa fun a2533 => ?_) (Keqa fun a2533 => ?_))
        · refine lv_if_ne (tgt := 60) hx hb gX11_quarrel_2.2.2.2.2.2.2.1 (by decide) (fun _ => ?_) (fun c9 => absurd c9 (by decide))
          refine lv_aload_n hx hb gX11_quarrel_2.2.2.2.2.2.2.2.2.2 rfl (lv_at1 hl) ?_
          refine gf_X11_28 hC rfl hK hP 0 rfl rfl gX11_quarrel_3.1 ?_
          refine lv_iload hx hb gX11_quarrel_3.2.1 (lv_at0 hl) ?_
          refine vV (wr := [(h0, oX11 bb kk ikp sg do9 ru9 ta9 tp9 ro9 ho9 de9), (ta9, oX9 bb sg tf tt9 tl tbv), (bpapers, oX8 12 6 bpapersc (nI kbpapers)), (bpapersc, iA G 72 fbpapers), (bpersons, oX8 10 2 bpersonsc (nI kbpersons)), (bpersonsc, iA G 20 fbpersons), (bsayings, oX8 16 8 bsayingsc (nI kbsayings)), (bsayingsc, iA G 128 fbsayings)]) hC hK hl hP hD hS hA (c_look l G sg r2531 bb clk fi la ml mm sl sm cl clm fclm ffi fla fml fmm fsl fsm bpersons bpapers bstamps bversions blines bsteps bsayings bfindings bwarnings bquestions td vd vl gp bstampsc kbstamps fbstamps (hkbstamps)) si_X11_183 [1, 2, 3, 4, 5, 6, 7, 8, 9, 11, 18, 19] [0, 10, 12, 13, 14, 15, 16, 17] sm_1_2_3_4_5_6_7_8_9_11_18_19 fm_1_2_3_4_5_6_7_8_9_11_18_19 nd_1_2_3_4_5_6_7_8_9_11_18_19 sm_0_10_12_13_14_15_16_17 nd_0_10_12_13_14_15_16_17 dj_1_2_3_4_5_6_7_8_9_11_18_19__0_10_12_13_14_15_16_17 rfl rfl rfl rfl rfl (Nat.le_of_ble_eq_true rfl) rm_8_5_4 ⟨Nat.le_of_ble_eq_true rfl, Nat.le_of_ble_eq_true rfl⟩ gX11_quarrel_3.2.2.1 (Ktu8 fun cl12536 gclm2537 gfi2538 gla2539 gml2540 gmm2541 gsl2542 gsm2543 => ?_)
          intro H locs hr2534 hP hD hS
          try dsimp only at hr2534
          refine Kpdr (ws := [(h0, oX11 bb kk ikp sg do9 ru9 ta9 tp9 ro9 ho9 de9), (ta9, oX9 bb sg tf tt9 tl tbv), (bpapers, oX8 12 6 bpapersc (nI kbpapers)), (bpapersc, iA G 72 fbpapers), (bpersons, oX8 10 2 bpersonsc (nI kbpersons)), (bpersonsc, iA G 20 fbpersons), (bsayings, oX8 16 8 bsayingsc (nI kbsayings)), (bsayingsc, iA G 128 fbsayings), (sg, oX7 bb clk fi la ml mm sl sm cl12536), (clk, oX1 clm), (clm, iA G 36 gclm2537), (fi, iA G 12 gfi2538), (la, iA G 12 gla2539), (ml, iA G 12 gml2540), (mm, iA G 12 gmm2541), (sl, iA G 12 gsl2542), (sm, iA G 12 gsm2543), (bb, oX0 bpersons bpapers bstamps bversions blines bsteps bsayings bfindings bwarnings bquestions td vd vl gp), (bstamps, oX8 24 3 bstampsc (nI kbstamps)), (bstampsc, iA G 72 fbstamps)]) hP hD (fun hP hD => ?_)
          have w2544 := hr2534
          refine lv_aload_n hx hb gX11_quarrel_3.2.2.2.1 rfl (lv_at1 hl) ?_
          refine gf_X11_51 hC rfl hK hP 0 rfl rfl gX11_quarrel_3.2.2.2.2.1 ?_
          refine lv_iload_n hx hb gX11_quarrel_3.2.2.2.2.2.1 rfl (lv_at2 hl) ?_
          refine lv_iload_n hx hb gX11_quarrel_3.2.2.2.2.2.2.1 rfl (lv_at3 hl) ?_
          refine lv_iload hx hb gX11_quarrel_3.2.2.2.2.2.2.2.1 (lv_at0 hl) ?_
          refine vV (wr := [(h0, oX11 bb kk ikp sg do9 ru9 ta9 tp9 ro9 ho9 de9), (clk, oX1 clm), (clm, iA G 36 gclm2537), (fi, iA G 12 gfi2538), (bstamps, oX8 24 3 bstampsc (nI kbstamps)), (bstampsc, iA G 72 fbstamps)]) hC hK hl hP hD hS hA (c_weigh l G ta9 x1 x2 r2531 bb sg tf tt9 tl tbv clk fi la ml mm sl sm cl12536 gla2539 gml2540 gmm2541 gsl2542 gsm2543 bpersons bpapers bstamps bversions blines bsteps bsayings bfindings bwarnings bquestions td vd vl gp bpapersc kbpapers fbpapers bpersonsc kbpersons fbpersons bsayingsc kbsayings fbsayings (hkbpapers) (hkbpersons) (hkbsayings)) si_X11_259 [1, 8, 12, 13, 14, 15, 16, 17, 2, 3, 4, 5, 6, 7] [0, 9, 10, 11, 18, 19] sm_1_8_12_13_14_15_16_17_2_3_4_5_6_7 fm_1_8_12_13_14_15_16_17_2_3_4_5_6_7 nd_1_8_12_13_14_15_16_17_2_3_4_5_6_7 sm_0_9_10_11_18_19 nd_0_9_10_11_18_19 dj_1_8_12_13_14_15_16_17_2_3_4_5_6_7__0_9_10_11_18_19 rfl rfl rfl rfl rfl (Nat.le_of_ble_eq_true rfl) rm_8_6_7 ⟨Nat.le_of_ble_eq_true rfl, Nat.le_of_ble_eq_true rfl⟩ gX11_quarrel_3.2.2.2.2.2.2.2.2.1 (Ktu4 fun tf12547 tt12548 tl12549 tb12550 => ?_)
          intro H locs hr2545 hP hD hS
          try dsimp only at hr2545
          refine Kpdr (ws := [(h0, oX11 bb kk ikp sg do9 ru9 ta9 tp9 ro9 ho9 de9), (clk, oX1 clm), (clm, iA G 36 gclm2537), (fi, iA G 12 gfi2538), (bstamps, oX8 24 3 bstampsc (nI kbstamps)), (bstampsc, iA G 72 fbstamps), (ta9, oX9 bb sg tf12547 tt12548 tl12549 tb12550), (sg, oX7 bb clk fi la ml mm sl sm cl12536), (la, iA G 12 gla2539), (ml, iA G 12 gml2540), (mm, iA G 12 gmm2541), (sl, iA G 12 gsl2542), (sm, iA G 12 gsm2543), (bb, oX0 bpersons bpapers bstamps bversions blines bsteps bsayings bfindings bwarnings bquestions td vd vl gp), (bpapers, oX8 12 6 bpapersc (nI kbpapers)), (bpapersc, iA G 72 fbpapers), (bpersons, oX8 10 2 bpersonsc (nI kbpersons)), (bpersonsc, iA G 20 fbpersons), (bsayings, oX8 16 8 bsayingsc (nI kbsayings)), (bsayingsc, iA G 128 fbsayings)]) hP hD (fun hP hD => ?_)
          refine lv_iload_n hx hb gX11_quarrel_3.2.2.2.2.2.2.2.2.2 rfl (lv_at4 hl) ?_
          refine lv_if_ne (tgt := 94) hx hb gX11_quarrel_4.1 (by decide) (fun c_81_2551 => ?_) (fun c_81_2551 => ?_)
          · refine lv_aload_n hx hb gX11_quarrel_4.2.2.2.2.2.1 rfl (lv_at1 hl) ?_
            refine gf_X11_51 hC rfl hK hP 0 rfl rfl gX11_quarrel_4.2.2.2.2.2.2.1 ?_
            refine pV hC hK hl hP hD (c_believed l G ta9 bb sg tf12547 tt12548 tl12549 tb12550) si_X11_265 [6] sm_6 fm_6 nd_6 rfl rfl rfl rfl rfl (Nat.le_of_ble_eq_true rfl) rm_8_1_1 ⟨by first | exact Nat.le_of_ble_eq_true rfl | exact Nat.zero_le _, by first | exact Nat.le_of_ble_eq_true rfl | exact Nat.zero_le _⟩ gX11_quarrel_4.2.2.2.2.2.2.2.1 (fun r2552 hr2552 => ?_)
            refine lv_sipush (v := 1000) hx hb gX11_quarrel_4.2.2.2.2.2.2.2.2.1 (by decide) ?_
            refine lv_iadd hx hb gX11_quarrel_4.2.2.2.2.2.2.2.2.2 ?_
            refine toQ hQ0 ?_
            exact RI (v := r2552 + 1000) hC hP hD hS [0, 7, 1, 2, 3, 8, 9, 10, 11, 12, 6, 13, 14, 15, 16, 17, 18, 19, 4, 5] (cl12536, gclm2537, gfi2538, gla2539, gml2540, gmm2541, gsl2542, gsm2543, tf12547, tt12548, tl12549, tb12550) rfl rfl (by decide) (⟨trivial, w2544⟩) rfl gX11_quarrel_5
          · refine lv_aload_n hx hb gX11_quarrel_4.2.1 rfl (lv_at1 hl) ?_
            refine gf_X11_51 hC rfl hK hP 0 rfl rfl gX11_quarrel_4.2.2.1 ?_
            refine pV hC hK hl hP hD (c_leastWeight l G ta9 bb sg tf12547 tt12548 tl12549 tb12550) si_X11_262 [6] sm_6 fm_6 nd_6 rfl rfl rfl rfl rfl (Nat.le_of_ble_eq_true rfl) rm_8_1_1 ⟨by first | exact Nat.le_of_ble_eq_true rfl | exact Nat.zero_le _, by first | exact Nat.le_of_ble_eq_true rfl | exact Nat.zero_le _⟩ gX11_quarrel_4.2.2.2.1 (fun r2553 hr2553 => ?_)
            refine lv_goto (tgt := 105) hx hb gX11_quarrel_4.2.2.2.2.1 (by decide) ?_
            refine toQ hQ0 ?_
            exact RI (v := r2553) hC hP hD hS [0, 7, 1, 2, 3, 8, 9, 10, 11, 12, 6, 13, 14, 15, 16, 17, 18, 19, 4, 5] (cl12536, gclm2537, gfi2538, gla2539, gml2540, gmm2541, gsl2542, gsm2543, tf12547, tt12548, tl12549, tb12550) rfl rfl (by decide) (⟨trivial, w2544⟩) rfl gX11_quarrel_5
        · refine lv_if_ne (tgt := 60) hx hb gX11_quarrel_2.2.2.2.2.2.2.1 (by decide) (fun c9 => absurd (by decide) c9) (fun _ => ?_)
          refine lv_bipush (v := (-3)) hx hb gX11_quarrel_2.2.2.2.2.2.2.2.1 (by decide) ?_
          refine toQ hQ0 ?_
          exact RI (v := (-3)) hC hP hD hS [0, 1, 2, 3, 4, 5, 6, 7, 8, 9, 10, 11, 12, 13, 14, 15, 16, 17, 18, 19] (cl, fclm, ffi, fla, fml, fmm, fsl, fsm, tf, tt9, tl, tbv) rfl rfl (by decide) (⟨trivial, hcl⟩) rfl gX11_quarrel_2.2.2.2.2.2.2.2.2.1
      · refine lv_if_ne (tgt := 39) hx hb gX11_quarrel_1.2.2.2.2.2.2.1 (by decide) (fun c9 => absurd (by decide) c9) (fun _ => ?_)
        refine lv_iconst (v := (-1)) hx hb gX11_quarrel_1.2.2.2.2.2.2.2.1 (by decide) ?_
        refine toQ hQ0 ?_
        exact RI (v := (-1)) hC hP hD hS [0, 1, 2, 3, 4, 5, 6, 7, 8, 9, 10, 11, 12, 13, 14, 15, 16, 17, 18, 19] (cl, fclm, ffi, fla, fml, fmm, fsl, fsm, tf, tt9, tl, tbv) rfl rfl (by decide) (⟨trivial, hcl⟩) rfl gX11_quarrel_1.2.2.2.2.2.2.2.2.1
    · refine lv_if_eq (tgt := 37) hx hb gX11_quarrel_1.2.1 (by decide) (fun _ => ?_) (fun c9 => absurd (by decide) c9)
      refine lv_iconst (v := (-1)) hx hb gX11_quarrel_1.2.2.2.2.2.2.2.1 (by decide) ?_
      refine toQ hQ0 ?_
      exact RI (v := (-1)) hC hP hD hS [0, 1, 2, 3, 4, 5, 6, 7, 8, 9, 10, 11, 12, 13, 14, 15, 16, 17, 18, 19] (cl, fclm, ffi, fla, fml, fmm, fsl, fsm, tf, tt9, tl, tbv) rfl rfl (by decide) (⟨trivial, hcl⟩) rfl gX11_quarrel_1.2.2.2.2.2.2.2.2.1
  · refine lv_if_eq (tgt := 37) hx hb gX11_quarrel_0.2.2.2.2.2.1 (by decide) (fun _ => ?_) (fun c9 => absurd (by decide) c9)
    refine lv_iconst (v := (-1)) hx hb gX11_quarrel_1.2.2.2.2.2.2.2.1 (by decide) ?_
    refine toQ hQ0 ?_
    exact RI (v := (-1)) hC hP hD hS [0, 1, 2, 3, 4, 5, 6, 7, 8, 9, 10, 11, 12, 13, 14, 15, 16, 17, 18, 19] (cl, fclm, ffi, fla, fml, fmm, fsl, fsm, tf, tt9, tl, tbv) rfl rfl (by decide) (⟨trivial, hcl⟩) rfl gX11_quarrel_1.2.2.2.2.2.2.2.2.1
def K_c_handHour0X (l : Launch) (G : GG) (h0 : Nat) (jp : Nat) (je : Nat) (bb : Nat) (clk : Nat) (fi : Nat) (la : Nat) (ml : Nat) (mm : Nat) (sl : Nat) (sm : Nat) (cl : Int32) (fla : Nat → Int32) (fml : Nat → Int32) (fmm : Nat → Int32) (fsl : Nat → Int32) (fsm : Nat → Int32) (bpersons : Nat) (bpapers : Nat) (bstamps : Nat) (bversions : Nat) (blines : Nat) (bsteps : Nat) (bsayings : Nat) (bfindings : Nat) (bwarnings : Nat) (bquestions : Nat) (td : Int32) (vd : Int32) (vl : Int32) (gp : Int32) (bpapersc : Nat) (kbpapers : Nat) (fbpapers : Nat → Int32) (bpersonsc : Nat) (kbpersons : Nat) (fbpersons : Nat → Int32) : Prop := MP l G yX7_handHour cX7_handHour 4 (some .int) 3 [.ref h0, .int (nI jp), .int (nI je), .int 0] [(h0, oX7 bb clk fi la ml mm sl sm cl), (la, iA G 12 fla), (ml, iA G 12 fml), (mm, iA G 12 fmm), (sl, iA G 12 fsl), (sm, iA G 12 fsm), (bb, oX0 bpersons bpapers bstamps bversions blines bsteps bsayings bfindings bwarnings bquestions td vd vl gp), (bpapers, oX8 12 6 bpapersc (nI kbpapers)), (bpapersc, iA G 72 fbpapers), (bpersons, oX8 10 2 bpersonsc (nI kbpersons)), (bpersonsc, iA G 20 fbpersons)] (fun r : Int32 => (r = (fml jp) ∧ fbpapers (jp * 6 + 0) = nI je) ∨ (r = (fsl jp) ∧ ¬ fbpapers (jp * 6 + 0) = nI je))
set_option maxHeartbeats 4000000 in
set_option maxRecDepth 100000 in
theorem c_handHour0X (l : Launch) (G : GG) (h0 : Nat) (jp : Nat) (je : Nat) (bb : Nat) (clk : Nat) (fi : Nat) (la : Nat) (ml : Nat) (mm : Nat) (sl : Nat) (sm : Nat) (cl : Int32) (fla : Nat → Int32) (fml : Nat → Int32) (fmm : Nat → Int32) (fsl : Nat → Int32) (fsm : Nat → Int32) (bpersons : Nat) (bpapers : Nat) (bstamps : Nat) (bversions : Nat) (blines : Nat) (bsteps : Nat) (bsayings : Nat) (bfindings : Nat) (bwarnings : Nat) (bquestions : Nat) (td : Int32) (vd : Int32) (vl : Int32) (gp : Int32) (bpapersc : Nat) (kbpapers : Nat) (fbpapers : Nat → Int32) (bpersonsc : Nat) (kbpersons : Nat) (fbpersons : Nat → Int32) (hkbpapers : kbpapers ≤ 12) (hkbpersons : kbpersons ≤ 10) (hsn : (cl = 0 ∧ ¬ fla jp < 0)) (hjp : jp < kbpapers) (hje : je < kbpersons) : K_c_handHour0X l G h0 jp je bb clk fi la ml mm sl sm cl fla fml fmm fsl fsm bpersons bpapers bstamps bversions blines bsteps bsayings bfindings bwarnings bquestions td vd vl gp bpapersc kbpapers fbpapers bpersonsc kbpersons fbpersons := by
  refine MP.start (by decide +kernel) (Nat.le_of_ble_eq_true rfl) ?_
  intro p e s m below meth c ls hC hK hP hD hl
  refine absQ (fun Q0 hQ0 => ?_)
  have hl : lv_has ls 4 [(0, .ref h0), (1, .int (nI jp)), (2, .int (nI je)), (3, .int 0)] := hl
  refine Kan8 hC (fun hx hb hr hml hB hown hlocks hnm => ?_)
  refine lv_aload_n hx hb gX7_handHour_0.1 rfl (lv_at0 hl) ?_
  refine lv_iload_n hx hb gX7_handHour_0.2.1 rfl (lv_at1 hl) ?_
  refine pV hC hK hl hP hD (c_isSentX l G h0 jp bb clk fi la ml mm sl sm cl fla (by omega)) si_X7_90 [0, 1] sm_0_1 fm_0_1 nd_0_1 rfl rfl rfl rfl rfl (Nat.le_of_ble_eq_true rfl) rm_3_1_2 ⟨by first | exact Nat.le_of_ble_eq_true rfl | exact Nat.zero_le _, by first | exact Nat.le_of_ble_eq_true rfl | exact Nat.zero_le _⟩ gX7_handHour_0.2.2.1 (Kors (Keqa fun a2555 => ?_) (Keqa fun a2555 => ?_))
  · refine lv_if_ne (tgt := 10) hx hb gX7_handHour_0.2.2.2.1 (by decide) (fun _ => ?_) (fun c9 => absurd c9 (by decide))
    refine lv_aload_n hx hb gX7_handHour_0.2.2.2.2.2.2.1 rfl (lv_at0 hl) ?_
    refine gf_X7_37 hC rfl hK hP 0 rfl rfl gX7_handHour_0.2.2.2.2.2.2.2.1 ?_
    refine gf_X7_94 hC rfl hK hP 6 rfl rfl gX7_handHour_0.2.2.2.2.2.2.2.2.1 ?_
    refine lv_iload_n hx hb gX7_handHour_0.2.2.2.2.2.2.2.2.2 rfl (lv_at1 hl) ?_
    refine lv_iconst (v := 0) hx hb gX7_handHour_1.1 (by decide) ?_
    refine pV hC hK hl hP hD (c_T_at l G bpapers (nI jp) 0 12 6 bpapersc kbpapers fbpapers (hkbpapers) (by omega) (by omega)) si_X7_60 [7, 8] sm_7_8 fm_7_8 nd_7_8 rfl rfl rfl rfl rfl (Nat.le_of_ble_eq_true rfl) rm_3_1_3 ⟨by first | exact Nat.le_of_ble_eq_true rfl | exact Nat.zero_le _, by first | exact Nat.le_of_ble_eq_true rfl | exact Nat.zero_le _⟩ gX7_handHour_1.2.1 (fun r2556 hr2556 => ?_)
    refine eqi (x1 := fbpapers (jp * 6 + 0)) (hr2556.trans (tatq (by omega) (by omega) (by decide) (by decide) rfl)) ?_
    refine lv_iload_n hx hb gX7_handHour_1.2.2.1 rfl (lv_at2 hl) ?_
    refine lv_icmp_ne (tgt := 46) hx hb gX7_handHour_1.2.2.2.1 (by decide) (fun c_23_2558 => ?_) (fun c_23_2558 => ?_)
    · refine lv_iload_n hx hb gX7_handHour_2.2.2.2.2.2.2.1 rfl (lv_at3 hl) ?_
      refine lv_if_eq (tgt := 72) hx hb gX7_handHour_2.2.2.2.2.2.2.2.1 (by decide) (fun _ => ?_) (fun c9 => absurd (by decide) c9)
      refine lv_aload_n hx hb gX7_handHour_4.1 rfl (lv_at0 hl) ?_
      refine gf_X7_31 hC rfl hK hP 0 rfl rfl gX7_handHour_4.2.1 ?_
      refine lv_iload_n hx hb gX7_handHour_4.2.2.1 rfl (lv_at1 hl) ?_
      refine aldN hC hK hP 4 rfl (k := jp) (by omega) (Nat.le_of_ble_eq_true rfl) (v := fsl jp) rfl gX7_handHour_4.2.2.2.1 ?_
      refine toQ hQ0 ?_
      exact RP (v := fsl jp) hC (Or.inr ⟨rfl, c_23_2558⟩) rfl gX7_handHour_4.2.2.2.2
    · refine lv_iload_n hx hb gX7_handHour_1.2.2.2.2.1 rfl (lv_at3 hl) ?_
      refine lv_if_eq (tgt := 39) hx hb gX7_handHour_1.2.2.2.2.2.1 (by decide) (fun _ => ?_) (fun c9 => absurd (by decide) c9)
      refine lv_aload_n hx hb gX7_handHour_2.2.1 rfl (lv_at0 hl) ?_
      refine gf_X7_25 hC rfl hK hP 0 rfl rfl gX7_handHour_2.2.2.1 ?_
      refine lv_iload_n hx hb gX7_handHour_2.2.2.2.1 rfl (lv_at1 hl) ?_
      refine aldN hC hK hP 2 rfl (k := jp) (by omega) (Nat.le_of_ble_eq_true rfl) (v := fml jp) rfl gX7_handHour_2.2.2.2.2.1 ?_
      refine toQ hQ0 ?_
      exact RP (v := fml jp) hC (Or.inl ⟨rfl, c_23_2558⟩) rfl gX7_handHour_2.2.2.2.2.2.1
  · exact absurd hsn a2555
def K_c_handHour1X (l : Launch) (G : GG) (h0 : Nat) (jp : Nat) (je : Nat) (bb : Nat) (clk : Nat) (fi : Nat) (la : Nat) (ml : Nat) (mm : Nat) (sl : Nat) (sm : Nat) (cl : Int32) (fla : Nat → Int32) (fml : Nat → Int32) (fmm : Nat → Int32) (fsl : Nat → Int32) (fsm : Nat → Int32) (bpersons : Nat) (bpapers : Nat) (bstamps : Nat) (bversions : Nat) (blines : Nat) (bsteps : Nat) (bsayings : Nat) (bfindings : Nat) (bwarnings : Nat) (bquestions : Nat) (td : Int32) (vd : Int32) (vl : Int32) (gp : Int32) (bpapersc : Nat) (kbpapers : Nat) (fbpapers : Nat → Int32) (bpersonsc : Nat) (kbpersons : Nat) (fbpersons : Nat → Int32) : Prop := MP l G yX7_handHour cX7_handHour 4 (some .int) 3 [.ref h0, .int (nI jp), .int (nI je), .int 1] [(h0, oX7 bb clk fi la ml mm sl sm cl), (la, iA G 12 fla), (ml, iA G 12 fml), (mm, iA G 12 fmm), (sl, iA G 12 fsl), (sm, iA G 12 fsm), (bb, oX0 bpersons bpapers bstamps bversions blines bsteps bsayings bfindings bwarnings bquestions td vd vl gp), (bpapers, oX8 12 6 bpapersc (nI kbpapers)), (bpapersc, iA G 72 fbpapers), (bpersons, oX8 10 2 bpersonsc (nI kbpersons)), (bpersonsc, iA G 20 fbpersons)] (fun r : Int32 => (r = (fmm jp) ∧ fbpapers (jp * 6 + 0) = nI je) ∨ (r = (fsm jp + fbpersons (je * 2 + 1)) ∧ ¬ fbpapers (jp * 6 + 0) = nI je))
set_option maxHeartbeats 4000000 in
set_option maxRecDepth 100000 in
theorem c_handHour1X (l : Launch) (G : GG) (h0 : Nat) (jp : Nat) (je : Nat) (bb : Nat) (clk : Nat) (fi : Nat) (la : Nat) (ml : Nat) (mm : Nat) (sl : Nat) (sm : Nat) (cl : Int32) (fla : Nat → Int32) (fml : Nat → Int32) (fmm : Nat → Int32) (fsl : Nat → Int32) (fsm : Nat → Int32) (bpersons : Nat) (bpapers : Nat) (bstamps : Nat) (bversions : Nat) (blines : Nat) (bsteps : Nat) (bsayings : Nat) (bfindings : Nat) (bwarnings : Nat) (bquestions : Nat) (td : Int32) (vd : Int32) (vl : Int32) (gp : Int32) (bpapersc : Nat) (kbpapers : Nat) (fbpapers : Nat → Int32) (bpersonsc : Nat) (kbpersons : Nat) (fbpersons : Nat → Int32) (hkbpapers : kbpapers ≤ 12) (hkbpersons : kbpersons ≤ 10) (hsn : (cl = 0 ∧ ¬ fla jp < 0)) (hjp : jp < kbpapers) (hje : je < kbpersons) : K_c_handHour1X l G h0 jp je bb clk fi la ml mm sl sm cl fla fml fmm fsl fsm bpersons bpapers bstamps bversions blines bsteps bsayings bfindings bwarnings bquestions td vd vl gp bpapersc kbpapers fbpapers bpersonsc kbpersons fbpersons := by
  refine MP.start (by decide +kernel) (Nat.le_of_ble_eq_true rfl) ?_
  intro p e s m below meth c ls hC hK hP hD hl
  refine absQ (fun Q0 hQ0 => ?_)
  have hl : lv_has ls 4 [(0, .ref h0), (1, .int (nI jp)), (2, .int (nI je)), (3, .int 1)] := hl
  refine Kan8 hC (fun hx hb hr hml hB hown hlocks hnm => ?_)
  refine lv_aload_n hx hb gX7_handHour_0.1 rfl (lv_at0 hl) ?_
  refine lv_iload_n hx hb gX7_handHour_0.2.1 rfl (lv_at1 hl) ?_
  refine pV hC hK hl hP hD (c_isSentX l G h0 jp bb clk fi la ml mm sl sm cl fla (by omega)) si_X7_90 [0, 1] sm_0_1 fm_0_1 nd_0_1 rfl rfl rfl rfl rfl (Nat.le_of_ble_eq_true rfl) rm_3_1_2 ⟨by first | exact Nat.le_of_ble_eq_true rfl | exact Nat.zero_le _, by first | exact Nat.le_of_ble_eq_true rfl | exact Nat.zero_le _⟩ gX7_handHour_0.2.2.1 (Kors (Keqa fun a2560 => ?_) (Keqa fun a2560 => ?_))
  · refine lv_if_ne (tgt := 10) hx hb gX7_handHour_0.2.2.2.1 (by decide) (fun _ => ?_) (fun c9 => absurd c9 (by decide))
    refine lv_aload_n hx hb gX7_handHour_0.2.2.2.2.2.2.1 rfl (lv_at0 hl) ?_
    refine gf_X7_37 hC rfl hK hP 0 rfl rfl gX7_handHour_0.2.2.2.2.2.2.2.1 ?_
    refine gf_X7_94 hC rfl hK hP 6 rfl rfl gX7_handHour_0.2.2.2.2.2.2.2.2.1 ?_
    refine lv_iload_n hx hb gX7_handHour_0.2.2.2.2.2.2.2.2.2 rfl (lv_at1 hl) ?_
    refine lv_iconst (v := 0) hx hb gX7_handHour_1.1 (by decide) ?_
    refine pV hC hK hl hP hD (c_T_at l G bpapers (nI jp) 0 12 6 bpapersc kbpapers fbpapers (hkbpapers) (by omega) (by omega)) si_X7_60 [7, 8] sm_7_8 fm_7_8 nd_7_8 rfl rfl rfl rfl rfl (Nat.le_of_ble_eq_true rfl) rm_3_1_3 ⟨by first | exact Nat.le_of_ble_eq_true rfl | exact Nat.zero_le _, by first | exact Nat.le_of_ble_eq_true rfl | exact Nat.zero_le _⟩ gX7_handHour_1.2.1 (fun r2561 hr2561 => ?_)
    refine eqi (x1 := fbpapers (jp * 6 + 0)) (hr2561.trans (tatq (by omega) (by omega) (by decide) (by decide) rfl)) ?_
    refine lv_iload_n hx hb gX7_handHour_1.2.2.1 rfl (lv_at2 hl) ?_
    refine lv_icmp_ne (tgt := 46) hx hb gX7_handHour_1.2.2.2.1 (by decide) (fun c_23_2563 => ?_) (fun c_23_2563 => ?_)
    · refine lv_iload_n hx hb gX7_handHour_2.2.2.2.2.2.2.1 rfl (lv_at3 hl) ?_
      refine lv_if_eq (tgt := 72) hx hb gX7_handHour_2.2.2.2.2.2.2.2.1 (by decide) (fun c9 => absurd c9 (by decide)) (fun _ => ?_)
      refine lv_aload_n hx hb gX7_handHour_2.2.2.2.2.2.2.2.2.1 rfl (lv_at0 hl) ?_
      refine gf_X7_34 hC rfl hK hP 0 rfl rfl gX7_handHour_2.2.2.2.2.2.2.2.2.2 ?_
      refine lv_iload_n hx hb gX7_handHour_3.1 rfl (lv_at1 hl) ?_
      refine aldN hC hK hP 5 rfl (k := jp) (by omega) (Nat.le_of_ble_eq_true rfl) (v := fsm jp) rfl gX7_handHour_3.2.1 ?_
      refine lv_aload_n hx hb gX7_handHour_3.2.2.1 rfl (lv_at0 hl) ?_
      refine gf_X7_37 hC rfl hK hP 0 rfl rfl gX7_handHour_3.2.2.2.1 ?_
      refine gf_X7_97 hC rfl hK hP 6 rfl rfl gX7_handHour_3.2.2.2.2.1 ?_
      refine lv_iload_n hx hb gX7_handHour_3.2.2.2.2.2.1 rfl (lv_at2 hl) ?_
      refine lv_iconst (v := 1) hx hb gX7_handHour_3.2.2.2.2.2.2.1 (by decide) ?_
      refine pV hC hK hl hP hD (c_T_at l G bpersons (nI je) 1 10 2 bpersonsc kbpersons fbpersons (hkbpersons) (by omega) (by omega)) si_X7_60 [9, 10] sm_9_10 fm_9_10 nd_9_10 rfl rfl rfl rfl rfl (Nat.le_of_ble_eq_true rfl) rm_3_1_3 ⟨by first | exact Nat.le_of_ble_eq_true rfl | exact Nat.zero_le _, by first | exact Nat.le_of_ble_eq_true rfl | exact Nat.zero_le _⟩ gX7_handHour_3.2.2.2.2.2.2.2.1 (fun r2564 hr2564 => ?_)
      refine eqi (x1 := fbpersons (je * 2 + 1)) (hr2564.trans (tatq (by omega) (by omega) (by decide) (by decide) rfl)) ?_
      refine lv_iadd hx hb gX7_handHour_3.2.2.2.2.2.2.2.2.1 ?_
      refine lv_goto (tgt := 78) hx hb gX7_handHour_3.2.2.2.2.2.2.2.2.2 (by decide) ?_
      refine toQ hQ0 ?_
      exact RP (v := (fsm jp) + (fbpersons (je * 2 + 1))) hC (Or.inr ⟨rfl, c_23_2563⟩) rfl gX7_handHour_4.2.2.2.2
    · refine lv_iload_n hx hb gX7_handHour_1.2.2.2.2.1 rfl (lv_at3 hl) ?_
      refine lv_if_eq (tgt := 39) hx hb gX7_handHour_1.2.2.2.2.2.1 (by decide) (fun c9 => absurd c9 (by decide)) (fun _ => ?_)
      refine lv_aload_n hx hb gX7_handHour_1.2.2.2.2.2.2.1 rfl (lv_at0 hl) ?_
      refine gf_X7_28 hC rfl hK hP 0 rfl rfl gX7_handHour_1.2.2.2.2.2.2.2.1 ?_
      refine lv_iload_n hx hb gX7_handHour_1.2.2.2.2.2.2.2.2.1 rfl (lv_at1 hl) ?_
      refine aldN hC hK hP 3 rfl (k := jp) (by omega) (Nat.le_of_ble_eq_true rfl) (v := fmm jp) rfl gX7_handHour_1.2.2.2.2.2.2.2.2.2 ?_
      refine lv_goto (tgt := 45) hx hb gX7_handHour_2.1 (by decide) ?_
      refine toQ hQ0 ?_
      exact RP (v := fmm jp) hC (Or.inl ⟨rfl, c_23_2563⟩) rfl gX7_handHour_2.2.2.2.2.2.1
  · exact absurd hsn a2560
def K_c_boundX (l : Launch) (G : GG) (K9 : Nat → Nat → Int → Prop) (V9 : Nat → Prop) (h0 : Nat) (je : Nat) (jp : Nat) (bb : Nat) (sg : Nat) (tf : Int32) (tt9 : Int32) (tl : Int32) (tbv : Int32) (clk : Nat) (fi : Nat) (la : Nat) (ml : Nat) (mm : Nat) (sl : Nat) (sm : Nat) (scl : Int32) (fla : Nat → Int32) (fml : Nat → Int32) (fmm : Nat → Int32) (fsl : Nat → Int32) (fsm : Nat → Int32) (bpersons : Nat) (bpapers : Nat) (bstamps : Nat) (bversions : Nat) (blines : Nat) (bsteps : Nat) (bsayings : Nat) (bfindings : Nat) (bwarnings : Nat) (bquestions : Nat) (td : Int32) (vd : Int32) (vl : Int32) (gp : Int32) (bpapersc : Nat) (kbpapers : Nat) (fbpapers : Nat → Int32) (bpersonsc : Nat) (kbpersons : Nat) (fbpersons : Nat → Int32) (fbstamps : Nat → Int32) (kbstamps : Nat) : Prop := MV l G yX9_bound cX9_bound 4 4 0 0 [.ref h0, .int (nI je), .int (nI jp)] [(h0, oX9 bb sg tf tt9 tl tbv), (sg, oX7 bb clk fi la ml mm sl sm scl), (la, iA G 12 fla), (ml, iA G 12 fml), (mm, iA G 12 fmm), (sl, iA G 12 fsl), (sm, iA G 12 fsm), (bb, oX0 bpersons bpapers bstamps bversions blines bsteps bsayings bfindings bwarnings bquestions td vd vl gp), (bpapers, oX8 12 6 bpapersc (nI kbpapers)), (bpapersc, iA G 72 fbpapers), (bpersons, oX8 10 2 bpersonsc (nI kbpersons)), (bpersonsc, iA G 20 fbpersons)] (fun u : Int32 × Int32 => HIQ K9 fbstamps V9 (fbpapers (jp * 6 + 0)) (fbpapers (jp * 6 + 1)) (fbpersons (je * 2 + 1)) kbstamps jp je u.1 u.2) (fun u : Int32 × Int32 => [(h0, oX9 bb sg u.1 u.2 tl tbv), (sg, oX7 bb clk fi la ml mm sl sm scl), (la, iA G 12 fla), (ml, iA G 12 fml), (mm, iA G 12 fmm), (sl, iA G 12 fsl), (sm, iA G 12 fsm), (bb, oX0 bpersons bpapers bstamps bversions blines bsteps bsayings bfindings bwarnings bquestions td vd vl gp), (bpapers, oX8 12 6 bpapersc (nI kbpapers)), (bpapersc, iA G 72 fbpapers), (bpersons, oX8 10 2 bpersonsc (nI kbpersons)), (bpersonsc, iA G 20 fbpersons)])
set_option maxHeartbeats 4000000 in
set_option maxRecDepth 100000 in
theorem c_boundX (l : Launch) (G : GG) (K9 : Nat → Nat → Int → Prop) (V9 : Nat → Prop) (h0 : Nat) (je : Nat) (jp : Nat) (bb : Nat) (sg : Nat) (tf : Int32) (tt9 : Int32) (tl : Int32) (tbv : Int32) (clk : Nat) (fi : Nat) (la : Nat) (ml : Nat) (mm : Nat) (sl : Nat) (sm : Nat) (scl : Int32) (fla : Nat → Int32) (fml : Nat → Int32) (fmm : Nat → Int32) (fsl : Nat → Int32) (fsm : Nat → Int32) (bpersons : Nat) (bpapers : Nat) (bstamps : Nat) (bversions : Nat) (blines : Nat) (bsteps : Nat) (bsayings : Nat) (bfindings : Nat) (bwarnings : Nat) (bquestions : Nat) (td : Int32) (vd : Int32) (vl : Int32) (gp : Int32) (bpapersc : Nat) (kbpapers : Nat) (fbpapers : Nat → Int32) (bpersonsc : Nat) (kbpersons : Nat) (fbpersons : Nat → Int32) (fbstamps : Nat → Int32) (kbstamps : Nat) (hkbpapers : kbpapers ≤ 12) (hkbpersons : kbpersons ≤ 10) (hsg : SGQ K9 fbstamps V9 kbstamps scl fla fml fmm fsl fsm) (hjp : jp < kbpapers) (hje : je < kbpersons) : K_c_boundX l G K9 V9 h0 je jp bb sg tf tt9 tl tbv clk fi la ml mm sl sm scl fla fml fmm fsl fsm bpersons bpapers bstamps bversions blines bsteps bsayings bfindings bwarnings bquestions td vd vl gp bpapersc kbpapers fbpapers bpersonsc kbpersons fbpersons fbstamps kbstamps := by
  refine MV.start (by decide +kernel) (Nat.le_of_ble_eq_true rfl) ?_
  intro p e s m below meth c A ls hC hK hP hD hS hA hl
  refine absQ (fun Q0 hQ0 => ?_)
  have hl : lv_has ls 4 [(0, .ref h0), (1, .int (nI je)), (2, .int (nI jp))] := hl
  refine Kan8 hC (fun hx hb hr hml hB hown hlocks hnm => ?_)
  refine lv_aload_n hx hb gX9_bound_0.1 rfl (lv_at0 hl) ?_
  refine gf_X9_15 hC rfl hK hP 0 rfl rfl gX9_bound_0.2.1 ?_
  refine lv_iload_n hx hb gX9_bound_0.2.2.1 rfl (lv_at2 hl) ?_
  refine lv_iload_n hx hb gX9_bound_0.2.2.2.1 rfl (lv_at1 hl) ?_
  refine pV hC hK hl hP hD (c_isInHandX l G sg jp je bb clk fi la ml mm sl sm scl fla bpersons bpapers bstamps bversions blines bsteps bsayings bfindings bwarnings bquestions td vd vl gp bpapersc kbpapers fbpapers (hkbpapers) (hjp) (by omega)) si_X9_32 [1, 2, 7, 8, 9] sm_1_2_7_8_9 fm_1_2_7_8_9 nd_1_2_7_8_9 rfl rfl rfl rfl rfl (Nat.le_of_ble_eq_true rfl) rm_4_3_3 ⟨by first | exact Nat.le_of_ble_eq_true rfl | exact Nat.zero_le _, by first | exact Nat.le_of_ble_eq_true rfl | exact Nat.zero_le _⟩ gX9_bound_0.2.2.2.2.1 (Kors (Keqa fun a2567 => ?_) (Keqa fun a2567 => ?_))
  · refine lv_istore_n (lv' := [(3, .int 1), (0, .ref h0), (1, .int (nI je)), (2, .int (nI jp))]) hx hb gX9_bound_0.2.2.2.2.2.1 rfl hl (by decide) rfl (fun ls hl => ?_)
    refine lv_aload_n hx hb gX9_bound_0.2.2.2.2.2.2.1 rfl (lv_at1 hl) ?_
    refine lv_iload_n hx hb gX9_bound_0.2.2.2.2.2.2.2.1 rfl (lv_at0 hl) ?_
    refine lv_if_eq (tgt := 28) hx hb gX9_bound_0.2.2.2.2.2.2.2.2.1 (by decide) (fun c9 => absurd c9 (by decide)) (fun _ => ?_)
    refine lv_aload_n hx hb gX9_bound_0.2.2.2.2.2.2.2.2.2 rfl (lv_at1 hl) ?_
    refine gf_X9_15 hC rfl hK hP 0 rfl rfl gX9_bound_1.1 ?_
    refine lv_iload_n hx hb gX9_bound_1.2.1 rfl (lv_at3 hl) ?_
    refine lv_iload_n hx hb gX9_bound_1.2.2.1 rfl (lv_at2 hl) ?_
    refine lv_iconst (v := 0) hx hb gX9_bound_1.2.2.2.1 (by decide) ?_
    refine pV hC hK hl hP hD (c_handHour0X l G sg jp je bb clk fi la ml mm sl sm scl fla fml fmm fsl fsm bpersons bpapers bstamps bversions blines bsteps bsayings bfindings bwarnings bquestions td vd vl gp bpapersc kbpapers fbpapers bpersonsc kbpersons fbpersons (hkbpapers) (hkbpersons) (a2567.1) (hjp) (hje)) si_X9_38 [1, 2, 3, 4, 5, 6, 7, 8, 9, 10, 11] sm_1_2_3_4_5_6_7_8_9_10_11 fm_1_2_3_4_5_6_7_8_9_10_11 nd_1_2_3_4_5_6_7_8_9_10_11 rfl rfl rfl rfl rfl (Nat.le_of_ble_eq_true rfl) rm_4_3_4 ⟨by first | exact Nat.le_of_ble_eq_true rfl | exact Nat.zero_le _, by first | exact Nat.le_of_ble_eq_true rfl | exact Nat.zero_le _⟩ gX9_bound_1.2.2.2.2.1 (Kors (Keqa fun a2569 => ?_) (Keqa fun a2569 => ?_))
    · refine lv_goto (tgt := 29) hx hb gX9_bound_1.2.2.2.2.2.1 (by decide) ?_
      refine pf_X9_19 hC rfl hK hP hD hS 0 (ws' := [(h0, oX9 bb sg (fml jp) tt9 tl tbv), (sg, oX7 bb clk fi la ml mm sl sm scl), (la, iA G 12 fla), (ml, iA G 12 fml), (mm, iA G 12 fmm), (sl, iA G 12 fsl), (sm, iA G 12 fsm), (bb, oX0 bpersons bpapers bstamps bversions blines bsteps bsayings bfindings bwarnings bquestions td vd vl gp), (bpapers, oX8 12 6 bpapersc (nI kbpapers)), (bpapersc, iA G 72 fbpapers), (bpersons, oX8 10 2 bpersonsc (nI kbpersons)), (bpersonsc, iA G 20 fbpersons)]) rfl (Nat.le_of_ble_eq_true rfl) rfl rfl rfl gX9_bound_1.2.2.2.2.2.2.2.1 (fun H locs hP hD hS => ?_)
      refine lv_aload_n hx hb gX9_bound_1.2.2.2.2.2.2.2.2.1 rfl (lv_at1 hl) ?_
      refine lv_iload_n hx hb gX9_bound_1.2.2.2.2.2.2.2.2.2 rfl (lv_at0 hl) ?_
      refine lv_if_eq (tgt := 50) hx hb gX9_bound_2.1 (by decide) (fun c9 => absurd c9 (by decide)) (fun _ => ?_)
      refine lv_aload_n hx hb gX9_bound_2.2.1 rfl (lv_at1 hl) ?_
      refine gf_X9_15 hC rfl hK hP 0 rfl rfl gX9_bound_2.2.2.1 ?_
      refine lv_iload_n hx hb gX9_bound_2.2.2.2.1 rfl (lv_at3 hl) ?_
      refine lv_iload_n hx hb gX9_bound_2.2.2.2.2.1 rfl (lv_at2 hl) ?_
      refine lv_iconst (v := 1) hx hb gX9_bound_2.2.2.2.2.2.1 (by decide) ?_
      refine pV hC hK hl hP hD (c_handHour1X l G sg jp je bb clk fi la ml mm sl sm scl fla fml fmm fsl fsm bpersons bpapers bstamps bversions blines bsteps bsayings bfindings bwarnings bquestions td vd vl gp bpapersc kbpapers fbpapers bpersonsc kbpersons fbpersons (hkbpapers) (hkbpersons) (a2567.1) (hjp) (hje)) si_X9_38 [1, 2, 3, 4, 5, 6, 7, 8, 9, 10, 11] sm_1_2_3_4_5_6_7_8_9_10_11 fm_1_2_3_4_5_6_7_8_9_10_11 nd_1_2_3_4_5_6_7_8_9_10_11 rfl rfl rfl rfl rfl (Nat.le_of_ble_eq_true rfl) rm_4_3_4 ⟨by first | exact Nat.le_of_ble_eq_true rfl | exact Nat.zero_le _, by first | exact Nat.le_of_ble_eq_true rfl | exact Nat.zero_le _⟩ gX9_bound_2.2.2.2.2.2.2.1 (Kors (Keqa fun a2571 => ?_) (Keqa fun a2571 => ?_))
      · refine lv_goto (tgt := 53) hx hb gX9_bound_2.2.2.2.2.2.2.2.1 (by decide) ?_
        refine pf_X9_23 hC rfl hK hP hD hS 0 (ws' := [(h0, oX9 bb sg (fml jp) (fmm jp) tl tbv), (sg, oX7 bb clk fi la ml mm sl sm scl), (la, iA G 12 fla), (ml, iA G 12 fml), (mm, iA G 12 fmm), (sl, iA G 12 fsl), (sm, iA G 12 fsm), (bb, oX0 bpersons bpapers bstamps bversions blines bsteps bsayings bfindings bwarnings bquestions td vd vl gp), (bpapers, oX8 12 6 bpapersc (nI kbpapers)), (bpapersc, iA G 72 fbpapers), (bpersons, oX8 10 2 bpersonsc (nI kbpersons)), (bpersonsc, iA G 20 fbpersons)]) rfl (Nat.le_of_ble_eq_true rfl) rfl rfl rfl gX9_bound_2.2.2.2.2.2.2.2.2.2 (fun H locs hP hD hS => ?_)
        refine toQ hQ0 ?_
        exact RV hC hP hD hS [0, 1, 2, 3, 4, 5, 6, 7, 8, 9, 10, 11] ((fml jp), (fmm jp)) rfl rfl (by decide) (Or.inl (INQ.made hsg (by omega) a2567.1 a2571)) gX9_bound_3
      · exact absurd a2569 a2571
    · refine lv_goto (tgt := 29) hx hb gX9_bound_1.2.2.2.2.2.1 (by decide) ?_
      refine pf_X9_19 hC rfl hK hP hD hS 0 (ws' := [(h0, oX9 bb sg (fsl jp) tt9 tl tbv), (sg, oX7 bb clk fi la ml mm sl sm scl), (la, iA G 12 fla), (ml, iA G 12 fml), (mm, iA G 12 fmm), (sl, iA G 12 fsl), (sm, iA G 12 fsm), (bb, oX0 bpersons bpapers bstamps bversions blines bsteps bsayings bfindings bwarnings bquestions td vd vl gp), (bpapers, oX8 12 6 bpapersc (nI kbpapers)), (bpapersc, iA G 72 fbpapers), (bpersons, oX8 10 2 bpersonsc (nI kbpersons)), (bpersonsc, iA G 20 fbpersons)]) rfl (Nat.le_of_ble_eq_true rfl) rfl rfl rfl gX9_bound_1.2.2.2.2.2.2.2.1 (fun H locs hP hD hS => ?_)
      refine lv_aload_n hx hb gX9_bound_1.2.2.2.2.2.2.2.2.1 rfl (lv_at1 hl) ?_
      refine lv_iload_n hx hb gX9_bound_1.2.2.2.2.2.2.2.2.2 rfl (lv_at0 hl) ?_
      refine lv_if_eq (tgt := 50) hx hb gX9_bound_2.1 (by decide) (fun c9 => absurd c9 (by decide)) (fun _ => ?_)
      refine lv_aload_n hx hb gX9_bound_2.2.1 rfl (lv_at1 hl) ?_
      refine gf_X9_15 hC rfl hK hP 0 rfl rfl gX9_bound_2.2.2.1 ?_
      refine lv_iload_n hx hb gX9_bound_2.2.2.2.1 rfl (lv_at3 hl) ?_
      refine lv_iload_n hx hb gX9_bound_2.2.2.2.2.1 rfl (lv_at2 hl) ?_
      refine lv_iconst (v := 1) hx hb gX9_bound_2.2.2.2.2.2.1 (by decide) ?_
      refine pV hC hK hl hP hD (c_handHour1X l G sg jp je bb clk fi la ml mm sl sm scl fla fml fmm fsl fsm bpersons bpapers bstamps bversions blines bsteps bsayings bfindings bwarnings bquestions td vd vl gp bpapersc kbpapers fbpapers bpersonsc kbpersons fbpersons (hkbpapers) (hkbpersons) (a2567.1) (hjp) (hje)) si_X9_38 [1, 2, 3, 4, 5, 6, 7, 8, 9, 10, 11] sm_1_2_3_4_5_6_7_8_9_10_11 fm_1_2_3_4_5_6_7_8_9_10_11 nd_1_2_3_4_5_6_7_8_9_10_11 rfl rfl rfl rfl rfl (Nat.le_of_ble_eq_true rfl) rm_4_3_4 ⟨by first | exact Nat.le_of_ble_eq_true rfl | exact Nat.zero_le _, by first | exact Nat.le_of_ble_eq_true rfl | exact Nat.zero_le _⟩ gX9_bound_2.2.2.2.2.2.2.1 (Kors (Keqa fun a2573 => ?_) (Keqa fun a2573 => ?_))
      · exact absurd a2573 a2569
      · refine lv_goto (tgt := 53) hx hb gX9_bound_2.2.2.2.2.2.2.2.1 (by decide) ?_
        refine pf_X9_23 hC rfl hK hP hD hS 0 (ws' := [(h0, oX9 bb sg (fsl jp) (fsm jp + fbpersons (je * 2 + 1)) tl tbv), (sg, oX7 bb clk fi la ml mm sl sm scl), (la, iA G 12 fla), (ml, iA G 12 fml), (mm, iA G 12 fmm), (sl, iA G 12 fsl), (sm, iA G 12 fsm), (bb, oX0 bpersons bpapers bstamps bversions blines bsteps bsayings bfindings bwarnings bquestions td vd vl gp), (bpapers, oX8 12 6 bpapersc (nI kbpapers)), (bpapersc, iA G 72 fbpapers), (bpersons, oX8 10 2 bpersonsc (nI kbpersons)), (bpersonsc, iA G 20 fbpersons)]) rfl (Nat.le_of_ble_eq_true rfl) rfl rfl rfl gX9_bound_2.2.2.2.2.2.2.2.2.2 (fun H locs hP hD hS => ?_)
        refine toQ hQ0 ?_
        exact RV hC hP hD hS [0, 1, 2, 3, 4, 5, 6, 7, 8, 9, 10, 11] ((fsl jp), (fsm jp + fbpersons (je * 2 + 1))) rfl rfl (by decide) (Or.inl (INQ.sent hsg (by omega) a2567.1 a2573 (a2567.2.resolve_left a2573))) gX9_bound_3
  · refine lv_istore_n (lv' := [(3, .int 0), (0, .ref h0), (1, .int (nI je)), (2, .int (nI jp))]) hx hb gX9_bound_0.2.2.2.2.2.1 rfl hl (by decide) rfl (fun ls hl => ?_)
    refine lv_aload_n hx hb gX9_bound_0.2.2.2.2.2.2.1 rfl (lv_at1 hl) ?_
    refine lv_iload_n hx hb gX9_bound_0.2.2.2.2.2.2.2.1 rfl (lv_at0 hl) ?_
    refine lv_if_eq (tgt := 28) hx hb gX9_bound_0.2.2.2.2.2.2.2.2.1 (by decide) (fun _ => ?_) (fun c9 => absurd (by decide) c9)
    refine lv_iconst (v := 0) hx hb gX9_bound_1.2.2.2.2.2.2.1 (by decide) ?_
    refine pf_X9_19 hC rfl hK hP hD hS 0 (ws' := [(h0, oX9 bb sg 0 tt9 tl tbv), (sg, oX7 bb clk fi la ml mm sl sm scl), (la, iA G 12 fla), (ml, iA G 12 fml), (mm, iA G 12 fmm), (sl, iA G 12 fsl), (sm, iA G 12 fsm), (bb, oX0 bpersons bpapers bstamps bversions blines bsteps bsayings bfindings bwarnings bquestions td vd vl gp), (bpapers, oX8 12 6 bpapersc (nI kbpapers)), (bpapersc, iA G 72 fbpapers), (bpersons, oX8 10 2 bpersonsc (nI kbpersons)), (bpersonsc, iA G 20 fbpersons)]) rfl (Nat.le_of_ble_eq_true rfl) rfl rfl rfl gX9_bound_1.2.2.2.2.2.2.2.1 (fun H locs hP hD hS => ?_)
    refine lv_aload_n hx hb gX9_bound_1.2.2.2.2.2.2.2.2.1 rfl (lv_at1 hl) ?_
    refine lv_iload_n hx hb gX9_bound_1.2.2.2.2.2.2.2.2.2 rfl (lv_at0 hl) ?_
    refine lv_if_eq (tgt := 50) hx hb gX9_bound_2.1 (by decide) (fun _ => ?_) (fun c9 => absurd (by decide) c9)
    refine lv_sipush (v := 1000) hx hb gX9_bound_2.2.2.2.2.2.2.2.2.1 (by decide) ?_
    refine pf_X9_23 hC rfl hK hP hD hS 0 (ws' := [(h0, oX9 bb sg 0 1000 tl tbv), (sg, oX7 bb clk fi la ml mm sl sm scl), (la, iA G 12 fla), (ml, iA G 12 fml), (mm, iA G 12 fmm), (sl, iA G 12 fsl), (sm, iA G 12 fsm), (bb, oX0 bpersons bpapers bstamps bversions blines bsteps bsayings bfindings bwarnings bquestions td vd vl gp), (bpapers, oX8 12 6 bpapersc (nI kbpapers)), (bpapersc, iA G 72 fbpapers), (bpersons, oX8 10 2 bpersonsc (nI kbpersons)), (bpersonsc, iA G 20 fbpersons)]) rfl (Nat.le_of_ble_eq_true rfl) rfl rfl rfl gX9_bound_2.2.2.2.2.2.2.2.2.2 (fun H locs hP hD hS => ?_)
    refine toQ hQ0 ?_
    exact RV hC hP hD hS [0, 1, 2, 3, 4, 5, 6, 7, 8, 9, 10, 11] (0, 1000) rfl rfl (by decide) (Or.inr ⟨NIQ.of hsg (by omega) a2567, rfl, rfl⟩) gX9_bound_3
def K_c_impOnesX (l : Launch) (G : GG) (K9 : Nat → Nat → Int → Prop) (V9 : Nat → Prop) (h0 : Nat) (bb : Nat) (sg : Nat) (tf : Int32) (tt9 : Int32) (tl : Int32) (tbv : Int32) (clk : Nat) (fi : Nat) (la : Nat) (ml : Nat) (mm : Nat) (sl : Nat) (sm : Nat) (scl : Int32) (fla : Nat → Int32) (fml : Nat → Int32) (fmm : Nat → Int32) (fsl : Nat → Int32) (fsm : Nat → Int32) (bpersons : Nat) (bpapers : Nat) (bstamps : Nat) (bversions : Nat) (blines : Nat) (bsteps : Nat) (bsayings : Nat) (bfindings : Nat) (bwarnings : Nat) (bquestions : Nat) (td : Int32) (vd : Int32) (vl : Int32) (gp : Int32) (bpapersc : Nat) (kbpapers : Nat) (fbpapers : Nat → Int32) (bpersonsc : Nat) (kbpersons : Nat) (fbpersons : Nat → Int32) (bsayingsc : Nat) (kbsayings : Nat) (fbsayings : Nat → Int32) (fbstamps : Nat → Int32) (kbstamps : Nat) : Prop := MI l G yX9_impossibleOnes cX9_impossibleOnes 6 (some .int) 6 0 0 [.ref h0, .int (IVW fbpapers td vd vl kbpapers)] [(h0, oX9 bb sg tf tt9 tl tbv), (sg, oX7 bb clk fi la ml mm sl sm scl), (la, iA G 12 fla), (ml, iA G 12 fml), (mm, iA G 12 fmm), (sl, iA G 12 fsl), (sm, iA G 12 fsm), (bb, oX0 bpersons bpapers bstamps bversions blines bsteps bsayings bfindings bwarnings bquestions td vd vl gp), (bpapers, oX8 12 6 bpapersc (nI kbpapers)), (bpapersc, iA G 72 fbpapers), (bpersons, oX8 10 2 bpersonsc (nI kbpersons)), (bpersonsc, iA G 20 fbpersons), (bsayings, oX8 16 8 bsayingsc (nI kbsayings)), (bsayingsc, iA G 128 fbsayings)] (fun (r : Int32) (u : Int32 × Int32) => (r = (IMB (fun s9 => CSQ fbsayings fbpapers td vd vl s9 ∧ IMS fbsayings (QSF K9 fbstamps V9 fbpapers fbpersons fbsayings kbstamps) s9) kbsayings))) (fun u : Int32 × Int32 => [(h0, oX9 bb sg u.1 u.2 tl tbv), (sg, oX7 bb clk fi la ml mm sl sm scl), (la, iA G 12 fla), (ml, iA G 12 fml), (mm, iA G 12 fmm), (sl, iA G 12 fsl), (sm, iA G 12 fsm), (bb, oX0 bpersons bpapers bstamps bversions blines bsteps bsayings bfindings bwarnings bquestions td vd vl gp), (bpapers, oX8 12 6 bpapersc (nI kbpapers)), (bpapersc, iA G 72 fbpapers), (bpersons, oX8 10 2 bpersonsc (nI kbpersons)), (bpersonsc, iA G 20 fbpersons), (bsayings, oX8 16 8 bsayingsc (nI kbsayings)), (bsayingsc, iA G 128 fbsayings)])
set_option maxHeartbeats 4000000 in
set_option maxRecDepth 100000 in
theorem c_impOnesX (l : Launch) (G : GG) (K9 : Nat → Nat → Int → Prop) (V9 : Nat → Prop) (h0 : Nat) (bb : Nat) (sg : Nat) (tf : Int32) (tt9 : Int32) (tl : Int32) (tbv : Int32) (clk : Nat) (fi : Nat) (la : Nat) (ml : Nat) (mm : Nat) (sl : Nat) (sm : Nat) (scl : Int32) (fla : Nat → Int32) (fml : Nat → Int32) (fmm : Nat → Int32) (fsl : Nat → Int32) (fsm : Nat → Int32) (bpersons : Nat) (bpapers : Nat) (bstamps : Nat) (bversions : Nat) (blines : Nat) (bsteps : Nat) (bsayings : Nat) (bfindings : Nat) (bwarnings : Nat) (bquestions : Nat) (td : Int32) (vd : Int32) (vl : Int32) (gp : Int32) (bpapersc : Nat) (kbpapers : Nat) (fbpapers : Nat → Int32) (bpersonsc : Nat) (kbpersons : Nat) (fbpersons : Nat → Int32) (bsayingsc : Nat) (kbsayings : Nat) (fbsayings : Nat → Int32) (fbstamps : Nat → Int32) (kbstamps : Nat) (hkbpapers : kbpapers ≤ 12) (hkbpersons : kbpersons ≤ 10) (hkbsayings : kbsayings ≤ 16) (hSP : SPI fbsayings kbsayings kbpapers) (hSO : SPO fbsayings kbsayings kbpersons) (hsg : SGQ K9 fbstamps V9 kbstamps scl fla fml fmm fsl fsm) (hSV : SVL fbstamps kbstamps) : K_c_impOnesX l G K9 V9 h0 bb sg tf tt9 tl tbv clk fi la ml mm sl sm scl fla fml fmm fsl fsm bpersons bpapers bstamps bversions blines bsteps bsayings bfindings bwarnings bquestions td vd vl gp bpapersc kbpapers fbpapers bpersonsc kbpersons fbpersons bsayingsc kbsayings fbsayings fbstamps kbstamps := by
  refine MI.start (by decide +kernel) (Nat.le_of_ble_eq_true rfl) ?_
  intro p e s m below meth c A ls hC hK hP hD hS hA hl
  refine absQ (fun Q0 hQ0 => ?_)
  have hl : lv_has ls 6 [(0, .ref h0), (1, .int (IVW fbpapers td vd vl kbpapers))] := hl
  refine Kan8 hC (fun hx hb hr hml hB hown hlocks hnm => ?_)
  refine lv_iconst (v := 0) hx hb gX9_impossibleOnes_0.1 (by decide) ?_
  refine lv_istore_n (lv' := [(2, .int 0), (0, .ref h0), (1, .int (IVW fbpapers td vd vl kbpapers))]) hx hb gX9_impossibleOnes_0.2.1 rfl hl (by decide) rfl (fun ls hl => ?_)
  refine lv_iconst (v := 0) hx hb gX9_impossibleOnes_0.2.2.1 (by decide) ?_
  refine lv_istore_n (lv' := [(3, .int 0), (2, .int 0), (0, .ref h0), (1, .int (IVW fbpapers td vd vl kbpapers))]) hx hb gX9_impossibleOnes_0.2.2.2.1 rfl hl (by decide) rfl (fun ls hl => ?_)
  have keyP : ∀ (nP kP : Nat) (bi : Int32) (wf : Int32) (wt : Int32) (H : Heap) (locs : List Loc) (ls : Array Slot), kP + nP = kbsayings → (bi = IMB (fun s9 => CSQ fbsayings fbpapers td vd vl s9 ∧ IMS fbsayings (QSF K9 fbstamps V9 fbpapers fbpersons fbsayings kbstamps) s9) kP) → va_PD G A [(h0, oX9 bb sg wf wt tl tbv), (sg, oX7 bb clk fi la ml mm sl sm scl), (la, iA G 12 fla), (ml, iA G 12 fml), (mm, iA G 12 fmm), (sl, iA G 12 fsl), (sm, iA G 12 fsm), (bb, oX0 bpersons bpapers bstamps bversions blines bsteps bsayings bfindings bwarnings bquestions td vd vl gp), (bpapers, oX8 12 6 bpapersc (nI kbpapers)), (bpapersc, iA G 72 fbpapers), (bpersons, oX8 10 2 bpersonsc (nI kbpersons)), (bpersonsc, iA G 20 fbpersons), (bsayings, oX8 16 8 bsayingsc (nI kbsayings)), (bsayingsc, iA G 128 fbsayings)] H → va_S A s.heap H locs → lv_has ls 6 [(3, .int (nI kP)), (2, .int bi), (0, .ref h0), (1, .int (IVW fbpapers td vd vl kbpapers))] → W p l e (RM 6 0 0) s m ([.ref h0, .int (IVW fbpapers td vd vl kbpapers)] : List Value).toArray below meth c H locs 0 0 Q0 (F0 m 4 ls []) := by
    intro nP
    induction nP with
    | zero =>
      intro kP bi wf wt H locs ls hkP hbi hPD hS hl
      refine Kan2 hPD (fun hP hD => ?_)
      obtain rfl : kbsayings = kP := by omega
      have hl : lv_has ls 6 [(3, .int (nI kbsayings)), (2, .int bi), (0, .ref h0), (1, .int (IVW fbpapers td vd vl kbpapers))] := hl
      refine lv_iload_n hx hb gX9_impossibleOnes_0.2.2.2.2.1 rfl (lv_at0 hl) ?_
      refine lv_aload_n hx hb gX9_impossibleOnes_0.2.2.2.2.2.1 rfl (lv_at2 hl) ?_
      refine gf_X9_9 hC rfl hK hP 0 rfl rfl gX9_impossibleOnes_0.2.2.2.2.2.2.1 ?_
      refine gf_X9_42 hC rfl hK hP 7 rfl rfl gX9_impossibleOnes_0.2.2.2.2.2.2.2.1 ?_
      refine pV hC hK hl hP hD (c_T_count l G bsayings 16 8 bsayingsc kbsayings) si_X9_65 [12] sm_12 fm_12 nd_12 rfl rfl rfl rfl rfl (Nat.le_of_ble_eq_true rfl) rm_6_1_1 ⟨by first | exact Nat.le_of_ble_eq_true rfl | exact Nat.zero_le _, by first | exact Nat.le_of_ble_eq_true rfl | exact Nat.zero_le _⟩ gX9_impossibleOnes_0.2.2.2.2.2.2.2.2.1 (Keqr ?_)
      refine lv_icmp_ge (tgt := 141) hx hb gX9_impossibleOnes_0.2.2.2.2.2.2.2.2.2 (by decide) (fun _ => ?_) (fun c9 => absurd (Int32.le_refl _) c9)
      refine lv_iload_n hx hb gX9_impossibleOnes_7.2.2.1 rfl (lv_at1 hl) ?_
      refine toQ hQ0 ?_
      exact RI (v := bi) hC hP hD hS [0, 1, 2, 3, 4, 5, 6, 7, 8, 9, 10, 11, 12, 13] (wf, wt) rfl rfl (by decide) (hbi) rfl gX9_impossibleOnes_7.2.2.2
    | succ nP ihP =>
      intro kP bi wf wt H locs ls hkP hbi hPD hS hl
      refine Kan2 hPD (fun hP hD => ?_)
      refine lv_iload_n hx hb gX9_impossibleOnes_0.2.2.2.2.1 rfl (lv_at0 hl) ?_
      refine lv_aload_n hx hb gX9_impossibleOnes_0.2.2.2.2.2.1 rfl (lv_at2 hl) ?_
      refine gf_X9_9 hC rfl hK hP 0 rfl rfl gX9_impossibleOnes_0.2.2.2.2.2.2.1 ?_
      refine gf_X9_42 hC rfl hK hP 7 rfl rfl gX9_impossibleOnes_0.2.2.2.2.2.2.2.1 ?_
      refine pV hC hK hl hP hD (c_T_count l G bsayings 16 8 bsayingsc kbsayings) si_X9_65 [12] sm_12 fm_12 nd_12 rfl rfl rfl rfl rfl (Nat.le_of_ble_eq_true rfl) rm_6_1_1 ⟨by first | exact Nat.le_of_ble_eq_true rfl | exact Nat.zero_le _, by first | exact Nat.le_of_ble_eq_true rfl | exact Nat.zero_le _⟩ gX9_impossibleOnes_0.2.2.2.2.2.2.2.2.1 (Keqr ?_)
      refine lv_icmp_ge (tgt := 141) hx hb gX9_impossibleOnes_0.2.2.2.2.2.2.2.2.2 (by decide) (fun c9 => absurd c9 (nI_ge (a := kP) (b := kbsayings) (by omega) (by omega))) (fun _ => ?_)
      refine lv_aload_n hx hb gX9_impossibleOnes_1.1 rfl (lv_at2 hl) ?_
      refine gf_X9_9 hC rfl hK hP 0 rfl rfl gX9_impossibleOnes_1.2.1 ?_
      refine lv_iload_n hx hb gX9_impossibleOnes_1.2.2.1 rfl (lv_at0 hl) ?_
      refine lv_iload_n hx hb gX9_impossibleOnes_1.2.2.2.1 rfl (lv_at3 hl) ?_
      refine pV hC hK hl hP hD (c_countsX l G bb kP bpersons bpapers bstamps bversions blines bsteps bsayings bfindings bwarnings bquestions td vd vl gp bsayingsc kbsayings fbsayings bpapersc kbpapers fbpapers (hkbsayings) (hkbpapers) (hSP) (by omega)) si_X9_54 [7, 12, 13, 8, 9] sm_7_12_13_8_9 fm_7_12_13_8_9 nd_7_12_13_8_9 rfl rfl rfl rfl rfl (Nat.le_of_ble_eq_true rfl) rm_6_3_3 ⟨by first | exact Nat.le_of_ble_eq_true rfl | exact Nat.zero_le _, by first | exact Nat.le_of_ble_eq_true rfl | exact Nat.zero_le _⟩ gX9_impossibleOnes_1.2.2.2.2.1 (Kors (Keqa fun a2579 => ?_) (Keqa fun a2579 => ?_))
      · refine lv_if_ne (tgt := 33) hx hb gX9_impossibleOnes_1.2.2.2.2.2.1 (by decide) (fun _ => ?_) (fun c9 => absurd c9 (by decide))
        refine lv_aload_n hx hb gX9_impossibleOnes_1.2.2.2.2.2.2.2.1 rfl (lv_at2 hl) ?_
        refine lv_aload_n hx hb gX9_impossibleOnes_1.2.2.2.2.2.2.2.2.1 rfl (lv_at2 hl) ?_
        refine gf_X9_9 hC rfl hK hP 0 rfl rfl gX9_impossibleOnes_1.2.2.2.2.2.2.2.2.2 ?_
        refine gf_X9_42 hC rfl hK hP 7 rfl rfl gX9_impossibleOnes_2.1 ?_
        refine lv_iload_n hx hb gX9_impossibleOnes_2.2.1 rfl (lv_at0 hl) ?_
        refine lv_iconst (v := 1) hx hb gX9_impossibleOnes_2.2.2.1 (by decide) ?_
        refine pV hC hK hl hP hD (c_T_at l G bsayings (nI kP) 1 16 8 bsayingsc kbsayings fbsayings (hkbsayings) (by omega) (by omega)) si_X9_48 [12, 13] sm_12_13 fm_12_13 nd_12_13 rfl rfl rfl rfl rfl (Nat.le_of_ble_eq_true rfl) rm_6_1_3 ⟨by first | exact Nat.le_of_ble_eq_true rfl | exact Nat.zero_le _, by first | exact Nat.le_of_ble_eq_true rfl | exact Nat.zero_le _⟩ gX9_impossibleOnes_2.2.2.2.1 (fun r2580 hr2580 => ?_)
        obtain ⟨jo, hjo, ejo⟩ := Hs_nat (by omega) (hSO kP (by omega)).1
        refine eqi (x1 := nI jo) ((hr2580.trans (tatq (by omega) (by omega) (by decide) (by decide) rfl)).trans ejo) ?_
        refine lv_aload_n hx hb gX9_impossibleOnes_2.2.2.2.2.1 rfl (lv_at2 hl) ?_
        refine gf_X9_9 hC rfl hK hP 0 rfl rfl gX9_impossibleOnes_2.2.2.2.2.2.1 ?_
        refine gf_X9_42 hC rfl hK hP 7 rfl rfl gX9_impossibleOnes_2.2.2.2.2.2.2.1 ?_
        refine lv_iload_n hx hb gX9_impossibleOnes_2.2.2.2.2.2.2.2.1 rfl (lv_at0 hl) ?_
        refine lv_iconst (v := 2) hx hb gX9_impossibleOnes_2.2.2.2.2.2.2.2.2.1 (by decide) ?_
        refine pV hC hK hl hP hD (c_T_at l G bsayings (nI kP) 2 16 8 bsayingsc kbsayings fbsayings (hkbsayings) (by omega) (by omega)) si_X9_48 [12, 13] sm_12_13 fm_12_13 nd_12_13 rfl rfl rfl rfl rfl (Nat.le_of_ble_eq_true rfl) rm_6_1_3 ⟨by first | exact Nat.le_of_ble_eq_true rfl | exact Nat.zero_le _, by first | exact Nat.le_of_ble_eq_true rfl | exact Nat.zero_le _⟩ gX9_impossibleOnes_2.2.2.2.2.2.2.2.2.2 (fun r2582 hr2582 => ?_)
        obtain ⟨jx, hjx, ejx⟩ := Hs_nat (by omega) (hSP kP (by omega))
        refine eqi (x1 := nI jx) ((hr2582.trans (tatq (by omega) (by omega) (by decide) (by decide) rfl)).trans ejx) ?_
        refine vV (wr := [(bsayings, oX8 16 8 bsayingsc (nI kbsayings)), (bsayingsc, iA G 128 fbsayings)]) hC hK hl hP hD hS hA (c_boundX l G K9 V9 h0 jo jx bb sg wf wt tl tbv clk fi la ml mm sl sm scl fla fml fmm fsl fsm bpersons bpapers bstamps bversions blines bsteps bsayings bfindings bwarnings bquestions td vd vl gp bpapersc kbpapers fbpapers bpersonsc kbpersons fbpersons fbstamps kbstamps (hkbpapers) (hkbpersons) (hsg) (by omega) (by omega)) si_X9_57 [0, 1, 2, 3, 4, 5, 6, 7, 8, 9, 10, 11] [12, 13] sm_0_1_2_3_4_5_6_7_8_9_10_11 fm_0_1_2_3_4_5_6_7_8_9_10_11 nd_0_1_2_3_4_5_6_7_8_9_10_11 sm_12_13 nd_12_13 dj_0_1_2_3_4_5_6_7_8_9_10_11__12_13 rfl rfl rfl rfl rfl (Nat.le_of_ble_eq_true rfl) rm_6_4_4 ⟨Nat.le_of_ble_eq_true rfl, Nat.le_of_ble_eq_true rfl⟩ gX9_impossibleOnes_3.1 (Ktu2 fun tf12586 tt12587 => ?_)
        intro H locs hr2584 hP hD hS
        try dsimp only at hr2584
        refine Kpdr (ws := [(bsayings, oX8 16 8 bsayingsc (nI kbsayings)), (bsayingsc, iA G 128 fbsayings), (h0, oX9 bb sg tf12586 tt12587 tl tbv), (sg, oX7 bb clk fi la ml mm sl sm scl), (la, iA G 12 fla), (ml, iA G 12 fml), (mm, iA G 12 fmm), (sl, iA G 12 fsl), (sm, iA G 12 fsm), (bb, oX0 bpersons bpapers bstamps bversions blines bsteps bsayings bfindings bwarnings bquestions td vd vl gp), (bpapers, oX8 12 6 bpapersc (nI kbpapers)), (bpapersc, iA G 72 fbpapers), (bpersons, oX8 10 2 bpersonsc (nI kbpersons)), (bpersonsc, iA G 20 fbpersons)]) hP hD (fun hP hD => ?_)
        have w2588 := hr2584
        refine lv_aload_n hx hb gX9_impossibleOnes_3.2.1 rfl (lv_at2 hl) ?_
        refine gf_X9_9 hC rfl hK hP 2 rfl rfl gX9_impossibleOnes_3.2.2.1 ?_
        refine gf_X9_42 hC rfl hK hP 9 rfl rfl gX9_impossibleOnes_3.2.2.2.1 ?_
        refine lv_iload_n hx hb gX9_impossibleOnes_3.2.2.2.2.1 rfl (lv_at0 hl) ?_
        refine lv_iconst (v := 3) hx hb gX9_impossibleOnes_3.2.2.2.2.2.1 (by decide) ?_
        refine pV hC hK hl hP hD (c_T_at l G bsayings (nI kP) 3 16 8 bsayingsc kbsayings fbsayings (hkbsayings) (by omega) (by omega)) si_X9_48 [0, 1] sm_0_1 fm_0_1 nd_0_1 rfl rfl rfl rfl rfl (Nat.le_of_ble_eq_true rfl) rm_6_1_3 ⟨by first | exact Nat.le_of_ble_eq_true rfl | exact Nat.zero_le _, by first | exact Nat.le_of_ble_eq_true rfl | exact Nat.zero_le _⟩ gX9_impossibleOnes_3.2.2.2.2.2.2.1 (fun r2589 hr2589 => ?_)
        refine eqi (x1 := fbsayings (kP * 8 + 3)) (hr2589.trans (tatq (by omega) (by omega) (by decide) (by decide) rfl)) ?_
        refine lv_istore (lv' := [(4, .int (fbsayings (kP * 8 + 3))), (3, .int (nI kP)), (2, .int bi), (0, .ref h0), (1, .int (IVW fbpapers td vd vl kbpapers))]) hx hb gX9_impossibleOnes_3.2.2.2.2.2.2.2.1 hl (by decide) rfl (fun ls hl => ?_)
        refine lv_aload_n hx hb gX9_impossibleOnes_3.2.2.2.2.2.2.2.2.1 rfl (lv_at3 hl) ?_
        refine gf_X9_9 hC rfl hK hP 2 rfl rfl gX9_impossibleOnes_3.2.2.2.2.2.2.2.2.2 ?_
        refine gf_X9_42 hC rfl hK hP 9 rfl rfl gX9_impossibleOnes_4.1 ?_
        refine lv_iload_n hx hb gX9_impossibleOnes_4.2.1 rfl (lv_at1 hl) ?_
        refine lv_iconst (v := 5) hx hb gX9_impossibleOnes_4.2.2.1 (by decide) ?_
        refine pV hC hK hl hP hD (c_T_at l G bsayings (nI kP) 5 16 8 bsayingsc kbsayings fbsayings (hkbsayings) (by omega) (by omega)) si_X9_48 [0, 1] sm_0_1 fm_0_1 nd_0_1 rfl rfl rfl rfl rfl (Nat.le_of_ble_eq_true rfl) rm_6_1_3 ⟨by first | exact Nat.le_of_ble_eq_true rfl | exact Nat.zero_le _, by first | exact Nat.le_of_ble_eq_true rfl | exact Nat.zero_le _⟩ gX9_impossibleOnes_4.2.2.2.1 (fun r2591 hr2591 => ?_)
        refine eqi (x1 := fbsayings (kP * 8 + 5)) (hr2591.trans (tatq (by omega) (by omega) (by decide) (by decide) rfl)) ?_
        refine lv_iconst (v := 1) hx hb gX9_impossibleOnes_4.2.2.2.2.1 (by decide) ?_
        refine lv_icmp_ne (tgt := 108) hx hb gX9_impossibleOnes_4.2.2.2.2.2.1 (by decide) (fun c_88_2593 => ?_) (fun c_88_2593 => ?_)
        · refine lv_iload hx hb gX9_impossibleOnes_5.2.2.2.2.1 (lv_at0 hl) ?_
          refine lv_aload_n hx hb gX9_impossibleOnes_5.2.2.2.2.2.1 rfl (lv_at3 hl) ?_
          refine gf_X9_23 hC rfl hK hP 2 rfl rfl gX9_impossibleOnes_5.2.2.2.2.2.2.1 ?_
          refine lv_icmp_lt (tgt := 121) hx hb gX9_impossibleOnes_5.2.2.2.2.2.2.2.1 (by decide) (fun c_114_2594 => ?_) (fun c_114_2594 => ?_)
          · refine lv_iconst (v := 0) hx hb gX9_impossibleOnes_6.1 (by decide) ?_
            refine lv_istore (lv' := [(5, .int 0), (4, .int (fbsayings (kP * 8 + 3))), (3, .int (nI kP)), (2, .int bi), (0, .ref h0), (1, .int (IVW fbpapers td vd vl kbpapers))]) hx hb gX9_impossibleOnes_6.2.1 hl (by decide) rfl (fun ls hl => ?_)
            refine lv_iload hx hb gX9_impossibleOnes_6.2.2.1 (lv_at0 hl) ?_
            refine lv_if_eq (tgt := 135) hx hb gX9_impossibleOnes_6.2.2.2.1 (by decide) (fun _ => ?_) (fun c9 => absurd (by decide) c9)
            refine lv_iinc (v := nI (kP + 1)) (lv' := [(3, .int (nI (kP + 1))), (5, .int 0), (4, .int (fbsayings (kP * 8 + 3))), (2, .int bi), (0, .ref h0), (1, .int (IVW fbpapers td vd vl kbpapers))]) hx hb gX9_impossibleOnes_7.1 hl (k := 2) rfl (nI_1 _) (by decide) rfl (fun ls hl => ?_)
            refine lv_goto (tgt := 4) hx hb gX9_impossibleOnes_7.2.1 (by decide) ?_
            refine Kpds (ws' := [(h0, oX9 bb sg tf12586 tt12587 tl tbv), (sg, oX7 bb clk fi la ml mm sl sm scl), (la, iA G 12 fla), (ml, iA G 12 fml), (mm, iA G 12 fmm), (sl, iA G 12 fsl), (sm, iA G 12 fsm), (bb, oX0 bpersons bpapers bstamps bversions blines bsteps bsayings bfindings bwarnings bquestions td vd vl gp), (bpapers, oX8 12 6 bpapersc (nI kbpapers)), (bpapersc, iA G 72 fbpapers), (bpersons, oX8 10 2 bpersonsc (nI kbpersons)), (bpersonsc, iA G 20 fbpersons), (bsayings, oX8 16 8 bsayingsc (nI kbsayings)), (bsayingsc, iA G 128 fbsayings)]) hP hD [2, 3, 4, 5, 6, 7, 8, 9, 10, 11, 12, 13, 0, 1] fm_2_3_4_5_6_7_8_9_10_11_12_13_0_1 nd_2_3_4_5_6_7_8_9_10_11_12_13_0_1 sm_2_3_4_5_6_7_8_9_10_11_12_13_0_1 (fun hP hD => ?_)
            have hq9 : QSF K9 fbstamps V9 fbpapers fbpersons fbsayings kbstamps kP _ _ := QSF.mk ejx ejo (by omega) (by omega) w2588
            have hst9 : bi = IMB (fun s9 => CSQ fbsayings fbpapers td vd vl s9 ∧ IMS fbsayings (QSF K9 fbstamps V9 fbpapers fbpersons fbsayings kbstamps) s9) (kP + 1) := IMB.n hbi (fun h9 => IMS.no hSV hq9 (fun h9 => h9.elim (fun h8 => c_88_2593 h8.1) (fun h8 => Int32.not_le.mpr c_114_2594 h8.2)) h9.2)
            exact ihP (kP + 1) bi tf12586 tt12587 _ _ _ (by omega) (by first | assumption | exact Or.inl rfl | exact Or.inr rfl | exact rfl) (And.intro hP hD) hS (lv_sub hl [0, 3, 4, 5] rfl)
          · refine lv_iconst (v := 1) hx hb gX9_impossibleOnes_5.2.2.2.2.2.2.2.2.1 (by decide) ?_
            refine lv_goto (tgt := 122) hx hb gX9_impossibleOnes_5.2.2.2.2.2.2.2.2.2 (by decide) ?_
            refine lv_istore (lv' := [(5, .int 1), (4, .int (fbsayings (kP * 8 + 3))), (3, .int (nI kP)), (2, .int bi), (0, .ref h0), (1, .int (IVW fbpapers td vd vl kbpapers))]) hx hb gX9_impossibleOnes_6.2.1 hl (by decide) rfl (fun ls hl => ?_)
            refine lv_iload hx hb gX9_impossibleOnes_6.2.2.1 (lv_at0 hl) ?_
            refine lv_if_eq (tgt := 135) hx hb gX9_impossibleOnes_6.2.2.2.1 (by decide) (fun c9 => absurd c9 (by decide)) (fun _ => ?_)
            refine lv_iload_n hx hb gX9_impossibleOnes_6.2.2.2.2.1 rfl (lv_at3 hl) ?_
            refine lv_iconst (v := 1) hx hb gX9_impossibleOnes_6.2.2.2.2.2.1 (by decide) ?_
            refine lv_iload_n hx hb gX9_impossibleOnes_6.2.2.2.2.2.2.1 rfl (lv_at2 hl) ?_
            refine lv_ishl hx hb gX9_impossibleOnes_6.2.2.2.2.2.2.2.1 ?_
            refine lv_ior hx hb gX9_impossibleOnes_6.2.2.2.2.2.2.2.2.1 ?_
            refine lv_istore_n (lv' := [(2, .int (bi ||| (1 <<< ((nI kP) &&& 31)))), (5, .int 1), (4, .int (fbsayings (kP * 8 + 3))), (3, .int (nI kP)), (0, .ref h0), (1, .int (IVW fbpapers td vd vl kbpapers))]) hx hb gX9_impossibleOnes_6.2.2.2.2.2.2.2.2.2 rfl hl (by decide) rfl (fun ls hl => ?_)
            refine lv_iinc (v := nI (kP + 1)) (lv' := [(3, .int (nI (kP + 1))), (2, .int (bi ||| (1 <<< ((nI kP) &&& 31)))), (5, .int 1), (4, .int (fbsayings (kP * 8 + 3))), (0, .ref h0), (1, .int (IVW fbpapers td vd vl kbpapers))]) hx hb gX9_impossibleOnes_7.1 hl (k := 3) rfl (nI_1 _) (by decide) rfl (fun ls hl => ?_)
            refine lv_goto (tgt := 4) hx hb gX9_impossibleOnes_7.2.1 (by decide) ?_
            refine Kpds (ws' := [(h0, oX9 bb sg tf12586 tt12587 tl tbv), (sg, oX7 bb clk fi la ml mm sl sm scl), (la, iA G 12 fla), (ml, iA G 12 fml), (mm, iA G 12 fmm), (sl, iA G 12 fsl), (sm, iA G 12 fsm), (bb, oX0 bpersons bpapers bstamps bversions blines bsteps bsayings bfindings bwarnings bquestions td vd vl gp), (bpapers, oX8 12 6 bpapersc (nI kbpapers)), (bpapersc, iA G 72 fbpapers), (bpersons, oX8 10 2 bpersonsc (nI kbpersons)), (bpersonsc, iA G 20 fbpersons), (bsayings, oX8 16 8 bsayingsc (nI kbsayings)), (bsayingsc, iA G 128 fbsayings)]) hP hD [2, 3, 4, 5, 6, 7, 8, 9, 10, 11, 12, 13, 0, 1] fm_2_3_4_5_6_7_8_9_10_11_12_13_0_1 nd_2_3_4_5_6_7_8_9_10_11_12_13_0_1 sm_2_3_4_5_6_7_8_9_10_11_12_13_0_1 (fun hP hD => ?_)
            have hq9 : QSF K9 fbstamps V9 fbpapers fbpersons fbsayings kbstamps kP _ _ := QSF.mk ejx ejo (by omega) (by omega) w2588
            have hst9 : bi ||| (1 <<< ((nI kP) &&& 31)) = IMB (fun s9 => CSQ fbsayings fbpapers td vd vl s9 ∧ IMS fbsayings (QSF K9 fbstamps V9 fbpapers fbpersons fbsayings kbstamps) s9) (kP + 1) := IMB.y hbi ⟨a2579, _, _, hq9, Or.inr ⟨c_88_2593, Int32.not_lt.mp c_114_2594⟩⟩
            exact ihP (kP + 1) (bi ||| (1 <<< ((nI kP) &&& 31))) tf12586 tt12587 _ _ _ (by omega) (by first | assumption | exact Or.inl rfl | exact Or.inr rfl | exact rfl) (And.intro hP hD) hS (lv_sub hl [0, 1, 4, 5] rfl)
        · refine lv_iload hx hb gX9_impossibleOnes_4.2.2.2.2.2.2.1 (lv_at0 hl) ?_
          refine lv_aload_n hx hb gX9_impossibleOnes_4.2.2.2.2.2.2.2.1 rfl (lv_at3 hl) ?_
          refine gf_X9_19 hC rfl hK hP 2 rfl rfl gX9_impossibleOnes_4.2.2.2.2.2.2.2.2.1 ?_
          refine lv_icmp_ge (tgt := 104) hx hb gX9_impossibleOnes_4.2.2.2.2.2.2.2.2.2 (by decide) (fun c_97_2595 => ?_) (fun c_97_2595 => ?_)
          · refine lv_iconst (v := 0) hx hb gX9_impossibleOnes_5.2.2.1 (by decide) ?_
            refine lv_goto (tgt := 122) hx hb gX9_impossibleOnes_5.2.2.2.1 (by decide) ?_
            refine lv_istore (lv' := [(5, .int 0), (4, .int (fbsayings (kP * 8 + 3))), (3, .int (nI kP)), (2, .int bi), (0, .ref h0), (1, .int (IVW fbpapers td vd vl kbpapers))]) hx hb gX9_impossibleOnes_6.2.1 hl (by decide) rfl (fun ls hl => ?_)
            refine lv_iload hx hb gX9_impossibleOnes_6.2.2.1 (lv_at0 hl) ?_
            refine lv_if_eq (tgt := 135) hx hb gX9_impossibleOnes_6.2.2.2.1 (by decide) (fun _ => ?_) (fun c9 => absurd (by decide) c9)
            refine lv_iinc (v := nI (kP + 1)) (lv' := [(3, .int (nI (kP + 1))), (5, .int 0), (4, .int (fbsayings (kP * 8 + 3))), (2, .int bi), (0, .ref h0), (1, .int (IVW fbpapers td vd vl kbpapers))]) hx hb gX9_impossibleOnes_7.1 hl (k := 2) rfl (nI_1 _) (by decide) rfl (fun ls hl => ?_)
            refine lv_goto (tgt := 4) hx hb gX9_impossibleOnes_7.2.1 (by decide) ?_
            refine Kpds (ws' := [(h0, oX9 bb sg tf12586 tt12587 tl tbv), (sg, oX7 bb clk fi la ml mm sl sm scl), (la, iA G 12 fla), (ml, iA G 12 fml), (mm, iA G 12 fmm), (sl, iA G 12 fsl), (sm, iA G 12 fsm), (bb, oX0 bpersons bpapers bstamps bversions blines bsteps bsayings bfindings bwarnings bquestions td vd vl gp), (bpapers, oX8 12 6 bpapersc (nI kbpapers)), (bpapersc, iA G 72 fbpapers), (bpersons, oX8 10 2 bpersonsc (nI kbpersons)), (bpersonsc, iA G 20 fbpersons), (bsayings, oX8 16 8 bsayingsc (nI kbsayings)), (bsayingsc, iA G 128 fbsayings)]) hP hD [2, 3, 4, 5, 6, 7, 8, 9, 10, 11, 12, 13, 0, 1] fm_2_3_4_5_6_7_8_9_10_11_12_13_0_1 nd_2_3_4_5_6_7_8_9_10_11_12_13_0_1 sm_2_3_4_5_6_7_8_9_10_11_12_13_0_1 (fun hP hD => ?_)
            have hq9 : QSF K9 fbstamps V9 fbpapers fbpersons fbsayings kbstamps kP _ _ := QSF.mk ejx ejo (by omega) (by omega) w2588
            have hst9 : bi = IMB (fun s9 => CSQ fbsayings fbpapers td vd vl s9 ∧ IMS fbsayings (QSF K9 fbstamps V9 fbpapers fbpersons fbsayings kbstamps) s9) (kP + 1) := IMB.n hbi (fun h9 => IMS.no hSV hq9 (fun h9 => h9.elim (fun h8 => Int32.not_lt.mpr c_97_2595 h8.2) (fun h8 => h8.1 c_88_2593)) h9.2)
            exact ihP (kP + 1) bi tf12586 tt12587 _ _ _ (by omega) (by first | assumption | exact Or.inl rfl | exact Or.inr rfl | exact rfl) (And.intro hP hD) hS (lv_sub hl [0, 3, 4, 5] rfl)
          · refine lv_iconst (v := 1) hx hb gX9_impossibleOnes_5.1 (by decide) ?_
            refine lv_goto (tgt := 122) hx hb gX9_impossibleOnes_5.2.1 (by decide) ?_
            refine lv_istore (lv' := [(5, .int 1), (4, .int (fbsayings (kP * 8 + 3))), (3, .int (nI kP)), (2, .int bi), (0, .ref h0), (1, .int (IVW fbpapers td vd vl kbpapers))]) hx hb gX9_impossibleOnes_6.2.1 hl (by decide) rfl (fun ls hl => ?_)
            refine lv_iload hx hb gX9_impossibleOnes_6.2.2.1 (lv_at0 hl) ?_
            refine lv_if_eq (tgt := 135) hx hb gX9_impossibleOnes_6.2.2.2.1 (by decide) (fun c9 => absurd c9 (by decide)) (fun _ => ?_)
            refine lv_iload_n hx hb gX9_impossibleOnes_6.2.2.2.2.1 rfl (lv_at3 hl) ?_
            refine lv_iconst (v := 1) hx hb gX9_impossibleOnes_6.2.2.2.2.2.1 (by decide) ?_
            refine lv_iload_n hx hb gX9_impossibleOnes_6.2.2.2.2.2.2.1 rfl (lv_at2 hl) ?_
            refine lv_ishl hx hb gX9_impossibleOnes_6.2.2.2.2.2.2.2.1 ?_
            refine lv_ior hx hb gX9_impossibleOnes_6.2.2.2.2.2.2.2.2.1 ?_
            refine lv_istore_n (lv' := [(2, .int (bi ||| (1 <<< ((nI kP) &&& 31)))), (5, .int 1), (4, .int (fbsayings (kP * 8 + 3))), (3, .int (nI kP)), (0, .ref h0), (1, .int (IVW fbpapers td vd vl kbpapers))]) hx hb gX9_impossibleOnes_6.2.2.2.2.2.2.2.2.2 rfl hl (by decide) rfl (fun ls hl => ?_)
            refine lv_iinc (v := nI (kP + 1)) (lv' := [(3, .int (nI (kP + 1))), (2, .int (bi ||| (1 <<< ((nI kP) &&& 31)))), (5, .int 1), (4, .int (fbsayings (kP * 8 + 3))), (0, .ref h0), (1, .int (IVW fbpapers td vd vl kbpapers))]) hx hb gX9_impossibleOnes_7.1 hl (k := 3) rfl (nI_1 _) (by decide) rfl (fun ls hl => ?_)
            refine lv_goto (tgt := 4) hx hb gX9_impossibleOnes_7.2.1 (by decide) ?_
            refine Kpds (ws' := [(h0, oX9 bb sg tf12586 tt12587 tl tbv), (sg, oX7 bb clk fi la ml mm sl sm scl), (la, iA G 12 fla), (ml, iA G 12 fml), (mm, iA G 12 fmm), (sl, iA G 12 fsl), (sm, iA G 12 fsm), (bb, oX0 bpersons bpapers bstamps bversions blines bsteps bsayings bfindings bwarnings bquestions td vd vl gp), (bpapers, oX8 12 6 bpapersc (nI kbpapers)), (bpapersc, iA G 72 fbpapers), (bpersons, oX8 10 2 bpersonsc (nI kbpersons)), (bpersonsc, iA G 20 fbpersons), (bsayings, oX8 16 8 bsayingsc (nI kbsayings)), (bsayingsc, iA G 128 fbsayings)]) hP hD [2, 3, 4, 5, 6, 7, 8, 9, 10, 11, 12, 13, 0, 1] fm_2_3_4_5_6_7_8_9_10_11_12_13_0_1 nd_2_3_4_5_6_7_8_9_10_11_12_13_0_1 sm_2_3_4_5_6_7_8_9_10_11_12_13_0_1 (fun hP hD => ?_)
            have hq9 : QSF K9 fbstamps V9 fbpapers fbpersons fbsayings kbstamps kP _ _ := QSF.mk ejx ejo (by omega) (by omega) w2588
            have hst9 : bi ||| (1 <<< ((nI kP) &&& 31)) = IMB (fun s9 => CSQ fbsayings fbpapers td vd vl s9 ∧ IMS fbsayings (QSF K9 fbstamps V9 fbpapers fbpersons fbsayings kbstamps) s9) (kP + 1) := IMB.y hbi ⟨a2579, _, _, hq9, Or.inl ⟨c_88_2593, Int32.not_le.mp c_97_2595⟩⟩
            exact ihP (kP + 1) (bi ||| (1 <<< ((nI kP) &&& 31))) tf12586 tt12587 _ _ _ (by omega) (by first | assumption | exact Or.inl rfl | exact Or.inr rfl | exact rfl) (And.intro hP hD) hS (lv_sub hl [0, 1, 4, 5] rfl)
      · refine lv_if_ne (tgt := 33) hx hb gX9_impossibleOnes_1.2.2.2.2.2.1 (by decide) (fun c9 => absurd (by decide) c9) (fun _ => ?_)
        refine lv_goto (tgt := 135) hx hb gX9_impossibleOnes_1.2.2.2.2.2.2.1 (by decide) ?_
        refine lv_iinc (v := nI (kP + 1)) (lv' := [(3, .int (nI (kP + 1))), (2, .int bi), (0, .ref h0), (1, .int (IVW fbpapers td vd vl kbpapers))]) hx hb gX9_impossibleOnes_7.1 hl (k := 0) rfl (nI_1 _) (by decide) rfl (fun ls hl => ?_)
        refine lv_goto (tgt := 4) hx hb gX9_impossibleOnes_7.2.1 (by decide) ?_
        have hst9 : bi = IMB (fun s9 => CSQ fbsayings fbpapers td vd vl s9 ∧ IMS fbsayings (QSF K9 fbstamps V9 fbpapers fbpersons fbsayings kbstamps) s9) (kP + 1) := IMB.n hbi (fun h9 => a2579 h9.1)
        exact ihP (kP + 1) bi wf wt _ _ _ (by omega) (by first | assumption | exact Or.inl rfl | exact Or.inr rfl | exact rfl) (And.intro hP hD) hS (lv_sub hl [0, 1, 2, 3] rfl)
  exact keyP kbsayings 0 0 tf tt9 _ _ _ (by omega) (by first | assumption | exact Or.inl rfl | exact Or.inr rfl | exact rfl) (And.intro hP hD) hS (lv_sub hl [0, 1, 2, 3] rfl)
def K_p_impossible (l : Launch) (G : GG) (h0 : Nat) (bb : Nat) (kk : Nat) (ikp : Int32) (sg : Nat) (do9 : Nat) (ru9 : Nat) (ta9 : Nat) (tp9 : Nat) (ro9 : Nat) (ho9 : Nat) (de9 : Nat) (clk : Nat) (fi : Nat) (la : Nat) (ml : Nat) (mm : Nat) (sl : Nat) (sm : Nat) (cl : Int32) (clm : Nat) (fclm : Nat → Int32) (ffi : Nat → Int32) (fla : Nat → Int32) (fml : Nat → Int32) (fmm : Nat → Int32) (fsl : Nat → Int32) (fsm : Nat → Int32) (tf : Int32) (tt9 : Int32) (tl : Int32) (tbv : Int32) (bpersons : Nat) (bpapers : Nat) (bstamps : Nat) (bversions : Nat) (blines : Nat) (bsteps : Nat) (bsayings : Nat) (bfindings : Nat) (bwarnings : Nat) (bquestions : Nat) (td : Int32) (vd : Int32) (vl : Int32) (gp : Int32) (bpapersc : Nat) (kbpapers : Nat) (fbpapers : Nat → Int32) (bpersonsc : Nat) (kbpersons : Nat) (fbpersons : Nat → Int32) (bsayingsc : Nat) (kbsayings : Nat) (fbsayings : Nat → Int32) (bstampsc : Nat) (kbstamps : Nat) (fbstamps : Nat → Int32) : Prop := MI l G yX11_impossible cX11_impossible 2 (some .int) 8 0 0 [.ref h0] [(h0, oX11 bb kk ikp sg do9 ru9 ta9 tp9 ro9 ho9 de9), (sg, oX7 bb clk fi la ml mm sl sm cl), (clk, oX1 clm), (clm, iA G 36 fclm), (fi, iA G 12 ffi), (la, iA G 12 fla), (ml, iA G 12 fml), (mm, iA G 12 fmm), (sl, iA G 12 fsl), (sm, iA G 12 fsm), (ta9, oX9 bb sg tf tt9 tl tbv), (bb, oX0 bpersons bpapers bstamps bversions blines bsteps bsayings bfindings bwarnings bquestions td vd vl gp), (bpapers, oX8 12 6 bpapersc (nI kbpapers)), (bpapersc, iA G 72 fbpapers), (bpersons, oX8 10 2 bpersonsc (nI kbpersons)), (bpersonsc, iA G 20 fbpersons), (bsayings, oX8 16 8 bsayingsc (nI kbsayings)), (bsayingsc, iA G 128 fbsayings), (bstamps, oX8 24 3 bstampsc (nI kbstamps)), (bstampsc, iA G 72 fbstamps)] (fun (r : Int32) (u : Int32 × (Nat → Int32) × (Nat → Int32) × (Nat → Int32) × (Nat → Int32) × (Nat → Int32) × (Nat → Int32) × (Nat → Int32) × Int32 × Int32) => (r = (IMB (fun s9 => CSQ fbsayings fbpapers td vd vl s9 ∧ IMS fbsayings (QSF (KST fbstamps (VPP (IVW fbpapers td vd vl kbpapers)) gp.toInt kbstamps) fbstamps (VPP (IVW fbpapers td vd vl kbpapers)) fbpapers fbpersons fbsayings kbstamps) s9) kbsayings)) ∧ (u.1 = 0 ∨ u.1 = 1)) (fun u : Int32 × (Nat → Int32) × (Nat → Int32) × (Nat → Int32) × (Nat → Int32) × (Nat → Int32) × (Nat → Int32) × (Nat → Int32) × Int32 × Int32 => [(h0, oX11 bb kk ikp sg do9 ru9 ta9 tp9 ro9 ho9 de9), (sg, oX7 bb clk fi la ml mm sl sm u.1), (clk, oX1 clm), (clm, iA G 36 u.2.1), (fi, iA G 12 u.2.2.1), (la, iA G 12 u.2.2.2.1), (ml, iA G 12 u.2.2.2.2.1), (mm, iA G 12 u.2.2.2.2.2.1), (sl, iA G 12 u.2.2.2.2.2.2.1), (sm, iA G 12 u.2.2.2.2.2.2.2.1), (ta9, oX9 bb sg u.2.2.2.2.2.2.2.2.1 u.2.2.2.2.2.2.2.2.2 tl tbv), (bb, oX0 bpersons bpapers bstamps bversions blines bsteps bsayings bfindings bwarnings bquestions td vd vl gp), (bpapers, oX8 12 6 bpapersc (nI kbpapers)), (bpapersc, iA G 72 fbpapers), (bpersons, oX8 10 2 bpersonsc (nI kbpersons)), (bpersonsc, iA G 20 fbpersons), (bsayings, oX8 16 8 bsayingsc (nI kbsayings)), (bsayingsc, iA G 128 fbsayings), (bstamps, oX8 24 3 bstampsc (nI kbstamps)), (bstampsc, iA G 72 fbstamps)])
set_option maxHeartbeats 4000000 in
set_option maxRecDepth 100000 in
theorem p_impossible (l : Launch) (G : GG) (h0 : Nat) (bb : Nat) (kk : Nat) (ikp : Int32) (sg : Nat) (do9 : Nat) (ru9 : Nat) (ta9 : Nat) (tp9 : Nat) (ro9 : Nat) (ho9 : Nat) (de9 : Nat) (clk : Nat) (fi : Nat) (la : Nat) (ml : Nat) (mm : Nat) (sl : Nat) (sm : Nat) (cl : Int32) (clm : Nat) (fclm : Nat → Int32) (ffi : Nat → Int32) (fla : Nat → Int32) (fml : Nat → Int32) (fmm : Nat → Int32) (fsl : Nat → Int32) (fsm : Nat → Int32) (tf : Int32) (tt9 : Int32) (tl : Int32) (tbv : Int32) (bpersons : Nat) (bpapers : Nat) (bstamps : Nat) (bversions : Nat) (blines : Nat) (bsteps : Nat) (bsayings : Nat) (bfindings : Nat) (bwarnings : Nat) (bquestions : Nat) (td : Int32) (vd : Int32) (vl : Int32) (gp : Int32) (bpapersc : Nat) (kbpapers : Nat) (fbpapers : Nat → Int32) (bpersonsc : Nat) (kbpersons : Nat) (fbpersons : Nat → Int32) (bsayingsc : Nat) (kbsayings : Nat) (fbsayings : Nat → Int32) (bstampsc : Nat) (kbstamps : Nat) (fbstamps : Nat → Int32) (hkbpapers : kbpapers ≤ 12) (hkbpersons : kbpersons ≤ 10) (hkbsayings : kbsayings ≤ 16) (hkbstamps : kbstamps ≤ 24) (hcl : cl = 0 ∨ cl = 1) (hSV : SVL fbstamps kbstamps) (hgp : GPR gp) (hSP : SPI fbsayings kbsayings kbpapers) (hSO : SPO fbsayings kbsayings kbpersons) : K_p_impossible l G h0 bb kk ikp sg do9 ru9 ta9 tp9 ro9 ho9 de9 clk fi la ml mm sl sm cl clm fclm ffi fla fml fmm fsl fsm tf tt9 tl tbv bpersons bpapers bstamps bversions blines bsteps bsayings bfindings bwarnings bquestions td vd vl gp bpapersc kbpapers fbpapers bpersonsc kbpersons fbpersons bsayingsc kbsayings fbsayings bstampsc kbstamps fbstamps := by
  refine MI.start (by decide +kernel) (Nat.le_of_ble_eq_true rfl) ?_
  intro p e s m below meth c A ls hC hK hP hD hS hA hl
  refine absQ (fun Q0 hQ0 => ?_)
  have hl : lv_has ls 2 [(0, .ref h0)] := hl
  refine Kan8 hC (fun hx hb hr hml hB hown hlocks hnm => ?_)
  refine lv_aload_n hx hb gX11_impossible_0.1 rfl (lv_at0 hl) ?_
  refine gf_X11_15 hC rfl hK hP 0 rfl rfl gX11_impossible_0.2.1 ?_
  refine pV hC hK hl hP hD (c_inViewX l G bb bpersons bpapers bstamps bversions blines bsteps bsayings bfindings bwarnings bquestions td vd vl gp bpapersc kbpapers fbpapers (hkbpapers)) si_X11_97 [11, 12, 13] sm_11_12_13 fm_11_12_13 nd_11_12_13 rfl rfl rfl rfl rfl (Nat.le_of_ble_eq_true rfl) rm_8_3_6 ⟨by first | exact Nat.le_of_ble_eq_true rfl | exact Nat.zero_le _, by first | exact Nat.le_of_ble_eq_true rfl | exact Nat.zero_le _⟩ gX11_impossible_0.2.2.1 (Keqr ?_)
  refine lv_istore_n (lv' := [(1, .int (IVW fbpapers td vd vl kbpapers)), (0, .ref h0)]) hx hb gX11_impossible_0.2.2.2.1 rfl hl (by decide) rfl (fun ls hl => ?_)
  refine lv_aload_n hx hb gX11_impossible_0.2.2.2.2.1 rfl (lv_at1 hl) ?_
  refine gf_X11_28 hC rfl hK hP 0 rfl rfl gX11_impossible_0.2.2.2.2.2.1 ?_
  refine lv_iload_n hx hb gX11_impossible_0.2.2.2.2.2.2.1 rfl (lv_at0 hl) ?_
  refine vV (wr := [(h0, oX11 bb kk ikp sg do9 ru9 ta9 tp9 ro9 ho9 de9), (ta9, oX9 bb sg tf tt9 tl tbv), (bpapers, oX8 12 6 bpapersc (nI kbpapers)), (bpapersc, iA G 72 fbpapers), (bpersons, oX8 10 2 bpersonsc (nI kbpersons)), (bpersonsc, iA G 20 fbpersons), (bsayings, oX8 16 8 bsayingsc (nI kbsayings)), (bsayingsc, iA G 128 fbsayings)]) hC hK hl hP hD hS hA (c_lookX l G sg (IVW fbpapers td vd vl kbpapers) bb clk fi la ml mm sl sm cl clm fclm ffi fla fml fmm fsl fsm bpersons bpapers bstamps bversions blines bsteps bsayings bfindings bwarnings bquestions td vd vl gp bstampsc kbstamps fbstamps (hkbstamps) (hSV) (hgp)) si_X11_183 [1, 2, 3, 4, 5, 6, 7, 8, 9, 11, 18, 19] [0, 10, 12, 13, 14, 15, 16, 17] sm_1_2_3_4_5_6_7_8_9_11_18_19 fm_1_2_3_4_5_6_7_8_9_11_18_19 nd_1_2_3_4_5_6_7_8_9_11_18_19 sm_0_10_12_13_14_15_16_17 nd_0_10_12_13_14_15_16_17 dj_1_2_3_4_5_6_7_8_9_11_18_19__0_10_12_13_14_15_16_17 rfl rfl rfl rfl rfl (Nat.le_of_ble_eq_true rfl) rm_8_5_4 ⟨Nat.le_of_ble_eq_true rfl, Nat.le_of_ble_eq_true rfl⟩ gX11_impossible_0.2.2.2.2.2.2.2.1 (Ktu8 fun cl12600 gclm2601 gfi2602 gla2603 gml2604 gmm2605 gsl2606 gsm2607 => ?_)
  intro H locs hr2598 hP hD hS
  try dsimp only at hr2598
  refine Kpdr (ws := [(h0, oX11 bb kk ikp sg do9 ru9 ta9 tp9 ro9 ho9 de9), (ta9, oX9 bb sg tf tt9 tl tbv), (bpapers, oX8 12 6 bpapersc (nI kbpapers)), (bpapersc, iA G 72 fbpapers), (bpersons, oX8 10 2 bpersonsc (nI kbpersons)), (bpersonsc, iA G 20 fbpersons), (bsayings, oX8 16 8 bsayingsc (nI kbsayings)), (bsayingsc, iA G 128 fbsayings), (sg, oX7 bb clk fi la ml mm sl sm cl12600), (clk, oX1 clm), (clm, iA G 36 gclm2601), (fi, iA G 12 gfi2602), (la, iA G 12 gla2603), (ml, iA G 12 gml2604), (mm, iA G 12 gmm2605), (sl, iA G 12 gsl2606), (sm, iA G 12 gsm2607), (bb, oX0 bpersons bpapers bstamps bversions blines bsteps bsayings bfindings bwarnings bquestions td vd vl gp), (bstamps, oX8 24 3 bstampsc (nI kbstamps)), (bstampsc, iA G 72 fbstamps)]) hP hD (fun hP hD => ?_)
  have w2608 := hr2598
  have hsg9 : SGQ (KST fbstamps (VPP (IVW fbpapers td vd vl kbpapers)) gp.toInt kbstamps) fbstamps (VPP (IVW fbpapers td vd vl kbpapers)) kbstamps cl12600 gla2603 gml2604 gmm2605 gsl2606 gsm2607 := LKP.sgq w2608.2 (by omega)
  refine lv_aload_n hx hb gX11_impossible_0.2.2.2.2.2.2.2.2.1 rfl (lv_at1 hl) ?_
  refine gf_X11_51 hC rfl hK hP 0 rfl rfl gX11_impossible_0.2.2.2.2.2.2.2.2.2 ?_
  refine lv_iload_n hx hb gX11_impossible_1.1 rfl (lv_at0 hl) ?_
  refine iV (wr := [(h0, oX11 bb kk ikp sg do9 ru9 ta9 tp9 ro9 ho9 de9), (clk, oX1 clm), (clm, iA G 36 gclm2601), (fi, iA G 12 gfi2602), (bstamps, oX8 24 3 bstampsc (nI kbstamps)), (bstampsc, iA G 72 fbstamps)]) hC hK hl hP hD hS hA (c_impOnesX l G (KST fbstamps (VPP (IVW fbpapers td vd vl kbpapers)) gp.toInt kbstamps) (VPP (IVW fbpapers td vd vl kbpapers)) ta9 bb sg tf tt9 tl tbv clk fi la ml mm sl sm cl12600 gla2603 gml2604 gmm2605 gsl2606 gsm2607 bpersons bpapers bstamps bversions blines bsteps bsayings bfindings bwarnings bquestions td vd vl gp bpapersc kbpapers fbpapers bpersonsc kbpersons fbpersons bsayingsc kbsayings fbsayings fbstamps kbstamps (hkbpapers) (hkbpersons) (hkbsayings) (hSP) (hSO) (hsg9) (hSV)) si_X11_268 [1, 8, 12, 13, 14, 15, 16, 17, 2, 3, 4, 5, 6, 7] [0, 9, 10, 11, 18, 19] sm_1_8_12_13_14_15_16_17_2_3_4_5_6_7 fm_1_8_12_13_14_15_16_17_2_3_4_5_6_7 nd_1_8_12_13_14_15_16_17_2_3_4_5_6_7 sm_0_9_10_11_18_19 nd_0_9_10_11_18_19 dj_1_8_12_13_14_15_16_17_2_3_4_5_6_7__0_9_10_11_18_19 rfl rfl rfl rfl rfl (Nat.le_of_ble_eq_true rfl) rm_8_6_6 ⟨Nat.le_of_ble_eq_true rfl, Nat.le_of_ble_eq_true rfl⟩ gX11_impossible_1.2.1 (fun r2609 => Ktu2 fun tf12611 tt12612 => ?_)
  intro H locs hr2609 hP hD hS
  try dsimp only at hr2609
  refine Kpdr (ws := [(h0, oX11 bb kk ikp sg do9 ru9 ta9 tp9 ro9 ho9 de9), (clk, oX1 clm), (clm, iA G 36 gclm2601), (fi, iA G 12 gfi2602), (bstamps, oX8 24 3 bstampsc (nI kbstamps)), (bstampsc, iA G 72 fbstamps), (ta9, oX9 bb sg tf12611 tt12612 tl tbv), (sg, oX7 bb clk fi la ml mm sl sm cl12600), (la, iA G 12 gla2603), (ml, iA G 12 gml2604), (mm, iA G 12 gmm2605), (sl, iA G 12 gsl2606), (sm, iA G 12 gsm2607), (bb, oX0 bpersons bpapers bstamps bversions blines bsteps bsayings bfindings bwarnings bquestions td vd vl gp), (bpapers, oX8 12 6 bpapersc (nI kbpapers)), (bpapersc, iA G 72 fbpapers), (bpersons, oX8 10 2 bpersonsc (nI kbpersons)), (bpersonsc, iA G 20 fbpersons), (bsayings, oX8 16 8 bsayingsc (nI kbsayings)), (bsayingsc, iA G 128 fbsayings)]) hP hD (fun hP hD => ?_)
  obtain rfl := hr2609
  refine toQ hQ0 ?_
  exact RI (v := (IMB (fun s9 => CSQ fbsayings fbpapers td vd vl s9 ∧ IMS fbsayings (QSF (KST fbstamps (VPP (IVW fbpapers td vd vl kbpapers)) gp.toInt kbstamps) fbstamps (VPP (IVW fbpapers td vd vl kbpapers)) fbpapers fbpersons fbsayings kbstamps) s9) kbsayings)) hC hP hD hS [0, 7, 1, 2, 3, 8, 9, 10, 11, 12, 6, 13, 14, 15, 16, 17, 18, 19, 4, 5] (cl12600, gclm2601, gfi2602, gla2603, gml2604, gmm2605, gsl2606, gsm2607, tf12611, tt12612) rfl rfl (by decide) (⟨rfl, w2608.1⟩) rfl gX11_impossible_1.2.2
def K_c_isOnX (l : Launch) (G : GG) (h0 : Nat) (js : Nat) (je : Nat) (jp : Nat) (bb : Nat) (sg : Nat) (tf : Int32) (tt9 : Int32) (tl : Int32) (tbv : Int32) (bpersons : Nat) (bpapers : Nat) (bstamps : Nat) (bversions : Nat) (blines : Nat) (bsteps : Nat) (bsayings : Nat) (bfindings : Nat) (bwarnings : Nat) (bquestions : Nat) (td : Int32) (vd : Int32) (vl : Int32) (gp : Int32) (bsayingsc : Nat) (kbsayings : Nat) (fbsayings : Nat → Int32) (bpapersc : Nat) (kbpapers : Nat) (fbpapers : Nat → Int32) : Prop := MP l G yX9_isOn cX9_isOn 5 (some .boolean) 4 [.ref h0, .int (nI js), .int (nI je), .int (nI jp), .int (IVW fbpapers td vd vl kbpapers)] [(h0, oX9 bb sg tf tt9 tl tbv), (bb, oX0 bpersons bpapers bstamps bversions blines bsteps bsayings bfindings bwarnings bquestions td vd vl gp), (bsayings, oX8 16 8 bsayingsc (nI kbsayings)), (bsayingsc, iA G 128 fbsayings), (bpapers, oX8 12 6 bpapersc (nI kbpapers)), (bpapersc, iA G 72 fbpapers)] (fun r : Int32 => (r = 1 ∧ (PWS fbsayings fbpapers td vd vl je jp) js) ∨ (r = 0 ∧ ¬ (PWS fbsayings fbpapers td vd vl je jp) js))
set_option maxHeartbeats 4000000 in
set_option maxRecDepth 100000 in
theorem c_isOnX (l : Launch) (G : GG) (h0 : Nat) (js : Nat) (je : Nat) (jp : Nat) (bb : Nat) (sg : Nat) (tf : Int32) (tt9 : Int32) (tl : Int32) (tbv : Int32) (bpersons : Nat) (bpapers : Nat) (bstamps : Nat) (bversions : Nat) (blines : Nat) (bsteps : Nat) (bsayings : Nat) (bfindings : Nat) (bwarnings : Nat) (bquestions : Nat) (td : Int32) (vd : Int32) (vl : Int32) (gp : Int32) (bsayingsc : Nat) (kbsayings : Nat) (fbsayings : Nat → Int32) (bpapersc : Nat) (kbpapers : Nat) (fbpapers : Nat → Int32) (hkbsayings : kbsayings ≤ 16) (hkbpapers : kbpapers ≤ 12) (hSP : SPI fbsayings kbsayings kbpapers) (hjs : js < kbsayings) : K_c_isOnX l G h0 js je jp bb sg tf tt9 tl tbv bpersons bpapers bstamps bversions blines bsteps bsayings bfindings bwarnings bquestions td vd vl gp bsayingsc kbsayings fbsayings bpapersc kbpapers fbpapers := by
  refine MP.start (by decide +kernel) (Nat.le_of_ble_eq_true rfl) ?_
  intro p e s m below meth c ls hC hK hP hD hl
  refine absQ (fun Q0 hQ0 => ?_)
  have hl : lv_has ls 5 [(0, .ref h0), (1, .int (nI js)), (2, .int (nI je)), (3, .int (nI jp)), (4, .int (IVW fbpapers td vd vl kbpapers))] := hl
  refine Kan8 hC (fun hx hb hr hml hB hown hlocks hnm => ?_)
  refine lv_aload_n hx hb gX9_isOn_0.1 rfl (lv_at0 hl) ?_
  refine gf_X9_9 hC rfl hK hP 0 rfl rfl gX9_isOn_0.2.1 ?_
  refine gf_X9_42 hC rfl hK hP 1 rfl rfl gX9_isOn_0.2.2.1 ?_
  refine lv_iload_n hx hb gX9_isOn_0.2.2.2.1 rfl (lv_at1 hl) ?_
  refine lv_iconst (v := 1) hx hb gX9_isOn_0.2.2.2.2.1 (by decide) ?_
  refine pV hC hK hl hP hD (c_T_at l G bsayings (nI js) 1 16 8 bsayingsc kbsayings fbsayings (hkbsayings) (by omega) (by omega)) si_X9_48 [2, 3] sm_2_3 fm_2_3 nd_2_3 rfl rfl rfl rfl rfl (Nat.le_of_ble_eq_true rfl) rm_4_1_3 ⟨by first | exact Nat.le_of_ble_eq_true rfl | exact Nat.zero_le _, by first | exact Nat.le_of_ble_eq_true rfl | exact Nat.zero_le _⟩ gX9_isOn_0.2.2.2.2.2.1 (fun r2614 hr2614 => ?_)
  refine eqi (x1 := fbsayings (js * 8 + 1)) (hr2614.trans (tatq (by omega) (by omega) (by decide) (by decide) rfl)) ?_
  refine lv_iload_n hx hb gX9_isOn_0.2.2.2.2.2.2.1 rfl (lv_at2 hl) ?_
  refine lv_icmp_ne (tgt := 49) hx hb gX9_isOn_0.2.2.2.2.2.2.2.1 (by decide) (fun c_13_2616 => ?_) (fun c_13_2616 => ?_)
  · refine lv_iconst (v := 0) hx hb gX9_isOn_2.2.2.2.2.1 (by decide) ?_
    refine toQ hQ0 ?_
    exact RP (v := 0) hC (Or.inr ⟨rfl, fun h9 => c_13_2616 h9.1⟩) (by decide +kernel) gX9_isOn_2.2.2.2.2.2
  · refine lv_aload_n hx hb gX9_isOn_0.2.2.2.2.2.2.2.2.1 rfl (lv_at0 hl) ?_
    refine gf_X9_9 hC rfl hK hP 0 rfl rfl gX9_isOn_0.2.2.2.2.2.2.2.2.2 ?_
    refine gf_X9_42 hC rfl hK hP 1 rfl rfl gX9_isOn_1.1 ?_
    refine lv_iload_n hx hb gX9_isOn_1.2.1 rfl (lv_at1 hl) ?_
    refine lv_iconst (v := 2) hx hb gX9_isOn_1.2.2.1 (by decide) ?_
    refine pV hC hK hl hP hD (c_T_at l G bsayings (nI js) 2 16 8 bsayingsc kbsayings fbsayings (hkbsayings) (by omega) (by omega)) si_X9_48 [2, 3] sm_2_3 fm_2_3 nd_2_3 rfl rfl rfl rfl rfl (Nat.le_of_ble_eq_true rfl) rm_4_1_3 ⟨by first | exact Nat.le_of_ble_eq_true rfl | exact Nat.zero_le _, by first | exact Nat.le_of_ble_eq_true rfl | exact Nat.zero_le _⟩ gX9_isOn_1.2.2.2.1 (fun r2617 hr2617 => ?_)
    refine eqi (x1 := fbsayings (js * 8 + 2)) (hr2617.trans (tatq (by omega) (by omega) (by decide) (by decide) rfl)) ?_
    refine lv_iload_n hx hb gX9_isOn_1.2.2.2.2.1 rfl (lv_at3 hl) ?_
    refine lv_icmp_ne (tgt := 49) hx hb gX9_isOn_1.2.2.2.2.2.1 (by decide) (fun c_29_2619 => ?_) (fun c_29_2619 => ?_)
    · refine lv_iconst (v := 0) hx hb gX9_isOn_2.2.2.2.2.1 (by decide) ?_
      refine toQ hQ0 ?_
      exact RP (v := 0) hC (Or.inr ⟨rfl, fun h9 => c_29_2619 h9.2.1⟩) (by decide +kernel) gX9_isOn_2.2.2.2.2.2
    · refine lv_aload_n hx hb gX9_isOn_1.2.2.2.2.2.2.1 rfl (lv_at0 hl) ?_
      refine gf_X9_9 hC rfl hK hP 0 rfl rfl gX9_isOn_1.2.2.2.2.2.2.2.1 ?_
      refine lv_iload_n hx hb gX9_isOn_1.2.2.2.2.2.2.2.2.1 rfl (lv_at1 hl) ?_
      refine lv_iload hx hb gX9_isOn_1.2.2.2.2.2.2.2.2.2 (lv_at4 hl) ?_
      refine pV hC hK hl hP hD (c_countsX l G bb js bpersons bpapers bstamps bversions blines bsteps bsayings bfindings bwarnings bquestions td vd vl gp bsayingsc kbsayings fbsayings bpapersc kbpapers fbpapers (hkbsayings) (hkbpapers) (hSP) (hjs)) si_X9_54 [1, 2, 3, 4, 5] sm_1_2_3_4_5 fm_1_2_3_4_5 nd_1_2_3_4_5 rfl rfl rfl rfl rfl (Nat.le_of_ble_eq_true rfl) rm_4_3_3 ⟨by first | exact Nat.le_of_ble_eq_true rfl | exact Nat.zero_le _, by first | exact Nat.le_of_ble_eq_true rfl | exact Nat.zero_le _⟩ gX9_isOn_2.1 (Kors (Keqa fun a2621 => ?_) (Keqa fun a2621 => ?_))
      · refine lv_if_eq (tgt := 49) hx hb gX9_isOn_2.2.1 (by decide) (fun c9 => absurd c9 (by decide)) (fun _ => ?_)
        refine lv_iconst (v := 1) hx hb gX9_isOn_2.2.2.1 (by decide) ?_
        refine lv_goto (tgt := 50) hx hb gX9_isOn_2.2.2.2.1 (by decide) ?_
        refine toQ hQ0 ?_
        exact RP (v := 1) hC (Or.inl ⟨rfl, c_13_2616, c_29_2619, a2621⟩) (by decide +kernel) gX9_isOn_2.2.2.2.2.2
      · refine lv_if_eq (tgt := 49) hx hb gX9_isOn_2.2.1 (by decide) (fun _ => ?_) (fun c9 => absurd (by decide) c9)
        refine lv_iconst (v := 0) hx hb gX9_isOn_2.2.2.2.2.1 (by decide) ?_
        refine toQ hQ0 ?_
        exact RP (v := 0) hC (Or.inr ⟨rfl, fun h9 => a2621 h9.2.2⟩) (by decide +kernel) gX9_isOn_2.2.2.2.2.2
def K_c_weightAgainstX (l : Launch) (G : GG) (h0 : Nat) (hh : Int32) (je : Nat) (jp : Nat) (bb : Nat) (sg : Nat) (tf : Int32) (tt9 : Int32) (tl : Int32) (tbv : Int32) (bpersons : Nat) (bpapers : Nat) (bstamps : Nat) (bversions : Nat) (blines : Nat) (bsteps : Nat) (bsayings : Nat) (bfindings : Nat) (bwarnings : Nat) (bquestions : Nat) (td : Int32) (vd : Int32) (vl : Int32) (gp : Int32) (bsayingsc : Nat) (kbsayings : Nat) (fbsayings : Nat → Int32) (bpapersc : Nat) (kbpapers : Nat) (fbpapers : Nat → Int32) : Prop := MP l G yX9_weightAgainst cX9_weightAgainst 9 (some .int) 5 [.ref h0, .int hh, .int (nI je), .int (nI jp), .int (IVW fbpapers td vd vl kbpapers)] [(h0, oX9 bb sg tf tt9 tl tbv), (bb, oX0 bpersons bpapers bstamps bversions blines bsteps bsayings bfindings bwarnings bquestions td vd vl gp), (bsayings, oX8 16 8 bsayingsc (nI kbsayings)), (bsayingsc, iA G 128 fbsayings), (bpapers, oX8 12 6 bpapersc (nI kbpapers)), (bpapersc, iA G 72 fbpapers)] (fun r : Int32 => r = (WGS (PWS fbsayings fbpapers td vd vl je jp) fbsayings hh kbsayings))
set_option maxHeartbeats 4000000 in
set_option maxRecDepth 100000 in
theorem c_weightAgainstX (l : Launch) (G : GG) (h0 : Nat) (hh : Int32) (je : Nat) (jp : Nat) (bb : Nat) (sg : Nat) (tf : Int32) (tt9 : Int32) (tl : Int32) (tbv : Int32) (bpersons : Nat) (bpapers : Nat) (bstamps : Nat) (bversions : Nat) (blines : Nat) (bsteps : Nat) (bsayings : Nat) (bfindings : Nat) (bwarnings : Nat) (bquestions : Nat) (td : Int32) (vd : Int32) (vl : Int32) (gp : Int32) (bsayingsc : Nat) (kbsayings : Nat) (fbsayings : Nat → Int32) (bpapersc : Nat) (kbpapers : Nat) (fbpapers : Nat → Int32) (hkbsayings : kbsayings ≤ 16) (hkbpapers : kbpapers ≤ 12) (hSP : SPI fbsayings kbsayings kbpapers) : K_c_weightAgainstX l G h0 hh je jp bb sg tf tt9 tl tbv bpersons bpapers bstamps bversions blines bsteps bsayings bfindings bwarnings bquestions td vd vl gp bsayingsc kbsayings fbsayings bpapersc kbpapers fbpapers := by
  refine MP.start (by decide +kernel) (Nat.le_of_ble_eq_true rfl) ?_
  intro p e s m below meth c ls hC hK hP hD hl
  refine absQ (fun Q0 hQ0 => ?_)
  have hl : lv_has ls 9 [(0, .ref h0), (1, .int hh), (2, .int (nI je)), (3, .int (nI jp)), (4, .int (IVW fbpapers td vd vl kbpapers))] := hl
  refine Kan8 hC (fun hx hb hr hml hB hown hlocks hnm => ?_)
  refine lv_iconst (v := 0) hx hb gX9_weightAgainst_0.1 (by decide) ?_
  refine lv_istore (lv' := [(5, .int 0), (0, .ref h0), (1, .int hh), (2, .int (nI je)), (3, .int (nI jp)), (4, .int (IVW fbpapers td vd vl kbpapers))]) hx hb gX9_weightAgainst_0.2.1 hl (by decide) rfl (fun ls hl => ?_)
  refine lv_iconst (v := 0) hx hb gX9_weightAgainst_0.2.2.1 (by decide) ?_
  refine lv_istore (lv' := [(6, .int 0), (5, .int 0), (0, .ref h0), (1, .int hh), (2, .int (nI je)), (3, .int (nI jp)), (4, .int (IVW fbpapers td vd vl kbpapers))]) hx hb gX9_weightAgainst_0.2.2.2.1 hl (by decide) rfl (fun ls hl => ?_)
  have keyP : ∀ (nP kP : Nat) (su : Int32) (ls : Array Slot), kP + nP = kbsayings → (su = WGS (PWS fbsayings fbpapers td vd vl je jp) fbsayings hh kP) → lv_has ls 9 [(6, .int (nI kP)), (5, .int su), (0, .ref h0), (1, .int hh), (2, .int (nI je)), (3, .int (nI jp)), (4, .int (IVW fbpapers td vd vl kbpapers))] → W p l e (RM 5 0 0) s m ([.ref h0, .int hh, .int (nI je), .int (nI jp), .int (IVW fbpapers td vd vl kbpapers)] : List Value).toArray below meth c s.heap [] 0 0 Q0 (F0 m 6 ls []) := by
    intro nP
    induction nP with
    | zero =>
      intro kP su ls hkP hsu hl
      obtain rfl : kbsayings = kP := by omega
      have hl : lv_has ls 9 [(6, .int (nI kbsayings)), (5, .int su), (0, .ref h0), (1, .int hh), (2, .int (nI je)), (3, .int (nI jp)), (4, .int (IVW fbpapers td vd vl kbpapers))] := hl
      refine lv_iload hx hb gX9_weightAgainst_0.2.2.2.2.1 (lv_at0 hl) ?_
      refine lv_aload_n hx hb gX9_weightAgainst_0.2.2.2.2.2.1 rfl (lv_at2 hl) ?_
      refine gf_X9_9 hC rfl hK hP 0 rfl rfl gX9_weightAgainst_0.2.2.2.2.2.2.1 ?_
      refine gf_X9_42 hC rfl hK hP 1 rfl rfl gX9_weightAgainst_0.2.2.2.2.2.2.2.1 ?_
      refine pV hC hK hl hP hD (c_T_count l G bsayings 16 8 bsayingsc kbsayings) si_X9_65 [2] sm_2 fm_2 nd_2 rfl rfl rfl rfl rfl (Nat.le_of_ble_eq_true rfl) rm_5_1_1 ⟨by first | exact Nat.le_of_ble_eq_true rfl | exact Nat.zero_le _, by first | exact Nat.le_of_ble_eq_true rfl | exact Nat.zero_le _⟩ gX9_weightAgainst_0.2.2.2.2.2.2.2.2.1 (Keqr ?_)
      refine lv_icmp_ge (tgt := 116) hx hb gX9_weightAgainst_0.2.2.2.2.2.2.2.2.2 (by decide) (fun _ => ?_) (fun c9 => absurd (Int32.le_refl _) c9)
      refine lv_iload hx hb gX9_weightAgainst_5.2.2.2.2.2.2.1 (lv_at1 hl) ?_
      refine toQ hQ0 ?_
      exact RP (v := su) hC (hsu) rfl gX9_weightAgainst_5.2.2.2.2.2.2.2
    | succ nP ihP =>
      intro kP su ls hkP hsu hl
      refine lv_iload hx hb gX9_weightAgainst_0.2.2.2.2.1 (lv_at0 hl) ?_
      refine lv_aload_n hx hb gX9_weightAgainst_0.2.2.2.2.2.1 rfl (lv_at2 hl) ?_
      refine gf_X9_9 hC rfl hK hP 0 rfl rfl gX9_weightAgainst_0.2.2.2.2.2.2.1 ?_
      refine gf_X9_42 hC rfl hK hP 1 rfl rfl gX9_weightAgainst_0.2.2.2.2.2.2.2.1 ?_
      refine pV hC hK hl hP hD (c_T_count l G bsayings 16 8 bsayingsc kbsayings) si_X9_65 [2] sm_2 fm_2 nd_2 rfl rfl rfl rfl rfl (Nat.le_of_ble_eq_true rfl) rm_5_1_1 ⟨by first | exact Nat.le_of_ble_eq_true rfl | exact Nat.zero_le _, by first | exact Nat.le_of_ble_eq_true rfl | exact Nat.zero_le _⟩ gX9_weightAgainst_0.2.2.2.2.2.2.2.2.1 (Keqr ?_)
      refine lv_icmp_ge (tgt := 116) hx hb gX9_weightAgainst_0.2.2.2.2.2.2.2.2.2 (by decide) (fun c9 => absurd c9 (nI_ge (a := kP) (b := kbsayings) (by omega) (by omega))) (fun _ => ?_)
      refine lv_aload_n hx hb gX9_weightAgainst_1.1 rfl (lv_at2 hl) ?_
      refine lv_iload hx hb gX9_weightAgainst_1.2.1 (lv_at0 hl) ?_
      refine lv_iload_n hx hb gX9_weightAgainst_1.2.2.1 rfl (lv_at4 hl) ?_
      refine lv_iload_n hx hb gX9_weightAgainst_1.2.2.2.1 rfl (lv_at5 hl) ?_
      refine lv_iload hx hb gX9_weightAgainst_1.2.2.2.2.1 (lv_at6 hl) ?_
      refine pV hC hK hl hP hD (c_isOnX l G h0 kP je jp bb sg tf tt9 tl tbv bpersons bpapers bstamps bversions blines bsteps bsayings bfindings bwarnings bquestions td vd vl gp bsayingsc kbsayings fbsayings bpapersc kbpapers fbpapers (hkbsayings) (hkbpapers) (hSP) (by omega)) si_X9_73 [0, 1, 2, 3, 4, 5] sm_0_1_2_3_4_5 fm_0_1_2_3_4_5 nd_0_1_2_3_4_5 rfl rfl rfl rfl rfl (Nat.le_of_ble_eq_true rfl) rm_5_4_5 ⟨by first | exact Nat.le_of_ble_eq_true rfl | exact Nat.zero_le _, by first | exact Nat.le_of_ble_eq_true rfl | exact Nat.zero_le _⟩ gX9_weightAgainst_1.2.2.2.2.2.1 (Kors (Keqa fun a2627 => ?_) (Keqa fun a2627 => ?_))
      · refine lv_if_ne (tgt := 37) hx hb gX9_weightAgainst_1.2.2.2.2.2.2.1 (by decide) (fun _ => ?_) (fun c9 => absurd c9 (by decide))
        refine lv_aload_n hx hb gX9_weightAgainst_1.2.2.2.2.2.2.2.2.1 rfl (lv_at2 hl) ?_
        refine gf_X9_9 hC rfl hK hP 0 rfl rfl gX9_weightAgainst_1.2.2.2.2.2.2.2.2.2 ?_
        refine gf_X9_42 hC rfl hK hP 1 rfl rfl gX9_weightAgainst_2.1 ?_
        refine lv_iload hx hb gX9_weightAgainst_2.2.1 (lv_at0 hl) ?_
        refine lv_iconst (v := 5) hx hb gX9_weightAgainst_2.2.2.1 (by decide) ?_
        refine pV hC hK hl hP hD (c_T_at l G bsayings (nI kP) 5 16 8 bsayingsc kbsayings fbsayings (hkbsayings) (by omega) (by omega)) si_X9_48 [2, 3] sm_2_3 fm_2_3 nd_2_3 rfl rfl rfl rfl rfl (Nat.le_of_ble_eq_true rfl) rm_5_1_3 ⟨by first | exact Nat.le_of_ble_eq_true rfl | exact Nat.zero_le _, by first | exact Nat.le_of_ble_eq_true rfl | exact Nat.zero_le _⟩ gX9_weightAgainst_2.2.2.2.1 (fun r2628 hr2628 => ?_)
        refine eqi (x1 := fbsayings (kP * 8 + 5)) (hr2628.trans (tatq (by omega) (by omega) (by decide) (by decide) rfl)) ?_
        refine lv_iconst (v := 1) hx hb gX9_weightAgainst_2.2.2.2.2.1 (by decide) ?_
        refine lv_icmp_ne (tgt := 58) hx hb gX9_weightAgainst_2.2.2.2.2.2.1 (by decide) (fun c_51_2630 => ?_) (fun c_51_2630 => ?_)
        · refine lv_iconst (v := 0) hx hb gX9_weightAgainst_2.2.2.2.2.2.2.2.2.1 (by decide) ?_
          refine lv_istore (lv' := [(7, .int 0), (6, .int (nI kP)), (5, .int su), (0, .ref h0), (1, .int hh), (2, .int (nI je)), (3, .int (nI jp)), (4, .int (IVW fbpapers td vd vl kbpapers))]) hx hb gX9_weightAgainst_2.2.2.2.2.2.2.2.2.2 hl (by decide) rfl (fun ls hl => ?_)
          refine lv_aload_n hx hb gX9_weightAgainst_3.1 rfl (lv_at3 hl) ?_
          refine gf_X9_9 hC rfl hK hP 0 rfl rfl gX9_weightAgainst_3.2.1 ?_
          refine gf_X9_42 hC rfl hK hP 1 rfl rfl gX9_weightAgainst_3.2.2.1 ?_
          refine lv_iload hx hb gX9_weightAgainst_3.2.2.2.1 (lv_at1 hl) ?_
          refine lv_iconst (v := 3) hx hb gX9_weightAgainst_3.2.2.2.2.1 (by decide) ?_
          refine pV hC hK hl hP hD (c_T_at l G bsayings (nI kP) 3 16 8 bsayingsc kbsayings fbsayings (hkbsayings) (by omega) (by omega)) si_X9_48 [2, 3] sm_2_3 fm_2_3 nd_2_3 rfl rfl rfl rfl rfl (Nat.le_of_ble_eq_true rfl) rm_5_1_3 ⟨by first | exact Nat.le_of_ble_eq_true rfl | exact Nat.zero_le _, by first | exact Nat.le_of_ble_eq_true rfl | exact Nat.zero_le _⟩ gX9_weightAgainst_3.2.2.2.2.2.1 (fun r2631 hr2631 => ?_)
          refine eqi (x1 := fbsayings (kP * 8 + 3)) (hr2631.trans (tatq (by omega) (by omega) (by decide) (by decide) rfl)) ?_
          refine lv_iload_n hx hb gX9_weightAgainst_3.2.2.2.2.2.2.1 rfl (lv_at4 hl) ?_
          refine lv_icmp_ge (tgt := 82) hx hb gX9_weightAgainst_3.2.2.2.2.2.2.2.1 (by decide) (fun c_75_2633 => ?_) (fun c_75_2633 => ?_)
          · refine lv_iconst (v := 0) hx hb gX9_weightAgainst_4.1 (by decide) ?_
            refine lv_istore (lv' := [(8, .int 0), (7, .int 0), (6, .int (nI kP)), (5, .int su), (0, .ref h0), (1, .int hh), (2, .int (nI je)), (3, .int (nI jp)), (4, .int (IVW fbpapers td vd vl kbpapers))]) hx hb gX9_weightAgainst_4.2.1 hl (by decide) rfl (fun ls hl => ?_)
            refine lv_iload hx hb gX9_weightAgainst_4.2.2.1 (lv_at1 hl) ?_
            refine lv_iload hx hb gX9_weightAgainst_4.2.2.2.1 (lv_at0 hl) ?_
            refine lv_icmp_ne (tgt := 110) hx hb gX9_weightAgainst_4.2.2.2.2.1 (by decide) (fun c9 => absurd (by decide) c9) (fun _ => ?_)
            refine lv_iload hx hb gX9_weightAgainst_4.2.2.2.2.2.1 (lv_at3 hl) ?_
            refine lv_aload_n hx hb gX9_weightAgainst_4.2.2.2.2.2.2.1 rfl (lv_at4 hl) ?_
            refine gf_X9_9 hC rfl hK hP 0 rfl rfl gX9_weightAgainst_4.2.2.2.2.2.2.2.1 ?_
            refine gf_X9_42 hC rfl hK hP 1 rfl rfl gX9_weightAgainst_4.2.2.2.2.2.2.2.2.1 ?_
            refine lv_iload hx hb gX9_weightAgainst_4.2.2.2.2.2.2.2.2.2 (lv_at2 hl) ?_
            refine lv_iconst (v := 4) hx hb gX9_weightAgainst_5.1 (by decide) ?_
            refine pV hC hK hl hP hD (c_T_at l G bsayings (nI kP) 4 16 8 bsayingsc kbsayings fbsayings (hkbsayings) (by omega) (by omega)) si_X9_48 [2, 3] sm_2_3 fm_2_3 nd_2_3 rfl rfl rfl rfl rfl (Nat.le_of_ble_eq_true rfl) rm_5_1_3 ⟨by first | exact Nat.le_of_ble_eq_true rfl | exact Nat.zero_le _, by first | exact Nat.le_of_ble_eq_true rfl | exact Nat.zero_le _⟩ gX9_weightAgainst_5.2.1 (fun r2634 hr2634 => ?_)
            refine eqi (x1 := fbsayings (kP * 8 + 4)) (hr2634.trans (tatq (by omega) (by omega) (by decide) (by decide) rfl)) ?_
            refine lv_iadd hx hb gX9_weightAgainst_5.2.2.1 ?_
            refine lv_istore (lv' := [(5, .int (su + (fbsayings (kP * 8 + 4)))), (8, .int 0), (7, .int 0), (6, .int (nI kP)), (0, .ref h0), (1, .int hh), (2, .int (nI je)), (3, .int (nI jp)), (4, .int (IVW fbpapers td vd vl kbpapers))]) hx hb gX9_weightAgainst_5.2.2.2.1 hl (by decide) rfl (fun ls hl => ?_)
            refine lv_iinc (v := nI (kP + 1)) (lv' := [(6, .int (nI (kP + 1))), (5, .int (su + (fbsayings (kP * 8 + 4)))), (8, .int 0), (7, .int 0), (0, .ref h0), (1, .int hh), (2, .int (nI je)), (3, .int (nI jp)), (4, .int (IVW fbpapers td vd vl kbpapers))]) hx hb gX9_weightAgainst_5.2.2.2.2.1 hl (k := 3) rfl (nI_1 _) (by decide) rfl (fun ls hl => ?_)
            refine lv_goto (tgt := 6) hx hb gX9_weightAgainst_5.2.2.2.2.2.1 (by decide) ?_
            have hst9 : su + (fbsayings (kP * 8 + 4)) = WGS (PWS fbsayings fbpapers td vd vl je jp) fbsayings hh (kP + 1) := WGS.y hsu ⟨a2627, Or.inr ⟨c_51_2630, c_75_2633⟩⟩
            exact ihP (kP + 1) (su + (fbsayings (kP * 8 + 4))) _ (by omega) (by first | assumption | exact Or.inl rfl | exact Or.inr rfl | exact rfl) (lv_sub hl [0, 1, 4, 5, 6, 7, 8] rfl)
          · refine lv_iconst (v := 1) hx hb gX9_weightAgainst_3.2.2.2.2.2.2.2.2.1 (by decide) ?_
            refine lv_goto (tgt := 83) hx hb gX9_weightAgainst_3.2.2.2.2.2.2.2.2.2 (by decide) ?_
            refine lv_istore (lv' := [(8, .int 1), (7, .int 0), (6, .int (nI kP)), (5, .int su), (0, .ref h0), (1, .int hh), (2, .int (nI je)), (3, .int (nI jp)), (4, .int (IVW fbpapers td vd vl kbpapers))]) hx hb gX9_weightAgainst_4.2.1 hl (by decide) rfl (fun ls hl => ?_)
            refine lv_iload hx hb gX9_weightAgainst_4.2.2.1 (lv_at1 hl) ?_
            refine lv_iload hx hb gX9_weightAgainst_4.2.2.2.1 (lv_at0 hl) ?_
            refine lv_icmp_ne (tgt := 110) hx hb gX9_weightAgainst_4.2.2.2.2.1 (by decide) (fun _ => ?_) (fun c9 => absurd c9 (by decide))
            refine lv_iinc (v := nI (kP + 1)) (lv' := [(6, .int (nI (kP + 1))), (8, .int 1), (7, .int 0), (5, .int su), (0, .ref h0), (1, .int hh), (2, .int (nI je)), (3, .int (nI jp)), (4, .int (IVW fbpapers td vd vl kbpapers))]) hx hb gX9_weightAgainst_5.2.2.2.2.1 hl (k := 2) rfl (nI_1 _) (by decide) rfl (fun ls hl => ?_)
            refine lv_goto (tgt := 6) hx hb gX9_weightAgainst_5.2.2.2.2.2.1 (by decide) ?_
            have hst9 : su = WGS (PWS fbsayings fbpapers td vd vl je jp) fbsayings hh (kP + 1) := WGS.n hsu (fun h9 => h9.2.elim (fun h8 => c_51_2630 h8.1) (fun h8 => c_75_2633 h8.2))
            exact ihP (kP + 1) su _ (by omega) (by first | assumption | exact Or.inl rfl | exact Or.inr rfl | exact rfl) (lv_sub hl [0, 3, 4, 5, 6, 7, 8] rfl)
        · refine lv_iconst (v := 1) hx hb gX9_weightAgainst_2.2.2.2.2.2.2.1 (by decide) ?_
          refine lv_goto (tgt := 59) hx hb gX9_weightAgainst_2.2.2.2.2.2.2.2.1 (by decide) ?_
          refine lv_istore (lv' := [(7, .int 1), (6, .int (nI kP)), (5, .int su), (0, .ref h0), (1, .int hh), (2, .int (nI je)), (3, .int (nI jp)), (4, .int (IVW fbpapers td vd vl kbpapers))]) hx hb gX9_weightAgainst_2.2.2.2.2.2.2.2.2.2 hl (by decide) rfl (fun ls hl => ?_)
          refine lv_aload_n hx hb gX9_weightAgainst_3.1 rfl (lv_at3 hl) ?_
          refine gf_X9_9 hC rfl hK hP 0 rfl rfl gX9_weightAgainst_3.2.1 ?_
          refine gf_X9_42 hC rfl hK hP 1 rfl rfl gX9_weightAgainst_3.2.2.1 ?_
          refine lv_iload hx hb gX9_weightAgainst_3.2.2.2.1 (lv_at1 hl) ?_
          refine lv_iconst (v := 3) hx hb gX9_weightAgainst_3.2.2.2.2.1 (by decide) ?_
          refine pV hC hK hl hP hD (c_T_at l G bsayings (nI kP) 3 16 8 bsayingsc kbsayings fbsayings (hkbsayings) (by omega) (by omega)) si_X9_48 [2, 3] sm_2_3 fm_2_3 nd_2_3 rfl rfl rfl rfl rfl (Nat.le_of_ble_eq_true rfl) rm_5_1_3 ⟨by first | exact Nat.le_of_ble_eq_true rfl | exact Nat.zero_le _, by first | exact Nat.le_of_ble_eq_true rfl | exact Nat.zero_le _⟩ gX9_weightAgainst_3.2.2.2.2.2.1 (fun r2636 hr2636 => ?_)
          refine eqi (x1 := fbsayings (kP * 8 + 3)) (hr2636.trans (tatq (by omega) (by omega) (by decide) (by decide) rfl)) ?_
          refine lv_iload_n hx hb gX9_weightAgainst_3.2.2.2.2.2.2.1 rfl (lv_at4 hl) ?_
          refine lv_icmp_ge (tgt := 82) hx hb gX9_weightAgainst_3.2.2.2.2.2.2.2.1 (by decide) (fun c_75_2638 => ?_) (fun c_75_2638 => ?_)
          · refine lv_iconst (v := 0) hx hb gX9_weightAgainst_4.1 (by decide) ?_
            refine lv_istore (lv' := [(8, .int 0), (7, .int 1), (6, .int (nI kP)), (5, .int su), (0, .ref h0), (1, .int hh), (2, .int (nI je)), (3, .int (nI jp)), (4, .int (IVW fbpapers td vd vl kbpapers))]) hx hb gX9_weightAgainst_4.2.1 hl (by decide) rfl (fun ls hl => ?_)
            refine lv_iload hx hb gX9_weightAgainst_4.2.2.1 (lv_at1 hl) ?_
            refine lv_iload hx hb gX9_weightAgainst_4.2.2.2.1 (lv_at0 hl) ?_
            refine lv_icmp_ne (tgt := 110) hx hb gX9_weightAgainst_4.2.2.2.2.1 (by decide) (fun _ => ?_) (fun c9 => absurd c9 (by decide))
            refine lv_iinc (v := nI (kP + 1)) (lv' := [(6, .int (nI (kP + 1))), (8, .int 0), (7, .int 1), (5, .int su), (0, .ref h0), (1, .int hh), (2, .int (nI je)), (3, .int (nI jp)), (4, .int (IVW fbpapers td vd vl kbpapers))]) hx hb gX9_weightAgainst_5.2.2.2.2.1 hl (k := 2) rfl (nI_1 _) (by decide) rfl (fun ls hl => ?_)
            refine lv_goto (tgt := 6) hx hb gX9_weightAgainst_5.2.2.2.2.2.1 (by decide) ?_
            have hst9 : su = WGS (PWS fbsayings fbpapers td vd vl je jp) fbsayings hh (kP + 1) := WGS.n hsu (fun h9 => h9.2.elim (fun h8 => Int32.not_lt.mpr c_75_2638 h8.2) (fun h8 => h8.1 c_51_2630))
            exact ihP (kP + 1) su _ (by omega) (by first | assumption | exact Or.inl rfl | exact Or.inr rfl | exact rfl) (lv_sub hl [0, 3, 4, 5, 6, 7, 8] rfl)
          · refine lv_iconst (v := 1) hx hb gX9_weightAgainst_3.2.2.2.2.2.2.2.2.1 (by decide) ?_
            refine lv_goto (tgt := 83) hx hb gX9_weightAgainst_3.2.2.2.2.2.2.2.2.2 (by decide) ?_
            refine lv_istore (lv' := [(8, .int 1), (7, .int 1), (6, .int (nI kP)), (5, .int su), (0, .ref h0), (1, .int hh), (2, .int (nI je)), (3, .int (nI jp)), (4, .int (IVW fbpapers td vd vl kbpapers))]) hx hb gX9_weightAgainst_4.2.1 hl (by decide) rfl (fun ls hl => ?_)
            refine lv_iload hx hb gX9_weightAgainst_4.2.2.1 (lv_at1 hl) ?_
            refine lv_iload hx hb gX9_weightAgainst_4.2.2.2.1 (lv_at0 hl) ?_
            refine lv_icmp_ne (tgt := 110) hx hb gX9_weightAgainst_4.2.2.2.2.1 (by decide) (fun c9 => absurd (by decide) c9) (fun _ => ?_)
            refine lv_iload hx hb gX9_weightAgainst_4.2.2.2.2.2.1 (lv_at3 hl) ?_
            refine lv_aload_n hx hb gX9_weightAgainst_4.2.2.2.2.2.2.1 rfl (lv_at4 hl) ?_
            refine gf_X9_9 hC rfl hK hP 0 rfl rfl gX9_weightAgainst_4.2.2.2.2.2.2.2.1 ?_
            refine gf_X9_42 hC rfl hK hP 1 rfl rfl gX9_weightAgainst_4.2.2.2.2.2.2.2.2.1 ?_
            refine lv_iload hx hb gX9_weightAgainst_4.2.2.2.2.2.2.2.2.2 (lv_at2 hl) ?_
            refine lv_iconst (v := 4) hx hb gX9_weightAgainst_5.1 (by decide) ?_
            refine pV hC hK hl hP hD (c_T_at l G bsayings (nI kP) 4 16 8 bsayingsc kbsayings fbsayings (hkbsayings) (by omega) (by omega)) si_X9_48 [2, 3] sm_2_3 fm_2_3 nd_2_3 rfl rfl rfl rfl rfl (Nat.le_of_ble_eq_true rfl) rm_5_1_3 ⟨by first | exact Nat.le_of_ble_eq_true rfl | exact Nat.zero_le _, by first | exact Nat.le_of_ble_eq_true rfl | exact Nat.zero_le _⟩ gX9_weightAgainst_5.2.1 (fun r2639 hr2639 => ?_)
            refine eqi (x1 := fbsayings (kP * 8 + 4)) (hr2639.trans (tatq (by omega) (by omega) (by decide) (by decide) rfl)) ?_
            refine lv_iadd hx hb gX9_weightAgainst_5.2.2.1 ?_
            refine lv_istore (lv' := [(5, .int (su + (fbsayings (kP * 8 + 4)))), (8, .int 1), (7, .int 1), (6, .int (nI kP)), (0, .ref h0), (1, .int hh), (2, .int (nI je)), (3, .int (nI jp)), (4, .int (IVW fbpapers td vd vl kbpapers))]) hx hb gX9_weightAgainst_5.2.2.2.1 hl (by decide) rfl (fun ls hl => ?_)
            refine lv_iinc (v := nI (kP + 1)) (lv' := [(6, .int (nI (kP + 1))), (5, .int (su + (fbsayings (kP * 8 + 4)))), (8, .int 1), (7, .int 1), (0, .ref h0), (1, .int hh), (2, .int (nI je)), (3, .int (nI jp)), (4, .int (IVW fbpapers td vd vl kbpapers))]) hx hb gX9_weightAgainst_5.2.2.2.2.1 hl (k := 3) rfl (nI_1 _) (by decide) rfl (fun ls hl => ?_)
            refine lv_goto (tgt := 6) hx hb gX9_weightAgainst_5.2.2.2.2.2.1 (by decide) ?_
            have hst9 : su + (fbsayings (kP * 8 + 4)) = WGS (PWS fbsayings fbpapers td vd vl je jp) fbsayings hh (kP + 1) := WGS.y hsu ⟨a2627, Or.inl ⟨c_51_2630, Int32.not_le.mp c_75_2638⟩⟩
            exact ihP (kP + 1) (su + (fbsayings (kP * 8 + 4))) _ (by omega) (by first | assumption | exact Or.inl rfl | exact Or.inr rfl | exact rfl) (lv_sub hl [0, 1, 4, 5, 6, 7, 8] rfl)
      · refine lv_if_ne (tgt := 37) hx hb gX9_weightAgainst_1.2.2.2.2.2.2.1 (by decide) (fun c9 => absurd (by decide) c9) (fun _ => ?_)
        refine lv_goto (tgt := 110) hx hb gX9_weightAgainst_1.2.2.2.2.2.2.2.1 (by decide) ?_
        refine lv_iinc (v := nI (kP + 1)) (lv' := [(6, .int (nI (kP + 1))), (5, .int su), (0, .ref h0), (1, .int hh), (2, .int (nI je)), (3, .int (nI jp)), (4, .int (IVW fbpapers td vd vl kbpapers))]) hx hb gX9_weightAgainst_5.2.2.2.2.1 hl (k := 0) rfl (nI_1 _) (by decide) rfl (fun ls hl => ?_)
        refine lv_goto (tgt := 6) hx hb gX9_weightAgainst_5.2.2.2.2.2.1 (by decide) ?_
        have hst9 : su = WGS (PWS fbsayings fbpapers td vd vl je jp) fbsayings hh (kP + 1) := WGS.n hsu (fun h9 => a2627 h9.1)
        exact ihP (kP + 1) su _ (by omega) (by first | assumption | exact Or.inl rfl | exact Or.inr rfl | exact rfl) (lv_sub hl [0, 1, 2, 3, 4, 5, 6] rfl)
  exact keyP kbsayings 0 0 _ (by omega) (by first | assumption | exact Or.inl rfl | exact Or.inr rfl | exact rfl) (lv_sub hl [0, 1, 2, 3, 4, 5, 6] rfl)
def K_c_weighX (l : Launch) (G : GG) (K9 : Nat → Nat → Int → Prop) (V9 : Nat → Prop) (h0 : Nat) (je : Nat) (jp : Nat) (bb : Nat) (sg : Nat) (tf : Int32) (tt9 : Int32) (tl : Int32) (tbv : Int32) (clk : Nat) (fi : Nat) (la : Nat) (ml : Nat) (mm : Nat) (sl : Nat) (sm : Nat) (scl : Int32) (fla : Nat → Int32) (fml : Nat → Int32) (fmm : Nat → Int32) (fsl : Nat → Int32) (fsm : Nat → Int32) (bpersons : Nat) (bpapers : Nat) (bstamps : Nat) (bversions : Nat) (blines : Nat) (bsteps : Nat) (bsayings : Nat) (bfindings : Nat) (bwarnings : Nat) (bquestions : Nat) (td : Int32) (vd : Int32) (vl : Int32) (gp : Int32) (bpapersc : Nat) (kbpapers : Nat) (fbpapers : Nat → Int32) (bpersonsc : Nat) (kbpersons : Nat) (fbpersons : Nat → Int32) (bsayingsc : Nat) (kbsayings : Nat) (fbsayings : Nat → Int32) (fbstamps : Nat → Int32) (kbstamps : Nat) : Prop := MV l G yX9_weigh cX9_weigh 7 6 0 0 [.ref h0, .int (nI je), .int (nI jp), .int (IVW fbpapers td vd vl kbpapers)] [(h0, oX9 bb sg tf tt9 tl tbv), (sg, oX7 bb clk fi la ml mm sl sm scl), (la, iA G 12 fla), (ml, iA G 12 fml), (mm, iA G 12 fmm), (sl, iA G 12 fsl), (sm, iA G 12 fsm), (bb, oX0 bpersons bpapers bstamps bversions blines bsteps bsayings bfindings bwarnings bquestions td vd vl gp), (bpapers, oX8 12 6 bpapersc (nI kbpapers)), (bpapersc, iA G 72 fbpapers), (bpersons, oX8 10 2 bpersonsc (nI kbpersons)), (bpersonsc, iA G 20 fbpersons), (bsayings, oX8 16 8 bsayingsc (nI kbsayings)), (bsayingsc, iA G 128 fbsayings)] (fun u : Int32 × Int32 × Int32 × Int32 => HIQ K9 fbstamps V9 (fbpapers (jp * 6 + 0)) (fbpapers (jp * 6 + 1)) (fbpersons (je * 2 + 1)) kbstamps jp je u.1 u.2.1 ∧ BST (fun h9 => WGS (PWS fbsayings fbpapers td vd vl je jp) fbsayings h9 kbsayings) u.1 u.2.1 u.2.2.2 u.2.2.1) (fun u : Int32 × Int32 × Int32 × Int32 => [(h0, oX9 bb sg u.1 u.2.1 u.2.2.1 u.2.2.2), (sg, oX7 bb clk fi la ml mm sl sm scl), (la, iA G 12 fla), (ml, iA G 12 fml), (mm, iA G 12 fmm), (sl, iA G 12 fsl), (sm, iA G 12 fsm), (bb, oX0 bpersons bpapers bstamps bversions blines bsteps bsayings bfindings bwarnings bquestions td vd vl gp), (bpapers, oX8 12 6 bpapersc (nI kbpapers)), (bpapersc, iA G 72 fbpapers), (bpersons, oX8 10 2 bpersonsc (nI kbpersons)), (bpersonsc, iA G 20 fbpersons), (bsayings, oX8 16 8 bsayingsc (nI kbsayings)), (bsayingsc, iA G 128 fbsayings)])
set_option maxHeartbeats 4000000 in
set_option maxRecDepth 100000 in
theorem c_weighX (l : Launch) (G : GG) (K9 : Nat → Nat → Int → Prop) (V9 : Nat → Prop) (h0 : Nat) (je : Nat) (jp : Nat) (bb : Nat) (sg : Nat) (tf : Int32) (tt9 : Int32) (tl : Int32) (tbv : Int32) (clk : Nat) (fi : Nat) (la : Nat) (ml : Nat) (mm : Nat) (sl : Nat) (sm : Nat) (scl : Int32) (fla : Nat → Int32) (fml : Nat → Int32) (fmm : Nat → Int32) (fsl : Nat → Int32) (fsm : Nat → Int32) (bpersons : Nat) (bpapers : Nat) (bstamps : Nat) (bversions : Nat) (blines : Nat) (bsteps : Nat) (bsayings : Nat) (bfindings : Nat) (bwarnings : Nat) (bquestions : Nat) (td : Int32) (vd : Int32) (vl : Int32) (gp : Int32) (bpapersc : Nat) (kbpapers : Nat) (fbpapers : Nat → Int32) (bpersonsc : Nat) (kbpersons : Nat) (fbpersons : Nat → Int32) (bsayingsc : Nat) (kbsayings : Nat) (fbsayings : Nat → Int32) (fbstamps : Nat → Int32) (kbstamps : Nat) (hkbpapers : kbpapers ≤ 12) (hkbpersons : kbpersons ≤ 10) (hkbsayings : kbsayings ≤ 16) (hSP : SPI fbsayings kbsayings kbpapers) (hSO : SPO fbsayings kbsayings kbpersons) (hSL : PSL fbpersons) (hsg : SGQ K9 fbstamps V9 kbstamps scl fla fml fmm fsl fsm) (hSV : SVL fbstamps kbstamps) (hjp : jp < kbpapers) (hje : je < kbpersons) : K_c_weighX l G K9 V9 h0 je jp bb sg tf tt9 tl tbv clk fi la ml mm sl sm scl fla fml fmm fsl fsm bpersons bpapers bstamps bversions blines bsteps bsayings bfindings bwarnings bquestions td vd vl gp bpapersc kbpapers fbpapers bpersonsc kbpersons fbpersons bsayingsc kbsayings fbsayings fbstamps kbstamps := by
  refine MV.start (by decide +kernel) (Nat.le_of_ble_eq_true rfl) ?_
  intro p e s m below meth c A ls hC hK hP hD hS hA hl
  refine absQ (fun Q0 hQ0 => ?_)
  have hl : lv_has ls 7 [(0, .ref h0), (1, .int (nI je)), (2, .int (nI jp)), (3, .int (IVW fbpapers td vd vl kbpapers))] := hl
  refine Kan8 hC (fun hx hb hr hml hB hown hlocks hnm => ?_)
  refine lv_aload_n hx hb gX9_weigh_0.1 rfl (lv_at0 hl) ?_
  refine lv_iload_n hx hb gX9_weigh_0.2.1 rfl (lv_at1 hl) ?_
  refine lv_iload_n hx hb gX9_weigh_0.2.2.1 rfl (lv_at2 hl) ?_
  refine vV (wr := [(bsayings, oX8 16 8 bsayingsc (nI kbsayings)), (bsayingsc, iA G 128 fbsayings)]) hC hK hl hP hD hS hA (c_boundX l G K9 V9 h0 je jp bb sg tf tt9 tl tbv clk fi la ml mm sl sm scl fla fml fmm fsl fsm bpersons bpapers bstamps bversions blines bsteps bsayings bfindings bwarnings bquestions td vd vl gp bpapersc kbpapers fbpapers bpersonsc kbpersons fbpersons fbstamps kbstamps (hkbpapers) (hkbpersons) (hsg) (hjp) (hje)) si_X9_57 [0, 1, 2, 3, 4, 5, 6, 7, 8, 9, 10, 11] [12, 13] sm_0_1_2_3_4_5_6_7_8_9_10_11 fm_0_1_2_3_4_5_6_7_8_9_10_11 nd_0_1_2_3_4_5_6_7_8_9_10_11 sm_12_13 nd_12_13 dj_0_1_2_3_4_5_6_7_8_9_10_11__12_13 rfl rfl rfl rfl rfl (Nat.le_of_ble_eq_true rfl) rm_6_4_4 ⟨Nat.le_of_ble_eq_true rfl, Nat.le_of_ble_eq_true rfl⟩ gX9_weigh_0.2.2.2.1 (Ktu2 fun tf12643 tt12644 => ?_)
  intro H locs hr2641 hP hD hS
  try dsimp only at hr2641
  refine Kpdr (ws := [(bsayings, oX8 16 8 bsayingsc (nI kbsayings)), (bsayingsc, iA G 128 fbsayings), (h0, oX9 bb sg tf12643 tt12644 tl tbv), (sg, oX7 bb clk fi la ml mm sl sm scl), (la, iA G 12 fla), (ml, iA G 12 fml), (mm, iA G 12 fmm), (sl, iA G 12 fsl), (sm, iA G 12 fsm), (bb, oX0 bpersons bpapers bstamps bversions blines bsteps bsayings bfindings bwarnings bquestions td vd vl gp), (bpapers, oX8 12 6 bpapersc (nI kbpapers)), (bpapersc, iA G 72 fbpapers), (bpersons, oX8 10 2 bpersonsc (nI kbpersons)), (bpersonsc, iA G 20 fbpersons)]) hP hD (fun hP hD => ?_)
  have w2645 := hr2641
  refine lv_aload_n hx hb gX9_weigh_0.2.2.2.2.1 rfl (lv_at0 hl) ?_
  refine lv_aload_n hx hb gX9_weigh_0.2.2.2.2.2.1 rfl (lv_at0 hl) ?_
  refine gf_X9_19 hC rfl hK hP 2 rfl rfl gX9_weigh_0.2.2.2.2.2.2.1 ?_
  refine pf_X9_29 hC rfl hK hP hD hS 2 (ws' := [(bsayings, oX8 16 8 bsayingsc (nI kbsayings)), (bsayingsc, iA G 128 fbsayings), (h0, oX9 bb sg tf12643 tt12644 tl tf12643), (sg, oX7 bb clk fi la ml mm sl sm scl), (la, iA G 12 fla), (ml, iA G 12 fml), (mm, iA G 12 fmm), (sl, iA G 12 fsl), (sm, iA G 12 fsm), (bb, oX0 bpersons bpapers bstamps bversions blines bsteps bsayings bfindings bwarnings bquestions td vd vl gp), (bpapers, oX8 12 6 bpapersc (nI kbpapers)), (bpapersc, iA G 72 fbpapers), (bpersons, oX8 10 2 bpersonsc (nI kbpersons)), (bpersonsc, iA G 20 fbpersons)]) rfl (Nat.le_of_ble_eq_true rfl) rfl rfl rfl gX9_weigh_0.2.2.2.2.2.2.2.1 (fun H locs hP hD hS => ?_)
  refine lv_aload_n hx hb gX9_weigh_0.2.2.2.2.2.2.2.2.1 rfl (lv_at0 hl) ?_
  refine lv_aload_n hx hb gX9_weigh_0.2.2.2.2.2.2.2.2.2 rfl (lv_at0 hl) ?_
  refine lv_aload_n hx hb gX9_weigh_1.1 rfl (lv_at0 hl) ?_
  refine gf_X9_19 hC rfl hK hP 2 rfl rfl gX9_weigh_1.2.1 ?_
  refine lv_iload_n hx hb gX9_weigh_1.2.2.1 rfl (lv_at1 hl) ?_
  refine lv_iload_n hx hb gX9_weigh_1.2.2.2.1 rfl (lv_at2 hl) ?_
  refine lv_iload_n hx hb gX9_weigh_1.2.2.2.2.1 rfl (lv_at3 hl) ?_
  refine pV hC hK hl hP hD (c_weightAgainstX l G h0 tf12643 je jp bb sg tf12643 tt12644 tl tf12643 bpersons bpapers bstamps bversions blines bsteps bsayings bfindings bwarnings bquestions td vd vl gp bsayingsc kbsayings fbsayings bpapersc kbpapers fbpapers (hkbsayings) (hkbpapers) (hSP)) si_X9_61 [2, 9, 0, 1, 10, 11] sm_2_9_0_1_10_11 fm_2_9_0_1_10_11 nd_2_9_0_1_10_11 rfl rfl rfl rfl rfl (Nat.le_of_ble_eq_true rfl) rm_6_5_9 ⟨by first | exact Nat.le_of_ble_eq_true rfl | exact Nat.zero_le _, by first | exact Nat.le_of_ble_eq_true rfl | exact Nat.zero_le _⟩ gX9_weigh_1.2.2.2.2.2.1 (Keqr ?_)
  refine pf_X9_26 hC rfl hK hP hD hS 2 (ws' := [(bsayings, oX8 16 8 bsayingsc (nI kbsayings)), (bsayingsc, iA G 128 fbsayings), (h0, oX9 bb sg tf12643 tt12644 (WGS (PWS fbsayings fbpapers td vd vl je jp) fbsayings tf12643 kbsayings) tf12643), (sg, oX7 bb clk fi la ml mm sl sm scl), (la, iA G 12 fla), (ml, iA G 12 fml), (mm, iA G 12 fmm), (sl, iA G 12 fsl), (sm, iA G 12 fsm), (bb, oX0 bpersons bpapers bstamps bversions blines bsteps bsayings bfindings bwarnings bquestions td vd vl gp), (bpapers, oX8 12 6 bpapersc (nI kbpapers)), (bpapersc, iA G 72 fbpapers), (bpersons, oX8 10 2 bpersonsc (nI kbpersons)), (bpersonsc, iA G 20 fbpersons)]) rfl (Nat.le_of_ble_eq_true rfl) rfl rfl rfl gX9_weigh_1.2.2.2.2.2.2.1 (fun H locs hP hD hS => ?_)
  refine lv_iconst (v := 0) hx hb gX9_weigh_1.2.2.2.2.2.2.2.1 (by decide) ?_
  refine lv_istore (lv' := [(4, .int 0), (0, .ref h0), (1, .int (nI je)), (2, .int (nI jp)), (3, .int (IVW fbpapers td vd vl kbpapers))]) hx hb gX9_weigh_1.2.2.2.2.2.2.2.2.1 hl (by decide) rfl (fun ls hl => ?_)
  have hle9 := HIQ.le hSV (hSL je (by omega)).1 (hSL je (by omega)).2 w2645
  have keyP : ∀ (nP kP : Nat) (wl : Int32) (wb : Int32) (H : Heap) (locs : List Loc) (ls : Array Slot), kP + nP = kbsayings → (LBT (fun h9 => WGS (PWS fbsayings fbpapers td vd vl je jp) fbsayings h9 kbsayings) (CAN (PWS fbsayings fbpapers td vd vl je jp) fbsayings tf12643 tt12644 kP) wb wl) → va_PD G A [(bsayings, oX8 16 8 bsayingsc (nI kbsayings)), (bsayingsc, iA G 128 fbsayings), (h0, oX9 bb sg tf12643 tt12644 wl wb), (sg, oX7 bb clk fi la ml mm sl sm scl), (la, iA G 12 fla), (ml, iA G 12 fml), (mm, iA G 12 fmm), (sl, iA G 12 fsl), (sm, iA G 12 fsm), (bb, oX0 bpersons bpapers bstamps bversions blines bsteps bsayings bfindings bwarnings bquestions td vd vl gp), (bpapers, oX8 12 6 bpapersc (nI kbpapers)), (bpapersc, iA G 72 fbpapers), (bpersons, oX8 10 2 bpersonsc (nI kbpersons)), (bpersonsc, iA G 20 fbpersons)] H → va_S A s.heap H locs → lv_has ls 7 [(4, .int (nI kP)), (0, .ref h0), (1, .int (nI je)), (2, .int (nI jp)), (3, .int (IVW fbpapers td vd vl kbpapers))] → W p l e (RM 6 0 0) s m ([.ref h0, .int (nI je), .int (nI jp), .int (IVW fbpapers td vd vl kbpapers)] : List Value).toArray below meth c H locs 0 0 Q0 (F0 m 32 ls []) := by
    intro nP
    induction nP with
    | zero =>
      intro kP wl wb H locs ls hkP hlb hPD hS hl
      refine Kan2 hPD (fun hP hD => ?_)
      obtain rfl : kbsayings = kP := by omega
      have hl : lv_has ls 7 [(4, .int (nI kbsayings)), (0, .ref h0), (1, .int (nI je)), (2, .int (nI jp)), (3, .int (IVW fbpapers td vd vl kbpapers))] := hl
      refine lv_iload hx hb gX9_weigh_1.2.2.2.2.2.2.2.2.2 (lv_at0 hl) ?_
      refine lv_aload_n hx hb gX9_weigh_2.1 rfl (lv_at1 hl) ?_
      refine gf_X9_9 hC rfl hK hP 2 rfl rfl gX9_weigh_2.2.1 ?_
      refine gf_X9_42 hC rfl hK hP 9 rfl rfl gX9_weigh_2.2.2.1 ?_
      refine pV hC hK hl hP hD (c_T_count l G bsayings 16 8 bsayingsc kbsayings) si_X9_65 [0] sm_0 fm_0 nd_0 rfl rfl rfl rfl rfl (Nat.le_of_ble_eq_true rfl) rm_6_1_1 ⟨by first | exact Nat.le_of_ble_eq_true rfl | exact Nat.zero_le _, by first | exact Nat.le_of_ble_eq_true rfl | exact Nat.zero_le _⟩ gX9_weigh_2.2.2.2.1 (Keqr ?_)
      refine lv_icmp_ge (tgt := 154) hx hb gX9_weigh_2.2.2.2.2.1 (by decide) (fun _ => ?_) (fun c9 => absurd (Int32.le_refl _) c9)
      refine toQ hQ0 ?_
      exact RV hC hP hD hS [2, 3, 4, 5, 6, 7, 8, 9, 10, 11, 12, 13, 0, 1] (tf12643, tt12644, wl, wb) rfl rfl (by decide) (⟨w2645, LBT.bst (fun s9 hs9 => (hSO s9 hs9).2.1) hle9.1 hle9.2.1 hle9.2.2 hlb⟩) gX9_weigh_7.2.2.2.2.2.2.2
    | succ nP ihP =>
      intro kP wl wb H locs ls hkP hlb hPD hS hl
      refine Kan2 hPD (fun hP hD => ?_)
      refine lv_iload hx hb gX9_weigh_1.2.2.2.2.2.2.2.2.2 (lv_at0 hl) ?_
      refine lv_aload_n hx hb gX9_weigh_2.1 rfl (lv_at1 hl) ?_
      refine gf_X9_9 hC rfl hK hP 2 rfl rfl gX9_weigh_2.2.1 ?_
      refine gf_X9_42 hC rfl hK hP 9 rfl rfl gX9_weigh_2.2.2.1 ?_
      refine pV hC hK hl hP hD (c_T_count l G bsayings 16 8 bsayingsc kbsayings) si_X9_65 [0] sm_0 fm_0 nd_0 rfl rfl rfl rfl rfl (Nat.le_of_ble_eq_true rfl) rm_6_1_1 ⟨by first | exact Nat.le_of_ble_eq_true rfl | exact Nat.zero_le _, by first | exact Nat.le_of_ble_eq_true rfl | exact Nat.zero_le _⟩ gX9_weigh_2.2.2.2.1 (Keqr ?_)
      refine lv_icmp_ge (tgt := 154) hx hb gX9_weigh_2.2.2.2.2.1 (by decide) (fun c9 => absurd c9 (nI_ge (a := kP) (b := kbsayings) (by omega) (by omega))) (fun _ => ?_)
      refine lv_aload_n hx hb gX9_weigh_2.2.2.2.2.2.1 rfl (lv_at1 hl) ?_
      refine gf_X9_9 hC rfl hK hP 2 rfl rfl gX9_weigh_2.2.2.2.2.2.2.1 ?_
      refine gf_X9_42 hC rfl hK hP 9 rfl rfl gX9_weigh_2.2.2.2.2.2.2.2.1 ?_
      refine lv_iload hx hb gX9_weigh_2.2.2.2.2.2.2.2.2.1 (lv_at0 hl) ?_
      refine lv_iconst (v := 3) hx hb gX9_weigh_2.2.2.2.2.2.2.2.2.2 (by decide) ?_
      refine pV hC hK hl hP hD (c_T_at l G bsayings (nI kP) 3 16 8 bsayingsc kbsayings fbsayings (hkbsayings) (by omega) (by omega)) si_X9_48 [0, 1] sm_0_1 fm_0_1 nd_0_1 rfl rfl rfl rfl rfl (Nat.le_of_ble_eq_true rfl) rm_6_1_3 ⟨by first | exact Nat.le_of_ble_eq_true rfl | exact Nat.zero_le _, by first | exact Nat.le_of_ble_eq_true rfl | exact Nat.zero_le _⟩ gX9_weigh_3.1 (fun r2652 hr2652 => ?_)
      refine eqi (x1 := fbsayings (kP * 8 + 3)) (hr2652.trans (tatq (by omega) (by omega) (by decide) (by decide) rfl)) ?_
      refine lv_iconst (v := 1) hx hb gX9_weigh_3.2.1 (by decide) ?_
      refine lv_iadd hx hb gX9_weigh_3.2.2.1 ?_
      refine lv_istore (lv' := [(5, .int ((fbsayings (kP * 8 + 3)) + 1)), (4, .int (nI kP)), (0, .ref h0), (1, .int (nI je)), (2, .int (nI jp)), (3, .int (IVW fbpapers td vd vl kbpapers))]) hx hb gX9_weigh_3.2.2.2.1 hl (by decide) rfl (fun ls hl => ?_)
      refine lv_iload hx hb gX9_weigh_3.2.2.2.2.1 (lv_at0 hl) ?_
      refine lv_aload_n hx hb gX9_weigh_3.2.2.2.2.2.1 rfl (lv_at2 hl) ?_
      refine gf_X9_19 hC rfl hK hP 2 rfl rfl gX9_weigh_3.2.2.2.2.2.2.1 ?_
      refine lv_aload_n hx hb gX9_weigh_3.2.2.2.2.2.2.2.1 rfl (lv_at2 hl) ?_
      refine gf_X9_23 hC rfl hK hP 2 rfl rfl gX9_weigh_3.2.2.2.2.2.2.2.2.1 ?_
      refine pSN hC hK hl (c_within l G ((fbsayings (kP * 8 + 3)) + 1) tf12643 tt12644) si_X9_69 rfl rfl (Nat.le_of_ble_eq_true rfl) rm_6_1_3 ⟨by first | exact Nat.le_of_ble_eq_true rfl | exact Nat.zero_le _, by first | exact Nat.le_of_ble_eq_true rfl | exact Nat.zero_le _⟩ gX9_weigh_3.2.2.2.2.2.2.2.2.2 (Kors (Keqa fun a2655 => ?_) (Keqa fun a2655 => ?_))
      · refine lv_if_eq (tgt := 148) hx hb gX9_weigh_4.1 (by decide) (fun c9 => absurd c9 (by decide)) (fun _ => ?_)
        refine lv_aload_n hx hb gX9_weigh_4.2.1 rfl (lv_at2 hl) ?_
        refine lv_iload hx hb gX9_weigh_4.2.2.1 (lv_at1 hl) ?_
        refine lv_iload_n hx hb gX9_weigh_4.2.2.2.1 rfl (lv_at3 hl) ?_
        refine lv_iload_n hx hb gX9_weigh_4.2.2.2.2.1 rfl (lv_at4 hl) ?_
        refine lv_iload_n hx hb gX9_weigh_4.2.2.2.2.2.1 rfl (lv_at5 hl) ?_
        refine pV hC hK hl hP hD (c_isOnX l G h0 kP je jp bb sg tf12643 tt12644 wl wb bpersons bpapers bstamps bversions blines bsteps bsayings bfindings bwarnings bquestions td vd vl gp bsayingsc kbsayings fbsayings bpapersc kbpapers fbpapers (hkbsayings) (hkbpapers) (hSP) (by omega)) si_X9_73 [2, 9, 0, 1, 10, 11] sm_2_9_0_1_10_11 fm_2_9_0_1_10_11 nd_2_9_0_1_10_11 rfl rfl rfl rfl rfl (Nat.le_of_ble_eq_true rfl) rm_6_4_5 ⟨by first | exact Nat.le_of_ble_eq_true rfl | exact Nat.zero_le _, by first | exact Nat.le_of_ble_eq_true rfl | exact Nat.zero_le _⟩ gX9_weigh_4.2.2.2.2.2.2.1 (Kors (Keqa fun a2657 => ?_) (Keqa fun a2657 => ?_))
        · refine lv_if_ne (tgt := 95) hx hb gX9_weigh_4.2.2.2.2.2.2.2.1 (by decide) (fun _ => ?_) (fun c9 => absurd c9 (by decide))
          refine lv_aload_n hx hb gX9_weigh_4.2.2.2.2.2.2.2.2.2 rfl (lv_at2 hl) ?_
          refine lv_iload hx hb gX9_weigh_5.1 (lv_at0 hl) ?_
          refine lv_iload_n hx hb gX9_weigh_5.2.1 rfl (lv_at3 hl) ?_
          refine lv_iload_n hx hb gX9_weigh_5.2.2.1 rfl (lv_at4 hl) ?_
          refine lv_iload_n hx hb gX9_weigh_5.2.2.2.1 rfl (lv_at5 hl) ?_
          refine pV hC hK hl hP hD (c_weightAgainstX l G h0 ((fbsayings (kP * 8 + 3)) + 1) je jp bb sg tf12643 tt12644 wl wb bpersons bpapers bstamps bversions blines bsteps bsayings bfindings bwarnings bquestions td vd vl gp bsayingsc kbsayings fbsayings bpapersc kbpapers fbpapers (hkbsayings) (hkbpapers) (hSP)) si_X9_61 [2, 9, 0, 1, 10, 11] sm_2_9_0_1_10_11 fm_2_9_0_1_10_11 nd_2_9_0_1_10_11 rfl rfl rfl rfl rfl (Nat.le_of_ble_eq_true rfl) rm_6_5_9 ⟨by first | exact Nat.le_of_ble_eq_true rfl | exact Nat.zero_le _, by first | exact Nat.le_of_ble_eq_true rfl | exact Nat.zero_le _⟩ gX9_weigh_5.2.2.2.2.1 (Keqr ?_)
          refine lv_istore (lv' := [(6, .int (WGS (PWS fbsayings fbpapers td vd vl je jp) fbsayings ((fbsayings (kP * 8 + 3)) + 1) kbsayings)), (5, .int ((fbsayings (kP * 8 + 3)) + 1)), (4, .int (nI kP)), (0, .ref h0), (1, .int (nI je)), (2, .int (nI jp)), (3, .int (IVW fbpapers td vd vl kbpapers))]) hx hb gX9_weigh_5.2.2.2.2.2.1 hl (by decide) rfl (fun ls hl => ?_)
          refine lv_iload hx hb gX9_weigh_5.2.2.2.2.2.2.1 (lv_at0 hl) ?_
          refine lv_aload_n hx hb gX9_weigh_5.2.2.2.2.2.2.2.1 rfl (lv_at3 hl) ?_
          refine gf_X9_26 hC rfl hK hP 2 rfl rfl gX9_weigh_5.2.2.2.2.2.2.2.2.1 ?_
          refine lv_icmp_gt (tgt := 148) hx hb gX9_weigh_5.2.2.2.2.2.2.2.2.2 (by decide) (fun c_112_2660 => ?_) (fun c_112_2660 => ?_)
          · refine lv_iinc (v := nI (kP + 1)) (lv' := [(4, .int (nI (kP + 1))), (6, .int (WGS (PWS fbsayings fbpapers td vd vl je jp) fbsayings ((fbsayings (kP * 8 + 3)) + 1) kbsayings)), (5, .int ((fbsayings (kP * 8 + 3)) + 1)), (0, .ref h0), (1, .int (nI je)), (2, .int (nI jp)), (3, .int (IVW fbpapers td vd vl kbpapers))]) hx hb gX9_weigh_7.2.2.2.2.2.1 hl (k := 2) rfl (nI_1 _) (by decide) rfl (fun ls hl => ?_)
            refine lv_goto (tgt := 32) hx hb gX9_weigh_7.2.2.2.2.2.2.1 (by decide) ?_
            have hst9 : LBT (fun h9 => WGS (PWS fbsayings fbpapers td vd vl je jp) fbsayings h9 kbsayings) (CAN (PWS fbsayings fbpapers td vd vl je jp) fbsayings tf12643 tt12644 (kP + 1)) wb wl := hlb.more rfl c_112_2660
            exact ihP (kP + 1) wl wb _ _ _ (by omega) (by first | assumption | exact Or.inl rfl | exact Or.inr rfl | exact LBT.zero) (And.intro hP hD) hS (lv_sub hl [0, 3, 4, 5, 6] rfl)
          · refine lv_iload hx hb gX9_weigh_6.1 (lv_at0 hl) ?_
            refine lv_aload_n hx hb gX9_weigh_6.2.1 rfl (lv_at3 hl) ?_
            refine gf_X9_26 hC rfl hK hP 2 rfl rfl gX9_weigh_6.2.2.1 ?_
            refine lv_icmp_ne (tgt := 136) hx hb gX9_weigh_6.2.2.2.1 (by decide) (fun c_121_2661 => ?_) (fun c_121_2661 => ?_)
            · refine lv_aload_n hx hb gX9_weigh_6.2.2.2.2.2.2.2.2.2 rfl (lv_at3 hl) ?_
              refine lv_iload hx hb gX9_weigh_7.1 (lv_at0 hl) ?_
              refine pf_X9_26 hC rfl hK hP hD hS 2 (ws' := [(bsayings, oX8 16 8 bsayingsc (nI kbsayings)), (bsayingsc, iA G 128 fbsayings), (h0, oX9 bb sg tf12643 tt12644 (WGS (PWS fbsayings fbpapers td vd vl je jp) fbsayings ((fbsayings (kP * 8 + 3)) + 1) kbsayings) wb), (sg, oX7 bb clk fi la ml mm sl sm scl), (la, iA G 12 fla), (ml, iA G 12 fml), (mm, iA G 12 fmm), (sl, iA G 12 fsl), (sm, iA G 12 fsm), (bb, oX0 bpersons bpapers bstamps bversions blines bsteps bsayings bfindings bwarnings bquestions td vd vl gp), (bpapers, oX8 12 6 bpapersc (nI kbpapers)), (bpapersc, iA G 72 fbpapers), (bpersons, oX8 10 2 bpersonsc (nI kbpersons)), (bpersonsc, iA G 20 fbpersons)]) rfl (Nat.le_of_ble_eq_true rfl) rfl rfl rfl gX9_weigh_7.2.1 (fun H locs hP hD hS => ?_)
              refine lv_aload_n hx hb gX9_weigh_7.2.2.1 rfl (lv_at3 hl) ?_
              refine lv_iload hx hb gX9_weigh_7.2.2.2.1 (lv_at1 hl) ?_
              refine pf_X9_29 hC rfl hK hP hD hS 2 (ws' := [(bsayings, oX8 16 8 bsayingsc (nI kbsayings)), (bsayingsc, iA G 128 fbsayings), (h0, oX9 bb sg tf12643 tt12644 (WGS (PWS fbsayings fbpapers td vd vl je jp) fbsayings ((fbsayings (kP * 8 + 3)) + 1) kbsayings) ((fbsayings (kP * 8 + 3)) + 1)), (sg, oX7 bb clk fi la ml mm sl sm scl), (la, iA G 12 fla), (ml, iA G 12 fml), (mm, iA G 12 fmm), (sl, iA G 12 fsl), (sm, iA G 12 fsm), (bb, oX0 bpersons bpapers bstamps bversions blines bsteps bsayings bfindings bwarnings bquestions td vd vl gp), (bpapers, oX8 12 6 bpapersc (nI kbpapers)), (bpapersc, iA G 72 fbpapers), (bpersons, oX8 10 2 bpersonsc (nI kbpersons)), (bpersonsc, iA G 20 fbpersons)]) rfl (Nat.le_of_ble_eq_true rfl) rfl rfl rfl gX9_weigh_7.2.2.2.2.1 (fun H locs hP hD hS => ?_)
              refine lv_iinc (v := nI (kP + 1)) (lv' := [(4, .int (nI (kP + 1))), (6, .int (WGS (PWS fbsayings fbpapers td vd vl je jp) fbsayings ((fbsayings (kP * 8 + 3)) + 1) kbsayings)), (5, .int ((fbsayings (kP * 8 + 3)) + 1)), (0, .ref h0), (1, .int (nI je)), (2, .int (nI jp)), (3, .int (IVW fbpapers td vd vl kbpapers))]) hx hb gX9_weigh_7.2.2.2.2.2.1 hl (k := 2) rfl (nI_1 _) (by decide) rfl (fun ls hl => ?_)
              refine lv_goto (tgt := 32) hx hb gX9_weigh_7.2.2.2.2.2.2.1 (by decide) ?_
              have hst9 : LBT (fun h9 => WGS (PWS fbsayings fbpapers td vd vl je jp) fbsayings h9 kbsayings) (CAN (PWS fbsayings fbpapers td vd vl je jp) fbsayings tf12643 tt12644 (kP + 1)) ((fbsayings (kP * 8 + 3)) + 1) (WGS (PWS fbsayings fbpapers td vd vl je jp) fbsayings ((fbsayings (kP * 8 + 3)) + 1) kbsayings) := hlb.new rfl a2657 (Wi_le.mp a2655).1 (Wi_le.mp a2655).2 (Or.inl (i_le_ne (Int32.not_lt.mp c_112_2660) c_121_2661))
              exact ihP (kP + 1) (WGS (PWS fbsayings fbpapers td vd vl je jp) fbsayings ((fbsayings (kP * 8 + 3)) + 1) kbsayings) ((fbsayings (kP * 8 + 3)) + 1) _ _ _ (by omega) (by first | assumption | exact Or.inl rfl | exact Or.inr rfl | exact LBT.zero) (And.intro hP hD) hS (lv_sub hl [0, 3, 4, 5, 6] rfl)
            · refine lv_iload hx hb gX9_weigh_6.2.2.2.2.1 (lv_at1 hl) ?_
              refine lv_aload_n hx hb gX9_weigh_6.2.2.2.2.2.1 rfl (lv_at3 hl) ?_
              refine gf_X9_29 hC rfl hK hP 2 rfl rfl gX9_weigh_6.2.2.2.2.2.2.1 ?_
              refine lv_icmp_lt (tgt := 136) hx hb gX9_weigh_6.2.2.2.2.2.2.2.1 (by decide) (fun c_130_2662 => ?_) (fun c_130_2662 => ?_)
              · refine lv_aload_n hx hb gX9_weigh_6.2.2.2.2.2.2.2.2.2 rfl (lv_at3 hl) ?_
                refine lv_iload hx hb gX9_weigh_7.1 (lv_at0 hl) ?_
                refine pf_X9_26 hC rfl hK hP hD hS 2 (ws' := [(bsayings, oX8 16 8 bsayingsc (nI kbsayings)), (bsayingsc, iA G 128 fbsayings), (h0, oX9 bb sg tf12643 tt12644 (WGS (PWS fbsayings fbpapers td vd vl je jp) fbsayings ((fbsayings (kP * 8 + 3)) + 1) kbsayings) wb), (sg, oX7 bb clk fi la ml mm sl sm scl), (la, iA G 12 fla), (ml, iA G 12 fml), (mm, iA G 12 fmm), (sl, iA G 12 fsl), (sm, iA G 12 fsm), (bb, oX0 bpersons bpapers bstamps bversions blines bsteps bsayings bfindings bwarnings bquestions td vd vl gp), (bpapers, oX8 12 6 bpapersc (nI kbpapers)), (bpapersc, iA G 72 fbpapers), (bpersons, oX8 10 2 bpersonsc (nI kbpersons)), (bpersonsc, iA G 20 fbpersons)]) rfl (Nat.le_of_ble_eq_true rfl) rfl rfl rfl gX9_weigh_7.2.1 (fun H locs hP hD hS => ?_)
                refine lv_aload_n hx hb gX9_weigh_7.2.2.1 rfl (lv_at3 hl) ?_
                refine lv_iload hx hb gX9_weigh_7.2.2.2.1 (lv_at1 hl) ?_
                refine pf_X9_29 hC rfl hK hP hD hS 2 (ws' := [(bsayings, oX8 16 8 bsayingsc (nI kbsayings)), (bsayingsc, iA G 128 fbsayings), (h0, oX9 bb sg tf12643 tt12644 (WGS (PWS fbsayings fbpapers td vd vl je jp) fbsayings ((fbsayings (kP * 8 + 3)) + 1) kbsayings) ((fbsayings (kP * 8 + 3)) + 1)), (sg, oX7 bb clk fi la ml mm sl sm scl), (la, iA G 12 fla), (ml, iA G 12 fml), (mm, iA G 12 fmm), (sl, iA G 12 fsl), (sm, iA G 12 fsm), (bb, oX0 bpersons bpapers bstamps bversions blines bsteps bsayings bfindings bwarnings bquestions td vd vl gp), (bpapers, oX8 12 6 bpapersc (nI kbpapers)), (bpapersc, iA G 72 fbpapers), (bpersons, oX8 10 2 bpersonsc (nI kbpersons)), (bpersonsc, iA G 20 fbpersons)]) rfl (Nat.le_of_ble_eq_true rfl) rfl rfl rfl gX9_weigh_7.2.2.2.2.1 (fun H locs hP hD hS => ?_)
                refine lv_iinc (v := nI (kP + 1)) (lv' := [(4, .int (nI (kP + 1))), (6, .int (WGS (PWS fbsayings fbpapers td vd vl je jp) fbsayings ((fbsayings (kP * 8 + 3)) + 1) kbsayings)), (5, .int ((fbsayings (kP * 8 + 3)) + 1)), (0, .ref h0), (1, .int (nI je)), (2, .int (nI jp)), (3, .int (IVW fbpapers td vd vl kbpapers))]) hx hb gX9_weigh_7.2.2.2.2.2.1 hl (k := 2) rfl (nI_1 _) (by decide) rfl (fun ls hl => ?_)
                refine lv_goto (tgt := 32) hx hb gX9_weigh_7.2.2.2.2.2.2.1 (by decide) ?_
                have hst9 : LBT (fun h9 => WGS (PWS fbsayings fbpapers td vd vl je jp) fbsayings h9 kbsayings) (CAN (PWS fbsayings fbpapers td vd vl je jp) fbsayings tf12643 tt12644 (kP + 1)) ((fbsayings (kP * 8 + 3)) + 1) (WGS (PWS fbsayings fbpapers td vd vl je jp) fbsayings ((fbsayings (kP * 8 + 3)) + 1) kbsayings) := hlb.new rfl a2657 (Wi_le.mp a2655).1 (Wi_le.mp a2655).2 (Or.inr ⟨c_121_2661, c_130_2662⟩)
                exact ihP (kP + 1) (WGS (PWS fbsayings fbpapers td vd vl je jp) fbsayings ((fbsayings (kP * 8 + 3)) + 1) kbsayings) ((fbsayings (kP * 8 + 3)) + 1) _ _ _ (by omega) (by first | assumption | exact Or.inl rfl | exact Or.inr rfl | exact LBT.zero) (And.intro hP hD) hS (lv_sub hl [0, 3, 4, 5, 6] rfl)
              · refine lv_goto (tgt := 148) hx hb gX9_weigh_6.2.2.2.2.2.2.2.2.1 (by decide) ?_
                refine lv_iinc (v := nI (kP + 1)) (lv' := [(4, .int (nI (kP + 1))), (6, .int (WGS (PWS fbsayings fbpapers td vd vl je jp) fbsayings ((fbsayings (kP * 8 + 3)) + 1) kbsayings)), (5, .int ((fbsayings (kP * 8 + 3)) + 1)), (0, .ref h0), (1, .int (nI je)), (2, .int (nI jp)), (3, .int (IVW fbpapers td vd vl kbpapers))]) hx hb gX9_weigh_7.2.2.2.2.2.1 hl (k := 2) rfl (nI_1 _) (by decide) rfl (fun ls hl => ?_)
                refine lv_goto (tgt := 32) hx hb gX9_weigh_7.2.2.2.2.2.2.1 (by decide) ?_
                have hst9 : LBT (fun h9 => WGS (PWS fbsayings fbpapers td vd vl je jp) fbsayings h9 kbsayings) (CAN (PWS fbsayings fbpapers td vd vl je jp) fbsayings tf12643 tt12644 (kP + 1)) wb wl := hlb.late rfl c_121_2661 (Int32.not_lt.mp c_130_2662)
                exact ihP (kP + 1) wl wb _ _ _ (by omega) (by first | assumption | exact Or.inl rfl | exact Or.inr rfl | exact LBT.zero) (And.intro hP hD) hS (lv_sub hl [0, 3, 4, 5, 6] rfl)
        · refine lv_if_ne (tgt := 95) hx hb gX9_weigh_4.2.2.2.2.2.2.2.1 (by decide) (fun c9 => absurd (by decide) c9) (fun _ => ?_)
          refine lv_goto (tgt := 148) hx hb gX9_weigh_4.2.2.2.2.2.2.2.2.1 (by decide) ?_
          refine lv_iinc (v := nI (kP + 1)) (lv' := [(4, .int (nI (kP + 1))), (5, .int ((fbsayings (kP * 8 + 3)) + 1)), (0, .ref h0), (1, .int (nI je)), (2, .int (nI jp)), (3, .int (IVW fbpapers td vd vl kbpapers))]) hx hb gX9_weigh_7.2.2.2.2.2.1 hl (k := 1) rfl (nI_1 _) (by decide) rfl (fun ls hl => ?_)
          refine lv_goto (tgt := 32) hx hb gX9_weigh_7.2.2.2.2.2.2.1 (by decide) ?_
          have hst9 : LBT (fun h9 => WGS (PWS fbsayings fbpapers td vd vl je jp) fbsayings h9 kbsayings) (CAN (PWS fbsayings fbpapers td vd vl je jp) fbsayings tf12643 tt12644 (kP + 1)) wb wl := hlb.skip (fun h9 => a2657 h9.1)
          exact ihP (kP + 1) wl wb _ _ _ (by omega) (by first | assumption | exact Or.inl rfl | exact Or.inr rfl | exact LBT.zero) (And.intro hP hD) hS (lv_sub hl [0, 2, 3, 4, 5] rfl)
      · refine lv_if_eq (tgt := 148) hx hb gX9_weigh_4.1 (by decide) (fun _ => ?_) (fun c9 => absurd (by decide) c9)
        refine lv_iinc (v := nI (kP + 1)) (lv' := [(4, .int (nI (kP + 1))), (5, .int ((fbsayings (kP * 8 + 3)) + 1)), (0, .ref h0), (1, .int (nI je)), (2, .int (nI jp)), (3, .int (IVW fbpapers td vd vl kbpapers))]) hx hb gX9_weigh_7.2.2.2.2.2.1 hl (k := 1) rfl (nI_1 _) (by decide) rfl (fun ls hl => ?_)
        refine lv_goto (tgt := 32) hx hb gX9_weigh_7.2.2.2.2.2.2.1 (by decide) ?_
        have hst9 : LBT (fun h9 => WGS (PWS fbsayings fbpapers td vd vl je jp) fbsayings h9 kbsayings) (CAN (PWS fbsayings fbpapers td vd vl je jp) fbsayings tf12643 tt12644 (kP + 1)) wb wl := hlb.skip (fun h9 => a2655 (Wi_le.mpr h9.2))
        exact ihP (kP + 1) wl wb _ _ _ (by omega) (by first | assumption | exact Or.inl rfl | exact Or.inr rfl | exact LBT.zero) (And.intro hP hD) hS (lv_sub hl [0, 2, 3, 4, 5] rfl)
  exact keyP kbsayings 0 (WGS (PWS fbsayings fbpapers td vd vl je jp) fbsayings tf12643 kbsayings) tf12643 _ _ _ (by omega) (by first | assumption | exact Or.inl rfl | exact Or.inr rfl | exact LBT.zero) (And.intro hP hD) hS (lv_sub hl [0, 1, 2, 3, 4] rfl)
def K_c_leastWeightX (l : Launch) (G : GG) (h0 : Nat) (bb : Nat) (sg : Nat) (tf : Int32) (tt9 : Int32) (tl : Int32) (tbv : Int32) : Prop := MP l G yX9_leastWeight cX9_leastWeight 1 (some .int) 1 [.ref h0] [(h0, oX9 bb sg tf tt9 tl tbv)] (fun r : Int32 => r = tl)
set_option maxHeartbeats 4000000 in
set_option maxRecDepth 100000 in
theorem c_leastWeightX (l : Launch) (G : GG) (h0 : Nat) (bb : Nat) (sg : Nat) (tf : Int32) (tt9 : Int32) (tl : Int32) (tbv : Int32) : K_c_leastWeightX l G h0 bb sg tf tt9 tl tbv := by
  refine MP.start (by decide +kernel) (Nat.le_of_ble_eq_true rfl) ?_
  intro p e s m below meth c ls hC hK hP hD hl
  refine absQ (fun Q0 hQ0 => ?_)
  have hl : lv_has ls 1 [(0, .ref h0)] := hl
  refine Kan8 hC (fun hx hb hr hml hB hown hlocks hnm => ?_)
  refine lv_aload_n hx hb gX9_leastWeight_0.1 rfl (lv_at0 hl) ?_
  refine gf_X9_26 hC rfl hK hP 0 rfl rfl gX9_leastWeight_0.2.1 ?_
  refine toQ hQ0 ?_
  exact RP (v := tl) hC (rfl) rfl gX9_leastWeight_0.2.2
def K_c_believedX (l : Launch) (G : GG) (h0 : Nat) (bb : Nat) (sg : Nat) (tf : Int32) (tt9 : Int32) (tl : Int32) (tbv : Int32) : Prop := MP l G yX9_believedHour cX9_believedHour 1 (some .int) 1 [.ref h0] [(h0, oX9 bb sg tf tt9 tl tbv)] (fun r : Int32 => r = tbv)
set_option maxHeartbeats 4000000 in
set_option maxRecDepth 100000 in
theorem c_believedX (l : Launch) (G : GG) (h0 : Nat) (bb : Nat) (sg : Nat) (tf : Int32) (tt9 : Int32) (tl : Int32) (tbv : Int32) : K_c_believedX l G h0 bb sg tf tt9 tl tbv := by
  refine MP.start (by decide +kernel) (Nat.le_of_ble_eq_true rfl) ?_
  intro p e s m below meth c ls hC hK hP hD hl
  refine absQ (fun Q0 hQ0 => ?_)
  have hl : lv_has ls 1 [(0, .ref h0)] := hl
  refine Kan8 hC (fun hx hb hr hml hB hown hlocks hnm => ?_)
  refine lv_aload_n hx hb gX9_believedHour_0.1 rfl (lv_at0 hl) ?_
  refine gf_X9_29 hC rfl hK hP 0 rfl rfl gX9_believedHour_0.2.1 ?_
  refine toQ hQ0 ?_
  exact RP (v := tbv) hC (rfl) rfl gX9_believedHour_0.2.2
