section WR
variable {p : Program} {l : Launch} {e : Env} {R : Room} {s : State} {m : MethodId} {args : Array Value} {below : List Frame} {meth : Method} {c : Code} {H : Heap} {locs : List Loc} {cells slots : Nat} {Q : State → Prop}
variable {pc : Nat} {ls : Array Slot} {rest : List Value} {G : GG} {ws : va_W} {A : Nat → Prop} {y0 : MethodName} {b0 : ByteArray} {mL0 : Nat} {rt0 : Option FieldType} {a : Nat} {H0 : Heap}
theorem gX7_clashes_0 : (decode cX7_clashes 0 = .ok (.aload_n 0, 1)) ∧ (decode cX7_clashes 1 = .ok (.getfield 41, 3)) ∧ (decode cX7_clashes 4 = .ok (.ireturn, 1)) := by decide +kernel
theorem gX11_span_0 : (decode cX11_span 0 = .ok (.iload_n 1, 1)) ∧ (decode cX11_span 1 = .ok (.iconst 0, 1)) ∧ (decode cX11_span 2 = .ok (.iconst 5, 1)) ∧ (decode cX11_span 3 = .ok (.invokestatic 83, 3)) ∧ (decode cX11_span 6 = .ok (.ifCond .ne 5, 3)) ∧ (decode cX11_span 9 = .ok (.iconst (-1), 1)) ∧ (decode cX11_span 10 = .ok (.ireturn, 1)) ∧ (decode cX11_span 11 = .ok (.aload_n 0, 1)) ∧ (decode cX11_span 12 = .ok (.getfield 28, 3)) ∧ (decode cX11_span 15 = .ok (.aload_n 0, 1)) := by decide +kernel
theorem m_280 : Cond.fieldLink RX11 28 "InquiryBench" "sight" "LInquiryBench$Sight;" ∈ BW := iB_BW15 _ (List.mem_of_getElem? (i := 6) rfl)
theorem gf_X11_28 (hC : CX p s m meth c y0 b0 mL0 rt0 args) (hy0 : y0.cls = RX11) (hK : KK G s) (hP : va_P G.1 vwCl ws H) (q0 : Nat) {fs : List Value} {v : Value} (he : ws[q0]? = some (a, .inr (11, fs))) (hv : fs[3]? = some v) (hdg : decode b0 pc = .ok (.getfield 28, 3)) (kk : W p l e R s m args below meth c H locs cells slots Q (F0 m (pc + 3) ls (v :: rest))) : W p l e R s m args below meth c H locs cells slots Q (F0 m pc ls (.ref a :: rest)) := by
  obtain ⟨hx, hb, hr, hml, hB, hown, hlocks, hnm⟩ := hC
  rw [hy0] at hown
  exact va_get (ci := 11) (C := RX11) (T := TX11) (N := 11) hx hb hB in_X11 hown hK.1 hP q0 he rfl 3 (by decide) (hB _ m_280) (fun _ h => h) hv hdg kk
theorem gX11_span_1 : (decode cX11_span 16 = .ok (.getfield 15, 3)) ∧ (decode cX11_span 19 = .ok (.invokevirtual 97, 3)) ∧ (decode cX11_span 22 = .ok (.invokevirtual 183, 3)) ∧ (decode cX11_span 25 = .ok (.aload_n 0, 1)) ∧ (decode cX11_span 26 = .ok (.getfield 28, 3)) ∧ (decode cX11_span 29 = .ok (.invokevirtual 187, 3)) ∧ (decode cX11_span 32 = .ok (.ifCond .eq 6, 3)) ∧ (decode cX11_span 35 = .ok (.bipush (-4), 2)) ∧ (decode cX11_span 37 = .ok (.ireturn, 1)) ∧ (decode cX11_span 38 = .ok (.aload_n 0, 1)) := by decide +kernel
theorem m_471 : Cond.code yX7_look cX7_look 4 none ∈ BW := iB_BW25 _ (List.mem_of_getElem? (i := 15) rfl)
theorem m_468 : Cond.methodLink RX11 183 yX7_look ∈ BW := iB_BW25 _ (List.mem_of_getElem? (i := 12) rfl)
theorem m_469 : Cond.instanceMethod yX7_look ∈ BW := iB_BW25 _ (List.mem_of_getElem? (i := 13) rfl)
theorem m_470 : Cond.selects RX7 yX7_look yX7_look ∈ BW := iB_BW25 _ (List.mem_of_getElem? (i := 14) rfl)
theorem si_X11_183 : SV RX11 RX7 183 yX7_look cX7_look 4 none 1 := ⟨⟨m_468, m_469, m_470, m_106, m_471⟩, rfl, nK_RX7.1, nK_RX7.2, pd_18⟩
theorem m_489 : Cond.code yX7_clashes cX7_clashes 1 (some .boolean) ∈ BW := iB_BW26 _ (List.mem_of_getElem? (i := 13) rfl)
theorem m_486 : Cond.methodLink RX11 187 yX7_clashes ∈ BW := iB_BW26 _ (List.mem_of_getElem? (i := 10) rfl)
theorem m_487 : Cond.instanceMethod yX7_clashes ∈ BW := iB_BW26 _ (List.mem_of_getElem? (i := 11) rfl)
theorem m_488 : Cond.selects RX7 yX7_clashes yX7_clashes ∈ BW := iB_BW26 _ (List.mem_of_getElem? (i := 12) rfl)
theorem si_X11_187 : SV RX11 RX7 187 yX7_clashes cX7_clashes 1 (some .boolean) 0 := ⟨⟨m_486, m_487, m_488, m_106, m_489⟩, rfl, nK_RX7.1, nK_RX7.2, pd_15⟩
theorem gX11_span_2 : (decode cX11_span 39 = .ok (.getfield 28, 3)) ∧ (decode cX11_span 42 = .ok (.iload_n 1, 1)) ∧ (decode cX11_span 43 = .ok (.iload_n 2, 1)) ∧ (decode cX11_span 44 = .ok (.invokevirtual 190, 3)) ∧ (decode cX11_span 47 = .ok (.sipush 1000, 3)) ∧ (decode cX11_span 50 = .ok (.iadd, 1)) ∧ (decode cX11_span 51 = .ok (.ireturn, 1)) := by decide +kernel
theorem m_497 : Cond.code yX7_ahead cX7_ahead 3 (some .int) ∈ BW := iB_BW27 _ (List.mem_of_getElem? (i := 1) rfl)
theorem m_494 : Cond.methodLink RX11 190 yX7_ahead ∈ BW := iB_BW26 _ (List.mem_of_getElem? (i := 18) rfl)
theorem m_495 : Cond.instanceMethod yX7_ahead ∈ BW := iB_BW26 _ (List.mem_of_getElem? (i := 19) rfl)
theorem m_496 : Cond.selects RX7 yX7_ahead yX7_ahead ∈ BW := iB_BW27 _ (List.mem_of_getElem? (i := 0) rfl)
theorem si_X11_190 : SV RX11 RX7 190 yX7_ahead cX7_ahead 3 (some .int) 2 := ⟨⟨m_494, m_495, m_496, m_106, m_497⟩, rfl, nK_RX7.1, nK_RX7.2, pd_8⟩
theorem gX11_sent_0 : (decode cX11_sent 0 = .ok (.aload_n 0, 1)) ∧ (decode cX11_sent 1 = .ok (.getfield 15, 3)) ∧ (decode cX11_sent 4 = .ok (.getfield 144, 3)) ∧ (decode cX11_sent 7 = .ok (.iload_n 1, 1)) ∧ (decode cX11_sent 8 = .ok (.invokevirtual 124, 3)) ∧ (decode cX11_sent 11 = .ok (.ifCond .ne 5, 3)) ∧ (decode cX11_sent 14 = .ok (.iconst (-1), 1)) ∧ (decode cX11_sent 15 = .ok (.ireturn, 1)) ∧ (decode cX11_sent 16 = .ok (.aload_n 0, 1)) ∧ (decode cX11_sent 17 = .ok (.getfield 28, 3)) := by decide +kernel
theorem gX11_sent_1 : (decode cX11_sent 20 = .ok (.aload_n 0, 1)) ∧ (decode cX11_sent 21 = .ok (.getfield 15, 3)) ∧ (decode cX11_sent 24 = .ok (.invokevirtual 97, 3)) ∧ (decode cX11_sent 27 = .ok (.invokevirtual 183, 3)) ∧ (decode cX11_sent 30 = .ok (.aload_n 0, 1)) ∧ (decode cX11_sent 31 = .ok (.getfield 28, 3)) ∧ (decode cX11_sent 34 = .ok (.iload_n 1, 1)) ∧ (decode cX11_sent 35 = .ok (.invokevirtual 194, 3)) ∧ (decode cX11_sent 38 = .ok (.ifCond .ne 6, 3)) ∧ (decode cX11_sent 41 = .ok (.bipush (-3), 2)) := by decide +kernel
theorem m_502 : Cond.methodLink RX11 194 yX7_isSent ∈ BW := iB_BW27 _ (List.mem_of_getElem? (i := 6) rfl)
theorem si_X11_194 : SV RX11 RX7 194 yX7_isSent cX7_isSent 2 (some .boolean) 1 := ⟨⟨m_502, m_503, m_504, m_106, m_505⟩, rfl, nK_RX7.1, nK_RX7.2, pd_5⟩
theorem gX11_sent_2 : (decode cX11_sent 43 = .ok (.ireturn, 1)) ∧ (decode cX11_sent 44 = .ok (.aload_n 0, 1)) ∧ (decode cX11_sent 45 = .ok (.getfield 28, 3)) ∧ (decode cX11_sent 48 = .ok (.iload_n 1, 1)) ∧ (decode cX11_sent 49 = .ok (.iload_n 2, 1)) ∧ (decode cX11_sent 50 = .ok (.invokevirtual 197, 3)) ∧ (decode cX11_sent 53 = .ok (.sipush 1000, 3)) ∧ (decode cX11_sent 56 = .ok (.iadd, 1)) ∧ (decode cX11_sent 57 = .ok (.ireturn, 1)) := by decide +kernel
theorem m_509 : Cond.code yX7_sentHour cX7_sentHour 3 (some .int) ∈ BW := iB_BW27 _ (List.mem_of_getElem? (i := 13) rfl)
theorem m_506 : Cond.methodLink RX11 197 yX7_sentHour ∈ BW := iB_BW27 _ (List.mem_of_getElem? (i := 10) rfl)
theorem m_507 : Cond.instanceMethod yX7_sentHour ∈ BW := iB_BW27 _ (List.mem_of_getElem? (i := 11) rfl)
theorem m_508 : Cond.selects RX7 yX7_sentHour yX7_sentHour ∈ BW := iB_BW27 _ (List.mem_of_getElem? (i := 12) rfl)
theorem si_X11_197 : SV RX11 RX7 197 yX7_sentHour cX7_sentHour 3 (some .int) 2 := ⟨⟨m_506, m_507, m_508, m_106, m_509⟩, rfl, nK_RX7.1, nK_RX7.2, pd_8⟩
theorem gX11_hand_0 : (decode cX11_hand 0 = .ok (.aload_n 0, 1)) ∧ (decode cX11_hand 1 = .ok (.getfield 15, 3)) ∧ (decode cX11_hand 4 = .ok (.getfield 144, 3)) ∧ (decode cX11_hand 7 = .ok (.iload_n 1, 1)) ∧ (decode cX11_hand 8 = .ok (.invokevirtual 124, 3)) ∧ (decode cX11_hand 11 = .ok (.ifCond .eq 17, 3)) ∧ (decode cX11_hand 14 = .ok (.aload_n 0, 1)) ∧ (decode cX11_hand 15 = .ok (.getfield 15, 3)) ∧ (decode cX11_hand 18 = .ok (.getfield 107, 3)) ∧ (decode cX11_hand 21 = .ok (.iload_n 2, 1)) := by decide +kernel
theorem gX11_hand_1 : (decode cX11_hand 22 = .ok (.invokevirtual 124, 3)) ∧ (decode cX11_hand 25 = .ok (.ifCond .ne 5, 3)) ∧ (decode cX11_hand 28 = .ok (.iconst (-1), 1)) ∧ (decode cX11_hand 29 = .ok (.ireturn, 1)) ∧ (decode cX11_hand 30 = .ok (.aload_n 0, 1)) ∧ (decode cX11_hand 31 = .ok (.getfield 28, 3)) ∧ (decode cX11_hand 34 = .ok (.aload_n 0, 1)) ∧ (decode cX11_hand 35 = .ok (.getfield 15, 3)) ∧ (decode cX11_hand 38 = .ok (.invokevirtual 97, 3)) ∧ (decode cX11_hand 41 = .ok (.invokevirtual 183, 3)) := by decide +kernel
theorem gX11_hand_2 : (decode cX11_hand 44 = .ok (.aload_n 0, 1)) ∧ (decode cX11_hand 45 = .ok (.getfield 28, 3)) ∧ (decode cX11_hand 48 = .ok (.iload_n 1, 1)) ∧ (decode cX11_hand 49 = .ok (.iload_n 2, 1)) ∧ (decode cX11_hand 50 = .ok (.invokevirtual 200, 3)) ∧ (decode cX11_hand 53 = .ok (.ifCond .ne 6, 3)) ∧ (decode cX11_hand 56 = .ok (.bipush (-3), 2)) ∧ (decode cX11_hand 58 = .ok (.ireturn, 1)) ∧ (decode cX11_hand 59 = .ok (.aload_n 0, 1)) ∧ (decode cX11_hand 60 = .ok (.getfield 28, 3)) := by decide +kernel
theorem m_515 : Cond.methodLink RX11 200 yX7_isInHand ∈ BW := iB_BW27 _ (List.mem_of_getElem? (i := 19) rfl)
theorem si_X11_200 : SV RX11 RX7 200 yX7_isInHand cX7_isInHand 3 (some .boolean) 2 := ⟨⟨m_515, m_516, m_517, m_106, m_518⟩, rfl, nK_RX7.1, nK_RX7.2, pd_3⟩
theorem gX11_hand_3 : (decode cX11_hand 63 = .ok (.iload_n 1, 1)) ∧ (decode cX11_hand 64 = .ok (.iload_n 2, 1)) ∧ (decode cX11_hand 65 = .ok (.iload_n 3, 1)) ∧ (decode cX11_hand 66 = .ok (.invokevirtual 203, 3)) ∧ (decode cX11_hand 69 = .ok (.sipush 1000, 3)) ∧ (decode cX11_hand 72 = .ok (.iadd, 1)) ∧ (decode cX11_hand 73 = .ok (.ireturn, 1)) := by decide +kernel
theorem m_519 : Cond.methodLink RX11 203 yX7_handHour ∈ BW := iB_BW28 _ (List.mem_of_getElem? (i := 3) rfl)
theorem si_X11_203 : SV RX11 RX7 203 yX7_handHour cX7_handHour 4 (some .int) 3 := ⟨⟨m_519, m_520, m_521, m_106, m_522⟩, rfl, nK_RX7.1, nK_RX7.2, pd_6⟩
theorem gX11_before_0 : (decode cX11_before 0 = .ok (.aload_n 0, 1)) ∧ (decode cX11_before 1 = .ok (.getfield 15, 3)) ∧ (decode cX11_before 4 = .ok (.getfield 144, 3)) ∧ (decode cX11_before 7 = .ok (.iload_n 1, 1)) ∧ (decode cX11_before 8 = .ok (.invokevirtual 124, 3)) ∧ (decode cX11_before 11 = .ok (.ifCond .eq 22, 3)) ∧ (decode cX11_before 14 = .ok (.aload_n 0, 1)) ∧ (decode cX11_before 15 = .ok (.getfield 15, 3)) ∧ (decode cX11_before 18 = .ok (.getfield 144, 3)) ∧ (decode cX11_before 21 = .ok (.iload_n 2, 1)) := by decide +kernel
theorem gX11_before_1 : (decode cX11_before 22 = .ok (.invokevirtual 124, 3)) ∧ (decode cX11_before 25 = .ok (.ifCond .eq 8, 3)) ∧ (decode cX11_before 28 = .ok (.iload_n 1, 1)) ∧ (decode cX11_before 29 = .ok (.iload_n 2, 1)) ∧ (decode cX11_before 30 = .ok (.if_icmp .ne 5, 3)) ∧ (decode cX11_before 33 = .ok (.iconst (-1), 1)) ∧ (decode cX11_before 34 = .ok (.ireturn, 1)) ∧ (decode cX11_before 35 = .ok (.aload_n 0, 1)) ∧ (decode cX11_before 36 = .ok (.getfield 28, 3)) ∧ (decode cX11_before 39 = .ok (.aload_n 0, 1)) := by decide +kernel
theorem gX11_before_2 : (decode cX11_before 40 = .ok (.getfield 15, 3)) ∧ (decode cX11_before 43 = .ok (.invokevirtual 97, 3)) ∧ (decode cX11_before 46 = .ok (.invokevirtual 183, 3)) ∧ (decode cX11_before 49 = .ok (.aload_n 0, 1)) ∧ (decode cX11_before 50 = .ok (.getfield 28, 3)) ∧ (decode cX11_before 53 = .ok (.iload_n 1, 1)) ∧ (decode cX11_before 54 = .ok (.invokevirtual 194, 3)) ∧ (decode cX11_before 57 = .ok (.ifCond .eq 14, 3)) ∧ (decode cX11_before 60 = .ok (.aload_n 0, 1)) ∧ (decode cX11_before 61 = .ok (.getfield 28, 3)) := by decide +kernel
theorem gX11_before_3 : (decode cX11_before 64 = .ok (.iload_n 2, 1)) ∧ (decode cX11_before 65 = .ok (.invokevirtual 194, 3)) ∧ (decode cX11_before 68 = .ok (.ifCond .ne 6, 3)) ∧ (decode cX11_before 71 = .ok (.bipush (-3), 2)) ∧ (decode cX11_before 73 = .ok (.ireturn, 1)) ∧ (decode cX11_before 74 = .ok (.aload_n 0, 1)) ∧ (decode cX11_before 75 = .ok (.getfield 28, 3)) ∧ (decode cX11_before 78 = .ok (.iload_n 1, 1)) ∧ (decode cX11_before 79 = .ok (.iload_n 2, 1)) ∧ (decode cX11_before 80 = .ok (.invokevirtual 207, 3)) := by decide +kernel
theorem m_530 : Cond.code yX7_leastBetween cX7_leastBetween 3 (some .int) ∈ BW := iB_BW28 _ (List.mem_of_getElem? (i := 14) rfl)
theorem m_527 : Cond.methodLink RX11 207 yX7_leastBetween ∈ BW := iB_BW28 _ (List.mem_of_getElem? (i := 11) rfl)
theorem m_528 : Cond.instanceMethod yX7_leastBetween ∈ BW := iB_BW28 _ (List.mem_of_getElem? (i := 12) rfl)
theorem m_529 : Cond.selects RX7 yX7_leastBetween yX7_leastBetween ∈ BW := iB_BW28 _ (List.mem_of_getElem? (i := 13) rfl)
theorem si_X11_207 : SV RX11 RX7 207 yX7_leastBetween cX7_leastBetween 3 (some .int) 2 := ⟨⟨m_527, m_528, m_529, m_106, m_530⟩, rfl, nK_RX7.1, nK_RX7.2, pd_2⟩
theorem gX11_before_4 : (decode cX11_before 83 = .ok (.ifCond .le 5, 3)) ∧ (decode cX11_before 86 = .ok (.iconst 2, 1)) ∧ (decode cX11_before 87 = .ok (.ireturn, 1)) ∧ (decode cX11_before 88 = .ok (.aload_n 0, 1)) ∧ (decode cX11_before 89 = .ok (.getfield 28, 3)) ∧ (decode cX11_before 92 = .ok (.iload_n 1, 1)) ∧ (decode cX11_before 93 = .ok (.iload_n 2, 1)) ∧ (decode cX11_before 94 = .ok (.invokevirtual 210, 3)) ∧ (decode cX11_before 97 = .ok (.ifCond .le 7, 3)) ∧ (decode cX11_before 100 = .ok (.iconst 1, 1)) := by decide +kernel
theorem m_540 : Cond.code yX7_mostBetween cX7_mostBetween 3 (some .int) ∈ BW := iB_BW29 _ (List.mem_of_getElem? (i := 4) rfl)
theorem m_537 : Cond.methodLink RX11 210 yX7_mostBetween ∈ BW := iB_BW29 _ (List.mem_of_getElem? (i := 1) rfl)
theorem m_538 : Cond.instanceMethod yX7_mostBetween ∈ BW := iB_BW29 _ (List.mem_of_getElem? (i := 2) rfl)
theorem m_539 : Cond.selects RX7 yX7_mostBetween yX7_mostBetween ∈ BW := iB_BW29 _ (List.mem_of_getElem? (i := 3) rfl)
theorem si_X11_210 : SV RX11 RX7 210 yX7_mostBetween cX7_mostBetween 3 (some .int) 2 := ⟨⟨m_537, m_538, m_539, m_106, m_540⟩, rfl, nK_RX7.1, nK_RX7.2, pd_2⟩
theorem gX11_before_5 : (decode cX11_before 101 = .ok (.goto 4, 3)) ∧ (decode cX11_before 104 = .ok (.iconst 0, 1)) ∧ (decode cX11_before 105 = .ok (.ireturn, 1)) := by decide +kernel
end WR
theorem rm_7_1_3 {mc ms : Nat} : 1 + 1 ≤ (RM 7 mc ms).frames ∧ 8 + (3 + 11) + 40 * 1 ≤ (RM 7 mc ms).locals := ⟨by show 1 + 1 ≤ 7; decide, by show 8 + (3 + 11) + 40 * 1 ≤ 40 * 7; decide⟩
theorem rm_7_3_6 {mc ms : Nat} : 3 + 1 ≤ (RM 7 mc ms).frames ∧ 8 + (6 + 11) + 40 * 3 ≤ (RM 7 mc ms).locals := ⟨by show 3 + 1 ≤ 7; decide, by show 8 + (6 + 11) + 40 * 3 ≤ 40 * 7; decide⟩
theorem sm_1_11_12 {a0 a1 a2 a3 a4 a5 a6 a7 a8 a9 a10 a11 a12 : Nat × va_E} {l : va_W} : ([1, 11, 12] : List Nat).map (fun i => (a0 :: a1 :: a2 :: a3 :: a4 :: a5 :: a6 :: a7 :: a8 :: a9 :: a10 :: a11 :: a12 :: l : va_W)[i]?) = ([a1, a11, a12] : va_W).map some := rfl
theorem fm_1_11_12 {a0 a1 a2 a3 a4 a5 a6 a7 a8 a9 a10 a11 a12 : Nat × va_E} {l : va_W} : ([1, 11, 12] : List Nat).filterMap (fun i => (a0 :: a1 :: a2 :: a3 :: a4 :: a5 :: a6 :: a7 :: a8 :: a9 :: a10 :: a11 :: a12 :: l : va_W)[i]?) = ([a1, a11, a12] : va_W) := rfl
theorem nd_1_11_12 : va_nd [1, 11, 12] = true := by decide
theorem rm_7_5_4 {mc ms : Nat} : 5 + 1 ≤ (RM 7 mc ms).frames ∧ 8 + (4 + 11) + 40 * 5 ≤ (RM 7 mc ms).locals := ⟨by show 5 + 1 ≤ 7; decide, by show 8 + (4 + 11) + 40 * 5 ≤ 40 * 7; decide⟩
theorem sm_2_3_4_5_6_7_8_9_10_1_13_14 {a0 a1 a2 a3 a4 a5 a6 a7 a8 a9 a10 a11 a12 a13 a14 : Nat × va_E} {l : va_W} : ([2, 3, 4, 5, 6, 7, 8, 9, 10, 1, 13, 14] : List Nat).map (fun i => (a0 :: a1 :: a2 :: a3 :: a4 :: a5 :: a6 :: a7 :: a8 :: a9 :: a10 :: a11 :: a12 :: a13 :: a14 :: l : va_W)[i]?) = ([a2, a3, a4, a5, a6, a7, a8, a9, a10, a1, a13, a14] : va_W).map some := rfl
theorem fm_2_3_4_5_6_7_8_9_10_1_13_14 {a0 a1 a2 a3 a4 a5 a6 a7 a8 a9 a10 a11 a12 a13 a14 : Nat × va_E} {l : va_W} : ([2, 3, 4, 5, 6, 7, 8, 9, 10, 1, 13, 14] : List Nat).filterMap (fun i => (a0 :: a1 :: a2 :: a3 :: a4 :: a5 :: a6 :: a7 :: a8 :: a9 :: a10 :: a11 :: a12 :: a13 :: a14 :: l : va_W)[i]?) = ([a2, a3, a4, a5, a6, a7, a8, a9, a10, a1, a13, a14] : va_W) := rfl
theorem nd_2_3_4_5_6_7_8_9_10_1_13_14 : va_nd [2, 3, 4, 5, 6, 7, 8, 9, 10, 1, 13, 14] = true := by decide
theorem sm_0_11_12 {a0 a1 a2 a3 a4 a5 a6 a7 a8 a9 a10 a11 a12 : Nat × va_E} {l : va_W} : ([0, 11, 12] : List Nat).map (fun i => (a0 :: a1 :: a2 :: a3 :: a4 :: a5 :: a6 :: a7 :: a8 :: a9 :: a10 :: a11 :: a12 :: l : va_W)[i]?) = ([a0, a11, a12] : va_W).map some := rfl
theorem nd_0_11_12 : va_nd [0, 11, 12] = true := by decide
theorem dj_2_3_4_5_6_7_8_9_10_1_13_14__0_11_12 : ∀ i ∈ ([0, 11, 12] : List Nat), i ∉ ([2, 3, 4, 5, 6, 7, 8, 9, 10, 1, 13, 14] : List Nat) := by decide
theorem rm_7_1_1 {mc ms : Nat} : 1 + 1 ≤ (RM 7 mc ms).frames ∧ 8 + (1 + 11) + 40 * 1 ≤ (RM 7 mc ms).locals := ⟨by show 1 + 1 ≤ 7; decide, by show 8 + (1 + 11) + 40 * 1 ≤ 40 * 7; decide⟩
theorem sm_3 {a0 a1 a2 a3 : Nat × va_E} {l : va_W} : ([3] : List Nat).map (fun i => (a0 :: a1 :: a2 :: a3 :: l : va_W)[i]?) = ([a3] : va_W).map some := rfl
theorem fm_3 {a0 a1 a2 a3 : Nat × va_E} {l : va_W} : ([3] : List Nat).filterMap (fun i => (a0 :: a1 :: a2 :: a3 :: l : va_W)[i]?) = ([a3] : va_W) := rfl
theorem nd_3 : va_nd [3] = true := by decide
theorem rm_7_2_3 {mc ms : Nat} : 2 + 1 ≤ (RM 7 mc ms).frames ∧ 8 + (3 + 11) + 40 * 2 ≤ (RM 7 mc ms).locals := ⟨by show 2 + 1 ≤ 7; decide, by show 8 + (3 + 11) + 40 * 2 ≤ 40 * 7; decide⟩
theorem sm_3_4_5 {a0 a1 a2 a3 a4 a5 : Nat × va_E} {l : va_W} : ([3, 4, 5] : List Nat).map (fun i => (a0 :: a1 :: a2 :: a3 :: a4 :: a5 :: l : va_W)[i]?) = ([a3, a4, a5] : va_W).map some := rfl
theorem fm_3_4_5 {a0 a1 a2 a3 a4 a5 : Nat × va_E} {l : va_W} : ([3, 4, 5] : List Nat).filterMap (fun i => (a0 :: a1 :: a2 :: a3 :: a4 :: a5 :: l : va_W)[i]?) = ([a3, a4, a5] : va_W) := rfl
theorem nd_3_4_5 : va_nd [3, 4, 5] = true := by decide
theorem rm_7_1_2 {mc ms : Nat} : 1 + 1 ≤ (RM 7 mc ms).frames ∧ 8 + (2 + 11) + 40 * 1 ≤ (RM 7 mc ms).locals := ⟨by show 1 + 1 ≤ 7; decide, by show 8 + (2 + 11) + 40 * 1 ≤ 40 * 7; decide⟩
theorem sm_11 {a0 a1 a2 a3 a4 a5 a6 a7 a8 a9 a10 a11 : Nat × va_E} {l : va_W} : ([11] : List Nat).map (fun i => (a0 :: a1 :: a2 :: a3 :: a4 :: a5 :: a6 :: a7 :: a8 :: a9 :: a10 :: a11 :: l : va_W)[i]?) = ([a11] : va_W).map some := rfl
theorem fm_11 {a0 a1 a2 a3 a4 a5 a6 a7 a8 a9 a10 a11 : Nat × va_E} {l : va_W} : ([11] : List Nat).filterMap (fun i => (a0 :: a1 :: a2 :: a3 :: a4 :: a5 :: a6 :: a7 :: a8 :: a9 :: a10 :: a11 :: l : va_W)[i]?) = ([a11] : va_W) := rfl
theorem nd_11 : va_nd [11] = true := by decide
theorem sm_3_7 {a0 a1 a2 a3 a4 a5 a6 a7 : Nat × va_E} {l : va_W} : ([3, 7] : List Nat).map (fun i => (a0 :: a1 :: a2 :: a3 :: a4 :: a5 :: a6 :: a7 :: l : va_W)[i]?) = ([a3, a7] : va_W).map some := rfl
theorem fm_3_7 {a0 a1 a2 a3 a4 a5 a6 a7 : Nat × va_E} {l : va_W} : ([3, 7] : List Nat).filterMap (fun i => (a0 :: a1 :: a2 :: a3 :: a4 :: a5 :: a6 :: a7 :: l : va_W)[i]?) = ([a3, a7] : va_W) := rfl
theorem nd_3_7 : va_nd [3, 7] = true := by decide
theorem sm_3_7_10_11 {a0 a1 a2 a3 a4 a5 a6 a7 a8 a9 a10 a11 : Nat × va_E} {l : va_W} : ([3, 7, 10, 11] : List Nat).map (fun i => (a0 :: a1 :: a2 :: a3 :: a4 :: a5 :: a6 :: a7 :: a8 :: a9 :: a10 :: a11 :: l : va_W)[i]?) = ([a3, a7, a10, a11] : va_W).map some := rfl
theorem fm_3_7_10_11 {a0 a1 a2 a3 a4 a5 a6 a7 a8 a9 a10 a11 : Nat × va_E} {l : va_W} : ([3, 7, 10, 11] : List Nat).filterMap (fun i => (a0 :: a1 :: a2 :: a3 :: a4 :: a5 :: a6 :: a7 :: a8 :: a9 :: a10 :: a11 :: l : va_W)[i]?) = ([a3, a7, a10, a11] : va_W) := rfl
theorem nd_3_7_10_11 : va_nd [3, 7, 10, 11] = true := by decide
theorem sm_15 {a0 a1 a2 a3 a4 a5 a6 a7 a8 a9 a10 a11 a12 a13 a14 a15 : Nat × va_E} {l : va_W} : ([15] : List Nat).map (fun i => (a0 :: a1 :: a2 :: a3 :: a4 :: a5 :: a6 :: a7 :: a8 :: a9 :: a10 :: a11 :: a12 :: a13 :: a14 :: a15 :: l : va_W)[i]?) = ([a15] : va_W).map some := rfl
theorem fm_15 {a0 a1 a2 a3 a4 a5 a6 a7 a8 a9 a10 a11 a12 a13 a14 a15 : Nat × va_E} {l : va_W} : ([15] : List Nat).filterMap (fun i => (a0 :: a1 :: a2 :: a3 :: a4 :: a5 :: a6 :: a7 :: a8 :: a9 :: a10 :: a11 :: a12 :: a13 :: a14 :: a15 :: l : va_W)[i]?) = ([a15] : va_W) := rfl
theorem nd_15 : va_nd [15] = true := by decide
theorem sm_0_11_12_15_16 {a0 a1 a2 a3 a4 a5 a6 a7 a8 a9 a10 a11 a12 a13 a14 a15 a16 : Nat × va_E} {l : va_W} : ([0, 11, 12, 15, 16] : List Nat).map (fun i => (a0 :: a1 :: a2 :: a3 :: a4 :: a5 :: a6 :: a7 :: a8 :: a9 :: a10 :: a11 :: a12 :: a13 :: a14 :: a15 :: a16 :: l : va_W)[i]?) = ([a0, a11, a12, a15, a16] : va_W).map some := rfl
theorem nd_0_11_12_15_16 : va_nd [0, 11, 12, 15, 16] = true := by decide
theorem dj_2_3_4_5_6_7_8_9_10_1_13_14__0_11_12_15_16 : ∀ i ∈ ([0, 11, 12, 15, 16] : List Nat), i ∉ ([2, 3, 4, 5, 6, 7, 8, 9, 10, 1, 13, 14] : List Nat) := by decide
theorem rm_7_3_3 {mc ms : Nat} : 3 + 1 ≤ (RM 7 mc ms).frames ∧ 8 + (3 + 11) + 40 * 3 ≤ (RM 7 mc ms).locals := ⟨by show 3 + 1 ≤ 7; decide, by show 8 + (3 + 11) + 40 * 3 ≤ 40 * 7; decide⟩
theorem sm_5_9_14_1_2 {a0 a1 a2 a3 a4 a5 a6 a7 a8 a9 a10 a11 a12 a13 a14 : Nat × va_E} {l : va_W} : ([5, 9, 14, 1, 2] : List Nat).map (fun i => (a0 :: a1 :: a2 :: a3 :: a4 :: a5 :: a6 :: a7 :: a8 :: a9 :: a10 :: a11 :: a12 :: a13 :: a14 :: l : va_W)[i]?) = ([a5, a9, a14, a1, a2] : va_W).map some := rfl
theorem fm_5_9_14_1_2 {a0 a1 a2 a3 a4 a5 a6 a7 a8 a9 a10 a11 a12 a13 a14 : Nat × va_E} {l : va_W} : ([5, 9, 14, 1, 2] : List Nat).filterMap (fun i => (a0 :: a1 :: a2 :: a3 :: a4 :: a5 :: a6 :: a7 :: a8 :: a9 :: a10 :: a11 :: a12 :: a13 :: a14 :: l : va_W)[i]?) = ([a5, a9, a14, a1, a2] : va_W) := rfl
theorem nd_5_9_14_1_2 : va_nd [5, 9, 14, 1, 2] = true := by decide
theorem rm_7_3_4 {mc ms : Nat} : 3 + 1 ≤ (RM 7 mc ms).frames ∧ 8 + (4 + 11) + 40 * 3 ≤ (RM 7 mc ms).locals := ⟨by show 3 + 1 ≤ 7; decide, by show 8 + (4 + 11) + 40 * 3 ≤ 40 * 7; decide⟩
theorem sm_5_9_10_11_12_13_14_1_2_3_4 {a0 a1 a2 a3 a4 a5 a6 a7 a8 a9 a10 a11 a12 a13 a14 : Nat × va_E} {l : va_W} : ([5, 9, 10, 11, 12, 13, 14, 1, 2, 3, 4] : List Nat).map (fun i => (a0 :: a1 :: a2 :: a3 :: a4 :: a5 :: a6 :: a7 :: a8 :: a9 :: a10 :: a11 :: a12 :: a13 :: a14 :: l : va_W)[i]?) = ([a5, a9, a10, a11, a12, a13, a14, a1, a2, a3, a4] : va_W).map some := rfl
theorem fm_5_9_10_11_12_13_14_1_2_3_4 {a0 a1 a2 a3 a4 a5 a6 a7 a8 a9 a10 a11 a12 a13 a14 : Nat × va_E} {l : va_W} : ([5, 9, 10, 11, 12, 13, 14, 1, 2, 3, 4] : List Nat).filterMap (fun i => (a0 :: a1 :: a2 :: a3 :: a4 :: a5 :: a6 :: a7 :: a8 :: a9 :: a10 :: a11 :: a12 :: a13 :: a14 :: l : va_W)[i]?) = ([a5, a9, a10, a11, a12, a13, a14, a1, a2, a3, a4] : va_W) := rfl
theorem nd_5_9_10_11_12_13_14_1_2_3_4 : va_nd [5, 9, 10, 11, 12, 13, 14, 1, 2, 3, 4] = true := by decide
theorem rm_7_4_3 {mc ms : Nat} : 4 + 1 ≤ (RM 7 mc ms).frames ∧ 8 + (3 + 11) + 40 * 4 ≤ (RM 7 mc ms).locals := ⟨by show 4 + 1 ≤ 7; decide, by show 8 + (3 + 11) + 40 * 4 ≤ 40 * 7; decide⟩
theorem sm_3_7_4_5_12_13_14 {a0 a1 a2 a3 a4 a5 a6 a7 a8 a9 a10 a11 a12 a13 a14 : Nat × va_E} {l : va_W} : ([3, 7, 4, 5, 12, 13, 14] : List Nat).map (fun i => (a0 :: a1 :: a2 :: a3 :: a4 :: a5 :: a6 :: a7 :: a8 :: a9 :: a10 :: a11 :: a12 :: a13 :: a14 :: l : va_W)[i]?) = ([a3, a7, a4, a5, a12, a13, a14] : va_W).map some := rfl
theorem fm_3_7_4_5_12_13_14 {a0 a1 a2 a3 a4 a5 a6 a7 a8 a9 a10 a11 a12 a13 a14 : Nat × va_E} {l : va_W} : ([3, 7, 4, 5, 12, 13, 14] : List Nat).filterMap (fun i => (a0 :: a1 :: a2 :: a3 :: a4 :: a5 :: a6 :: a7 :: a8 :: a9 :: a10 :: a11 :: a12 :: a13 :: a14 :: l : va_W)[i]?) = ([a3, a7, a4, a5, a12, a13, a14] : va_W) := rfl
theorem nd_3_7_4_5_12_13_14 : va_nd [3, 7, 4, 5, 12, 13, 14] = true := by decide
def K_c_clashes (l : Launch) (G : GG) (h0 : Nat) (bb : Nat) (clk : Nat) (fi : Nat) (la : Nat) (ml : Nat) (mm : Nat) (sl : Nat) (sm : Nat) (cl : Int32) : Prop := MP l G yX7_clashes cX7_clashes 1 (some .boolean) 1 [.ref h0] [(h0, oX7 bb clk fi la ml mm sl sm cl)] (fun r : Int32 => r = 1 ∨ r = 0)
set_option maxHeartbeats 4000000 in
set_option maxRecDepth 100000 in
theorem c_clashes (l : Launch) (G : GG) (h0 : Nat) (bb : Nat) (clk : Nat) (fi : Nat) (la : Nat) (ml : Nat) (mm : Nat) (sl : Nat) (sm : Nat) (cl : Int32) (hcl : cl = 0 ∨ cl = 1) : K_c_clashes l G h0 bb clk fi la ml mm sl sm cl := by
  refine MP.start (by decide +kernel) (Nat.le_of_ble_eq_true rfl) ?_
  intro p e s m below meth c ls hC hK hP hD hl
  refine absQ (fun Q0 hQ0 => ?_)
  have hl : lv_has ls 1 [(0, .ref h0)] := hl
  refine Kan8 hC (fun hx hb hr hml hB hown hlocks hnm => ?_)
  rcases hcl with rfl | rfl
  · refine lv_aload_n hx hb gX7_clashes_0.1 rfl (lv_at0 hl) ?_
    refine gf_X7_41 hC rfl hK hP 0 rfl rfl gX7_clashes_0.2.1 ?_
    refine toQ hQ0 ?_
    exact RP (v := 0) hC (Or.inr (rfl)) (by decide +kernel) gX7_clashes_0.2.2
  · refine lv_aload_n hx hb gX7_clashes_0.1 rfl (lv_at0 hl) ?_
    refine gf_X7_41 hC rfl hK hP 0 rfl rfl gX7_clashes_0.2.1 ?_
    refine toQ hQ0 ?_
    exact RP (v := 1) hC (Or.inl (rfl)) (by decide +kernel) gX7_clashes_0.2.2
def K_p_span (l : Launch) (G : GG) (h0 : Nat) (x1 : Int32) (x2 : Int32) (bb : Nat) (kk : Nat) (ikp : Int32) (sg : Nat) (do9 : Nat) (ru9 : Nat) (ta9 : Nat) (tp9 : Nat) (ro9 : Nat) (ho9 : Nat) (de9 : Nat) (bpersons : Nat) (bpapers : Nat) (bstamps : Nat) (bversions : Nat) (blines : Nat) (bsteps : Nat) (bsayings : Nat) (bfindings : Nat) (bwarnings : Nat) (bquestions : Nat) (td : Int32) (vd : Int32) (vl : Int32) (gp : Int32) (clk : Nat) (fi : Nat) (la : Nat) (ml : Nat) (mm : Nat) (sl : Nat) (sm : Nat) (cl : Int32) (clm : Nat) (fclm : Nat → Int32) (ffi : Nat → Int32) (fla : Nat → Int32) (fml : Nat → Int32) (fmm : Nat → Int32) (fsl : Nat → Int32) (fsm : Nat → Int32) (bpapersc : Nat) (kbpapers : Nat) (fbpapers : Nat → Int32) (bstampsc : Nat) (kbstamps : Nat) (fbstamps : Nat → Int32) : Prop := MI l G yX11_span cX11_span 3 (some .int) 7 0 0 [.ref h0, .int x1, .int x2] [(h0, oX11 bb kk ikp sg do9 ru9 ta9 tp9 ro9 ho9 de9), (bb, oX0 bpersons bpapers bstamps bversions blines bsteps bsayings bfindings bwarnings bquestions td vd vl gp), (sg, oX7 bb clk fi la ml mm sl sm cl), (clk, oX1 clm), (clm, iA G 36 fclm), (fi, iA G 12 ffi), (la, iA G 12 fla), (ml, iA G 12 fml), (mm, iA G 12 fmm), (sl, iA G 12 fsl), (sm, iA G 12 fsm), (bpapers, oX8 12 6 bpapersc (nI kbpapers)), (bpapersc, iA G 72 fbpapers), (bstamps, oX8 24 3 bstampsc (nI kbstamps)), (bstampsc, iA G 72 fbstamps)] (fun (r : Int32) (u : Int32 × (Nat → Int32) × (Nat → Int32) × (Nat → Int32) × (Nat → Int32) × (Nat → Int32) × (Nat → Int32) × (Nat → Int32)) => (True) ∧ (u.1 = 0 ∨ u.1 = 1)) (fun u : Int32 × (Nat → Int32) × (Nat → Int32) × (Nat → Int32) × (Nat → Int32) × (Nat → Int32) × (Nat → Int32) × (Nat → Int32) => [(h0, oX11 bb kk ikp sg do9 ru9 ta9 tp9 ro9 ho9 de9), (bb, oX0 bpersons bpapers bstamps bversions blines bsteps bsayings bfindings bwarnings bquestions td vd vl gp), (sg, oX7 bb clk fi la ml mm sl sm u.1), (clk, oX1 clm), (clm, iA G 36 u.2.1), (fi, iA G 12 u.2.2.1), (la, iA G 12 u.2.2.2.1), (ml, iA G 12 u.2.2.2.2.1), (mm, iA G 12 u.2.2.2.2.2.1), (sl, iA G 12 u.2.2.2.2.2.2.1), (sm, iA G 12 u.2.2.2.2.2.2.2), (bpapers, oX8 12 6 bpapersc (nI kbpapers)), (bpapersc, iA G 72 fbpapers), (bstamps, oX8 24 3 bstampsc (nI kbstamps)), (bstampsc, iA G 72 fbstamps)])
set_option maxHeartbeats 4000000 in
set_option maxRecDepth 100000 in
theorem p_span (l : Launch) (G : GG) (h0 : Nat) (x1 : Int32) (x2 : Int32) (bb : Nat) (kk : Nat) (ikp : Int32) (sg : Nat) (do9 : Nat) (ru9 : Nat) (ta9 : Nat) (tp9 : Nat) (ro9 : Nat) (ho9 : Nat) (de9 : Nat) (bpersons : Nat) (bpapers : Nat) (bstamps : Nat) (bversions : Nat) (blines : Nat) (bsteps : Nat) (bsayings : Nat) (bfindings : Nat) (bwarnings : Nat) (bquestions : Nat) (td : Int32) (vd : Int32) (vl : Int32) (gp : Int32) (clk : Nat) (fi : Nat) (la : Nat) (ml : Nat) (mm : Nat) (sl : Nat) (sm : Nat) (cl : Int32) (clm : Nat) (fclm : Nat → Int32) (ffi : Nat → Int32) (fla : Nat → Int32) (fml : Nat → Int32) (fmm : Nat → Int32) (fsl : Nat → Int32) (fsm : Nat → Int32) (bpapersc : Nat) (kbpapers : Nat) (fbpapers : Nat → Int32) (bstampsc : Nat) (kbstamps : Nat) (fbstamps : Nat → Int32) (hkbpapers : kbpapers ≤ 12) (hkbstamps : kbstamps ≤ 24) (hcl : cl = 0 ∨ cl = 1) : K_p_span l G h0 x1 x2 bb kk ikp sg do9 ru9 ta9 tp9 ro9 ho9 de9 bpersons bpapers bstamps bversions blines bsteps bsayings bfindings bwarnings bquestions td vd vl gp clk fi la ml mm sl sm cl clm fclm ffi fla fml fmm fsl fsm bpapersc kbpapers fbpapers bstampsc kbstamps fbstamps := by
  refine MI.start (by decide +kernel) (Nat.le_of_ble_eq_true rfl) ?_
  intro p e s m below meth c A ls hC hK hP hD hS hA hl
  refine absQ (fun Q0 hQ0 => ?_)
  have hl : lv_has ls 3 [(0, .ref h0), (1, .int x1), (2, .int x2)] := hl
  refine Kan8 hC (fun hx hb hr hml hB hown hlocks hnm => ?_)
  refine lv_iload_n hx hb gX11_span_0.1 rfl (lv_at1 hl) ?_
  refine lv_iconst (v := 0) hx hb gX11_span_0.2.1 (by decide) ?_
  refine lv_iconst (v := 5) hx hb gX11_span_0.2.2.1 (by decide) ?_
  refine pS hC hK hl (c_within l G x1 0 5) si_X11_83 rfl rfl (Nat.le_of_ble_eq_true rfl) rm_7_1_3 ⟨by first | exact Nat.le_of_ble_eq_true rfl | exact Nat.zero_le _, by first | exact Nat.le_of_ble_eq_true rfl | exact Nat.zero_le _⟩ gX11_span_0.2.2.2.1 (Kors (Keqa fun a2014 => ?_) (Keqa fun a2014 => ?_))
  · refine lv_if_ne (tgt := 11) hx hb gX11_span_0.2.2.2.2.1 (by decide) (fun _ => ?_) (fun c9 => absurd c9 (by decide))
    refine lv_aload_n hx hb gX11_span_0.2.2.2.2.2.2.2.1 rfl (lv_at0 hl) ?_
    refine gf_X11_28 hC rfl hK hP 0 rfl rfl gX11_span_0.2.2.2.2.2.2.2.2.1 ?_
    refine lv_aload_n hx hb gX11_span_0.2.2.2.2.2.2.2.2.2 rfl (lv_at0 hl) ?_
    refine gf_X11_15 hC rfl hK hP 0 rfl rfl gX11_span_1.1 ?_
    refine pV hC hK hl hP hD (c_inView l G bb bpersons bpapers bstamps bversions blines bsteps bsayings bfindings bwarnings bquestions td vd vl gp bpapersc kbpapers fbpapers (hkbpapers)) si_X11_97 [1, 11, 12] sm_1_11_12 fm_1_11_12 nd_1_11_12 rfl rfl rfl rfl rfl (Nat.le_of_ble_eq_true rfl) rm_7_3_6 ⟨by first | exact Nat.le_of_ble_eq_true rfl | exact Nat.zero_le _, by first | exact Nat.le_of_ble_eq_true rfl | exact Nat.zero_le _⟩ gX11_span_1.2.1 (fun r2015 hr2015 => ?_)
    refine vV (wr := [(h0, oX11 bb kk ikp sg do9 ru9 ta9 tp9 ro9 ho9 de9), (bpapers, oX8 12 6 bpapersc (nI kbpapers)), (bpapersc, iA G 72 fbpapers)]) hC hK hl hP hD hS hA (c_look l G sg r2015 bb clk fi la ml mm sl sm cl clm fclm ffi fla fml fmm fsl fsm bpersons bpapers bstamps bversions blines bsteps bsayings bfindings bwarnings bquestions td vd vl gp bstampsc kbstamps fbstamps (hkbstamps)) si_X11_183 [2, 3, 4, 5, 6, 7, 8, 9, 10, 1, 13, 14] [0, 11, 12] sm_2_3_4_5_6_7_8_9_10_1_13_14 fm_2_3_4_5_6_7_8_9_10_1_13_14 nd_2_3_4_5_6_7_8_9_10_1_13_14 sm_0_11_12 nd_0_11_12 dj_2_3_4_5_6_7_8_9_10_1_13_14__0_11_12 rfl rfl rfl rfl rfl (Nat.le_of_ble_eq_true rfl) rm_7_5_4 ⟨Nat.le_of_ble_eq_true rfl, Nat.le_of_ble_eq_true rfl⟩ gX11_span_1.2.2.1 (Ktu8 fun cl12018 gclm2019 gfi2020 gla2021 gml2022 gmm2023 gsl2024 gsm2025 => ?_)
    intro H locs hr2016 hP hD hS
    try dsimp only at hr2016
    refine Kpdr (ws := [(h0, oX11 bb kk ikp sg do9 ru9 ta9 tp9 ro9 ho9 de9), (bpapers, oX8 12 6 bpapersc (nI kbpapers)), (bpapersc, iA G 72 fbpapers), (sg, oX7 bb clk fi la ml mm sl sm cl12018), (clk, oX1 clm), (clm, iA G 36 gclm2019), (fi, iA G 12 gfi2020), (la, iA G 12 gla2021), (ml, iA G 12 gml2022), (mm, iA G 12 gmm2023), (sl, iA G 12 gsl2024), (sm, iA G 12 gsm2025), (bb, oX0 bpersons bpapers bstamps bversions blines bsteps bsayings bfindings bwarnings bquestions td vd vl gp), (bstamps, oX8 24 3 bstampsc (nI kbstamps)), (bstampsc, iA G 72 fbstamps)]) hP hD (fun hP hD => ?_)
    have w2026 := hr2016
    refine lv_aload_n hx hb gX11_span_1.2.2.2.1 rfl (lv_at0 hl) ?_
    refine gf_X11_28 hC rfl hK hP 0 rfl rfl gX11_span_1.2.2.2.2.1 ?_
    refine pV hC hK hl hP hD (c_clashes l G sg bb clk fi la ml mm sl sm cl12018 (w2026)) si_X11_187 [3] sm_3 fm_3 nd_3 rfl rfl rfl rfl rfl (Nat.le_of_ble_eq_true rfl) rm_7_1_1 ⟨by first | exact Nat.le_of_ble_eq_true rfl | exact Nat.zero_le _, by first | exact Nat.le_of_ble_eq_true rfl | exact Nat.zero_le _⟩ gX11_span_1.2.2.2.2.2.1 (Kors (Keqr ?_) (Keqr ?_))
    · refine lv_if_eq (tgt := 38) hx hb gX11_span_1.2.2.2.2.2.2.1 (by decide) (fun c9 => absurd c9 (by decide)) (fun _ => ?_)
      refine lv_bipush (v := (-4)) hx hb gX11_span_1.2.2.2.2.2.2.2.1 (by decide) ?_
      refine toQ hQ0 ?_
      exact RI (v := (-4)) hC hP hD hS [0, 12, 3, 4, 5, 6, 7, 8, 9, 10, 11, 1, 2, 13, 14] (cl12018, gclm2019, gfi2020, gla2021, gml2022, gmm2023, gsl2024, gsm2025) rfl rfl (by decide) (⟨trivial, w2026⟩) rfl gX11_span_1.2.2.2.2.2.2.2.2.1
    · refine lv_if_eq (tgt := 38) hx hb gX11_span_1.2.2.2.2.2.2.1 (by decide) (fun _ => ?_) (fun c9 => absurd (by decide) c9)
      refine lv_aload_n hx hb gX11_span_1.2.2.2.2.2.2.2.2.2 rfl (lv_at0 hl) ?_
      refine gf_X11_28 hC rfl hK hP 0 rfl rfl gX11_span_2.1 ?_
      refine lv_iload_n hx hb gX11_span_2.2.1 rfl (lv_at1 hl) ?_
      refine lv_iload_n hx hb gX11_span_2.2.2.1 rfl (lv_at2 hl) ?_
      refine pV hC hK hl hP hD (c_ahead l G sg x1 x2 bb clk fi la ml mm sl sm cl12018 clm gclm2019) si_X11_190 [3, 4, 5] sm_3_4_5 fm_3_4_5 nd_3_4_5 rfl rfl rfl rfl rfl (Nat.le_of_ble_eq_true rfl) rm_7_2_3 ⟨by first | exact Nat.le_of_ble_eq_true rfl | exact Nat.zero_le _, by first | exact Nat.le_of_ble_eq_true rfl | exact Nat.zero_le _⟩ gX11_span_2.2.2.2.1 (fun r2029 hr2029 => ?_)
      refine lv_sipush (v := 1000) hx hb gX11_span_2.2.2.2.2.1 (by decide) ?_
      refine lv_iadd hx hb gX11_span_2.2.2.2.2.2.1 ?_
      refine toQ hQ0 ?_
      exact RI (v := r2029 + 1000) hC hP hD hS [0, 12, 3, 4, 5, 6, 7, 8, 9, 10, 11, 1, 2, 13, 14] (cl12018, gclm2019, gfi2020, gla2021, gml2022, gmm2023, gsl2024, gsm2025) rfl rfl (by decide) (⟨trivial, w2026⟩) rfl gX11_span_2.2.2.2.2.2.2
  · refine lv_if_ne (tgt := 11) hx hb gX11_span_0.2.2.2.2.1 (by decide) (fun c9 => absurd (by decide) c9) (fun _ => ?_)
    refine lv_iconst (v := (-1)) hx hb gX11_span_0.2.2.2.2.2.1 (by decide) ?_
    refine toQ hQ0 ?_
    exact RI (v := (-1)) hC hP hD hS [0, 1, 2, 3, 4, 5, 6, 7, 8, 9, 10, 11, 12, 13, 14] (cl, fclm, ffi, fla, fml, fmm, fsl, fsm) rfl rfl (by decide) (⟨trivial, hcl⟩) rfl gX11_span_0.2.2.2.2.2.2.1
def K_p_sent (l : Launch) (G : GG) (h0 : Nat) (x1 : Int32) (x2 : Int32) (bb : Nat) (kk : Nat) (ikp : Int32) (sg : Nat) (do9 : Nat) (ru9 : Nat) (ta9 : Nat) (tp9 : Nat) (ro9 : Nat) (ho9 : Nat) (de9 : Nat) (bpersons : Nat) (bpapers : Nat) (bstamps : Nat) (bversions : Nat) (blines : Nat) (bsteps : Nat) (bsayings : Nat) (bfindings : Nat) (bwarnings : Nat) (bquestions : Nat) (td : Int32) (vd : Int32) (vl : Int32) (gp : Int32) (clk : Nat) (fi : Nat) (la : Nat) (ml : Nat) (mm : Nat) (sl : Nat) (sm : Nat) (cl : Int32) (clm : Nat) (fclm : Nat → Int32) (ffi : Nat → Int32) (fla : Nat → Int32) (fml : Nat → Int32) (fmm : Nat → Int32) (fsl : Nat → Int32) (fsm : Nat → Int32) (bpapersc : Nat) (kbpapers : Nat) (fbpapers : Nat → Int32) (bstampsc : Nat) (kbstamps : Nat) (fbstamps : Nat → Int32) : Prop := MI l G yX11_sent cX11_sent 3 (some .int) 7 0 0 [.ref h0, .int x1, .int x2] [(h0, oX11 bb kk ikp sg do9 ru9 ta9 tp9 ro9 ho9 de9), (bb, oX0 bpersons bpapers bstamps bversions blines bsteps bsayings bfindings bwarnings bquestions td vd vl gp), (sg, oX7 bb clk fi la ml mm sl sm cl), (clk, oX1 clm), (clm, iA G 36 fclm), (fi, iA G 12 ffi), (la, iA G 12 fla), (ml, iA G 12 fml), (mm, iA G 12 fmm), (sl, iA G 12 fsl), (sm, iA G 12 fsm), (bpapers, oX8 12 6 bpapersc (nI kbpapers)), (bpapersc, iA G 72 fbpapers), (bstamps, oX8 24 3 bstampsc (nI kbstamps)), (bstampsc, iA G 72 fbstamps)] (fun (r : Int32) (u : Int32 × (Nat → Int32) × (Nat → Int32) × (Nat → Int32) × (Nat → Int32) × (Nat → Int32) × (Nat → Int32) × (Nat → Int32)) => (True) ∧ (u.1 = 0 ∨ u.1 = 1)) (fun u : Int32 × (Nat → Int32) × (Nat → Int32) × (Nat → Int32) × (Nat → Int32) × (Nat → Int32) × (Nat → Int32) × (Nat → Int32) => [(h0, oX11 bb kk ikp sg do9 ru9 ta9 tp9 ro9 ho9 de9), (bb, oX0 bpersons bpapers bstamps bversions blines bsteps bsayings bfindings bwarnings bquestions td vd vl gp), (sg, oX7 bb clk fi la ml mm sl sm u.1), (clk, oX1 clm), (clm, iA G 36 u.2.1), (fi, iA G 12 u.2.2.1), (la, iA G 12 u.2.2.2.1), (ml, iA G 12 u.2.2.2.2.1), (mm, iA G 12 u.2.2.2.2.2.1), (sl, iA G 12 u.2.2.2.2.2.2.1), (sm, iA G 12 u.2.2.2.2.2.2.2), (bpapers, oX8 12 6 bpapersc (nI kbpapers)), (bpapersc, iA G 72 fbpapers), (bstamps, oX8 24 3 bstampsc (nI kbstamps)), (bstampsc, iA G 72 fbstamps)])
set_option maxHeartbeats 4000000 in
set_option maxRecDepth 100000 in
theorem p_sent (l : Launch) (G : GG) (h0 : Nat) (x1 : Int32) (x2 : Int32) (bb : Nat) (kk : Nat) (ikp : Int32) (sg : Nat) (do9 : Nat) (ru9 : Nat) (ta9 : Nat) (tp9 : Nat) (ro9 : Nat) (ho9 : Nat) (de9 : Nat) (bpersons : Nat) (bpapers : Nat) (bstamps : Nat) (bversions : Nat) (blines : Nat) (bsteps : Nat) (bsayings : Nat) (bfindings : Nat) (bwarnings : Nat) (bquestions : Nat) (td : Int32) (vd : Int32) (vl : Int32) (gp : Int32) (clk : Nat) (fi : Nat) (la : Nat) (ml : Nat) (mm : Nat) (sl : Nat) (sm : Nat) (cl : Int32) (clm : Nat) (fclm : Nat → Int32) (ffi : Nat → Int32) (fla : Nat → Int32) (fml : Nat → Int32) (fmm : Nat → Int32) (fsl : Nat → Int32) (fsm : Nat → Int32) (bpapersc : Nat) (kbpapers : Nat) (fbpapers : Nat → Int32) (bstampsc : Nat) (kbstamps : Nat) (fbstamps : Nat → Int32) (hkbpapers : kbpapers ≤ 12) (hkbstamps : kbstamps ≤ 24) (hcl : cl = 0 ∨ cl = 1) : K_p_sent l G h0 x1 x2 bb kk ikp sg do9 ru9 ta9 tp9 ro9 ho9 de9 bpersons bpapers bstamps bversions blines bsteps bsayings bfindings bwarnings bquestions td vd vl gp clk fi la ml mm sl sm cl clm fclm ffi fla fml fmm fsl fsm bpapersc kbpapers fbpapers bstampsc kbstamps fbstamps := by
  refine MI.start (by decide +kernel) (Nat.le_of_ble_eq_true rfl) ?_
  intro p e s m below meth c A ls hC hK hP hD hS hA hl
  refine absQ (fun Q0 hQ0 => ?_)
  have hl : lv_has ls 3 [(0, .ref h0), (1, .int x1), (2, .int x2)] := hl
  refine Kan8 hC (fun hx hb hr hml hB hown hlocks hnm => ?_)
  refine lv_aload_n hx hb gX11_sent_0.1 rfl (lv_at0 hl) ?_
  refine gf_X11_15 hC rfl hK hP 0 rfl rfl gX11_sent_0.2.1 ?_
  refine gf_X11_144 hC rfl hK hP 1 rfl rfl gX11_sent_0.2.2.1 ?_
  refine lv_iload_n hx hb gX11_sent_0.2.2.2.1 rfl (lv_at1 hl) ?_
  refine pV hC hK hl hP hD (c_T_has l G bpapers x1 12 6 bpapersc kbpapers) si_X11_124 [11] sm_11 fm_11 nd_11 rfl rfl rfl rfl rfl (Nat.le_of_ble_eq_true rfl) rm_7_1_2 ⟨by first | exact Nat.le_of_ble_eq_true rfl | exact Nat.zero_le _, by first | exact Nat.le_of_ble_eq_true rfl | exact Nat.zero_le _⟩ gX11_sent_0.2.2.2.2.1 (Kors (Keqa fun a2031 => ?_) (Keqa fun a2031 => ?_))
  · refine lv_if_ne (tgt := 16) hx hb gX11_sent_0.2.2.2.2.2.1 (by decide) (fun _ => ?_) (fun c9 => absurd c9 (by decide))
    refine lv_aload_n hx hb gX11_sent_0.2.2.2.2.2.2.2.2.1 rfl (lv_at0 hl) ?_
    refine gf_X11_28 hC rfl hK hP 0 rfl rfl gX11_sent_0.2.2.2.2.2.2.2.2.2 ?_
    refine lv_aload_n hx hb gX11_sent_1.1 rfl (lv_at0 hl) ?_
    refine gf_X11_15 hC rfl hK hP 0 rfl rfl gX11_sent_1.2.1 ?_
    refine pV hC hK hl hP hD (c_inView l G bb bpersons bpapers bstamps bversions blines bsteps bsayings bfindings bwarnings bquestions td vd vl gp bpapersc kbpapers fbpapers (hkbpapers)) si_X11_97 [1, 11, 12] sm_1_11_12 fm_1_11_12 nd_1_11_12 rfl rfl rfl rfl rfl (Nat.le_of_ble_eq_true rfl) rm_7_3_6 ⟨by first | exact Nat.le_of_ble_eq_true rfl | exact Nat.zero_le _, by first | exact Nat.le_of_ble_eq_true rfl | exact Nat.zero_le _⟩ gX11_sent_1.2.2.1 (fun r2032 hr2032 => ?_)
    refine vV (wr := [(h0, oX11 bb kk ikp sg do9 ru9 ta9 tp9 ro9 ho9 de9), (bpapers, oX8 12 6 bpapersc (nI kbpapers)), (bpapersc, iA G 72 fbpapers)]) hC hK hl hP hD hS hA (c_look l G sg r2032 bb clk fi la ml mm sl sm cl clm fclm ffi fla fml fmm fsl fsm bpersons bpapers bstamps bversions blines bsteps bsayings bfindings bwarnings bquestions td vd vl gp bstampsc kbstamps fbstamps (hkbstamps)) si_X11_183 [2, 3, 4, 5, 6, 7, 8, 9, 10, 1, 13, 14] [0, 11, 12] sm_2_3_4_5_6_7_8_9_10_1_13_14 fm_2_3_4_5_6_7_8_9_10_1_13_14 nd_2_3_4_5_6_7_8_9_10_1_13_14 sm_0_11_12 nd_0_11_12 dj_2_3_4_5_6_7_8_9_10_1_13_14__0_11_12 rfl rfl rfl rfl rfl (Nat.le_of_ble_eq_true rfl) rm_7_5_4 ⟨Nat.le_of_ble_eq_true rfl, Nat.le_of_ble_eq_true rfl⟩ gX11_sent_1.2.2.2.1 (Ktu8 fun cl12035 gclm2036 gfi2037 gla2038 gml2039 gmm2040 gsl2041 gsm2042 => ?_)
    intro H locs hr2033 hP hD hS
    try dsimp only at hr2033
    refine Kpdr (ws := [(h0, oX11 bb kk ikp sg do9 ru9 ta9 tp9 ro9 ho9 de9), (bpapers, oX8 12 6 bpapersc (nI kbpapers)), (bpapersc, iA G 72 fbpapers), (sg, oX7 bb clk fi la ml mm sl sm cl12035), (clk, oX1 clm), (clm, iA G 36 gclm2036), (fi, iA G 12 gfi2037), (la, iA G 12 gla2038), (ml, iA G 12 gml2039), (mm, iA G 12 gmm2040), (sl, iA G 12 gsl2041), (sm, iA G 12 gsm2042), (bb, oX0 bpersons bpapers bstamps bversions blines bsteps bsayings bfindings bwarnings bquestions td vd vl gp), (bstamps, oX8 24 3 bstampsc (nI kbstamps)), (bstampsc, iA G 72 fbstamps)]) hP hD (fun hP hD => ?_)
    have w2043 := hr2033
    refine lv_aload_n hx hb gX11_sent_1.2.2.2.2.1 rfl (lv_at0 hl) ?_
    refine gf_X11_28 hC rfl hK hP 0 rfl rfl gX11_sent_1.2.2.2.2.2.1 ?_
    refine lv_iload_n hx hb gX11_sent_1.2.2.2.2.2.2.1 rfl (lv_at1 hl) ?_
    refine pV hC hK hl hP hD (c_isSent l G sg x1 bb clk fi la ml mm sl sm cl12035 gla2038) si_X11_194 [3, 7] sm_3_7 fm_3_7 nd_3_7 rfl rfl rfl rfl rfl (Nat.le_of_ble_eq_true rfl) rm_7_1_2 ⟨by first | exact Nat.le_of_ble_eq_true rfl | exact Nat.zero_le _, by first | exact Nat.le_of_ble_eq_true rfl | exact Nat.zero_le _⟩ gX11_sent_1.2.2.2.2.2.2.2.1 (Kors (Keqa fun a2045 => ?_) (Keqr ?_))
    · refine lv_if_ne (tgt := 44) hx hb gX11_sent_1.2.2.2.2.2.2.2.2.1 (by decide) (fun _ => ?_) (fun c9 => absurd c9 (by decide))
      refine lv_aload_n hx hb gX11_sent_2.2.1 rfl (lv_at0 hl) ?_
      refine gf_X11_28 hC rfl hK hP 0 rfl rfl gX11_sent_2.2.2.1 ?_
      refine lv_iload_n hx hb gX11_sent_2.2.2.2.1 rfl (lv_at1 hl) ?_
      refine lv_iload_n hx hb gX11_sent_2.2.2.2.2.1 rfl (lv_at2 hl) ?_
      refine pV hC hK hl hP hD (c_sentHour l G sg x1 x2 bb clk fi la ml mm sl sm cl12035 gla2038 gsl2041 gsm2042) si_X11_197 [3, 7, 10, 11] sm_3_7_10_11 fm_3_7_10_11 nd_3_7_10_11 rfl rfl rfl rfl rfl (Nat.le_of_ble_eq_true rfl) rm_7_2_3 ⟨by first | exact Nat.le_of_ble_eq_true rfl | exact Nat.zero_le _, by first | exact Nat.le_of_ble_eq_true rfl | exact Nat.zero_le _⟩ gX11_sent_2.2.2.2.2.2.1 (fun r2046 hr2046 => ?_)
      refine lv_sipush (v := 1000) hx hb gX11_sent_2.2.2.2.2.2.2.1 (by decide) ?_
      refine lv_iadd hx hb gX11_sent_2.2.2.2.2.2.2.2.1 ?_
      refine toQ hQ0 ?_
      exact RI (v := r2046 + 1000) hC hP hD hS [0, 12, 3, 4, 5, 6, 7, 8, 9, 10, 11, 1, 2, 13, 14] (cl12035, gclm2036, gfi2037, gla2038, gml2039, gmm2040, gsl2041, gsm2042) rfl rfl (by decide) (⟨trivial, w2043⟩) rfl gX11_sent_2.2.2.2.2.2.2.2.2
    · refine lv_if_ne (tgt := 44) hx hb gX11_sent_1.2.2.2.2.2.2.2.2.1 (by decide) (fun c9 => absurd (by decide) c9) (fun _ => ?_)
      refine lv_bipush (v := (-3)) hx hb gX11_sent_1.2.2.2.2.2.2.2.2.2 (by decide) ?_
      refine toQ hQ0 ?_
      exact RI (v := (-3)) hC hP hD hS [0, 12, 3, 4, 5, 6, 7, 8, 9, 10, 11, 1, 2, 13, 14] (cl12035, gclm2036, gfi2037, gla2038, gml2039, gmm2040, gsl2041, gsm2042) rfl rfl (by decide) (⟨trivial, w2043⟩) rfl gX11_sent_2.1
  · refine lv_if_ne (tgt := 16) hx hb gX11_sent_0.2.2.2.2.2.1 (by decide) (fun c9 => absurd (by decide) c9) (fun _ => ?_)
    refine lv_iconst (v := (-1)) hx hb gX11_sent_0.2.2.2.2.2.2.1 (by decide) ?_
    refine toQ hQ0 ?_
    exact RI (v := (-1)) hC hP hD hS [0, 1, 2, 3, 4, 5, 6, 7, 8, 9, 10, 11, 12, 13, 14] (cl, fclm, ffi, fla, fml, fmm, fsl, fsm) rfl rfl (by decide) (⟨trivial, hcl⟩) rfl gX11_sent_0.2.2.2.2.2.2.2.1
def K_p_hand (l : Launch) (G : GG) (h0 : Nat) (x1 : Int32) (x2 : Int32) (x3 : Int32) (bb : Nat) (kk : Nat) (ikp : Int32) (sg : Nat) (do9 : Nat) (ru9 : Nat) (ta9 : Nat) (tp9 : Nat) (ro9 : Nat) (ho9 : Nat) (de9 : Nat) (bpersons : Nat) (bpapers : Nat) (bstamps : Nat) (bversions : Nat) (blines : Nat) (bsteps : Nat) (bsayings : Nat) (bfindings : Nat) (bwarnings : Nat) (bquestions : Nat) (td : Int32) (vd : Int32) (vl : Int32) (gp : Int32) (clk : Nat) (fi : Nat) (la : Nat) (ml : Nat) (mm : Nat) (sl : Nat) (sm : Nat) (cl : Int32) (clm : Nat) (fclm : Nat → Int32) (ffi : Nat → Int32) (fla : Nat → Int32) (fml : Nat → Int32) (fmm : Nat → Int32) (fsl : Nat → Int32) (fsm : Nat → Int32) (bpapersc : Nat) (kbpapers : Nat) (fbpapers : Nat → Int32) (bstampsc : Nat) (kbstamps : Nat) (fbstamps : Nat → Int32) (bpersonsc : Nat) (kbpersons : Nat) (fbpersons : Nat → Int32) : Prop := MI l G yX11_hand cX11_hand 4 (some .int) 7 0 0 [.ref h0, .int x1, .int x2, .int x3] [(h0, oX11 bb kk ikp sg do9 ru9 ta9 tp9 ro9 ho9 de9), (bb, oX0 bpersons bpapers bstamps bversions blines bsteps bsayings bfindings bwarnings bquestions td vd vl gp), (sg, oX7 bb clk fi la ml mm sl sm cl), (clk, oX1 clm), (clm, iA G 36 fclm), (fi, iA G 12 ffi), (la, iA G 12 fla), (ml, iA G 12 fml), (mm, iA G 12 fmm), (sl, iA G 12 fsl), (sm, iA G 12 fsm), (bpapers, oX8 12 6 bpapersc (nI kbpapers)), (bpapersc, iA G 72 fbpapers), (bstamps, oX8 24 3 bstampsc (nI kbstamps)), (bstampsc, iA G 72 fbstamps), (bpersons, oX8 10 2 bpersonsc (nI kbpersons)), (bpersonsc, iA G 20 fbpersons)] (fun (r : Int32) (u : Int32 × (Nat → Int32) × (Nat → Int32) × (Nat → Int32) × (Nat → Int32) × (Nat → Int32) × (Nat → Int32) × (Nat → Int32)) => (True) ∧ (u.1 = 0 ∨ u.1 = 1)) (fun u : Int32 × (Nat → Int32) × (Nat → Int32) × (Nat → Int32) × (Nat → Int32) × (Nat → Int32) × (Nat → Int32) × (Nat → Int32) => [(h0, oX11 bb kk ikp sg do9 ru9 ta9 tp9 ro9 ho9 de9), (bb, oX0 bpersons bpapers bstamps bversions blines bsteps bsayings bfindings bwarnings bquestions td vd vl gp), (sg, oX7 bb clk fi la ml mm sl sm u.1), (clk, oX1 clm), (clm, iA G 36 u.2.1), (fi, iA G 12 u.2.2.1), (la, iA G 12 u.2.2.2.1), (ml, iA G 12 u.2.2.2.2.1), (mm, iA G 12 u.2.2.2.2.2.1), (sl, iA G 12 u.2.2.2.2.2.2.1), (sm, iA G 12 u.2.2.2.2.2.2.2), (bpapers, oX8 12 6 bpapersc (nI kbpapers)), (bpapersc, iA G 72 fbpapers), (bstamps, oX8 24 3 bstampsc (nI kbstamps)), (bstampsc, iA G 72 fbstamps), (bpersons, oX8 10 2 bpersonsc (nI kbpersons)), (bpersonsc, iA G 20 fbpersons)])
set_option maxHeartbeats 4000000 in
set_option maxRecDepth 100000 in
theorem p_hand (l : Launch) (G : GG) (h0 : Nat) (x1 : Int32) (x2 : Int32) (x3 : Int32) (bb : Nat) (kk : Nat) (ikp : Int32) (sg : Nat) (do9 : Nat) (ru9 : Nat) (ta9 : Nat) (tp9 : Nat) (ro9 : Nat) (ho9 : Nat) (de9 : Nat) (bpersons : Nat) (bpapers : Nat) (bstamps : Nat) (bversions : Nat) (blines : Nat) (bsteps : Nat) (bsayings : Nat) (bfindings : Nat) (bwarnings : Nat) (bquestions : Nat) (td : Int32) (vd : Int32) (vl : Int32) (gp : Int32) (clk : Nat) (fi : Nat) (la : Nat) (ml : Nat) (mm : Nat) (sl : Nat) (sm : Nat) (cl : Int32) (clm : Nat) (fclm : Nat → Int32) (ffi : Nat → Int32) (fla : Nat → Int32) (fml : Nat → Int32) (fmm : Nat → Int32) (fsl : Nat → Int32) (fsm : Nat → Int32) (bpapersc : Nat) (kbpapers : Nat) (fbpapers : Nat → Int32) (bstampsc : Nat) (kbstamps : Nat) (fbstamps : Nat → Int32) (bpersonsc : Nat) (kbpersons : Nat) (fbpersons : Nat → Int32) (hkbpapers : kbpapers ≤ 12) (hkbstamps : kbstamps ≤ 24) (hkbpersons : kbpersons ≤ 10) (hcl : cl = 0 ∨ cl = 1) : K_p_hand l G h0 x1 x2 x3 bb kk ikp sg do9 ru9 ta9 tp9 ro9 ho9 de9 bpersons bpapers bstamps bversions blines bsteps bsayings bfindings bwarnings bquestions td vd vl gp clk fi la ml mm sl sm cl clm fclm ffi fla fml fmm fsl fsm bpapersc kbpapers fbpapers bstampsc kbstamps fbstamps bpersonsc kbpersons fbpersons := by
  refine MI.start (by decide +kernel) (Nat.le_of_ble_eq_true rfl) ?_
  intro p e s m below meth c A ls hC hK hP hD hS hA hl
  refine absQ (fun Q0 hQ0 => ?_)
  have hl : lv_has ls 4 [(0, .ref h0), (1, .int x1), (2, .int x2), (3, .int x3)] := hl
  refine Kan8 hC (fun hx hb hr hml hB hown hlocks hnm => ?_)
  refine lv_aload_n hx hb gX11_hand_0.1 rfl (lv_at0 hl) ?_
  refine gf_X11_15 hC rfl hK hP 0 rfl rfl gX11_hand_0.2.1 ?_
  refine gf_X11_144 hC rfl hK hP 1 rfl rfl gX11_hand_0.2.2.1 ?_
  refine lv_iload_n hx hb gX11_hand_0.2.2.2.1 rfl (lv_at1 hl) ?_
  refine pV hC hK hl hP hD (c_T_has l G bpapers x1 12 6 bpapersc kbpapers) si_X11_124 [11] sm_11 fm_11 nd_11 rfl rfl rfl rfl rfl (Nat.le_of_ble_eq_true rfl) rm_7_1_2 ⟨by first | exact Nat.le_of_ble_eq_true rfl | exact Nat.zero_le _, by first | exact Nat.le_of_ble_eq_true rfl | exact Nat.zero_le _⟩ gX11_hand_0.2.2.2.2.1 (Kors (Keqa fun a2048 => ?_) (Keqa fun a2048 => ?_))
  · refine lv_if_eq (tgt := 28) hx hb gX11_hand_0.2.2.2.2.2.1 (by decide) (fun c9 => absurd c9 (by decide)) (fun _ => ?_)
    refine lv_aload_n hx hb gX11_hand_0.2.2.2.2.2.2.1 rfl (lv_at0 hl) ?_
    refine gf_X11_15 hC rfl hK hP 0 rfl rfl gX11_hand_0.2.2.2.2.2.2.2.1 ?_
    refine gf_X11_107 hC rfl hK hP 1 rfl rfl gX11_hand_0.2.2.2.2.2.2.2.2.1 ?_
    refine lv_iload_n hx hb gX11_hand_0.2.2.2.2.2.2.2.2.2 rfl (lv_at2 hl) ?_
    refine pV hC hK hl hP hD (c_T_has l G bpersons x2 10 2 bpersonsc kbpersons) si_X11_124 [15] sm_15 fm_15 nd_15 rfl rfl rfl rfl rfl (Nat.le_of_ble_eq_true rfl) rm_7_1_2 ⟨by first | exact Nat.le_of_ble_eq_true rfl | exact Nat.zero_le _, by first | exact Nat.le_of_ble_eq_true rfl | exact Nat.zero_le _⟩ gX11_hand_1.1 (Kors (Keqa fun a2050 => ?_) (Keqa fun a2050 => ?_))
    · refine lv_if_ne (tgt := 30) hx hb gX11_hand_1.2.1 (by decide) (fun _ => ?_) (fun c9 => absurd c9 (by decide))
      refine lv_aload_n hx hb gX11_hand_1.2.2.2.2.1 rfl (lv_at0 hl) ?_
      refine gf_X11_28 hC rfl hK hP 0 rfl rfl gX11_hand_1.2.2.2.2.2.1 ?_
      refine lv_aload_n hx hb gX11_hand_1.2.2.2.2.2.2.1 rfl (lv_at0 hl) ?_
      refine gf_X11_15 hC rfl hK hP 0 rfl rfl gX11_hand_1.2.2.2.2.2.2.2.1 ?_
      refine pV hC hK hl hP hD (c_inView l G bb bpersons bpapers bstamps bversions blines bsteps bsayings bfindings bwarnings bquestions td vd vl gp bpapersc kbpapers fbpapers (hkbpapers)) si_X11_97 [1, 11, 12] sm_1_11_12 fm_1_11_12 nd_1_11_12 rfl rfl rfl rfl rfl (Nat.le_of_ble_eq_true rfl) rm_7_3_6 ⟨by first | exact Nat.le_of_ble_eq_true rfl | exact Nat.zero_le _, by first | exact Nat.le_of_ble_eq_true rfl | exact Nat.zero_le _⟩ gX11_hand_1.2.2.2.2.2.2.2.2.1 (fun r2051 hr2051 => ?_)
      refine vV (wr := [(h0, oX11 bb kk ikp sg do9 ru9 ta9 tp9 ro9 ho9 de9), (bpapers, oX8 12 6 bpapersc (nI kbpapers)), (bpapersc, iA G 72 fbpapers), (bpersons, oX8 10 2 bpersonsc (nI kbpersons)), (bpersonsc, iA G 20 fbpersons)]) hC hK hl hP hD hS hA (c_look l G sg r2051 bb clk fi la ml mm sl sm cl clm fclm ffi fla fml fmm fsl fsm bpersons bpapers bstamps bversions blines bsteps bsayings bfindings bwarnings bquestions td vd vl gp bstampsc kbstamps fbstamps (hkbstamps)) si_X11_183 [2, 3, 4, 5, 6, 7, 8, 9, 10, 1, 13, 14] [0, 11, 12, 15, 16] sm_2_3_4_5_6_7_8_9_10_1_13_14 fm_2_3_4_5_6_7_8_9_10_1_13_14 nd_2_3_4_5_6_7_8_9_10_1_13_14 sm_0_11_12_15_16 nd_0_11_12_15_16 dj_2_3_4_5_6_7_8_9_10_1_13_14__0_11_12_15_16 rfl rfl rfl rfl rfl (Nat.le_of_ble_eq_true rfl) rm_7_5_4 ⟨Nat.le_of_ble_eq_true rfl, Nat.le_of_ble_eq_true rfl⟩ gX11_hand_1.2.2.2.2.2.2.2.2.2 (Ktu8 fun cl12054 gclm2055 gfi2056 gla2057 gml2058 gmm2059 gsl2060 gsm2061 => ?_)
      intro H locs hr2052 hP hD hS
      try dsimp only at hr2052
      refine Kpdr (ws := [(h0, oX11 bb kk ikp sg do9 ru9 ta9 tp9 ro9 ho9 de9), (bpapers, oX8 12 6 bpapersc (nI kbpapers)), (bpapersc, iA G 72 fbpapers), (bpersons, oX8 10 2 bpersonsc (nI kbpersons)), (bpersonsc, iA G 20 fbpersons), (sg, oX7 bb clk fi la ml mm sl sm cl12054), (clk, oX1 clm), (clm, iA G 36 gclm2055), (fi, iA G 12 gfi2056), (la, iA G 12 gla2057), (ml, iA G 12 gml2058), (mm, iA G 12 gmm2059), (sl, iA G 12 gsl2060), (sm, iA G 12 gsm2061), (bb, oX0 bpersons bpapers bstamps bversions blines bsteps bsayings bfindings bwarnings bquestions td vd vl gp), (bstamps, oX8 24 3 bstampsc (nI kbstamps)), (bstampsc, iA G 72 fbstamps)]) hP hD (fun hP hD => ?_)
      have w2062 := hr2052
      refine lv_aload_n hx hb gX11_hand_2.1 rfl (lv_at0 hl) ?_
      refine gf_X11_28 hC rfl hK hP 0 rfl rfl gX11_hand_2.2.1 ?_
      refine lv_iload_n hx hb gX11_hand_2.2.2.1 rfl (lv_at1 hl) ?_
      refine lv_iload_n hx hb gX11_hand_2.2.2.2.1 rfl (lv_at2 hl) ?_
      refine pV hC hK hl hP hD (c_isInHand l G sg x1 x2 bb clk fi la ml mm sl sm cl12054 gla2057 bpersons bpapers bstamps bversions blines bsteps bsayings bfindings bwarnings bquestions td vd vl gp bpapersc kbpapers fbpapers (hkbpapers)) si_X11_200 [5, 9, 14, 1, 2] sm_5_9_14_1_2 fm_5_9_14_1_2 nd_5_9_14_1_2 rfl rfl rfl rfl rfl (Nat.le_of_ble_eq_true rfl) rm_7_3_3 ⟨by first | exact Nat.le_of_ble_eq_true rfl | exact Nat.zero_le _, by first | exact Nat.le_of_ble_eq_true rfl | exact Nat.zero_le _⟩ gX11_hand_2.2.2.2.2.1 (Kors (Keqa fun a2064 => ?_) (Keqr ?_))
      · refine lv_if_ne (tgt := 59) hx hb gX11_hand_2.2.2.2.2.2.1 (by decide) (fun _ => ?_) (fun c9 => absurd c9 (by decide))
        refine lv_aload_n hx hb gX11_hand_2.2.2.2.2.2.2.2.2.1 rfl (lv_at0 hl) ?_
        refine gf_X11_28 hC rfl hK hP 0 rfl rfl gX11_hand_2.2.2.2.2.2.2.2.2.2 ?_
        refine lv_iload_n hx hb gX11_hand_3.1 rfl (lv_at1 hl) ?_
        refine lv_iload_n hx hb gX11_hand_3.2.1 rfl (lv_at2 hl) ?_
        refine lv_iload_n hx hb gX11_hand_3.2.2.1 rfl (lv_at3 hl) ?_
        refine pV hC hK hl hP hD (c_handHour l G sg x1 x2 x3 bb clk fi la ml mm sl sm cl12054 gla2057 gml2058 gmm2059 gsl2060 gsm2061 bpersons bpapers bstamps bversions blines bsteps bsayings bfindings bwarnings bquestions td vd vl gp bpapersc kbpapers fbpapers bpersonsc kbpersons fbpersons (hkbpapers) (hkbpersons)) si_X11_203 [5, 9, 10, 11, 12, 13, 14, 1, 2, 3, 4] sm_5_9_10_11_12_13_14_1_2_3_4 fm_5_9_10_11_12_13_14_1_2_3_4 nd_5_9_10_11_12_13_14_1_2_3_4 rfl rfl rfl rfl rfl (Nat.le_of_ble_eq_true rfl) rm_7_3_4 ⟨by first | exact Nat.le_of_ble_eq_true rfl | exact Nat.zero_le _, by first | exact Nat.le_of_ble_eq_true rfl | exact Nat.zero_le _⟩ gX11_hand_3.2.2.2.1 (fun r2065 hr2065 => ?_)
        refine lv_sipush (v := 1000) hx hb gX11_hand_3.2.2.2.2.1 (by decide) ?_
        refine lv_iadd hx hb gX11_hand_3.2.2.2.2.2.1 ?_
        refine toQ hQ0 ?_
        exact RI (v := r2065 + 1000) hC hP hD hS [0, 14, 5, 6, 7, 8, 9, 10, 11, 12, 13, 1, 2, 15, 16, 3, 4] (cl12054, gclm2055, gfi2056, gla2057, gml2058, gmm2059, gsl2060, gsm2061) rfl rfl (by decide) (⟨trivial, w2062⟩) rfl gX11_hand_3.2.2.2.2.2.2
      · refine lv_if_ne (tgt := 59) hx hb gX11_hand_2.2.2.2.2.2.1 (by decide) (fun c9 => absurd (by decide) c9) (fun _ => ?_)
        refine lv_bipush (v := (-3)) hx hb gX11_hand_2.2.2.2.2.2.2.1 (by decide) ?_
        refine toQ hQ0 ?_
        exact RI (v := (-3)) hC hP hD hS [0, 14, 5, 6, 7, 8, 9, 10, 11, 12, 13, 1, 2, 15, 16, 3, 4] (cl12054, gclm2055, gfi2056, gla2057, gml2058, gmm2059, gsl2060, gsm2061) rfl rfl (by decide) (⟨trivial, w2062⟩) rfl gX11_hand_2.2.2.2.2.2.2.2.1
    · refine lv_if_ne (tgt := 30) hx hb gX11_hand_1.2.1 (by decide) (fun c9 => absurd (by decide) c9) (fun _ => ?_)
      refine lv_iconst (v := (-1)) hx hb gX11_hand_1.2.2.1 (by decide) ?_
      refine toQ hQ0 ?_
      exact RI (v := (-1)) hC hP hD hS [0, 1, 2, 3, 4, 5, 6, 7, 8, 9, 10, 11, 12, 13, 14, 15, 16] (cl, fclm, ffi, fla, fml, fmm, fsl, fsm) rfl rfl (by decide) (⟨trivial, hcl⟩) rfl gX11_hand_1.2.2.2.1
  · refine lv_if_eq (tgt := 28) hx hb gX11_hand_0.2.2.2.2.2.1 (by decide) (fun _ => ?_) (fun c9 => absurd (by decide) c9)
    refine lv_iconst (v := (-1)) hx hb gX11_hand_1.2.2.1 (by decide) ?_
    refine toQ hQ0 ?_
    exact RI (v := (-1)) hC hP hD hS [0, 1, 2, 3, 4, 5, 6, 7, 8, 9, 10, 11, 12, 13, 14, 15, 16] (cl, fclm, ffi, fla, fml, fmm, fsl, fsm) rfl rfl (by decide) (⟨trivial, hcl⟩) rfl gX11_hand_1.2.2.2.1
def K_p_before (l : Launch) (G : GG) (h0 : Nat) (x1 : Int32) (x2 : Int32) (bb : Nat) (kk : Nat) (ikp : Int32) (sg : Nat) (do9 : Nat) (ru9 : Nat) (ta9 : Nat) (tp9 : Nat) (ro9 : Nat) (ho9 : Nat) (de9 : Nat) (bpersons : Nat) (bpapers : Nat) (bstamps : Nat) (bversions : Nat) (blines : Nat) (bsteps : Nat) (bsayings : Nat) (bfindings : Nat) (bwarnings : Nat) (bquestions : Nat) (td : Int32) (vd : Int32) (vl : Int32) (gp : Int32) (clk : Nat) (fi : Nat) (la : Nat) (ml : Nat) (mm : Nat) (sl : Nat) (sm : Nat) (cl : Int32) (clm : Nat) (fclm : Nat → Int32) (ffi : Nat → Int32) (fla : Nat → Int32) (fml : Nat → Int32) (fmm : Nat → Int32) (fsl : Nat → Int32) (fsm : Nat → Int32) (bpapersc : Nat) (kbpapers : Nat) (fbpapers : Nat → Int32) (bstampsc : Nat) (kbstamps : Nat) (fbstamps : Nat → Int32) : Prop := MI l G yX11_before cX11_before 3 (some .int) 7 0 0 [.ref h0, .int x1, .int x2] [(h0, oX11 bb kk ikp sg do9 ru9 ta9 tp9 ro9 ho9 de9), (bb, oX0 bpersons bpapers bstamps bversions blines bsteps bsayings bfindings bwarnings bquestions td vd vl gp), (sg, oX7 bb clk fi la ml mm sl sm cl), (clk, oX1 clm), (clm, iA G 36 fclm), (fi, iA G 12 ffi), (la, iA G 12 fla), (ml, iA G 12 fml), (mm, iA G 12 fmm), (sl, iA G 12 fsl), (sm, iA G 12 fsm), (bpapers, oX8 12 6 bpapersc (nI kbpapers)), (bpapersc, iA G 72 fbpapers), (bstamps, oX8 24 3 bstampsc (nI kbstamps)), (bstampsc, iA G 72 fbstamps)] (fun (r : Int32) (u : Int32 × (Nat → Int32) × (Nat → Int32) × (Nat → Int32) × (Nat → Int32) × (Nat → Int32) × (Nat → Int32) × (Nat → Int32)) => (True) ∧ (u.1 = 0 ∨ u.1 = 1)) (fun u : Int32 × (Nat → Int32) × (Nat → Int32) × (Nat → Int32) × (Nat → Int32) × (Nat → Int32) × (Nat → Int32) × (Nat → Int32) => [(h0, oX11 bb kk ikp sg do9 ru9 ta9 tp9 ro9 ho9 de9), (bb, oX0 bpersons bpapers bstamps bversions blines bsteps bsayings bfindings bwarnings bquestions td vd vl gp), (sg, oX7 bb clk fi la ml mm sl sm u.1), (clk, oX1 clm), (clm, iA G 36 u.2.1), (fi, iA G 12 u.2.2.1), (la, iA G 12 u.2.2.2.1), (ml, iA G 12 u.2.2.2.2.1), (mm, iA G 12 u.2.2.2.2.2.1), (sl, iA G 12 u.2.2.2.2.2.2.1), (sm, iA G 12 u.2.2.2.2.2.2.2), (bpapers, oX8 12 6 bpapersc (nI kbpapers)), (bpapersc, iA G 72 fbpapers), (bstamps, oX8 24 3 bstampsc (nI kbstamps)), (bstampsc, iA G 72 fbstamps)])
set_option maxHeartbeats 4000000 in
set_option maxRecDepth 100000 in
theorem p_before (l : Launch) (G : GG) (h0 : Nat) (x1 : Int32) (x2 : Int32) (bb : Nat) (kk : Nat) (ikp : Int32) (sg : Nat) (do9 : Nat) (ru9 : Nat) (ta9 : Nat) (tp9 : Nat) (ro9 : Nat) (ho9 : Nat) (de9 : Nat) (bpersons : Nat) (bpapers : Nat) (bstamps : Nat) (bversions : Nat) (blines : Nat) (bsteps : Nat) (bsayings : Nat) (bfindings : Nat) (bwarnings : Nat) (bquestions : Nat) (td : Int32) (vd : Int32) (vl : Int32) (gp : Int32) (clk : Nat) (fi : Nat) (la : Nat) (ml : Nat) (mm : Nat) (sl : Nat) (sm : Nat) (cl : Int32) (clm : Nat) (fclm : Nat → Int32) (ffi : Nat → Int32) (fla : Nat → Int32) (fml : Nat → Int32) (fmm : Nat → Int32) (fsl : Nat → Int32) (fsm : Nat → Int32) (bpapersc : Nat) (kbpapers : Nat) (fbpapers : Nat → Int32) (bstampsc : Nat) (kbstamps : Nat) (fbstamps : Nat → Int32) (hkbpapers : kbpapers ≤ 12) (hkbstamps : kbstamps ≤ 24) (hcl : cl = 0 ∨ cl = 1) : K_p_before l G h0 x1 x2 bb kk ikp sg do9 ru9 ta9 tp9 ro9 ho9 de9 bpersons bpapers bstamps bversions blines bsteps bsayings bfindings bwarnings bquestions td vd vl gp clk fi la ml mm sl sm cl clm fclm ffi fla fml fmm fsl fsm bpapersc kbpapers fbpapers bstampsc kbstamps fbstamps := by
  refine MI.start (by decide +kernel) (Nat.le_of_ble_eq_true rfl) ?_
  intro p e s m below meth c A ls hC hK hP hD hS hA hl
  refine absQ (fun Q0 hQ0 => ?_)
  have hl : lv_has ls 3 [(0, .ref h0), (1, .int x1), (2, .int x2)] := hl
  refine Kan8 hC (fun hx hb hr hml hB hown hlocks hnm => ?_)
  refine lv_aload_n hx hb gX11_before_0.1 rfl (lv_at0 hl) ?_
  refine gf_X11_15 hC rfl hK hP 0 rfl rfl gX11_before_0.2.1 ?_
  refine gf_X11_144 hC rfl hK hP 1 rfl rfl gX11_before_0.2.2.1 ?_
  refine lv_iload_n hx hb gX11_before_0.2.2.2.1 rfl (lv_at1 hl) ?_
  refine pV hC hK hl hP hD (c_T_has l G bpapers x1 12 6 bpapersc kbpapers) si_X11_124 [11] sm_11 fm_11 nd_11 rfl rfl rfl rfl rfl (Nat.le_of_ble_eq_true rfl) rm_7_1_2 ⟨by first | exact Nat.le_of_ble_eq_true rfl | exact Nat.zero_le _, by first | exact Nat.le_of_ble_eq_true rfl | exact Nat.zero_le _⟩ gX11_before_0.2.2.2.2.1 (Kors (Keqa fun a2067 => ?_) (Keqa fun a2067 => ?_))
  · refine lv_if_eq (tgt := 33) hx hb gX11_before_0.2.2.2.2.2.1 (by decide) (fun c9 => absurd c9 (by decide)) (fun _ => ?_)
    refine lv_aload_n hx hb gX11_before_0.2.2.2.2.2.2.1 rfl (lv_at0 hl) ?_
    refine gf_X11_15 hC rfl hK hP 0 rfl rfl gX11_before_0.2.2.2.2.2.2.2.1 ?_
    refine gf_X11_144 hC rfl hK hP 1 rfl rfl gX11_before_0.2.2.2.2.2.2.2.2.1 ?_
    refine lv_iload_n hx hb gX11_before_0.2.2.2.2.2.2.2.2.2 rfl (lv_at2 hl) ?_
    refine pV hC hK hl hP hD (c_T_has l G bpapers x2 12 6 bpapersc kbpapers) si_X11_124 [11] sm_11 fm_11 nd_11 rfl rfl rfl rfl rfl (Nat.le_of_ble_eq_true rfl) rm_7_1_2 ⟨by first | exact Nat.le_of_ble_eq_true rfl | exact Nat.zero_le _, by first | exact Nat.le_of_ble_eq_true rfl | exact Nat.zero_le _⟩ gX11_before_1.1 (Kors (Keqa fun a2069 => ?_) (Keqa fun a2069 => ?_))
    · refine lv_if_eq (tgt := 33) hx hb gX11_before_1.2.1 (by decide) (fun c9 => absurd c9 (by decide)) (fun _ => ?_)
      refine lv_iload_n hx hb gX11_before_1.2.2.1 rfl (lv_at1 hl) ?_
      refine lv_iload_n hx hb gX11_before_1.2.2.2.1 rfl (lv_at2 hl) ?_
      refine lv_icmp_ne (tgt := 35) hx hb gX11_before_1.2.2.2.2.1 (by decide) (fun c_30_2070 => ?_) (fun c_30_2070 => ?_)
      · refine lv_aload_n hx hb gX11_before_1.2.2.2.2.2.2.2.1 rfl (lv_at0 hl) ?_
        refine gf_X11_28 hC rfl hK hP 0 rfl rfl gX11_before_1.2.2.2.2.2.2.2.2.1 ?_
        refine lv_aload_n hx hb gX11_before_1.2.2.2.2.2.2.2.2.2 rfl (lv_at0 hl) ?_
        refine gf_X11_15 hC rfl hK hP 0 rfl rfl gX11_before_2.1 ?_
        refine pV hC hK hl hP hD (c_inView l G bb bpersons bpapers bstamps bversions blines bsteps bsayings bfindings bwarnings bquestions td vd vl gp bpapersc kbpapers fbpapers (hkbpapers)) si_X11_97 [1, 11, 12] sm_1_11_12 fm_1_11_12 nd_1_11_12 rfl rfl rfl rfl rfl (Nat.le_of_ble_eq_true rfl) rm_7_3_6 ⟨by first | exact Nat.le_of_ble_eq_true rfl | exact Nat.zero_le _, by first | exact Nat.le_of_ble_eq_true rfl | exact Nat.zero_le _⟩ gX11_before_2.2.1 (fun r2071 hr2071 => ?_)
        refine vV (wr := [(h0, oX11 bb kk ikp sg do9 ru9 ta9 tp9 ro9 ho9 de9), (bpapers, oX8 12 6 bpapersc (nI kbpapers)), (bpapersc, iA G 72 fbpapers)]) hC hK hl hP hD hS hA (c_look l G sg r2071 bb clk fi la ml mm sl sm cl clm fclm ffi fla fml fmm fsl fsm bpersons bpapers bstamps bversions blines bsteps bsayings bfindings bwarnings bquestions td vd vl gp bstampsc kbstamps fbstamps (hkbstamps)) si_X11_183 [2, 3, 4, 5, 6, 7, 8, 9, 10, 1, 13, 14] [0, 11, 12] sm_2_3_4_5_6_7_8_9_10_1_13_14 fm_2_3_4_5_6_7_8_9_10_1_13_14 nd_2_3_4_5_6_7_8_9_10_1_13_14 sm_0_11_12 nd_0_11_12 dj_2_3_4_5_6_7_8_9_10_1_13_14__0_11_12 rfl rfl rfl rfl rfl (Nat.le_of_ble_eq_true rfl) rm_7_5_4 ⟨Nat.le_of_ble_eq_true rfl, Nat.le_of_ble_eq_true rfl⟩ gX11_before_2.2.2.1 (Ktu8 fun cl12074 gclm2075 gfi2076 gla2077 gml2078 gmm2079 gsl2080 gsm2081 => ?_)
        intro H locs hr2072 hP hD hS
        try dsimp only at hr2072
        refine Kpdr (ws := [(h0, oX11 bb kk ikp sg do9 ru9 ta9 tp9 ro9 ho9 de9), (bpapers, oX8 12 6 bpapersc (nI kbpapers)), (bpapersc, iA G 72 fbpapers), (sg, oX7 bb clk fi la ml mm sl sm cl12074), (clk, oX1 clm), (clm, iA G 36 gclm2075), (fi, iA G 12 gfi2076), (la, iA G 12 gla2077), (ml, iA G 12 gml2078), (mm, iA G 12 gmm2079), (sl, iA G 12 gsl2080), (sm, iA G 12 gsm2081), (bb, oX0 bpersons bpapers bstamps bversions blines bsteps bsayings bfindings bwarnings bquestions td vd vl gp), (bstamps, oX8 24 3 bstampsc (nI kbstamps)), (bstampsc, iA G 72 fbstamps)]) hP hD (fun hP hD => ?_)
        have w2082 := hr2072
        refine lv_aload_n hx hb gX11_before_2.2.2.2.1 rfl (lv_at0 hl) ?_
        refine gf_X11_28 hC rfl hK hP 0 rfl rfl gX11_before_2.2.2.2.2.1 ?_
        refine lv_iload_n hx hb gX11_before_2.2.2.2.2.2.1 rfl (lv_at1 hl) ?_
        refine pV hC hK hl hP hD (c_isSent l G sg x1 bb clk fi la ml mm sl sm cl12074 gla2077) si_X11_194 [3, 7] sm_3_7 fm_3_7 nd_3_7 rfl rfl rfl rfl rfl (Nat.le_of_ble_eq_true rfl) rm_7_1_2 ⟨by first | exact Nat.le_of_ble_eq_true rfl | exact Nat.zero_le _, by first | exact Nat.le_of_ble_eq_true rfl | exact Nat.zero_le _⟩ gX11_before_2.2.2.2.2.2.2.1 (Kors (Keqa fun a2084 => ?_) (Keqr ?_))
        · refine lv_if_eq (tgt := 71) hx hb gX11_before_2.2.2.2.2.2.2.2.1 (by decide) (fun c9 => absurd c9 (by decide)) (fun _ => ?_)
          refine lv_aload_n hx hb gX11_before_2.2.2.2.2.2.2.2.2.1 rfl (lv_at0 hl) ?_
          refine gf_X11_28 hC rfl hK hP 0 rfl rfl gX11_before_2.2.2.2.2.2.2.2.2.2 ?_
          refine lv_iload_n hx hb gX11_before_3.1 rfl (lv_at2 hl) ?_
          refine pV hC hK hl hP hD (c_isSent l G sg x2 bb clk fi la ml mm sl sm cl12074 gla2077) si_X11_194 [3, 7] sm_3_7 fm_3_7 nd_3_7 rfl rfl rfl rfl rfl (Nat.le_of_ble_eq_true rfl) rm_7_1_2 ⟨by first | exact Nat.le_of_ble_eq_true rfl | exact Nat.zero_le _, by first | exact Nat.le_of_ble_eq_true rfl | exact Nat.zero_le _⟩ gX11_before_3.2.1 (Kors (Keqa fun a2086 => ?_) (Keqr ?_))
          · refine lv_if_ne (tgt := 74) hx hb gX11_before_3.2.2.1 (by decide) (fun _ => ?_) (fun c9 => absurd c9 (by decide))
            refine lv_aload_n hx hb gX11_before_3.2.2.2.2.2.1 rfl (lv_at0 hl) ?_
            refine gf_X11_28 hC rfl hK hP 0 rfl rfl gX11_before_3.2.2.2.2.2.2.1 ?_
            refine lv_iload_n hx hb gX11_before_3.2.2.2.2.2.2.2.1 rfl (lv_at1 hl) ?_
            refine lv_iload_n hx hb gX11_before_3.2.2.2.2.2.2.2.2.1 rfl (lv_at2 hl) ?_
            refine pV hC hK hl hP hD (c_leastBetween l G sg x1 x2 bb clk fi la ml mm sl sm cl12074 gla2077 clm gclm2075 bpersons bpapers bstamps bversions blines bsteps bsayings bfindings bwarnings bquestions td vd vl gp bstampsc kbstamps fbstamps (hkbstamps)) si_X11_207 [3, 7, 4, 5, 12, 13, 14] sm_3_7_4_5_12_13_14 fm_3_7_4_5_12_13_14 nd_3_7_4_5_12_13_14 rfl rfl rfl rfl rfl (Nat.le_of_ble_eq_true rfl) rm_7_4_3 ⟨by first | exact Nat.le_of_ble_eq_true rfl | exact Nat.zero_le _, by first | exact Nat.le_of_ble_eq_true rfl | exact Nat.zero_le _⟩ gX11_before_3.2.2.2.2.2.2.2.2.2 (fun r2087 hr2087 => ?_)
            refine lv_if_le (tgt := 88) hx hb gX11_before_4.1 (by decide) (fun c_83_2088 => ?_) (fun c_83_2088 => ?_)
            · refine lv_aload_n hx hb gX11_before_4.2.2.2.1 rfl (lv_at0 hl) ?_
              refine gf_X11_28 hC rfl hK hP 0 rfl rfl gX11_before_4.2.2.2.2.1 ?_
              refine lv_iload_n hx hb gX11_before_4.2.2.2.2.2.1 rfl (lv_at1 hl) ?_
              refine lv_iload_n hx hb gX11_before_4.2.2.2.2.2.2.1 rfl (lv_at2 hl) ?_
              refine pV hC hK hl hP hD (c_mostBetween l G sg x1 x2 bb clk fi la ml mm sl sm cl12074 gla2077 clm gclm2075 bpersons bpapers bstamps bversions blines bsteps bsayings bfindings bwarnings bquestions td vd vl gp bstampsc kbstamps fbstamps (hkbstamps)) si_X11_210 [3, 7, 4, 5, 12, 13, 14] sm_3_7_4_5_12_13_14 fm_3_7_4_5_12_13_14 nd_3_7_4_5_12_13_14 rfl rfl rfl rfl rfl (Nat.le_of_ble_eq_true rfl) rm_7_4_3 ⟨by first | exact Nat.le_of_ble_eq_true rfl | exact Nat.zero_le _, by first | exact Nat.le_of_ble_eq_true rfl | exact Nat.zero_le _⟩ gX11_before_4.2.2.2.2.2.2.2.1 (fun r2089 hr2089 => ?_)
              refine lv_if_le (tgt := 104) hx hb gX11_before_4.2.2.2.2.2.2.2.2.1 (by decide) (fun c_97_2090 => ?_) (fun c_97_2090 => ?_)
              · refine lv_iconst (v := 0) hx hb gX11_before_5.2.1 (by decide) ?_
                refine toQ hQ0 ?_
                exact RI (v := 0) hC hP hD hS [0, 12, 3, 4, 5, 6, 7, 8, 9, 10, 11, 1, 2, 13, 14] (cl12074, gclm2075, gfi2076, gla2077, gml2078, gmm2079, gsl2080, gsm2081) rfl rfl (by decide) (⟨trivial, w2082⟩) rfl gX11_before_5.2.2
              · refine lv_iconst (v := 1) hx hb gX11_before_4.2.2.2.2.2.2.2.2.2 (by decide) ?_
                refine lv_goto (tgt := 105) hx hb gX11_before_5.1 (by decide) ?_
                refine toQ hQ0 ?_
                exact RI (v := 1) hC hP hD hS [0, 12, 3, 4, 5, 6, 7, 8, 9, 10, 11, 1, 2, 13, 14] (cl12074, gclm2075, gfi2076, gla2077, gml2078, gmm2079, gsl2080, gsm2081) rfl rfl (by decide) (⟨trivial, w2082⟩) rfl gX11_before_5.2.2
            · refine lv_iconst (v := 2) hx hb gX11_before_4.2.1 (by decide) ?_
              refine toQ hQ0 ?_
              exact RI (v := 2) hC hP hD hS [0, 12, 3, 4, 5, 6, 7, 8, 9, 10, 11, 1, 2, 13, 14] (cl12074, gclm2075, gfi2076, gla2077, gml2078, gmm2079, gsl2080, gsm2081) rfl rfl (by decide) (⟨trivial, w2082⟩) rfl gX11_before_4.2.2.1
          · refine lv_if_ne (tgt := 74) hx hb gX11_before_3.2.2.1 (by decide) (fun c9 => absurd (by decide) c9) (fun _ => ?_)
            refine lv_bipush (v := (-3)) hx hb gX11_before_3.2.2.2.1 (by decide) ?_
            refine toQ hQ0 ?_
            exact RI (v := (-3)) hC hP hD hS [0, 12, 3, 4, 5, 6, 7, 8, 9, 10, 11, 1, 2, 13, 14] (cl12074, gclm2075, gfi2076, gla2077, gml2078, gmm2079, gsl2080, gsm2081) rfl rfl (by decide) (⟨trivial, w2082⟩) rfl gX11_before_3.2.2.2.2.1
        · refine lv_if_eq (tgt := 71) hx hb gX11_before_2.2.2.2.2.2.2.2.1 (by decide) (fun _ => ?_) (fun c9 => absurd (by decide) c9)
          refine lv_bipush (v := (-3)) hx hb gX11_before_3.2.2.2.1 (by decide) ?_
          refine toQ hQ0 ?_
          exact RI (v := (-3)) hC hP hD hS [0, 12, 3, 4, 5, 6, 7, 8, 9, 10, 11, 1, 2, 13, 14] (cl12074, gclm2075, gfi2076, gla2077, gml2078, gmm2079, gsl2080, gsm2081) rfl rfl (by decide) (⟨trivial, w2082⟩) rfl gX11_before_3.2.2.2.2.1
      · refine lv_iconst (v := (-1)) hx hb gX11_before_1.2.2.2.2.2.1 (by decide) ?_
        refine toQ hQ0 ?_
        exact RI (v := (-1)) hC hP hD hS [0, 1, 2, 3, 4, 5, 6, 7, 8, 9, 10, 11, 12, 13, 14] (cl, fclm, ffi, fla, fml, fmm, fsl, fsm) rfl rfl (by decide) (⟨trivial, hcl⟩) rfl gX11_before_1.2.2.2.2.2.2.1
    · refine lv_if_eq (tgt := 33) hx hb gX11_before_1.2.1 (by decide) (fun _ => ?_) (fun c9 => absurd (by decide) c9)
      refine lv_iconst (v := (-1)) hx hb gX11_before_1.2.2.2.2.2.1 (by decide) ?_
      refine toQ hQ0 ?_
      exact RI (v := (-1)) hC hP hD hS [0, 1, 2, 3, 4, 5, 6, 7, 8, 9, 10, 11, 12, 13, 14] (cl, fclm, ffi, fla, fml, fmm, fsl, fsm) rfl rfl (by decide) (⟨trivial, hcl⟩) rfl gX11_before_1.2.2.2.2.2.2.1
  · refine lv_if_eq (tgt := 33) hx hb gX11_before_0.2.2.2.2.2.1 (by decide) (fun _ => ?_) (fun c9 => absurd (by decide) c9)
    refine lv_iconst (v := (-1)) hx hb gX11_before_1.2.2.2.2.2.1 (by decide) ?_
    refine toQ hQ0 ?_
    exact RI (v := (-1)) hC hP hD hS [0, 1, 2, 3, 4, 5, 6, 7, 8, 9, 10, 11, 12, 13, 14] (cl, fclm, ffi, fla, fml, fmm, fsl, fsm) rfl rfl (by decide) (⟨trivial, hcl⟩) rfl gX11_before_1.2.2.2.2.2.2.1
