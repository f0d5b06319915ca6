section WR
variable {p : Program} {l : Launch} {e : Env} {R : Room} {s : State} {m : MethodId} {args : Array Value} {below : List Frame} {meth : Method} {c : Code} {H : Heap} {locs : List Loc} {cells slots : Nat} {Q : State → Prop}
variable {pc : Nat} {ls : Array Slot} {rest : List Value} {G : GG} {ws : va_W} {A : Nat → Prop} {y0 : MethodName} {b0 : ByteArray} {mL0 : Nat} {rt0 : Option FieldType} {a : Nat} {H0 : Heap}
theorem gX7_clashes_0 : (decode cX7_clashes 0 = .ok (.aload_n 0, 1)) ∧ (decode cX7_clashes 1 = .ok (.getfield 41, 3)) ∧ (decode cX7_clashes 4 = .ok (.ireturn, 1)) := by decide +kernel
theorem gX11_span_0 : (decode cX11_span 0 = .ok (.iload_n 1, 1)) ∧ (decode cX11_span 1 = .ok (.iconst 0, 1)) ∧ (decode cX11_span 2 = .ok (.iconst 5, 1)) ∧ (decode cX11_span 3 = .ok (.invokestatic 83, 3)) ∧ (decode cX11_span 6 = .ok (.ifCond .ne 5, 3)) ∧ (decode cX11_span 9 = .ok (.iconst (-1), 1)) ∧ (decode cX11_span 10 = .ok (.ireturn, 1)) ∧ (decode cX11_span 11 = .ok (.aload_n 0, 1)) ∧ (decode cX11_span 12 = .ok (.getfield 28, 3)) ∧ (decode cX11_span 15 = .ok (.aload_n 0, 1)) := by decide +kernel
theorem m_280 : Cond.fieldLink RX11 28 "InquiryBench" "sight" "LInquiryBench$Sight;" ∈ BW := iB_BW15 _ (List.mem_of_getElem? (i := 6) rfl)
theorem gf_X11_28 (hC : CX p s m meth c y0 b0 mL0 rt0 args) (hy0 : y0.cls = RX11) (hK : KK G s) (hP : va_P G.1 vwCl ws H) (q0 : Nat) {fs : List Value} {v : Value} (he : ws[q0]? = some (a, .inr (11, fs))) (hv : fs[3]? = some v) (hdg : decode b0 pc = .ok (.getfield 28, 3)) (kk : W p l e R s m args below meth c H locs cells slots Q (F0 m (pc + 3) ls (v :: rest))) : W p l e R s m args below meth c H locs cells slots Q (F0 m pc ls (.ref a :: rest)) := by
  obtain ⟨hx, hb, hr, hml, hB, hown, hlocks, hnm⟩ := hC
  rw [hy0] at hown
  exact va_get (ci := 11) (C := RX11) (T := TX11) (N := 11) hx hb hB in_X11 hown hK.1 hP q0 he rfl 3 (by decide) (hB _ m_280) (fun _ h => h) hv hdg kk
theorem gX11_span_1 : (decode cX11_span 16 = .ok (.getfield 15, 3)) ∧ (decode cX11_span 19 = .ok (.invokevirtual 97, 3)) ∧ (decode cX11_span 22 = .ok (.invokevirtual 183, 3)) ∧ (decode cX11_span 25 = .ok (.aload_n 0, 1)) ∧ (decode cX11_span 26 = .ok (.getfield 28, 3)) ∧ (decode cX11_span 29 = .ok (.invokevirtual 187, 3)) ∧ (decode cX11_span 32 = .ok (.ifCond .eq 6, 3)) ∧ (decode cX11_span 35 = .ok (.bipush (-4), 2)) ∧ (decode cX11_span 37 = .ok (.ireturn, 1)) ∧ (decode cX11_span 38 = .ok (.aload_n 0, 1)) := by decide +kernel
theorem m_471 : Cond.code yX7_look cX7_look 4 none ∈ BW := iB_BW25 _ (List.mem_of_getElem? (i := 15) rfl)
theorem m_468 : Cond.methodLink RX11 183 yX7_look ∈ BW := iB_BW25 _ (List.mem_of_getElem? (i := 12) rfl)
theorem m_469 : Cond.instanceMethod yX7_look ∈ BW := iB_BW25 _ (List.mem_of_getElem? (i := 13) rfl)
theorem m_470 : Cond.selects RX7 yX7_look yX7_look ∈ BW := iB_BW25 _ (List.mem_of_getElem? (i := 14) rfl)
theorem si_X11_183 : SV RX11 RX7 183 yX7_look cX7_look 4 none 1 := ⟨⟨m_468, m_469, m_470, m_106, m_471⟩, rfl, nK_RX7.1, nK_RX7.2, pd_18⟩
theorem m_489 : Cond.code yX7_clashes cX7_clashes 1 (some .boolean) ∈ BW := iB_BW26 _ (List.mem_of_getElem? (i := 13) rfl)
theorem m_486 : Cond.methodLink RX11 187 yX7_clashes ∈ BW := iB_BW26 _ (List.mem_of_getElem? (i := 10) rfl)
theorem m_487 : Cond.instanceMethod yX7_clashes ∈ BW := iB_BW26 _ (List.mem_of_getElem? (i := 11) rfl)
theorem m_488 : Cond.selects RX7 yX7_clashes yX7_clashes ∈ BW := iB_BW26 _ (List.mem_of_getElem? (i := 12) rfl)
theorem si_X11_187 : SV RX11 RX7 187 yX7_clashes cX7_clashes 1 (some .boolean) 0 := ⟨⟨m_486, m_487, m_488, m_106, m_489⟩, rfl, nK_RX7.1, nK_RX7.2, pd_15⟩
theorem gX11_span_2 : (decode cX11_span 39 = .ok (.getfield 28, 3)) ∧ (decode cX11_span 42 = .ok (.iload_n 1, 1)) ∧ (decode cX11_span 43 = .ok (.iload_n 2, 1)) ∧ (decode cX11_span 44 = .ok (.invokevirtual 190, 3)) ∧ (decode cX11_span 47 = .ok (.sipush 1000, 3)) ∧ (decode cX11_span 50 = .ok (.iadd, 1)) ∧ (decode cX11_span 51 = .ok (.ireturn, 1)) := by decide +kernel
theorem m_497 : Cond.code yX7_ahead cX7_ahead 3 (some .int) ∈ BW := iB_BW27 _ (List.mem_of_getElem? (i := 1) rfl)
theorem m_494 : Cond.methodLink RX11 190 yX7_ahead ∈ BW := iB_BW26 _ (List.mem_of_getElem? (i := 18) rfl)
theorem m_495 : Cond.instanceMethod yX7_ahead ∈ BW := iB_BW26 _ (List.mem_of_getElem? (i := 19) rfl)
theorem m_496 : Cond.selects RX7 yX7_ahead yX7_ahead ∈ BW := iB_BW27 _ (List.mem_of_getElem? (i := 0) rfl)
theorem si_X11_190 : SV RX11 RX7 190 yX7_ahead cX7_ahead 3 (some .int) 2 := ⟨⟨m_494, m_495, m_496, m_106, m_497⟩, rfl, nK_RX7.1, nK_RX7.2, pd_8⟩
theorem gX11_sent_0 : (decode cX11_sent 0 = .ok (.aload_n 0, 1)) ∧ (decode cX11_sent 1 = .ok (.getfield 15, 3)) ∧ (decode cX11_sent 4 = .ok (.getfield 144, 3)) ∧ (decode cX11_sent 7 = .ok (.iload_n 1, 1)) ∧ (decode cX11_sent 8 = .ok (.invokevirtual 124, 3)) ∧ (decode cX11_sent 11 = .ok (.ifCond .ne 5, 3)) ∧ (decode cX11_sent 14 = .ok (.iconst (-1), 1)) ∧ (decode cX11_sent 15 = .ok (.ireturn, 1)) ∧ (decode cX11_sent 16 = .ok (.aload_n 0, 1)) ∧ (decode cX11_sent 17 = .ok (.getfield 28, 3)) := by decide +kernel
theorem gX11_sent_1 : (decode cX11_sent 20 = .ok (.aload_n 0, 1)) ∧ (decode cX11_sent 21 = .ok (.getfield 15, 3)) ∧ (decode cX11_sent 24 = .ok (.invokevirtual 97, 3)) ∧ (decode cX11_sent 27 = .ok (.invokevirtual 183, 3)) ∧ (decode cX11_sent 30 = .ok (.aload_n 0, 1)) ∧ (decode cX11_sent 31 = .ok (.getfield 28, 3)) ∧ (decode cX11_sent 34 = .ok (.iload_n 1, 1)) ∧ (decode cX11_sent 35 = .ok (.invokevirtual 194, 3)) ∧ (decode cX11_sent 38 = .ok (.ifCond .ne 6, 3)) ∧ (decode cX11_sent 41 = .ok (.bipush (-3), 2)) := by decide +kernel
theorem m_502 : Cond.methodLink RX11 194 yX7_isSent ∈ BW := iB_BW27 _ (List.mem_of_getElem? (i := 6) rfl)
theorem si_X11_194 : SV RX11 RX7 194 yX7_isSent cX7_isSent 2 (some .boolean) 1 := ⟨⟨m_502, m_503, m_504, m_106, m_505⟩, rfl, nK_RX7.1, nK_RX7.2, pd_5⟩
theorem gX11_sent_2 : (decode cX11_sent 43 = .ok (.ireturn, 1)) ∧ (decode cX11_sent 44 = .ok (.aload_n 0, 1)) ∧ (decode cX11_sent 45 = .ok (.getfield 28, 3)) ∧ (decode cX11_sent 48 = .ok (.iload_n 1, 1)) ∧ (decode cX11_sent 49 = .ok (.iload_n 2, 1)) ∧ (decode cX11_sent 50 = .ok (.invokevirtual 197, 3)) ∧ (decode cX11_sent 53 = .ok (.sipush 1000, 3)) ∧ (decode cX11_sent 56 = .ok (.iadd, 1)) ∧ (decode cX11_sent 57 = .ok (.ireturn, 1)) := by decide +kernel
theorem m_509 : Cond.code yX7_sentHour cX7_sentHour 3 (some .int) ∈ BW := iB_BW27 _ (List.mem_of_getElem? (i := 13) rfl)
theorem m_506 : Cond.methodLink RX11 197 yX7_sentHour ∈ BW := iB_BW27 _ (List.mem_of_getElem? (i := 10) rfl)
theorem m_507 : Cond.instanceMethod yX7_sentHour ∈ BW := iB_BW27 _ (List.mem_of_getElem? (i := 11) rfl)
theorem m_508 : Cond.selects RX7 yX7_sentHour yX7_sentHour ∈ BW := iB_BW27 _ (List.mem_of_getElem? (i := 12) rfl)
theorem si_X11_197 : SV RX11 RX7 197 yX7_sentHour cX7_sentHour 3 (some .int) 2 := ⟨⟨m_506, m_507, m_508, m_106, m_509⟩, rfl, nK_RX7.1, nK_RX7.2, pd_8⟩
theorem gX11_hand_0 : (decode cX11_hand 0 = .ok (.aload_n 0, 1)) ∧ (decode cX11_hand 1 = .ok (.getfield 15, 3)) ∧ (decode cX11_hand 4 = .ok (.getfield 144, 3)) ∧ (decode cX11_hand 7 = .ok (.iload_n 1, 1)) ∧ (decode cX11_hand 8 = .ok (.invokevirtual 124, 3)) ∧ (decode cX11_hand 11 = .ok (.ifCond .eq 17, 3)) ∧ (decode cX11_hand 14 = .ok (.aload_n 0, 1)) ∧ (decode cX11_hand 15 = .ok (.getfield 15, 3)) ∧ (decode cX11_hand 18 = .ok (.getfield 107, 3)) ∧ (decode cX11_hand 21 = .ok (.iload_n 2, 1)) := by decide +kernel
theorem gX11_hand_1 : (decode cX11_hand 22 = .ok (.invokevirtual 124, 3)) ∧ (decode cX11_hand 25 = .ok (.ifCond .ne 5, 3)) ∧ (decode cX11_hand 28 = .ok (.iconst (-1), 1)) ∧ (decode cX11_hand 29 = .ok (.ireturn, 1)) ∧ (decode cX11_hand 30 = .ok (.aload_n 0, 1)) ∧ (decode cX11_hand 31 = .ok (.getfield 28, 3)) ∧ (decode cX11_hand 34 = .ok (.aload_n 0, 1)) ∧ (decode cX11_hand 35 = .ok (.getfield 15, 3)) ∧ (decode cX11_hand 38 = .ok (.invokevirtual 97, 3)) ∧ (decode cX11_hand 41 = .ok (.invokevirtual 183, 3)) := by decide +kernel
theorem gX11_hand_2 : (decode cX11_hand 44 = .ok (.aload_n 0, 1)) ∧ (decode cX11_hand 45 = .ok (.getfield 28, 3)) ∧ (decode cX11_hand 48 = .ok (.iload_n 1, 1)) ∧ (decode cX11_hand 49 = .ok (.iload_n 2, 1)) ∧ (decode cX11_hand 50 = .ok (.invokevirtual 200, 3)) ∧ (decode cX11_hand 53 = .ok (.ifCond .ne 6, 3)) ∧ (decode cX11_hand 56 = .ok (.bipush (-3), 2)) ∧ (decode cX11_hand 58 = .ok (.ireturn, 1)) ∧ (decode cX11_hand 59 = .ok (.aload_n 0, 1)) ∧ (decode cX11_hand 60 = .ok (.getfield 28, 3)) := by decide +kernel
theorem m_515 : Cond.methodLink RX11 200 yX7_isInHand ∈ BW := iB_BW27 _ (List.mem_of_getElem? (i := 19) rfl)
theorem si_X11_200 : SV RX11 RX7 200 yX7_isInHand cX7_isInHand 3 (some .boolean) 2 := ⟨⟨m_515, m_516, m_517, m_106, m_518⟩, rfl, nK_RX7.1, nK_RX7.2, pd_3⟩
theorem gX11_hand_3 : (decode cX11_hand 63 = .ok (.iload_n 1, 1)) ∧ (decode cX11_hand 64 = .ok (.iload_n 2, 1)) ∧ (decode cX11_hand 65 = .ok (.iload_n 3, 1)) ∧ (decode cX11_hand 66 = .ok (.invokevirtual 203, 3)) ∧ (decode cX11_hand 69 = .ok (.sipush 1000, 3)) ∧ (decode cX11_hand 72 = .ok (.iadd, 1)) ∧ (decode cX11_hand 73 = .ok (.ireturn, 1)) := by decide +kernel
theorem m_519 : Cond.methodLink RX11 203 yX7_handHour ∈ BW := iB_BW28 _ (List.mem_of_getElem? (i := 3) rfl)
theorem si_X11_203 : SV RX11 RX7 203 yX7_handHour cX7_handHour 4 (some .int) 3 := ⟨⟨m_519, m_520, m_521, m_106, m_522⟩, rfl, nK_RX7.1, nK_RX7.2, pd_6⟩
theorem gX11_before_0 : (decode cX11_before 0 = .ok (.aload_n 0, 1)) ∧ (decode cX11_before 1 = .ok (.getfield 15, 3)) ∧ (decode cX11_before 4 = .ok (.getfield 144, 3)) ∧ (decode cX11_before 7 = .ok (.iload_n 1, 1)) ∧ (decode cX11_before 8 = .ok (.invokevirtual 124, 3)) ∧ (decode cX11_before 11 = .ok (.ifCond .eq 22, 3)) ∧ (decode cX11_before 14 = .ok (.aload_n 0, 1)) ∧ (decode cX11_before 15 = .ok (.getfield 15, 3)) ∧ (decode cX11_before 18 = .ok (.getfield 144, 3)) ∧ (decode cX11_before 21 = .ok (.iload_n 2, 1)) := by decide +kernel
theorem gX11_before_1 : (decode cX11_before 22 = .ok (.invokevirtual 124, 3)) ∧ (decode cX11_before 25 = .ok (.ifCond .eq 8, 3)) ∧ (decode cX11_before 28 = .ok (.iload_n 1, 1)) ∧ (decode cX11_before 29 = .ok (.iload_n 2, 1)) ∧ (decode cX11_before 30 = .ok (.if_icmp .ne 5, 3)) ∧ (decode cX11_before 33 = .ok (.iconst (-1), 1)) ∧ (decode cX11_before 34 = .ok (.ireturn, 1)) ∧ (decode cX11_before 35 = .ok (.aload_n 0, 1)) ∧ (decode cX11_before 36 = .ok (.getfield 28, 3)) ∧ (decode cX11_before 39 = .ok (.aload_n 0, 1)) := by decide +kernel
theorem gX11_before_2 : (decode cX11_before 40 = .ok (.getfield 15, 3)) ∧ (decode cX11_before 43 = .ok (.invokevirtual 97, 3)) ∧ (decode cX11_before 46 = .ok (.invokevirtual 183, 3)) ∧ (decode cX11_before 49 = .ok (.aload_n 0, 1)) ∧ (decode cX11_before 50 = .ok (.getfield 28, 3)) ∧ (decode cX11_before 53 = .ok (.iload_n 1, 1)) ∧ (decode cX11_before 54 = .ok (.invokevirtual 194, 3)) ∧ (decode cX11_before 57 = .ok (.ifCond .eq 14, 3)) ∧ (decode cX11_before 60 = .ok (.aload_n 0, 1)) ∧ (decode cX11_before 61 = .ok (.getfield 28, 3)) := by decide +kernel
theorem gX11_before_3 : (decode cX11_before 64 = .ok (.iload_n 2, 1)) ∧ (decode cX11_before 65 = .ok (.invokevirtual 194, 3)) ∧ (decode cX11_before 68 = .ok (.ifCond .ne 6, 3)) ∧ (decode cX11_before 71 = .ok (.bipush (-3), 2)) ∧ (decode cX11_before 73 = .ok (.ireturn, 1)) ∧ (decode cX11_before 74 = .ok (.aload_n 0, 1)) ∧ (decode cX11_before 75 = .ok (.getfield 28, 3)) ∧ (decode cX11_before 78 = .ok (.iload_n 1, 1)) ∧ (decode cX11_before 79 = .ok (.iload_n 2, 1)) ∧ (decode cX11_before 80 = .ok (.invokevirtual 207, 3)) := by decide +kernel
theorem m_530 : Cond.code yX7_leastBetween cX7_leastBetween 3 (some .int) ∈ BW := iB_BW28 _ (List.mem_of_getElem? (i := 14) rfl)
theorem m_527 : Cond.methodLink RX11 207 yX7_leastBetween ∈ BW := iB_BW28 _ (List.mem_of_getElem? (i := 11) rfl)
theorem m_528 : Cond.instanceMethod yX7_leastBetween ∈ BW := iB_BW28 _ (List.mem_of_getElem? (i := 12) rfl)
theorem m_529 : Cond.selects RX7 yX7_leastBetween yX7_leastBetween ∈ BW := iB_BW28 _ (List.mem_of_getElem? (i := 13) rfl)
theorem si_X11_207 : SV RX11 RX7 207 yX7_leastBetween cX7_leastBetween 3 (some .int) 2 := ⟨⟨m_527, m_528, m_529, m_106, m_530⟩, rfl, nK_RX7.1, nK_RX7.2, pd_2⟩
theorem gX11_before_4 : (decode cX11_before 83 = .ok (.ifCond .le 5, 3)) ∧ (decode cX11_before 86 = .ok (.iconst 2, 1)) ∧ (decode cX11_before 87 = .ok (.ireturn, 1)) ∧ (decode cX11_before 88 = .ok (.aload_n 0, 1)) ∧ (decode cX11_before 89 = .ok (.getfield 28, 3)) ∧ (decode cX11_before 92 = .ok (.iload_n 1, 1)) ∧ (decode cX11_before 93 = .ok (.iload_n 2, 1)) ∧ (decode cX11_before 94 = .ok (.invokevirtual 210, 3)) ∧ (decode cX11_before 97 = .ok (.ifCond .le 7, 3)) ∧ (decode cX11_before 100 = .ok (.iconst 1, 1)) := by decide +kernel
theorem m_540 : Cond.code yX7_mostBetween cX7_mostBetween 3 (some .int) ∈ BW := iB_BW29 _ (List.mem_of_getElem? (i := 4) rfl)
theorem m_537 : Cond.methodLink RX11 210 yX7_mostBetween ∈ BW := iB_BW29 _ (List.mem_of_getElem? (i := 1) rfl)
theorem m_538 : Cond.instanceMethod yX7_mostBetween ∈ BW := iB_BW29 _ (List.mem_of_getElem? (i := 2) rfl)
theorem m_539 : Cond.selects RX7 yX7_mostBetween yX7_mostBetween ∈ BW := iB_BW29 _ (List.mem_of_getElem? (i := 3) rfl)
theorem si_X11_210 : SV RX11 RX7 210 yX7_mostBetween cX7_mostBetween 3 (some .int) 2 := ⟨⟨m_537, m_538, m_539, m_106, m_540⟩, rfl, nK_RX7.1, nK_RX7.2, pd_2⟩
theorem gX11_before_5 : (decode cX11_before 101 = .ok (.goto 4, 3)) ∧ (decode cX11_before 104 = .ok (.iconst 0, 1)) ∧ (decode cX11_before 105 = .ok (.ireturn, 1)) := by decide +kernel
end WR
theorem HB.no {f : Nat → Int32} {td vd vl : Int32} {n p : Nat} (hn : n ≤ 12) (hp : ¬ p < n) (h12 : p < 12) : ¬ HB (IVW f td vd vl n) (nI p) := by
  obtain ⟨j, hj, e⟩ := IVW.nat (f := f) (td := td) (vd := vd) (vl := vl) n hn
  have h2 : 2 ^ n ≤ 2 ^ p := Nat.pow_le_pow_right (by decide) (by omega)
  have h3 : (2 : Nat) ^ p ≤ 2 ^ 12 := Nat.pow_le_pow_right (by decide) (by omega)
  have h4 : (2 : Nat) ^ 12 = 4096 := by decide
  have h5 := (sh13 ⟨p, by omega⟩).2.1
  have h6 : j / 2 ^ p = 0 := Nat.div_eq_of_lt (by omega)
  have h9 : j / 2 ^ p ≤ j := Nat.div_le_self _ _
  have h7 : (nI j >>> (nI p &&& 31)) &&& 1 = nI (j / 2 ^ p % 2) := by
    rw [pk_shrN (by omega) _ p h5]
    exact pk_andN (by omega) 1 (by decide)
  intro h
  have h8 := h.2.2
  rw [e, h7, h6] at h8
  exact absurd h8 (by decide)
theorem CLB.eq {K : Nat → Nat → Int → Prop} {f g : Nat → Int32} (h1 : CLB K (MAT f)) (h2 : CLB K (MAT g)) {a b : Nat} (ha : a < 6) (hb : b < 6) : f (a * 6 + b) = g (a * 6 + b) := Int32.toInt_inj.mp (h1.1.uniq h2.1 ha hb)
/-- how far a clock may be ahead, as it is answered -/
def SPQ (K : Nat → Nat → Int → Prop) (x1 x2 r : Int32) : Prop := (¬ Wi x1 0 5 ∧ r = (-1)) ∨ (Wi x1 0 5 ∧ NOS K ∧ r = (-4)) ∨ (Wi x1 0 5 ∧ ∃ f : Nat → Int32, CLB K (MAT f) ∧ ((x2 = 0 ∧ r = -(f (x1.toNatClampNeg * 6 + 0)) + 1000) ∨ (¬ x2 = 0 ∧ r = f (0 * 6 + x1.toNatClampNeg) + 1000)))
theorem SPQ.uniq {K : Nat → Nat → Int → Prop} {x1 x2 r s : Int32} (h1 : SPQ K x1 x2 r) (h2 : SPQ K x1 x2 s) : r = s := by
  rcases h1 with ⟨a, b⟩ | ⟨a, b, c⟩ | ⟨a, f, b, c⟩
  · rcases h2 with ⟨a2, b2⟩ | ⟨a2, b2, c2⟩ | ⟨a2, g, b2, c2⟩
    · exact b.trans b2.symm
    · exact absurd a2 a
    · exact absurd a2 a
  · rcases h2 with ⟨a2, b2⟩ | ⟨a2, b2, c2⟩ | ⟨a2, g, b2, c2⟩
    · exact absurd a a2
    · exact c.trans c2.symm
    · exact absurd b b2.nos
  · rcases h2 with ⟨a2, b2⟩ | ⟨a2, b2, c2⟩ | ⟨a2, g, b2, c2⟩
    · exact absurd a a2
    · exact absurd b2 b.nos
    · obtain ⟨j, hj, e⟩ := Wi5 a
      have ej : x1.toNatClampNeg = j := by rw [e, nI_clamp (by omega)]
      rw [ej] at c c2
      have q1 := b.eq b2 hj (show 0 < 6 by decide)
      have q2 := b.eq b2 (show 0 < 6 by decide) hj
      rcases c with ⟨c, d⟩ | ⟨c, d⟩
      · rcases c2 with ⟨c2, d2⟩ | ⟨c2, d2⟩
        · rw [d, d2, q1]
        · exact absurd c c2
      · rcases c2 with ⟨c2, d2⟩ | ⟨c2, d2⟩
        · exact absurd c2 c
        · rw [d, d2, q2]
theorem SPQ.uq {K L : Nat → Nat → Int → Prop} {x1 x2 r s : Int32} (h1 : SPQ K x1 x2 r) (h2 : SPQ L x1 x2 s) (e : K = L) : r = s := by
  subst e
  exact h1.uniq h2
theorem GPR.gap {n g g1 : Int32} (h : GPR g) (e : ifc (Wi n 0 99) n g = g1) : GPR g1 := by
  subst e
  by_cases c : Wi n 0 99
  · rw [ifc_t c]
    have h1 := Wi_iff.mp c
    have e0 : (0 : Int32).toInt = 0 := by decide
    have e9 : (99 : Int32).toInt = 99 := by decide
    rw [e0, e9] at h1
    exact h1
  · rw [ifc_f c]
    exact h
section WR
variable {p : Program} {l : Launch} {e : Env} {R : Room} {s : State} {m : MethodId} {args : Array Value} {below : List Frame} {meth : Method} {c : Code} {H : Heap} {locs : List Loc} {cells slots : Nat} {Q : State → Prop}
variable {pc : Nat} {ls : Array Slot} {rest : List Value} {G : GG} {ws : va_W} {A : Nat → Prop} {y0 : MethodName} {b0 : ByteArray} {mL0 : Nat} {rt0 : Option FieldType} {a : Nat} {H0 : Heap}
end WR
theorem Hs.of {p k : Nat} (h : p < k) (hk : k < 2 ^ 31) : Hs (nI p) k := ⟨nI_pos (by omega), fun h9 => by
  rw [nI_leI hk (by omega)] at h9
  omega⟩
/-- the last stamp of a paper; the first one -/
def LST (ft : Nat → Int32) (k p s : Nat) : Prop := s < k ∧ ft (s * 3 + 0) = nI p ∧ ∀ s2, s < s2 → s2 < k → ¬ ft (s2 * 3 + 0) = nI p
def FST (ft : Nat → Int32) (k p s : Nat) : Prop := s < k ∧ ft (s * 3 + 0) = nI p ∧ ∀ s2, s2 < s → ¬ ft (s2 * 3 + 0) = nI p
theorem LST.uniq {ft : Nat → Int32} {k p a b : Nat} (h1 : LST ft k p a) (h2 : LST ft k p b) : a = b := by
  rcases Nat.lt_trichotomy a b with c | c | c
  · exact absurd h2.2.1 (h1.2.2 b c h2.1)
  · exact c
  · exact absurd h1.2.1 (h2.2.2 a c h1.1)
theorem FST.uniq {ft : Nat → Int32} {k p a b : Nat} (h1 : FST ft k p a) (h2 : FST ft k p b) : a = b := by
  rcases Nat.lt_trichotomy a b with c | c | c
  · exact absurd h1.2.1 (h2.2.2 a c)
  · exact c
  · exact absurd h2.2.1 (h1.2.2 b c)
theorem SVL.ck {ft : Nat → Int32} {n s : Nat} (h : SVL ft n) (hs : s < n) : CKS ft s < 6 := by
  obtain ⟨-, ⟨c, hc, e⟩, -⟩ := h s hs
  unfold CKS
  rw [e, nI_clamp (by omega)]
  exact hc
/-- an hour of a paper, as it is answered -/
def HRQ (K : Nat → Nat → Int → Prop) (ft : Nat → Int32) (V : Nat → Prop) (k p : Nat) (P : Nat → Prop) (x2 r : Int32) : Prop := ((NOS K ∨ ¬ V p ∨ ∀ s, s < k → ¬ ft (s * 3 + 0) = nI p) ∧ r = (-3)) ∨ ∃ (f : Nat → Int32) (s : Nat), CLB K (MAT f) ∧ V p ∧ P s ∧ s < k ∧ ft (s * 3 + 0) = nI p ∧ ((x2 = 0 ∧ r = TR0 ft f s + 1000) ∨ (¬ x2 = 0 ∧ r = TR1 ft f s + 1000))
theorem HRQ.uniq {K : Nat → Nat → Int → Prop} {ft : Nat → Int32} {V : Nat → Prop} {k p : Nat} {P : Nat → Prop} {x2 r t : Int32} (hP : ∀ a b, P a → P b → a = b) (hS : SVL ft k) (h1 : HRQ K ft V k p P x2 r) (h2 : HRQ K ft V k p P x2 t) : r = t := by
  rcases h1 with ⟨n1, e1⟩ | ⟨f, a, b1, v1, p1, s1, q1, c1⟩
  · rcases h2 with ⟨n2, e2⟩ | ⟨g, b, b2, v2, p2, s2, q2, c2⟩
    · exact e1.trans e2.symm
    · rcases n1 with n1 | n1 | n1
      · exact absurd n1 b2.nos
      · exact absurd v2 n1
      · exact absurd q2 (n1 b s2)
  · rcases h2 with ⟨n2, e2⟩ | ⟨g, b, b2, v2, p2, s2, q2, c2⟩
    · rcases n2 with n2 | n2 | n2
      · exact absurd n2 b1.nos
      · exact absurd v1 n2
      · exact absurd q1 (n2 a s1)
    · have e := hP a b p1 p2
      rw [← e] at c2
      have hc := hS.ck s1
      have t0 : TR0 ft f a = TR0 ft g a := by
        unfold TR0
        rw [b1.eq b2 (by decide) hc]
      have t1 : TR1 ft f a = TR1 ft g a := by
        unfold TR1
        rw [b1.eq b2 hc (by decide)]
      rcases c1 with ⟨x, y⟩ | ⟨x, y⟩
      · rcases c2 with ⟨z, w⟩ | ⟨z, w⟩
        · rw [y, w, t0]
        · exact absurd x z
      · rcases c2 with ⟨z, w⟩ | ⟨z, w⟩
        · exact absurd z x
        · rw [y, w, t1]
theorem LST.cg {ft gt : Nat → Int32} {k p s : Nat} (h : ∀ i, i < 72 → gt i = ft i) (hn : k ≤ 24) (h1 : LST gt k p s) : LST ft k p s := by
  obtain ⟨a, b, c⟩ := h1
  exact ⟨a, (h (s * 3 + 0) (by omega)).symm.trans b, fun s2 h2 h3 e => c s2 h2 h3 ((h (s2 * 3 + 0) (by omega)).trans e)⟩
theorem FST.cg {ft gt : Nat → Int32} {k p s : Nat} (h : ∀ i, i < 72 → gt i = ft i) (hn : k ≤ 24) (h1 : FST gt k p s) : FST ft k p s := by
  obtain ⟨a, b, c⟩ := h1
  exact ⟨a, (h (s * 3 + 0) (by omega)).symm.trans b, fun s2 h2 e => c s2 h2 ((h (s2 * 3 + 0) (by omega)).trans e)⟩
theorem HRQ.cg {K : Nat → Nat → Int → Prop} {ft gt : Nat → Int32} {V U : Nat → Prop} {k p : Nat} {P Q : Nat → Prop} {x2 r : Int32} (h : ∀ i, i < 72 → gt i = ft i) (hn : k ≤ 24) (hv : U p ↔ V p) (hPQ : ∀ s, P s → Q s) (h1 : HRQ K gt U k p P x2 r) : HRQ K ft V k p Q x2 r := by
  rcases h1 with ⟨n1, e1⟩ | ⟨f, a, b1, v1, p1, s1, q1, c1⟩
  · refine Or.inl ⟨?_, e1⟩
    rcases n1 with n1 | n1 | n1
    · exact Or.inl n1
    · exact Or.inr (Or.inl fun h9 => n1 (hv.mpr h9))
    · exact Or.inr (Or.inr fun s hs e => n1 s hs ((h (s * 3 + 0) (by omega)).trans e))
  · have t0 : TR0 gt f a = TR0 ft f a := by
      unfold TR0 CKS
      rw [h (a * 3 + 2) (by omega), h (a * 3 + 1) (by omega)]
    have t1 : TR1 gt f a = TR1 ft f a := by
      unfold TR1 CKS
      rw [h (a * 3 + 2) (by omega), h (a * 3 + 1) (by omega)]
    rw [t0, t1] at c1
    exact Or.inr ⟨f, a, b1, hv.mp v1, hPQ a p1, s1, (h (a * 3 + 0) (by omega)).symm.trans q1, c1⟩
/-- when a paper was sent, as it is answered -/
def SNQ (K : Nat → Nat → Int → Prop) (ft : Nat → Int32) (V : Nat → Prop) (k kp : Nat) (x1 x2 r : Int32) : Prop := (¬ Hs x1 kp ∧ r = (-1)) ∨ ∃ p, p < kp ∧ x1 = nI p ∧ HRQ K ft V k p (LST ft k p) x2 r
theorem SNQ.uq {K L : Nat → Nat → Int → Prop} {ft gt : Nat → Int32} {V U : Nat → Prop} {k kp : Nat} {x1 x2 r t : Int32} (h1 : SNQ K ft V k kp x1 x2 r) (h2 : SNQ L gt U k kp x1 x2 t) (e : K = L) (h : ∀ i, i < 72 → gt i = ft i) (hn : k ≤ 24) (hv : ∀ p, p < 12 → (U p ↔ V p)) (hS : SVL ft k) (hkp : kp ≤ 12) : r = t := by
  subst e
  rcases h1 with ⟨a, b⟩ | ⟨p, hp, ep, q⟩
  · rcases h2 with ⟨c, d⟩ | ⟨p2, hp2, ep2, q2⟩
    · exact b.trans d.symm
    · rw [ep2] at a
      exact absurd (Hs.of hp2 (by omega)) a
  · rcases h2 with ⟨c, d⟩ | ⟨p2, hp2, ep2, q2⟩
    · rw [ep] at c
      exact absurd (Hs.of hp (by omega)) c
    · have e2 : p2 = p := (nI_eq (by omega) (by omega)).mp (ep2.symm.trans ep)
      rw [e2] at q2
      exact HRQ.uniq (fun a b => LST.uniq) hS q (HRQ.cg h hn (hv p (by omega)) (fun s => LST.cg h hn) q2)
theorem LKP.none {ft : Nat → Int32} {pp gp : Int32} {k p : Nat} {c : Int32} {fm f g ml mm sl sm : Nat → Int32} (h : LKP ft pp gp k c fm f g ml mm sl sm) (hp : p < 12) (hk : k < 2 ^ 31) (hn : ¬ (c = 0 ∧ ¬ g p < 0)) : NOS (KST ft (VPP pp) gp.toInt k) ∨ ¬ VPP pp p ∨ ∀ s, s < k → ¬ ft (s * 3 + 0) = nI p := by
  by_cases c0 : c = 0
  · by_cases g0 : g p < 0
    · rcases h.2.2.1 p hp with ⟨-, q⟩ | ⟨s, q1, q2, -⟩
      · by_cases v : VPP pp p
        · exact Or.inr (Or.inr fun s hs e => q s hs e v)
        · exact Or.inr (Or.inl v)
      · rw [q2] at g0
        exact absurd g0 (nI_pos (by omega))
    · exact absurd ⟨c0, g0⟩ hn
  · exact Or.inl (h.1.nos c0).2
theorem LKP.some {ft : Nat → Int32} {pp gp : Int32} {k p : Nat} {c : Int32} {fm f g ml mm sl sm : Nat → Int32} (h : LKP ft pp gp k c fm f g ml mm sl sm) (hp : p < 12) (hk : k < 2 ^ 31) (hn : c = 0 ∧ ¬ g p < 0) : CLB (KST ft (VPP pp) gp.toInt k) (MAT fm) ∧ VPP pp p ∧ ∃ s, LST ft k p s ∧ sl p = TR0 ft fm s ∧ sm p = TR1 ft fm s := by
  have hb := h.2.2.2 p hp hn.2
  rcases h.2.2.1 p hp with ⟨q, -⟩ | ⟨s, q1, q2, q3, q4, q5⟩
  · exact absurd q (LAS.nneg hn.2)
  · rw [q2, nI_clamp (by omega)] at hb
    exact ⟨h.1.get hn.1, q4, s, ⟨q1, q3, q5⟩, hb.2.2.1, hb.2.2.2⟩
section WR
variable {p : Program} {l : Launch} {e : Env} {R : Room} {s : State} {m : MethodId} {args : Array Value} {below : List Frame} {meth : Method} {c : Code} {H : Heap} {locs : List Loc} {cells slots : Nat} {Q : State → Prop}
variable {pc : Nat} {ls : Array Slot} {rest : List Value} {G : GG} {ws : va_W} {A : Nat → Prop} {y0 : MethodName} {b0 : ByteArray} {mL0 : Nat} {rt0 : Option FieldType} {a : Nat} {H0 : Heap}
end WR
theorem SNQ.got {K : Nat → Nat → Int → Prop} {ft : Nat → Int32} {V : Nat → Prop} {k p : Nat} {fm : Nat → Int32} {x2 r a b : Int32} (h : CLB K (MAT fm) ∧ V p ∧ ∃ s, LST ft k p s ∧ a = TR0 ft fm s ∧ b = TR1 ft fm s) (hr : (x2 = 0 ∧ r = a + 1000) ∨ (¬ x2 = 0 ∧ r = b + 1000)) : ∃ (f : Nat → Int32) (s : Nat), CLB K (MAT f) ∧ V p ∧ LST ft k p s ∧ s < k ∧ ft (s * 3 + 0) = nI p ∧ ((x2 = 0 ∧ r = TR0 ft f s + 1000) ∨ (¬ x2 = 0 ∧ r = TR1 ft f s + 1000)) := by
  obtain ⟨h1, h2, s, h3, h4, h5⟩ := h
  rw [h4, h5] at hr
  exact ⟨fm, s, h1, h2, h3, h3.1, h3.2.1, hr⟩
section WR
variable {p : Program} {l : Launch} {e : Env} {R : Room} {s : State} {m : MethodId} {args : Array Value} {below : List Frame} {meth : Method} {c : Code} {H : Heap} {locs : List Loc} {cells slots : Nat} {Q : State → Prop}
variable {pc : Nat} {ls : Array Slot} {rest : List Value} {G : GG} {ws : va_W} {A : Nat → Prop} {y0 : MethodName} {b0 : ByteArray} {mL0 : Nat} {rt0 : Option FieldType} {a : Nat} {H0 : Heap}
end WR
/-- which of two papers was sent ahead, as it is answered when both are sent -/
def BFV (f ft : Nat → Int32) (a b : Nat) : Int32 := if MAT f (CKS ft a) (CKS ft b) < HRS ft b - HRS ft a then 2 else if -(MAT f (CKS ft b) (CKS ft a)) < HRS ft b - HRS ft a then 1 else 0
def UNS (ft : Nat → Int32) (V : Nat → Prop) (k p : Nat) : Prop := ¬ V p ∨ ∀ s, s < k → ¬ ft (s * 3 + 0) = nI p
def BFH (K : Nat → Nat → Int → Prop) (ft : Nat → Int32) (V : Nat → Prop) (k p q : Nat) (r : Int32) : Prop := ((NOS K ∨ UNS ft V k p ∨ UNS ft V k q) ∧ r = (-3)) ∨ ∃ (f : Nat → Int32) (a b : Nat), CLB K (MAT f) ∧ V p ∧ V q ∧ LST ft k p a ∧ LST ft k q b ∧ r = BFV f ft a b
theorem BFH.uniq {K : Nat → Nat → Int → Prop} {ft : Nat → Int32} {V : Nat → Prop} {k p q : Nat} {r t : Int32} (hS : SVL ft k) (h1 : BFH K ft V k p q r) (h2 : BFH K ft V k p q t) : r = t := by
  rcases h1 with ⟨n1, e1⟩ | ⟨f, a, b, c1, v1, w1, l1, m1, e1⟩
  · rcases h2 with ⟨n2, e2⟩ | ⟨g, a2, b2, c2, v2, w2, l2, m2, e2⟩
    · exact e1.trans e2.symm
    · rcases n1 with n1 | (n1 | n1) | (n1 | n1)
      · exact absurd n1 c2.nos
      · exact absurd v2 n1
      · exact absurd l2.2.1 (n1 a2 l2.1)
      · exact absurd w2 n1
      · exact absurd m2.2.1 (n1 b2 m2.1)
  · rcases h2 with ⟨n2, e2⟩ | ⟨g, a2, b2, c2, v2, w2, l2, m2, e2⟩
    · rcases n2 with n2 | (n2 | n2) | (n2 | n2)
      · exact absurd n2 c1.nos
      · exact absurd v1 n2
      · exact absurd l1.2.1 (n2 a l1.1)
      · exact absurd w1 n2
      · exact absurd m1.2.1 (n2 b m1.1)
    · have ea := l1.uniq l2
      have eb := m1.uniq m2
      have ha := hS.ck l1.1
      have hb := hS.ck m1.1
      rw [e1, e2, ← ea, ← eb]
      unfold BFV
      rw [c1.1.uniq c2.1 ha hb, c1.1.uniq c2.1 hb ha]
section WR
variable {p : Program} {l : Launch} {e : Env} {R : Room} {s : State} {m : MethodId} {args : Array Value} {below : List Frame} {meth : Method} {c : Code} {H : Heap} {locs : List Loc} {cells slots : Nat} {Q : State → Prop}
variable {pc : Nat} {ls : Array Slot} {rest : List Value} {G : GG} {ws : va_W} {A : Nat → Prop} {y0 : MethodName} {b0 : ByteArray} {mL0 : Nat} {rt0 : Option FieldType} {a : Nat} {H0 : Heap}
end WR
/-- an hour of a paper, with what is late behind it, as it is answered -/
def HRZ (K : Nat → Nat → Int → Prop) (ft : Nat → Int32) (V : Nat → Prop) (k p : Nat) (P : Nat → Prop) (sl x2 r : Int32) : Prop := ((NOS K ∨ ¬ V p ∨ ∀ s, s < k → ¬ ft (s * 3 + 0) = nI p) ∧ r = (-3)) ∨ ∃ (f : Nat → Int32) (s : Nat), CLB K (MAT f) ∧ V p ∧ P s ∧ s < k ∧ ft (s * 3 + 0) = nI p ∧ ((x2 = 0 ∧ r = TR0 ft f s + 1000) ∨ (¬ x2 = 0 ∧ r = TR1 ft f s + sl + 1000))
theorem HRZ.uniq {K : Nat → Nat → Int → Prop} {ft : Nat → Int32} {V : Nat → Prop} {k p : Nat} {P : Nat → Prop} {sl x2 r t : Int32} (hP : ∀ a b, P a → P b → a = b) (hS : SVL ft k) (h1 : HRZ K ft V k p P sl x2 r) (h2 : HRZ K ft V k p P sl x2 t) : r = t := by
  rcases h1 with ⟨n1, e1⟩ | ⟨f, a, b1, v1, p1, s1, q1, c1⟩
  · rcases h2 with ⟨n2, e2⟩ | ⟨g, b, b2, v2, p2, s2, q2, c2⟩
    · exact e1.trans e2.symm
    · rcases n1 with n1 | n1 | n1
      · exact absurd n1 b2.nos
      · exact absurd v2 n1
      · exact absurd q2 (n1 b s2)
  · rcases h2 with ⟨n2, e2⟩ | ⟨g, b, b2, v2, p2, s2, q2, c2⟩
    · rcases n2 with n2 | n2 | n2
      · exact absurd n2 b1.nos
      · exact absurd v1 n2
      · exact absurd q1 (n2 a s1)
    · have e := hP a b p1 p2
      rw [← e] at c2
      have hc := hS.ck s1
      have t0 : TR0 ft f a = TR0 ft g a := by
        unfold TR0
        rw [b1.eq b2 (by decide) hc]
      have t1 : TR1 ft f a = TR1 ft g a := by
        unfold TR1
        rw [b1.eq b2 hc (by decide)]
      rcases c1 with ⟨x, y⟩ | ⟨x, y⟩
      · rcases c2 with ⟨z, w⟩ | ⟨z, w⟩
        · rw [y, w, t0]
        · exact absurd x z
      · rcases c2 with ⟨z, w⟩ | ⟨z, w⟩
        · exact absurd z x
        · rw [y, w, t1]
theorem HRZ.cg {K : Nat → Nat → Int → Prop} {ft gt : Nat → Int32} {V U : Nat → Prop} {k p : Nat} {P Q : Nat → Prop} {sl x2 r : Int32} (h : ∀ i, i < 72 → gt i = ft i) (hn : k ≤ 24) (hv : U p ↔ V p) (hPQ : ∀ s, P s → Q s) (h1 : HRZ K gt U k p P sl x2 r) : HRZ K ft V k p Q sl x2 r := by
  rcases h1 with ⟨n1, e1⟩ | ⟨f, a, b1, v1, p1, s1, q1, c1⟩
  · refine Or.inl ⟨?_, e1⟩
    rcases n1 with n1 | n1 | n1
    · exact Or.inl n1
    · exact Or.inr (Or.inl fun h9 => n1 (hv.mpr h9))
    · exact Or.inr (Or.inr fun s hs e => n1 s hs ((h (s * 3 + 0) (by omega)).trans e))
  · have t0 : TR0 gt f a = TR0 ft f a := by
      unfold TR0 CKS
      rw [h (a * 3 + 2) (by omega), h (a * 3 + 1) (by omega)]
    have t1 : TR1 gt f a = TR1 ft f a := by
      unfold TR1 CKS
      rw [h (a * 3 + 2) (by omega), h (a * 3 + 1) (by omega)]
    rw [t0, t1] at c1
    exact Or.inr ⟨f, a, b1, hv.mp v1, hPQ a p1, s1, (h (a * 3 + 0) (by omega)).symm.trans q1, c1⟩
/-- a paper in a hand, by who made it and to whom it is, as it is answered -/
def HAQ (K : Nat → Nat → Int → Prop) (ft : Nat → Int32) (V : Nat → Prop) (by9 to9 sl : Int32) (k p e : Nat) (x2 r : Int32) : Prop := (by9 = nI e ∧ HRZ K ft V k p (FST ft k p) 0 x2 r) ∨ (¬ by9 = nI e ∧ HB to9 (nI e) ∧ HRZ K ft V k p (LST ft k p) sl x2 r) ∨ (¬ by9 = nI e ∧ ¬ HB to9 (nI e) ∧ r = (-3))
theorem HAQ.uniq {K : Nat → Nat → Int → Prop} {ft : Nat → Int32} {V : Nat → Prop} {by9 to9 sl : Int32} {k p e : Nat} {x2 r t : Int32} (hS : SVL ft k) (h1 : HAQ K ft V by9 to9 sl k p e x2 r) (h2 : HAQ K ft V by9 to9 sl k p e x2 t) : r = t := by
  rcases h1 with ⟨a, b⟩ | ⟨a, b, c⟩ | ⟨a, b, c⟩
  · rcases h2 with ⟨a2, b2⟩ | ⟨a2, b2, c2⟩ | ⟨a2, b2, c2⟩
    · exact HRZ.uniq (fun a b => FST.uniq) hS b b2
    · exact absurd a a2
    · exact absurd a a2
  · rcases h2 with ⟨a2, b2⟩ | ⟨a2, b2, c2⟩ | ⟨a2, b2, c2⟩
    · exact absurd a2 a
    · exact HRZ.uniq (fun a b => LST.uniq) hS c c2
    · exact absurd b b2
  · rcases h2 with ⟨a2, b2⟩ | ⟨a2, b2, c2⟩ | ⟨a2, b2, c2⟩
    · exact absurd a2 a
    · exact absurd b2 b
    · exact c.trans c2.symm
theorem HAQ.cg {K : Nat → Nat → Int → Prop} {ft gt : Nat → Int32} {V U : Nat → Prop} {by9 to9 sl : Int32} {k p e : Nat} {x2 r : Int32} (h : ∀ i, i < 72 → gt i = ft i) (hn : k ≤ 24) (hv : U p ↔ V p) (h1 : HAQ K gt U by9 to9 sl k p e x2 r) : HAQ K ft V by9 to9 sl k p e x2 r := by
  rcases h1 with ⟨a, b⟩ | ⟨a, b, c⟩ | h1
  · exact Or.inl ⟨a, HRZ.cg h hn hv (fun s => FST.cg h hn) b⟩
  · exact Or.inr (Or.inl ⟨a, b, HRZ.cg h hn hv (fun s => LST.cg h hn) c⟩)
  · exact Or.inr (Or.inr h1)
def HNQ (K : Nat → Nat → Int → Prop) (ft : Nat → Int32) (V : Nat → Prop) (fp fe : Nat → Int32) (k kp ke : Nat) (x1 x2 x3 r : Int32) : Prop := (¬ (Hs x1 kp ∧ Hs x2 ke) ∧ r = (-1)) ∨ ∃ p e, p < kp ∧ e < ke ∧ x1 = nI p ∧ x2 = nI e ∧ HAQ K ft V (fp (p * 6 + 0)) (fp (p * 6 + 1)) (fe (e * 2 + 1)) k p e x3 r
theorem HNQ.uq {K L : Nat → Nat → Int → Prop} {ft gt fp gp fe ge : Nat → Int32} {V U : Nat → Prop} {k kp ke : Nat} {x1 x2 x3 r t : Int32} (h1 : HNQ K ft V fp fe k kp ke x1 x2 x3 r) (h2 : HNQ L gt U gp ge k kp ke x1 x2 x3 t) (e : K = L) (h : ∀ i, i < 72 → gt i = ft i) (hn : k ≤ 24) (hv : ∀ p, p < 12 → (U p ↔ V p)) (hS : SVL ft k) (hkp : kp ≤ 12) (hke : ke ≤ 10) (hp : ∀ i, i < 72 → gp i = fp i) (he : ∀ i, i < 20 → ge i = fe i) : r = t := by
  subst e
  rcases h1 with ⟨a, b⟩ | ⟨p, q, hp1, hq1, ep, eq1, z⟩
  · rcases h2 with ⟨c, d⟩ | ⟨p2, q2, hp2, hq2, ep2, eq2, z2⟩
    · exact b.trans d.symm
    · exact absurd (And.intro (by rw [ep2]; exact Hs.of hp2 (by omega)) (by rw [eq2]; exact Hs.of hq2 (by omega))) a
  · rcases h2 with ⟨c, d⟩ | ⟨p2, q2, hp2, hq2, ep2, eq2, z2⟩
    · exact absurd (And.intro (by rw [ep]; exact Hs.of hp1 (by omega)) (by rw [eq1]; exact Hs.of hq1 (by omega))) c
    · have e1 : p2 = p := (nI_eq (by omega) (by omega)).mp (ep2.symm.trans ep)
      have e2 : q2 = q := (nI_eq (by omega) (by omega)).mp (eq2.symm.trans eq1)
      rw [e1, e2, hp (p * 6 + 0) (by omega), hp (p * 6 + 1) (by omega), he (q * 2 + 1) (by omega)] at z2
      exact HAQ.uniq hS z (HAQ.cg h hn (hv p (by omega)) z2)
theorem LKP.fst {ft : Nat → Int32} {pp gp : Int32} {k p : Nat} {c : Int32} {fm f g ml mm sl sm : Nat → Int32} (h : LKP ft pp gp k c fm f g ml mm sl sm) (hp : p < 12) (hk : k < 2 ^ 31) (hn : c = 0 ∧ ¬ g p < 0) : CLB (KST ft (VPP pp) gp.toInt k) (MAT fm) ∧ VPP pp p ∧ ∃ s, FST ft k p s ∧ ml p = TR0 ft fm s ∧ mm p = TR1 ft fm s := by
  have hb := h.2.2.2 p hp hn.2
  obtain ⟨h1, v, s0, hs0, -⟩ := h.some hp hk hn
  rcases h.2.1 p hp with ⟨-, q2⟩ | ⟨s, q1, q2, q3, q4, q5⟩
  · exact absurd v (q2 s0 hs0.1 hs0.2.1)
  · rw [q2, nI_clamp (by omega)] at hb
    exact ⟨h1, v, s, ⟨q1, q3, q5⟩, hb.1, hb.2.1⟩
theorem LKP.lastn {ft : Nat → Int32} {pp gp : Int32} {k p : Nat} {c : Int32} {fm f g ml mm sl sm : Nat → Int32} (h : LKP ft pp gp k c fm f g ml mm sl sm) (hp : p < 12) (hn : c = 0 ∧ ¬ g p < 0) : CLB (KST ft (VPP pp) gp.toInt k) (MAT fm) ∧ VPP pp p ∧ ∃ s, LST ft k p s ∧ g p = nI s := by
  rcases h.2.2.1 p hp with ⟨q, -⟩ | ⟨s, q1, q2, q3, q4, q5⟩
  · exact absurd q (LAS.nneg hn.2)
  · exact ⟨h.1.get hn.1, q4, s, ⟨q1, q3, q5⟩, q2⟩
theorem HAQ.nn {K : Nat → Nat → Int → Prop} {ft : Nat → Int32} {V : Nat → Prop} {by9 to9 sl : Int32} {k p e : Nat} {x2 : Int32} (h : NOS K ∨ ¬ V p ∨ ∀ s, s < k → ¬ ft (s * 3 + 0) = nI p) : HAQ K ft V by9 to9 sl k p e x2 (-3) := by
  by_cases a : by9 = nI e
  · exact Or.inl ⟨a, Or.inl ⟨h, rfl⟩⟩
  · by_cases b : HB to9 (nI e)
    · exact Or.inr (Or.inl ⟨a, b, Or.inl ⟨h, rfl⟩⟩)
    · exact Or.inr (Or.inr ⟨a, b, rfl⟩)
theorem HAQ.no {ft : Nat → Int32} {pp gp : Int32} {k p e : Nat} {c : Int32} {fm f g ml mm sl sm : Nat → Int32} {by9 to9 z x2 : Int32} (h : LKP ft pp gp k c fm f g ml mm sl sm) (hp : p < 12) (hk : k < 2 ^ 31) (hn : ¬ ((c = 0 ∧ ¬ g p < 0) ∧ (by9 = nI e ∨ HB to9 (nI e)))) : HAQ (KST ft (VPP pp) gp.toInt k) ft (VPP pp) by9 to9 z k p e x2 (-3) := by
  by_cases a : by9 = nI e
  · exact Or.inl ⟨a, Or.inl ⟨h.none hp hk (fun h9 => hn ⟨h9, Or.inl a⟩), rfl⟩⟩
  · by_cases b : HB to9 (nI e)
    · exact Or.inr (Or.inl ⟨a, b, Or.inl ⟨h.none hp hk (fun h9 => hn ⟨h9, Or.inr b⟩), rfl⟩⟩)
    · exact Or.inr (Or.inr ⟨a, b, rfl⟩)
theorem HAQ.made {ft : Nat → Int32} {pp gp : Int32} {k p e : Nat} {c : Int32} {fm f g ml mm sl sm : Nat → Int32} {by9 to9 z x2 r : Int32} (h : LKP ft pp gp k c fm f g ml mm sl sm) (hp : p < 12) (hk : k < 2 ^ 31) (hn : c = 0 ∧ ¬ g p < 0) (a : by9 = nI e) (hr : (x2 = 0 ∧ r = ml p + 1000) ∨ (¬ x2 = 0 ∧ r = mm p + 1000)) : HAQ (KST ft (VPP pp) gp.toInt k) ft (VPP pp) by9 to9 z k p e x2 r := by
  obtain ⟨h1, h2, s, h3, h4, h5⟩ := h.fst hp hk hn
  rw [h4, h5] at hr
  refine Or.inl ⟨a, Or.inr ⟨fm, s, h1, h2, h3, h3.1, h3.2.1, ?_⟩⟩
  rcases hr with hr | ⟨hx, hr⟩
  · exact Or.inl hr
  · exact Or.inr ⟨hx, by rw [Int32.add_zero]; exact hr⟩
theorem HAQ.sent {ft : Nat → Int32} {pp gp : Int32} {k p e : Nat} {c : Int32} {fm f g ml mm sl sm : Nat → Int32} {by9 to9 z x2 r : Int32} (h : LKP ft pp gp k c fm f g ml mm sl sm) (hp : p < 12) (hk : k < 2 ^ 31) (hn : c = 0 ∧ ¬ g p < 0) (a : ¬ by9 = nI e) (b : HB to9 (nI e)) (hr : (x2 = 0 ∧ r = sl p + 1000) ∨ (¬ x2 = 0 ∧ r = sm p + z + 1000)) : HAQ (KST ft (VPP pp) gp.toInt k) ft (VPP pp) by9 to9 z k p e x2 r := by
  obtain ⟨h1, h2, s, h3, h4, h5⟩ := h.some hp hk hn
  rw [h4, h5] at hr
  exact Or.inr (Or.inl ⟨a, b, Or.inr ⟨fm, s, h1, h2, h3, h3.1, h3.2.1, hr⟩⟩)
theorem SVL.cke {ft : Nat → Int32} {n s : Nat} (h : SVL ft n) (hs : s < n) : ft (s * 3 + 1) = nI (CKS ft s) := by
  obtain ⟨-, ⟨c, hc, e⟩, -⟩ := h s hs
  unfold CKS
  rw [e, nI_clamp (by omega)]
theorem SVL.hrs {ft : Nat → Int32} {n s : Nat} (h : SVL ft n) (hs : s < n) : 0 ≤ HRS ft s ∧ HRS ft s ≤ 999 := by
  obtain ⟨-, -, h1, h2⟩ := h s hs
  exact ⟨h1, h2⟩
theorem ti_ng {x : Int32} (h1 : -1000000 ≤ x.toInt) (h2 : x.toInt ≤ 1000000) : (-x).toInt = -x.toInt := by
  rw [Int32.toInt_neg, bm32 (by omega) (by omega)]
/-- what is read between two stamps -/
theorem rdb {ft : Nat → Int32} {n a b : Nat} (h : SVL ft n) (ha : a < n) (hb : b < n) : (ft (b * 3 + 2) - ft (a * 3 + 2)).toInt = HRS ft b - HRS ft a := by
  have h1 := h.hrs ha
  have h2 := h.hrs hb
  have e1 : (ft (a * 3 + 2)).toInt = HRS ft a := rfl
  have e2 : (ft (b * 3 + 2)).toInt = HRS ft b := rfl
  rw [ti_sb (by omega) (by omega) (by omega) (by omega), e1, e2]
theorem BFV.least {K : Nat → Nat → Int → Prop} {f ft : Nat → Int32} {n a b : Nat} (hc : CLB K (MAT f)) (h : SVL ft n) (ha : a < n) (hb : b < n) : (ft (b * 3 + 2) - ft (a * 3 + 2) - f (CKS ft a * 6 + CKS ft b)) ≤ 0 ↔ ¬ MAT f (CKS ft a) (CKS ft b) < HRS ft b - HRS ft a := by
  have h1 := h.hrs ha
  have h2 := h.hrs hb
  have h3 := hc.lim _ _ (h.ck ha) (h.ck hb)
  have e3 : (f (CKS ft a * 6 + CKS ft b)).toInt = MAT f (CKS ft a) (CKS ft b) := rfl
  have e4 := rdb h ha hb
  have e0 : (0 : Int32).toInt = 0 := by decide
  rw [Int32.le_iff_toInt_le, ti_sb (by omega) (by omega) (by omega) (by omega), e4, e3, e0]
  omega
theorem BFV.most {K : Nat → Nat → Int → Prop} {f ft : Nat → Int32} {n a b : Nat} (hc : CLB K (MAT f)) (h : SVL ft n) (ha : a < n) (hb : b < n) : (ft (b * 3 + 2) - ft (a * 3 + 2) + f (CKS ft b * 6 + CKS ft a)) ≤ 0 ↔ ¬ -(MAT f (CKS ft b) (CKS ft a)) < HRS ft b - HRS ft a := by
  have h1 := h.hrs ha
  have h2 := h.hrs hb
  have h3 := hc.lim _ _ (h.ck hb) (h.ck ha)
  have e3 : (f (CKS ft b * 6 + CKS ft a)).toInt = MAT f (CKS ft b) (CKS ft a) := rfl
  have e4 := rdb h ha hb
  have e0 : (0 : Int32).toInt = 0 := by decide
  rw [Int32.le_iff_toInt_le, ti_ad (by omega) (by omega) (by omega) (by omega), e4, e3, e0]
  omega
theorem BFV.two {f ft : Nat → Int32} {a b : Nat} (h : MAT f (CKS ft a) (CKS ft b) < HRS ft b - HRS ft a) : (2 : Int32) = BFV f ft a b := by
  unfold BFV
  rw [if_pos h]
theorem BFV.one {f ft : Nat → Int32} {a b : Nat} (h : ¬ MAT f (CKS ft a) (CKS ft b) < HRS ft b - HRS ft a) (h2 : -(MAT f (CKS ft b) (CKS ft a)) < HRS ft b - HRS ft a) : (1 : Int32) = BFV f ft a b := by
  unfold BFV
  rw [if_neg h, if_pos h2]
theorem BFV.nil {f ft : Nat → Int32} {a b : Nat} (h : ¬ MAT f (CKS ft a) (CKS ft b) < HRS ft b - HRS ft a) (h2 : ¬ -(MAT f (CKS ft b) (CKS ft a)) < HRS ft b - HRS ft a) : (0 : Int32) = BFV f ft a b := by
  unfold BFV
  rw [if_neg h, if_neg h2]
theorem BFH.cg {K : Nat → Nat → Int → Prop} {ft gt : Nat → Int32} {V U : Nat → Prop} {k p q : Nat} {r : Int32} (h : ∀ i, i < 72 → gt i = ft i) (hn : k ≤ 24) (hv : U p ↔ V p) (hw : U q ↔ V q) (h1 : BFH K gt U k p q r) : BFH K ft V k p q r := by
  have un : ∀ x, (U x ↔ V x) → UNS gt U k x → UNS ft V k x := fun x hx hu => by
    rcases hu with hu | hu
    · exact Or.inl fun h9 => hu (hx.mpr h9)
    · exact Or.inr fun s hs e => hu s hs ((h (s * 3 + 0) (by omega)).trans e)
  rcases h1 with ⟨n1, e1⟩ | ⟨f, a, b, c1, v1, w1, l1, m1, e1⟩
  · refine Or.inl ⟨?_, e1⟩
    rcases n1 with n1 | n1 | n1
    · exact Or.inl n1
    · exact Or.inr (Or.inl (un p hv n1))
    · exact Or.inr (Or.inr (un q hw n1))
  · have ha := l1.1
    have hb := m1.1
    have e2 : BFV f gt a b = BFV f ft a b := by
      unfold BFV CKS HRS
      rw [h (a * 3 + 1) (by omega), h (b * 3 + 1) (by omega), h (a * 3 + 2) (by omega), h (b * 3 + 2) (by omega)]
    exact Or.inr ⟨f, a, b, c1, hv.mp v1, hw.mp w1, LST.cg h hn l1, LST.cg h hn m1, e1.trans e2⟩
def BFQ (K : Nat → Nat → Int → Prop) (ft : Nat → Int32) (V : Nat → Prop) (k kp : Nat) (x1 x2 r : Int32) : Prop := (¬ (Hs x1 kp ∧ Hs x2 kp ∧ ¬ x1 = x2) ∧ r = (-1)) ∨ ∃ p q, p < kp ∧ q < kp ∧ x1 = nI p ∧ x2 = nI q ∧ ¬ p = q ∧ BFH K ft V k p q r
theorem BFQ.uq {K L : Nat → Nat → Int → Prop} {ft gt : Nat → Int32} {V U : Nat → Prop} {k kp : Nat} {x1 x2 r t : Int32} (h1 : BFQ K ft V k kp x1 x2 r) (h2 : BFQ L gt U k kp x1 x2 t) (e : K = L) (h : ∀ i, i < 72 → gt i = ft i) (hn : k ≤ 24) (hv : ∀ p, p < 12 → (U p ↔ V p)) (hS : SVL ft k) (hkp : kp ≤ 12) : r = t := by
  subst e
  have ok : ∀ p q : Nat, p < kp → q < kp → x1 = nI p → x2 = nI q → ¬ p = q → Hs x1 kp ∧ Hs x2 kp ∧ ¬ x1 = x2 := fun p q h1 h2 e1 e2 h3 => by
    rw [e1, e2]
    exact ⟨Hs.of h1 (by omega), Hs.of h2 (by omega), fun e => h3 ((nI_eq (by omega) (by omega)).mp e)⟩
  rcases h1 with ⟨a, b⟩ | ⟨p, q, hp1, hq1, ep, eq1, n1, z⟩
  · rcases h2 with ⟨c, d⟩ | ⟨p2, q2, hp2, hq2, ep2, eq2, n2, z2⟩
    · exact b.trans d.symm
    · exact absurd (ok p2 q2 hp2 hq2 ep2 eq2 n2) a
  · rcases h2 with ⟨c, d⟩ | ⟨p2, q2, hp2, hq2, ep2, eq2, n2, z2⟩
    · exact absurd (ok p q hp1 hq1 ep eq1 n1) c
    · have e1 : p2 = p := (nI_eq (by omega) (by omega)).mp (ep2.symm.trans ep)
      have e2 : q2 = q := (nI_eq (by omega) (by omega)).mp (eq2.symm.trans eq1)
      rw [e1, e2] at z2
      exact BFH.uniq hS z (BFH.cg h hn (hv p (by omega)) (hv q (by omega)) z2)
theorem LKP.uns {ft : Nat → Int32} {pp gp : Int32} {k p : Nat} {c : Int32} {fm f g ml mm sl sm : Nat → Int32} (h : LKP ft pp gp k c fm f g ml mm sl sm) (hp : p < 12) (hk : k < 2 ^ 31) (hn : ¬ (c = 0 ∧ ¬ g p < 0)) : NOS (KST ft (VPP pp) gp.toInt k) ∨ UNS ft (VPP pp) k p := by
  rcases h.none hp hk hn with h1 | h1 | h1
  · exact Or.inl h1
  · exact Or.inr (Or.inl h1)
  · exact Or.inr (Or.inr h1)
section WR
variable {p : Program} {l : Launch} {e : Env} {R : Room} {s : State} {m : MethodId} {args : Array Value} {below : List Frame} {meth : Method} {c : Code} {H : Heap} {locs : List Loc} {cells slots : Nat} {Q : State → Prop}
variable {pc : Nat} {ls : Array Slot} {rest : List Value} {G : GG} {ws : va_W} {A : Nat → Prop} {y0 : MethodName} {b0 : ByteArray} {mL0 : Nat} {rt0 : Option FieldType} {a : Nat} {H0 : Heap}
end WR
theorem rm_7_1_3 {mc ms : Nat} : 1 + 1 ≤ (RM 7 mc ms).frames ∧ 8 + (3 + 11) + 40 * 1 ≤ (RM 7 mc ms).locals := ⟨by show 1 + 1 ≤ 7; decide, by show 8 + (3 + 11) + 40 * 1 ≤ 40 * 7; decide⟩
theorem rm_7_3_6 {mc ms : Nat} : 3 + 1 ≤ (RM 7 mc ms).frames ∧ 8 + (6 + 11) + 40 * 3 ≤ (RM 7 mc ms).locals := ⟨by show 3 + 1 ≤ 7; decide, by show 8 + (6 + 11) + 40 * 3 ≤ 40 * 7; decide⟩
theorem sm_1_11_12 {a0 a1 a2 a3 a4 a5 a6 a7 a8 a9 a10 a11 a12 : Nat × va_E} {l : va_W} : ([1, 11, 12] : List Nat).map (fun i => (a0 :: a1 :: a2 :: a3 :: a4 :: a5 :: a6 :: a7 :: a8 :: a9 :: a10 :: a11 :: a12 :: l : va_W)[i]?) = ([a1, a11, a12] : va_W).map some := rfl
theorem fm_1_11_12 {a0 a1 a2 a3 a4 a5 a6 a7 a8 a9 a10 a11 a12 : Nat × va_E} {l : va_W} : ([1, 11, 12] : List Nat).filterMap (fun i => (a0 :: a1 :: a2 :: a3 :: a4 :: a5 :: a6 :: a7 :: a8 :: a9 :: a10 :: a11 :: a12 :: l : va_W)[i]?) = ([a1, a11, a12] : va_W) := rfl
theorem nd_1_11_12 : va_nd [1, 11, 12] = true := by decide
theorem rm_7_5_4 {mc ms : Nat} : 5 + 1 ≤ (RM 7 mc ms).frames ∧ 8 + (4 + 11) + 40 * 5 ≤ (RM 7 mc ms).locals := ⟨by show 5 + 1 ≤ 7; decide, by show 8 + (4 + 11) + 40 * 5 ≤ 40 * 7; decide⟩
theorem sm_2_3_4_5_6_7_8_9_10_1_13_14 {a0 a1 a2 a3 a4 a5 a6 a7 a8 a9 a10 a11 a12 a13 a14 : Nat × va_E} {l : va_W} : ([2, 3, 4, 5, 6, 7, 8, 9, 10, 1, 13, 14] : List Nat).map (fun i => (a0 :: a1 :: a2 :: a3 :: a4 :: a5 :: a6 :: a7 :: a8 :: a9 :: a10 :: a11 :: a12 :: a13 :: a14 :: l : va_W)[i]?) = ([a2, a3, a4, a5, a6, a7, a8, a9, a10, a1, a13, a14] : va_W).map some := rfl
theorem fm_2_3_4_5_6_7_8_9_10_1_13_14 {a0 a1 a2 a3 a4 a5 a6 a7 a8 a9 a10 a11 a12 a13 a14 : Nat × va_E} {l : va_W} : ([2, 3, 4, 5, 6, 7, 8, 9, 10, 1, 13, 14] : List Nat).filterMap (fun i => (a0 :: a1 :: a2 :: a3 :: a4 :: a5 :: a6 :: a7 :: a8 :: a9 :: a10 :: a11 :: a12 :: a13 :: a14 :: l : va_W)[i]?) = ([a2, a3, a4, a5, a6, a7, a8, a9, a10, a1, a13, a14] : va_W) := rfl
theorem nd_2_3_4_5_6_7_8_9_10_1_13_14 : va_nd [2, 3, 4, 5, 6, 7, 8, 9, 10, 1, 13, 14] = true := by decide
theorem sm_0_11_12 {a0 a1 a2 a3 a4 a5 a6 a7 a8 a9 a10 a11 a12 : Nat × va_E} {l : va_W} : ([0, 11, 12] : List Nat).map (fun i => (a0 :: a1 :: a2 :: a3 :: a4 :: a5 :: a6 :: a7 :: a8 :: a9 :: a10 :: a11 :: a12 :: l : va_W)[i]?) = ([a0, a11, a12] : va_W).map some := rfl
theorem nd_0_11_12 : va_nd [0, 11, 12] = true := by decide
theorem dj_2_3_4_5_6_7_8_9_10_1_13_14__0_11_12 : ∀ i ∈ ([0, 11, 12] : List Nat), i ∉ ([2, 3, 4, 5, 6, 7, 8, 9, 10, 1, 13, 14] : List Nat) := by decide
theorem rm_7_1_1 {mc ms : Nat} : 1 + 1 ≤ (RM 7 mc ms).frames ∧ 8 + (1 + 11) + 40 * 1 ≤ (RM 7 mc ms).locals := ⟨by show 1 + 1 ≤ 7; decide, by show 8 + (1 + 11) + 40 * 1 ≤ 40 * 7; decide⟩
theorem sm_3 {a0 a1 a2 a3 : Nat × va_E} {l : va_W} : ([3] : List Nat).map (fun i => (a0 :: a1 :: a2 :: a3 :: l : va_W)[i]?) = ([a3] : va_W).map some := rfl
theorem fm_3 {a0 a1 a2 a3 : Nat × va_E} {l : va_W} : ([3] : List Nat).filterMap (fun i => (a0 :: a1 :: a2 :: a3 :: l : va_W)[i]?) = ([a3] : va_W) := rfl
theorem nd_3 : va_nd [3] = true := by decide
theorem rm_7_2_3 {mc ms : Nat} : 2 + 1 ≤ (RM 7 mc ms).frames ∧ 8 + (3 + 11) + 40 * 2 ≤ (RM 7 mc ms).locals := ⟨by show 2 + 1 ≤ 7; decide, by show 8 + (3 + 11) + 40 * 2 ≤ 40 * 7; decide⟩
theorem sm_3_4_5 {a0 a1 a2 a3 a4 a5 : Nat × va_E} {l : va_W} : ([3, 4, 5] : List Nat).map (fun i => (a0 :: a1 :: a2 :: a3 :: a4 :: a5 :: l : va_W)[i]?) = ([a3, a4, a5] : va_W).map some := rfl
theorem fm_3_4_5 {a0 a1 a2 a3 a4 a5 : Nat × va_E} {l : va_W} : ([3, 4, 5] : List Nat).filterMap (fun i => (a0 :: a1 :: a2 :: a3 :: a4 :: a5 :: l : va_W)[i]?) = ([a3, a4, a5] : va_W) := rfl
theorem nd_3_4_5 : va_nd [3, 4, 5] = true := by decide
theorem rm_7_1_2 {mc ms : Nat} : 1 + 1 ≤ (RM 7 mc ms).frames ∧ 8 + (2 + 11) + 40 * 1 ≤ (RM 7 mc ms).locals := ⟨by show 1 + 1 ≤ 7; decide, by show 8 + (2 + 11) + 40 * 1 ≤ 40 * 7; decide⟩
theorem sm_11 {a0 a1 a2 a3 a4 a5 a6 a7 a8 a9 a10 a11 : Nat × va_E} {l : va_W} : ([11] : List Nat).map (fun i => (a0 :: a1 :: a2 :: a3 :: a4 :: a5 :: a6 :: a7 :: a8 :: a9 :: a10 :: a11 :: l : va_W)[i]?) = ([a11] : va_W).map some := rfl
theorem fm_11 {a0 a1 a2 a3 a4 a5 a6 a7 a8 a9 a10 a11 : Nat × va_E} {l : va_W} : ([11] : List Nat).filterMap (fun i => (a0 :: a1 :: a2 :: a3 :: a4 :: a5 :: a6 :: a7 :: a8 :: a9 :: a10 :: a11 :: l : va_W)[i]?) = ([a11] : va_W) := rfl
theorem nd_11 : va_nd [11] = true := by decide
theorem sm_3_7 {a0 a1 a2 a3 a4 a5 a6 a7 : Nat × va_E} {l : va_W} : ([3, 7] : List Nat).map (fun i => (a0 :: a1 :: a2 :: a3 :: a4 :: a5 :: a6 :: a7 :: l : va_W)[i]?) = ([a3, a7] : va_W).map some := rfl
theorem fm_3_7 {a0 a1 a2 a3 a4 a5 a6 a7 : Nat × va_E} {l : va_W} : ([3, 7] : List Nat).filterMap (fun i => (a0 :: a1 :: a2 :: a3 :: a4 :: a5 :: a6 :: a7 :: l : va_W)[i]?) = ([a3, a7] : va_W) := rfl
theorem nd_3_7 : va_nd [3, 7] = true := by decide
theorem sm_3_7_10_11 {a0 a1 a2 a3 a4 a5 a6 a7 a8 a9 a10 a11 : Nat × va_E} {l : va_W} : ([3, 7, 10, 11] : List Nat).map (fun i => (a0 :: a1 :: a2 :: a3 :: a4 :: a5 :: a6 :: a7 :: a8 :: a9 :: a10 :: a11 :: l : va_W)[i]?) = ([a3, a7, a10, a11] : va_W).map some := rfl
theorem fm_3_7_10_11 {a0 a1 a2 a3 a4 a5 a6 a7 a8 a9 a10 a11 : Nat × va_E} {l : va_W} : ([3, 7, 10, 11] : List Nat).filterMap (fun i => (a0 :: a1 :: a2 :: a3 :: a4 :: a5 :: a6 :: a7 :: a8 :: a9 :: a10 :: a11 :: l : va_W)[i]?) = ([a3, a7, a10, a11] : va_W) := rfl
theorem nd_3_7_10_11 : va_nd [3, 7, 10, 11] = true := by decide
theorem sm_15 {a0 a1 a2 a3 a4 a5 a6 a7 a8 a9 a10 a11 a12 a13 a14 a15 : Nat × va_E} {l : va_W} : ([15] : List Nat).map (fun i => (a0 :: a1 :: a2 :: a3 :: a4 :: a5 :: a6 :: a7 :: a8 :: a9 :: a10 :: a11 :: a12 :: a13 :: a14 :: a15 :: l : va_W)[i]?) = ([a15] : va_W).map some := rfl
theorem fm_15 {a0 a1 a2 a3 a4 a5 a6 a7 a8 a9 a10 a11 a12 a13 a14 a15 : Nat × va_E} {l : va_W} : ([15] : List Nat).filterMap (fun i => (a0 :: a1 :: a2 :: a3 :: a4 :: a5 :: a6 :: a7 :: a8 :: a9 :: a10 :: a11 :: a12 :: a13 :: a14 :: a15 :: l : va_W)[i]?) = ([a15] : va_W) := rfl
theorem nd_15 : va_nd [15] = true := by decide
theorem sm_0_11_12_15_16 {a0 a1 a2 a3 a4 a5 a6 a7 a8 a9 a10 a11 a12 a13 a14 a15 a16 : Nat × va_E} {l : va_W} : ([0, 11, 12, 15, 16] : List Nat).map (fun i => (a0 :: a1 :: a2 :: a3 :: a4 :: a5 :: a6 :: a7 :: a8 :: a9 :: a10 :: a11 :: a12 :: a13 :: a14 :: a15 :: a16 :: l : va_W)[i]?) = ([a0, a11, a12, a15, a16] : va_W).map some := rfl
theorem nd_0_11_12_15_16 : va_nd [0, 11, 12, 15, 16] = true := by decide
theorem dj_2_3_4_5_6_7_8_9_10_1_13_14__0_11_12_15_16 : ∀ i ∈ ([0, 11, 12, 15, 16] : List Nat), i ∉ ([2, 3, 4, 5, 6, 7, 8, 9, 10, 1, 13, 14] : List Nat) := by decide
theorem rm_7_3_3 {mc ms : Nat} : 3 + 1 ≤ (RM 7 mc ms).frames ∧ 8 + (3 + 11) + 40 * 3 ≤ (RM 7 mc ms).locals := ⟨by show 3 + 1 ≤ 7; decide, by show 8 + (3 + 11) + 40 * 3 ≤ 40 * 7; decide⟩
theorem sm_5_9_14_1_2 {a0 a1 a2 a3 a4 a5 a6 a7 a8 a9 a10 a11 a12 a13 a14 : Nat × va_E} {l : va_W} : ([5, 9, 14, 1, 2] : List Nat).map (fun i => (a0 :: a1 :: a2 :: a3 :: a4 :: a5 :: a6 :: a7 :: a8 :: a9 :: a10 :: a11 :: a12 :: a13 :: a14 :: l : va_W)[i]?) = ([a5, a9, a14, a1, a2] : va_W).map some := rfl
theorem fm_5_9_14_1_2 {a0 a1 a2 a3 a4 a5 a6 a7 a8 a9 a10 a11 a12 a13 a14 : Nat × va_E} {l : va_W} : ([5, 9, 14, 1, 2] : List Nat).filterMap (fun i => (a0 :: a1 :: a2 :: a3 :: a4 :: a5 :: a6 :: a7 :: a8 :: a9 :: a10 :: a11 :: a12 :: a13 :: a14 :: l : va_W)[i]?) = ([a5, a9, a14, a1, a2] : va_W) := rfl
theorem nd_5_9_14_1_2 : va_nd [5, 9, 14, 1, 2] = true := by decide
theorem rm_7_3_4 {mc ms : Nat} : 3 + 1 ≤ (RM 7 mc ms).frames ∧ 8 + (4 + 11) + 40 * 3 ≤ (RM 7 mc ms).locals := ⟨by show 3 + 1 ≤ 7; decide, by show 8 + (4 + 11) + 40 * 3 ≤ 40 * 7; decide⟩
theorem sm_5_9_10_11_12_13_14_1_2_3_4 {a0 a1 a2 a3 a4 a5 a6 a7 a8 a9 a10 a11 a12 a13 a14 : Nat × va_E} {l : va_W} : ([5, 9, 10, 11, 12, 13, 14, 1, 2, 3, 4] : List Nat).map (fun i => (a0 :: a1 :: a2 :: a3 :: a4 :: a5 :: a6 :: a7 :: a8 :: a9 :: a10 :: a11 :: a12 :: a13 :: a14 :: l : va_W)[i]?) = ([a5, a9, a10, a11, a12, a13, a14, a1, a2, a3, a4] : va_W).map some := rfl
theorem fm_5_9_10_11_12_13_14_1_2_3_4 {a0 a1 a2 a3 a4 a5 a6 a7 a8 a9 a10 a11 a12 a13 a14 : Nat × va_E} {l : va_W} : ([5, 9, 10, 11, 12, 13, 14, 1, 2, 3, 4] : List Nat).filterMap (fun i => (a0 :: a1 :: a2 :: a3 :: a4 :: a5 :: a6 :: a7 :: a8 :: a9 :: a10 :: a11 :: a12 :: a13 :: a14 :: l : va_W)[i]?) = ([a5, a9, a10, a11, a12, a13, a14, a1, a2, a3, a4] : va_W) := rfl
theorem nd_5_9_10_11_12_13_14_1_2_3_4 : va_nd [5, 9, 10, 11, 12, 13, 14, 1, 2, 3, 4] = true := by decide
theorem rm_7_4_3 {mc ms : Nat} : 4 + 1 ≤ (RM 7 mc ms).frames ∧ 8 + (3 + 11) + 40 * 4 ≤ (RM 7 mc ms).locals := ⟨by show 4 + 1 ≤ 7; decide, by show 8 + (3 + 11) + 40 * 4 ≤ 40 * 7; decide⟩
theorem sm_3_7_4_5_12_13_14 {a0 a1 a2 a3 a4 a5 a6 a7 a8 a9 a10 a11 a12 a13 a14 : Nat × va_E} {l : va_W} : ([3, 7, 4, 5, 12, 13, 14] : List Nat).map (fun i => (a0 :: a1 :: a2 :: a3 :: a4 :: a5 :: a6 :: a7 :: a8 :: a9 :: a10 :: a11 :: a12 :: a13 :: a14 :: l : va_W)[i]?) = ([a3, a7, a4, a5, a12, a13, a14] : va_W).map some := rfl
theorem fm_3_7_4_5_12_13_14 {a0 a1 a2 a3 a4 a5 a6 a7 a8 a9 a10 a11 a12 a13 a14 : Nat × va_E} {l : va_W} : ([3, 7, 4, 5, 12, 13, 14] : List Nat).filterMap (fun i => (a0 :: a1 :: a2 :: a3 :: a4 :: a5 :: a6 :: a7 :: a8 :: a9 :: a10 :: a11 :: a12 :: a13 :: a14 :: l : va_W)[i]?) = ([a3, a7, a4, a5, a12, a13, a14] : va_W) := rfl
theorem nd_3_7_4_5_12_13_14 : va_nd [3, 7, 4, 5, 12, 13, 14] = true := by decide
def K_c_clashes (l : Launch) (G : GG) (h0 : Nat) (bb : Nat) (clk : Nat) (fi : Nat) (la : Nat) (ml : Nat) (mm : Nat) (sl : Nat) (sm : Nat) (cl : Int32) : Prop := MP l G yX7_clashes cX7_clashes 1 (some .boolean) 1 [.ref h0] [(h0, oX7 bb clk fi la ml mm sl sm cl)] (fun r : Int32 => r = 1 ∨ r = 0)
set_option maxHeartbeats 4000000 in
set_option maxRecDepth 100000 in
theorem c_clashes (l : Launch) (G : GG) (h0 : Nat) (bb : Nat) (clk : Nat) (fi : Nat) (la : Nat) (ml : Nat) (mm : Nat) (sl : Nat) (sm : Nat) (cl : Int32) (hcl : cl = 0 ∨ cl = 1) : K_c_clashes l G h0 bb clk fi la ml mm sl sm cl := by
  refine MP.start (by decide +kernel) (Nat.le_of_ble_eq_true rfl) ?_
  intro p e s m below meth c ls hC hK hP hD hl
  refine absQ (fun Q0 hQ0 => ?_)
  have hl : lv_has ls 1 [(0, .ref h0)] := hl
  refine Kan8 hC (fun hx hb hr hml hB hown hlocks hnm => ?_)
  rcases hcl with rfl | rfl
  · refine lv_aload_n hx hb gX7_clashes_0.1 rfl (lv_at0 hl) ?_
    refine gf_X7_41 hC rfl hK hP 0 rfl rfl gX7_clashes_0.2.1 ?_
    refine toQ hQ0 ?_
    exact RP (v := 0) hC (Or.inr (rfl)) (by decide +kernel) gX7_clashes_0.2.2
  · refine lv_aload_n hx hb gX7_clashes_0.1 rfl (lv_at0 hl) ?_
    refine gf_X7_41 hC rfl hK hP 0 rfl rfl gX7_clashes_0.2.1 ?_
    refine toQ hQ0 ?_
    exact RP (v := 1) hC (Or.inl (rfl)) (by decide +kernel) gX7_clashes_0.2.2
def K_p_span (l : Launch) (G : GG) (h0 : Nat) (x1 : Int32) (x2 : Int32) (bb : Nat) (kk : Nat) (ikp : Int32) (sg : Nat) (do9 : Nat) (ru9 : Nat) (ta9 : Nat) (tp9 : Nat) (ro9 : Nat) (ho9 : Nat) (de9 : Nat) (bpersons : Nat) (bpapers : Nat) (bstamps : Nat) (bversions : Nat) (blines : Nat) (bsteps : Nat) (bsayings : Nat) (bfindings : Nat) (bwarnings : Nat) (bquestions : Nat) (td : Int32) (vd : Int32) (vl : Int32) (gp : Int32) (clk : Nat) (fi : Nat) (la : Nat) (ml : Nat) (mm : Nat) (sl : Nat) (sm : Nat) (cl : Int32) (clm : Nat) (fclm : Nat → Int32) (ffi : Nat → Int32) (fla : Nat → Int32) (fml : Nat → Int32) (fmm : Nat → Int32) (fsl : Nat → Int32) (fsm : Nat → Int32) (bpapersc : Nat) (kbpapers : Nat) (fbpapers : Nat → Int32) (bstampsc : Nat) (kbstamps : Nat) (fbstamps : Nat → Int32) : Prop := MI l G yX11_span cX11_span 3 (some .int) 7 0 0 [.ref h0, .int x1, .int x2] [(h0, oX11 bb kk ikp sg do9 ru9 ta9 tp9 ro9 ho9 de9), (bb, oX0 bpersons bpapers bstamps bversions blines bsteps bsayings bfindings bwarnings bquestions td vd vl gp), (sg, oX7 bb clk fi la ml mm sl sm cl), (clk, oX1 clm), (clm, iA G 36 fclm), (fi, iA G 12 ffi), (la, iA G 12 fla), (ml, iA G 12 fml), (mm, iA G 12 fmm), (sl, iA G 12 fsl), (sm, iA G 12 fsm), (bpapers, oX8 12 6 bpapersc (nI kbpapers)), (bpapersc, iA G 72 fbpapers), (bstamps, oX8 24 3 bstampsc (nI kbstamps)), (bstampsc, iA G 72 fbstamps)] (fun (r : Int32) (u : Int32 × (Nat → Int32) × (Nat → Int32) × (Nat → Int32) × (Nat → Int32) × (Nat → Int32) × (Nat → Int32) × (Nat → Int32)) => (True) ∧ (u.1 = 0 ∨ u.1 = 1)) (fun u : Int32 × (Nat → Int32) × (Nat → Int32) × (Nat → Int32) × (Nat → Int32) × (Nat → Int32) × (Nat → Int32) × (Nat → Int32) => [(h0, oX11 bb kk ikp sg do9 ru9 ta9 tp9 ro9 ho9 de9), (bb, oX0 bpersons bpapers bstamps bversions blines bsteps bsayings bfindings bwarnings bquestions td vd vl gp), (sg, oX7 bb clk fi la ml mm sl sm u.1), (clk, oX1 clm), (clm, iA G 36 u.2.1), (fi, iA G 12 u.2.2.1), (la, iA G 12 u.2.2.2.1), (ml, iA G 12 u.2.2.2.2.1), (mm, iA G 12 u.2.2.2.2.2.1), (sl, iA G 12 u.2.2.2.2.2.2.1), (sm, iA G 12 u.2.2.2.2.2.2.2), (bpapers, oX8 12 6 bpapersc (nI kbpapers)), (bpapersc, iA G 72 fbpapers), (bstamps, oX8 24 3 bstampsc (nI kbstamps)), (bstampsc, iA G 72 fbstamps)])
set_option maxHeartbeats 4000000 in
set_option maxRecDepth 100000 in
theorem p_span (l : Launch) (G : GG) (h0 : Nat) (x1 : Int32) (x2 : Int32) (bb : Nat) (kk : Nat) (ikp : Int32) (sg : Nat) (do9 : Nat) (ru9 : Nat) (ta9 : Nat) (tp9 : Nat) (ro9 : Nat) (ho9 : Nat) (de9 : Nat) (bpersons : Nat) (bpapers : Nat) (bstamps : Nat) (bversions : Nat) (blines : Nat) (bsteps : Nat) (bsayings : Nat) (bfindings : Nat) (bwarnings : Nat) (bquestions : Nat) (td : Int32) (vd : Int32) (vl : Int32) (gp : Int32) (clk : Nat) (fi : Nat) (la : Nat) (ml : Nat) (mm : Nat) (sl : Nat) (sm : Nat) (cl : Int32) (clm : Nat) (fclm : Nat → Int32) (ffi : Nat → Int32) (fla : Nat → Int32) (fml : Nat → Int32) (fmm : Nat → Int32) (fsl : Nat → Int32) (fsm : Nat → Int32) (bpapersc : Nat) (kbpapers : Nat) (fbpapers : Nat → Int32) (bstampsc : Nat) (kbstamps : Nat) (fbstamps : Nat → Int32) (hkbpapers : kbpapers ≤ 12) (hkbstamps : kbstamps ≤ 24) (hcl : cl = 0 ∨ cl = 1) : K_p_span l G h0 x1 x2 bb kk ikp sg do9 ru9 ta9 tp9 ro9 ho9 de9 bpersons bpapers bstamps bversions blines bsteps bsayings bfindings bwarnings bquestions td vd vl gp clk fi la ml mm sl sm cl clm fclm ffi fla fml fmm fsl fsm bpapersc kbpapers fbpapers bstampsc kbstamps fbstamps := by
  refine MI.start (by decide +kernel) (Nat.le_of_ble_eq_true rfl) ?_
  intro p e s m below meth c A ls hC hK hP hD hS hA hl
  refine absQ (fun Q0 hQ0 => ?_)
  have hl : lv_has ls 3 [(0, .ref h0), (1, .int x1), (2, .int x2)] := hl
  refine Kan8 hC (fun hx hb hr hml hB hown hlocks hnm => ?_)
  refine lv_iload_n hx hb gX11_span_0.1 rfl (lv_at1 hl) ?_
  refine lv_iconst (v := 0) hx hb gX11_span_0.2.1 (by decide) ?_
  refine lv_iconst (v := 5) hx hb gX11_span_0.2.2.1 (by decide) ?_
  refine pS hC hK hl (c_within l G x1 0 5) si_X11_83 rfl rfl (Nat.le_of_ble_eq_true rfl) rm_7_1_3 ⟨by first | exact Nat.le_of_ble_eq_true rfl | exact Nat.zero_le _, by first | exact Nat.le_of_ble_eq_true rfl | exact Nat.zero_le _⟩ gX11_span_0.2.2.2.1 (Kors (Keqa fun a2090 => ?_) (Keqa fun a2090 => ?_))
  · refine lv_if_ne (tgt := 11) hx hb gX11_span_0.2.2.2.2.1 (by decide) (fun _ => ?_) (fun c9 => absurd c9 (by decide))
    refine lv_aload_n hx hb gX11_span_0.2.2.2.2.2.2.2.1 rfl (lv_at0 hl) ?_
    refine gf_X11_28 hC rfl hK hP 0 rfl rfl gX11_span_0.2.2.2.2.2.2.2.2.1 ?_
    refine lv_aload_n hx hb gX11_span_0.2.2.2.2.2.2.2.2.2 rfl (lv_at0 hl) ?_
    refine gf_X11_15 hC rfl hK hP 0 rfl rfl gX11_span_1.1 ?_
    refine pV hC hK hl hP hD (c_inView l G bb bpersons bpapers bstamps bversions blines bsteps bsayings bfindings bwarnings bquestions td vd vl gp bpapersc kbpapers fbpapers (hkbpapers)) si_X11_97 [1, 11, 12] sm_1_11_12 fm_1_11_12 nd_1_11_12 rfl rfl rfl rfl rfl (Nat.le_of_ble_eq_true rfl) rm_7_3_6 ⟨by first | exact Nat.le_of_ble_eq_true rfl | exact Nat.zero_le _, by first | exact Nat.le_of_ble_eq_true rfl | exact Nat.zero_le _⟩ gX11_span_1.2.1 (fun r2091 hr2091 => ?_)
    refine vV (wr := [(h0, oX11 bb kk ikp sg do9 ru9 ta9 tp9 ro9 ho9 de9), (bpapers, oX8 12 6 bpapersc (nI kbpapers)), (bpapersc, iA G 72 fbpapers)]) hC hK hl hP hD hS hA (c_look l G sg r2091 bb clk fi la ml mm sl sm cl clm fclm ffi fla fml fmm fsl fsm bpersons bpapers bstamps bversions blines bsteps bsayings bfindings bwarnings bquestions td vd vl gp bstampsc kbstamps fbstamps (hkbstamps)) si_X11_183 [2, 3, 4, 5, 6, 7, 8, 9, 10, 1, 13, 14] [0, 11, 12] sm_2_3_4_5_6_7_8_9_10_1_13_14 fm_2_3_4_5_6_7_8_9_10_1_13_14 nd_2_3_4_5_6_7_8_9_10_1_13_14 sm_0_11_12 nd_0_11_12 dj_2_3_4_5_6_7_8_9_10_1_13_14__0_11_12 rfl rfl rfl rfl rfl (Nat.le_of_ble_eq_true rfl) rm_7_5_4 ⟨Nat.le_of_ble_eq_true rfl, Nat.le_of_ble_eq_true rfl⟩ gX11_span_1.2.2.1 (Ktu8 fun cl12094 gclm2095 gfi2096 gla2097 gml2098 gmm2099 gsl2100 gsm2101 => ?_)
    intro H locs hr2092 hP hD hS
    try dsimp only at hr2092
    refine Kpdr (ws := [(h0, oX11 bb kk ikp sg do9 ru9 ta9 tp9 ro9 ho9 de9), (bpapers, oX8 12 6 bpapersc (nI kbpapers)), (bpapersc, iA G 72 fbpapers), (sg, oX7 bb clk fi la ml mm sl sm cl12094), (clk, oX1 clm), (clm, iA G 36 gclm2095), (fi, iA G 12 gfi2096), (la, iA G 12 gla2097), (ml, iA G 12 gml2098), (mm, iA G 12 gmm2099), (sl, iA G 12 gsl2100), (sm, iA G 12 gsm2101), (bb, oX0 bpersons bpapers bstamps bversions blines bsteps bsayings bfindings bwarnings bquestions td vd vl gp), (bstamps, oX8 24 3 bstampsc (nI kbstamps)), (bstampsc, iA G 72 fbstamps)]) hP hD (fun hP hD => ?_)
    have w2102 := hr2092
    refine lv_aload_n hx hb gX11_span_1.2.2.2.1 rfl (lv_at0 hl) ?_
    refine gf_X11_28 hC rfl hK hP 0 rfl rfl gX11_span_1.2.2.2.2.1 ?_
    refine pV hC hK hl hP hD (c_clashes l G sg bb clk fi la ml mm sl sm cl12094 (w2102)) si_X11_187 [3] sm_3 fm_3 nd_3 rfl rfl rfl rfl rfl (Nat.le_of_ble_eq_true rfl) rm_7_1_1 ⟨by first | exact Nat.le_of_ble_eq_true rfl | exact Nat.zero_le _, by first | exact Nat.le_of_ble_eq_true rfl | exact Nat.zero_le _⟩ gX11_span_1.2.2.2.2.2.1 (Kors (Keqr ?_) (Keqr ?_))
    · refine lv_if_eq (tgt := 38) hx hb gX11_span_1.2.2.2.2.2.2.1 (by decide) (fun c9 => absurd c9 (by decide)) (fun _ => ?_)
      refine lv_bipush (v := (-4)) hx hb gX11_span_1.2.2.2.2.2.2.2.1 (by decide) ?_
      refine toQ hQ0 ?_
      exact RI (v := (-4)) hC hP hD hS [0, 12, 3, 4, 5, 6, 7, 8, 9, 10, 11, 1, 2, 13, 14] (cl12094, gclm2095, gfi2096, gla2097, gml2098, gmm2099, gsl2100, gsm2101) rfl rfl (by decide) (⟨trivial, w2102⟩) rfl gX11_span_1.2.2.2.2.2.2.2.2.1
    · refine lv_if_eq (tgt := 38) hx hb gX11_span_1.2.2.2.2.2.2.1 (by decide) (fun _ => ?_) (fun c9 => absurd (by decide) c9)
      refine lv_aload_n hx hb gX11_span_1.2.2.2.2.2.2.2.2.2 rfl (lv_at0 hl) ?_
      refine gf_X11_28 hC rfl hK hP 0 rfl rfl gX11_span_2.1 ?_
      refine lv_iload_n hx hb gX11_span_2.2.1 rfl (lv_at1 hl) ?_
      refine lv_iload_n hx hb gX11_span_2.2.2.1 rfl (lv_at2 hl) ?_
      refine pV hC hK hl hP hD (c_ahead l G sg x1 x2 bb clk fi la ml mm sl sm cl12094 clm gclm2095) si_X11_190 [3, 4, 5] sm_3_4_5 fm_3_4_5 nd_3_4_5 rfl rfl rfl rfl rfl (Nat.le_of_ble_eq_true rfl) rm_7_2_3 ⟨by first | exact Nat.le_of_ble_eq_true rfl | exact Nat.zero_le _, by first | exact Nat.le_of_ble_eq_true rfl | exact Nat.zero_le _⟩ gX11_span_2.2.2.2.1 (fun r2105 hr2105 => ?_)
      refine lv_sipush (v := 1000) hx hb gX11_span_2.2.2.2.2.1 (by decide) ?_
      refine lv_iadd hx hb gX11_span_2.2.2.2.2.2.1 ?_
      refine toQ hQ0 ?_
      exact RI (v := r2105 + 1000) hC hP hD hS [0, 12, 3, 4, 5, 6, 7, 8, 9, 10, 11, 1, 2, 13, 14] (cl12094, gclm2095, gfi2096, gla2097, gml2098, gmm2099, gsl2100, gsm2101) rfl rfl (by decide) (⟨trivial, w2102⟩) rfl gX11_span_2.2.2.2.2.2.2
  · refine lv_if_ne (tgt := 11) hx hb gX11_span_0.2.2.2.2.1 (by decide) (fun c9 => absurd (by decide) c9) (fun _ => ?_)
    refine lv_iconst (v := (-1)) hx hb gX11_span_0.2.2.2.2.2.1 (by decide) ?_
    refine toQ hQ0 ?_
    exact RI (v := (-1)) hC hP hD hS [0, 1, 2, 3, 4, 5, 6, 7, 8, 9, 10, 11, 12, 13, 14] (cl, fclm, ffi, fla, fml, fmm, fsl, fsm) rfl rfl (by decide) (⟨trivial, hcl⟩) rfl gX11_span_0.2.2.2.2.2.2.1
def K_p_sent (l : Launch) (G : GG) (h0 : Nat) (x1 : Int32) (x2 : Int32) (bb : Nat) (kk : Nat) (ikp : Int32) (sg : Nat) (do9 : Nat) (ru9 : Nat) (ta9 : Nat) (tp9 : Nat) (ro9 : Nat) (ho9 : Nat) (de9 : Nat) (bpersons : Nat) (bpapers : Nat) (bstamps : Nat) (bversions : Nat) (blines : Nat) (bsteps : Nat) (bsayings : Nat) (bfindings : Nat) (bwarnings : Nat) (bquestions : Nat) (td : Int32) (vd : Int32) (vl : Int32) (gp : Int32) (clk : Nat) (fi : Nat) (la : Nat) (ml : Nat) (mm : Nat) (sl : Nat) (sm : Nat) (cl : Int32) (clm : Nat) (fclm : Nat → Int32) (ffi : Nat → Int32) (fla : Nat → Int32) (fml : Nat → Int32) (fmm : Nat → Int32) (fsl : Nat → Int32) (fsm : Nat → Int32) (bpapersc : Nat) (kbpapers : Nat) (fbpapers : Nat → Int32) (bstampsc : Nat) (kbstamps : Nat) (fbstamps : Nat → Int32) : Prop := MI l G yX11_sent cX11_sent 3 (some .int) 7 0 0 [.ref h0, .int x1, .int x2] [(h0, oX11 bb kk ikp sg do9 ru9 ta9 tp9 ro9 ho9 de9), (bb, oX0 bpersons bpapers bstamps bversions blines bsteps bsayings bfindings bwarnings bquestions td vd vl gp), (sg, oX7 bb clk fi la ml mm sl sm cl), (clk, oX1 clm), (clm, iA G 36 fclm), (fi, iA G 12 ffi), (la, iA G 12 fla), (ml, iA G 12 fml), (mm, iA G 12 fmm), (sl, iA G 12 fsl), (sm, iA G 12 fsm), (bpapers, oX8 12 6 bpapersc (nI kbpapers)), (bpapersc, iA G 72 fbpapers), (bstamps, oX8 24 3 bstampsc (nI kbstamps)), (bstampsc, iA G 72 fbstamps)] (fun (r : Int32) (u : Int32 × (Nat → Int32) × (Nat → Int32) × (Nat → Int32) × (Nat → Int32) × (Nat → Int32) × (Nat → Int32) × (Nat → Int32)) => (True) ∧ (u.1 = 0 ∨ u.1 = 1)) (fun u : Int32 × (Nat → Int32) × (Nat → Int32) × (Nat → Int32) × (Nat → Int32) × (Nat → Int32) × (Nat → Int32) × (Nat → Int32) => [(h0, oX11 bb kk ikp sg do9 ru9 ta9 tp9 ro9 ho9 de9), (bb, oX0 bpersons bpapers bstamps bversions blines bsteps bsayings bfindings bwarnings bquestions td vd vl gp), (sg, oX7 bb clk fi la ml mm sl sm u.1), (clk, oX1 clm), (clm, iA G 36 u.2.1), (fi, iA G 12 u.2.2.1), (la, iA G 12 u.2.2.2.1), (ml, iA G 12 u.2.2.2.2.1), (mm, iA G 12 u.2.2.2.2.2.1), (sl, iA G 12 u.2.2.2.2.2.2.1), (sm, iA G 12 u.2.2.2.2.2.2.2), (bpapers, oX8 12 6 bpapersc (nI kbpapers)), (bpapersc, iA G 72 fbpapers), (bstamps, oX8 24 3 bstampsc (nI kbstamps)), (bstampsc, iA G 72 fbstamps)])
set_option maxHeartbeats 4000000 in
set_option maxRecDepth 100000 in
theorem p_sent (l : Launch) (G : GG) (h0 : Nat) (x1 : Int32) (x2 : Int32) (bb : Nat) (kk : Nat) (ikp : Int32) (sg : Nat) (do9 : Nat) (ru9 : Nat) (ta9 : Nat) (tp9 : Nat) (ro9 : Nat) (ho9 : Nat) (de9 : Nat) (bpersons : Nat) (bpapers : Nat) (bstamps : Nat) (bversions : Nat) (blines : Nat) (bsteps : Nat) (bsayings : Nat) (bfindings : Nat) (bwarnings : Nat) (bquestions : Nat) (td : Int32) (vd : Int32) (vl : Int32) (gp : Int32) (clk : Nat) (fi : Nat) (la : Nat) (ml : Nat) (mm : Nat) (sl : Nat) (sm : Nat) (cl : Int32) (clm : Nat) (fclm : Nat → Int32) (ffi : Nat → Int32) (fla : Nat → Int32) (fml : Nat → Int32) (fmm : Nat → Int32) (fsl : Nat → Int32) (fsm : Nat → Int32) (bpapersc : Nat) (kbpapers : Nat) (fbpapers : Nat → Int32) (bstampsc : Nat) (kbstamps : Nat) (fbstamps : Nat → Int32) (hkbpapers : kbpapers ≤ 12) (hkbstamps : kbstamps ≤ 24) (hcl : cl = 0 ∨ cl = 1) : K_p_sent l G h0 x1 x2 bb kk ikp sg do9 ru9 ta9 tp9 ro9 ho9 de9 bpersons bpapers bstamps bversions blines bsteps bsayings bfindings bwarnings bquestions td vd vl gp clk fi la ml mm sl sm cl clm fclm ffi fla fml fmm fsl fsm bpapersc kbpapers fbpapers bstampsc kbstamps fbstamps := by
  refine MI.start (by decide +kernel) (Nat.le_of_ble_eq_true rfl) ?_
  intro p e s m below meth c A ls hC hK hP hD hS hA hl
  refine absQ (fun Q0 hQ0 => ?_)
  have hl : lv_has ls 3 [(0, .ref h0), (1, .int x1), (2, .int x2)] := hl
  refine Kan8 hC (fun hx hb hr hml hB hown hlocks hnm => ?_)
  refine lv_aload_n hx hb gX11_sent_0.1 rfl (lv_at0 hl) ?_
  refine gf_X11_15 hC rfl hK hP 0 rfl rfl gX11_sent_0.2.1 ?_
  refine gf_X11_144 hC rfl hK hP 1 rfl rfl gX11_sent_0.2.2.1 ?_
  refine lv_iload_n hx hb gX11_sent_0.2.2.2.1 rfl (lv_at1 hl) ?_
  refine pV hC hK hl hP hD (c_T_has l G bpapers x1 12 6 bpapersc kbpapers) si_X11_124 [11] sm_11 fm_11 nd_11 rfl rfl rfl rfl rfl (Nat.le_of_ble_eq_true rfl) rm_7_1_2 ⟨by first | exact Nat.le_of_ble_eq_true rfl | exact Nat.zero_le _, by first | exact Nat.le_of_ble_eq_true rfl | exact Nat.zero_le _⟩ gX11_sent_0.2.2.2.2.1 (Kors (Keqa fun a2107 => ?_) (Keqa fun a2107 => ?_))
  · refine lv_if_ne (tgt := 16) hx hb gX11_sent_0.2.2.2.2.2.1 (by decide) (fun _ => ?_) (fun c9 => absurd c9 (by decide))
    refine lv_aload_n hx hb gX11_sent_0.2.2.2.2.2.2.2.2.1 rfl (lv_at0 hl) ?_
    refine gf_X11_28 hC rfl hK hP 0 rfl rfl gX11_sent_0.2.2.2.2.2.2.2.2.2 ?_
    refine lv_aload_n hx hb gX11_sent_1.1 rfl (lv_at0 hl) ?_
    refine gf_X11_15 hC rfl hK hP 0 rfl rfl gX11_sent_1.2.1 ?_
    refine pV hC hK hl hP hD (c_inView l G bb bpersons bpapers bstamps bversions blines bsteps bsayings bfindings bwarnings bquestions td vd vl gp bpapersc kbpapers fbpapers (hkbpapers)) si_X11_97 [1, 11, 12] sm_1_11_12 fm_1_11_12 nd_1_11_12 rfl rfl rfl rfl rfl (Nat.le_of_ble_eq_true rfl) rm_7_3_6 ⟨by first | exact Nat.le_of_ble_eq_true rfl | exact Nat.zero_le _, by first | exact Nat.le_of_ble_eq_true rfl | exact Nat.zero_le _⟩ gX11_sent_1.2.2.1 (fun r2108 hr2108 => ?_)
    refine vV (wr := [(h0, oX11 bb kk ikp sg do9 ru9 ta9 tp9 ro9 ho9 de9), (bpapers, oX8 12 6 bpapersc (nI kbpapers)), (bpapersc, iA G 72 fbpapers)]) hC hK hl hP hD hS hA (c_look l G sg r2108 bb clk fi la ml mm sl sm cl clm fclm ffi fla fml fmm fsl fsm bpersons bpapers bstamps bversions blines bsteps bsayings bfindings bwarnings bquestions td vd vl gp bstampsc kbstamps fbstamps (hkbstamps)) si_X11_183 [2, 3, 4, 5, 6, 7, 8, 9, 10, 1, 13, 14] [0, 11, 12] sm_2_3_4_5_6_7_8_9_10_1_13_14 fm_2_3_4_5_6_7_8_9_10_1_13_14 nd_2_3_4_5_6_7_8_9_10_1_13_14 sm_0_11_12 nd_0_11_12 dj_2_3_4_5_6_7_8_9_10_1_13_14__0_11_12 rfl rfl rfl rfl rfl (Nat.le_of_ble_eq_true rfl) rm_7_5_4 ⟨Nat.le_of_ble_eq_true rfl, Nat.le_of_ble_eq_true rfl⟩ gX11_sent_1.2.2.2.1 (Ktu8 fun cl12111 gclm2112 gfi2113 gla2114 gml2115 gmm2116 gsl2117 gsm2118 => ?_)
    intro H locs hr2109 hP hD hS
    try dsimp only at hr2109
    refine Kpdr (ws := [(h0, oX11 bb kk ikp sg do9 ru9 ta9 tp9 ro9 ho9 de9), (bpapers, oX8 12 6 bpapersc (nI kbpapers)), (bpapersc, iA G 72 fbpapers), (sg, oX7 bb clk fi la ml mm sl sm cl12111), (clk, oX1 clm), (clm, iA G 36 gclm2112), (fi, iA G 12 gfi2113), (la, iA G 12 gla2114), (ml, iA G 12 gml2115), (mm, iA G 12 gmm2116), (sl, iA G 12 gsl2117), (sm, iA G 12 gsm2118), (bb, oX0 bpersons bpapers bstamps bversions blines bsteps bsayings bfindings bwarnings bquestions td vd vl gp), (bstamps, oX8 24 3 bstampsc (nI kbstamps)), (bstampsc, iA G 72 fbstamps)]) hP hD (fun hP hD => ?_)
    have w2119 := hr2109
    refine lv_aload_n hx hb gX11_sent_1.2.2.2.2.1 rfl (lv_at0 hl) ?_
    refine gf_X11_28 hC rfl hK hP 0 rfl rfl gX11_sent_1.2.2.2.2.2.1 ?_
    refine lv_iload_n hx hb gX11_sent_1.2.2.2.2.2.2.1 rfl (lv_at1 hl) ?_
    refine pV hC hK hl hP hD (c_isSent l G sg x1 bb clk fi la ml mm sl sm cl12111 gla2114) si_X11_194 [3, 7] sm_3_7 fm_3_7 nd_3_7 rfl rfl rfl rfl rfl (Nat.le_of_ble_eq_true rfl) rm_7_1_2 ⟨by first | exact Nat.le_of_ble_eq_true rfl | exact Nat.zero_le _, by first | exact Nat.le_of_ble_eq_true rfl | exact Nat.zero_le _⟩ gX11_sent_1.2.2.2.2.2.2.2.1 (Kors (Keqa fun a2121 => ?_) (Keqr ?_))
    · refine lv_if_ne (tgt := 44) hx hb gX11_sent_1.2.2.2.2.2.2.2.2.1 (by decide) (fun _ => ?_) (fun c9 => absurd c9 (by decide))
      refine lv_aload_n hx hb gX11_sent_2.2.1 rfl (lv_at0 hl) ?_
      refine gf_X11_28 hC rfl hK hP 0 rfl rfl gX11_sent_2.2.2.1 ?_
      refine lv_iload_n hx hb gX11_sent_2.2.2.2.1 rfl (lv_at1 hl) ?_
      refine lv_iload_n hx hb gX11_sent_2.2.2.2.2.1 rfl (lv_at2 hl) ?_
      refine pV hC hK hl hP hD (c_sentHour l G sg x1 x2 bb clk fi la ml mm sl sm cl12111 gla2114 gsl2117 gsm2118) si_X11_197 [3, 7, 10, 11] sm_3_7_10_11 fm_3_7_10_11 nd_3_7_10_11 rfl rfl rfl rfl rfl (Nat.le_of_ble_eq_true rfl) rm_7_2_3 ⟨by first | exact Nat.le_of_ble_eq_true rfl | exact Nat.zero_le _, by first | exact Nat.le_of_ble_eq_true rfl | exact Nat.zero_le _⟩ gX11_sent_2.2.2.2.2.2.1 (fun r2122 hr2122 => ?_)
      refine lv_sipush (v := 1000) hx hb gX11_sent_2.2.2.2.2.2.2.1 (by decide) ?_
      refine lv_iadd hx hb gX11_sent_2.2.2.2.2.2.2.2.1 ?_
      refine toQ hQ0 ?_
      exact RI (v := r2122 + 1000) hC hP hD hS [0, 12, 3, 4, 5, 6, 7, 8, 9, 10, 11, 1, 2, 13, 14] (cl12111, gclm2112, gfi2113, gla2114, gml2115, gmm2116, gsl2117, gsm2118) rfl rfl (by decide) (⟨trivial, w2119⟩) rfl gX11_sent_2.2.2.2.2.2.2.2.2
    · refine lv_if_ne (tgt := 44) hx hb gX11_sent_1.2.2.2.2.2.2.2.2.1 (by decide) (fun c9 => absurd (by decide) c9) (fun _ => ?_)
      refine lv_bipush (v := (-3)) hx hb gX11_sent_1.2.2.2.2.2.2.2.2.2 (by decide) ?_
      refine toQ hQ0 ?_
      exact RI (v := (-3)) hC hP hD hS [0, 12, 3, 4, 5, 6, 7, 8, 9, 10, 11, 1, 2, 13, 14] (cl12111, gclm2112, gfi2113, gla2114, gml2115, gmm2116, gsl2117, gsm2118) rfl rfl (by decide) (⟨trivial, w2119⟩) rfl gX11_sent_2.1
  · refine lv_if_ne (tgt := 16) hx hb gX11_sent_0.2.2.2.2.2.1 (by decide) (fun c9 => absurd (by decide) c9) (fun _ => ?_)
    refine lv_iconst (v := (-1)) hx hb gX11_sent_0.2.2.2.2.2.2.1 (by decide) ?_
    refine toQ hQ0 ?_
    exact RI (v := (-1)) hC hP hD hS [0, 1, 2, 3, 4, 5, 6, 7, 8, 9, 10, 11, 12, 13, 14] (cl, fclm, ffi, fla, fml, fmm, fsl, fsm) rfl rfl (by decide) (⟨trivial, hcl⟩) rfl gX11_sent_0.2.2.2.2.2.2.2.1
def K_p_hand (l : Launch) (G : GG) (h0 : Nat) (x1 : Int32) (x2 : Int32) (x3 : Int32) (bb : Nat) (kk : Nat) (ikp : Int32) (sg : Nat) (do9 : Nat) (ru9 : Nat) (ta9 : Nat) (tp9 : Nat) (ro9 : Nat) (ho9 : Nat) (de9 : Nat) (bpersons : Nat) (bpapers : Nat) (bstamps : Nat) (bversions : Nat) (blines : Nat) (bsteps : Nat) (bsayings : Nat) (bfindings : Nat) (bwarnings : Nat) (bquestions : Nat) (td : Int32) (vd : Int32) (vl : Int32) (gp : Int32) (clk : Nat) (fi : Nat) (la : Nat) (ml : Nat) (mm : Nat) (sl : Nat) (sm : Nat) (cl : Int32) (clm : Nat) (fclm : Nat → Int32) (ffi : Nat → Int32) (fla : Nat → Int32) (fml : Nat → Int32) (fmm : Nat → Int32) (fsl : Nat → Int32) (fsm : Nat → Int32) (bpapersc : Nat) (kbpapers : Nat) (fbpapers : Nat → Int32) (bstampsc : Nat) (kbstamps : Nat) (fbstamps : Nat → Int32) (bpersonsc : Nat) (kbpersons : Nat) (fbpersons : Nat → Int32) : Prop := MI l G yX11_hand cX11_hand 4 (some .int) 7 0 0 [.ref h0, .int x1, .int x2, .int x3] [(h0, oX11 bb kk ikp sg do9 ru9 ta9 tp9 ro9 ho9 de9), (bb, oX0 bpersons bpapers bstamps bversions blines bsteps bsayings bfindings bwarnings bquestions td vd vl gp), (sg, oX7 bb clk fi la ml mm sl sm cl), (clk, oX1 clm), (clm, iA G 36 fclm), (fi, iA G 12 ffi), (la, iA G 12 fla), (ml, iA G 12 fml), (mm, iA G 12 fmm), (sl, iA G 12 fsl), (sm, iA G 12 fsm), (bpapers, oX8 12 6 bpapersc (nI kbpapers)), (bpapersc, iA G 72 fbpapers), (bstamps, oX8 24 3 bstampsc (nI kbstamps)), (bstampsc, iA G 72 fbstamps), (bpersons, oX8 10 2 bpersonsc (nI kbpersons)), (bpersonsc, iA G 20 fbpersons)] (fun (r : Int32) (u : Int32 × (Nat → Int32) × (Nat → Int32) × (Nat → Int32) × (Nat → Int32) × (Nat → Int32) × (Nat → Int32) × (Nat → Int32)) => (True) ∧ (u.1 = 0 ∨ u.1 = 1)) (fun u : Int32 × (Nat → Int32) × (Nat → Int32) × (Nat → Int32) × (Nat → Int32) × (Nat → Int32) × (Nat → Int32) × (Nat → Int32) => [(h0, oX11 bb kk ikp sg do9 ru9 ta9 tp9 ro9 ho9 de9), (bb, oX0 bpersons bpapers bstamps bversions blines bsteps bsayings bfindings bwarnings bquestions td vd vl gp), (sg, oX7 bb clk fi la ml mm sl sm u.1), (clk, oX1 clm), (clm, iA G 36 u.2.1), (fi, iA G 12 u.2.2.1), (la, iA G 12 u.2.2.2.1), (ml, iA G 12 u.2.2.2.2.1), (mm, iA G 12 u.2.2.2.2.2.1), (sl, iA G 12 u.2.2.2.2.2.2.1), (sm, iA G 12 u.2.2.2.2.2.2.2), (bpapers, oX8 12 6 bpapersc (nI kbpapers)), (bpapersc, iA G 72 fbpapers), (bstamps, oX8 24 3 bstampsc (nI kbstamps)), (bstampsc, iA G 72 fbstamps), (bpersons, oX8 10 2 bpersonsc (nI kbpersons)), (bpersonsc, iA G 20 fbpersons)])
set_option maxHeartbeats 4000000 in
set_option maxRecDepth 100000 in
theorem p_hand (l : Launch) (G : GG) (h0 : Nat) (x1 : Int32) (x2 : Int32) (x3 : Int32) (bb : Nat) (kk : Nat) (ikp : Int32) (sg : Nat) (do9 : Nat) (ru9 : Nat) (ta9 : Nat) (tp9 : Nat) (ro9 : Nat) (ho9 : Nat) (de9 : Nat) (bpersons : Nat) (bpapers : Nat) (bstamps : Nat) (bversions : Nat) (blines : Nat) (bsteps : Nat) (bsayings : Nat) (bfindings : Nat) (bwarnings : Nat) (bquestions : Nat) (td : Int32) (vd : Int32) (vl : Int32) (gp : Int32) (clk : Nat) (fi : Nat) (la : Nat) (ml : Nat) (mm : Nat) (sl : Nat) (sm : Nat) (cl : Int32) (clm : Nat) (fclm : Nat → Int32) (ffi : Nat → Int32) (fla : Nat → Int32) (fml : Nat → Int32) (fmm : Nat → Int32) (fsl : Nat → Int32) (fsm : Nat → Int32) (bpapersc : Nat) (kbpapers : Nat) (fbpapers : Nat → Int32) (bstampsc : Nat) (kbstamps : Nat) (fbstamps : Nat → Int32) (bpersonsc : Nat) (kbpersons : Nat) (fbpersons : Nat → Int32) (hkbpapers : kbpapers ≤ 12) (hkbstamps : kbstamps ≤ 24) (hkbpersons : kbpersons ≤ 10) (hcl : cl = 0 ∨ cl = 1) : K_p_hand l G h0 x1 x2 x3 bb kk ikp sg do9 ru9 ta9 tp9 ro9 ho9 de9 bpersons bpapers bstamps bversions blines bsteps bsayings bfindings bwarnings bquestions td vd vl gp clk fi la ml mm sl sm cl clm fclm ffi fla fml fmm fsl fsm bpapersc kbpapers fbpapers bstampsc kbstamps fbstamps bpersonsc kbpersons fbpersons := by
  refine MI.start (by decide +kernel) (Nat.le_of_ble_eq_true rfl) ?_
  intro p e s m below meth c A ls hC hK hP hD hS hA hl
  refine absQ (fun Q0 hQ0 => ?_)
  have hl : lv_has ls 4 [(0, .ref h0), (1, .int x1), (2, .int x2), (3, .int x3)] := hl
  refine Kan8 hC (fun hx hb hr hml hB hown hlocks hnm => ?_)
  refine lv_aload_n hx hb gX11_hand_0.1 rfl (lv_at0 hl) ?_
  refine gf_X11_15 hC rfl hK hP 0 rfl rfl gX11_hand_0.2.1 ?_
  refine gf_X11_144 hC rfl hK hP 1 rfl rfl gX11_hand_0.2.2.1 ?_
  refine lv_iload_n hx hb gX11_hand_0.2.2.2.1 rfl (lv_at1 hl) ?_
  refine pV hC hK hl hP hD (c_T_has l G bpapers x1 12 6 bpapersc kbpapers) si_X11_124 [11] sm_11 fm_11 nd_11 rfl rfl rfl rfl rfl (Nat.le_of_ble_eq_true rfl) rm_7_1_2 ⟨by first | exact Nat.le_of_ble_eq_true rfl | exact Nat.zero_le _, by first | exact Nat.le_of_ble_eq_true rfl | exact Nat.zero_le _⟩ gX11_hand_0.2.2.2.2.1 (Kors (Keqa fun a2124 => ?_) (Keqa fun a2124 => ?_))
  · refine lv_if_eq (tgt := 28) hx hb gX11_hand_0.2.2.2.2.2.1 (by decide) (fun c9 => absurd c9 (by decide)) (fun _ => ?_)
    refine lv_aload_n hx hb gX11_hand_0.2.2.2.2.2.2.1 rfl (lv_at0 hl) ?_
    refine gf_X11_15 hC rfl hK hP 0 rfl rfl gX11_hand_0.2.2.2.2.2.2.2.1 ?_
    refine gf_X11_107 hC rfl hK hP 1 rfl rfl gX11_hand_0.2.2.2.2.2.2.2.2.1 ?_
    refine lv_iload_n hx hb gX11_hand_0.2.2.2.2.2.2.2.2.2 rfl (lv_at2 hl) ?_
    refine pV hC hK hl hP hD (c_T_has l G bpersons x2 10 2 bpersonsc kbpersons) si_X11_124 [15] sm_15 fm_15 nd_15 rfl rfl rfl rfl rfl (Nat.le_of_ble_eq_true rfl) rm_7_1_2 ⟨by first | exact Nat.le_of_ble_eq_true rfl | exact Nat.zero_le _, by first | exact Nat.le_of_ble_eq_true rfl | exact Nat.zero_le _⟩ gX11_hand_1.1 (Kors (Keqa fun a2126 => ?_) (Keqa fun a2126 => ?_))
    · refine lv_if_ne (tgt := 30) hx hb gX11_hand_1.2.1 (by decide) (fun _ => ?_) (fun c9 => absurd c9 (by decide))
      refine lv_aload_n hx hb gX11_hand_1.2.2.2.2.1 rfl (lv_at0 hl) ?_
      refine gf_X11_28 hC rfl hK hP 0 rfl rfl gX11_hand_1.2.2.2.2.2.1 ?_
      refine lv_aload_n hx hb gX11_hand_1.2.2.2.2.2.2.1 rfl (lv_at0 hl) ?_
      refine gf_X11_15 hC rfl hK hP 0 rfl rfl gX11_hand_1.2.2.2.2.2.2.2.1 ?_
      refine pV hC hK hl hP hD (c_inView l G bb bpersons bpapers bstamps bversions blines bsteps bsayings bfindings bwarnings bquestions td vd vl gp bpapersc kbpapers fbpapers (hkbpapers)) si_X11_97 [1, 11, 12] sm_1_11_12 fm_1_11_12 nd_1_11_12 rfl rfl rfl rfl rfl (Nat.le_of_ble_eq_true rfl) rm_7_3_6 ⟨by first | exact Nat.le_of_ble_eq_true rfl | exact Nat.zero_le _, by first | exact Nat.le_of_ble_eq_true rfl | exact Nat.zero_le _⟩ gX11_hand_1.2.2.2.2.2.2.2.2.1 (fun r2127 hr2127 => ?_)
      refine vV (wr := [(h0, oX11 bb kk ikp sg do9 ru9 ta9 tp9 ro9 ho9 de9), (bpapers, oX8 12 6 bpapersc (nI kbpapers)), (bpapersc, iA G 72 fbpapers), (bpersons, oX8 10 2 bpersonsc (nI kbpersons)), (bpersonsc, iA G 20 fbpersons)]) hC hK hl hP hD hS hA (c_look l G sg r2127 bb clk fi la ml mm sl sm cl clm fclm ffi fla fml fmm fsl fsm bpersons bpapers bstamps bversions blines bsteps bsayings bfindings bwarnings bquestions td vd vl gp bstampsc kbstamps fbstamps (hkbstamps)) si_X11_183 [2, 3, 4, 5, 6, 7, 8, 9, 10, 1, 13, 14] [0, 11, 12, 15, 16] sm_2_3_4_5_6_7_8_9_10_1_13_14 fm_2_3_4_5_6_7_8_9_10_1_13_14 nd_2_3_4_5_6_7_8_9_10_1_13_14 sm_0_11_12_15_16 nd_0_11_12_15_16 dj_2_3_4_5_6_7_8_9_10_1_13_14__0_11_12_15_16 rfl rfl rfl rfl rfl (Nat.le_of_ble_eq_true rfl) rm_7_5_4 ⟨Nat.le_of_ble_eq_true rfl, Nat.le_of_ble_eq_true rfl⟩ gX11_hand_1.2.2.2.2.2.2.2.2.2 (Ktu8 fun cl12130 gclm2131 gfi2132 gla2133 gml2134 gmm2135 gsl2136 gsm2137 => ?_)
      intro H locs hr2128 hP hD hS
      try dsimp only at hr2128
      refine Kpdr (ws := [(h0, oX11 bb kk ikp sg do9 ru9 ta9 tp9 ro9 ho9 de9), (bpapers, oX8 12 6 bpapersc (nI kbpapers)), (bpapersc, iA G 72 fbpapers), (bpersons, oX8 10 2 bpersonsc (nI kbpersons)), (bpersonsc, iA G 20 fbpersons), (sg, oX7 bb clk fi la ml mm sl sm cl12130), (clk, oX1 clm), (clm, iA G 36 gclm2131), (fi, iA G 12 gfi2132), (la, iA G 12 gla2133), (ml, iA G 12 gml2134), (mm, iA G 12 gmm2135), (sl, iA G 12 gsl2136), (sm, iA G 12 gsm2137), (bb, oX0 bpersons bpapers bstamps bversions blines bsteps bsayings bfindings bwarnings bquestions td vd vl gp), (bstamps, oX8 24 3 bstampsc (nI kbstamps)), (bstampsc, iA G 72 fbstamps)]) hP hD (fun hP hD => ?_)
      have w2138 := hr2128
      refine lv_aload_n hx hb gX11_hand_2.1 rfl (lv_at0 hl) ?_
      refine gf_X11_28 hC rfl hK hP 0 rfl rfl gX11_hand_2.2.1 ?_
      refine lv_iload_n hx hb gX11_hand_2.2.2.1 rfl (lv_at1 hl) ?_
      refine lv_iload_n hx hb gX11_hand_2.2.2.2.1 rfl (lv_at2 hl) ?_
      refine pV hC hK hl hP hD (c_isInHand l G sg x1 x2 bb clk fi la ml mm sl sm cl12130 gla2133 bpersons bpapers bstamps bversions blines bsteps bsayings bfindings bwarnings bquestions td vd vl gp bpapersc kbpapers fbpapers (hkbpapers)) si_X11_200 [5, 9, 14, 1, 2] sm_5_9_14_1_2 fm_5_9_14_1_2 nd_5_9_14_1_2 rfl rfl rfl rfl rfl (Nat.le_of_ble_eq_true rfl) rm_7_3_3 ⟨by first | exact Nat.le_of_ble_eq_true rfl | exact Nat.zero_le _, by first | exact Nat.le_of_ble_eq_true rfl | exact Nat.zero_le _⟩ gX11_hand_2.2.2.2.2.1 (Kors (Keqa fun a2140 => ?_) (Keqr ?_))
      · refine lv_if_ne (tgt := 59) hx hb gX11_hand_2.2.2.2.2.2.1 (by decide) (fun _ => ?_) (fun c9 => absurd c9 (by decide))
        refine lv_aload_n hx hb gX11_hand_2.2.2.2.2.2.2.2.2.1 rfl (lv_at0 hl) ?_
        refine gf_X11_28 hC rfl hK hP 0 rfl rfl gX11_hand_2.2.2.2.2.2.2.2.2.2 ?_
        refine lv_iload_n hx hb gX11_hand_3.1 rfl (lv_at1 hl) ?_
        refine lv_iload_n hx hb gX11_hand_3.2.1 rfl (lv_at2 hl) ?_
        refine lv_iload_n hx hb gX11_hand_3.2.2.1 rfl (lv_at3 hl) ?_
        refine pV hC hK hl hP hD (c_handHour l G sg x1 x2 x3 bb clk fi la ml mm sl sm cl12130 gla2133 gml2134 gmm2135 gsl2136 gsm2137 bpersons bpapers bstamps bversions blines bsteps bsayings bfindings bwarnings bquestions td vd vl gp bpapersc kbpapers fbpapers bpersonsc kbpersons fbpersons (hkbpapers) (hkbpersons)) si_X11_203 [5, 9, 10, 11, 12, 13, 14, 1, 2, 3, 4] sm_5_9_10_11_12_13_14_1_2_3_4 fm_5_9_10_11_12_13_14_1_2_3_4 nd_5_9_10_11_12_13_14_1_2_3_4 rfl rfl rfl rfl rfl (Nat.le_of_ble_eq_true rfl) rm_7_3_4 ⟨by first | exact Nat.le_of_ble_eq_true rfl | exact Nat.zero_le _, by first | exact Nat.le_of_ble_eq_true rfl | exact Nat.zero_le _⟩ gX11_hand_3.2.2.2.1 (fun r2141 hr2141 => ?_)
        refine lv_sipush (v := 1000) hx hb gX11_hand_3.2.2.2.2.1 (by decide) ?_
        refine lv_iadd hx hb gX11_hand_3.2.2.2.2.2.1 ?_
        refine toQ hQ0 ?_
        exact RI (v := r2141 + 1000) hC hP hD hS [0, 14, 5, 6, 7, 8, 9, 10, 11, 12, 13, 1, 2, 15, 16, 3, 4] (cl12130, gclm2131, gfi2132, gla2133, gml2134, gmm2135, gsl2136, gsm2137) rfl rfl (by decide) (⟨trivial, w2138⟩) rfl gX11_hand_3.2.2.2.2.2.2
      · refine lv_if_ne (tgt := 59) hx hb gX11_hand_2.2.2.2.2.2.1 (by decide) (fun c9 => absurd (by decide) c9) (fun _ => ?_)
        refine lv_bipush (v := (-3)) hx hb gX11_hand_2.2.2.2.2.2.2.1 (by decide) ?_
        refine toQ hQ0 ?_
        exact RI (v := (-3)) hC hP hD hS [0, 14, 5, 6, 7, 8, 9, 10, 11, 12, 13, 1, 2, 15, 16, 3, 4] (cl12130, gclm2131, gfi2132, gla2133, gml2134, gmm2135, gsl2136, gsm2137) rfl rfl (by decide) (⟨trivial, w2138⟩) rfl gX11_hand_2.2.2.2.2.2.2.2.1
    · refine lv_if_ne (tgt := 30) hx hb gX11_hand_1.2.1 (by decide) (fun c9 => absurd (by decide) c9) (fun _ => ?_)
      refine lv_iconst (v := (-1)) hx hb gX11_hand_1.2.2.1 (by decide) ?_
      refine toQ hQ0 ?_
      exact RI (v := (-1)) hC hP hD hS [0, 1, 2, 3, 4, 5, 6, 7, 8, 9, 10, 11, 12, 13, 14, 15, 16] (cl, fclm, ffi, fla, fml, fmm, fsl, fsm) rfl rfl (by decide) (⟨trivial, hcl⟩) rfl gX11_hand_1.2.2.2.1
  · refine lv_if_eq (tgt := 28) hx hb gX11_hand_0.2.2.2.2.2.1 (by decide) (fun _ => ?_) (fun c9 => absurd (by decide) c9)
    refine lv_iconst (v := (-1)) hx hb gX11_hand_1.2.2.1 (by decide) ?_
    refine toQ hQ0 ?_
    exact RI (v := (-1)) hC hP hD hS [0, 1, 2, 3, 4, 5, 6, 7, 8, 9, 10, 11, 12, 13, 14, 15, 16] (cl, fclm, ffi, fla, fml, fmm, fsl, fsm) rfl rfl (by decide) (⟨trivial, hcl⟩) rfl gX11_hand_1.2.2.2.1
def K_p_before (l : Launch) (G : GG) (h0 : Nat) (x1 : Int32) (x2 : Int32) (bb : Nat) (kk : Nat) (ikp : Int32) (sg : Nat) (do9 : Nat) (ru9 : Nat) (ta9 : Nat) (tp9 : Nat) (ro9 : Nat) (ho9 : Nat) (de9 : Nat) (bpersons : Nat) (bpapers : Nat) (bstamps : Nat) (bversions : Nat) (blines : Nat) (bsteps : Nat) (bsayings : Nat) (bfindings : Nat) (bwarnings : Nat) (bquestions : Nat) (td : Int32) (vd : Int32) (vl : Int32) (gp : Int32) (clk : Nat) (fi : Nat) (la : Nat) (ml : Nat) (mm : Nat) (sl : Nat) (sm : Nat) (cl : Int32) (clm : Nat) (fclm : Nat → Int32) (ffi : Nat → Int32) (fla : Nat → Int32) (fml : Nat → Int32) (fmm : Nat → Int32) (fsl : Nat → Int32) (fsm : Nat → Int32) (bpapersc : Nat) (kbpapers : Nat) (fbpapers : Nat → Int32) (bstampsc : Nat) (kbstamps : Nat) (fbstamps : Nat → Int32) : Prop := MI l G yX11_before cX11_before 3 (some .int) 7 0 0 [.ref h0, .int x1, .int x2] [(h0, oX11 bb kk ikp sg do9 ru9 ta9 tp9 ro9 ho9 de9), (bb, oX0 bpersons bpapers bstamps bversions blines bsteps bsayings bfindings bwarnings bquestions td vd vl gp), (sg, oX7 bb clk fi la ml mm sl sm cl), (clk, oX1 clm), (clm, iA G 36 fclm), (fi, iA G 12 ffi), (la, iA G 12 fla), (ml, iA G 12 fml), (mm, iA G 12 fmm), (sl, iA G 12 fsl), (sm, iA G 12 fsm), (bpapers, oX8 12 6 bpapersc (nI kbpapers)), (bpapersc, iA G 72 fbpapers), (bstamps, oX8 24 3 bstampsc (nI kbstamps)), (bstampsc, iA G 72 fbstamps)] (fun (r : Int32) (u : Int32 × (Nat → Int32) × (Nat → Int32) × (Nat → Int32) × (Nat → Int32) × (Nat → Int32) × (Nat → Int32) × (Nat → Int32)) => (True) ∧ (u.1 = 0 ∨ u.1 = 1)) (fun u : Int32 × (Nat → Int32) × (Nat → Int32) × (Nat → Int32) × (Nat → Int32) × (Nat → Int32) × (Nat → Int32) × (Nat → Int32) => [(h0, oX11 bb kk ikp sg do9 ru9 ta9 tp9 ro9 ho9 de9), (bb, oX0 bpersons bpapers bstamps bversions blines bsteps bsayings bfindings bwarnings bquestions td vd vl gp), (sg, oX7 bb clk fi la ml mm sl sm u.1), (clk, oX1 clm), (clm, iA G 36 u.2.1), (fi, iA G 12 u.2.2.1), (la, iA G 12 u.2.2.2.1), (ml, iA G 12 u.2.2.2.2.1), (mm, iA G 12 u.2.2.2.2.2.1), (sl, iA G 12 u.2.2.2.2.2.2.1), (sm, iA G 12 u.2.2.2.2.2.2.2), (bpapers, oX8 12 6 bpapersc (nI kbpapers)), (bpapersc, iA G 72 fbpapers), (bstamps, oX8 24 3 bstampsc (nI kbstamps)), (bstampsc, iA G 72 fbstamps)])
set_option maxHeartbeats 4000000 in
set_option maxRecDepth 100000 in
theorem p_before (l : Launch) (G : GG) (h0 : Nat) (x1 : Int32) (x2 : Int32) (bb : Nat) (kk : Nat) (ikp : Int32) (sg : Nat) (do9 : Nat) (ru9 : Nat) (ta9 : Nat) (tp9 : Nat) (ro9 : Nat) (ho9 : Nat) (de9 : Nat) (bpersons : Nat) (bpapers : Nat) (bstamps : Nat) (bversions : Nat) (blines : Nat) (bsteps : Nat) (bsayings : Nat) (bfindings : Nat) (bwarnings : Nat) (bquestions : Nat) (td : Int32) (vd : Int32) (vl : Int32) (gp : Int32) (clk : Nat) (fi : Nat) (la : Nat) (ml : Nat) (mm : Nat) (sl : Nat) (sm : Nat) (cl : Int32) (clm : Nat) (fclm : Nat → Int32) (ffi : Nat → Int32) (fla : Nat → Int32) (fml : Nat → Int32) (fmm : Nat → Int32) (fsl : Nat → Int32) (fsm : Nat → Int32) (bpapersc : Nat) (kbpapers : Nat) (fbpapers : Nat → Int32) (bstampsc : Nat) (kbstamps : Nat) (fbstamps : Nat → Int32) (hkbpapers : kbpapers ≤ 12) (hkbstamps : kbstamps ≤ 24) (hcl : cl = 0 ∨ cl = 1) : K_p_before l G h0 x1 x2 bb kk ikp sg do9 ru9 ta9 tp9 ro9 ho9 de9 bpersons bpapers bstamps bversions blines bsteps bsayings bfindings bwarnings bquestions td vd vl gp clk fi la ml mm sl sm cl clm fclm ffi fla fml fmm fsl fsm bpapersc kbpapers fbpapers bstampsc kbstamps fbstamps := by
  refine MI.start (by decide +kernel) (Nat.le_of_ble_eq_true rfl) ?_
  intro p e s m below meth c A ls hC hK hP hD hS hA hl
  refine absQ (fun Q0 hQ0 => ?_)
  have hl : lv_has ls 3 [(0, .ref h0), (1, .int x1), (2, .int x2)] := hl
  refine Kan8 hC (fun hx hb hr hml hB hown hlocks hnm => ?_)
  refine lv_aload_n hx hb gX11_before_0.1 rfl (lv_at0 hl) ?_
  refine gf_X11_15 hC rfl hK hP 0 rfl rfl gX11_before_0.2.1 ?_
  refine gf_X11_144 hC rfl hK hP 1 rfl rfl gX11_before_0.2.2.1 ?_
  refine lv_iload_n hx hb gX11_before_0.2.2.2.1 rfl (lv_at1 hl) ?_
  refine pV hC hK hl hP hD (c_T_has l G bpapers x1 12 6 bpapersc kbpapers) si_X11_124 [11] sm_11 fm_11 nd_11 rfl rfl rfl rfl rfl (Nat.le_of_ble_eq_true rfl) rm_7_1_2 ⟨by first | exact Nat.le_of_ble_eq_true rfl | exact Nat.zero_le _, by first | exact Nat.le_of_ble_eq_true rfl | exact Nat.zero_le _⟩ gX11_before_0.2.2.2.2.1 (Kors (Keqa fun a2143 => ?_) (Keqa fun a2143 => ?_))
  · refine lv_if_eq (tgt := 33) hx hb gX11_before_0.2.2.2.2.2.1 (by decide) (fun c9 => absurd c9 (by decide)) (fun _ => ?_)
    refine lv_aload_n hx hb gX11_before_0.2.2.2.2.2.2.1 rfl (lv_at0 hl) ?_
    refine gf_X11_15 hC rfl hK hP 0 rfl rfl gX11_before_0.2.2.2.2.2.2.2.1 ?_
    refine gf_X11_144 hC rfl hK hP 1 rfl rfl gX11_before_0.2.2.2.2.2.2.2.2.1 ?_
    refine lv_iload_n hx hb gX11_before_0.2.2.2.2.2.2.2.2.2 rfl (lv_at2 hl) ?_
    refine pV hC hK hl hP hD (c_T_has l G bpapers x2 12 6 bpapersc kbpapers) si_X11_124 [11] sm_11 fm_11 nd_11 rfl rfl rfl rfl rfl (Nat.le_of_ble_eq_true rfl) rm_7_1_2 ⟨by first | exact Nat.le_of_ble_eq_true rfl | exact Nat.zero_le _, by first | exact Nat.le_of_ble_eq_true rfl | exact Nat.zero_le _⟩ gX11_before_1.1 (Kors (Keqa fun a2145 => ?_) (Keqa fun a2145 => ?_))
    · refine lv_if_eq (tgt := 33) hx hb gX11_before_1.2.1 (by decide) (fun c9 => absurd c9 (by decide)) (fun _ => ?_)
      refine lv_iload_n hx hb gX11_before_1.2.2.1 rfl (lv_at1 hl) ?_
      refine lv_iload_n hx hb gX11_before_1.2.2.2.1 rfl (lv_at2 hl) ?_
      refine lv_icmp_ne (tgt := 35) hx hb gX11_before_1.2.2.2.2.1 (by decide) (fun c_30_2146 => ?_) (fun c_30_2146 => ?_)
      · refine lv_aload_n hx hb gX11_before_1.2.2.2.2.2.2.2.1 rfl (lv_at0 hl) ?_
        refine gf_X11_28 hC rfl hK hP 0 rfl rfl gX11_before_1.2.2.2.2.2.2.2.2.1 ?_
        refine lv_aload_n hx hb gX11_before_1.2.2.2.2.2.2.2.2.2 rfl (lv_at0 hl) ?_
        refine gf_X11_15 hC rfl hK hP 0 rfl rfl gX11_before_2.1 ?_
        refine pV hC hK hl hP hD (c_inView l G bb bpersons bpapers bstamps bversions blines bsteps bsayings bfindings bwarnings bquestions td vd vl gp bpapersc kbpapers fbpapers (hkbpapers)) si_X11_97 [1, 11, 12] sm_1_11_12 fm_1_11_12 nd_1_11_12 rfl rfl rfl rfl rfl (Nat.le_of_ble_eq_true rfl) rm_7_3_6 ⟨by first | exact Nat.le_of_ble_eq_true rfl | exact Nat.zero_le _, by first | exact Nat.le_of_ble_eq_true rfl | exact Nat.zero_le _⟩ gX11_before_2.2.1 (fun r2147 hr2147 => ?_)
        refine vV (wr := [(h0, oX11 bb kk ikp sg do9 ru9 ta9 tp9 ro9 ho9 de9), (bpapers, oX8 12 6 bpapersc (nI kbpapers)), (bpapersc, iA G 72 fbpapers)]) hC hK hl hP hD hS hA (c_look l G sg r2147 bb clk fi la ml mm sl sm cl clm fclm ffi fla fml fmm fsl fsm bpersons bpapers bstamps bversions blines bsteps bsayings bfindings bwarnings bquestions td vd vl gp bstampsc kbstamps fbstamps (hkbstamps)) si_X11_183 [2, 3, 4, 5, 6, 7, 8, 9, 10, 1, 13, 14] [0, 11, 12] sm_2_3_4_5_6_7_8_9_10_1_13_14 fm_2_3_4_5_6_7_8_9_10_1_13_14 nd_2_3_4_5_6_7_8_9_10_1_13_14 sm_0_11_12 nd_0_11_12 dj_2_3_4_5_6_7_8_9_10_1_13_14__0_11_12 rfl rfl rfl rfl rfl (Nat.le_of_ble_eq_true rfl) rm_7_5_4 ⟨Nat.le_of_ble_eq_true rfl, Nat.le_of_ble_eq_true rfl⟩ gX11_before_2.2.2.1 (Ktu8 fun cl12150 gclm2151 gfi2152 gla2153 gml2154 gmm2155 gsl2156 gsm2157 => ?_)
        intro H locs hr2148 hP hD hS
        try dsimp only at hr2148
        refine Kpdr (ws := [(h0, oX11 bb kk ikp sg do9 ru9 ta9 tp9 ro9 ho9 de9), (bpapers, oX8 12 6 bpapersc (nI kbpapers)), (bpapersc, iA G 72 fbpapers), (sg, oX7 bb clk fi la ml mm sl sm cl12150), (clk, oX1 clm), (clm, iA G 36 gclm2151), (fi, iA G 12 gfi2152), (la, iA G 12 gla2153), (ml, iA G 12 gml2154), (mm, iA G 12 gmm2155), (sl, iA G 12 gsl2156), (sm, iA G 12 gsm2157), (bb, oX0 bpersons bpapers bstamps bversions blines bsteps bsayings bfindings bwarnings bquestions td vd vl gp), (bstamps, oX8 24 3 bstampsc (nI kbstamps)), (bstampsc, iA G 72 fbstamps)]) hP hD (fun hP hD => ?_)
        have w2158 := hr2148
        refine lv_aload_n hx hb gX11_before_2.2.2.2.1 rfl (lv_at0 hl) ?_
        refine gf_X11_28 hC rfl hK hP 0 rfl rfl gX11_before_2.2.2.2.2.1 ?_
        refine lv_iload_n hx hb gX11_before_2.2.2.2.2.2.1 rfl (lv_at1 hl) ?_
        refine pV hC hK hl hP hD (c_isSent l G sg x1 bb clk fi la ml mm sl sm cl12150 gla2153) si_X11_194 [3, 7] sm_3_7 fm_3_7 nd_3_7 rfl rfl rfl rfl rfl (Nat.le_of_ble_eq_true rfl) rm_7_1_2 ⟨by first | exact Nat.le_of_ble_eq_true rfl | exact Nat.zero_le _, by first | exact Nat.le_of_ble_eq_true rfl | exact Nat.zero_le _⟩ gX11_before_2.2.2.2.2.2.2.1 (Kors (Keqa fun a2160 => ?_) (Keqr ?_))
        · refine lv_if_eq (tgt := 71) hx hb gX11_before_2.2.2.2.2.2.2.2.1 (by decide) (fun c9 => absurd c9 (by decide)) (fun _ => ?_)
          refine lv_aload_n hx hb gX11_before_2.2.2.2.2.2.2.2.2.1 rfl (lv_at0 hl) ?_
          refine gf_X11_28 hC rfl hK hP 0 rfl rfl gX11_before_2.2.2.2.2.2.2.2.2.2 ?_
          refine lv_iload_n hx hb gX11_before_3.1 rfl (lv_at2 hl) ?_
          refine pV hC hK hl hP hD (c_isSent l G sg x2 bb clk fi la ml mm sl sm cl12150 gla2153) si_X11_194 [3, 7] sm_3_7 fm_3_7 nd_3_7 rfl rfl rfl rfl rfl (Nat.le_of_ble_eq_true rfl) rm_7_1_2 ⟨by first | exact Nat.le_of_ble_eq_true rfl | exact Nat.zero_le _, by first | exact Nat.le_of_ble_eq_true rfl | exact Nat.zero_le _⟩ gX11_before_3.2.1 (Kors (Keqa fun a2162 => ?_) (Keqr ?_))
          · refine lv_if_ne (tgt := 74) hx hb gX11_before_3.2.2.1 (by decide) (fun _ => ?_) (fun c9 => absurd c9 (by decide))
            refine lv_aload_n hx hb gX11_before_3.2.2.2.2.2.1 rfl (lv_at0 hl) ?_
            refine gf_X11_28 hC rfl hK hP 0 rfl rfl gX11_before_3.2.2.2.2.2.2.1 ?_
            refine lv_iload_n hx hb gX11_before_3.2.2.2.2.2.2.2.1 rfl (lv_at1 hl) ?_
            refine lv_iload_n hx hb gX11_before_3.2.2.2.2.2.2.2.2.1 rfl (lv_at2 hl) ?_
            refine pV hC hK hl hP hD (c_leastBetween l G sg x1 x2 bb clk fi la ml mm sl sm cl12150 gla2153 clm gclm2151 bpersons bpapers bstamps bversions blines bsteps bsayings bfindings bwarnings bquestions td vd vl gp bstampsc kbstamps fbstamps (hkbstamps)) si_X11_207 [3, 7, 4, 5, 12, 13, 14] sm_3_7_4_5_12_13_14 fm_3_7_4_5_12_13_14 nd_3_7_4_5_12_13_14 rfl rfl rfl rfl rfl (Nat.le_of_ble_eq_true rfl) rm_7_4_3 ⟨by first | exact Nat.le_of_ble_eq_true rfl | exact Nat.zero_le _, by first | exact Nat.le_of_ble_eq_true rfl | exact Nat.zero_le _⟩ gX11_before_3.2.2.2.2.2.2.2.2.2 (fun r2163 hr2163 => ?_)
            refine lv_if_le (tgt := 88) hx hb gX11_before_4.1 (by decide) (fun c_83_2164 => ?_) (fun c_83_2164 => ?_)
            · refine lv_aload_n hx hb gX11_before_4.2.2.2.1 rfl (lv_at0 hl) ?_
              refine gf_X11_28 hC rfl hK hP 0 rfl rfl gX11_before_4.2.2.2.2.1 ?_
              refine lv_iload_n hx hb gX11_before_4.2.2.2.2.2.1 rfl (lv_at1 hl) ?_
              refine lv_iload_n hx hb gX11_before_4.2.2.2.2.2.2.1 rfl (lv_at2 hl) ?_
              refine pV hC hK hl hP hD (c_mostBetween l G sg x1 x2 bb clk fi la ml mm sl sm cl12150 gla2153 clm gclm2151 bpersons bpapers bstamps bversions blines bsteps bsayings bfindings bwarnings bquestions td vd vl gp bstampsc kbstamps fbstamps (hkbstamps)) si_X11_210 [3, 7, 4, 5, 12, 13, 14] sm_3_7_4_5_12_13_14 fm_3_7_4_5_12_13_14 nd_3_7_4_5_12_13_14 rfl rfl rfl rfl rfl (Nat.le_of_ble_eq_true rfl) rm_7_4_3 ⟨by first | exact Nat.le_of_ble_eq_true rfl | exact Nat.zero_le _, by first | exact Nat.le_of_ble_eq_true rfl | exact Nat.zero_le _⟩ gX11_before_4.2.2.2.2.2.2.2.1 (fun r2165 hr2165 => ?_)
              refine lv_if_le (tgt := 104) hx hb gX11_before_4.2.2.2.2.2.2.2.2.1 (by decide) (fun c_97_2166 => ?_) (fun c_97_2166 => ?_)
              · refine lv_iconst (v := 0) hx hb gX11_before_5.2.1 (by decide) ?_
                refine toQ hQ0 ?_
                exact RI (v := 0) hC hP hD hS [0, 12, 3, 4, 5, 6, 7, 8, 9, 10, 11, 1, 2, 13, 14] (cl12150, gclm2151, gfi2152, gla2153, gml2154, gmm2155, gsl2156, gsm2157) rfl rfl (by decide) (⟨trivial, w2158⟩) rfl gX11_before_5.2.2
              · refine lv_iconst (v := 1) hx hb gX11_before_4.2.2.2.2.2.2.2.2.2 (by decide) ?_
                refine lv_goto (tgt := 105) hx hb gX11_before_5.1 (by decide) ?_
                refine toQ hQ0 ?_
                exact RI (v := 1) hC hP hD hS [0, 12, 3, 4, 5, 6, 7, 8, 9, 10, 11, 1, 2, 13, 14] (cl12150, gclm2151, gfi2152, gla2153, gml2154, gmm2155, gsl2156, gsm2157) rfl rfl (by decide) (⟨trivial, w2158⟩) rfl gX11_before_5.2.2
            · refine lv_iconst (v := 2) hx hb gX11_before_4.2.1 (by decide) ?_
              refine toQ hQ0 ?_
              exact RI (v := 2) hC hP hD hS [0, 12, 3, 4, 5, 6, 7, 8, 9, 10, 11, 1, 2, 13, 14] (cl12150, gclm2151, gfi2152, gla2153, gml2154, gmm2155, gsl2156, gsm2157) rfl rfl (by decide) (⟨trivial, w2158⟩) rfl gX11_before_4.2.2.1
          · refine lv_if_ne (tgt := 74) hx hb gX11_before_3.2.2.1 (by decide) (fun c9 => absurd (by decide) c9) (fun _ => ?_)
            refine lv_bipush (v := (-3)) hx hb gX11_before_3.2.2.2.1 (by decide) ?_
            refine toQ hQ0 ?_
            exact RI (v := (-3)) hC hP hD hS [0, 12, 3, 4, 5, 6, 7, 8, 9, 10, 11, 1, 2, 13, 14] (cl12150, gclm2151, gfi2152, gla2153, gml2154, gmm2155, gsl2156, gsm2157) rfl rfl (by decide) (⟨trivial, w2158⟩) rfl gX11_before_3.2.2.2.2.1
        · refine lv_if_eq (tgt := 71) hx hb gX11_before_2.2.2.2.2.2.2.2.1 (by decide) (fun _ => ?_) (fun c9 => absurd (by decide) c9)
          refine lv_bipush (v := (-3)) hx hb gX11_before_3.2.2.2.1 (by decide) ?_
          refine toQ hQ0 ?_
          exact RI (v := (-3)) hC hP hD hS [0, 12, 3, 4, 5, 6, 7, 8, 9, 10, 11, 1, 2, 13, 14] (cl12150, gclm2151, gfi2152, gla2153, gml2154, gmm2155, gsl2156, gsm2157) rfl rfl (by decide) (⟨trivial, w2158⟩) rfl gX11_before_3.2.2.2.2.1
      · refine lv_iconst (v := (-1)) hx hb gX11_before_1.2.2.2.2.2.1 (by decide) ?_
        refine toQ hQ0 ?_
        exact RI (v := (-1)) hC hP hD hS [0, 1, 2, 3, 4, 5, 6, 7, 8, 9, 10, 11, 12, 13, 14] (cl, fclm, ffi, fla, fml, fmm, fsl, fsm) rfl rfl (by decide) (⟨trivial, hcl⟩) rfl gX11_before_1.2.2.2.2.2.2.1
    · refine lv_if_eq (tgt := 33) hx hb gX11_before_1.2.1 (by decide) (fun _ => ?_) (fun c9 => absurd (by decide) c9)
      refine lv_iconst (v := (-1)) hx hb gX11_before_1.2.2.2.2.2.1 (by decide) ?_
      refine toQ hQ0 ?_
      exact RI (v := (-1)) hC hP hD hS [0, 1, 2, 3, 4, 5, 6, 7, 8, 9, 10, 11, 12, 13, 14] (cl, fclm, ffi, fla, fml, fmm, fsl, fsm) rfl rfl (by decide) (⟨trivial, hcl⟩) rfl gX11_before_1.2.2.2.2.2.2.1
  · refine lv_if_eq (tgt := 33) hx hb gX11_before_0.2.2.2.2.2.1 (by decide) (fun _ => ?_) (fun c9 => absurd (by decide) c9)
    refine lv_iconst (v := (-1)) hx hb gX11_before_1.2.2.2.2.2.1 (by decide) ?_
    refine toQ hQ0 ?_
    exact RI (v := (-1)) hC hP hD hS [0, 1, 2, 3, 4, 5, 6, 7, 8, 9, 10, 11, 12, 13, 14] (cl, fclm, ffi, fla, fml, fmm, fsl, fsm) rfl rfl (by decide) (⟨trivial, hcl⟩) rfl gX11_before_1.2.2.2.2.2.2.1
def K_c_aheadX (l : Launch) (G : GG) (h0 : Nat) (jc : Nat) (mo : Int32) (bb : Nat) (clk : Nat) (fi : Nat) (la : Nat) (ml : Nat) (mm : Nat) (sl : Nat) (sm : Nat) (cl : Int32) (clm : Nat) (fclm : Nat → Int32) : Prop := MP l G yX7_ahead cX7_ahead 3 (some .int) 2 [.ref h0, .int (nI jc), .int mo] [(h0, oX7 bb clk fi la ml mm sl sm cl), (clk, oX1 clm), (clm, iA G 36 fclm)] (fun r : Int32 => (r = (fclm (0 * 6 + jc)) ∧ ¬ mo = 0) ∨ (r = (-(fclm (jc * 6 + 0))) ∧ mo = 0))
set_option maxHeartbeats 4000000 in
set_option maxRecDepth 100000 in
theorem c_aheadX (l : Launch) (G : GG) (h0 : Nat) (jc : Nat) (mo : Int32) (bb : Nat) (clk : Nat) (fi : Nat) (la : Nat) (ml : Nat) (mm : Nat) (sl : Nat) (sm : Nat) (cl : Int32) (clm : Nat) (fclm : Nat → Int32) (hjc : jc < 6) : K_c_aheadX l G h0 jc mo bb clk fi la ml mm sl sm cl clm fclm := by
  refine MP.start (by decide +kernel) (Nat.le_of_ble_eq_true rfl) ?_
  intro p e s m below meth c ls hC hK hP hD hl
  refine absQ (fun Q0 hQ0 => ?_)
  have hl : lv_has ls 3 [(0, .ref h0), (1, .int (nI jc)), (2, .int mo)] := hl
  refine Kan8 hC (fun hx hb hr hml hB hown hlocks hnm => ?_)
  refine lv_iload_n hx hb gX7_ahead_0.1 rfl (lv_at2 hl) ?_
  refine lv_if_eq (tgt := 16) hx hb gX7_ahead_0.2.1 (by decide) (fun c_1_2167 => ?_) (fun c_1_2167 => ?_)
  · refine lv_aload_n hx hb gX7_ahead_0.2.2.2.2.2.2.2.2.1 rfl (lv_at0 hl) ?_
    refine gf_X7_12 hC rfl hK hP 0 rfl rfl gX7_ahead_0.2.2.2.2.2.2.2.2.2 ?_
    refine lv_iload_n hx hb gX7_ahead_1.1 rfl (lv_at1 hl) ?_
    refine lv_iconst (v := 0) hx hb gX7_ahead_1.2.1 (by decide) ?_
    refine pV hC hK hl hP hD (c_mostAheadX l G clk jc 0 clm fclm (hjc) (by omega)) si_X7_87 [1, 2] sm_1_2 fm_1_2 nd_1_2 rfl rfl rfl rfl rfl (Nat.le_of_ble_eq_true rfl) rm_2_1_3 ⟨by first | exact Nat.le_of_ble_eq_true rfl | exact Nat.zero_le _, by first | exact Nat.le_of_ble_eq_true rfl | exact Nat.zero_le _⟩ gX7_ahead_1.2.2.1 (Keqr ?_)
    refine lv_ineg hx hb gX7_ahead_1.2.2.2.1 ?_
    refine toQ hQ0 ?_
    exact RP (v := -(fclm (jc * 6 + 0))) hC (Or.inr ⟨rfl, c_1_2167⟩) rfl gX7_ahead_1.2.2.2.2
  · refine lv_aload_n hx hb gX7_ahead_0.2.2.1 rfl (lv_at0 hl) ?_
    refine gf_X7_12 hC rfl hK hP 0 rfl rfl gX7_ahead_0.2.2.2.1 ?_
    refine lv_iconst (v := 0) hx hb gX7_ahead_0.2.2.2.2.1 (by decide) ?_
    refine lv_iload_n hx hb gX7_ahead_0.2.2.2.2.2.1 rfl (lv_at1 hl) ?_
    refine pV hC hK hl hP hD (c_mostAheadX l G clk 0 jc clm fclm (by omega) (hjc)) si_X7_87 [1, 2] sm_1_2 fm_1_2 nd_1_2 rfl rfl rfl rfl rfl (Nat.le_of_ble_eq_true rfl) rm_2_1_3 ⟨by first | exact Nat.le_of_ble_eq_true rfl | exact Nat.zero_le _, by first | exact Nat.le_of_ble_eq_true rfl | exact Nat.zero_le _⟩ gX7_ahead_0.2.2.2.2.2.2.1 (Keqr ?_)
    refine lv_goto (tgt := 26) hx hb gX7_ahead_0.2.2.2.2.2.2.2.1 (by decide) ?_
    refine toQ hQ0 ?_
    exact RP (v := (fclm (0 * 6 + jc))) hC (Or.inl ⟨rfl, c_1_2167⟩) rfl gX7_ahead_1.2.2.2.2
def K_c_clashesX (l : Launch) (G : GG) (h0 : Nat) (bb : Nat) (clk : Nat) (fi : Nat) (la : Nat) (ml : Nat) (mm : Nat) (sl : Nat) (sm : Nat) (cl : Int32) : Prop := MP l G yX7_clashes cX7_clashes 1 (some .boolean) 1 [.ref h0] [(h0, oX7 bb clk fi la ml mm sl sm cl)] (fun r : Int32 => (r = 1 ∧ cl = 1) ∨ (r = 0 ∧ cl = 0))
set_option maxHeartbeats 4000000 in
set_option maxRecDepth 100000 in
theorem c_clashesX (l : Launch) (G : GG) (h0 : Nat) (bb : Nat) (clk : Nat) (fi : Nat) (la : Nat) (ml : Nat) (mm : Nat) (sl : Nat) (sm : Nat) (cl : Int32) (hcl : cl = 0 ∨ cl = 1) : K_c_clashesX l G h0 bb clk fi la ml mm sl sm cl := by
  refine MP.start (by decide +kernel) (Nat.le_of_ble_eq_true rfl) ?_
  intro p e s m below meth c ls hC hK hP hD hl
  refine absQ (fun Q0 hQ0 => ?_)
  have hl : lv_has ls 1 [(0, .ref h0)] := hl
  refine Kan8 hC (fun hx hb hr hml hB hown hlocks hnm => ?_)
  rcases hcl with rfl | rfl
  · refine lv_aload_n hx hb gX7_clashes_0.1 rfl (lv_at0 hl) ?_
    refine gf_X7_41 hC rfl hK hP 0 rfl rfl gX7_clashes_0.2.1 ?_
    refine toQ hQ0 ?_
    exact RP (v := 0) hC (Or.inr ⟨rfl, rfl⟩) (by decide +kernel) gX7_clashes_0.2.2
  · refine lv_aload_n hx hb gX7_clashes_0.1 rfl (lv_at0 hl) ?_
    refine gf_X7_41 hC rfl hK hP 0 rfl rfl gX7_clashes_0.2.1 ?_
    refine toQ hQ0 ?_
    exact RP (v := 1) hC (Or.inl ⟨rfl, rfl⟩) (by decide +kernel) gX7_clashes_0.2.2
def K_c_isSentX (l : Launch) (G : GG) (h0 : Nat) (jp : Nat) (bb : Nat) (clk : Nat) (fi : Nat) (la : Nat) (ml : Nat) (mm : Nat) (sl : Nat) (sm : Nat) (cl : Int32) (fla : Nat → Int32) : Prop := MP l G yX7_isSent cX7_isSent 2 (some .boolean) 1 [.ref h0, .int (nI jp)] [(h0, oX7 bb clk fi la ml mm sl sm cl), (la, iA G 12 fla)] (fun r : Int32 => (r = 1 ∧ (cl = 0 ∧ ¬ fla jp < 0)) ∨ (r = 0 ∧ ¬ (cl = 0 ∧ ¬ fla jp < 0)))
set_option maxHeartbeats 4000000 in
set_option maxRecDepth 100000 in
theorem c_isSentX (l : Launch) (G : GG) (h0 : Nat) (jp : Nat) (bb : Nat) (clk : Nat) (fi : Nat) (la : Nat) (ml : Nat) (mm : Nat) (sl : Nat) (sm : Nat) (cl : Int32) (fla : Nat → Int32) (hjp : jp < 12) : K_c_isSentX l G h0 jp bb clk fi la ml mm sl sm cl fla := by
  refine MP.start (by decide +kernel) (Nat.le_of_ble_eq_true rfl) ?_
  intro p e s m below meth c ls hC hK hP hD hl
  refine absQ (fun Q0 hQ0 => ?_)
  have hl : lv_has ls 2 [(0, .ref h0), (1, .int (nI jp))] := hl
  refine Kan8 hC (fun hx hb hr hml hB hown hlocks hnm => ?_)
  refine lv_aload_n hx hb gX7_isSent_0.1 rfl (lv_at0 hl) ?_
  refine gf_X7_41 hC rfl hK hP 0 rfl rfl gX7_isSent_0.2.1 ?_
  refine lv_if_ne (tgt := 30) hx hb gX7_isSent_0.2.2.1 (by decide) (fun c_4_2172 => ?_) (fun c_4_2172 => ?_)
  · refine lv_iconst (v := 0) hx hb gX7_isSent_1.2.2.2.2.2.1 (by decide) ?_
    refine toQ hQ0 ?_
    exact RP (v := 0) hC (Or.inr ⟨rfl, fun h9 => c_4_2172 h9.1⟩) (by decide +kernel) gX7_isSent_1.2.2.2.2.2.2
  · refine lv_iload_n hx hb gX7_isSent_0.2.2.2.1 rfl (lv_at1 hl) ?_
    refine lv_if_lt (tgt := 30) hx hb gX7_isSent_0.2.2.2.2.1 (by decide) (fun c9 => absurd c9 (nI_pos (by omega))) (fun _ => ?_)
    refine lv_iload_n hx hb gX7_isSent_0.2.2.2.2.2.1 rfl (lv_at1 hl) ?_
    refine lv_bipush (v := 12) hx hb gX7_isSent_0.2.2.2.2.2.2.1 (by decide) ?_
    refine lv_icmp_ge (tgt := 30) hx hb gX7_isSent_0.2.2.2.2.2.2.2.1 (by decide) (fun c9 => absurd c9 (nI_ge (a := jp) (b := 12) (by omega) (by omega))) (fun _ => ?_)
    refine lv_aload_n hx hb gX7_isSent_0.2.2.2.2.2.2.2.2.1 rfl (lv_at0 hl) ?_
    refine gf_X7_22 hC rfl hK hP 0 rfl rfl gX7_isSent_0.2.2.2.2.2.2.2.2.2 ?_
    refine lv_iload_n hx hb gX7_isSent_1.1 rfl (lv_at1 hl) ?_
    refine aldN hC hK hP 1 rfl (k := jp) (by omega) (Nat.le_of_ble_eq_true rfl) (v := fla jp) rfl gX7_isSent_1.2.1 ?_
    refine lv_if_lt (tgt := 30) hx hb gX7_isSent_1.2.2.1 (by decide) (fun c_23_2173 => ?_) (fun c_23_2173 => ?_)
    · refine lv_iconst (v := 0) hx hb gX7_isSent_1.2.2.2.2.2.1 (by decide) ?_
      refine toQ hQ0 ?_
      exact RP (v := 0) hC (Or.inr ⟨rfl, fun h9 => h9.2 c_23_2173⟩) (by decide +kernel) gX7_isSent_1.2.2.2.2.2.2
    · refine lv_iconst (v := 1) hx hb gX7_isSent_1.2.2.2.1 (by decide) ?_
      refine lv_goto (tgt := 31) hx hb gX7_isSent_1.2.2.2.2.1 (by decide) ?_
      refine toQ hQ0 ?_
      exact RP (v := 1) hC (Or.inl ⟨rfl, c_4_2172, c_23_2173⟩) (by decide +kernel) gX7_isSent_1.2.2.2.2.2.2
def K_c_sentHourX (l : Launch) (G : GG) (h0 : Nat) (jp : Nat) (mo : Int32) (bb : Nat) (clk : Nat) (fi : Nat) (la : Nat) (ml : Nat) (mm : Nat) (sl : Nat) (sm : Nat) (cl : Int32) (fla : Nat → Int32) (fsl : Nat → Int32) (fsm : Nat → Int32) : Prop := MP l G yX7_sentHour cX7_sentHour 3 (some .int) 2 [.ref h0, .int (nI jp), .int mo] [(h0, oX7 bb clk fi la ml mm sl sm cl), (la, iA G 12 fla), (sl, iA G 12 fsl), (sm, iA G 12 fsm)] (fun r : Int32 => (r = (fsm jp) ∧ ¬ mo = 0) ∨ (r = (fsl jp) ∧ mo = 0))
set_option maxHeartbeats 4000000 in
set_option maxRecDepth 100000 in
theorem c_sentHourX (l : Launch) (G : GG) (h0 : Nat) (jp : Nat) (mo : Int32) (bb : Nat) (clk : Nat) (fi : Nat) (la : Nat) (ml : Nat) (mm : Nat) (sl : Nat) (sm : Nat) (cl : Int32) (fla : Nat → Int32) (fsl : Nat → Int32) (fsm : Nat → Int32) (hsn : (cl = 0 ∧ ¬ fla jp < 0)) (hjp : jp < 12) : K_c_sentHourX l G h0 jp mo bb clk fi la ml mm sl sm cl fla fsl fsm := by
  refine MP.start (by decide +kernel) (Nat.le_of_ble_eq_true rfl) ?_
  intro p e s m below meth c ls hC hK hP hD hl
  refine absQ (fun Q0 hQ0 => ?_)
  have hl : lv_has ls 3 [(0, .ref h0), (1, .int (nI jp)), (2, .int mo)] := hl
  refine Kan8 hC (fun hx hb hr hml hB hown hlocks hnm => ?_)
  refine lv_aload_n hx hb gX7_sentHour_0.1 rfl (lv_at0 hl) ?_
  refine lv_iload_n hx hb gX7_sentHour_0.2.1 rfl (lv_at1 hl) ?_
  refine pV hC hK hl hP hD (c_isSentX l G h0 jp bb clk fi la ml mm sl sm cl fla (hjp)) si_X7_90 [0, 1] sm_0_1 fm_0_1 nd_0_1 rfl rfl rfl rfl rfl (Nat.le_of_ble_eq_true rfl) rm_2_1_2 ⟨by first | exact Nat.le_of_ble_eq_true rfl | exact Nat.zero_le _, by first | exact Nat.le_of_ble_eq_true rfl | exact Nat.zero_le _⟩ gX7_sentHour_0.2.2.1 (Kors (Keqa fun a2175 => ?_) (Keqa fun a2175 => ?_))
  · refine lv_if_ne (tgt := 10) hx hb gX7_sentHour_0.2.2.2.1 (by decide) (fun _ => ?_) (fun c9 => absurd c9 (by decide))
    refine lv_iload_n hx hb gX7_sentHour_0.2.2.2.2.2.2.1 rfl (lv_at2 hl) ?_
    refine lv_if_eq (tgt := 23) hx hb gX7_sentHour_0.2.2.2.2.2.2.2.1 (by decide) (fun c_11_2176 => ?_) (fun c_11_2176 => ?_)
    · refine lv_aload_n hx hb gX7_sentHour_1.2.2.2.1 rfl (lv_at0 hl) ?_
      refine gf_X7_31 hC rfl hK hP 0 rfl rfl gX7_sentHour_1.2.2.2.2.1 ?_
      refine lv_iload_n hx hb gX7_sentHour_1.2.2.2.2.2.1 rfl (lv_at1 hl) ?_
      refine aldN hC hK hP 2 rfl (k := jp) (by omega) (Nat.le_of_ble_eq_true rfl) (v := fsl jp) rfl gX7_sentHour_1.2.2.2.2.2.2.1 ?_
      refine toQ hQ0 ?_
      exact RP (v := fsl jp) hC (Or.inr ⟨rfl, c_11_2176⟩) rfl gX7_sentHour_1.2.2.2.2.2.2.2
    · refine lv_aload_n hx hb gX7_sentHour_0.2.2.2.2.2.2.2.2.1 rfl (lv_at0 hl) ?_
      refine gf_X7_34 hC rfl hK hP 0 rfl rfl gX7_sentHour_0.2.2.2.2.2.2.2.2.2 ?_
      refine lv_iload_n hx hb gX7_sentHour_1.1 rfl (lv_at1 hl) ?_
      refine aldN hC hK hP 3 rfl (k := jp) (by omega) (Nat.le_of_ble_eq_true rfl) (v := fsm jp) rfl gX7_sentHour_1.2.1 ?_
      refine lv_goto (tgt := 29) hx hb gX7_sentHour_1.2.2.1 (by decide) ?_
      refine toQ hQ0 ?_
      exact RP (v := fsm jp) hC (Or.inl ⟨rfl, c_11_2176⟩) rfl gX7_sentHour_1.2.2.2.2.2.2.2
  · exact absurd hsn a2175
def K_c_isInHandX (l : Launch) (G : GG) (h0 : Nat) (jp : Nat) (je : Nat) (bb : Nat) (clk : Nat) (fi : Nat) (la : Nat) (ml : Nat) (mm : Nat) (sl : Nat) (sm : Nat) (cl : Int32) (fla : Nat → Int32) (bpersons : Nat) (bpapers : Nat) (bstamps : Nat) (bversions : Nat) (blines : Nat) (bsteps : Nat) (bsayings : Nat) (bfindings : Nat) (bwarnings : Nat) (bquestions : Nat) (td : Int32) (vd : Int32) (vl : Int32) (gp : Int32) (bpapersc : Nat) (kbpapers : Nat) (fbpapers : Nat → Int32) : Prop := MP l G yX7_isInHand cX7_isInHand 3 (some .boolean) 3 [.ref h0, .int (nI jp), .int (nI je)] [(h0, oX7 bb clk fi la ml mm sl sm cl), (la, iA G 12 fla), (bb, oX0 bpersons bpapers bstamps bversions blines bsteps bsayings bfindings bwarnings bquestions td vd vl gp), (bpapers, oX8 12 6 bpapersc (nI kbpapers)), (bpapersc, iA G 72 fbpapers)] (fun r : Int32 => (r = 1 ∧ ((cl = 0 ∧ ¬ fla jp < 0) ∧ (fbpapers (jp * 6 + 0) = nI je ∨ HB (fbpapers (jp * 6 + 1)) (nI je)))) ∨ (r = 0 ∧ ¬ ((cl = 0 ∧ ¬ fla jp < 0) ∧ (fbpapers (jp * 6 + 0) = nI je ∨ HB (fbpapers (jp * 6 + 1)) (nI je)))))
set_option maxHeartbeats 4000000 in
set_option maxRecDepth 100000 in
theorem c_isInHandX (l : Launch) (G : GG) (h0 : Nat) (jp : Nat) (je : Nat) (bb : Nat) (clk : Nat) (fi : Nat) (la : Nat) (ml : Nat) (mm : Nat) (sl : Nat) (sm : Nat) (cl : Int32) (fla : Nat → Int32) (bpersons : Nat) (bpapers : Nat) (bstamps : Nat) (bversions : Nat) (blines : Nat) (bsteps : Nat) (bsayings : Nat) (bfindings : Nat) (bwarnings : Nat) (bquestions : Nat) (td : Int32) (vd : Int32) (vl : Int32) (gp : Int32) (bpapersc : Nat) (kbpapers : Nat) (fbpapers : Nat → Int32) (hkbpapers : kbpapers ≤ 12) (hjp : jp < kbpapers) (hje : je < 10) : K_c_isInHandX l G h0 jp je bb clk fi la ml mm sl sm cl fla bpersons bpapers bstamps bversions blines bsteps bsayings bfindings bwarnings bquestions td vd vl gp bpapersc kbpapers fbpapers := by
  refine MP.start (by decide +kernel) (Nat.le_of_ble_eq_true rfl) ?_
  intro p e s m below meth c ls hC hK hP hD hl
  refine absQ (fun Q0 hQ0 => ?_)
  have hl : lv_has ls 3 [(0, .ref h0), (1, .int (nI jp)), (2, .int (nI je))] := hl
  refine Kan8 hC (fun hx hb hr hml hB hown hlocks hnm => ?_)
  refine lv_aload_n hx hb gX7_isInHand_0.1 rfl (lv_at0 hl) ?_
  refine lv_iload_n hx hb gX7_isInHand_0.2.1 rfl (lv_at1 hl) ?_
  refine pV hC hK hl hP hD (c_isSentX l G h0 jp bb clk fi la ml mm sl sm cl fla (by omega)) si_X7_90 [0, 1] sm_0_1 fm_0_1 nd_0_1 rfl rfl rfl rfl rfl (Nat.le_of_ble_eq_true rfl) rm_3_1_2 ⟨by first | exact Nat.le_of_ble_eq_true rfl | exact Nat.zero_le _, by first | exact Nat.le_of_ble_eq_true rfl | exact Nat.zero_le _⟩ gX7_isInHand_0.2.2.1 (Kors (Keqa fun a2178 => ?_) (Keqa fun a2178 => ?_))
  · refine lv_if_eq (tgt := 47) hx hb gX7_isInHand_0.2.2.2.1 (by decide) (fun c9 => absurd c9 (by decide)) (fun _ => ?_)
    refine lv_aload_n hx hb gX7_isInHand_0.2.2.2.2.1 rfl (lv_at0 hl) ?_
    refine gf_X7_37 hC rfl hK hP 0 rfl rfl gX7_isInHand_0.2.2.2.2.2.1 ?_
    refine gf_X7_94 hC rfl hK hP 2 rfl rfl gX7_isInHand_0.2.2.2.2.2.2.1 ?_
    refine lv_iload_n hx hb gX7_isInHand_0.2.2.2.2.2.2.2.1 rfl (lv_at1 hl) ?_
    refine lv_iconst (v := 0) hx hb gX7_isInHand_0.2.2.2.2.2.2.2.2.1 (by decide) ?_
    refine pV hC hK hl hP hD (c_T_at l G bpapers (nI jp) 0 12 6 bpapersc kbpapers fbpapers (hkbpapers) (by omega) (by omega)) si_X7_60 [3, 4] sm_3_4 fm_3_4 nd_3_4 rfl rfl rfl rfl rfl (Nat.le_of_ble_eq_true rfl) rm_3_1_3 ⟨by first | exact Nat.le_of_ble_eq_true rfl | exact Nat.zero_le _, by first | exact Nat.le_of_ble_eq_true rfl | exact Nat.zero_le _⟩ gX7_isInHand_0.2.2.2.2.2.2.2.2.2 (fun r2179 hr2179 => ?_)
    refine eqi (x1 := fbpapers (jp * 6 + 0)) (hr2179.trans (tatq (by omega) (by omega) (by decide) (by decide) rfl)) ?_
    refine lv_iload_n hx hb gX7_isInHand_1.1 rfl (lv_at2 hl) ?_
    refine lv_icmp_eq (tgt := 43) hx hb gX7_isInHand_1.2.1 (by decide) (fun c_21_2181 => ?_) (fun c_21_2181 => ?_)
    · refine lv_iconst (v := 1) hx hb gX7_isInHand_2.2.1 (by decide) ?_
      refine lv_goto (tgt := 48) hx hb gX7_isInHand_2.2.2.1 (by decide) ?_
      refine toQ hQ0 ?_
      exact RP (v := 1) hC (Or.inl ⟨rfl, a2178, Or.inl c_21_2181⟩) (by decide +kernel) gX7_isInHand_2.2.2.2.2
    · refine lv_aload_n hx hb gX7_isInHand_1.2.2.1 rfl (lv_at0 hl) ?_
      refine gf_X7_37 hC rfl hK hP 0 rfl rfl gX7_isInHand_1.2.2.2.1 ?_
      refine gf_X7_94 hC rfl hK hP 2 rfl rfl gX7_isInHand_1.2.2.2.2.1 ?_
      refine lv_iload_n hx hb gX7_isInHand_1.2.2.2.2.2.1 rfl (lv_at1 hl) ?_
      refine lv_iconst (v := 1) hx hb gX7_isInHand_1.2.2.2.2.2.2.1 (by decide) ?_
      refine pV hC hK hl hP hD (c_T_at l G bpapers (nI jp) 1 12 6 bpapersc kbpapers fbpapers (hkbpapers) (by omega) (by omega)) si_X7_60 [3, 4] sm_3_4 fm_3_4 nd_3_4 rfl rfl rfl rfl rfl (Nat.le_of_ble_eq_true rfl) rm_3_1_3 ⟨by first | exact Nat.le_of_ble_eq_true rfl | exact Nat.zero_le _, by first | exact Nat.le_of_ble_eq_true rfl | exact Nat.zero_le _⟩ gX7_isInHand_1.2.2.2.2.2.2.2.1 (fun r2182 hr2182 => ?_)
      refine eqi (x1 := fbpapers (jp * 6 + 1)) (hr2182.trans (tatq (by omega) (by omega) (by decide) (by decide) rfl)) ?_
      refine lv_iload_n hx hb gX7_isInHand_1.2.2.2.2.2.2.2.2.1 rfl (lv_at2 hl) ?_
      refine pSN hC hK hl (c_hasBit l G (fbpapers (jp * 6 + 1)) (nI je)) si_X7_68 rfl rfl (Nat.le_of_ble_eq_true rfl) rm_3_1_2 ⟨by first | exact Nat.le_of_ble_eq_true rfl | exact Nat.zero_le _, by first | exact Nat.le_of_ble_eq_true rfl | exact Nat.zero_le _⟩ gX7_isInHand_1.2.2.2.2.2.2.2.2.2 (Kors (Keqa fun a2185 => ?_) (Keqa fun a2185 => ?_))
      · refine lv_if_eq (tgt := 47) hx hb gX7_isInHand_2.1 (by decide) (fun c9 => absurd c9 (by decide)) (fun _ => ?_)
        refine lv_iconst (v := 1) hx hb gX7_isInHand_2.2.1 (by decide) ?_
        refine lv_goto (tgt := 48) hx hb gX7_isInHand_2.2.2.1 (by decide) ?_
        refine toQ hQ0 ?_
        exact RP (v := 1) hC (Or.inl ⟨rfl, a2178, Or.inr a2185⟩) (by decide +kernel) gX7_isInHand_2.2.2.2.2
      · refine lv_if_eq (tgt := 47) hx hb gX7_isInHand_2.1 (by decide) (fun _ => ?_) (fun c9 => absurd (by decide) c9)
        refine lv_iconst (v := 0) hx hb gX7_isInHand_2.2.2.2.1 (by decide) ?_
        refine toQ hQ0 ?_
        exact RP (v := 0) hC (Or.inr ⟨rfl, fun h9 => h9.2.elim c_21_2181 a2185⟩) (by decide +kernel) gX7_isInHand_2.2.2.2.2
  · refine lv_if_eq (tgt := 47) hx hb gX7_isInHand_0.2.2.2.1 (by decide) (fun _ => ?_) (fun c9 => absurd (by decide) c9)
    refine lv_iconst (v := 0) hx hb gX7_isInHand_2.2.2.2.1 (by decide) ?_
    refine toQ hQ0 ?_
    exact RP (v := 0) hC (Or.inr ⟨rfl, fun h9 => a2178 h9.1⟩) (by decide +kernel) gX7_isInHand_2.2.2.2.2
def K_c_handHourX (l : Launch) (G : GG) (h0 : Nat) (jp : Nat) (je : Nat) (mo : Int32) (bb : Nat) (clk : Nat) (fi : Nat) (la : Nat) (ml : Nat) (mm : Nat) (sl : Nat) (sm : Nat) (cl : Int32) (fla : Nat → Int32) (fml : Nat → Int32) (fmm : Nat → Int32) (fsl : Nat → Int32) (fsm : Nat → Int32) (bpersons : Nat) (bpapers : Nat) (bstamps : Nat) (bversions : Nat) (blines : Nat) (bsteps : Nat) (bsayings : Nat) (bfindings : Nat) (bwarnings : Nat) (bquestions : Nat) (td : Int32) (vd : Int32) (vl : Int32) (gp : Int32) (bpapersc : Nat) (kbpapers : Nat) (fbpapers : Nat → Int32) (bpersonsc : Nat) (kbpersons : Nat) (fbpersons : Nat → Int32) : Prop := MP l G yX7_handHour cX7_handHour 4 (some .int) 3 [.ref h0, .int (nI jp), .int (nI je), .int mo] [(h0, oX7 bb clk fi la ml mm sl sm cl), (la, iA G 12 fla), (ml, iA G 12 fml), (mm, iA G 12 fmm), (sl, iA G 12 fsl), (sm, iA G 12 fsm), (bb, oX0 bpersons bpapers bstamps bversions blines bsteps bsayings bfindings bwarnings bquestions td vd vl gp), (bpapers, oX8 12 6 bpapersc (nI kbpapers)), (bpapersc, iA G 72 fbpapers), (bpersons, oX8 10 2 bpersonsc (nI kbpersons)), (bpersonsc, iA G 20 fbpersons)] (fun r : Int32 => (r = (fmm jp) ∧ (fbpapers (jp * 6 + 0) = nI je ∧ ¬ mo = 0)) ∨ (r = (fml jp) ∧ (fbpapers (jp * 6 + 0) = nI je ∧ mo = 0)) ∨ (r = (fsm jp + fbpersons (je * 2 + 1)) ∧ (¬ fbpapers (jp * 6 + 0) = nI je ∧ ¬ mo = 0)) ∨ (r = (fsl jp) ∧ (¬ fbpapers (jp * 6 + 0) = nI je ∧ mo = 0)))
set_option maxHeartbeats 4000000 in
set_option maxRecDepth 100000 in
theorem c_handHourX (l : Launch) (G : GG) (h0 : Nat) (jp : Nat) (je : Nat) (mo : Int32) (bb : Nat) (clk : Nat) (fi : Nat) (la : Nat) (ml : Nat) (mm : Nat) (sl : Nat) (sm : Nat) (cl : Int32) (fla : Nat → Int32) (fml : Nat → Int32) (fmm : Nat → Int32) (fsl : Nat → Int32) (fsm : Nat → Int32) (bpersons : Nat) (bpapers : Nat) (bstamps : Nat) (bversions : Nat) (blines : Nat) (bsteps : Nat) (bsayings : Nat) (bfindings : Nat) (bwarnings : Nat) (bquestions : Nat) (td : Int32) (vd : Int32) (vl : Int32) (gp : Int32) (bpapersc : Nat) (kbpapers : Nat) (fbpapers : Nat → Int32) (bpersonsc : Nat) (kbpersons : Nat) (fbpersons : Nat → Int32) (hkbpapers : kbpapers ≤ 12) (hkbpersons : kbpersons ≤ 10) (hsn : (cl = 0 ∧ ¬ fla jp < 0)) (hjp : jp < kbpapers) (hje : je < kbpersons) : K_c_handHourX l G h0 jp je mo bb clk fi la ml mm sl sm cl fla fml fmm fsl fsm bpersons bpapers bstamps bversions blines bsteps bsayings bfindings bwarnings bquestions td vd vl gp bpapersc kbpapers fbpapers bpersonsc kbpersons fbpersons := by
  refine MP.start (by decide +kernel) (Nat.le_of_ble_eq_true rfl) ?_
  intro p e s m below meth c ls hC hK hP hD hl
  refine absQ (fun Q0 hQ0 => ?_)
  have hl : lv_has ls 4 [(0, .ref h0), (1, .int (nI jp)), (2, .int (nI je)), (3, .int mo)] := hl
  refine Kan8 hC (fun hx hb hr hml hB hown hlocks hnm => ?_)
  refine lv_aload_n hx hb gX7_handHour_0.1 rfl (lv_at0 hl) ?_
  refine lv_iload_n hx hb gX7_handHour_0.2.1 rfl (lv_at1 hl) ?_
  refine pV hC hK hl hP hD (c_isSentX l G h0 jp bb clk fi la ml mm sl sm cl fla (by omega)) si_X7_90 [0, 1] sm_0_1 fm_0_1 nd_0_1 rfl rfl rfl rfl rfl (Nat.le_of_ble_eq_true rfl) rm_3_1_2 ⟨by first | exact Nat.le_of_ble_eq_true rfl | exact Nat.zero_le _, by first | exact Nat.le_of_ble_eq_true rfl | exact Nat.zero_le _⟩ gX7_handHour_0.2.2.1 (Kors (Keqa fun a2187 => ?_) (Keqa fun a2187 => ?_))
  · refine lv_if_ne (tgt := 10) hx hb gX7_handHour_0.2.2.2.1 (by decide) (fun _ => ?_) (fun c9 => absurd c9 (by decide))
    refine lv_aload_n hx hb gX7_handHour_0.2.2.2.2.2.2.1 rfl (lv_at0 hl) ?_
    refine gf_X7_37 hC rfl hK hP 0 rfl rfl gX7_handHour_0.2.2.2.2.2.2.2.1 ?_
    refine gf_X7_94 hC rfl hK hP 6 rfl rfl gX7_handHour_0.2.2.2.2.2.2.2.2.1 ?_
    refine lv_iload_n hx hb gX7_handHour_0.2.2.2.2.2.2.2.2.2 rfl (lv_at1 hl) ?_
    refine lv_iconst (v := 0) hx hb gX7_handHour_1.1 (by decide) ?_
    refine pV hC hK hl hP hD (c_T_at l G bpapers (nI jp) 0 12 6 bpapersc kbpapers fbpapers (hkbpapers) (by omega) (by omega)) si_X7_60 [7, 8] sm_7_8 fm_7_8 nd_7_8 rfl rfl rfl rfl rfl (Nat.le_of_ble_eq_true rfl) rm_3_1_3 ⟨by first | exact Nat.le_of_ble_eq_true rfl | exact Nat.zero_le _, by first | exact Nat.le_of_ble_eq_true rfl | exact Nat.zero_le _⟩ gX7_handHour_1.2.1 (fun r2188 hr2188 => ?_)
    refine eqi (x1 := fbpapers (jp * 6 + 0)) (hr2188.trans (tatq (by omega) (by omega) (by decide) (by decide) rfl)) ?_
    refine lv_iload_n hx hb gX7_handHour_1.2.2.1 rfl (lv_at2 hl) ?_
    refine lv_icmp_ne (tgt := 46) hx hb gX7_handHour_1.2.2.2.1 (by decide) (fun c_23_2190 => ?_) (fun c_23_2190 => ?_)
    · refine lv_iload_n hx hb gX7_handHour_2.2.2.2.2.2.2.1 rfl (lv_at3 hl) ?_
      refine lv_if_eq (tgt := 72) hx hb gX7_handHour_2.2.2.2.2.2.2.2.1 (by decide) (fun c_47_2191 => ?_) (fun c_47_2191 => ?_)
      · refine lv_aload_n hx hb gX7_handHour_4.1 rfl (lv_at0 hl) ?_
        refine gf_X7_31 hC rfl hK hP 0 rfl rfl gX7_handHour_4.2.1 ?_
        refine lv_iload_n hx hb gX7_handHour_4.2.2.1 rfl (lv_at1 hl) ?_
        refine aldN hC hK hP 4 rfl (k := jp) (by omega) (Nat.le_of_ble_eq_true rfl) (v := fsl jp) rfl gX7_handHour_4.2.2.2.1 ?_
        refine toQ hQ0 ?_
        exact RP (v := fsl jp) hC (Or.inr (Or.inr (Or.inr (⟨rfl, c_23_2190, c_47_2191⟩)))) rfl gX7_handHour_4.2.2.2.2
      · refine lv_aload_n hx hb gX7_handHour_2.2.2.2.2.2.2.2.2.1 rfl (lv_at0 hl) ?_
        refine gf_X7_34 hC rfl hK hP 0 rfl rfl gX7_handHour_2.2.2.2.2.2.2.2.2.2 ?_
        refine lv_iload_n hx hb gX7_handHour_3.1 rfl (lv_at1 hl) ?_
        refine aldN hC hK hP 5 rfl (k := jp) (by omega) (Nat.le_of_ble_eq_true rfl) (v := fsm jp) rfl gX7_handHour_3.2.1 ?_
        refine lv_aload_n hx hb gX7_handHour_3.2.2.1 rfl (lv_at0 hl) ?_
        refine gf_X7_37 hC rfl hK hP 0 rfl rfl gX7_handHour_3.2.2.2.1 ?_
        refine gf_X7_97 hC rfl hK hP 6 rfl rfl gX7_handHour_3.2.2.2.2.1 ?_
        refine lv_iload_n hx hb gX7_handHour_3.2.2.2.2.2.1 rfl (lv_at2 hl) ?_
        refine lv_iconst (v := 1) hx hb gX7_handHour_3.2.2.2.2.2.2.1 (by decide) ?_
        refine pV hC hK hl hP hD (c_T_at l G bpersons (nI je) 1 10 2 bpersonsc kbpersons fbpersons (hkbpersons) (by omega) (by omega)) si_X7_60 [9, 10] sm_9_10 fm_9_10 nd_9_10 rfl rfl rfl rfl rfl (Nat.le_of_ble_eq_true rfl) rm_3_1_3 ⟨by first | exact Nat.le_of_ble_eq_true rfl | exact Nat.zero_le _, by first | exact Nat.le_of_ble_eq_true rfl | exact Nat.zero_le _⟩ gX7_handHour_3.2.2.2.2.2.2.2.1 (fun r2192 hr2192 => ?_)
        refine eqi (x1 := fbpersons (je * 2 + 1)) (hr2192.trans (tatq (by omega) (by omega) (by decide) (by decide) rfl)) ?_
        refine lv_iadd hx hb gX7_handHour_3.2.2.2.2.2.2.2.2.1 ?_
        refine lv_goto (tgt := 78) hx hb gX7_handHour_3.2.2.2.2.2.2.2.2.2 (by decide) ?_
        refine toQ hQ0 ?_
        exact RP (v := (fsm jp) + (fbpersons (je * 2 + 1))) hC (Or.inr (Or.inr (Or.inl ⟨rfl, c_23_2190, c_47_2191⟩))) rfl gX7_handHour_4.2.2.2.2
    · refine lv_iload_n hx hb gX7_handHour_1.2.2.2.2.1 rfl (lv_at3 hl) ?_
      refine lv_if_eq (tgt := 39) hx hb gX7_handHour_1.2.2.2.2.2.1 (by decide) (fun c_27_2194 => ?_) (fun c_27_2194 => ?_)
      · refine lv_aload_n hx hb gX7_handHour_2.2.1 rfl (lv_at0 hl) ?_
        refine gf_X7_25 hC rfl hK hP 0 rfl rfl gX7_handHour_2.2.2.1 ?_
        refine lv_iload_n hx hb gX7_handHour_2.2.2.2.1 rfl (lv_at1 hl) ?_
        refine aldN hC hK hP 2 rfl (k := jp) (by omega) (Nat.le_of_ble_eq_true rfl) (v := fml jp) rfl gX7_handHour_2.2.2.2.2.1 ?_
        refine toQ hQ0 ?_
        exact RP (v := fml jp) hC (Or.inr (Or.inl ⟨rfl, c_23_2190, c_27_2194⟩)) rfl gX7_handHour_2.2.2.2.2.2.1
      · refine lv_aload_n hx hb gX7_handHour_1.2.2.2.2.2.2.1 rfl (lv_at0 hl) ?_
        refine gf_X7_28 hC rfl hK hP 0 rfl rfl gX7_handHour_1.2.2.2.2.2.2.2.1 ?_
        refine lv_iload_n hx hb gX7_handHour_1.2.2.2.2.2.2.2.2.1 rfl (lv_at1 hl) ?_
        refine aldN hC hK hP 3 rfl (k := jp) (by omega) (Nat.le_of_ble_eq_true rfl) (v := fmm jp) rfl gX7_handHour_1.2.2.2.2.2.2.2.2.2 ?_
        refine lv_goto (tgt := 45) hx hb gX7_handHour_2.1 (by decide) ?_
        refine toQ hQ0 ?_
        exact RP (v := fmm jp) hC (Or.inl ⟨rfl, c_23_2190, c_27_2194⟩) rfl gX7_handHour_2.2.2.2.2.2.1
  · exact absurd hsn a2187
def K_c_clockOfX (l : Launch) (G : GG) (h0 : Nat) (jp : Nat) (js : Nat) (bb : Nat) (clk : Nat) (fi : Nat) (la : Nat) (ml : Nat) (mm : Nat) (sl : Nat) (sm : Nat) (cl : Int32) (fla : Nat → Int32) (bpersons : Nat) (bpapers : Nat) (bstamps : Nat) (bversions : Nat) (blines : Nat) (bsteps : Nat) (bsayings : Nat) (bfindings : Nat) (bwarnings : Nat) (bquestions : Nat) (td : Int32) (vd : Int32) (vl : Int32) (gp : Int32) (bstampsc : Nat) (kbstamps : Nat) (fbstamps : Nat → Int32) : Prop := MP l G yX7_clockOf cX7_clockOf 2 (some .int) 3 [.ref h0, .int (nI jp)] [(h0, oX7 bb clk fi la ml mm sl sm cl), (la, iA G 12 fla), (bb, oX0 bpersons bpapers bstamps bversions blines bsteps bsayings bfindings bwarnings bquestions td vd vl gp), (bstamps, oX8 24 3 bstampsc (nI kbstamps)), (bstampsc, iA G 72 fbstamps)] (fun r : Int32 => r = nI (CKS fbstamps js))
set_option maxHeartbeats 4000000 in
set_option maxRecDepth 100000 in
theorem c_clockOfX (l : Launch) (G : GG) (h0 : Nat) (jp : Nat) (js : Nat) (bb : Nat) (clk : Nat) (fi : Nat) (la : Nat) (ml : Nat) (mm : Nat) (sl : Nat) (sm : Nat) (cl : Int32) (fla : Nat → Int32) (bpersons : Nat) (bpapers : Nat) (bstamps : Nat) (bversions : Nat) (blines : Nat) (bsteps : Nat) (bsayings : Nat) (bfindings : Nat) (bwarnings : Nat) (bquestions : Nat) (td : Int32) (vd : Int32) (vl : Int32) (gp : Int32) (bstampsc : Nat) (kbstamps : Nat) (fbstamps : Nat → Int32) (hkbstamps : kbstamps ≤ 24) (hSV : SVL fbstamps kbstamps) (hls : fla jp = nI js) (hjp : jp < 12) (hjs : js < kbstamps) : K_c_clockOfX l G h0 jp js bb clk fi la ml mm sl sm cl fla bpersons bpapers bstamps bversions blines bsteps bsayings bfindings bwarnings bquestions td vd vl gp bstampsc kbstamps fbstamps := by
  refine MP.start (by decide +kernel) (Nat.le_of_ble_eq_true rfl) ?_
  intro p e s m below meth c ls hC hK hP hD hl
  refine absQ (fun Q0 hQ0 => ?_)
  have hl : lv_has ls 2 [(0, .ref h0), (1, .int (nI jp))] := hl
  refine Kan8 hC (fun hx hb hr hml hB hown hlocks hnm => ?_)
  have wjp : Wi (nI jp) 0 11 := Wi_j (N := 11) rfl (by decide) (by omega)
  refine lv_iload_n hx hb gX7_clockOf_0.1 rfl (lv_at1 hl) ?_
  refine lv_iconst (v := 0) hx hb gX7_clockOf_0.2.1 (by decide) ?_
  refine lv_bipush (v := 11) hx hb gX7_clockOf_0.2.2.1 (by decide) ?_
  refine pSN hC hK hl (c_within l G (nI jp) 0 11) si_X7_64 rfl rfl (Nat.le_of_ble_eq_true rfl) rm_3_1_3 ⟨by first | exact Nat.le_of_ble_eq_true rfl | exact Nat.zero_le _, by first | exact Nat.le_of_ble_eq_true rfl | exact Nat.zero_le _⟩ gX7_clockOf_0.2.2.2.1 (Kors (Keqa fun a2196 => ?_) (Keqa fun a2196 => ?_))
  · refine lv_if_eq (tgt := 30) hx hb gX7_clockOf_0.2.2.2.2.1 (by decide) (fun c9 => absurd c9 (by decide)) (fun _ => ?_)
    refine lv_aload_n hx hb gX7_clockOf_0.2.2.2.2.2.1 rfl (lv_at0 hl) ?_
    refine gf_X7_37 hC rfl hK hP 0 rfl rfl gX7_clockOf_0.2.2.2.2.2.2.1 ?_
    refine gf_X7_48 hC rfl hK hP 2 rfl rfl gX7_clockOf_0.2.2.2.2.2.2.2.1 ?_
    refine lv_aload_n hx hb gX7_clockOf_0.2.2.2.2.2.2.2.2.1 rfl (lv_at0 hl) ?_
    refine gf_X7_22 hC rfl hK hP 0 rfl rfl gX7_clockOf_0.2.2.2.2.2.2.2.2.2 ?_
    refine lv_iload_n hx hb gX7_clockOf_1.1 rfl (lv_at1 hl) ?_
    refine aldN hC hK hP 1 rfl (k := jp) (by omega) (Nat.le_of_ble_eq_true rfl) (v := fla jp) rfl gX7_clockOf_1.2.1 ?_
    refine eqi (x1 := nI js) (hls) ?_
    refine lv_iconst (v := 1) hx hb gX7_clockOf_1.2.2.1 (by decide) ?_
    refine pV hC hK hl hP hD (c_T_at l G bstamps (nI js) 1 24 3 bstampsc kbstamps fbstamps (hkbstamps) (by omega) (by omega)) si_X7_60 [3, 4] sm_3_4 fm_3_4 nd_3_4 rfl rfl rfl rfl rfl (Nat.le_of_ble_eq_true rfl) rm_3_1_3 ⟨by first | exact Nat.le_of_ble_eq_true rfl | exact Nat.zero_le _, by first | exact Nat.le_of_ble_eq_true rfl | exact Nat.zero_le _⟩ gX7_clockOf_1.2.2.2.1 (fun r2197 hr2197 => ?_)
    refine eqi (x1 := nI (CKS fbstamps js)) ((hr2197.trans (tatq (by omega) (by omega) (by decide) (by decide) rfl)).trans (hSV.cke hjs)) ?_
    refine lv_goto (tgt := 31) hx hb gX7_clockOf_1.2.2.2.2.1 (by decide) ?_
    refine toQ hQ0 ?_
    exact RP (v := nI (CKS fbstamps js)) hC (rfl) rfl gX7_clockOf_1.2.2.2.2.2.2
  · exact absurd wjp a2196
def K_c_readBetweenX (l : Launch) (G : GG) (h0 : Nat) (jp : Nat) (jo : Nat) (js : Nat) (jt : Nat) (bb : Nat) (clk : Nat) (fi : Nat) (la : Nat) (ml : Nat) (mm : Nat) (sl : Nat) (sm : Nat) (cl : Int32) (fla : Nat → Int32) (bpersons : Nat) (bpapers : Nat) (bstamps : Nat) (bversions : Nat) (blines : Nat) (bsteps : Nat) (bsayings : Nat) (bfindings : Nat) (bwarnings : Nat) (bquestions : Nat) (td : Int32) (vd : Int32) (vl : Int32) (gp : Int32) (bstampsc : Nat) (kbstamps : Nat) (fbstamps : Nat → Int32) : Prop := MP l G yX7_readBetween cX7_readBetween 3 (some .int) 3 [.ref h0, .int (nI jp), .int (nI jo)] [(h0, oX7 bb clk fi la ml mm sl sm cl), (la, iA G 12 fla), (bb, oX0 bpersons bpapers bstamps bversions blines bsteps bsayings bfindings bwarnings bquestions td vd vl gp), (bstamps, oX8 24 3 bstampsc (nI kbstamps)), (bstampsc, iA G 72 fbstamps)] (fun r : Int32 => r = (fbstamps (jt * 3 + 2) - fbstamps (js * 3 + 2)))
set_option maxHeartbeats 4000000 in
set_option maxRecDepth 100000 in
theorem c_readBetweenX (l : Launch) (G : GG) (h0 : Nat) (jp : Nat) (jo : Nat) (js : Nat) (jt : Nat) (bb : Nat) (clk : Nat) (fi : Nat) (la : Nat) (ml : Nat) (mm : Nat) (sl : Nat) (sm : Nat) (cl : Int32) (fla : Nat → Int32) (bpersons : Nat) (bpapers : Nat) (bstamps : Nat) (bversions : Nat) (blines : Nat) (bsteps : Nat) (bsayings : Nat) (bfindings : Nat) (bwarnings : Nat) (bquestions : Nat) (td : Int32) (vd : Int32) (vl : Int32) (gp : Int32) (bstampsc : Nat) (kbstamps : Nat) (fbstamps : Nat → Int32) (hkbstamps : kbstamps ≤ 24) (hSV : SVL fbstamps kbstamps) (hs1 : (cl = 0 ∧ ¬ fla jp < 0)) (hs2 : (cl = 0 ∧ ¬ fla jo < 0)) (hls : fla jp = nI js) (hlt : fla jo = nI jt) (hjp : jp < 12) (hjo : jo < 12) (hjs : js < kbstamps) (hjt : jt < kbstamps) : K_c_readBetweenX l G h0 jp jo js jt bb clk fi la ml mm sl sm cl fla bpersons bpapers bstamps bversions blines bsteps bsayings bfindings bwarnings bquestions td vd vl gp bstampsc kbstamps fbstamps := by
  refine MP.start (by decide +kernel) (Nat.le_of_ble_eq_true rfl) ?_
  intro p e s m below meth c ls hC hK hP hD hl
  refine absQ (fun Q0 hQ0 => ?_)
  have hl : lv_has ls 3 [(0, .ref h0), (1, .int (nI jp)), (2, .int (nI jo))] := hl
  refine Kan8 hC (fun hx hb hr hml hB hown hlocks hnm => ?_)
  refine lv_aload_n hx hb gX7_readBetween_0.1 rfl (lv_at0 hl) ?_
  refine lv_iload_n hx hb gX7_readBetween_0.2.1 rfl (lv_at1 hl) ?_
  refine pV hC hK hl hP hD (c_isSentX l G h0 jp bb clk fi la ml mm sl sm cl fla (hjp)) si_X7_90 [0, 1] sm_0_1 fm_0_1 nd_0_1 rfl rfl rfl rfl rfl (Nat.le_of_ble_eq_true rfl) rm_3_1_2 ⟨by first | exact Nat.le_of_ble_eq_true rfl | exact Nat.zero_le _, by first | exact Nat.le_of_ble_eq_true rfl | exact Nat.zero_le _⟩ gX7_readBetween_0.2.2.1 (Kors (Keqa fun a2200 => ?_) (Keqa fun a2200 => ?_))
  · refine lv_if_eq (tgt := 16) hx hb gX7_readBetween_0.2.2.2.1 (by decide) (fun c9 => absurd c9 (by decide)) (fun _ => ?_)
    refine lv_aload_n hx hb gX7_readBetween_0.2.2.2.2.1 rfl (lv_at0 hl) ?_
    refine lv_iload_n hx hb gX7_readBetween_0.2.2.2.2.2.1 rfl (lv_at2 hl) ?_
    refine pV hC hK hl hP hD (c_isSentX l G h0 jo bb clk fi la ml mm sl sm cl fla (hjo)) si_X7_90 [0, 1] sm_0_1 fm_0_1 nd_0_1 rfl rfl rfl rfl rfl (Nat.le_of_ble_eq_true rfl) rm_3_1_2 ⟨by first | exact Nat.le_of_ble_eq_true rfl | exact Nat.zero_le _, by first | exact Nat.le_of_ble_eq_true rfl | exact Nat.zero_le _⟩ gX7_readBetween_0.2.2.2.2.2.2.1 (Kors (Keqa fun a2202 => ?_) (Keqa fun a2202 => ?_))
    · refine lv_if_ne (tgt := 18) hx hb gX7_readBetween_0.2.2.2.2.2.2.2.1 (by decide) (fun _ => ?_) (fun c9 => absurd c9 (by decide))
      refine lv_aload_n hx hb gX7_readBetween_1.1 rfl (lv_at0 hl) ?_
      refine gf_X7_37 hC rfl hK hP 0 rfl rfl gX7_readBetween_1.2.1 ?_
      refine gf_X7_48 hC rfl hK hP 2 rfl rfl gX7_readBetween_1.2.2.1 ?_
      refine lv_aload_n hx hb gX7_readBetween_1.2.2.2.1 rfl (lv_at0 hl) ?_
      refine gf_X7_22 hC rfl hK hP 0 rfl rfl gX7_readBetween_1.2.2.2.2.1 ?_
      refine lv_iload_n hx hb gX7_readBetween_1.2.2.2.2.2.1 rfl (lv_at2 hl) ?_
      refine aldN hC hK hP 1 rfl (k := jo) (by omega) (Nat.le_of_ble_eq_true rfl) (v := fla jo) rfl gX7_readBetween_1.2.2.2.2.2.2.1 ?_
      refine eqi (x1 := nI jt) (hlt) ?_
      refine lv_iconst (v := 2) hx hb gX7_readBetween_1.2.2.2.2.2.2.2.1 (by decide) ?_
      refine pV hC hK hl hP hD (c_T_at l G bstamps (nI jt) 2 24 3 bstampsc kbstamps fbstamps (hkbstamps) (by omega) (by omega)) si_X7_60 [3, 4] sm_3_4 fm_3_4 nd_3_4 rfl rfl rfl rfl rfl (Nat.le_of_ble_eq_true rfl) rm_3_1_3 ⟨by first | exact Nat.le_of_ble_eq_true rfl | exact Nat.zero_le _, by first | exact Nat.le_of_ble_eq_true rfl | exact Nat.zero_le _⟩ gX7_readBetween_1.2.2.2.2.2.2.2.2.1 (fun r2203 hr2203 => ?_)
      refine eqi (x1 := fbstamps (jt * 3 + 2)) (hr2203.trans (tatq (by omega) (by omega) (by decide) (by decide) rfl)) ?_
      refine lv_aload_n hx hb gX7_readBetween_1.2.2.2.2.2.2.2.2.2 rfl (lv_at0 hl) ?_
      refine gf_X7_37 hC rfl hK hP 0 rfl rfl gX7_readBetween_2.1 ?_
      refine gf_X7_48 hC rfl hK hP 2 rfl rfl gX7_readBetween_2.2.1 ?_
      refine lv_aload_n hx hb gX7_readBetween_2.2.2.1 rfl (lv_at0 hl) ?_
      refine gf_X7_22 hC rfl hK hP 0 rfl rfl gX7_readBetween_2.2.2.2.1 ?_
      refine lv_iload_n hx hb gX7_readBetween_2.2.2.2.2.1 rfl (lv_at1 hl) ?_
      refine aldN hC hK hP 1 rfl (k := jp) (by omega) (Nat.le_of_ble_eq_true rfl) (v := fla jp) rfl gX7_readBetween_2.2.2.2.2.2.1 ?_
      refine eqi (x1 := nI js) (hls) ?_
      refine lv_iconst (v := 2) hx hb gX7_readBetween_2.2.2.2.2.2.2.1 (by decide) ?_
      refine pV hC hK hl hP hD (c_T_at l G bstamps (nI js) 2 24 3 bstampsc kbstamps fbstamps (hkbstamps) (by omega) (by omega)) si_X7_60 [3, 4] sm_3_4 fm_3_4 nd_3_4 rfl rfl rfl rfl rfl (Nat.le_of_ble_eq_true rfl) rm_3_1_3 ⟨by first | exact Nat.le_of_ble_eq_true rfl | exact Nat.zero_le _, by first | exact Nat.le_of_ble_eq_true rfl | exact Nat.zero_le _⟩ gX7_readBetween_2.2.2.2.2.2.2.2.1 (fun r2205 hr2205 => ?_)
      refine eqi (x1 := fbstamps (js * 3 + 2)) (hr2205.trans (tatq (by omega) (by omega) (by decide) (by decide) rfl)) ?_
      refine lv_isub hx hb gX7_readBetween_2.2.2.2.2.2.2.2.2.1 ?_
      refine toQ hQ0 ?_
      exact RP (v := (fbstamps (jt * 3 + 2)) - (fbstamps (js * 3 + 2))) hC (rfl) rfl gX7_readBetween_2.2.2.2.2.2.2.2.2.2
    · exact absurd hs2 a2202
  · exact absurd hs1 a2200
def K_c_leastBetweenX (l : Launch) (G : GG) (h0 : Nat) (jp : Nat) (jo : Nat) (js : Nat) (jt : Nat) (bb : Nat) (clk : Nat) (fi : Nat) (la : Nat) (ml : Nat) (mm : Nat) (sl : Nat) (sm : Nat) (cl : Int32) (fla : Nat → Int32) (clm : Nat) (fclm : Nat → Int32) (bpersons : Nat) (bpapers : Nat) (bstamps : Nat) (bversions : Nat) (blines : Nat) (bsteps : Nat) (bsayings : Nat) (bfindings : Nat) (bwarnings : Nat) (bquestions : Nat) (td : Int32) (vd : Int32) (vl : Int32) (gp : Int32) (bstampsc : Nat) (kbstamps : Nat) (fbstamps : Nat → Int32) : Prop := MP l G yX7_leastBetween cX7_leastBetween 3 (some .int) 4 [.ref h0, .int (nI jp), .int (nI jo)] [(h0, oX7 bb clk fi la ml mm sl sm cl), (la, iA G 12 fla), (clk, oX1 clm), (clm, iA G 36 fclm), (bb, oX0 bpersons bpapers bstamps bversions blines bsteps bsayings bfindings bwarnings bquestions td vd vl gp), (bstamps, oX8 24 3 bstampsc (nI kbstamps)), (bstampsc, iA G 72 fbstamps)] (fun r : Int32 => r = (fbstamps (jt * 3 + 2) - fbstamps (js * 3 + 2) - fclm (CKS fbstamps js * 6 + CKS fbstamps jt)))
set_option maxHeartbeats 4000000 in
set_option maxRecDepth 100000 in
theorem c_leastBetweenX (l : Launch) (G : GG) (h0 : Nat) (jp : Nat) (jo : Nat) (js : Nat) (jt : Nat) (bb : Nat) (clk : Nat) (fi : Nat) (la : Nat) (ml : Nat) (mm : Nat) (sl : Nat) (sm : Nat) (cl : Int32) (fla : Nat → Int32) (clm : Nat) (fclm : Nat → Int32) (bpersons : Nat) (bpapers : Nat) (bstamps : Nat) (bversions : Nat) (blines : Nat) (bsteps : Nat) (bsayings : Nat) (bfindings : Nat) (bwarnings : Nat) (bquestions : Nat) (td : Int32) (vd : Int32) (vl : Int32) (gp : Int32) (bstampsc : Nat) (kbstamps : Nat) (fbstamps : Nat → Int32) (hkbstamps : kbstamps ≤ 24) (hSV : SVL fbstamps kbstamps) (hs1 : (cl = 0 ∧ ¬ fla jp < 0)) (hs2 : (cl = 0 ∧ ¬ fla jo < 0)) (hls : fla jp = nI js) (hlt : fla jo = nI jt) (hjp : jp < 12) (hjo : jo < 12) (hjs : js < kbstamps) (hjt : jt < kbstamps) : K_c_leastBetweenX l G h0 jp jo js jt bb clk fi la ml mm sl sm cl fla clm fclm bpersons bpapers bstamps bversions blines bsteps bsayings bfindings bwarnings bquestions td vd vl gp bstampsc kbstamps fbstamps := by
  refine MP.start (by decide +kernel) (Nat.le_of_ble_eq_true rfl) ?_
  intro p e s m below meth c ls hC hK hP hD hl
  refine absQ (fun Q0 hQ0 => ?_)
  have hl : lv_has ls 3 [(0, .ref h0), (1, .int (nI jp)), (2, .int (nI jo))] := hl
  refine Kan8 hC (fun hx hb hr hml hB hown hlocks hnm => ?_)
  have hck1 := hSV.ck hjs
  have hck2 := hSV.ck hjt
  refine lv_aload_n hx hb gX7_leastBetween_0.1 rfl (lv_at0 hl) ?_
  refine lv_iload_n hx hb gX7_leastBetween_0.2.1 rfl (lv_at1 hl) ?_
  refine lv_iload_n hx hb gX7_leastBetween_0.2.2.1 rfl (lv_at2 hl) ?_
  refine pV hC hK hl hP hD (c_readBetweenX l G h0 jp jo js jt bb clk fi la ml mm sl sm cl fla bpersons bpapers bstamps bversions blines bsteps bsayings bfindings bwarnings bquestions td vd vl gp bstampsc kbstamps fbstamps (hkbstamps) (hSV) (hs1) (hs2) (hls) (hlt) (hjp) (hjo) (hjs) (hjt)) si_X7_113 [0, 1, 4, 5, 6] sm_0_1_4_5_6 fm_0_1_4_5_6 nd_0_1_4_5_6 rfl rfl rfl rfl rfl (Nat.le_of_ble_eq_true rfl) rm_4_3_3 ⟨by first | exact Nat.le_of_ble_eq_true rfl | exact Nat.zero_le _, by first | exact Nat.le_of_ble_eq_true rfl | exact Nat.zero_le _⟩ gX7_leastBetween_0.2.2.2.1 (Keqr ?_)
  refine lv_aload_n hx hb gX7_leastBetween_0.2.2.2.2.1 rfl (lv_at0 hl) ?_
  refine gf_X7_12 hC rfl hK hP 0 rfl rfl gX7_leastBetween_0.2.2.2.2.2.1 ?_
  refine lv_aload_n hx hb gX7_leastBetween_0.2.2.2.2.2.2.1 rfl (lv_at0 hl) ?_
  refine lv_iload_n hx hb gX7_leastBetween_0.2.2.2.2.2.2.2.1 rfl (lv_at1 hl) ?_
  refine pV hC hK hl hP hD (c_clockOfX l G h0 jp js bb clk fi la ml mm sl sm cl fla bpersons bpapers bstamps bversions blines bsteps bsayings bfindings bwarnings bquestions td vd vl gp bstampsc kbstamps fbstamps (hkbstamps) (hSV) (hls) (hjp) (hjs)) si_X7_116 [0, 1, 4, 5, 6] sm_0_1_4_5_6 fm_0_1_4_5_6 nd_0_1_4_5_6 rfl rfl rfl rfl rfl (Nat.le_of_ble_eq_true rfl) rm_4_3_2 ⟨by first | exact Nat.le_of_ble_eq_true rfl | exact Nat.zero_le _, by first | exact Nat.le_of_ble_eq_true rfl | exact Nat.zero_le _⟩ gX7_leastBetween_0.2.2.2.2.2.2.2.2.1 (Keqr ?_)
  refine lv_aload_n hx hb gX7_leastBetween_0.2.2.2.2.2.2.2.2.2 rfl (lv_at0 hl) ?_
  refine lv_iload_n hx hb gX7_leastBetween_1.1 rfl (lv_at2 hl) ?_
  refine pV hC hK hl hP hD (c_clockOfX l G h0 jo jt bb clk fi la ml mm sl sm cl fla bpersons bpapers bstamps bversions blines bsteps bsayings bfindings bwarnings bquestions td vd vl gp bstampsc kbstamps fbstamps (hkbstamps) (hSV) (hlt) (hjo) (hjt)) si_X7_116 [0, 1, 4, 5, 6] sm_0_1_4_5_6 fm_0_1_4_5_6 nd_0_1_4_5_6 rfl rfl rfl rfl rfl (Nat.le_of_ble_eq_true rfl) rm_4_3_2 ⟨by first | exact Nat.le_of_ble_eq_true rfl | exact Nat.zero_le _, by first | exact Nat.le_of_ble_eq_true rfl | exact Nat.zero_le _⟩ gX7_leastBetween_1.2.1 (Keqr ?_)
  refine pV hC hK hl hP hD (c_mostAheadX l G clk (CKS fbstamps js) (CKS fbstamps jt) clm fclm (by omega) (by omega)) si_X7_87 [2, 3] sm_2_3 fm_2_3 nd_2_3 rfl rfl rfl rfl rfl (Nat.le_of_ble_eq_true rfl) rm_4_1_3 ⟨by first | exact Nat.le_of_ble_eq_true rfl | exact Nat.zero_le _, by first | exact Nat.le_of_ble_eq_true rfl | exact Nat.zero_le _⟩ gX7_leastBetween_1.2.2.1 (Keqr ?_)
  refine lv_isub hx hb gX7_leastBetween_1.2.2.2.1 ?_
  refine toQ hQ0 ?_
  exact RP (v := (fbstamps (jt * 3 + 2) - fbstamps (js * 3 + 2)) - (fclm ((CKS fbstamps js) * 6 + (CKS fbstamps jt)))) hC (rfl) rfl gX7_leastBetween_1.2.2.2.2
def K_c_mostBetweenX (l : Launch) (G : GG) (h0 : Nat) (jp : Nat) (jo : Nat) (js : Nat) (jt : Nat) (bb : Nat) (clk : Nat) (fi : Nat) (la : Nat) (ml : Nat) (mm : Nat) (sl : Nat) (sm : Nat) (cl : Int32) (fla : Nat → Int32) (clm : Nat) (fclm : Nat → Int32) (bpersons : Nat) (bpapers : Nat) (bstamps : Nat) (bversions : Nat) (blines : Nat) (bsteps : Nat) (bsayings : Nat) (bfindings : Nat) (bwarnings : Nat) (bquestions : Nat) (td : Int32) (vd : Int32) (vl : Int32) (gp : Int32) (bstampsc : Nat) (kbstamps : Nat) (fbstamps : Nat → Int32) : Prop := MP l G yX7_mostBetween cX7_mostBetween 3 (some .int) 4 [.ref h0, .int (nI jp), .int (nI jo)] [(h0, oX7 bb clk fi la ml mm sl sm cl), (la, iA G 12 fla), (clk, oX1 clm), (clm, iA G 36 fclm), (bb, oX0 bpersons bpapers bstamps bversions blines bsteps bsayings bfindings bwarnings bquestions td vd vl gp), (bstamps, oX8 24 3 bstampsc (nI kbstamps)), (bstampsc, iA G 72 fbstamps)] (fun r : Int32 => r = (fbstamps (jt * 3 + 2) - fbstamps (js * 3 + 2) + fclm (CKS fbstamps jt * 6 + CKS fbstamps js)))
set_option maxHeartbeats 4000000 in
set_option maxRecDepth 100000 in
theorem c_mostBetweenX (l : Launch) (G : GG) (h0 : Nat) (jp : Nat) (jo : Nat) (js : Nat) (jt : Nat) (bb : Nat) (clk : Nat) (fi : Nat) (la : Nat) (ml : Nat) (mm : Nat) (sl : Nat) (sm : Nat) (cl : Int32) (fla : Nat → Int32) (clm : Nat) (fclm : Nat → Int32) (bpersons : Nat) (bpapers : Nat) (bstamps : Nat) (bversions : Nat) (blines : Nat) (bsteps : Nat) (bsayings : Nat) (bfindings : Nat) (bwarnings : Nat) (bquestions : Nat) (td : Int32) (vd : Int32) (vl : Int32) (gp : Int32) (bstampsc : Nat) (kbstamps : Nat) (fbstamps : Nat → Int32) (hkbstamps : kbstamps ≤ 24) (hSV : SVL fbstamps kbstamps) (hs1 : (cl = 0 ∧ ¬ fla jp < 0)) (hs2 : (cl = 0 ∧ ¬ fla jo < 0)) (hls : fla jp = nI js) (hlt : fla jo = nI jt) (hjp : jp < 12) (hjo : jo < 12) (hjs : js < kbstamps) (hjt : jt < kbstamps) : K_c_mostBetweenX l G h0 jp jo js jt bb clk fi la ml mm sl sm cl fla clm fclm bpersons bpapers bstamps bversions blines bsteps bsayings bfindings bwarnings bquestions td vd vl gp bstampsc kbstamps fbstamps := by
  refine MP.start (by decide +kernel) (Nat.le_of_ble_eq_true rfl) ?_
  intro p e s m below meth c ls hC hK hP hD hl
  refine absQ (fun Q0 hQ0 => ?_)
  have hl : lv_has ls 3 [(0, .ref h0), (1, .int (nI jp)), (2, .int (nI jo))] := hl
  refine Kan8 hC (fun hx hb hr hml hB hown hlocks hnm => ?_)
  have hck1 := hSV.ck hjs
  have hck2 := hSV.ck hjt
  refine lv_aload_n hx hb gX7_mostBetween_0.1 rfl (lv_at0 hl) ?_
  refine lv_iload_n hx hb gX7_mostBetween_0.2.1 rfl (lv_at1 hl) ?_
  refine lv_iload_n hx hb gX7_mostBetween_0.2.2.1 rfl (lv_at2 hl) ?_
  refine pV hC hK hl hP hD (c_readBetweenX l G h0 jp jo js jt bb clk fi la ml mm sl sm cl fla bpersons bpapers bstamps bversions blines bsteps bsayings bfindings bwarnings bquestions td vd vl gp bstampsc kbstamps fbstamps (hkbstamps) (hSV) (hs1) (hs2) (hls) (hlt) (hjp) (hjo) (hjs) (hjt)) si_X7_113 [0, 1, 4, 5, 6] sm_0_1_4_5_6 fm_0_1_4_5_6 nd_0_1_4_5_6 rfl rfl rfl rfl rfl (Nat.le_of_ble_eq_true rfl) rm_4_3_3 ⟨by first | exact Nat.le_of_ble_eq_true rfl | exact Nat.zero_le _, by first | exact Nat.le_of_ble_eq_true rfl | exact Nat.zero_le _⟩ gX7_mostBetween_0.2.2.2.1 (Keqr ?_)
  refine lv_aload_n hx hb gX7_mostBetween_0.2.2.2.2.1 rfl (lv_at0 hl) ?_
  refine gf_X7_12 hC rfl hK hP 0 rfl rfl gX7_mostBetween_0.2.2.2.2.2.1 ?_
  refine lv_aload_n hx hb gX7_mostBetween_0.2.2.2.2.2.2.1 rfl (lv_at0 hl) ?_
  refine lv_iload_n hx hb gX7_mostBetween_0.2.2.2.2.2.2.2.1 rfl (lv_at2 hl) ?_
  refine pV hC hK hl hP hD (c_clockOfX l G h0 jo jt bb clk fi la ml mm sl sm cl fla bpersons bpapers bstamps bversions blines bsteps bsayings bfindings bwarnings bquestions td vd vl gp bstampsc kbstamps fbstamps (hkbstamps) (hSV) (hlt) (hjo) (hjt)) si_X7_116 [0, 1, 4, 5, 6] sm_0_1_4_5_6 fm_0_1_4_5_6 nd_0_1_4_5_6 rfl rfl rfl rfl rfl (Nat.le_of_ble_eq_true rfl) rm_4_3_2 ⟨by first | exact Nat.le_of_ble_eq_true rfl | exact Nat.zero_le _, by first | exact Nat.le_of_ble_eq_true rfl | exact Nat.zero_le _⟩ gX7_mostBetween_0.2.2.2.2.2.2.2.2.1 (Keqr ?_)
  refine lv_aload_n hx hb gX7_mostBetween_0.2.2.2.2.2.2.2.2.2 rfl (lv_at0 hl) ?_
  refine lv_iload_n hx hb gX7_mostBetween_1.1 rfl (lv_at1 hl) ?_
  refine pV hC hK hl hP hD (c_clockOfX l G h0 jp js bb clk fi la ml mm sl sm cl fla bpersons bpapers bstamps bversions blines bsteps bsayings bfindings bwarnings bquestions td vd vl gp bstampsc kbstamps fbstamps (hkbstamps) (hSV) (hls) (hjp) (hjs)) si_X7_116 [0, 1, 4, 5, 6] sm_0_1_4_5_6 fm_0_1_4_5_6 nd_0_1_4_5_6 rfl rfl rfl rfl rfl (Nat.le_of_ble_eq_true rfl) rm_4_3_2 ⟨by first | exact Nat.le_of_ble_eq_true rfl | exact Nat.zero_le _, by first | exact Nat.le_of_ble_eq_true rfl | exact Nat.zero_le _⟩ gX7_mostBetween_1.2.1 (Keqr ?_)
  refine pV hC hK hl hP hD (c_mostAheadX l G clk (CKS fbstamps jt) (CKS fbstamps js) clm fclm (by omega) (by omega)) si_X7_87 [2, 3] sm_2_3 fm_2_3 nd_2_3 rfl rfl rfl rfl rfl (Nat.le_of_ble_eq_true rfl) rm_4_1_3 ⟨by first | exact Nat.le_of_ble_eq_true rfl | exact Nat.zero_le _, by first | exact Nat.le_of_ble_eq_true rfl | exact Nat.zero_le _⟩ gX7_mostBetween_1.2.2.1 (Keqr ?_)
  refine lv_iadd hx hb gX7_mostBetween_1.2.2.2.1 ?_
  refine toQ hQ0 ?_
  exact RP (v := (fbstamps (jt * 3 + 2) - fbstamps (js * 3 + 2)) + (fclm ((CKS fbstamps jt) * 6 + (CKS fbstamps js)))) hC (rfl) rfl gX7_mostBetween_1.2.2.2.2
