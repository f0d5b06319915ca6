section WR
variable {p : Program} {l : Launch} {e : Env} {R : Room} {s : State} {m : MethodId} {args : Array Value} {below : List Frame} {meth : Method} {c : Code} {H : Heap} {locs : List Loc} {cells slots : Nat} {Q : State → Prop}
variable {pc : Nat} {ls : Array Slot} {rest : List Value} {G : GG} {ws : va_W} {A : Nat → Prop} {y0 : MethodName} {b0 : ByteArray} {mL0 : Nat} {rt0 : Option FieldType} {a : Nat} {H0 : Heap}
theorem gX9_bound_0 : (decode cX9_bound 0 = .ok (.aload_n 0, 1)) ∧ (decode cX9_bound 1 = .ok (.getfield 15, 3)) ∧ (decode cX9_bound 4 = .ok (.iload_n 2, 1)) ∧ (decode cX9_bound 5 = .ok (.iload_n 1, 1)) ∧ (decode cX9_bound 6 = .ok (.invokevirtual 32, 3)) ∧ (decode cX9_bound 9 = .ok (.istore_n 3, 1)) ∧ (decode cX9_bound 10 = .ok (.aload_n 0, 1)) ∧ (decode cX9_bound 11 = .ok (.iload_n 3, 1)) ∧ (decode cX9_bound 12 = .ok (.ifCond .eq 16, 3)) ∧ (decode cX9_bound 15 = .ok (.aload_n 0, 1)) := by decide +kernel
theorem in_X9 : ∀ w ∈ wsX90, w ∈ BW := iB_wsX90
theorem m_216 : Cond.fieldLink RX9 15 "InquiryBench$Talk" "sight" "LInquiryBench$Sight;" ∈ BW := iB_BW12 _ (List.mem_of_getElem? (i := 2) rfl)
theorem gf_X9_15 (hC : CX p s m meth c y0 b0 mL0 rt0 args) (hy0 : y0.cls = RX9) (hK : KK G s) (hP : va_P G.1 vwCl ws H) (q0 : Nat) {fs : List Value} {v : Value} (he : ws[q0]? = some (a, .inr (9, fs))) (hv : fs[1]? = some v) (hdg : decode b0 pc = .ok (.getfield 15, 3)) (kk : W p l e R s m args below meth c H locs cells slots Q (F0 m (pc + 3) ls (v :: rest))) : W p l e R s m args below meth c H locs cells slots Q (F0 m pc ls (.ref a :: rest)) := by
  obtain ⟨hx, hb, hr, hml, hB, hown, hlocks, hnm⟩ := hC
  rw [hy0] at hown
  exact va_get (ci := 9) (C := RX9) (T := TX9) (N := 6) hx hb hB in_X9 hown hK.1 hP q0 he rfl 1 (by decide) (hB _ m_216) (fun _ h => h) hv hdg kk
theorem m_766 : Cond.methodLink RX9 32 yX7_isInHand ∈ BW := iB_BW41 _ (List.mem_of_getElem? (i := 6) rfl)
theorem si_X9_32 : SV RX9 RX7 32 yX7_isInHand cX7_isInHand 3 (some .boolean) 2 := ⟨⟨m_766, m_516, m_517, m_106, m_518⟩, rfl, nK_RX7.1, nK_RX7.2, pd_3⟩
theorem gX9_bound_1 : (decode cX9_bound 16 = .ok (.getfield 15, 3)) ∧ (decode cX9_bound 19 = .ok (.iload_n 2, 1)) ∧ (decode cX9_bound 20 = .ok (.iload_n 1, 1)) ∧ (decode cX9_bound 21 = .ok (.iconst 0, 1)) ∧ (decode cX9_bound 22 = .ok (.invokevirtual 38, 3)) ∧ (decode cX9_bound 25 = .ok (.goto 4, 3)) ∧ (decode cX9_bound 28 = .ok (.iconst 0, 1)) ∧ (decode cX9_bound 29 = .ok (.putfield 19, 3)) ∧ (decode cX9_bound 32 = .ok (.aload_n 0, 1)) ∧ (decode cX9_bound 33 = .ok (.iload_n 3, 1)) := by decide +kernel
theorem m_767 : Cond.methodLink RX9 38 yX7_handHour ∈ BW := iB_BW41 _ (List.mem_of_getElem? (i := 7) rfl)
theorem si_X9_38 : SV RX9 RX7 38 yX7_handHour cX7_handHour 4 (some .int) 3 := ⟨⟨m_767, m_520, m_521, m_106, m_522⟩, rfl, nK_RX7.1, nK_RX7.2, pd_6⟩
theorem m_217 : Cond.fieldLink RX9 19 "InquiryBench$Talk" "from" "I" ∈ BW := iB_BW12 _ (List.mem_of_getElem? (i := 3) rfl)
theorem pf_X9_19 (hC : CX p s m meth c y0 b0 mL0 rt0 args) (hy0 : y0.cls = RX9) (hK : KK G s) (hP : va_P G.1 vwCl ws H) (hD : va_D A ws) (hS : va_S A H0 H locs) (q0 : Nat) {fs : List Value} {v : Value} {ws' : va_W} (he : ws[q0]? = some (a, .inr (9, fs))) (hl : 2 < fs.length) (hws : ws.set q0 (a, .inr (9, fs.set 2 v)) = ws') (hn : narrow .int v = v) (hfit : fits .int v = true) (hdg : decode b0 pc = .ok (.putfield 19, 3)) (kk : ∀ (H1 : Heap) (locs1 : List Loc), va_P G.1 vwCl ws' H1 → va_D A ws' → va_S A H0 H1 locs1 → W p l e R s m args below meth c H1 locs1 cells slots Q (F0 m (pc + 3) ls rest)) : W p l e R s m args below meth c H locs cells slots Q (F0 m pc ls (v :: .ref a :: rest)) := by
  obtain ⟨hx, hb, hr, hml, hB, hown, hlocks, hnm⟩ := hC
  rw [hy0] at hown
  subst hws
  exact va_put (ci := 9) (ty := .int) (C := RX9) (T := TX9) (N := 6) hx hb hB in_X9 tyX9 tyX9_ok nmX9 hown hK.1 hP hD hS q0 he rfl 2 (by decide) (hB _ m_217) (fun _ h => h) rfl (by decide +kernel) hn hfit hl hdg kk
theorem gX9_bound_2 : (decode cX9_bound 34 = .ok (.ifCond .eq 16, 3)) ∧ (decode cX9_bound 37 = .ok (.aload_n 0, 1)) ∧ (decode cX9_bound 38 = .ok (.getfield 15, 3)) ∧ (decode cX9_bound 41 = .ok (.iload_n 2, 1)) ∧ (decode cX9_bound 42 = .ok (.iload_n 1, 1)) ∧ (decode cX9_bound 43 = .ok (.iconst 1, 1)) ∧ (decode cX9_bound 44 = .ok (.invokevirtual 38, 3)) ∧ (decode cX9_bound 47 = .ok (.goto 6, 3)) ∧ (decode cX9_bound 50 = .ok (.sipush 1000, 3)) ∧ (decode cX9_bound 53 = .ok (.putfield 23, 3)) := by decide +kernel
theorem m_218 : Cond.fieldLink RX9 23 "InquiryBench$Talk" "to" "I" ∈ BW := iB_BW12 _ (List.mem_of_getElem? (i := 4) rfl)
theorem pf_X9_23 (hC : CX p s m meth c y0 b0 mL0 rt0 args) (hy0 : y0.cls = RX9) (hK : KK G s) (hP : va_P G.1 vwCl ws H) (hD : va_D A ws) (hS : va_S A H0 H locs) (q0 : Nat) {fs : List Value} {v : Value} {ws' : va_W} (he : ws[q0]? = some (a, .inr (9, fs))) (hl : 3 < fs.length) (hws : ws.set q0 (a, .inr (9, fs.set 3 v)) = ws') (hn : narrow .int v = v) (hfit : fits .int v = true) (hdg : decode b0 pc = .ok (.putfield 23, 3)) (kk : ∀ (H1 : Heap) (locs1 : List Loc), va_P G.1 vwCl ws' H1 → va_D A ws' → va_S A H0 H1 locs1 → W p l e R s m args below meth c H1 locs1 cells slots Q (F0 m (pc + 3) ls rest)) : W p l e R s m args below meth c H locs cells slots Q (F0 m pc ls (v :: .ref a :: rest)) := by
  obtain ⟨hx, hb, hr, hml, hB, hown, hlocks, hnm⟩ := hC
  rw [hy0] at hown
  subst hws
  exact va_put (ci := 9) (ty := .int) (C := RX9) (T := TX9) (N := 6) hx hb hB in_X9 tyX9 tyX9_ok nmX9 hown hK.1 hP hD hS q0 he rfl 3 (by decide) (hB _ m_218) (fun _ h => h) rfl (by decide +kernel) hn hfit hl hdg kk
theorem gX9_bound_3 : (decode cX9_bound 56 = .ok (.return_, 1)) := by decide +kernel
theorem gX9_isOn_0 : (decode cX9_isOn 0 = .ok (.aload_n 0, 1)) ∧ (decode cX9_isOn 1 = .ok (.getfield 9, 3)) ∧ (decode cX9_isOn 4 = .ok (.getfield 42, 3)) ∧ (decode cX9_isOn 7 = .ok (.iload_n 1, 1)) ∧ (decode cX9_isOn 8 = .ok (.iconst 1, 1)) ∧ (decode cX9_isOn 9 = .ok (.invokevirtual 48, 3)) ∧ (decode cX9_isOn 12 = .ok (.iload_n 2, 1)) ∧ (decode cX9_isOn 13 = .ok (.if_icmp .ne 36, 3)) ∧ (decode cX9_isOn 16 = .ok (.aload_n 0, 1)) ∧ (decode cX9_isOn 17 = .ok (.getfield 9, 3)) := by decide +kernel
theorem m_215 : Cond.fieldLink RX9 9 "InquiryBench$Talk" "book" "LInquiryBench$Book;" ∈ BW := iB_BW12 _ (List.mem_of_getElem? (i := 1) rfl)
theorem gf_X9_9 (hC : CX p s m meth c y0 b0 mL0 rt0 args) (hy0 : y0.cls = RX9) (hK : KK G s) (hP : va_P G.1 vwCl ws H) (q0 : Nat) {fs : List Value} {v : Value} (he : ws[q0]? = some (a, .inr (9, fs))) (hv : fs[0]? = some v) (hdg : decode b0 pc = .ok (.getfield 9, 3)) (kk : W p l e R s m args below meth c H locs cells slots Q (F0 m (pc + 3) ls (v :: rest))) : W p l e R s m args below meth c H locs cells slots Q (F0 m pc ls (.ref a :: rest)) := by
  obtain ⟨hx, hb, hr, hml, hB, hown, hlocks, hnm⟩ := hC
  rw [hy0] at hown
  exact va_get (ci := 9) (C := RX9) (T := TX9) (N := 6) hx hb hB in_X9 hown hK.1 hP q0 he rfl 0 (by decide) (hB _ m_215) (fun _ h => h) hv hdg kk
theorem nm_20 : Cond.fieldLinkNest RX9 42 RX0 "sayings" "LInquiryBench$Table;" RX11 ∈ NestW := List.mem_of_getElem? (i := 20) rfl
theorem gf_X9_42 (hC : CX p s m meth c y0 b0 mL0 rt0 args) (hy0 : y0.cls = RX9) (hK : KK G s) (hP : va_P G.1 vwCl ws H) (q0 : Nat) {fs : List Value} {v : Value} (he : ws[q0]? = some (a, .inr (0, fs))) (hv : fs[6]? = some v) (hdg : decode b0 pc = .ok (.getfield 42, 3)) (kk : W p l e R s m args below meth c H locs cells slots Q (F0 m (pc + 3) ls (v :: rest))) : W p l e R s m args below meth c H locs cells slots Q (F0 m pc ls (.ref a :: rest)) := by
  obtain ⟨hx, hb, hr, hml, hB, hown, hlocks, hnm⟩ := hC
  rw [hy0] at hown
  exact va_getN (ci := 0) (C := RX0) (T := TX0) (N := 14) hx hb hB in_X0 hown hK.1 hP q0 he rfl 6 (by decide) (va_Nw.use rfl (hK.2.1 _ nm_20)) (fun _ h => h) hv hdg kk
theorem m_775 : Cond.methodLink RX9 48 yX8_at ∈ BW := iB_BW42 _ (List.mem_of_getElem? (i := 4) rfl)
theorem si_X9_48 : SV RX9 RX8 48 yX8_at cX8_at 3 (some .int) 2 := ⟨⟨m_775, m_312, m_313, m_104, m_314⟩, rfl, nK_RX8.1, nK_RX8.2, pd_2⟩
theorem gX9_isOn_2 : (decode cX9_isOn 39 = .ok (.invokevirtual 54, 3)) ∧ (decode cX9_isOn 42 = .ok (.ifCond .eq 7, 3)) ∧ (decode cX9_isOn 45 = .ok (.iconst 1, 1)) ∧ (decode cX9_isOn 46 = .ok (.goto 4, 3)) ∧ (decode cX9_isOn 49 = .ok (.iconst 0, 1)) ∧ (decode cX9_isOn 50 = .ok (.ireturn, 1)) := by decide +kernel
theorem gX9_isOn_1 : (decode cX9_isOn 20 = .ok (.getfield 42, 3)) ∧ (decode cX9_isOn 23 = .ok (.iload_n 1, 1)) ∧ (decode cX9_isOn 24 = .ok (.iconst 2, 1)) ∧ (decode cX9_isOn 25 = .ok (.invokevirtual 48, 3)) ∧ (decode cX9_isOn 28 = .ok (.iload_n 3, 1)) ∧ (decode cX9_isOn 29 = .ok (.if_icmp .ne 20, 3)) ∧ (decode cX9_isOn 32 = .ok (.aload_n 0, 1)) ∧ (decode cX9_isOn 33 = .ok (.getfield 9, 3)) ∧ (decode cX9_isOn 36 = .ok (.iload_n 1, 1)) ∧ (decode cX9_isOn 37 = .ok (.iload 4, 2)) := by decide +kernel
theorem m_776 : Cond.methodLink RX9 54 yX0_counts ∈ BW := iB_BW42 _ (List.mem_of_getElem? (i := 5) rfl)
theorem si_X9_54 : SV RX9 RX0 54 yX0_counts cX0_counts 3 (some .boolean) 2 := ⟨⟨m_776, m_361, m_362, m_103, m_363⟩, rfl, nK_RX0.1, nK_RX0.2, pd_3⟩
theorem gX9_weightAgainst_0 : (decode cX9_weightAgainst 0 = .ok (.iconst 0, 1)) ∧ (decode cX9_weightAgainst 1 = .ok (.istore 5, 2)) ∧ (decode cX9_weightAgainst 3 = .ok (.iconst 0, 1)) ∧ (decode cX9_weightAgainst 4 = .ok (.istore 6, 2)) ∧ (decode cX9_weightAgainst 6 = .ok (.iload 6, 2)) ∧ (decode cX9_weightAgainst 8 = .ok (.aload_n 0, 1)) ∧ (decode cX9_weightAgainst 9 = .ok (.getfield 9, 3)) ∧ (decode cX9_weightAgainst 12 = .ok (.getfield 42, 3)) ∧ (decode cX9_weightAgainst 15 = .ok (.invokevirtual 65, 3)) ∧ (decode cX9_weightAgainst 18 = .ok (.if_icmp .ge 98, 3)) := by decide +kernel
theorem m_771 : Cond.methodLink RX9 65 yX8_count ∈ BW := iB_BW42 _ (List.mem_of_getElem? (i := 0) rfl)
theorem si_X9_65 : SV RX9 RX8 65 yX8_count cX8_count 1 (some .int) 0 := ⟨⟨m_771, m_308, m_309, m_104, m_310⟩, rfl, nK_RX8.1, nK_RX8.2, pd_1⟩
theorem gX9_weightAgainst_5 : (decode cX9_weightAgainst 103 = .ok (.iconst 4, 1)) ∧ (decode cX9_weightAgainst 104 = .ok (.invokevirtual 48, 3)) ∧ (decode cX9_weightAgainst 107 = .ok (.iadd, 1)) ∧ (decode cX9_weightAgainst 108 = .ok (.istore 5, 2)) ∧ (decode cX9_weightAgainst 110 = .ok (.iinc 6 1, 3)) ∧ (decode cX9_weightAgainst 113 = .ok (.goto (-107), 3)) ∧ (decode cX9_weightAgainst 116 = .ok (.iload 5, 2)) ∧ (decode cX9_weightAgainst 118 = .ok (.ireturn, 1)) := by decide +kernel
theorem gX9_weightAgainst_1 : (decode cX9_weightAgainst 21 = .ok (.aload_n 0, 1)) ∧ (decode cX9_weightAgainst 22 = .ok (.iload 6, 2)) ∧ (decode cX9_weightAgainst 24 = .ok (.iload_n 2, 1)) ∧ (decode cX9_weightAgainst 25 = .ok (.iload_n 3, 1)) ∧ (decode cX9_weightAgainst 26 = .ok (.iload 4, 2)) ∧ (decode cX9_weightAgainst 28 = .ok (.invokevirtual 73, 3)) ∧ (decode cX9_weightAgainst 31 = .ok (.ifCond .ne 6, 3)) ∧ (decode cX9_weightAgainst 34 = .ok (.goto 76, 3)) ∧ (decode cX9_weightAgainst 37 = .ok (.aload_n 0, 1)) ∧ (decode cX9_weightAgainst 38 = .ok (.getfield 9, 3)) := by decide +kernel
theorem m_774 : Cond.code yX9_isOn cX9_isOn 5 (some .boolean) ∈ BW := iB_BW42 _ (List.mem_of_getElem? (i := 3) rfl)
theorem m_110 : Cond.initialized RX9 ∈ BW := iB_BW6 _ (List.mem_of_getElem? (i := 8) rfl)
theorem nK_RX9 : RX9 ≠ "java/lang/invoke/MethodHandle" ∧ RX9 ≠ "java/lang/invoke/VarHandle" := ⟨by decide +kernel, by decide +kernel⟩
theorem pd_16 : (parseMethodDescriptor "(IIII)Z").map (fun d => d.parameters.length) = some 4 := by decide +kernel
theorem m_772 : Cond.methodLink RX9 73 yX9_isOn ∈ BW := iB_BW42 _ (List.mem_of_getElem? (i := 1) rfl)
theorem m_773 : Cond.instanceMethod yX9_isOn ∈ BW := iB_BW42 _ (List.mem_of_getElem? (i := 2) rfl)
theorem m_34 : Cond.selects RX9 yX9_isOn yX9_isOn ∈ BW := iB_BW1 _ (List.mem_of_getElem? (i := 14) rfl)
theorem si_X9_73 : SV RX9 RX9 73 yX9_isOn cX9_isOn 5 (some .boolean) 4 := ⟨⟨m_772, m_773, m_34, m_110, m_774⟩, rfl, nK_RX9.1, nK_RX9.2, pd_16⟩
theorem gX9_weightAgainst_2 : (decode cX9_weightAgainst 41 = .ok (.getfield 42, 3)) ∧ (decode cX9_weightAgainst 44 = .ok (.iload 6, 2)) ∧ (decode cX9_weightAgainst 46 = .ok (.iconst 5, 1)) ∧ (decode cX9_weightAgainst 47 = .ok (.invokevirtual 48, 3)) ∧ (decode cX9_weightAgainst 50 = .ok (.iconst 1, 1)) ∧ (decode cX9_weightAgainst 51 = .ok (.if_icmp .ne 7, 3)) ∧ (decode cX9_weightAgainst 54 = .ok (.iconst 1, 1)) ∧ (decode cX9_weightAgainst 55 = .ok (.goto 4, 3)) ∧ (decode cX9_weightAgainst 58 = .ok (.iconst 0, 1)) ∧ (decode cX9_weightAgainst 59 = .ok (.istore 7, 2)) := by decide +kernel
theorem gX9_weightAgainst_3 : (decode cX9_weightAgainst 61 = .ok (.aload_n 0, 1)) ∧ (decode cX9_weightAgainst 62 = .ok (.getfield 9, 3)) ∧ (decode cX9_weightAgainst 65 = .ok (.getfield 42, 3)) ∧ (decode cX9_weightAgainst 68 = .ok (.iload 6, 2)) ∧ (decode cX9_weightAgainst 70 = .ok (.iconst 3, 1)) ∧ (decode cX9_weightAgainst 71 = .ok (.invokevirtual 48, 3)) ∧ (decode cX9_weightAgainst 74 = .ok (.iload_n 1, 1)) ∧ (decode cX9_weightAgainst 75 = .ok (.if_icmp .ge 7, 3)) ∧ (decode cX9_weightAgainst 78 = .ok (.iconst 1, 1)) ∧ (decode cX9_weightAgainst 79 = .ok (.goto 4, 3)) := by decide +kernel
theorem gX9_weightAgainst_4 : (decode cX9_weightAgainst 82 = .ok (.iconst 0, 1)) ∧ (decode cX9_weightAgainst 83 = .ok (.istore 8, 2)) ∧ (decode cX9_weightAgainst 85 = .ok (.iload 7, 2)) ∧ (decode cX9_weightAgainst 87 = .ok (.iload 8, 2)) ∧ (decode cX9_weightAgainst 89 = .ok (.if_icmp .ne 21, 3)) ∧ (decode cX9_weightAgainst 92 = .ok (.iload 5, 2)) ∧ (decode cX9_weightAgainst 94 = .ok (.aload_n 0, 1)) ∧ (decode cX9_weightAgainst 95 = .ok (.getfield 9, 3)) ∧ (decode cX9_weightAgainst 98 = .ok (.getfield 42, 3)) ∧ (decode cX9_weightAgainst 101 = .ok (.iload 6, 2)) := by decide +kernel
theorem gX9_weigh_0 : (decode cX9_weigh 0 = .ok (.aload_n 0, 1)) ∧ (decode cX9_weigh 1 = .ok (.iload_n 1, 1)) ∧ (decode cX9_weigh 2 = .ok (.iload_n 2, 1)) ∧ (decode cX9_weigh 3 = .ok (.invokevirtual 57, 3)) ∧ (decode cX9_weigh 6 = .ok (.aload_n 0, 1)) ∧ (decode cX9_weigh 7 = .ok (.aload_n 0, 1)) ∧ (decode cX9_weigh 8 = .ok (.getfield 19, 3)) ∧ (decode cX9_weigh 11 = .ok (.putfield 29, 3)) ∧ (decode cX9_weigh 14 = .ok (.aload_n 0, 1)) ∧ (decode cX9_weigh 15 = .ok (.aload_n 0, 1)) := by decide +kernel
theorem m_765 : Cond.code yX9_bound cX9_bound 4 none ∈ BW := iB_BW41 _ (List.mem_of_getElem? (i := 5) rfl)
theorem m_763 : Cond.methodLink RX9 57 yX9_bound ∈ BW := iB_BW41 _ (List.mem_of_getElem? (i := 3) rfl)
theorem m_764 : Cond.instanceMethod yX9_bound ∈ BW := iB_BW41 _ (List.mem_of_getElem? (i := 4) rfl)
theorem m_32 : Cond.selects RX9 yX9_bound yX9_bound ∈ BW := iB_BW1 _ (List.mem_of_getElem? (i := 12) rfl)
theorem si_X9_57 : SV RX9 RX9 57 yX9_bound cX9_bound 4 none 2 := ⟨⟨m_763, m_764, m_32, m_110, m_765⟩, rfl, nK_RX9.1, nK_RX9.2, pd_14⟩
theorem gf_X9_19 (hC : CX p s m meth c y0 b0 mL0 rt0 args) (hy0 : y0.cls = RX9) (hK : KK G s) (hP : va_P G.1 vwCl ws H) (q0 : Nat) {fs : List Value} {v : Value} (he : ws[q0]? = some (a, .inr (9, fs))) (hv : fs[2]? = some v) (hdg : decode b0 pc = .ok (.getfield 19, 3)) (kk : W p l e R s m args below meth c H locs cells slots Q (F0 m (pc + 3) ls (v :: rest))) : W p l e R s m args below meth c H locs cells slots Q (F0 m pc ls (.ref a :: rest)) := by
  obtain ⟨hx, hb, hr, hml, hB, hown, hlocks, hnm⟩ := hC
  rw [hy0] at hown
  exact va_get (ci := 9) (C := RX9) (T := TX9) (N := 6) hx hb hB in_X9 hown hK.1 hP q0 he rfl 2 (by decide) (hB _ m_217) (fun _ h => h) hv hdg kk
theorem m_220 : Cond.fieldLink RX9 29 "InquiryBench$Talk" "believed" "I" ∈ BW := iB_BW12 _ (List.mem_of_getElem? (i := 6) rfl)
theorem pf_X9_29 (hC : CX p s m meth c y0 b0 mL0 rt0 args) (hy0 : y0.cls = RX9) (hK : KK G s) (hP : va_P G.1 vwCl ws H) (hD : va_D A ws) (hS : va_S A H0 H locs) (q0 : Nat) {fs : List Value} {v : Value} {ws' : va_W} (he : ws[q0]? = some (a, .inr (9, fs))) (hl : 5 < fs.length) (hws : ws.set q0 (a, .inr (9, fs.set 5 v)) = ws') (hn : narrow .int v = v) (hfit : fits .int v = true) (hdg : decode b0 pc = .ok (.putfield 29, 3)) (kk : ∀ (H1 : Heap) (locs1 : List Loc), va_P G.1 vwCl ws' H1 → va_D A ws' → va_S A H0 H1 locs1 → W p l e R s m args below meth c H1 locs1 cells slots Q (F0 m (pc + 3) ls rest)) : W p l e R s m args below meth c H locs cells slots Q (F0 m pc ls (v :: .ref a :: rest)) := by
  obtain ⟨hx, hb, hr, hml, hB, hown, hlocks, hnm⟩ := hC
  rw [hy0] at hown
  subst hws
  exact va_put (ci := 9) (ty := .int) (C := RX9) (T := TX9) (N := 6) hx hb hB in_X9 tyX9 tyX9_ok nmX9 hown hK.1 hP hD hS q0 he rfl 5 (by decide) (hB _ m_220) (fun _ h => h) rfl (by decide +kernel) hn hfit hl hdg kk
theorem gX9_weigh_1 : (decode cX9_weigh 16 = .ok (.aload_n 0, 1)) ∧ (decode cX9_weigh 17 = .ok (.getfield 19, 3)) ∧ (decode cX9_weigh 20 = .ok (.iload_n 1, 1)) ∧ (decode cX9_weigh 21 = .ok (.iload_n 2, 1)) ∧ (decode cX9_weigh 22 = .ok (.iload_n 3, 1)) ∧ (decode cX9_weigh 23 = .ok (.invokevirtual 61, 3)) ∧ (decode cX9_weigh 26 = .ok (.putfield 26, 3)) ∧ (decode cX9_weigh 29 = .ok (.iconst 0, 1)) ∧ (decode cX9_weigh 30 = .ok (.istore 4, 2)) ∧ (decode cX9_weigh 32 = .ok (.iload 4, 2)) := by decide +kernel
theorem m_770 : Cond.code yX9_weightAgainst cX9_weightAgainst 9 (some .int) ∈ BW := iB_BW41 _ (List.mem_of_getElem? (i := 10) rfl)
theorem pd_17 : (parseMethodDescriptor "(IIII)I").map (fun d => d.parameters.length) = some 4 := by decide +kernel
theorem m_768 : Cond.methodLink RX9 61 yX9_weightAgainst ∈ BW := iB_BW41 _ (List.mem_of_getElem? (i := 8) rfl)
theorem m_769 : Cond.instanceMethod yX9_weightAgainst ∈ BW := iB_BW41 _ (List.mem_of_getElem? (i := 9) rfl)
theorem m_33 : Cond.selects RX9 yX9_weightAgainst yX9_weightAgainst ∈ BW := iB_BW1 _ (List.mem_of_getElem? (i := 13) rfl)
theorem si_X9_61 : SV RX9 RX9 61 yX9_weightAgainst cX9_weightAgainst 9 (some .int) 4 := ⟨⟨m_768, m_769, m_33, m_110, m_770⟩, rfl, nK_RX9.1, nK_RX9.2, pd_17⟩
theorem m_219 : Cond.fieldLink RX9 26 "InquiryBench$Talk" "least" "I" ∈ BW := iB_BW12 _ (List.mem_of_getElem? (i := 5) rfl)
theorem pf_X9_26 (hC : CX p s m meth c y0 b0 mL0 rt0 args) (hy0 : y0.cls = RX9) (hK : KK G s) (hP : va_P G.1 vwCl ws H) (hD : va_D A ws) (hS : va_S A H0 H locs) (q0 : Nat) {fs : List Value} {v : Value} {ws' : va_W} (he : ws[q0]? = some (a, .inr (9, fs))) (hl : 4 < fs.length) (hws : ws.set q0 (a, .inr (9, fs.set 4 v)) = ws') (hn : narrow .int v = v) (hfit : fits .int v = true) (hdg : decode b0 pc = .ok (.putfield 26, 3)) (kk : ∀ (H1 : Heap) (locs1 : List Loc), va_P G.1 vwCl ws' H1 → va_D A ws' → va_S A H0 H1 locs1 → W p l e R s m args below meth c H1 locs1 cells slots Q (F0 m (pc + 3) ls rest)) : W p l e R s m args below meth c H locs cells slots Q (F0 m pc ls (v :: .ref a :: rest)) := by
  obtain ⟨hx, hb, hr, hml, hB, hown, hlocks, hnm⟩ := hC
  rw [hy0] at hown
  subst hws
  exact va_put (ci := 9) (ty := .int) (C := RX9) (T := TX9) (N := 6) hx hb hB in_X9 tyX9 tyX9_ok nmX9 hown hK.1 hP hD hS q0 he rfl 4 (by decide) (hB _ m_219) (fun _ h => h) rfl (by decide +kernel) hn hfit hl hdg kk
theorem gX9_weigh_2 : (decode cX9_weigh 34 = .ok (.aload_n 0, 1)) ∧ (decode cX9_weigh 35 = .ok (.getfield 9, 3)) ∧ (decode cX9_weigh 38 = .ok (.getfield 42, 3)) ∧ (decode cX9_weigh 41 = .ok (.invokevirtual 65, 3)) ∧ (decode cX9_weigh 44 = .ok (.if_icmp .ge 110, 3)) ∧ (decode cX9_weigh 47 = .ok (.aload_n 0, 1)) ∧ (decode cX9_weigh 48 = .ok (.getfield 9, 3)) ∧ (decode cX9_weigh 51 = .ok (.getfield 42, 3)) ∧ (decode cX9_weigh 54 = .ok (.iload 4, 2)) ∧ (decode cX9_weigh 56 = .ok (.iconst 3, 1)) := by decide +kernel
theorem gX9_weigh_7 : (decode cX9_weigh 137 = .ok (.iload 6, 2)) ∧ (decode cX9_weigh 139 = .ok (.putfield 26, 3)) ∧ (decode cX9_weigh 142 = .ok (.aload_n 0, 1)) ∧ (decode cX9_weigh 143 = .ok (.iload 5, 2)) ∧ (decode cX9_weigh 145 = .ok (.putfield 29, 3)) ∧ (decode cX9_weigh 148 = .ok (.iinc 4 1, 3)) ∧ (decode cX9_weigh 151 = .ok (.goto (-119), 3)) ∧ (decode cX9_weigh 154 = .ok (.return_, 1)) := by decide +kernel
theorem gX9_weigh_3 : (decode cX9_weigh 57 = .ok (.invokevirtual 48, 3)) ∧ (decode cX9_weigh 60 = .ok (.iconst 1, 1)) ∧ (decode cX9_weigh 61 = .ok (.iadd, 1)) ∧ (decode cX9_weigh 62 = .ok (.istore 5, 2)) ∧ (decode cX9_weigh 64 = .ok (.iload 5, 2)) ∧ (decode cX9_weigh 66 = .ok (.aload_n 0, 1)) ∧ (decode cX9_weigh 67 = .ok (.getfield 19, 3)) ∧ (decode cX9_weigh 70 = .ok (.aload_n 0, 1)) ∧ (decode cX9_weigh 71 = .ok (.getfield 23, 3)) ∧ (decode cX9_weigh 74 = .ok (.invokestatic 69, 3)) := by decide +kernel
theorem gf_X9_23 (hC : CX p s m meth c y0 b0 mL0 rt0 args) (hy0 : y0.cls = RX9) (hK : KK G s) (hP : va_P G.1 vwCl ws H) (q0 : Nat) {fs : List Value} {v : Value} (he : ws[q0]? = some (a, .inr (9, fs))) (hv : fs[3]? = some v) (hdg : decode b0 pc = .ok (.getfield 23, 3)) (kk : W p l e R s m args below meth c H locs cells slots Q (F0 m (pc + 3) ls (v :: rest))) : W p l e R s m args below meth c H locs cells slots Q (F0 m pc ls (.ref a :: rest)) := by
  obtain ⟨hx, hb, hr, hml, hB, hown, hlocks, hnm⟩ := hC
  rw [hy0] at hown
  exact va_get (ci := 9) (C := RX9) (T := TX9) (N := 6) hx hb hB in_X9 hown hK.1 hP q0 he rfl 3 (by decide) (hB _ m_218) (fun _ h => h) hv hdg kk
theorem nm_51 : Cond.methodLinkNest RX9 69 yX11_within RX11 ∈ NestW := List.mem_of_getElem? (i := 51) rfl
theorem si_X9_69 : SSN RX9 RX11 69 yX11_within cX11_within 3 (some .boolean) 3 := ⟨⟨nm_51, m_293, m_102, m_294⟩, ⟨nK_RX11.1, nK_RX11.2, pd_0⟩⟩
theorem gX9_weigh_4 : (decode cX9_weigh 77 = .ok (.ifCond .eq 71, 3)) ∧ (decode cX9_weigh 80 = .ok (.aload_n 0, 1)) ∧ (decode cX9_weigh 81 = .ok (.iload 4, 2)) ∧ (decode cX9_weigh 83 = .ok (.iload_n 1, 1)) ∧ (decode cX9_weigh 84 = .ok (.iload_n 2, 1)) ∧ (decode cX9_weigh 85 = .ok (.iload_n 3, 1)) ∧ (decode cX9_weigh 86 = .ok (.invokevirtual 73, 3)) ∧ (decode cX9_weigh 89 = .ok (.ifCond .ne 6, 3)) ∧ (decode cX9_weigh 92 = .ok (.goto 56, 3)) ∧ (decode cX9_weigh 95 = .ok (.aload_n 0, 1)) := by decide +kernel
theorem gX9_weigh_5 : (decode cX9_weigh 96 = .ok (.iload 5, 2)) ∧ (decode cX9_weigh 98 = .ok (.iload_n 1, 1)) ∧ (decode cX9_weigh 99 = .ok (.iload_n 2, 1)) ∧ (decode cX9_weigh 100 = .ok (.iload_n 3, 1)) ∧ (decode cX9_weigh 101 = .ok (.invokevirtual 61, 3)) ∧ (decode cX9_weigh 104 = .ok (.istore 6, 2)) ∧ (decode cX9_weigh 106 = .ok (.iload 6, 2)) ∧ (decode cX9_weigh 108 = .ok (.aload_n 0, 1)) ∧ (decode cX9_weigh 109 = .ok (.getfield 26, 3)) ∧ (decode cX9_weigh 112 = .ok (.if_icmp .gt 36, 3)) := by decide +kernel
theorem gf_X9_26 (hC : CX p s m meth c y0 b0 mL0 rt0 args) (hy0 : y0.cls = RX9) (hK : KK G s) (hP : va_P G.1 vwCl ws H) (q0 : Nat) {fs : List Value} {v : Value} (he : ws[q0]? = some (a, .inr (9, fs))) (hv : fs[4]? = some v) (hdg : decode b0 pc = .ok (.getfield 26, 3)) (kk : W p l e R s m args below meth c H locs cells slots Q (F0 m (pc + 3) ls (v :: rest))) : W p l e R s m args below meth c H locs cells slots Q (F0 m pc ls (.ref a :: rest)) := by
  obtain ⟨hx, hb, hr, hml, hB, hown, hlocks, hnm⟩ := hC
  rw [hy0] at hown
  exact va_get (ci := 9) (C := RX9) (T := TX9) (N := 6) hx hb hB in_X9 hown hK.1 hP q0 he rfl 4 (by decide) (hB _ m_219) (fun _ h => h) hv hdg kk
theorem gX9_weigh_6 : (decode cX9_weigh 115 = .ok (.iload 6, 2)) ∧ (decode cX9_weigh 117 = .ok (.aload_n 0, 1)) ∧ (decode cX9_weigh 118 = .ok (.getfield 26, 3)) ∧ (decode cX9_weigh 121 = .ok (.if_icmp .ne 15, 3)) ∧ (decode cX9_weigh 124 = .ok (.iload 5, 2)) ∧ (decode cX9_weigh 126 = .ok (.aload_n 0, 1)) ∧ (decode cX9_weigh 127 = .ok (.getfield 29, 3)) ∧ (decode cX9_weigh 130 = .ok (.if_icmp .lt 6, 3)) ∧ (decode cX9_weigh 133 = .ok (.goto 15, 3)) ∧ (decode cX9_weigh 136 = .ok (.aload_n 0, 1)) := by decide +kernel
theorem gf_X9_29 (hC : CX p s m meth c y0 b0 mL0 rt0 args) (hy0 : y0.cls = RX9) (hK : KK G s) (hP : va_P G.1 vwCl ws H) (q0 : Nat) {fs : List Value} {v : Value} (he : ws[q0]? = some (a, .inr (9, fs))) (hv : fs[5]? = some v) (hdg : decode b0 pc = .ok (.getfield 29, 3)) (kk : W p l e R s m args below meth c H locs cells slots Q (F0 m (pc + 3) ls (v :: rest))) : W p l e R s m args below meth c H locs cells slots Q (F0 m pc ls (.ref a :: rest)) := by
  obtain ⟨hx, hb, hr, hml, hB, hown, hlocks, hnm⟩ := hC
  rw [hy0] at hown
  exact va_get (ci := 9) (C := RX9) (T := TX9) (N := 6) hx hb hB in_X9 hown hK.1 hP q0 he rfl 5 (by decide) (hB _ m_220) (fun _ h => h) hv hdg kk
theorem gX9_impossibleOnes_0 : (decode cX9_impossibleOnes 0 = .ok (.iconst 0, 1)) ∧ (decode cX9_impossibleOnes 1 = .ok (.istore_n 2, 1)) ∧ (decode cX9_impossibleOnes 2 = .ok (.iconst 0, 1)) ∧ (decode cX9_impossibleOnes 3 = .ok (.istore_n 3, 1)) ∧ (decode cX9_impossibleOnes 4 = .ok (.iload_n 3, 1)) ∧ (decode cX9_impossibleOnes 5 = .ok (.aload_n 0, 1)) ∧ (decode cX9_impossibleOnes 6 = .ok (.getfield 9, 3)) ∧ (decode cX9_impossibleOnes 9 = .ok (.getfield 42, 3)) ∧ (decode cX9_impossibleOnes 12 = .ok (.invokevirtual 65, 3)) ∧ (decode cX9_impossibleOnes 15 = .ok (.if_icmp .ge 126, 3)) := by decide +kernel
theorem gX9_impossibleOnes_7 : (decode cX9_impossibleOnes 135 = .ok (.iinc 3 1, 3)) ∧ (decode cX9_impossibleOnes 138 = .ok (.goto (-134), 3)) ∧ (decode cX9_impossibleOnes 141 = .ok (.iload_n 2, 1)) ∧ (decode cX9_impossibleOnes 142 = .ok (.ireturn, 1)) := by decide +kernel
theorem gX9_impossibleOnes_1 : (decode cX9_impossibleOnes 18 = .ok (.aload_n 0, 1)) ∧ (decode cX9_impossibleOnes 19 = .ok (.getfield 9, 3)) ∧ (decode cX9_impossibleOnes 22 = .ok (.iload_n 3, 1)) ∧ (decode cX9_impossibleOnes 23 = .ok (.iload_n 1, 1)) ∧ (decode cX9_impossibleOnes 24 = .ok (.invokevirtual 54, 3)) ∧ (decode cX9_impossibleOnes 27 = .ok (.ifCond .ne 6, 3)) ∧ (decode cX9_impossibleOnes 30 = .ok (.goto 105, 3)) ∧ (decode cX9_impossibleOnes 33 = .ok (.aload_n 0, 1)) ∧ (decode cX9_impossibleOnes 34 = .ok (.aload_n 0, 1)) ∧ (decode cX9_impossibleOnes 35 = .ok (.getfield 9, 3)) := by decide +kernel
theorem gX9_impossibleOnes_2 : (decode cX9_impossibleOnes 38 = .ok (.getfield 42, 3)) ∧ (decode cX9_impossibleOnes 41 = .ok (.iload_n 3, 1)) ∧ (decode cX9_impossibleOnes 42 = .ok (.iconst 1, 1)) ∧ (decode cX9_impossibleOnes 43 = .ok (.invokevirtual 48, 3)) ∧ (decode cX9_impossibleOnes 46 = .ok (.aload_n 0, 1)) ∧ (decode cX9_impossibleOnes 47 = .ok (.getfield 9, 3)) ∧ (decode cX9_impossibleOnes 50 = .ok (.getfield 42, 3)) ∧ (decode cX9_impossibleOnes 53 = .ok (.iload_n 3, 1)) ∧ (decode cX9_impossibleOnes 54 = .ok (.iconst 2, 1)) ∧ (decode cX9_impossibleOnes 55 = .ok (.invokevirtual 48, 3)) := by decide +kernel
theorem gX9_impossibleOnes_3 : (decode cX9_impossibleOnes 58 = .ok (.invokevirtual 57, 3)) ∧ (decode cX9_impossibleOnes 61 = .ok (.aload_n 0, 1)) ∧ (decode cX9_impossibleOnes 62 = .ok (.getfield 9, 3)) ∧ (decode cX9_impossibleOnes 65 = .ok (.getfield 42, 3)) ∧ (decode cX9_impossibleOnes 68 = .ok (.iload_n 3, 1)) ∧ (decode cX9_impossibleOnes 69 = .ok (.iconst 3, 1)) ∧ (decode cX9_impossibleOnes 70 = .ok (.invokevirtual 48, 3)) ∧ (decode cX9_impossibleOnes 73 = .ok (.istore 4, 2)) ∧ (decode cX9_impossibleOnes 75 = .ok (.aload_n 0, 1)) ∧ (decode cX9_impossibleOnes 76 = .ok (.getfield 9, 3)) := by decide +kernel
theorem gX9_impossibleOnes_4 : (decode cX9_impossibleOnes 79 = .ok (.getfield 42, 3)) ∧ (decode cX9_impossibleOnes 82 = .ok (.iload_n 3, 1)) ∧ (decode cX9_impossibleOnes 83 = .ok (.iconst 5, 1)) ∧ (decode cX9_impossibleOnes 84 = .ok (.invokevirtual 48, 3)) ∧ (decode cX9_impossibleOnes 87 = .ok (.iconst 1, 1)) ∧ (decode cX9_impossibleOnes 88 = .ok (.if_icmp .ne 20, 3)) ∧ (decode cX9_impossibleOnes 91 = .ok (.iload 4, 2)) ∧ (decode cX9_impossibleOnes 93 = .ok (.aload_n 0, 1)) ∧ (decode cX9_impossibleOnes 94 = .ok (.getfield 19, 3)) ∧ (decode cX9_impossibleOnes 97 = .ok (.if_icmp .ge 7, 3)) := by decide +kernel
theorem gX9_impossibleOnes_5 : (decode cX9_impossibleOnes 100 = .ok (.iconst 1, 1)) ∧ (decode cX9_impossibleOnes 101 = .ok (.goto 21, 3)) ∧ (decode cX9_impossibleOnes 104 = .ok (.iconst 0, 1)) ∧ (decode cX9_impossibleOnes 105 = .ok (.goto 17, 3)) ∧ (decode cX9_impossibleOnes 108 = .ok (.iload 4, 2)) ∧ (decode cX9_impossibleOnes 110 = .ok (.aload_n 0, 1)) ∧ (decode cX9_impossibleOnes 111 = .ok (.getfield 23, 3)) ∧ (decode cX9_impossibleOnes 114 = .ok (.if_icmp .lt 7, 3)) ∧ (decode cX9_impossibleOnes 117 = .ok (.iconst 1, 1)) ∧ (decode cX9_impossibleOnes 118 = .ok (.goto 4, 3)) := by decide +kernel
theorem gX9_impossibleOnes_6 : (decode cX9_impossibleOnes 121 = .ok (.iconst 0, 1)) ∧ (decode cX9_impossibleOnes 122 = .ok (.istore 5, 2)) ∧ (decode cX9_impossibleOnes 124 = .ok (.iload 5, 2)) ∧ (decode cX9_impossibleOnes 126 = .ok (.ifCond .eq 9, 3)) ∧ (decode cX9_impossibleOnes 129 = .ok (.iload_n 2, 1)) ∧ (decode cX9_impossibleOnes 130 = .ok (.iconst 1, 1)) ∧ (decode cX9_impossibleOnes 131 = .ok (.iload_n 3, 1)) ∧ (decode cX9_impossibleOnes 132 = .ok (.ishl, 1)) ∧ (decode cX9_impossibleOnes 133 = .ok (.ior, 1)) ∧ (decode cX9_impossibleOnes 134 = .ok (.istore_n 2, 1)) := by decide +kernel
end WR
theorem Wi3 {v : Int32} (h : Wi v 0 3) : ∃ j, j < 4 ∧ v = nI j := by
  obtain ⟨j, hj, e⟩ := Wi_nat (N := 3) (by decide) h
  exact ⟨j, by omega, e⟩
section WR
variable {p : Program} {l : Launch} {e : Env} {R : Room} {s : State} {m : MethodId} {args : Array Value} {below : List Frame} {meth : Method} {c : Code} {H : Heap} {locs : List Loc} {cells slots : Nat} {Q : State → Prop}
variable {pc : Nat} {ls : Array Slot} {rest : List Value} {G : GG} {ws : va_W} {A : Nat → Prop} {y0 : MethodName} {b0 : ByteArray} {mL0 : Nat} {rt0 : Option FieldType} {a : Nat} {H0 : Heap}
theorem gX4_sort_0 : (decode cX4_sort 0 = .ok (.iload_n 1, 1)) ∧ (decode cX4_sort 1 = .ok (.invokestatic 30, 3)) ∧ (decode cX4_sort 4 = .ok (.ifCond .eq 12, 3)) ∧ (decode cX4_sort 7 = .ok (.aload_n 0, 1)) ∧ (decode cX4_sort 8 = .ok (.getfield 11, 3)) ∧ (decode cX4_sort 11 = .ok (.iload_n 1, 1)) ∧ (decode cX4_sort 12 = .ok (.iaload, 1)) ∧ (decode cX4_sort 13 = .ok (.goto 4, 3)) ∧ (decode cX4_sort 16 = .ok (.iconst (-1), 1)) ∧ (decode cX4_sort 17 = .ok (.ireturn, 1)) := by decide +kernel
theorem m_407 : Cond.code yX11_isSheet cX11_isSheet 1 (some .boolean) ∈ BW := iB_BW22 _ (List.mem_of_getElem? (i := 11) rfl)
theorem nm_42 : Cond.methodLinkNest RX4 30 yX11_isSheet RX11 ∈ NestW := List.mem_of_getElem? (i := 42) rfl
theorem m_406 : Cond.static yX11_isSheet ∈ BW := iB_BW22 _ (List.mem_of_getElem? (i := 10) rfl)
theorem si_X4_30 : SSN RX4 RX11 30 yX11_isSheet cX11_isSheet 1 (some .boolean) 1 := ⟨⟨nm_42, m_406, m_102, m_407⟩, ⟨nK_RX11.1, nK_RX11.2, pd_5⟩⟩
theorem in_X4 : ∀ w ∈ wsX40, w ∈ BW := iB_wsX40
theorem m_257 : Cond.fieldLink RX4 11 "InquiryBench$Host" "sorts" "[I" ∈ BW := iB_BW14 _ (List.mem_of_getElem? (i := 3) rfl)
theorem gf_X4_11 (hC : CX p s m meth c y0 b0 mL0 rt0 args) (hy0 : y0.cls = RX4) (hK : KK G s) (hP : va_P G.1 vwCl ws H) (q0 : Nat) {fs : List Value} {v : Value} (he : ws[q0]? = some (a, .inr (4, fs))) (hv : fs[0]? = some v) (hdg : decode b0 pc = .ok (.getfield 11, 3)) (kk : W p l e R s m args below meth c H locs cells slots Q (F0 m (pc + 3) ls (v :: rest))) : W p l e R s m args below meth c H locs cells slots Q (F0 m pc ls (.ref a :: rest)) := by
  obtain ⟨hx, hb, hr, hml, hB, hown, hlocks, hnm⟩ := hC
  rw [hy0] at hown
  exact va_get (ci := 4) (C := RX4) (T := TX4) (N := 6) hx hb hB in_X4 hown hK.1 hP q0 he rfl 0 (by decide) (hB _ m_257) (fun _ h => h) hv hdg kk
theorem gX4_size_0 : (decode cX4_size 0 = .ok (.iload_n 1, 1)) ∧ (decode cX4_size 1 = .ok (.invokestatic 30, 3)) ∧ (decode cX4_size 4 = .ok (.ifCond .eq 12, 3)) ∧ (decode cX4_size 7 = .ok (.aload_n 0, 1)) ∧ (decode cX4_size 8 = .ok (.getfield 15, 3)) ∧ (decode cX4_size 11 = .ok (.iload_n 1, 1)) ∧ (decode cX4_size 12 = .ok (.iaload, 1)) ∧ (decode cX4_size 13 = .ok (.goto 4, 3)) ∧ (decode cX4_size 16 = .ok (.iconst 0, 1)) ∧ (decode cX4_size 17 = .ok (.ireturn, 1)) := by decide +kernel
theorem m_258 : Cond.fieldLink RX4 15 "InquiryBench$Host" "sizes" "[I" ∈ BW := iB_BW14 _ (List.mem_of_getElem? (i := 4) rfl)
theorem gf_X4_15 (hC : CX p s m meth c y0 b0 mL0 rt0 args) (hy0 : y0.cls = RX4) (hK : KK G s) (hP : va_P G.1 vwCl ws H) (q0 : Nat) {fs : List Value} {v : Value} (he : ws[q0]? = some (a, .inr (4, fs))) (hv : fs[1]? = some v) (hdg : decode b0 pc = .ok (.getfield 15, 3)) (kk : W p l e R s m args below meth c H locs cells slots Q (F0 m (pc + 3) ls (v :: rest))) : W p l e R s m args below meth c H locs cells slots Q (F0 m pc ls (.ref a :: rest)) := by
  obtain ⟨hx, hb, hr, hml, hB, hown, hlocks, hnm⟩ := hC
  rw [hy0] at hown
  exact va_get (ci := 4) (C := RX4) (T := TX4) (N := 6) hx hb hB in_X4 hown hK.1 hP q0 he rfl 1 (by decide) (hB _ m_258) (fun _ h => h) hv hdg kk
theorem gX4_refusal_0 : (decode cX4_refusal 0 = .ok (.aload_n 0, 1)) ∧ (decode cX4_refusal 1 = .ok (.iload_n 1, 1)) ∧ (decode cX4_refusal 2 = .ok (.invokevirtual 38, 3)) ∧ (decode cX4_refusal 5 = .ok (.istore_n 3, 1)) ∧ (decode cX4_refusal 6 = .ok (.iload_n 3, 1)) ∧ (decode cX4_refusal 7 = .ok (.iconst (-1), 1)) ∧ (decode cX4_refusal 8 = .ok (.if_icmp .ne 6, 3)) ∧ (decode cX4_refusal 11 = .ok (.bipush (-11), 2)) ∧ (decode cX4_refusal 13 = .ok (.ireturn, 1)) ∧ (decode cX4_refusal 14 = .ok (.iload_n 3, 1)) := by decide +kernel
theorem m_415 : Cond.code yX4_sort cX4_sort 2 (some .int) ∈ BW := iB_BW22 _ (List.mem_of_getElem? (i := 19) rfl)
theorem m_113 : Cond.initialized RX4 ∈ BW := iB_BW6 _ (List.mem_of_getElem? (i := 11) rfl)
theorem nK_RX4 : RX4 ≠ "java/lang/invoke/MethodHandle" ∧ RX4 ≠ "java/lang/invoke/VarHandle" := ⟨by decide +kernel, by decide +kernel⟩
theorem m_412 : Cond.methodLink RX4 38 yX4_sort ∈ BW := iB_BW22 _ (List.mem_of_getElem? (i := 16) rfl)
theorem m_413 : Cond.instanceMethod yX4_sort ∈ BW := iB_BW22 _ (List.mem_of_getElem? (i := 17) rfl)
theorem m_414 : Cond.selects RX4 yX4_sort yX4_sort ∈ BW := iB_BW22 _ (List.mem_of_getElem? (i := 18) rfl)
theorem si_X4_38 : SV RX4 RX4 38 yX4_sort cX4_sort 2 (some .int) 1 := ⟨⟨m_412, m_413, m_414, m_113, m_415⟩, rfl, nK_RX4.1, nK_RX4.2, pd_7⟩
theorem gX4_refusal_1 : (decode cX4_refusal 15 = .ok (.iload_n 2, 1)) ∧ (decode cX4_refusal 16 = .ok (.if_icmp .ne 7, 3)) ∧ (decode cX4_refusal 19 = .ok (.iconst 0, 1)) ∧ (decode cX4_refusal 20 = .ok (.goto 5, 3)) ∧ (decode cX4_refusal 23 = .ok (.bipush (-13), 2)) ∧ (decode cX4_refusal 25 = .ok (.ireturn, 1)) := by decide +kernel
end WR
theorem Wi39 {v : Int32} (h : Wi v 0 39) : ∃ j, j < 40 ∧ v = nI j := by
  obtain ⟨j, hj, e⟩ := Wi_nat (N := 39) (by decide) h
  exact ⟨j, by omega, e⟩
theorem ix160 {a b : Nat} (ha : a < 4) (hb : b < 40) : vp_in (nI a * 40 + nI b) 160 ∧ (nI a * 40 + nI b).toNatClampNeg = a * 40 + b := by
  have e : (40 : Int32) = nI 40 := rfl
  rw [e, nI_mul, nI_add]
  exact ⟨vp_in_nI (by omega) (by decide), nI_clamp (by omega)⟩
section WR
variable {p : Program} {l : Launch} {e : Env} {R : Room} {s : State} {m : MethodId} {args : Array Value} {below : List Frame} {meth : Method} {c : Code} {H : Heap} {locs : List Loc} {cells slots : Nat} {Q : State → Prop}
variable {pc : Nat} {ls : Array Slot} {rest : List Value} {G : GG} {ws : va_W} {A : Nat → Prop} {y0 : MethodName} {b0 : ByteArray} {mL0 : Nat} {rt0 : Option FieldType} {a : Nat} {H0 : Heap}
theorem gX4_clear_0 : (decode cX4_clear 0 = .ok (.iload_n 1, 1)) ∧ (decode cX4_clear 1 = .ok (.invokestatic 30, 3)) ∧ (decode cX4_clear 4 = .ok (.ifCond .ne 4, 3)) ∧ (decode cX4_clear 7 = .ok (.return_, 1)) ∧ (decode cX4_clear 8 = .ok (.aload_n 0, 1)) ∧ (decode cX4_clear 9 = .ok (.getfield 11, 3)) ∧ (decode cX4_clear 12 = .ok (.iload_n 1, 1)) ∧ (decode cX4_clear 13 = .ok (.iconst (-1), 1)) ∧ (decode cX4_clear 14 = .ok (.iastore, 1)) ∧ (decode cX4_clear 15 = .ok (.aload_n 0, 1)) := by decide +kernel
theorem gX4_clear_1 : (decode cX4_clear 16 = .ok (.getfield 15, 3)) ∧ (decode cX4_clear 19 = .ok (.iload_n 1, 1)) ∧ (decode cX4_clear 20 = .ok (.iconst 0, 1)) ∧ (decode cX4_clear 21 = .ok (.iastore, 1)) ∧ (decode cX4_clear 22 = .ok (.return_, 1)) := by decide +kernel
theorem gX4_lay_0 : (decode cX4_lay 0 = .ok (.iload_n 1, 1)) ∧ (decode cX4_lay 1 = .ok (.invokestatic 30, 3)) ∧ (decode cX4_lay 4 = .ok (.ifCond .eq 13, 3)) ∧ (decode cX4_lay 7 = .ok (.iload_n 3, 1)) ∧ (decode cX4_lay 8 = .ok (.iconst 0, 1)) ∧ (decode cX4_lay 9 = .ok (.bipush 40, 2)) ∧ (decode cX4_lay 11 = .ok (.invokestatic 34, 3)) ∧ (decode cX4_lay 14 = .ok (.ifCond .ne 4, 3)) ∧ (decode cX4_lay 17 = .ok (.return_, 1)) ∧ (decode cX4_lay 18 = .ok (.aload_n 0, 1)) := by decide +kernel
theorem nm_43 : Cond.methodLinkNest RX4 34 yX11_within RX11 ∈ NestW := List.mem_of_getElem? (i := 43) rfl
theorem si_X4_34 : SSN RX4 RX11 34 yX11_within cX11_within 3 (some .boolean) 3 := ⟨⟨nm_43, m_293, m_102, m_294⟩, ⟨nK_RX11.1, nK_RX11.2, pd_0⟩⟩
theorem gX4_lay_1 : (decode cX4_lay 19 = .ok (.getfield 11, 3)) ∧ (decode cX4_lay 22 = .ok (.iload_n 1, 1)) ∧ (decode cX4_lay 23 = .ok (.iload_n 2, 1)) ∧ (decode cX4_lay 24 = .ok (.iastore, 1)) ∧ (decode cX4_lay 25 = .ok (.aload_n 0, 1)) ∧ (decode cX4_lay 26 = .ok (.getfield 15, 3)) ∧ (decode cX4_lay 29 = .ok (.iload_n 1, 1)) ∧ (decode cX4_lay 30 = .ok (.iload_n 3, 1)) ∧ (decode cX4_lay 31 = .ok (.iastore, 1)) ∧ (decode cX4_lay 32 = .ok (.iconst 0, 1)) := by decide +kernel
theorem gX4_lay_2 : (decode cX4_lay 33 = .ok (.istore 4, 2)) ∧ (decode cX4_lay 35 = .ok (.iload 4, 2)) ∧ (decode cX4_lay 37 = .ok (.bipush 40, 2)) ∧ (decode cX4_lay 39 = .ok (.if_icmp .ge 22, 3)) ∧ (decode cX4_lay 42 = .ok (.aload_n 0, 1)) ∧ (decode cX4_lay 43 = .ok (.getfield 18, 3)) ∧ (decode cX4_lay 46 = .ok (.iload_n 1, 1)) ∧ (decode cX4_lay 47 = .ok (.bipush 40, 2)) ∧ (decode cX4_lay 49 = .ok (.imul, 1)) ∧ (decode cX4_lay 50 = .ok (.iload 4, 2)) := by decide +kernel
theorem gX4_lay_3 : (decode cX4_lay 52 = .ok (.iadd, 1)) ∧ (decode cX4_lay 53 = .ok (.iconst 0, 1)) ∧ (decode cX4_lay 54 = .ok (.iastore, 1)) ∧ (decode cX4_lay 55 = .ok (.iinc 4 1, 3)) ∧ (decode cX4_lay 58 = .ok (.goto (-23), 3)) ∧ (decode cX4_lay 61 = .ok (.return_, 1)) := by decide +kernel
theorem m_259 : Cond.fieldLink RX4 18 "InquiryBench$Host" "items" "[I" ∈ BW := iB_BW14 _ (List.mem_of_getElem? (i := 5) rfl)
theorem gf_X4_18 (hC : CX p s m meth c y0 b0 mL0 rt0 args) (hy0 : y0.cls = RX4) (hK : KK G s) (hP : va_P G.1 vwCl ws H) (q0 : Nat) {fs : List Value} {v : Value} (he : ws[q0]? = some (a, .inr (4, fs))) (hv : fs[2]? = some v) (hdg : decode b0 pc = .ok (.getfield 18, 3)) (kk : W p l e R s m args below meth c H locs cells slots Q (F0 m (pc + 3) ls (v :: rest))) : W p l e R s m args below meth c H locs cells slots Q (F0 m pc ls (.ref a :: rest)) := by
  obtain ⟨hx, hb, hr, hml, hB, hown, hlocks, hnm⟩ := hC
  rw [hy0] at hown
  exact va_get (ci := 4) (C := RX4) (T := TX4) (N := 6) hx hb hB in_X4 hown hK.1 hP q0 he rfl 2 (by decide) (hB _ m_259) (fun _ h => h) hv hdg kk
theorem gX4_at_0 : (decode cX4_at 0 = .ok (.iload_n 1, 1)) ∧ (decode cX4_at 1 = .ok (.invokestatic 30, 3)) ∧ (decode cX4_at 4 = .ok (.ifCond .eq 27, 3)) ∧ (decode cX4_at 7 = .ok (.iload_n 2, 1)) ∧ (decode cX4_at 8 = .ok (.iconst 0, 1)) ∧ (decode cX4_at 9 = .ok (.bipush 39, 2)) ∧ (decode cX4_at 11 = .ok (.invokestatic 34, 3)) ∧ (decode cX4_at 14 = .ok (.ifCond .eq 17, 3)) ∧ (decode cX4_at 17 = .ok (.aload_n 0, 1)) ∧ (decode cX4_at 18 = .ok (.getfield 18, 3)) := by decide +kernel
theorem gX4_at_1 : (decode cX4_at 21 = .ok (.iload_n 1, 1)) ∧ (decode cX4_at 22 = .ok (.bipush 40, 2)) ∧ (decode cX4_at 24 = .ok (.imul, 1)) ∧ (decode cX4_at 25 = .ok (.iload_n 2, 1)) ∧ (decode cX4_at 26 = .ok (.iadd, 1)) ∧ (decode cX4_at 27 = .ok (.iaload, 1)) ∧ (decode cX4_at 28 = .ok (.goto 4, 3)) ∧ (decode cX4_at 31 = .ok (.iconst 0, 1)) ∧ (decode cX4_at 32 = .ok (.ireturn, 1)) := by decide +kernel
theorem gX4_write_0 : (decode cX4_write 0 = .ok (.iload_n 1, 1)) ∧ (decode cX4_write 1 = .ok (.invokestatic 30, 3)) ∧ (decode cX4_write 4 = .ok (.ifCond .eq 13, 3)) ∧ (decode cX4_write 7 = .ok (.iload_n 2, 1)) ∧ (decode cX4_write 8 = .ok (.iconst 0, 1)) ∧ (decode cX4_write 9 = .ok (.bipush 39, 2)) ∧ (decode cX4_write 11 = .ok (.invokestatic 34, 3)) ∧ (decode cX4_write 14 = .ok (.ifCond .ne 4, 3)) ∧ (decode cX4_write 17 = .ok (.return_, 1)) ∧ (decode cX4_write 18 = .ok (.iload_n 3, 1)) := by decide +kernel
theorem gX4_write_1 : (decode cX4_write 19 = .ok (.istore 4, 2)) ∧ (decode cX4_write 21 = .ok (.aload_n 0, 1)) ∧ (decode cX4_write 22 = .ok (.getfield 11, 3)) ∧ (decode cX4_write 25 = .ok (.iload_n 1, 1)) ∧ (decode cX4_write 26 = .ok (.iaload, 1)) ∧ (decode cX4_write 27 = .ok (.ifCond .ne 7, 3)) ∧ (decode cX4_write 30 = .ok (.iload_n 3, 1)) ∧ (decode cX4_write 31 = .ok (.i2b, 1)) ∧ (decode cX4_write 32 = .ok (.istore 4, 2)) ∧ (decode cX4_write 34 = .ok (.aload_n 0, 1)) := by decide +kernel
theorem gX4_write_2 : (decode cX4_write 35 = .ok (.getfield 11, 3)) ∧ (decode cX4_write 38 = .ok (.iload_n 1, 1)) ∧ (decode cX4_write 39 = .ok (.iaload, 1)) ∧ (decode cX4_write 40 = .ok (.iconst 1, 1)) ∧ (decode cX4_write 41 = .ok (.if_icmp .ne 7, 3)) ∧ (decode cX4_write 44 = .ok (.iload_n 3, 1)) ∧ (decode cX4_write 45 = .ok (.i2s, 1)) ∧ (decode cX4_write 46 = .ok (.istore 4, 2)) ∧ (decode cX4_write 48 = .ok (.aload_n 0, 1)) ∧ (decode cX4_write 49 = .ok (.getfield 11, 3)) := by decide +kernel
theorem gX4_write_3 : (decode cX4_write 52 = .ok (.iload_n 1, 1)) ∧ (decode cX4_write 53 = .ok (.iaload, 1)) ∧ (decode cX4_write 54 = .ok (.iconst 4, 1)) ∧ (decode cX4_write 55 = .ok (.if_icmp .ne 14, 3)) ∧ (decode cX4_write 58 = .ok (.iload_n 3, 1)) ∧ (decode cX4_write 59 = .ok (.ifCond .eq 7, 3)) ∧ (decode cX4_write 62 = .ok (.iconst 1, 1)) ∧ (decode cX4_write 63 = .ok (.goto 4, 3)) ∧ (decode cX4_write 66 = .ok (.iconst 0, 1)) ∧ (decode cX4_write 67 = .ok (.istore 4, 2)) := by decide +kernel
theorem gX4_write_4 : (decode cX4_write 69 = .ok (.aload_n 0, 1)) ∧ (decode cX4_write 70 = .ok (.getfield 18, 3)) ∧ (decode cX4_write 73 = .ok (.iload_n 1, 1)) ∧ (decode cX4_write 74 = .ok (.bipush 40, 2)) ∧ (decode cX4_write 76 = .ok (.imul, 1)) ∧ (decode cX4_write 77 = .ok (.iload_n 2, 1)) ∧ (decode cX4_write 78 = .ok (.iadd, 1)) ∧ (decode cX4_write 79 = .ok (.iload 4, 2)) ∧ (decode cX4_write 81 = .ok (.iastore, 1)) ∧ (decode cX4_write 82 = .ok (.return_, 1)) := by decide +kernel
theorem gX4_hold_0 : (decode cX4_hold 0 = .ok (.iload_n 1, 1)) ∧ (decode cX4_hold 1 = .ok (.invokestatic 41, 3)) ∧ (decode cX4_hold 4 = .ok (.ifCond .ne 4, 3)) ∧ (decode cX4_hold 7 = .ok (.return_, 1)) ∧ (decode cX4_hold 8 = .ok (.aload_n 0, 1)) ∧ (decode cX4_hold 9 = .ok (.getfield 21, 3)) ∧ (decode cX4_hold 12 = .ok (.iload_n 1, 1)) ∧ (decode cX4_hold 13 = .ok (.iload_n 2, 1)) ∧ (decode cX4_hold 14 = .ok (.iastore, 1)) ∧ (decode cX4_hold 15 = .ok (.aload_n 0, 1)) := by decide +kernel
theorem m_918 : Cond.code yX11_isShelf cX11_isShelf 1 (some .boolean) ∈ BW := iB_BW49 _ (List.mem_of_getElem? (i := 7) rfl)
theorem nm_54 : Cond.methodLinkNest RX4 41 yX11_isShelf RX11 ∈ NestW := List.mem_of_getElem? (i := 54) rfl
theorem m_917 : Cond.static yX11_isShelf ∈ BW := iB_BW49 _ (List.mem_of_getElem? (i := 6) rfl)
theorem si_X4_41 : SSN RX4 RX11 41 yX11_isShelf cX11_isShelf 1 (some .boolean) 1 := ⟨⟨nm_54, m_917, m_102, m_918⟩, ⟨nK_RX11.1, nK_RX11.2, pd_5⟩⟩
theorem m_260 : Cond.fieldLink RX4 21 "InquiryBench$Host" "what" "[I" ∈ BW := iB_BW14 _ (List.mem_of_getElem? (i := 6) rfl)
theorem gf_X4_21 (hC : CX p s m meth c y0 b0 mL0 rt0 args) (hy0 : y0.cls = RX4) (hK : KK G s) (hP : va_P G.1 vwCl ws H) (q0 : Nat) {fs : List Value} {v : Value} (he : ws[q0]? = some (a, .inr (4, fs))) (hv : fs[3]? = some v) (hdg : decode b0 pc = .ok (.getfield 21, 3)) (kk : W p l e R s m args below meth c H locs cells slots Q (F0 m (pc + 3) ls (v :: rest))) : W p l e R s m args below meth c H locs cells slots Q (F0 m pc ls (.ref a :: rest)) := by
  obtain ⟨hx, hb, hr, hml, hB, hown, hlocks, hnm⟩ := hC
  rw [hy0] at hown
  exact va_get (ci := 4) (C := RX4) (T := TX4) (N := 6) hx hb hB in_X4 hown hK.1 hP q0 he rfl 3 (by decide) (hB _ m_260) (fun _ h => h) hv hdg kk
theorem gX4_hold_1 : (decode cX4_hold 16 = .ok (.getfield 24, 3)) ∧ (decode cX4_hold 19 = .ok (.iload_n 1, 1)) ∧ (decode cX4_hold 20 = .ok (.iload_n 3, 1)) ∧ (decode cX4_hold 21 = .ok (.iastore, 1)) ∧ (decode cX4_hold 22 = .ok (.return_, 1)) := by decide +kernel
theorem m_261 : Cond.fieldLink RX4 24 "InquiryBench$Host" "numbe\x72" "[I" ∈ BW := iB_BW14 _ (List.mem_of_getElem? (i := 7) rfl)
theorem gf_X4_24 (hC : CX p s m meth c y0 b0 mL0 rt0 args) (hy0 : y0.cls = RX4) (hK : KK G s) (hP : va_P G.1 vwCl ws H) (q0 : Nat) {fs : List Value} {v : Value} (he : ws[q0]? = some (a, .inr (4, fs))) (hv : fs[4]? = some v) (hdg : decode b0 pc = .ok (.getfield 24, 3)) (kk : W p l e R s m args below meth c H locs cells slots Q (F0 m (pc + 3) ls (v :: rest))) : W p l e R s m args below meth c H locs cells slots Q (F0 m pc ls (.ref a :: rest)) := by
  obtain ⟨hx, hb, hr, hml, hB, hown, hlocks, hnm⟩ := hC
  rw [hy0] at hown
  exact va_get (ci := 4) (C := RX4) (T := TX4) (N := 6) hx hb hB in_X4 hown hK.1 hP q0 he rfl 4 (by decide) (hB _ m_261) (fun _ h => h) hv hdg kk
theorem gX4_holdRow_0 : (decode cX4_holdRow 0 = .ok (.iload_n 1, 1)) ∧ (decode cX4_holdRow 1 = .ok (.invokestatic 41, 3)) ∧ (decode cX4_holdRow 4 = .ok (.ifCond .ne 4, 3)) ∧ (decode cX4_holdRow 7 = .ok (.return_, 1)) ∧ (decode cX4_holdRow 8 = .ok (.aload_n 0, 1)) ∧ (decode cX4_holdRow 9 = .ok (.getfield 21, 3)) ∧ (decode cX4_holdRow 12 = .ok (.iload_n 1, 1)) ∧ (decode cX4_holdRow 13 = .ok (.aload_n 0, 1)) ∧ (decode cX4_holdRow 14 = .ok (.iload_n 2, 1)) ∧ (decode cX4_holdRow 15 = .ok (.invokevirtual 38, 3)) := by decide +kernel
theorem gX4_holdRow_1 : (decode cX4_holdRow 18 = .ok (.iconst (-1), 1)) ∧ (decode cX4_holdRow 19 = .ok (.if_icmp .ne 7, 3)) ∧ (decode cX4_holdRow 22 = .ok (.iconst 4, 1)) ∧ (decode cX4_holdRow 23 = .ok (.goto 4, 3)) ∧ (decode cX4_holdRow 26 = .ok (.iconst 3, 1)) ∧ (decode cX4_holdRow 27 = .ok (.iastore, 1)) ∧ (decode cX4_holdRow 28 = .ok (.aload_n 0, 1)) ∧ (decode cX4_holdRow 29 = .ok (.getfield 24, 3)) ∧ (decode cX4_holdRow 32 = .ok (.iload_n 1, 1)) ∧ (decode cX4_holdRow 33 = .ok (.aload_n 0, 1)) := by decide +kernel
theorem gX4_holdRow_2 : (decode cX4_holdRow 34 = .ok (.iload_n 2, 1)) ∧ (decode cX4_holdRow 35 = .ok (.invokevirtual 44, 3)) ∧ (decode cX4_holdRow 38 = .ok (.iastore, 1)) ∧ (decode cX4_holdRow 39 = .ok (.aload_n 0, 1)) ∧ (decode cX4_holdRow 40 = .ok (.getfield 27, 3)) ∧ (decode cX4_holdRow 43 = .ok (.iload_n 1, 1)) ∧ (decode cX4_holdRow 44 = .ok (.aload_n 0, 1)) ∧ (decode cX4_holdRow 45 = .ok (.iload_n 2, 1)) ∧ (decode cX4_holdRow 46 = .ok (.invokevirtual 38, 3)) ∧ (decode cX4_holdRow 49 = .ok (.iastore, 1)) := by decide +kernel
theorem m_419 : Cond.code yX4_size cX4_size 2 (some .int) ∈ BW := iB_BW23 _ (List.mem_of_getElem? (i := 3) rfl)
theorem m_923 : Cond.methodLink RX4 44 yX4_size ∈ BW := iB_BW49 _ (List.mem_of_getElem? (i := 12) rfl)
theorem m_417 : Cond.instanceMethod yX4_size ∈ BW := iB_BW23 _ (List.mem_of_getElem? (i := 1) rfl)
theorem m_418 : Cond.selects RX4 yX4_size yX4_size ∈ BW := iB_BW23 _ (List.mem_of_getElem? (i := 2) rfl)
theorem si_X4_44 : SV RX4 RX4 44 yX4_size cX4_size 2 (some .int) 1 := ⟨⟨m_923, m_417, m_418, m_113, m_419⟩, rfl, nK_RX4.1, nK_RX4.2, pd_7⟩
theorem m_262 : Cond.fieldLink RX4 27 "InquiryBench$Host" "sort" "[I" ∈ BW := iB_BW14 _ (List.mem_of_getElem? (i := 8) rfl)
theorem gf_X4_27 (hC : CX p s m meth c y0 b0 mL0 rt0 args) (hy0 : y0.cls = RX4) (hK : KK G s) (hP : va_P G.1 vwCl ws H) (q0 : Nat) {fs : List Value} {v : Value} (he : ws[q0]? = some (a, .inr (4, fs))) (hv : fs[5]? = some v) (hdg : decode b0 pc = .ok (.getfield 27, 3)) (kk : W p l e R s m args below meth c H locs cells slots Q (F0 m (pc + 3) ls (v :: rest))) : W p l e R s m args below meth c H locs cells slots Q (F0 m pc ls (.ref a :: rest)) := by
  obtain ⟨hx, hb, hr, hml, hB, hown, hlocks, hnm⟩ := hC
  rw [hy0] at hown
  exact va_get (ci := 4) (C := RX4) (T := TX4) (N := 6) hx hb hB in_X4 hown hK.1 hP q0 he rfl 5 (by decide) (hB _ m_262) (fun _ h => h) hv hdg kk
theorem gX4_holdRow_3 : (decode cX4_holdRow 50 = .ok (.return_, 1)) := by decide +kernel
theorem gX4_held_0 : (decode cX4_held 0 = .ok (.iload_n 1, 1)) ∧ (decode cX4_held 1 = .ok (.invokestatic 41, 3)) ∧ (decode cX4_held 4 = .ok (.ifCond .ne 5, 3)) ∧ (decode cX4_held 7 = .ok (.iconst 4, 1)) ∧ (decode cX4_held 8 = .ok (.ireturn, 1)) ∧ (decode cX4_held 9 = .ok (.iconst 1, 1)) ∧ (decode cX4_held 10 = .ok (.istore_n 3, 1)) ∧ (decode cX4_held 11 = .ok (.aload_n 0, 1)) ∧ (decode cX4_held 12 = .ok (.getfield 21, 3)) ∧ (decode cX4_held 15 = .ok (.iload_n 1, 1)) := by decide +kernel
theorem gX4_held_1 : (decode cX4_held 16 = .ok (.iaload, 1)) ∧ (decode cX4_held 17 = .ok (.ifCond .ne 17, 3)) ∧ (decode cX4_held 20 = .ok (.aload_n 2, 1)) ∧ (decode cX4_held 21 = .ok (.getfield 47, 3)) ∧ (decode cX4_held 24 = .ok (.aload_n 0, 1)) ∧ (decode cX4_held 25 = .ok (.getfield 24, 3)) ∧ (decode cX4_held 28 = .ok (.iload_n 1, 1)) ∧ (decode cX4_held 29 = .ok (.iaload, 1)) ∧ (decode cX4_held 30 = .ok (.invokevirtual 53, 3)) ∧ (decode cX4_held 33 = .ok (.istore_n 3, 1)) := by decide +kernel
theorem gX4_held_2 : (decode cX4_held 34 = .ok (.aload_n 0, 1)) ∧ (decode cX4_held 35 = .ok (.getfield 21, 3)) ∧ (decode cX4_held 38 = .ok (.iload_n 1, 1)) ∧ (decode cX4_held 39 = .ok (.iaload, 1)) ∧ (decode cX4_held 40 = .ok (.iconst 1, 1)) ∧ (decode cX4_held 41 = .ok (.if_icmp .ne 17, 3)) ∧ (decode cX4_held 44 = .ok (.aload_n 2, 1)) ∧ (decode cX4_held 45 = .ok (.getfield 58, 3)) ∧ (decode cX4_held 48 = .ok (.aload_n 0, 1)) ∧ (decode cX4_held 49 = .ok (.getfield 24, 3)) := by decide +kernel
theorem gX4_held_3 : (decode cX4_held 52 = .ok (.iload_n 1, 1)) ∧ (decode cX4_held 53 = .ok (.iaload, 1)) ∧ (decode cX4_held 54 = .ok (.invokevirtual 53, 3)) ∧ (decode cX4_held 57 = .ok (.istore_n 3, 1)) ∧ (decode cX4_held 58 = .ok (.aload_n 0, 1)) ∧ (decode cX4_held 59 = .ok (.getfield 21, 3)) ∧ (decode cX4_held 62 = .ok (.iload_n 1, 1)) ∧ (decode cX4_held 63 = .ok (.iaload, 1)) ∧ (decode cX4_held 64 = .ok (.iconst 2, 1)) ∧ (decode cX4_held 65 = .ok (.if_icmp .ne 17, 3)) := by decide +kernel
theorem gX4_held_4 : (decode cX4_held 68 = .ok (.aload_n 2, 1)) ∧ (decode cX4_held 69 = .ok (.getfield 61, 3)) ∧ (decode cX4_held 72 = .ok (.aload_n 0, 1)) ∧ (decode cX4_held 73 = .ok (.getfield 24, 3)) ∧ (decode cX4_held 76 = .ok (.iload_n 1, 1)) ∧ (decode cX4_held 77 = .ok (.iaload, 1)) ∧ (decode cX4_held 78 = .ok (.invokevirtual 53, 3)) ∧ (decode cX4_held 81 = .ok (.istore_n 3, 1)) ∧ (decode cX4_held 82 = .ok (.iload_n 3, 1)) ∧ (decode cX4_held 83 = .ok (.ifCond .eq 12, 3)) := by decide +kernel
theorem gX4_held_5 : (decode cX4_held 86 = .ok (.aload_n 0, 1)) ∧ (decode cX4_held 87 = .ok (.getfield 21, 3)) ∧ (decode cX4_held 90 = .ok (.iload_n 1, 1)) ∧ (decode cX4_held 91 = .ok (.iaload, 1)) ∧ (decode cX4_held 92 = .ok (.goto 4, 3)) ∧ (decode cX4_held 95 = .ok (.iconst 4, 1)) ∧ (decode cX4_held 96 = .ok (.ireturn, 1)) := by decide +kernel
theorem nm_25 : Cond.fieldLinkNest RX4 61 RX0 "findings" "LInquiryBench$Table;" RX11 ∈ NestW := List.mem_of_getElem? (i := 25) rfl
theorem gf_X4_61 (hC : CX p s m meth c y0 b0 mL0 rt0 args) (hy0 : y0.cls = RX4) (hK : KK G s) (hP : va_P G.1 vwCl ws H) (q0 : Nat) {fs : List Value} {v : Value} (he : ws[q0]? = some (a, .inr (0, fs))) (hv : fs[7]? = some v) (hdg : decode b0 pc = .ok (.getfield 61, 3)) (kk : W p l e R s m args below meth c H locs cells slots Q (F0 m (pc + 3) ls (v :: rest))) : W p l e R s m args below meth c H locs cells slots Q (F0 m pc ls (.ref a :: rest)) := by
  obtain ⟨hx, hb, hr, hml, hB, hown, hlocks, hnm⟩ := hC
  rw [hy0] at hown
  exact va_getN (ci := 0) (C := RX0) (T := TX0) (N := 14) hx hb hB in_X0 hown hK.1 hP q0 he rfl 7 (by decide) (va_Nw.use rfl (hK.2.1 _ nm_25)) (fun _ h => h) hv hdg kk
theorem m_344 : Cond.code yX8_has cX8_has 2 (some .boolean) ∈ BW := iB_BW18 _ (List.mem_of_getElem? (i := 10) rfl)
theorem m_936 : Cond.methodLink RX4 53 yX8_has ∈ BW := iB_BW50 _ (List.mem_of_getElem? (i := 5) rfl)
theorem m_342 : Cond.instanceMethod yX8_has ∈ BW := iB_BW18 _ (List.mem_of_getElem? (i := 8) rfl)
theorem m_343 : Cond.selects RX8 yX8_has yX8_has ∈ BW := iB_BW18 _ (List.mem_of_getElem? (i := 9) rfl)
theorem si_X4_53 : SV RX4 RX8 53 yX8_has cX8_has 2 (some .boolean) 1 := ⟨⟨m_936, m_342, m_343, m_104, m_344⟩, rfl, nK_RX8.1, nK_RX8.2, pd_5⟩
theorem nm_22 : Cond.fieldLinkNest RX4 58 RX0 "sayings" "LInquiryBench$Table;" RX11 ∈ NestW := List.mem_of_getElem? (i := 22) rfl
theorem gf_X4_58 (hC : CX p s m meth c y0 b0 mL0 rt0 args) (hy0 : y0.cls = RX4) (hK : KK G s) (hP : va_P G.1 vwCl ws H) (q0 : Nat) {fs : List Value} {v : Value} (he : ws[q0]? = some (a, .inr (0, fs))) (hv : fs[6]? = some v) (hdg : decode b0 pc = .ok (.getfield 58, 3)) (kk : W p l e R s m args below meth c H locs cells slots Q (F0 m (pc + 3) ls (v :: rest))) : W p l e R s m args below meth c H locs cells slots Q (F0 m pc ls (.ref a :: rest)) := by
  obtain ⟨hx, hb, hr, hml, hB, hown, hlocks, hnm⟩ := hC
  rw [hy0] at hown
  exact va_getN (ci := 0) (C := RX0) (T := TX0) (N := 14) hx hb hB in_X0 hown hK.1 hP q0 he rfl 6 (by decide) (va_Nw.use rfl (hK.2.1 _ nm_22)) (fun _ h => h) hv hdg kk
theorem nm_8 : Cond.fieldLinkNest RX4 47 RX0 "papers" "LInquiryBench$Table;" RX11 ∈ NestW := List.mem_of_getElem? (i := 8) rfl
theorem gf_X4_47 (hC : CX p s m meth c y0 b0 mL0 rt0 args) (hy0 : y0.cls = RX4) (hK : KK G s) (hP : va_P G.1 vwCl ws H) (q0 : Nat) {fs : List Value} {v : Value} (he : ws[q0]? = some (a, .inr (0, fs))) (hv : fs[1]? = some v) (hdg : decode b0 pc = .ok (.getfield 47, 3)) (kk : W p l e R s m args below meth c H locs cells slots Q (F0 m (pc + 3) ls (v :: rest))) : W p l e R s m args below meth c H locs cells slots Q (F0 m pc ls (.ref a :: rest)) := by
  obtain ⟨hx, hb, hr, hml, hB, hown, hlocks, hnm⟩ := hC
  rw [hy0] at hown
  exact va_getN (ci := 0) (C := RX0) (T := TX0) (N := 14) hx hb hB in_X0 hown hK.1 hP q0 he rfl 1 (by decide) (va_Nw.use rfl (hK.2.1 _ nm_8)) (fun _ h => h) hv hdg kk
theorem gX4_heldNumber_0 : (decode cX4_heldNumber 0 = .ok (.iload_n 1, 1)) ∧ (decode cX4_heldNumber 1 = .ok (.invokestatic 41, 3)) ∧ (decode cX4_heldNumber 4 = .ok (.ifCond .eq 12, 3)) ∧ (decode cX4_heldNumber 7 = .ok (.aload_n 0, 1)) ∧ (decode cX4_heldNumber 8 = .ok (.getfield 24, 3)) ∧ (decode cX4_heldNumber 11 = .ok (.iload_n 1, 1)) ∧ (decode cX4_heldNumber 12 = .ok (.iaload, 1)) ∧ (decode cX4_heldNumber 13 = .ok (.goto 4, 3)) ∧ (decode cX4_heldNumber 16 = .ok (.iconst 0, 1)) ∧ (decode cX4_heldNumber 17 = .ok (.ireturn, 1)) := by decide +kernel
theorem gX4_heldSort_0 : (decode cX4_heldSort 0 = .ok (.iload_n 1, 1)) ∧ (decode cX4_heldSort 1 = .ok (.invokestatic 41, 3)) ∧ (decode cX4_heldSort 4 = .ok (.ifCond .eq 12, 3)) ∧ (decode cX4_heldSort 7 = .ok (.aload_n 0, 1)) ∧ (decode cX4_heldSort 8 = .ok (.getfield 27, 3)) ∧ (decode cX4_heldSort 11 = .ok (.iload_n 1, 1)) ∧ (decode cX4_heldSort 12 = .ok (.iaload, 1)) ∧ (decode cX4_heldSort 13 = .ok (.goto 4, 3)) ∧ (decode cX4_heldSort 16 = .ok (.iconst (-1), 1)) ∧ (decode cX4_heldSort 17 = .ok (.ireturn, 1)) := by decide +kernel
end WR
theorem sm_1_2_7_8_9 {a0 a1 a2 a3 a4 a5 a6 a7 a8 a9 : Nat × va_E} {l : va_W} : ([1, 2, 7, 8, 9] : List Nat).map (fun i => (a0 :: a1 :: a2 :: a3 :: a4 :: a5 :: a6 :: a7 :: a8 :: a9 :: l : va_W)[i]?) = ([a1, a2, a7, a8, a9] : va_W).map some := rfl
theorem fm_1_2_7_8_9 {a0 a1 a2 a3 a4 a5 a6 a7 a8 a9 : Nat × va_E} {l : va_W} : ([1, 2, 7, 8, 9] : List Nat).filterMap (fun i => (a0 :: a1 :: a2 :: a3 :: a4 :: a5 :: a6 :: a7 :: a8 :: a9 :: l : va_W)[i]?) = ([a1, a2, a7, a8, a9] : va_W) := rfl
theorem nd_1_2_7_8_9 : va_nd [1, 2, 7, 8, 9] = true := by decide
theorem sm_1_2_3_4_5_6_7_8_9_10_11 {a0 a1 a2 a3 a4 a5 a6 a7 a8 a9 a10 a11 : Nat × va_E} {l : va_W} : ([1, 2, 3, 4, 5, 6, 7, 8, 9, 10, 11] : List Nat).map (fun i => (a0 :: a1 :: a2 :: a3 :: a4 :: a5 :: a6 :: a7 :: a8 :: a9 :: a10 :: a11 :: l : va_W)[i]?) = ([a1, a2, a3, a4, a5, a6, a7, a8, a9, a10, a11] : va_W).map some := rfl
theorem fm_1_2_3_4_5_6_7_8_9_10_11 {a0 a1 a2 a3 a4 a5 a6 a7 a8 a9 a10 a11 : Nat × va_E} {l : va_W} : ([1, 2, 3, 4, 5, 6, 7, 8, 9, 10, 11] : List Nat).filterMap (fun i => (a0 :: a1 :: a2 :: a3 :: a4 :: a5 :: a6 :: a7 :: a8 :: a9 :: a10 :: a11 :: l : va_W)[i]?) = ([a1, a2, a3, a4, a5, a6, a7, a8, a9, a10, a11] : va_W) := rfl
theorem nd_1_2_3_4_5_6_7_8_9_10_11 : va_nd [1, 2, 3, 4, 5, 6, 7, 8, 9, 10, 11] = true := by decide
theorem sm_1_2_3 {a0 a1 a2 a3 : Nat × va_E} {l : va_W} : ([1, 2, 3] : List Nat).map (fun i => (a0 :: a1 :: a2 :: a3 :: l : va_W)[i]?) = ([a1, a2, a3] : va_W).map some := rfl
theorem fm_1_2_3 {a0 a1 a2 a3 : Nat × va_E} {l : va_W} : ([1, 2, 3] : List Nat).filterMap (fun i => (a0 :: a1 :: a2 :: a3 :: l : va_W)[i]?) = ([a1, a2, a3] : va_W) := rfl
theorem nd_1_2_3 : va_nd [1, 2, 3] = true := by decide
theorem sm_0_1_2_3 {a0 a1 a2 a3 : Nat × va_E} {l : va_W} : ([0, 1, 2, 3] : List Nat).map (fun i => (a0 :: a1 :: a2 :: a3 :: l : va_W)[i]?) = ([a0, a1, a2, a3] : va_W).map some := rfl
theorem fm_0_1_2_3 {a0 a1 a2 a3 : Nat × va_E} {l : va_W} : ([0, 1, 2, 3] : List Nat).filterMap (fun i => (a0 :: a1 :: a2 :: a3 :: l : va_W)[i]?) = ([a0, a1, a2, a3] : va_W) := rfl
theorem nd_0_1_2_3 : va_nd [0, 1, 2, 3] = true := by decide
theorem rm_6_4_4 {mc ms : Nat} : 4 + 1 ≤ (RM 6 mc ms).frames ∧ 8 + (4 + 11) + 40 * 4 ≤ (RM 6 mc ms).locals := ⟨by show 4 + 1 ≤ 6; decide, by show 8 + (4 + 11) + 40 * 4 ≤ 40 * 6; decide⟩
theorem sm_0_1_2_3_4_5_6_7_8_9_10_11 {a0 a1 a2 a3 a4 a5 a6 a7 a8 a9 a10 a11 : Nat × va_E} {l : va_W} : ([0, 1, 2, 3, 4, 5, 6, 7, 8, 9, 10, 11] : List Nat).map (fun i => (a0 :: a1 :: a2 :: a3 :: a4 :: a5 :: a6 :: a7 :: a8 :: a9 :: a10 :: a11 :: l : va_W)[i]?) = ([a0, a1, a2, a3, a4, a5, a6, a7, a8, a9, a10, a11] : va_W).map some := rfl
theorem fm_0_1_2_3_4_5_6_7_8_9_10_11 {a0 a1 a2 a3 a4 a5 a6 a7 a8 a9 a10 a11 : Nat × va_E} {l : va_W} : ([0, 1, 2, 3, 4, 5, 6, 7, 8, 9, 10, 11] : List Nat).filterMap (fun i => (a0 :: a1 :: a2 :: a3 :: a4 :: a5 :: a6 :: a7 :: a8 :: a9 :: a10 :: a11 :: l : va_W)[i]?) = ([a0, a1, a2, a3, a4, a5, a6, a7, a8, a9, a10, a11] : va_W) := rfl
theorem nd_0_1_2_3_4_5_6_7_8_9_10_11 : va_nd [0, 1, 2, 3, 4, 5, 6, 7, 8, 9, 10, 11] = true := by decide
theorem sm_12_13 {a0 a1 a2 a3 a4 a5 a6 a7 a8 a9 a10 a11 a12 a13 : Nat × va_E} {l : va_W} : ([12, 13] : List Nat).map (fun i => (a0 :: a1 :: a2 :: a3 :: a4 :: a5 :: a6 :: a7 :: a8 :: a9 :: a10 :: a11 :: a12 :: a13 :: l : va_W)[i]?) = ([a12, a13] : va_W).map some := rfl
theorem nd_12_13 : va_nd [12, 13] = true := by decide
theorem dj_0_1_2_3_4_5_6_7_8_9_10_11__12_13 : ∀ i ∈ ([12, 13] : List Nat), i ∉ ([0, 1, 2, 3, 4, 5, 6, 7, 8, 9, 10, 11] : List Nat) := by decide
theorem rm_6_5_9 {mc ms : Nat} : 5 + 1 ≤ (RM 6 mc ms).frames ∧ 8 + (9 + 11) + 40 * 5 ≤ (RM 6 mc ms).locals := ⟨by show 5 + 1 ≤ 6; decide, by show 8 + (9 + 11) + 40 * 5 ≤ 40 * 6; decide⟩
theorem sm_2_9_0_1 {a0 a1 a2 a3 a4 a5 a6 a7 a8 a9 : Nat × va_E} {l : va_W} : ([2, 9, 0, 1] : List Nat).map (fun i => (a0 :: a1 :: a2 :: a3 :: a4 :: a5 :: a6 :: a7 :: a8 :: a9 :: l : va_W)[i]?) = ([a2, a9, a0, a1] : va_W).map some := rfl
theorem fm_2_9_0_1 {a0 a1 a2 a3 a4 a5 a6 a7 a8 a9 : Nat × va_E} {l : va_W} : ([2, 9, 0, 1] : List Nat).filterMap (fun i => (a0 :: a1 :: a2 :: a3 :: a4 :: a5 :: a6 :: a7 :: a8 :: a9 :: l : va_W)[i]?) = ([a2, a9, a0, a1] : va_W) := rfl
theorem nd_2_9_0_1 : va_nd [2, 9, 0, 1] = true := by decide
theorem rm_6_1_1 {mc ms : Nat} : 1 + 1 ≤ (RM 6 mc ms).frames ∧ 8 + (1 + 11) + 40 * 1 ≤ (RM 6 mc ms).locals := ⟨by show 1 + 1 ≤ 6; decide, by show 8 + (1 + 11) + 40 * 1 ≤ 40 * 6; decide⟩
theorem rm_6_1_3 {mc ms : Nat} : 1 + 1 ≤ (RM 6 mc ms).frames ∧ 8 + (3 + 11) + 40 * 1 ≤ (RM 6 mc ms).locals := ⟨by show 1 + 1 ≤ 6; decide, by show 8 + (3 + 11) + 40 * 1 ≤ 40 * 6; decide⟩
theorem rm_6_4_5 {mc ms : Nat} : 4 + 1 ≤ (RM 6 mc ms).frames ∧ 8 + (5 + 11) + 40 * 4 ≤ (RM 6 mc ms).locals := ⟨by show 4 + 1 ≤ 6; decide, by show 8 + (5 + 11) + 40 * 4 ≤ 40 * 6; decide⟩
theorem sm_12 {a0 a1 a2 a3 a4 a5 a6 a7 a8 a9 a10 a11 a12 : Nat × va_E} {l : va_W} : ([12] : List Nat).map (fun i => (a0 :: a1 :: a2 :: a3 :: a4 :: a5 :: a6 :: a7 :: a8 :: a9 :: a10 :: a11 :: a12 :: l : va_W)[i]?) = ([a12] : va_W).map some := rfl
theorem fm_12 {a0 a1 a2 a3 a4 a5 a6 a7 a8 a9 a10 a11 a12 : Nat × va_E} {l : va_W} : ([12] : List Nat).filterMap (fun i => (a0 :: a1 :: a2 :: a3 :: a4 :: a5 :: a6 :: a7 :: a8 :: a9 :: a10 :: a11 :: a12 :: l : va_W)[i]?) = ([a12] : va_W) := rfl
theorem nd_12 : va_nd [12] = true := by decide
theorem rm_6_3_3 {mc ms : Nat} : 3 + 1 ≤ (RM 6 mc ms).frames ∧ 8 + (3 + 11) + 40 * 3 ≤ (RM 6 mc ms).locals := ⟨by show 3 + 1 ≤ 6; decide, by show 8 + (3 + 11) + 40 * 3 ≤ 40 * 6; decide⟩
theorem sm_7_12_13 {a0 a1 a2 a3 a4 a5 a6 a7 a8 a9 a10 a11 a12 a13 : Nat × va_E} {l : va_W} : ([7, 12, 13] : List Nat).map (fun i => (a0 :: a1 :: a2 :: a3 :: a4 :: a5 :: a6 :: a7 :: a8 :: a9 :: a10 :: a11 :: a12 :: a13 :: l : va_W)[i]?) = ([a7, a12, a13] : va_W).map some := rfl
theorem fm_7_12_13 {a0 a1 a2 a3 a4 a5 a6 a7 a8 a9 a10 a11 a12 a13 : Nat × va_E} {l : va_W} : ([7, 12, 13] : List Nat).filterMap (fun i => (a0 :: a1 :: a2 :: a3 :: a4 :: a5 :: a6 :: a7 :: a8 :: a9 :: a10 :: a11 :: a12 :: a13 :: l : va_W)[i]?) = ([a7, a12, a13] : va_W) := rfl
theorem nd_7_12_13 : va_nd [7, 12, 13] = true := by decide
theorem fm_12_13 {a0 a1 a2 a3 a4 a5 a6 a7 a8 a9 a10 a11 a12 a13 : Nat × va_E} {l : va_W} : ([12, 13] : List Nat).filterMap (fun i => (a0 :: a1 :: a2 :: a3 :: a4 :: a5 :: a6 :: a7 :: a8 :: a9 :: a10 :: a11 :: a12 :: a13 :: l : va_W)[i]?) = ([a12, a13] : va_W) := rfl
theorem fm_2_3_4_5_6_7_8_9_10_11_12_13_0_1 {a0 a1 a2 a3 a4 a5 a6 a7 a8 a9 a10 a11 a12 a13 : Nat × va_E} {l : va_W} : ([2, 3, 4, 5, 6, 7, 8, 9, 10, 11, 12, 13, 0, 1] : List Nat).filterMap (fun i => (a0 :: a1 :: a2 :: a3 :: a4 :: a5 :: a6 :: a7 :: a8 :: a9 :: a10 :: a11 :: a12 :: a13 :: l : va_W)[i]?) = ([a2, a3, a4, a5, a6, a7, a8, a9, a10, a11, a12, a13, a0, a1] : va_W) := rfl
theorem nd_2_3_4_5_6_7_8_9_10_11_12_13_0_1 : va_nd [2, 3, 4, 5, 6, 7, 8, 9, 10, 11, 12, 13, 0, 1] = true := by decide
theorem sm_2_3_4_5_6_7_8_9_10_11_12_13_0_1 {a0 a1 a2 a3 a4 a5 a6 a7 a8 a9 a10 a11 a12 a13 : Nat × va_E} {l : va_W} : ([2, 3, 4, 5, 6, 7, 8, 9, 10, 11, 12, 13, 0, 1] : List Nat).map (fun i => (a0 :: a1 :: a2 :: a3 :: a4 :: a5 :: a6 :: a7 :: a8 :: a9 :: a10 :: a11 :: a12 :: a13 :: l : va_W)[i]?) = ([a2, a3, a4, a5, a6, a7, a8, a9, a10, a11, a12, a13, a0, a1] : va_W).map some := rfl
theorem rm_3_2_1 {mc ms : Nat} : 2 + 1 ≤ (RM 3 mc ms).frames ∧ 8 + (1 + 11) + 40 * 2 ≤ (RM 3 mc ms).locals := ⟨by show 2 + 1 ≤ 3; decide, by show 8 + (1 + 11) + 40 * 2 ≤ 40 * 3; decide⟩
theorem sm_0_4 {a0 a1 a2 a3 a4 : Nat × va_E} {l : va_W} : ([0, 4] : List Nat).map (fun i => (a0 :: a1 :: a2 :: a3 :: a4 :: l : va_W)[i]?) = ([a0, a4] : va_W).map some := rfl
theorem fm_0_4 {a0 a1 a2 a3 a4 : Nat × va_E} {l : va_W} : ([0, 4] : List Nat).filterMap (fun i => (a0 :: a1 :: a2 :: a3 :: a4 :: l : va_W)[i]?) = ([a0, a4] : va_W) := rfl
theorem nd_0_4 : va_nd [0, 4] = true := by decide
theorem sm_0_5 {a0 a1 a2 a3 a4 a5 : Nat × va_E} {l : va_W} : ([0, 5] : List Nat).map (fun i => (a0 :: a1 :: a2 :: a3 :: a4 :: a5 :: l : va_W)[i]?) = ([a0, a5] : va_W).map some := rfl
theorem fm_0_5 {a0 a1 a2 a3 a4 a5 : Nat × va_E} {l : va_W} : ([0, 5] : List Nat).filterMap (fun i => (a0 :: a1 :: a2 :: a3 :: a4 :: a5 :: l : va_W)[i]?) = ([a0, a5] : va_W) := rfl
theorem nd_0_5 : va_nd [0, 5] = true := by decide
theorem sm_6 {a0 a1 a2 a3 a4 a5 a6 : Nat × va_E} {l : va_W} : ([6] : List Nat).map (fun i => (a0 :: a1 :: a2 :: a3 :: a4 :: a5 :: a6 :: l : va_W)[i]?) = ([a6] : va_W).map some := rfl
theorem fm_6 {a0 a1 a2 a3 a4 a5 a6 : Nat × va_E} {l : va_W} : ([6] : List Nat).filterMap (fun i => (a0 :: a1 :: a2 :: a3 :: a4 :: a5 :: a6 :: l : va_W)[i]?) = ([a6] : va_W) := rfl
theorem nd_6 : va_nd [6] = true := by decide
theorem sm_5 {a0 a1 a2 a3 a4 a5 : Nat × va_E} {l : va_W} : ([5] : List Nat).map (fun i => (a0 :: a1 :: a2 :: a3 :: a4 :: a5 :: l : va_W)[i]?) = ([a5] : va_W).map some := rfl
theorem fm_5 {a0 a1 a2 a3 a4 a5 : Nat × va_E} {l : va_W} : ([5] : List Nat).filterMap (fun i => (a0 :: a1 :: a2 :: a3 :: a4 :: a5 :: l : va_W)[i]?) = ([a5] : va_W) := rfl
theorem nd_5 : va_nd [5] = true := by decide
theorem sm_4 {a0 a1 a2 a3 a4 : Nat × va_E} {l : va_W} : ([4] : List Nat).map (fun i => (a0 :: a1 :: a2 :: a3 :: a4 :: l : va_W)[i]?) = ([a4] : va_W).map some := rfl
theorem fm_4 {a0 a1 a2 a3 a4 : Nat × va_E} {l : va_W} : ([4] : List Nat).filterMap (fun i => (a0 :: a1 :: a2 :: a3 :: a4 :: l : va_W)[i]?) = ([a4] : va_W) := rfl
theorem nd_4 : va_nd [4] = true := by decide
def K_c_bound (l : Launch) (G : GG) (h0 : Nat) (pe : Int32) (pa : Int32) (bb : Nat) (sg : Nat) (tf : Int32) (tt9 : Int32) (tl : Int32) (tbv : Int32) (clk : Nat) (fi : Nat) (la : Nat) (ml : Nat) (mm : Nat) (sl : Nat) (sm : Nat) (scl : Int32) (fla : Nat → Int32) (fml : Nat → Int32) (fmm : Nat → Int32) (fsl : Nat → Int32) (fsm : Nat → Int32) (bpersons : Nat) (bpapers : Nat) (bstamps : Nat) (bversions : Nat) (blines : Nat) (bsteps : Nat) (bsayings : Nat) (bfindings : Nat) (bwarnings : Nat) (bquestions : Nat) (td : Int32) (vd : Int32) (vl : Int32) (gp : Int32) (bpapersc : Nat) (kbpapers : Nat) (fbpapers : Nat → Int32) (bpersonsc : Nat) (kbpersons : Nat) (fbpersons : Nat → Int32) : Prop := MV l G yX9_bound cX9_bound 4 4 0 0 [.ref h0, .int pe, .int pa] [(h0, oX9 bb sg tf tt9 tl tbv), (sg, oX7 bb clk fi la ml mm sl sm scl), (la, iA G 12 fla), (ml, iA G 12 fml), (mm, iA G 12 fmm), (sl, iA G 12 fsl), (sm, iA G 12 fsm), (bb, oX0 bpersons bpapers bstamps bversions blines bsteps bsayings bfindings bwarnings bquestions td vd vl gp), (bpapers, oX8 12 6 bpapersc (nI kbpapers)), (bpapersc, iA G 72 fbpapers), (bpersons, oX8 10 2 bpersonsc (nI kbpersons)), (bpersonsc, iA G 20 fbpersons)] (fun u : Int32 × Int32 => True) (fun u : Int32 × Int32 => [(h0, oX9 bb sg u.1 u.2 tl tbv), (sg, oX7 bb clk fi la ml mm sl sm scl), (la, iA G 12 fla), (ml, iA G 12 fml), (mm, iA G 12 fmm), (sl, iA G 12 fsl), (sm, iA G 12 fsm), (bb, oX0 bpersons bpapers bstamps bversions blines bsteps bsayings bfindings bwarnings bquestions td vd vl gp), (bpapers, oX8 12 6 bpapersc (nI kbpapers)), (bpapersc, iA G 72 fbpapers), (bpersons, oX8 10 2 bpersonsc (nI kbpersons)), (bpersonsc, iA G 20 fbpersons)])
set_option maxHeartbeats 4000000 in
set_option maxRecDepth 100000 in
theorem c_bound (l : Launch) (G : GG) (h0 : Nat) (pe : Int32) (pa : Int32) (bb : Nat) (sg : Nat) (tf : Int32) (tt9 : Int32) (tl : Int32) (tbv : Int32) (clk : Nat) (fi : Nat) (la : Nat) (ml : Nat) (mm : Nat) (sl : Nat) (sm : Nat) (scl : Int32) (fla : Nat → Int32) (fml : Nat → Int32) (fmm : Nat → Int32) (fsl : Nat → Int32) (fsm : Nat → Int32) (bpersons : Nat) (bpapers : Nat) (bstamps : Nat) (bversions : Nat) (blines : Nat) (bsteps : Nat) (bsayings : Nat) (bfindings : Nat) (bwarnings : Nat) (bquestions : Nat) (td : Int32) (vd : Int32) (vl : Int32) (gp : Int32) (bpapersc : Nat) (kbpapers : Nat) (fbpapers : Nat → Int32) (bpersonsc : Nat) (kbpersons : Nat) (fbpersons : Nat → Int32) (hkbpapers : kbpapers ≤ 12) (hkbpersons : kbpersons ≤ 10) : K_c_bound l G h0 pe pa bb sg tf tt9 tl tbv clk fi la ml mm sl sm scl fla fml fmm fsl fsm bpersons bpapers bstamps bversions blines bsteps bsayings bfindings bwarnings bquestions td vd vl gp bpapersc kbpapers fbpapers bpersonsc kbpersons fbpersons := by
  refine MV.start (by decide +kernel) (Nat.le_of_ble_eq_true rfl) ?_
  intro p e s m below meth c A ls hC hK hP hD hS hA hl
  refine absQ (fun Q0 hQ0 => ?_)
  have hl : lv_has ls 4 [(0, .ref h0), (1, .int pe), (2, .int pa)] := hl
  refine Kan8 hC (fun hx hb hr hml hB hown hlocks hnm => ?_)
  refine lv_aload_n hx hb gX9_bound_0.1 rfl (lv_at0 hl) ?_
  refine gf_X9_15 hC rfl hK hP 0 rfl rfl gX9_bound_0.2.1 ?_
  refine lv_iload_n hx hb gX9_bound_0.2.2.1 rfl (lv_at2 hl) ?_
  refine lv_iload_n hx hb gX9_bound_0.2.2.2.1 rfl (lv_at1 hl) ?_
  refine pV hC hK hl hP hD (c_isInHand l G sg pa pe bb clk fi la ml mm sl sm scl fla bpersons bpapers bstamps bversions blines bsteps bsayings bfindings bwarnings bquestions td vd vl gp bpapersc kbpapers fbpapers (hkbpapers)) si_X9_32 [1, 2, 7, 8, 9] sm_1_2_7_8_9 fm_1_2_7_8_9 nd_1_2_7_8_9 rfl rfl rfl rfl rfl (Nat.le_of_ble_eq_true rfl) rm_4_3_3 ⟨by first | exact Nat.le_of_ble_eq_true rfl | exact Nat.zero_le _, by first | exact Nat.le_of_ble_eq_true rfl | exact Nat.zero_le _⟩ gX9_bound_0.2.2.2.2.1 (Kors (Keqa fun a1284 => ?_) (Keqr ?_))
  · refine lv_istore_n (lv' := [(3, .int 1), (0, .ref h0), (1, .int pe), (2, .int pa)]) hx hb gX9_bound_0.2.2.2.2.2.1 rfl hl (by decide) rfl (fun ls hl => ?_)
    refine lv_aload_n hx hb gX9_bound_0.2.2.2.2.2.2.1 rfl (lv_at1 hl) ?_
    refine lv_iload_n hx hb gX9_bound_0.2.2.2.2.2.2.2.1 rfl (lv_at0 hl) ?_
    refine lv_if_eq (tgt := 28) hx hb gX9_bound_0.2.2.2.2.2.2.2.2.1 (by decide) (fun c9 => absurd c9 (by decide)) (fun _ => ?_)
    refine lv_aload_n hx hb gX9_bound_0.2.2.2.2.2.2.2.2.2 rfl (lv_at1 hl) ?_
    refine gf_X9_15 hC rfl hK hP 0 rfl rfl gX9_bound_1.1 ?_
    refine lv_iload_n hx hb gX9_bound_1.2.1 rfl (lv_at3 hl) ?_
    refine lv_iload_n hx hb gX9_bound_1.2.2.1 rfl (lv_at2 hl) ?_
    refine lv_iconst (v := 0) hx hb gX9_bound_1.2.2.2.1 (by decide) ?_
    refine pV hC hK hl hP hD (c_handHour l G sg pa pe 0 bb clk fi la ml mm sl sm scl fla fml fmm fsl fsm bpersons bpapers bstamps bversions blines bsteps bsayings bfindings bwarnings bquestions td vd vl gp bpapersc kbpapers fbpapers bpersonsc kbpersons fbpersons (hkbpapers) (hkbpersons)) si_X9_38 [1, 2, 3, 4, 5, 6, 7, 8, 9, 10, 11] sm_1_2_3_4_5_6_7_8_9_10_11 fm_1_2_3_4_5_6_7_8_9_10_11 nd_1_2_3_4_5_6_7_8_9_10_11 rfl rfl rfl rfl rfl (Nat.le_of_ble_eq_true rfl) rm_4_3_4 ⟨by first | exact Nat.le_of_ble_eq_true rfl | exact Nat.zero_le _, by first | exact Nat.le_of_ble_eq_true rfl | exact Nat.zero_le _⟩ gX9_bound_1.2.2.2.2.1 (fun r1285 hr1285 => ?_)
    refine lv_goto (tgt := 29) hx hb gX9_bound_1.2.2.2.2.2.1 (by decide) ?_
    refine pf_X9_19 hC rfl hK hP hD hS 0 (ws' := [(h0, oX9 bb sg r1285 tt9 tl tbv), (sg, oX7 bb clk fi la ml mm sl sm scl), (la, iA G 12 fla), (ml, iA G 12 fml), (mm, iA G 12 fmm), (sl, iA G 12 fsl), (sm, iA G 12 fsm), (bb, oX0 bpersons bpapers bstamps bversions blines bsteps bsayings bfindings bwarnings bquestions td vd vl gp), (bpapers, oX8 12 6 bpapersc (nI kbpapers)), (bpapersc, iA G 72 fbpapers), (bpersons, oX8 10 2 bpersonsc (nI kbpersons)), (bpersonsc, iA G 20 fbpersons)]) rfl (Nat.le_of_ble_eq_true rfl) rfl rfl rfl gX9_bound_1.2.2.2.2.2.2.2.1 (fun H locs hP hD hS => ?_)
    refine lv_aload_n hx hb gX9_bound_1.2.2.2.2.2.2.2.2.1 rfl (lv_at1 hl) ?_
    refine lv_iload_n hx hb gX9_bound_1.2.2.2.2.2.2.2.2.2 rfl (lv_at0 hl) ?_
    refine lv_if_eq (tgt := 50) hx hb gX9_bound_2.1 (by decide) (fun c9 => absurd c9 (by decide)) (fun _ => ?_)
    refine lv_aload_n hx hb gX9_bound_2.2.1 rfl (lv_at1 hl) ?_
    refine gf_X9_15 hC rfl hK hP 0 rfl rfl gX9_bound_2.2.2.1 ?_
    refine lv_iload_n hx hb gX9_bound_2.2.2.2.1 rfl (lv_at3 hl) ?_
    refine lv_iload_n hx hb gX9_bound_2.2.2.2.2.1 rfl (lv_at2 hl) ?_
    refine lv_iconst (v := 1) hx hb gX9_bound_2.2.2.2.2.2.1 (by decide) ?_
    refine pV hC hK hl hP hD (c_handHour l G sg pa pe 1 bb clk fi la ml mm sl sm scl fla fml fmm fsl fsm bpersons bpapers bstamps bversions blines bsteps bsayings bfindings bwarnings bquestions td vd vl gp bpapersc kbpapers fbpapers bpersonsc kbpersons fbpersons (hkbpapers) (hkbpersons)) si_X9_38 [1, 2, 3, 4, 5, 6, 7, 8, 9, 10, 11] sm_1_2_3_4_5_6_7_8_9_10_11 fm_1_2_3_4_5_6_7_8_9_10_11 nd_1_2_3_4_5_6_7_8_9_10_11 rfl rfl rfl rfl rfl (Nat.le_of_ble_eq_true rfl) rm_4_3_4 ⟨by first | exact Nat.le_of_ble_eq_true rfl | exact Nat.zero_le _, by first | exact Nat.le_of_ble_eq_true rfl | exact Nat.zero_le _⟩ gX9_bound_2.2.2.2.2.2.2.1 (fun r1286 hr1286 => ?_)
    refine lv_goto (tgt := 53) hx hb gX9_bound_2.2.2.2.2.2.2.2.1 (by decide) ?_
    refine pf_X9_23 hC rfl hK hP hD hS 0 (ws' := [(h0, oX9 bb sg r1285 r1286 tl tbv), (sg, oX7 bb clk fi la ml mm sl sm scl), (la, iA G 12 fla), (ml, iA G 12 fml), (mm, iA G 12 fmm), (sl, iA G 12 fsl), (sm, iA G 12 fsm), (bb, oX0 bpersons bpapers bstamps bversions blines bsteps bsayings bfindings bwarnings bquestions td vd vl gp), (bpapers, oX8 12 6 bpapersc (nI kbpapers)), (bpapersc, iA G 72 fbpapers), (bpersons, oX8 10 2 bpersonsc (nI kbpersons)), (bpersonsc, iA G 20 fbpersons)]) rfl (Nat.le_of_ble_eq_true rfl) rfl rfl rfl gX9_bound_2.2.2.2.2.2.2.2.2.2 (fun H locs hP hD hS => ?_)
    refine toQ hQ0 ?_
    exact RV hC hP hD hS [0, 1, 2, 3, 4, 5, 6, 7, 8, 9, 10, 11] (r1285, r1286) rfl rfl (by decide) (trivial) gX9_bound_3
  · refine lv_istore_n (lv' := [(3, .int 0), (0, .ref h0), (1, .int pe), (2, .int pa)]) hx hb gX9_bound_0.2.2.2.2.2.1 rfl hl (by decide) rfl (fun ls hl => ?_)
    refine lv_aload_n hx hb gX9_bound_0.2.2.2.2.2.2.1 rfl (lv_at1 hl) ?_
    refine lv_iload_n hx hb gX9_bound_0.2.2.2.2.2.2.2.1 rfl (lv_at0 hl) ?_
    refine lv_if_eq (tgt := 28) hx hb gX9_bound_0.2.2.2.2.2.2.2.2.1 (by decide) (fun _ => ?_) (fun c9 => absurd (by decide) c9)
    refine lv_iconst (v := 0) hx hb gX9_bound_1.2.2.2.2.2.2.1 (by decide) ?_
    refine pf_X9_19 hC rfl hK hP hD hS 0 (ws' := [(h0, oX9 bb sg 0 tt9 tl tbv), (sg, oX7 bb clk fi la ml mm sl sm scl), (la, iA G 12 fla), (ml, iA G 12 fml), (mm, iA G 12 fmm), (sl, iA G 12 fsl), (sm, iA G 12 fsm), (bb, oX0 bpersons bpapers bstamps bversions blines bsteps bsayings bfindings bwarnings bquestions td vd vl gp), (bpapers, oX8 12 6 bpapersc (nI kbpapers)), (bpapersc, iA G 72 fbpapers), (bpersons, oX8 10 2 bpersonsc (nI kbpersons)), (bpersonsc, iA G 20 fbpersons)]) rfl (Nat.le_of_ble_eq_true rfl) rfl rfl rfl gX9_bound_1.2.2.2.2.2.2.2.1 (fun H locs hP hD hS => ?_)
    refine lv_aload_n hx hb gX9_bound_1.2.2.2.2.2.2.2.2.1 rfl (lv_at1 hl) ?_
    refine lv_iload_n hx hb gX9_bound_1.2.2.2.2.2.2.2.2.2 rfl (lv_at0 hl) ?_
    refine lv_if_eq (tgt := 50) hx hb gX9_bound_2.1 (by decide) (fun _ => ?_) (fun c9 => absurd (by decide) c9)
    refine lv_sipush (v := 1000) hx hb gX9_bound_2.2.2.2.2.2.2.2.2.1 (by decide) ?_
    refine pf_X9_23 hC rfl hK hP hD hS 0 (ws' := [(h0, oX9 bb sg 0 1000 tl tbv), (sg, oX7 bb clk fi la ml mm sl sm scl), (la, iA G 12 fla), (ml, iA G 12 fml), (mm, iA G 12 fmm), (sl, iA G 12 fsl), (sm, iA G 12 fsm), (bb, oX0 bpersons bpapers bstamps bversions blines bsteps bsayings bfindings bwarnings bquestions td vd vl gp), (bpapers, oX8 12 6 bpapersc (nI kbpapers)), (bpapersc, iA G 72 fbpapers), (bpersons, oX8 10 2 bpersonsc (nI kbpersons)), (bpersonsc, iA G 20 fbpersons)]) rfl (Nat.le_of_ble_eq_true rfl) rfl rfl rfl gX9_bound_2.2.2.2.2.2.2.2.2.2 (fun H locs hP hD hS => ?_)
    refine toQ hQ0 ?_
    exact RV hC hP hD hS [0, 1, 2, 3, 4, 5, 6, 7, 8, 9, 10, 11] (0, 1000) rfl rfl (by decide) (trivial) gX9_bound_3
def K_c_isOn (l : Launch) (G : GG) (h0 : Nat) (sa : Int32) (pe : Int32) (pa : Int32) (pp : Int32) (bb : Nat) (sg : Nat) (tf : Int32) (tt9 : Int32) (tl : Int32) (tbv : Int32) (bpersons : Nat) (bpapers : Nat) (bstamps : Nat) (bversions : Nat) (blines : Nat) (bsteps : Nat) (bsayings : Nat) (bfindings : Nat) (bwarnings : Nat) (bquestions : Nat) (td : Int32) (vd : Int32) (vl : Int32) (gp : Int32) (bsayingsc : Nat) (kbsayings : Nat) (fbsayings : Nat → Int32) : Prop := MP l G yX9_isOn cX9_isOn 5 (some .boolean) 4 [.ref h0, .int sa, .int pe, .int pa, .int pp] [(h0, oX9 bb sg tf tt9 tl tbv), (bb, oX0 bpersons bpapers bstamps bversions blines bsteps bsayings bfindings bwarnings bquestions td vd vl gp), (bsayings, oX8 16 8 bsayingsc (nI kbsayings)), (bsayingsc, iA G 128 fbsayings)] (fun r : Int32 => r = 1 ∨ r = 0)
set_option maxHeartbeats 4000000 in
set_option maxRecDepth 100000 in
theorem c_isOn (l : Launch) (G : GG) (h0 : Nat) (sa : Int32) (pe : Int32) (pa : Int32) (pp : Int32) (bb : Nat) (sg : Nat) (tf : Int32) (tt9 : Int32) (tl : Int32) (tbv : Int32) (bpersons : Nat) (bpapers : Nat) (bstamps : Nat) (bversions : Nat) (blines : Nat) (bsteps : Nat) (bsayings : Nat) (bfindings : Nat) (bwarnings : Nat) (bquestions : Nat) (td : Int32) (vd : Int32) (vl : Int32) (gp : Int32) (bsayingsc : Nat) (kbsayings : Nat) (fbsayings : Nat → Int32) (hkbsayings : kbsayings ≤ 16) : K_c_isOn l G h0 sa pe pa pp bb sg tf tt9 tl tbv bpersons bpapers bstamps bversions blines bsteps bsayings bfindings bwarnings bquestions td vd vl gp bsayingsc kbsayings fbsayings := by
  refine MP.start (by decide +kernel) (Nat.le_of_ble_eq_true rfl) ?_
  intro p e s m below meth c ls hC hK hP hD hl
  refine absQ (fun Q0 hQ0 => ?_)
  have hl : lv_has ls 5 [(0, .ref h0), (1, .int sa), (2, .int pe), (3, .int pa), (4, .int pp)] := hl
  refine Kan8 hC (fun hx hb hr hml hB hown hlocks hnm => ?_)
  refine lv_aload_n hx hb gX9_isOn_0.1 rfl (lv_at0 hl) ?_
  refine gf_X9_9 hC rfl hK hP 0 rfl rfl gX9_isOn_0.2.1 ?_
  refine gf_X9_42 hC rfl hK hP 1 rfl rfl gX9_isOn_0.2.2.1 ?_
  refine lv_iload_n hx hb gX9_isOn_0.2.2.2.1 rfl (lv_at1 hl) ?_
  refine lv_iconst (v := 1) hx hb gX9_isOn_0.2.2.2.2.1 (by decide) ?_
  refine pV hC hK hl hP hD (c_T_at l G bsayings sa 1 16 8 bsayingsc kbsayings fbsayings (hkbsayings) (by omega) (by omega)) si_X9_48 [2, 3] sm_2_3 fm_2_3 nd_2_3 rfl rfl rfl rfl rfl (Nat.le_of_ble_eq_true rfl) rm_4_1_3 ⟨by first | exact Nat.le_of_ble_eq_true rfl | exact Nat.zero_le _, by first | exact Nat.le_of_ble_eq_true rfl | exact Nat.zero_le _⟩ gX9_isOn_0.2.2.2.2.2.1 (fun r1287 hr1287 => ?_)
  refine lv_iload_n hx hb gX9_isOn_0.2.2.2.2.2.2.1 rfl (lv_at2 hl) ?_
  refine lv_icmp_ne (tgt := 49) hx hb gX9_isOn_0.2.2.2.2.2.2.2.1 (by decide) (fun c_13_1289 => ?_) (fun c_13_1289 => ?_)
  · refine lv_iconst (v := 0) hx hb gX9_isOn_2.2.2.2.2.1 (by decide) ?_
    refine toQ hQ0 ?_
    exact RP (v := 0) hC (Or.inr (rfl)) (by decide +kernel) gX9_isOn_2.2.2.2.2.2
  · refine lv_aload_n hx hb gX9_isOn_0.2.2.2.2.2.2.2.2.1 rfl (lv_at0 hl) ?_
    refine gf_X9_9 hC rfl hK hP 0 rfl rfl gX9_isOn_0.2.2.2.2.2.2.2.2.2 ?_
    refine gf_X9_42 hC rfl hK hP 1 rfl rfl gX9_isOn_1.1 ?_
    refine lv_iload_n hx hb gX9_isOn_1.2.1 rfl (lv_at1 hl) ?_
    refine lv_iconst (v := 2) hx hb gX9_isOn_1.2.2.1 (by decide) ?_
    refine pV hC hK hl hP hD (c_T_at l G bsayings sa 2 16 8 bsayingsc kbsayings fbsayings (hkbsayings) (by omega) (by omega)) si_X9_48 [2, 3] sm_2_3 fm_2_3 nd_2_3 rfl rfl rfl rfl rfl (Nat.le_of_ble_eq_true rfl) rm_4_1_3 ⟨by first | exact Nat.le_of_ble_eq_true rfl | exact Nat.zero_le _, by first | exact Nat.le_of_ble_eq_true rfl | exact Nat.zero_le _⟩ gX9_isOn_1.2.2.2.1 (fun r1290 hr1290 => ?_)
    refine lv_iload_n hx hb gX9_isOn_1.2.2.2.2.1 rfl (lv_at3 hl) ?_
    refine lv_icmp_ne (tgt := 49) hx hb gX9_isOn_1.2.2.2.2.2.1 (by decide) (fun c_29_1292 => ?_) (fun c_29_1292 => ?_)
    · refine lv_iconst (v := 0) hx hb gX9_isOn_2.2.2.2.2.1 (by decide) ?_
      refine toQ hQ0 ?_
      exact RP (v := 0) hC (Or.inr (rfl)) (by decide +kernel) gX9_isOn_2.2.2.2.2.2
    · refine lv_aload_n hx hb gX9_isOn_1.2.2.2.2.2.2.1 rfl (lv_at0 hl) ?_
      refine gf_X9_9 hC rfl hK hP 0 rfl rfl gX9_isOn_1.2.2.2.2.2.2.2.1 ?_
      refine lv_iload_n hx hb gX9_isOn_1.2.2.2.2.2.2.2.2.1 rfl (lv_at1 hl) ?_
      refine lv_iload hx hb gX9_isOn_1.2.2.2.2.2.2.2.2.2 (lv_at4 hl) ?_
      refine pV hC hK hl hP hD (c_counts l G bb sa pp bpersons bpapers bstamps bversions blines bsteps bsayings bfindings bwarnings bquestions td vd vl gp bsayingsc kbsayings fbsayings (hkbsayings)) si_X9_54 [1, 2, 3] sm_1_2_3 fm_1_2_3 nd_1_2_3 rfl rfl rfl rfl rfl (Nat.le_of_ble_eq_true rfl) rm_4_3_3 ⟨by first | exact Nat.le_of_ble_eq_true rfl | exact Nat.zero_le _, by first | exact Nat.le_of_ble_eq_true rfl | exact Nat.zero_le _⟩ gX9_isOn_2.1 (Kors (Keqr ?_) (Keqr ?_))
      · refine lv_if_eq (tgt := 49) hx hb gX9_isOn_2.2.1 (by decide) (fun c9 => absurd c9 (by decide)) (fun _ => ?_)
        refine lv_iconst (v := 1) hx hb gX9_isOn_2.2.2.1 (by decide) ?_
        refine lv_goto (tgt := 50) hx hb gX9_isOn_2.2.2.2.1 (by decide) ?_
        refine toQ hQ0 ?_
        exact RP (v := 1) hC (Or.inl (rfl)) (by decide +kernel) gX9_isOn_2.2.2.2.2.2
      · refine lv_if_eq (tgt := 49) hx hb gX9_isOn_2.2.1 (by decide) (fun _ => ?_) (fun c9 => absurd (by decide) c9)
        refine lv_iconst (v := 0) hx hb gX9_isOn_2.2.2.2.2.1 (by decide) ?_
        refine toQ hQ0 ?_
        exact RP (v := 0) hC (Or.inr (rfl)) (by decide +kernel) gX9_isOn_2.2.2.2.2.2
def K_c_weightAgainst (l : Launch) (G : GG) (h0 : Nat) (hh : Int32) (pe : Int32) (pa : Int32) (pp : Int32) (bb : Nat) (sg : Nat) (tf : Int32) (tt9 : Int32) (tl : Int32) (tbv : Int32) (bpersons : Nat) (bpapers : Nat) (bstamps : Nat) (bversions : Nat) (blines : Nat) (bsteps : Nat) (bsayings : Nat) (bfindings : Nat) (bwarnings : Nat) (bquestions : Nat) (td : Int32) (vd : Int32) (vl : Int32) (gp : Int32) (bsayingsc : Nat) (kbsayings : Nat) (fbsayings : Nat → Int32) : Prop := MP l G yX9_weightAgainst cX9_weightAgainst 9 (some .int) 5 [.ref h0, .int hh, .int pe, .int pa, .int pp] [(h0, oX9 bb sg tf tt9 tl tbv), (bb, oX0 bpersons bpapers bstamps bversions blines bsteps bsayings bfindings bwarnings bquestions td vd vl gp), (bsayings, oX8 16 8 bsayingsc (nI kbsayings)), (bsayingsc, iA G 128 fbsayings)] (fun r : Int32 => True)
set_option maxHeartbeats 4000000 in
set_option maxRecDepth 100000 in
theorem c_weightAgainst (l : Launch) (G : GG) (h0 : Nat) (hh : Int32) (pe : Int32) (pa : Int32) (pp : Int32) (bb : Nat) (sg : Nat) (tf : Int32) (tt9 : Int32) (tl : Int32) (tbv : Int32) (bpersons : Nat) (bpapers : Nat) (bstamps : Nat) (bversions : Nat) (blines : Nat) (bsteps : Nat) (bsayings : Nat) (bfindings : Nat) (bwarnings : Nat) (bquestions : Nat) (td : Int32) (vd : Int32) (vl : Int32) (gp : Int32) (bsayingsc : Nat) (kbsayings : Nat) (fbsayings : Nat → Int32) (hkbsayings : kbsayings ≤ 16) : K_c_weightAgainst l G h0 hh pe pa pp bb sg tf tt9 tl tbv bpersons bpapers bstamps bversions blines bsteps bsayings bfindings bwarnings bquestions td vd vl gp bsayingsc kbsayings fbsayings := by
  refine MP.start (by decide +kernel) (Nat.le_of_ble_eq_true rfl) ?_
  intro p e s m below meth c ls hC hK hP hD hl
  refine absQ (fun Q0 hQ0 => ?_)
  have hl : lv_has ls 9 [(0, .ref h0), (1, .int hh), (2, .int pe), (3, .int pa), (4, .int pp)] := hl
  refine Kan8 hC (fun hx hb hr hml hB hown hlocks hnm => ?_)
  refine lv_iconst (v := 0) hx hb gX9_weightAgainst_0.1 (by decide) ?_
  refine lv_istore (lv' := [(5, .int 0), (0, .ref h0), (1, .int hh), (2, .int pe), (3, .int pa), (4, .int pp)]) hx hb gX9_weightAgainst_0.2.1 hl (by decide) rfl (fun ls hl => ?_)
  refine lv_iconst (v := 0) hx hb gX9_weightAgainst_0.2.2.1 (by decide) ?_
  refine lv_istore (lv' := [(6, .int 0), (5, .int 0), (0, .ref h0), (1, .int hh), (2, .int pe), (3, .int pa), (4, .int pp)]) hx hb gX9_weightAgainst_0.2.2.2.1 hl (by decide) rfl (fun ls hl => ?_)
  have keyP : ∀ (nP kP : Nat) (su : Int32) (ls : Array Slot), kP + nP = kbsayings → lv_has ls 9 [(6, .int (nI kP)), (5, .int su), (0, .ref h0), (1, .int hh), (2, .int pe), (3, .int pa), (4, .int pp)] → W p l e (RM 5 0 0) s m ([.ref h0, .int hh, .int pe, .int pa, .int pp] : List Value).toArray below meth c s.heap [] 0 0 Q0 (F0 m 6 ls []) := by
    intro nP
    induction nP with
    | zero =>
      intro kP su ls hkP hl
      obtain rfl : kbsayings = kP := by omega
      have hl : lv_has ls 9 [(6, .int (nI kbsayings)), (5, .int su), (0, .ref h0), (1, .int hh), (2, .int pe), (3, .int pa), (4, .int pp)] := hl
      refine lv_iload hx hb gX9_weightAgainst_0.2.2.2.2.1 (lv_at0 hl) ?_
      refine lv_aload_n hx hb gX9_weightAgainst_0.2.2.2.2.2.1 rfl (lv_at2 hl) ?_
      refine gf_X9_9 hC rfl hK hP 0 rfl rfl gX9_weightAgainst_0.2.2.2.2.2.2.1 ?_
      refine gf_X9_42 hC rfl hK hP 1 rfl rfl gX9_weightAgainst_0.2.2.2.2.2.2.2.1 ?_
      refine pV hC hK hl hP hD (c_T_count l G bsayings 16 8 bsayingsc kbsayings) si_X9_65 [2] sm_2 fm_2 nd_2 rfl rfl rfl rfl rfl (Nat.le_of_ble_eq_true rfl) rm_5_1_1 ⟨by first | exact Nat.le_of_ble_eq_true rfl | exact Nat.zero_le _, by first | exact Nat.le_of_ble_eq_true rfl | exact Nat.zero_le _⟩ gX9_weightAgainst_0.2.2.2.2.2.2.2.2.1 (Keqr ?_)
      refine lv_icmp_ge (tgt := 116) hx hb gX9_weightAgainst_0.2.2.2.2.2.2.2.2.2 (by decide) (fun _ => ?_) (fun c9 => absurd (Int32.le_refl _) c9)
      refine lv_iload hx hb gX9_weightAgainst_5.2.2.2.2.2.2.1 (lv_at1 hl) ?_
      refine toQ hQ0 ?_
      exact RP (v := su) hC (trivial) rfl gX9_weightAgainst_5.2.2.2.2.2.2.2
    | succ nP ihP =>
      intro kP su ls hkP hl
      refine lv_iload hx hb gX9_weightAgainst_0.2.2.2.2.1 (lv_at0 hl) ?_
      refine lv_aload_n hx hb gX9_weightAgainst_0.2.2.2.2.2.1 rfl (lv_at2 hl) ?_
      refine gf_X9_9 hC rfl hK hP 0 rfl rfl gX9_weightAgainst_0.2.2.2.2.2.2.1 ?_
      refine gf_X9_42 hC rfl hK hP 1 rfl rfl gX9_weightAgainst_0.2.2.2.2.2.2.2.1 ?_
      refine pV hC hK hl hP hD (c_T_count l G bsayings 16 8 bsayingsc kbsayings) si_X9_65 [2] sm_2 fm_2 nd_2 rfl rfl rfl rfl rfl (Nat.le_of_ble_eq_true rfl) rm_5_1_1 ⟨by first | exact Nat.le_of_ble_eq_true rfl | exact Nat.zero_le _, by first | exact Nat.le_of_ble_eq_true rfl | exact Nat.zero_le _⟩ gX9_weightAgainst_0.2.2.2.2.2.2.2.2.1 (Keqr ?_)
      refine lv_icmp_ge (tgt := 116) hx hb gX9_weightAgainst_0.2.2.2.2.2.2.2.2.2 (by decide) (fun c9 => absurd c9 (nI_ge (a := kP) (b := kbsayings) (by omega) (by omega))) (fun _ => ?_)
      refine lv_aload_n hx hb gX9_weightAgainst_1.1 rfl (lv_at2 hl) ?_
      refine lv_iload hx hb gX9_weightAgainst_1.2.1 (lv_at0 hl) ?_
      refine lv_iload_n hx hb gX9_weightAgainst_1.2.2.1 rfl (lv_at4 hl) ?_
      refine lv_iload_n hx hb gX9_weightAgainst_1.2.2.2.1 rfl (lv_at5 hl) ?_
      refine lv_iload hx hb gX9_weightAgainst_1.2.2.2.2.1 (lv_at6 hl) ?_
      refine pV hC hK hl hP hD (c_isOn l G h0 (nI kP) pe pa pp bb sg tf tt9 tl tbv bpersons bpapers bstamps bversions blines bsteps bsayings bfindings bwarnings bquestions td vd vl gp bsayingsc kbsayings fbsayings (hkbsayings)) si_X9_73 [0, 1, 2, 3] sm_0_1_2_3 fm_0_1_2_3 nd_0_1_2_3 rfl rfl rfl rfl rfl (Nat.le_of_ble_eq_true rfl) rm_5_4_5 ⟨by first | exact Nat.le_of_ble_eq_true rfl | exact Nat.zero_le _, by first | exact Nat.le_of_ble_eq_true rfl | exact Nat.zero_le _⟩ gX9_weightAgainst_1.2.2.2.2.2.1 (Kors (Keqr ?_) (Keqr ?_))
      · refine lv_if_ne (tgt := 37) hx hb gX9_weightAgainst_1.2.2.2.2.2.2.1 (by decide) (fun _ => ?_) (fun c9 => absurd c9 (by decide))
        refine lv_aload_n hx hb gX9_weightAgainst_1.2.2.2.2.2.2.2.2.1 rfl (lv_at2 hl) ?_
        refine gf_X9_9 hC rfl hK hP 0 rfl rfl gX9_weightAgainst_1.2.2.2.2.2.2.2.2.2 ?_
        refine gf_X9_42 hC rfl hK hP 1 rfl rfl gX9_weightAgainst_2.1 ?_
        refine lv_iload hx hb gX9_weightAgainst_2.2.1 (lv_at0 hl) ?_
        refine lv_iconst (v := 5) hx hb gX9_weightAgainst_2.2.2.1 (by decide) ?_
        refine pV hC hK hl hP hD (c_T_at l G bsayings (nI kP) 5 16 8 bsayingsc kbsayings fbsayings (hkbsayings) (by omega) (by omega)) si_X9_48 [2, 3] sm_2_3 fm_2_3 nd_2_3 rfl rfl rfl rfl rfl (Nat.le_of_ble_eq_true rfl) rm_5_1_3 ⟨by first | exact Nat.le_of_ble_eq_true rfl | exact Nat.zero_le _, by first | exact Nat.le_of_ble_eq_true rfl | exact Nat.zero_le _⟩ gX9_weightAgainst_2.2.2.2.1 (fun r1301 hr1301 => ?_)
        refine lv_iconst (v := 1) hx hb gX9_weightAgainst_2.2.2.2.2.1 (by decide) ?_
        refine lv_icmp_ne (tgt := 58) hx hb gX9_weightAgainst_2.2.2.2.2.2.1 (by decide) (fun c_51_1303 => ?_) (fun c_51_1303 => ?_)
        · refine lv_iconst (v := 0) hx hb gX9_weightAgainst_2.2.2.2.2.2.2.2.2.1 (by decide) ?_
          refine lv_istore (lv' := [(7, .int 0), (6, .int (nI kP)), (5, .int su), (0, .ref h0), (1, .int hh), (2, .int pe), (3, .int pa), (4, .int pp)]) hx hb gX9_weightAgainst_2.2.2.2.2.2.2.2.2.2 hl (by decide) rfl (fun ls hl => ?_)
          refine lv_aload_n hx hb gX9_weightAgainst_3.1 rfl (lv_at3 hl) ?_
          refine gf_X9_9 hC rfl hK hP 0 rfl rfl gX9_weightAgainst_3.2.1 ?_
          refine gf_X9_42 hC rfl hK hP 1 rfl rfl gX9_weightAgainst_3.2.2.1 ?_
          refine lv_iload hx hb gX9_weightAgainst_3.2.2.2.1 (lv_at1 hl) ?_
          refine lv_iconst (v := 3) hx hb gX9_weightAgainst_3.2.2.2.2.1 (by decide) ?_
          refine pV hC hK hl hP hD (c_T_at l G bsayings (nI kP) 3 16 8 bsayingsc kbsayings fbsayings (hkbsayings) (by omega) (by omega)) si_X9_48 [2, 3] sm_2_3 fm_2_3 nd_2_3 rfl rfl rfl rfl rfl (Nat.le_of_ble_eq_true rfl) rm_5_1_3 ⟨by first | exact Nat.le_of_ble_eq_true rfl | exact Nat.zero_le _, by first | exact Nat.le_of_ble_eq_true rfl | exact Nat.zero_le _⟩ gX9_weightAgainst_3.2.2.2.2.2.1 (fun r1304 hr1304 => ?_)
          refine lv_iload_n hx hb gX9_weightAgainst_3.2.2.2.2.2.2.1 rfl (lv_at4 hl) ?_
          refine lv_icmp_ge (tgt := 82) hx hb gX9_weightAgainst_3.2.2.2.2.2.2.2.1 (by decide) (fun c_75_1306 => ?_) (fun c_75_1306 => ?_)
          · refine lv_iconst (v := 0) hx hb gX9_weightAgainst_4.1 (by decide) ?_
            refine lv_istore (lv' := [(8, .int 0), (7, .int 0), (6, .int (nI kP)), (5, .int su), (0, .ref h0), (1, .int hh), (2, .int pe), (3, .int pa), (4, .int pp)]) hx hb gX9_weightAgainst_4.2.1 hl (by decide) rfl (fun ls hl => ?_)
            refine lv_iload hx hb gX9_weightAgainst_4.2.2.1 (lv_at1 hl) ?_
            refine lv_iload hx hb gX9_weightAgainst_4.2.2.2.1 (lv_at0 hl) ?_
            refine lv_icmp_ne (tgt := 110) hx hb gX9_weightAgainst_4.2.2.2.2.1 (by decide) (fun c9 => absurd (by decide) c9) (fun _ => ?_)
            refine lv_iload hx hb gX9_weightAgainst_4.2.2.2.2.2.1 (lv_at3 hl) ?_
            refine lv_aload_n hx hb gX9_weightAgainst_4.2.2.2.2.2.2.1 rfl (lv_at4 hl) ?_
            refine gf_X9_9 hC rfl hK hP 0 rfl rfl gX9_weightAgainst_4.2.2.2.2.2.2.2.1 ?_
            refine gf_X9_42 hC rfl hK hP 1 rfl rfl gX9_weightAgainst_4.2.2.2.2.2.2.2.2.1 ?_
            refine lv_iload hx hb gX9_weightAgainst_4.2.2.2.2.2.2.2.2.2 (lv_at2 hl) ?_
            refine lv_iconst (v := 4) hx hb gX9_weightAgainst_5.1 (by decide) ?_
            refine pV hC hK hl hP hD (c_T_at l G bsayings (nI kP) 4 16 8 bsayingsc kbsayings fbsayings (hkbsayings) (by omega) (by omega)) si_X9_48 [2, 3] sm_2_3 fm_2_3 nd_2_3 rfl rfl rfl rfl rfl (Nat.le_of_ble_eq_true rfl) rm_5_1_3 ⟨by first | exact Nat.le_of_ble_eq_true rfl | exact Nat.zero_le _, by first | exact Nat.le_of_ble_eq_true rfl | exact Nat.zero_le _⟩ gX9_weightAgainst_5.2.1 (fun r1307 hr1307 => ?_)
            refine lv_iadd hx hb gX9_weightAgainst_5.2.2.1 ?_
            refine lv_istore (lv' := [(5, .int (su + r1307)), (8, .int 0), (7, .int 0), (6, .int (nI kP)), (0, .ref h0), (1, .int hh), (2, .int pe), (3, .int pa), (4, .int pp)]) hx hb gX9_weightAgainst_5.2.2.2.1 hl (by decide) rfl (fun ls hl => ?_)
            refine lv_iinc (v := nI (kP + 1)) (lv' := [(6, .int (nI (kP + 1))), (5, .int (su + r1307)), (8, .int 0), (7, .int 0), (0, .ref h0), (1, .int hh), (2, .int pe), (3, .int pa), (4, .int pp)]) hx hb gX9_weightAgainst_5.2.2.2.2.1 hl (k := 3) rfl (nI_1 _) (by decide) rfl (fun ls hl => ?_)
            refine lv_goto (tgt := 6) hx hb gX9_weightAgainst_5.2.2.2.2.2.1 (by decide) ?_
            exact ihP (kP + 1) (su + r1307) _ (by omega) (lv_sub hl [0, 1, 4, 5, 6, 7, 8] rfl)
          · refine lv_iconst (v := 1) hx hb gX9_weightAgainst_3.2.2.2.2.2.2.2.2.1 (by decide) ?_
            refine lv_goto (tgt := 83) hx hb gX9_weightAgainst_3.2.2.2.2.2.2.2.2.2 (by decide) ?_
            refine lv_istore (lv' := [(8, .int 1), (7, .int 0), (6, .int (nI kP)), (5, .int su), (0, .ref h0), (1, .int hh), (2, .int pe), (3, .int pa), (4, .int pp)]) hx hb gX9_weightAgainst_4.2.1 hl (by decide) rfl (fun ls hl => ?_)
            refine lv_iload hx hb gX9_weightAgainst_4.2.2.1 (lv_at1 hl) ?_
            refine lv_iload hx hb gX9_weightAgainst_4.2.2.2.1 (lv_at0 hl) ?_
            refine lv_icmp_ne (tgt := 110) hx hb gX9_weightAgainst_4.2.2.2.2.1 (by decide) (fun _ => ?_) (fun c9 => absurd c9 (by decide))
            refine lv_iinc (v := nI (kP + 1)) (lv' := [(6, .int (nI (kP + 1))), (8, .int 1), (7, .int 0), (5, .int su), (0, .ref h0), (1, .int hh), (2, .int pe), (3, .int pa), (4, .int pp)]) hx hb gX9_weightAgainst_5.2.2.2.2.1 hl (k := 2) rfl (nI_1 _) (by decide) rfl (fun ls hl => ?_)
            refine lv_goto (tgt := 6) hx hb gX9_weightAgainst_5.2.2.2.2.2.1 (by decide) ?_
            exact ihP (kP + 1) su _ (by omega) (lv_sub hl [0, 3, 4, 5, 6, 7, 8] rfl)
        · refine lv_iconst (v := 1) hx hb gX9_weightAgainst_2.2.2.2.2.2.2.1 (by decide) ?_
          refine lv_goto (tgt := 59) hx hb gX9_weightAgainst_2.2.2.2.2.2.2.2.1 (by decide) ?_
          refine lv_istore (lv' := [(7, .int 1), (6, .int (nI kP)), (5, .int su), (0, .ref h0), (1, .int hh), (2, .int pe), (3, .int pa), (4, .int pp)]) hx hb gX9_weightAgainst_2.2.2.2.2.2.2.2.2.2 hl (by decide) rfl (fun ls hl => ?_)
          refine lv_aload_n hx hb gX9_weightAgainst_3.1 rfl (lv_at3 hl) ?_
          refine gf_X9_9 hC rfl hK hP 0 rfl rfl gX9_weightAgainst_3.2.1 ?_
          refine gf_X9_42 hC rfl hK hP 1 rfl rfl gX9_weightAgainst_3.2.2.1 ?_
          refine lv_iload hx hb gX9_weightAgainst_3.2.2.2.1 (lv_at1 hl) ?_
          refine lv_iconst (v := 3) hx hb gX9_weightAgainst_3.2.2.2.2.1 (by decide) ?_
          refine pV hC hK hl hP hD (c_T_at l G bsayings (nI kP) 3 16 8 bsayingsc kbsayings fbsayings (hkbsayings) (by omega) (by omega)) si_X9_48 [2, 3] sm_2_3 fm_2_3 nd_2_3 rfl rfl rfl rfl rfl (Nat.le_of_ble_eq_true rfl) rm_5_1_3 ⟨by first | exact Nat.le_of_ble_eq_true rfl | exact Nat.zero_le _, by first | exact Nat.le_of_ble_eq_true rfl | exact Nat.zero_le _⟩ gX9_weightAgainst_3.2.2.2.2.2.1 (fun r1309 hr1309 => ?_)
          refine lv_iload_n hx hb gX9_weightAgainst_3.2.2.2.2.2.2.1 rfl (lv_at4 hl) ?_
          refine lv_icmp_ge (tgt := 82) hx hb gX9_weightAgainst_3.2.2.2.2.2.2.2.1 (by decide) (fun c_75_1311 => ?_) (fun c_75_1311 => ?_)
          · refine lv_iconst (v := 0) hx hb gX9_weightAgainst_4.1 (by decide) ?_
            refine lv_istore (lv' := [(8, .int 0), (7, .int 1), (6, .int (nI kP)), (5, .int su), (0, .ref h0), (1, .int hh), (2, .int pe), (3, .int pa), (4, .int pp)]) hx hb gX9_weightAgainst_4.2.1 hl (by decide) rfl (fun ls hl => ?_)
            refine lv_iload hx hb gX9_weightAgainst_4.2.2.1 (lv_at1 hl) ?_
            refine lv_iload hx hb gX9_weightAgainst_4.2.2.2.1 (lv_at0 hl) ?_
            refine lv_icmp_ne (tgt := 110) hx hb gX9_weightAgainst_4.2.2.2.2.1 (by decide) (fun _ => ?_) (fun c9 => absurd c9 (by decide))
            refine lv_iinc (v := nI (kP + 1)) (lv' := [(6, .int (nI (kP + 1))), (8, .int 0), (7, .int 1), (5, .int su), (0, .ref h0), (1, .int hh), (2, .int pe), (3, .int pa), (4, .int pp)]) hx hb gX9_weightAgainst_5.2.2.2.2.1 hl (k := 2) rfl (nI_1 _) (by decide) rfl (fun ls hl => ?_)
            refine lv_goto (tgt := 6) hx hb gX9_weightAgainst_5.2.2.2.2.2.1 (by decide) ?_
            exact ihP (kP + 1) su _ (by omega) (lv_sub hl [0, 3, 4, 5, 6, 7, 8] rfl)
          · refine lv_iconst (v := 1) hx hb gX9_weightAgainst_3.2.2.2.2.2.2.2.2.1 (by decide) ?_
            refine lv_goto (tgt := 83) hx hb gX9_weightAgainst_3.2.2.2.2.2.2.2.2.2 (by decide) ?_
            refine lv_istore (lv' := [(8, .int 1), (7, .int 1), (6, .int (nI kP)), (5, .int su), (0, .ref h0), (1, .int hh), (2, .int pe), (3, .int pa), (4, .int pp)]) hx hb gX9_weightAgainst_4.2.1 hl (by decide) rfl (fun ls hl => ?_)
            refine lv_iload hx hb gX9_weightAgainst_4.2.2.1 (lv_at1 hl) ?_
            refine lv_iload hx hb gX9_weightAgainst_4.2.2.2.1 (lv_at0 hl) ?_
            refine lv_icmp_ne (tgt := 110) hx hb gX9_weightAgainst_4.2.2.2.2.1 (by decide) (fun c9 => absurd (by decide) c9) (fun _ => ?_)
            refine lv_iload hx hb gX9_weightAgainst_4.2.2.2.2.2.1 (lv_at3 hl) ?_
            refine lv_aload_n hx hb gX9_weightAgainst_4.2.2.2.2.2.2.1 rfl (lv_at4 hl) ?_
            refine gf_X9_9 hC rfl hK hP 0 rfl rfl gX9_weightAgainst_4.2.2.2.2.2.2.2.1 ?_
            refine gf_X9_42 hC rfl hK hP 1 rfl rfl gX9_weightAgainst_4.2.2.2.2.2.2.2.2.1 ?_
            refine lv_iload hx hb gX9_weightAgainst_4.2.2.2.2.2.2.2.2.2 (lv_at2 hl) ?_
            refine lv_iconst (v := 4) hx hb gX9_weightAgainst_5.1 (by decide) ?_
            refine pV hC hK hl hP hD (c_T_at l G bsayings (nI kP) 4 16 8 bsayingsc kbsayings fbsayings (hkbsayings) (by omega) (by omega)) si_X9_48 [2, 3] sm_2_3 fm_2_3 nd_2_3 rfl rfl rfl rfl rfl (Nat.le_of_ble_eq_true rfl) rm_5_1_3 ⟨by first | exact Nat.le_of_ble_eq_true rfl | exact Nat.zero_le _, by first | exact Nat.le_of_ble_eq_true rfl | exact Nat.zero_le _⟩ gX9_weightAgainst_5.2.1 (fun r1312 hr1312 => ?_)
            refine lv_iadd hx hb gX9_weightAgainst_5.2.2.1 ?_
            refine lv_istore (lv' := [(5, .int (su + r1312)), (8, .int 1), (7, .int 1), (6, .int (nI kP)), (0, .ref h0), (1, .int hh), (2, .int pe), (3, .int pa), (4, .int pp)]) hx hb gX9_weightAgainst_5.2.2.2.1 hl (by decide) rfl (fun ls hl => ?_)
            refine lv_iinc (v := nI (kP + 1)) (lv' := [(6, .int (nI (kP + 1))), (5, .int (su + r1312)), (8, .int 1), (7, .int 1), (0, .ref h0), (1, .int hh), (2, .int pe), (3, .int pa), (4, .int pp)]) hx hb gX9_weightAgainst_5.2.2.2.2.1 hl (k := 3) rfl (nI_1 _) (by decide) rfl (fun ls hl => ?_)
            refine lv_goto (tgt := 6) hx hb gX9_weightAgainst_5.2.2.2.2.2.1 (by decide) ?_
            exact ihP (kP + 1) (su + r1312) _ (by omega) (lv_sub hl [0, 1, 4, 5, 6, 7, 8] rfl)
      · refine lv_if_ne (tgt := 37) hx hb gX9_weightAgainst_1.2.2.2.2.2.2.1 (by decide) (fun c9 => absurd (by decide) c9) (fun _ => ?_)
        refine lv_goto (tgt := 110) hx hb gX9_weightAgainst_1.2.2.2.2.2.2.2.1 (by decide) ?_
        refine lv_iinc (v := nI (kP + 1)) (lv' := [(6, .int (nI (kP + 1))), (5, .int su), (0, .ref h0), (1, .int hh), (2, .int pe), (3, .int pa), (4, .int pp)]) hx hb gX9_weightAgainst_5.2.2.2.2.1 hl (k := 0) rfl (nI_1 _) (by decide) rfl (fun ls hl => ?_)
        refine lv_goto (tgt := 6) hx hb gX9_weightAgainst_5.2.2.2.2.2.1 (by decide) ?_
        exact ihP (kP + 1) su _ (by omega) (lv_sub hl [0, 1, 2, 3, 4, 5, 6] rfl)
  exact keyP kbsayings 0 0 _ (by omega) (lv_sub hl [0, 1, 2, 3, 4, 5, 6] rfl)
def K_c_weigh (l : Launch) (G : GG) (h0 : Nat) (pe : Int32) (pa : Int32) (pp : Int32) (bb : Nat) (sg : Nat) (tf : Int32) (tt9 : Int32) (tl : Int32) (tbv : Int32) (clk : Nat) (fi : Nat) (la : Nat) (ml : Nat) (mm : Nat) (sl : Nat) (sm : Nat) (scl : Int32) (fla : Nat → Int32) (fml : Nat → Int32) (fmm : Nat → Int32) (fsl : Nat → Int32) (fsm : Nat → Int32) (bpersons : Nat) (bpapers : Nat) (bstamps : Nat) (bversions : Nat) (blines : Nat) (bsteps : Nat) (bsayings : Nat) (bfindings : Nat) (bwarnings : Nat) (bquestions : Nat) (td : Int32) (vd : Int32) (vl : Int32) (gp : Int32) (bpapersc : Nat) (kbpapers : Nat) (fbpapers : Nat → Int32) (bpersonsc : Nat) (kbpersons : Nat) (fbpersons : Nat → Int32) (bsayingsc : Nat) (kbsayings : Nat) (fbsayings : Nat → Int32) : Prop := MV l G yX9_weigh cX9_weigh 7 6 0 0 [.ref h0, .int pe, .int pa, .int pp] [(h0, oX9 bb sg tf tt9 tl tbv), (sg, oX7 bb clk fi la ml mm sl sm scl), (la, iA G 12 fla), (ml, iA G 12 fml), (mm, iA G 12 fmm), (sl, iA G 12 fsl), (sm, iA G 12 fsm), (bb, oX0 bpersons bpapers bstamps bversions blines bsteps bsayings bfindings bwarnings bquestions td vd vl gp), (bpapers, oX8 12 6 bpapersc (nI kbpapers)), (bpapersc, iA G 72 fbpapers), (bpersons, oX8 10 2 bpersonsc (nI kbpersons)), (bpersonsc, iA G 20 fbpersons), (bsayings, oX8 16 8 bsayingsc (nI kbsayings)), (bsayingsc, iA G 128 fbsayings)] (fun u : Int32 × Int32 × Int32 × Int32 => True) (fun u : Int32 × Int32 × Int32 × Int32 => [(h0, oX9 bb sg u.1 u.2.1 u.2.2.1 u.2.2.2), (sg, oX7 bb clk fi la ml mm sl sm scl), (la, iA G 12 fla), (ml, iA G 12 fml), (mm, iA G 12 fmm), (sl, iA G 12 fsl), (sm, iA G 12 fsm), (bb, oX0 bpersons bpapers bstamps bversions blines bsteps bsayings bfindings bwarnings bquestions td vd vl gp), (bpapers, oX8 12 6 bpapersc (nI kbpapers)), (bpapersc, iA G 72 fbpapers), (bpersons, oX8 10 2 bpersonsc (nI kbpersons)), (bpersonsc, iA G 20 fbpersons), (bsayings, oX8 16 8 bsayingsc (nI kbsayings)), (bsayingsc, iA G 128 fbsayings)])
set_option maxHeartbeats 4000000 in
set_option maxRecDepth 100000 in
theorem c_weigh (l : Launch) (G : GG) (h0 : Nat) (pe : Int32) (pa : Int32) (pp : Int32) (bb : Nat) (sg : Nat) (tf : Int32) (tt9 : Int32) (tl : Int32) (tbv : Int32) (clk : Nat) (fi : Nat) (la : Nat) (ml : Nat) (mm : Nat) (sl : Nat) (sm : Nat) (scl : Int32) (fla : Nat → Int32) (fml : Nat → Int32) (fmm : Nat → Int32) (fsl : Nat → Int32) (fsm : Nat → Int32) (bpersons : Nat) (bpapers : Nat) (bstamps : Nat) (bversions : Nat) (blines : Nat) (bsteps : Nat) (bsayings : Nat) (bfindings : Nat) (bwarnings : Nat) (bquestions : Nat) (td : Int32) (vd : Int32) (vl : Int32) (gp : Int32) (bpapersc : Nat) (kbpapers : Nat) (fbpapers : Nat → Int32) (bpersonsc : Nat) (kbpersons : Nat) (fbpersons : Nat → Int32) (bsayingsc : Nat) (kbsayings : Nat) (fbsayings : Nat → Int32) (hkbpapers : kbpapers ≤ 12) (hkbpersons : kbpersons ≤ 10) (hkbsayings : kbsayings ≤ 16) : K_c_weigh l G h0 pe pa pp bb sg tf tt9 tl tbv clk fi la ml mm sl sm scl fla fml fmm fsl fsm bpersons bpapers bstamps bversions blines bsteps bsayings bfindings bwarnings bquestions td vd vl gp bpapersc kbpapers fbpapers bpersonsc kbpersons fbpersons bsayingsc kbsayings fbsayings := by
  refine MV.start (by decide +kernel) (Nat.le_of_ble_eq_true rfl) ?_
  intro p e s m below meth c A ls hC hK hP hD hS hA hl
  refine absQ (fun Q0 hQ0 => ?_)
  have hl : lv_has ls 7 [(0, .ref h0), (1, .int pe), (2, .int pa), (3, .int pp)] := hl
  refine Kan8 hC (fun hx hb hr hml hB hown hlocks hnm => ?_)
  refine lv_aload_n hx hb gX9_weigh_0.1 rfl (lv_at0 hl) ?_
  refine lv_iload_n hx hb gX9_weigh_0.2.1 rfl (lv_at1 hl) ?_
  refine lv_iload_n hx hb gX9_weigh_0.2.2.1 rfl (lv_at2 hl) ?_
  refine vV (wr := [(bsayings, oX8 16 8 bsayingsc (nI kbsayings)), (bsayingsc, iA G 128 fbsayings)]) hC hK hl hP hD hS hA (c_bound l G h0 pe pa bb sg tf tt9 tl tbv clk fi la ml mm sl sm scl fla fml fmm fsl fsm bpersons bpapers bstamps bversions blines bsteps bsayings bfindings bwarnings bquestions td vd vl gp bpapersc kbpapers fbpapers bpersonsc kbpersons fbpersons (hkbpapers) (hkbpersons)) si_X9_57 [0, 1, 2, 3, 4, 5, 6, 7, 8, 9, 10, 11] [12, 13] sm_0_1_2_3_4_5_6_7_8_9_10_11 fm_0_1_2_3_4_5_6_7_8_9_10_11 nd_0_1_2_3_4_5_6_7_8_9_10_11 sm_12_13 nd_12_13 dj_0_1_2_3_4_5_6_7_8_9_10_11__12_13 rfl rfl rfl rfl rfl (Nat.le_of_ble_eq_true rfl) rm_6_4_4 ⟨Nat.le_of_ble_eq_true rfl, Nat.le_of_ble_eq_true rfl⟩ gX9_weigh_0.2.2.2.1 (Ktu2 fun tf11316 tt11317 => ?_)
  intro H locs hr1314 hP hD hS
  try dsimp only at hr1314
  refine Kpdr (ws := [(bsayings, oX8 16 8 bsayingsc (nI kbsayings)), (bsayingsc, iA G 128 fbsayings), (h0, oX9 bb sg tf11316 tt11317 tl tbv), (sg, oX7 bb clk fi la ml mm sl sm scl), (la, iA G 12 fla), (ml, iA G 12 fml), (mm, iA G 12 fmm), (sl, iA G 12 fsl), (sm, iA G 12 fsm), (bb, oX0 bpersons bpapers bstamps bversions blines bsteps bsayings bfindings bwarnings bquestions td vd vl gp), (bpapers, oX8 12 6 bpapersc (nI kbpapers)), (bpapersc, iA G 72 fbpapers), (bpersons, oX8 10 2 bpersonsc (nI kbpersons)), (bpersonsc, iA G 20 fbpersons)]) hP hD (fun hP hD => ?_)
  refine lv_aload_n hx hb gX9_weigh_0.2.2.2.2.1 rfl (lv_at0 hl) ?_
  refine lv_aload_n hx hb gX9_weigh_0.2.2.2.2.2.1 rfl (lv_at0 hl) ?_
  refine gf_X9_19 hC rfl hK hP 2 rfl rfl gX9_weigh_0.2.2.2.2.2.2.1 ?_
  refine pf_X9_29 hC rfl hK hP hD hS 2 (ws' := [(bsayings, oX8 16 8 bsayingsc (nI kbsayings)), (bsayingsc, iA G 128 fbsayings), (h0, oX9 bb sg tf11316 tt11317 tl tf11316), (sg, oX7 bb clk fi la ml mm sl sm scl), (la, iA G 12 fla), (ml, iA G 12 fml), (mm, iA G 12 fmm), (sl, iA G 12 fsl), (sm, iA G 12 fsm), (bb, oX0 bpersons bpapers bstamps bversions blines bsteps bsayings bfindings bwarnings bquestions td vd vl gp), (bpapers, oX8 12 6 bpapersc (nI kbpapers)), (bpapersc, iA G 72 fbpapers), (bpersons, oX8 10 2 bpersonsc (nI kbpersons)), (bpersonsc, iA G 20 fbpersons)]) rfl (Nat.le_of_ble_eq_true rfl) rfl rfl rfl gX9_weigh_0.2.2.2.2.2.2.2.1 (fun H locs hP hD hS => ?_)
  refine lv_aload_n hx hb gX9_weigh_0.2.2.2.2.2.2.2.2.1 rfl (lv_at0 hl) ?_
  refine lv_aload_n hx hb gX9_weigh_0.2.2.2.2.2.2.2.2.2 rfl (lv_at0 hl) ?_
  refine lv_aload_n hx hb gX9_weigh_1.1 rfl (lv_at0 hl) ?_
  refine gf_X9_19 hC rfl hK hP 2 rfl rfl gX9_weigh_1.2.1 ?_
  refine lv_iload_n hx hb gX9_weigh_1.2.2.1 rfl (lv_at1 hl) ?_
  refine lv_iload_n hx hb gX9_weigh_1.2.2.2.1 rfl (lv_at2 hl) ?_
  refine lv_iload_n hx hb gX9_weigh_1.2.2.2.2.1 rfl (lv_at3 hl) ?_
  refine pV hC hK hl hP hD (c_weightAgainst l G h0 tf11316 pe pa pp bb sg tf11316 tt11317 tl tf11316 bpersons bpapers bstamps bversions blines bsteps bsayings bfindings bwarnings bquestions td vd vl gp bsayingsc kbsayings fbsayings (hkbsayings)) si_X9_61 [2, 9, 0, 1] sm_2_9_0_1 fm_2_9_0_1 nd_2_9_0_1 rfl rfl rfl rfl rfl (Nat.le_of_ble_eq_true rfl) rm_6_5_9 ⟨by first | exact Nat.le_of_ble_eq_true rfl | exact Nat.zero_le _, by first | exact Nat.le_of_ble_eq_true rfl | exact Nat.zero_le _⟩ gX9_weigh_1.2.2.2.2.2.1 (fun r1318 hr1318 => ?_)
  refine pf_X9_26 hC rfl hK hP hD hS 2 (ws' := [(bsayings, oX8 16 8 bsayingsc (nI kbsayings)), (bsayingsc, iA G 128 fbsayings), (h0, oX9 bb sg tf11316 tt11317 r1318 tf11316), (sg, oX7 bb clk fi la ml mm sl sm scl), (la, iA G 12 fla), (ml, iA G 12 fml), (mm, iA G 12 fmm), (sl, iA G 12 fsl), (sm, iA G 12 fsm), (bb, oX0 bpersons bpapers bstamps bversions blines bsteps bsayings bfindings bwarnings bquestions td vd vl gp), (bpapers, oX8 12 6 bpapersc (nI kbpapers)), (bpapersc, iA G 72 fbpapers), (bpersons, oX8 10 2 bpersonsc (nI kbpersons)), (bpersonsc, iA G 20 fbpersons)]) rfl (Nat.le_of_ble_eq_true rfl) rfl rfl rfl gX9_weigh_1.2.2.2.2.2.2.1 (fun H locs hP hD hS => ?_)
  refine lv_iconst (v := 0) hx hb gX9_weigh_1.2.2.2.2.2.2.2.1 (by decide) ?_
  refine lv_istore (lv' := [(4, .int 0), (0, .ref h0), (1, .int pe), (2, .int pa), (3, .int pp)]) hx hb gX9_weigh_1.2.2.2.2.2.2.2.2.1 hl (by decide) rfl (fun ls hl => ?_)
  have keyP : ∀ (nP kP : Nat) (wl : Int32) (wb : Int32) (H : Heap) (locs : List Loc) (ls : Array Slot), kP + nP = kbsayings → va_PD G A [(bsayings, oX8 16 8 bsayingsc (nI kbsayings)), (bsayingsc, iA G 128 fbsayings), (h0, oX9 bb sg tf11316 tt11317 wl wb), (sg, oX7 bb clk fi la ml mm sl sm scl), (la, iA G 12 fla), (ml, iA G 12 fml), (mm, iA G 12 fmm), (sl, iA G 12 fsl), (sm, iA G 12 fsm), (bb, oX0 bpersons bpapers bstamps bversions blines bsteps bsayings bfindings bwarnings bquestions td vd vl gp), (bpapers, oX8 12 6 bpapersc (nI kbpapers)), (bpapersc, iA G 72 fbpapers), (bpersons, oX8 10 2 bpersonsc (nI kbpersons)), (bpersonsc, iA G 20 fbpersons)] H → va_S A s.heap H locs → lv_has ls 7 [(4, .int (nI kP)), (0, .ref h0), (1, .int pe), (2, .int pa), (3, .int pp)] → W p l e (RM 6 0 0) s m ([.ref h0, .int pe, .int pa, .int pp] : List Value).toArray below meth c H locs 0 0 Q0 (F0 m 32 ls []) := by
    intro nP
    induction nP with
    | zero =>
      intro kP wl wb H locs ls hkP hPD hS hl
      refine Kan2 hPD (fun hP hD => ?_)
      obtain rfl : kbsayings = kP := by omega
      have hl : lv_has ls 7 [(4, .int (nI kbsayings)), (0, .ref h0), (1, .int pe), (2, .int pa), (3, .int pp)] := hl
      refine lv_iload hx hb gX9_weigh_1.2.2.2.2.2.2.2.2.2 (lv_at0 hl) ?_
      refine lv_aload_n hx hb gX9_weigh_2.1 rfl (lv_at1 hl) ?_
      refine gf_X9_9 hC rfl hK hP 2 rfl rfl gX9_weigh_2.2.1 ?_
      refine gf_X9_42 hC rfl hK hP 9 rfl rfl gX9_weigh_2.2.2.1 ?_
      refine pV hC hK hl hP hD (c_T_count l G bsayings 16 8 bsayingsc kbsayings) si_X9_65 [0] sm_0 fm_0 nd_0 rfl rfl rfl rfl rfl (Nat.le_of_ble_eq_true rfl) rm_6_1_1 ⟨by first | exact Nat.le_of_ble_eq_true rfl | exact Nat.zero_le _, by first | exact Nat.le_of_ble_eq_true rfl | exact Nat.zero_le _⟩ gX9_weigh_2.2.2.2.1 (Keqr ?_)
      refine lv_icmp_ge (tgt := 154) hx hb gX9_weigh_2.2.2.2.2.1 (by decide) (fun _ => ?_) (fun c9 => absurd (Int32.le_refl _) c9)
      refine toQ hQ0 ?_
      exact RV hC hP hD hS [2, 3, 4, 5, 6, 7, 8, 9, 10, 11, 12, 13, 0, 1] (tf11316, tt11317, wl, wb) rfl rfl (by decide) (trivial) gX9_weigh_7.2.2.2.2.2.2.2
    | succ nP ihP =>
      intro kP wl wb H locs ls hkP hPD hS hl
      refine Kan2 hPD (fun hP hD => ?_)
      refine lv_iload hx hb gX9_weigh_1.2.2.2.2.2.2.2.2.2 (lv_at0 hl) ?_
      refine lv_aload_n hx hb gX9_weigh_2.1 rfl (lv_at1 hl) ?_
      refine gf_X9_9 hC rfl hK hP 2 rfl rfl gX9_weigh_2.2.1 ?_
      refine gf_X9_42 hC rfl hK hP 9 rfl rfl gX9_weigh_2.2.2.1 ?_
      refine pV hC hK hl hP hD (c_T_count l G bsayings 16 8 bsayingsc kbsayings) si_X9_65 [0] sm_0 fm_0 nd_0 rfl rfl rfl rfl rfl (Nat.le_of_ble_eq_true rfl) rm_6_1_1 ⟨by first | exact Nat.le_of_ble_eq_true rfl | exact Nat.zero_le _, by first | exact Nat.le_of_ble_eq_true rfl | exact Nat.zero_le _⟩ gX9_weigh_2.2.2.2.1 (Keqr ?_)
      refine lv_icmp_ge (tgt := 154) hx hb gX9_weigh_2.2.2.2.2.1 (by decide) (fun c9 => absurd c9 (nI_ge (a := kP) (b := kbsayings) (by omega) (by omega))) (fun _ => ?_)
      refine lv_aload_n hx hb gX9_weigh_2.2.2.2.2.2.1 rfl (lv_at1 hl) ?_
      refine gf_X9_9 hC rfl hK hP 2 rfl rfl gX9_weigh_2.2.2.2.2.2.2.1 ?_
      refine gf_X9_42 hC rfl hK hP 9 rfl rfl gX9_weigh_2.2.2.2.2.2.2.2.1 ?_
      refine lv_iload hx hb gX9_weigh_2.2.2.2.2.2.2.2.2.1 (lv_at0 hl) ?_
      refine lv_iconst (v := 3) hx hb gX9_weigh_2.2.2.2.2.2.2.2.2.2 (by decide) ?_
      refine pV hC hK hl hP hD (c_T_at l G bsayings (nI kP) 3 16 8 bsayingsc kbsayings fbsayings (hkbsayings) (by omega) (by omega)) si_X9_48 [0, 1] sm_0_1 fm_0_1 nd_0_1 rfl rfl rfl rfl rfl (Nat.le_of_ble_eq_true rfl) rm_6_1_3 ⟨by first | exact Nat.le_of_ble_eq_true rfl | exact Nat.zero_le _, by first | exact Nat.le_of_ble_eq_true rfl | exact Nat.zero_le _⟩ gX9_weigh_3.1 (fun r1323 hr1323 => ?_)
      refine lv_iconst (v := 1) hx hb gX9_weigh_3.2.1 (by decide) ?_
      refine lv_iadd hx hb gX9_weigh_3.2.2.1 ?_
      refine lv_istore (lv' := [(5, .int (r1323 + 1)), (4, .int (nI kP)), (0, .ref h0), (1, .int pe), (2, .int pa), (3, .int pp)]) hx hb gX9_weigh_3.2.2.2.1 hl (by decide) rfl (fun ls hl => ?_)
      refine lv_iload hx hb gX9_weigh_3.2.2.2.2.1 (lv_at0 hl) ?_
      refine lv_aload_n hx hb gX9_weigh_3.2.2.2.2.2.1 rfl (lv_at2 hl) ?_
      refine gf_X9_19 hC rfl hK hP 2 rfl rfl gX9_weigh_3.2.2.2.2.2.2.1 ?_
      refine lv_aload_n hx hb gX9_weigh_3.2.2.2.2.2.2.2.1 rfl (lv_at2 hl) ?_
      refine gf_X9_23 hC rfl hK hP 2 rfl rfl gX9_weigh_3.2.2.2.2.2.2.2.2.1 ?_
      refine pSN hC hK hl (c_within l G (r1323 + 1) tf11316 tt11317) si_X9_69 rfl rfl (Nat.le_of_ble_eq_true rfl) rm_6_1_3 ⟨by first | exact Nat.le_of_ble_eq_true rfl | exact Nat.zero_le _, by first | exact Nat.le_of_ble_eq_true rfl | exact Nat.zero_le _⟩ gX9_weigh_3.2.2.2.2.2.2.2.2.2 (Kors (Keqa fun a1326 => ?_) (Keqa fun a1326 => ?_))
      · refine lv_if_eq (tgt := 148) hx hb gX9_weigh_4.1 (by decide) (fun c9 => absurd c9 (by decide)) (fun _ => ?_)
        refine lv_aload_n hx hb gX9_weigh_4.2.1 rfl (lv_at2 hl) ?_
        refine lv_iload hx hb gX9_weigh_4.2.2.1 (lv_at1 hl) ?_
        refine lv_iload_n hx hb gX9_weigh_4.2.2.2.1 rfl (lv_at3 hl) ?_
        refine lv_iload_n hx hb gX9_weigh_4.2.2.2.2.1 rfl (lv_at4 hl) ?_
        refine lv_iload_n hx hb gX9_weigh_4.2.2.2.2.2.1 rfl (lv_at5 hl) ?_
        refine pV hC hK hl hP hD (c_isOn l G h0 (nI kP) pe pa pp bb sg tf11316 tt11317 wl wb bpersons bpapers bstamps bversions blines bsteps bsayings bfindings bwarnings bquestions td vd vl gp bsayingsc kbsayings fbsayings (hkbsayings)) si_X9_73 [2, 9, 0, 1] sm_2_9_0_1 fm_2_9_0_1 nd_2_9_0_1 rfl rfl rfl rfl rfl (Nat.le_of_ble_eq_true rfl) rm_6_4_5 ⟨by first | exact Nat.le_of_ble_eq_true rfl | exact Nat.zero_le _, by first | exact Nat.le_of_ble_eq_true rfl | exact Nat.zero_le _⟩ gX9_weigh_4.2.2.2.2.2.2.1 (Kors (Keqr ?_) (Keqr ?_))
        · refine lv_if_ne (tgt := 95) hx hb gX9_weigh_4.2.2.2.2.2.2.2.1 (by decide) (fun _ => ?_) (fun c9 => absurd c9 (by decide))
          refine lv_aload_n hx hb gX9_weigh_4.2.2.2.2.2.2.2.2.2 rfl (lv_at2 hl) ?_
          refine lv_iload hx hb gX9_weigh_5.1 (lv_at0 hl) ?_
          refine lv_iload_n hx hb gX9_weigh_5.2.1 rfl (lv_at3 hl) ?_
          refine lv_iload_n hx hb gX9_weigh_5.2.2.1 rfl (lv_at4 hl) ?_
          refine lv_iload_n hx hb gX9_weigh_5.2.2.2.1 rfl (lv_at5 hl) ?_
          refine pV hC hK hl hP hD (c_weightAgainst l G h0 (r1323 + 1) pe pa pp bb sg tf11316 tt11317 wl wb bpersons bpapers bstamps bversions blines bsteps bsayings bfindings bwarnings bquestions td vd vl gp bsayingsc kbsayings fbsayings (hkbsayings)) si_X9_61 [2, 9, 0, 1] sm_2_9_0_1 fm_2_9_0_1 nd_2_9_0_1 rfl rfl rfl rfl rfl (Nat.le_of_ble_eq_true rfl) rm_6_5_9 ⟨by first | exact Nat.le_of_ble_eq_true rfl | exact Nat.zero_le _, by first | exact Nat.le_of_ble_eq_true rfl | exact Nat.zero_le _⟩ gX9_weigh_5.2.2.2.2.1 (fun r1329 hr1329 => ?_)
          refine lv_istore (lv' := [(6, .int r1329), (5, .int (r1323 + 1)), (4, .int (nI kP)), (0, .ref h0), (1, .int pe), (2, .int pa), (3, .int pp)]) hx hb gX9_weigh_5.2.2.2.2.2.1 hl (by decide) rfl (fun ls hl => ?_)
          refine lv_iload hx hb gX9_weigh_5.2.2.2.2.2.2.1 (lv_at0 hl) ?_
          refine lv_aload_n hx hb gX9_weigh_5.2.2.2.2.2.2.2.1 rfl (lv_at3 hl) ?_
          refine gf_X9_26 hC rfl hK hP 2 rfl rfl gX9_weigh_5.2.2.2.2.2.2.2.2.1 ?_
          refine lv_icmp_gt (tgt := 148) hx hb gX9_weigh_5.2.2.2.2.2.2.2.2.2 (by decide) (fun c_112_1330 => ?_) (fun c_112_1330 => ?_)
          · refine lv_iinc (v := nI (kP + 1)) (lv' := [(4, .int (nI (kP + 1))), (6, .int r1329), (5, .int (r1323 + 1)), (0, .ref h0), (1, .int pe), (2, .int pa), (3, .int pp)]) hx hb gX9_weigh_7.2.2.2.2.2.1 hl (k := 2) rfl (nI_1 _) (by decide) rfl (fun ls hl => ?_)
            refine lv_goto (tgt := 32) hx hb gX9_weigh_7.2.2.2.2.2.2.1 (by decide) ?_
            exact ihP (kP + 1) wl wb _ _ _ (by omega) (And.intro hP hD) hS (lv_sub hl [0, 3, 4, 5, 6] rfl)
          · refine lv_iload hx hb gX9_weigh_6.1 (lv_at0 hl) ?_
            refine lv_aload_n hx hb gX9_weigh_6.2.1 rfl (lv_at3 hl) ?_
            refine gf_X9_26 hC rfl hK hP 2 rfl rfl gX9_weigh_6.2.2.1 ?_
            refine lv_icmp_ne (tgt := 136) hx hb gX9_weigh_6.2.2.2.1 (by decide) (fun c_121_1331 => ?_) (fun c_121_1331 => ?_)
            · refine lv_aload_n hx hb gX9_weigh_6.2.2.2.2.2.2.2.2.2 rfl (lv_at3 hl) ?_
              refine lv_iload hx hb gX9_weigh_7.1 (lv_at0 hl) ?_
              refine pf_X9_26 hC rfl hK hP hD hS 2 (ws' := [(bsayings, oX8 16 8 bsayingsc (nI kbsayings)), (bsayingsc, iA G 128 fbsayings), (h0, oX9 bb sg tf11316 tt11317 r1329 wb), (sg, oX7 bb clk fi la ml mm sl sm scl), (la, iA G 12 fla), (ml, iA G 12 fml), (mm, iA G 12 fmm), (sl, iA G 12 fsl), (sm, iA G 12 fsm), (bb, oX0 bpersons bpapers bstamps bversions blines bsteps bsayings bfindings bwarnings bquestions td vd vl gp), (bpapers, oX8 12 6 bpapersc (nI kbpapers)), (bpapersc, iA G 72 fbpapers), (bpersons, oX8 10 2 bpersonsc (nI kbpersons)), (bpersonsc, iA G 20 fbpersons)]) rfl (Nat.le_of_ble_eq_true rfl) rfl rfl rfl gX9_weigh_7.2.1 (fun H locs hP hD hS => ?_)
              refine lv_aload_n hx hb gX9_weigh_7.2.2.1 rfl (lv_at3 hl) ?_
              refine lv_iload hx hb gX9_weigh_7.2.2.2.1 (lv_at1 hl) ?_
              refine pf_X9_29 hC rfl hK hP hD hS 2 (ws' := [(bsayings, oX8 16 8 bsayingsc (nI kbsayings)), (bsayingsc, iA G 128 fbsayings), (h0, oX9 bb sg tf11316 tt11317 r1329 (r1323 + 1)), (sg, oX7 bb clk fi la ml mm sl sm scl), (la, iA G 12 fla), (ml, iA G 12 fml), (mm, iA G 12 fmm), (sl, iA G 12 fsl), (sm, iA G 12 fsm), (bb, oX0 bpersons bpapers bstamps bversions blines bsteps bsayings bfindings bwarnings bquestions td vd vl gp), (bpapers, oX8 12 6 bpapersc (nI kbpapers)), (bpapersc, iA G 72 fbpapers), (bpersons, oX8 10 2 bpersonsc (nI kbpersons)), (bpersonsc, iA G 20 fbpersons)]) rfl (Nat.le_of_ble_eq_true rfl) rfl rfl rfl gX9_weigh_7.2.2.2.2.1 (fun H locs hP hD hS => ?_)
              refine lv_iinc (v := nI (kP + 1)) (lv' := [(4, .int (nI (kP + 1))), (6, .int r1329), (5, .int (r1323 + 1)), (0, .ref h0), (1, .int pe), (2, .int pa), (3, .int pp)]) hx hb gX9_weigh_7.2.2.2.2.2.1 hl (k := 2) rfl (nI_1 _) (by decide) rfl (fun ls hl => ?_)
              refine lv_goto (tgt := 32) hx hb gX9_weigh_7.2.2.2.2.2.2.1 (by decide) ?_
              exact ihP (kP + 1) r1329 (r1323 + 1) _ _ _ (by omega) (And.intro hP hD) hS (lv_sub hl [0, 3, 4, 5, 6] rfl)
            · refine lv_iload hx hb gX9_weigh_6.2.2.2.2.1 (lv_at1 hl) ?_
              refine lv_aload_n hx hb gX9_weigh_6.2.2.2.2.2.1 rfl (lv_at3 hl) ?_
              refine gf_X9_29 hC rfl hK hP 2 rfl rfl gX9_weigh_6.2.2.2.2.2.2.1 ?_
              refine lv_icmp_lt (tgt := 136) hx hb gX9_weigh_6.2.2.2.2.2.2.2.1 (by decide) (fun c_130_1332 => ?_) (fun c_130_1332 => ?_)
              · refine lv_aload_n hx hb gX9_weigh_6.2.2.2.2.2.2.2.2.2 rfl (lv_at3 hl) ?_
                refine lv_iload hx hb gX9_weigh_7.1 (lv_at0 hl) ?_
                refine pf_X9_26 hC rfl hK hP hD hS 2 (ws' := [(bsayings, oX8 16 8 bsayingsc (nI kbsayings)), (bsayingsc, iA G 128 fbsayings), (h0, oX9 bb sg tf11316 tt11317 r1329 wb), (sg, oX7 bb clk fi la ml mm sl sm scl), (la, iA G 12 fla), (ml, iA G 12 fml), (mm, iA G 12 fmm), (sl, iA G 12 fsl), (sm, iA G 12 fsm), (bb, oX0 bpersons bpapers bstamps bversions blines bsteps bsayings bfindings bwarnings bquestions td vd vl gp), (bpapers, oX8 12 6 bpapersc (nI kbpapers)), (bpapersc, iA G 72 fbpapers), (bpersons, oX8 10 2 bpersonsc (nI kbpersons)), (bpersonsc, iA G 20 fbpersons)]) rfl (Nat.le_of_ble_eq_true rfl) rfl rfl rfl gX9_weigh_7.2.1 (fun H locs hP hD hS => ?_)
                refine lv_aload_n hx hb gX9_weigh_7.2.2.1 rfl (lv_at3 hl) ?_
                refine lv_iload hx hb gX9_weigh_7.2.2.2.1 (lv_at1 hl) ?_
                refine pf_X9_29 hC rfl hK hP hD hS 2 (ws' := [(bsayings, oX8 16 8 bsayingsc (nI kbsayings)), (bsayingsc, iA G 128 fbsayings), (h0, oX9 bb sg tf11316 tt11317 r1329 (r1323 + 1)), (sg, oX7 bb clk fi la ml mm sl sm scl), (la, iA G 12 fla), (ml, iA G 12 fml), (mm, iA G 12 fmm), (sl, iA G 12 fsl), (sm, iA G 12 fsm), (bb, oX0 bpersons bpapers bstamps bversions blines bsteps bsayings bfindings bwarnings bquestions td vd vl gp), (bpapers, oX8 12 6 bpapersc (nI kbpapers)), (bpapersc, iA G 72 fbpapers), (bpersons, oX8 10 2 bpersonsc (nI kbpersons)), (bpersonsc, iA G 20 fbpersons)]) rfl (Nat.le_of_ble_eq_true rfl) rfl rfl rfl gX9_weigh_7.2.2.2.2.1 (fun H locs hP hD hS => ?_)
                refine lv_iinc (v := nI (kP + 1)) (lv' := [(4, .int (nI (kP + 1))), (6, .int r1329), (5, .int (r1323 + 1)), (0, .ref h0), (1, .int pe), (2, .int pa), (3, .int pp)]) hx hb gX9_weigh_7.2.2.2.2.2.1 hl (k := 2) rfl (nI_1 _) (by decide) rfl (fun ls hl => ?_)
                refine lv_goto (tgt := 32) hx hb gX9_weigh_7.2.2.2.2.2.2.1 (by decide) ?_
                exact ihP (kP + 1) r1329 (r1323 + 1) _ _ _ (by omega) (And.intro hP hD) hS (lv_sub hl [0, 3, 4, 5, 6] rfl)
              · refine lv_goto (tgt := 148) hx hb gX9_weigh_6.2.2.2.2.2.2.2.2.1 (by decide) ?_
                refine lv_iinc (v := nI (kP + 1)) (lv' := [(4, .int (nI (kP + 1))), (6, .int r1329), (5, .int (r1323 + 1)), (0, .ref h0), (1, .int pe), (2, .int pa), (3, .int pp)]) hx hb gX9_weigh_7.2.2.2.2.2.1 hl (k := 2) rfl (nI_1 _) (by decide) rfl (fun ls hl => ?_)
                refine lv_goto (tgt := 32) hx hb gX9_weigh_7.2.2.2.2.2.2.1 (by decide) ?_
                exact ihP (kP + 1) wl wb _ _ _ (by omega) (And.intro hP hD) hS (lv_sub hl [0, 3, 4, 5, 6] rfl)
        · refine lv_if_ne (tgt := 95) hx hb gX9_weigh_4.2.2.2.2.2.2.2.1 (by decide) (fun c9 => absurd (by decide) c9) (fun _ => ?_)
          refine lv_goto (tgt := 148) hx hb gX9_weigh_4.2.2.2.2.2.2.2.2.1 (by decide) ?_
          refine lv_iinc (v := nI (kP + 1)) (lv' := [(4, .int (nI (kP + 1))), (5, .int (r1323 + 1)), (0, .ref h0), (1, .int pe), (2, .int pa), (3, .int pp)]) hx hb gX9_weigh_7.2.2.2.2.2.1 hl (k := 1) rfl (nI_1 _) (by decide) rfl (fun ls hl => ?_)
          refine lv_goto (tgt := 32) hx hb gX9_weigh_7.2.2.2.2.2.2.1 (by decide) ?_
          exact ihP (kP + 1) wl wb _ _ _ (by omega) (And.intro hP hD) hS (lv_sub hl [0, 2, 3, 4, 5] rfl)
      · refine lv_if_eq (tgt := 148) hx hb gX9_weigh_4.1 (by decide) (fun _ => ?_) (fun c9 => absurd (by decide) c9)
        refine lv_iinc (v := nI (kP + 1)) (lv' := [(4, .int (nI (kP + 1))), (5, .int (r1323 + 1)), (0, .ref h0), (1, .int pe), (2, .int pa), (3, .int pp)]) hx hb gX9_weigh_7.2.2.2.2.2.1 hl (k := 1) rfl (nI_1 _) (by decide) rfl (fun ls hl => ?_)
        refine lv_goto (tgt := 32) hx hb gX9_weigh_7.2.2.2.2.2.2.1 (by decide) ?_
        exact ihP (kP + 1) wl wb _ _ _ (by omega) (And.intro hP hD) hS (lv_sub hl [0, 2, 3, 4, 5] rfl)
  exact keyP kbsayings 0 r1318 tf11316 _ _ _ (by omega) (And.intro hP hD) hS (lv_sub hl [0, 1, 2, 3, 4] rfl)
def K_c_impOnes (l : Launch) (G : GG) (h0 : Nat) (pp : Int32) (bb : Nat) (sg : Nat) (tf : Int32) (tt9 : Int32) (tl : Int32) (tbv : Int32) (clk : Nat) (fi : Nat) (la : Nat) (ml : Nat) (mm : Nat) (sl : Nat) (sm : Nat) (scl : Int32) (fla : Nat → Int32) (fml : Nat → Int32) (fmm : Nat → Int32) (fsl : Nat → Int32) (fsm : Nat → Int32) (bpersons : Nat) (bpapers : Nat) (bstamps : Nat) (bversions : Nat) (blines : Nat) (bsteps : Nat) (bsayings : Nat) (bfindings : Nat) (bwarnings : Nat) (bquestions : Nat) (td : Int32) (vd : Int32) (vl : Int32) (gp : Int32) (bpapersc : Nat) (kbpapers : Nat) (fbpapers : Nat → Int32) (bpersonsc : Nat) (kbpersons : Nat) (fbpersons : Nat → Int32) (bsayingsc : Nat) (kbsayings : Nat) (fbsayings : Nat → Int32) : Prop := MI l G yX9_impossibleOnes cX9_impossibleOnes 6 (some .int) 6 0 0 [.ref h0, .int pp] [(h0, oX9 bb sg tf tt9 tl tbv), (sg, oX7 bb clk fi la ml mm sl sm scl), (la, iA G 12 fla), (ml, iA G 12 fml), (mm, iA G 12 fmm), (sl, iA G 12 fsl), (sm, iA G 12 fsm), (bb, oX0 bpersons bpapers bstamps bversions blines bsteps bsayings bfindings bwarnings bquestions td vd vl gp), (bpapers, oX8 12 6 bpapersc (nI kbpapers)), (bpapersc, iA G 72 fbpapers), (bpersons, oX8 10 2 bpersonsc (nI kbpersons)), (bpersonsc, iA G 20 fbpersons), (bsayings, oX8 16 8 bsayingsc (nI kbsayings)), (bsayingsc, iA G 128 fbsayings)] (fun (r : Int32) (u : Int32 × Int32) => (True)) (fun u : Int32 × Int32 => [(h0, oX9 bb sg u.1 u.2 tl tbv), (sg, oX7 bb clk fi la ml mm sl sm scl), (la, iA G 12 fla), (ml, iA G 12 fml), (mm, iA G 12 fmm), (sl, iA G 12 fsl), (sm, iA G 12 fsm), (bb, oX0 bpersons bpapers bstamps bversions blines bsteps bsayings bfindings bwarnings bquestions td vd vl gp), (bpapers, oX8 12 6 bpapersc (nI kbpapers)), (bpapersc, iA G 72 fbpapers), (bpersons, oX8 10 2 bpersonsc (nI kbpersons)), (bpersonsc, iA G 20 fbpersons), (bsayings, oX8 16 8 bsayingsc (nI kbsayings)), (bsayingsc, iA G 128 fbsayings)])
set_option maxHeartbeats 4000000 in
set_option maxRecDepth 100000 in
theorem c_impOnes (l : Launch) (G : GG) (h0 : Nat) (pp : Int32) (bb : Nat) (sg : Nat) (tf : Int32) (tt9 : Int32) (tl : Int32) (tbv : Int32) (clk : Nat) (fi : Nat) (la : Nat) (ml : Nat) (mm : Nat) (sl : Nat) (sm : Nat) (scl : Int32) (fla : Nat → Int32) (fml : Nat → Int32) (fmm : Nat → Int32) (fsl : Nat → Int32) (fsm : Nat → Int32) (bpersons : Nat) (bpapers : Nat) (bstamps : Nat) (bversions : Nat) (blines : Nat) (bsteps : Nat) (bsayings : Nat) (bfindings : Nat) (bwarnings : Nat) (bquestions : Nat) (td : Int32) (vd : Int32) (vl : Int32) (gp : Int32) (bpapersc : Nat) (kbpapers : Nat) (fbpapers : Nat → Int32) (bpersonsc : Nat) (kbpersons : Nat) (fbpersons : Nat → Int32) (bsayingsc : Nat) (kbsayings : Nat) (fbsayings : Nat → Int32) (hkbpapers : kbpapers ≤ 12) (hkbpersons : kbpersons ≤ 10) (hkbsayings : kbsayings ≤ 16) : K_c_impOnes l G h0 pp bb sg tf tt9 tl tbv clk fi la ml mm sl sm scl fla fml fmm fsl fsm bpersons bpapers bstamps bversions blines bsteps bsayings bfindings bwarnings bquestions td vd vl gp bpapersc kbpapers fbpapers bpersonsc kbpersons fbpersons bsayingsc kbsayings fbsayings := by
  refine MI.start (by decide +kernel) (Nat.le_of_ble_eq_true rfl) ?_
  intro p e s m below meth c A ls hC hK hP hD hS hA hl
  refine absQ (fun Q0 hQ0 => ?_)
  have hl : lv_has ls 6 [(0, .ref h0), (1, .int pp)] := hl
  refine Kan8 hC (fun hx hb hr hml hB hown hlocks hnm => ?_)
  refine lv_iconst (v := 0) hx hb gX9_impossibleOnes_0.1 (by decide) ?_
  refine lv_istore_n (lv' := [(2, .int 0), (0, .ref h0), (1, .int pp)]) hx hb gX9_impossibleOnes_0.2.1 rfl hl (by decide) rfl (fun ls hl => ?_)
  refine lv_iconst (v := 0) hx hb gX9_impossibleOnes_0.2.2.1 (by decide) ?_
  refine lv_istore_n (lv' := [(3, .int 0), (2, .int 0), (0, .ref h0), (1, .int pp)]) hx hb gX9_impossibleOnes_0.2.2.2.1 rfl hl (by decide) rfl (fun ls hl => ?_)
  have keyP : ∀ (nP kP : Nat) (bi : Int32) (wf : Int32) (wt : Int32) (H : Heap) (locs : List Loc) (ls : Array Slot), kP + nP = kbsayings → va_PD G A [(h0, oX9 bb sg wf wt tl tbv), (sg, oX7 bb clk fi la ml mm sl sm scl), (la, iA G 12 fla), (ml, iA G 12 fml), (mm, iA G 12 fmm), (sl, iA G 12 fsl), (sm, iA G 12 fsm), (bb, oX0 bpersons bpapers bstamps bversions blines bsteps bsayings bfindings bwarnings bquestions td vd vl gp), (bpapers, oX8 12 6 bpapersc (nI kbpapers)), (bpapersc, iA G 72 fbpapers), (bpersons, oX8 10 2 bpersonsc (nI kbpersons)), (bpersonsc, iA G 20 fbpersons), (bsayings, oX8 16 8 bsayingsc (nI kbsayings)), (bsayingsc, iA G 128 fbsayings)] H → va_S A s.heap H locs → lv_has ls 6 [(3, .int (nI kP)), (2, .int bi), (0, .ref h0), (1, .int pp)] → W p l e (RM 6 0 0) s m ([.ref h0, .int pp] : List Value).toArray below meth c H locs 0 0 Q0 (F0 m 4 ls []) := by
    intro nP
    induction nP with
    | zero =>
      intro kP bi wf wt H locs ls hkP hPD hS hl
      refine Kan2 hPD (fun hP hD => ?_)
      obtain rfl : kbsayings = kP := by omega
      have hl : lv_has ls 6 [(3, .int (nI kbsayings)), (2, .int bi), (0, .ref h0), (1, .int pp)] := hl
      refine lv_iload_n hx hb gX9_impossibleOnes_0.2.2.2.2.1 rfl (lv_at0 hl) ?_
      refine lv_aload_n hx hb gX9_impossibleOnes_0.2.2.2.2.2.1 rfl (lv_at2 hl) ?_
      refine gf_X9_9 hC rfl hK hP 0 rfl rfl gX9_impossibleOnes_0.2.2.2.2.2.2.1 ?_
      refine gf_X9_42 hC rfl hK hP 7 rfl rfl gX9_impossibleOnes_0.2.2.2.2.2.2.2.1 ?_
      refine pV hC hK hl hP hD (c_T_count l G bsayings 16 8 bsayingsc kbsayings) si_X9_65 [12] sm_12 fm_12 nd_12 rfl rfl rfl rfl rfl (Nat.le_of_ble_eq_true rfl) rm_6_1_1 ⟨by first | exact Nat.le_of_ble_eq_true rfl | exact Nat.zero_le _, by first | exact Nat.le_of_ble_eq_true rfl | exact Nat.zero_le _⟩ gX9_impossibleOnes_0.2.2.2.2.2.2.2.2.1 (Keqr ?_)
      refine lv_icmp_ge (tgt := 141) hx hb gX9_impossibleOnes_0.2.2.2.2.2.2.2.2.2 (by decide) (fun _ => ?_) (fun c9 => absurd (Int32.le_refl _) c9)
      refine lv_iload_n hx hb gX9_impossibleOnes_7.2.2.1 rfl (lv_at1 hl) ?_
      refine toQ hQ0 ?_
      exact RI (v := bi) hC hP hD hS [0, 1, 2, 3, 4, 5, 6, 7, 8, 9, 10, 11, 12, 13] (wf, wt) rfl rfl (by decide) (trivial) rfl gX9_impossibleOnes_7.2.2.2
    | succ nP ihP =>
      intro kP bi wf wt H locs ls hkP hPD hS hl
      refine Kan2 hPD (fun hP hD => ?_)
      refine lv_iload_n hx hb gX9_impossibleOnes_0.2.2.2.2.1 rfl (lv_at0 hl) ?_
      refine lv_aload_n hx hb gX9_impossibleOnes_0.2.2.2.2.2.1 rfl (lv_at2 hl) ?_
      refine gf_X9_9 hC rfl hK hP 0 rfl rfl gX9_impossibleOnes_0.2.2.2.2.2.2.1 ?_
      refine gf_X9_42 hC rfl hK hP 7 rfl rfl gX9_impossibleOnes_0.2.2.2.2.2.2.2.1 ?_
      refine pV hC hK hl hP hD (c_T_count l G bsayings 16 8 bsayingsc kbsayings) si_X9_65 [12] sm_12 fm_12 nd_12 rfl rfl rfl rfl rfl (Nat.le_of_ble_eq_true rfl) rm_6_1_1 ⟨by first | exact Nat.le_of_ble_eq_true rfl | exact Nat.zero_le _, by first | exact Nat.le_of_ble_eq_true rfl | exact Nat.zero_le _⟩ gX9_impossibleOnes_0.2.2.2.2.2.2.2.2.1 (Keqr ?_)
      refine lv_icmp_ge (tgt := 141) hx hb gX9_impossibleOnes_0.2.2.2.2.2.2.2.2.2 (by decide) (fun c9 => absurd c9 (nI_ge (a := kP) (b := kbsayings) (by omega) (by omega))) (fun _ => ?_)
      refine lv_aload_n hx hb gX9_impossibleOnes_1.1 rfl (lv_at2 hl) ?_
      refine gf_X9_9 hC rfl hK hP 0 rfl rfl gX9_impossibleOnes_1.2.1 ?_
      refine lv_iload_n hx hb gX9_impossibleOnes_1.2.2.1 rfl (lv_at0 hl) ?_
      refine lv_iload_n hx hb gX9_impossibleOnes_1.2.2.2.1 rfl (lv_at3 hl) ?_
      refine pV hC hK hl hP hD (c_counts l G bb (nI kP) pp bpersons bpapers bstamps bversions blines bsteps bsayings bfindings bwarnings bquestions td vd vl gp bsayingsc kbsayings fbsayings (hkbsayings)) si_X9_54 [7, 12, 13] sm_7_12_13 fm_7_12_13 nd_7_12_13 rfl rfl rfl rfl rfl (Nat.le_of_ble_eq_true rfl) rm_6_3_3 ⟨by first | exact Nat.le_of_ble_eq_true rfl | exact Nat.zero_le _, by first | exact Nat.le_of_ble_eq_true rfl | exact Nat.zero_le _⟩ gX9_impossibleOnes_1.2.2.2.2.1 (Kors (Keqr ?_) (Keqr ?_))
      · refine lv_if_ne (tgt := 33) hx hb gX9_impossibleOnes_1.2.2.2.2.2.1 (by decide) (fun _ => ?_) (fun c9 => absurd c9 (by decide))
        refine lv_aload_n hx hb gX9_impossibleOnes_1.2.2.2.2.2.2.2.1 rfl (lv_at2 hl) ?_
        refine lv_aload_n hx hb gX9_impossibleOnes_1.2.2.2.2.2.2.2.2.1 rfl (lv_at2 hl) ?_
        refine gf_X9_9 hC rfl hK hP 0 rfl rfl gX9_impossibleOnes_1.2.2.2.2.2.2.2.2.2 ?_
        refine gf_X9_42 hC rfl hK hP 7 rfl rfl gX9_impossibleOnes_2.1 ?_
        refine lv_iload_n hx hb gX9_impossibleOnes_2.2.1 rfl (lv_at0 hl) ?_
        refine lv_iconst (v := 1) hx hb gX9_impossibleOnes_2.2.2.1 (by decide) ?_
        refine pV hC hK hl hP hD (c_T_at l G bsayings (nI kP) 1 16 8 bsayingsc kbsayings fbsayings (hkbsayings) (by omega) (by omega)) si_X9_48 [12, 13] sm_12_13 fm_12_13 nd_12_13 rfl rfl rfl rfl rfl (Nat.le_of_ble_eq_true rfl) rm_6_1_3 ⟨by first | exact Nat.le_of_ble_eq_true rfl | exact Nat.zero_le _, by first | exact Nat.le_of_ble_eq_true rfl | exact Nat.zero_le _⟩ gX9_impossibleOnes_2.2.2.2.1 (fun r1339 hr1339 => ?_)
        refine lv_aload_n hx hb gX9_impossibleOnes_2.2.2.2.2.1 rfl (lv_at2 hl) ?_
        refine gf_X9_9 hC rfl hK hP 0 rfl rfl gX9_impossibleOnes_2.2.2.2.2.2.1 ?_
        refine gf_X9_42 hC rfl hK hP 7 rfl rfl gX9_impossibleOnes_2.2.2.2.2.2.2.1 ?_
        refine lv_iload_n hx hb gX9_impossibleOnes_2.2.2.2.2.2.2.2.1 rfl (lv_at0 hl) ?_
        refine lv_iconst (v := 2) hx hb gX9_impossibleOnes_2.2.2.2.2.2.2.2.2.1 (by decide) ?_
        refine pV hC hK hl hP hD (c_T_at l G bsayings (nI kP) 2 16 8 bsayingsc kbsayings fbsayings (hkbsayings) (by omega) (by omega)) si_X9_48 [12, 13] sm_12_13 fm_12_13 nd_12_13 rfl rfl rfl rfl rfl (Nat.le_of_ble_eq_true rfl) rm_6_1_3 ⟨by first | exact Nat.le_of_ble_eq_true rfl | exact Nat.zero_le _, by first | exact Nat.le_of_ble_eq_true rfl | exact Nat.zero_le _⟩ gX9_impossibleOnes_2.2.2.2.2.2.2.2.2.2 (fun r1341 hr1341 => ?_)
        refine vV (wr := [(bsayings, oX8 16 8 bsayingsc (nI kbsayings)), (bsayingsc, iA G 128 fbsayings)]) hC hK hl hP hD hS hA (c_bound l G h0 r1339 r1341 bb sg wf wt tl tbv clk fi la ml mm sl sm scl fla fml fmm fsl fsm bpersons bpapers bstamps bversions blines bsteps bsayings bfindings bwarnings bquestions td vd vl gp bpapersc kbpapers fbpapers bpersonsc kbpersons fbpersons (hkbpapers) (hkbpersons)) si_X9_57 [0, 1, 2, 3, 4, 5, 6, 7, 8, 9, 10, 11] [12, 13] sm_0_1_2_3_4_5_6_7_8_9_10_11 fm_0_1_2_3_4_5_6_7_8_9_10_11 nd_0_1_2_3_4_5_6_7_8_9_10_11 sm_12_13 nd_12_13 dj_0_1_2_3_4_5_6_7_8_9_10_11__12_13 rfl rfl rfl rfl rfl (Nat.le_of_ble_eq_true rfl) rm_6_4_4 ⟨Nat.le_of_ble_eq_true rfl, Nat.le_of_ble_eq_true rfl⟩ gX9_impossibleOnes_3.1 (Ktu2 fun tf11345 tt11346 => ?_)
        intro H locs hr1343 hP hD hS
        try dsimp only at hr1343
        refine Kpdr (ws := [(bsayings, oX8 16 8 bsayingsc (nI kbsayings)), (bsayingsc, iA G 128 fbsayings), (h0, oX9 bb sg tf11345 tt11346 tl tbv), (sg, oX7 bb clk fi la ml mm sl sm scl), (la, iA G 12 fla), (ml, iA G 12 fml), (mm, iA G 12 fmm), (sl, iA G 12 fsl), (sm, iA G 12 fsm), (bb, oX0 bpersons bpapers bstamps bversions blines bsteps bsayings bfindings bwarnings bquestions td vd vl gp), (bpapers, oX8 12 6 bpapersc (nI kbpapers)), (bpapersc, iA G 72 fbpapers), (bpersons, oX8 10 2 bpersonsc (nI kbpersons)), (bpersonsc, iA G 20 fbpersons)]) hP hD (fun hP hD => ?_)
        refine lv_aload_n hx hb gX9_impossibleOnes_3.2.1 rfl (lv_at2 hl) ?_
        refine gf_X9_9 hC rfl hK hP 2 rfl rfl gX9_impossibleOnes_3.2.2.1 ?_
        refine gf_X9_42 hC rfl hK hP 9 rfl rfl gX9_impossibleOnes_3.2.2.2.1 ?_
        refine lv_iload_n hx hb gX9_impossibleOnes_3.2.2.2.2.1 rfl (lv_at0 hl) ?_
        refine lv_iconst (v := 3) hx hb gX9_impossibleOnes_3.2.2.2.2.2.1 (by decide) ?_
        refine pV hC hK hl hP hD (c_T_at l G bsayings (nI kP) 3 16 8 bsayingsc kbsayings fbsayings (hkbsayings) (by omega) (by omega)) si_X9_48 [0, 1] sm_0_1 fm_0_1 nd_0_1 rfl rfl rfl rfl rfl (Nat.le_of_ble_eq_true rfl) rm_6_1_3 ⟨by first | exact Nat.le_of_ble_eq_true rfl | exact Nat.zero_le _, by first | exact Nat.le_of_ble_eq_true rfl | exact Nat.zero_le _⟩ gX9_impossibleOnes_3.2.2.2.2.2.2.1 (fun r1347 hr1347 => ?_)
        refine lv_istore (lv' := [(4, .int r1347), (3, .int (nI kP)), (2, .int bi), (0, .ref h0), (1, .int pp)]) hx hb gX9_impossibleOnes_3.2.2.2.2.2.2.2.1 hl (by decide) rfl (fun ls hl => ?_)
        refine lv_aload_n hx hb gX9_impossibleOnes_3.2.2.2.2.2.2.2.2.1 rfl (lv_at3 hl) ?_
        refine gf_X9_9 hC rfl hK hP 2 rfl rfl gX9_impossibleOnes_3.2.2.2.2.2.2.2.2.2 ?_
        refine gf_X9_42 hC rfl hK hP 9 rfl rfl gX9_impossibleOnes_4.1 ?_
        refine lv_iload_n hx hb gX9_impossibleOnes_4.2.1 rfl (lv_at1 hl) ?_
        refine lv_iconst (v := 5) hx hb gX9_impossibleOnes_4.2.2.1 (by decide) ?_
        refine pV hC hK hl hP hD (c_T_at l G bsayings (nI kP) 5 16 8 bsayingsc kbsayings fbsayings (hkbsayings) (by omega) (by omega)) si_X9_48 [0, 1] sm_0_1 fm_0_1 nd_0_1 rfl rfl rfl rfl rfl (Nat.le_of_ble_eq_true rfl) rm_6_1_3 ⟨by first | exact Nat.le_of_ble_eq_true rfl | exact Nat.zero_le _, by first | exact Nat.le_of_ble_eq_true rfl | exact Nat.zero_le _⟩ gX9_impossibleOnes_4.2.2.2.1 (fun r1349 hr1349 => ?_)
        refine lv_iconst (v := 1) hx hb gX9_impossibleOnes_4.2.2.2.2.1 (by decide) ?_
        refine lv_icmp_ne (tgt := 108) hx hb gX9_impossibleOnes_4.2.2.2.2.2.1 (by decide) (fun c_88_1351 => ?_) (fun c_88_1351 => ?_)
        · refine lv_iload hx hb gX9_impossibleOnes_5.2.2.2.2.1 (lv_at0 hl) ?_
          refine lv_aload_n hx hb gX9_impossibleOnes_5.2.2.2.2.2.1 rfl (lv_at3 hl) ?_
          refine gf_X9_23 hC rfl hK hP 2 rfl rfl gX9_impossibleOnes_5.2.2.2.2.2.2.1 ?_
          refine lv_icmp_lt (tgt := 121) hx hb gX9_impossibleOnes_5.2.2.2.2.2.2.2.1 (by decide) (fun c_114_1352 => ?_) (fun c_114_1352 => ?_)
          · refine lv_iconst (v := 0) hx hb gX9_impossibleOnes_6.1 (by decide) ?_
            refine lv_istore (lv' := [(5, .int 0), (4, .int r1347), (3, .int (nI kP)), (2, .int bi), (0, .ref h0), (1, .int pp)]) hx hb gX9_impossibleOnes_6.2.1 hl (by decide) rfl (fun ls hl => ?_)
            refine lv_iload hx hb gX9_impossibleOnes_6.2.2.1 (lv_at0 hl) ?_
            refine lv_if_eq (tgt := 135) hx hb gX9_impossibleOnes_6.2.2.2.1 (by decide) (fun _ => ?_) (fun c9 => absurd (by decide) c9)
            refine lv_iinc (v := nI (kP + 1)) (lv' := [(3, .int (nI (kP + 1))), (5, .int 0), (4, .int r1347), (2, .int bi), (0, .ref h0), (1, .int pp)]) hx hb gX9_impossibleOnes_7.1 hl (k := 2) rfl (nI_1 _) (by decide) rfl (fun ls hl => ?_)
            refine lv_goto (tgt := 4) hx hb gX9_impossibleOnes_7.2.1 (by decide) ?_
            refine Kpds (ws' := [(h0, oX9 bb sg tf11345 tt11346 tl tbv), (sg, oX7 bb clk fi la ml mm sl sm scl), (la, iA G 12 fla), (ml, iA G 12 fml), (mm, iA G 12 fmm), (sl, iA G 12 fsl), (sm, iA G 12 fsm), (bb, oX0 bpersons bpapers bstamps bversions blines bsteps bsayings bfindings bwarnings bquestions td vd vl gp), (bpapers, oX8 12 6 bpapersc (nI kbpapers)), (bpapersc, iA G 72 fbpapers), (bpersons, oX8 10 2 bpersonsc (nI kbpersons)), (bpersonsc, iA G 20 fbpersons), (bsayings, oX8 16 8 bsayingsc (nI kbsayings)), (bsayingsc, iA G 128 fbsayings)]) hP hD [2, 3, 4, 5, 6, 7, 8, 9, 10, 11, 12, 13, 0, 1] fm_2_3_4_5_6_7_8_9_10_11_12_13_0_1 nd_2_3_4_5_6_7_8_9_10_11_12_13_0_1 sm_2_3_4_5_6_7_8_9_10_11_12_13_0_1 (fun hP hD => ?_)
            exact ihP (kP + 1) bi tf11345 tt11346 _ _ _ (by omega) (And.intro hP hD) hS (lv_sub hl [0, 3, 4, 5] rfl)
          · refine lv_iconst (v := 1) hx hb gX9_impossibleOnes_5.2.2.2.2.2.2.2.2.1 (by decide) ?_
            refine lv_goto (tgt := 122) hx hb gX9_impossibleOnes_5.2.2.2.2.2.2.2.2.2 (by decide) ?_
            refine lv_istore (lv' := [(5, .int 1), (4, .int r1347), (3, .int (nI kP)), (2, .int bi), (0, .ref h0), (1, .int pp)]) hx hb gX9_impossibleOnes_6.2.1 hl (by decide) rfl (fun ls hl => ?_)
            refine lv_iload hx hb gX9_impossibleOnes_6.2.2.1 (lv_at0 hl) ?_
            refine lv_if_eq (tgt := 135) hx hb gX9_impossibleOnes_6.2.2.2.1 (by decide) (fun c9 => absurd c9 (by decide)) (fun _ => ?_)
            refine lv_iload_n hx hb gX9_impossibleOnes_6.2.2.2.2.1 rfl (lv_at3 hl) ?_
            refine lv_iconst (v := 1) hx hb gX9_impossibleOnes_6.2.2.2.2.2.1 (by decide) ?_
            refine lv_iload_n hx hb gX9_impossibleOnes_6.2.2.2.2.2.2.1 rfl (lv_at2 hl) ?_
            refine lv_ishl hx hb gX9_impossibleOnes_6.2.2.2.2.2.2.2.1 ?_
            refine lv_ior hx hb gX9_impossibleOnes_6.2.2.2.2.2.2.2.2.1 ?_
            refine lv_istore_n (lv' := [(2, .int (bi ||| (1 <<< ((nI kP) &&& 31)))), (5, .int 1), (4, .int r1347), (3, .int (nI kP)), (0, .ref h0), (1, .int pp)]) hx hb gX9_impossibleOnes_6.2.2.2.2.2.2.2.2.2 rfl hl (by decide) rfl (fun ls hl => ?_)
            refine lv_iinc (v := nI (kP + 1)) (lv' := [(3, .int (nI (kP + 1))), (2, .int (bi ||| (1 <<< ((nI kP) &&& 31)))), (5, .int 1), (4, .int r1347), (0, .ref h0), (1, .int pp)]) hx hb gX9_impossibleOnes_7.1 hl (k := 3) rfl (nI_1 _) (by decide) rfl (fun ls hl => ?_)
            refine lv_goto (tgt := 4) hx hb gX9_impossibleOnes_7.2.1 (by decide) ?_
            refine Kpds (ws' := [(h0, oX9 bb sg tf11345 tt11346 tl tbv), (sg, oX7 bb clk fi la ml mm sl sm scl), (la, iA G 12 fla), (ml, iA G 12 fml), (mm, iA G 12 fmm), (sl, iA G 12 fsl), (sm, iA G 12 fsm), (bb, oX0 bpersons bpapers bstamps bversions blines bsteps bsayings bfindings bwarnings bquestions td vd vl gp), (bpapers, oX8 12 6 bpapersc (nI kbpapers)), (bpapersc, iA G 72 fbpapers), (bpersons, oX8 10 2 bpersonsc (nI kbpersons)), (bpersonsc, iA G 20 fbpersons), (bsayings, oX8 16 8 bsayingsc (nI kbsayings)), (bsayingsc, iA G 128 fbsayings)]) hP hD [2, 3, 4, 5, 6, 7, 8, 9, 10, 11, 12, 13, 0, 1] fm_2_3_4_5_6_7_8_9_10_11_12_13_0_1 nd_2_3_4_5_6_7_8_9_10_11_12_13_0_1 sm_2_3_4_5_6_7_8_9_10_11_12_13_0_1 (fun hP hD => ?_)
            exact ihP (kP + 1) (bi ||| (1 <<< ((nI kP) &&& 31))) tf11345 tt11346 _ _ _ (by omega) (And.intro hP hD) hS (lv_sub hl [0, 1, 4, 5] rfl)
        · refine lv_iload hx hb gX9_impossibleOnes_4.2.2.2.2.2.2.1 (lv_at0 hl) ?_
          refine lv_aload_n hx hb gX9_impossibleOnes_4.2.2.2.2.2.2.2.1 rfl (lv_at3 hl) ?_
          refine gf_X9_19 hC rfl hK hP 2 rfl rfl gX9_impossibleOnes_4.2.2.2.2.2.2.2.2.1 ?_
          refine lv_icmp_ge (tgt := 104) hx hb gX9_impossibleOnes_4.2.2.2.2.2.2.2.2.2 (by decide) (fun c_97_1353 => ?_) (fun c_97_1353 => ?_)
          · refine lv_iconst (v := 0) hx hb gX9_impossibleOnes_5.2.2.1 (by decide) ?_
            refine lv_goto (tgt := 122) hx hb gX9_impossibleOnes_5.2.2.2.1 (by decide) ?_
            refine lv_istore (lv' := [(5, .int 0), (4, .int r1347), (3, .int (nI kP)), (2, .int bi), (0, .ref h0), (1, .int pp)]) hx hb gX9_impossibleOnes_6.2.1 hl (by decide) rfl (fun ls hl => ?_)
            refine lv_iload hx hb gX9_impossibleOnes_6.2.2.1 (lv_at0 hl) ?_
            refine lv_if_eq (tgt := 135) hx hb gX9_impossibleOnes_6.2.2.2.1 (by decide) (fun _ => ?_) (fun c9 => absurd (by decide) c9)
            refine lv_iinc (v := nI (kP + 1)) (lv' := [(3, .int (nI (kP + 1))), (5, .int 0), (4, .int r1347), (2, .int bi), (0, .ref h0), (1, .int pp)]) hx hb gX9_impossibleOnes_7.1 hl (k := 2) rfl (nI_1 _) (by decide) rfl (fun ls hl => ?_)
            refine lv_goto (tgt := 4) hx hb gX9_impossibleOnes_7.2.1 (by decide) ?_
            refine Kpds (ws' := [(h0, oX9 bb sg tf11345 tt11346 tl tbv), (sg, oX7 bb clk fi la ml mm sl sm scl), (la, iA G 12 fla), (ml, iA G 12 fml), (mm, iA G 12 fmm), (sl, iA G 12 fsl), (sm, iA G 12 fsm), (bb, oX0 bpersons bpapers bstamps bversions blines bsteps bsayings bfindings bwarnings bquestions td vd vl gp), (bpapers, oX8 12 6 bpapersc (nI kbpapers)), (bpapersc, iA G 72 fbpapers), (bpersons, oX8 10 2 bpersonsc (nI kbpersons)), (bpersonsc, iA G 20 fbpersons), (bsayings, oX8 16 8 bsayingsc (nI kbsayings)), (bsayingsc, iA G 128 fbsayings)]) hP hD [2, 3, 4, 5, 6, 7, 8, 9, 10, 11, 12, 13, 0, 1] fm_2_3_4_5_6_7_8_9_10_11_12_13_0_1 nd_2_3_4_5_6_7_8_9_10_11_12_13_0_1 sm_2_3_4_5_6_7_8_9_10_11_12_13_0_1 (fun hP hD => ?_)
            exact ihP (kP + 1) bi tf11345 tt11346 _ _ _ (by omega) (And.intro hP hD) hS (lv_sub hl [0, 3, 4, 5] rfl)
          · refine lv_iconst (v := 1) hx hb gX9_impossibleOnes_5.1 (by decide) ?_
            refine lv_goto (tgt := 122) hx hb gX9_impossibleOnes_5.2.1 (by decide) ?_
            refine lv_istore (lv' := [(5, .int 1), (4, .int r1347), (3, .int (nI kP)), (2, .int bi), (0, .ref h0), (1, .int pp)]) hx hb gX9_impossibleOnes_6.2.1 hl (by decide) rfl (fun ls hl => ?_)
            refine lv_iload hx hb gX9_impossibleOnes_6.2.2.1 (lv_at0 hl) ?_
            refine lv_if_eq (tgt := 135) hx hb gX9_impossibleOnes_6.2.2.2.1 (by decide) (fun c9 => absurd c9 (by decide)) (fun _ => ?_)
            refine lv_iload_n hx hb gX9_impossibleOnes_6.2.2.2.2.1 rfl (lv_at3 hl) ?_
            refine lv_iconst (v := 1) hx hb gX9_impossibleOnes_6.2.2.2.2.2.1 (by decide) ?_
            refine lv_iload_n hx hb gX9_impossibleOnes_6.2.2.2.2.2.2.1 rfl (lv_at2 hl) ?_
            refine lv_ishl hx hb gX9_impossibleOnes_6.2.2.2.2.2.2.2.1 ?_
            refine lv_ior hx hb gX9_impossibleOnes_6.2.2.2.2.2.2.2.2.1 ?_
            refine lv_istore_n (lv' := [(2, .int (bi ||| (1 <<< ((nI kP) &&& 31)))), (5, .int 1), (4, .int r1347), (3, .int (nI kP)), (0, .ref h0), (1, .int pp)]) hx hb gX9_impossibleOnes_6.2.2.2.2.2.2.2.2.2 rfl hl (by decide) rfl (fun ls hl => ?_)
            refine lv_iinc (v := nI (kP + 1)) (lv' := [(3, .int (nI (kP + 1))), (2, .int (bi ||| (1 <<< ((nI kP) &&& 31)))), (5, .int 1), (4, .int r1347), (0, .ref h0), (1, .int pp)]) hx hb gX9_impossibleOnes_7.1 hl (k := 3) rfl (nI_1 _) (by decide) rfl (fun ls hl => ?_)
            refine lv_goto (tgt := 4) hx hb gX9_impossibleOnes_7.2.1 (by decide) ?_
            refine Kpds (ws' := [(h0, oX9 bb sg tf11345 tt11346 tl tbv), (sg, oX7 bb clk fi la ml mm sl sm scl), (la, iA G 12 fla), (ml, iA G 12 fml), (mm, iA G 12 fmm), (sl, iA G 12 fsl), (sm, iA G 12 fsm), (bb, oX0 bpersons bpapers bstamps bversions blines bsteps bsayings bfindings bwarnings bquestions td vd vl gp), (bpapers, oX8 12 6 bpapersc (nI kbpapers)), (bpapersc, iA G 72 fbpapers), (bpersons, oX8 10 2 bpersonsc (nI kbpersons)), (bpersonsc, iA G 20 fbpersons), (bsayings, oX8 16 8 bsayingsc (nI kbsayings)), (bsayingsc, iA G 128 fbsayings)]) hP hD [2, 3, 4, 5, 6, 7, 8, 9, 10, 11, 12, 13, 0, 1] fm_2_3_4_5_6_7_8_9_10_11_12_13_0_1 nd_2_3_4_5_6_7_8_9_10_11_12_13_0_1 sm_2_3_4_5_6_7_8_9_10_11_12_13_0_1 (fun hP hD => ?_)
            exact ihP (kP + 1) (bi ||| (1 <<< ((nI kP) &&& 31))) tf11345 tt11346 _ _ _ (by omega) (And.intro hP hD) hS (lv_sub hl [0, 1, 4, 5] rfl)
      · refine lv_if_ne (tgt := 33) hx hb gX9_impossibleOnes_1.2.2.2.2.2.1 (by decide) (fun c9 => absurd (by decide) c9) (fun _ => ?_)
        refine lv_goto (tgt := 135) hx hb gX9_impossibleOnes_1.2.2.2.2.2.2.1 (by decide) ?_
        refine lv_iinc (v := nI (kP + 1)) (lv' := [(3, .int (nI (kP + 1))), (2, .int bi), (0, .ref h0), (1, .int pp)]) hx hb gX9_impossibleOnes_7.1 hl (k := 0) rfl (nI_1 _) (by decide) rfl (fun ls hl => ?_)
        refine lv_goto (tgt := 4) hx hb gX9_impossibleOnes_7.2.1 (by decide) ?_
        exact ihP (kP + 1) bi wf wt _ _ _ (by omega) (And.intro hP hD) hS (lv_sub hl [0, 1, 2, 3] rfl)
  exact keyP kbsayings 0 0 tf tt9 _ _ _ (by omega) (And.intro hP hD) hS (lv_sub hl [0, 1, 2, 3] rfl)
def K_c_sort (l : Launch) (G : GG) (h0 : Nat) (sx : Int32) (hs : Nat) (hz : Nat) (hi : Nat) (hw : Nat) (hn : Nat) (ht : Nat) (fhs : Nat → Int32) : Prop := MP l G yX4_sort cX4_sort 2 (some .int) 3 [.ref h0, .int sx] [(h0, oX4 hs hz hi hw hn ht), (hs, iA G 4 fhs)] (fun r : Int32 => True)
set_option maxHeartbeats 4000000 in
set_option maxRecDepth 100000 in
theorem c_sort (l : Launch) (G : GG) (h0 : Nat) (sx : Int32) (hs : Nat) (hz : Nat) (hi : Nat) (hw : Nat) (hn : Nat) (ht : Nat) (fhs : Nat → Int32) : K_c_sort l G h0 sx hs hz hi hw hn ht fhs := by
  refine MP.start (by decide +kernel) (Nat.le_of_ble_eq_true rfl) ?_
  intro p e s m below meth c ls hC hK hP hD hl
  refine absQ (fun Q0 hQ0 => ?_)
  have hl : lv_has ls 2 [(0, .ref h0), (1, .int sx)] := hl
  refine Kan8 hC (fun hx hb hr hml hB hown hlocks hnm => ?_)
  refine lv_iload_n hx hb gX4_sort_0.1 rfl (lv_at1 hl) ?_
  refine pSN hC hK hl (c_isSheet l G sx) si_X4_30 rfl rfl (Nat.le_of_ble_eq_true rfl) rm_3_2_1 ⟨by first | exact Nat.le_of_ble_eq_true rfl | exact Nat.zero_le _, by first | exact Nat.le_of_ble_eq_true rfl | exact Nat.zero_le _⟩ gX4_sort_0.2.1 (Kors (Keqa fun a1355 => ?_) (Keqa fun a1355 => ?_))
  · refine lv_if_eq (tgt := 16) hx hb gX4_sort_0.2.2.1 (by decide) (fun c9 => absurd c9 (by decide)) (fun _ => ?_)
    obtain ⟨jsx, hjsx, rfl⟩ := Wi3 a1355
    refine lv_aload_n hx hb gX4_sort_0.2.2.2.1 rfl (lv_at0 hl) ?_
    refine gf_X4_11 hC rfl hK hP 0 rfl rfl gX4_sort_0.2.2.2.2.1 ?_
    refine lv_iload_n hx hb gX4_sort_0.2.2.2.2.2.1 rfl (lv_at1 hl) ?_
    refine aldN hC hK hP 1 rfl (k := jsx) (by omega) (Nat.le_of_ble_eq_true rfl) (v := fhs jsx) rfl gX4_sort_0.2.2.2.2.2.2.1 ?_
    refine lv_topi (fun x1356 ex1356 => ?_)
    refine lv_goto (tgt := 17) hx hb gX4_sort_0.2.2.2.2.2.2.2.1 (by decide) ?_
    refine toQ hQ0 ?_
    exact RP (v := x1356) hC (trivial) rfl gX4_sort_0.2.2.2.2.2.2.2.2.2
  · refine lv_if_eq (tgt := 16) hx hb gX4_sort_0.2.2.1 (by decide) (fun _ => ?_) (fun c9 => absurd (by decide) c9)
    refine lv_iconst (v := (-1)) hx hb gX4_sort_0.2.2.2.2.2.2.2.2.1 (by decide) ?_
    refine toQ hQ0 ?_
    exact RP (v := (-1)) hC (trivial) rfl gX4_sort_0.2.2.2.2.2.2.2.2.2
def K_c_size (l : Launch) (G : GG) (h0 : Nat) (sx : Int32) (hs : Nat) (hz : Nat) (hi : Nat) (hw : Nat) (hn : Nat) (ht : Nat) (fhz : Nat → Int32) : Prop := MP l G yX4_size cX4_size 2 (some .int) 3 [.ref h0, .int sx] [(h0, oX4 hs hz hi hw hn ht), (hz, iA G 4 fhz)] (fun r : Int32 => True)
set_option maxHeartbeats 4000000 in
set_option maxRecDepth 100000 in
theorem c_size (l : Launch) (G : GG) (h0 : Nat) (sx : Int32) (hs : Nat) (hz : Nat) (hi : Nat) (hw : Nat) (hn : Nat) (ht : Nat) (fhz : Nat → Int32) : K_c_size l G h0 sx hs hz hi hw hn ht fhz := by
  refine MP.start (by decide +kernel) (Nat.le_of_ble_eq_true rfl) ?_
  intro p e s m below meth c ls hC hK hP hD hl
  refine absQ (fun Q0 hQ0 => ?_)
  have hl : lv_has ls 2 [(0, .ref h0), (1, .int sx)] := hl
  refine Kan8 hC (fun hx hb hr hml hB hown hlocks hnm => ?_)
  refine lv_iload_n hx hb gX4_size_0.1 rfl (lv_at1 hl) ?_
  refine pSN hC hK hl (c_isSheet l G sx) si_X4_30 rfl rfl (Nat.le_of_ble_eq_true rfl) rm_3_2_1 ⟨by first | exact Nat.le_of_ble_eq_true rfl | exact Nat.zero_le _, by first | exact Nat.le_of_ble_eq_true rfl | exact Nat.zero_le _⟩ gX4_size_0.2.1 (Kors (Keqa fun a1358 => ?_) (Keqa fun a1358 => ?_))
  · refine lv_if_eq (tgt := 16) hx hb gX4_size_0.2.2.1 (by decide) (fun c9 => absurd c9 (by decide)) (fun _ => ?_)
    obtain ⟨jsx, hjsx, rfl⟩ := Wi3 a1358
    refine lv_aload_n hx hb gX4_size_0.2.2.2.1 rfl (lv_at0 hl) ?_
    refine gf_X4_15 hC rfl hK hP 0 rfl rfl gX4_size_0.2.2.2.2.1 ?_
    refine lv_iload_n hx hb gX4_size_0.2.2.2.2.2.1 rfl (lv_at1 hl) ?_
    refine aldN hC hK hP 1 rfl (k := jsx) (by omega) (Nat.le_of_ble_eq_true rfl) (v := fhz jsx) rfl gX4_size_0.2.2.2.2.2.2.1 ?_
    refine lv_topi (fun x1359 ex1359 => ?_)
    refine lv_goto (tgt := 17) hx hb gX4_size_0.2.2.2.2.2.2.2.1 (by decide) ?_
    refine toQ hQ0 ?_
    exact RP (v := x1359) hC (trivial) rfl gX4_size_0.2.2.2.2.2.2.2.2.2
  · refine lv_if_eq (tgt := 16) hx hb gX4_size_0.2.2.1 (by decide) (fun _ => ?_) (fun c9 => absurd (by decide) c9)
    refine lv_iconst (v := 0) hx hb gX4_size_0.2.2.2.2.2.2.2.2.1 (by decide) ?_
    refine toQ hQ0 ?_
    exact RP (v := 0) hC (trivial) rfl gX4_size_0.2.2.2.2.2.2.2.2.2
def K_c_refusal (l : Launch) (G : GG) (h0 : Nat) (sx : Int32) (as9 : Int32) (hs : Nat) (hz : Nat) (hi : Nat) (hw : Nat) (hn : Nat) (ht : Nat) (fhs : Nat → Int32) : Prop := MP l G yX4_refusal cX4_refusal 4 (some .int) 4 [.ref h0, .int sx, .int as9] [(h0, oX4 hs hz hi hw hn ht), (hs, iA G 4 fhs)] (fun r : Int32 => True)
set_option maxHeartbeats 4000000 in
set_option maxRecDepth 100000 in
theorem c_refusal (l : Launch) (G : GG) (h0 : Nat) (sx : Int32) (as9 : Int32) (hs : Nat) (hz : Nat) (hi : Nat) (hw : Nat) (hn : Nat) (ht : Nat) (fhs : Nat → Int32) : K_c_refusal l G h0 sx as9 hs hz hi hw hn ht fhs := by
  refine MP.start (by decide +kernel) (Nat.le_of_ble_eq_true rfl) ?_
  intro p e s m below meth c ls hC hK hP hD hl
  refine absQ (fun Q0 hQ0 => ?_)
  have hl : lv_has ls 4 [(0, .ref h0), (1, .int sx), (2, .int as9)] := hl
  refine Kan8 hC (fun hx hb hr hml hB hown hlocks hnm => ?_)
  refine lv_aload_n hx hb gX4_refusal_0.1 rfl (lv_at0 hl) ?_
  refine lv_iload_n hx hb gX4_refusal_0.2.1 rfl (lv_at1 hl) ?_
  refine pV hC hK hl hP hD (c_sort l G h0 sx hs hz hi hw hn ht fhs) si_X4_38 [0, 1] sm_0_1 fm_0_1 nd_0_1 rfl rfl rfl rfl rfl (Nat.le_of_ble_eq_true rfl) rm_4_3_2 ⟨by first | exact Nat.le_of_ble_eq_true rfl | exact Nat.zero_le _, by first | exact Nat.le_of_ble_eq_true rfl | exact Nat.zero_le _⟩ gX4_refusal_0.2.2.1 (fun r1360 hr1360 => ?_)
  refine lv_istore_n (lv' := [(3, .int r1360), (0, .ref h0), (1, .int sx), (2, .int as9)]) hx hb gX4_refusal_0.2.2.2.1 rfl hl (by decide) rfl (fun ls hl => ?_)
  refine lv_iload_n hx hb gX4_refusal_0.2.2.2.2.1 rfl (lv_at0 hl) ?_
  refine lv_iconst (v := (-1)) hx hb gX4_refusal_0.2.2.2.2.2.1 (by decide) ?_
  refine lv_icmp_ne (tgt := 14) hx hb gX4_refusal_0.2.2.2.2.2.2.1 (by decide) (fun c_8_1361 => ?_) (fun c_8_1361 => ?_)
  · refine lv_iload_n hx hb gX4_refusal_0.2.2.2.2.2.2.2.2.2 rfl (lv_at0 hl) ?_
    refine lv_iload_n hx hb gX4_refusal_1.1 rfl (lv_at3 hl) ?_
    refine lv_icmp_ne (tgt := 23) hx hb gX4_refusal_1.2.1 (by decide) (fun c_16_1362 => ?_) (fun c_16_1362 => ?_)
    · refine lv_bipush (v := (-13)) hx hb gX4_refusal_1.2.2.2.2.1 (by decide) ?_
      refine toQ hQ0 ?_
      exact RP (v := (-13)) hC (trivial) rfl gX4_refusal_1.2.2.2.2.2
    · refine lv_iconst (v := 0) hx hb gX4_refusal_1.2.2.1 (by decide) ?_
      refine lv_goto (tgt := 25) hx hb gX4_refusal_1.2.2.2.1 (by decide) ?_
      refine toQ hQ0 ?_
      exact RP (v := 0) hC (trivial) rfl gX4_refusal_1.2.2.2.2.2
  · refine lv_bipush (v := (-11)) hx hb gX4_refusal_0.2.2.2.2.2.2.2.1 (by decide) ?_
    refine toQ hQ0 ?_
    exact RP (v := (-11)) hC (trivial) rfl gX4_refusal_0.2.2.2.2.2.2.2.2.1
def K_c_clear (l : Launch) (G : GG) (h0 : Nat) (sx : Int32) (hs : Nat) (hz : Nat) (hi : Nat) (hw : Nat) (hn : Nat) (ht : Nat) (fhs : Nat → Int32) (fhz : Nat → Int32) : Prop := MV l G yX4_clear cX4_clear 2 3 0 0 [.ref h0, .int sx] [(h0, oX4 hs hz hi hw hn ht), (hs, iA G 4 fhs), (hz, iA G 4 fhz)] (fun u : (Nat → Int32) × (Nat → Int32) => True) (fun u : (Nat → Int32) × (Nat → Int32) => [(h0, oX4 hs hz hi hw hn ht), (hs, iA G 4 u.1), (hz, iA G 4 u.2)])
set_option maxHeartbeats 4000000 in
set_option maxRecDepth 100000 in
theorem c_clear (l : Launch) (G : GG) (h0 : Nat) (sx : Int32) (hs : Nat) (hz : Nat) (hi : Nat) (hw : Nat) (hn : Nat) (ht : Nat) (fhs : Nat → Int32) (fhz : Nat → Int32) : K_c_clear l G h0 sx hs hz hi hw hn ht fhs fhz := by
  refine MV.start (by decide +kernel) (Nat.le_of_ble_eq_true rfl) ?_
  intro p e s m below meth c A ls hC hK hP hD hS hA hl
  refine absQ (fun Q0 hQ0 => ?_)
  have hl : lv_has ls 2 [(0, .ref h0), (1, .int sx)] := hl
  refine Kan8 hC (fun hx hb hr hml hB hown hlocks hnm => ?_)
  refine lv_iload_n hx hb gX4_clear_0.1 rfl (lv_at1 hl) ?_
  refine pSN hC hK hl (c_isSheet l G sx) si_X4_30 rfl rfl (Nat.le_of_ble_eq_true rfl) rm_3_2_1 ⟨by first | exact Nat.le_of_ble_eq_true rfl | exact Nat.zero_le _, by first | exact Nat.le_of_ble_eq_true rfl | exact Nat.zero_le _⟩ gX4_clear_0.2.1 (Kors (Keqa fun a1364 => ?_) (Keqa fun a1364 => ?_))
  · refine lv_if_ne (tgt := 8) hx hb gX4_clear_0.2.2.1 (by decide) (fun _ => ?_) (fun c9 => absurd c9 (by decide))
    obtain ⟨jsx, hjsx, rfl⟩ := Wi3 a1364
    refine lv_aload_n hx hb gX4_clear_0.2.2.2.2.1 rfl (lv_at0 hl) ?_
    refine gf_X4_11 hC rfl hK hP 0 rfl rfl gX4_clear_0.2.2.2.2.2.1 ?_
    refine lv_iload_n hx hb gX4_clear_0.2.2.2.2.2.2.1 rfl (lv_at1 hl) ?_
    refine lv_iconst (v := (-1)) hx hb gX4_clear_0.2.2.2.2.2.2.2.1 (by decide) ?_
    refine astN hC hK hP hD hS 1 (ws' := [(h0, oX4 hs hz hi hw hn ht), (hs, iA G 4 (upd fhs jsx (-1))), (hz, iA G 4 fhz)]) rfl (k := jsx) (by omega) (Nat.le_of_ble_eq_true rfl) (rfl) gX4_clear_0.2.2.2.2.2.2.2.2.1 (fun H locs hP hD hS => ?_)
    refine lv_aload_n hx hb gX4_clear_0.2.2.2.2.2.2.2.2.2 rfl (lv_at0 hl) ?_
    refine gf_X4_15 hC rfl hK hP 0 rfl rfl gX4_clear_1.1 ?_
    refine lv_iload_n hx hb gX4_clear_1.2.1 rfl (lv_at1 hl) ?_
    refine lv_iconst (v := 0) hx hb gX4_clear_1.2.2.1 (by decide) ?_
    refine astN hC hK hP hD hS 2 (ws' := [(h0, oX4 hs hz hi hw hn ht), (hs, iA G 4 (upd fhs jsx (-1))), (hz, iA G 4 (upd fhz jsx 0))]) rfl (k := jsx) (by omega) (Nat.le_of_ble_eq_true rfl) (rfl) gX4_clear_1.2.2.2.1 (fun H locs hP hD hS => ?_)
    refine toQ hQ0 ?_
    exact RV hC hP hD hS [0, 1, 2] (upd fhs jsx (-1), upd fhz jsx 0) rfl rfl (by decide) (trivial) gX4_clear_1.2.2.2.2
  · refine lv_if_ne (tgt := 8) hx hb gX4_clear_0.2.2.1 (by decide) (fun c9 => absurd (by decide) c9) (fun _ => ?_)
    refine toQ hQ0 ?_
    exact RV hC hP hD hS [0, 1, 2] (fhs, fhz) rfl rfl (by decide) (trivial) gX4_clear_0.2.2.2.1
def K_c_lay (l : Launch) (G : GG) (h0 : Nat) (sx : Int32) (so : Int32) (nn : Int32) (hs : Nat) (hz : Nat) (hi : Nat) (hw : Nat) (hn : Nat) (ht : Nat) (fhs : Nat → Int32) (fhz : Nat → Int32) (fhi : Nat → Int32) : Prop := MV l G yX4_lay cX4_lay 5 3 0 0 [.ref h0, .int sx, .int so, .int nn] [(h0, oX4 hs hz hi hw hn ht), (hs, iA G 4 fhs), (hz, iA G 4 fhz), (hi, iA G 160 fhi)] (fun u : (Nat → Int32) × (Nat → Int32) × (Nat → Int32) => True) (fun u : (Nat → Int32) × (Nat → Int32) × (Nat → Int32) => [(h0, oX4 hs hz hi hw hn ht), (hs, iA G 4 u.1), (hz, iA G 4 u.2.1), (hi, iA G 160 u.2.2)])
set_option maxHeartbeats 4000000 in
set_option maxRecDepth 100000 in
theorem c_lay (l : Launch) (G : GG) (h0 : Nat) (sx : Int32) (so : Int32) (nn : Int32) (hs : Nat) (hz : Nat) (hi : Nat) (hw : Nat) (hn : Nat) (ht : Nat) (fhs : Nat → Int32) (fhz : Nat → Int32) (fhi : Nat → Int32) : K_c_lay l G h0 sx so nn hs hz hi hw hn ht fhs fhz fhi := by
  refine MV.start (by decide +kernel) (Nat.le_of_ble_eq_true rfl) ?_
  intro p e s m below meth c A ls hC hK hP hD hS hA hl
  refine absQ (fun Q0 hQ0 => ?_)
  have hl : lv_has ls 5 [(0, .ref h0), (1, .int sx), (2, .int so), (3, .int nn)] := hl
  refine Kan8 hC (fun hx hb hr hml hB hown hlocks hnm => ?_)
  refine lv_iload_n hx hb gX4_lay_0.1 rfl (lv_at1 hl) ?_
  refine pSN hC hK hl (c_isSheet l G sx) si_X4_30 rfl rfl (Nat.le_of_ble_eq_true rfl) rm_3_2_1 ⟨by first | exact Nat.le_of_ble_eq_true rfl | exact Nat.zero_le _, by first | exact Nat.le_of_ble_eq_true rfl | exact Nat.zero_le _⟩ gX4_lay_0.2.1 (Kors (Keqa fun a1366 => ?_) (Keqa fun a1366 => ?_))
  · refine lv_if_eq (tgt := 17) hx hb gX4_lay_0.2.2.1 (by decide) (fun c9 => absurd c9 (by decide)) (fun _ => ?_)
    refine lv_iload_n hx hb gX4_lay_0.2.2.2.1 rfl (lv_at3 hl) ?_
    refine lv_iconst (v := 0) hx hb gX4_lay_0.2.2.2.2.1 (by decide) ?_
    refine lv_bipush (v := 40) hx hb gX4_lay_0.2.2.2.2.2.1 (by decide) ?_
    refine pSN hC hK hl (c_within l G nn 0 40) si_X4_34 rfl rfl (Nat.le_of_ble_eq_true rfl) rm_3_1_3 ⟨by first | exact Nat.le_of_ble_eq_true rfl | exact Nat.zero_le _, by first | exact Nat.le_of_ble_eq_true rfl | exact Nat.zero_le _⟩ gX4_lay_0.2.2.2.2.2.2.1 (Kors (Keqa fun a1368 => ?_) (Keqa fun a1368 => ?_))
    · refine lv_if_ne (tgt := 18) hx hb gX4_lay_0.2.2.2.2.2.2.2.1 (by decide) (fun _ => ?_) (fun c9 => absurd c9 (by decide))
      obtain ⟨jsx, hjsx, rfl⟩ := Wi3 a1366
      refine lv_aload_n hx hb gX4_lay_0.2.2.2.2.2.2.2.2.2 rfl (lv_at0 hl) ?_
      refine gf_X4_11 hC rfl hK hP 0 rfl rfl gX4_lay_1.1 ?_
      refine lv_iload_n hx hb gX4_lay_1.2.1 rfl (lv_at1 hl) ?_
      refine lv_iload_n hx hb gX4_lay_1.2.2.1 rfl (lv_at2 hl) ?_
      refine astN hC hK hP hD hS 1 (ws' := [(h0, oX4 hs hz hi hw hn ht), (hs, iA G 4 (upd fhs jsx so)), (hz, iA G 4 fhz), (hi, iA G 160 fhi)]) rfl (k := jsx) (by omega) (Nat.le_of_ble_eq_true rfl) (rfl) gX4_lay_1.2.2.2.1 (fun H locs hP hD hS => ?_)
      refine lv_aload_n hx hb gX4_lay_1.2.2.2.2.1 rfl (lv_at0 hl) ?_
      refine gf_X4_15 hC rfl hK hP 0 rfl rfl gX4_lay_1.2.2.2.2.2.1 ?_
      refine lv_iload_n hx hb gX4_lay_1.2.2.2.2.2.2.1 rfl (lv_at1 hl) ?_
      refine lv_iload_n hx hb gX4_lay_1.2.2.2.2.2.2.2.1 rfl (lv_at3 hl) ?_
      refine astN hC hK hP hD hS 2 (ws' := [(h0, oX4 hs hz hi hw hn ht), (hs, iA G 4 (upd fhs jsx so)), (hz, iA G 4 (upd fhz jsx nn)), (hi, iA G 160 fhi)]) rfl (k := jsx) (by omega) (Nat.le_of_ble_eq_true rfl) (rfl) gX4_lay_1.2.2.2.2.2.2.2.2.1 (fun H locs hP hD hS => ?_)
      refine lv_iconst (v := 0) hx hb gX4_lay_1.2.2.2.2.2.2.2.2.2 (by decide) ?_
      refine lv_istore (lv' := [(4, .int 0), (0, .ref h0), (1, .int (nI jsx)), (2, .int so), (3, .int nn)]) hx hb gX4_lay_2.1 hl (by decide) rfl (fun ls hl => ?_)
      have keyP : ∀ (nP kP : Nat) (vhi : Nat → Int32) (H : Heap) (locs : List Loc) (ls : Array Slot), kP + nP = 40 → va_PD G A [(h0, oX4 hs hz hi hw hn ht), (hs, iA G 4 (upd fhs jsx so)), (hz, iA G 4 (upd fhz jsx nn)), (hi, iA G 160 vhi)] H → va_S A s.heap H locs → lv_has ls 5 [(4, .int (nI kP)), (0, .ref h0), (1, .int (nI jsx)), (2, .int so), (3, .int nn)] → W p l e (RM 3 0 0) s m ([.ref h0, .int (nI jsx), .int so, .int nn] : List Value).toArray below meth c H locs 0 0 Q0 (F0 m 35 ls []) := by
        intro nP
        induction nP with
        | zero =>
          intro kP vhi H locs ls hkP hPD hS hl
          refine Kan2 hPD (fun hP hD => ?_)
          obtain rfl : 40 = kP := by omega
          have hl : lv_has ls 5 [(4, .int 40), (0, .ref h0), (1, .int (nI jsx)), (2, .int so), (3, .int nn)] := hl
          refine lv_iload hx hb gX4_lay_2.2.1 (lv_at0 hl) ?_
          refine lv_bipush (v := 40) hx hb gX4_lay_2.2.2.1 (by decide) ?_
          refine lv_icmp_ge (tgt := 61) hx hb gX4_lay_2.2.2.2.1 (by decide) (fun _ => ?_) (fun c9 => absurd (by decide) c9)
          refine toQ hQ0 ?_
          exact RV hC hP hD hS [0, 1, 2, 3] (upd fhs jsx so, upd fhz jsx nn, vhi) rfl rfl (by decide) (trivial) gX4_lay_3.2.2.2.2.2
        | succ nP ihP =>
          intro kP vhi H locs ls hkP hPD hS hl
          refine Kan2 hPD (fun hP hD => ?_)
          refine lv_iload hx hb gX4_lay_2.2.1 (lv_at0 hl) ?_
          refine lv_bipush (v := 40) hx hb gX4_lay_2.2.2.1 (by decide) ?_
          refine lv_icmp_ge (tgt := 61) hx hb gX4_lay_2.2.2.2.1 (by decide) (fun c9 => absurd c9 (nI_ge (a := kP) (b := 40) (by omega) (by omega))) (fun _ => ?_)
          refine lv_aload_n hx hb gX4_lay_2.2.2.2.2.1 rfl (lv_at1 hl) ?_
          refine gf_X4_18 hC rfl hK hP 0 rfl rfl gX4_lay_2.2.2.2.2.2.1 ?_
          refine lv_iload_n hx hb gX4_lay_2.2.2.2.2.2.2.1 rfl (lv_at2 hl) ?_
          refine lv_bipush (v := 40) hx hb gX4_lay_2.2.2.2.2.2.2.2.1 (by decide) ?_
          refine lv_imul hx hb gX4_lay_2.2.2.2.2.2.2.2.2.1 ?_
          refine lv_iload hx hb gX4_lay_2.2.2.2.2.2.2.2.2.2 (lv_at0 hl) ?_
          refine lv_iadd hx hb gX4_lay_3.1 ?_
          refine lv_iconst (v := 0) hx hb gX4_lay_3.2.1 (by decide) ?_
          refine ast hC hK hP hD hS 3 (ws' := [(h0, oX4 hs hz hi hw hn ht), (hs, iA G 4 (upd fhs jsx so)), (hz, iA G 4 (upd fhz jsx nn)), (hi, iA G 160 (upd vhi (jsx * 40 + kP) 0))]) rfl ((ix160 (a := jsx) (b := kP) (by omega) (by omega)).1) (k := jsx * 40 + kP) (ix160 (by omega) (by omega)).2 (rfl) gX4_lay_3.2.2.1 (fun H locs hP hD hS => ?_)
          refine lv_iinc (v := nI (kP + 1)) (lv' := [(4, .int (nI (kP + 1))), (0, .ref h0), (1, .int (nI jsx)), (2, .int so), (3, .int nn)]) hx hb gX4_lay_3.2.2.2.1 hl (k := 0) rfl (nI_1 _) (by decide) rfl (fun ls hl => ?_)
          refine lv_goto (tgt := 35) hx hb gX4_lay_3.2.2.2.2.1 (by decide) ?_
          exact ihP (kP + 1) (upd vhi (jsx * 40 + kP) 0) _ _ _ (by omega) (And.intro hP hD) hS (lv_sub hl [0, 1, 2, 3, 4] rfl)
      exact keyP 40 0 fhi _ _ _ (by omega) (And.intro hP hD) hS (lv_sub hl [0, 1, 2, 3, 4] rfl)
    · refine lv_if_ne (tgt := 18) hx hb gX4_lay_0.2.2.2.2.2.2.2.1 (by decide) (fun c9 => absurd (by decide) c9) (fun _ => ?_)
      refine toQ hQ0 ?_
      exact RV hC hP hD hS [0, 1, 2, 3] (fhs, fhz, fhi) rfl rfl (by decide) (trivial) gX4_lay_0.2.2.2.2.2.2.2.2.1
  · refine lv_if_eq (tgt := 17) hx hb gX4_lay_0.2.2.1 (by decide) (fun _ => ?_) (fun c9 => absurd (by decide) c9)
    refine toQ hQ0 ?_
    exact RV hC hP hD hS [0, 1, 2, 3] (fhs, fhz, fhi) rfl rfl (by decide) (trivial) gX4_lay_0.2.2.2.2.2.2.2.2.1
def K_c_hat (l : Launch) (G : GG) (h0 : Nat) (sx : Int32) (ix : Int32) (hs : Nat) (hz : Nat) (hi : Nat) (hw : Nat) (hn : Nat) (ht : Nat) (fhi : Nat → Int32) : Prop := MP l G yX4_at cX4_at 3 (some .int) 3 [.ref h0, .int sx, .int ix] [(h0, oX4 hs hz hi hw hn ht), (hi, iA G 160 fhi)] (fun r : Int32 => True)
set_option maxHeartbeats 4000000 in
set_option maxRecDepth 100000 in
theorem c_hat (l : Launch) (G : GG) (h0 : Nat) (sx : Int32) (ix : Int32) (hs : Nat) (hz : Nat) (hi : Nat) (hw : Nat) (hn : Nat) (ht : Nat) (fhi : Nat → Int32) : K_c_hat l G h0 sx ix hs hz hi hw hn ht fhi := by
  refine MP.start (by decide +kernel) (Nat.le_of_ble_eq_true rfl) ?_
  intro p e s m below meth c ls hC hK hP hD hl
  refine absQ (fun Q0 hQ0 => ?_)
  have hl : lv_has ls 3 [(0, .ref h0), (1, .int sx), (2, .int ix)] := hl
  refine Kan8 hC (fun hx hb hr hml hB hown hlocks hnm => ?_)
  refine lv_iload_n hx hb gX4_at_0.1 rfl (lv_at1 hl) ?_
  refine pSN hC hK hl (c_isSheet l G sx) si_X4_30 rfl rfl (Nat.le_of_ble_eq_true rfl) rm_3_2_1 ⟨by first | exact Nat.le_of_ble_eq_true rfl | exact Nat.zero_le _, by first | exact Nat.le_of_ble_eq_true rfl | exact Nat.zero_le _⟩ gX4_at_0.2.1 (Kors (Keqa fun a1370 => ?_) (Keqa fun a1370 => ?_))
  · refine lv_if_eq (tgt := 31) hx hb gX4_at_0.2.2.1 (by decide) (fun c9 => absurd c9 (by decide)) (fun _ => ?_)
    refine lv_iload_n hx hb gX4_at_0.2.2.2.1 rfl (lv_at2 hl) ?_
    refine lv_iconst (v := 0) hx hb gX4_at_0.2.2.2.2.1 (by decide) ?_
    refine lv_bipush (v := 39) hx hb gX4_at_0.2.2.2.2.2.1 (by decide) ?_
    refine pSN hC hK hl (c_within l G ix 0 39) si_X4_34 rfl rfl (Nat.le_of_ble_eq_true rfl) rm_3_1_3 ⟨by first | exact Nat.le_of_ble_eq_true rfl | exact Nat.zero_le _, by first | exact Nat.le_of_ble_eq_true rfl | exact Nat.zero_le _⟩ gX4_at_0.2.2.2.2.2.2.1 (Kors (Keqa fun a1372 => ?_) (Keqa fun a1372 => ?_))
    · refine lv_if_eq (tgt := 31) hx hb gX4_at_0.2.2.2.2.2.2.2.1 (by decide) (fun c9 => absurd c9 (by decide)) (fun _ => ?_)
      obtain ⟨jsx, hjsx, rfl⟩ := Wi3 a1370
      obtain ⟨jix, hjix, rfl⟩ := Wi39 a1372
      refine lv_aload_n hx hb gX4_at_0.2.2.2.2.2.2.2.2.1 rfl (lv_at0 hl) ?_
      refine gf_X4_18 hC rfl hK hP 0 rfl rfl gX4_at_0.2.2.2.2.2.2.2.2.2 ?_
      refine lv_iload_n hx hb gX4_at_1.1 rfl (lv_at1 hl) ?_
      refine lv_bipush (v := 40) hx hb gX4_at_1.2.1 (by decide) ?_
      refine lv_imul hx hb gX4_at_1.2.2.1 ?_
      refine lv_iload_n hx hb gX4_at_1.2.2.2.1 rfl (lv_at2 hl) ?_
      refine lv_iadd hx hb gX4_at_1.2.2.2.2.1 ?_
      refine ald hC hK hP 1 rfl ((ix160 (a := jsx) (b := jix) (by omega) (by omega)).1) (k := jsx * 40 + jix) (ix160 (by omega) (by omega)).2 (v := fhi (jsx * 40 + jix)) (rfl) gX4_at_1.2.2.2.2.2.1 ?_
      refine lv_goto (tgt := 32) hx hb gX4_at_1.2.2.2.2.2.2.1 (by decide) ?_
      refine toQ hQ0 ?_
      exact RP (v := fhi (jsx * 40 + jix)) hC (trivial) rfl gX4_at_1.2.2.2.2.2.2.2.2
    · refine lv_if_eq (tgt := 31) hx hb gX4_at_0.2.2.2.2.2.2.2.1 (by decide) (fun _ => ?_) (fun c9 => absurd (by decide) c9)
      refine lv_iconst (v := 0) hx hb gX4_at_1.2.2.2.2.2.2.2.1 (by decide) ?_
      refine toQ hQ0 ?_
      exact RP (v := 0) hC (trivial) rfl gX4_at_1.2.2.2.2.2.2.2.2
  · refine lv_if_eq (tgt := 31) hx hb gX4_at_0.2.2.1 (by decide) (fun _ => ?_) (fun c9 => absurd (by decide) c9)
    refine lv_iconst (v := 0) hx hb gX4_at_1.2.2.2.2.2.2.2.1 (by decide) ?_
    refine toQ hQ0 ?_
    exact RP (v := 0) hC (trivial) rfl gX4_at_1.2.2.2.2.2.2.2.2
def K_c_write (l : Launch) (G : GG) (h0 : Nat) (sx : Int32) (ix : Int32) (vv : Int32) (hs : Nat) (hz : Nat) (hi : Nat) (hw : Nat) (hn : Nat) (ht : Nat) (fhs : Nat → Int32) (fhi : Nat → Int32) : Prop := MV l G yX4_write cX4_write 5 3 0 0 [.ref h0, .int sx, .int ix, .int vv] [(h0, oX4 hs hz hi hw hn ht), (hs, iA G 4 fhs), (hi, iA G 160 fhi)] (fun u : (Nat → Int32) => True) (fun u : (Nat → Int32) => [(h0, oX4 hs hz hi hw hn ht), (hs, iA G 4 fhs), (hi, iA G 160 u)])
set_option maxHeartbeats 4000000 in
set_option maxRecDepth 100000 in
theorem c_write (l : Launch) (G : GG) (h0 : Nat) (sx : Int32) (ix : Int32) (vv : Int32) (hs : Nat) (hz : Nat) (hi : Nat) (hw : Nat) (hn : Nat) (ht : Nat) (fhs : Nat → Int32) (fhi : Nat → Int32) : K_c_write l G h0 sx ix vv hs hz hi hw hn ht fhs fhi := by
  refine MV.start (by decide +kernel) (Nat.le_of_ble_eq_true rfl) ?_
  intro p e s m below meth c A ls hC hK hP hD hS hA hl
  refine absQ (fun Q0 hQ0 => ?_)
  have hl : lv_has ls 5 [(0, .ref h0), (1, .int sx), (2, .int ix), (3, .int vv)] := hl
  refine Kan8 hC (fun hx hb hr hml hB hown hlocks hnm => ?_)
  refine lv_iload_n hx hb gX4_write_0.1 rfl (lv_at1 hl) ?_
  refine pSN hC hK hl (c_isSheet l G sx) si_X4_30 rfl rfl (Nat.le_of_ble_eq_true rfl) rm_3_2_1 ⟨by first | exact Nat.le_of_ble_eq_true rfl | exact Nat.zero_le _, by first | exact Nat.le_of_ble_eq_true rfl | exact Nat.zero_le _⟩ gX4_write_0.2.1 (Kors (Keqa fun a1374 => ?_) (Keqa fun a1374 => ?_))
  · refine lv_if_eq (tgt := 17) hx hb gX4_write_0.2.2.1 (by decide) (fun c9 => absurd c9 (by decide)) (fun _ => ?_)
    refine lv_iload_n hx hb gX4_write_0.2.2.2.1 rfl (lv_at2 hl) ?_
    refine lv_iconst (v := 0) hx hb gX4_write_0.2.2.2.2.1 (by decide) ?_
    refine lv_bipush (v := 39) hx hb gX4_write_0.2.2.2.2.2.1 (by decide) ?_
    refine pSN hC hK hl (c_within l G ix 0 39) si_X4_34 rfl rfl (Nat.le_of_ble_eq_true rfl) rm_3_1_3 ⟨by first | exact Nat.le_of_ble_eq_true rfl | exact Nat.zero_le _, by first | exact Nat.le_of_ble_eq_true rfl | exact Nat.zero_le _⟩ gX4_write_0.2.2.2.2.2.2.1 (Kors (Keqa fun a1376 => ?_) (Keqa fun a1376 => ?_))
    · refine lv_if_ne (tgt := 18) hx hb gX4_write_0.2.2.2.2.2.2.2.1 (by decide) (fun _ => ?_) (fun c9 => absurd c9 (by decide))
      obtain ⟨jsx, hjsx, rfl⟩ := Wi3 a1374
      obtain ⟨jix, hjix, rfl⟩ := Wi39 a1376
      refine lv_iload_n hx hb gX4_write_0.2.2.2.2.2.2.2.2.2 rfl (lv_at3 hl) ?_
      refine lv_istore (lv' := [(4, .int vv), (0, .ref h0), (1, .int (nI jsx)), (2, .int (nI jix)), (3, .int vv)]) hx hb gX4_write_1.1 hl (by decide) rfl (fun ls hl => ?_)
      refine lv_aload_n hx hb gX4_write_1.2.1 rfl (lv_at1 hl) ?_
      refine gf_X4_11 hC rfl hK hP 0 rfl rfl gX4_write_1.2.2.1 ?_
      refine lv_iload_n hx hb gX4_write_1.2.2.2.1 rfl (lv_at2 hl) ?_
      refine aldN hC hK hP 1 rfl (k := jsx) (by omega) (Nat.le_of_ble_eq_true rfl) (v := fhs jsx) rfl gX4_write_1.2.2.2.2.1 ?_
      refine lv_topi (fun x1377 ex1377 => ?_)
      refine lv_if_ne (tgt := 34) hx hb gX4_write_1.2.2.2.2.2.1 (by decide) (fun c_27_1378 => ?_) (fun c_27_1378 => ?_)
      · refine lv_aload_n hx hb gX4_write_1.2.2.2.2.2.2.2.2.2 rfl (lv_at1 hl) ?_
        refine gf_X4_11 hC rfl hK hP 0 rfl rfl gX4_write_2.1 ?_
        refine lv_iload_n hx hb gX4_write_2.2.1 rfl (lv_at2 hl) ?_
        refine aldN hC hK hP 1 rfl (k := jsx) (by omega) (Nat.le_of_ble_eq_true rfl) (v := fhs jsx) rfl gX4_write_2.2.2.1 ?_
        refine lv_topi (fun x1379 ex1379 => ?_)
        refine lv_iconst (v := 1) hx hb gX4_write_2.2.2.2.1 (by decide) ?_
        refine lv_icmp_ne (tgt := 48) hx hb gX4_write_2.2.2.2.2.1 (by decide) (fun c_41_1380 => ?_) (fun c_41_1380 => ?_)
        · refine lv_aload_n hx hb gX4_write_2.2.2.2.2.2.2.2.2.1 rfl (lv_at1 hl) ?_
          refine gf_X4_11 hC rfl hK hP 0 rfl rfl gX4_write_2.2.2.2.2.2.2.2.2.2 ?_
          refine lv_iload_n hx hb gX4_write_3.1 rfl (lv_at2 hl) ?_
          refine aldN hC hK hP 1 rfl (k := jsx) (by omega) (Nat.le_of_ble_eq_true rfl) (v := fhs jsx) rfl gX4_write_3.2.1 ?_
          refine lv_topi (fun x1381 ex1381 => ?_)
          refine lv_iconst (v := 4) hx hb gX4_write_3.2.2.1 (by decide) ?_
          refine lv_icmp_ne (tgt := 69) hx hb gX4_write_3.2.2.2.1 (by decide) (fun c_55_1382 => ?_) (fun c_55_1382 => ?_)
          · refine lv_aload_n hx hb gX4_write_4.1 rfl (lv_at1 hl) ?_
            refine gf_X4_18 hC rfl hK hP 0 rfl rfl gX4_write_4.2.1 ?_
            refine lv_iload_n hx hb gX4_write_4.2.2.1 rfl (lv_at2 hl) ?_
            refine lv_bipush (v := 40) hx hb gX4_write_4.2.2.2.1 (by decide) ?_
            refine lv_imul hx hb gX4_write_4.2.2.2.2.1 ?_
            refine lv_iload_n hx hb gX4_write_4.2.2.2.2.2.1 rfl (lv_at3 hl) ?_
            refine lv_iadd hx hb gX4_write_4.2.2.2.2.2.2.1 ?_
            refine lv_iload hx hb gX4_write_4.2.2.2.2.2.2.2.1 (lv_at0 hl) ?_
            refine ast hC hK hP hD hS 2 (ws' := [(h0, oX4 hs hz hi hw hn ht), (hs, iA G 4 fhs), (hi, iA G 160 (upd fhi (jsx * 40 + jix) vv))]) rfl ((ix160 (a := jsx) (b := jix) (by omega) (by omega)).1) (k := jsx * 40 + jix) (ix160 (by omega) (by omega)).2 (rfl) gX4_write_4.2.2.2.2.2.2.2.2.1 (fun H locs hP hD hS => ?_)
            refine toQ hQ0 ?_
            exact RV hC hP hD hS [0, 1, 2] (upd fhi (jsx * 40 + jix) vv) rfl rfl (by decide) (trivial) gX4_write_4.2.2.2.2.2.2.2.2.2
          · refine lv_iload_n hx hb gX4_write_3.2.2.2.2.1 rfl (lv_at4 hl) ?_
            refine lv_if_eq (tgt := 66) hx hb gX4_write_3.2.2.2.2.2.1 (by decide) (fun c_59_1383 => ?_) (fun c_59_1383 => ?_)
            · refine lv_iconst (v := 0) hx hb gX4_write_3.2.2.2.2.2.2.2.2.1 (by decide) ?_
              refine lv_istore (lv' := [(4, .int 0), (0, .ref h0), (1, .int (nI jsx)), (2, .int (nI jix)), (3, .int vv)]) hx hb gX4_write_3.2.2.2.2.2.2.2.2.2 hl (by decide) rfl (fun ls hl => ?_)
              refine lv_aload_n hx hb gX4_write_4.1 rfl (lv_at1 hl) ?_
              refine gf_X4_18 hC rfl hK hP 0 rfl rfl gX4_write_4.2.1 ?_
              refine lv_iload_n hx hb gX4_write_4.2.2.1 rfl (lv_at2 hl) ?_
              refine lv_bipush (v := 40) hx hb gX4_write_4.2.2.2.1 (by decide) ?_
              refine lv_imul hx hb gX4_write_4.2.2.2.2.1 ?_
              refine lv_iload_n hx hb gX4_write_4.2.2.2.2.2.1 rfl (lv_at3 hl) ?_
              refine lv_iadd hx hb gX4_write_4.2.2.2.2.2.2.1 ?_
              refine lv_iload hx hb gX4_write_4.2.2.2.2.2.2.2.1 (lv_at0 hl) ?_
              refine ast hC hK hP hD hS 2 (ws' := [(h0, oX4 hs hz hi hw hn ht), (hs, iA G 4 fhs), (hi, iA G 160 (upd fhi (jsx * 40 + jix) 0))]) rfl ((ix160 (a := jsx) (b := jix) (by omega) (by omega)).1) (k := jsx * 40 + jix) (ix160 (by omega) (by omega)).2 (rfl) gX4_write_4.2.2.2.2.2.2.2.2.1 (fun H locs hP hD hS => ?_)
              refine toQ hQ0 ?_
              exact RV hC hP hD hS [0, 1, 2] (upd fhi (jsx * 40 + jix) 0) rfl rfl (by decide) (trivial) gX4_write_4.2.2.2.2.2.2.2.2.2
            · refine lv_iconst (v := 1) hx hb gX4_write_3.2.2.2.2.2.2.1 (by decide) ?_
              refine lv_goto (tgt := 67) hx hb gX4_write_3.2.2.2.2.2.2.2.1 (by decide) ?_
              refine lv_istore (lv' := [(4, .int 1), (0, .ref h0), (1, .int (nI jsx)), (2, .int (nI jix)), (3, .int vv)]) hx hb gX4_write_3.2.2.2.2.2.2.2.2.2 hl (by decide) rfl (fun ls hl => ?_)
              refine lv_aload_n hx hb gX4_write_4.1 rfl (lv_at1 hl) ?_
              refine gf_X4_18 hC rfl hK hP 0 rfl rfl gX4_write_4.2.1 ?_
              refine lv_iload_n hx hb gX4_write_4.2.2.1 rfl (lv_at2 hl) ?_
              refine lv_bipush (v := 40) hx hb gX4_write_4.2.2.2.1 (by decide) ?_
              refine lv_imul hx hb gX4_write_4.2.2.2.2.1 ?_
              refine lv_iload_n hx hb gX4_write_4.2.2.2.2.2.1 rfl (lv_at3 hl) ?_
              refine lv_iadd hx hb gX4_write_4.2.2.2.2.2.2.1 ?_
              refine lv_iload hx hb gX4_write_4.2.2.2.2.2.2.2.1 (lv_at0 hl) ?_
              refine ast hC hK hP hD hS 2 (ws' := [(h0, oX4 hs hz hi hw hn ht), (hs, iA G 4 fhs), (hi, iA G 160 (upd fhi (jsx * 40 + jix) 1))]) rfl ((ix160 (a := jsx) (b := jix) (by omega) (by omega)).1) (k := jsx * 40 + jix) (ix160 (by omega) (by omega)).2 (rfl) gX4_write_4.2.2.2.2.2.2.2.2.1 (fun H locs hP hD hS => ?_)
              refine toQ hQ0 ?_
              exact RV hC hP hD hS [0, 1, 2] (upd fhi (jsx * 40 + jix) 1) rfl rfl (by decide) (trivial) gX4_write_4.2.2.2.2.2.2.2.2.2
        · refine lv_iload_n hx hb gX4_write_2.2.2.2.2.2.1 rfl (lv_at4 hl) ?_
          refine lv_i2s hx hb gX4_write_2.2.2.2.2.2.2.1 rfl ?_
          refine lv_topi (fun x1384 _ => ?_)
          refine lv_istore (lv' := [(4, .int x1384), (0, .ref h0), (1, .int (nI jsx)), (2, .int (nI jix)), (3, .int vv)]) hx hb gX4_write_2.2.2.2.2.2.2.2.1 hl (by decide) rfl (fun ls hl => ?_)
          refine lv_aload_n hx hb gX4_write_2.2.2.2.2.2.2.2.2.1 rfl (lv_at1 hl) ?_
          refine gf_X4_11 hC rfl hK hP 0 rfl rfl gX4_write_2.2.2.2.2.2.2.2.2.2 ?_
          refine lv_iload_n hx hb gX4_write_3.1 rfl (lv_at2 hl) ?_
          refine aldN hC hK hP 1 rfl (k := jsx) (by omega) (Nat.le_of_ble_eq_true rfl) (v := fhs jsx) rfl gX4_write_3.2.1 ?_
          refine lv_topi (fun x1385 ex1385 => ?_)
          refine lv_iconst (v := 4) hx hb gX4_write_3.2.2.1 (by decide) ?_
          refine lv_icmp_ne (tgt := 69) hx hb gX4_write_3.2.2.2.1 (by decide) (fun c_55_1386 => ?_) (fun c_55_1386 => ?_)
          · refine lv_aload_n hx hb gX4_write_4.1 rfl (lv_at1 hl) ?_
            refine gf_X4_18 hC rfl hK hP 0 rfl rfl gX4_write_4.2.1 ?_
            refine lv_iload_n hx hb gX4_write_4.2.2.1 rfl (lv_at2 hl) ?_
            refine lv_bipush (v := 40) hx hb gX4_write_4.2.2.2.1 (by decide) ?_
            refine lv_imul hx hb gX4_write_4.2.2.2.2.1 ?_
            refine lv_iload_n hx hb gX4_write_4.2.2.2.2.2.1 rfl (lv_at3 hl) ?_
            refine lv_iadd hx hb gX4_write_4.2.2.2.2.2.2.1 ?_
            refine lv_iload hx hb gX4_write_4.2.2.2.2.2.2.2.1 (lv_at0 hl) ?_
            refine ast hC hK hP hD hS 2 (ws' := [(h0, oX4 hs hz hi hw hn ht), (hs, iA G 4 fhs), (hi, iA G 160 (upd fhi (jsx * 40 + jix) x1384))]) rfl ((ix160 (a := jsx) (b := jix) (by omega) (by omega)).1) (k := jsx * 40 + jix) (ix160 (by omega) (by omega)).2 (rfl) gX4_write_4.2.2.2.2.2.2.2.2.1 (fun H locs hP hD hS => ?_)
            refine toQ hQ0 ?_
            exact RV hC hP hD hS [0, 1, 2] (upd fhi (jsx * 40 + jix) x1384) rfl rfl (by decide) (trivial) gX4_write_4.2.2.2.2.2.2.2.2.2
          · refine lv_iload_n hx hb gX4_write_3.2.2.2.2.1 rfl (lv_at4 hl) ?_
            refine lv_if_eq (tgt := 66) hx hb gX4_write_3.2.2.2.2.2.1 (by decide) (fun c_59_1387 => ?_) (fun c_59_1387 => ?_)
            · refine lv_iconst (v := 0) hx hb gX4_write_3.2.2.2.2.2.2.2.2.1 (by decide) ?_
              refine lv_istore (lv' := [(4, .int 0), (0, .ref h0), (1, .int (nI jsx)), (2, .int (nI jix)), (3, .int vv)]) hx hb gX4_write_3.2.2.2.2.2.2.2.2.2 hl (by decide) rfl (fun ls hl => ?_)
              refine lv_aload_n hx hb gX4_write_4.1 rfl (lv_at1 hl) ?_
              refine gf_X4_18 hC rfl hK hP 0 rfl rfl gX4_write_4.2.1 ?_
              refine lv_iload_n hx hb gX4_write_4.2.2.1 rfl (lv_at2 hl) ?_
              refine lv_bipush (v := 40) hx hb gX4_write_4.2.2.2.1 (by decide) ?_
              refine lv_imul hx hb gX4_write_4.2.2.2.2.1 ?_
              refine lv_iload_n hx hb gX4_write_4.2.2.2.2.2.1 rfl (lv_at3 hl) ?_
              refine lv_iadd hx hb gX4_write_4.2.2.2.2.2.2.1 ?_
              refine lv_iload hx hb gX4_write_4.2.2.2.2.2.2.2.1 (lv_at0 hl) ?_
              refine ast hC hK hP hD hS 2 (ws' := [(h0, oX4 hs hz hi hw hn ht), (hs, iA G 4 fhs), (hi, iA G 160 (upd fhi (jsx * 40 + jix) 0))]) rfl ((ix160 (a := jsx) (b := jix) (by omega) (by omega)).1) (k := jsx * 40 + jix) (ix160 (by omega) (by omega)).2 (rfl) gX4_write_4.2.2.2.2.2.2.2.2.1 (fun H locs hP hD hS => ?_)
              refine toQ hQ0 ?_
              exact RV hC hP hD hS [0, 1, 2] (upd fhi (jsx * 40 + jix) 0) rfl rfl (by decide) (trivial) gX4_write_4.2.2.2.2.2.2.2.2.2
            · refine lv_iconst (v := 1) hx hb gX4_write_3.2.2.2.2.2.2.1 (by decide) ?_
              refine lv_goto (tgt := 67) hx hb gX4_write_3.2.2.2.2.2.2.2.1 (by decide) ?_
              refine lv_istore (lv' := [(4, .int 1), (0, .ref h0), (1, .int (nI jsx)), (2, .int (nI jix)), (3, .int vv)]) hx hb gX4_write_3.2.2.2.2.2.2.2.2.2 hl (by decide) rfl (fun ls hl => ?_)
              refine lv_aload_n hx hb gX4_write_4.1 rfl (lv_at1 hl) ?_
              refine gf_X4_18 hC rfl hK hP 0 rfl rfl gX4_write_4.2.1 ?_
              refine lv_iload_n hx hb gX4_write_4.2.2.1 rfl (lv_at2 hl) ?_
              refine lv_bipush (v := 40) hx hb gX4_write_4.2.2.2.1 (by decide) ?_
              refine lv_imul hx hb gX4_write_4.2.2.2.2.1 ?_
              refine lv_iload_n hx hb gX4_write_4.2.2.2.2.2.1 rfl (lv_at3 hl) ?_
              refine lv_iadd hx hb gX4_write_4.2.2.2.2.2.2.1 ?_
              refine lv_iload hx hb gX4_write_4.2.2.2.2.2.2.2.1 (lv_at0 hl) ?_
              refine ast hC hK hP hD hS 2 (ws' := [(h0, oX4 hs hz hi hw hn ht), (hs, iA G 4 fhs), (hi, iA G 160 (upd fhi (jsx * 40 + jix) 1))]) rfl ((ix160 (a := jsx) (b := jix) (by omega) (by omega)).1) (k := jsx * 40 + jix) (ix160 (by omega) (by omega)).2 (rfl) gX4_write_4.2.2.2.2.2.2.2.2.1 (fun H locs hP hD hS => ?_)
              refine toQ hQ0 ?_
              exact RV hC hP hD hS [0, 1, 2] (upd fhi (jsx * 40 + jix) 1) rfl rfl (by decide) (trivial) gX4_write_4.2.2.2.2.2.2.2.2.2
      · refine lv_iload_n hx hb gX4_write_1.2.2.2.2.2.2.1 rfl (lv_at4 hl) ?_
        refine lv_i2b hx hb gX4_write_1.2.2.2.2.2.2.2.1 rfl ?_
        refine lv_topi (fun x1388 _ => ?_)
        refine lv_istore (lv' := [(4, .int x1388), (0, .ref h0), (1, .int (nI jsx)), (2, .int (nI jix)), (3, .int vv)]) hx hb gX4_write_1.2.2.2.2.2.2.2.2.1 hl (by decide) rfl (fun ls hl => ?_)
        refine lv_aload_n hx hb gX4_write_1.2.2.2.2.2.2.2.2.2 rfl (lv_at1 hl) ?_
        refine gf_X4_11 hC rfl hK hP 0 rfl rfl gX4_write_2.1 ?_
        refine lv_iload_n hx hb gX4_write_2.2.1 rfl (lv_at2 hl) ?_
        refine aldN hC hK hP 1 rfl (k := jsx) (by omega) (Nat.le_of_ble_eq_true rfl) (v := fhs jsx) rfl gX4_write_2.2.2.1 ?_
        refine lv_topi (fun x1389 ex1389 => ?_)
        refine lv_iconst (v := 1) hx hb gX4_write_2.2.2.2.1 (by decide) ?_
        refine lv_icmp_ne (tgt := 48) hx hb gX4_write_2.2.2.2.2.1 (by decide) (fun c_41_1390 => ?_) (fun c_41_1390 => ?_)
        · refine lv_aload_n hx hb gX4_write_2.2.2.2.2.2.2.2.2.1 rfl (lv_at1 hl) ?_
          refine gf_X4_11 hC rfl hK hP 0 rfl rfl gX4_write_2.2.2.2.2.2.2.2.2.2 ?_
          refine lv_iload_n hx hb gX4_write_3.1 rfl (lv_at2 hl) ?_
          refine aldN hC hK hP 1 rfl (k := jsx) (by omega) (Nat.le_of_ble_eq_true rfl) (v := fhs jsx) rfl gX4_write_3.2.1 ?_
          refine lv_topi (fun x1391 ex1391 => ?_)
          refine lv_iconst (v := 4) hx hb gX4_write_3.2.2.1 (by decide) ?_
          refine lv_icmp_ne (tgt := 69) hx hb gX4_write_3.2.2.2.1 (by decide) (fun c_55_1392 => ?_) (fun c_55_1392 => ?_)
          · refine lv_aload_n hx hb gX4_write_4.1 rfl (lv_at1 hl) ?_
            refine gf_X4_18 hC rfl hK hP 0 rfl rfl gX4_write_4.2.1 ?_
            refine lv_iload_n hx hb gX4_write_4.2.2.1 rfl (lv_at2 hl) ?_
            refine lv_bipush (v := 40) hx hb gX4_write_4.2.2.2.1 (by decide) ?_
            refine lv_imul hx hb gX4_write_4.2.2.2.2.1 ?_
            refine lv_iload_n hx hb gX4_write_4.2.2.2.2.2.1 rfl (lv_at3 hl) ?_
            refine lv_iadd hx hb gX4_write_4.2.2.2.2.2.2.1 ?_
            refine lv_iload hx hb gX4_write_4.2.2.2.2.2.2.2.1 (lv_at0 hl) ?_
            refine ast hC hK hP hD hS 2 (ws' := [(h0, oX4 hs hz hi hw hn ht), (hs, iA G 4 fhs), (hi, iA G 160 (upd fhi (jsx * 40 + jix) x1388))]) rfl ((ix160 (a := jsx) (b := jix) (by omega) (by omega)).1) (k := jsx * 40 + jix) (ix160 (by omega) (by omega)).2 (rfl) gX4_write_4.2.2.2.2.2.2.2.2.1 (fun H locs hP hD hS => ?_)
            refine toQ hQ0 ?_
            exact RV hC hP hD hS [0, 1, 2] (upd fhi (jsx * 40 + jix) x1388) rfl rfl (by decide) (trivial) gX4_write_4.2.2.2.2.2.2.2.2.2
          · refine lv_iload_n hx hb gX4_write_3.2.2.2.2.1 rfl (lv_at4 hl) ?_
            refine lv_if_eq (tgt := 66) hx hb gX4_write_3.2.2.2.2.2.1 (by decide) (fun c_59_1393 => ?_) (fun c_59_1393 => ?_)
            · refine lv_iconst (v := 0) hx hb gX4_write_3.2.2.2.2.2.2.2.2.1 (by decide) ?_
              refine lv_istore (lv' := [(4, .int 0), (0, .ref h0), (1, .int (nI jsx)), (2, .int (nI jix)), (3, .int vv)]) hx hb gX4_write_3.2.2.2.2.2.2.2.2.2 hl (by decide) rfl (fun ls hl => ?_)
              refine lv_aload_n hx hb gX4_write_4.1 rfl (lv_at1 hl) ?_
              refine gf_X4_18 hC rfl hK hP 0 rfl rfl gX4_write_4.2.1 ?_
              refine lv_iload_n hx hb gX4_write_4.2.2.1 rfl (lv_at2 hl) ?_
              refine lv_bipush (v := 40) hx hb gX4_write_4.2.2.2.1 (by decide) ?_
              refine lv_imul hx hb gX4_write_4.2.2.2.2.1 ?_
              refine lv_iload_n hx hb gX4_write_4.2.2.2.2.2.1 rfl (lv_at3 hl) ?_
              refine lv_iadd hx hb gX4_write_4.2.2.2.2.2.2.1 ?_
              refine lv_iload hx hb gX4_write_4.2.2.2.2.2.2.2.1 (lv_at0 hl) ?_
              refine ast hC hK hP hD hS 2 (ws' := [(h0, oX4 hs hz hi hw hn ht), (hs, iA G 4 fhs), (hi, iA G 160 (upd fhi (jsx * 40 + jix) 0))]) rfl ((ix160 (a := jsx) (b := jix) (by omega) (by omega)).1) (k := jsx * 40 + jix) (ix160 (by omega) (by omega)).2 (rfl) gX4_write_4.2.2.2.2.2.2.2.2.1 (fun H locs hP hD hS => ?_)
              refine toQ hQ0 ?_
              exact RV hC hP hD hS [0, 1, 2] (upd fhi (jsx * 40 + jix) 0) rfl rfl (by decide) (trivial) gX4_write_4.2.2.2.2.2.2.2.2.2
            · refine lv_iconst (v := 1) hx hb gX4_write_3.2.2.2.2.2.2.1 (by decide) ?_
              refine lv_goto (tgt := 67) hx hb gX4_write_3.2.2.2.2.2.2.2.1 (by decide) ?_
              refine lv_istore (lv' := [(4, .int 1), (0, .ref h0), (1, .int (nI jsx)), (2, .int (nI jix)), (3, .int vv)]) hx hb gX4_write_3.2.2.2.2.2.2.2.2.2 hl (by decide) rfl (fun ls hl => ?_)
              refine lv_aload_n hx hb gX4_write_4.1 rfl (lv_at1 hl) ?_
              refine gf_X4_18 hC rfl hK hP 0 rfl rfl gX4_write_4.2.1 ?_
              refine lv_iload_n hx hb gX4_write_4.2.2.1 rfl (lv_at2 hl) ?_
              refine lv_bipush (v := 40) hx hb gX4_write_4.2.2.2.1 (by decide) ?_
              refine lv_imul hx hb gX4_write_4.2.2.2.2.1 ?_
              refine lv_iload_n hx hb gX4_write_4.2.2.2.2.2.1 rfl (lv_at3 hl) ?_
              refine lv_iadd hx hb gX4_write_4.2.2.2.2.2.2.1 ?_
              refine lv_iload hx hb gX4_write_4.2.2.2.2.2.2.2.1 (lv_at0 hl) ?_
              refine ast hC hK hP hD hS 2 (ws' := [(h0, oX4 hs hz hi hw hn ht), (hs, iA G 4 fhs), (hi, iA G 160 (upd fhi (jsx * 40 + jix) 1))]) rfl ((ix160 (a := jsx) (b := jix) (by omega) (by omega)).1) (k := jsx * 40 + jix) (ix160 (by omega) (by omega)).2 (rfl) gX4_write_4.2.2.2.2.2.2.2.2.1 (fun H locs hP hD hS => ?_)
              refine toQ hQ0 ?_
              exact RV hC hP hD hS [0, 1, 2] (upd fhi (jsx * 40 + jix) 1) rfl rfl (by decide) (trivial) gX4_write_4.2.2.2.2.2.2.2.2.2
        · refine lv_iload_n hx hb gX4_write_2.2.2.2.2.2.1 rfl (lv_at4 hl) ?_
          refine lv_i2s hx hb gX4_write_2.2.2.2.2.2.2.1 rfl ?_
          refine lv_topi (fun x1394 _ => ?_)
          refine lv_istore (lv' := [(4, .int x1394), (0, .ref h0), (1, .int (nI jsx)), (2, .int (nI jix)), (3, .int vv)]) hx hb gX4_write_2.2.2.2.2.2.2.2.1 hl (by decide) rfl (fun ls hl => ?_)
          refine lv_aload_n hx hb gX4_write_2.2.2.2.2.2.2.2.2.1 rfl (lv_at1 hl) ?_
          refine gf_X4_11 hC rfl hK hP 0 rfl rfl gX4_write_2.2.2.2.2.2.2.2.2.2 ?_
          refine lv_iload_n hx hb gX4_write_3.1 rfl (lv_at2 hl) ?_
          refine aldN hC hK hP 1 rfl (k := jsx) (by omega) (Nat.le_of_ble_eq_true rfl) (v := fhs jsx) rfl gX4_write_3.2.1 ?_
          refine lv_topi (fun x1395 ex1395 => ?_)
          refine lv_iconst (v := 4) hx hb gX4_write_3.2.2.1 (by decide) ?_
          refine lv_icmp_ne (tgt := 69) hx hb gX4_write_3.2.2.2.1 (by decide) (fun c_55_1396 => ?_) (fun c_55_1396 => ?_)
          · refine lv_aload_n hx hb gX4_write_4.1 rfl (lv_at1 hl) ?_
            refine gf_X4_18 hC rfl hK hP 0 rfl rfl gX4_write_4.2.1 ?_
            refine lv_iload_n hx hb gX4_write_4.2.2.1 rfl (lv_at2 hl) ?_
            refine lv_bipush (v := 40) hx hb gX4_write_4.2.2.2.1 (by decide) ?_
            refine lv_imul hx hb gX4_write_4.2.2.2.2.1 ?_
            refine lv_iload_n hx hb gX4_write_4.2.2.2.2.2.1 rfl (lv_at3 hl) ?_
            refine lv_iadd hx hb gX4_write_4.2.2.2.2.2.2.1 ?_
            refine lv_iload hx hb gX4_write_4.2.2.2.2.2.2.2.1 (lv_at0 hl) ?_
            refine ast hC hK hP hD hS 2 (ws' := [(h0, oX4 hs hz hi hw hn ht), (hs, iA G 4 fhs), (hi, iA G 160 (upd fhi (jsx * 40 + jix) x1394))]) rfl ((ix160 (a := jsx) (b := jix) (by omega) (by omega)).1) (k := jsx * 40 + jix) (ix160 (by omega) (by omega)).2 (rfl) gX4_write_4.2.2.2.2.2.2.2.2.1 (fun H locs hP hD hS => ?_)
            refine toQ hQ0 ?_
            exact RV hC hP hD hS [0, 1, 2] (upd fhi (jsx * 40 + jix) x1394) rfl rfl (by decide) (trivial) gX4_write_4.2.2.2.2.2.2.2.2.2
          · refine lv_iload_n hx hb gX4_write_3.2.2.2.2.1 rfl (lv_at4 hl) ?_
            refine lv_if_eq (tgt := 66) hx hb gX4_write_3.2.2.2.2.2.1 (by decide) (fun c_59_1397 => ?_) (fun c_59_1397 => ?_)
            · refine lv_iconst (v := 0) hx hb gX4_write_3.2.2.2.2.2.2.2.2.1 (by decide) ?_
              refine lv_istore (lv' := [(4, .int 0), (0, .ref h0), (1, .int (nI jsx)), (2, .int (nI jix)), (3, .int vv)]) hx hb gX4_write_3.2.2.2.2.2.2.2.2.2 hl (by decide) rfl (fun ls hl => ?_)
              refine lv_aload_n hx hb gX4_write_4.1 rfl (lv_at1 hl) ?_
              refine gf_X4_18 hC rfl hK hP 0 rfl rfl gX4_write_4.2.1 ?_
              refine lv_iload_n hx hb gX4_write_4.2.2.1 rfl (lv_at2 hl) ?_
              refine lv_bipush (v := 40) hx hb gX4_write_4.2.2.2.1 (by decide) ?_
              refine lv_imul hx hb gX4_write_4.2.2.2.2.1 ?_
              refine lv_iload_n hx hb gX4_write_4.2.2.2.2.2.1 rfl (lv_at3 hl) ?_
              refine lv_iadd hx hb gX4_write_4.2.2.2.2.2.2.1 ?_
              refine lv_iload hx hb gX4_write_4.2.2.2.2.2.2.2.1 (lv_at0 hl) ?_
              refine ast hC hK hP hD hS 2 (ws' := [(h0, oX4 hs hz hi hw hn ht), (hs, iA G 4 fhs), (hi, iA G 160 (upd fhi (jsx * 40 + jix) 0))]) rfl ((ix160 (a := jsx) (b := jix) (by omega) (by omega)).1) (k := jsx * 40 + jix) (ix160 (by omega) (by omega)).2 (rfl) gX4_write_4.2.2.2.2.2.2.2.2.1 (fun H locs hP hD hS => ?_)
              refine toQ hQ0 ?_
              exact RV hC hP hD hS [0, 1, 2] (upd fhi (jsx * 40 + jix) 0) rfl rfl (by decide) (trivial) gX4_write_4.2.2.2.2.2.2.2.2.2
            · refine lv_iconst (v := 1) hx hb gX4_write_3.2.2.2.2.2.2.1 (by decide) ?_
              refine lv_goto (tgt := 67) hx hb gX4_write_3.2.2.2.2.2.2.2.1 (by decide) ?_
              refine lv_istore (lv' := [(4, .int 1), (0, .ref h0), (1, .int (nI jsx)), (2, .int (nI jix)), (3, .int vv)]) hx hb gX4_write_3.2.2.2.2.2.2.2.2.2 hl (by decide) rfl (fun ls hl => ?_)
              refine lv_aload_n hx hb gX4_write_4.1 rfl (lv_at1 hl) ?_
              refine gf_X4_18 hC rfl hK hP 0 rfl rfl gX4_write_4.2.1 ?_
              refine lv_iload_n hx hb gX4_write_4.2.2.1 rfl (lv_at2 hl) ?_
              refine lv_bipush (v := 40) hx hb gX4_write_4.2.2.2.1 (by decide) ?_
              refine lv_imul hx hb gX4_write_4.2.2.2.2.1 ?_
              refine lv_iload_n hx hb gX4_write_4.2.2.2.2.2.1 rfl (lv_at3 hl) ?_
              refine lv_iadd hx hb gX4_write_4.2.2.2.2.2.2.1 ?_
              refine lv_iload hx hb gX4_write_4.2.2.2.2.2.2.2.1 (lv_at0 hl) ?_
              refine ast hC hK hP hD hS 2 (ws' := [(h0, oX4 hs hz hi hw hn ht), (hs, iA G 4 fhs), (hi, iA G 160 (upd fhi (jsx * 40 + jix) 1))]) rfl ((ix160 (a := jsx) (b := jix) (by omega) (by omega)).1) (k := jsx * 40 + jix) (ix160 (by omega) (by omega)).2 (rfl) gX4_write_4.2.2.2.2.2.2.2.2.1 (fun H locs hP hD hS => ?_)
              refine toQ hQ0 ?_
              exact RV hC hP hD hS [0, 1, 2] (upd fhi (jsx * 40 + jix) 1) rfl rfl (by decide) (trivial) gX4_write_4.2.2.2.2.2.2.2.2.2
    · refine lv_if_ne (tgt := 18) hx hb gX4_write_0.2.2.2.2.2.2.2.1 (by decide) (fun c9 => absurd (by decide) c9) (fun _ => ?_)
      refine toQ hQ0 ?_
      exact RV hC hP hD hS [0, 1, 2] fhi rfl rfl (by decide) (trivial) gX4_write_0.2.2.2.2.2.2.2.2.1
  · refine lv_if_eq (tgt := 17) hx hb gX4_write_0.2.2.1 (by decide) (fun _ => ?_) (fun c9 => absurd (by decide) c9)
    refine toQ hQ0 ?_
    exact RV hC hP hD hS [0, 1, 2] fhi rfl rfl (by decide) (trivial) gX4_write_0.2.2.2.2.2.2.2.2.1
def K_c_hoHold (l : Launch) (G : GG) (h0 : Nat) (sx : Int32) (wh : Int32) (nn : Int32) (hs : Nat) (hz : Nat) (hi : Nat) (hw : Nat) (hn : Nat) (ht : Nat) (fhw : Nat → Int32) (fhn : Nat → Int32) : Prop := MV l G yX4_hold cX4_hold 4 3 0 0 [.ref h0, .int sx, .int wh, .int nn] [(h0, oX4 hs hz hi hw hn ht), (hw, iA G 4 fhw), (hn, iA G 4 fhn)] (fun u : (Nat → Int32) × (Nat → Int32) => True) (fun u : (Nat → Int32) × (Nat → Int32) => [(h0, oX4 hs hz hi hw hn ht), (hw, iA G 4 u.1), (hn, iA G 4 u.2)])
set_option maxHeartbeats 4000000 in
set_option maxRecDepth 100000 in
theorem c_hoHold (l : Launch) (G : GG) (h0 : Nat) (sx : Int32) (wh : Int32) (nn : Int32) (hs : Nat) (hz : Nat) (hi : Nat) (hw : Nat) (hn : Nat) (ht : Nat) (fhw : Nat → Int32) (fhn : Nat → Int32) : K_c_hoHold l G h0 sx wh nn hs hz hi hw hn ht fhw fhn := by
  refine MV.start (by decide +kernel) (Nat.le_of_ble_eq_true rfl) ?_
  intro p e s m below meth c A ls hC hK hP hD hS hA hl
  refine absQ (fun Q0 hQ0 => ?_)
  have hl : lv_has ls 4 [(0, .ref h0), (1, .int sx), (2, .int wh), (3, .int nn)] := hl
  refine Kan8 hC (fun hx hb hr hml hB hown hlocks hnm => ?_)
  refine lv_iload_n hx hb gX4_hold_0.1 rfl (lv_at1 hl) ?_
  refine pSN hC hK hl (c_isShelf l G sx) si_X4_41 rfl rfl (Nat.le_of_ble_eq_true rfl) rm_3_2_1 ⟨by first | exact Nat.le_of_ble_eq_true rfl | exact Nat.zero_le _, by first | exact Nat.le_of_ble_eq_true rfl | exact Nat.zero_le _⟩ gX4_hold_0.2.1 (Kors (Keqa fun a1399 => ?_) (Keqa fun a1399 => ?_))
  · refine lv_if_ne (tgt := 8) hx hb gX4_hold_0.2.2.1 (by decide) (fun _ => ?_) (fun c9 => absurd c9 (by decide))
    obtain ⟨jsx, hjsx, rfl⟩ := Wi3 a1399
    refine lv_aload_n hx hb gX4_hold_0.2.2.2.2.1 rfl (lv_at0 hl) ?_
    refine gf_X4_21 hC rfl hK hP 0 rfl rfl gX4_hold_0.2.2.2.2.2.1 ?_
    refine lv_iload_n hx hb gX4_hold_0.2.2.2.2.2.2.1 rfl (lv_at1 hl) ?_
    refine lv_iload_n hx hb gX4_hold_0.2.2.2.2.2.2.2.1 rfl (lv_at2 hl) ?_
    refine astN hC hK hP hD hS 1 (ws' := [(h0, oX4 hs hz hi hw hn ht), (hw, iA G 4 (upd fhw jsx wh)), (hn, iA G 4 fhn)]) rfl (k := jsx) (by omega) (Nat.le_of_ble_eq_true rfl) (rfl) gX4_hold_0.2.2.2.2.2.2.2.2.1 (fun H locs hP hD hS => ?_)
    refine lv_aload_n hx hb gX4_hold_0.2.2.2.2.2.2.2.2.2 rfl (lv_at0 hl) ?_
    refine gf_X4_24 hC rfl hK hP 0 rfl rfl gX4_hold_1.1 ?_
    refine lv_iload_n hx hb gX4_hold_1.2.1 rfl (lv_at1 hl) ?_
    refine lv_iload_n hx hb gX4_hold_1.2.2.1 rfl (lv_at3 hl) ?_
    refine astN hC hK hP hD hS 2 (ws' := [(h0, oX4 hs hz hi hw hn ht), (hw, iA G 4 (upd fhw jsx wh)), (hn, iA G 4 (upd fhn jsx nn))]) rfl (k := jsx) (by omega) (Nat.le_of_ble_eq_true rfl) (rfl) gX4_hold_1.2.2.2.1 (fun H locs hP hD hS => ?_)
    refine toQ hQ0 ?_
    exact RV hC hP hD hS [0, 1, 2] (upd fhw jsx wh, upd fhn jsx nn) rfl rfl (by decide) (trivial) gX4_hold_1.2.2.2.2
  · refine lv_if_ne (tgt := 8) hx hb gX4_hold_0.2.2.1 (by decide) (fun c9 => absurd (by decide) c9) (fun _ => ?_)
    refine toQ hQ0 ?_
    exact RV hC hP hD hS [0, 1, 2] (fhw, fhn) rfl rfl (by decide) (trivial) gX4_hold_0.2.2.2.1
def K_c_holdRow (l : Launch) (G : GG) (h0 : Nat) (sx : Int32) (sy : Int32) (hs : Nat) (hz : Nat) (hi : Nat) (hw : Nat) (hn : Nat) (ht : Nat) (fhw : Nat → Int32) (fhn : Nat → Int32) (fht : Nat → Int32) (fhs : Nat → Int32) (fhz : Nat → Int32) : Prop := MV l G yX4_holdRow cX4_holdRow 3 4 0 0 [.ref h0, .int sx, .int sy] [(h0, oX4 hs hz hi hw hn ht), (hw, iA G 4 fhw), (hn, iA G 4 fhn), (ht, iA G 4 fht), (hs, iA G 4 fhs), (hz, iA G 4 fhz)] (fun u : (Nat → Int32) × (Nat → Int32) × (Nat → Int32) => True) (fun u : (Nat → Int32) × (Nat → Int32) × (Nat → Int32) => [(h0, oX4 hs hz hi hw hn ht), (hw, iA G 4 u.1), (hn, iA G 4 u.2.1), (ht, iA G 4 u.2.2), (hs, iA G 4 fhs), (hz, iA G 4 fhz)])
set_option maxHeartbeats 4000000 in
set_option maxRecDepth 100000 in
theorem c_holdRow (l : Launch) (G : GG) (h0 : Nat) (sx : Int32) (sy : Int32) (hs : Nat) (hz : Nat) (hi : Nat) (hw : Nat) (hn : Nat) (ht : Nat) (fhw : Nat → Int32) (fhn : Nat → Int32) (fht : Nat → Int32) (fhs : Nat → Int32) (fhz : Nat → Int32) : K_c_holdRow l G h0 sx sy hs hz hi hw hn ht fhw fhn fht fhs fhz := by
  refine MV.start (by decide +kernel) (Nat.le_of_ble_eq_true rfl) ?_
  intro p e s m below meth c A ls hC hK hP hD hS hA hl
  refine absQ (fun Q0 hQ0 => ?_)
  have hl : lv_has ls 3 [(0, .ref h0), (1, .int sx), (2, .int sy)] := hl
  refine Kan8 hC (fun hx hb hr hml hB hown hlocks hnm => ?_)
  refine lv_iload_n hx hb gX4_holdRow_0.1 rfl (lv_at1 hl) ?_
  refine pSN hC hK hl (c_isShelf l G sx) si_X4_41 rfl rfl (Nat.le_of_ble_eq_true rfl) rm_4_2_1 ⟨by first | exact Nat.le_of_ble_eq_true rfl | exact Nat.zero_le _, by first | exact Nat.le_of_ble_eq_true rfl | exact Nat.zero_le _⟩ gX4_holdRow_0.2.1 (Kors (Keqa fun a1401 => ?_) (Keqa fun a1401 => ?_))
  · refine lv_if_ne (tgt := 8) hx hb gX4_holdRow_0.2.2.1 (by decide) (fun _ => ?_) (fun c9 => absurd c9 (by decide))
    obtain ⟨jsx, hjsx, rfl⟩ := Wi3 a1401
    refine lv_aload_n hx hb gX4_holdRow_0.2.2.2.2.1 rfl (lv_at0 hl) ?_
    refine gf_X4_21 hC rfl hK hP 0 rfl rfl gX4_holdRow_0.2.2.2.2.2.1 ?_
    refine lv_iload_n hx hb gX4_holdRow_0.2.2.2.2.2.2.1 rfl (lv_at1 hl) ?_
    refine lv_aload_n hx hb gX4_holdRow_0.2.2.2.2.2.2.2.1 rfl (lv_at0 hl) ?_
    refine lv_iload_n hx hb gX4_holdRow_0.2.2.2.2.2.2.2.2.1 rfl (lv_at2 hl) ?_
    refine pV hC hK hl hP hD (c_sort l G h0 sy hs hz hi hw hn ht fhs) si_X4_38 [0, 4] sm_0_4 fm_0_4 nd_0_4 rfl rfl rfl rfl rfl (Nat.le_of_ble_eq_true rfl) rm_4_3_2 ⟨by first | exact Nat.le_of_ble_eq_true rfl | exact Nat.zero_le _, by first | exact Nat.le_of_ble_eq_true rfl | exact Nat.zero_le _⟩ gX4_holdRow_0.2.2.2.2.2.2.2.2.2 (fun r1402 hr1402 => ?_)
    refine lv_iconst (v := (-1)) hx hb gX4_holdRow_1.1 (by decide) ?_
    refine lv_icmp_ne (tgt := 26) hx hb gX4_holdRow_1.2.1 (by decide) (fun c_19_1403 => ?_) (fun c_19_1403 => ?_)
    · refine lv_iconst (v := 3) hx hb gX4_holdRow_1.2.2.2.2.1 (by decide) ?_
      refine astN hC hK hP hD hS 1 (ws' := [(h0, oX4 hs hz hi hw hn ht), (hw, iA G 4 (upd fhw jsx 3)), (hn, iA G 4 fhn), (ht, iA G 4 fht), (hs, iA G 4 fhs), (hz, iA G 4 fhz)]) rfl (k := jsx) (by omega) (Nat.le_of_ble_eq_true rfl) (rfl) gX4_holdRow_1.2.2.2.2.2.1 (fun H locs hP hD hS => ?_)
      refine lv_aload_n hx hb gX4_holdRow_1.2.2.2.2.2.2.1 rfl (lv_at0 hl) ?_
      refine gf_X4_24 hC rfl hK hP 0 rfl rfl gX4_holdRow_1.2.2.2.2.2.2.2.1 ?_
      refine lv_iload_n hx hb gX4_holdRow_1.2.2.2.2.2.2.2.2.1 rfl (lv_at1 hl) ?_
      refine lv_aload_n hx hb gX4_holdRow_1.2.2.2.2.2.2.2.2.2 rfl (lv_at0 hl) ?_
      refine lv_iload_n hx hb gX4_holdRow_2.1 rfl (lv_at2 hl) ?_
      refine pV hC hK hl hP hD (c_size l G h0 sy hs hz hi hw hn ht fhz) si_X4_44 [0, 5] sm_0_5 fm_0_5 nd_0_5 rfl rfl rfl rfl rfl (Nat.le_of_ble_eq_true rfl) rm_4_3_2 ⟨by first | exact Nat.le_of_ble_eq_true rfl | exact Nat.zero_le _, by first | exact Nat.le_of_ble_eq_true rfl | exact Nat.zero_le _⟩ gX4_holdRow_2.2.1 (fun r1404 hr1404 => ?_)
      refine astN hC hK hP hD hS 2 (ws' := [(h0, oX4 hs hz hi hw hn ht), (hw, iA G 4 (upd fhw jsx 3)), (hn, iA G 4 (upd fhn jsx r1404)), (ht, iA G 4 fht), (hs, iA G 4 fhs), (hz, iA G 4 fhz)]) rfl (k := jsx) (by omega) (Nat.le_of_ble_eq_true rfl) (rfl) gX4_holdRow_2.2.2.1 (fun H locs hP hD hS => ?_)
      refine lv_aload_n hx hb gX4_holdRow_2.2.2.2.1 rfl (lv_at0 hl) ?_
      refine gf_X4_27 hC rfl hK hP 0 rfl rfl gX4_holdRow_2.2.2.2.2.1 ?_
      refine lv_iload_n hx hb gX4_holdRow_2.2.2.2.2.2.1 rfl (lv_at1 hl) ?_
      refine lv_aload_n hx hb gX4_holdRow_2.2.2.2.2.2.2.1 rfl (lv_at0 hl) ?_
      refine lv_iload_n hx hb gX4_holdRow_2.2.2.2.2.2.2.2.1 rfl (lv_at2 hl) ?_
      refine pV hC hK hl hP hD (c_sort l G h0 sy hs hz hi hw hn ht fhs) si_X4_38 [0, 4] sm_0_4 fm_0_4 nd_0_4 rfl rfl rfl rfl rfl (Nat.le_of_ble_eq_true rfl) rm_4_3_2 ⟨by first | exact Nat.le_of_ble_eq_true rfl | exact Nat.zero_le _, by first | exact Nat.le_of_ble_eq_true rfl | exact Nat.zero_le _⟩ gX4_holdRow_2.2.2.2.2.2.2.2.2.1 (fun r1405 hr1405 => ?_)
      refine astN hC hK hP hD hS 3 (ws' := [(h0, oX4 hs hz hi hw hn ht), (hw, iA G 4 (upd fhw jsx 3)), (hn, iA G 4 (upd fhn jsx r1404)), (ht, iA G 4 (upd fht jsx r1405)), (hs, iA G 4 fhs), (hz, iA G 4 fhz)]) rfl (k := jsx) (by omega) (Nat.le_of_ble_eq_true rfl) (rfl) gX4_holdRow_2.2.2.2.2.2.2.2.2.2 (fun H locs hP hD hS => ?_)
      refine toQ hQ0 ?_
      exact RV hC hP hD hS [0, 1, 2, 3, 4, 5] (upd fhw jsx 3, upd fhn jsx r1404, upd fht jsx r1405) rfl rfl (by decide) (trivial) gX4_holdRow_3
    · refine lv_iconst (v := 4) hx hb gX4_holdRow_1.2.2.1 (by decide) ?_
      refine lv_goto (tgt := 27) hx hb gX4_holdRow_1.2.2.2.1 (by decide) ?_
      refine astN hC hK hP hD hS 1 (ws' := [(h0, oX4 hs hz hi hw hn ht), (hw, iA G 4 (upd fhw jsx 4)), (hn, iA G 4 fhn), (ht, iA G 4 fht), (hs, iA G 4 fhs), (hz, iA G 4 fhz)]) rfl (k := jsx) (by omega) (Nat.le_of_ble_eq_true rfl) (rfl) gX4_holdRow_1.2.2.2.2.2.1 (fun H locs hP hD hS => ?_)
      refine lv_aload_n hx hb gX4_holdRow_1.2.2.2.2.2.2.1 rfl (lv_at0 hl) ?_
      refine gf_X4_24 hC rfl hK hP 0 rfl rfl gX4_holdRow_1.2.2.2.2.2.2.2.1 ?_
      refine lv_iload_n hx hb gX4_holdRow_1.2.2.2.2.2.2.2.2.1 rfl (lv_at1 hl) ?_
      refine lv_aload_n hx hb gX4_holdRow_1.2.2.2.2.2.2.2.2.2 rfl (lv_at0 hl) ?_
      refine lv_iload_n hx hb gX4_holdRow_2.1 rfl (lv_at2 hl) ?_
      refine pV hC hK hl hP hD (c_size l G h0 sy hs hz hi hw hn ht fhz) si_X4_44 [0, 5] sm_0_5 fm_0_5 nd_0_5 rfl rfl rfl rfl rfl (Nat.le_of_ble_eq_true rfl) rm_4_3_2 ⟨by first | exact Nat.le_of_ble_eq_true rfl | exact Nat.zero_le _, by first | exact Nat.le_of_ble_eq_true rfl | exact Nat.zero_le _⟩ gX4_holdRow_2.2.1 (fun r1406 hr1406 => ?_)
      refine astN hC hK hP hD hS 2 (ws' := [(h0, oX4 hs hz hi hw hn ht), (hw, iA G 4 (upd fhw jsx 4)), (hn, iA G 4 (upd fhn jsx r1406)), (ht, iA G 4 fht), (hs, iA G 4 fhs), (hz, iA G 4 fhz)]) rfl (k := jsx) (by omega) (Nat.le_of_ble_eq_true rfl) (rfl) gX4_holdRow_2.2.2.1 (fun H locs hP hD hS => ?_)
      refine lv_aload_n hx hb gX4_holdRow_2.2.2.2.1 rfl (lv_at0 hl) ?_
      refine gf_X4_27 hC rfl hK hP 0 rfl rfl gX4_holdRow_2.2.2.2.2.1 ?_
      refine lv_iload_n hx hb gX4_holdRow_2.2.2.2.2.2.1 rfl (lv_at1 hl) ?_
      refine lv_aload_n hx hb gX4_holdRow_2.2.2.2.2.2.2.1 rfl (lv_at0 hl) ?_
      refine lv_iload_n hx hb gX4_holdRow_2.2.2.2.2.2.2.2.1 rfl (lv_at2 hl) ?_
      refine pV hC hK hl hP hD (c_sort l G h0 sy hs hz hi hw hn ht fhs) si_X4_38 [0, 4] sm_0_4 fm_0_4 nd_0_4 rfl rfl rfl rfl rfl (Nat.le_of_ble_eq_true rfl) rm_4_3_2 ⟨by first | exact Nat.le_of_ble_eq_true rfl | exact Nat.zero_le _, by first | exact Nat.le_of_ble_eq_true rfl | exact Nat.zero_le _⟩ gX4_holdRow_2.2.2.2.2.2.2.2.2.1 (fun r1407 hr1407 => ?_)
      refine astN hC hK hP hD hS 3 (ws' := [(h0, oX4 hs hz hi hw hn ht), (hw, iA G 4 (upd fhw jsx 4)), (hn, iA G 4 (upd fhn jsx r1406)), (ht, iA G 4 (upd fht jsx r1407)), (hs, iA G 4 fhs), (hz, iA G 4 fhz)]) rfl (k := jsx) (by omega) (Nat.le_of_ble_eq_true rfl) (rfl) gX4_holdRow_2.2.2.2.2.2.2.2.2.2 (fun H locs hP hD hS => ?_)
      refine toQ hQ0 ?_
      exact RV hC hP hD hS [0, 1, 2, 3, 4, 5] (upd fhw jsx 4, upd fhn jsx r1406, upd fht jsx r1407) rfl rfl (by decide) (trivial) gX4_holdRow_3
  · refine lv_if_ne (tgt := 8) hx hb gX4_holdRow_0.2.2.1 (by decide) (fun c9 => absurd (by decide) c9) (fun _ => ?_)
    refine toQ hQ0 ?_
    exact RV hC hP hD hS [0, 1, 2, 3, 4, 5] (fhw, fhn, fht) rfl rfl (by decide) (trivial) gX4_holdRow_0.2.2.2.1
def K_c_held (l : Launch) (G : GG) (h0 : Nat) (sx : Int32) (bb : Nat) (hs : Nat) (hz : Nat) (hi : Nat) (hw : Nat) (hn : Nat) (ht : Nat) (fhw : Nat → Int32) (fhn : Nat → Int32) (bpersons : Nat) (bpapers : Nat) (bstamps : Nat) (bversions : Nat) (blines : Nat) (bsteps : Nat) (bsayings : Nat) (bfindings : Nat) (bwarnings : Nat) (bquestions : Nat) (td : Int32) (vd : Int32) (vl : Int32) (gp : Int32) (bpapersc : Nat) (kbpapers : Nat) (bsayingsc : Nat) (kbsayings : Nat) (bfindingsc : Nat) (kbfindings : Nat) : Prop := MP l G yX4_held cX4_held 4 (some .int) 3 [.ref h0, .int sx, .ref bb] [(h0, oX4 hs hz hi hw hn ht), (hw, iA G 4 fhw), (hn, iA G 4 fhn), (bb, oX0 bpersons bpapers bstamps bversions blines bsteps bsayings bfindings bwarnings bquestions td vd vl gp), (bpapers, oX8 12 6 bpapersc (nI kbpapers)), (bsayings, oX8 16 8 bsayingsc (nI kbsayings)), (bfindings, oX8 12 4 bfindingsc (nI kbfindings))] (fun r : Int32 => True)
set_option maxHeartbeats 4000000 in
set_option maxRecDepth 100000 in
theorem c_held (l : Launch) (G : GG) (h0 : Nat) (sx : Int32) (bb : Nat) (hs : Nat) (hz : Nat) (hi : Nat) (hw : Nat) (hn : Nat) (ht : Nat) (fhw : Nat → Int32) (fhn : Nat → Int32) (bpersons : Nat) (bpapers : Nat) (bstamps : Nat) (bversions : Nat) (blines : Nat) (bsteps : Nat) (bsayings : Nat) (bfindings : Nat) (bwarnings : Nat) (bquestions : Nat) (td : Int32) (vd : Int32) (vl : Int32) (gp : Int32) (bpapersc : Nat) (kbpapers : Nat) (bsayingsc : Nat) (kbsayings : Nat) (bfindingsc : Nat) (kbfindings : Nat) : K_c_held l G h0 sx bb hs hz hi hw hn ht fhw fhn bpersons bpapers bstamps bversions blines bsteps bsayings bfindings bwarnings bquestions td vd vl gp bpapersc kbpapers bsayingsc kbsayings bfindingsc kbfindings := by
  refine MP.start (by decide +kernel) (Nat.le_of_ble_eq_true rfl) ?_
  intro p e s m below meth c ls hC hK hP hD hl
  refine absQ (fun Q0 hQ0 => ?_)
  have hl : lv_has ls 4 [(0, .ref h0), (1, .int sx), (2, .ref bb)] := hl
  refine Kan8 hC (fun hx hb hr hml hB hown hlocks hnm => ?_)
  refine lv_iload_n hx hb gX4_held_0.1 rfl (lv_at1 hl) ?_
  refine pSN hC hK hl (c_isShelf l G sx) si_X4_41 rfl rfl (Nat.le_of_ble_eq_true rfl) rm_3_2_1 ⟨by first | exact Nat.le_of_ble_eq_true rfl | exact Nat.zero_le _, by first | exact Nat.le_of_ble_eq_true rfl | exact Nat.zero_le _⟩ gX4_held_0.2.1 (Kors (Keqa fun a1409 => ?_) (Keqa fun a1409 => ?_))
  · refine lv_if_ne (tgt := 9) hx hb gX4_held_0.2.2.1 (by decide) (fun _ => ?_) (fun c9 => absurd c9 (by decide))
    obtain ⟨jsx, hjsx, rfl⟩ := Wi3 a1409
    refine lv_iconst (v := 1) hx hb gX4_held_0.2.2.2.2.2.1 (by decide) ?_
    refine lv_istore_n (lv' := [(3, .int 1), (0, .ref h0), (1, .int (nI jsx)), (2, .ref bb)]) hx hb gX4_held_0.2.2.2.2.2.2.1 rfl hl (by decide) rfl (fun ls hl => ?_)
    refine lv_aload_n hx hb gX4_held_0.2.2.2.2.2.2.2.1 rfl (lv_at1 hl) ?_
    refine gf_X4_21 hC rfl hK hP 0 rfl rfl gX4_held_0.2.2.2.2.2.2.2.2.1 ?_
    refine lv_iload_n hx hb gX4_held_0.2.2.2.2.2.2.2.2.2 rfl (lv_at2 hl) ?_
    refine aldN hC hK hP 1 rfl (k := jsx) (by omega) (Nat.le_of_ble_eq_true rfl) (v := fhw jsx) rfl gX4_held_1.1 ?_
    refine lv_topi (fun x1410 ex1410 => ?_)
    refine lv_if_ne (tgt := 34) hx hb gX4_held_1.2.1 (by decide) (fun c_17_1411 => ?_) (fun c_17_1411 => ?_)
    · refine lv_aload_n hx hb gX4_held_2.1 rfl (lv_at1 hl) ?_
      refine gf_X4_21 hC rfl hK hP 0 rfl rfl gX4_held_2.2.1 ?_
      refine lv_iload_n hx hb gX4_held_2.2.2.1 rfl (lv_at2 hl) ?_
      refine aldN hC hK hP 1 rfl (k := jsx) (by omega) (Nat.le_of_ble_eq_true rfl) (v := fhw jsx) rfl gX4_held_2.2.2.2.1 ?_
      refine lv_topi (fun x1412 ex1412 => ?_)
      refine lv_iconst (v := 1) hx hb gX4_held_2.2.2.2.2.1 (by decide) ?_
      refine lv_icmp_ne (tgt := 58) hx hb gX4_held_2.2.2.2.2.2.1 (by decide) (fun c_41_1413 => ?_) (fun c_41_1413 => ?_)
      · refine lv_aload_n hx hb gX4_held_3.2.2.2.2.1 rfl (lv_at1 hl) ?_
        refine gf_X4_21 hC rfl hK hP 0 rfl rfl gX4_held_3.2.2.2.2.2.1 ?_
        refine lv_iload_n hx hb gX4_held_3.2.2.2.2.2.2.1 rfl (lv_at2 hl) ?_
        refine aldN hC hK hP 1 rfl (k := jsx) (by omega) (Nat.le_of_ble_eq_true rfl) (v := fhw jsx) rfl gX4_held_3.2.2.2.2.2.2.2.1 ?_
        refine lv_topi (fun x1414 ex1414 => ?_)
        refine lv_iconst (v := 2) hx hb gX4_held_3.2.2.2.2.2.2.2.2.1 (by decide) ?_
        refine lv_icmp_ne (tgt := 82) hx hb gX4_held_3.2.2.2.2.2.2.2.2.2 (by decide) (fun c_65_1415 => ?_) (fun c_65_1415 => ?_)
        · refine lv_iload_n hx hb gX4_held_4.2.2.2.2.2.2.2.2.1 rfl (lv_at0 hl) ?_
          refine lv_if_eq (tgt := 95) hx hb gX4_held_4.2.2.2.2.2.2.2.2.2 (by decide) (fun c9 => absurd c9 (by decide)) (fun _ => ?_)
          refine lv_aload_n hx hb gX4_held_5.1 rfl (lv_at1 hl) ?_
          refine gf_X4_21 hC rfl hK hP 0 rfl rfl gX4_held_5.2.1 ?_
          refine lv_iload_n hx hb gX4_held_5.2.2.1 rfl (lv_at2 hl) ?_
          refine aldN hC hK hP 1 rfl (k := jsx) (by omega) (Nat.le_of_ble_eq_true rfl) (v := fhw jsx) rfl gX4_held_5.2.2.2.1 ?_
          refine lv_topi (fun x1416 ex1416 => ?_)
          refine lv_goto (tgt := 96) hx hb gX4_held_5.2.2.2.2.1 (by decide) ?_
          refine toQ hQ0 ?_
          exact RP (v := x1416) hC (trivial) rfl gX4_held_5.2.2.2.2.2.2
        · refine lv_aload_n hx hb gX4_held_4.1 rfl (lv_at3 hl) ?_
          refine gf_X4_61 hC rfl hK hP 3 rfl rfl gX4_held_4.2.1 ?_
          refine lv_aload_n hx hb gX4_held_4.2.2.1 rfl (lv_at1 hl) ?_
          refine gf_X4_24 hC rfl hK hP 0 rfl rfl gX4_held_4.2.2.2.1 ?_
          refine lv_iload_n hx hb gX4_held_4.2.2.2.2.1 rfl (lv_at2 hl) ?_
          refine aldN hC hK hP 2 rfl (k := jsx) (by omega) (Nat.le_of_ble_eq_true rfl) (v := fhn jsx) rfl gX4_held_4.2.2.2.2.2.1 ?_
          refine lv_topi (fun x1417 ex1417 => ?_)
          refine pV hC hK hl hP hD (c_T_has l G bfindings x1417 12 4 bfindingsc kbfindings) si_X4_53 [6] sm_6 fm_6 nd_6 rfl rfl rfl rfl rfl (Nat.le_of_ble_eq_true rfl) rm_3_1_2 ⟨by first | exact Nat.le_of_ble_eq_true rfl | exact Nat.zero_le _, by first | exact Nat.le_of_ble_eq_true rfl | exact Nat.zero_le _⟩ gX4_held_4.2.2.2.2.2.2.1 (Kors (Keqa fun a1419 => ?_) (Keqa fun a1419 => ?_))
          · refine lv_istore_n (lv' := [(3, .int 1), (0, .ref h0), (1, .int (nI jsx)), (2, .ref bb)]) hx hb gX4_held_4.2.2.2.2.2.2.2.1 rfl hl (by decide) rfl (fun ls hl => ?_)
            refine lv_iload_n hx hb gX4_held_4.2.2.2.2.2.2.2.2.1 rfl (lv_at0 hl) ?_
            refine lv_if_eq (tgt := 95) hx hb gX4_held_4.2.2.2.2.2.2.2.2.2 (by decide) (fun c9 => absurd c9 (by decide)) (fun _ => ?_)
            refine lv_aload_n hx hb gX4_held_5.1 rfl (lv_at1 hl) ?_
            refine gf_X4_21 hC rfl hK hP 0 rfl rfl gX4_held_5.2.1 ?_
            refine lv_iload_n hx hb gX4_held_5.2.2.1 rfl (lv_at2 hl) ?_
            refine aldN hC hK hP 1 rfl (k := jsx) (by omega) (Nat.le_of_ble_eq_true rfl) (v := fhw jsx) rfl gX4_held_5.2.2.2.1 ?_
            refine lv_topi (fun x1420 ex1420 => ?_)
            refine lv_goto (tgt := 96) hx hb gX4_held_5.2.2.2.2.1 (by decide) ?_
            refine toQ hQ0 ?_
            exact RP (v := x1420) hC (trivial) rfl gX4_held_5.2.2.2.2.2.2
          · refine lv_istore_n (lv' := [(3, .int 0), (0, .ref h0), (1, .int (nI jsx)), (2, .ref bb)]) hx hb gX4_held_4.2.2.2.2.2.2.2.1 rfl hl (by decide) rfl (fun ls hl => ?_)
            refine lv_iload_n hx hb gX4_held_4.2.2.2.2.2.2.2.2.1 rfl (lv_at0 hl) ?_
            refine lv_if_eq (tgt := 95) hx hb gX4_held_4.2.2.2.2.2.2.2.2.2 (by decide) (fun _ => ?_) (fun c9 => absurd (by decide) c9)
            refine lv_iconst (v := 4) hx hb gX4_held_5.2.2.2.2.2.1 (by decide) ?_
            refine toQ hQ0 ?_
            exact RP (v := 4) hC (trivial) rfl gX4_held_5.2.2.2.2.2.2
      · refine lv_aload_n hx hb gX4_held_2.2.2.2.2.2.2.1 rfl (lv_at3 hl) ?_
        refine gf_X4_58 hC rfl hK hP 3 rfl rfl gX4_held_2.2.2.2.2.2.2.2.1 ?_
        refine lv_aload_n hx hb gX4_held_2.2.2.2.2.2.2.2.2.1 rfl (lv_at1 hl) ?_
        refine gf_X4_24 hC rfl hK hP 0 rfl rfl gX4_held_2.2.2.2.2.2.2.2.2.2 ?_
        refine lv_iload_n hx hb gX4_held_3.1 rfl (lv_at2 hl) ?_
        refine aldN hC hK hP 2 rfl (k := jsx) (by omega) (Nat.le_of_ble_eq_true rfl) (v := fhn jsx) rfl gX4_held_3.2.1 ?_
        refine lv_topi (fun x1421 ex1421 => ?_)
        refine pV hC hK hl hP hD (c_T_has l G bsayings x1421 16 8 bsayingsc kbsayings) si_X4_53 [5] sm_5 fm_5 nd_5 rfl rfl rfl rfl rfl (Nat.le_of_ble_eq_true rfl) rm_3_1_2 ⟨by first | exact Nat.le_of_ble_eq_true rfl | exact Nat.zero_le _, by first | exact Nat.le_of_ble_eq_true rfl | exact Nat.zero_le _⟩ gX4_held_3.2.2.1 (Kors (Keqa fun a1423 => ?_) (Keqa fun a1423 => ?_))
        · refine lv_istore_n (lv' := [(3, .int 1), (0, .ref h0), (1, .int (nI jsx)), (2, .ref bb)]) hx hb gX4_held_3.2.2.2.1 rfl hl (by decide) rfl (fun ls hl => ?_)
          refine lv_aload_n hx hb gX4_held_3.2.2.2.2.1 rfl (lv_at1 hl) ?_
          refine gf_X4_21 hC rfl hK hP 0 rfl rfl gX4_held_3.2.2.2.2.2.1 ?_
          refine lv_iload_n hx hb gX4_held_3.2.2.2.2.2.2.1 rfl (lv_at2 hl) ?_
          refine aldN hC hK hP 1 rfl (k := jsx) (by omega) (Nat.le_of_ble_eq_true rfl) (v := fhw jsx) rfl gX4_held_3.2.2.2.2.2.2.2.1 ?_
          refine lv_topi (fun x1424 ex1424 => ?_)
          refine lv_iconst (v := 2) hx hb gX4_held_3.2.2.2.2.2.2.2.2.1 (by decide) ?_
          refine lv_icmp_ne (tgt := 82) hx hb gX4_held_3.2.2.2.2.2.2.2.2.2 (by decide) (fun c_65_1425 => ?_) (fun c_65_1425 => ?_)
          · refine lv_iload_n hx hb gX4_held_4.2.2.2.2.2.2.2.2.1 rfl (lv_at0 hl) ?_
            refine lv_if_eq (tgt := 95) hx hb gX4_held_4.2.2.2.2.2.2.2.2.2 (by decide) (fun c9 => absurd c9 (by decide)) (fun _ => ?_)
            refine lv_aload_n hx hb gX4_held_5.1 rfl (lv_at1 hl) ?_
            refine gf_X4_21 hC rfl hK hP 0 rfl rfl gX4_held_5.2.1 ?_
            refine lv_iload_n hx hb gX4_held_5.2.2.1 rfl (lv_at2 hl) ?_
            refine aldN hC hK hP 1 rfl (k := jsx) (by omega) (Nat.le_of_ble_eq_true rfl) (v := fhw jsx) rfl gX4_held_5.2.2.2.1 ?_
            refine lv_topi (fun x1426 ex1426 => ?_)
            refine lv_goto (tgt := 96) hx hb gX4_held_5.2.2.2.2.1 (by decide) ?_
            refine toQ hQ0 ?_
            exact RP (v := x1426) hC (trivial) rfl gX4_held_5.2.2.2.2.2.2
          · refine lv_aload_n hx hb gX4_held_4.1 rfl (lv_at3 hl) ?_
            refine gf_X4_61 hC rfl hK hP 3 rfl rfl gX4_held_4.2.1 ?_
            refine lv_aload_n hx hb gX4_held_4.2.2.1 rfl (lv_at1 hl) ?_
            refine gf_X4_24 hC rfl hK hP 0 rfl rfl gX4_held_4.2.2.2.1 ?_
            refine lv_iload_n hx hb gX4_held_4.2.2.2.2.1 rfl (lv_at2 hl) ?_
            refine aldN hC hK hP 2 rfl (k := jsx) (by omega) (Nat.le_of_ble_eq_true rfl) (v := fhn jsx) rfl gX4_held_4.2.2.2.2.2.1 ?_
            refine lv_topi (fun x1427 ex1427 => ?_)
            refine pV hC hK hl hP hD (c_T_has l G bfindings x1427 12 4 bfindingsc kbfindings) si_X4_53 [6] sm_6 fm_6 nd_6 rfl rfl rfl rfl rfl (Nat.le_of_ble_eq_true rfl) rm_3_1_2 ⟨by first | exact Nat.le_of_ble_eq_true rfl | exact Nat.zero_le _, by first | exact Nat.le_of_ble_eq_true rfl | exact Nat.zero_le _⟩ gX4_held_4.2.2.2.2.2.2.1 (Kors (Keqa fun a1429 => ?_) (Keqa fun a1429 => ?_))
            · refine lv_istore_n (lv' := [(3, .int 1), (0, .ref h0), (1, .int (nI jsx)), (2, .ref bb)]) hx hb gX4_held_4.2.2.2.2.2.2.2.1 rfl hl (by decide) rfl (fun ls hl => ?_)
              refine lv_iload_n hx hb gX4_held_4.2.2.2.2.2.2.2.2.1 rfl (lv_at0 hl) ?_
              refine lv_if_eq (tgt := 95) hx hb gX4_held_4.2.2.2.2.2.2.2.2.2 (by decide) (fun c9 => absurd c9 (by decide)) (fun _ => ?_)
              refine lv_aload_n hx hb gX4_held_5.1 rfl (lv_at1 hl) ?_
              refine gf_X4_21 hC rfl hK hP 0 rfl rfl gX4_held_5.2.1 ?_
              refine lv_iload_n hx hb gX4_held_5.2.2.1 rfl (lv_at2 hl) ?_
              refine aldN hC hK hP 1 rfl (k := jsx) (by omega) (Nat.le_of_ble_eq_true rfl) (v := fhw jsx) rfl gX4_held_5.2.2.2.1 ?_
              refine lv_topi (fun x1430 ex1430 => ?_)
              refine lv_goto (tgt := 96) hx hb gX4_held_5.2.2.2.2.1 (by decide) ?_
              refine toQ hQ0 ?_
              exact RP (v := x1430) hC (trivial) rfl gX4_held_5.2.2.2.2.2.2
            · refine lv_istore_n (lv' := [(3, .int 0), (0, .ref h0), (1, .int (nI jsx)), (2, .ref bb)]) hx hb gX4_held_4.2.2.2.2.2.2.2.1 rfl hl (by decide) rfl (fun ls hl => ?_)
              refine lv_iload_n hx hb gX4_held_4.2.2.2.2.2.2.2.2.1 rfl (lv_at0 hl) ?_
              refine lv_if_eq (tgt := 95) hx hb gX4_held_4.2.2.2.2.2.2.2.2.2 (by decide) (fun _ => ?_) (fun c9 => absurd (by decide) c9)
              refine lv_iconst (v := 4) hx hb gX4_held_5.2.2.2.2.2.1 (by decide) ?_
              refine toQ hQ0 ?_
              exact RP (v := 4) hC (trivial) rfl gX4_held_5.2.2.2.2.2.2
        · refine lv_istore_n (lv' := [(3, .int 0), (0, .ref h0), (1, .int (nI jsx)), (2, .ref bb)]) hx hb gX4_held_3.2.2.2.1 rfl hl (by decide) rfl (fun ls hl => ?_)
          refine lv_aload_n hx hb gX4_held_3.2.2.2.2.1 rfl (lv_at1 hl) ?_
          refine gf_X4_21 hC rfl hK hP 0 rfl rfl gX4_held_3.2.2.2.2.2.1 ?_
          refine lv_iload_n hx hb gX4_held_3.2.2.2.2.2.2.1 rfl (lv_at2 hl) ?_
          refine aldN hC hK hP 1 rfl (k := jsx) (by omega) (Nat.le_of_ble_eq_true rfl) (v := fhw jsx) rfl gX4_held_3.2.2.2.2.2.2.2.1 ?_
          refine lv_topi (fun x1431 ex1431 => ?_)
          refine lv_iconst (v := 2) hx hb gX4_held_3.2.2.2.2.2.2.2.2.1 (by decide) ?_
          refine lv_icmp_ne (tgt := 82) hx hb gX4_held_3.2.2.2.2.2.2.2.2.2 (by decide) (fun c_65_1432 => ?_) (fun c_65_1432 => ?_)
          · refine lv_iload_n hx hb gX4_held_4.2.2.2.2.2.2.2.2.1 rfl (lv_at0 hl) ?_
            refine lv_if_eq (tgt := 95) hx hb gX4_held_4.2.2.2.2.2.2.2.2.2 (by decide) (fun _ => ?_) (fun c9 => absurd (by decide) c9)
            refine lv_iconst (v := 4) hx hb gX4_held_5.2.2.2.2.2.1 (by decide) ?_
            refine toQ hQ0 ?_
            exact RP (v := 4) hC (trivial) rfl gX4_held_5.2.2.2.2.2.2
          · refine lv_aload_n hx hb gX4_held_4.1 rfl (lv_at3 hl) ?_
            refine gf_X4_61 hC rfl hK hP 3 rfl rfl gX4_held_4.2.1 ?_
            refine lv_aload_n hx hb gX4_held_4.2.2.1 rfl (lv_at1 hl) ?_
            refine gf_X4_24 hC rfl hK hP 0 rfl rfl gX4_held_4.2.2.2.1 ?_
            refine lv_iload_n hx hb gX4_held_4.2.2.2.2.1 rfl (lv_at2 hl) ?_
            refine aldN hC hK hP 2 rfl (k := jsx) (by omega) (Nat.le_of_ble_eq_true rfl) (v := fhn jsx) rfl gX4_held_4.2.2.2.2.2.1 ?_
            refine lv_topi (fun x1433 ex1433 => ?_)
            refine pV hC hK hl hP hD (c_T_has l G bfindings x1433 12 4 bfindingsc kbfindings) si_X4_53 [6] sm_6 fm_6 nd_6 rfl rfl rfl rfl rfl (Nat.le_of_ble_eq_true rfl) rm_3_1_2 ⟨by first | exact Nat.le_of_ble_eq_true rfl | exact Nat.zero_le _, by first | exact Nat.le_of_ble_eq_true rfl | exact Nat.zero_le _⟩ gX4_held_4.2.2.2.2.2.2.1 (Kors (Keqa fun a1435 => ?_) (Keqa fun a1435 => ?_))
            · refine lv_istore_n (lv' := [(3, .int 1), (0, .ref h0), (1, .int (nI jsx)), (2, .ref bb)]) hx hb gX4_held_4.2.2.2.2.2.2.2.1 rfl hl (by decide) rfl (fun ls hl => ?_)
              refine lv_iload_n hx hb gX4_held_4.2.2.2.2.2.2.2.2.1 rfl (lv_at0 hl) ?_
              refine lv_if_eq (tgt := 95) hx hb gX4_held_4.2.2.2.2.2.2.2.2.2 (by decide) (fun c9 => absurd c9 (by decide)) (fun _ => ?_)
              refine lv_aload_n hx hb gX4_held_5.1 rfl (lv_at1 hl) ?_
              refine gf_X4_21 hC rfl hK hP 0 rfl rfl gX4_held_5.2.1 ?_
              refine lv_iload_n hx hb gX4_held_5.2.2.1 rfl (lv_at2 hl) ?_
              refine aldN hC hK hP 1 rfl (k := jsx) (by omega) (Nat.le_of_ble_eq_true rfl) (v := fhw jsx) rfl gX4_held_5.2.2.2.1 ?_
              refine lv_topi (fun x1436 ex1436 => ?_)
              refine lv_goto (tgt := 96) hx hb gX4_held_5.2.2.2.2.1 (by decide) ?_
              refine toQ hQ0 ?_
              exact RP (v := x1436) hC (trivial) rfl gX4_held_5.2.2.2.2.2.2
            · refine lv_istore_n (lv' := [(3, .int 0), (0, .ref h0), (1, .int (nI jsx)), (2, .ref bb)]) hx hb gX4_held_4.2.2.2.2.2.2.2.1 rfl hl (by decide) rfl (fun ls hl => ?_)
              refine lv_iload_n hx hb gX4_held_4.2.2.2.2.2.2.2.2.1 rfl (lv_at0 hl) ?_
              refine lv_if_eq (tgt := 95) hx hb gX4_held_4.2.2.2.2.2.2.2.2.2 (by decide) (fun _ => ?_) (fun c9 => absurd (by decide) c9)
              refine lv_iconst (v := 4) hx hb gX4_held_5.2.2.2.2.2.1 (by decide) ?_
              refine toQ hQ0 ?_
              exact RP (v := 4) hC (trivial) rfl gX4_held_5.2.2.2.2.2.2
    · refine lv_aload_n hx hb gX4_held_1.2.2.1 rfl (lv_at3 hl) ?_
      refine gf_X4_47 hC rfl hK hP 3 rfl rfl gX4_held_1.2.2.2.1 ?_
      refine lv_aload_n hx hb gX4_held_1.2.2.2.2.1 rfl (lv_at1 hl) ?_
      refine gf_X4_24 hC rfl hK hP 0 rfl rfl gX4_held_1.2.2.2.2.2.1 ?_
      refine lv_iload_n hx hb gX4_held_1.2.2.2.2.2.2.1 rfl (lv_at2 hl) ?_
      refine aldN hC hK hP 2 rfl (k := jsx) (by omega) (Nat.le_of_ble_eq_true rfl) (v := fhn jsx) rfl gX4_held_1.2.2.2.2.2.2.2.1 ?_
      refine lv_topi (fun x1437 ex1437 => ?_)
      refine pV hC hK hl hP hD (c_T_has l G bpapers x1437 12 6 bpapersc kbpapers) si_X4_53 [4] sm_4 fm_4 nd_4 rfl rfl rfl rfl rfl (Nat.le_of_ble_eq_true rfl) rm_3_1_2 ⟨by first | exact Nat.le_of_ble_eq_true rfl | exact Nat.zero_le _, by first | exact Nat.le_of_ble_eq_true rfl | exact Nat.zero_le _⟩ gX4_held_1.2.2.2.2.2.2.2.2.1 (Kors (Keqa fun a1439 => ?_) (Keqa fun a1439 => ?_))
      · refine lv_istore_n (lv' := [(3, .int 1), (0, .ref h0), (1, .int (nI jsx)), (2, .ref bb)]) hx hb gX4_held_1.2.2.2.2.2.2.2.2.2 rfl hl (by decide) rfl (fun ls hl => ?_)
        refine lv_aload_n hx hb gX4_held_2.1 rfl (lv_at1 hl) ?_
        refine gf_X4_21 hC rfl hK hP 0 rfl rfl gX4_held_2.2.1 ?_
        refine lv_iload_n hx hb gX4_held_2.2.2.1 rfl (lv_at2 hl) ?_
        refine aldN hC hK hP 1 rfl (k := jsx) (by omega) (Nat.le_of_ble_eq_true rfl) (v := fhw jsx) rfl gX4_held_2.2.2.2.1 ?_
        refine lv_topi (fun x1440 ex1440 => ?_)
        refine lv_iconst (v := 1) hx hb gX4_held_2.2.2.2.2.1 (by decide) ?_
        refine lv_icmp_ne (tgt := 58) hx hb gX4_held_2.2.2.2.2.2.1 (by decide) (fun c_41_1441 => ?_) (fun c_41_1441 => ?_)
        · refine lv_aload_n hx hb gX4_held_3.2.2.2.2.1 rfl (lv_at1 hl) ?_
          refine gf_X4_21 hC rfl hK hP 0 rfl rfl gX4_held_3.2.2.2.2.2.1 ?_
          refine lv_iload_n hx hb gX4_held_3.2.2.2.2.2.2.1 rfl (lv_at2 hl) ?_
          refine aldN hC hK hP 1 rfl (k := jsx) (by omega) (Nat.le_of_ble_eq_true rfl) (v := fhw jsx) rfl gX4_held_3.2.2.2.2.2.2.2.1 ?_
          refine lv_topi (fun x1442 ex1442 => ?_)
          refine lv_iconst (v := 2) hx hb gX4_held_3.2.2.2.2.2.2.2.2.1 (by decide) ?_
          refine lv_icmp_ne (tgt := 82) hx hb gX4_held_3.2.2.2.2.2.2.2.2.2 (by decide) (fun c_65_1443 => ?_) (fun c_65_1443 => ?_)
          · refine lv_iload_n hx hb gX4_held_4.2.2.2.2.2.2.2.2.1 rfl (lv_at0 hl) ?_
            refine lv_if_eq (tgt := 95) hx hb gX4_held_4.2.2.2.2.2.2.2.2.2 (by decide) (fun c9 => absurd c9 (by decide)) (fun _ => ?_)
            refine lv_aload_n hx hb gX4_held_5.1 rfl (lv_at1 hl) ?_
            refine gf_X4_21 hC rfl hK hP 0 rfl rfl gX4_held_5.2.1 ?_
            refine lv_iload_n hx hb gX4_held_5.2.2.1 rfl (lv_at2 hl) ?_
            refine aldN hC hK hP 1 rfl (k := jsx) (by omega) (Nat.le_of_ble_eq_true rfl) (v := fhw jsx) rfl gX4_held_5.2.2.2.1 ?_
            refine lv_topi (fun x1444 ex1444 => ?_)
            refine lv_goto (tgt := 96) hx hb gX4_held_5.2.2.2.2.1 (by decide) ?_
            refine toQ hQ0 ?_
            exact RP (v := x1444) hC (trivial) rfl gX4_held_5.2.2.2.2.2.2
          · refine lv_aload_n hx hb gX4_held_4.1 rfl (lv_at3 hl) ?_
            refine gf_X4_61 hC rfl hK hP 3 rfl rfl gX4_held_4.2.1 ?_
            refine lv_aload_n hx hb gX4_held_4.2.2.1 rfl (lv_at1 hl) ?_
            refine gf_X4_24 hC rfl hK hP 0 rfl rfl gX4_held_4.2.2.2.1 ?_
            refine lv_iload_n hx hb gX4_held_4.2.2.2.2.1 rfl (lv_at2 hl) ?_
            refine aldN hC hK hP 2 rfl (k := jsx) (by omega) (Nat.le_of_ble_eq_true rfl) (v := fhn jsx) rfl gX4_held_4.2.2.2.2.2.1 ?_
            refine lv_topi (fun x1445 ex1445 => ?_)
            refine pV hC hK hl hP hD (c_T_has l G bfindings x1445 12 4 bfindingsc kbfindings) si_X4_53 [6] sm_6 fm_6 nd_6 rfl rfl rfl rfl rfl (Nat.le_of_ble_eq_true rfl) rm_3_1_2 ⟨by first | exact Nat.le_of_ble_eq_true rfl | exact Nat.zero_le _, by first | exact Nat.le_of_ble_eq_true rfl | exact Nat.zero_le _⟩ gX4_held_4.2.2.2.2.2.2.1 (Kors (Keqa fun a1447 => ?_) (Keqa fun a1447 => ?_))
            · refine lv_istore_n (lv' := [(3, .int 1), (0, .ref h0), (1, .int (nI jsx)), (2, .ref bb)]) hx hb gX4_held_4.2.2.2.2.2.2.2.1 rfl hl (by decide) rfl (fun ls hl => ?_)
              refine lv_iload_n hx hb gX4_held_4.2.2.2.2.2.2.2.2.1 rfl (lv_at0 hl) ?_
              refine lv_if_eq (tgt := 95) hx hb gX4_held_4.2.2.2.2.2.2.2.2.2 (by decide) (fun c9 => absurd c9 (by decide)) (fun _ => ?_)
              refine lv_aload_n hx hb gX4_held_5.1 rfl (lv_at1 hl) ?_
              refine gf_X4_21 hC rfl hK hP 0 rfl rfl gX4_held_5.2.1 ?_
              refine lv_iload_n hx hb gX4_held_5.2.2.1 rfl (lv_at2 hl) ?_
              refine aldN hC hK hP 1 rfl (k := jsx) (by omega) (Nat.le_of_ble_eq_true rfl) (v := fhw jsx) rfl gX4_held_5.2.2.2.1 ?_
              refine lv_topi (fun x1448 ex1448 => ?_)
              refine lv_goto (tgt := 96) hx hb gX4_held_5.2.2.2.2.1 (by decide) ?_
              refine toQ hQ0 ?_
              exact RP (v := x1448) hC (trivial) rfl gX4_held_5.2.2.2.2.2.2
            · refine lv_istore_n (lv' := [(3, .int 0), (0, .ref h0), (1, .int (nI jsx)), (2, .ref bb)]) hx hb gX4_held_4.2.2.2.2.2.2.2.1 rfl hl (by decide) rfl (fun ls hl => ?_)
              refine lv_iload_n hx hb gX4_held_4.2.2.2.2.2.2.2.2.1 rfl (lv_at0 hl) ?_
              refine lv_if_eq (tgt := 95) hx hb gX4_held_4.2.2.2.2.2.2.2.2.2 (by decide) (fun _ => ?_) (fun c9 => absurd (by decide) c9)
              refine lv_iconst (v := 4) hx hb gX4_held_5.2.2.2.2.2.1 (by decide) ?_
              refine toQ hQ0 ?_
              exact RP (v := 4) hC (trivial) rfl gX4_held_5.2.2.2.2.2.2
        · refine lv_aload_n hx hb gX4_held_2.2.2.2.2.2.2.1 rfl (lv_at3 hl) ?_
          refine gf_X4_58 hC rfl hK hP 3 rfl rfl gX4_held_2.2.2.2.2.2.2.2.1 ?_
          refine lv_aload_n hx hb gX4_held_2.2.2.2.2.2.2.2.2.1 rfl (lv_at1 hl) ?_
          refine gf_X4_24 hC rfl hK hP 0 rfl rfl gX4_held_2.2.2.2.2.2.2.2.2.2 ?_
          refine lv_iload_n hx hb gX4_held_3.1 rfl (lv_at2 hl) ?_
          refine aldN hC hK hP 2 rfl (k := jsx) (by omega) (Nat.le_of_ble_eq_true rfl) (v := fhn jsx) rfl gX4_held_3.2.1 ?_
          refine lv_topi (fun x1449 ex1449 => ?_)
          refine pV hC hK hl hP hD (c_T_has l G bsayings x1449 16 8 bsayingsc kbsayings) si_X4_53 [5] sm_5 fm_5 nd_5 rfl rfl rfl rfl rfl (Nat.le_of_ble_eq_true rfl) rm_3_1_2 ⟨by first | exact Nat.le_of_ble_eq_true rfl | exact Nat.zero_le _, by first | exact Nat.le_of_ble_eq_true rfl | exact Nat.zero_le _⟩ gX4_held_3.2.2.1 (Kors (Keqa fun a1451 => ?_) (Keqa fun a1451 => ?_))
          · refine lv_istore_n (lv' := [(3, .int 1), (0, .ref h0), (1, .int (nI jsx)), (2, .ref bb)]) hx hb gX4_held_3.2.2.2.1 rfl hl (by decide) rfl (fun ls hl => ?_)
            refine lv_aload_n hx hb gX4_held_3.2.2.2.2.1 rfl (lv_at1 hl) ?_
            refine gf_X4_21 hC rfl hK hP 0 rfl rfl gX4_held_3.2.2.2.2.2.1 ?_
            refine lv_iload_n hx hb gX4_held_3.2.2.2.2.2.2.1 rfl (lv_at2 hl) ?_
            refine aldN hC hK hP 1 rfl (k := jsx) (by omega) (Nat.le_of_ble_eq_true rfl) (v := fhw jsx) rfl gX4_held_3.2.2.2.2.2.2.2.1 ?_
            refine lv_topi (fun x1452 ex1452 => ?_)
            refine lv_iconst (v := 2) hx hb gX4_held_3.2.2.2.2.2.2.2.2.1 (by decide) ?_
            refine lv_icmp_ne (tgt := 82) hx hb gX4_held_3.2.2.2.2.2.2.2.2.2 (by decide) (fun c_65_1453 => ?_) (fun c_65_1453 => ?_)
            · refine lv_iload_n hx hb gX4_held_4.2.2.2.2.2.2.2.2.1 rfl (lv_at0 hl) ?_
              refine lv_if_eq (tgt := 95) hx hb gX4_held_4.2.2.2.2.2.2.2.2.2 (by decide) (fun c9 => absurd c9 (by decide)) (fun _ => ?_)
              refine lv_aload_n hx hb gX4_held_5.1 rfl (lv_at1 hl) ?_
              refine gf_X4_21 hC rfl hK hP 0 rfl rfl gX4_held_5.2.1 ?_
              refine lv_iload_n hx hb gX4_held_5.2.2.1 rfl (lv_at2 hl) ?_
              refine aldN hC hK hP 1 rfl (k := jsx) (by omega) (Nat.le_of_ble_eq_true rfl) (v := fhw jsx) rfl gX4_held_5.2.2.2.1 ?_
              refine lv_topi (fun x1454 ex1454 => ?_)
              refine lv_goto (tgt := 96) hx hb gX4_held_5.2.2.2.2.1 (by decide) ?_
              refine toQ hQ0 ?_
              exact RP (v := x1454) hC (trivial) rfl gX4_held_5.2.2.2.2.2.2
            · refine lv_aload_n hx hb gX4_held_4.1 rfl (lv_at3 hl) ?_
              refine gf_X4_61 hC rfl hK hP 3 rfl rfl gX4_held_4.2.1 ?_
              refine lv_aload_n hx hb gX4_held_4.2.2.1 rfl (lv_at1 hl) ?_
              refine gf_X4_24 hC rfl hK hP 0 rfl rfl gX4_held_4.2.2.2.1 ?_
              refine lv_iload_n hx hb gX4_held_4.2.2.2.2.1 rfl (lv_at2 hl) ?_
              refine aldN hC hK hP 2 rfl (k := jsx) (by omega) (Nat.le_of_ble_eq_true rfl) (v := fhn jsx) rfl gX4_held_4.2.2.2.2.2.1 ?_
              refine lv_topi (fun x1455 ex1455 => ?_)
              refine pV hC hK hl hP hD (c_T_has l G bfindings x1455 12 4 bfindingsc kbfindings) si_X4_53 [6] sm_6 fm_6 nd_6 rfl rfl rfl rfl rfl (Nat.le_of_ble_eq_true rfl) rm_3_1_2 ⟨by first | exact Nat.le_of_ble_eq_true rfl | exact Nat.zero_le _, by first | exact Nat.le_of_ble_eq_true rfl | exact Nat.zero_le _⟩ gX4_held_4.2.2.2.2.2.2.1 (Kors (Keqa fun a1457 => ?_) (Keqa fun a1457 => ?_))
              · refine lv_istore_n (lv' := [(3, .int 1), (0, .ref h0), (1, .int (nI jsx)), (2, .ref bb)]) hx hb gX4_held_4.2.2.2.2.2.2.2.1 rfl hl (by decide) rfl (fun ls hl => ?_)
                refine lv_iload_n hx hb gX4_held_4.2.2.2.2.2.2.2.2.1 rfl (lv_at0 hl) ?_
                refine lv_if_eq (tgt := 95) hx hb gX4_held_4.2.2.2.2.2.2.2.2.2 (by decide) (fun c9 => absurd c9 (by decide)) (fun _ => ?_)
                refine lv_aload_n hx hb gX4_held_5.1 rfl (lv_at1 hl) ?_
                refine gf_X4_21 hC rfl hK hP 0 rfl rfl gX4_held_5.2.1 ?_
                refine lv_iload_n hx hb gX4_held_5.2.2.1 rfl (lv_at2 hl) ?_
                refine aldN hC hK hP 1 rfl (k := jsx) (by omega) (Nat.le_of_ble_eq_true rfl) (v := fhw jsx) rfl gX4_held_5.2.2.2.1 ?_
                refine lv_topi (fun x1458 ex1458 => ?_)
                refine lv_goto (tgt := 96) hx hb gX4_held_5.2.2.2.2.1 (by decide) ?_
                refine toQ hQ0 ?_
                exact RP (v := x1458) hC (trivial) rfl gX4_held_5.2.2.2.2.2.2
              · refine lv_istore_n (lv' := [(3, .int 0), (0, .ref h0), (1, .int (nI jsx)), (2, .ref bb)]) hx hb gX4_held_4.2.2.2.2.2.2.2.1 rfl hl (by decide) rfl (fun ls hl => ?_)
                refine lv_iload_n hx hb gX4_held_4.2.2.2.2.2.2.2.2.1 rfl (lv_at0 hl) ?_
                refine lv_if_eq (tgt := 95) hx hb gX4_held_4.2.2.2.2.2.2.2.2.2 (by decide) (fun _ => ?_) (fun c9 => absurd (by decide) c9)
                refine lv_iconst (v := 4) hx hb gX4_held_5.2.2.2.2.2.1 (by decide) ?_
                refine toQ hQ0 ?_
                exact RP (v := 4) hC (trivial) rfl gX4_held_5.2.2.2.2.2.2
          · refine lv_istore_n (lv' := [(3, .int 0), (0, .ref h0), (1, .int (nI jsx)), (2, .ref bb)]) hx hb gX4_held_3.2.2.2.1 rfl hl (by decide) rfl (fun ls hl => ?_)
            refine lv_aload_n hx hb gX4_held_3.2.2.2.2.1 rfl (lv_at1 hl) ?_
            refine gf_X4_21 hC rfl hK hP 0 rfl rfl gX4_held_3.2.2.2.2.2.1 ?_
            refine lv_iload_n hx hb gX4_held_3.2.2.2.2.2.2.1 rfl (lv_at2 hl) ?_
            refine aldN hC hK hP 1 rfl (k := jsx) (by omega) (Nat.le_of_ble_eq_true rfl) (v := fhw jsx) rfl gX4_held_3.2.2.2.2.2.2.2.1 ?_
            refine lv_topi (fun x1459 ex1459 => ?_)
            refine lv_iconst (v := 2) hx hb gX4_held_3.2.2.2.2.2.2.2.2.1 (by decide) ?_
            refine lv_icmp_ne (tgt := 82) hx hb gX4_held_3.2.2.2.2.2.2.2.2.2 (by decide) (fun c_65_1460 => ?_) (fun c_65_1460 => ?_)
            · refine lv_iload_n hx hb gX4_held_4.2.2.2.2.2.2.2.2.1 rfl (lv_at0 hl) ?_
              refine lv_if_eq (tgt := 95) hx hb gX4_held_4.2.2.2.2.2.2.2.2.2 (by decide) (fun _ => ?_) (fun c9 => absurd (by decide) c9)
              refine lv_iconst (v := 4) hx hb gX4_held_5.2.2.2.2.2.1 (by decide) ?_
              refine toQ hQ0 ?_
              exact RP (v := 4) hC (trivial) rfl gX4_held_5.2.2.2.2.2.2
            · refine lv_aload_n hx hb gX4_held_4.1 rfl (lv_at3 hl) ?_
              refine gf_X4_61 hC rfl hK hP 3 rfl rfl gX4_held_4.2.1 ?_
              refine lv_aload_n hx hb gX4_held_4.2.2.1 rfl (lv_at1 hl) ?_
              refine gf_X4_24 hC rfl hK hP 0 rfl rfl gX4_held_4.2.2.2.1 ?_
              refine lv_iload_n hx hb gX4_held_4.2.2.2.2.1 rfl (lv_at2 hl) ?_
              refine aldN hC hK hP 2 rfl (k := jsx) (by omega) (Nat.le_of_ble_eq_true rfl) (v := fhn jsx) rfl gX4_held_4.2.2.2.2.2.1 ?_
              refine lv_topi (fun x1461 ex1461 => ?_)
              refine pV hC hK hl hP hD (c_T_has l G bfindings x1461 12 4 bfindingsc kbfindings) si_X4_53 [6] sm_6 fm_6 nd_6 rfl rfl rfl rfl rfl (Nat.le_of_ble_eq_true rfl) rm_3_1_2 ⟨by first | exact Nat.le_of_ble_eq_true rfl | exact Nat.zero_le _, by first | exact Nat.le_of_ble_eq_true rfl | exact Nat.zero_le _⟩ gX4_held_4.2.2.2.2.2.2.1 (Kors (Keqa fun a1463 => ?_) (Keqa fun a1463 => ?_))
              · refine lv_istore_n (lv' := [(3, .int 1), (0, .ref h0), (1, .int (nI jsx)), (2, .ref bb)]) hx hb gX4_held_4.2.2.2.2.2.2.2.1 rfl hl (by decide) rfl (fun ls hl => ?_)
                refine lv_iload_n hx hb gX4_held_4.2.2.2.2.2.2.2.2.1 rfl (lv_at0 hl) ?_
                refine lv_if_eq (tgt := 95) hx hb gX4_held_4.2.2.2.2.2.2.2.2.2 (by decide) (fun c9 => absurd c9 (by decide)) (fun _ => ?_)
                refine lv_aload_n hx hb gX4_held_5.1 rfl (lv_at1 hl) ?_
                refine gf_X4_21 hC rfl hK hP 0 rfl rfl gX4_held_5.2.1 ?_
                refine lv_iload_n hx hb gX4_held_5.2.2.1 rfl (lv_at2 hl) ?_
                refine aldN hC hK hP 1 rfl (k := jsx) (by omega) (Nat.le_of_ble_eq_true rfl) (v := fhw jsx) rfl gX4_held_5.2.2.2.1 ?_
                refine lv_topi (fun x1464 ex1464 => ?_)
                refine lv_goto (tgt := 96) hx hb gX4_held_5.2.2.2.2.1 (by decide) ?_
                refine toQ hQ0 ?_
                exact RP (v := x1464) hC (trivial) rfl gX4_held_5.2.2.2.2.2.2
              · refine lv_istore_n (lv' := [(3, .int 0), (0, .ref h0), (1, .int (nI jsx)), (2, .ref bb)]) hx hb gX4_held_4.2.2.2.2.2.2.2.1 rfl hl (by decide) rfl (fun ls hl => ?_)
                refine lv_iload_n hx hb gX4_held_4.2.2.2.2.2.2.2.2.1 rfl (lv_at0 hl) ?_
                refine lv_if_eq (tgt := 95) hx hb gX4_held_4.2.2.2.2.2.2.2.2.2 (by decide) (fun _ => ?_) (fun c9 => absurd (by decide) c9)
                refine lv_iconst (v := 4) hx hb gX4_held_5.2.2.2.2.2.1 (by decide) ?_
                refine toQ hQ0 ?_
                exact RP (v := 4) hC (trivial) rfl gX4_held_5.2.2.2.2.2.2
      · refine lv_istore_n (lv' := [(3, .int 0), (0, .ref h0), (1, .int (nI jsx)), (2, .ref bb)]) hx hb gX4_held_1.2.2.2.2.2.2.2.2.2 rfl hl (by decide) rfl (fun ls hl => ?_)
        refine lv_aload_n hx hb gX4_held_2.1 rfl (lv_at1 hl) ?_
        refine gf_X4_21 hC rfl hK hP 0 rfl rfl gX4_held_2.2.1 ?_
        refine lv_iload_n hx hb gX4_held_2.2.2.1 rfl (lv_at2 hl) ?_
        refine aldN hC hK hP 1 rfl (k := jsx) (by omega) (Nat.le_of_ble_eq_true rfl) (v := fhw jsx) rfl gX4_held_2.2.2.2.1 ?_
        refine lv_topi (fun x1465 ex1465 => ?_)
        refine lv_iconst (v := 1) hx hb gX4_held_2.2.2.2.2.1 (by decide) ?_
        refine lv_icmp_ne (tgt := 58) hx hb gX4_held_2.2.2.2.2.2.1 (by decide) (fun c_41_1466 => ?_) (fun c_41_1466 => ?_)
        · refine lv_aload_n hx hb gX4_held_3.2.2.2.2.1 rfl (lv_at1 hl) ?_
          refine gf_X4_21 hC rfl hK hP 0 rfl rfl gX4_held_3.2.2.2.2.2.1 ?_
          refine lv_iload_n hx hb gX4_held_3.2.2.2.2.2.2.1 rfl (lv_at2 hl) ?_
          refine aldN hC hK hP 1 rfl (k := jsx) (by omega) (Nat.le_of_ble_eq_true rfl) (v := fhw jsx) rfl gX4_held_3.2.2.2.2.2.2.2.1 ?_
          refine lv_topi (fun x1467 ex1467 => ?_)
          refine lv_iconst (v := 2) hx hb gX4_held_3.2.2.2.2.2.2.2.2.1 (by decide) ?_
          refine lv_icmp_ne (tgt := 82) hx hb gX4_held_3.2.2.2.2.2.2.2.2.2 (by decide) (fun c_65_1468 => ?_) (fun c_65_1468 => ?_)
          · refine lv_iload_n hx hb gX4_held_4.2.2.2.2.2.2.2.2.1 rfl (lv_at0 hl) ?_
            refine lv_if_eq (tgt := 95) hx hb gX4_held_4.2.2.2.2.2.2.2.2.2 (by decide) (fun _ => ?_) (fun c9 => absurd (by decide) c9)
            refine lv_iconst (v := 4) hx hb gX4_held_5.2.2.2.2.2.1 (by decide) ?_
            refine toQ hQ0 ?_
            exact RP (v := 4) hC (trivial) rfl gX4_held_5.2.2.2.2.2.2
          · refine lv_aload_n hx hb gX4_held_4.1 rfl (lv_at3 hl) ?_
            refine gf_X4_61 hC rfl hK hP 3 rfl rfl gX4_held_4.2.1 ?_
            refine lv_aload_n hx hb gX4_held_4.2.2.1 rfl (lv_at1 hl) ?_
            refine gf_X4_24 hC rfl hK hP 0 rfl rfl gX4_held_4.2.2.2.1 ?_
            refine lv_iload_n hx hb gX4_held_4.2.2.2.2.1 rfl (lv_at2 hl) ?_
            refine aldN hC hK hP 2 rfl (k := jsx) (by omega) (Nat.le_of_ble_eq_true rfl) (v := fhn jsx) rfl gX4_held_4.2.2.2.2.2.1 ?_
            refine lv_topi (fun x1469 ex1469 => ?_)
            refine pV hC hK hl hP hD (c_T_has l G bfindings x1469 12 4 bfindingsc kbfindings) si_X4_53 [6] sm_6 fm_6 nd_6 rfl rfl rfl rfl rfl (Nat.le_of_ble_eq_true rfl) rm_3_1_2 ⟨by first | exact Nat.le_of_ble_eq_true rfl | exact Nat.zero_le _, by first | exact Nat.le_of_ble_eq_true rfl | exact Nat.zero_le _⟩ gX4_held_4.2.2.2.2.2.2.1 (Kors (Keqa fun a1471 => ?_) (Keqa fun a1471 => ?_))
            · refine lv_istore_n (lv' := [(3, .int 1), (0, .ref h0), (1, .int (nI jsx)), (2, .ref bb)]) hx hb gX4_held_4.2.2.2.2.2.2.2.1 rfl hl (by decide) rfl (fun ls hl => ?_)
              refine lv_iload_n hx hb gX4_held_4.2.2.2.2.2.2.2.2.1 rfl (lv_at0 hl) ?_
              refine lv_if_eq (tgt := 95) hx hb gX4_held_4.2.2.2.2.2.2.2.2.2 (by decide) (fun c9 => absurd c9 (by decide)) (fun _ => ?_)
              refine lv_aload_n hx hb gX4_held_5.1 rfl (lv_at1 hl) ?_
              refine gf_X4_21 hC rfl hK hP 0 rfl rfl gX4_held_5.2.1 ?_
              refine lv_iload_n hx hb gX4_held_5.2.2.1 rfl (lv_at2 hl) ?_
              refine aldN hC hK hP 1 rfl (k := jsx) (by omega) (Nat.le_of_ble_eq_true rfl) (v := fhw jsx) rfl gX4_held_5.2.2.2.1 ?_
              refine lv_topi (fun x1472 ex1472 => ?_)
              refine lv_goto (tgt := 96) hx hb gX4_held_5.2.2.2.2.1 (by decide) ?_
              refine toQ hQ0 ?_
              exact RP (v := x1472) hC (trivial) rfl gX4_held_5.2.2.2.2.2.2
            · refine lv_istore_n (lv' := [(3, .int 0), (0, .ref h0), (1, .int (nI jsx)), (2, .ref bb)]) hx hb gX4_held_4.2.2.2.2.2.2.2.1 rfl hl (by decide) rfl (fun ls hl => ?_)
              refine lv_iload_n hx hb gX4_held_4.2.2.2.2.2.2.2.2.1 rfl (lv_at0 hl) ?_
              refine lv_if_eq (tgt := 95) hx hb gX4_held_4.2.2.2.2.2.2.2.2.2 (by decide) (fun _ => ?_) (fun c9 => absurd (by decide) c9)
              refine lv_iconst (v := 4) hx hb gX4_held_5.2.2.2.2.2.1 (by decide) ?_
              refine toQ hQ0 ?_
              exact RP (v := 4) hC (trivial) rfl gX4_held_5.2.2.2.2.2.2
        · refine lv_aload_n hx hb gX4_held_2.2.2.2.2.2.2.1 rfl (lv_at3 hl) ?_
          refine gf_X4_58 hC rfl hK hP 3 rfl rfl gX4_held_2.2.2.2.2.2.2.2.1 ?_
          refine lv_aload_n hx hb gX4_held_2.2.2.2.2.2.2.2.2.1 rfl (lv_at1 hl) ?_
          refine gf_X4_24 hC rfl hK hP 0 rfl rfl gX4_held_2.2.2.2.2.2.2.2.2.2 ?_
          refine lv_iload_n hx hb gX4_held_3.1 rfl (lv_at2 hl) ?_
          refine aldN hC hK hP 2 rfl (k := jsx) (by omega) (Nat.le_of_ble_eq_true rfl) (v := fhn jsx) rfl gX4_held_3.2.1 ?_
          refine lv_topi (fun x1473 ex1473 => ?_)
          refine pV hC hK hl hP hD (c_T_has l G bsayings x1473 16 8 bsayingsc kbsayings) si_X4_53 [5] sm_5 fm_5 nd_5 rfl rfl rfl rfl rfl (Nat.le_of_ble_eq_true rfl) rm_3_1_2 ⟨by first | exact Nat.le_of_ble_eq_true rfl | exact Nat.zero_le _, by first | exact Nat.le_of_ble_eq_true rfl | exact Nat.zero_le _⟩ gX4_held_3.2.2.1 (Kors (Keqa fun a1475 => ?_) (Keqa fun a1475 => ?_))
          · refine lv_istore_n (lv' := [(3, .int 1), (0, .ref h0), (1, .int (nI jsx)), (2, .ref bb)]) hx hb gX4_held_3.2.2.2.1 rfl hl (by decide) rfl (fun ls hl => ?_)
            refine lv_aload_n hx hb gX4_held_3.2.2.2.2.1 rfl (lv_at1 hl) ?_
            refine gf_X4_21 hC rfl hK hP 0 rfl rfl gX4_held_3.2.2.2.2.2.1 ?_
            refine lv_iload_n hx hb gX4_held_3.2.2.2.2.2.2.1 rfl (lv_at2 hl) ?_
            refine aldN hC hK hP 1 rfl (k := jsx) (by omega) (Nat.le_of_ble_eq_true rfl) (v := fhw jsx) rfl gX4_held_3.2.2.2.2.2.2.2.1 ?_
            refine lv_topi (fun x1476 ex1476 => ?_)
            refine lv_iconst (v := 2) hx hb gX4_held_3.2.2.2.2.2.2.2.2.1 (by decide) ?_
            refine lv_icmp_ne (tgt := 82) hx hb gX4_held_3.2.2.2.2.2.2.2.2.2 (by decide) (fun c_65_1477 => ?_) (fun c_65_1477 => ?_)
            · refine lv_iload_n hx hb gX4_held_4.2.2.2.2.2.2.2.2.1 rfl (lv_at0 hl) ?_
              refine lv_if_eq (tgt := 95) hx hb gX4_held_4.2.2.2.2.2.2.2.2.2 (by decide) (fun c9 => absurd c9 (by decide)) (fun _ => ?_)
              refine lv_aload_n hx hb gX4_held_5.1 rfl (lv_at1 hl) ?_
              refine gf_X4_21 hC rfl hK hP 0 rfl rfl gX4_held_5.2.1 ?_
              refine lv_iload_n hx hb gX4_held_5.2.2.1 rfl (lv_at2 hl) ?_
              refine aldN hC hK hP 1 rfl (k := jsx) (by omega) (Nat.le_of_ble_eq_true rfl) (v := fhw jsx) rfl gX4_held_5.2.2.2.1 ?_
              refine lv_topi (fun x1478 ex1478 => ?_)
              refine lv_goto (tgt := 96) hx hb gX4_held_5.2.2.2.2.1 (by decide) ?_
              refine toQ hQ0 ?_
              exact RP (v := x1478) hC (trivial) rfl gX4_held_5.2.2.2.2.2.2
            · refine lv_aload_n hx hb gX4_held_4.1 rfl (lv_at3 hl) ?_
              refine gf_X4_61 hC rfl hK hP 3 rfl rfl gX4_held_4.2.1 ?_
              refine lv_aload_n hx hb gX4_held_4.2.2.1 rfl (lv_at1 hl) ?_
              refine gf_X4_24 hC rfl hK hP 0 rfl rfl gX4_held_4.2.2.2.1 ?_
              refine lv_iload_n hx hb gX4_held_4.2.2.2.2.1 rfl (lv_at2 hl) ?_
              refine aldN hC hK hP 2 rfl (k := jsx) (by omega) (Nat.le_of_ble_eq_true rfl) (v := fhn jsx) rfl gX4_held_4.2.2.2.2.2.1 ?_
              refine lv_topi (fun x1479 ex1479 => ?_)
              refine pV hC hK hl hP hD (c_T_has l G bfindings x1479 12 4 bfindingsc kbfindings) si_X4_53 [6] sm_6 fm_6 nd_6 rfl rfl rfl rfl rfl (Nat.le_of_ble_eq_true rfl) rm_3_1_2 ⟨by first | exact Nat.le_of_ble_eq_true rfl | exact Nat.zero_le _, by first | exact Nat.le_of_ble_eq_true rfl | exact Nat.zero_le _⟩ gX4_held_4.2.2.2.2.2.2.1 (Kors (Keqa fun a1481 => ?_) (Keqa fun a1481 => ?_))
              · refine lv_istore_n (lv' := [(3, .int 1), (0, .ref h0), (1, .int (nI jsx)), (2, .ref bb)]) hx hb gX4_held_4.2.2.2.2.2.2.2.1 rfl hl (by decide) rfl (fun ls hl => ?_)
                refine lv_iload_n hx hb gX4_held_4.2.2.2.2.2.2.2.2.1 rfl (lv_at0 hl) ?_
                refine lv_if_eq (tgt := 95) hx hb gX4_held_4.2.2.2.2.2.2.2.2.2 (by decide) (fun c9 => absurd c9 (by decide)) (fun _ => ?_)
                refine lv_aload_n hx hb gX4_held_5.1 rfl (lv_at1 hl) ?_
                refine gf_X4_21 hC rfl hK hP 0 rfl rfl gX4_held_5.2.1 ?_
                refine lv_iload_n hx hb gX4_held_5.2.2.1 rfl (lv_at2 hl) ?_
                refine aldN hC hK hP 1 rfl (k := jsx) (by omega) (Nat.le_of_ble_eq_true rfl) (v := fhw jsx) rfl gX4_held_5.2.2.2.1 ?_
                refine lv_topi (fun x1482 ex1482 => ?_)
                refine lv_goto (tgt := 96) hx hb gX4_held_5.2.2.2.2.1 (by decide) ?_
                refine toQ hQ0 ?_
                exact RP (v := x1482) hC (trivial) rfl gX4_held_5.2.2.2.2.2.2
              · refine lv_istore_n (lv' := [(3, .int 0), (0, .ref h0), (1, .int (nI jsx)), (2, .ref bb)]) hx hb gX4_held_4.2.2.2.2.2.2.2.1 rfl hl (by decide) rfl (fun ls hl => ?_)
                refine lv_iload_n hx hb gX4_held_4.2.2.2.2.2.2.2.2.1 rfl (lv_at0 hl) ?_
                refine lv_if_eq (tgt := 95) hx hb gX4_held_4.2.2.2.2.2.2.2.2.2 (by decide) (fun _ => ?_) (fun c9 => absurd (by decide) c9)
                refine lv_iconst (v := 4) hx hb gX4_held_5.2.2.2.2.2.1 (by decide) ?_
                refine toQ hQ0 ?_
                exact RP (v := 4) hC (trivial) rfl gX4_held_5.2.2.2.2.2.2
          · refine lv_istore_n (lv' := [(3, .int 0), (0, .ref h0), (1, .int (nI jsx)), (2, .ref bb)]) hx hb gX4_held_3.2.2.2.1 rfl hl (by decide) rfl (fun ls hl => ?_)
            refine lv_aload_n hx hb gX4_held_3.2.2.2.2.1 rfl (lv_at1 hl) ?_
            refine gf_X4_21 hC rfl hK hP 0 rfl rfl gX4_held_3.2.2.2.2.2.1 ?_
            refine lv_iload_n hx hb gX4_held_3.2.2.2.2.2.2.1 rfl (lv_at2 hl) ?_
            refine aldN hC hK hP 1 rfl (k := jsx) (by omega) (Nat.le_of_ble_eq_true rfl) (v := fhw jsx) rfl gX4_held_3.2.2.2.2.2.2.2.1 ?_
            refine lv_topi (fun x1483 ex1483 => ?_)
            refine lv_iconst (v := 2) hx hb gX4_held_3.2.2.2.2.2.2.2.2.1 (by decide) ?_
            refine lv_icmp_ne (tgt := 82) hx hb gX4_held_3.2.2.2.2.2.2.2.2.2 (by decide) (fun c_65_1484 => ?_) (fun c_65_1484 => ?_)
            · refine lv_iload_n hx hb gX4_held_4.2.2.2.2.2.2.2.2.1 rfl (lv_at0 hl) ?_
              refine lv_if_eq (tgt := 95) hx hb gX4_held_4.2.2.2.2.2.2.2.2.2 (by decide) (fun _ => ?_) (fun c9 => absurd (by decide) c9)
              refine lv_iconst (v := 4) hx hb gX4_held_5.2.2.2.2.2.1 (by decide) ?_
              refine toQ hQ0 ?_
              exact RP (v := 4) hC (trivial) rfl gX4_held_5.2.2.2.2.2.2
            · refine lv_aload_n hx hb gX4_held_4.1 rfl (lv_at3 hl) ?_
              refine gf_X4_61 hC rfl hK hP 3 rfl rfl gX4_held_4.2.1 ?_
              refine lv_aload_n hx hb gX4_held_4.2.2.1 rfl (lv_at1 hl) ?_
              refine gf_X4_24 hC rfl hK hP 0 rfl rfl gX4_held_4.2.2.2.1 ?_
              refine lv_iload_n hx hb gX4_held_4.2.2.2.2.1 rfl (lv_at2 hl) ?_
              refine aldN hC hK hP 2 rfl (k := jsx) (by omega) (Nat.le_of_ble_eq_true rfl) (v := fhn jsx) rfl gX4_held_4.2.2.2.2.2.1 ?_
              refine lv_topi (fun x1485 ex1485 => ?_)
              refine pV hC hK hl hP hD (c_T_has l G bfindings x1485 12 4 bfindingsc kbfindings) si_X4_53 [6] sm_6 fm_6 nd_6 rfl rfl rfl rfl rfl (Nat.le_of_ble_eq_true rfl) rm_3_1_2 ⟨by first | exact Nat.le_of_ble_eq_true rfl | exact Nat.zero_le _, by first | exact Nat.le_of_ble_eq_true rfl | exact Nat.zero_le _⟩ gX4_held_4.2.2.2.2.2.2.1 (Kors (Keqa fun a1487 => ?_) (Keqa fun a1487 => ?_))
              · refine lv_istore_n (lv' := [(3, .int 1), (0, .ref h0), (1, .int (nI jsx)), (2, .ref bb)]) hx hb gX4_held_4.2.2.2.2.2.2.2.1 rfl hl (by decide) rfl (fun ls hl => ?_)
                refine lv_iload_n hx hb gX4_held_4.2.2.2.2.2.2.2.2.1 rfl (lv_at0 hl) ?_
                refine lv_if_eq (tgt := 95) hx hb gX4_held_4.2.2.2.2.2.2.2.2.2 (by decide) (fun c9 => absurd c9 (by decide)) (fun _ => ?_)
                refine lv_aload_n hx hb gX4_held_5.1 rfl (lv_at1 hl) ?_
                refine gf_X4_21 hC rfl hK hP 0 rfl rfl gX4_held_5.2.1 ?_
                refine lv_iload_n hx hb gX4_held_5.2.2.1 rfl (lv_at2 hl) ?_
                refine aldN hC hK hP 1 rfl (k := jsx) (by omega) (Nat.le_of_ble_eq_true rfl) (v := fhw jsx) rfl gX4_held_5.2.2.2.1 ?_
                refine lv_topi (fun x1488 ex1488 => ?_)
                refine lv_goto (tgt := 96) hx hb gX4_held_5.2.2.2.2.1 (by decide) ?_
                refine toQ hQ0 ?_
                exact RP (v := x1488) hC (trivial) rfl gX4_held_5.2.2.2.2.2.2
              · refine lv_istore_n (lv' := [(3, .int 0), (0, .ref h0), (1, .int (nI jsx)), (2, .ref bb)]) hx hb gX4_held_4.2.2.2.2.2.2.2.1 rfl hl (by decide) rfl (fun ls hl => ?_)
                refine lv_iload_n hx hb gX4_held_4.2.2.2.2.2.2.2.2.1 rfl (lv_at0 hl) ?_
                refine lv_if_eq (tgt := 95) hx hb gX4_held_4.2.2.2.2.2.2.2.2.2 (by decide) (fun _ => ?_) (fun c9 => absurd (by decide) c9)
                refine lv_iconst (v := 4) hx hb gX4_held_5.2.2.2.2.2.1 (by decide) ?_
                refine toQ hQ0 ?_
                exact RP (v := 4) hC (trivial) rfl gX4_held_5.2.2.2.2.2.2
  · refine lv_if_ne (tgt := 9) hx hb gX4_held_0.2.2.1 (by decide) (fun c9 => absurd (by decide) c9) (fun _ => ?_)
    refine lv_iconst (v := 4) hx hb gX4_held_0.2.2.2.1 (by decide) ?_
    refine toQ hQ0 ?_
    exact RP (v := 4) hC (trivial) rfl gX4_held_0.2.2.2.2.1
def K_c_heldNumber (l : Launch) (G : GG) (h0 : Nat) (sx : Int32) (hs : Nat) (hz : Nat) (hi : Nat) (hw : Nat) (hn : Nat) (ht : Nat) (fhn : Nat → Int32) : Prop := MP l G yX4_heldNumber cX4_heldNumber 2 (some .int) 3 [.ref h0, .int sx] [(h0, oX4 hs hz hi hw hn ht), (hn, iA G 4 fhn)] (fun r : Int32 => True)
set_option maxHeartbeats 4000000 in
set_option maxRecDepth 100000 in
theorem c_heldNumber (l : Launch) (G : GG) (h0 : Nat) (sx : Int32) (hs : Nat) (hz : Nat) (hi : Nat) (hw : Nat) (hn : Nat) (ht : Nat) (fhn : Nat → Int32) : K_c_heldNumber l G h0 sx hs hz hi hw hn ht fhn := by
  refine MP.start (by decide +kernel) (Nat.le_of_ble_eq_true rfl) ?_
  intro p e s m below meth c ls hC hK hP hD hl
  refine absQ (fun Q0 hQ0 => ?_)
  have hl : lv_has ls 2 [(0, .ref h0), (1, .int sx)] := hl
  refine Kan8 hC (fun hx hb hr hml hB hown hlocks hnm => ?_)
  refine lv_iload_n hx hb gX4_heldNumber_0.1 rfl (lv_at1 hl) ?_
  refine pSN hC hK hl (c_isShelf l G sx) si_X4_41 rfl rfl (Nat.le_of_ble_eq_true rfl) rm_3_2_1 ⟨by first | exact Nat.le_of_ble_eq_true rfl | exact Nat.zero_le _, by first | exact Nat.le_of_ble_eq_true rfl | exact Nat.zero_le _⟩ gX4_heldNumber_0.2.1 (Kors (Keqa fun a1490 => ?_) (Keqa fun a1490 => ?_))
  · refine lv_if_eq (tgt := 16) hx hb gX4_heldNumber_0.2.2.1 (by decide) (fun c9 => absurd c9 (by decide)) (fun _ => ?_)
    obtain ⟨jsx, hjsx, rfl⟩ := Wi3 a1490
    refine lv_aload_n hx hb gX4_heldNumber_0.2.2.2.1 rfl (lv_at0 hl) ?_
    refine gf_X4_24 hC rfl hK hP 0 rfl rfl gX4_heldNumber_0.2.2.2.2.1 ?_
    refine lv_iload_n hx hb gX4_heldNumber_0.2.2.2.2.2.1 rfl (lv_at1 hl) ?_
    refine aldN hC hK hP 1 rfl (k := jsx) (by omega) (Nat.le_of_ble_eq_true rfl) (v := fhn jsx) rfl gX4_heldNumber_0.2.2.2.2.2.2.1 ?_
    refine lv_topi (fun x1491 ex1491 => ?_)
    refine lv_goto (tgt := 17) hx hb gX4_heldNumber_0.2.2.2.2.2.2.2.1 (by decide) ?_
    refine toQ hQ0 ?_
    exact RP (v := x1491) hC (trivial) rfl gX4_heldNumber_0.2.2.2.2.2.2.2.2.2
  · refine lv_if_eq (tgt := 16) hx hb gX4_heldNumber_0.2.2.1 (by decide) (fun _ => ?_) (fun c9 => absurd (by decide) c9)
    refine lv_iconst (v := 0) hx hb gX4_heldNumber_0.2.2.2.2.2.2.2.2.1 (by decide) ?_
    refine toQ hQ0 ?_
    exact RP (v := 0) hC (trivial) rfl gX4_heldNumber_0.2.2.2.2.2.2.2.2.2
def K_c_heldSort (l : Launch) (G : GG) (h0 : Nat) (sx : Int32) (hs : Nat) (hz : Nat) (hi : Nat) (hw : Nat) (hn : Nat) (ht : Nat) (fht : Nat → Int32) : Prop := MP l G yX4_heldSort cX4_heldSort 2 (some .int) 3 [.ref h0, .int sx] [(h0, oX4 hs hz hi hw hn ht), (ht, iA G 4 fht)] (fun r : Int32 => True)
set_option maxHeartbeats 4000000 in
set_option maxRecDepth 100000 in
theorem c_heldSort (l : Launch) (G : GG) (h0 : Nat) (sx : Int32) (hs : Nat) (hz : Nat) (hi : Nat) (hw : Nat) (hn : Nat) (ht : Nat) (fht : Nat → Int32) : K_c_heldSort l G h0 sx hs hz hi hw hn ht fht := by
  refine MP.start (by decide +kernel) (Nat.le_of_ble_eq_true rfl) ?_
  intro p e s m below meth c ls hC hK hP hD hl
  refine absQ (fun Q0 hQ0 => ?_)
  have hl : lv_has ls 2 [(0, .ref h0), (1, .int sx)] := hl
  refine Kan8 hC (fun hx hb hr hml hB hown hlocks hnm => ?_)
  refine lv_iload_n hx hb gX4_heldSort_0.1 rfl (lv_at1 hl) ?_
  refine pSN hC hK hl (c_isShelf l G sx) si_X4_41 rfl rfl (Nat.le_of_ble_eq_true rfl) rm_3_2_1 ⟨by first | exact Nat.le_of_ble_eq_true rfl | exact Nat.zero_le _, by first | exact Nat.le_of_ble_eq_true rfl | exact Nat.zero_le _⟩ gX4_heldSort_0.2.1 (Kors (Keqa fun a1493 => ?_) (Keqa fun a1493 => ?_))
  · refine lv_if_eq (tgt := 16) hx hb gX4_heldSort_0.2.2.1 (by decide) (fun c9 => absurd c9 (by decide)) (fun _ => ?_)
    obtain ⟨jsx, hjsx, rfl⟩ := Wi3 a1493
    refine lv_aload_n hx hb gX4_heldSort_0.2.2.2.1 rfl (lv_at0 hl) ?_
    refine gf_X4_27 hC rfl hK hP 0 rfl rfl gX4_heldSort_0.2.2.2.2.1 ?_
    refine lv_iload_n hx hb gX4_heldSort_0.2.2.2.2.2.1 rfl (lv_at1 hl) ?_
    refine aldN hC hK hP 1 rfl (k := jsx) (by omega) (Nat.le_of_ble_eq_true rfl) (v := fht jsx) rfl gX4_heldSort_0.2.2.2.2.2.2.1 ?_
    refine lv_topi (fun x1494 ex1494 => ?_)
    refine lv_goto (tgt := 17) hx hb gX4_heldSort_0.2.2.2.2.2.2.2.1 (by decide) ?_
    refine toQ hQ0 ?_
    exact RP (v := x1494) hC (trivial) rfl gX4_heldSort_0.2.2.2.2.2.2.2.2.2
  · refine lv_if_eq (tgt := 16) hx hb gX4_heldSort_0.2.2.1 (by decide) (fun _ => ?_) (fun c9 => absurd (by decide) c9)
    refine lv_iconst (v := (-1)) hx hb gX4_heldSort_0.2.2.2.2.2.2.2.2.1 (by decide) ?_
    refine toQ hQ0 ?_
    exact RP (v := (-1)) hC (trivial) rfl gX4_heldSort_0.2.2.2.2.2.2.2.2.2
