section WR
variable {p : Program} {l : Launch} {e : Env} {R : Room} {s : State} {m : MethodId} {args : Array Value} {below : List Frame} {meth : Method} {c : Code} {H : Heap} {locs : List Loc} {cells slots : Nat} {Q : State → Prop}
variable {pc : Nat} {ls : Array Slot} {rest : List Value} {G : GG} {ws : va_W} {A : Nat → Prop} {y0 : MethodName} {b0 : ByteArray} {mL0 : Nat} {rt0 : Option FieldType} {a : Nat} {H0 : Heap}
end WR
def Sn (pa : Int32) : Prop := ¬ pa < 0 ∧ ¬ 12 ≤ pa
theorem Sn_nat {v : Int32} (h : Sn v) : ∃ j, j < 12 ∧ v = nI j := by
  obtain ⟨j, hj, rfl⟩ := nI_of h.1
  have e : (12 : Int32) = nI 12 := rfl
  have h2 := h.2
  rw [e, nI_leI (by decide) hj] at h2
  exact ⟨j, by omega, rfl⟩
theorem Sn_nI {j : Nat} (h : j < 12) : Sn (nI j) := by
  have e : (12 : Int32) = nI 12 := rfl
  refine ⟨nI_pos (by omega), ?_⟩
  rw [e, nI_leI (by decide) (by omega)]
  omega
section WR
variable {p : Program} {l : Launch} {e : Env} {R : Room} {s : State} {m : MethodId} {args : Array Value} {below : List Frame} {meth : Method} {c : Code} {H : Heap} {locs : List Loc} {cells slots : Nat} {Q : State → Prop}
variable {pc : Nat} {ls : Array Slot} {rest : List Value} {G : GG} {ws : va_W} {A : Nat → Prop} {y0 : MethodName} {b0 : ByteArray} {mL0 : Nat} {rt0 : Option FieldType} {a : Nat} {H0 : Heap}
theorem gX7_ahead_0 : (decode cX7_ahead 0 = .ok (.iload_n 2, 1)) ∧ (decode cX7_ahead 1 = .ok (.ifCond .eq 15, 3)) ∧ (decode cX7_ahead 4 = .ok (.aload_n 0, 1)) ∧ (decode cX7_ahead 5 = .ok (.getfield 12, 3)) ∧ (decode cX7_ahead 8 = .ok (.iconst 0, 1)) ∧ (decode cX7_ahead 9 = .ok (.iload_n 1, 1)) ∧ (decode cX7_ahead 10 = .ok (.invokevirtual 87, 3)) ∧ (decode cX7_ahead 13 = .ok (.goto 13, 3)) ∧ (decode cX7_ahead 16 = .ok (.aload_n 0, 1)) ∧ (decode cX7_ahead 17 = .ok (.getfield 12, 3)) := by decide +kernel
theorem in_X7 : ∀ w ∈ wsX70, w ∈ BW := iB_wsX70
theorem m_176 : Cond.fieldLink RX7 12 "InquiryBench$Sight" "clocks" "LInquiryBench$Clocks;" ∈ BW := iB_BW9 _ (List.mem_of_getElem? (i := 14) rfl)
theorem gf_X7_12 (hC : CX p s m meth c y0 b0 mL0 rt0 args) (hy0 : y0.cls = RX7) (hK : KK G s) (hP : va_P G.1 vwCl ws H) (q0 : Nat) {fs : List Value} {v : Value} (he : ws[q0]? = some (a, .inr (7, fs))) (hv : fs[1]? = some v) (hdg : decode b0 pc = .ok (.getfield 12, 3)) (kk : W p l e R s m args below meth c H locs cells slots Q (F0 m (pc + 3) ls (v :: rest))) : W p l e R s m args below meth c H locs cells slots Q (F0 m pc ls (.ref a :: rest)) := by
  obtain ⟨hx, hb, hr, hml, hB, hown, hlocks, hnm⟩ := hC
  rw [hy0] at hown
  exact va_get (ci := 7) (C := RX7) (T := TX7) (N := 9) hx hb hB in_X7 hown hK.1 hP q0 he rfl 1 (by decide) (hB _ m_176) (fun _ h => h) hv hdg kk
theorem gX7_ahead_1 : (decode cX7_ahead 20 = .ok (.iload_n 1, 1)) ∧ (decode cX7_ahead 21 = .ok (.iconst 0, 1)) ∧ (decode cX7_ahead 22 = .ok (.invokevirtual 87, 3)) ∧ (decode cX7_ahead 25 = .ok (.ineg, 1)) ∧ (decode cX7_ahead 26 = .ok (.ireturn, 1)) := by decide +kernel
theorem m_485 : Cond.code yX1_mostAhead cX1_mostAhead 3 (some .int) ∈ BW := iB_BW26 _ (List.mem_of_getElem? (i := 9) rfl)
theorem m_482 : Cond.methodLink RX7 87 yX1_mostAhead ∈ BW := iB_BW26 _ (List.mem_of_getElem? (i := 6) rfl)
theorem m_483 : Cond.instanceMethod yX1_mostAhead ∈ BW := iB_BW26 _ (List.mem_of_getElem? (i := 7) rfl)
theorem m_484 : Cond.selects RX1 yX1_mostAhead yX1_mostAhead ∈ BW := iB_BW26 _ (List.mem_of_getElem? (i := 8) rfl)
theorem si_X7_87 : SV RX7 RX1 87 yX1_mostAhead cX1_mostAhead 3 (some .int) 2 := ⟨⟨m_482, m_483, m_484, m_107, m_485⟩, rfl, nK_RX1.1, nK_RX1.2, pd_2⟩
theorem gX7_isSent_0 : (decode cX7_isSent 0 = .ok (.aload_n 0, 1)) ∧ (decode cX7_isSent 1 = .ok (.getfield 41, 3)) ∧ (decode cX7_isSent 4 = .ok (.ifCond .ne 26, 3)) ∧ (decode cX7_isSent 7 = .ok (.iload_n 1, 1)) ∧ (decode cX7_isSent 8 = .ok (.ifCond .lt 22, 3)) ∧ (decode cX7_isSent 11 = .ok (.iload_n 1, 1)) ∧ (decode cX7_isSent 12 = .ok (.bipush 12, 2)) ∧ (decode cX7_isSent 14 = .ok (.if_icmp .ge 16, 3)) ∧ (decode cX7_isSent 17 = .ok (.aload_n 0, 1)) ∧ (decode cX7_isSent 18 = .ok (.getfield 22, 3)) := by decide +kernel
theorem m_183 : Cond.fieldLink RX7 41 "InquiryBench$Sight" "clash" "Z" ∈ BW := iB_BW10 _ (List.mem_of_getElem? (i := 1) rfl)
theorem gf_X7_41 (hC : CX p s m meth c y0 b0 mL0 rt0 args) (hy0 : y0.cls = RX7) (hK : KK G s) (hP : va_P G.1 vwCl ws H) (q0 : Nat) {fs : List Value} {v : Value} (he : ws[q0]? = some (a, .inr (7, fs))) (hv : fs[8]? = some v) (hdg : decode b0 pc = .ok (.getfield 41, 3)) (kk : W p l e R s m args below meth c H locs cells slots Q (F0 m (pc + 3) ls (v :: rest))) : W p l e R s m args below meth c H locs cells slots Q (F0 m pc ls (.ref a :: rest)) := by
  obtain ⟨hx, hb, hr, hml, hB, hown, hlocks, hnm⟩ := hC
  rw [hy0] at hown
  exact va_get (ci := 7) (C := RX7) (T := TX7) (N := 9) hx hb hB in_X7 hown hK.1 hP q0 he rfl 8 (by decide) (hB _ m_183) (fun _ h => h) hv hdg kk
theorem gX7_isSent_1 : (decode cX7_isSent 21 = .ok (.iload_n 1, 1)) ∧ (decode cX7_isSent 22 = .ok (.iaload, 1)) ∧ (decode cX7_isSent 23 = .ok (.ifCond .lt 7, 3)) ∧ (decode cX7_isSent 26 = .ok (.iconst 1, 1)) ∧ (decode cX7_isSent 27 = .ok (.goto 4, 3)) ∧ (decode cX7_isSent 30 = .ok (.iconst 0, 1)) ∧ (decode cX7_isSent 31 = .ok (.ireturn, 1)) := by decide +kernel
theorem m_178 : Cond.fieldLink RX7 22 "InquiryBench$Sight" "last" "[I" ∈ BW := iB_BW9 _ (List.mem_of_getElem? (i := 16) rfl)
theorem gf_X7_22 (hC : CX p s m meth c y0 b0 mL0 rt0 args) (hy0 : y0.cls = RX7) (hK : KK G s) (hP : va_P G.1 vwCl ws H) (q0 : Nat) {fs : List Value} {v : Value} (he : ws[q0]? = some (a, .inr (7, fs))) (hv : fs[3]? = some v) (hdg : decode b0 pc = .ok (.getfield 22, 3)) (kk : W p l e R s m args below meth c H locs cells slots Q (F0 m (pc + 3) ls (v :: rest))) : W p l e R s m args below meth c H locs cells slots Q (F0 m pc ls (.ref a :: rest)) := by
  obtain ⟨hx, hb, hr, hml, hB, hown, hlocks, hnm⟩ := hC
  rw [hy0] at hown
  exact va_get (ci := 7) (C := RX7) (T := TX7) (N := 9) hx hb hB in_X7 hown hK.1 hP q0 he rfl 3 (by decide) (hB _ m_178) (fun _ h => h) hv hdg kk
theorem gX7_sentHour_0 : (decode cX7_sentHour 0 = .ok (.aload_n 0, 1)) ∧ (decode cX7_sentHour 1 = .ok (.iload_n 1, 1)) ∧ (decode cX7_sentHour 2 = .ok (.invokevirtual 90, 3)) ∧ (decode cX7_sentHour 5 = .ok (.ifCond .ne 5, 3)) ∧ (decode cX7_sentHour 8 = .ok (.iconst 0, 1)) ∧ (decode cX7_sentHour 9 = .ok (.ireturn, 1)) ∧ (decode cX7_sentHour 10 = .ok (.iload_n 2, 1)) ∧ (decode cX7_sentHour 11 = .ok (.ifCond .eq 12, 3)) ∧ (decode cX7_sentHour 14 = .ok (.aload_n 0, 1)) ∧ (decode cX7_sentHour 15 = .ok (.getfield 34, 3)) := by decide +kernel
theorem m_505 : Cond.code yX7_isSent cX7_isSent 2 (some .boolean) ∈ BW := iB_BW27 _ (List.mem_of_getElem? (i := 9) rfl)
theorem m_106 : Cond.initialized RX7 ∈ BW := iB_BW6 _ (List.mem_of_getElem? (i := 4) rfl)
theorem nK_RX7 : RX7 ≠ "java/lang/invoke/MethodHandle" ∧ RX7 ≠ "java/lang/invoke/VarHandle" := ⟨by decide +kernel, by decide +kernel⟩
theorem pd_5 : (parseMethodDescriptor "(I)Z").map (fun d => d.parameters.length) = some 1 := by decide +kernel
theorem m_510 : Cond.methodLink RX7 90 yX7_isSent ∈ BW := iB_BW27 _ (List.mem_of_getElem? (i := 14) rfl)
theorem m_503 : Cond.instanceMethod yX7_isSent ∈ BW := iB_BW27 _ (List.mem_of_getElem? (i := 7) rfl)
theorem m_504 : Cond.selects RX7 yX7_isSent yX7_isSent ∈ BW := iB_BW27 _ (List.mem_of_getElem? (i := 8) rfl)
theorem si_X7_90 : SV RX7 RX7 90 yX7_isSent cX7_isSent 2 (some .boolean) 1 := ⟨⟨m_510, m_503, m_504, m_106, m_505⟩, rfl, nK_RX7.1, nK_RX7.2, pd_5⟩
theorem gX7_sentHour_1 : (decode cX7_sentHour 18 = .ok (.iload_n 1, 1)) ∧ (decode cX7_sentHour 19 = .ok (.iaload, 1)) ∧ (decode cX7_sentHour 20 = .ok (.goto 9, 3)) ∧ (decode cX7_sentHour 23 = .ok (.aload_n 0, 1)) ∧ (decode cX7_sentHour 24 = .ok (.getfield 31, 3)) ∧ (decode cX7_sentHour 27 = .ok (.iload_n 1, 1)) ∧ (decode cX7_sentHour 28 = .ok (.iaload, 1)) ∧ (decode cX7_sentHour 29 = .ok (.ireturn, 1)) := by decide +kernel
theorem m_181 : Cond.fieldLink RX7 31 "InquiryBench$Sight" "sentLeast" "[I" ∈ BW := iB_BW9 _ (List.mem_of_getElem? (i := 19) rfl)
theorem gf_X7_31 (hC : CX p s m meth c y0 b0 mL0 rt0 args) (hy0 : y0.cls = RX7) (hK : KK G s) (hP : va_P G.1 vwCl ws H) (q0 : Nat) {fs : List Value} {v : Value} (he : ws[q0]? = some (a, .inr (7, fs))) (hv : fs[6]? = some v) (hdg : decode b0 pc = .ok (.getfield 31, 3)) (kk : W p l e R s m args below meth c H locs cells slots Q (F0 m (pc + 3) ls (v :: rest))) : W p l e R s m args below meth c H locs cells slots Q (F0 m pc ls (.ref a :: rest)) := by
  obtain ⟨hx, hb, hr, hml, hB, hown, hlocks, hnm⟩ := hC
  rw [hy0] at hown
  exact va_get (ci := 7) (C := RX7) (T := TX7) (N := 9) hx hb hB in_X7 hown hK.1 hP q0 he rfl 6 (by decide) (hB _ m_181) (fun _ h => h) hv hdg kk
theorem m_182 : Cond.fieldLink RX7 34 "InquiryBench$Sight" "sentMost" "[I" ∈ BW := iB_BW10 _ (List.mem_of_getElem? (i := 0) rfl)
theorem gf_X7_34 (hC : CX p s m meth c y0 b0 mL0 rt0 args) (hy0 : y0.cls = RX7) (hK : KK G s) (hP : va_P G.1 vwCl ws H) (q0 : Nat) {fs : List Value} {v : Value} (he : ws[q0]? = some (a, .inr (7, fs))) (hv : fs[7]? = some v) (hdg : decode b0 pc = .ok (.getfield 34, 3)) (kk : W p l e R s m args below meth c H locs cells slots Q (F0 m (pc + 3) ls (v :: rest))) : W p l e R s m args below meth c H locs cells slots Q (F0 m pc ls (.ref a :: rest)) := by
  obtain ⟨hx, hb, hr, hml, hB, hown, hlocks, hnm⟩ := hC
  rw [hy0] at hown
  exact va_get (ci := 7) (C := RX7) (T := TX7) (N := 9) hx hb hB in_X7 hown hK.1 hP q0 he rfl 7 (by decide) (hB _ m_182) (fun _ h => h) hv hdg kk
theorem gX7_trueHour_0 : (decode cX7_trueHour 0 = .ok (.aload_n 0, 1)) ∧ (decode cX7_trueHour 1 = .ok (.getfield 37, 3)) ∧ (decode cX7_trueHour 4 = .ok (.getfield 48, 3)) ∧ (decode cX7_trueHour 7 = .ok (.iload_n 1, 1)) ∧ (decode cX7_trueHour 8 = .ok (.iconst 1, 1)) ∧ (decode cX7_trueHour 9 = .ok (.invokevirtual 60, 3)) ∧ (decode cX7_trueHour 12 = .ok (.istore_n 3, 1)) ∧ (decode cX7_trueHour 13 = .ok (.iload_n 2, 1)) ∧ (decode cX7_trueHour 14 = .ok (.ifCond .eq 15, 3)) ∧ (decode cX7_trueHour 17 = .ok (.aload_n 0, 1)) := by decide +kernel
theorem m_175 : Cond.fieldLink RX7 37 "InquiryBench$Sight" "book" "LInquiryBench$Book;" ∈ BW := iB_BW9 _ (List.mem_of_getElem? (i := 13) rfl)
theorem gf_X7_37 (hC : CX p s m meth c y0 b0 mL0 rt0 args) (hy0 : y0.cls = RX7) (hK : KK G s) (hP : va_P G.1 vwCl ws H) (q0 : Nat) {fs : List Value} {v : Value} (he : ws[q0]? = some (a, .inr (7, fs))) (hv : fs[0]? = some v) (hdg : decode b0 pc = .ok (.getfield 37, 3)) (kk : W p l e R s m args below meth c H locs cells slots Q (F0 m (pc + 3) ls (v :: rest))) : W p l e R s m args below meth c H locs cells slots Q (F0 m pc ls (.ref a :: rest)) := by
  obtain ⟨hx, hb, hr, hml, hB, hown, hlocks, hnm⟩ := hC
  rw [hy0] at hown
  exact va_get (ci := 7) (C := RX7) (T := TX7) (N := 9) hx hb hB in_X7 hown hK.1 hP q0 he rfl 0 (by decide) (hB _ m_175) (fun _ h => h) hv hdg kk
theorem nm_9 : Cond.fieldLinkNest RX7 48 RX0 "stamps" "LInquiryBench$Table;" RX11 ∈ NestW := List.mem_of_getElem? (i := 9) rfl
theorem gf_X7_48 (hC : CX p s m meth c y0 b0 mL0 rt0 args) (hy0 : y0.cls = RX7) (hK : KK G s) (hP : va_P G.1 vwCl ws H) (q0 : Nat) {fs : List Value} {v : Value} (he : ws[q0]? = some (a, .inr (0, fs))) (hv : fs[2]? = some v) (hdg : decode b0 pc = .ok (.getfield 48, 3)) (kk : W p l e R s m args below meth c H locs cells slots Q (F0 m (pc + 3) ls (v :: rest))) : W p l e R s m args below meth c H locs cells slots Q (F0 m pc ls (.ref a :: rest)) := by
  obtain ⟨hx, hb, hr, hml, hB, hown, hlocks, hnm⟩ := hC
  rw [hy0] at hown
  exact va_getN (ci := 0) (C := RX0) (T := TX0) (N := 14) hx hb hB in_X0 hown hK.1 hP q0 he rfl 2 (by decide) (va_Nw.use rfl (hK.2.1 _ nm_9)) (fun _ h => h) hv hdg kk
theorem m_474 : Cond.methodLink RX7 60 yX8_at ∈ BW := iB_BW25 _ (List.mem_of_getElem? (i := 18) rfl)
theorem si_X7_60 : SV RX7 RX8 60 yX8_at cX8_at 3 (some .int) 2 := ⟨⟨m_474, m_312, m_313, m_104, m_314⟩, rfl, nK_RX8.1, nK_RX8.2, pd_2⟩
theorem gX7_trueHour_1 : (decode cX7_trueHour 18 = .ok (.getfield 12, 3)) ∧ (decode cX7_trueHour 21 = .ok (.iload_n 3, 1)) ∧ (decode cX7_trueHour 22 = .ok (.iconst 0, 1)) ∧ (decode cX7_trueHour 23 = .ok (.invokevirtual 87, 3)) ∧ (decode cX7_trueHour 26 = .ok (.goto 13, 3)) ∧ (decode cX7_trueHour 29 = .ok (.aload_n 0, 1)) ∧ (decode cX7_trueHour 30 = .ok (.getfield 12, 3)) ∧ (decode cX7_trueHour 33 = .ok (.iconst 0, 1)) ∧ (decode cX7_trueHour 34 = .ok (.iload_n 3, 1)) ∧ (decode cX7_trueHour 35 = .ok (.invokevirtual 87, 3)) := by decide +kernel
theorem gX7_trueHour_2 : (decode cX7_trueHour 38 = .ok (.ineg, 1)) ∧ (decode cX7_trueHour 39 = .ok (.istore 4, 2)) ∧ (decode cX7_trueHour 41 = .ok (.aload_n 0, 1)) ∧ (decode cX7_trueHour 42 = .ok (.getfield 37, 3)) ∧ (decode cX7_trueHour 45 = .ok (.getfield 48, 3)) ∧ (decode cX7_trueHour 48 = .ok (.iload_n 1, 1)) ∧ (decode cX7_trueHour 49 = .ok (.iconst 2, 1)) ∧ (decode cX7_trueHour 50 = .ok (.invokevirtual 60, 3)) ∧ (decode cX7_trueHour 53 = .ok (.iload 4, 2)) ∧ (decode cX7_trueHour 55 = .ok (.iadd, 1)) := by decide +kernel
theorem gX7_trueHour_3 : (decode cX7_trueHour 56 = .ok (.ireturn, 1)) := by decide +kernel
theorem gX7_isInHand_0 : (decode cX7_isInHand 0 = .ok (.aload_n 0, 1)) ∧ (decode cX7_isInHand 1 = .ok (.iload_n 1, 1)) ∧ (decode cX7_isInHand 2 = .ok (.invokevirtual 90, 3)) ∧ (decode cX7_isInHand 5 = .ok (.ifCond .eq 42, 3)) ∧ (decode cX7_isInHand 8 = .ok (.aload_n 0, 1)) ∧ (decode cX7_isInHand 9 = .ok (.getfield 37, 3)) ∧ (decode cX7_isInHand 12 = .ok (.getfield 94, 3)) ∧ (decode cX7_isInHand 15 = .ok (.iload_n 1, 1)) ∧ (decode cX7_isInHand 16 = .ok (.iconst 0, 1)) ∧ (decode cX7_isInHand 17 = .ok (.invokevirtual 60, 3)) := by decide +kernel
theorem nm_7 : Cond.fieldLinkNest RX7 94 RX0 "papers" "LInquiryBench$Table;" RX11 ∈ NestW := List.mem_of_getElem? (i := 7) rfl
theorem gf_X7_94 (hC : CX p s m meth c y0 b0 mL0 rt0 args) (hy0 : y0.cls = RX7) (hK : KK G s) (hP : va_P G.1 vwCl ws H) (q0 : Nat) {fs : List Value} {v : Value} (he : ws[q0]? = some (a, .inr (0, fs))) (hv : fs[1]? = some v) (hdg : decode b0 pc = .ok (.getfield 94, 3)) (kk : W p l e R s m args below meth c H locs cells slots Q (F0 m (pc + 3) ls (v :: rest))) : W p l e R s m args below meth c H locs cells slots Q (F0 m pc ls (.ref a :: rest)) := by
  obtain ⟨hx, hb, hr, hml, hB, hown, hlocks, hnm⟩ := hC
  rw [hy0] at hown
  exact va_getN (ci := 0) (C := RX0) (T := TX0) (N := 14) hx hb hB in_X0 hown hK.1 hP q0 he rfl 1 (by decide) (va_Nw.use rfl (hK.2.1 _ nm_7)) (fun _ h => h) hv hdg kk
theorem gX7_isInHand_1 : (decode cX7_isInHand 20 = .ok (.iload_n 2, 1)) ∧ (decode cX7_isInHand 21 = .ok (.if_icmp .eq 22, 3)) ∧ (decode cX7_isInHand 24 = .ok (.aload_n 0, 1)) ∧ (decode cX7_isInHand 25 = .ok (.getfield 37, 3)) ∧ (decode cX7_isInHand 28 = .ok (.getfield 94, 3)) ∧ (decode cX7_isInHand 31 = .ok (.iload_n 1, 1)) ∧ (decode cX7_isInHand 32 = .ok (.iconst 1, 1)) ∧ (decode cX7_isInHand 33 = .ok (.invokevirtual 60, 3)) ∧ (decode cX7_isInHand 36 = .ok (.iload_n 2, 1)) ∧ (decode cX7_isInHand 37 = .ok (.invokestatic 68, 3)) := by decide +kernel
theorem gX7_isInHand_2 : (decode cX7_isInHand 40 = .ok (.ifCond .eq 7, 3)) ∧ (decode cX7_isInHand 43 = .ok (.iconst 1, 1)) ∧ (decode cX7_isInHand 44 = .ok (.goto 4, 3)) ∧ (decode cX7_isInHand 47 = .ok (.iconst 0, 1)) ∧ (decode cX7_isInHand 48 = .ok (.ireturn, 1)) := by decide +kernel
theorem nm_47 : Cond.methodLinkNest RX7 68 yX11_hasBit RX11 ∈ NestW := List.mem_of_getElem? (i := 47) rfl
theorem si_X7_68 : SSN RX7 RX11 68 yX11_hasBit cX11_hasBit 2 (some .boolean) 2 := ⟨⟨nm_47, m_350, m_102, m_351⟩, ⟨nK_RX11.1, nK_RX11.2, pd_3⟩⟩
theorem gX7_handHour_0 : (decode cX7_handHour 0 = .ok (.aload_n 0, 1)) ∧ (decode cX7_handHour 1 = .ok (.iload_n 1, 1)) ∧ (decode cX7_handHour 2 = .ok (.invokevirtual 90, 3)) ∧ (decode cX7_handHour 5 = .ok (.ifCond .ne 5, 3)) ∧ (decode cX7_handHour 8 = .ok (.iconst 0, 1)) ∧ (decode cX7_handHour 9 = .ok (.ireturn, 1)) ∧ (decode cX7_handHour 10 = .ok (.aload_n 0, 1)) ∧ (decode cX7_handHour 11 = .ok (.getfield 37, 3)) ∧ (decode cX7_handHour 14 = .ok (.getfield 94, 3)) ∧ (decode cX7_handHour 17 = .ok (.iload_n 1, 1)) := by decide +kernel
theorem gX7_handHour_1 : (decode cX7_handHour 18 = .ok (.iconst 0, 1)) ∧ (decode cX7_handHour 19 = .ok (.invokevirtual 60, 3)) ∧ (decode cX7_handHour 22 = .ok (.iload_n 2, 1)) ∧ (decode cX7_handHour 23 = .ok (.if_icmp .ne 23, 3)) ∧ (decode cX7_handHour 26 = .ok (.iload_n 3, 1)) ∧ (decode cX7_handHour 27 = .ok (.ifCond .eq 12, 3)) ∧ (decode cX7_handHour 30 = .ok (.aload_n 0, 1)) ∧ (decode cX7_handHour 31 = .ok (.getfield 28, 3)) ∧ (decode cX7_handHour 34 = .ok (.iload_n 1, 1)) ∧ (decode cX7_handHour 35 = .ok (.iaload, 1)) := by decide +kernel
theorem gX7_handHour_2 : (decode cX7_handHour 36 = .ok (.goto 9, 3)) ∧ (decode cX7_handHour 39 = .ok (.aload_n 0, 1)) ∧ (decode cX7_handHour 40 = .ok (.getfield 25, 3)) ∧ (decode cX7_handHour 43 = .ok (.iload_n 1, 1)) ∧ (decode cX7_handHour 44 = .ok (.iaload, 1)) ∧ (decode cX7_handHour 45 = .ok (.ireturn, 1)) ∧ (decode cX7_handHour 46 = .ok (.iload_n 3, 1)) ∧ (decode cX7_handHour 47 = .ok (.ifCond .eq 25, 3)) ∧ (decode cX7_handHour 50 = .ok (.aload_n 0, 1)) ∧ (decode cX7_handHour 51 = .ok (.getfield 34, 3)) := by decide +kernel
theorem gX7_handHour_4 : (decode cX7_handHour 72 = .ok (.aload_n 0, 1)) ∧ (decode cX7_handHour 73 = .ok (.getfield 31, 3)) ∧ (decode cX7_handHour 76 = .ok (.iload_n 1, 1)) ∧ (decode cX7_handHour 77 = .ok (.iaload, 1)) ∧ (decode cX7_handHour 78 = .ok (.ireturn, 1)) := by decide +kernel
theorem gX7_handHour_3 : (decode cX7_handHour 54 = .ok (.iload_n 1, 1)) ∧ (decode cX7_handHour 55 = .ok (.iaload, 1)) ∧ (decode cX7_handHour 56 = .ok (.aload_n 0, 1)) ∧ (decode cX7_handHour 57 = .ok (.getfield 37, 3)) ∧ (decode cX7_handHour 60 = .ok (.getfield 97, 3)) ∧ (decode cX7_handHour 63 = .ok (.iload_n 2, 1)) ∧ (decode cX7_handHour 64 = .ok (.iconst 1, 1)) ∧ (decode cX7_handHour 65 = .ok (.invokevirtual 60, 3)) ∧ (decode cX7_handHour 68 = .ok (.iadd, 1)) ∧ (decode cX7_handHour 69 = .ok (.goto 9, 3)) := by decide +kernel
theorem nm_3 : Cond.fieldLinkNest RX7 97 RX0 "persons" "LInquiryBench$Table;" RX11 ∈ NestW := List.mem_of_getElem? (i := 3) rfl
theorem gf_X7_97 (hC : CX p s m meth c y0 b0 mL0 rt0 args) (hy0 : y0.cls = RX7) (hK : KK G s) (hP : va_P G.1 vwCl ws H) (q0 : Nat) {fs : List Value} {v : Value} (he : ws[q0]? = some (a, .inr (0, fs))) (hv : fs[0]? = some v) (hdg : decode b0 pc = .ok (.getfield 97, 3)) (kk : W p l e R s m args below meth c H locs cells slots Q (F0 m (pc + 3) ls (v :: rest))) : W p l e R s m args below meth c H locs cells slots Q (F0 m pc ls (.ref a :: rest)) := by
  obtain ⟨hx, hb, hr, hml, hB, hown, hlocks, hnm⟩ := hC
  rw [hy0] at hown
  exact va_getN (ci := 0) (C := RX0) (T := TX0) (N := 14) hx hb hB in_X0 hown hK.1 hP q0 he rfl 0 (by decide) (va_Nw.use rfl (hK.2.1 _ nm_3)) (fun _ h => h) hv hdg kk
theorem m_179 : Cond.fieldLink RX7 25 "InquiryBench$Sight" "madeLeast" "[I" ∈ BW := iB_BW9 _ (List.mem_of_getElem? (i := 17) rfl)
theorem gf_X7_25 (hC : CX p s m meth c y0 b0 mL0 rt0 args) (hy0 : y0.cls = RX7) (hK : KK G s) (hP : va_P G.1 vwCl ws H) (q0 : Nat) {fs : List Value} {v : Value} (he : ws[q0]? = some (a, .inr (7, fs))) (hv : fs[4]? = some v) (hdg : decode b0 pc = .ok (.getfield 25, 3)) (kk : W p l e R s m args below meth c H locs cells slots Q (F0 m (pc + 3) ls (v :: rest))) : W p l e R s m args below meth c H locs cells slots Q (F0 m pc ls (.ref a :: rest)) := by
  obtain ⟨hx, hb, hr, hml, hB, hown, hlocks, hnm⟩ := hC
  rw [hy0] at hown
  exact va_get (ci := 7) (C := RX7) (T := TX7) (N := 9) hx hb hB in_X7 hown hK.1 hP q0 he rfl 4 (by decide) (hB _ m_179) (fun _ h => h) hv hdg kk
theorem m_180 : Cond.fieldLink RX7 28 "InquiryBench$Sight" "madeMost" "[I" ∈ BW := iB_BW9 _ (List.mem_of_getElem? (i := 18) rfl)
theorem gf_X7_28 (hC : CX p s m meth c y0 b0 mL0 rt0 args) (hy0 : y0.cls = RX7) (hK : KK G s) (hP : va_P G.1 vwCl ws H) (q0 : Nat) {fs : List Value} {v : Value} (he : ws[q0]? = some (a, .inr (7, fs))) (hv : fs[5]? = some v) (hdg : decode b0 pc = .ok (.getfield 28, 3)) (kk : W p l e R s m args below meth c H locs cells slots Q (F0 m (pc + 3) ls (v :: rest))) : W p l e R s m args below meth c H locs cells slots Q (F0 m pc ls (.ref a :: rest)) := by
  obtain ⟨hx, hb, hr, hml, hB, hown, hlocks, hnm⟩ := hC
  rw [hy0] at hown
  exact va_get (ci := 7) (C := RX7) (T := TX7) (N := 9) hx hb hB in_X7 hown hK.1 hP q0 he rfl 5 (by decide) (hB _ m_180) (fun _ h => h) hv hdg kk
theorem gX7_toldHour_0 : (decode cX7_toldHour 0 = .ok (.ldc 100, 2)) ∧ (decode cX7_toldHour 2 = .ok (.istore 4, 2)) ∧ (decode cX7_toldHour 4 = .ok (.iconst 0, 1)) ∧ (decode cX7_toldHour 5 = .ok (.istore 5, 2)) ∧ (decode cX7_toldHour 7 = .ok (.iload 5, 2)) ∧ (decode cX7_toldHour 9 = .ok (.aload_n 0, 1)) ∧ (decode cX7_toldHour 10 = .ok (.getfield 37, 3)) ∧ (decode cX7_toldHour 13 = .ok (.getfield 94, 3)) ∧ (decode cX7_toldHour 16 = .ok (.invokevirtual 54, 3)) ∧ (decode cX7_toldHour 19 = .ok (.if_icmp .ge 57, 3)) := by decide +kernel
theorem m_558 : Cond.constant RX7 100 (1000000) ∈ BW := iB_BW30 _ (List.mem_of_getElem? (i := 2) rfl)
theorem m_473 : Cond.methodLink RX7 54 yX8_count ∈ BW := iB_BW25 _ (List.mem_of_getElem? (i := 17) rfl)
theorem si_X7_54 : SV RX7 RX8 54 yX8_count cX8_count 1 (some .int) 0 := ⟨⟨m_473, m_308, m_309, m_104, m_310⟩, rfl, nK_RX8.1, nK_RX8.2, pd_1⟩
theorem gX7_toldHour_3 : (decode cX7_toldHour 62 = .ok (.invokevirtual 104, 3)) ∧ (decode cX7_toldHour 65 = .ok (.invokestatic 108, 3)) ∧ (decode cX7_toldHour 68 = .ok (.istore 4, 2)) ∧ (decode cX7_toldHour 70 = .ok (.iinc 5 1, 3)) ∧ (decode cX7_toldHour 73 = .ok (.goto (-66), 3)) ∧ (decode cX7_toldHour 76 = .ok (.iload 4, 2)) ∧ (decode cX7_toldHour 78 = .ok (.ireturn, 1)) := by decide +kernel
theorem gX7_toldHour_1 : (decode cX7_toldHour 22 = .ok (.aload_n 0, 1)) ∧ (decode cX7_toldHour 23 = .ok (.getfield 37, 3)) ∧ (decode cX7_toldHour 26 = .ok (.getfield 94, 3)) ∧ (decode cX7_toldHour 29 = .ok (.iload 5, 2)) ∧ (decode cX7_toldHour 31 = .ok (.iconst 2, 1)) ∧ (decode cX7_toldHour 32 = .ok (.invokevirtual 60, 3)) ∧ (decode cX7_toldHour 35 = .ok (.iload_n 2, 1)) ∧ (decode cX7_toldHour 36 = .ok (.invokestatic 68, 3)) ∧ (decode cX7_toldHour 39 = .ok (.ifCond .eq 31, 3)) ∧ (decode cX7_toldHour 42 = .ok (.aload_n 0, 1)) := by decide +kernel
theorem gX7_toldHour_2 : (decode cX7_toldHour 43 = .ok (.iload 5, 2)) ∧ (decode cX7_toldHour 45 = .ok (.iload_n 1, 1)) ∧ (decode cX7_toldHour 46 = .ok (.invokevirtual 101, 3)) ∧ (decode cX7_toldHour 49 = .ok (.ifCond .ne 6, 3)) ∧ (decode cX7_toldHour 52 = .ok (.goto 18, 3)) ∧ (decode cX7_toldHour 55 = .ok (.iload 4, 2)) ∧ (decode cX7_toldHour 57 = .ok (.aload_n 0, 1)) ∧ (decode cX7_toldHour 58 = .ok (.iload 5, 2)) ∧ (decode cX7_toldHour 60 = .ok (.iload_n 1, 1)) ∧ (decode cX7_toldHour 61 = .ok (.iload_n 3, 1)) := by decide +kernel
theorem m_518 : Cond.code yX7_isInHand cX7_isInHand 3 (some .boolean) ∈ BW := iB_BW28 _ (List.mem_of_getElem? (i := 2) rfl)
theorem m_559 : Cond.methodLink RX7 101 yX7_isInHand ∈ BW := iB_BW30 _ (List.mem_of_getElem? (i := 3) rfl)
theorem m_516 : Cond.instanceMethod yX7_isInHand ∈ BW := iB_BW28 _ (List.mem_of_getElem? (i := 0) rfl)
theorem m_517 : Cond.selects RX7 yX7_isInHand yX7_isInHand ∈ BW := iB_BW28 _ (List.mem_of_getElem? (i := 1) rfl)
theorem si_X7_101 : SV RX7 RX7 101 yX7_isInHand cX7_isInHand 3 (some .boolean) 2 := ⟨⟨m_559, m_516, m_517, m_106, m_518⟩, rfl, nK_RX7.1, nK_RX7.2, pd_3⟩
theorem m_522 : Cond.code yX7_handHour cX7_handHour 4 (some .int) ∈ BW := iB_BW28 _ (List.mem_of_getElem? (i := 6) rfl)
theorem pd_6 : (parseMethodDescriptor "(IIZ)I").map (fun d => d.parameters.length) = some 3 := by decide +kernel
theorem m_560 : Cond.methodLink RX7 104 yX7_handHour ∈ BW := iB_BW30 _ (List.mem_of_getElem? (i := 4) rfl)
theorem m_520 : Cond.instanceMethod yX7_handHour ∈ BW := iB_BW28 _ (List.mem_of_getElem? (i := 4) rfl)
theorem m_521 : Cond.selects RX7 yX7_handHour yX7_handHour ∈ BW := iB_BW28 _ (List.mem_of_getElem? (i := 5) rfl)
theorem si_X7_104 : SV RX7 RX7 104 yX7_handHour cX7_handHour 4 (some .int) 3 := ⟨⟨m_560, m_520, m_521, m_106, m_522⟩, rfl, nK_RX7.1, nK_RX7.2, pd_6⟩
theorem m_561 : Cond.methodLink RX7 108 Lib.Math.min.name ∈ BW := iB_BW30 _ (List.mem_of_getElem? (i := 5) rfl)
theorem m_373 : Cond.static Lib.Math.min.name ∈ BW := iB_BW20 _ (List.mem_of_getElem? (i := 17) rfl)
theorem m_105 : Cond.initialized "java/lang/Math" ∈ BW := iB_BW6 _ (List.mem_of_getElem? (i := 3) rfl)
theorem m_374 : Cond.code Lib.Math.min.name Lib.Math.min.code 2 (some .int) ∈ BW := iB_BW20 _ (List.mem_of_getElem? (i := 18) rfl)
theorem gX7_clockOf_0 : (decode cX7_clockOf 0 = .ok (.iload_n 1, 1)) ∧ (decode cX7_clockOf 1 = .ok (.iconst 0, 1)) ∧ (decode cX7_clockOf 2 = .ok (.bipush 11, 2)) ∧ (decode cX7_clockOf 4 = .ok (.invokestatic 64, 3)) ∧ (decode cX7_clockOf 7 = .ok (.ifCond .eq 23, 3)) ∧ (decode cX7_clockOf 10 = .ok (.aload_n 0, 1)) ∧ (decode cX7_clockOf 11 = .ok (.getfield 37, 3)) ∧ (decode cX7_clockOf 14 = .ok (.getfield 48, 3)) ∧ (decode cX7_clockOf 17 = .ok (.aload_n 0, 1)) ∧ (decode cX7_clockOf 18 = .ok (.getfield 22, 3)) := by decide +kernel
theorem nm_46 : Cond.methodLinkNest RX7 64 yX11_within RX11 ∈ NestW := List.mem_of_getElem? (i := 46) rfl
theorem si_X7_64 : SSN RX7 RX11 64 yX11_within cX11_within 3 (some .boolean) 3 := ⟨⟨nm_46, m_293, m_102, m_294⟩, ⟨nK_RX11.1, nK_RX11.2, pd_0⟩⟩
theorem gX7_clockOf_1 : (decode cX7_clockOf 21 = .ok (.iload_n 1, 1)) ∧ (decode cX7_clockOf 22 = .ok (.iaload, 1)) ∧ (decode cX7_clockOf 23 = .ok (.iconst 1, 1)) ∧ (decode cX7_clockOf 24 = .ok (.invokevirtual 60, 3)) ∧ (decode cX7_clockOf 27 = .ok (.goto 4, 3)) ∧ (decode cX7_clockOf 30 = .ok (.iconst 0, 1)) ∧ (decode cX7_clockOf 31 = .ok (.ireturn, 1)) := by decide +kernel
theorem gX7_readBetween_0 : (decode cX7_readBetween 0 = .ok (.aload_n 0, 1)) ∧ (decode cX7_readBetween 1 = .ok (.iload_n 1, 1)) ∧ (decode cX7_readBetween 2 = .ok (.invokevirtual 90, 3)) ∧ (decode cX7_readBetween 5 = .ok (.ifCond .eq 11, 3)) ∧ (decode cX7_readBetween 8 = .ok (.aload_n 0, 1)) ∧ (decode cX7_readBetween 9 = .ok (.iload_n 2, 1)) ∧ (decode cX7_readBetween 10 = .ok (.invokevirtual 90, 3)) ∧ (decode cX7_readBetween 13 = .ok (.ifCond .ne 5, 3)) ∧ (decode cX7_readBetween 16 = .ok (.iconst 0, 1)) ∧ (decode cX7_readBetween 17 = .ok (.ireturn, 1)) := by decide +kernel
theorem gX7_readBetween_1 : (decode cX7_readBetween 18 = .ok (.aload_n 0, 1)) ∧ (decode cX7_readBetween 19 = .ok (.getfield 37, 3)) ∧ (decode cX7_readBetween 22 = .ok (.getfield 48, 3)) ∧ (decode cX7_readBetween 25 = .ok (.aload_n 0, 1)) ∧ (decode cX7_readBetween 26 = .ok (.getfield 22, 3)) ∧ (decode cX7_readBetween 29 = .ok (.iload_n 2, 1)) ∧ (decode cX7_readBetween 30 = .ok (.iaload, 1)) ∧ (decode cX7_readBetween 31 = .ok (.iconst 2, 1)) ∧ (decode cX7_readBetween 32 = .ok (.invokevirtual 60, 3)) ∧ (decode cX7_readBetween 35 = .ok (.aload_n 0, 1)) := by decide +kernel
theorem gX7_readBetween_2 : (decode cX7_readBetween 36 = .ok (.getfield 37, 3)) ∧ (decode cX7_readBetween 39 = .ok (.getfield 48, 3)) ∧ (decode cX7_readBetween 42 = .ok (.aload_n 0, 1)) ∧ (decode cX7_readBetween 43 = .ok (.getfield 22, 3)) ∧ (decode cX7_readBetween 46 = .ok (.iload_n 1, 1)) ∧ (decode cX7_readBetween 47 = .ok (.iaload, 1)) ∧ (decode cX7_readBetween 48 = .ok (.iconst 2, 1)) ∧ (decode cX7_readBetween 49 = .ok (.invokevirtual 60, 3)) ∧ (decode cX7_readBetween 52 = .ok (.isub, 1)) ∧ (decode cX7_readBetween 53 = .ok (.ireturn, 1)) := by decide +kernel
theorem gX7_leastBetween_0 : (decode cX7_leastBetween 0 = .ok (.aload_n 0, 1)) ∧ (decode cX7_leastBetween 1 = .ok (.iload_n 1, 1)) ∧ (decode cX7_leastBetween 2 = .ok (.iload_n 2, 1)) ∧ (decode cX7_leastBetween 3 = .ok (.invokevirtual 113, 3)) ∧ (decode cX7_leastBetween 6 = .ok (.aload_n 0, 1)) ∧ (decode cX7_leastBetween 7 = .ok (.getfield 12, 3)) ∧ (decode cX7_leastBetween 10 = .ok (.aload_n 0, 1)) ∧ (decode cX7_leastBetween 11 = .ok (.iload_n 1, 1)) ∧ (decode cX7_leastBetween 12 = .ok (.invokevirtual 116, 3)) ∧ (decode cX7_leastBetween 15 = .ok (.aload_n 0, 1)) := by decide +kernel
theorem m_533 : Cond.code yX7_readBetween cX7_readBetween 3 (some .int) ∈ BW := iB_BW28 _ (List.mem_of_getElem? (i := 17) rfl)
theorem m_531 : Cond.methodLink RX7 113 yX7_readBetween ∈ BW := iB_BW28 _ (List.mem_of_getElem? (i := 15) rfl)
theorem m_532 : Cond.instanceMethod yX7_readBetween ∈ BW := iB_BW28 _ (List.mem_of_getElem? (i := 16) rfl)
theorem m_6 : Cond.selects RX7 yX7_readBetween yX7_readBetween ∈ BW := iB_BW0 _ (List.mem_of_getElem? (i := 6) rfl)
theorem si_X7_113 : SV RX7 RX7 113 yX7_readBetween cX7_readBetween 3 (some .int) 2 := ⟨⟨m_531, m_532, m_6, m_106, m_533⟩, rfl, nK_RX7.1, nK_RX7.2, pd_2⟩
theorem m_536 : Cond.code yX7_clockOf cX7_clockOf 2 (some .int) ∈ BW := iB_BW29 _ (List.mem_of_getElem? (i := 0) rfl)
theorem pd_7 : (parseMethodDescriptor "(I)I").map (fun d => d.parameters.length) = some 1 := by decide +kernel
theorem m_534 : Cond.methodLink RX7 116 yX7_clockOf ∈ BW := iB_BW28 _ (List.mem_of_getElem? (i := 18) rfl)
theorem m_535 : Cond.instanceMethod yX7_clockOf ∈ BW := iB_BW28 _ (List.mem_of_getElem? (i := 19) rfl)
theorem m_7 : Cond.selects RX7 yX7_clockOf yX7_clockOf ∈ BW := iB_BW0 _ (List.mem_of_getElem? (i := 7) rfl)
theorem si_X7_116 : SV RX7 RX7 116 yX7_clockOf cX7_clockOf 2 (some .int) 1 := ⟨⟨m_534, m_535, m_7, m_106, m_536⟩, rfl, nK_RX7.1, nK_RX7.2, pd_7⟩
theorem gX7_leastBetween_1 : (decode cX7_leastBetween 16 = .ok (.iload_n 2, 1)) ∧ (decode cX7_leastBetween 17 = .ok (.invokevirtual 116, 3)) ∧ (decode cX7_leastBetween 20 = .ok (.invokevirtual 87, 3)) ∧ (decode cX7_leastBetween 23 = .ok (.isub, 1)) ∧ (decode cX7_leastBetween 24 = .ok (.ireturn, 1)) := by decide +kernel
theorem gX7_mostBetween_0 : (decode cX7_mostBetween 0 = .ok (.aload_n 0, 1)) ∧ (decode cX7_mostBetween 1 = .ok (.iload_n 1, 1)) ∧ (decode cX7_mostBetween 2 = .ok (.iload_n 2, 1)) ∧ (decode cX7_mostBetween 3 = .ok (.invokevirtual 113, 3)) ∧ (decode cX7_mostBetween 6 = .ok (.aload_n 0, 1)) ∧ (decode cX7_mostBetween 7 = .ok (.getfield 12, 3)) ∧ (decode cX7_mostBetween 10 = .ok (.aload_n 0, 1)) ∧ (decode cX7_mostBetween 11 = .ok (.iload_n 2, 1)) ∧ (decode cX7_mostBetween 12 = .ok (.invokevirtual 116, 3)) ∧ (decode cX7_mostBetween 15 = .ok (.aload_n 0, 1)) := by decide +kernel
theorem gX7_mostBetween_1 : (decode cX7_mostBetween 16 = .ok (.iload_n 1, 1)) ∧ (decode cX7_mostBetween 17 = .ok (.invokevirtual 116, 3)) ∧ (decode cX7_mostBetween 20 = .ok (.invokevirtual 87, 3)) ∧ (decode cX7_mostBetween 23 = .ok (.iadd, 1)) ∧ (decode cX7_mostBetween 24 = .ok (.ireturn, 1)) := by decide +kernel
theorem gX7_boundHours_0 : (decode cX7_boundHours 0 = .ok (.iconst 0, 1)) ∧ (decode cX7_boundHours 1 = .ok (.istore_n 1, 1)) ∧ (decode cX7_boundHours 2 = .ok (.iload_n 1, 1)) ∧ (decode cX7_boundHours 3 = .ok (.bipush 12, 2)) ∧ (decode cX7_boundHours 5 = .ok (.if_icmp .ge 89, 3)) ∧ (decode cX7_boundHours 8 = .ok (.aload_n 0, 1)) ∧ (decode cX7_boundHours 9 = .ok (.getfield 22, 3)) ∧ (decode cX7_boundHours 12 = .ok (.iload_n 1, 1)) ∧ (decode cX7_boundHours 13 = .ok (.iaload, 1)) ∧ (decode cX7_boundHours 14 = .ok (.ifCond .ge 6, 3)) := by decide +kernel
theorem gX7_boundHours_5 : (decode cX7_boundHours 81 = .ok (.iload_n 1, 1)) ∧ (decode cX7_boundHours 82 = .ok (.iaload, 1)) ∧ (decode cX7_boundHours 83 = .ok (.iconst 1, 1)) ∧ (decode cX7_boundHours 84 = .ok (.invokevirtual 83, 3)) ∧ (decode cX7_boundHours 87 = .ok (.iastore, 1)) ∧ (decode cX7_boundHours 88 = .ok (.iinc 1 1, 3)) ∧ (decode cX7_boundHours 91 = .ok (.goto (-89), 3)) ∧ (decode cX7_boundHours 94 = .ok (.return_, 1)) := by decide +kernel
theorem gX7_boundHours_1 : (decode cX7_boundHours 17 = .ok (.goto 71, 3)) ∧ (decode cX7_boundHours 20 = .ok (.aload_n 0, 1)) ∧ (decode cX7_boundHours 21 = .ok (.getfield 25, 3)) ∧ (decode cX7_boundHours 24 = .ok (.iload_n 1, 1)) ∧ (decode cX7_boundHours 25 = .ok (.aload_n 0, 1)) ∧ (decode cX7_boundHours 26 = .ok (.aload_n 0, 1)) ∧ (decode cX7_boundHours 27 = .ok (.getfield 18, 3)) ∧ (decode cX7_boundHours 30 = .ok (.iload_n 1, 1)) ∧ (decode cX7_boundHours 31 = .ok (.iaload, 1)) ∧ (decode cX7_boundHours 32 = .ok (.iconst 0, 1)) := by decide +kernel
theorem m_177 : Cond.fieldLink RX7 18 "InquiryBench$Sight" "first" "[I" ∈ BW := iB_BW9 _ (List.mem_of_getElem? (i := 15) rfl)
theorem gf_X7_18 (hC : CX p s m meth c y0 b0 mL0 rt0 args) (hy0 : y0.cls = RX7) (hK : KK G s) (hP : va_P G.1 vwCl ws H) (q0 : Nat) {fs : List Value} {v : Value} (he : ws[q0]? = some (a, .inr (7, fs))) (hv : fs[2]? = some v) (hdg : decode b0 pc = .ok (.getfield 18, 3)) (kk : W p l e R s m args below meth c H locs cells slots Q (F0 m (pc + 3) ls (v :: rest))) : W p l e R s m args below meth c H locs cells slots Q (F0 m pc ls (.ref a :: rest)) := by
  obtain ⟨hx, hb, hr, hml, hB, hown, hlocks, hnm⟩ := hC
  rw [hy0] at hown
  exact va_get (ci := 7) (C := RX7) (T := TX7) (N := 9) hx hb hB in_X7 hown hK.1 hP q0 he rfl 2 (by decide) (hB _ m_177) (fun _ h => h) hv hdg kk
theorem gX7_boundHours_2 : (decode cX7_boundHours 33 = .ok (.invokevirtual 83, 3)) ∧ (decode cX7_boundHours 36 = .ok (.iastore, 1)) ∧ (decode cX7_boundHours 37 = .ok (.aload_n 0, 1)) ∧ (decode cX7_boundHours 38 = .ok (.getfield 28, 3)) ∧ (decode cX7_boundHours 41 = .ok (.iload_n 1, 1)) ∧ (decode cX7_boundHours 42 = .ok (.aload_n 0, 1)) ∧ (decode cX7_boundHours 43 = .ok (.aload_n 0, 1)) ∧ (decode cX7_boundHours 44 = .ok (.getfield 18, 3)) ∧ (decode cX7_boundHours 47 = .ok (.iload_n 1, 1)) ∧ (decode cX7_boundHours 48 = .ok (.iaload, 1)) := by decide +kernel
theorem m_481 : Cond.code yX7_trueHour cX7_trueHour 5 (some .int) ∈ BW := iB_BW26 _ (List.mem_of_getElem? (i := 5) rfl)
theorem pd_8 : (parseMethodDescriptor "(IZ)I").map (fun d => d.parameters.length) = some 2 := by decide +kernel
theorem m_479 : Cond.methodLink RX7 83 yX7_trueHour ∈ BW := iB_BW26 _ (List.mem_of_getElem? (i := 3) rfl)
theorem m_480 : Cond.instanceMethod yX7_trueHour ∈ BW := iB_BW26 _ (List.mem_of_getElem? (i := 4) rfl)
theorem m_5 : Cond.selects RX7 yX7_trueHour yX7_trueHour ∈ BW := iB_BW0 _ (List.mem_of_getElem? (i := 5) rfl)
theorem si_X7_83 : SV RX7 RX7 83 yX7_trueHour cX7_trueHour 5 (some .int) 2 := ⟨⟨m_479, m_480, m_5, m_106, m_481⟩, rfl, nK_RX7.1, nK_RX7.2, pd_8⟩
theorem gX7_boundHours_3 : (decode cX7_boundHours 49 = .ok (.iconst 1, 1)) ∧ (decode cX7_boundHours 50 = .ok (.invokevirtual 83, 3)) ∧ (decode cX7_boundHours 53 = .ok (.iastore, 1)) ∧ (decode cX7_boundHours 54 = .ok (.aload_n 0, 1)) ∧ (decode cX7_boundHours 55 = .ok (.getfield 31, 3)) ∧ (decode cX7_boundHours 58 = .ok (.iload_n 1, 1)) ∧ (decode cX7_boundHours 59 = .ok (.aload_n 0, 1)) ∧ (decode cX7_boundHours 60 = .ok (.aload_n 0, 1)) ∧ (decode cX7_boundHours 61 = .ok (.getfield 22, 3)) ∧ (decode cX7_boundHours 64 = .ok (.iload_n 1, 1)) := by decide +kernel
theorem gX7_boundHours_4 : (decode cX7_boundHours 65 = .ok (.iaload, 1)) ∧ (decode cX7_boundHours 66 = .ok (.iconst 0, 1)) ∧ (decode cX7_boundHours 67 = .ok (.invokevirtual 83, 3)) ∧ (decode cX7_boundHours 70 = .ok (.iastore, 1)) ∧ (decode cX7_boundHours 71 = .ok (.aload_n 0, 1)) ∧ (decode cX7_boundHours 72 = .ok (.getfield 34, 3)) ∧ (decode cX7_boundHours 75 = .ok (.iload_n 1, 1)) ∧ (decode cX7_boundHours 76 = .ok (.aload_n 0, 1)) ∧ (decode cX7_boundHours 77 = .ok (.aload_n 0, 1)) ∧ (decode cX7_boundHours 78 = .ok (.getfield 22, 3)) := by decide +kernel
end WR
theorem rm_2_1_2 {mc ms : Nat} : 1 + 1 ≤ (RM 2 mc ms).frames ∧ 8 + (2 + 11) + 40 * 1 ≤ (RM 2 mc ms).locals := ⟨by show 1 + 1 ≤ 2; decide, by show 8 + (2 + 11) + 40 * 1 ≤ 40 * 2; decide⟩
theorem sm_4_5 {a0 a1 a2 a3 a4 a5 : Nat × va_E} {l : va_W} : ([4, 5] : List Nat).map (fun i => (a0 :: a1 :: a2 :: a3 :: a4 :: a5 :: l : va_W)[i]?) = ([a4, a5] : va_W).map some := rfl
theorem fm_4_5 {a0 a1 a2 a3 a4 a5 : Nat × va_E} {l : va_W} : ([4, 5] : List Nat).filterMap (fun i => (a0 :: a1 :: a2 :: a3 :: a4 :: a5 :: l : va_W)[i]?) = ([a4, a5] : va_W) := rfl
theorem nd_4_5 : va_nd [4, 5] = true := by decide
theorem sm_3_4 {a0 a1 a2 a3 a4 : Nat × va_E} {l : va_W} : ([3, 4] : List Nat).map (fun i => (a0 :: a1 :: a2 :: a3 :: a4 :: l : va_W)[i]?) = ([a3, a4] : va_W).map some := rfl
theorem fm_3_4 {a0 a1 a2 a3 a4 : Nat × va_E} {l : va_W} : ([3, 4] : List Nat).filterMap (fun i => (a0 :: a1 :: a2 :: a3 :: a4 :: l : va_W)[i]?) = ([a3, a4] : va_W) := rfl
theorem nd_3_4 : va_nd [3, 4] = true := by decide
theorem sm_7_8 {a0 a1 a2 a3 a4 a5 a6 a7 a8 : Nat × va_E} {l : va_W} : ([7, 8] : List Nat).map (fun i => (a0 :: a1 :: a2 :: a3 :: a4 :: a5 :: a6 :: a7 :: a8 :: l : va_W)[i]?) = ([a7, a8] : va_W).map some := rfl
theorem fm_7_8 {a0 a1 a2 a3 a4 a5 a6 a7 a8 : Nat × va_E} {l : va_W} : ([7, 8] : List Nat).filterMap (fun i => (a0 :: a1 :: a2 :: a3 :: a4 :: a5 :: a6 :: a7 :: a8 :: l : va_W)[i]?) = ([a7, a8] : va_W) := rfl
theorem nd_7_8 : va_nd [7, 8] = true := by decide
theorem sm_9_10 {a0 a1 a2 a3 a4 a5 a6 a7 a8 a9 a10 : Nat × va_E} {l : va_W} : ([9, 10] : List Nat).map (fun i => (a0 :: a1 :: a2 :: a3 :: a4 :: a5 :: a6 :: a7 :: a8 :: a9 :: a10 :: l : va_W)[i]?) = ([a9, a10] : va_W).map some := rfl
theorem fm_9_10 {a0 a1 a2 a3 a4 a5 a6 a7 a8 a9 a10 : Nat × va_E} {l : va_W} : ([9, 10] : List Nat).filterMap (fun i => (a0 :: a1 :: a2 :: a3 :: a4 :: a5 :: a6 :: a7 :: a8 :: a9 :: a10 :: l : va_W)[i]?) = ([a9, a10] : va_W) := rfl
theorem nd_9_10 : va_nd [9, 10] = true := by decide
theorem sm_7 {a0 a1 a2 a3 a4 a5 a6 a7 : Nat × va_E} {l : va_W} : ([7] : List Nat).map (fun i => (a0 :: a1 :: a2 :: a3 :: a4 :: a5 :: a6 :: a7 :: l : va_W)[i]?) = ([a7] : va_W).map some := rfl
theorem fm_7 {a0 a1 a2 a3 a4 a5 a6 a7 : Nat × va_E} {l : va_W} : ([7] : List Nat).filterMap (fun i => (a0 :: a1 :: a2 :: a3 :: a4 :: a5 :: a6 :: a7 :: l : va_W)[i]?) = ([a7] : va_W) := rfl
theorem nd_7 : va_nd [7] = true := by decide
theorem rm_4_1_2 {mc ms : Nat} : 1 + 1 ≤ (RM 4 mc ms).frames ∧ 8 + (2 + 11) + 40 * 1 ≤ (RM 4 mc ms).locals := ⟨by show 1 + 1 ≤ 4; decide, by show 8 + (2 + 11) + 40 * 1 ≤ 40 * 4; decide⟩
theorem sm_0_1_6_7_8 {a0 a1 a2 a3 a4 a5 a6 a7 a8 : Nat × va_E} {l : va_W} : ([0, 1, 6, 7, 8] : List Nat).map (fun i => (a0 :: a1 :: a2 :: a3 :: a4 :: a5 :: a6 :: a7 :: a8 :: l : va_W)[i]?) = ([a0, a1, a6, a7, a8] : va_W).map some := rfl
theorem fm_0_1_6_7_8 {a0 a1 a2 a3 a4 a5 a6 a7 a8 : Nat × va_E} {l : va_W} : ([0, 1, 6, 7, 8] : List Nat).filterMap (fun i => (a0 :: a1 :: a2 :: a3 :: a4 :: a5 :: a6 :: a7 :: a8 :: l : va_W)[i]?) = ([a0, a1, a6, a7, a8] : va_W) := rfl
theorem nd_0_1_6_7_8 : va_nd [0, 1, 6, 7, 8] = true := by decide
theorem rm_4_3_4 {mc ms : Nat} : 3 + 1 ≤ (RM 4 mc ms).frames ∧ 8 + (4 + 11) + 40 * 3 ≤ (RM 4 mc ms).locals := ⟨by show 3 + 1 ≤ 4; decide, by show 8 + (4 + 11) + 40 * 3 ≤ 40 * 4; decide⟩
theorem sm_0_1_2_3_4_5_6_7_8_9_10 {a0 a1 a2 a3 a4 a5 a6 a7 a8 a9 a10 : Nat × va_E} {l : va_W} : ([0, 1, 2, 3, 4, 5, 6, 7, 8, 9, 10] : List Nat).map (fun i => (a0 :: a1 :: a2 :: a3 :: a4 :: a5 :: a6 :: a7 :: a8 :: a9 :: a10 :: l : va_W)[i]?) = ([a0, a1, a2, a3, a4, a5, a6, a7, a8, a9, a10] : va_W).map some := rfl
theorem fm_0_1_2_3_4_5_6_7_8_9_10 {a0 a1 a2 a3 a4 a5 a6 a7 a8 a9 a10 : Nat × va_E} {l : va_W} : ([0, 1, 2, 3, 4, 5, 6, 7, 8, 9, 10] : List Nat).filterMap (fun i => (a0 :: a1 :: a2 :: a3 :: a4 :: a5 :: a6 :: a7 :: a8 :: a9 :: a10 :: l : va_W)[i]?) = ([a0, a1, a2, a3, a4, a5, a6, a7, a8, a9, a10] : va_W) := rfl
theorem nd_0_1_2_3_4_5_6_7_8_9_10 : va_nd [0, 1, 2, 3, 4, 5, 6, 7, 8, 9, 10] = true := by decide
theorem sm_0_1_4_5_6 {a0 a1 a2 a3 a4 a5 a6 : Nat × va_E} {l : va_W} : ([0, 1, 4, 5, 6] : List Nat).map (fun i => (a0 :: a1 :: a2 :: a3 :: a4 :: a5 :: a6 :: l : va_W)[i]?) = ([a0, a1, a4, a5, a6] : va_W).map some := rfl
theorem fm_0_1_4_5_6 {a0 a1 a2 a3 a4 a5 a6 : Nat × va_E} {l : va_W} : ([0, 1, 4, 5, 6] : List Nat).filterMap (fun i => (a0 :: a1 :: a2 :: a3 :: a4 :: a5 :: a6 :: l : va_W)[i]?) = ([a0, a1, a4, a5, a6] : va_W) := rfl
theorem nd_0_1_4_5_6 : va_nd [0, 1, 4, 5, 6] = true := by decide
theorem rm_4_3_2 {mc ms : Nat} : 3 + 1 ≤ (RM 4 mc ms).frames ∧ 8 + (2 + 11) + 40 * 3 ≤ (RM 4 mc ms).locals := ⟨by show 3 + 1 ≤ 4; decide, by show 8 + (2 + 11) + 40 * 3 ≤ 40 * 4; decide⟩
theorem rm_4_3_5 {mc ms : Nat} : 3 + 1 ≤ (RM 4 mc ms).frames ∧ 8 + (5 + 11) + 40 * 3 ≤ (RM 4 mc ms).locals := ⟨by show 3 + 1 ≤ 4; decide, by show 8 + (5 + 11) + 40 * 3 ≤ 40 * 4; decide⟩
theorem sm_0_7_8_9_10_11 {a0 a1 a2 a3 a4 a5 a6 a7 a8 a9 a10 a11 : Nat × va_E} {l : va_W} : ([0, 7, 8, 9, 10, 11] : List Nat).map (fun i => (a0 :: a1 :: a2 :: a3 :: a4 :: a5 :: a6 :: a7 :: a8 :: a9 :: a10 :: a11 :: l : va_W)[i]?) = ([a0, a7, a8, a9, a10, a11] : va_W).map some := rfl
theorem fm_0_7_8_9_10_11 {a0 a1 a2 a3 a4 a5 a6 a7 a8 a9 a10 a11 : Nat × va_E} {l : va_W} : ([0, 7, 8, 9, 10, 11] : List Nat).filterMap (fun i => (a0 :: a1 :: a2 :: a3 :: a4 :: a5 :: a6 :: a7 :: a8 :: a9 :: a10 :: a11 :: l : va_W)[i]?) = ([a0, a7, a8, a9, a10, a11] : va_W) := rfl
theorem nd_0_7_8_9_10_11 : va_nd [0, 7, 8, 9, 10, 11] = true := by decide
def K_c_ahead (l : Launch) (G : GG) (h0 : Nat) (ck : Int32) (mo : Int32) (bb : Nat) (clk : Nat) (fi : Nat) (la : Nat) (ml : Nat) (mm : Nat) (sl : Nat) (sm : Nat) (cl : Int32) (clm : Nat) (fclm : Nat → Int32) : Prop := MP l G yX7_ahead cX7_ahead 3 (some .int) 2 [.ref h0, .int ck, .int mo] [(h0, oX7 bb clk fi la ml mm sl sm cl), (clk, oX1 clm), (clm, iA G 36 fclm)] (fun r : Int32 => True)
set_option maxHeartbeats 4000000 in
set_option maxRecDepth 100000 in
theorem c_ahead (l : Launch) (G : GG) (h0 : Nat) (ck : Int32) (mo : Int32) (bb : Nat) (clk : Nat) (fi : Nat) (la : Nat) (ml : Nat) (mm : Nat) (sl : Nat) (sm : Nat) (cl : Int32) (clm : Nat) (fclm : Nat → Int32) : K_c_ahead l G h0 ck mo bb clk fi la ml mm sl sm cl clm fclm := by
  refine MP.start (by decide +kernel) (Nat.le_of_ble_eq_true rfl) ?_
  intro p e s m below meth c ls hC hK hP hD hl
  refine absQ (fun Q0 hQ0 => ?_)
  have hl : lv_has ls 3 [(0, .ref h0), (1, .int ck), (2, .int mo)] := hl
  refine Kan8 hC (fun hx hb hr hml hB hown hlocks hnm => ?_)
  refine lv_iload_n hx hb gX7_ahead_0.1 rfl (lv_at2 hl) ?_
  refine lv_if_eq (tgt := 16) hx hb gX7_ahead_0.2.1 (by decide) (fun c_1_255 => ?_) (fun c_1_255 => ?_)
  · refine lv_aload_n hx hb gX7_ahead_0.2.2.2.2.2.2.2.2.1 rfl (lv_at0 hl) ?_
    refine gf_X7_12 hC rfl hK hP 0 rfl rfl gX7_ahead_0.2.2.2.2.2.2.2.2.2 ?_
    refine lv_iload_n hx hb gX7_ahead_1.1 rfl (lv_at1 hl) ?_
    refine lv_iconst (v := 0) hx hb gX7_ahead_1.2.1 (by decide) ?_
    refine pV hC hK hl hP hD (c_mostAhead l G clk ck 0 clm fclm) si_X7_87 [1, 2] sm_1_2 fm_1_2 nd_1_2 rfl rfl rfl rfl rfl (Nat.le_of_ble_eq_true rfl) rm_2_1_3 ⟨by first | exact Nat.le_of_ble_eq_true rfl | exact Nat.zero_le _, by first | exact Nat.le_of_ble_eq_true rfl | exact Nat.zero_le _⟩ gX7_ahead_1.2.2.1 (fun r256 hr256 => ?_)
    refine lv_ineg hx hb gX7_ahead_1.2.2.2.1 ?_
    refine toQ hQ0 ?_
    exact RP (v := -r256) hC (trivial) rfl gX7_ahead_1.2.2.2.2
  · refine lv_aload_n hx hb gX7_ahead_0.2.2.1 rfl (lv_at0 hl) ?_
    refine gf_X7_12 hC rfl hK hP 0 rfl rfl gX7_ahead_0.2.2.2.1 ?_
    refine lv_iconst (v := 0) hx hb gX7_ahead_0.2.2.2.2.1 (by decide) ?_
    refine lv_iload_n hx hb gX7_ahead_0.2.2.2.2.2.1 rfl (lv_at1 hl) ?_
    refine pV hC hK hl hP hD (c_mostAhead l G clk 0 ck clm fclm) si_X7_87 [1, 2] sm_1_2 fm_1_2 nd_1_2 rfl rfl rfl rfl rfl (Nat.le_of_ble_eq_true rfl) rm_2_1_3 ⟨by first | exact Nat.le_of_ble_eq_true rfl | exact Nat.zero_le _, by first | exact Nat.le_of_ble_eq_true rfl | exact Nat.zero_le _⟩ gX7_ahead_0.2.2.2.2.2.2.1 (fun r257 hr257 => ?_)
    refine lv_goto (tgt := 26) hx hb gX7_ahead_0.2.2.2.2.2.2.2.1 (by decide) ?_
    refine toQ hQ0 ?_
    exact RP (v := r257) hC (trivial) rfl gX7_ahead_1.2.2.2.2
def K_c_isSent (l : Launch) (G : GG) (h0 : Nat) (pa : Int32) (bb : Nat) (clk : Nat) (fi : Nat) (la : Nat) (ml : Nat) (mm : Nat) (sl : Nat) (sm : Nat) (cl : Int32) (fla : Nat → Int32) : Prop := MP l G yX7_isSent cX7_isSent 2 (some .boolean) 1 [.ref h0, .int pa] [(h0, oX7 bb clk fi la ml mm sl sm cl), (la, iA G 12 fla)] (fun r : Int32 => (r = 1 ∧ Sn pa) ∨ r = 0)
set_option maxHeartbeats 4000000 in
set_option maxRecDepth 100000 in
theorem c_isSent (l : Launch) (G : GG) (h0 : Nat) (pa : Int32) (bb : Nat) (clk : Nat) (fi : Nat) (la : Nat) (ml : Nat) (mm : Nat) (sl : Nat) (sm : Nat) (cl : Int32) (fla : Nat → Int32) : K_c_isSent l G h0 pa bb clk fi la ml mm sl sm cl fla := by
  refine MP.start (by decide +kernel) (Nat.le_of_ble_eq_true rfl) ?_
  intro p e s m below meth c ls hC hK hP hD hl
  refine absQ (fun Q0 hQ0 => ?_)
  have hl : lv_has ls 2 [(0, .ref h0), (1, .int pa)] := hl
  refine Kan8 hC (fun hx hb hr hml hB hown hlocks hnm => ?_)
  refine lv_aload_n hx hb gX7_isSent_0.1 rfl (lv_at0 hl) ?_
  refine gf_X7_41 hC rfl hK hP 0 rfl rfl gX7_isSent_0.2.1 ?_
  refine lv_if_ne (tgt := 30) hx hb gX7_isSent_0.2.2.1 (by decide) (fun c_4_258 => ?_) (fun c_4_258 => ?_)
  · refine lv_iconst (v := 0) hx hb gX7_isSent_1.2.2.2.2.2.1 (by decide) ?_
    refine toQ hQ0 ?_
    exact RP (v := 0) hC (Or.inr rfl) (by decide +kernel) gX7_isSent_1.2.2.2.2.2.2
  · refine lv_iload_n hx hb gX7_isSent_0.2.2.2.1 rfl (lv_at1 hl) ?_
    refine lv_if_lt (tgt := 30) hx hb gX7_isSent_0.2.2.2.2.1 (by decide) (fun c_8_259 => ?_) (fun c_8_259 => ?_)
    · refine lv_iconst (v := 0) hx hb gX7_isSent_1.2.2.2.2.2.1 (by decide) ?_
      refine toQ hQ0 ?_
      exact RP (v := 0) hC (Or.inr rfl) (by decide +kernel) gX7_isSent_1.2.2.2.2.2.2
    · refine lv_iload_n hx hb gX7_isSent_0.2.2.2.2.2.1 rfl (lv_at1 hl) ?_
      refine lv_bipush (v := 12) hx hb gX7_isSent_0.2.2.2.2.2.2.1 (by decide) ?_
      refine lv_icmp_ge (tgt := 30) hx hb gX7_isSent_0.2.2.2.2.2.2.2.1 (by decide) (fun c_14_260 => ?_) (fun c_14_260 => ?_)
      · refine lv_iconst (v := 0) hx hb gX7_isSent_1.2.2.2.2.2.1 (by decide) ?_
        refine toQ hQ0 ?_
        exact RP (v := 0) hC (Or.inr rfl) (by decide +kernel) gX7_isSent_1.2.2.2.2.2.2
      · obtain ⟨jp, hjp, rfl⟩ := Sn_nat ⟨c_8_259, c_14_260⟩
        refine lv_aload_n hx hb gX7_isSent_0.2.2.2.2.2.2.2.2.1 rfl (lv_at0 hl) ?_
        refine gf_X7_22 hC rfl hK hP 0 rfl rfl gX7_isSent_0.2.2.2.2.2.2.2.2.2 ?_
        refine lv_iload_n hx hb gX7_isSent_1.1 rfl (lv_at1 hl) ?_
        refine aldN hC hK hP 1 rfl (k := jp) (by omega) (Nat.le_of_ble_eq_true rfl) (v := fla jp) rfl gX7_isSent_1.2.1 ?_
        refine lv_topi (fun x261 ex261 => ?_)
        refine lv_if_lt (tgt := 30) hx hb gX7_isSent_1.2.2.1 (by decide) (fun c_23_262 => ?_) (fun c_23_262 => ?_)
        · refine lv_iconst (v := 0) hx hb gX7_isSent_1.2.2.2.2.2.1 (by decide) ?_
          refine toQ hQ0 ?_
          exact RP (v := 0) hC (Or.inr rfl) (by decide +kernel) gX7_isSent_1.2.2.2.2.2.2
        · refine lv_iconst (v := 1) hx hb gX7_isSent_1.2.2.2.1 (by decide) ?_
          refine lv_goto (tgt := 31) hx hb gX7_isSent_1.2.2.2.2.1 (by decide) ?_
          refine toQ hQ0 ?_
          exact RP (v := 1) hC (Or.inl ⟨rfl, Sn_nI (by omega)⟩) (by decide +kernel) gX7_isSent_1.2.2.2.2.2.2
def K_c_sentHour (l : Launch) (G : GG) (h0 : Nat) (pa : Int32) (mo : Int32) (bb : Nat) (clk : Nat) (fi : Nat) (la : Nat) (ml : Nat) (mm : Nat) (sl : Nat) (sm : Nat) (cl : Int32) (fla : Nat → Int32) (fsl : Nat → Int32) (fsm : Nat → Int32) : Prop := MP l G yX7_sentHour cX7_sentHour 3 (some .int) 2 [.ref h0, .int pa, .int mo] [(h0, oX7 bb clk fi la ml mm sl sm cl), (la, iA G 12 fla), (sl, iA G 12 fsl), (sm, iA G 12 fsm)] (fun r : Int32 => True)
set_option maxHeartbeats 4000000 in
set_option maxRecDepth 100000 in
theorem c_sentHour (l : Launch) (G : GG) (h0 : Nat) (pa : Int32) (mo : Int32) (bb : Nat) (clk : Nat) (fi : Nat) (la : Nat) (ml : Nat) (mm : Nat) (sl : Nat) (sm : Nat) (cl : Int32) (fla : Nat → Int32) (fsl : Nat → Int32) (fsm : Nat → Int32) : K_c_sentHour l G h0 pa mo bb clk fi la ml mm sl sm cl fla fsl fsm := by
  refine MP.start (by decide +kernel) (Nat.le_of_ble_eq_true rfl) ?_
  intro p e s m below meth c ls hC hK hP hD hl
  refine absQ (fun Q0 hQ0 => ?_)
  have hl : lv_has ls 3 [(0, .ref h0), (1, .int pa), (2, .int mo)] := hl
  refine Kan8 hC (fun hx hb hr hml hB hown hlocks hnm => ?_)
  refine lv_aload_n hx hb gX7_sentHour_0.1 rfl (lv_at0 hl) ?_
  refine lv_iload_n hx hb gX7_sentHour_0.2.1 rfl (lv_at1 hl) ?_
  refine pV hC hK hl hP hD (c_isSent l G h0 pa bb clk fi la ml mm sl sm cl fla) si_X7_90 [0, 1] sm_0_1 fm_0_1 nd_0_1 rfl rfl rfl rfl rfl (Nat.le_of_ble_eq_true rfl) rm_2_1_2 ⟨by first | exact Nat.le_of_ble_eq_true rfl | exact Nat.zero_le _, by first | exact Nat.le_of_ble_eq_true rfl | exact Nat.zero_le _⟩ gX7_sentHour_0.2.2.1 (Kors (Keqa fun a264 => ?_) (Keqr ?_))
  · refine lv_if_ne (tgt := 10) hx hb gX7_sentHour_0.2.2.2.1 (by decide) (fun _ => ?_) (fun c9 => absurd c9 (by decide))
    obtain ⟨jp, hjp, rfl⟩ := Sn_nat a264
    refine lv_iload_n hx hb gX7_sentHour_0.2.2.2.2.2.2.1 rfl (lv_at2 hl) ?_
    refine lv_if_eq (tgt := 23) hx hb gX7_sentHour_0.2.2.2.2.2.2.2.1 (by decide) (fun c_11_265 => ?_) (fun c_11_265 => ?_)
    · refine lv_aload_n hx hb gX7_sentHour_1.2.2.2.1 rfl (lv_at0 hl) ?_
      refine gf_X7_31 hC rfl hK hP 0 rfl rfl gX7_sentHour_1.2.2.2.2.1 ?_
      refine lv_iload_n hx hb gX7_sentHour_1.2.2.2.2.2.1 rfl (lv_at1 hl) ?_
      refine aldN hC hK hP 2 rfl (k := jp) (by omega) (Nat.le_of_ble_eq_true rfl) (v := fsl jp) rfl gX7_sentHour_1.2.2.2.2.2.2.1 ?_
      refine lv_topi (fun x266 ex266 => ?_)
      refine toQ hQ0 ?_
      exact RP (v := x266) hC (trivial) rfl gX7_sentHour_1.2.2.2.2.2.2.2
    · refine lv_aload_n hx hb gX7_sentHour_0.2.2.2.2.2.2.2.2.1 rfl (lv_at0 hl) ?_
      refine gf_X7_34 hC rfl hK hP 0 rfl rfl gX7_sentHour_0.2.2.2.2.2.2.2.2.2 ?_
      refine lv_iload_n hx hb gX7_sentHour_1.1 rfl (lv_at1 hl) ?_
      refine aldN hC hK hP 3 rfl (k := jp) (by omega) (Nat.le_of_ble_eq_true rfl) (v := fsm jp) rfl gX7_sentHour_1.2.1 ?_
      refine lv_topi (fun x267 ex267 => ?_)
      refine lv_goto (tgt := 29) hx hb gX7_sentHour_1.2.2.1 (by decide) ?_
      refine toQ hQ0 ?_
      exact RP (v := x267) hC (trivial) rfl gX7_sentHour_1.2.2.2.2.2.2.2
  · refine lv_if_ne (tgt := 10) hx hb gX7_sentHour_0.2.2.2.1 (by decide) (fun c9 => absurd (by decide) c9) (fun _ => ?_)
    refine lv_iconst (v := 0) hx hb gX7_sentHour_0.2.2.2.2.1 (by decide) ?_
    refine toQ hQ0 ?_
    exact RP (v := 0) hC (trivial) rfl gX7_sentHour_0.2.2.2.2.2.1
def K_c_trueHour (l : Launch) (G : GG) (h0 : Nat) (stp : Int32) (mo : Int32) (bb : Nat) (clk : Nat) (fi : Nat) (la : Nat) (ml : Nat) (mm : Nat) (sl : Nat) (sm : Nat) (cl : Int32) (clm : Nat) (fclm : Nat → Int32) (bpersons : Nat) (bpapers : Nat) (bstamps : Nat) (bversions : Nat) (blines : Nat) (bsteps : Nat) (bsayings : Nat) (bfindings : Nat) (bwarnings : Nat) (bquestions : Nat) (td : Int32) (vd : Int32) (vl : Int32) (gp : Int32) (bstampsc : Nat) (kbstamps : Nat) (fbstamps : Nat → Int32) : Prop := MP l G yX7_trueHour cX7_trueHour 5 (some .int) 3 [.ref h0, .int stp, .int mo] [(h0, oX7 bb clk fi la ml mm sl sm cl), (clk, oX1 clm), (clm, iA G 36 fclm), (bb, oX0 bpersons bpapers bstamps bversions blines bsteps bsayings bfindings bwarnings bquestions td vd vl gp), (bstamps, oX8 24 3 bstampsc (nI kbstamps)), (bstampsc, iA G 72 fbstamps)] (fun r : Int32 => True)
set_option maxHeartbeats 4000000 in
set_option maxRecDepth 100000 in
theorem c_trueHour (l : Launch) (G : GG) (h0 : Nat) (stp : Int32) (mo : Int32) (bb : Nat) (clk : Nat) (fi : Nat) (la : Nat) (ml : Nat) (mm : Nat) (sl : Nat) (sm : Nat) (cl : Int32) (clm : Nat) (fclm : Nat → Int32) (bpersons : Nat) (bpapers : Nat) (bstamps : Nat) (bversions : Nat) (blines : Nat) (bsteps : Nat) (bsayings : Nat) (bfindings : Nat) (bwarnings : Nat) (bquestions : Nat) (td : Int32) (vd : Int32) (vl : Int32) (gp : Int32) (bstampsc : Nat) (kbstamps : Nat) (fbstamps : Nat → Int32) (hkbstamps : kbstamps ≤ 24) : K_c_trueHour l G h0 stp mo bb clk fi la ml mm sl sm cl clm fclm bpersons bpapers bstamps bversions blines bsteps bsayings bfindings bwarnings bquestions td vd vl gp bstampsc kbstamps fbstamps := by
  refine MP.start (by decide +kernel) (Nat.le_of_ble_eq_true rfl) ?_
  intro p e s m below meth c ls hC hK hP hD hl
  refine absQ (fun Q0 hQ0 => ?_)
  have hl : lv_has ls 5 [(0, .ref h0), (1, .int stp), (2, .int mo)] := hl
  refine Kan8 hC (fun hx hb hr hml hB hown hlocks hnm => ?_)
  refine lv_aload_n hx hb gX7_trueHour_0.1 rfl (lv_at0 hl) ?_
  refine gf_X7_37 hC rfl hK hP 0 rfl rfl gX7_trueHour_0.2.1 ?_
  refine gf_X7_48 hC rfl hK hP 3 rfl rfl gX7_trueHour_0.2.2.1 ?_
  refine lv_iload_n hx hb gX7_trueHour_0.2.2.2.1 rfl (lv_at1 hl) ?_
  refine lv_iconst (v := 1) hx hb gX7_trueHour_0.2.2.2.2.1 (by decide) ?_
  refine pV hC hK hl hP hD (c_T_at l G bstamps stp 1 24 3 bstampsc kbstamps fbstamps (hkbstamps) (by omega) (by omega)) si_X7_60 [4, 5] sm_4_5 fm_4_5 nd_4_5 rfl rfl rfl rfl rfl (Nat.le_of_ble_eq_true rfl) rm_3_1_3 ⟨by first | exact Nat.le_of_ble_eq_true rfl | exact Nat.zero_le _, by first | exact Nat.le_of_ble_eq_true rfl | exact Nat.zero_le _⟩ gX7_trueHour_0.2.2.2.2.2.1 (fun r268 hr268 => ?_)
  refine lv_istore_n (lv' := [(3, .int r268), (0, .ref h0), (1, .int stp), (2, .int mo)]) hx hb gX7_trueHour_0.2.2.2.2.2.2.1 rfl hl (by decide) rfl (fun ls hl => ?_)
  refine lv_iload_n hx hb gX7_trueHour_0.2.2.2.2.2.2.2.1 rfl (lv_at3 hl) ?_
  refine lv_if_eq (tgt := 29) hx hb gX7_trueHour_0.2.2.2.2.2.2.2.2.1 (by decide) (fun c_14_270 => ?_) (fun c_14_270 => ?_)
  · refine lv_aload_n hx hb gX7_trueHour_1.2.2.2.2.2.1 rfl (lv_at1 hl) ?_
    refine gf_X7_12 hC rfl hK hP 0 rfl rfl gX7_trueHour_1.2.2.2.2.2.2.1 ?_
    refine lv_iconst (v := 0) hx hb gX7_trueHour_1.2.2.2.2.2.2.2.1 (by decide) ?_
    refine lv_iload_n hx hb gX7_trueHour_1.2.2.2.2.2.2.2.2.1 rfl (lv_at0 hl) ?_
    refine pV hC hK hl hP hD (c_mostAhead l G clk 0 r268 clm fclm) si_X7_87 [1, 2] sm_1_2 fm_1_2 nd_1_2 rfl rfl rfl rfl rfl (Nat.le_of_ble_eq_true rfl) rm_3_1_3 ⟨by first | exact Nat.le_of_ble_eq_true rfl | exact Nat.zero_le _, by first | exact Nat.le_of_ble_eq_true rfl | exact Nat.zero_le _⟩ gX7_trueHour_1.2.2.2.2.2.2.2.2.2 (fun r271 hr271 => ?_)
    refine lv_ineg hx hb gX7_trueHour_2.1 ?_
    refine lv_istore (lv' := [(4, .int (-r271)), (3, .int r268), (0, .ref h0), (1, .int stp), (2, .int mo)]) hx hb gX7_trueHour_2.2.1 hl (by decide) rfl (fun ls hl => ?_)
    refine lv_aload_n hx hb gX7_trueHour_2.2.2.1 rfl (lv_at2 hl) ?_
    refine gf_X7_37 hC rfl hK hP 0 rfl rfl gX7_trueHour_2.2.2.2.1 ?_
    refine gf_X7_48 hC rfl hK hP 3 rfl rfl gX7_trueHour_2.2.2.2.2.1 ?_
    refine lv_iload_n hx hb gX7_trueHour_2.2.2.2.2.2.1 rfl (lv_at3 hl) ?_
    refine lv_iconst (v := 2) hx hb gX7_trueHour_2.2.2.2.2.2.2.1 (by decide) ?_
    refine pV hC hK hl hP hD (c_T_at l G bstamps stp 2 24 3 bstampsc kbstamps fbstamps (hkbstamps) (by omega) (by omega)) si_X7_60 [4, 5] sm_4_5 fm_4_5 nd_4_5 rfl rfl rfl rfl rfl (Nat.le_of_ble_eq_true rfl) rm_3_1_3 ⟨by first | exact Nat.le_of_ble_eq_true rfl | exact Nat.zero_le _, by first | exact Nat.le_of_ble_eq_true rfl | exact Nat.zero_le _⟩ gX7_trueHour_2.2.2.2.2.2.2.2.1 (fun r272 hr272 => ?_)
    refine lv_iload hx hb gX7_trueHour_2.2.2.2.2.2.2.2.2.1 (lv_at0 hl) ?_
    refine lv_iadd hx hb gX7_trueHour_2.2.2.2.2.2.2.2.2.2 ?_
    refine toQ hQ0 ?_
    exact RP (v := r272 + (-r271)) hC (trivial) rfl gX7_trueHour_3
  · refine lv_aload_n hx hb gX7_trueHour_0.2.2.2.2.2.2.2.2.2 rfl (lv_at1 hl) ?_
    refine gf_X7_12 hC rfl hK hP 0 rfl rfl gX7_trueHour_1.1 ?_
    refine lv_iload_n hx hb gX7_trueHour_1.2.1 rfl (lv_at0 hl) ?_
    refine lv_iconst (v := 0) hx hb gX7_trueHour_1.2.2.1 (by decide) ?_
    refine pV hC hK hl hP hD (c_mostAhead l G clk r268 0 clm fclm) si_X7_87 [1, 2] sm_1_2 fm_1_2 nd_1_2 rfl rfl rfl rfl rfl (Nat.le_of_ble_eq_true rfl) rm_3_1_3 ⟨by first | exact Nat.le_of_ble_eq_true rfl | exact Nat.zero_le _, by first | exact Nat.le_of_ble_eq_true rfl | exact Nat.zero_le _⟩ gX7_trueHour_1.2.2.2.1 (fun r274 hr274 => ?_)
    refine lv_goto (tgt := 39) hx hb gX7_trueHour_1.2.2.2.2.1 (by decide) ?_
    refine lv_istore (lv' := [(4, .int r274), (3, .int r268), (0, .ref h0), (1, .int stp), (2, .int mo)]) hx hb gX7_trueHour_2.2.1 hl (by decide) rfl (fun ls hl => ?_)
    refine lv_aload_n hx hb gX7_trueHour_2.2.2.1 rfl (lv_at2 hl) ?_
    refine gf_X7_37 hC rfl hK hP 0 rfl rfl gX7_trueHour_2.2.2.2.1 ?_
    refine gf_X7_48 hC rfl hK hP 3 rfl rfl gX7_trueHour_2.2.2.2.2.1 ?_
    refine lv_iload_n hx hb gX7_trueHour_2.2.2.2.2.2.1 rfl (lv_at3 hl) ?_
    refine lv_iconst (v := 2) hx hb gX7_trueHour_2.2.2.2.2.2.2.1 (by decide) ?_
    refine pV hC hK hl hP hD (c_T_at l G bstamps stp 2 24 3 bstampsc kbstamps fbstamps (hkbstamps) (by omega) (by omega)) si_X7_60 [4, 5] sm_4_5 fm_4_5 nd_4_5 rfl rfl rfl rfl rfl (Nat.le_of_ble_eq_true rfl) rm_3_1_3 ⟨by first | exact Nat.le_of_ble_eq_true rfl | exact Nat.zero_le _, by first | exact Nat.le_of_ble_eq_true rfl | exact Nat.zero_le _⟩ gX7_trueHour_2.2.2.2.2.2.2.2.1 (fun r275 hr275 => ?_)
    refine lv_iload hx hb gX7_trueHour_2.2.2.2.2.2.2.2.2.1 (lv_at0 hl) ?_
    refine lv_iadd hx hb gX7_trueHour_2.2.2.2.2.2.2.2.2.2 ?_
    refine toQ hQ0 ?_
    exact RP (v := r275 + r274) hC (trivial) rfl gX7_trueHour_3
def K_c_isInHand (l : Launch) (G : GG) (h0 : Nat) (pa : Int32) (pe : Int32) (bb : Nat) (clk : Nat) (fi : Nat) (la : Nat) (ml : Nat) (mm : Nat) (sl : Nat) (sm : Nat) (cl : Int32) (fla : Nat → Int32) (bpersons : Nat) (bpapers : Nat) (bstamps : Nat) (bversions : Nat) (blines : Nat) (bsteps : Nat) (bsayings : Nat) (bfindings : Nat) (bwarnings : Nat) (bquestions : Nat) (td : Int32) (vd : Int32) (vl : Int32) (gp : Int32) (bpapersc : Nat) (kbpapers : Nat) (fbpapers : Nat → Int32) : Prop := MP l G yX7_isInHand cX7_isInHand 3 (some .boolean) 3 [.ref h0, .int pa, .int pe] [(h0, oX7 bb clk fi la ml mm sl sm cl), (la, iA G 12 fla), (bb, oX0 bpersons bpapers bstamps bversions blines bsteps bsayings bfindings bwarnings bquestions td vd vl gp), (bpapers, oX8 12 6 bpapersc (nI kbpapers)), (bpapersc, iA G 72 fbpapers)] (fun r : Int32 => (r = 1 ∧ Sn pa) ∨ r = 0)
set_option maxHeartbeats 4000000 in
set_option maxRecDepth 100000 in
theorem c_isInHand (l : Launch) (G : GG) (h0 : Nat) (pa : Int32) (pe : Int32) (bb : Nat) (clk : Nat) (fi : Nat) (la : Nat) (ml : Nat) (mm : Nat) (sl : Nat) (sm : Nat) (cl : Int32) (fla : Nat → Int32) (bpersons : Nat) (bpapers : Nat) (bstamps : Nat) (bversions : Nat) (blines : Nat) (bsteps : Nat) (bsayings : Nat) (bfindings : Nat) (bwarnings : Nat) (bquestions : Nat) (td : Int32) (vd : Int32) (vl : Int32) (gp : Int32) (bpapersc : Nat) (kbpapers : Nat) (fbpapers : Nat → Int32) (hkbpapers : kbpapers ≤ 12) : K_c_isInHand l G h0 pa pe bb clk fi la ml mm sl sm cl fla bpersons bpapers bstamps bversions blines bsteps bsayings bfindings bwarnings bquestions td vd vl gp bpapersc kbpapers fbpapers := by
  refine MP.start (by decide +kernel) (Nat.le_of_ble_eq_true rfl) ?_
  intro p e s m below meth c ls hC hK hP hD hl
  refine absQ (fun Q0 hQ0 => ?_)
  have hl : lv_has ls 3 [(0, .ref h0), (1, .int pa), (2, .int pe)] := hl
  refine Kan8 hC (fun hx hb hr hml hB hown hlocks hnm => ?_)
  refine lv_aload_n hx hb gX7_isInHand_0.1 rfl (lv_at0 hl) ?_
  refine lv_iload_n hx hb gX7_isInHand_0.2.1 rfl (lv_at1 hl) ?_
  refine pV hC hK hl hP hD (c_isSent l G h0 pa bb clk fi la ml mm sl sm cl fla) si_X7_90 [0, 1] sm_0_1 fm_0_1 nd_0_1 rfl rfl rfl rfl rfl (Nat.le_of_ble_eq_true rfl) rm_3_1_2 ⟨by first | exact Nat.le_of_ble_eq_true rfl | exact Nat.zero_le _, by first | exact Nat.le_of_ble_eq_true rfl | exact Nat.zero_le _⟩ gX7_isInHand_0.2.2.1 (Kors (Keqa fun a278 => ?_) (Keqr ?_))
  · refine lv_if_eq (tgt := 47) hx hb gX7_isInHand_0.2.2.2.1 (by decide) (fun c9 => absurd c9 (by decide)) (fun _ => ?_)
    refine lv_aload_n hx hb gX7_isInHand_0.2.2.2.2.1 rfl (lv_at0 hl) ?_
    refine gf_X7_37 hC rfl hK hP 0 rfl rfl gX7_isInHand_0.2.2.2.2.2.1 ?_
    refine gf_X7_94 hC rfl hK hP 2 rfl rfl gX7_isInHand_0.2.2.2.2.2.2.1 ?_
    refine lv_iload_n hx hb gX7_isInHand_0.2.2.2.2.2.2.2.1 rfl (lv_at1 hl) ?_
    refine lv_iconst (v := 0) hx hb gX7_isInHand_0.2.2.2.2.2.2.2.2.1 (by decide) ?_
    refine pV hC hK hl hP hD (c_T_at l G bpapers pa 0 12 6 bpapersc kbpapers fbpapers (hkbpapers) (by omega) (by omega)) si_X7_60 [3, 4] sm_3_4 fm_3_4 nd_3_4 rfl rfl rfl rfl rfl (Nat.le_of_ble_eq_true rfl) rm_3_1_3 ⟨by first | exact Nat.le_of_ble_eq_true rfl | exact Nat.zero_le _, by first | exact Nat.le_of_ble_eq_true rfl | exact Nat.zero_le _⟩ gX7_isInHand_0.2.2.2.2.2.2.2.2.2 (fun r279 hr279 => ?_)
    refine lv_iload_n hx hb gX7_isInHand_1.1 rfl (lv_at2 hl) ?_
    refine lv_icmp_eq (tgt := 43) hx hb gX7_isInHand_1.2.1 (by decide) (fun c_21_281 => ?_) (fun c_21_281 => ?_)
    · refine lv_iconst (v := 1) hx hb gX7_isInHand_2.2.1 (by decide) ?_
      refine lv_goto (tgt := 48) hx hb gX7_isInHand_2.2.2.1 (by decide) ?_
      refine toQ hQ0 ?_
      exact RP (v := 1) hC (Or.inl ⟨rfl, a278⟩) (by decide +kernel) gX7_isInHand_2.2.2.2.2
    · refine lv_aload_n hx hb gX7_isInHand_1.2.2.1 rfl (lv_at0 hl) ?_
      refine gf_X7_37 hC rfl hK hP 0 rfl rfl gX7_isInHand_1.2.2.2.1 ?_
      refine gf_X7_94 hC rfl hK hP 2 rfl rfl gX7_isInHand_1.2.2.2.2.1 ?_
      refine lv_iload_n hx hb gX7_isInHand_1.2.2.2.2.2.1 rfl (lv_at1 hl) ?_
      refine lv_iconst (v := 1) hx hb gX7_isInHand_1.2.2.2.2.2.2.1 (by decide) ?_
      refine pV hC hK hl hP hD (c_T_at l G bpapers pa 1 12 6 bpapersc kbpapers fbpapers (hkbpapers) (by omega) (by omega)) si_X7_60 [3, 4] sm_3_4 fm_3_4 nd_3_4 rfl rfl rfl rfl rfl (Nat.le_of_ble_eq_true rfl) rm_3_1_3 ⟨by first | exact Nat.le_of_ble_eq_true rfl | exact Nat.zero_le _, by first | exact Nat.le_of_ble_eq_true rfl | exact Nat.zero_le _⟩ gX7_isInHand_1.2.2.2.2.2.2.2.1 (fun r282 hr282 => ?_)
      refine lv_iload_n hx hb gX7_isInHand_1.2.2.2.2.2.2.2.2.1 rfl (lv_at2 hl) ?_
      refine pSN hC hK hl (c_hasBit l G r282 pe) si_X7_68 rfl rfl (Nat.le_of_ble_eq_true rfl) rm_3_1_2 ⟨by first | exact Nat.le_of_ble_eq_true rfl | exact Nat.zero_le _, by first | exact Nat.le_of_ble_eq_true rfl | exact Nat.zero_le _⟩ gX7_isInHand_1.2.2.2.2.2.2.2.2.2 (Kors (Keqa fun a285 => ?_) (Keqa fun a285 => ?_))
      · refine lv_if_eq (tgt := 47) hx hb gX7_isInHand_2.1 (by decide) (fun c9 => absurd c9 (by decide)) (fun _ => ?_)
        refine lv_iconst (v := 1) hx hb gX7_isInHand_2.2.1 (by decide) ?_
        refine lv_goto (tgt := 48) hx hb gX7_isInHand_2.2.2.1 (by decide) ?_
        refine toQ hQ0 ?_
        exact RP (v := 1) hC (Or.inl ⟨rfl, a278⟩) (by decide +kernel) gX7_isInHand_2.2.2.2.2
      · refine lv_if_eq (tgt := 47) hx hb gX7_isInHand_2.1 (by decide) (fun _ => ?_) (fun c9 => absurd (by decide) c9)
        refine lv_iconst (v := 0) hx hb gX7_isInHand_2.2.2.2.1 (by decide) ?_
        refine toQ hQ0 ?_
        exact RP (v := 0) hC (Or.inr rfl) (by decide +kernel) gX7_isInHand_2.2.2.2.2
  · refine lv_if_eq (tgt := 47) hx hb gX7_isInHand_0.2.2.2.1 (by decide) (fun _ => ?_) (fun c9 => absurd (by decide) c9)
    refine lv_iconst (v := 0) hx hb gX7_isInHand_2.2.2.2.1 (by decide) ?_
    refine toQ hQ0 ?_
    exact RP (v := 0) hC (Or.inr rfl) (by decide +kernel) gX7_isInHand_2.2.2.2.2
def K_c_handHour (l : Launch) (G : GG) (h0 : Nat) (pa : Int32) (pe : Int32) (mo : Int32) (bb : Nat) (clk : Nat) (fi : Nat) (la : Nat) (ml : Nat) (mm : Nat) (sl : Nat) (sm : Nat) (cl : Int32) (fla : Nat → Int32) (fml : Nat → Int32) (fmm : Nat → Int32) (fsl : Nat → Int32) (fsm : Nat → Int32) (bpersons : Nat) (bpapers : Nat) (bstamps : Nat) (bversions : Nat) (blines : Nat) (bsteps : Nat) (bsayings : Nat) (bfindings : Nat) (bwarnings : Nat) (bquestions : Nat) (td : Int32) (vd : Int32) (vl : Int32) (gp : Int32) (bpapersc : Nat) (kbpapers : Nat) (fbpapers : Nat → Int32) (bpersonsc : Nat) (kbpersons : Nat) (fbpersons : Nat → Int32) : Prop := MP l G yX7_handHour cX7_handHour 4 (some .int) 3 [.ref h0, .int pa, .int pe, .int mo] [(h0, oX7 bb clk fi la ml mm sl sm cl), (la, iA G 12 fla), (ml, iA G 12 fml), (mm, iA G 12 fmm), (sl, iA G 12 fsl), (sm, iA G 12 fsm), (bb, oX0 bpersons bpapers bstamps bversions blines bsteps bsayings bfindings bwarnings bquestions td vd vl gp), (bpapers, oX8 12 6 bpapersc (nI kbpapers)), (bpapersc, iA G 72 fbpapers), (bpersons, oX8 10 2 bpersonsc (nI kbpersons)), (bpersonsc, iA G 20 fbpersons)] (fun r : Int32 => True)
set_option maxHeartbeats 4000000 in
set_option maxRecDepth 100000 in
theorem c_handHour (l : Launch) (G : GG) (h0 : Nat) (pa : Int32) (pe : Int32) (mo : Int32) (bb : Nat) (clk : Nat) (fi : Nat) (la : Nat) (ml : Nat) (mm : Nat) (sl : Nat) (sm : Nat) (cl : Int32) (fla : Nat → Int32) (fml : Nat → Int32) (fmm : Nat → Int32) (fsl : Nat → Int32) (fsm : Nat → Int32) (bpersons : Nat) (bpapers : Nat) (bstamps : Nat) (bversions : Nat) (blines : Nat) (bsteps : Nat) (bsayings : Nat) (bfindings : Nat) (bwarnings : Nat) (bquestions : Nat) (td : Int32) (vd : Int32) (vl : Int32) (gp : Int32) (bpapersc : Nat) (kbpapers : Nat) (fbpapers : Nat → Int32) (bpersonsc : Nat) (kbpersons : Nat) (fbpersons : Nat → Int32) (hkbpapers : kbpapers ≤ 12) (hkbpersons : kbpersons ≤ 10) : K_c_handHour l G h0 pa pe mo bb clk fi la ml mm sl sm cl fla fml fmm fsl fsm bpersons bpapers bstamps bversions blines bsteps bsayings bfindings bwarnings bquestions td vd vl gp bpapersc kbpapers fbpapers bpersonsc kbpersons fbpersons := by
  refine MP.start (by decide +kernel) (Nat.le_of_ble_eq_true rfl) ?_
  intro p e s m below meth c ls hC hK hP hD hl
  refine absQ (fun Q0 hQ0 => ?_)
  have hl : lv_has ls 4 [(0, .ref h0), (1, .int pa), (2, .int pe), (3, .int mo)] := hl
  refine Kan8 hC (fun hx hb hr hml hB hown hlocks hnm => ?_)
  refine lv_aload_n hx hb gX7_handHour_0.1 rfl (lv_at0 hl) ?_
  refine lv_iload_n hx hb gX7_handHour_0.2.1 rfl (lv_at1 hl) ?_
  refine pV hC hK hl hP hD (c_isSent l G h0 pa bb clk fi la ml mm sl sm cl fla) si_X7_90 [0, 1] sm_0_1 fm_0_1 nd_0_1 rfl rfl rfl rfl rfl (Nat.le_of_ble_eq_true rfl) rm_3_1_2 ⟨by first | exact Nat.le_of_ble_eq_true rfl | exact Nat.zero_le _, by first | exact Nat.le_of_ble_eq_true rfl | exact Nat.zero_le _⟩ gX7_handHour_0.2.2.1 (Kors (Keqa fun a287 => ?_) (Keqr ?_))
  · refine lv_if_ne (tgt := 10) hx hb gX7_handHour_0.2.2.2.1 (by decide) (fun _ => ?_) (fun c9 => absurd c9 (by decide))
    obtain ⟨jp, hjp, rfl⟩ := Sn_nat a287
    refine lv_aload_n hx hb gX7_handHour_0.2.2.2.2.2.2.1 rfl (lv_at0 hl) ?_
    refine gf_X7_37 hC rfl hK hP 0 rfl rfl gX7_handHour_0.2.2.2.2.2.2.2.1 ?_
    refine gf_X7_94 hC rfl hK hP 6 rfl rfl gX7_handHour_0.2.2.2.2.2.2.2.2.1 ?_
    refine lv_iload_n hx hb gX7_handHour_0.2.2.2.2.2.2.2.2.2 rfl (lv_at1 hl) ?_
    refine lv_iconst (v := 0) hx hb gX7_handHour_1.1 (by decide) ?_
    refine pV hC hK hl hP hD (c_T_at l G bpapers (nI jp) 0 12 6 bpapersc kbpapers fbpapers (hkbpapers) (by omega) (by omega)) si_X7_60 [7, 8] sm_7_8 fm_7_8 nd_7_8 rfl rfl rfl rfl rfl (Nat.le_of_ble_eq_true rfl) rm_3_1_3 ⟨by first | exact Nat.le_of_ble_eq_true rfl | exact Nat.zero_le _, by first | exact Nat.le_of_ble_eq_true rfl | exact Nat.zero_le _⟩ gX7_handHour_1.2.1 (fun r288 hr288 => ?_)
    refine lv_iload_n hx hb gX7_handHour_1.2.2.1 rfl (lv_at2 hl) ?_
    refine lv_icmp_ne (tgt := 46) hx hb gX7_handHour_1.2.2.2.1 (by decide) (fun c_23_290 => ?_) (fun c_23_290 => ?_)
    · refine lv_iload_n hx hb gX7_handHour_2.2.2.2.2.2.2.1 rfl (lv_at3 hl) ?_
      refine lv_if_eq (tgt := 72) hx hb gX7_handHour_2.2.2.2.2.2.2.2.1 (by decide) (fun c_47_291 => ?_) (fun c_47_291 => ?_)
      · refine lv_aload_n hx hb gX7_handHour_4.1 rfl (lv_at0 hl) ?_
        refine gf_X7_31 hC rfl hK hP 0 rfl rfl gX7_handHour_4.2.1 ?_
        refine lv_iload_n hx hb gX7_handHour_4.2.2.1 rfl (lv_at1 hl) ?_
        refine aldN hC hK hP 4 rfl (k := jp) (by omega) (Nat.le_of_ble_eq_true rfl) (v := fsl jp) rfl gX7_handHour_4.2.2.2.1 ?_
        refine lv_topi (fun x292 ex292 => ?_)
        refine toQ hQ0 ?_
        exact RP (v := x292) hC (trivial) rfl gX7_handHour_4.2.2.2.2
      · refine lv_aload_n hx hb gX7_handHour_2.2.2.2.2.2.2.2.2.1 rfl (lv_at0 hl) ?_
        refine gf_X7_34 hC rfl hK hP 0 rfl rfl gX7_handHour_2.2.2.2.2.2.2.2.2.2 ?_
        refine lv_iload_n hx hb gX7_handHour_3.1 rfl (lv_at1 hl) ?_
        refine aldN hC hK hP 5 rfl (k := jp) (by omega) (Nat.le_of_ble_eq_true rfl) (v := fsm jp) rfl gX7_handHour_3.2.1 ?_
        refine lv_topi (fun x293 ex293 => ?_)
        refine lv_aload_n hx hb gX7_handHour_3.2.2.1 rfl (lv_at0 hl) ?_
        refine gf_X7_37 hC rfl hK hP 0 rfl rfl gX7_handHour_3.2.2.2.1 ?_
        refine gf_X7_97 hC rfl hK hP 6 rfl rfl gX7_handHour_3.2.2.2.2.1 ?_
        refine lv_iload_n hx hb gX7_handHour_3.2.2.2.2.2.1 rfl (lv_at2 hl) ?_
        refine lv_iconst (v := 1) hx hb gX7_handHour_3.2.2.2.2.2.2.1 (by decide) ?_
        refine pV hC hK hl hP hD (c_T_at l G bpersons pe 1 10 2 bpersonsc kbpersons fbpersons (hkbpersons) (by omega) (by omega)) si_X7_60 [9, 10] sm_9_10 fm_9_10 nd_9_10 rfl rfl rfl rfl rfl (Nat.le_of_ble_eq_true rfl) rm_3_1_3 ⟨by first | exact Nat.le_of_ble_eq_true rfl | exact Nat.zero_le _, by first | exact Nat.le_of_ble_eq_true rfl | exact Nat.zero_le _⟩ gX7_handHour_3.2.2.2.2.2.2.2.1 (fun r294 hr294 => ?_)
        refine lv_iadd hx hb gX7_handHour_3.2.2.2.2.2.2.2.2.1 ?_
        refine lv_goto (tgt := 78) hx hb gX7_handHour_3.2.2.2.2.2.2.2.2.2 (by decide) ?_
        refine toQ hQ0 ?_
        exact RP (v := x293 + r294) hC (trivial) rfl gX7_handHour_4.2.2.2.2
    · refine lv_iload_n hx hb gX7_handHour_1.2.2.2.2.1 rfl (lv_at3 hl) ?_
      refine lv_if_eq (tgt := 39) hx hb gX7_handHour_1.2.2.2.2.2.1 (by decide) (fun c_27_296 => ?_) (fun c_27_296 => ?_)
      · refine lv_aload_n hx hb gX7_handHour_2.2.1 rfl (lv_at0 hl) ?_
        refine gf_X7_25 hC rfl hK hP 0 rfl rfl gX7_handHour_2.2.2.1 ?_
        refine lv_iload_n hx hb gX7_handHour_2.2.2.2.1 rfl (lv_at1 hl) ?_
        refine aldN hC hK hP 2 rfl (k := jp) (by omega) (Nat.le_of_ble_eq_true rfl) (v := fml jp) rfl gX7_handHour_2.2.2.2.2.1 ?_
        refine lv_topi (fun x297 ex297 => ?_)
        refine toQ hQ0 ?_
        exact RP (v := x297) hC (trivial) rfl gX7_handHour_2.2.2.2.2.2.1
      · refine lv_aload_n hx hb gX7_handHour_1.2.2.2.2.2.2.1 rfl (lv_at0 hl) ?_
        refine gf_X7_28 hC rfl hK hP 0 rfl rfl gX7_handHour_1.2.2.2.2.2.2.2.1 ?_
        refine lv_iload_n hx hb gX7_handHour_1.2.2.2.2.2.2.2.2.1 rfl (lv_at1 hl) ?_
        refine aldN hC hK hP 3 rfl (k := jp) (by omega) (Nat.le_of_ble_eq_true rfl) (v := fmm jp) rfl gX7_handHour_1.2.2.2.2.2.2.2.2.2 ?_
        refine lv_topi (fun x298 ex298 => ?_)
        refine lv_goto (tgt := 45) hx hb gX7_handHour_2.1 (by decide) ?_
        refine toQ hQ0 ?_
        exact RP (v := x298) hC (trivial) rfl gX7_handHour_2.2.2.2.2.2.1
  · refine lv_if_ne (tgt := 10) hx hb gX7_handHour_0.2.2.2.1 (by decide) (fun c9 => absurd (by decide) c9) (fun _ => ?_)
    refine lv_iconst (v := 0) hx hb gX7_handHour_0.2.2.2.2.1 (by decide) ?_
    refine toQ hQ0 ?_
    exact RP (v := 0) hC (trivial) rfl gX7_handHour_0.2.2.2.2.2.1
def K_c_toldHour (l : Launch) (G : GG) (h0 : Nat) (pe : Int32) (th : Int32) (su : Int32) (bb : Nat) (clk : Nat) (fi : Nat) (la : Nat) (ml : Nat) (mm : Nat) (sl : Nat) (sm : Nat) (cl : Int32) (fla : Nat → Int32) (fml : Nat → Int32) (fmm : Nat → Int32) (fsl : Nat → Int32) (fsm : Nat → Int32) (bpersons : Nat) (bpapers : Nat) (bstamps : Nat) (bversions : Nat) (blines : Nat) (bsteps : Nat) (bsayings : Nat) (bfindings : Nat) (bwarnings : Nat) (bquestions : Nat) (td : Int32) (vd : Int32) (vl : Int32) (gp : Int32) (bpapersc : Nat) (kbpapers : Nat) (fbpapers : Nat → Int32) (bpersonsc : Nat) (kbpersons : Nat) (fbpersons : Nat → Int32) : Prop := MP l G yX7_toldHour cX7_toldHour 6 (some .int) 4 [.ref h0, .int pe, .int th, .int su] [(h0, oX7 bb clk fi la ml mm sl sm cl), (la, iA G 12 fla), (ml, iA G 12 fml), (mm, iA G 12 fmm), (sl, iA G 12 fsl), (sm, iA G 12 fsm), (bb, oX0 bpersons bpapers bstamps bversions blines bsteps bsayings bfindings bwarnings bquestions td vd vl gp), (bpapers, oX8 12 6 bpapersc (nI kbpapers)), (bpapersc, iA G 72 fbpapers), (bpersons, oX8 10 2 bpersonsc (nI kbpersons)), (bpersonsc, iA G 20 fbpersons)] (fun r : Int32 => True)
set_option maxHeartbeats 4000000 in
set_option maxRecDepth 100000 in
theorem c_toldHour (l : Launch) (G : GG) (h0 : Nat) (pe : Int32) (th : Int32) (su : Int32) (bb : Nat) (clk : Nat) (fi : Nat) (la : Nat) (ml : Nat) (mm : Nat) (sl : Nat) (sm : Nat) (cl : Int32) (fla : Nat → Int32) (fml : Nat → Int32) (fmm : Nat → Int32) (fsl : Nat → Int32) (fsm : Nat → Int32) (bpersons : Nat) (bpapers : Nat) (bstamps : Nat) (bversions : Nat) (blines : Nat) (bsteps : Nat) (bsayings : Nat) (bfindings : Nat) (bwarnings : Nat) (bquestions : Nat) (td : Int32) (vd : Int32) (vl : Int32) (gp : Int32) (bpapersc : Nat) (kbpapers : Nat) (fbpapers : Nat → Int32) (bpersonsc : Nat) (kbpersons : Nat) (fbpersons : Nat → Int32) (hkbpapers : kbpapers ≤ 12) (hkbpersons : kbpersons ≤ 10) : K_c_toldHour l G h0 pe th su bb clk fi la ml mm sl sm cl fla fml fmm fsl fsm bpersons bpapers bstamps bversions blines bsteps bsayings bfindings bwarnings bquestions td vd vl gp bpapersc kbpapers fbpapers bpersonsc kbpersons fbpersons := by
  refine MP.start (by decide +kernel) (Nat.le_of_ble_eq_true rfl) ?_
  intro p e s m below meth c ls hC hK hP hD hl
  refine absQ (fun Q0 hQ0 => ?_)
  have hl : lv_has ls 6 [(0, .ref h0), (1, .int pe), (2, .int th), (3, .int su)] := hl
  refine Kan8 hC (fun hx hb hr hml hB hown hlocks hnm => ?_)
  refine lv_ldc hx hb hown (hB _ m_558) gX7_toldHour_0.1 ?_
  refine lv_istore (lv' := [(4, .int 1000000), (0, .ref h0), (1, .int pe), (2, .int th), (3, .int su)]) hx hb gX7_toldHour_0.2.1 hl (by decide) rfl (fun ls hl => ?_)
  refine lv_iconst (v := 0) hx hb gX7_toldHour_0.2.2.1 (by decide) ?_
  refine lv_istore (lv' := [(5, .int 0), (4, .int 1000000), (0, .ref h0), (1, .int pe), (2, .int th), (3, .int su)]) hx hb gX7_toldHour_0.2.2.2.1 hl (by decide) rfl (fun ls hl => ?_)
  have keyP : ∀ (nP kP : Nat) (le : Int32) (ls : Array Slot), kP + nP = kbpapers → lv_has ls 6 [(5, .int (nI kP)), (4, .int le), (0, .ref h0), (1, .int pe), (2, .int th), (3, .int su)] → W p l e (RM 4 0 0) s m ([.ref h0, .int pe, .int th, .int su] : List Value).toArray below meth c s.heap [] 0 0 Q0 (F0 m 7 ls []) := by
    intro nP
    induction nP with
    | zero =>
      intro kP le ls hkP hl
      obtain rfl : kbpapers = kP := by omega
      have hl : lv_has ls 6 [(5, .int (nI kbpapers)), (4, .int le), (0, .ref h0), (1, .int pe), (2, .int th), (3, .int su)] := hl
      refine lv_iload hx hb gX7_toldHour_0.2.2.2.2.1 (lv_at0 hl) ?_
      refine lv_aload_n hx hb gX7_toldHour_0.2.2.2.2.2.1 rfl (lv_at2 hl) ?_
      refine gf_X7_37 hC rfl hK hP 0 rfl rfl gX7_toldHour_0.2.2.2.2.2.2.1 ?_
      refine gf_X7_94 hC rfl hK hP 6 rfl rfl gX7_toldHour_0.2.2.2.2.2.2.2.1 ?_
      refine pV hC hK hl hP hD (c_T_count l G bpapers 12 6 bpapersc kbpapers) si_X7_54 [7] sm_7 fm_7 nd_7 rfl rfl rfl rfl rfl (Nat.le_of_ble_eq_true rfl) rm_4_1_1 ⟨by first | exact Nat.le_of_ble_eq_true rfl | exact Nat.zero_le _, by first | exact Nat.le_of_ble_eq_true rfl | exact Nat.zero_le _⟩ gX7_toldHour_0.2.2.2.2.2.2.2.2.1 (Keqr ?_)
      refine lv_icmp_ge (tgt := 76) hx hb gX7_toldHour_0.2.2.2.2.2.2.2.2.2 (by decide) (fun _ => ?_) (fun c9 => absurd (Int32.le_refl _) c9)
      refine lv_iload hx hb gX7_toldHour_3.2.2.2.2.2.1 (lv_at1 hl) ?_
      refine toQ hQ0 ?_
      exact RP (v := le) hC (trivial) rfl gX7_toldHour_3.2.2.2.2.2.2
    | succ nP ihP =>
      intro kP le ls hkP hl
      refine lv_iload hx hb gX7_toldHour_0.2.2.2.2.1 (lv_at0 hl) ?_
      refine lv_aload_n hx hb gX7_toldHour_0.2.2.2.2.2.1 rfl (lv_at2 hl) ?_
      refine gf_X7_37 hC rfl hK hP 0 rfl rfl gX7_toldHour_0.2.2.2.2.2.2.1 ?_
      refine gf_X7_94 hC rfl hK hP 6 rfl rfl gX7_toldHour_0.2.2.2.2.2.2.2.1 ?_
      refine pV hC hK hl hP hD (c_T_count l G bpapers 12 6 bpapersc kbpapers) si_X7_54 [7] sm_7 fm_7 nd_7 rfl rfl rfl rfl rfl (Nat.le_of_ble_eq_true rfl) rm_4_1_1 ⟨by first | exact Nat.le_of_ble_eq_true rfl | exact Nat.zero_le _, by first | exact Nat.le_of_ble_eq_true rfl | exact Nat.zero_le _⟩ gX7_toldHour_0.2.2.2.2.2.2.2.2.1 (Keqr ?_)
      refine lv_icmp_ge (tgt := 76) hx hb gX7_toldHour_0.2.2.2.2.2.2.2.2.2 (by decide) (fun c9 => absurd c9 (nI_ge (a := kP) (b := kbpapers) (by omega) (by omega))) (fun _ => ?_)
      refine lv_aload_n hx hb gX7_toldHour_1.1 rfl (lv_at2 hl) ?_
      refine gf_X7_37 hC rfl hK hP 0 rfl rfl gX7_toldHour_1.2.1 ?_
      refine gf_X7_94 hC rfl hK hP 6 rfl rfl gX7_toldHour_1.2.2.1 ?_
      refine lv_iload hx hb gX7_toldHour_1.2.2.2.1 (lv_at0 hl) ?_
      refine lv_iconst (v := 2) hx hb gX7_toldHour_1.2.2.2.2.1 (by decide) ?_
      refine pV hC hK hl hP hD (c_T_at l G bpapers (nI kP) 2 12 6 bpapersc kbpapers fbpapers (hkbpapers) (by omega) (by omega)) si_X7_60 [7, 8] sm_7_8 fm_7_8 nd_7_8 rfl rfl rfl rfl rfl (Nat.le_of_ble_eq_true rfl) rm_4_1_3 ⟨by first | exact Nat.le_of_ble_eq_true rfl | exact Nat.zero_le _, by first | exact Nat.le_of_ble_eq_true rfl | exact Nat.zero_le _⟩ gX7_toldHour_1.2.2.2.2.2.1 (fun r303 hr303 => ?_)
      refine lv_iload_n hx hb gX7_toldHour_1.2.2.2.2.2.2.1 rfl (lv_at4 hl) ?_
      refine pSN hC hK hl (c_hasBit l G r303 th) si_X7_68 rfl rfl (Nat.le_of_ble_eq_true rfl) rm_4_1_2 ⟨by first | exact Nat.le_of_ble_eq_true rfl | exact Nat.zero_le _, by first | exact Nat.le_of_ble_eq_true rfl | exact Nat.zero_le _⟩ gX7_toldHour_1.2.2.2.2.2.2.2.1 (Kors (Keqa fun a306 => ?_) (Keqa fun a306 => ?_))
      · refine lv_if_eq (tgt := 70) hx hb gX7_toldHour_1.2.2.2.2.2.2.2.2.1 (by decide) (fun c9 => absurd c9 (by decide)) (fun _ => ?_)
        refine lv_aload_n hx hb gX7_toldHour_1.2.2.2.2.2.2.2.2.2 rfl (lv_at2 hl) ?_
        refine lv_iload hx hb gX7_toldHour_2.1 (lv_at0 hl) ?_
        refine lv_iload_n hx hb gX7_toldHour_2.2.1 rfl (lv_at3 hl) ?_
        refine pV hC hK hl hP hD (c_isInHand l G h0 (nI kP) pe bb clk fi la ml mm sl sm cl fla bpersons bpapers bstamps bversions blines bsteps bsayings bfindings bwarnings bquestions td vd vl gp bpapersc kbpapers fbpapers (hkbpapers)) si_X7_101 [0, 1, 6, 7, 8] sm_0_1_6_7_8 fm_0_1_6_7_8 nd_0_1_6_7_8 rfl rfl rfl rfl rfl (Nat.le_of_ble_eq_true rfl) rm_4_3_3 ⟨by first | exact Nat.le_of_ble_eq_true rfl | exact Nat.zero_le _, by first | exact Nat.le_of_ble_eq_true rfl | exact Nat.zero_le _⟩ gX7_toldHour_2.2.2.1 (Kors (Keqa fun a308 => ?_) (Keqr ?_))
        · refine lv_if_ne (tgt := 55) hx hb gX7_toldHour_2.2.2.2.1 (by decide) (fun _ => ?_) (fun c9 => absurd c9 (by decide))
          refine lv_iload hx hb gX7_toldHour_2.2.2.2.2.2.1 (lv_at1 hl) ?_
          refine lv_aload_n hx hb gX7_toldHour_2.2.2.2.2.2.2.1 rfl (lv_at2 hl) ?_
          refine lv_iload hx hb gX7_toldHour_2.2.2.2.2.2.2.2.1 (lv_at0 hl) ?_
          refine lv_iload_n hx hb gX7_toldHour_2.2.2.2.2.2.2.2.2.1 rfl (lv_at3 hl) ?_
          refine lv_iload_n hx hb gX7_toldHour_2.2.2.2.2.2.2.2.2.2 rfl (lv_at5 hl) ?_
          refine pV hC hK hl hP hD (c_handHour l G h0 (nI kP) pe su bb clk fi la ml mm sl sm cl fla fml fmm fsl fsm bpersons bpapers bstamps bversions blines bsteps bsayings bfindings bwarnings bquestions td vd vl gp bpapersc kbpapers fbpapers bpersonsc kbpersons fbpersons (hkbpapers) (hkbpersons)) si_X7_104 [0, 1, 2, 3, 4, 5, 6, 7, 8, 9, 10] sm_0_1_2_3_4_5_6_7_8_9_10 fm_0_1_2_3_4_5_6_7_8_9_10 nd_0_1_2_3_4_5_6_7_8_9_10 rfl rfl rfl rfl rfl (Nat.le_of_ble_eq_true rfl) rm_4_3_4 ⟨by first | exact Nat.le_of_ble_eq_true rfl | exact Nat.zero_le _, by first | exact Nat.le_of_ble_eq_true rfl | exact Nat.zero_le _⟩ gX7_toldHour_3.1 (fun r309 hr309 => ?_)
          refine va_mmin hx hb (hml.trans hl.1.symm) hown (hB _ m_561) (hB _ m_373) (hB _ m_105) (hB _ m_374) (Nat.le_of_ble_eq_true rfl) (Nat.le_of_ble_eq_true rfl) (by first | exact Nat.le_of_ble_eq_true rfl | exact Nat.zero_le _)  (by first | exact Nat.le_of_ble_eq_true rfl | exact Nat.zero_le _) gX7_toldHour_3.2.1 ?_
          refine lv_topi (fun x310 ex310 => ?_)
          refine lv_istore (lv' := [(4, .int x310), (5, .int (nI kP)), (0, .ref h0), (1, .int pe), (2, .int th), (3, .int su)]) hx hb gX7_toldHour_3.2.2.1 hl (by decide) rfl (fun ls hl => ?_)
          refine lv_iinc (v := nI (kP + 1)) (lv' := [(5, .int (nI (kP + 1))), (4, .int x310), (0, .ref h0), (1, .int pe), (2, .int th), (3, .int su)]) hx hb gX7_toldHour_3.2.2.2.1 hl (k := 1) rfl (nI_1 _) (by decide) rfl (fun ls hl => ?_)
          refine lv_goto (tgt := 7) hx hb gX7_toldHour_3.2.2.2.2.1 (by decide) ?_
          exact ihP (kP + 1) x310 _ (by omega) (lv_sub hl [0, 1, 2, 3, 4, 5] rfl)
        · refine lv_if_ne (tgt := 55) hx hb gX7_toldHour_2.2.2.2.1 (by decide) (fun c9 => absurd (by decide) c9) (fun _ => ?_)
          refine lv_goto (tgt := 70) hx hb gX7_toldHour_2.2.2.2.2.1 (by decide) ?_
          refine lv_iinc (v := nI (kP + 1)) (lv' := [(5, .int (nI (kP + 1))), (4, .int le), (0, .ref h0), (1, .int pe), (2, .int th), (3, .int su)]) hx hb gX7_toldHour_3.2.2.2.1 hl (k := 0) rfl (nI_1 _) (by decide) rfl (fun ls hl => ?_)
          refine lv_goto (tgt := 7) hx hb gX7_toldHour_3.2.2.2.2.1 (by decide) ?_
          exact ihP (kP + 1) le _ (by omega) (lv_sub hl [0, 1, 2, 3, 4, 5] rfl)
      · refine lv_if_eq (tgt := 70) hx hb gX7_toldHour_1.2.2.2.2.2.2.2.2.1 (by decide) (fun _ => ?_) (fun c9 => absurd (by decide) c9)
        refine lv_iinc (v := nI (kP + 1)) (lv' := [(5, .int (nI (kP + 1))), (4, .int le), (0, .ref h0), (1, .int pe), (2, .int th), (3, .int su)]) hx hb gX7_toldHour_3.2.2.2.1 hl (k := 0) rfl (nI_1 _) (by decide) rfl (fun ls hl => ?_)
        refine lv_goto (tgt := 7) hx hb gX7_toldHour_3.2.2.2.2.1 (by decide) ?_
        exact ihP (kP + 1) le _ (by omega) (lv_sub hl [0, 1, 2, 3, 4, 5] rfl)
  exact keyP kbpapers 0 1000000 _ (by omega) (lv_sub hl [0, 1, 2, 3, 4, 5] rfl)
def K_c_clockOf (l : Launch) (G : GG) (h0 : Nat) (pa : Int32) (bb : Nat) (clk : Nat) (fi : Nat) (la : Nat) (ml : Nat) (mm : Nat) (sl : Nat) (sm : Nat) (cl : Int32) (fla : Nat → Int32) (bpersons : Nat) (bpapers : Nat) (bstamps : Nat) (bversions : Nat) (blines : Nat) (bsteps : Nat) (bsayings : Nat) (bfindings : Nat) (bwarnings : Nat) (bquestions : Nat) (td : Int32) (vd : Int32) (vl : Int32) (gp : Int32) (bstampsc : Nat) (kbstamps : Nat) (fbstamps : Nat → Int32) : Prop := MP l G yX7_clockOf cX7_clockOf 2 (some .int) 3 [.ref h0, .int pa] [(h0, oX7 bb clk fi la ml mm sl sm cl), (la, iA G 12 fla), (bb, oX0 bpersons bpapers bstamps bversions blines bsteps bsayings bfindings bwarnings bquestions td vd vl gp), (bstamps, oX8 24 3 bstampsc (nI kbstamps)), (bstampsc, iA G 72 fbstamps)] (fun r : Int32 => True)
set_option maxHeartbeats 4000000 in
set_option maxRecDepth 100000 in
theorem c_clockOf (l : Launch) (G : GG) (h0 : Nat) (pa : Int32) (bb : Nat) (clk : Nat) (fi : Nat) (la : Nat) (ml : Nat) (mm : Nat) (sl : Nat) (sm : Nat) (cl : Int32) (fla : Nat → Int32) (bpersons : Nat) (bpapers : Nat) (bstamps : Nat) (bversions : Nat) (blines : Nat) (bsteps : Nat) (bsayings : Nat) (bfindings : Nat) (bwarnings : Nat) (bquestions : Nat) (td : Int32) (vd : Int32) (vl : Int32) (gp : Int32) (bstampsc : Nat) (kbstamps : Nat) (fbstamps : Nat → Int32) (hkbstamps : kbstamps ≤ 24) : K_c_clockOf l G h0 pa bb clk fi la ml mm sl sm cl fla bpersons bpapers bstamps bversions blines bsteps bsayings bfindings bwarnings bquestions td vd vl gp bstampsc kbstamps fbstamps := by
  refine MP.start (by decide +kernel) (Nat.le_of_ble_eq_true rfl) ?_
  intro p e s m below meth c ls hC hK hP hD hl
  refine absQ (fun Q0 hQ0 => ?_)
  have hl : lv_has ls 2 [(0, .ref h0), (1, .int pa)] := hl
  refine Kan8 hC (fun hx hb hr hml hB hown hlocks hnm => ?_)
  refine lv_iload_n hx hb gX7_clockOf_0.1 rfl (lv_at1 hl) ?_
  refine lv_iconst (v := 0) hx hb gX7_clockOf_0.2.1 (by decide) ?_
  refine lv_bipush (v := 11) hx hb gX7_clockOf_0.2.2.1 (by decide) ?_
  refine pSN hC hK hl (c_within l G pa 0 11) si_X7_64 rfl rfl (Nat.le_of_ble_eq_true rfl) rm_3_1_3 ⟨by first | exact Nat.le_of_ble_eq_true rfl | exact Nat.zero_le _, by first | exact Nat.le_of_ble_eq_true rfl | exact Nat.zero_le _⟩ gX7_clockOf_0.2.2.2.1 (Kors (Keqa fun a312 => ?_) (Keqa fun a312 => ?_))
  · refine lv_if_eq (tgt := 30) hx hb gX7_clockOf_0.2.2.2.2.1 (by decide) (fun c9 => absurd c9 (by decide)) (fun _ => ?_)
    obtain ⟨jp, hjp, rfl⟩ := Wi11 a312
    refine lv_aload_n hx hb gX7_clockOf_0.2.2.2.2.2.1 rfl (lv_at0 hl) ?_
    refine gf_X7_37 hC rfl hK hP 0 rfl rfl gX7_clockOf_0.2.2.2.2.2.2.1 ?_
    refine gf_X7_48 hC rfl hK hP 2 rfl rfl gX7_clockOf_0.2.2.2.2.2.2.2.1 ?_
    refine lv_aload_n hx hb gX7_clockOf_0.2.2.2.2.2.2.2.2.1 rfl (lv_at0 hl) ?_
    refine gf_X7_22 hC rfl hK hP 0 rfl rfl gX7_clockOf_0.2.2.2.2.2.2.2.2.2 ?_
    refine lv_iload_n hx hb gX7_clockOf_1.1 rfl (lv_at1 hl) ?_
    refine aldN hC hK hP 1 rfl (k := jp) (by omega) (Nat.le_of_ble_eq_true rfl) (v := fla jp) rfl gX7_clockOf_1.2.1 ?_
    refine lv_topi (fun x313 ex313 => ?_)
    refine lv_iconst (v := 1) hx hb gX7_clockOf_1.2.2.1 (by decide) ?_
    refine pV hC hK hl hP hD (c_T_at l G bstamps x313 1 24 3 bstampsc kbstamps fbstamps (hkbstamps) (by omega) (by omega)) si_X7_60 [3, 4] sm_3_4 fm_3_4 nd_3_4 rfl rfl rfl rfl rfl (Nat.le_of_ble_eq_true rfl) rm_3_1_3 ⟨by first | exact Nat.le_of_ble_eq_true rfl | exact Nat.zero_le _, by first | exact Nat.le_of_ble_eq_true rfl | exact Nat.zero_le _⟩ gX7_clockOf_1.2.2.2.1 (fun r314 hr314 => ?_)
    refine lv_goto (tgt := 31) hx hb gX7_clockOf_1.2.2.2.2.1 (by decide) ?_
    refine toQ hQ0 ?_
    exact RP (v := r314) hC (trivial) rfl gX7_clockOf_1.2.2.2.2.2.2
  · refine lv_if_eq (tgt := 30) hx hb gX7_clockOf_0.2.2.2.2.1 (by decide) (fun _ => ?_) (fun c9 => absurd (by decide) c9)
    refine lv_iconst (v := 0) hx hb gX7_clockOf_1.2.2.2.2.2.1 (by decide) ?_
    refine toQ hQ0 ?_
    exact RP (v := 0) hC (trivial) rfl gX7_clockOf_1.2.2.2.2.2.2
def K_c_readBetween (l : Launch) (G : GG) (h0 : Nat) (pa : Int32) (ot : Int32) (bb : Nat) (clk : Nat) (fi : Nat) (la : Nat) (ml : Nat) (mm : Nat) (sl : Nat) (sm : Nat) (cl : Int32) (fla : Nat → Int32) (bpersons : Nat) (bpapers : Nat) (bstamps : Nat) (bversions : Nat) (blines : Nat) (bsteps : Nat) (bsayings : Nat) (bfindings : Nat) (bwarnings : Nat) (bquestions : Nat) (td : Int32) (vd : Int32) (vl : Int32) (gp : Int32) (bstampsc : Nat) (kbstamps : Nat) (fbstamps : Nat → Int32) : Prop := MP l G yX7_readBetween cX7_readBetween 3 (some .int) 3 [.ref h0, .int pa, .int ot] [(h0, oX7 bb clk fi la ml mm sl sm cl), (la, iA G 12 fla), (bb, oX0 bpersons bpapers bstamps bversions blines bsteps bsayings bfindings bwarnings bquestions td vd vl gp), (bstamps, oX8 24 3 bstampsc (nI kbstamps)), (bstampsc, iA G 72 fbstamps)] (fun r : Int32 => True)
set_option maxHeartbeats 4000000 in
set_option maxRecDepth 100000 in
theorem c_readBetween (l : Launch) (G : GG) (h0 : Nat) (pa : Int32) (ot : Int32) (bb : Nat) (clk : Nat) (fi : Nat) (la : Nat) (ml : Nat) (mm : Nat) (sl : Nat) (sm : Nat) (cl : Int32) (fla : Nat → Int32) (bpersons : Nat) (bpapers : Nat) (bstamps : Nat) (bversions : Nat) (blines : Nat) (bsteps : Nat) (bsayings : Nat) (bfindings : Nat) (bwarnings : Nat) (bquestions : Nat) (td : Int32) (vd : Int32) (vl : Int32) (gp : Int32) (bstampsc : Nat) (kbstamps : Nat) (fbstamps : Nat → Int32) (hkbstamps : kbstamps ≤ 24) : K_c_readBetween l G h0 pa ot bb clk fi la ml mm sl sm cl fla bpersons bpapers bstamps bversions blines bsteps bsayings bfindings bwarnings bquestions td vd vl gp bstampsc kbstamps fbstamps := by
  refine MP.start (by decide +kernel) (Nat.le_of_ble_eq_true rfl) ?_
  intro p e s m below meth c ls hC hK hP hD hl
  refine absQ (fun Q0 hQ0 => ?_)
  have hl : lv_has ls 3 [(0, .ref h0), (1, .int pa), (2, .int ot)] := hl
  refine Kan8 hC (fun hx hb hr hml hB hown hlocks hnm => ?_)
  refine lv_aload_n hx hb gX7_readBetween_0.1 rfl (lv_at0 hl) ?_
  refine lv_iload_n hx hb gX7_readBetween_0.2.1 rfl (lv_at1 hl) ?_
  refine pV hC hK hl hP hD (c_isSent l G h0 pa bb clk fi la ml mm sl sm cl fla) si_X7_90 [0, 1] sm_0_1 fm_0_1 nd_0_1 rfl rfl rfl rfl rfl (Nat.le_of_ble_eq_true rfl) rm_3_1_2 ⟨by first | exact Nat.le_of_ble_eq_true rfl | exact Nat.zero_le _, by first | exact Nat.le_of_ble_eq_true rfl | exact Nat.zero_le _⟩ gX7_readBetween_0.2.2.1 (Kors (Keqa fun a317 => ?_) (Keqr ?_))
  · refine lv_if_eq (tgt := 16) hx hb gX7_readBetween_0.2.2.2.1 (by decide) (fun c9 => absurd c9 (by decide)) (fun _ => ?_)
    refine lv_aload_n hx hb gX7_readBetween_0.2.2.2.2.1 rfl (lv_at0 hl) ?_
    refine lv_iload_n hx hb gX7_readBetween_0.2.2.2.2.2.1 rfl (lv_at2 hl) ?_
    refine pV hC hK hl hP hD (c_isSent l G h0 ot bb clk fi la ml mm sl sm cl fla) si_X7_90 [0, 1] sm_0_1 fm_0_1 nd_0_1 rfl rfl rfl rfl rfl (Nat.le_of_ble_eq_true rfl) rm_3_1_2 ⟨by first | exact Nat.le_of_ble_eq_true rfl | exact Nat.zero_le _, by first | exact Nat.le_of_ble_eq_true rfl | exact Nat.zero_le _⟩ gX7_readBetween_0.2.2.2.2.2.2.1 (Kors (Keqa fun a319 => ?_) (Keqr ?_))
    · refine lv_if_ne (tgt := 18) hx hb gX7_readBetween_0.2.2.2.2.2.2.2.1 (by decide) (fun _ => ?_) (fun c9 => absurd c9 (by decide))
      obtain ⟨jp, hjp, rfl⟩ := Sn_nat a317
      obtain ⟨jo, hjo, rfl⟩ := Sn_nat a319
      refine lv_aload_n hx hb gX7_readBetween_1.1 rfl (lv_at0 hl) ?_
      refine gf_X7_37 hC rfl hK hP 0 rfl rfl gX7_readBetween_1.2.1 ?_
      refine gf_X7_48 hC rfl hK hP 2 rfl rfl gX7_readBetween_1.2.2.1 ?_
      refine lv_aload_n hx hb gX7_readBetween_1.2.2.2.1 rfl (lv_at0 hl) ?_
      refine gf_X7_22 hC rfl hK hP 0 rfl rfl gX7_readBetween_1.2.2.2.2.1 ?_
      refine lv_iload_n hx hb gX7_readBetween_1.2.2.2.2.2.1 rfl (lv_at2 hl) ?_
      refine aldN hC hK hP 1 rfl (k := jo) (by omega) (Nat.le_of_ble_eq_true rfl) (v := fla jo) rfl gX7_readBetween_1.2.2.2.2.2.2.1 ?_
      refine lv_topi (fun x320 ex320 => ?_)
      refine lv_iconst (v := 2) hx hb gX7_readBetween_1.2.2.2.2.2.2.2.1 (by decide) ?_
      refine pV hC hK hl hP hD (c_T_at l G bstamps x320 2 24 3 bstampsc kbstamps fbstamps (hkbstamps) (by omega) (by omega)) si_X7_60 [3, 4] sm_3_4 fm_3_4 nd_3_4 rfl rfl rfl rfl rfl (Nat.le_of_ble_eq_true rfl) rm_3_1_3 ⟨by first | exact Nat.le_of_ble_eq_true rfl | exact Nat.zero_le _, by first | exact Nat.le_of_ble_eq_true rfl | exact Nat.zero_le _⟩ gX7_readBetween_1.2.2.2.2.2.2.2.2.1 (fun r321 hr321 => ?_)
      refine lv_aload_n hx hb gX7_readBetween_1.2.2.2.2.2.2.2.2.2 rfl (lv_at0 hl) ?_
      refine gf_X7_37 hC rfl hK hP 0 rfl rfl gX7_readBetween_2.1 ?_
      refine gf_X7_48 hC rfl hK hP 2 rfl rfl gX7_readBetween_2.2.1 ?_
      refine lv_aload_n hx hb gX7_readBetween_2.2.2.1 rfl (lv_at0 hl) ?_
      refine gf_X7_22 hC rfl hK hP 0 rfl rfl gX7_readBetween_2.2.2.2.1 ?_
      refine lv_iload_n hx hb gX7_readBetween_2.2.2.2.2.1 rfl (lv_at1 hl) ?_
      refine aldN hC hK hP 1 rfl (k := jp) (by omega) (Nat.le_of_ble_eq_true rfl) (v := fla jp) rfl gX7_readBetween_2.2.2.2.2.2.1 ?_
      refine lv_topi (fun x323 ex323 => ?_)
      refine lv_iconst (v := 2) hx hb gX7_readBetween_2.2.2.2.2.2.2.1 (by decide) ?_
      refine pV hC hK hl hP hD (c_T_at l G bstamps x323 2 24 3 bstampsc kbstamps fbstamps (hkbstamps) (by omega) (by omega)) si_X7_60 [3, 4] sm_3_4 fm_3_4 nd_3_4 rfl rfl rfl rfl rfl (Nat.le_of_ble_eq_true rfl) rm_3_1_3 ⟨by first | exact Nat.le_of_ble_eq_true rfl | exact Nat.zero_le _, by first | exact Nat.le_of_ble_eq_true rfl | exact Nat.zero_le _⟩ gX7_readBetween_2.2.2.2.2.2.2.2.1 (fun r324 hr324 => ?_)
      refine lv_isub hx hb gX7_readBetween_2.2.2.2.2.2.2.2.2.1 ?_
      refine toQ hQ0 ?_
      exact RP (v := r321 - r324) hC (trivial) rfl gX7_readBetween_2.2.2.2.2.2.2.2.2.2
    · refine lv_if_ne (tgt := 18) hx hb gX7_readBetween_0.2.2.2.2.2.2.2.1 (by decide) (fun c9 => absurd (by decide) c9) (fun _ => ?_)
      refine lv_iconst (v := 0) hx hb gX7_readBetween_0.2.2.2.2.2.2.2.2.1 (by decide) ?_
      refine toQ hQ0 ?_
      exact RP (v := 0) hC (trivial) rfl gX7_readBetween_0.2.2.2.2.2.2.2.2.2
  · refine lv_if_eq (tgt := 16) hx hb gX7_readBetween_0.2.2.2.1 (by decide) (fun _ => ?_) (fun c9 => absurd (by decide) c9)
    refine lv_iconst (v := 0) hx hb gX7_readBetween_0.2.2.2.2.2.2.2.2.1 (by decide) ?_
    refine toQ hQ0 ?_
    exact RP (v := 0) hC (trivial) rfl gX7_readBetween_0.2.2.2.2.2.2.2.2.2
def K_c_leastBetween (l : Launch) (G : GG) (h0 : Nat) (pa : Int32) (ot : Int32) (bb : Nat) (clk : Nat) (fi : Nat) (la : Nat) (ml : Nat) (mm : Nat) (sl : Nat) (sm : Nat) (cl : Int32) (fla : Nat → Int32) (clm : Nat) (fclm : Nat → Int32) (bpersons : Nat) (bpapers : Nat) (bstamps : Nat) (bversions : Nat) (blines : Nat) (bsteps : Nat) (bsayings : Nat) (bfindings : Nat) (bwarnings : Nat) (bquestions : Nat) (td : Int32) (vd : Int32) (vl : Int32) (gp : Int32) (bstampsc : Nat) (kbstamps : Nat) (fbstamps : Nat → Int32) : Prop := MP l G yX7_leastBetween cX7_leastBetween 3 (some .int) 4 [.ref h0, .int pa, .int ot] [(h0, oX7 bb clk fi la ml mm sl sm cl), (la, iA G 12 fla), (clk, oX1 clm), (clm, iA G 36 fclm), (bb, oX0 bpersons bpapers bstamps bversions blines bsteps bsayings bfindings bwarnings bquestions td vd vl gp), (bstamps, oX8 24 3 bstampsc (nI kbstamps)), (bstampsc, iA G 72 fbstamps)] (fun r : Int32 => True)
set_option maxHeartbeats 4000000 in
set_option maxRecDepth 100000 in
theorem c_leastBetween (l : Launch) (G : GG) (h0 : Nat) (pa : Int32) (ot : Int32) (bb : Nat) (clk : Nat) (fi : Nat) (la : Nat) (ml : Nat) (mm : Nat) (sl : Nat) (sm : Nat) (cl : Int32) (fla : Nat → Int32) (clm : Nat) (fclm : Nat → Int32) (bpersons : Nat) (bpapers : Nat) (bstamps : Nat) (bversions : Nat) (blines : Nat) (bsteps : Nat) (bsayings : Nat) (bfindings : Nat) (bwarnings : Nat) (bquestions : Nat) (td : Int32) (vd : Int32) (vl : Int32) (gp : Int32) (bstampsc : Nat) (kbstamps : Nat) (fbstamps : Nat → Int32) (hkbstamps : kbstamps ≤ 24) : K_c_leastBetween l G h0 pa ot bb clk fi la ml mm sl sm cl fla clm fclm bpersons bpapers bstamps bversions blines bsteps bsayings bfindings bwarnings bquestions td vd vl gp bstampsc kbstamps fbstamps := by
  refine MP.start (by decide +kernel) (Nat.le_of_ble_eq_true rfl) ?_
  intro p e s m below meth c ls hC hK hP hD hl
  refine absQ (fun Q0 hQ0 => ?_)
  have hl : lv_has ls 3 [(0, .ref h0), (1, .int pa), (2, .int ot)] := hl
  refine Kan8 hC (fun hx hb hr hml hB hown hlocks hnm => ?_)
  refine lv_aload_n hx hb gX7_leastBetween_0.1 rfl (lv_at0 hl) ?_
  refine lv_iload_n hx hb gX7_leastBetween_0.2.1 rfl (lv_at1 hl) ?_
  refine lv_iload_n hx hb gX7_leastBetween_0.2.2.1 rfl (lv_at2 hl) ?_
  refine pV hC hK hl hP hD (c_readBetween l G h0 pa ot bb clk fi la ml mm sl sm cl fla bpersons bpapers bstamps bversions blines bsteps bsayings bfindings bwarnings bquestions td vd vl gp bstampsc kbstamps fbstamps (hkbstamps)) si_X7_113 [0, 1, 4, 5, 6] sm_0_1_4_5_6 fm_0_1_4_5_6 nd_0_1_4_5_6 rfl rfl rfl rfl rfl (Nat.le_of_ble_eq_true rfl) rm_4_3_3 ⟨by first | exact Nat.le_of_ble_eq_true rfl | exact Nat.zero_le _, by first | exact Nat.le_of_ble_eq_true rfl | exact Nat.zero_le _⟩ gX7_leastBetween_0.2.2.2.1 (fun r326 hr326 => ?_)
  refine lv_aload_n hx hb gX7_leastBetween_0.2.2.2.2.1 rfl (lv_at0 hl) ?_
  refine gf_X7_12 hC rfl hK hP 0 rfl rfl gX7_leastBetween_0.2.2.2.2.2.1 ?_
  refine lv_aload_n hx hb gX7_leastBetween_0.2.2.2.2.2.2.1 rfl (lv_at0 hl) ?_
  refine lv_iload_n hx hb gX7_leastBetween_0.2.2.2.2.2.2.2.1 rfl (lv_at1 hl) ?_
  refine pV hC hK hl hP hD (c_clockOf l G h0 pa bb clk fi la ml mm sl sm cl fla bpersons bpapers bstamps bversions blines bsteps bsayings bfindings bwarnings bquestions td vd vl gp bstampsc kbstamps fbstamps (hkbstamps)) si_X7_116 [0, 1, 4, 5, 6] sm_0_1_4_5_6 fm_0_1_4_5_6 nd_0_1_4_5_6 rfl rfl rfl rfl rfl (Nat.le_of_ble_eq_true rfl) rm_4_3_2 ⟨by first | exact Nat.le_of_ble_eq_true rfl | exact Nat.zero_le _, by first | exact Nat.le_of_ble_eq_true rfl | exact Nat.zero_le _⟩ gX7_leastBetween_0.2.2.2.2.2.2.2.2.1 (fun r327 hr327 => ?_)
  refine lv_aload_n hx hb gX7_leastBetween_0.2.2.2.2.2.2.2.2.2 rfl (lv_at0 hl) ?_
  refine lv_iload_n hx hb gX7_leastBetween_1.1 rfl (lv_at2 hl) ?_
  refine pV hC hK hl hP hD (c_clockOf l G h0 ot bb clk fi la ml mm sl sm cl fla bpersons bpapers bstamps bversions blines bsteps bsayings bfindings bwarnings bquestions td vd vl gp bstampsc kbstamps fbstamps (hkbstamps)) si_X7_116 [0, 1, 4, 5, 6] sm_0_1_4_5_6 fm_0_1_4_5_6 nd_0_1_4_5_6 rfl rfl rfl rfl rfl (Nat.le_of_ble_eq_true rfl) rm_4_3_2 ⟨by first | exact Nat.le_of_ble_eq_true rfl | exact Nat.zero_le _, by first | exact Nat.le_of_ble_eq_true rfl | exact Nat.zero_le _⟩ gX7_leastBetween_1.2.1 (fun r328 hr328 => ?_)
  refine pV hC hK hl hP hD (c_mostAhead l G clk r327 r328 clm fclm) si_X7_87 [2, 3] sm_2_3 fm_2_3 nd_2_3 rfl rfl rfl rfl rfl (Nat.le_of_ble_eq_true rfl) rm_4_1_3 ⟨by first | exact Nat.le_of_ble_eq_true rfl | exact Nat.zero_le _, by first | exact Nat.le_of_ble_eq_true rfl | exact Nat.zero_le _⟩ gX7_leastBetween_1.2.2.1 (fun r329 hr329 => ?_)
  refine lv_isub hx hb gX7_leastBetween_1.2.2.2.1 ?_
  refine toQ hQ0 ?_
  exact RP (v := r326 - r329) hC (trivial) rfl gX7_leastBetween_1.2.2.2.2
def K_c_mostBetween (l : Launch) (G : GG) (h0 : Nat) (pa : Int32) (ot : Int32) (bb : Nat) (clk : Nat) (fi : Nat) (la : Nat) (ml : Nat) (mm : Nat) (sl : Nat) (sm : Nat) (cl : Int32) (fla : Nat → Int32) (clm : Nat) (fclm : Nat → Int32) (bpersons : Nat) (bpapers : Nat) (bstamps : Nat) (bversions : Nat) (blines : Nat) (bsteps : Nat) (bsayings : Nat) (bfindings : Nat) (bwarnings : Nat) (bquestions : Nat) (td : Int32) (vd : Int32) (vl : Int32) (gp : Int32) (bstampsc : Nat) (kbstamps : Nat) (fbstamps : Nat → Int32) : Prop := MP l G yX7_mostBetween cX7_mostBetween 3 (some .int) 4 [.ref h0, .int pa, .int ot] [(h0, oX7 bb clk fi la ml mm sl sm cl), (la, iA G 12 fla), (clk, oX1 clm), (clm, iA G 36 fclm), (bb, oX0 bpersons bpapers bstamps bversions blines bsteps bsayings bfindings bwarnings bquestions td vd vl gp), (bstamps, oX8 24 3 bstampsc (nI kbstamps)), (bstampsc, iA G 72 fbstamps)] (fun r : Int32 => True)
set_option maxHeartbeats 4000000 in
set_option maxRecDepth 100000 in
theorem c_mostBetween (l : Launch) (G : GG) (h0 : Nat) (pa : Int32) (ot : Int32) (bb : Nat) (clk : Nat) (fi : Nat) (la : Nat) (ml : Nat) (mm : Nat) (sl : Nat) (sm : Nat) (cl : Int32) (fla : Nat → Int32) (clm : Nat) (fclm : Nat → Int32) (bpersons : Nat) (bpapers : Nat) (bstamps : Nat) (bversions : Nat) (blines : Nat) (bsteps : Nat) (bsayings : Nat) (bfindings : Nat) (bwarnings : Nat) (bquestions : Nat) (td : Int32) (vd : Int32) (vl : Int32) (gp : Int32) (bstampsc : Nat) (kbstamps : Nat) (fbstamps : Nat → Int32) (hkbstamps : kbstamps ≤ 24) : K_c_mostBetween l G h0 pa ot bb clk fi la ml mm sl sm cl fla clm fclm bpersons bpapers bstamps bversions blines bsteps bsayings bfindings bwarnings bquestions td vd vl gp bstampsc kbstamps fbstamps := by
  refine MP.start (by decide +kernel) (Nat.le_of_ble_eq_true rfl) ?_
  intro p e s m below meth c ls hC hK hP hD hl
  refine absQ (fun Q0 hQ0 => ?_)
  have hl : lv_has ls 3 [(0, .ref h0), (1, .int pa), (2, .int ot)] := hl
  refine Kan8 hC (fun hx hb hr hml hB hown hlocks hnm => ?_)
  refine lv_aload_n hx hb gX7_mostBetween_0.1 rfl (lv_at0 hl) ?_
  refine lv_iload_n hx hb gX7_mostBetween_0.2.1 rfl (lv_at1 hl) ?_
  refine lv_iload_n hx hb gX7_mostBetween_0.2.2.1 rfl (lv_at2 hl) ?_
  refine pV hC hK hl hP hD (c_readBetween l G h0 pa ot bb clk fi la ml mm sl sm cl fla bpersons bpapers bstamps bversions blines bsteps bsayings bfindings bwarnings bquestions td vd vl gp bstampsc kbstamps fbstamps (hkbstamps)) si_X7_113 [0, 1, 4, 5, 6] sm_0_1_4_5_6 fm_0_1_4_5_6 nd_0_1_4_5_6 rfl rfl rfl rfl rfl (Nat.le_of_ble_eq_true rfl) rm_4_3_3 ⟨by first | exact Nat.le_of_ble_eq_true rfl | exact Nat.zero_le _, by first | exact Nat.le_of_ble_eq_true rfl | exact Nat.zero_le _⟩ gX7_mostBetween_0.2.2.2.1 (fun r330 hr330 => ?_)
  refine lv_aload_n hx hb gX7_mostBetween_0.2.2.2.2.1 rfl (lv_at0 hl) ?_
  refine gf_X7_12 hC rfl hK hP 0 rfl rfl gX7_mostBetween_0.2.2.2.2.2.1 ?_
  refine lv_aload_n hx hb gX7_mostBetween_0.2.2.2.2.2.2.1 rfl (lv_at0 hl) ?_
  refine lv_iload_n hx hb gX7_mostBetween_0.2.2.2.2.2.2.2.1 rfl (lv_at2 hl) ?_
  refine pV hC hK hl hP hD (c_clockOf l G h0 ot bb clk fi la ml mm sl sm cl fla bpersons bpapers bstamps bversions blines bsteps bsayings bfindings bwarnings bquestions td vd vl gp bstampsc kbstamps fbstamps (hkbstamps)) si_X7_116 [0, 1, 4, 5, 6] sm_0_1_4_5_6 fm_0_1_4_5_6 nd_0_1_4_5_6 rfl rfl rfl rfl rfl (Nat.le_of_ble_eq_true rfl) rm_4_3_2 ⟨by first | exact Nat.le_of_ble_eq_true rfl | exact Nat.zero_le _, by first | exact Nat.le_of_ble_eq_true rfl | exact Nat.zero_le _⟩ gX7_mostBetween_0.2.2.2.2.2.2.2.2.1 (fun r331 hr331 => ?_)
  refine lv_aload_n hx hb gX7_mostBetween_0.2.2.2.2.2.2.2.2.2 rfl (lv_at0 hl) ?_
  refine lv_iload_n hx hb gX7_mostBetween_1.1 rfl (lv_at1 hl) ?_
  refine pV hC hK hl hP hD (c_clockOf l G h0 pa bb clk fi la ml mm sl sm cl fla bpersons bpapers bstamps bversions blines bsteps bsayings bfindings bwarnings bquestions td vd vl gp bstampsc kbstamps fbstamps (hkbstamps)) si_X7_116 [0, 1, 4, 5, 6] sm_0_1_4_5_6 fm_0_1_4_5_6 nd_0_1_4_5_6 rfl rfl rfl rfl rfl (Nat.le_of_ble_eq_true rfl) rm_4_3_2 ⟨by first | exact Nat.le_of_ble_eq_true rfl | exact Nat.zero_le _, by first | exact Nat.le_of_ble_eq_true rfl | exact Nat.zero_le _⟩ gX7_mostBetween_1.2.1 (fun r332 hr332 => ?_)
  refine pV hC hK hl hP hD (c_mostAhead l G clk r331 r332 clm fclm) si_X7_87 [2, 3] sm_2_3 fm_2_3 nd_2_3 rfl rfl rfl rfl rfl (Nat.le_of_ble_eq_true rfl) rm_4_1_3 ⟨by first | exact Nat.le_of_ble_eq_true rfl | exact Nat.zero_le _, by first | exact Nat.le_of_ble_eq_true rfl | exact Nat.zero_le _⟩ gX7_mostBetween_1.2.2.1 (fun r333 hr333 => ?_)
  refine lv_iadd hx hb gX7_mostBetween_1.2.2.2.1 ?_
  refine toQ hQ0 ?_
  exact RP (v := r330 + r333) hC (trivial) rfl gX7_mostBetween_1.2.2.2.2
def K_c_boundHours (l : Launch) (G : GG) (h0 : Nat) (bb : Nat) (clk : Nat) (fi : Nat) (la : Nat) (ml : Nat) (mm : Nat) (sl : Nat) (sm : Nat) (cl : Int32) (ffi : Nat → Int32) (fla : Nat → Int32) (fml : Nat → Int32) (fmm : Nat → Int32) (fsl : Nat → Int32) (fsm : Nat → Int32) (clm : Nat) (fclm : Nat → Int32) (bpersons : Nat) (bpapers : Nat) (bstamps : Nat) (bversions : Nat) (blines : Nat) (bsteps : Nat) (bsayings : Nat) (bfindings : Nat) (bwarnings : Nat) (bquestions : Nat) (td : Int32) (vd : Int32) (vl : Int32) (gp : Int32) (bstampsc : Nat) (kbstamps : Nat) (fbstamps : Nat → Int32) : Prop := MV l G yX7_boundHours cX7_boundHours 2 4 0 0 [.ref h0] [(h0, oX7 bb clk fi la ml mm sl sm cl), (fi, iA G 12 ffi), (la, iA G 12 fla), (ml, iA G 12 fml), (mm, iA G 12 fmm), (sl, iA G 12 fsl), (sm, iA G 12 fsm), (clk, oX1 clm), (clm, iA G 36 fclm), (bb, oX0 bpersons bpapers bstamps bversions blines bsteps bsayings bfindings bwarnings bquestions td vd vl gp), (bstamps, oX8 24 3 bstampsc (nI kbstamps)), (bstampsc, iA G 72 fbstamps)] (fun u : (Nat → Int32) × (Nat → Int32) × (Nat → Int32) × (Nat → Int32) => True) (fun u : (Nat → Int32) × (Nat → Int32) × (Nat → Int32) × (Nat → Int32) => [(h0, oX7 bb clk fi la ml mm sl sm cl), (fi, iA G 12 ffi), (la, iA G 12 fla), (ml, iA G 12 u.1), (mm, iA G 12 u.2.1), (sl, iA G 12 u.2.2.1), (sm, iA G 12 u.2.2.2), (clk, oX1 clm), (clm, iA G 36 fclm), (bb, oX0 bpersons bpapers bstamps bversions blines bsteps bsayings bfindings bwarnings bquestions td vd vl gp), (bstamps, oX8 24 3 bstampsc (nI kbstamps)), (bstampsc, iA G 72 fbstamps)])
set_option maxHeartbeats 4000000 in
set_option maxRecDepth 100000 in
theorem c_boundHours (l : Launch) (G : GG) (h0 : Nat) (bb : Nat) (clk : Nat) (fi : Nat) (la : Nat) (ml : Nat) (mm : Nat) (sl : Nat) (sm : Nat) (cl : Int32) (ffi : Nat → Int32) (fla : Nat → Int32) (fml : Nat → Int32) (fmm : Nat → Int32) (fsl : Nat → Int32) (fsm : Nat → Int32) (clm : Nat) (fclm : Nat → Int32) (bpersons : Nat) (bpapers : Nat) (bstamps : Nat) (bversions : Nat) (blines : Nat) (bsteps : Nat) (bsayings : Nat) (bfindings : Nat) (bwarnings : Nat) (bquestions : Nat) (td : Int32) (vd : Int32) (vl : Int32) (gp : Int32) (bstampsc : Nat) (kbstamps : Nat) (fbstamps : Nat → Int32) (hkbstamps : kbstamps ≤ 24) : K_c_boundHours l G h0 bb clk fi la ml mm sl sm cl ffi fla fml fmm fsl fsm clm fclm bpersons bpapers bstamps bversions blines bsteps bsayings bfindings bwarnings bquestions td vd vl gp bstampsc kbstamps fbstamps := by
  refine MV.start (by decide +kernel) (Nat.le_of_ble_eq_true rfl) ?_
  intro p e s m below meth c A ls hC hK hP hD hS hA hl
  refine absQ (fun Q0 hQ0 => ?_)
  have hl : lv_has ls 2 [(0, .ref h0)] := hl
  refine Kan8 hC (fun hx hb hr hml hB hown hlocks hnm => ?_)
  refine lv_iconst (v := 0) hx hb gX7_boundHours_0.1 (by decide) ?_
  refine lv_istore_n (lv' := [(1, .int 0), (0, .ref h0)]) hx hb gX7_boundHours_0.2.1 rfl hl (by decide) rfl (fun ls hl => ?_)
  have keyP : ∀ (nP kP : Nat) (vml : Nat → Int32) (vmm : Nat → Int32) (vsl : Nat → Int32) (vsm : Nat → Int32) (H : Heap) (locs : List Loc) (ls : Array Slot), kP + nP = 12 → va_PD G A [(h0, oX7 bb clk fi la ml mm sl sm cl), (fi, iA G 12 ffi), (la, iA G 12 fla), (ml, iA G 12 vml), (mm, iA G 12 vmm), (sl, iA G 12 vsl), (sm, iA G 12 vsm), (clk, oX1 clm), (clm, iA G 36 fclm), (bb, oX0 bpersons bpapers bstamps bversions blines bsteps bsayings bfindings bwarnings bquestions td vd vl gp), (bstamps, oX8 24 3 bstampsc (nI kbstamps)), (bstampsc, iA G 72 fbstamps)] H → va_S A s.heap H locs → lv_has ls 2 [(1, .int (nI kP)), (0, .ref h0)] → W p l e (RM 4 0 0) s m ([.ref h0] : List Value).toArray below meth c H locs 0 0 Q0 (F0 m 2 ls []) := by
    intro nP
    induction nP with
    | zero =>
      intro kP vml vmm vsl vsm H locs ls hkP hPD hS hl
      refine Kan2 hPD (fun hP hD => ?_)
      obtain rfl : 12 = kP := by omega
      have hl : lv_has ls 2 [(1, .int 12), (0, .ref h0)] := hl
      refine lv_iload_n hx hb gX7_boundHours_0.2.2.1 rfl (lv_at0 hl) ?_
      refine lv_bipush (v := 12) hx hb gX7_boundHours_0.2.2.2.1 (by decide) ?_
      refine lv_icmp_ge (tgt := 94) hx hb gX7_boundHours_0.2.2.2.2.1 (by decide) (fun _ => ?_) (fun c9 => absurd (by decide) c9)
      refine toQ hQ0 ?_
      exact RV hC hP hD hS [0, 1, 2, 3, 4, 5, 6, 7, 8, 9, 10, 11] (vml, vmm, vsl, vsm) rfl rfl (by decide) (trivial) gX7_boundHours_5.2.2.2.2.2.2.2
    | succ nP ihP =>
      intro kP vml vmm vsl vsm H locs ls hkP hPD hS hl
      refine Kan2 hPD (fun hP hD => ?_)
      refine lv_iload_n hx hb gX7_boundHours_0.2.2.1 rfl (lv_at0 hl) ?_
      refine lv_bipush (v := 12) hx hb gX7_boundHours_0.2.2.2.1 (by decide) ?_
      refine lv_icmp_ge (tgt := 94) hx hb gX7_boundHours_0.2.2.2.2.1 (by decide) (fun c9 => absurd c9 (nI_ge (a := kP) (b := 12) (by omega) (by omega))) (fun _ => ?_)
      refine lv_aload_n hx hb gX7_boundHours_0.2.2.2.2.2.1 rfl (lv_at1 hl) ?_
      refine gf_X7_22 hC rfl hK hP 0 rfl rfl gX7_boundHours_0.2.2.2.2.2.2.1 ?_
      refine lv_iload_n hx hb gX7_boundHours_0.2.2.2.2.2.2.2.1 rfl (lv_at0 hl) ?_
      refine aldN hC hK hP 2 rfl (k := kP) (by omega) (Nat.le_of_ble_eq_true rfl) (v := fla kP) rfl gX7_boundHours_0.2.2.2.2.2.2.2.2.1 ?_
      refine lv_topi (fun x334 ex334 => ?_)
      refine lv_if_ge (tgt := 20) hx hb gX7_boundHours_0.2.2.2.2.2.2.2.2.2 (by decide) (fun c_14_335 => ?_) (fun c_14_335 => ?_)
      · refine lv_aload_n hx hb gX7_boundHours_1.2.1 rfl (lv_at1 hl) ?_
        refine gf_X7_25 hC rfl hK hP 0 rfl rfl gX7_boundHours_1.2.2.1 ?_
        refine lv_iload_n hx hb gX7_boundHours_1.2.2.2.1 rfl (lv_at0 hl) ?_
        refine lv_aload_n hx hb gX7_boundHours_1.2.2.2.2.1 rfl (lv_at1 hl) ?_
        refine lv_aload_n hx hb gX7_boundHours_1.2.2.2.2.2.1 rfl (lv_at1 hl) ?_
        refine gf_X7_18 hC rfl hK hP 0 rfl rfl gX7_boundHours_1.2.2.2.2.2.2.1 ?_
        refine lv_iload_n hx hb gX7_boundHours_1.2.2.2.2.2.2.2.1 rfl (lv_at0 hl) ?_
        refine aldN hC hK hP 1 rfl (k := kP) (by omega) (Nat.le_of_ble_eq_true rfl) (v := ffi kP) rfl gX7_boundHours_1.2.2.2.2.2.2.2.2.1 ?_
        refine lv_topi (fun x336 ex336 => ?_)
        refine lv_iconst (v := 0) hx hb gX7_boundHours_1.2.2.2.2.2.2.2.2.2 (by decide) ?_
        refine pV hC hK hl hP hD (c_trueHour l G h0 x336 0 bb clk fi la ml mm sl sm cl clm fclm bpersons bpapers bstamps bversions blines bsteps bsayings bfindings bwarnings bquestions td vd vl gp bstampsc kbstamps fbstamps (hkbstamps)) si_X7_83 [0, 7, 8, 9, 10, 11] sm_0_7_8_9_10_11 fm_0_7_8_9_10_11 nd_0_7_8_9_10_11 rfl rfl rfl rfl rfl (Nat.le_of_ble_eq_true rfl) rm_4_3_5 ⟨by first | exact Nat.le_of_ble_eq_true rfl | exact Nat.zero_le _, by first | exact Nat.le_of_ble_eq_true rfl | exact Nat.zero_le _⟩ gX7_boundHours_2.1 (fun r337 hr337 => ?_)
        refine astN hC hK hP hD hS 3 (ws' := [(h0, oX7 bb clk fi la ml mm sl sm cl), (fi, iA G 12 ffi), (la, iA G 12 fla), (ml, iA G 12 (upd vml kP r337)), (mm, iA G 12 vmm), (sl, iA G 12 vsl), (sm, iA G 12 vsm), (clk, oX1 clm), (clm, iA G 36 fclm), (bb, oX0 bpersons bpapers bstamps bversions blines bsteps bsayings bfindings bwarnings bquestions td vd vl gp), (bstamps, oX8 24 3 bstampsc (nI kbstamps)), (bstampsc, iA G 72 fbstamps)]) rfl (k := kP) (by omega) (Nat.le_of_ble_eq_true rfl) (rfl) gX7_boundHours_2.2.1 (fun H locs hP hD hS => ?_)
        refine lv_aload_n hx hb gX7_boundHours_2.2.2.1 rfl (lv_at1 hl) ?_
        refine gf_X7_28 hC rfl hK hP 0 rfl rfl gX7_boundHours_2.2.2.2.1 ?_
        refine lv_iload_n hx hb gX7_boundHours_2.2.2.2.2.1 rfl (lv_at0 hl) ?_
        refine lv_aload_n hx hb gX7_boundHours_2.2.2.2.2.2.1 rfl (lv_at1 hl) ?_
        refine lv_aload_n hx hb gX7_boundHours_2.2.2.2.2.2.2.1 rfl (lv_at1 hl) ?_
        refine gf_X7_18 hC rfl hK hP 0 rfl rfl gX7_boundHours_2.2.2.2.2.2.2.2.1 ?_
        refine lv_iload_n hx hb gX7_boundHours_2.2.2.2.2.2.2.2.2.1 rfl (lv_at0 hl) ?_
        refine aldN hC hK hP 1 rfl (k := kP) (by omega) (Nat.le_of_ble_eq_true rfl) (v := ffi kP) rfl gX7_boundHours_2.2.2.2.2.2.2.2.2.2 ?_
        refine lv_topi (fun x338 ex338 => ?_)
        refine lv_iconst (v := 1) hx hb gX7_boundHours_3.1 (by decide) ?_
        refine pV hC hK hl hP hD (c_trueHour l G h0 x338 1 bb clk fi la ml mm sl sm cl clm fclm bpersons bpapers bstamps bversions blines bsteps bsayings bfindings bwarnings bquestions td vd vl gp bstampsc kbstamps fbstamps (hkbstamps)) si_X7_83 [0, 7, 8, 9, 10, 11] sm_0_7_8_9_10_11 fm_0_7_8_9_10_11 nd_0_7_8_9_10_11 rfl rfl rfl rfl rfl (Nat.le_of_ble_eq_true rfl) rm_4_3_5 ⟨by first | exact Nat.le_of_ble_eq_true rfl | exact Nat.zero_le _, by first | exact Nat.le_of_ble_eq_true rfl | exact Nat.zero_le _⟩ gX7_boundHours_3.2.1 (fun r339 hr339 => ?_)
        refine astN hC hK hP hD hS 4 (ws' := [(h0, oX7 bb clk fi la ml mm sl sm cl), (fi, iA G 12 ffi), (la, iA G 12 fla), (ml, iA G 12 (upd vml kP r337)), (mm, iA G 12 (upd vmm kP r339)), (sl, iA G 12 vsl), (sm, iA G 12 vsm), (clk, oX1 clm), (clm, iA G 36 fclm), (bb, oX0 bpersons bpapers bstamps bversions blines bsteps bsayings bfindings bwarnings bquestions td vd vl gp), (bstamps, oX8 24 3 bstampsc (nI kbstamps)), (bstampsc, iA G 72 fbstamps)]) rfl (k := kP) (by omega) (Nat.le_of_ble_eq_true rfl) (rfl) gX7_boundHours_3.2.2.1 (fun H locs hP hD hS => ?_)
        refine lv_aload_n hx hb gX7_boundHours_3.2.2.2.1 rfl (lv_at1 hl) ?_
        refine gf_X7_31 hC rfl hK hP 0 rfl rfl gX7_boundHours_3.2.2.2.2.1 ?_
        refine lv_iload_n hx hb gX7_boundHours_3.2.2.2.2.2.1 rfl (lv_at0 hl) ?_
        refine lv_aload_n hx hb gX7_boundHours_3.2.2.2.2.2.2.1 rfl (lv_at1 hl) ?_
        refine lv_aload_n hx hb gX7_boundHours_3.2.2.2.2.2.2.2.1 rfl (lv_at1 hl) ?_
        refine gf_X7_22 hC rfl hK hP 0 rfl rfl gX7_boundHours_3.2.2.2.2.2.2.2.2.1 ?_
        refine lv_iload_n hx hb gX7_boundHours_3.2.2.2.2.2.2.2.2.2 rfl (lv_at0 hl) ?_
        refine aldN hC hK hP 2 rfl (k := kP) (by omega) (Nat.le_of_ble_eq_true rfl) (v := fla kP) rfl gX7_boundHours_4.1 ?_
        refine lv_topi (fun x340 ex340 => ?_)
        refine lv_iconst (v := 0) hx hb gX7_boundHours_4.2.1 (by decide) ?_
        refine pV hC hK hl hP hD (c_trueHour l G h0 x340 0 bb clk fi la ml mm sl sm cl clm fclm bpersons bpapers bstamps bversions blines bsteps bsayings bfindings bwarnings bquestions td vd vl gp bstampsc kbstamps fbstamps (hkbstamps)) si_X7_83 [0, 7, 8, 9, 10, 11] sm_0_7_8_9_10_11 fm_0_7_8_9_10_11 nd_0_7_8_9_10_11 rfl rfl rfl rfl rfl (Nat.le_of_ble_eq_true rfl) rm_4_3_5 ⟨by first | exact Nat.le_of_ble_eq_true rfl | exact Nat.zero_le _, by first | exact Nat.le_of_ble_eq_true rfl | exact Nat.zero_le _⟩ gX7_boundHours_4.2.2.1 (fun r341 hr341 => ?_)
        refine astN hC hK hP hD hS 5 (ws' := [(h0, oX7 bb clk fi la ml mm sl sm cl), (fi, iA G 12 ffi), (la, iA G 12 fla), (ml, iA G 12 (upd vml kP r337)), (mm, iA G 12 (upd vmm kP r339)), (sl, iA G 12 (upd vsl kP r341)), (sm, iA G 12 vsm), (clk, oX1 clm), (clm, iA G 36 fclm), (bb, oX0 bpersons bpapers bstamps bversions blines bsteps bsayings bfindings bwarnings bquestions td vd vl gp), (bstamps, oX8 24 3 bstampsc (nI kbstamps)), (bstampsc, iA G 72 fbstamps)]) rfl (k := kP) (by omega) (Nat.le_of_ble_eq_true rfl) (rfl) gX7_boundHours_4.2.2.2.1 (fun H locs hP hD hS => ?_)
        refine lv_aload_n hx hb gX7_boundHours_4.2.2.2.2.1 rfl (lv_at1 hl) ?_
        refine gf_X7_34 hC rfl hK hP 0 rfl rfl gX7_boundHours_4.2.2.2.2.2.1 ?_
        refine lv_iload_n hx hb gX7_boundHours_4.2.2.2.2.2.2.1 rfl (lv_at0 hl) ?_
        refine lv_aload_n hx hb gX7_boundHours_4.2.2.2.2.2.2.2.1 rfl (lv_at1 hl) ?_
        refine lv_aload_n hx hb gX7_boundHours_4.2.2.2.2.2.2.2.2.1 rfl (lv_at1 hl) ?_
        refine gf_X7_22 hC rfl hK hP 0 rfl rfl gX7_boundHours_4.2.2.2.2.2.2.2.2.2 ?_
        refine lv_iload_n hx hb gX7_boundHours_5.1 rfl (lv_at0 hl) ?_
        refine aldN hC hK hP 2 rfl (k := kP) (by omega) (Nat.le_of_ble_eq_true rfl) (v := fla kP) rfl gX7_boundHours_5.2.1 ?_
        refine lv_topi (fun x342 ex342 => ?_)
        refine lv_iconst (v := 1) hx hb gX7_boundHours_5.2.2.1 (by decide) ?_
        refine pV hC hK hl hP hD (c_trueHour l G h0 x342 1 bb clk fi la ml mm sl sm cl clm fclm bpersons bpapers bstamps bversions blines bsteps bsayings bfindings bwarnings bquestions td vd vl gp bstampsc kbstamps fbstamps (hkbstamps)) si_X7_83 [0, 7, 8, 9, 10, 11] sm_0_7_8_9_10_11 fm_0_7_8_9_10_11 nd_0_7_8_9_10_11 rfl rfl rfl rfl rfl (Nat.le_of_ble_eq_true rfl) rm_4_3_5 ⟨by first | exact Nat.le_of_ble_eq_true rfl | exact Nat.zero_le _, by first | exact Nat.le_of_ble_eq_true rfl | exact Nat.zero_le _⟩ gX7_boundHours_5.2.2.2.1 (fun r343 hr343 => ?_)
        refine astN hC hK hP hD hS 6 (ws' := [(h0, oX7 bb clk fi la ml mm sl sm cl), (fi, iA G 12 ffi), (la, iA G 12 fla), (ml, iA G 12 (upd vml kP r337)), (mm, iA G 12 (upd vmm kP r339)), (sl, iA G 12 (upd vsl kP r341)), (sm, iA G 12 (upd vsm kP r343)), (clk, oX1 clm), (clm, iA G 36 fclm), (bb, oX0 bpersons bpapers bstamps bversions blines bsteps bsayings bfindings bwarnings bquestions td vd vl gp), (bstamps, oX8 24 3 bstampsc (nI kbstamps)), (bstampsc, iA G 72 fbstamps)]) rfl (k := kP) (by omega) (Nat.le_of_ble_eq_true rfl) (rfl) gX7_boundHours_5.2.2.2.2.1 (fun H locs hP hD hS => ?_)
        refine lv_iinc (v := nI (kP + 1)) (lv' := [(1, .int (nI (kP + 1))), (0, .ref h0)]) hx hb gX7_boundHours_5.2.2.2.2.2.1 hl (k := 0) rfl (nI_1 _) (by decide) rfl (fun ls hl => ?_)
        refine lv_goto (tgt := 2) hx hb gX7_boundHours_5.2.2.2.2.2.2.1 (by decide) ?_
        exact ihP (kP + 1) (upd vml kP r337) (upd vmm kP r339) (upd vsl kP r341) (upd vsm kP r343) _ _ _ (by omega) (And.intro hP hD) hS (lv_sub hl [0, 1] rfl)
      · refine lv_goto (tgt := 88) hx hb gX7_boundHours_1.1 (by decide) ?_
        refine lv_iinc (v := nI (kP + 1)) (lv' := [(1, .int (nI (kP + 1))), (0, .ref h0)]) hx hb gX7_boundHours_5.2.2.2.2.2.1 hl (k := 0) rfl (nI_1 _) (by decide) rfl (fun ls hl => ?_)
        refine lv_goto (tgt := 2) hx hb gX7_boundHours_5.2.2.2.2.2.2.1 (by decide) ?_
        exact ihP (kP + 1) vml vmm vsl vsm _ _ _ (by omega) (And.intro hP hD) hS (lv_sub hl [0, 1] rfl)
  exact keyP 12 0 fml fmm fsl fsm _ _ _ (by omega) (And.intro hP hD) hS (lv_sub hl [0, 1] rfl)
