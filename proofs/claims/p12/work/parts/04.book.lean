section WR
variable {p : Program} {l : Launch} {e : Env} {R : Room} {s : State} {m : MethodId} {args : Array Value} {below : List Frame} {meth : Method} {c : Code} {H : Heap} {locs : List Loc} {cells slots : Nat} {Q : State → Prop}
variable {pc : Nat} {ls : Array Slot} {rest : List Value} {G : GG} {ws : va_W} {A : Nat → Prop} {y0 : MethodName} {b0 : ByteArray} {mL0 : Nat} {rt0 : Option FieldType} {a : Nat} {H0 : Heap}
theorem gX11_hasBit_0 : (decode cX11_hasBit 0 = .ok (.iload_n 1, 1)) ∧ (decode cX11_hasBit 1 = .ok (.ifCond .lt 22, 3)) ∧ (decode cX11_hasBit 4 = .ok (.iload_n 1, 1)) ∧ (decode cX11_hasBit 5 = .ok (.bipush 31, 2)) ∧ (decode cX11_hasBit 7 = .ok (.if_icmp .ge 16, 3)) ∧ (decode cX11_hasBit 10 = .ok (.iload_n 0, 1)) ∧ (decode cX11_hasBit 11 = .ok (.iload_n 1, 1)) ∧ (decode cX11_hasBit 12 = .ok (.ishr, 1)) ∧ (decode cX11_hasBit 13 = .ok (.iconst 1, 1)) ∧ (decode cX11_hasBit 14 = .ok (.iand, 1)) := by decide +kernel
theorem gX11_hasBit_1 : (decode cX11_hasBit 15 = .ok (.iconst 1, 1)) ∧ (decode cX11_hasBit 16 = .ok (.if_icmp .ne 7, 3)) ∧ (decode cX11_hasBit 19 = .ok (.iconst 1, 1)) ∧ (decode cX11_hasBit 20 = .ok (.goto 4, 3)) ∧ (decode cX11_hasBit 23 = .ok (.iconst 0, 1)) ∧ (decode cX11_hasBit 24 = .ok (.ireturn, 1)) := by decide +kernel
theorem gX11_isStamp_0 : (decode cX11_isStamp 0 = .ok (.iload_n 0, 1)) ∧ (decode cX11_isStamp 1 = .ok (.iconst 0, 1)) ∧ (decode cX11_isStamp 2 = .ok (.iconst 5, 1)) ∧ (decode cX11_isStamp 3 = .ok (.invokestatic 83, 3)) ∧ (decode cX11_isStamp 6 = .ok (.ifCond .eq 18, 3)) ∧ (decode cX11_isStamp 9 = .ok (.iload_n 1, 1)) ∧ (decode cX11_isStamp 10 = .ok (.iconst 0, 1)) ∧ (decode cX11_isStamp 11 = .ok (.sipush 999, 3)) ∧ (decode cX11_isStamp 14 = .ok (.invokestatic 83, 3)) ∧ (decode cX11_isStamp 17 = .ok (.ifCond .eq 7, 3)) := by decide +kernel
theorem gX11_isStamp_1 : (decode cX11_isStamp 20 = .ok (.iconst 1, 1)) ∧ (decode cX11_isStamp 21 = .ok (.goto 4, 3)) ∧ (decode cX11_isStamp 24 = .ok (.iconst 0, 1)) ∧ (decode cX11_isStamp 25 = .ok (.ireturn, 1)) := by decide +kernel
theorem gX0_viewedDay_0 : (decode cX0_viewedDay 0 = .ok (.aload_n 0, 1)) ∧ (decode cX0_viewedDay 1 = .ok (.getfield 51, 3)) ∧ (decode cX0_viewedDay 4 = .ok (.ifCond .ge 10, 3)) ∧ (decode cX0_viewedDay 7 = .ok (.aload_n 0, 1)) ∧ (decode cX0_viewedDay 8 = .ok (.getfield 47, 3)) ∧ (decode cX0_viewedDay 11 = .ok (.goto 7, 3)) ∧ (decode cX0_viewedDay 14 = .ok (.aload_n 0, 1)) ∧ (decode cX0_viewedDay 15 = .ok (.getfield 51, 3)) ∧ (decode cX0_viewedDay 18 = .ok (.ireturn, 1)) := by decide +kernel
theorem in_X0 : ∀ w ∈ wsX00, w ∈ BW := iB_wsX00
theorem m_160 : Cond.fieldLink RX0 51 "InquiryBench$Book" "viewDay" "I" ∈ BW := iB_BW8 _ (List.mem_of_getElem? (i := 18) rfl)
theorem gf_X0_51 (hC : CX p s m meth c y0 b0 mL0 rt0 args) (hy0 : y0.cls = RX0) (hK : KK G s) (hP : va_P G.1 vwCl ws H) (q0 : Nat) {fs : List Value} {v : Value} (he : ws[q0]? = some (a, .inr (0, fs))) (hv : fs[11]? = some v) (hdg : decode b0 pc = .ok (.getfield 51, 3)) (kk : W p l e R s m args below meth c H locs cells slots Q (F0 m (pc + 3) ls (v :: rest))) : W p l e R s m args below meth c H locs cells slots Q (F0 m pc ls (.ref a :: rest)) := by
  obtain ⟨hx, hb, hr, hml, hB, hown, hlocks, hnm⟩ := hC
  rw [hy0] at hown
  exact va_get (ci := 0) (C := RX0) (T := TX0) (N := 14) hx hb hB in_X0 hown hK.1 hP q0 he rfl 11 (by decide) (hB _ m_160) (fun _ h => h) hv hdg kk
theorem m_159 : Cond.fieldLink RX0 47 "InquiryBench$Book" "today" "I" ∈ BW := iB_BW8 _ (List.mem_of_getElem? (i := 17) rfl)
theorem gf_X0_47 (hC : CX p s m meth c y0 b0 mL0 rt0 args) (hy0 : y0.cls = RX0) (hK : KK G s) (hP : va_P G.1 vwCl ws H) (q0 : Nat) {fs : List Value} {v : Value} (he : ws[q0]? = some (a, .inr (0, fs))) (hv : fs[10]? = some v) (hdg : decode b0 pc = .ok (.getfield 47, 3)) (kk : W p l e R s m args below meth c H locs cells slots Q (F0 m (pc + 3) ls (v :: rest))) : W p l e R s m args below meth c H locs cells slots Q (F0 m pc ls (.ref a :: rest)) := by
  obtain ⟨hx, hb, hr, hml, hB, hown, hlocks, hnm⟩ := hC
  rw [hy0] at hown
  exact va_get (ci := 0) (C := RX0) (T := TX0) (N := 14) hx hb hB in_X0 hown hK.1 hP q0 he rfl 10 (by decide) (hB _ m_159) (fun _ h => h) hv hdg kk
theorem gX0_inView_0 : (decode cX0_inView 0 = .ok (.iconst 0, 1)) ∧ (decode cX0_inView 1 = .ok (.istore_n 1, 1)) ∧ (decode cX0_inView 2 = .ok (.aload_n 0, 1)) ∧ (decode cX0_inView 3 = .ok (.invokevirtual 64, 3)) ∧ (decode cX0_inView 6 = .ok (.istore_n 2, 1)) ∧ (decode cX0_inView 7 = .ok (.iconst 0, 1)) ∧ (decode cX0_inView 8 = .ok (.istore_n 3, 1)) ∧ (decode cX0_inView 9 = .ok (.iload_n 3, 1)) ∧ (decode cX0_inView 10 = .ok (.aload_n 0, 1)) ∧ (decode cX0_inView 11 = .ok (.getfield 20, 3)) := by decide +kernel
theorem m_306 : Cond.code yX0_viewedDay cX0_viewedDay 1 (some .int) ∈ BW := iB_BW16 _ (List.mem_of_getElem? (i := 12) rfl)
theorem m_103 : Cond.initialized RX0 ∈ BW := iB_BW6 _ (List.mem_of_getElem? (i := 1) rfl)
theorem nK_RX0 : RX0 ≠ "java/lang/invoke/MethodHandle" ∧ RX0 ≠ "java/lang/invoke/VarHandle" := ⟨by decide +kernel, by decide +kernel⟩
theorem pd_1 : (parseMethodDescriptor "()I").map (fun d => d.parameters.length) = some 0 := by decide +kernel
theorem m_303 : Cond.methodLink RX0 64 yX0_viewedDay ∈ BW := iB_BW16 _ (List.mem_of_getElem? (i := 9) rfl)
theorem m_304 : Cond.instanceMethod yX0_viewedDay ∈ BW := iB_BW16 _ (List.mem_of_getElem? (i := 10) rfl)
theorem m_305 : Cond.selects RX0 yX0_viewedDay yX0_viewedDay ∈ BW := iB_BW16 _ (List.mem_of_getElem? (i := 11) rfl)
theorem si_X0_64 : SV RX0 RX0 64 yX0_viewedDay cX0_viewedDay 1 (some .int) 0 := ⟨⟨m_303, m_304, m_305, m_103, m_306⟩, rfl, nK_RX0.1, nK_RX0.2, pd_1⟩
theorem m_150 : Cond.fieldLink RX0 20 "InquiryBench$Book" "papers" "LInquiryBench$Table;" ∈ BW := iB_BW8 _ (List.mem_of_getElem? (i := 8) rfl)
theorem gf_X0_20 (hC : CX p s m meth c y0 b0 mL0 rt0 args) (hy0 : y0.cls = RX0) (hK : KK G s) (hP : va_P G.1 vwCl ws H) (q0 : Nat) {fs : List Value} {v : Value} (he : ws[q0]? = some (a, .inr (0, fs))) (hv : fs[1]? = some v) (hdg : decode b0 pc = .ok (.getfield 20, 3)) (kk : W p l e R s m args below meth c H locs cells slots Q (F0 m (pc + 3) ls (v :: rest))) : W p l e R s m args below meth c H locs cells slots Q (F0 m pc ls (.ref a :: rest)) := by
  obtain ⟨hx, hb, hr, hml, hB, hown, hlocks, hnm⟩ := hC
  rw [hy0] at hown
  exact va_get (ci := 0) (C := RX0) (T := TX0) (N := 14) hx hb hB in_X0 hown hK.1 hP q0 he rfl 1 (by decide) (hB _ m_150) (fun _ h => h) hv hdg kk
theorem gX0_inView_1 : (decode cX0_inView 14 = .ok (.invokevirtual 68, 3)) ∧ (decode cX0_inView 17 = .ok (.if_icmp .ge 78, 3)) ∧ (decode cX0_inView 20 = .ok (.aload_n 0, 1)) ∧ (decode cX0_inView 21 = .ok (.getfield 20, 3)) ∧ (decode cX0_inView 24 = .ok (.iload_n 3, 1)) ∧ (decode cX0_inView 25 = .ok (.iconst 5, 1)) ∧ (decode cX0_inView 26 = .ok (.invokevirtual 71, 3)) ∧ (decode cX0_inView 29 = .ok (.istore 4, 2)) ∧ (decode cX0_inView 31 = .ok (.iload 4, 2)) ∧ (decode cX0_inView 33 = .ok (.ifCond .lt 13, 3)) := by decide +kernel
theorem m_310 : Cond.code yX8_count cX8_count 1 (some .int) ∈ BW := iB_BW16 _ (List.mem_of_getElem? (i := 16) rfl)
theorem m_104 : Cond.initialized RX8 ∈ BW := iB_BW6 _ (List.mem_of_getElem? (i := 2) rfl)
theorem nK_RX8 : RX8 ≠ "java/lang/invoke/MethodHandle" ∧ RX8 ≠ "java/lang/invoke/VarHandle" := ⟨by decide +kernel, by decide +kernel⟩
theorem m_307 : Cond.methodLink RX0 68 yX8_count ∈ BW := iB_BW16 _ (List.mem_of_getElem? (i := 13) rfl)
theorem m_308 : Cond.instanceMethod yX8_count ∈ BW := iB_BW16 _ (List.mem_of_getElem? (i := 14) rfl)
theorem m_309 : Cond.selects RX8 yX8_count yX8_count ∈ BW := iB_BW16 _ (List.mem_of_getElem? (i := 15) rfl)
theorem si_X0_68 : SV RX0 RX8 68 yX8_count cX8_count 1 (some .int) 0 := ⟨⟨m_307, m_308, m_309, m_104, m_310⟩, rfl, nK_RX8.1, nK_RX8.2, pd_1⟩
theorem gX0_inView_5 : (decode cX0_inView 89 = .ok (.iinc 3 1, 3)) ∧ (decode cX0_inView 92 = .ok (.goto (-83), 3)) ∧ (decode cX0_inView 95 = .ok (.iload_n 1, 1)) ∧ (decode cX0_inView 96 = .ok (.ireturn, 1)) := by decide +kernel
theorem m_314 : Cond.code yX8_at cX8_at 3 (some .int) ∈ BW := iB_BW17 _ (List.mem_of_getElem? (i := 0) rfl)
theorem pd_2 : (parseMethodDescriptor "(II)I").map (fun d => d.parameters.length) = some 2 := by decide +kernel
theorem m_311 : Cond.methodLink RX0 71 yX8_at ∈ BW := iB_BW16 _ (List.mem_of_getElem? (i := 17) rfl)
theorem m_312 : Cond.instanceMethod yX8_at ∈ BW := iB_BW16 _ (List.mem_of_getElem? (i := 18) rfl)
theorem m_313 : Cond.selects RX8 yX8_at yX8_at ∈ BW := iB_BW16 _ (List.mem_of_getElem? (i := 19) rfl)
theorem si_X0_71 : SV RX0 RX8 71 yX8_at cX8_at 3 (some .int) 2 := ⟨⟨m_311, m_312, m_313, m_104, m_314⟩, rfl, nK_RX8.1, nK_RX8.2, pd_2⟩
theorem gX0_inView_2 : (decode cX0_inView 36 = .ok (.iload 4, 2)) ∧ (decode cX0_inView 38 = .ok (.iload_n 2, 1)) ∧ (decode cX0_inView 39 = .ok (.if_icmp .gt 7, 3)) ∧ (decode cX0_inView 42 = .ok (.iconst 1, 1)) ∧ (decode cX0_inView 43 = .ok (.goto 4, 3)) ∧ (decode cX0_inView 46 = .ok (.iconst 0, 1)) ∧ (decode cX0_inView 47 = .ok (.istore 5, 2)) ∧ (decode cX0_inView 49 = .ok (.aload_n 0, 1)) ∧ (decode cX0_inView 50 = .ok (.getfield 20, 3)) ∧ (decode cX0_inView 53 = .ok (.iload_n 3, 1)) := by decide +kernel
theorem gX0_inView_3 : (decode cX0_inView 54 = .ok (.iconst 4, 1)) ∧ (decode cX0_inView 55 = .ok (.invokevirtual 71, 3)) ∧ (decode cX0_inView 58 = .ok (.iload_n 2, 1)) ∧ (decode cX0_inView 59 = .ok (.if_icmp .gt 30, 3)) ∧ (decode cX0_inView 62 = .ok (.aload_n 0, 1)) ∧ (decode cX0_inView 63 = .ok (.getfield 20, 3)) ∧ (decode cX0_inView 66 = .ok (.iload_n 3, 1)) ∧ (decode cX0_inView 67 = .ok (.iconst 3, 1)) ∧ (decode cX0_inView 68 = .ok (.invokevirtual 71, 3)) ∧ (decode cX0_inView 71 = .ok (.aload_n 0, 1)) := by decide +kernel
theorem gX0_inView_4 : (decode cX0_inView 72 = .ok (.getfield 54, 3)) ∧ (decode cX0_inView 75 = .ok (.if_icmp .gt 14, 3)) ∧ (decode cX0_inView 78 = .ok (.iload 5, 2)) ∧ (decode cX0_inView 80 = .ok (.ifCond .ne 9, 3)) ∧ (decode cX0_inView 83 = .ok (.iload_n 1, 1)) ∧ (decode cX0_inView 84 = .ok (.iconst 1, 1)) ∧ (decode cX0_inView 85 = .ok (.iload_n 3, 1)) ∧ (decode cX0_inView 86 = .ok (.ishl, 1)) ∧ (decode cX0_inView 87 = .ok (.ior, 1)) ∧ (decode cX0_inView 88 = .ok (.istore_n 1, 1)) := by decide +kernel
theorem m_161 : Cond.fieldLink RX0 54 "InquiryBench$Book" "viewLevel" "I" ∈ BW := iB_BW8 _ (List.mem_of_getElem? (i := 19) rfl)
theorem gf_X0_54 (hC : CX p s m meth c y0 b0 mL0 rt0 args) (hy0 : y0.cls = RX0) (hK : KK G s) (hP : va_P G.1 vwCl ws H) (q0 : Nat) {fs : List Value} {v : Value} (he : ws[q0]? = some (a, .inr (0, fs))) (hv : fs[12]? = some v) (hdg : decode b0 pc = .ok (.getfield 54, 3)) (kk : W p l e R s m args below meth c H locs cells slots Q (F0 m (pc + 3) ls (v :: rest))) : W p l e R s m args below meth c H locs cells slots Q (F0 m pc ls (.ref a :: rest)) := by
  obtain ⟨hx, hb, hr, hml, hB, hown, hlocks, hnm⟩ := hC
  rw [hy0] at hown
  exact va_get (ci := 0) (C := RX0) (T := TX0) (N := 14) hx hb hB in_X0 hown hK.1 hP q0 he rfl 12 (by decide) (hB _ m_161) (fun _ h => h) hv hdg kk
theorem gX0_countTo_0 : (decode cX0_countTo 0 = .ok (.iconst 0, 1)) ∧ (decode cX0_countTo 1 = .ok (.istore_n 3, 1)) ∧ (decode cX0_countTo 2 = .ok (.iconst 0, 1)) ∧ (decode cX0_countTo 3 = .ok (.istore 4, 2)) ∧ (decode cX0_countTo 5 = .ok (.iload 4, 2)) ∧ (decode cX0_countTo 7 = .ok (.aload_n 0, 1)) ∧ (decode cX0_countTo 8 = .ok (.getfield 20, 3)) ∧ (decode cX0_countTo 11 = .ok (.invokevirtual 68, 3)) ∧ (decode cX0_countTo 14 = .ok (.if_icmp .ge 38, 3)) ∧ (decode cX0_countTo 17 = .ok (.iload_n 2, 1)) := by decide +kernel
theorem gX0_countTo_2 : (decode cX0_countTo 40 = .ok (.ifCond .eq 6, 3)) ∧ (decode cX0_countTo 43 = .ok (.iinc 3 1, 3)) ∧ (decode cX0_countTo 46 = .ok (.iinc 4 1, 3)) ∧ (decode cX0_countTo 49 = .ok (.goto (-44), 3)) ∧ (decode cX0_countTo 52 = .ok (.iload_n 3, 1)) ∧ (decode cX0_countTo 53 = .ok (.ireturn, 1)) := by decide +kernel
theorem gX0_countTo_1 : (decode cX0_countTo 18 = .ok (.iload 4, 2)) ∧ (decode cX0_countTo 20 = .ok (.invokestatic 75, 3)) ∧ (decode cX0_countTo 23 = .ok (.ifCond .eq 23, 3)) ∧ (decode cX0_countTo 26 = .ok (.aload_n 0, 1)) ∧ (decode cX0_countTo 27 = .ok (.getfield 20, 3)) ∧ (decode cX0_countTo 30 = .ok (.iload 4, 2)) ∧ (decode cX0_countTo 32 = .ok (.iconst 1, 1)) ∧ (decode cX0_countTo 33 = .ok (.invokevirtual 71, 3)) ∧ (decode cX0_countTo 36 = .ok (.iload_n 1, 1)) ∧ (decode cX0_countTo 37 = .ok (.invokestatic 75, 3)) := by decide +kernel
theorem m_351 : Cond.code yX11_hasBit cX11_hasBit 2 (some .boolean) ∈ BW := iB_BW18 _ (List.mem_of_getElem? (i := 17) rfl)
theorem pd_3 : (parseMethodDescriptor "(II)Z").map (fun d => d.parameters.length) = some 2 := by decide +kernel
theorem nm_41 : Cond.methodLinkNest RX0 75 yX11_hasBit RX11 ∈ NestW := List.mem_of_getElem? (i := 41) rfl
theorem m_350 : Cond.static yX11_hasBit ∈ BW := iB_BW18 _ (List.mem_of_getElem? (i := 16) rfl)
theorem si_X0_75 : SSN RX0 RX11 75 yX11_hasBit cX11_hasBit 2 (some .boolean) 2 := ⟨⟨nm_41, m_350, m_102, m_351⟩, ⟨nK_RX11.1, nK_RX11.2, pd_3⟩⟩
theorem gX0_countBy_0 : (decode cX0_countBy 0 = .ok (.iconst 0, 1)) ∧ (decode cX0_countBy 1 = .ok (.istore_n 3, 1)) ∧ (decode cX0_countBy 2 = .ok (.iconst 0, 1)) ∧ (decode cX0_countBy 3 = .ok (.istore 4, 2)) ∧ (decode cX0_countBy 5 = .ok (.iload 4, 2)) ∧ (decode cX0_countBy 7 = .ok (.aload_n 0, 1)) ∧ (decode cX0_countBy 8 = .ok (.getfield 20, 3)) ∧ (decode cX0_countBy 11 = .ok (.invokevirtual 68, 3)) ∧ (decode cX0_countBy 14 = .ok (.if_icmp .ge 35, 3)) ∧ (decode cX0_countBy 17 = .ok (.iload_n 2, 1)) := by decide +kernel
theorem gX0_countBy_2 : (decode cX0_countBy 40 = .ok (.iinc 3 1, 3)) ∧ (decode cX0_countBy 43 = .ok (.iinc 4 1, 3)) ∧ (decode cX0_countBy 46 = .ok (.goto (-41), 3)) ∧ (decode cX0_countBy 49 = .ok (.iload_n 3, 1)) ∧ (decode cX0_countBy 50 = .ok (.ireturn, 1)) := by decide +kernel
theorem gX0_countBy_1 : (decode cX0_countBy 18 = .ok (.iload 4, 2)) ∧ (decode cX0_countBy 20 = .ok (.invokestatic 75, 3)) ∧ (decode cX0_countBy 23 = .ok (.ifCond .eq 20, 3)) ∧ (decode cX0_countBy 26 = .ok (.aload_n 0, 1)) ∧ (decode cX0_countBy 27 = .ok (.getfield 20, 3)) ∧ (decode cX0_countBy 30 = .ok (.iload 4, 2)) ∧ (decode cX0_countBy 32 = .ok (.iconst 0, 1)) ∧ (decode cX0_countBy 33 = .ok (.invokevirtual 71, 3)) ∧ (decode cX0_countBy 36 = .ok (.iload_n 1, 1)) ∧ (decode cX0_countBy 37 = .ok (.if_icmp .ne 6, 3)) := by decide +kernel
theorem gX0_addStamp_0 : (decode cX0_addStamp 0 = .ok (.aload_n 0, 1)) ∧ (decode cX0_addStamp 1 = .ok (.getfield 23, 3)) ∧ (decode cX0_addStamp 4 = .ok (.invokevirtual 79, 3)) ∧ (decode cX0_addStamp 7 = .ok (.istore 4, 2)) ∧ (decode cX0_addStamp 9 = .ok (.aload_n 0, 1)) ∧ (decode cX0_addStamp 10 = .ok (.getfield 23, 3)) ∧ (decode cX0_addStamp 13 = .ok (.iload 4, 2)) ∧ (decode cX0_addStamp 15 = .ok (.iconst 0, 1)) ∧ (decode cX0_addStamp 16 = .ok (.iload_n 1, 1)) ∧ (decode cX0_addStamp 17 = .ok (.invokevirtual 82, 3)) := by decide +kernel
theorem m_151 : Cond.fieldLink RX0 23 "InquiryBench$Book" "stamps" "LInquiryBench$Table;" ∈ BW := iB_BW8 _ (List.mem_of_getElem? (i := 9) rfl)
theorem gf_X0_23 (hC : CX p s m meth c y0 b0 mL0 rt0 args) (hy0 : y0.cls = RX0) (hK : KK G s) (hP : va_P G.1 vwCl ws H) (q0 : Nat) {fs : List Value} {v : Value} (he : ws[q0]? = some (a, .inr (0, fs))) (hv : fs[2]? = some v) (hdg : decode b0 pc = .ok (.getfield 23, 3)) (kk : W p l e R s m args below meth c H locs cells slots Q (F0 m (pc + 3) ls (v :: rest))) : W p l e R s m args below meth c H locs cells slots Q (F0 m pc ls (.ref a :: rest)) := by
  obtain ⟨hx, hb, hr, hml, hB, hown, hlocks, hnm⟩ := hC
  rw [hy0] at hown
  exact va_get (ci := 0) (C := RX0) (T := TX0) (N := 14) hx hb hB in_X0 hown hK.1 hP q0 he rfl 2 (by decide) (hB _ m_151) (fun _ h => h) hv hdg kk
theorem m_332 : Cond.code yX8_append cX8_append 1 (some .int) ∈ BW := iB_BW17 _ (List.mem_of_getElem? (i := 18) rfl)
theorem m_399 : Cond.methodLink RX0 79 yX8_append ∈ BW := iB_BW22 _ (List.mem_of_getElem? (i := 3) rfl)
theorem m_330 : Cond.instanceMethod yX8_append ∈ BW := iB_BW17 _ (List.mem_of_getElem? (i := 16) rfl)
theorem m_331 : Cond.selects RX8 yX8_append yX8_append ∈ BW := iB_BW17 _ (List.mem_of_getElem? (i := 17) rfl)
theorem si_X0_79 : SV RX0 RX8 79 yX8_append cX8_append 1 (some .int) 0 := ⟨⟨m_399, m_330, m_331, m_104, m_332⟩, rfl, nK_RX8.1, nK_RX8.2, pd_1⟩
theorem m_336 : Cond.code yX8_set cX8_set 4 none ∈ BW := iB_BW18 _ (List.mem_of_getElem? (i := 2) rfl)
theorem pd_4 : (parseMethodDescriptor "(III)V").map (fun d => d.parameters.length) = some 3 := by decide +kernel
theorem m_400 : Cond.methodLink RX0 82 yX8_set ∈ BW := iB_BW22 _ (List.mem_of_getElem? (i := 4) rfl)
theorem m_334 : Cond.instanceMethod yX8_set ∈ BW := iB_BW18 _ (List.mem_of_getElem? (i := 0) rfl)
theorem m_335 : Cond.selects RX8 yX8_set yX8_set ∈ BW := iB_BW18 _ (List.mem_of_getElem? (i := 1) rfl)
theorem si_X0_82 : SV RX0 RX8 82 yX8_set cX8_set 4 none 3 := ⟨⟨m_400, m_334, m_335, m_104, m_336⟩, rfl, nK_RX8.1, nK_RX8.2, pd_4⟩
theorem gX0_addStamp_1 : (decode cX0_addStamp 20 = .ok (.aload_n 0, 1)) ∧ (decode cX0_addStamp 21 = .ok (.getfield 23, 3)) ∧ (decode cX0_addStamp 24 = .ok (.iload 4, 2)) ∧ (decode cX0_addStamp 26 = .ok (.iconst 1, 1)) ∧ (decode cX0_addStamp 27 = .ok (.iload_n 2, 1)) ∧ (decode cX0_addStamp 28 = .ok (.invokevirtual 82, 3)) ∧ (decode cX0_addStamp 31 = .ok (.aload_n 0, 1)) ∧ (decode cX0_addStamp 32 = .ok (.getfield 23, 3)) ∧ (decode cX0_addStamp 35 = .ok (.iload 4, 2)) ∧ (decode cX0_addStamp 37 = .ok (.iconst 2, 1)) := by decide +kernel
theorem gX0_addStamp_2 : (decode cX0_addStamp 38 = .ok (.iload_n 3, 1)) ∧ (decode cX0_addStamp 39 = .ok (.invokevirtual 82, 3)) ∧ (decode cX0_addStamp 42 = .ok (.iload 4, 2)) ∧ (decode cX0_addStamp 44 = .ok (.ireturn, 1)) := by decide +kernel
theorem gX0_countStamps_0 : (decode cX0_countStamps 0 = .ok (.iconst 0, 1)) ∧ (decode cX0_countStamps 1 = .ok (.istore_n 2, 1)) ∧ (decode cX0_countStamps 2 = .ok (.iconst 0, 1)) ∧ (decode cX0_countStamps 3 = .ok (.istore_n 3, 1)) ∧ (decode cX0_countStamps 4 = .ok (.iload_n 3, 1)) ∧ (decode cX0_countStamps 5 = .ok (.aload_n 0, 1)) ∧ (decode cX0_countStamps 6 = .ok (.getfield 23, 3)) ∧ (decode cX0_countStamps 9 = .ok (.invokevirtual 68, 3)) ∧ (decode cX0_countStamps 12 = .ok (.if_icmp .ge 25, 3)) ∧ (decode cX0_countStamps 15 = .ok (.aload_n 0, 1)) := by decide +kernel
theorem gX0_countStamps_1 : (decode cX0_countStamps 16 = .ok (.getfield 23, 3)) ∧ (decode cX0_countStamps 19 = .ok (.iload_n 3, 1)) ∧ (decode cX0_countStamps 20 = .ok (.iconst 0, 1)) ∧ (decode cX0_countStamps 21 = .ok (.invokevirtual 71, 3)) ∧ (decode cX0_countStamps 24 = .ok (.iload_n 1, 1)) ∧ (decode cX0_countStamps 25 = .ok (.if_icmp .ne 6, 3)) ∧ (decode cX0_countStamps 28 = .ok (.iinc 2 1, 3)) ∧ (decode cX0_countStamps 31 = .ok (.iinc 3 1, 3)) ∧ (decode cX0_countStamps 34 = .ok (.goto (-30), 3)) ∧ (decode cX0_countStamps 37 = .ok (.iload_n 2, 1)) := by decide +kernel
theorem gX0_countStamps_2 : (decode cX0_countStamps 38 = .ok (.ireturn, 1)) := by decide +kernel
theorem gX0_counts_0 : (decode cX0_counts 0 = .ok (.aload_n 0, 1)) ∧ (decode cX0_counts 1 = .ok (.getfield 35, 3)) ∧ (decode cX0_counts 4 = .ok (.iload_n 1, 1)) ∧ (decode cX0_counts 5 = .ok (.bipush 7, 2)) ∧ (decode cX0_counts 7 = .ok (.invokevirtual 71, 3)) ∧ (decode cX0_counts 10 = .ok (.aload_n 0, 1)) ∧ (decode cX0_counts 11 = .ok (.invokevirtual 64, 3)) ∧ (decode cX0_counts 14 = .ok (.if_icmp .gt 36, 3)) ∧ (decode cX0_counts 17 = .ok (.aload_n 0, 1)) ∧ (decode cX0_counts 18 = .ok (.getfield 35, 3)) := by decide +kernel
theorem m_155 : Cond.fieldLink RX0 35 "InquiryBench$Book" "sayings" "LInquiryBench$Table;" ∈ BW := iB_BW8 _ (List.mem_of_getElem? (i := 13) rfl)
theorem gf_X0_35 (hC : CX p s m meth c y0 b0 mL0 rt0 args) (hy0 : y0.cls = RX0) (hK : KK G s) (hP : va_P G.1 vwCl ws H) (q0 : Nat) {fs : List Value} {v : Value} (he : ws[q0]? = some (a, .inr (0, fs))) (hv : fs[6]? = some v) (hdg : decode b0 pc = .ok (.getfield 35, 3)) (kk : W p l e R s m args below meth c H locs cells slots Q (F0 m (pc + 3) ls (v :: rest))) : W p l e R s m args below meth c H locs cells slots Q (F0 m pc ls (.ref a :: rest)) := by
  obtain ⟨hx, hb, hr, hml, hB, hown, hlocks, hnm⟩ := hC
  rw [hy0] at hown
  exact va_get (ci := 0) (C := RX0) (T := TX0) (N := 14) hx hb hB in_X0 hown hK.1 hP q0 he rfl 6 (by decide) (hB _ m_155) (fun _ h => h) hv hdg kk
theorem gX0_counts_2 : (decode cX0_counts 40 = .ok (.invokestatic 75, 3)) ∧ (decode cX0_counts 43 = .ok (.ifCond .eq 7, 3)) ∧ (decode cX0_counts 46 = .ok (.iconst 1, 1)) ∧ (decode cX0_counts 47 = .ok (.goto 4, 3)) ∧ (decode cX0_counts 50 = .ok (.iconst 0, 1)) ∧ (decode cX0_counts 51 = .ok (.ireturn, 1)) := by decide +kernel
theorem gX0_counts_1 : (decode cX0_counts 21 = .ok (.iload_n 1, 1)) ∧ (decode cX0_counts 22 = .ok (.bipush 6, 2)) ∧ (decode cX0_counts 24 = .ok (.invokevirtual 71, 3)) ∧ (decode cX0_counts 27 = .ok (.ifCond .ge 23, 3)) ∧ (decode cX0_counts 30 = .ok (.iload_n 2, 1)) ∧ (decode cX0_counts 31 = .ok (.aload_n 0, 1)) ∧ (decode cX0_counts 32 = .ok (.getfield 35, 3)) ∧ (decode cX0_counts 35 = .ok (.iload_n 1, 1)) ∧ (decode cX0_counts 36 = .ok (.iconst 2, 1)) ∧ (decode cX0_counts 37 = .ok (.invokevirtual 71, 3)) := by decide +kernel
theorem gX0_countSayings_0 : (decode cX0_countSayings 0 = .ok (.iconst 0, 1)) ∧ (decode cX0_countSayings 1 = .ok (.istore_n 2, 1)) ∧ (decode cX0_countSayings 2 = .ok (.iconst 0, 1)) ∧ (decode cX0_countSayings 3 = .ok (.istore_n 3, 1)) ∧ (decode cX0_countSayings 4 = .ok (.iload_n 3, 1)) ∧ (decode cX0_countSayings 5 = .ok (.aload_n 0, 1)) ∧ (decode cX0_countSayings 6 = .ok (.getfield 35, 3)) ∧ (decode cX0_countSayings 9 = .ok (.invokevirtual 68, 3)) ∧ (decode cX0_countSayings 12 = .ok (.if_icmp .ge 21, 3)) ∧ (decode cX0_countSayings 15 = .ok (.aload_n 0, 1)) := by decide +kernel
theorem gX0_countSayings_1 : (decode cX0_countSayings 16 = .ok (.iload_n 3, 1)) ∧ (decode cX0_countSayings 17 = .ok (.iload_n 1, 1)) ∧ (decode cX0_countSayings 18 = .ok (.invokevirtual 86, 3)) ∧ (decode cX0_countSayings 21 = .ok (.ifCond .eq 6, 3)) ∧ (decode cX0_countSayings 24 = .ok (.iinc 2 1, 3)) ∧ (decode cX0_countSayings 27 = .ok (.iinc 3 1, 3)) ∧ (decode cX0_countSayings 30 = .ok (.goto (-26), 3)) ∧ (decode cX0_countSayings 33 = .ok (.iload_n 2, 1)) ∧ (decode cX0_countSayings 34 = .ok (.ireturn, 1)) := by decide +kernel
theorem m_363 : Cond.code yX0_counts cX0_counts 3 (some .boolean) ∈ BW := iB_BW20 _ (List.mem_of_getElem? (i := 7) rfl)
theorem m_360 : Cond.methodLink RX0 86 yX0_counts ∈ BW := iB_BW20 _ (List.mem_of_getElem? (i := 4) rfl)
theorem m_361 : Cond.instanceMethod yX0_counts ∈ BW := iB_BW20 _ (List.mem_of_getElem? (i := 5) rfl)
theorem m_362 : Cond.selects RX0 yX0_counts yX0_counts ∈ BW := iB_BW20 _ (List.mem_of_getElem? (i := 6) rfl)
theorem si_X0_86 : SV RX0 RX0 86 yX0_counts cX0_counts 3 (some .boolean) 2 := ⟨⟨m_360, m_361, m_362, m_103, m_363⟩, rfl, nK_RX0.1, nK_RX0.2, pd_3⟩
theorem gX0_countSayingsBy_0 : (decode cX0_countSayingsBy 0 = .ok (.iconst 0, 1)) ∧ (decode cX0_countSayingsBy 1 = .ok (.istore_n 3, 1)) ∧ (decode cX0_countSayingsBy 2 = .ok (.iconst 0, 1)) ∧ (decode cX0_countSayingsBy 3 = .ok (.istore 4, 2)) ∧ (decode cX0_countSayingsBy 5 = .ok (.iload 4, 2)) ∧ (decode cX0_countSayingsBy 7 = .ok (.aload_n 0, 1)) ∧ (decode cX0_countSayingsBy 8 = .ok (.getfield 35, 3)) ∧ (decode cX0_countSayingsBy 11 = .ok (.invokevirtual 68, 3)) ∧ (decode cX0_countSayingsBy 14 = .ok (.if_icmp .ge 36, 3)) ∧ (decode cX0_countSayingsBy 17 = .ok (.aload_n 0, 1)) := by decide +kernel
theorem gX0_countSayingsBy_2 : (decode cX0_countSayingsBy 38 = .ok (.ifCond .eq 6, 3)) ∧ (decode cX0_countSayingsBy 41 = .ok (.iinc 3 1, 3)) ∧ (decode cX0_countSayingsBy 44 = .ok (.iinc 4 1, 3)) ∧ (decode cX0_countSayingsBy 47 = .ok (.goto (-42), 3)) ∧ (decode cX0_countSayingsBy 50 = .ok (.iload_n 3, 1)) ∧ (decode cX0_countSayingsBy 51 = .ok (.ireturn, 1)) := by decide +kernel
theorem gX0_countSayingsBy_1 : (decode cX0_countSayingsBy 18 = .ok (.getfield 35, 3)) ∧ (decode cX0_countSayingsBy 21 = .ok (.iload 4, 2)) ∧ (decode cX0_countSayingsBy 23 = .ok (.iconst 0, 1)) ∧ (decode cX0_countSayingsBy 24 = .ok (.invokevirtual 71, 3)) ∧ (decode cX0_countSayingsBy 27 = .ok (.iload_n 1, 1)) ∧ (decode cX0_countSayingsBy 28 = .ok (.if_icmp .ne 16, 3)) ∧ (decode cX0_countSayingsBy 31 = .ok (.aload_n 0, 1)) ∧ (decode cX0_countSayingsBy 32 = .ok (.iload 4, 2)) ∧ (decode cX0_countSayingsBy 34 = .ok (.iload_n 2, 1)) ∧ (decode cX0_countSayingsBy 35 = .ok (.invokevirtual 86, 3)) := by decide +kernel
theorem gX0_ruling_0 : (decode cX0_ruling 0 = .ok (.iconst (-1), 1)) ∧ (decode cX0_ruling 1 = .ok (.istore_n 1, 1)) ∧ (decode cX0_ruling 2 = .ok (.aload_n 0, 1)) ∧ (decode cX0_ruling 3 = .ok (.invokevirtual 64, 3)) ∧ (decode cX0_ruling 6 = .ok (.istore_n 2, 1)) ∧ (decode cX0_ruling 7 = .ok (.iconst 0, 1)) ∧ (decode cX0_ruling 8 = .ok (.istore_n 3, 1)) ∧ (decode cX0_ruling 9 = .ok (.iload_n 3, 1)) ∧ (decode cX0_ruling 10 = .ok (.aload_n 0, 1)) ∧ (decode cX0_ruling 11 = .ok (.getfield 26, 3)) := by decide +kernel
theorem m_152 : Cond.fieldLink RX0 26 "InquiryBench$Book" "versions" "LInquiryBench$Table;" ∈ BW := iB_BW8 _ (List.mem_of_getElem? (i := 10) rfl)
theorem gf_X0_26 (hC : CX p s m meth c y0 b0 mL0 rt0 args) (hy0 : y0.cls = RX0) (hK : KK G s) (hP : va_P G.1 vwCl ws H) (q0 : Nat) {fs : List Value} {v : Value} (he : ws[q0]? = some (a, .inr (0, fs))) (hv : fs[3]? = some v) (hdg : decode b0 pc = .ok (.getfield 26, 3)) (kk : W p l e R s m args below meth c H locs cells slots Q (F0 m (pc + 3) ls (v :: rest))) : W p l e R s m args below meth c H locs cells slots Q (F0 m pc ls (.ref a :: rest)) := by
  obtain ⟨hx, hb, hr, hml, hB, hown, hlocks, hnm⟩ := hC
  rw [hy0] at hown
  exact va_get (ci := 0) (C := RX0) (T := TX0) (N := 14) hx hb hB in_X0 hown hK.1 hP q0 he rfl 3 (by decide) (hB _ m_152) (fun _ h => h) hv hdg kk
theorem gX0_ruling_1 : (decode cX0_ruling 14 = .ok (.invokevirtual 68, 3)) ∧ (decode cX0_ruling 17 = .ok (.if_icmp .ge 24, 3)) ∧ (decode cX0_ruling 20 = .ok (.aload_n 0, 1)) ∧ (decode cX0_ruling 21 = .ok (.getfield 26, 3)) ∧ (decode cX0_ruling 24 = .ok (.iload_n 3, 1)) ∧ (decode cX0_ruling 25 = .ok (.iconst 0, 1)) ∧ (decode cX0_ruling 26 = .ok (.invokevirtual 71, 3)) ∧ (decode cX0_ruling 29 = .ok (.iload_n 2, 1)) ∧ (decode cX0_ruling 30 = .ok (.if_icmp .gt 5, 3)) ∧ (decode cX0_ruling 33 = .ok (.iload_n 3, 1)) := by decide +kernel
theorem gX0_ruling_2 : (decode cX0_ruling 34 = .ok (.istore_n 1, 1)) ∧ (decode cX0_ruling 35 = .ok (.iinc 3 1, 3)) ∧ (decode cX0_ruling 38 = .ok (.goto (-29), 3)) ∧ (decode cX0_ruling 41 = .ok (.iload_n 1, 1)) ∧ (decode cX0_ruling 42 = .ok (.ireturn, 1)) := by decide +kernel
theorem gX0_isWarned_0 : (decode cX0_isWarned 0 = .ok (.iconst 0, 1)) ∧ (decode cX0_isWarned 1 = .ok (.istore 4, 2)) ∧ (decode cX0_isWarned 3 = .ok (.iload 4, 2)) ∧ (decode cX0_isWarned 5 = .ok (.aload_n 0, 1)) ∧ (decode cX0_isWarned 6 = .ok (.getfield 41, 3)) ∧ (decode cX0_isWarned 9 = .ok (.invokevirtual 68, 3)) ∧ (decode cX0_isWarned 12 = .ok (.if_icmp .ge 53, 3)) ∧ (decode cX0_isWarned 15 = .ok (.aload_n 0, 1)) ∧ (decode cX0_isWarned 16 = .ok (.getfield 41, 3)) ∧ (decode cX0_isWarned 19 = .ok (.iload 4, 2)) := by decide +kernel
theorem m_157 : Cond.fieldLink RX0 41 "InquiryBench$Book" "warnings" "LInquiryBench$Table;" ∈ BW := iB_BW8 _ (List.mem_of_getElem? (i := 15) rfl)
theorem gf_X0_41 (hC : CX p s m meth c y0 b0 mL0 rt0 args) (hy0 : y0.cls = RX0) (hK : KK G s) (hP : va_P G.1 vwCl ws H) (q0 : Nat) {fs : List Value} {v : Value} (he : ws[q0]? = some (a, .inr (0, fs))) (hv : fs[8]? = some v) (hdg : decode b0 pc = .ok (.getfield 41, 3)) (kk : W p l e R s m args below meth c H locs cells slots Q (F0 m (pc + 3) ls (v :: rest))) : W p l e R s m args below meth c H locs cells slots Q (F0 m pc ls (.ref a :: rest)) := by
  obtain ⟨hx, hb, hr, hml, hB, hown, hlocks, hnm⟩ := hC
  rw [hy0] at hown
  exact va_get (ci := 0) (C := RX0) (T := TX0) (N := 14) hx hb hB in_X0 hown hK.1 hP q0 he rfl 8 (by decide) (hB _ m_157) (fun _ h => h) hv hdg kk
theorem gX0_isWarned_3 : (decode cX0_isWarned 59 = .ok (.iinc 4 1, 3)) ∧ (decode cX0_isWarned 62 = .ok (.goto (-59), 3)) ∧ (decode cX0_isWarned 65 = .ok (.iconst 0, 1)) ∧ (decode cX0_isWarned 66 = .ok (.ireturn, 1)) := by decide +kernel
theorem gX0_isWarned_1 : (decode cX0_isWarned 21 = .ok (.iconst 0, 1)) ∧ (decode cX0_isWarned 22 = .ok (.invokevirtual 71, 3)) ∧ (decode cX0_isWarned 25 = .ok (.iload_n 1, 1)) ∧ (decode cX0_isWarned 26 = .ok (.if_icmp .ne 33, 3)) ∧ (decode cX0_isWarned 29 = .ok (.aload_n 0, 1)) ∧ (decode cX0_isWarned 30 = .ok (.getfield 41, 3)) ∧ (decode cX0_isWarned 33 = .ok (.iload 4, 2)) ∧ (decode cX0_isWarned 35 = .ok (.iconst 1, 1)) ∧ (decode cX0_isWarned 36 = .ok (.invokevirtual 71, 3)) ∧ (decode cX0_isWarned 39 = .ok (.iload_n 2, 1)) := by decide +kernel
theorem gX0_isWarned_2 : (decode cX0_isWarned 40 = .ok (.if_icmp .ne 19, 3)) ∧ (decode cX0_isWarned 43 = .ok (.aload_n 0, 1)) ∧ (decode cX0_isWarned 44 = .ok (.getfield 41, 3)) ∧ (decode cX0_isWarned 47 = .ok (.iload 4, 2)) ∧ (decode cX0_isWarned 49 = .ok (.iconst 2, 1)) ∧ (decode cX0_isWarned 50 = .ok (.invokevirtual 71, 3)) ∧ (decode cX0_isWarned 53 = .ok (.iload_n 3, 1)) ∧ (decode cX0_isWarned 54 = .ok (.if_icmp .gt 5, 3)) ∧ (decode cX0_isWarned 57 = .ok (.iconst 1, 1)) ∧ (decode cX0_isWarned 58 = .ok (.ireturn, 1)) := by decide +kernel
end WR
theorem rm_3_1_1 {mc ms : Nat} : 1 + 1 ≤ (RM 3 mc ms).frames ∧ 8 + (1 + 11) + 40 * 1 ≤ (RM 3 mc ms).locals := ⟨by show 1 + 1 ≤ 3; decide, by show 8 + (1 + 11) + 40 * 1 ≤ 40 * 3; decide⟩
theorem sm_0 {a0 : Nat × va_E} {l : va_W} : ([0] : List Nat).map (fun i => (a0 :: l : va_W)[i]?) = ([a0] : va_W).map some := rfl
theorem fm_0 {a0 : Nat × va_E} {l : va_W} : ([0] : List Nat).filterMap (fun i => (a0 :: l : va_W)[i]?) = ([a0] : va_W) := rfl
theorem nd_0 : va_nd [0] = true := by decide
theorem sm_1 {a0 a1 : Nat × va_E} {l : va_W} : ([1] : List Nat).map (fun i => (a0 :: a1 :: l : va_W)[i]?) = ([a1] : va_W).map some := rfl
theorem fm_1 {a0 a1 : Nat × va_E} {l : va_W} : ([1] : List Nat).filterMap (fun i => (a0 :: a1 :: l : va_W)[i]?) = ([a1] : va_W) := rfl
theorem nd_1 : va_nd [1] = true := by decide
theorem rm_3_1_3 {mc ms : Nat} : 1 + 1 ≤ (RM 3 mc ms).frames ∧ 8 + (3 + 11) + 40 * 1 ≤ (RM 3 mc ms).locals := ⟨by show 1 + 1 ≤ 3; decide, by show 8 + (3 + 11) + 40 * 1 ≤ 40 * 3; decide⟩
theorem sm_1_2 {a0 a1 a2 : Nat × va_E} {l : va_W} : ([1, 2] : List Nat).map (fun i => (a0 :: a1 :: a2 :: l : va_W)[i]?) = ([a1, a2] : va_W).map some := rfl
theorem fm_1_2 {a0 a1 a2 : Nat × va_E} {l : va_W} : ([1, 2] : List Nat).filterMap (fun i => (a0 :: a1 :: a2 :: l : va_W)[i]?) = ([a1, a2] : va_W) := rfl
theorem nd_1_2 : va_nd [1, 2] = true := by decide
theorem rm_3_1_2 {mc ms : Nat} : 1 + 1 ≤ (RM 3 mc ms).frames ∧ 8 + (2 + 11) + 40 * 1 ≤ (RM 3 mc ms).locals := ⟨by show 1 + 1 ≤ 3; decide, by show 8 + (2 + 11) + 40 * 1 ≤ 40 * 3; decide⟩
theorem sm_0_2 {a0 a1 a2 : Nat × va_E} {l : va_W} : ([0, 2] : List Nat).map (fun i => (a0 :: a1 :: a2 :: l : va_W)[i]?) = ([a0, a2] : va_W).map some := rfl
theorem nd_0_2 : va_nd [0, 2] = true := by decide
theorem dj_1__0_2 : ∀ i ∈ ([0, 2] : List Nat), i ∉ ([1] : List Nat) := by decide
theorem rm_3_1_4 {mc ms : Nat} : 1 + 1 ≤ (RM 3 mc ms).frames ∧ 8 + (4 + 11) + 40 * 1 ≤ (RM 3 mc ms).locals := ⟨by show 1 + 1 ≤ 3; decide, by show 8 + (4 + 11) + 40 * 1 ≤ 40 * 3; decide⟩
theorem sm_2_1 {a0 a1 a2 : Nat × va_E} {l : va_W} : ([2, 1] : List Nat).map (fun i => (a0 :: a1 :: a2 :: l : va_W)[i]?) = ([a2, a1] : va_W).map some := rfl
theorem fm_2_1 {a0 a1 a2 : Nat × va_E} {l : va_W} : ([2, 1] : List Nat).filterMap (fun i => (a0 :: a1 :: a2 :: l : va_W)[i]?) = ([a2, a1] : va_W) := rfl
theorem nd_2_1 : va_nd [2, 1] = true := by decide
theorem dj_2_1__0 : ∀ i ∈ ([0] : List Nat), i ∉ ([2, 1] : List Nat) := by decide
theorem dj_1_2__0 : ∀ i ∈ ([0] : List Nat), i ∉ ([1, 2] : List Nat) := by decide
theorem rm_4_1_1 {mc ms : Nat} : 1 + 1 ≤ (RM 4 mc ms).frames ∧ 8 + (1 + 11) + 40 * 1 ≤ (RM 4 mc ms).locals := ⟨by show 1 + 1 ≤ 4; decide, by show 8 + (1 + 11) + 40 * 1 ≤ 40 * 4; decide⟩
theorem rm_4_3_3 {mc ms : Nat} : 3 + 1 ≤ (RM 4 mc ms).frames ∧ 8 + (3 + 11) + 40 * 3 ≤ (RM 4 mc ms).locals := ⟨by show 3 + 1 ≤ 4; decide, by show 8 + (3 + 11) + 40 * 3 ≤ 40 * 4; decide⟩
theorem sm_0_1_2 {a0 a1 a2 : Nat × va_E} {l : va_W} : ([0, 1, 2] : List Nat).map (fun i => (a0 :: a1 :: a2 :: l : va_W)[i]?) = ([a0, a1, a2] : va_W).map some := rfl
theorem fm_0_1_2 {a0 a1 a2 : Nat × va_E} {l : va_W} : ([0, 1, 2] : List Nat).filterMap (fun i => (a0 :: a1 :: a2 :: l : va_W)[i]?) = ([a0, a1, a2] : va_W) := rfl
theorem nd_0_1_2 : va_nd [0, 1, 2] = true := by decide
theorem rm_4_1_3 {mc ms : Nat} : 1 + 1 ≤ (RM 4 mc ms).frames ∧ 8 + (3 + 11) + 40 * 1 ≤ (RM 4 mc ms).locals := ⟨by show 1 + 1 ≤ 4; decide, by show 8 + (3 + 11) + 40 * 1 ≤ 40 * 4; decide⟩
def K_c_hasBit (l : Launch) (G : GG) (bits : Int32) (i : Int32) : Prop := MP l G yX11_hasBit cX11_hasBit 2 (some .boolean) 1 [.int bits, .int i] [] (fun r : Int32 => (r = 1 ∧ HB bits i) ∨ (r = 0 ∧ ¬ HB bits i))
set_option maxHeartbeats 4000000 in
set_option maxRecDepth 100000 in
theorem c_hasBit (l : Launch) (G : GG) (bits : Int32) (i : Int32) : K_c_hasBit l G bits i := by
  refine MP.start (by decide +kernel) (Nat.le_of_ble_eq_true rfl) ?_
  intro p e s m below meth c ls hC hK hP hD hl
  refine absQ (fun Q0 hQ0 => ?_)
  have hl : lv_has ls 2 [(0, .int bits), (1, .int i)] := hl
  refine Kan8 hC (fun hx hb hr hml hB hown hlocks hnm => ?_)
  refine lv_iload_n hx hb gX11_hasBit_0.1 rfl (lv_at1 hl) ?_
  refine lv_if_lt (tgt := 23) hx hb gX11_hasBit_0.2.1 (by decide) (fun c_1_28 => ?_) (fun c_1_28 => ?_)
  · refine lv_iconst (v := 0) hx hb gX11_hasBit_1.2.2.2.2.1 (by decide) ?_
    refine toQ hQ0 ?_
    exact RP (v := 0) hC (Or.inr ⟨rfl, fun h9 => h9.1 c_1_28⟩) (by decide +kernel) gX11_hasBit_1.2.2.2.2.2
  · refine lv_iload_n hx hb gX11_hasBit_0.2.2.1 rfl (lv_at1 hl) ?_
    refine lv_bipush (v := 31) hx hb gX11_hasBit_0.2.2.2.1 (by decide) ?_
    refine lv_icmp_ge (tgt := 23) hx hb gX11_hasBit_0.2.2.2.2.1 (by decide) (fun c_7_29 => ?_) (fun c_7_29 => ?_)
    · refine lv_iconst (v := 0) hx hb gX11_hasBit_1.2.2.2.2.1 (by decide) ?_
      refine toQ hQ0 ?_
      exact RP (v := 0) hC (Or.inr ⟨rfl, fun h9 => h9.2.1 c_7_29⟩) (by decide +kernel) gX11_hasBit_1.2.2.2.2.2
    · refine lv_iload_n hx hb gX11_hasBit_0.2.2.2.2.2.1 rfl (lv_at0 hl) ?_
      refine lv_iload_n hx hb gX11_hasBit_0.2.2.2.2.2.2.1 rfl (lv_at1 hl) ?_
      refine lv_ishr hx hb gX11_hasBit_0.2.2.2.2.2.2.2.1 ?_
      refine lv_iconst (v := 1) hx hb gX11_hasBit_0.2.2.2.2.2.2.2.2.1 (by decide) ?_
      refine lv_iand hx hb gX11_hasBit_0.2.2.2.2.2.2.2.2.2 ?_
      refine lv_iconst (v := 1) hx hb gX11_hasBit_1.1 (by decide) ?_
      refine lv_icmp_ne (tgt := 23) hx hb gX11_hasBit_1.2.1 (by decide) (fun c_16_30 => ?_) (fun c_16_30 => ?_)
      · refine lv_iconst (v := 0) hx hb gX11_hasBit_1.2.2.2.2.1 (by decide) ?_
        refine toQ hQ0 ?_
        exact RP (v := 0) hC (Or.inr ⟨rfl, fun h9 => c_16_30 h9.2.2⟩) (by decide +kernel) gX11_hasBit_1.2.2.2.2.2
      · refine lv_iconst (v := 1) hx hb gX11_hasBit_1.2.2.1 (by decide) ?_
        refine lv_goto (tgt := 24) hx hb gX11_hasBit_1.2.2.2.1 (by decide) ?_
        refine toQ hQ0 ?_
        exact RP (v := 1) hC (Or.inl ⟨rfl, c_1_28, c_7_29, c_16_30⟩) (by decide +kernel) gX11_hasBit_1.2.2.2.2.2
def K_c_isStamp (l : Launch) (G : GG) (ck : Int32) (hh : Int32) : Prop := MP l G yX11_isStamp cX11_isStamp 2 (some .boolean) 2 [.int ck, .int hh] [] (fun r : Int32 => (r = 1 ∧ (Wi ck 0 5 ∧ Wi hh 0 999)) ∨ (r = 0 ∧ ¬ (Wi ck 0 5 ∧ Wi hh 0 999)))
set_option maxHeartbeats 4000000 in
set_option maxRecDepth 100000 in
theorem c_isStamp (l : Launch) (G : GG) (ck : Int32) (hh : Int32) : K_c_isStamp l G ck hh := by
  refine MP.start (by decide +kernel) (Nat.le_of_ble_eq_true rfl) ?_
  intro p e s m below meth c ls hC hK hP hD hl
  refine absQ (fun Q0 hQ0 => ?_)
  have hl : lv_has ls 2 [(0, .int ck), (1, .int hh)] := hl
  refine Kan8 hC (fun hx hb hr hml hB hown hlocks hnm => ?_)
  refine lv_iload_n hx hb gX11_isStamp_0.1 rfl (lv_at0 hl) ?_
  refine lv_iconst (v := 0) hx hb gX11_isStamp_0.2.1 (by decide) ?_
  refine lv_iconst (v := 5) hx hb gX11_isStamp_0.2.2.1 (by decide) ?_
  refine pS hC hK hl (c_within l G ck 0 5) si_X11_83 rfl rfl (Nat.le_of_ble_eq_true rfl) rm_2_1_3 ⟨by first | exact Nat.le_of_ble_eq_true rfl | exact Nat.zero_le _, by first | exact Nat.le_of_ble_eq_true rfl | exact Nat.zero_le _⟩ gX11_isStamp_0.2.2.2.1 (Kors (Keqa fun a32 => ?_) (Keqa fun a32 => ?_))
  · refine lv_if_eq (tgt := 24) hx hb gX11_isStamp_0.2.2.2.2.1 (by decide) (fun c9 => absurd c9 (by decide)) (fun _ => ?_)
    refine lv_iload_n hx hb gX11_isStamp_0.2.2.2.2.2.1 rfl (lv_at1 hl) ?_
    refine lv_iconst (v := 0) hx hb gX11_isStamp_0.2.2.2.2.2.2.1 (by decide) ?_
    refine lv_sipush (v := 999) hx hb gX11_isStamp_0.2.2.2.2.2.2.2.1 (by decide) ?_
    refine pS hC hK hl (c_within l G hh 0 999) si_X11_83 rfl rfl (Nat.le_of_ble_eq_true rfl) rm_2_1_3 ⟨by first | exact Nat.le_of_ble_eq_true rfl | exact Nat.zero_le _, by first | exact Nat.le_of_ble_eq_true rfl | exact Nat.zero_le _⟩ gX11_isStamp_0.2.2.2.2.2.2.2.2.1 (Kors (Keqa fun a34 => ?_) (Keqa fun a34 => ?_))
    · refine lv_if_eq (tgt := 24) hx hb gX11_isStamp_0.2.2.2.2.2.2.2.2.2 (by decide) (fun c9 => absurd c9 (by decide)) (fun _ => ?_)
      refine lv_iconst (v := 1) hx hb gX11_isStamp_1.1 (by decide) ?_
      refine lv_goto (tgt := 25) hx hb gX11_isStamp_1.2.1 (by decide) ?_
      refine toQ hQ0 ?_
      exact RP (v := 1) hC (Or.inl ⟨rfl, a32, a34⟩) (by decide +kernel) gX11_isStamp_1.2.2.2
    · refine lv_if_eq (tgt := 24) hx hb gX11_isStamp_0.2.2.2.2.2.2.2.2.2 (by decide) (fun _ => ?_) (fun c9 => absurd (by decide) c9)
      refine lv_iconst (v := 0) hx hb gX11_isStamp_1.2.2.1 (by decide) ?_
      refine toQ hQ0 ?_
      exact RP (v := 0) hC (Or.inr ⟨rfl, fun h9 => a34 h9.2⟩) (by decide +kernel) gX11_isStamp_1.2.2.2
  · refine lv_if_eq (tgt := 24) hx hb gX11_isStamp_0.2.2.2.2.1 (by decide) (fun _ => ?_) (fun c9 => absurd (by decide) c9)
    refine lv_iconst (v := 0) hx hb gX11_isStamp_1.2.2.1 (by decide) ?_
    refine toQ hQ0 ?_
    exact RP (v := 0) hC (Or.inr ⟨rfl, fun h9 => a32 h9.1⟩) (by decide +kernel) gX11_isStamp_1.2.2.2
def K_c_viewedDay (l : Launch) (G : GG) (h0 : Nat) (bpersons : Nat) (bpapers : Nat) (bstamps : Nat) (bversions : Nat) (blines : Nat) (bsteps : Nat) (bsayings : Nat) (bfindings : Nat) (bwarnings : Nat) (bquestions : Nat) (td : Int32) (vd : Int32) (vl : Int32) (gp : Int32) : Prop := MP l G yX0_viewedDay cX0_viewedDay 1 (some .int) 1 [.ref h0] [(h0, oX0 bpersons bpapers bstamps bversions blines bsteps bsayings bfindings bwarnings bquestions td vd vl gp)] (fun r : Int32 => (r = td ∧ ¬ 0 ≤ vd) ∨ (r = vd ∧ 0 ≤ vd))
set_option maxHeartbeats 4000000 in
set_option maxRecDepth 100000 in
theorem c_viewedDay (l : Launch) (G : GG) (h0 : Nat) (bpersons : Nat) (bpapers : Nat) (bstamps : Nat) (bversions : Nat) (blines : Nat) (bsteps : Nat) (bsayings : Nat) (bfindings : Nat) (bwarnings : Nat) (bquestions : Nat) (td : Int32) (vd : Int32) (vl : Int32) (gp : Int32) : K_c_viewedDay l G h0 bpersons bpapers bstamps bversions blines bsteps bsayings bfindings bwarnings bquestions td vd vl gp := by
  refine MP.start (by decide +kernel) (Nat.le_of_ble_eq_true rfl) ?_
  intro p e s m below meth c ls hC hK hP hD hl
  refine absQ (fun Q0 hQ0 => ?_)
  have hl : lv_has ls 1 [(0, .ref h0)] := hl
  refine Kan8 hC (fun hx hb hr hml hB hown hlocks hnm => ?_)
  refine lv_aload_n hx hb gX0_viewedDay_0.1 rfl (lv_at0 hl) ?_
  refine gf_X0_51 hC rfl hK hP 0 rfl rfl gX0_viewedDay_0.2.1 ?_
  refine lv_if_ge (tgt := 14) hx hb gX0_viewedDay_0.2.2.1 (by decide) (fun c_4_35 => ?_) (fun c_4_35 => ?_)
  · refine lv_aload_n hx hb gX0_viewedDay_0.2.2.2.2.2.2.1 rfl (lv_at0 hl) ?_
    refine gf_X0_51 hC rfl hK hP 0 rfl rfl gX0_viewedDay_0.2.2.2.2.2.2.2.1 ?_
    refine toQ hQ0 ?_
    exact RP (v := vd) hC (Or.inr ⟨rfl, c_4_35⟩) rfl gX0_viewedDay_0.2.2.2.2.2.2.2.2
  · refine lv_aload_n hx hb gX0_viewedDay_0.2.2.2.1 rfl (lv_at0 hl) ?_
    refine gf_X0_47 hC rfl hK hP 0 rfl rfl gX0_viewedDay_0.2.2.2.2.1 ?_
    refine lv_goto (tgt := 18) hx hb gX0_viewedDay_0.2.2.2.2.2.1 (by decide) ?_
    refine toQ hQ0 ?_
    exact RP (v := td) hC (Or.inl ⟨rfl, c_4_35⟩) rfl gX0_viewedDay_0.2.2.2.2.2.2.2.2
def K_c_inView (l : Launch) (G : GG) (h0 : Nat) (bpersons : Nat) (bpapers : Nat) (bstamps : Nat) (bversions : Nat) (blines : Nat) (bsteps : Nat) (bsayings : Nat) (bfindings : Nat) (bwarnings : Nat) (bquestions : Nat) (td : Int32) (vd : Int32) (vl : Int32) (gp : Int32) (bpapersc : Nat) (kbpapers : Nat) (fbpapers : Nat → Int32) : Prop := MP l G yX0_inView cX0_inView 6 (some .int) 3 [.ref h0] [(h0, oX0 bpersons bpapers bstamps bversions blines bsteps bsayings bfindings bwarnings bquestions td vd vl gp), (bpapers, oX8 12 6 bpapersc (nI kbpapers)), (bpapersc, iA G 72 fbpapers)] (fun r : Int32 => True)
set_option maxHeartbeats 4000000 in
set_option maxRecDepth 100000 in
theorem c_inView (l : Launch) (G : GG) (h0 : Nat) (bpersons : Nat) (bpapers : Nat) (bstamps : Nat) (bversions : Nat) (blines : Nat) (bsteps : Nat) (bsayings : Nat) (bfindings : Nat) (bwarnings : Nat) (bquestions : Nat) (td : Int32) (vd : Int32) (vl : Int32) (gp : Int32) (bpapersc : Nat) (kbpapers : Nat) (fbpapers : Nat → Int32) (hkbpapers : kbpapers ≤ 12) : K_c_inView l G h0 bpersons bpapers bstamps bversions blines bsteps bsayings bfindings bwarnings bquestions td vd vl gp bpapersc kbpapers fbpapers := by
  refine MP.start (by decide +kernel) (Nat.le_of_ble_eq_true rfl) ?_
  intro p e s m below meth c ls hC hK hP hD hl
  refine absQ (fun Q0 hQ0 => ?_)
  have hl : lv_has ls 6 [(0, .ref h0)] := hl
  refine Kan8 hC (fun hx hb hr hml hB hown hlocks hnm => ?_)
  refine lv_iconst (v := 0) hx hb gX0_inView_0.1 (by decide) ?_
  refine lv_istore_n (lv' := [(1, .int 0), (0, .ref h0)]) hx hb gX0_inView_0.2.1 rfl hl (by decide) rfl (fun ls hl => ?_)
  refine lv_aload_n hx hb gX0_inView_0.2.2.1 rfl (lv_at1 hl) ?_
  refine pV hC hK hl hP hD (c_viewedDay l G h0 bpersons bpapers bstamps bversions blines bsteps bsayings bfindings bwarnings bquestions td vd vl gp) si_X0_64 [0] sm_0 fm_0 nd_0 rfl rfl rfl rfl rfl (Nat.le_of_ble_eq_true rfl) rm_3_1_1 ⟨by first | exact Nat.le_of_ble_eq_true rfl | exact Nat.zero_le _, by first | exact Nat.le_of_ble_eq_true rfl | exact Nat.zero_le _⟩ gX0_inView_0.2.2.2.1 (fun r36 hr36 => ?_)
  rcases hr36 with ⟨hE9, a37⟩ | ⟨hE9, a37⟩
  · refine eqi (x1 := td) hE9 ?_
    refine lv_istore_n (lv' := [(2, .int td), (1, .int 0), (0, .ref h0)]) hx hb gX0_inView_0.2.2.2.2.1 rfl hl (by decide) rfl (fun ls hl => ?_)
    refine lv_iconst (v := 0) hx hb gX0_inView_0.2.2.2.2.2.1 (by decide) ?_
    refine lv_istore_n (lv' := [(3, .int 0), (2, .int td), (1, .int 0), (0, .ref h0)]) hx hb gX0_inView_0.2.2.2.2.2.2.1 rfl hl (by decide) rfl (fun ls hl => ?_)
    have keyP : ∀ (nP kP : Nat) (bi : Int32) (ls : Array Slot), kP + nP = kbpapers → lv_has ls 6 [(3, .int (nI kP)), (2, .int td), (1, .int bi), (0, .ref h0)] → W p l e (RM 3 0 0) s m ([.ref h0] : List Value).toArray below meth c s.heap [] 0 0 Q0 (F0 m 9 ls []) := by
      intro nP
      induction nP with
      | zero =>
        intro kP bi ls hkP hl
        obtain rfl : kbpapers = kP := by omega
        have hl : lv_has ls 6 [(3, .int (nI kbpapers)), (2, .int td), (1, .int bi), (0, .ref h0)] := hl
        refine lv_iload_n hx hb gX0_inView_0.2.2.2.2.2.2.2.1 rfl (lv_at0 hl) ?_
        refine lv_aload_n hx hb gX0_inView_0.2.2.2.2.2.2.2.2.1 rfl (lv_at3 hl) ?_
        refine gf_X0_20 hC rfl hK hP 0 rfl rfl gX0_inView_0.2.2.2.2.2.2.2.2.2 ?_
        refine pV hC hK hl hP hD (c_T_count l G bpapers 12 6 bpapersc kbpapers) si_X0_68 [1] sm_1 fm_1 nd_1 rfl rfl rfl rfl rfl (Nat.le_of_ble_eq_true rfl) rm_3_1_1 ⟨by first | exact Nat.le_of_ble_eq_true rfl | exact Nat.zero_le _, by first | exact Nat.le_of_ble_eq_true rfl | exact Nat.zero_le _⟩ gX0_inView_1.1 (Keqr ?_)
        refine lv_icmp_ge (tgt := 95) hx hb gX0_inView_1.2.1 (by decide) (fun _ => ?_) (fun c9 => absurd (Int32.le_refl _) c9)
        refine lv_iload_n hx hb gX0_inView_5.2.2.1 rfl (lv_at2 hl) ?_
        refine toQ hQ0 ?_
        exact RP (v := bi) hC (trivial) rfl gX0_inView_5.2.2.2
      | succ nP ihP =>
        intro kP bi ls hkP hl
        refine lv_iload_n hx hb gX0_inView_0.2.2.2.2.2.2.2.1 rfl (lv_at0 hl) ?_
        refine lv_aload_n hx hb gX0_inView_0.2.2.2.2.2.2.2.2.1 rfl (lv_at3 hl) ?_
        refine gf_X0_20 hC rfl hK hP 0 rfl rfl gX0_inView_0.2.2.2.2.2.2.2.2.2 ?_
        refine pV hC hK hl hP hD (c_T_count l G bpapers 12 6 bpapersc kbpapers) si_X0_68 [1] sm_1 fm_1 nd_1 rfl rfl rfl rfl rfl (Nat.le_of_ble_eq_true rfl) rm_3_1_1 ⟨by first | exact Nat.le_of_ble_eq_true rfl | exact Nat.zero_le _, by first | exact Nat.le_of_ble_eq_true rfl | exact Nat.zero_le _⟩ gX0_inView_1.1 (Keqr ?_)
        refine lv_icmp_ge (tgt := 95) hx hb gX0_inView_1.2.1 (by decide) (fun c9 => absurd c9 (nI_ge (a := kP) (b := kbpapers) (by omega) (by omega))) (fun _ => ?_)
        refine lv_aload_n hx hb gX0_inView_1.2.2.1 rfl (lv_at3 hl) ?_
        refine gf_X0_20 hC rfl hK hP 0 rfl rfl gX0_inView_1.2.2.2.1 ?_
        refine lv_iload_n hx hb gX0_inView_1.2.2.2.2.1 rfl (lv_at0 hl) ?_
        refine lv_iconst (v := 5) hx hb gX0_inView_1.2.2.2.2.2.1 (by decide) ?_
        refine pV hC hK hl hP hD (c_T_at l G bpapers (nI kP) 5 12 6 bpapersc kbpapers fbpapers (hkbpapers) (by omega) (by omega)) si_X0_71 [1, 2] sm_1_2 fm_1_2 nd_1_2 rfl rfl rfl rfl rfl (Nat.le_of_ble_eq_true rfl) rm_3_1_3 ⟨by first | exact Nat.le_of_ble_eq_true rfl | exact Nat.zero_le _, by first | exact Nat.le_of_ble_eq_true rfl | exact Nat.zero_le _⟩ gX0_inView_1.2.2.2.2.2.2.1 (fun r42 hr42 => ?_)
        refine lv_istore (lv' := [(4, .int r42), (3, .int (nI kP)), (2, .int td), (1, .int bi), (0, .ref h0)]) hx hb gX0_inView_1.2.2.2.2.2.2.2.1 hl (by decide) rfl (fun ls hl => ?_)
        refine lv_iload hx hb gX0_inView_1.2.2.2.2.2.2.2.2.1 (lv_at0 hl) ?_
        refine lv_if_lt (tgt := 46) hx hb gX0_inView_1.2.2.2.2.2.2.2.2.2 (by decide) (fun c_33_44 => ?_) (fun c_33_44 => ?_)
        · refine lv_iconst (v := 0) hx hb gX0_inView_2.2.2.2.2.2.1 (by decide) ?_
          refine lv_istore (lv' := [(5, .int 0), (4, .int r42), (3, .int (nI kP)), (2, .int td), (1, .int bi), (0, .ref h0)]) hx hb gX0_inView_2.2.2.2.2.2.2.1 hl (by decide) rfl (fun ls hl => ?_)
          refine lv_aload_n hx hb gX0_inView_2.2.2.2.2.2.2.2.1 rfl (lv_at5 hl) ?_
          refine gf_X0_20 hC rfl hK hP 0 rfl rfl gX0_inView_2.2.2.2.2.2.2.2.2.1 ?_
          refine lv_iload_n hx hb gX0_inView_2.2.2.2.2.2.2.2.2.2 rfl (lv_at2 hl) ?_
          refine lv_iconst (v := 4) hx hb gX0_inView_3.1 (by decide) ?_
          refine pV hC hK hl hP hD (c_T_at l G bpapers (nI kP) 4 12 6 bpapersc kbpapers fbpapers (hkbpapers) (by omega) (by omega)) si_X0_71 [1, 2] sm_1_2 fm_1_2 nd_1_2 rfl rfl rfl rfl rfl (Nat.le_of_ble_eq_true rfl) rm_3_1_3 ⟨by first | exact Nat.le_of_ble_eq_true rfl | exact Nat.zero_le _, by first | exact Nat.le_of_ble_eq_true rfl | exact Nat.zero_le _⟩ gX0_inView_3.2.1 (fun r45 hr45 => ?_)
          refine lv_iload_n hx hb gX0_inView_3.2.2.1 rfl (lv_at3 hl) ?_
          refine lv_icmp_gt (tgt := 89) hx hb gX0_inView_3.2.2.2.1 (by decide) (fun c_59_47 => ?_) (fun c_59_47 => ?_)
          · refine lv_iinc (v := nI (kP + 1)) (lv' := [(3, .int (nI (kP + 1))), (5, .int 0), (4, .int r42), (2, .int td), (1, .int bi), (0, .ref h0)]) hx hb gX0_inView_5.1 hl (k := 2) rfl (nI_1 _) (by decide) rfl (fun ls hl => ?_)
            refine lv_goto (tgt := 9) hx hb gX0_inView_5.2.1 (by decide) ?_
            exact ihP (kP + 1) bi _ (by omega) (lv_sub hl [0, 3, 4, 5] rfl)
          · refine lv_aload_n hx hb gX0_inView_3.2.2.2.2.1 rfl (lv_at5 hl) ?_
            refine gf_X0_20 hC rfl hK hP 0 rfl rfl gX0_inView_3.2.2.2.2.2.1 ?_
            refine lv_iload_n hx hb gX0_inView_3.2.2.2.2.2.2.1 rfl (lv_at2 hl) ?_
            refine lv_iconst (v := 3) hx hb gX0_inView_3.2.2.2.2.2.2.2.1 (by decide) ?_
            refine pV hC hK hl hP hD (c_T_at l G bpapers (nI kP) 3 12 6 bpapersc kbpapers fbpapers (hkbpapers) (by omega) (by omega)) si_X0_71 [1, 2] sm_1_2 fm_1_2 nd_1_2 rfl rfl rfl rfl rfl (Nat.le_of_ble_eq_true rfl) rm_3_1_3 ⟨by first | exact Nat.le_of_ble_eq_true rfl | exact Nat.zero_le _, by first | exact Nat.le_of_ble_eq_true rfl | exact Nat.zero_le _⟩ gX0_inView_3.2.2.2.2.2.2.2.2.1 (fun r48 hr48 => ?_)
            refine lv_aload_n hx hb gX0_inView_3.2.2.2.2.2.2.2.2.2 rfl (lv_at5 hl) ?_
            refine gf_X0_54 hC rfl hK hP 0 rfl rfl gX0_inView_4.1 ?_
            refine lv_icmp_gt (tgt := 89) hx hb gX0_inView_4.2.1 (by decide) (fun c_75_50 => ?_) (fun c_75_50 => ?_)
            · refine lv_iinc (v := nI (kP + 1)) (lv' := [(3, .int (nI (kP + 1))), (5, .int 0), (4, .int r42), (2, .int td), (1, .int bi), (0, .ref h0)]) hx hb gX0_inView_5.1 hl (k := 2) rfl (nI_1 _) (by decide) rfl (fun ls hl => ?_)
              refine lv_goto (tgt := 9) hx hb gX0_inView_5.2.1 (by decide) ?_
              exact ihP (kP + 1) bi _ (by omega) (lv_sub hl [0, 3, 4, 5] rfl)
            · refine lv_iload hx hb gX0_inView_4.2.2.1 (lv_at0 hl) ?_
              refine lv_if_ne (tgt := 89) hx hb gX0_inView_4.2.2.2.1 (by decide) (fun c9 => absurd (by decide) c9) (fun _ => ?_)
              refine lv_iload_n hx hb gX0_inView_4.2.2.2.2.1 rfl (lv_at4 hl) ?_
              refine lv_iconst (v := 1) hx hb gX0_inView_4.2.2.2.2.2.1 (by decide) ?_
              refine lv_iload_n hx hb gX0_inView_4.2.2.2.2.2.2.1 rfl (lv_at2 hl) ?_
              refine lv_ishl hx hb gX0_inView_4.2.2.2.2.2.2.2.1 ?_
              refine lv_ior hx hb gX0_inView_4.2.2.2.2.2.2.2.2.1 ?_
              refine lv_istore_n (lv' := [(1, .int (bi ||| (1 <<< ((nI kP) &&& 31)))), (5, .int 0), (4, .int r42), (3, .int (nI kP)), (2, .int td), (0, .ref h0)]) hx hb gX0_inView_4.2.2.2.2.2.2.2.2.2 rfl hl (by decide) rfl (fun ls hl => ?_)
              refine lv_iinc (v := nI (kP + 1)) (lv' := [(3, .int (nI (kP + 1))), (1, .int (bi ||| (1 <<< ((nI kP) &&& 31)))), (5, .int 0), (4, .int r42), (2, .int td), (0, .ref h0)]) hx hb gX0_inView_5.1 hl (k := 3) rfl (nI_1 _) (by decide) rfl (fun ls hl => ?_)
              refine lv_goto (tgt := 9) hx hb gX0_inView_5.2.1 (by decide) ?_
              exact ihP (kP + 1) (bi ||| (1 <<< ((nI kP) &&& 31))) _ (by omega) (lv_sub hl [0, 4, 1, 5] rfl)
        · refine lv_iload hx hb gX0_inView_2.1 (lv_at0 hl) ?_
          refine lv_iload_n hx hb gX0_inView_2.2.1 rfl (lv_at2 hl) ?_
          refine lv_icmp_gt (tgt := 46) hx hb gX0_inView_2.2.2.1 (by decide) (fun c_39_51 => ?_) (fun c_39_51 => ?_)
          · refine lv_iconst (v := 0) hx hb gX0_inView_2.2.2.2.2.2.1 (by decide) ?_
            refine lv_istore (lv' := [(5, .int 0), (4, .int r42), (3, .int (nI kP)), (2, .int td), (1, .int bi), (0, .ref h0)]) hx hb gX0_inView_2.2.2.2.2.2.2.1 hl (by decide) rfl (fun ls hl => ?_)
            refine lv_aload_n hx hb gX0_inView_2.2.2.2.2.2.2.2.1 rfl (lv_at5 hl) ?_
            refine gf_X0_20 hC rfl hK hP 0 rfl rfl gX0_inView_2.2.2.2.2.2.2.2.2.1 ?_
            refine lv_iload_n hx hb gX0_inView_2.2.2.2.2.2.2.2.2.2 rfl (lv_at2 hl) ?_
            refine lv_iconst (v := 4) hx hb gX0_inView_3.1 (by decide) ?_
            refine pV hC hK hl hP hD (c_T_at l G bpapers (nI kP) 4 12 6 bpapersc kbpapers fbpapers (hkbpapers) (by omega) (by omega)) si_X0_71 [1, 2] sm_1_2 fm_1_2 nd_1_2 rfl rfl rfl rfl rfl (Nat.le_of_ble_eq_true rfl) rm_3_1_3 ⟨by first | exact Nat.le_of_ble_eq_true rfl | exact Nat.zero_le _, by first | exact Nat.le_of_ble_eq_true rfl | exact Nat.zero_le _⟩ gX0_inView_3.2.1 (fun r52 hr52 => ?_)
            refine lv_iload_n hx hb gX0_inView_3.2.2.1 rfl (lv_at3 hl) ?_
            refine lv_icmp_gt (tgt := 89) hx hb gX0_inView_3.2.2.2.1 (by decide) (fun c_59_54 => ?_) (fun c_59_54 => ?_)
            · refine lv_iinc (v := nI (kP + 1)) (lv' := [(3, .int (nI (kP + 1))), (5, .int 0), (4, .int r42), (2, .int td), (1, .int bi), (0, .ref h0)]) hx hb gX0_inView_5.1 hl (k := 2) rfl (nI_1 _) (by decide) rfl (fun ls hl => ?_)
              refine lv_goto (tgt := 9) hx hb gX0_inView_5.2.1 (by decide) ?_
              exact ihP (kP + 1) bi _ (by omega) (lv_sub hl [0, 3, 4, 5] rfl)
            · refine lv_aload_n hx hb gX0_inView_3.2.2.2.2.1 rfl (lv_at5 hl) ?_
              refine gf_X0_20 hC rfl hK hP 0 rfl rfl gX0_inView_3.2.2.2.2.2.1 ?_
              refine lv_iload_n hx hb gX0_inView_3.2.2.2.2.2.2.1 rfl (lv_at2 hl) ?_
              refine lv_iconst (v := 3) hx hb gX0_inView_3.2.2.2.2.2.2.2.1 (by decide) ?_
              refine pV hC hK hl hP hD (c_T_at l G bpapers (nI kP) 3 12 6 bpapersc kbpapers fbpapers (hkbpapers) (by omega) (by omega)) si_X0_71 [1, 2] sm_1_2 fm_1_2 nd_1_2 rfl rfl rfl rfl rfl (Nat.le_of_ble_eq_true rfl) rm_3_1_3 ⟨by first | exact Nat.le_of_ble_eq_true rfl | exact Nat.zero_le _, by first | exact Nat.le_of_ble_eq_true rfl | exact Nat.zero_le _⟩ gX0_inView_3.2.2.2.2.2.2.2.2.1 (fun r55 hr55 => ?_)
              refine lv_aload_n hx hb gX0_inView_3.2.2.2.2.2.2.2.2.2 rfl (lv_at5 hl) ?_
              refine gf_X0_54 hC rfl hK hP 0 rfl rfl gX0_inView_4.1 ?_
              refine lv_icmp_gt (tgt := 89) hx hb gX0_inView_4.2.1 (by decide) (fun c_75_57 => ?_) (fun c_75_57 => ?_)
              · refine lv_iinc (v := nI (kP + 1)) (lv' := [(3, .int (nI (kP + 1))), (5, .int 0), (4, .int r42), (2, .int td), (1, .int bi), (0, .ref h0)]) hx hb gX0_inView_5.1 hl (k := 2) rfl (nI_1 _) (by decide) rfl (fun ls hl => ?_)
                refine lv_goto (tgt := 9) hx hb gX0_inView_5.2.1 (by decide) ?_
                exact ihP (kP + 1) bi _ (by omega) (lv_sub hl [0, 3, 4, 5] rfl)
              · refine lv_iload hx hb gX0_inView_4.2.2.1 (lv_at0 hl) ?_
                refine lv_if_ne (tgt := 89) hx hb gX0_inView_4.2.2.2.1 (by decide) (fun c9 => absurd (by decide) c9) (fun _ => ?_)
                refine lv_iload_n hx hb gX0_inView_4.2.2.2.2.1 rfl (lv_at4 hl) ?_
                refine lv_iconst (v := 1) hx hb gX0_inView_4.2.2.2.2.2.1 (by decide) ?_
                refine lv_iload_n hx hb gX0_inView_4.2.2.2.2.2.2.1 rfl (lv_at2 hl) ?_
                refine lv_ishl hx hb gX0_inView_4.2.2.2.2.2.2.2.1 ?_
                refine lv_ior hx hb gX0_inView_4.2.2.2.2.2.2.2.2.1 ?_
                refine lv_istore_n (lv' := [(1, .int (bi ||| (1 <<< ((nI kP) &&& 31)))), (5, .int 0), (4, .int r42), (3, .int (nI kP)), (2, .int td), (0, .ref h0)]) hx hb gX0_inView_4.2.2.2.2.2.2.2.2.2 rfl hl (by decide) rfl (fun ls hl => ?_)
                refine lv_iinc (v := nI (kP + 1)) (lv' := [(3, .int (nI (kP + 1))), (1, .int (bi ||| (1 <<< ((nI kP) &&& 31)))), (5, .int 0), (4, .int r42), (2, .int td), (0, .ref h0)]) hx hb gX0_inView_5.1 hl (k := 3) rfl (nI_1 _) (by decide) rfl (fun ls hl => ?_)
                refine lv_goto (tgt := 9) hx hb gX0_inView_5.2.1 (by decide) ?_
                exact ihP (kP + 1) (bi ||| (1 <<< ((nI kP) &&& 31))) _ (by omega) (lv_sub hl [0, 4, 1, 5] rfl)
          · refine lv_iconst (v := 1) hx hb gX0_inView_2.2.2.2.1 (by decide) ?_
            refine lv_goto (tgt := 47) hx hb gX0_inView_2.2.2.2.2.1 (by decide) ?_
            refine lv_istore (lv' := [(5, .int 1), (4, .int r42), (3, .int (nI kP)), (2, .int td), (1, .int bi), (0, .ref h0)]) hx hb gX0_inView_2.2.2.2.2.2.2.1 hl (by decide) rfl (fun ls hl => ?_)
            refine lv_aload_n hx hb gX0_inView_2.2.2.2.2.2.2.2.1 rfl (lv_at5 hl) ?_
            refine gf_X0_20 hC rfl hK hP 0 rfl rfl gX0_inView_2.2.2.2.2.2.2.2.2.1 ?_
            refine lv_iload_n hx hb gX0_inView_2.2.2.2.2.2.2.2.2.2 rfl (lv_at2 hl) ?_
            refine lv_iconst (v := 4) hx hb gX0_inView_3.1 (by decide) ?_
            refine pV hC hK hl hP hD (c_T_at l G bpapers (nI kP) 4 12 6 bpapersc kbpapers fbpapers (hkbpapers) (by omega) (by omega)) si_X0_71 [1, 2] sm_1_2 fm_1_2 nd_1_2 rfl rfl rfl rfl rfl (Nat.le_of_ble_eq_true rfl) rm_3_1_3 ⟨by first | exact Nat.le_of_ble_eq_true rfl | exact Nat.zero_le _, by first | exact Nat.le_of_ble_eq_true rfl | exact Nat.zero_le _⟩ gX0_inView_3.2.1 (fun r58 hr58 => ?_)
            refine lv_iload_n hx hb gX0_inView_3.2.2.1 rfl (lv_at3 hl) ?_
            refine lv_icmp_gt (tgt := 89) hx hb gX0_inView_3.2.2.2.1 (by decide) (fun c_59_60 => ?_) (fun c_59_60 => ?_)
            · refine lv_iinc (v := nI (kP + 1)) (lv' := [(3, .int (nI (kP + 1))), (5, .int 1), (4, .int r42), (2, .int td), (1, .int bi), (0, .ref h0)]) hx hb gX0_inView_5.1 hl (k := 2) rfl (nI_1 _) (by decide) rfl (fun ls hl => ?_)
              refine lv_goto (tgt := 9) hx hb gX0_inView_5.2.1 (by decide) ?_
              exact ihP (kP + 1) bi _ (by omega) (lv_sub hl [0, 3, 4, 5] rfl)
            · refine lv_aload_n hx hb gX0_inView_3.2.2.2.2.1 rfl (lv_at5 hl) ?_
              refine gf_X0_20 hC rfl hK hP 0 rfl rfl gX0_inView_3.2.2.2.2.2.1 ?_
              refine lv_iload_n hx hb gX0_inView_3.2.2.2.2.2.2.1 rfl (lv_at2 hl) ?_
              refine lv_iconst (v := 3) hx hb gX0_inView_3.2.2.2.2.2.2.2.1 (by decide) ?_
              refine pV hC hK hl hP hD (c_T_at l G bpapers (nI kP) 3 12 6 bpapersc kbpapers fbpapers (hkbpapers) (by omega) (by omega)) si_X0_71 [1, 2] sm_1_2 fm_1_2 nd_1_2 rfl rfl rfl rfl rfl (Nat.le_of_ble_eq_true rfl) rm_3_1_3 ⟨by first | exact Nat.le_of_ble_eq_true rfl | exact Nat.zero_le _, by first | exact Nat.le_of_ble_eq_true rfl | exact Nat.zero_le _⟩ gX0_inView_3.2.2.2.2.2.2.2.2.1 (fun r61 hr61 => ?_)
              refine lv_aload_n hx hb gX0_inView_3.2.2.2.2.2.2.2.2.2 rfl (lv_at5 hl) ?_
              refine gf_X0_54 hC rfl hK hP 0 rfl rfl gX0_inView_4.1 ?_
              refine lv_icmp_gt (tgt := 89) hx hb gX0_inView_4.2.1 (by decide) (fun c_75_63 => ?_) (fun c_75_63 => ?_)
              · refine lv_iinc (v := nI (kP + 1)) (lv' := [(3, .int (nI (kP + 1))), (5, .int 1), (4, .int r42), (2, .int td), (1, .int bi), (0, .ref h0)]) hx hb gX0_inView_5.1 hl (k := 2) rfl (nI_1 _) (by decide) rfl (fun ls hl => ?_)
                refine lv_goto (tgt := 9) hx hb gX0_inView_5.2.1 (by decide) ?_
                exact ihP (kP + 1) bi _ (by omega) (lv_sub hl [0, 3, 4, 5] rfl)
              · refine lv_iload hx hb gX0_inView_4.2.2.1 (lv_at0 hl) ?_
                refine lv_if_ne (tgt := 89) hx hb gX0_inView_4.2.2.2.1 (by decide) (fun _ => ?_) (fun c9 => absurd c9 (by decide))
                refine lv_iinc (v := nI (kP + 1)) (lv' := [(3, .int (nI (kP + 1))), (5, .int 1), (4, .int r42), (2, .int td), (1, .int bi), (0, .ref h0)]) hx hb gX0_inView_5.1 hl (k := 2) rfl (nI_1 _) (by decide) rfl (fun ls hl => ?_)
                refine lv_goto (tgt := 9) hx hb gX0_inView_5.2.1 (by decide) ?_
                exact ihP (kP + 1) bi _ (by omega) (lv_sub hl [0, 3, 4, 5] rfl)
    exact keyP kbpapers 0 0 _ (by omega) (lv_sub hl [0, 1, 2, 3] rfl)
  · refine eqi (x1 := vd) hE9 ?_
    refine lv_istore_n (lv' := [(2, .int vd), (1, .int 0), (0, .ref h0)]) hx hb gX0_inView_0.2.2.2.2.1 rfl hl (by decide) rfl (fun ls hl => ?_)
    refine lv_iconst (v := 0) hx hb gX0_inView_0.2.2.2.2.2.1 (by decide) ?_
    refine lv_istore_n (lv' := [(3, .int 0), (2, .int vd), (1, .int 0), (0, .ref h0)]) hx hb gX0_inView_0.2.2.2.2.2.2.1 rfl hl (by decide) rfl (fun ls hl => ?_)
    have keyP : ∀ (nP kP : Nat) (bi : Int32) (ls : Array Slot), kP + nP = kbpapers → lv_has ls 6 [(3, .int (nI kP)), (2, .int vd), (1, .int bi), (0, .ref h0)] → W p l e (RM 3 0 0) s m ([.ref h0] : List Value).toArray below meth c s.heap [] 0 0 Q0 (F0 m 9 ls []) := by
      intro nP
      induction nP with
      | zero =>
        intro kP bi ls hkP hl
        obtain rfl : kbpapers = kP := by omega
        have hl : lv_has ls 6 [(3, .int (nI kbpapers)), (2, .int vd), (1, .int bi), (0, .ref h0)] := hl
        refine lv_iload_n hx hb gX0_inView_0.2.2.2.2.2.2.2.1 rfl (lv_at0 hl) ?_
        refine lv_aload_n hx hb gX0_inView_0.2.2.2.2.2.2.2.2.1 rfl (lv_at3 hl) ?_
        refine gf_X0_20 hC rfl hK hP 0 rfl rfl gX0_inView_0.2.2.2.2.2.2.2.2.2 ?_
        refine pV hC hK hl hP hD (c_T_count l G bpapers 12 6 bpapersc kbpapers) si_X0_68 [1] sm_1 fm_1 nd_1 rfl rfl rfl rfl rfl (Nat.le_of_ble_eq_true rfl) rm_3_1_1 ⟨by first | exact Nat.le_of_ble_eq_true rfl | exact Nat.zero_le _, by first | exact Nat.le_of_ble_eq_true rfl | exact Nat.zero_le _⟩ gX0_inView_1.1 (Keqr ?_)
        refine lv_icmp_ge (tgt := 95) hx hb gX0_inView_1.2.1 (by decide) (fun _ => ?_) (fun c9 => absurd (Int32.le_refl _) c9)
        refine lv_iload_n hx hb gX0_inView_5.2.2.1 rfl (lv_at2 hl) ?_
        refine toQ hQ0 ?_
        exact RP (v := bi) hC (trivial) rfl gX0_inView_5.2.2.2
      | succ nP ihP =>
        intro kP bi ls hkP hl
        refine lv_iload_n hx hb gX0_inView_0.2.2.2.2.2.2.2.1 rfl (lv_at0 hl) ?_
        refine lv_aload_n hx hb gX0_inView_0.2.2.2.2.2.2.2.2.1 rfl (lv_at3 hl) ?_
        refine gf_X0_20 hC rfl hK hP 0 rfl rfl gX0_inView_0.2.2.2.2.2.2.2.2.2 ?_
        refine pV hC hK hl hP hD (c_T_count l G bpapers 12 6 bpapersc kbpapers) si_X0_68 [1] sm_1 fm_1 nd_1 rfl rfl rfl rfl rfl (Nat.le_of_ble_eq_true rfl) rm_3_1_1 ⟨by first | exact Nat.le_of_ble_eq_true rfl | exact Nat.zero_le _, by first | exact Nat.le_of_ble_eq_true rfl | exact Nat.zero_le _⟩ gX0_inView_1.1 (Keqr ?_)
        refine lv_icmp_ge (tgt := 95) hx hb gX0_inView_1.2.1 (by decide) (fun c9 => absurd c9 (nI_ge (a := kP) (b := kbpapers) (by omega) (by omega))) (fun _ => ?_)
        refine lv_aload_n hx hb gX0_inView_1.2.2.1 rfl (lv_at3 hl) ?_
        refine gf_X0_20 hC rfl hK hP 0 rfl rfl gX0_inView_1.2.2.2.1 ?_
        refine lv_iload_n hx hb gX0_inView_1.2.2.2.2.1 rfl (lv_at0 hl) ?_
        refine lv_iconst (v := 5) hx hb gX0_inView_1.2.2.2.2.2.1 (by decide) ?_
        refine pV hC hK hl hP hD (c_T_at l G bpapers (nI kP) 5 12 6 bpapersc kbpapers fbpapers (hkbpapers) (by omega) (by omega)) si_X0_71 [1, 2] sm_1_2 fm_1_2 nd_1_2 rfl rfl rfl rfl rfl (Nat.le_of_ble_eq_true rfl) rm_3_1_3 ⟨by first | exact Nat.le_of_ble_eq_true rfl | exact Nat.zero_le _, by first | exact Nat.le_of_ble_eq_true rfl | exact Nat.zero_le _⟩ gX0_inView_1.2.2.2.2.2.2.1 (fun r68 hr68 => ?_)
        refine lv_istore (lv' := [(4, .int r68), (3, .int (nI kP)), (2, .int vd), (1, .int bi), (0, .ref h0)]) hx hb gX0_inView_1.2.2.2.2.2.2.2.1 hl (by decide) rfl (fun ls hl => ?_)
        refine lv_iload hx hb gX0_inView_1.2.2.2.2.2.2.2.2.1 (lv_at0 hl) ?_
        refine lv_if_lt (tgt := 46) hx hb gX0_inView_1.2.2.2.2.2.2.2.2.2 (by decide) (fun c_33_70 => ?_) (fun c_33_70 => ?_)
        · refine lv_iconst (v := 0) hx hb gX0_inView_2.2.2.2.2.2.1 (by decide) ?_
          refine lv_istore (lv' := [(5, .int 0), (4, .int r68), (3, .int (nI kP)), (2, .int vd), (1, .int bi), (0, .ref h0)]) hx hb gX0_inView_2.2.2.2.2.2.2.1 hl (by decide) rfl (fun ls hl => ?_)
          refine lv_aload_n hx hb gX0_inView_2.2.2.2.2.2.2.2.1 rfl (lv_at5 hl) ?_
          refine gf_X0_20 hC rfl hK hP 0 rfl rfl gX0_inView_2.2.2.2.2.2.2.2.2.1 ?_
          refine lv_iload_n hx hb gX0_inView_2.2.2.2.2.2.2.2.2.2 rfl (lv_at2 hl) ?_
          refine lv_iconst (v := 4) hx hb gX0_inView_3.1 (by decide) ?_
          refine pV hC hK hl hP hD (c_T_at l G bpapers (nI kP) 4 12 6 bpapersc kbpapers fbpapers (hkbpapers) (by omega) (by omega)) si_X0_71 [1, 2] sm_1_2 fm_1_2 nd_1_2 rfl rfl rfl rfl rfl (Nat.le_of_ble_eq_true rfl) rm_3_1_3 ⟨by first | exact Nat.le_of_ble_eq_true rfl | exact Nat.zero_le _, by first | exact Nat.le_of_ble_eq_true rfl | exact Nat.zero_le _⟩ gX0_inView_3.2.1 (fun r71 hr71 => ?_)
          refine lv_iload_n hx hb gX0_inView_3.2.2.1 rfl (lv_at3 hl) ?_
          refine lv_icmp_gt (tgt := 89) hx hb gX0_inView_3.2.2.2.1 (by decide) (fun c_59_73 => ?_) (fun c_59_73 => ?_)
          · refine lv_iinc (v := nI (kP + 1)) (lv' := [(3, .int (nI (kP + 1))), (5, .int 0), (4, .int r68), (2, .int vd), (1, .int bi), (0, .ref h0)]) hx hb gX0_inView_5.1 hl (k := 2) rfl (nI_1 _) (by decide) rfl (fun ls hl => ?_)
            refine lv_goto (tgt := 9) hx hb gX0_inView_5.2.1 (by decide) ?_
            exact ihP (kP + 1) bi _ (by omega) (lv_sub hl [0, 3, 4, 5] rfl)
          · refine lv_aload_n hx hb gX0_inView_3.2.2.2.2.1 rfl (lv_at5 hl) ?_
            refine gf_X0_20 hC rfl hK hP 0 rfl rfl gX0_inView_3.2.2.2.2.2.1 ?_
            refine lv_iload_n hx hb gX0_inView_3.2.2.2.2.2.2.1 rfl (lv_at2 hl) ?_
            refine lv_iconst (v := 3) hx hb gX0_inView_3.2.2.2.2.2.2.2.1 (by decide) ?_
            refine pV hC hK hl hP hD (c_T_at l G bpapers (nI kP) 3 12 6 bpapersc kbpapers fbpapers (hkbpapers) (by omega) (by omega)) si_X0_71 [1, 2] sm_1_2 fm_1_2 nd_1_2 rfl rfl rfl rfl rfl (Nat.le_of_ble_eq_true rfl) rm_3_1_3 ⟨by first | exact Nat.le_of_ble_eq_true rfl | exact Nat.zero_le _, by first | exact Nat.le_of_ble_eq_true rfl | exact Nat.zero_le _⟩ gX0_inView_3.2.2.2.2.2.2.2.2.1 (fun r74 hr74 => ?_)
            refine lv_aload_n hx hb gX0_inView_3.2.2.2.2.2.2.2.2.2 rfl (lv_at5 hl) ?_
            refine gf_X0_54 hC rfl hK hP 0 rfl rfl gX0_inView_4.1 ?_
            refine lv_icmp_gt (tgt := 89) hx hb gX0_inView_4.2.1 (by decide) (fun c_75_76 => ?_) (fun c_75_76 => ?_)
            · refine lv_iinc (v := nI (kP + 1)) (lv' := [(3, .int (nI (kP + 1))), (5, .int 0), (4, .int r68), (2, .int vd), (1, .int bi), (0, .ref h0)]) hx hb gX0_inView_5.1 hl (k := 2) rfl (nI_1 _) (by decide) rfl (fun ls hl => ?_)
              refine lv_goto (tgt := 9) hx hb gX0_inView_5.2.1 (by decide) ?_
              exact ihP (kP + 1) bi _ (by omega) (lv_sub hl [0, 3, 4, 5] rfl)
            · refine lv_iload hx hb gX0_inView_4.2.2.1 (lv_at0 hl) ?_
              refine lv_if_ne (tgt := 89) hx hb gX0_inView_4.2.2.2.1 (by decide) (fun c9 => absurd (by decide) c9) (fun _ => ?_)
              refine lv_iload_n hx hb gX0_inView_4.2.2.2.2.1 rfl (lv_at4 hl) ?_
              refine lv_iconst (v := 1) hx hb gX0_inView_4.2.2.2.2.2.1 (by decide) ?_
              refine lv_iload_n hx hb gX0_inView_4.2.2.2.2.2.2.1 rfl (lv_at2 hl) ?_
              refine lv_ishl hx hb gX0_inView_4.2.2.2.2.2.2.2.1 ?_
              refine lv_ior hx hb gX0_inView_4.2.2.2.2.2.2.2.2.1 ?_
              refine lv_istore_n (lv' := [(1, .int (bi ||| (1 <<< ((nI kP) &&& 31)))), (5, .int 0), (4, .int r68), (3, .int (nI kP)), (2, .int vd), (0, .ref h0)]) hx hb gX0_inView_4.2.2.2.2.2.2.2.2.2 rfl hl (by decide) rfl (fun ls hl => ?_)
              refine lv_iinc (v := nI (kP + 1)) (lv' := [(3, .int (nI (kP + 1))), (1, .int (bi ||| (1 <<< ((nI kP) &&& 31)))), (5, .int 0), (4, .int r68), (2, .int vd), (0, .ref h0)]) hx hb gX0_inView_5.1 hl (k := 3) rfl (nI_1 _) (by decide) rfl (fun ls hl => ?_)
              refine lv_goto (tgt := 9) hx hb gX0_inView_5.2.1 (by decide) ?_
              exact ihP (kP + 1) (bi ||| (1 <<< ((nI kP) &&& 31))) _ (by omega) (lv_sub hl [0, 4, 1, 5] rfl)
        · refine lv_iload hx hb gX0_inView_2.1 (lv_at0 hl) ?_
          refine lv_iload_n hx hb gX0_inView_2.2.1 rfl (lv_at2 hl) ?_
          refine lv_icmp_gt (tgt := 46) hx hb gX0_inView_2.2.2.1 (by decide) (fun c_39_77 => ?_) (fun c_39_77 => ?_)
          · refine lv_iconst (v := 0) hx hb gX0_inView_2.2.2.2.2.2.1 (by decide) ?_
            refine lv_istore (lv' := [(5, .int 0), (4, .int r68), (3, .int (nI kP)), (2, .int vd), (1, .int bi), (0, .ref h0)]) hx hb gX0_inView_2.2.2.2.2.2.2.1 hl (by decide) rfl (fun ls hl => ?_)
            refine lv_aload_n hx hb gX0_inView_2.2.2.2.2.2.2.2.1 rfl (lv_at5 hl) ?_
            refine gf_X0_20 hC rfl hK hP 0 rfl rfl gX0_inView_2.2.2.2.2.2.2.2.2.1 ?_
            refine lv_iload_n hx hb gX0_inView_2.2.2.2.2.2.2.2.2.2 rfl (lv_at2 hl) ?_
            refine lv_iconst (v := 4) hx hb gX0_inView_3.1 (by decide) ?_
            refine pV hC hK hl hP hD (c_T_at l G bpapers (nI kP) 4 12 6 bpapersc kbpapers fbpapers (hkbpapers) (by omega) (by omega)) si_X0_71 [1, 2] sm_1_2 fm_1_2 nd_1_2 rfl rfl rfl rfl rfl (Nat.le_of_ble_eq_true rfl) rm_3_1_3 ⟨by first | exact Nat.le_of_ble_eq_true rfl | exact Nat.zero_le _, by first | exact Nat.le_of_ble_eq_true rfl | exact Nat.zero_le _⟩ gX0_inView_3.2.1 (fun r78 hr78 => ?_)
            refine lv_iload_n hx hb gX0_inView_3.2.2.1 rfl (lv_at3 hl) ?_
            refine lv_icmp_gt (tgt := 89) hx hb gX0_inView_3.2.2.2.1 (by decide) (fun c_59_80 => ?_) (fun c_59_80 => ?_)
            · refine lv_iinc (v := nI (kP + 1)) (lv' := [(3, .int (nI (kP + 1))), (5, .int 0), (4, .int r68), (2, .int vd), (1, .int bi), (0, .ref h0)]) hx hb gX0_inView_5.1 hl (k := 2) rfl (nI_1 _) (by decide) rfl (fun ls hl => ?_)
              refine lv_goto (tgt := 9) hx hb gX0_inView_5.2.1 (by decide) ?_
              exact ihP (kP + 1) bi _ (by omega) (lv_sub hl [0, 3, 4, 5] rfl)
            · refine lv_aload_n hx hb gX0_inView_3.2.2.2.2.1 rfl (lv_at5 hl) ?_
              refine gf_X0_20 hC rfl hK hP 0 rfl rfl gX0_inView_3.2.2.2.2.2.1 ?_
              refine lv_iload_n hx hb gX0_inView_3.2.2.2.2.2.2.1 rfl (lv_at2 hl) ?_
              refine lv_iconst (v := 3) hx hb gX0_inView_3.2.2.2.2.2.2.2.1 (by decide) ?_
              refine pV hC hK hl hP hD (c_T_at l G bpapers (nI kP) 3 12 6 bpapersc kbpapers fbpapers (hkbpapers) (by omega) (by omega)) si_X0_71 [1, 2] sm_1_2 fm_1_2 nd_1_2 rfl rfl rfl rfl rfl (Nat.le_of_ble_eq_true rfl) rm_3_1_3 ⟨by first | exact Nat.le_of_ble_eq_true rfl | exact Nat.zero_le _, by first | exact Nat.le_of_ble_eq_true rfl | exact Nat.zero_le _⟩ gX0_inView_3.2.2.2.2.2.2.2.2.1 (fun r81 hr81 => ?_)
              refine lv_aload_n hx hb gX0_inView_3.2.2.2.2.2.2.2.2.2 rfl (lv_at5 hl) ?_
              refine gf_X0_54 hC rfl hK hP 0 rfl rfl gX0_inView_4.1 ?_
              refine lv_icmp_gt (tgt := 89) hx hb gX0_inView_4.2.1 (by decide) (fun c_75_83 => ?_) (fun c_75_83 => ?_)
              · refine lv_iinc (v := nI (kP + 1)) (lv' := [(3, .int (nI (kP + 1))), (5, .int 0), (4, .int r68), (2, .int vd), (1, .int bi), (0, .ref h0)]) hx hb gX0_inView_5.1 hl (k := 2) rfl (nI_1 _) (by decide) rfl (fun ls hl => ?_)
                refine lv_goto (tgt := 9) hx hb gX0_inView_5.2.1 (by decide) ?_
                exact ihP (kP + 1) bi _ (by omega) (lv_sub hl [0, 3, 4, 5] rfl)
              · refine lv_iload hx hb gX0_inView_4.2.2.1 (lv_at0 hl) ?_
                refine lv_if_ne (tgt := 89) hx hb gX0_inView_4.2.2.2.1 (by decide) (fun c9 => absurd (by decide) c9) (fun _ => ?_)
                refine lv_iload_n hx hb gX0_inView_4.2.2.2.2.1 rfl (lv_at4 hl) ?_
                refine lv_iconst (v := 1) hx hb gX0_inView_4.2.2.2.2.2.1 (by decide) ?_
                refine lv_iload_n hx hb gX0_inView_4.2.2.2.2.2.2.1 rfl (lv_at2 hl) ?_
                refine lv_ishl hx hb gX0_inView_4.2.2.2.2.2.2.2.1 ?_
                refine lv_ior hx hb gX0_inView_4.2.2.2.2.2.2.2.2.1 ?_
                refine lv_istore_n (lv' := [(1, .int (bi ||| (1 <<< ((nI kP) &&& 31)))), (5, .int 0), (4, .int r68), (3, .int (nI kP)), (2, .int vd), (0, .ref h0)]) hx hb gX0_inView_4.2.2.2.2.2.2.2.2.2 rfl hl (by decide) rfl (fun ls hl => ?_)
                refine lv_iinc (v := nI (kP + 1)) (lv' := [(3, .int (nI (kP + 1))), (1, .int (bi ||| (1 <<< ((nI kP) &&& 31)))), (5, .int 0), (4, .int r68), (2, .int vd), (0, .ref h0)]) hx hb gX0_inView_5.1 hl (k := 3) rfl (nI_1 _) (by decide) rfl (fun ls hl => ?_)
                refine lv_goto (tgt := 9) hx hb gX0_inView_5.2.1 (by decide) ?_
                exact ihP (kP + 1) (bi ||| (1 <<< ((nI kP) &&& 31))) _ (by omega) (lv_sub hl [0, 4, 1, 5] rfl)
          · refine lv_iconst (v := 1) hx hb gX0_inView_2.2.2.2.1 (by decide) ?_
            refine lv_goto (tgt := 47) hx hb gX0_inView_2.2.2.2.2.1 (by decide) ?_
            refine lv_istore (lv' := [(5, .int 1), (4, .int r68), (3, .int (nI kP)), (2, .int vd), (1, .int bi), (0, .ref h0)]) hx hb gX0_inView_2.2.2.2.2.2.2.1 hl (by decide) rfl (fun ls hl => ?_)
            refine lv_aload_n hx hb gX0_inView_2.2.2.2.2.2.2.2.1 rfl (lv_at5 hl) ?_
            refine gf_X0_20 hC rfl hK hP 0 rfl rfl gX0_inView_2.2.2.2.2.2.2.2.2.1 ?_
            refine lv_iload_n hx hb gX0_inView_2.2.2.2.2.2.2.2.2.2 rfl (lv_at2 hl) ?_
            refine lv_iconst (v := 4) hx hb gX0_inView_3.1 (by decide) ?_
            refine pV hC hK hl hP hD (c_T_at l G bpapers (nI kP) 4 12 6 bpapersc kbpapers fbpapers (hkbpapers) (by omega) (by omega)) si_X0_71 [1, 2] sm_1_2 fm_1_2 nd_1_2 rfl rfl rfl rfl rfl (Nat.le_of_ble_eq_true rfl) rm_3_1_3 ⟨by first | exact Nat.le_of_ble_eq_true rfl | exact Nat.zero_le _, by first | exact Nat.le_of_ble_eq_true rfl | exact Nat.zero_le _⟩ gX0_inView_3.2.1 (fun r84 hr84 => ?_)
            refine lv_iload_n hx hb gX0_inView_3.2.2.1 rfl (lv_at3 hl) ?_
            refine lv_icmp_gt (tgt := 89) hx hb gX0_inView_3.2.2.2.1 (by decide) (fun c_59_86 => ?_) (fun c_59_86 => ?_)
            · refine lv_iinc (v := nI (kP + 1)) (lv' := [(3, .int (nI (kP + 1))), (5, .int 1), (4, .int r68), (2, .int vd), (1, .int bi), (0, .ref h0)]) hx hb gX0_inView_5.1 hl (k := 2) rfl (nI_1 _) (by decide) rfl (fun ls hl => ?_)
              refine lv_goto (tgt := 9) hx hb gX0_inView_5.2.1 (by decide) ?_
              exact ihP (kP + 1) bi _ (by omega) (lv_sub hl [0, 3, 4, 5] rfl)
            · refine lv_aload_n hx hb gX0_inView_3.2.2.2.2.1 rfl (lv_at5 hl) ?_
              refine gf_X0_20 hC rfl hK hP 0 rfl rfl gX0_inView_3.2.2.2.2.2.1 ?_
              refine lv_iload_n hx hb gX0_inView_3.2.2.2.2.2.2.1 rfl (lv_at2 hl) ?_
              refine lv_iconst (v := 3) hx hb gX0_inView_3.2.2.2.2.2.2.2.1 (by decide) ?_
              refine pV hC hK hl hP hD (c_T_at l G bpapers (nI kP) 3 12 6 bpapersc kbpapers fbpapers (hkbpapers) (by omega) (by omega)) si_X0_71 [1, 2] sm_1_2 fm_1_2 nd_1_2 rfl rfl rfl rfl rfl (Nat.le_of_ble_eq_true rfl) rm_3_1_3 ⟨by first | exact Nat.le_of_ble_eq_true rfl | exact Nat.zero_le _, by first | exact Nat.le_of_ble_eq_true rfl | exact Nat.zero_le _⟩ gX0_inView_3.2.2.2.2.2.2.2.2.1 (fun r87 hr87 => ?_)
              refine lv_aload_n hx hb gX0_inView_3.2.2.2.2.2.2.2.2.2 rfl (lv_at5 hl) ?_
              refine gf_X0_54 hC rfl hK hP 0 rfl rfl gX0_inView_4.1 ?_
              refine lv_icmp_gt (tgt := 89) hx hb gX0_inView_4.2.1 (by decide) (fun c_75_89 => ?_) (fun c_75_89 => ?_)
              · refine lv_iinc (v := nI (kP + 1)) (lv' := [(3, .int (nI (kP + 1))), (5, .int 1), (4, .int r68), (2, .int vd), (1, .int bi), (0, .ref h0)]) hx hb gX0_inView_5.1 hl (k := 2) rfl (nI_1 _) (by decide) rfl (fun ls hl => ?_)
                refine lv_goto (tgt := 9) hx hb gX0_inView_5.2.1 (by decide) ?_
                exact ihP (kP + 1) bi _ (by omega) (lv_sub hl [0, 3, 4, 5] rfl)
              · refine lv_iload hx hb gX0_inView_4.2.2.1 (lv_at0 hl) ?_
                refine lv_if_ne (tgt := 89) hx hb gX0_inView_4.2.2.2.1 (by decide) (fun _ => ?_) (fun c9 => absurd c9 (by decide))
                refine lv_iinc (v := nI (kP + 1)) (lv' := [(3, .int (nI (kP + 1))), (5, .int 1), (4, .int r68), (2, .int vd), (1, .int bi), (0, .ref h0)]) hx hb gX0_inView_5.1 hl (k := 2) rfl (nI_1 _) (by decide) rfl (fun ls hl => ?_)
                refine lv_goto (tgt := 9) hx hb gX0_inView_5.2.1 (by decide) ?_
                exact ihP (kP + 1) bi _ (by omega) (lv_sub hl [0, 3, 4, 5] rfl)
    exact keyP kbpapers 0 0 _ (by omega) (lv_sub hl [0, 1, 2, 3] rfl)
def K_c_countTo (l : Launch) (G : GG) (h0 : Nat) (pe : Int32) (se : Int32) (bpersons : Nat) (bpapers : Nat) (bstamps : Nat) (bversions : Nat) (blines : Nat) (bsteps : Nat) (bsayings : Nat) (bfindings : Nat) (bwarnings : Nat) (bquestions : Nat) (td : Int32) (vd : Int32) (vl : Int32) (gp : Int32) (bpapersc : Nat) (kbpapers : Nat) (fbpapers : Nat → Int32) : Prop := MP l G yX0_countTo cX0_countTo 5 (some .int) 3 [.ref h0, .int pe, .int se] [(h0, oX0 bpersons bpapers bstamps bversions blines bsteps bsayings bfindings bwarnings bquestions td vd vl gp), (bpapers, oX8 12 6 bpapersc (nI kbpapers)), (bpapersc, iA G 72 fbpapers)] (fun r : Int32 => True)
set_option maxHeartbeats 4000000 in
set_option maxRecDepth 100000 in
theorem c_countTo (l : Launch) (G : GG) (h0 : Nat) (pe : Int32) (se : Int32) (bpersons : Nat) (bpapers : Nat) (bstamps : Nat) (bversions : Nat) (blines : Nat) (bsteps : Nat) (bsayings : Nat) (bfindings : Nat) (bwarnings : Nat) (bquestions : Nat) (td : Int32) (vd : Int32) (vl : Int32) (gp : Int32) (bpapersc : Nat) (kbpapers : Nat) (fbpapers : Nat → Int32) (hkbpapers : kbpapers ≤ 12) : K_c_countTo l G h0 pe se bpersons bpapers bstamps bversions blines bsteps bsayings bfindings bwarnings bquestions td vd vl gp bpapersc kbpapers fbpapers := by
  refine MP.start (by decide +kernel) (Nat.le_of_ble_eq_true rfl) ?_
  intro p e s m below meth c ls hC hK hP hD hl
  refine absQ (fun Q0 hQ0 => ?_)
  have hl : lv_has ls 5 [(0, .ref h0), (1, .int pe), (2, .int se)] := hl
  refine Kan8 hC (fun hx hb hr hml hB hown hlocks hnm => ?_)
  refine lv_iconst (v := 0) hx hb gX0_countTo_0.1 (by decide) ?_
  refine lv_istore_n (lv' := [(3, .int 0), (0, .ref h0), (1, .int pe), (2, .int se)]) hx hb gX0_countTo_0.2.1 rfl hl (by decide) rfl (fun ls hl => ?_)
  refine lv_iconst (v := 0) hx hb gX0_countTo_0.2.2.1 (by decide) ?_
  refine lv_istore (lv' := [(4, .int 0), (3, .int 0), (0, .ref h0), (1, .int pe), (2, .int se)]) hx hb gX0_countTo_0.2.2.2.1 hl (by decide) rfl (fun ls hl => ?_)
  have keyP : ∀ (nP kP : Nat) (cn : Int32) (ls : Array Slot), kP + nP = kbpapers → lv_has ls 5 [(4, .int (nI kP)), (3, .int cn), (0, .ref h0), (1, .int pe), (2, .int se)] → W p l e (RM 3 0 0) s m ([.ref h0, .int pe, .int se] : List Value).toArray below meth c s.heap [] 0 0 Q0 (F0 m 5 ls []) := by
    intro nP
    induction nP with
    | zero =>
      intro kP cn ls hkP hl
      obtain rfl : kbpapers = kP := by omega
      have hl : lv_has ls 5 [(4, .int (nI kbpapers)), (3, .int cn), (0, .ref h0), (1, .int pe), (2, .int se)] := hl
      refine lv_iload hx hb gX0_countTo_0.2.2.2.2.1 (lv_at0 hl) ?_
      refine lv_aload_n hx hb gX0_countTo_0.2.2.2.2.2.1 rfl (lv_at2 hl) ?_
      refine gf_X0_20 hC rfl hK hP 0 rfl rfl gX0_countTo_0.2.2.2.2.2.2.1 ?_
      refine pV hC hK hl hP hD (c_T_count l G bpapers 12 6 bpapersc kbpapers) si_X0_68 [1] sm_1 fm_1 nd_1 rfl rfl rfl rfl rfl (Nat.le_of_ble_eq_true rfl) rm_3_1_1 ⟨by first | exact Nat.le_of_ble_eq_true rfl | exact Nat.zero_le _, by first | exact Nat.le_of_ble_eq_true rfl | exact Nat.zero_le _⟩ gX0_countTo_0.2.2.2.2.2.2.2.1 (Keqr ?_)
      refine lv_icmp_ge (tgt := 52) hx hb gX0_countTo_0.2.2.2.2.2.2.2.2.1 (by decide) (fun _ => ?_) (fun c9 => absurd (Int32.le_refl _) c9)
      refine lv_iload_n hx hb gX0_countTo_2.2.2.2.2.1 rfl (lv_at1 hl) ?_
      refine toQ hQ0 ?_
      exact RP (v := cn) hC (trivial) rfl gX0_countTo_2.2.2.2.2.2
    | succ nP ihP =>
      intro kP cn ls hkP hl
      refine lv_iload hx hb gX0_countTo_0.2.2.2.2.1 (lv_at0 hl) ?_
      refine lv_aload_n hx hb gX0_countTo_0.2.2.2.2.2.1 rfl (lv_at2 hl) ?_
      refine gf_X0_20 hC rfl hK hP 0 rfl rfl gX0_countTo_0.2.2.2.2.2.2.1 ?_
      refine pV hC hK hl hP hD (c_T_count l G bpapers 12 6 bpapersc kbpapers) si_X0_68 [1] sm_1 fm_1 nd_1 rfl rfl rfl rfl rfl (Nat.le_of_ble_eq_true rfl) rm_3_1_1 ⟨by first | exact Nat.le_of_ble_eq_true rfl | exact Nat.zero_le _, by first | exact Nat.le_of_ble_eq_true rfl | exact Nat.zero_le _⟩ gX0_countTo_0.2.2.2.2.2.2.2.1 (Keqr ?_)
      refine lv_icmp_ge (tgt := 52) hx hb gX0_countTo_0.2.2.2.2.2.2.2.2.1 (by decide) (fun c9 => absurd c9 (nI_ge (a := kP) (b := kbpapers) (by omega) (by omega))) (fun _ => ?_)
      refine lv_iload_n hx hb gX0_countTo_0.2.2.2.2.2.2.2.2.2 rfl (lv_at4 hl) ?_
      refine lv_iload hx hb gX0_countTo_1.1 (lv_at0 hl) ?_
      refine pSN hC hK hl (c_hasBit l G se (nI kP)) si_X0_75 rfl rfl (Nat.le_of_ble_eq_true rfl) rm_3_1_2 ⟨by first | exact Nat.le_of_ble_eq_true rfl | exact Nat.zero_le _, by first | exact Nat.le_of_ble_eq_true rfl | exact Nat.zero_le _⟩ gX0_countTo_1.2.1 (Kors (Keqa fun a95 => ?_) (Keqa fun a95 => ?_))
      · refine lv_if_eq (tgt := 46) hx hb gX0_countTo_1.2.2.1 (by decide) (fun c9 => absurd c9 (by decide)) (fun _ => ?_)
        refine lv_aload_n hx hb gX0_countTo_1.2.2.2.1 rfl (lv_at2 hl) ?_
        refine gf_X0_20 hC rfl hK hP 0 rfl rfl gX0_countTo_1.2.2.2.2.1 ?_
        refine lv_iload hx hb gX0_countTo_1.2.2.2.2.2.1 (lv_at0 hl) ?_
        refine lv_iconst (v := 1) hx hb gX0_countTo_1.2.2.2.2.2.2.1 (by decide) ?_
        refine pV hC hK hl hP hD (c_T_at l G bpapers (nI kP) 1 12 6 bpapersc kbpapers fbpapers (hkbpapers) (by omega) (by omega)) si_X0_71 [1, 2] sm_1_2 fm_1_2 nd_1_2 rfl rfl rfl rfl rfl (Nat.le_of_ble_eq_true rfl) rm_3_1_3 ⟨by first | exact Nat.le_of_ble_eq_true rfl | exact Nat.zero_le _, by first | exact Nat.le_of_ble_eq_true rfl | exact Nat.zero_le _⟩ gX0_countTo_1.2.2.2.2.2.2.2.1 (fun r96 hr96 => ?_)
        refine lv_iload_n hx hb gX0_countTo_1.2.2.2.2.2.2.2.2.1 rfl (lv_at3 hl) ?_
        refine pSN hC hK hl (c_hasBit l G r96 pe) si_X0_75 rfl rfl (Nat.le_of_ble_eq_true rfl) rm_3_1_2 ⟨by first | exact Nat.le_of_ble_eq_true rfl | exact Nat.zero_le _, by first | exact Nat.le_of_ble_eq_true rfl | exact Nat.zero_le _⟩ gX0_countTo_1.2.2.2.2.2.2.2.2.2 (Kors (Keqa fun a99 => ?_) (Keqa fun a99 => ?_))
        · refine lv_if_eq (tgt := 46) hx hb gX0_countTo_2.1 (by decide) (fun c9 => absurd c9 (by decide)) (fun _ => ?_)
          refine lv_iinc (v := cn + 1) (lv' := [(3, .int (cn + 1)), (4, .int (nI kP)), (0, .ref h0), (1, .int pe), (2, .int se)]) hx hb gX0_countTo_2.2.1 hl (k := 1) rfl (rfl) (by decide) rfl (fun ls hl => ?_)
          refine lv_iinc (v := nI (kP + 1)) (lv' := [(4, .int (nI (kP + 1))), (3, .int (cn + 1)), (0, .ref h0), (1, .int pe), (2, .int se)]) hx hb gX0_countTo_2.2.2.1 hl (k := 1) rfl (nI_1 _) (by decide) rfl (fun ls hl => ?_)
          refine lv_goto (tgt := 5) hx hb gX0_countTo_2.2.2.2.1 (by decide) ?_
          exact ihP (kP + 1) (cn + 1) _ (by omega) (lv_sub hl [0, 1, 2, 3, 4] rfl)
        · refine lv_if_eq (tgt := 46) hx hb gX0_countTo_2.1 (by decide) (fun _ => ?_) (fun c9 => absurd (by decide) c9)
          refine lv_iinc (v := nI (kP + 1)) (lv' := [(4, .int (nI (kP + 1))), (3, .int cn), (0, .ref h0), (1, .int pe), (2, .int se)]) hx hb gX0_countTo_2.2.2.1 hl (k := 0) rfl (nI_1 _) (by decide) rfl (fun ls hl => ?_)
          refine lv_goto (tgt := 5) hx hb gX0_countTo_2.2.2.2.1 (by decide) ?_
          exact ihP (kP + 1) cn _ (by omega) (lv_sub hl [0, 1, 2, 3, 4] rfl)
      · refine lv_if_eq (tgt := 46) hx hb gX0_countTo_1.2.2.1 (by decide) (fun _ => ?_) (fun c9 => absurd (by decide) c9)
        refine lv_iinc (v := nI (kP + 1)) (lv' := [(4, .int (nI (kP + 1))), (3, .int cn), (0, .ref h0), (1, .int pe), (2, .int se)]) hx hb gX0_countTo_2.2.2.1 hl (k := 0) rfl (nI_1 _) (by decide) rfl (fun ls hl => ?_)
        refine lv_goto (tgt := 5) hx hb gX0_countTo_2.2.2.2.1 (by decide) ?_
        exact ihP (kP + 1) cn _ (by omega) (lv_sub hl [0, 1, 2, 3, 4] rfl)
  exact keyP kbpapers 0 0 _ (by omega) (lv_sub hl [0, 1, 2, 3, 4] rfl)
def K_c_countBy (l : Launch) (G : GG) (h0 : Nat) (pe : Int32) (se : Int32) (bpersons : Nat) (bpapers : Nat) (bstamps : Nat) (bversions : Nat) (blines : Nat) (bsteps : Nat) (bsayings : Nat) (bfindings : Nat) (bwarnings : Nat) (bquestions : Nat) (td : Int32) (vd : Int32) (vl : Int32) (gp : Int32) (bpapersc : Nat) (kbpapers : Nat) (fbpapers : Nat → Int32) : Prop := MP l G yX0_countBy cX0_countBy 5 (some .int) 3 [.ref h0, .int pe, .int se] [(h0, oX0 bpersons bpapers bstamps bversions blines bsteps bsayings bfindings bwarnings bquestions td vd vl gp), (bpapers, oX8 12 6 bpapersc (nI kbpapers)), (bpapersc, iA G 72 fbpapers)] (fun r : Int32 => True)
set_option maxHeartbeats 4000000 in
set_option maxRecDepth 100000 in
theorem c_countBy (l : Launch) (G : GG) (h0 : Nat) (pe : Int32) (se : Int32) (bpersons : Nat) (bpapers : Nat) (bstamps : Nat) (bversions : Nat) (blines : Nat) (bsteps : Nat) (bsayings : Nat) (bfindings : Nat) (bwarnings : Nat) (bquestions : Nat) (td : Int32) (vd : Int32) (vl : Int32) (gp : Int32) (bpapersc : Nat) (kbpapers : Nat) (fbpapers : Nat → Int32) (hkbpapers : kbpapers ≤ 12) : K_c_countBy l G h0 pe se bpersons bpapers bstamps bversions blines bsteps bsayings bfindings bwarnings bquestions td vd vl gp bpapersc kbpapers fbpapers := by
  refine MP.start (by decide +kernel) (Nat.le_of_ble_eq_true rfl) ?_
  intro p e s m below meth c ls hC hK hP hD hl
  refine absQ (fun Q0 hQ0 => ?_)
  have hl : lv_has ls 5 [(0, .ref h0), (1, .int pe), (2, .int se)] := hl
  refine Kan8 hC (fun hx hb hr hml hB hown hlocks hnm => ?_)
  refine lv_iconst (v := 0) hx hb gX0_countBy_0.1 (by decide) ?_
  refine lv_istore_n (lv' := [(3, .int 0), (0, .ref h0), (1, .int pe), (2, .int se)]) hx hb gX0_countBy_0.2.1 rfl hl (by decide) rfl (fun ls hl => ?_)
  refine lv_iconst (v := 0) hx hb gX0_countBy_0.2.2.1 (by decide) ?_
  refine lv_istore (lv' := [(4, .int 0), (3, .int 0), (0, .ref h0), (1, .int pe), (2, .int se)]) hx hb gX0_countBy_0.2.2.2.1 hl (by decide) rfl (fun ls hl => ?_)
  have keyP : ∀ (nP kP : Nat) (cn : Int32) (ls : Array Slot), kP + nP = kbpapers → lv_has ls 5 [(4, .int (nI kP)), (3, .int cn), (0, .ref h0), (1, .int pe), (2, .int se)] → W p l e (RM 3 0 0) s m ([.ref h0, .int pe, .int se] : List Value).toArray below meth c s.heap [] 0 0 Q0 (F0 m 5 ls []) := by
    intro nP
    induction nP with
    | zero =>
      intro kP cn ls hkP hl
      obtain rfl : kbpapers = kP := by omega
      have hl : lv_has ls 5 [(4, .int (nI kbpapers)), (3, .int cn), (0, .ref h0), (1, .int pe), (2, .int se)] := hl
      refine lv_iload hx hb gX0_countBy_0.2.2.2.2.1 (lv_at0 hl) ?_
      refine lv_aload_n hx hb gX0_countBy_0.2.2.2.2.2.1 rfl (lv_at2 hl) ?_
      refine gf_X0_20 hC rfl hK hP 0 rfl rfl gX0_countBy_0.2.2.2.2.2.2.1 ?_
      refine pV hC hK hl hP hD (c_T_count l G bpapers 12 6 bpapersc kbpapers) si_X0_68 [1] sm_1 fm_1 nd_1 rfl rfl rfl rfl rfl (Nat.le_of_ble_eq_true rfl) rm_3_1_1 ⟨by first | exact Nat.le_of_ble_eq_true rfl | exact Nat.zero_le _, by first | exact Nat.le_of_ble_eq_true rfl | exact Nat.zero_le _⟩ gX0_countBy_0.2.2.2.2.2.2.2.1 (Keqr ?_)
      refine lv_icmp_ge (tgt := 49) hx hb gX0_countBy_0.2.2.2.2.2.2.2.2.1 (by decide) (fun _ => ?_) (fun c9 => absurd (Int32.le_refl _) c9)
      refine lv_iload_n hx hb gX0_countBy_2.2.2.2.1 rfl (lv_at1 hl) ?_
      refine toQ hQ0 ?_
      exact RP (v := cn) hC (trivial) rfl gX0_countBy_2.2.2.2.2
    | succ nP ihP =>
      intro kP cn ls hkP hl
      refine lv_iload hx hb gX0_countBy_0.2.2.2.2.1 (lv_at0 hl) ?_
      refine lv_aload_n hx hb gX0_countBy_0.2.2.2.2.2.1 rfl (lv_at2 hl) ?_
      refine gf_X0_20 hC rfl hK hP 0 rfl rfl gX0_countBy_0.2.2.2.2.2.2.1 ?_
      refine pV hC hK hl hP hD (c_T_count l G bpapers 12 6 bpapersc kbpapers) si_X0_68 [1] sm_1 fm_1 nd_1 rfl rfl rfl rfl rfl (Nat.le_of_ble_eq_true rfl) rm_3_1_1 ⟨by first | exact Nat.le_of_ble_eq_true rfl | exact Nat.zero_le _, by first | exact Nat.le_of_ble_eq_true rfl | exact Nat.zero_le _⟩ gX0_countBy_0.2.2.2.2.2.2.2.1 (Keqr ?_)
      refine lv_icmp_ge (tgt := 49) hx hb gX0_countBy_0.2.2.2.2.2.2.2.2.1 (by decide) (fun c9 => absurd c9 (nI_ge (a := kP) (b := kbpapers) (by omega) (by omega))) (fun _ => ?_)
      refine lv_iload_n hx hb gX0_countBy_0.2.2.2.2.2.2.2.2.2 rfl (lv_at4 hl) ?_
      refine lv_iload hx hb gX0_countBy_1.1 (lv_at0 hl) ?_
      refine pSN hC hK hl (c_hasBit l G se (nI kP)) si_X0_75 rfl rfl (Nat.le_of_ble_eq_true rfl) rm_3_1_2 ⟨by first | exact Nat.le_of_ble_eq_true rfl | exact Nat.zero_le _, by first | exact Nat.le_of_ble_eq_true rfl | exact Nat.zero_le _⟩ gX0_countBy_1.2.1 (Kors (Keqa fun a105 => ?_) (Keqa fun a105 => ?_))
      · refine lv_if_eq (tgt := 43) hx hb gX0_countBy_1.2.2.1 (by decide) (fun c9 => absurd c9 (by decide)) (fun _ => ?_)
        refine lv_aload_n hx hb gX0_countBy_1.2.2.2.1 rfl (lv_at2 hl) ?_
        refine gf_X0_20 hC rfl hK hP 0 rfl rfl gX0_countBy_1.2.2.2.2.1 ?_
        refine lv_iload hx hb gX0_countBy_1.2.2.2.2.2.1 (lv_at0 hl) ?_
        refine lv_iconst (v := 0) hx hb gX0_countBy_1.2.2.2.2.2.2.1 (by decide) ?_
        refine pV hC hK hl hP hD (c_T_at l G bpapers (nI kP) 0 12 6 bpapersc kbpapers fbpapers (hkbpapers) (by omega) (by omega)) si_X0_71 [1, 2] sm_1_2 fm_1_2 nd_1_2 rfl rfl rfl rfl rfl (Nat.le_of_ble_eq_true rfl) rm_3_1_3 ⟨by first | exact Nat.le_of_ble_eq_true rfl | exact Nat.zero_le _, by first | exact Nat.le_of_ble_eq_true rfl | exact Nat.zero_le _⟩ gX0_countBy_1.2.2.2.2.2.2.2.1 (fun r106 hr106 => ?_)
        refine lv_iload_n hx hb gX0_countBy_1.2.2.2.2.2.2.2.2.1 rfl (lv_at3 hl) ?_
        refine lv_icmp_ne (tgt := 43) hx hb gX0_countBy_1.2.2.2.2.2.2.2.2.2 (by decide) (fun c_37_108 => ?_) (fun c_37_108 => ?_)
        · refine lv_iinc (v := nI (kP + 1)) (lv' := [(4, .int (nI (kP + 1))), (3, .int cn), (0, .ref h0), (1, .int pe), (2, .int se)]) hx hb gX0_countBy_2.2.1 hl (k := 0) rfl (nI_1 _) (by decide) rfl (fun ls hl => ?_)
          refine lv_goto (tgt := 5) hx hb gX0_countBy_2.2.2.1 (by decide) ?_
          exact ihP (kP + 1) cn _ (by omega) (lv_sub hl [0, 1, 2, 3, 4] rfl)
        · refine lv_iinc (v := cn + 1) (lv' := [(3, .int (cn + 1)), (4, .int (nI kP)), (0, .ref h0), (1, .int pe), (2, .int se)]) hx hb gX0_countBy_2.1 hl (k := 1) rfl (rfl) (by decide) rfl (fun ls hl => ?_)
          refine lv_iinc (v := nI (kP + 1)) (lv' := [(4, .int (nI (kP + 1))), (3, .int (cn + 1)), (0, .ref h0), (1, .int pe), (2, .int se)]) hx hb gX0_countBy_2.2.1 hl (k := 1) rfl (nI_1 _) (by decide) rfl (fun ls hl => ?_)
          refine lv_goto (tgt := 5) hx hb gX0_countBy_2.2.2.1 (by decide) ?_
          exact ihP (kP + 1) (cn + 1) _ (by omega) (lv_sub hl [0, 1, 2, 3, 4] rfl)
      · refine lv_if_eq (tgt := 43) hx hb gX0_countBy_1.2.2.1 (by decide) (fun _ => ?_) (fun c9 => absurd (by decide) c9)
        refine lv_iinc (v := nI (kP + 1)) (lv' := [(4, .int (nI (kP + 1))), (3, .int cn), (0, .ref h0), (1, .int pe), (2, .int se)]) hx hb gX0_countBy_2.2.1 hl (k := 0) rfl (nI_1 _) (by decide) rfl (fun ls hl => ?_)
        refine lv_goto (tgt := 5) hx hb gX0_countBy_2.2.2.1 (by decide) ?_
        exact ihP (kP + 1) cn _ (by omega) (lv_sub hl [0, 1, 2, 3, 4] rfl)
  exact keyP kbpapers 0 0 _ (by omega) (lv_sub hl [0, 1, 2, 3, 4] rfl)
def K_c_addStamp (l : Launch) (G : GG) (h0 : Nat) (pa : Int32) (ck : Int32) (hh : Int32) (bpersons : Nat) (bpapers : Nat) (bstamps : Nat) (bversions : Nat) (blines : Nat) (bsteps : Nat) (bsayings : Nat) (bfindings : Nat) (bwarnings : Nat) (bquestions : Nat) (td : Int32) (vd : Int32) (vl : Int32) (gp : Int32) (bstampsc : Nat) (kbstamps : Nat) (fbstamps : Nat → Int32) : Prop := MI l G yX0_addStamp cX0_addStamp 5 (some .int) 3 0 0 [.ref h0, .int pa, .int ck, .int hh] [(h0, oX0 bpersons bpapers bstamps bversions blines bsteps bsayings bfindings bwarnings bquestions td vd vl gp), (bstamps, oX8 24 3 bstampsc (nI kbstamps)), (bstampsc, iA G 72 fbstamps)] (fun (r : Int32) (u : (Nat → Int32)) => (r = nI kbstamps)) (fun u : (Nat → Int32) => [(h0, oX0 bpersons bpapers bstamps bversions blines bsteps bsayings bfindings bwarnings bquestions td vd vl gp), (bstamps, oX8 24 3 bstampsc (nI (kbstamps + 1))), (bstampsc, iA G 72 u)])
set_option maxHeartbeats 4000000 in
set_option maxRecDepth 100000 in
theorem c_addStamp (l : Launch) (G : GG) (h0 : Nat) (pa : Int32) (ck : Int32) (hh : Int32) (bpersons : Nat) (bpapers : Nat) (bstamps : Nat) (bversions : Nat) (blines : Nat) (bsteps : Nat) (bsayings : Nat) (bfindings : Nat) (bwarnings : Nat) (bquestions : Nat) (td : Int32) (vd : Int32) (vl : Int32) (gp : Int32) (bstampsc : Nat) (kbstamps : Nat) (fbstamps : Nat → Int32) (hks : kbstamps < 24) : K_c_addStamp l G h0 pa ck hh bpersons bpapers bstamps bversions blines bsteps bsayings bfindings bwarnings bquestions td vd vl gp bstampsc kbstamps fbstamps := by
  refine MI.start (by decide +kernel) (Nat.le_of_ble_eq_true rfl) ?_
  intro p e s m below meth c A ls hC hK hP hD hS hA hl
  refine absQ (fun Q0 hQ0 => ?_)
  have hl : lv_has ls 5 [(0, .ref h0), (1, .int pa), (2, .int ck), (3, .int hh)] := hl
  refine Kan8 hC (fun hx hb hr hml hB hown hlocks hnm => ?_)
  refine lv_aload_n hx hb gX0_addStamp_0.1 rfl (lv_at0 hl) ?_
  refine gf_X0_23 hC rfl hK hP 0 rfl rfl gX0_addStamp_0.2.1 ?_
  refine iV (wr := [(h0, oX0 bpersons bpapers bstamps bversions blines bsteps bsayings bfindings bwarnings bquestions td vd vl gp), (bstampsc, iA G 72 fbstamps)]) hC hK hl hP hD hS hA (c_T_append l G bstamps 24 3 bstampsc kbstamps (hks) (by omega)) si_X0_79 [1] [0, 2] sm_1 fm_1 nd_1 sm_0_2 nd_0_2 dj_1__0_2 rfl rfl rfl rfl rfl (Nat.le_of_ble_eq_true rfl) rm_3_1_1 ⟨Nat.le_of_ble_eq_true rfl, Nat.le_of_ble_eq_true rfl⟩ gX0_addStamp_0.2.2.1 (fun r109 u110 H locs hr109 hP hD hS => ?_)
  refine Kpdr (ws := [(h0, oX0 bpersons bpapers bstamps bversions blines bsteps bsayings bfindings bwarnings bquestions td vd vl gp), (bstampsc, iA G 72 fbstamps), (bstamps, oX8 24 3 bstampsc (nI (kbstamps + 1)))]) hP hD (fun hP hD => ?_)
  obtain rfl := hr109
  refine lv_istore (lv' := [(4, .int (nI kbstamps)), (0, .ref h0), (1, .int pa), (2, .int ck), (3, .int hh)]) hx hb gX0_addStamp_0.2.2.2.1 hl (by decide) rfl (fun ls hl => ?_)
  refine lv_aload_n hx hb gX0_addStamp_0.2.2.2.2.1 rfl (lv_at1 hl) ?_
  refine gf_X0_23 hC rfl hK hP 0 rfl rfl gX0_addStamp_0.2.2.2.2.2.1 ?_
  refine lv_iload hx hb gX0_addStamp_0.2.2.2.2.2.2.1 (lv_at0 hl) ?_
  refine lv_iconst (v := 0) hx hb gX0_addStamp_0.2.2.2.2.2.2.2.1 (by decide) ?_
  refine lv_iload_n hx hb gX0_addStamp_0.2.2.2.2.2.2.2.2.1 rfl (lv_at2 hl) ?_
  refine vV (wr := [(h0, oX0 bpersons bpapers bstamps bversions blines bsteps bsayings bfindings bwarnings bquestions td vd vl gp)]) hC hK hl hP hD hS hA (c_T_set l G bstamps (nI kbstamps) 0 pa 24 3 bstampsc (kbstamps + 1) fbstamps (by omega) (by omega) (by omega)) si_X0_82 [2, 1] [0] sm_2_1 fm_2_1 nd_2_1 sm_0 nd_0 dj_2_1__0 rfl rfl rfl rfl rfl (Nat.le_of_ble_eq_true rfl) rm_3_1_4 ⟨Nat.le_of_ble_eq_true rfl, Nat.le_of_ble_eq_true rfl⟩ gX0_addStamp_0.2.2.2.2.2.2.2.2.2 (fun f1114 H locs hr112 hP hD hS => ?_)
  try dsimp only at hr112
  refine Kpdr (ws := [(h0, oX0 bpersons bpapers bstamps bversions blines bsteps bsayings bfindings bwarnings bquestions td vd vl gp), (bstamps, oX8 24 3 bstampsc (nI (kbstamps + 1))), (bstampsc, iA G 72 f1114)]) hP hD (fun hP hD => ?_)
  have w115 := hr112
  refine lv_aload_n hx hb gX0_addStamp_1.1 rfl (lv_at1 hl) ?_
  refine gf_X0_23 hC rfl hK hP 0 rfl rfl gX0_addStamp_1.2.1 ?_
  refine lv_iload hx hb gX0_addStamp_1.2.2.1 (lv_at0 hl) ?_
  refine lv_iconst (v := 1) hx hb gX0_addStamp_1.2.2.2.1 (by decide) ?_
  refine lv_iload_n hx hb gX0_addStamp_1.2.2.2.2.1 rfl (lv_at3 hl) ?_
  refine vV (wr := [(h0, oX0 bpersons bpapers bstamps bversions blines bsteps bsayings bfindings bwarnings bquestions td vd vl gp)]) hC hK hl hP hD hS hA (c_T_set l G bstamps (nI kbstamps) 1 ck 24 3 bstampsc (kbstamps + 1) f1114 (by omega) (by omega) (by omega)) si_X0_82 [1, 2] [0] sm_1_2 fm_1_2 nd_1_2 sm_0 nd_0 dj_1_2__0 rfl rfl rfl rfl rfl (Nat.le_of_ble_eq_true rfl) rm_3_1_4 ⟨Nat.le_of_ble_eq_true rfl, Nat.le_of_ble_eq_true rfl⟩ gX0_addStamp_1.2.2.2.2.2.1 (fun f1118 H locs hr116 hP hD hS => ?_)
  try dsimp only at hr116
  refine Kpdr (ws := [(h0, oX0 bpersons bpapers bstamps bversions blines bsteps bsayings bfindings bwarnings bquestions td vd vl gp), (bstamps, oX8 24 3 bstampsc (nI (kbstamps + 1))), (bstampsc, iA G 72 f1118)]) hP hD (fun hP hD => ?_)
  have w119 := hr116
  refine lv_aload_n hx hb gX0_addStamp_1.2.2.2.2.2.2.1 rfl (lv_at1 hl) ?_
  refine gf_X0_23 hC rfl hK hP 0 rfl rfl gX0_addStamp_1.2.2.2.2.2.2.2.1 ?_
  refine lv_iload hx hb gX0_addStamp_1.2.2.2.2.2.2.2.2.1 (lv_at0 hl) ?_
  refine lv_iconst (v := 2) hx hb gX0_addStamp_1.2.2.2.2.2.2.2.2.2 (by decide) ?_
  refine lv_iload_n hx hb gX0_addStamp_2.1 rfl (lv_at4 hl) ?_
  refine vV (wr := [(h0, oX0 bpersons bpapers bstamps bversions blines bsteps bsayings bfindings bwarnings bquestions td vd vl gp)]) hC hK hl hP hD hS hA (c_T_set l G bstamps (nI kbstamps) 2 hh 24 3 bstampsc (kbstamps + 1) f1118 (by omega) (by omega) (by omega)) si_X0_82 [1, 2] [0] sm_1_2 fm_1_2 nd_1_2 sm_0 nd_0 dj_1_2__0 rfl rfl rfl rfl rfl (Nat.le_of_ble_eq_true rfl) rm_3_1_4 ⟨Nat.le_of_ble_eq_true rfl, Nat.le_of_ble_eq_true rfl⟩ gX0_addStamp_2.2.1 (fun f1122 H locs hr120 hP hD hS => ?_)
  try dsimp only at hr120
  refine Kpdr (ws := [(h0, oX0 bpersons bpapers bstamps bversions blines bsteps bsayings bfindings bwarnings bquestions td vd vl gp), (bstamps, oX8 24 3 bstampsc (nI (kbstamps + 1))), (bstampsc, iA G 72 f1122)]) hP hD (fun hP hD => ?_)
  have w123 := hr120
  refine lv_iload hx hb gX0_addStamp_2.2.2.1 (lv_at0 hl) ?_
  refine toQ hQ0 ?_
  exact RI (v := nI kbstamps) hC hP hD hS [0, 1, 2] f1122 rfl rfl (by decide) (rfl) rfl gX0_addStamp_2.2.2.2
def K_c_countStamps (l : Launch) (G : GG) (h0 : Nat) (pa : Int32) (bpersons : Nat) (bpapers : Nat) (bstamps : Nat) (bversions : Nat) (blines : Nat) (bsteps : Nat) (bsayings : Nat) (bfindings : Nat) (bwarnings : Nat) (bquestions : Nat) (td : Int32) (vd : Int32) (vl : Int32) (gp : Int32) (bstampsc : Nat) (kbstamps : Nat) (fbstamps : Nat → Int32) : Prop := MP l G yX0_countStamps cX0_countStamps 4 (some .int) 3 [.ref h0, .int pa] [(h0, oX0 bpersons bpapers bstamps bversions blines bsteps bsayings bfindings bwarnings bquestions td vd vl gp), (bstamps, oX8 24 3 bstampsc (nI kbstamps)), (bstampsc, iA G 72 fbstamps)] (fun r : Int32 => True)
set_option maxHeartbeats 4000000 in
set_option maxRecDepth 100000 in
theorem c_countStamps (l : Launch) (G : GG) (h0 : Nat) (pa : Int32) (bpersons : Nat) (bpapers : Nat) (bstamps : Nat) (bversions : Nat) (blines : Nat) (bsteps : Nat) (bsayings : Nat) (bfindings : Nat) (bwarnings : Nat) (bquestions : Nat) (td : Int32) (vd : Int32) (vl : Int32) (gp : Int32) (bstampsc : Nat) (kbstamps : Nat) (fbstamps : Nat → Int32) (hkbstamps : kbstamps ≤ 24) : K_c_countStamps l G h0 pa bpersons bpapers bstamps bversions blines bsteps bsayings bfindings bwarnings bquestions td vd vl gp bstampsc kbstamps fbstamps := by
  refine MP.start (by decide +kernel) (Nat.le_of_ble_eq_true rfl) ?_
  intro p e s m below meth c ls hC hK hP hD hl
  refine absQ (fun Q0 hQ0 => ?_)
  have hl : lv_has ls 4 [(0, .ref h0), (1, .int pa)] := hl
  refine Kan8 hC (fun hx hb hr hml hB hown hlocks hnm => ?_)
  refine lv_iconst (v := 0) hx hb gX0_countStamps_0.1 (by decide) ?_
  refine lv_istore_n (lv' := [(2, .int 0), (0, .ref h0), (1, .int pa)]) hx hb gX0_countStamps_0.2.1 rfl hl (by decide) rfl (fun ls hl => ?_)
  refine lv_iconst (v := 0) hx hb gX0_countStamps_0.2.2.1 (by decide) ?_
  refine lv_istore_n (lv' := [(3, .int 0), (2, .int 0), (0, .ref h0), (1, .int pa)]) hx hb gX0_countStamps_0.2.2.2.1 rfl hl (by decide) rfl (fun ls hl => ?_)
  have keyP : ∀ (nP kP : Nat) (cn : Int32) (ls : Array Slot), kP + nP = kbstamps → lv_has ls 4 [(3, .int (nI kP)), (2, .int cn), (0, .ref h0), (1, .int pa)] → W p l e (RM 3 0 0) s m ([.ref h0, .int pa] : List Value).toArray below meth c s.heap [] 0 0 Q0 (F0 m 4 ls []) := by
    intro nP
    induction nP with
    | zero =>
      intro kP cn ls hkP hl
      obtain rfl : kbstamps = kP := by omega
      have hl : lv_has ls 4 [(3, .int (nI kbstamps)), (2, .int cn), (0, .ref h0), (1, .int pa)] := hl
      refine lv_iload_n hx hb gX0_countStamps_0.2.2.2.2.1 rfl (lv_at0 hl) ?_
      refine lv_aload_n hx hb gX0_countStamps_0.2.2.2.2.2.1 rfl (lv_at2 hl) ?_
      refine gf_X0_23 hC rfl hK hP 0 rfl rfl gX0_countStamps_0.2.2.2.2.2.2.1 ?_
      refine pV hC hK hl hP hD (c_T_count l G bstamps 24 3 bstampsc kbstamps) si_X0_68 [1] sm_1 fm_1 nd_1 rfl rfl rfl rfl rfl (Nat.le_of_ble_eq_true rfl) rm_3_1_1 ⟨by first | exact Nat.le_of_ble_eq_true rfl | exact Nat.zero_le _, by first | exact Nat.le_of_ble_eq_true rfl | exact Nat.zero_le _⟩ gX0_countStamps_0.2.2.2.2.2.2.2.1 (Keqr ?_)
      refine lv_icmp_ge (tgt := 37) hx hb gX0_countStamps_0.2.2.2.2.2.2.2.2.1 (by decide) (fun _ => ?_) (fun c9 => absurd (Int32.le_refl _) c9)
      refine lv_iload_n hx hb gX0_countStamps_1.2.2.2.2.2.2.2.2.2 rfl (lv_at1 hl) ?_
      refine toQ hQ0 ?_
      exact RP (v := cn) hC (trivial) rfl gX0_countStamps_2
    | succ nP ihP =>
      intro kP cn ls hkP hl
      refine lv_iload_n hx hb gX0_countStamps_0.2.2.2.2.1 rfl (lv_at0 hl) ?_
      refine lv_aload_n hx hb gX0_countStamps_0.2.2.2.2.2.1 rfl (lv_at2 hl) ?_
      refine gf_X0_23 hC rfl hK hP 0 rfl rfl gX0_countStamps_0.2.2.2.2.2.2.1 ?_
      refine pV hC hK hl hP hD (c_T_count l G bstamps 24 3 bstampsc kbstamps) si_X0_68 [1] sm_1 fm_1 nd_1 rfl rfl rfl rfl rfl (Nat.le_of_ble_eq_true rfl) rm_3_1_1 ⟨by first | exact Nat.le_of_ble_eq_true rfl | exact Nat.zero_le _, by first | exact Nat.le_of_ble_eq_true rfl | exact Nat.zero_le _⟩ gX0_countStamps_0.2.2.2.2.2.2.2.1 (Keqr ?_)
      refine lv_icmp_ge (tgt := 37) hx hb gX0_countStamps_0.2.2.2.2.2.2.2.2.1 (by decide) (fun c9 => absurd c9 (nI_ge (a := kP) (b := kbstamps) (by omega) (by omega))) (fun _ => ?_)
      refine lv_aload_n hx hb gX0_countStamps_0.2.2.2.2.2.2.2.2.2 rfl (lv_at2 hl) ?_
      refine gf_X0_23 hC rfl hK hP 0 rfl rfl gX0_countStamps_1.1 ?_
      refine lv_iload_n hx hb gX0_countStamps_1.2.1 rfl (lv_at0 hl) ?_
      refine lv_iconst (v := 0) hx hb gX0_countStamps_1.2.2.1 (by decide) ?_
      refine pV hC hK hl hP hD (c_T_at l G bstamps (nI kP) 0 24 3 bstampsc kbstamps fbstamps (hkbstamps) (by omega) (by omega)) si_X0_71 [1, 2] sm_1_2 fm_1_2 nd_1_2 rfl rfl rfl rfl rfl (Nat.le_of_ble_eq_true rfl) rm_3_1_3 ⟨by first | exact Nat.le_of_ble_eq_true rfl | exact Nat.zero_le _, by first | exact Nat.le_of_ble_eq_true rfl | exact Nat.zero_le _⟩ gX0_countStamps_1.2.2.2.1 (fun r128 hr128 => ?_)
      refine lv_iload_n hx hb gX0_countStamps_1.2.2.2.2.1 rfl (lv_at3 hl) ?_
      refine lv_icmp_ne (tgt := 31) hx hb gX0_countStamps_1.2.2.2.2.2.1 (by decide) (fun c_25_130 => ?_) (fun c_25_130 => ?_)
      · refine lv_iinc (v := nI (kP + 1)) (lv' := [(3, .int (nI (kP + 1))), (2, .int cn), (0, .ref h0), (1, .int pa)]) hx hb gX0_countStamps_1.2.2.2.2.2.2.2.1 hl (k := 0) rfl (nI_1 _) (by decide) rfl (fun ls hl => ?_)
        refine lv_goto (tgt := 4) hx hb gX0_countStamps_1.2.2.2.2.2.2.2.2.1 (by decide) ?_
        exact ihP (kP + 1) cn _ (by omega) (lv_sub hl [0, 1, 2, 3] rfl)
      · refine lv_iinc (v := cn + 1) (lv' := [(2, .int (cn + 1)), (3, .int (nI kP)), (0, .ref h0), (1, .int pa)]) hx hb gX0_countStamps_1.2.2.2.2.2.2.1 hl (k := 1) rfl (rfl) (by decide) rfl (fun ls hl => ?_)
        refine lv_iinc (v := nI (kP + 1)) (lv' := [(3, .int (nI (kP + 1))), (2, .int (cn + 1)), (0, .ref h0), (1, .int pa)]) hx hb gX0_countStamps_1.2.2.2.2.2.2.2.1 hl (k := 1) rfl (nI_1 _) (by decide) rfl (fun ls hl => ?_)
        refine lv_goto (tgt := 4) hx hb gX0_countStamps_1.2.2.2.2.2.2.2.2.1 (by decide) ?_
        exact ihP (kP + 1) (cn + 1) _ (by omega) (lv_sub hl [0, 1, 2, 3] rfl)
  exact keyP kbstamps 0 0 _ (by omega) (lv_sub hl [0, 1, 2, 3] rfl)
def K_c_counts (l : Launch) (G : GG) (h0 : Nat) (sa : Int32) (se : Int32) (bpersons : Nat) (bpapers : Nat) (bstamps : Nat) (bversions : Nat) (blines : Nat) (bsteps : Nat) (bsayings : Nat) (bfindings : Nat) (bwarnings : Nat) (bquestions : Nat) (td : Int32) (vd : Int32) (vl : Int32) (gp : Int32) (bsayingsc : Nat) (kbsayings : Nat) (fbsayings : Nat → Int32) : Prop := MP l G yX0_counts cX0_counts 3 (some .boolean) 3 [.ref h0, .int sa, .int se] [(h0, oX0 bpersons bpapers bstamps bversions blines bsteps bsayings bfindings bwarnings bquestions td vd vl gp), (bsayings, oX8 16 8 bsayingsc (nI kbsayings)), (bsayingsc, iA G 128 fbsayings)] (fun r : Int32 => r = 1 ∨ r = 0)
set_option maxHeartbeats 4000000 in
set_option maxRecDepth 100000 in
theorem c_counts (l : Launch) (G : GG) (h0 : Nat) (sa : Int32) (se : Int32) (bpersons : Nat) (bpapers : Nat) (bstamps : Nat) (bversions : Nat) (blines : Nat) (bsteps : Nat) (bsayings : Nat) (bfindings : Nat) (bwarnings : Nat) (bquestions : Nat) (td : Int32) (vd : Int32) (vl : Int32) (gp : Int32) (bsayingsc : Nat) (kbsayings : Nat) (fbsayings : Nat → Int32) (hkbsayings : kbsayings ≤ 16) : K_c_counts l G h0 sa se bpersons bpapers bstamps bversions blines bsteps bsayings bfindings bwarnings bquestions td vd vl gp bsayingsc kbsayings fbsayings := by
  refine MP.start (by decide +kernel) (Nat.le_of_ble_eq_true rfl) ?_
  intro p e s m below meth c ls hC hK hP hD hl
  refine absQ (fun Q0 hQ0 => ?_)
  have hl : lv_has ls 3 [(0, .ref h0), (1, .int sa), (2, .int se)] := hl
  refine Kan8 hC (fun hx hb hr hml hB hown hlocks hnm => ?_)
  refine lv_aload_n hx hb gX0_counts_0.1 rfl (lv_at0 hl) ?_
  refine gf_X0_35 hC rfl hK hP 0 rfl rfl gX0_counts_0.2.1 ?_
  refine lv_iload_n hx hb gX0_counts_0.2.2.1 rfl (lv_at1 hl) ?_
  refine lv_bipush (v := 7) hx hb gX0_counts_0.2.2.2.1 (by decide) ?_
  refine pV hC hK hl hP hD (c_T_at l G bsayings sa 7 16 8 bsayingsc kbsayings fbsayings (hkbsayings) (by omega) (by omega)) si_X0_71 [1, 2] sm_1_2 fm_1_2 nd_1_2 rfl rfl rfl rfl rfl (Nat.le_of_ble_eq_true rfl) rm_3_1_3 ⟨by first | exact Nat.le_of_ble_eq_true rfl | exact Nat.zero_le _, by first | exact Nat.le_of_ble_eq_true rfl | exact Nat.zero_le _⟩ gX0_counts_0.2.2.2.2.1 (fun r131 hr131 => ?_)
  refine lv_aload_n hx hb gX0_counts_0.2.2.2.2.2.1 rfl (lv_at0 hl) ?_
  refine pV hC hK hl hP hD (c_viewedDay l G h0 bpersons bpapers bstamps bversions blines bsteps bsayings bfindings bwarnings bquestions td vd vl gp) si_X0_64 [0] sm_0 fm_0 nd_0 rfl rfl rfl rfl rfl (Nat.le_of_ble_eq_true rfl) rm_3_1_1 ⟨by first | exact Nat.le_of_ble_eq_true rfl | exact Nat.zero_le _, by first | exact Nat.le_of_ble_eq_true rfl | exact Nat.zero_le _⟩ gX0_counts_0.2.2.2.2.2.2.1 (fun r133 hr133 => ?_)
  rcases hr133 with ⟨hE9, a134⟩ | ⟨hE9, a134⟩
  · refine eqi (x1 := td) hE9 ?_
    refine lv_icmp_gt (tgt := 50) hx hb gX0_counts_0.2.2.2.2.2.2.2.1 (by decide) (fun c_14_135 => ?_) (fun c_14_135 => ?_)
    · refine lv_iconst (v := 0) hx hb gX0_counts_2.2.2.2.2.1 (by decide) ?_
      refine toQ hQ0 ?_
      exact RP (v := 0) hC (Or.inr (rfl)) (by decide +kernel) gX0_counts_2.2.2.2.2.2
    · refine lv_aload_n hx hb gX0_counts_0.2.2.2.2.2.2.2.2.1 rfl (lv_at0 hl) ?_
      refine gf_X0_35 hC rfl hK hP 0 rfl rfl gX0_counts_0.2.2.2.2.2.2.2.2.2 ?_
      refine lv_iload_n hx hb gX0_counts_1.1 rfl (lv_at1 hl) ?_
      refine lv_bipush (v := 6) hx hb gX0_counts_1.2.1 (by decide) ?_
      refine pV hC hK hl hP hD (c_T_at l G bsayings sa 6 16 8 bsayingsc kbsayings fbsayings (hkbsayings) (by omega) (by omega)) si_X0_71 [1, 2] sm_1_2 fm_1_2 nd_1_2 rfl rfl rfl rfl rfl (Nat.le_of_ble_eq_true rfl) rm_3_1_3 ⟨by first | exact Nat.le_of_ble_eq_true rfl | exact Nat.zero_le _, by first | exact Nat.le_of_ble_eq_true rfl | exact Nat.zero_le _⟩ gX0_counts_1.2.2.1 (fun r136 hr136 => ?_)
      refine lv_if_ge (tgt := 50) hx hb gX0_counts_1.2.2.2.1 (by decide) (fun c_27_138 => ?_) (fun c_27_138 => ?_)
      · refine lv_iconst (v := 0) hx hb gX0_counts_2.2.2.2.2.1 (by decide) ?_
        refine toQ hQ0 ?_
        exact RP (v := 0) hC (Or.inr (rfl)) (by decide +kernel) gX0_counts_2.2.2.2.2.2
      · refine lv_iload_n hx hb gX0_counts_1.2.2.2.2.1 rfl (lv_at2 hl) ?_
        refine lv_aload_n hx hb gX0_counts_1.2.2.2.2.2.1 rfl (lv_at0 hl) ?_
        refine gf_X0_35 hC rfl hK hP 0 rfl rfl gX0_counts_1.2.2.2.2.2.2.1 ?_
        refine lv_iload_n hx hb gX0_counts_1.2.2.2.2.2.2.2.1 rfl (lv_at1 hl) ?_
        refine lv_iconst (v := 2) hx hb gX0_counts_1.2.2.2.2.2.2.2.2.1 (by decide) ?_
        refine pV hC hK hl hP hD (c_T_at l G bsayings sa 2 16 8 bsayingsc kbsayings fbsayings (hkbsayings) (by omega) (by omega)) si_X0_71 [1, 2] sm_1_2 fm_1_2 nd_1_2 rfl rfl rfl rfl rfl (Nat.le_of_ble_eq_true rfl) rm_3_1_3 ⟨by first | exact Nat.le_of_ble_eq_true rfl | exact Nat.zero_le _, by first | exact Nat.le_of_ble_eq_true rfl | exact Nat.zero_le _⟩ gX0_counts_1.2.2.2.2.2.2.2.2.2 (fun r139 hr139 => ?_)
        refine pSN hC hK hl (c_hasBit l G se r139) si_X0_75 rfl rfl (Nat.le_of_ble_eq_true rfl) rm_3_1_2 ⟨by first | exact Nat.le_of_ble_eq_true rfl | exact Nat.zero_le _, by first | exact Nat.le_of_ble_eq_true rfl | exact Nat.zero_le _⟩ gX0_counts_2.1 (Kors (Keqa fun a142 => ?_) (Keqa fun a142 => ?_))
        · refine lv_if_eq (tgt := 50) hx hb gX0_counts_2.2.1 (by decide) (fun c9 => absurd c9 (by decide)) (fun _ => ?_)
          refine lv_iconst (v := 1) hx hb gX0_counts_2.2.2.1 (by decide) ?_
          refine lv_goto (tgt := 51) hx hb gX0_counts_2.2.2.2.1 (by decide) ?_
          refine toQ hQ0 ?_
          exact RP (v := 1) hC (Or.inl (rfl)) (by decide +kernel) gX0_counts_2.2.2.2.2.2
        · refine lv_if_eq (tgt := 50) hx hb gX0_counts_2.2.1 (by decide) (fun _ => ?_) (fun c9 => absurd (by decide) c9)
          refine lv_iconst (v := 0) hx hb gX0_counts_2.2.2.2.2.1 (by decide) ?_
          refine toQ hQ0 ?_
          exact RP (v := 0) hC (Or.inr (rfl)) (by decide +kernel) gX0_counts_2.2.2.2.2.2
  · refine eqi (x1 := vd) hE9 ?_
    refine lv_icmp_gt (tgt := 50) hx hb gX0_counts_0.2.2.2.2.2.2.2.1 (by decide) (fun c_14_143 => ?_) (fun c_14_143 => ?_)
    · refine lv_iconst (v := 0) hx hb gX0_counts_2.2.2.2.2.1 (by decide) ?_
      refine toQ hQ0 ?_
      exact RP (v := 0) hC (Or.inr (rfl)) (by decide +kernel) gX0_counts_2.2.2.2.2.2
    · refine lv_aload_n hx hb gX0_counts_0.2.2.2.2.2.2.2.2.1 rfl (lv_at0 hl) ?_
      refine gf_X0_35 hC rfl hK hP 0 rfl rfl gX0_counts_0.2.2.2.2.2.2.2.2.2 ?_
      refine lv_iload_n hx hb gX0_counts_1.1 rfl (lv_at1 hl) ?_
      refine lv_bipush (v := 6) hx hb gX0_counts_1.2.1 (by decide) ?_
      refine pV hC hK hl hP hD (c_T_at l G bsayings sa 6 16 8 bsayingsc kbsayings fbsayings (hkbsayings) (by omega) (by omega)) si_X0_71 [1, 2] sm_1_2 fm_1_2 nd_1_2 rfl rfl rfl rfl rfl (Nat.le_of_ble_eq_true rfl) rm_3_1_3 ⟨by first | exact Nat.le_of_ble_eq_true rfl | exact Nat.zero_le _, by first | exact Nat.le_of_ble_eq_true rfl | exact Nat.zero_le _⟩ gX0_counts_1.2.2.1 (fun r144 hr144 => ?_)
      refine lv_if_ge (tgt := 50) hx hb gX0_counts_1.2.2.2.1 (by decide) (fun c_27_146 => ?_) (fun c_27_146 => ?_)
      · refine lv_iconst (v := 0) hx hb gX0_counts_2.2.2.2.2.1 (by decide) ?_
        refine toQ hQ0 ?_
        exact RP (v := 0) hC (Or.inr (rfl)) (by decide +kernel) gX0_counts_2.2.2.2.2.2
      · refine lv_iload_n hx hb gX0_counts_1.2.2.2.2.1 rfl (lv_at2 hl) ?_
        refine lv_aload_n hx hb gX0_counts_1.2.2.2.2.2.1 rfl (lv_at0 hl) ?_
        refine gf_X0_35 hC rfl hK hP 0 rfl rfl gX0_counts_1.2.2.2.2.2.2.1 ?_
        refine lv_iload_n hx hb gX0_counts_1.2.2.2.2.2.2.2.1 rfl (lv_at1 hl) ?_
        refine lv_iconst (v := 2) hx hb gX0_counts_1.2.2.2.2.2.2.2.2.1 (by decide) ?_
        refine pV hC hK hl hP hD (c_T_at l G bsayings sa 2 16 8 bsayingsc kbsayings fbsayings (hkbsayings) (by omega) (by omega)) si_X0_71 [1, 2] sm_1_2 fm_1_2 nd_1_2 rfl rfl rfl rfl rfl (Nat.le_of_ble_eq_true rfl) rm_3_1_3 ⟨by first | exact Nat.le_of_ble_eq_true rfl | exact Nat.zero_le _, by first | exact Nat.le_of_ble_eq_true rfl | exact Nat.zero_le _⟩ gX0_counts_1.2.2.2.2.2.2.2.2.2 (fun r147 hr147 => ?_)
        refine pSN hC hK hl (c_hasBit l G se r147) si_X0_75 rfl rfl (Nat.le_of_ble_eq_true rfl) rm_3_1_2 ⟨by first | exact Nat.le_of_ble_eq_true rfl | exact Nat.zero_le _, by first | exact Nat.le_of_ble_eq_true rfl | exact Nat.zero_le _⟩ gX0_counts_2.1 (Kors (Keqa fun a150 => ?_) (Keqa fun a150 => ?_))
        · refine lv_if_eq (tgt := 50) hx hb gX0_counts_2.2.1 (by decide) (fun c9 => absurd c9 (by decide)) (fun _ => ?_)
          refine lv_iconst (v := 1) hx hb gX0_counts_2.2.2.1 (by decide) ?_
          refine lv_goto (tgt := 51) hx hb gX0_counts_2.2.2.2.1 (by decide) ?_
          refine toQ hQ0 ?_
          exact RP (v := 1) hC (Or.inl (rfl)) (by decide +kernel) gX0_counts_2.2.2.2.2.2
        · refine lv_if_eq (tgt := 50) hx hb gX0_counts_2.2.1 (by decide) (fun _ => ?_) (fun c9 => absurd (by decide) c9)
          refine lv_iconst (v := 0) hx hb gX0_counts_2.2.2.2.2.1 (by decide) ?_
          refine toQ hQ0 ?_
          exact RP (v := 0) hC (Or.inr (rfl)) (by decide +kernel) gX0_counts_2.2.2.2.2.2
def K_c_countSayings (l : Launch) (G : GG) (h0 : Nat) (se : Int32) (bpersons : Nat) (bpapers : Nat) (bstamps : Nat) (bversions : Nat) (blines : Nat) (bsteps : Nat) (bsayings : Nat) (bfindings : Nat) (bwarnings : Nat) (bquestions : Nat) (td : Int32) (vd : Int32) (vl : Int32) (gp : Int32) (bsayingsc : Nat) (kbsayings : Nat) (fbsayings : Nat → Int32) : Prop := MP l G yX0_countSayings cX0_countSayings 4 (some .int) 4 [.ref h0, .int se] [(h0, oX0 bpersons bpapers bstamps bversions blines bsteps bsayings bfindings bwarnings bquestions td vd vl gp), (bsayings, oX8 16 8 bsayingsc (nI kbsayings)), (bsayingsc, iA G 128 fbsayings)] (fun r : Int32 => True)
set_option maxHeartbeats 4000000 in
set_option maxRecDepth 100000 in
theorem c_countSayings (l : Launch) (G : GG) (h0 : Nat) (se : Int32) (bpersons : Nat) (bpapers : Nat) (bstamps : Nat) (bversions : Nat) (blines : Nat) (bsteps : Nat) (bsayings : Nat) (bfindings : Nat) (bwarnings : Nat) (bquestions : Nat) (td : Int32) (vd : Int32) (vl : Int32) (gp : Int32) (bsayingsc : Nat) (kbsayings : Nat) (fbsayings : Nat → Int32) (hkbsayings : kbsayings ≤ 16) : K_c_countSayings l G h0 se bpersons bpapers bstamps bversions blines bsteps bsayings bfindings bwarnings bquestions td vd vl gp bsayingsc kbsayings fbsayings := by
  refine MP.start (by decide +kernel) (Nat.le_of_ble_eq_true rfl) ?_
  intro p e s m below meth c ls hC hK hP hD hl
  refine absQ (fun Q0 hQ0 => ?_)
  have hl : lv_has ls 4 [(0, .ref h0), (1, .int se)] := hl
  refine Kan8 hC (fun hx hb hr hml hB hown hlocks hnm => ?_)
  refine lv_iconst (v := 0) hx hb gX0_countSayings_0.1 (by decide) ?_
  refine lv_istore_n (lv' := [(2, .int 0), (0, .ref h0), (1, .int se)]) hx hb gX0_countSayings_0.2.1 rfl hl (by decide) rfl (fun ls hl => ?_)
  refine lv_iconst (v := 0) hx hb gX0_countSayings_0.2.2.1 (by decide) ?_
  refine lv_istore_n (lv' := [(3, .int 0), (2, .int 0), (0, .ref h0), (1, .int se)]) hx hb gX0_countSayings_0.2.2.2.1 rfl hl (by decide) rfl (fun ls hl => ?_)
  have keyP : ∀ (nP kP : Nat) (cn : Int32) (ls : Array Slot), kP + nP = kbsayings → lv_has ls 4 [(3, .int (nI kP)), (2, .int cn), (0, .ref h0), (1, .int se)] → W p l e (RM 4 0 0) s m ([.ref h0, .int se] : List Value).toArray below meth c s.heap [] 0 0 Q0 (F0 m 4 ls []) := by
    intro nP
    induction nP with
    | zero =>
      intro kP cn ls hkP hl
      obtain rfl : kbsayings = kP := by omega
      have hl : lv_has ls 4 [(3, .int (nI kbsayings)), (2, .int cn), (0, .ref h0), (1, .int se)] := hl
      refine lv_iload_n hx hb gX0_countSayings_0.2.2.2.2.1 rfl (lv_at0 hl) ?_
      refine lv_aload_n hx hb gX0_countSayings_0.2.2.2.2.2.1 rfl (lv_at2 hl) ?_
      refine gf_X0_35 hC rfl hK hP 0 rfl rfl gX0_countSayings_0.2.2.2.2.2.2.1 ?_
      refine pV hC hK hl hP hD (c_T_count l G bsayings 16 8 bsayingsc kbsayings) si_X0_68 [1] sm_1 fm_1 nd_1 rfl rfl rfl rfl rfl (Nat.le_of_ble_eq_true rfl) rm_4_1_1 ⟨by first | exact Nat.le_of_ble_eq_true rfl | exact Nat.zero_le _, by first | exact Nat.le_of_ble_eq_true rfl | exact Nat.zero_le _⟩ gX0_countSayings_0.2.2.2.2.2.2.2.1 (Keqr ?_)
      refine lv_icmp_ge (tgt := 33) hx hb gX0_countSayings_0.2.2.2.2.2.2.2.2.1 (by decide) (fun _ => ?_) (fun c9 => absurd (Int32.le_refl _) c9)
      refine lv_iload_n hx hb gX0_countSayings_1.2.2.2.2.2.2.2.1 rfl (lv_at1 hl) ?_
      refine toQ hQ0 ?_
      exact RP (v := cn) hC (trivial) rfl gX0_countSayings_1.2.2.2.2.2.2.2.2
    | succ nP ihP =>
      intro kP cn ls hkP hl
      refine lv_iload_n hx hb gX0_countSayings_0.2.2.2.2.1 rfl (lv_at0 hl) ?_
      refine lv_aload_n hx hb gX0_countSayings_0.2.2.2.2.2.1 rfl (lv_at2 hl) ?_
      refine gf_X0_35 hC rfl hK hP 0 rfl rfl gX0_countSayings_0.2.2.2.2.2.2.1 ?_
      refine pV hC hK hl hP hD (c_T_count l G bsayings 16 8 bsayingsc kbsayings) si_X0_68 [1] sm_1 fm_1 nd_1 rfl rfl rfl rfl rfl (Nat.le_of_ble_eq_true rfl) rm_4_1_1 ⟨by first | exact Nat.le_of_ble_eq_true rfl | exact Nat.zero_le _, by first | exact Nat.le_of_ble_eq_true rfl | exact Nat.zero_le _⟩ gX0_countSayings_0.2.2.2.2.2.2.2.1 (Keqr ?_)
      refine lv_icmp_ge (tgt := 33) hx hb gX0_countSayings_0.2.2.2.2.2.2.2.2.1 (by decide) (fun c9 => absurd c9 (nI_ge (a := kP) (b := kbsayings) (by omega) (by omega))) (fun _ => ?_)
      refine lv_aload_n hx hb gX0_countSayings_0.2.2.2.2.2.2.2.2.2 rfl (lv_at2 hl) ?_
      refine lv_iload_n hx hb gX0_countSayings_1.1 rfl (lv_at0 hl) ?_
      refine lv_iload_n hx hb gX0_countSayings_1.2.1 rfl (lv_at3 hl) ?_
      refine pV hC hK hl hP hD (c_counts l G h0 (nI kP) se bpersons bpapers bstamps bversions blines bsteps bsayings bfindings bwarnings bquestions td vd vl gp bsayingsc kbsayings fbsayings (hkbsayings)) si_X0_86 [0, 1, 2] sm_0_1_2 fm_0_1_2 nd_0_1_2 rfl rfl rfl rfl rfl (Nat.le_of_ble_eq_true rfl) rm_4_3_3 ⟨by first | exact Nat.le_of_ble_eq_true rfl | exact Nat.zero_le _, by first | exact Nat.le_of_ble_eq_true rfl | exact Nat.zero_le _⟩ gX0_countSayings_1.2.2.1 (Kors (Keqr ?_) (Keqr ?_))
      · refine lv_if_eq (tgt := 27) hx hb gX0_countSayings_1.2.2.2.1 (by decide) (fun c9 => absurd c9 (by decide)) (fun _ => ?_)
        refine lv_iinc (v := cn + 1) (lv' := [(2, .int (cn + 1)), (3, .int (nI kP)), (0, .ref h0), (1, .int se)]) hx hb gX0_countSayings_1.2.2.2.2.1 hl (k := 1) rfl (rfl) (by decide) rfl (fun ls hl => ?_)
        refine lv_iinc (v := nI (kP + 1)) (lv' := [(3, .int (nI (kP + 1))), (2, .int (cn + 1)), (0, .ref h0), (1, .int se)]) hx hb gX0_countSayings_1.2.2.2.2.2.1 hl (k := 1) rfl (nI_1 _) (by decide) rfl (fun ls hl => ?_)
        refine lv_goto (tgt := 4) hx hb gX0_countSayings_1.2.2.2.2.2.2.1 (by decide) ?_
        exact ihP (kP + 1) (cn + 1) _ (by omega) (lv_sub hl [0, 1, 2, 3] rfl)
      · refine lv_if_eq (tgt := 27) hx hb gX0_countSayings_1.2.2.2.1 (by decide) (fun _ => ?_) (fun c9 => absurd (by decide) c9)
        refine lv_iinc (v := nI (kP + 1)) (lv' := [(3, .int (nI (kP + 1))), (2, .int cn), (0, .ref h0), (1, .int se)]) hx hb gX0_countSayings_1.2.2.2.2.2.1 hl (k := 0) rfl (nI_1 _) (by decide) rfl (fun ls hl => ?_)
        refine lv_goto (tgt := 4) hx hb gX0_countSayings_1.2.2.2.2.2.2.1 (by decide) ?_
        exact ihP (kP + 1) cn _ (by omega) (lv_sub hl [0, 1, 2, 3] rfl)
  exact keyP kbsayings 0 0 _ (by omega) (lv_sub hl [0, 1, 2, 3] rfl)
def K_c_countSayingsBy (l : Launch) (G : GG) (h0 : Nat) (pe : Int32) (se : Int32) (bpersons : Nat) (bpapers : Nat) (bstamps : Nat) (bversions : Nat) (blines : Nat) (bsteps : Nat) (bsayings : Nat) (bfindings : Nat) (bwarnings : Nat) (bquestions : Nat) (td : Int32) (vd : Int32) (vl : Int32) (gp : Int32) (bsayingsc : Nat) (kbsayings : Nat) (fbsayings : Nat → Int32) : Prop := MP l G yX0_countSayingsBy cX0_countSayingsBy 5 (some .int) 4 [.ref h0, .int pe, .int se] [(h0, oX0 bpersons bpapers bstamps bversions blines bsteps bsayings bfindings bwarnings bquestions td vd vl gp), (bsayings, oX8 16 8 bsayingsc (nI kbsayings)), (bsayingsc, iA G 128 fbsayings)] (fun r : Int32 => True)
set_option maxHeartbeats 4000000 in
set_option maxRecDepth 100000 in
theorem c_countSayingsBy (l : Launch) (G : GG) (h0 : Nat) (pe : Int32) (se : Int32) (bpersons : Nat) (bpapers : Nat) (bstamps : Nat) (bversions : Nat) (blines : Nat) (bsteps : Nat) (bsayings : Nat) (bfindings : Nat) (bwarnings : Nat) (bquestions : Nat) (td : Int32) (vd : Int32) (vl : Int32) (gp : Int32) (bsayingsc : Nat) (kbsayings : Nat) (fbsayings : Nat → Int32) (hkbsayings : kbsayings ≤ 16) : K_c_countSayingsBy l G h0 pe se bpersons bpapers bstamps bversions blines bsteps bsayings bfindings bwarnings bquestions td vd vl gp bsayingsc kbsayings fbsayings := by
  refine MP.start (by decide +kernel) (Nat.le_of_ble_eq_true rfl) ?_
  intro p e s m below meth c ls hC hK hP hD hl
  refine absQ (fun Q0 hQ0 => ?_)
  have hl : lv_has ls 5 [(0, .ref h0), (1, .int pe), (2, .int se)] := hl
  refine Kan8 hC (fun hx hb hr hml hB hown hlocks hnm => ?_)
  refine lv_iconst (v := 0) hx hb gX0_countSayingsBy_0.1 (by decide) ?_
  refine lv_istore_n (lv' := [(3, .int 0), (0, .ref h0), (1, .int pe), (2, .int se)]) hx hb gX0_countSayingsBy_0.2.1 rfl hl (by decide) rfl (fun ls hl => ?_)
  refine lv_iconst (v := 0) hx hb gX0_countSayingsBy_0.2.2.1 (by decide) ?_
  refine lv_istore (lv' := [(4, .int 0), (3, .int 0), (0, .ref h0), (1, .int pe), (2, .int se)]) hx hb gX0_countSayingsBy_0.2.2.2.1 hl (by decide) rfl (fun ls hl => ?_)
  have keyP : ∀ (nP kP : Nat) (cn : Int32) (ls : Array Slot), kP + nP = kbsayings → lv_has ls 5 [(4, .int (nI kP)), (3, .int cn), (0, .ref h0), (1, .int pe), (2, .int se)] → W p l e (RM 4 0 0) s m ([.ref h0, .int pe, .int se] : List Value).toArray below meth c s.heap [] 0 0 Q0 (F0 m 5 ls []) := by
    intro nP
    induction nP with
    | zero =>
      intro kP cn ls hkP hl
      obtain rfl : kbsayings = kP := by omega
      have hl : lv_has ls 5 [(4, .int (nI kbsayings)), (3, .int cn), (0, .ref h0), (1, .int pe), (2, .int se)] := hl
      refine lv_iload hx hb gX0_countSayingsBy_0.2.2.2.2.1 (lv_at0 hl) ?_
      refine lv_aload_n hx hb gX0_countSayingsBy_0.2.2.2.2.2.1 rfl (lv_at2 hl) ?_
      refine gf_X0_35 hC rfl hK hP 0 rfl rfl gX0_countSayingsBy_0.2.2.2.2.2.2.1 ?_
      refine pV hC hK hl hP hD (c_T_count l G bsayings 16 8 bsayingsc kbsayings) si_X0_68 [1] sm_1 fm_1 nd_1 rfl rfl rfl rfl rfl (Nat.le_of_ble_eq_true rfl) rm_4_1_1 ⟨by first | exact Nat.le_of_ble_eq_true rfl | exact Nat.zero_le _, by first | exact Nat.le_of_ble_eq_true rfl | exact Nat.zero_le _⟩ gX0_countSayingsBy_0.2.2.2.2.2.2.2.1 (Keqr ?_)
      refine lv_icmp_ge (tgt := 50) hx hb gX0_countSayingsBy_0.2.2.2.2.2.2.2.2.1 (by decide) (fun _ => ?_) (fun c9 => absurd (Int32.le_refl _) c9)
      refine lv_iload_n hx hb gX0_countSayingsBy_2.2.2.2.2.1 rfl (lv_at1 hl) ?_
      refine toQ hQ0 ?_
      exact RP (v := cn) hC (trivial) rfl gX0_countSayingsBy_2.2.2.2.2.2
    | succ nP ihP =>
      intro kP cn ls hkP hl
      refine lv_iload hx hb gX0_countSayingsBy_0.2.2.2.2.1 (lv_at0 hl) ?_
      refine lv_aload_n hx hb gX0_countSayingsBy_0.2.2.2.2.2.1 rfl (lv_at2 hl) ?_
      refine gf_X0_35 hC rfl hK hP 0 rfl rfl gX0_countSayingsBy_0.2.2.2.2.2.2.1 ?_
      refine pV hC hK hl hP hD (c_T_count l G bsayings 16 8 bsayingsc kbsayings) si_X0_68 [1] sm_1 fm_1 nd_1 rfl rfl rfl rfl rfl (Nat.le_of_ble_eq_true rfl) rm_4_1_1 ⟨by first | exact Nat.le_of_ble_eq_true rfl | exact Nat.zero_le _, by first | exact Nat.le_of_ble_eq_true rfl | exact Nat.zero_le _⟩ gX0_countSayingsBy_0.2.2.2.2.2.2.2.1 (Keqr ?_)
      refine lv_icmp_ge (tgt := 50) hx hb gX0_countSayingsBy_0.2.2.2.2.2.2.2.2.1 (by decide) (fun c9 => absurd c9 (nI_ge (a := kP) (b := kbsayings) (by omega) (by omega))) (fun _ => ?_)
      refine lv_aload_n hx hb gX0_countSayingsBy_0.2.2.2.2.2.2.2.2.2 rfl (lv_at2 hl) ?_
      refine gf_X0_35 hC rfl hK hP 0 rfl rfl gX0_countSayingsBy_1.1 ?_
      refine lv_iload hx hb gX0_countSayingsBy_1.2.1 (lv_at0 hl) ?_
      refine lv_iconst (v := 0) hx hb gX0_countSayingsBy_1.2.2.1 (by decide) ?_
      refine pV hC hK hl hP hD (c_T_at l G bsayings (nI kP) 0 16 8 bsayingsc kbsayings fbsayings (hkbsayings) (by omega) (by omega)) si_X0_71 [1, 2] sm_1_2 fm_1_2 nd_1_2 rfl rfl rfl rfl rfl (Nat.le_of_ble_eq_true rfl) rm_4_1_3 ⟨by first | exact Nat.le_of_ble_eq_true rfl | exact Nat.zero_le _, by first | exact Nat.le_of_ble_eq_true rfl | exact Nat.zero_le _⟩ gX0_countSayingsBy_1.2.2.2.1 (fun r161 hr161 => ?_)
      refine lv_iload_n hx hb gX0_countSayingsBy_1.2.2.2.2.1 rfl (lv_at3 hl) ?_
      refine lv_icmp_ne (tgt := 44) hx hb gX0_countSayingsBy_1.2.2.2.2.2.1 (by decide) (fun c_28_163 => ?_) (fun c_28_163 => ?_)
      · refine lv_iinc (v := nI (kP + 1)) (lv' := [(4, .int (nI (kP + 1))), (3, .int cn), (0, .ref h0), (1, .int pe), (2, .int se)]) hx hb gX0_countSayingsBy_2.2.2.1 hl (k := 0) rfl (nI_1 _) (by decide) rfl (fun ls hl => ?_)
        refine lv_goto (tgt := 5) hx hb gX0_countSayingsBy_2.2.2.2.1 (by decide) ?_
        exact ihP (kP + 1) cn _ (by omega) (lv_sub hl [0, 1, 2, 3, 4] rfl)
      · refine lv_aload_n hx hb gX0_countSayingsBy_1.2.2.2.2.2.2.1 rfl (lv_at2 hl) ?_
        refine lv_iload hx hb gX0_countSayingsBy_1.2.2.2.2.2.2.2.1 (lv_at0 hl) ?_
        refine lv_iload_n hx hb gX0_countSayingsBy_1.2.2.2.2.2.2.2.2.1 rfl (lv_at4 hl) ?_
        refine pV hC hK hl hP hD (c_counts l G h0 (nI kP) se bpersons bpapers bstamps bversions blines bsteps bsayings bfindings bwarnings bquestions td vd vl gp bsayingsc kbsayings fbsayings (hkbsayings)) si_X0_86 [0, 1, 2] sm_0_1_2 fm_0_1_2 nd_0_1_2 rfl rfl rfl rfl rfl (Nat.le_of_ble_eq_true rfl) rm_4_3_3 ⟨by first | exact Nat.le_of_ble_eq_true rfl | exact Nat.zero_le _, by first | exact Nat.le_of_ble_eq_true rfl | exact Nat.zero_le _⟩ gX0_countSayingsBy_1.2.2.2.2.2.2.2.2.2 (Kors (Keqr ?_) (Keqr ?_))
        · refine lv_if_eq (tgt := 44) hx hb gX0_countSayingsBy_2.1 (by decide) (fun c9 => absurd c9 (by decide)) (fun _ => ?_)
          refine lv_iinc (v := cn + 1) (lv' := [(3, .int (cn + 1)), (4, .int (nI kP)), (0, .ref h0), (1, .int pe), (2, .int se)]) hx hb gX0_countSayingsBy_2.2.1 hl (k := 1) rfl (rfl) (by decide) rfl (fun ls hl => ?_)
          refine lv_iinc (v := nI (kP + 1)) (lv' := [(4, .int (nI (kP + 1))), (3, .int (cn + 1)), (0, .ref h0), (1, .int pe), (2, .int se)]) hx hb gX0_countSayingsBy_2.2.2.1 hl (k := 1) rfl (nI_1 _) (by decide) rfl (fun ls hl => ?_)
          refine lv_goto (tgt := 5) hx hb gX0_countSayingsBy_2.2.2.2.1 (by decide) ?_
          exact ihP (kP + 1) (cn + 1) _ (by omega) (lv_sub hl [0, 1, 2, 3, 4] rfl)
        · refine lv_if_eq (tgt := 44) hx hb gX0_countSayingsBy_2.1 (by decide) (fun _ => ?_) (fun c9 => absurd (by decide) c9)
          refine lv_iinc (v := nI (kP + 1)) (lv' := [(4, .int (nI (kP + 1))), (3, .int cn), (0, .ref h0), (1, .int pe), (2, .int se)]) hx hb gX0_countSayingsBy_2.2.2.1 hl (k := 0) rfl (nI_1 _) (by decide) rfl (fun ls hl => ?_)
          refine lv_goto (tgt := 5) hx hb gX0_countSayingsBy_2.2.2.2.1 (by decide) ?_
          exact ihP (kP + 1) cn _ (by omega) (lv_sub hl [0, 1, 2, 3, 4] rfl)
  exact keyP kbsayings 0 0 _ (by omega) (lv_sub hl [0, 1, 2, 3, 4] rfl)
def K_c_ruling (l : Launch) (G : GG) (h0 : Nat) (bpersons : Nat) (bpapers : Nat) (bstamps : Nat) (bversions : Nat) (blines : Nat) (bsteps : Nat) (bsayings : Nat) (bfindings : Nat) (bwarnings : Nat) (bquestions : Nat) (td : Int32) (vd : Int32) (vl : Int32) (gp : Int32) (bversionsc : Nat) (kbversions : Nat) (fbversions : Nat → Int32) : Prop := MP l G yX0_ruling cX0_ruling 4 (some .int) 3 [.ref h0] [(h0, oX0 bpersons bpapers bstamps bversions blines bsteps bsayings bfindings bwarnings bquestions td vd vl gp), (bversions, oX8 8 3 bversionsc (nI kbversions)), (bversionsc, iA G 24 fbversions)] (fun r : Int32 => True)
set_option maxHeartbeats 4000000 in
set_option maxRecDepth 100000 in
theorem c_ruling (l : Launch) (G : GG) (h0 : Nat) (bpersons : Nat) (bpapers : Nat) (bstamps : Nat) (bversions : Nat) (blines : Nat) (bsteps : Nat) (bsayings : Nat) (bfindings : Nat) (bwarnings : Nat) (bquestions : Nat) (td : Int32) (vd : Int32) (vl : Int32) (gp : Int32) (bversionsc : Nat) (kbversions : Nat) (fbversions : Nat → Int32) (hkbversions : kbversions ≤ 8) : K_c_ruling l G h0 bpersons bpapers bstamps bversions blines bsteps bsayings bfindings bwarnings bquestions td vd vl gp bversionsc kbversions fbversions := by
  refine MP.start (by decide +kernel) (Nat.le_of_ble_eq_true rfl) ?_
  intro p e s m below meth c ls hC hK hP hD hl
  refine absQ (fun Q0 hQ0 => ?_)
  have hl : lv_has ls 4 [(0, .ref h0)] := hl
  refine Kan8 hC (fun hx hb hr hml hB hown hlocks hnm => ?_)
  refine lv_iconst (v := (-1)) hx hb gX0_ruling_0.1 (by decide) ?_
  refine lv_istore_n (lv' := [(1, .int (-1)), (0, .ref h0)]) hx hb gX0_ruling_0.2.1 rfl hl (by decide) rfl (fun ls hl => ?_)
  refine lv_aload_n hx hb gX0_ruling_0.2.2.1 rfl (lv_at1 hl) ?_
  refine pV hC hK hl hP hD (c_viewedDay l G h0 bpersons bpapers bstamps bversions blines bsteps bsayings bfindings bwarnings bquestions td vd vl gp) si_X0_64 [0] sm_0 fm_0 nd_0 rfl rfl rfl rfl rfl (Nat.le_of_ble_eq_true rfl) rm_3_1_1 ⟨by first | exact Nat.le_of_ble_eq_true rfl | exact Nat.zero_le _, by first | exact Nat.le_of_ble_eq_true rfl | exact Nat.zero_le _⟩ gX0_ruling_0.2.2.2.1 (fun r166 hr166 => ?_)
  rcases hr166 with ⟨hE9, a167⟩ | ⟨hE9, a167⟩
  · refine eqi (x1 := td) hE9 ?_
    refine lv_istore_n (lv' := [(2, .int td), (1, .int (-1)), (0, .ref h0)]) hx hb gX0_ruling_0.2.2.2.2.1 rfl hl (by decide) rfl (fun ls hl => ?_)
    refine lv_iconst (v := 0) hx hb gX0_ruling_0.2.2.2.2.2.1 (by decide) ?_
    refine lv_istore_n (lv' := [(3, .int 0), (2, .int td), (1, .int (-1)), (0, .ref h0)]) hx hb gX0_ruling_0.2.2.2.2.2.2.1 rfl hl (by decide) rfl (fun ls hl => ?_)
    have keyP : ∀ (nP kP : Nat) (la : Int32) (ls : Array Slot), kP + nP = kbversions → lv_has ls 4 [(3, .int (nI kP)), (2, .int td), (1, .int la), (0, .ref h0)] → W p l e (RM 3 0 0) s m ([.ref h0] : List Value).toArray below meth c s.heap [] 0 0 Q0 (F0 m 9 ls []) := by
      intro nP
      induction nP with
      | zero =>
        intro kP la ls hkP hl
        obtain rfl : kbversions = kP := by omega
        have hl : lv_has ls 4 [(3, .int (nI kbversions)), (2, .int td), (1, .int la), (0, .ref h0)] := hl
        refine lv_iload_n hx hb gX0_ruling_0.2.2.2.2.2.2.2.1 rfl (lv_at0 hl) ?_
        refine lv_aload_n hx hb gX0_ruling_0.2.2.2.2.2.2.2.2.1 rfl (lv_at3 hl) ?_
        refine gf_X0_26 hC rfl hK hP 0 rfl rfl gX0_ruling_0.2.2.2.2.2.2.2.2.2 ?_
        refine pV hC hK hl hP hD (c_T_count l G bversions 8 3 bversionsc kbversions) si_X0_68 [1] sm_1 fm_1 nd_1 rfl rfl rfl rfl rfl (Nat.le_of_ble_eq_true rfl) rm_3_1_1 ⟨by first | exact Nat.le_of_ble_eq_true rfl | exact Nat.zero_le _, by first | exact Nat.le_of_ble_eq_true rfl | exact Nat.zero_le _⟩ gX0_ruling_1.1 (Keqr ?_)
        refine lv_icmp_ge (tgt := 41) hx hb gX0_ruling_1.2.1 (by decide) (fun _ => ?_) (fun c9 => absurd (Int32.le_refl _) c9)
        refine lv_iload_n hx hb gX0_ruling_2.2.2.2.1 rfl (lv_at2 hl) ?_
        refine toQ hQ0 ?_
        exact RP (v := la) hC (trivial) rfl gX0_ruling_2.2.2.2.2
      | succ nP ihP =>
        intro kP la ls hkP hl
        refine lv_iload_n hx hb gX0_ruling_0.2.2.2.2.2.2.2.1 rfl (lv_at0 hl) ?_
        refine lv_aload_n hx hb gX0_ruling_0.2.2.2.2.2.2.2.2.1 rfl (lv_at3 hl) ?_
        refine gf_X0_26 hC rfl hK hP 0 rfl rfl gX0_ruling_0.2.2.2.2.2.2.2.2.2 ?_
        refine pV hC hK hl hP hD (c_T_count l G bversions 8 3 bversionsc kbversions) si_X0_68 [1] sm_1 fm_1 nd_1 rfl rfl rfl rfl rfl (Nat.le_of_ble_eq_true rfl) rm_3_1_1 ⟨by first | exact Nat.le_of_ble_eq_true rfl | exact Nat.zero_le _, by first | exact Nat.le_of_ble_eq_true rfl | exact Nat.zero_le _⟩ gX0_ruling_1.1 (Keqr ?_)
        refine lv_icmp_ge (tgt := 41) hx hb gX0_ruling_1.2.1 (by decide) (fun c9 => absurd c9 (nI_ge (a := kP) (b := kbversions) (by omega) (by omega))) (fun _ => ?_)
        refine lv_aload_n hx hb gX0_ruling_1.2.2.1 rfl (lv_at3 hl) ?_
        refine gf_X0_26 hC rfl hK hP 0 rfl rfl gX0_ruling_1.2.2.2.1 ?_
        refine lv_iload_n hx hb gX0_ruling_1.2.2.2.2.1 rfl (lv_at0 hl) ?_
        refine lv_iconst (v := 0) hx hb gX0_ruling_1.2.2.2.2.2.1 (by decide) ?_
        refine pV hC hK hl hP hD (c_T_at l G bversions (nI kP) 0 8 3 bversionsc kbversions fbversions (hkbversions) (by omega) (by omega)) si_X0_71 [1, 2] sm_1_2 fm_1_2 nd_1_2 rfl rfl rfl rfl rfl (Nat.le_of_ble_eq_true rfl) rm_3_1_3 ⟨by first | exact Nat.le_of_ble_eq_true rfl | exact Nat.zero_le _, by first | exact Nat.le_of_ble_eq_true rfl | exact Nat.zero_le _⟩ gX0_ruling_1.2.2.2.2.2.2.1 (fun r172 hr172 => ?_)
        refine lv_iload_n hx hb gX0_ruling_1.2.2.2.2.2.2.2.1 rfl (lv_at1 hl) ?_
        refine lv_icmp_gt (tgt := 35) hx hb gX0_ruling_1.2.2.2.2.2.2.2.2.1 (by decide) (fun c_30_174 => ?_) (fun c_30_174 => ?_)
        · refine lv_iinc (v := nI (kP + 1)) (lv' := [(3, .int (nI (kP + 1))), (2, .int td), (1, .int la), (0, .ref h0)]) hx hb gX0_ruling_2.2.1 hl (k := 0) rfl (nI_1 _) (by decide) rfl (fun ls hl => ?_)
          refine lv_goto (tgt := 9) hx hb gX0_ruling_2.2.2.1 (by decide) ?_
          exact ihP (kP + 1) la _ (by omega) (lv_sub hl [0, 1, 2, 3] rfl)
        · refine lv_iload_n hx hb gX0_ruling_1.2.2.2.2.2.2.2.2.2 rfl (lv_at0 hl) ?_
          refine lv_istore_n (lv' := [(1, .int (nI kP)), (3, .int (nI kP)), (2, .int td), (0, .ref h0)]) hx hb gX0_ruling_2.1 rfl hl (by decide) rfl (fun ls hl => ?_)
          refine lv_iinc (v := nI (kP + 1)) (lv' := [(3, .int (nI (kP + 1))), (1, .int (nI kP)), (2, .int td), (0, .ref h0)]) hx hb gX0_ruling_2.2.1 hl (k := 1) rfl (nI_1 _) (by decide) rfl (fun ls hl => ?_)
          refine lv_goto (tgt := 9) hx hb gX0_ruling_2.2.2.1 (by decide) ?_
          exact ihP (kP + 1) (nI kP) _ (by omega) (lv_sub hl [0, 2, 1, 3] rfl)
    exact keyP kbversions 0 (-1) _ (by omega) (lv_sub hl [0, 1, 2, 3] rfl)
  · refine eqi (x1 := vd) hE9 ?_
    refine lv_istore_n (lv' := [(2, .int vd), (1, .int (-1)), (0, .ref h0)]) hx hb gX0_ruling_0.2.2.2.2.1 rfl hl (by decide) rfl (fun ls hl => ?_)
    refine lv_iconst (v := 0) hx hb gX0_ruling_0.2.2.2.2.2.1 (by decide) ?_
    refine lv_istore_n (lv' := [(3, .int 0), (2, .int vd), (1, .int (-1)), (0, .ref h0)]) hx hb gX0_ruling_0.2.2.2.2.2.2.1 rfl hl (by decide) rfl (fun ls hl => ?_)
    have keyP : ∀ (nP kP : Nat) (la : Int32) (ls : Array Slot), kP + nP = kbversions → lv_has ls 4 [(3, .int (nI kP)), (2, .int vd), (1, .int la), (0, .ref h0)] → W p l e (RM 3 0 0) s m ([.ref h0] : List Value).toArray below meth c s.heap [] 0 0 Q0 (F0 m 9 ls []) := by
      intro nP
      induction nP with
      | zero =>
        intro kP la ls hkP hl
        obtain rfl : kbversions = kP := by omega
        have hl : lv_has ls 4 [(3, .int (nI kbversions)), (2, .int vd), (1, .int la), (0, .ref h0)] := hl
        refine lv_iload_n hx hb gX0_ruling_0.2.2.2.2.2.2.2.1 rfl (lv_at0 hl) ?_
        refine lv_aload_n hx hb gX0_ruling_0.2.2.2.2.2.2.2.2.1 rfl (lv_at3 hl) ?_
        refine gf_X0_26 hC rfl hK hP 0 rfl rfl gX0_ruling_0.2.2.2.2.2.2.2.2.2 ?_
        refine pV hC hK hl hP hD (c_T_count l G bversions 8 3 bversionsc kbversions) si_X0_68 [1] sm_1 fm_1 nd_1 rfl rfl rfl rfl rfl (Nat.le_of_ble_eq_true rfl) rm_3_1_1 ⟨by first | exact Nat.le_of_ble_eq_true rfl | exact Nat.zero_le _, by first | exact Nat.le_of_ble_eq_true rfl | exact Nat.zero_le _⟩ gX0_ruling_1.1 (Keqr ?_)
        refine lv_icmp_ge (tgt := 41) hx hb gX0_ruling_1.2.1 (by decide) (fun _ => ?_) (fun c9 => absurd (Int32.le_refl _) c9)
        refine lv_iload_n hx hb gX0_ruling_2.2.2.2.1 rfl (lv_at2 hl) ?_
        refine toQ hQ0 ?_
        exact RP (v := la) hC (trivial) rfl gX0_ruling_2.2.2.2.2
      | succ nP ihP =>
        intro kP la ls hkP hl
        refine lv_iload_n hx hb gX0_ruling_0.2.2.2.2.2.2.2.1 rfl (lv_at0 hl) ?_
        refine lv_aload_n hx hb gX0_ruling_0.2.2.2.2.2.2.2.2.1 rfl (lv_at3 hl) ?_
        refine gf_X0_26 hC rfl hK hP 0 rfl rfl gX0_ruling_0.2.2.2.2.2.2.2.2.2 ?_
        refine pV hC hK hl hP hD (c_T_count l G bversions 8 3 bversionsc kbversions) si_X0_68 [1] sm_1 fm_1 nd_1 rfl rfl rfl rfl rfl (Nat.le_of_ble_eq_true rfl) rm_3_1_1 ⟨by first | exact Nat.le_of_ble_eq_true rfl | exact Nat.zero_le _, by first | exact Nat.le_of_ble_eq_true rfl | exact Nat.zero_le _⟩ gX0_ruling_1.1 (Keqr ?_)
        refine lv_icmp_ge (tgt := 41) hx hb gX0_ruling_1.2.1 (by decide) (fun c9 => absurd c9 (nI_ge (a := kP) (b := kbversions) (by omega) (by omega))) (fun _ => ?_)
        refine lv_aload_n hx hb gX0_ruling_1.2.2.1 rfl (lv_at3 hl) ?_
        refine gf_X0_26 hC rfl hK hP 0 rfl rfl gX0_ruling_1.2.2.2.1 ?_
        refine lv_iload_n hx hb gX0_ruling_1.2.2.2.2.1 rfl (lv_at0 hl) ?_
        refine lv_iconst (v := 0) hx hb gX0_ruling_1.2.2.2.2.2.1 (by decide) ?_
        refine pV hC hK hl hP hD (c_T_at l G bversions (nI kP) 0 8 3 bversionsc kbversions fbversions (hkbversions) (by omega) (by omega)) si_X0_71 [1, 2] sm_1_2 fm_1_2 nd_1_2 rfl rfl rfl rfl rfl (Nat.le_of_ble_eq_true rfl) rm_3_1_3 ⟨by first | exact Nat.le_of_ble_eq_true rfl | exact Nat.zero_le _, by first | exact Nat.le_of_ble_eq_true rfl | exact Nat.zero_le _⟩ gX0_ruling_1.2.2.2.2.2.2.1 (fun r179 hr179 => ?_)
        refine lv_iload_n hx hb gX0_ruling_1.2.2.2.2.2.2.2.1 rfl (lv_at1 hl) ?_
        refine lv_icmp_gt (tgt := 35) hx hb gX0_ruling_1.2.2.2.2.2.2.2.2.1 (by decide) (fun c_30_181 => ?_) (fun c_30_181 => ?_)
        · refine lv_iinc (v := nI (kP + 1)) (lv' := [(3, .int (nI (kP + 1))), (2, .int vd), (1, .int la), (0, .ref h0)]) hx hb gX0_ruling_2.2.1 hl (k := 0) rfl (nI_1 _) (by decide) rfl (fun ls hl => ?_)
          refine lv_goto (tgt := 9) hx hb gX0_ruling_2.2.2.1 (by decide) ?_
          exact ihP (kP + 1) la _ (by omega) (lv_sub hl [0, 1, 2, 3] rfl)
        · refine lv_iload_n hx hb gX0_ruling_1.2.2.2.2.2.2.2.2.2 rfl (lv_at0 hl) ?_
          refine lv_istore_n (lv' := [(1, .int (nI kP)), (3, .int (nI kP)), (2, .int vd), (0, .ref h0)]) hx hb gX0_ruling_2.1 rfl hl (by decide) rfl (fun ls hl => ?_)
          refine lv_iinc (v := nI (kP + 1)) (lv' := [(3, .int (nI (kP + 1))), (1, .int (nI kP)), (2, .int vd), (0, .ref h0)]) hx hb gX0_ruling_2.2.1 hl (k := 1) rfl (nI_1 _) (by decide) rfl (fun ls hl => ?_)
          refine lv_goto (tgt := 9) hx hb gX0_ruling_2.2.2.1 (by decide) ?_
          exact ihP (kP + 1) (nI kP) _ (by omega) (lv_sub hl [0, 2, 1, 3] rfl)
    exact keyP kbversions 0 (-1) _ (by omega) (lv_sub hl [0, 1, 2, 3] rfl)
def K_c_isWarned (l : Launch) (G : GG) (h0 : Nat) (pe : Int32) (pa : Int32) (la : Int32) (bpersons : Nat) (bpapers : Nat) (bstamps : Nat) (bversions : Nat) (blines : Nat) (bsteps : Nat) (bsayings : Nat) (bfindings : Nat) (bwarnings : Nat) (bquestions : Nat) (td : Int32) (vd : Int32) (vl : Int32) (gp : Int32) (bwarningsc : Nat) (kbwarnings : Nat) (fbwarnings : Nat → Int32) : Prop := MP l G yX0_isWarned cX0_isWarned 5 (some .boolean) 3 [.ref h0, .int pe, .int pa, .int la] [(h0, oX0 bpersons bpapers bstamps bversions blines bsteps bsayings bfindings bwarnings bquestions td vd vl gp), (bwarnings, oX8 16 3 bwarningsc (nI kbwarnings)), (bwarningsc, iA G 48 fbwarnings)] (fun r : Int32 => r = 1 ∨ r = 0)
set_option maxHeartbeats 4000000 in
set_option maxRecDepth 100000 in
theorem c_isWarned (l : Launch) (G : GG) (h0 : Nat) (pe : Int32) (pa : Int32) (la : Int32) (bpersons : Nat) (bpapers : Nat) (bstamps : Nat) (bversions : Nat) (blines : Nat) (bsteps : Nat) (bsayings : Nat) (bfindings : Nat) (bwarnings : Nat) (bquestions : Nat) (td : Int32) (vd : Int32) (vl : Int32) (gp : Int32) (bwarningsc : Nat) (kbwarnings : Nat) (fbwarnings : Nat → Int32) (hkbwarnings : kbwarnings ≤ 16) : K_c_isWarned l G h0 pe pa la bpersons bpapers bstamps bversions blines bsteps bsayings bfindings bwarnings bquestions td vd vl gp bwarningsc kbwarnings fbwarnings := by
  refine MP.start (by decide +kernel) (Nat.le_of_ble_eq_true rfl) ?_
  intro p e s m below meth c ls hC hK hP hD hl
  refine absQ (fun Q0 hQ0 => ?_)
  have hl : lv_has ls 5 [(0, .ref h0), (1, .int pe), (2, .int pa), (3, .int la)] := hl
  refine Kan8 hC (fun hx hb hr hml hB hown hlocks hnm => ?_)
  refine lv_iconst (v := 0) hx hb gX0_isWarned_0.1 (by decide) ?_
  refine lv_istore (lv' := [(4, .int 0), (0, .ref h0), (1, .int pe), (2, .int pa), (3, .int la)]) hx hb gX0_isWarned_0.2.1 hl (by decide) rfl (fun ls hl => ?_)
  have keyP : ∀ (nP kP : Nat) (ls : Array Slot), kP + nP = kbwarnings → lv_has ls 5 [(4, .int (nI kP)), (0, .ref h0), (1, .int pe), (2, .int pa), (3, .int la)] → W p l e (RM 3 0 0) s m ([.ref h0, .int pe, .int pa, .int la] : List Value).toArray below meth c s.heap [] 0 0 Q0 (F0 m 3 ls []) := by
    intro nP
    induction nP with
    | zero =>
      intro kP ls hkP hl
      obtain rfl : kbwarnings = kP := by omega
      have hl : lv_has ls 5 [(4, .int (nI kbwarnings)), (0, .ref h0), (1, .int pe), (2, .int pa), (3, .int la)] := hl
      refine lv_iload hx hb gX0_isWarned_0.2.2.1 (lv_at0 hl) ?_
      refine lv_aload_n hx hb gX0_isWarned_0.2.2.2.1 rfl (lv_at1 hl) ?_
      refine gf_X0_41 hC rfl hK hP 0 rfl rfl gX0_isWarned_0.2.2.2.2.1 ?_
      refine pV hC hK hl hP hD (c_T_count l G bwarnings 16 3 bwarningsc kbwarnings) si_X0_68 [1] sm_1 fm_1 nd_1 rfl rfl rfl rfl rfl (Nat.le_of_ble_eq_true rfl) rm_3_1_1 ⟨by first | exact Nat.le_of_ble_eq_true rfl | exact Nat.zero_le _, by first | exact Nat.le_of_ble_eq_true rfl | exact Nat.zero_le _⟩ gX0_isWarned_0.2.2.2.2.2.1 (Keqr ?_)
      refine lv_icmp_ge (tgt := 65) hx hb gX0_isWarned_0.2.2.2.2.2.2.1 (by decide) (fun _ => ?_) (fun c9 => absurd (Int32.le_refl _) c9)
      refine lv_iconst (v := 0) hx hb gX0_isWarned_3.2.2.1 (by decide) ?_
      refine toQ hQ0 ?_
      exact RP (v := 0) hC (Or.inr (rfl)) (by decide +kernel) gX0_isWarned_3.2.2.2
    | succ nP ihP =>
      intro kP ls hkP hl
      refine lv_iload hx hb gX0_isWarned_0.2.2.1 (lv_at0 hl) ?_
      refine lv_aload_n hx hb gX0_isWarned_0.2.2.2.1 rfl (lv_at1 hl) ?_
      refine gf_X0_41 hC rfl hK hP 0 rfl rfl gX0_isWarned_0.2.2.2.2.1 ?_
      refine pV hC hK hl hP hD (c_T_count l G bwarnings 16 3 bwarningsc kbwarnings) si_X0_68 [1] sm_1 fm_1 nd_1 rfl rfl rfl rfl rfl (Nat.le_of_ble_eq_true rfl) rm_3_1_1 ⟨by first | exact Nat.le_of_ble_eq_true rfl | exact Nat.zero_le _, by first | exact Nat.le_of_ble_eq_true rfl | exact Nat.zero_le _⟩ gX0_isWarned_0.2.2.2.2.2.1 (Keqr ?_)
      refine lv_icmp_ge (tgt := 65) hx hb gX0_isWarned_0.2.2.2.2.2.2.1 (by decide) (fun c9 => absurd c9 (nI_ge (a := kP) (b := kbwarnings) (by omega) (by omega))) (fun _ => ?_)
      refine lv_aload_n hx hb gX0_isWarned_0.2.2.2.2.2.2.2.1 rfl (lv_at1 hl) ?_
      refine gf_X0_41 hC rfl hK hP 0 rfl rfl gX0_isWarned_0.2.2.2.2.2.2.2.2.1 ?_
      refine lv_iload hx hb gX0_isWarned_0.2.2.2.2.2.2.2.2.2 (lv_at0 hl) ?_
      refine lv_iconst (v := 0) hx hb gX0_isWarned_1.1 (by decide) ?_
      refine pV hC hK hl hP hD (c_T_at l G bwarnings (nI kP) 0 16 3 bwarningsc kbwarnings fbwarnings (hkbwarnings) (by omega) (by omega)) si_X0_71 [1, 2] sm_1_2 fm_1_2 nd_1_2 rfl rfl rfl rfl rfl (Nat.le_of_ble_eq_true rfl) rm_3_1_3 ⟨by first | exact Nat.le_of_ble_eq_true rfl | exact Nat.zero_le _, by first | exact Nat.le_of_ble_eq_true rfl | exact Nat.zero_le _⟩ gX0_isWarned_1.2.1 (fun r186 hr186 => ?_)
      refine lv_iload_n hx hb gX0_isWarned_1.2.2.1 rfl (lv_at2 hl) ?_
      refine lv_icmp_ne (tgt := 59) hx hb gX0_isWarned_1.2.2.2.1 (by decide) (fun c_26_188 => ?_) (fun c_26_188 => ?_)
      · refine lv_iinc (v := nI (kP + 1)) (lv' := [(4, .int (nI (kP + 1))), (0, .ref h0), (1, .int pe), (2, .int pa), (3, .int la)]) hx hb gX0_isWarned_3.1 hl (k := 0) rfl (nI_1 _) (by decide) rfl (fun ls hl => ?_)
        refine lv_goto (tgt := 3) hx hb gX0_isWarned_3.2.1 (by decide) ?_
        exact ihP (kP + 1) _ (by omega) (lv_sub hl [0, 1, 2, 3, 4] rfl)
      · refine lv_aload_n hx hb gX0_isWarned_1.2.2.2.2.1 rfl (lv_at1 hl) ?_
        refine gf_X0_41 hC rfl hK hP 0 rfl rfl gX0_isWarned_1.2.2.2.2.2.1 ?_
        refine lv_iload hx hb gX0_isWarned_1.2.2.2.2.2.2.1 (lv_at0 hl) ?_
        refine lv_iconst (v := 1) hx hb gX0_isWarned_1.2.2.2.2.2.2.2.1 (by decide) ?_
        refine pV hC hK hl hP hD (c_T_at l G bwarnings (nI kP) 1 16 3 bwarningsc kbwarnings fbwarnings (hkbwarnings) (by omega) (by omega)) si_X0_71 [1, 2] sm_1_2 fm_1_2 nd_1_2 rfl rfl rfl rfl rfl (Nat.le_of_ble_eq_true rfl) rm_3_1_3 ⟨by first | exact Nat.le_of_ble_eq_true rfl | exact Nat.zero_le _, by first | exact Nat.le_of_ble_eq_true rfl | exact Nat.zero_le _⟩ gX0_isWarned_1.2.2.2.2.2.2.2.2.1 (fun r189 hr189 => ?_)
        refine lv_iload_n hx hb gX0_isWarned_1.2.2.2.2.2.2.2.2.2 rfl (lv_at3 hl) ?_
        refine lv_icmp_ne (tgt := 59) hx hb gX0_isWarned_2.1 (by decide) (fun c_40_191 => ?_) (fun c_40_191 => ?_)
        · refine lv_iinc (v := nI (kP + 1)) (lv' := [(4, .int (nI (kP + 1))), (0, .ref h0), (1, .int pe), (2, .int pa), (3, .int la)]) hx hb gX0_isWarned_3.1 hl (k := 0) rfl (nI_1 _) (by decide) rfl (fun ls hl => ?_)
          refine lv_goto (tgt := 3) hx hb gX0_isWarned_3.2.1 (by decide) ?_
          exact ihP (kP + 1) _ (by omega) (lv_sub hl [0, 1, 2, 3, 4] rfl)
        · refine lv_aload_n hx hb gX0_isWarned_2.2.1 rfl (lv_at1 hl) ?_
          refine gf_X0_41 hC rfl hK hP 0 rfl rfl gX0_isWarned_2.2.2.1 ?_
          refine lv_iload hx hb gX0_isWarned_2.2.2.2.1 (lv_at0 hl) ?_
          refine lv_iconst (v := 2) hx hb gX0_isWarned_2.2.2.2.2.1 (by decide) ?_
          refine pV hC hK hl hP hD (c_T_at l G bwarnings (nI kP) 2 16 3 bwarningsc kbwarnings fbwarnings (hkbwarnings) (by omega) (by omega)) si_X0_71 [1, 2] sm_1_2 fm_1_2 nd_1_2 rfl rfl rfl rfl rfl (Nat.le_of_ble_eq_true rfl) rm_3_1_3 ⟨by first | exact Nat.le_of_ble_eq_true rfl | exact Nat.zero_le _, by first | exact Nat.le_of_ble_eq_true rfl | exact Nat.zero_le _⟩ gX0_isWarned_2.2.2.2.2.2.1 (fun r192 hr192 => ?_)
          refine lv_iload_n hx hb gX0_isWarned_2.2.2.2.2.2.2.1 rfl (lv_at4 hl) ?_
          refine lv_icmp_gt (tgt := 59) hx hb gX0_isWarned_2.2.2.2.2.2.2.2.1 (by decide) (fun c_54_194 => ?_) (fun c_54_194 => ?_)
          · refine lv_iinc (v := nI (kP + 1)) (lv' := [(4, .int (nI (kP + 1))), (0, .ref h0), (1, .int pe), (2, .int pa), (3, .int la)]) hx hb gX0_isWarned_3.1 hl (k := 0) rfl (nI_1 _) (by decide) rfl (fun ls hl => ?_)
            refine lv_goto (tgt := 3) hx hb gX0_isWarned_3.2.1 (by decide) ?_
            exact ihP (kP + 1) _ (by omega) (lv_sub hl [0, 1, 2, 3, 4] rfl)
          · refine lv_iconst (v := 1) hx hb gX0_isWarned_2.2.2.2.2.2.2.2.2.1 (by decide) ?_
            refine toQ hQ0 ?_
            exact RP (v := 1) hC (Or.inl (rfl)) (by decide +kernel) gX0_isWarned_2.2.2.2.2.2.2.2.2.2
  exact keyP kbwarnings 0 _ (by omega) (lv_sub hl [0, 1, 2, 3, 4] rfl)
