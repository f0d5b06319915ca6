section WR
variable {p : Program} {l : Launch} {e : Env} {R : Room} {s : State} {m : MethodId} {args : Array Value} {below : List Frame} {meth : Method} {c : Code} {H : Heap} {locs : List Loc} {cells slots : Nat} {Q : State → Prop}
variable {pc : Nat} {ls : Array Slot} {rest : List Value} {G : GG} {ws : va_W} {A : Nat → Prop} {y0 : MethodName} {b0 : ByteArray} {mL0 : Nat} {rt0 : Option FieldType} {a : Nat} {H0 : Heap}
end WR
theorem le0 {k : Nat} (hk : k < 2 ^ 31) (h : nI k ≤ 0) : k = 0 := by
  have e : (0 : Int32) = nI 0 := rfl
  rw [e, nI_leI hk (by decide)] at h
  omega
theorem nI_dec1 (j : Nat) : nI j + Int32.ofInt (-1) = nI j - 1 := nI_dec j
theorem Wi127 {v : Int32} (h : Wi v 0 127) : ∃ j, j < 128 ∧ v = nI j := by
  obtain ⟨j, hj, e⟩ := Wi_nat (N := 127) (by decide) h
  exact ⟨j, by omega, e⟩
section WR
variable {p : Program} {l : Launch} {e : Env} {R : Room} {s : State} {m : MethodId} {args : Array Value} {below : List Frame} {meth : Method} {c : Code} {H : Heap} {locs : List Loc} {cells slots : Nat} {Q : State → Prop}
variable {pc : Nat} {ls : Array Slot} {rest : List Value} {G : GG} {ws : va_W} {A : Nat → Prop} {y0 : MethodName} {b0 : ByteArray} {mL0 : Nat} {rt0 : Option FieldType} {a : Nat} {H0 : Heap}
theorem gJ6_bitCount_0f7a4_0 : (decode cJ6_bitCount_0f7a4 0 = .ok (.iload_n 0, 1)) ∧ (decode cJ6_bitCount_0f7a4 1 = .ok (.iload_n 0, 1)) ∧ (decode cJ6_bitCount_0f7a4 2 = .ok (.iconst 1, 1)) ∧ (decode cJ6_bitCount_0f7a4 3 = .ok (.iushr, 1)) ∧ (decode cJ6_bitCount_0f7a4 4 = .ok (.ldc_w 265, 3)) ∧ (decode cJ6_bitCount_0f7a4 7 = .ok (.iand, 1)) ∧ (decode cJ6_bitCount_0f7a4 8 = .ok (.isub, 1)) ∧ (decode cJ6_bitCount_0f7a4 9 = .ok (.istore_n 0, 1)) ∧ (decode cJ6_bitCount_0f7a4 10 = .ok (.iload_n 0, 1)) ∧ (decode cJ6_bitCount_0f7a4 11 = .ok (.ldc_w 266, 3)) := by decide +kernel
theorem m_318 : Cond.constant RJ6 265 (1431655765) ∈ BW := iB_BW17 _ (List.mem_of_getElem? (i := 4) rfl)
theorem m_319 : Cond.constant RJ6 266 (858993459) ∈ BW := iB_BW17 _ (List.mem_of_getElem? (i := 5) rfl)
theorem gJ6_bitCount_0f7a4_1 : (decode cJ6_bitCount_0f7a4 14 = .ok (.iand, 1)) ∧ (decode cJ6_bitCount_0f7a4 15 = .ok (.iload_n 0, 1)) ∧ (decode cJ6_bitCount_0f7a4 16 = .ok (.iconst 2, 1)) ∧ (decode cJ6_bitCount_0f7a4 17 = .ok (.iushr, 1)) ∧ (decode cJ6_bitCount_0f7a4 18 = .ok (.ldc_w 266, 3)) ∧ (decode cJ6_bitCount_0f7a4 21 = .ok (.iand, 1)) ∧ (decode cJ6_bitCount_0f7a4 22 = .ok (.iadd, 1)) ∧ (decode cJ6_bitCount_0f7a4 23 = .ok (.istore_n 0, 1)) ∧ (decode cJ6_bitCount_0f7a4 24 = .ok (.iload_n 0, 1)) ∧ (decode cJ6_bitCount_0f7a4 25 = .ok (.iload_n 0, 1)) := by decide +kernel
theorem gJ6_bitCount_0f7a4_2 : (decode cJ6_bitCount_0f7a4 26 = .ok (.iconst 4, 1)) ∧ (decode cJ6_bitCount_0f7a4 27 = .ok (.iushr, 1)) ∧ (decode cJ6_bitCount_0f7a4 28 = .ok (.iadd, 1)) ∧ (decode cJ6_bitCount_0f7a4 29 = .ok (.ldc_w 267, 3)) ∧ (decode cJ6_bitCount_0f7a4 32 = .ok (.iand, 1)) ∧ (decode cJ6_bitCount_0f7a4 33 = .ok (.istore_n 0, 1)) ∧ (decode cJ6_bitCount_0f7a4 34 = .ok (.iload_n 0, 1)) ∧ (decode cJ6_bitCount_0f7a4 35 = .ok (.iload_n 0, 1)) ∧ (decode cJ6_bitCount_0f7a4 36 = .ok (.bipush 8, 2)) ∧ (decode cJ6_bitCount_0f7a4 38 = .ok (.iushr, 1)) := by decide +kernel
theorem m_320 : Cond.constant RJ6 267 (252645135) ∈ BW := iB_BW17 _ (List.mem_of_getElem? (i := 6) rfl)
theorem gJ6_bitCount_0f7a4_3 : (decode cJ6_bitCount_0f7a4 39 = .ok (.iadd, 1)) ∧ (decode cJ6_bitCount_0f7a4 40 = .ok (.istore_n 0, 1)) ∧ (decode cJ6_bitCount_0f7a4 41 = .ok (.iload_n 0, 1)) ∧ (decode cJ6_bitCount_0f7a4 42 = .ok (.iload_n 0, 1)) ∧ (decode cJ6_bitCount_0f7a4 43 = .ok (.bipush 16, 2)) ∧ (decode cJ6_bitCount_0f7a4 45 = .ok (.iushr, 1)) ∧ (decode cJ6_bitCount_0f7a4 46 = .ok (.iadd, 1)) ∧ (decode cJ6_bitCount_0f7a4 47 = .ok (.istore_n 0, 1)) ∧ (decode cJ6_bitCount_0f7a4 48 = .ok (.iload_n 0, 1)) ∧ (decode cJ6_bitCount_0f7a4 49 = .ok (.bipush 63, 2)) := by decide +kernel
theorem gJ6_bitCount_0f7a4_4 : (decode cJ6_bitCount_0f7a4 51 = .ok (.iand, 1)) ∧ (decode cJ6_bitCount_0f7a4 52 = .ok (.ireturn, 1)) := by decide +kernel
theorem gX8_cut_0 : (decode cX8_cut 0 = .ok (.iload_n 1, 1)) ∧ (decode cX8_cut 1 = .ok (.ifCond .lt 16, 3)) ∧ (decode cX8_cut 4 = .ok (.iload_n 1, 1)) ∧ (decode cX8_cut 5 = .ok (.aload_n 0, 1)) ∧ (decode cX8_cut 6 = .ok (.getfield 28, 3)) ∧ (decode cX8_cut 9 = .ok (.if_icmp .ge 8, 3)) ∧ (decode cX8_cut 12 = .ok (.aload_n 0, 1)) ∧ (decode cX8_cut 13 = .ok (.iload_n 1, 1)) ∧ (decode cX8_cut 14 = .ok (.putfield 28, 3)) ∧ (decode cX8_cut 17 = .ok (.return_, 1)) := by decide +kernel
theorem gX5_lengthOf_0 : (decode cX5_lengthOf 0 = .ok (.aload_n 0, 1)) ∧ (decode cX5_lengthOf 1 = .ok (.getfield 24, 3)) ∧ (decode cX5_lengthOf 4 = .ok (.getfield 39, 3)) ∧ (decode cX5_lengthOf 7 = .ok (.iload_n 1, 1)) ∧ (decode cX5_lengthOf 8 = .ok (.iconst 0, 1)) ∧ (decode cX5_lengthOf 9 = .ok (.invokevirtual 44, 3)) ∧ (decode cX5_lengthOf 12 = .ok (.ireturn, 1)) := by decide +kernel
theorem in_X5 : ∀ w ∈ wsX50, w ∈ BW := iB_wsX50
theorem m_245 : Cond.fieldLink RX5 24 "InquiryBench$Round" "book" "LInquiryBench$Book;" ∈ BW := iB_BW13 _ (List.mem_of_getElem? (i := 11) rfl)
theorem gf_X5_24 (hC : CX p s m meth c y0 b0 mL0 rt0 args) (hy0 : y0.cls = RX5) (hK : KK G s) (hP : va_P G.1 vwCl ws H) (q0 : Nat) {fs : List Value} {v : Value} (he : ws[q0]? = some (a, .inr (5, fs))) (hv : fs[0]? = some v) (hdg : decode b0 pc = .ok (.getfield 24, 3)) (kk : W p l e R s m args below meth c H locs cells slots Q (F0 m (pc + 3) ls (v :: rest))) : W p l e R s m args below meth c H locs cells slots Q (F0 m pc ls (.ref a :: rest)) := by
  obtain ⟨hx, hb, hr, hml, hB, hown, hlocks, hnm⟩ := hC
  rw [hy0] at hown
  exact va_get (ci := 5) (C := RX5) (T := TX5) (N := 6) hx hb hB in_X5 hown hK.1 hP q0 he rfl 0 (by decide) (hB _ m_245) (fun _ h => h) hv hdg kk
theorem nm_28 : Cond.fieldLinkNest RX5 39 RX0 "questions" "LInquiryBench$Table;" RX11 ∈ NestW := List.mem_of_getElem? (i := 28) rfl
theorem gf_X5_39 (hC : CX p s m meth c y0 b0 mL0 rt0 args) (hy0 : y0.cls = RX5) (hK : KK G s) (hP : va_P G.1 vwCl ws H) (q0 : Nat) {fs : List Value} {v : Value} (he : ws[q0]? = some (a, .inr (0, fs))) (hv : fs[9]? = some v) (hdg : decode b0 pc = .ok (.getfield 39, 3)) (kk : W p l e R s m args below meth c H locs cells slots Q (F0 m (pc + 3) ls (v :: rest))) : W p l e R s m args below meth c H locs cells slots Q (F0 m pc ls (.ref a :: rest)) := by
  obtain ⟨hx, hb, hr, hml, hB, hown, hlocks, hnm⟩ := hC
  rw [hy0] at hown
  exact va_getN (ci := 0) (C := RX0) (T := TX0) (N := 14) hx hb hB in_X0 hown hK.1 hP q0 he rfl 9 (by decide) (va_Nw.use rfl (hK.2.1 _ nm_28)) (fun _ h => h) hv hdg kk
theorem m_850 : Cond.methodLink RX5 44 yX8_at ∈ BW := iB_BW45 _ (List.mem_of_getElem? (i := 19) rfl)
theorem si_X5_44 : SV RX5 RX8 44 yX8_at cX8_at 3 (some .int) 2 := ⟨⟨m_850, m_312, m_313, m_104, m_314⟩, rfl, nK_RX8.1, nK_RX8.2, pd_2⟩
theorem gX5_costBehind_0 : (decode cX5_costBehind 0 = .ok (.aload_n 0, 1)) ∧ (decode cX5_costBehind 1 = .ok (.iload_n 2, 1)) ∧ (decode cX5_costBehind 2 = .ok (.invokevirtual 61, 3)) ∧ (decode cX5_costBehind 5 = .ok (.istore_n 3, 1)) ∧ (decode cX5_costBehind 6 = .ok (.iconst 0, 1)) ∧ (decode cX5_costBehind 7 = .ok (.istore 4, 2)) ∧ (decode cX5_costBehind 9 = .ok (.iload_n 1, 1)) ∧ (decode cX5_costBehind 10 = .ok (.iconst 1, 1)) ∧ (decode cX5_costBehind 11 = .ok (.iload_n 2, 1)) ∧ (decode cX5_costBehind 12 = .ok (.ishl, 1)) := by decide +kernel
theorem m_849 : Cond.code yX5_lengthOf cX5_lengthOf 2 (some .int) ∈ BW := iB_BW45 _ (List.mem_of_getElem? (i := 18) rfl)
theorem m_112 : Cond.initialized RX5 ∈ BW := iB_BW6 _ (List.mem_of_getElem? (i := 10) rfl)
theorem nK_RX5 : RX5 ≠ "java/lang/invoke/MethodHandle" ∧ RX5 ≠ "java/lang/invoke/VarHandle" := ⟨by decide +kernel, by decide +kernel⟩
theorem m_847 : Cond.methodLink RX5 61 yX5_lengthOf ∈ BW := iB_BW45 _ (List.mem_of_getElem? (i := 16) rfl)
theorem m_848 : Cond.instanceMethod yX5_lengthOf ∈ BW := iB_BW45 _ (List.mem_of_getElem? (i := 17) rfl)
theorem m_40 : Cond.selects RX5 yX5_lengthOf yX5_lengthOf ∈ BW := iB_BW2 _ (List.mem_of_getElem? (i := 0) rfl)
theorem si_X5_61 : SV RX5 RX5 61 yX5_lengthOf cX5_lengthOf 2 (some .int) 1 := ⟨⟨m_847, m_848, m_40, m_112, m_849⟩, rfl, nK_RX5.1, nK_RX5.2, pd_7⟩
theorem gX5_costBehind_1 : (decode cX5_costBehind 13 = .ok (.ior, 1)) ∧ (decode cX5_costBehind 14 = .ok (.istore 5, 2)) ∧ (decode cX5_costBehind 16 = .ok (.iconst 0, 1)) ∧ (decode cX5_costBehind 17 = .ok (.istore 6, 2)) ∧ (decode cX5_costBehind 19 = .ok (.iload 6, 2)) ∧ (decode cX5_costBehind 21 = .ok (.bipush 7, 2)) ∧ (decode cX5_costBehind 23 = .ok (.if_icmp .ge 48, 3)) ∧ (decode cX5_costBehind 26 = .ok (.iload_n 1, 1)) ∧ (decode cX5_costBehind 27 = .ok (.iload 6, 2)) ∧ (decode cX5_costBehind 29 = .ok (.invokestatic 64, 3)) := by decide +kernel
theorem gX5_costBehind_3 : (decode cX5_costBehind 50 = .ok (.getfield 24, 3)) ∧ (decode cX5_costBehind 53 = .ok (.getfield 39, 3)) ∧ (decode cX5_costBehind 56 = .ok (.iload 6, 2)) ∧ (decode cX5_costBehind 58 = .ok (.iconst 1, 1)) ∧ (decode cX5_costBehind 59 = .ok (.invokevirtual 44, 3)) ∧ (decode cX5_costBehind 62 = .ok (.ior, 1)) ∧ (decode cX5_costBehind 63 = .ok (.istore 4, 2)) ∧ (decode cX5_costBehind 65 = .ok (.iinc 6 1, 3)) ∧ (decode cX5_costBehind 68 = .ok (.goto (-49), 3)) ∧ (decode cX5_costBehind 71 = .ok (.aload_n 0, 1)) := by decide +kernel
theorem gX5_costBehind_4 : (decode cX5_costBehind 72 = .ok (.getfield 24, 3)) ∧ (decode cX5_costBehind 75 = .ok (.getfield 39, 3)) ∧ (decode cX5_costBehind 78 = .ok (.iload_n 2, 1)) ∧ (decode cX5_costBehind 79 = .ok (.iconst 1, 1)) ∧ (decode cX5_costBehind 80 = .ok (.invokevirtual 44, 3)) ∧ (decode cX5_costBehind 83 = .ok (.iload 4, 2)) ∧ (decode cX5_costBehind 85 = .ok (.iconst (-1), 1)) ∧ (decode cX5_costBehind 86 = .ok (.ixor, 1)) ∧ (decode cX5_costBehind 87 = .ok (.iand, 1)) ∧ (decode cX5_costBehind 88 = .ok (.invokestatic 68, 3)) := by decide +kernel
theorem m_317 : Cond.code yJ6_bitCount_0f7a4 cJ6_bitCount_0f7a4 1 (some .int) ∈ BW := iB_BW17 _ (List.mem_of_getElem? (i := 3) rfl)
theorem m_116 : Cond.initialized RJ6 ∈ BW := iB_BW6 _ (List.mem_of_getElem? (i := 14) rfl)
theorem nK_RJ6 : RJ6 ≠ "java/lang/invoke/MethodHandle" ∧ RJ6 ≠ "java/lang/invoke/VarHandle" := ⟨by decide +kernel, by decide +kernel⟩
theorem m_851 : Cond.methodLink RX5 68 yJ6_bitCount_0f7a4 ∈ BW := iB_BW46 _ (List.mem_of_getElem? (i := 0) rfl)
theorem m_316 : Cond.static yJ6_bitCount_0f7a4 ∈ BW := iB_BW17 _ (List.mem_of_getElem? (i := 2) rfl)
theorem si_X5_68 : SS RX5 68 yJ6_bitCount_0f7a4 cJ6_bitCount_0f7a4 1 (some .int) 1 := ⟨⟨m_851, m_316, m_116, m_317⟩, ⟨nK_RJ6.1, nK_RJ6.2, pd_7⟩⟩
theorem gX5_costBehind_5 : (decode cX5_costBehind 91 = .ok (.istore 6, 2)) ∧ (decode cX5_costBehind 93 = .ok (.iload_n 3, 1)) ∧ (decode cX5_costBehind 94 = .ok (.iload 6, 2)) ∧ (decode cX5_costBehind 96 = .ok (.imul, 1)) ∧ (decode cX5_costBehind 97 = .ok (.iload 5, 2)) ∧ (decode cX5_costBehind 99 = .ok (.iconst 0, 1)) ∧ (decode cX5_costBehind 100 = .ok (.aload_n 0, 1)) ∧ (decode cX5_costBehind 101 = .ok (.getfield 20, 3)) ∧ (decode cX5_costBehind 104 = .ok (.arraylength, 1)) ∧ (decode cX5_costBehind 105 = .ok (.iconst 1, 1)) := by decide +kernel
theorem m_247 : Cond.fieldLink RX5 20 "InquiryBench$Round" "toCome" "[I" ∈ BW := iB_BW13 _ (List.mem_of_getElem? (i := 13) rfl)
theorem gf_X5_20 (hC : CX p s m meth c y0 b0 mL0 rt0 args) (hy0 : y0.cls = RX5) (hK : KK G s) (hP : va_P G.1 vwCl ws H) (q0 : Nat) {fs : List Value} {v : Value} (he : ws[q0]? = some (a, .inr (5, fs))) (hv : fs[2]? = some v) (hdg : decode b0 pc = .ok (.getfield 20, 3)) (kk : W p l e R s m args below meth c H locs cells slots Q (F0 m (pc + 3) ls (v :: rest))) : W p l e R s m args below meth c H locs cells slots Q (F0 m pc ls (.ref a :: rest)) := by
  obtain ⟨hx, hb, hr, hml, hB, hown, hlocks, hnm⟩ := hC
  rw [hy0] at hown
  exact va_get (ci := 5) (C := RX5) (T := TX5) (N := 6) hx hb hB in_X5 hown hK.1 hP q0 he rfl 2 (by decide) (hB _ m_247) (fun _ h => h) hv hdg kk
theorem gX5_costBehind_6 : (decode cX5_costBehind 106 = .ok (.isub, 1)) ∧ (decode cX5_costBehind 107 = .ok (.invokestatic 73, 3)) ∧ (decode cX5_costBehind 110 = .ok (.ifCond .eq 13, 3)) ∧ (decode cX5_costBehind 113 = .ok (.aload_n 0, 1)) ∧ (decode cX5_costBehind 114 = .ok (.getfield 20, 3)) ∧ (decode cX5_costBehind 117 = .ok (.iload 5, 2)) ∧ (decode cX5_costBehind 119 = .ok (.iaload, 1)) ∧ (decode cX5_costBehind 120 = .ok (.goto 4, 3)) ∧ (decode cX5_costBehind 123 = .ok (.iconst 0, 1)) ∧ (decode cX5_costBehind 124 = .ok (.iadd, 1)) := by decide +kernel
theorem nm_53 : Cond.methodLinkNest RX5 73 yX11_within RX11 ∈ NestW := List.mem_of_getElem? (i := 53) rfl
theorem si_X5_73 : SSN RX5 RX11 73 yX11_within cX11_within 3 (some .boolean) 3 := ⟨⟨nm_53, m_293, m_102, m_294⟩, ⟨nK_RX11.1, nK_RX11.2, pd_0⟩⟩
theorem gX5_costBehind_7 : (decode cX5_costBehind 125 = .ok (.ireturn, 1)) := by decide +kernel
theorem nm_52 : Cond.methodLinkNest RX5 64 yX11_hasBit RX11 ∈ NestW := List.mem_of_getElem? (i := 52) rfl
theorem si_X5_64 : SSN RX5 RX11 64 yX11_hasBit cX11_hasBit 2 (some .boolean) 2 := ⟨⟨nm_52, m_350, m_102, m_351⟩, ⟨nK_RX11.1, nK_RX11.2, pd_3⟩⟩
theorem gX5_costBehind_2 : (decode cX5_costBehind 32 = .ok (.ifCond .ne 6, 3)) ∧ (decode cX5_costBehind 35 = .ok (.goto 30, 3)) ∧ (decode cX5_costBehind 38 = .ok (.iload_n 3, 1)) ∧ (decode cX5_costBehind 39 = .ok (.aload_n 0, 1)) ∧ (decode cX5_costBehind 40 = .ok (.iload 6, 2)) ∧ (decode cX5_costBehind 42 = .ok (.invokevirtual 61, 3)) ∧ (decode cX5_costBehind 45 = .ok (.iadd, 1)) ∧ (decode cX5_costBehind 46 = .ok (.istore_n 3, 1)) ∧ (decode cX5_costBehind 47 = .ok (.iload 4, 2)) ∧ (decode cX5_costBehind 49 = .ok (.aload_n 0, 1)) := by decide +kernel
theorem gX5_nextBehind_0 : (decode cX5_nextBehind 0 = .ok (.iconst 0, 1)) ∧ (decode cX5_nextBehind 1 = .ok (.istore_n 2, 1)) ∧ (decode cX5_nextBehind 2 = .ok (.ldc 77, 2)) ∧ (decode cX5_nextBehind 4 = .ok (.istore_n 3, 1)) ∧ (decode cX5_nextBehind 5 = .ok (.iconst 0, 1)) ∧ (decode cX5_nextBehind 6 = .ok (.istore 4, 2)) ∧ (decode cX5_nextBehind 8 = .ok (.iload 4, 2)) ∧ (decode cX5_nextBehind 10 = .ok (.bipush 7, 2)) ∧ (decode cX5_nextBehind 12 = .ok (.if_icmp .ge 52, 3)) ∧ (decode cX5_nextBehind 15 = .ok (.aload_n 0, 1)) := by decide +kernel
theorem m_843 : Cond.constant RX5 77 (1000000) ∈ BW := iB_BW45 _ (List.mem_of_getElem? (i := 12) rfl)
theorem gX5_nextBehind_3 : (decode cX5_nextBehind 55 = .ok (.iload 4, 2)) ∧ (decode cX5_nextBehind 57 = .ok (.istore_n 2, 1)) ∧ (decode cX5_nextBehind 58 = .ok (.iinc 4 1, 3)) ∧ (decode cX5_nextBehind 61 = .ok (.goto (-53), 3)) ∧ (decode cX5_nextBehind 64 = .ok (.iload_n 2, 1)) ∧ (decode cX5_nextBehind 65 = .ok (.ireturn, 1)) := by decide +kernel
theorem gX5_nextBehind_1 : (decode cX5_nextBehind 16 = .ok (.getfield 28, 3)) ∧ (decode cX5_nextBehind 19 = .ok (.iload_n 1, 1)) ∧ (decode cX5_nextBehind 20 = .ok (.iconst (-1), 1)) ∧ (decode cX5_nextBehind 21 = .ok (.ixor, 1)) ∧ (decode cX5_nextBehind 22 = .ok (.iand, 1)) ∧ (decode cX5_nextBehind 23 = .ok (.iload 4, 2)) ∧ (decode cX5_nextBehind 25 = .ok (.invokestatic 64, 3)) ∧ (decode cX5_nextBehind 28 = .ok (.ifCond .ne 6, 3)) ∧ (decode cX5_nextBehind 31 = .ok (.goto 27, 3)) ∧ (decode cX5_nextBehind 34 = .ok (.aload_n 0, 1)) := by decide +kernel
theorem m_248 : Cond.fieldLink RX5 28 "InquiryBench$Round" "asked" "I" ∈ BW := iB_BW13 _ (List.mem_of_getElem? (i := 14) rfl)
theorem gf_X5_28 (hC : CX p s m meth c y0 b0 mL0 rt0 args) (hy0 : y0.cls = RX5) (hK : KK G s) (hP : va_P G.1 vwCl ws H) (q0 : Nat) {fs : List Value} {v : Value} (he : ws[q0]? = some (a, .inr (5, fs))) (hv : fs[3]? = some v) (hdg : decode b0 pc = .ok (.getfield 28, 3)) (kk : W p l e R s m args below meth c H locs cells slots Q (F0 m (pc + 3) ls (v :: rest))) : W p l e R s m args below meth c H locs cells slots Q (F0 m pc ls (.ref a :: rest)) := by
  obtain ⟨hx, hb, hr, hml, hB, hown, hlocks, hnm⟩ := hC
  rw [hy0] at hown
  exact va_get (ci := 5) (C := RX5) (T := TX5) (N := 6) hx hb hB in_X5 hown hK.1 hP q0 he rfl 3 (by decide) (hB _ m_248) (fun _ h => h) hv hdg kk
theorem gX5_nextBehind_2 : (decode cX5_nextBehind 35 = .ok (.iload_n 1, 1)) ∧ (decode cX5_nextBehind 36 = .ok (.iload 4, 2)) ∧ (decode cX5_nextBehind 38 = .ok (.invokevirtual 55, 3)) ∧ (decode cX5_nextBehind 41 = .ok (.istore 5, 2)) ∧ (decode cX5_nextBehind 43 = .ok (.iload 5, 2)) ∧ (decode cX5_nextBehind 45 = .ok (.iload_n 3, 1)) ∧ (decode cX5_nextBehind 46 = .ok (.if_icmp .lt 6, 3)) ∧ (decode cX5_nextBehind 49 = .ok (.goto 9, 3)) ∧ (decode cX5_nextBehind 52 = .ok (.iload 5, 2)) ∧ (decode cX5_nextBehind 54 = .ok (.istore_n 3, 1)) := by decide +kernel
theorem m_846 : Cond.code yX5_costBehind cX5_costBehind 7 (some .int) ∈ BW := iB_BW45 _ (List.mem_of_getElem? (i := 15) rfl)
theorem m_844 : Cond.methodLink RX5 55 yX5_costBehind ∈ BW := iB_BW45 _ (List.mem_of_getElem? (i := 13) rfl)
theorem m_845 : Cond.instanceMethod yX5_costBehind ∈ BW := iB_BW45 _ (List.mem_of_getElem? (i := 14) rfl)
theorem m_39 : Cond.selects RX5 yX5_costBehind yX5_costBehind ∈ BW := iB_BW1 _ (List.mem_of_getElem? (i := 19) rfl)
theorem si_X5_55 : SV RX5 RX5 55 yX5_costBehind cX5_costBehind 7 (some .int) 2 := ⟨⟨m_844, m_845, m_39, m_112, m_846⟩, rfl, nK_RX5.1, nK_RX5.2, pd_2⟩
theorem gX5_tellRows_0 : (decode cX5_tellRows 0 = .ok (.aload_n 0, 1)) ∧ (decode cX5_tellRows 1 = .ok (.getfield 14, 3)) ∧ (decode cX5_tellRows 4 = .ok (.iconst 0, 1)) ∧ (decode cX5_tellRows 5 = .ok (.invokevirtual 78, 3)) ∧ (decode cX5_tellRows 8 = .ok (.iconst 0, 1)) ∧ (decode cX5_tellRows 9 = .ok (.istore_n 1, 1)) ∧ (decode cX5_tellRows 10 = .ok (.aload_n 0, 1)) ∧ (decode cX5_tellRows 11 = .ok (.getfield 32, 3)) ∧ (decode cX5_tellRows 14 = .ok (.istore_n 2, 1)) ∧ (decode cX5_tellRows 15 = .ok (.iconst 0, 1)) := by decide +kernel
theorem m_246 : Cond.fieldLink RX5 14 "InquiryBench$Round" "rows" "LInquiryBench$Table;" ∈ BW := iB_BW13 _ (List.mem_of_getElem? (i := 12) rfl)
theorem gf_X5_14 (hC : CX p s m meth c y0 b0 mL0 rt0 args) (hy0 : y0.cls = RX5) (hK : KK G s) (hP : va_P G.1 vwCl ws H) (q0 : Nat) {fs : List Value} {v : Value} (he : ws[q0]? = some (a, .inr (5, fs))) (hv : fs[1]? = some v) (hdg : decode b0 pc = .ok (.getfield 14, 3)) (kk : W p l e R s m args below meth c H locs cells slots Q (F0 m (pc + 3) ls (v :: rest))) : W p l e R s m args below meth c H locs cells slots Q (F0 m pc ls (.ref a :: rest)) := by
  obtain ⟨hx, hb, hr, hml, hB, hown, hlocks, hnm⟩ := hC
  rw [hy0] at hown
  exact va_get (ci := 5) (C := RX5) (T := TX5) (N := 6) hx hb hB in_X5 hown hK.1 hP q0 he rfl 1 (by decide) (hB _ m_246) (fun _ h => h) hv hdg kk
theorem m_623 : Cond.code yX8_cut cX8_cut 2 none ∈ BW := iB_BW34 _ (List.mem_of_getElem? (i := 3) rfl)
theorem pd_18 : (parseMethodDescriptor "(I)V").map (fun d => d.parameters.length) = some 1 := by decide +kernel
theorem m_855 : Cond.methodLink RX5 78 yX8_cut ∈ BW := iB_BW46 _ (List.mem_of_getElem? (i := 4) rfl)
theorem m_621 : Cond.instanceMethod yX8_cut ∈ BW := iB_BW34 _ (List.mem_of_getElem? (i := 1) rfl)
theorem m_622 : Cond.selects RX8 yX8_cut yX8_cut ∈ BW := iB_BW34 _ (List.mem_of_getElem? (i := 2) rfl)
theorem si_X5_78 : SV RX5 RX8 78 yX8_cut cX8_cut 2 none 1 := ⟨⟨m_855, m_621, m_622, m_104, m_623⟩, rfl, nK_RX8.1, nK_RX8.2, pd_18⟩
theorem m_249 : Cond.fieldLink RX5 32 "InquiryBench$Round" "start" "I" ∈ BW := iB_BW13 _ (List.mem_of_getElem? (i := 15) rfl)
theorem gf_X5_32 (hC : CX p s m meth c y0 b0 mL0 rt0 args) (hy0 : y0.cls = RX5) (hK : KK G s) (hP : va_P G.1 vwCl ws H) (q0 : Nat) {fs : List Value} {v : Value} (he : ws[q0]? = some (a, .inr (5, fs))) (hv : fs[4]? = some v) (hdg : decode b0 pc = .ok (.getfield 32, 3)) (kk : W p l e R s m args below meth c H locs cells slots Q (F0 m (pc + 3) ls (v :: rest))) : W p l e R s m args below meth c H locs cells slots Q (F0 m pc ls (.ref a :: rest)) := by
  obtain ⟨hx, hb, hr, hml, hB, hown, hlocks, hnm⟩ := hC
  rw [hy0] at hown
  exact va_get (ci := 5) (C := RX5) (T := TX5) (N := 6) hx hb hB in_X5 hown hK.1 hP q0 he rfl 4 (by decide) (hB _ m_249) (fun _ h => h) hv hdg kk
theorem gX5_tellRows_1 : (decode cX5_tellRows 16 = .ok (.istore_n 3, 1)) ∧ (decode cX5_tellRows 17 = .ok (.iload_n 3, 1)) ∧ (decode cX5_tellRows 18 = .ok (.bipush 7, 2)) ∧ (decode cX5_tellRows 20 = .ok (.if_icmp .ge 72, 3)) ∧ (decode cX5_tellRows 23 = .ok (.iload_n 1, 1)) ∧ (decode cX5_tellRows 24 = .ok (.aload_n 0, 1)) ∧ (decode cX5_tellRows 25 = .ok (.getfield 28, 3)) ∧ (decode cX5_tellRows 28 = .ok (.if_icmp .eq 64, 3)) ∧ (decode cX5_tellRows 31 = .ok (.aload_n 0, 1)) ∧ (decode cX5_tellRows 32 = .ok (.iload_n 1, 1)) := by decide +kernel
theorem gX5_tellRows_5 : (decode cX5_tellRows 86 = .ok (.iinc 3 1, 3)) ∧ (decode cX5_tellRows 89 = .ok (.goto (-72), 3)) ∧ (decode cX5_tellRows 92 = .ok (.return_, 1)) := by decide +kernel
theorem gX5_tellRows_2 : (decode cX5_tellRows 33 = .ok (.invokevirtual 51, 3)) ∧ (decode cX5_tellRows 36 = .ok (.istore 4, 2)) ∧ (decode cX5_tellRows 38 = .ok (.iload_n 1, 1)) ∧ (decode cX5_tellRows 39 = .ok (.iconst 1, 1)) ∧ (decode cX5_tellRows 40 = .ok (.iload 4, 2)) ∧ (decode cX5_tellRows 42 = .ok (.ishl, 1)) ∧ (decode cX5_tellRows 43 = .ok (.ior, 1)) ∧ (decode cX5_tellRows 44 = .ok (.istore_n 1, 1)) ∧ (decode cX5_tellRows 45 = .ok (.iload_n 2, 1)) ∧ (decode cX5_tellRows 46 = .ok (.aload_n 0, 1)) := by decide +kernel
theorem m_842 : Cond.code yX5_nextBehind cX5_nextBehind 6 (some .int) ∈ BW := iB_BW45 _ (List.mem_of_getElem? (i := 11) rfl)
theorem m_840 : Cond.methodLink RX5 51 yX5_nextBehind ∈ BW := iB_BW45 _ (List.mem_of_getElem? (i := 9) rfl)
theorem m_841 : Cond.instanceMethod yX5_nextBehind ∈ BW := iB_BW45 _ (List.mem_of_getElem? (i := 10) rfl)
theorem m_38 : Cond.selects RX5 yX5_nextBehind yX5_nextBehind ∈ BW := iB_BW1 _ (List.mem_of_getElem? (i := 18) rfl)
theorem si_X5_51 : SV RX5 RX5 51 yX5_nextBehind cX5_nextBehind 6 (some .int) 1 := ⟨⟨m_840, m_841, m_38, m_112, m_842⟩, rfl, nK_RX5.1, nK_RX5.2, pd_7⟩
theorem gX5_tellRows_3 : (decode cX5_tellRows 47 = .ok (.iload 4, 2)) ∧ (decode cX5_tellRows 49 = .ok (.invokevirtual 61, 3)) ∧ (decode cX5_tellRows 52 = .ok (.iadd, 1)) ∧ (decode cX5_tellRows 53 = .ok (.istore_n 2, 1)) ∧ (decode cX5_tellRows 54 = .ok (.aload_n 0, 1)) ∧ (decode cX5_tellRows 55 = .ok (.getfield 14, 3)) ∧ (decode cX5_tellRows 58 = .ok (.invokevirtual 82, 3)) ∧ (decode cX5_tellRows 61 = .ok (.istore 5, 2)) ∧ (decode cX5_tellRows 63 = .ok (.aload_n 0, 1)) ∧ (decode cX5_tellRows 64 = .ok (.getfield 14, 3)) := by decide +kernel
theorem m_856 : Cond.methodLink RX5 82 yX8_append ∈ BW := iB_BW46 _ (List.mem_of_getElem? (i := 5) rfl)
theorem si_X5_82 : SV RX5 RX8 82 yX8_append cX8_append 1 (some .int) 0 := ⟨⟨m_856, m_330, m_331, m_104, m_332⟩, rfl, nK_RX8.1, nK_RX8.2, pd_1⟩
theorem gX5_tellRows_4 : (decode cX5_tellRows 67 = .ok (.iload 5, 2)) ∧ (decode cX5_tellRows 69 = .ok (.iconst 0, 1)) ∧ (decode cX5_tellRows 70 = .ok (.iload 4, 2)) ∧ (decode cX5_tellRows 72 = .ok (.invokevirtual 86, 3)) ∧ (decode cX5_tellRows 75 = .ok (.aload_n 0, 1)) ∧ (decode cX5_tellRows 76 = .ok (.getfield 14, 3)) ∧ (decode cX5_tellRows 79 = .ok (.iload 5, 2)) ∧ (decode cX5_tellRows 81 = .ok (.iconst 1, 1)) ∧ (decode cX5_tellRows 82 = .ok (.iload_n 2, 1)) ∧ (decode cX5_tellRows 83 = .ok (.invokevirtual 86, 3)) := by decide +kernel
theorem m_857 : Cond.methodLink RX5 86 yX8_set ∈ BW := iB_BW46 _ (List.mem_of_getElem? (i := 6) rfl)
theorem si_X5_86 : SV RX5 RX8 86 yX8_set cX8_set 4 none 3 := ⟨⟨m_857, m_334, m_335, m_104, m_336⟩, rfl, nK_RX8.1, nK_RX8.2, pd_4⟩
theorem gX5_order_0 : (decode cX5_order 0 = .ok (.aload_n 0, 1)) ∧ (decode cX5_order 1 = .ok (.iload_n 1, 1)) ∧ (decode cX5_order 2 = .ok (.aload_n 0, 1)) ∧ (decode cX5_order 3 = .ok (.getfield 20, 3)) ∧ (decode cX5_order 6 = .ok (.arraylength, 1)) ∧ (decode cX5_order 7 = .ok (.iconst 1, 1)) ∧ (decode cX5_order 8 = .ok (.isub, 1)) ∧ (decode cX5_order 9 = .ok (.iand, 1)) ∧ (decode cX5_order 10 = .ok (.putfield 28, 3)) ∧ (decode cX5_order 13 = .ok (.aload_n 0, 1)) := by decide +kernel
theorem pf_X5_28 (hC : CX p s m meth c y0 b0 mL0 rt0 args) (hy0 : y0.cls = RX5) (hK : KK G s) (hP : va_P G.1 vwCl ws H) (hD : va_D A ws) (hS : va_S A H0 H locs) (q0 : Nat) {fs : List Value} {v : Value} {ws' : va_W} (he : ws[q0]? = some (a, .inr (5, fs))) (hl : 3 < fs.length) (hws : ws.set q0 (a, .inr (5, fs.set 3 v)) = ws') (hn : narrow .int v = v) (hfit : fits .int v = true) (hdg : decode b0 pc = .ok (.putfield 28, 3)) (kk : ∀ (H1 : Heap) (locs1 : List Loc), va_P G.1 vwCl ws' H1 → va_D A ws' → va_S A H0 H1 locs1 → W p l e R s m args below meth c H1 locs1 cells slots Q (F0 m (pc + 3) ls rest)) : W p l e R s m args below meth c H locs cells slots Q (F0 m pc ls (v :: .ref a :: rest)) := by
  obtain ⟨hx, hb, hr, hml, hB, hown, hlocks, hnm⟩ := hC
  rw [hy0] at hown
  subst hws
  exact va_put (ci := 5) (ty := .int) (C := RX5) (T := TX5) (N := 6) hx hb hB in_X5 tyX5 tyX5_ok nmX5 hown hK.1 hP hD hS q0 he rfl 3 (by decide) (hB _ m_248) (fun _ h => h) rfl (by decide +kernel) hn hfit hl hdg kk
theorem gX5_order_1 : (decode cX5_order 14 = .ok (.aload_n 0, 1)) ∧ (decode cX5_order 15 = .ok (.getfield 24, 3)) ∧ (decode cX5_order 18 = .ok (.getfield 48, 3)) ∧ (decode cX5_order 21 = .ok (.putfield 32, 3)) ∧ (decode cX5_order 24 = .ok (.aload_n 0, 1)) ∧ (decode cX5_order 25 = .ok (.iconst 1, 1)) ∧ (decode cX5_order 26 = .ok (.putfield 35, 3)) ∧ (decode cX5_order 29 = .ok (.aload_n 0, 1)) ∧ (decode cX5_order 30 = .ok (.getfield 28, 3)) ∧ (decode cX5_order 33 = .ok (.istore_n 2, 1)) := by decide +kernel
theorem nm_31 : Cond.fieldLinkNest RX5 48 RX0 "today" "I" RX11 ∈ NestW := List.mem_of_getElem? (i := 31) rfl
theorem gf_X5_48 (hC : CX p s m meth c y0 b0 mL0 rt0 args) (hy0 : y0.cls = RX5) (hK : KK G s) (hP : va_P G.1 vwCl ws H) (q0 : Nat) {fs : List Value} {v : Value} (he : ws[q0]? = some (a, .inr (0, fs))) (hv : fs[10]? = some v) (hdg : decode b0 pc = .ok (.getfield 48, 3)) (kk : W p l e R s m args below meth c H locs cells slots Q (F0 m (pc + 3) ls (v :: rest))) : W p l e R s m args below meth c H locs cells slots Q (F0 m pc ls (.ref a :: rest)) := by
  obtain ⟨hx, hb, hr, hml, hB, hown, hlocks, hnm⟩ := hC
  rw [hy0] at hown
  exact va_getN (ci := 0) (C := RX0) (T := TX0) (N := 14) hx hb hB in_X0 hown hK.1 hP q0 he rfl 10 (by decide) (va_Nw.use rfl (hK.2.1 _ nm_31)) (fun _ h => h) hv hdg kk
theorem pf_X5_32 (hC : CX p s m meth c y0 b0 mL0 rt0 args) (hy0 : y0.cls = RX5) (hK : KK G s) (hP : va_P G.1 vwCl ws H) (hD : va_D A ws) (hS : va_S A H0 H locs) (q0 : Nat) {fs : List Value} {v : Value} {ws' : va_W} (he : ws[q0]? = some (a, .inr (5, fs))) (hl : 4 < fs.length) (hws : ws.set q0 (a, .inr (5, fs.set 4 v)) = ws') (hn : narrow .int v = v) (hfit : fits .int v = true) (hdg : decode b0 pc = .ok (.putfield 32, 3)) (kk : ∀ (H1 : Heap) (locs1 : List Loc), va_P G.1 vwCl ws' H1 → va_D A ws' → va_S A H0 H1 locs1 → W p l e R s m args below meth c H1 locs1 cells slots Q (F0 m (pc + 3) ls rest)) : W p l e R s m args below meth c H locs cells slots Q (F0 m pc ls (v :: .ref a :: rest)) := by
  obtain ⟨hx, hb, hr, hml, hB, hown, hlocks, hnm⟩ := hC
  rw [hy0] at hown
  subst hws
  exact va_put (ci := 5) (ty := .int) (C := RX5) (T := TX5) (N := 6) hx hb hB in_X5 tyX5 tyX5_ok nmX5 hown hK.1 hP hD hS q0 he rfl 4 (by decide) (hB _ m_249) (fun _ h => h) rfl (by decide +kernel) hn hfit hl hdg kk
theorem m_250 : Cond.fieldLink RX5 35 "InquiryBench$Round" "told" "Z" ∈ BW := iB_BW13 _ (List.mem_of_getElem? (i := 16) rfl)
theorem pf_X5_35 (hC : CX p s m meth c y0 b0 mL0 rt0 args) (hy0 : y0.cls = RX5) (hK : KK G s) (hP : va_P G.1 vwCl ws H) (hD : va_D A ws) (hS : va_S A H0 H locs) (q0 : Nat) {fs : List Value} {v : Value} {ws' : va_W} (he : ws[q0]? = some (a, .inr (5, fs))) (hl : 5 < fs.length) (hws : ws.set q0 (a, .inr (5, fs.set 5 v)) = ws') (hn : narrow .boolean v = v) (hfit : fits .boolean v = true) (hdg : decode b0 pc = .ok (.putfield 35, 3)) (kk : ∀ (H1 : Heap) (locs1 : List Loc), va_P G.1 vwCl ws' H1 → va_D A ws' → va_S A H0 H1 locs1 → W p l e R s m args below meth c H1 locs1 cells slots Q (F0 m (pc + 3) ls rest)) : W p l e R s m args below meth c H locs cells slots Q (F0 m pc ls (v :: .ref a :: rest)) := by
  obtain ⟨hx, hb, hr, hml, hB, hown, hlocks, hnm⟩ := hC
  rw [hy0] at hown
  subst hws
  exact va_put (ci := 5) (ty := .boolean) (C := RX5) (T := TX5) (N := 6) hx hb hB in_X5 tyX5 tyX5_ok nmX5 hown hK.1 hP hD hS q0 he rfl 5 (by decide) (hB _ m_250) (fun _ h => h) rfl (by decide +kernel) hn hfit hl hdg kk
theorem gX5_order_2 : (decode cX5_order 34 = .ok (.iload_n 2, 1)) ∧ (decode cX5_order 35 = .ok (.ifCond .lt 48, 3)) ∧ (decode cX5_order 38 = .ok (.iload_n 2, 1)) ∧ (decode cX5_order 39 = .ok (.aload_n 0, 1)) ∧ (decode cX5_order 40 = .ok (.getfield 28, 3)) ∧ (decode cX5_order 43 = .ok (.iconst (-1), 1)) ∧ (decode cX5_order 44 = .ok (.ixor, 1)) ∧ (decode cX5_order 45 = .ok (.iand, 1)) ∧ (decode cX5_order 46 = .ok (.ifCond .ne 31, 3)) ∧ (decode cX5_order 49 = .ok (.aload_n 0, 1)) := by decide +kernel
theorem gX5_order_4 : (decode cX5_order 68 = .ok (.aload_n 0, 1)) ∧ (decode cX5_order 69 = .ok (.iload_n 2, 1)) ∧ (decode cX5_order 70 = .ok (.invokevirtual 51, 3)) ∧ (decode cX5_order 73 = .ok (.invokevirtual 55, 3)) ∧ (decode cX5_order 76 = .ok (.iastore, 1)) ∧ (decode cX5_order 77 = .ok (.iinc 2 (-1), 3)) ∧ (decode cX5_order 80 = .ok (.goto (-46), 3)) ∧ (decode cX5_order 83 = .ok (.aload_n 0, 1)) ∧ (decode cX5_order 84 = .ok (.invokevirtual 58, 3)) ∧ (decode cX5_order 87 = .ok (.aload_n 0, 1)) := by decide +kernel
theorem m_854 : Cond.code yX5_tellRows cX5_tellRows 6 none ∈ BW := iB_BW46 _ (List.mem_of_getElem? (i := 3) rfl)
theorem m_852 : Cond.methodLink RX5 58 yX5_tellRows ∈ BW := iB_BW46 _ (List.mem_of_getElem? (i := 1) rfl)
theorem m_853 : Cond.instanceMethod yX5_tellRows ∈ BW := iB_BW46 _ (List.mem_of_getElem? (i := 2) rfl)
theorem m_41 : Cond.selects RX5 yX5_tellRows yX5_tellRows ∈ BW := iB_BW2 _ (List.mem_of_getElem? (i := 1) rfl)
theorem si_X5_58 : SV RX5 RX5 58 yX5_tellRows cX5_tellRows 6 none 0 := ⟨⟨m_852, m_853, m_41, m_112, m_854⟩, rfl, nK_RX5.1, nK_RX5.2, pd_9⟩
theorem gX5_order_5 : (decode cX5_order 88 = .ok (.getfield 20, 3)) ∧ (decode cX5_order 91 = .ok (.iconst 0, 1)) ∧ (decode cX5_order 92 = .ok (.iaload, 1)) ∧ (decode cX5_order 93 = .ok (.ireturn, 1)) := by decide +kernel
theorem gX5_order_3 : (decode cX5_order 50 = .ok (.getfield 20, 3)) ∧ (decode cX5_order 53 = .ok (.iload_n 2, 1)) ∧ (decode cX5_order 54 = .ok (.iload_n 2, 1)) ∧ (decode cX5_order 55 = .ok (.aload_n 0, 1)) ∧ (decode cX5_order 56 = .ok (.getfield 28, 3)) ∧ (decode cX5_order 59 = .ok (.if_icmp .ne 7, 3)) ∧ (decode cX5_order 62 = .ok (.iconst 0, 1)) ∧ (decode cX5_order 63 = .ok (.goto 13, 3)) ∧ (decode cX5_order 66 = .ok (.aload_n 0, 1)) ∧ (decode cX5_order 67 = .ok (.iload_n 2, 1)) := by decide +kernel
theorem gX5_firstWrong_0 : (decode cX5_firstWrong 0 = .ok (.iconst 0, 1)) ∧ (decode cX5_firstWrong 1 = .ok (.istore_n 1, 1)) ∧ (decode cX5_firstWrong 2 = .ok (.aload_n 0, 1)) ∧ (decode cX5_firstWrong 3 = .ok (.getfield 32, 3)) ∧ (decode cX5_firstWrong 6 = .ok (.istore_n 2, 1)) ∧ (decode cX5_firstWrong 7 = .ok (.iconst 0, 1)) ∧ (decode cX5_firstWrong 8 = .ok (.istore_n 3, 1)) ∧ (decode cX5_firstWrong 9 = .ok (.iload_n 3, 1)) ∧ (decode cX5_firstWrong 10 = .ok (.aload_n 0, 1)) ∧ (decode cX5_firstWrong 11 = .ok (.getfield 24, 3)) := by decide +kernel
theorem gX5_firstWrong_1 : (decode cX5_firstWrong 14 = .ok (.getfield 39, 3)) ∧ (decode cX5_firstWrong 17 = .ok (.invokevirtual 90, 3)) ∧ (decode cX5_firstWrong 20 = .ok (.if_icmp .ge 26, 3)) ∧ (decode cX5_firstWrong 23 = .ok (.aload_n 0, 1)) ∧ (decode cX5_firstWrong 24 = .ok (.getfield 28, 3)) ∧ (decode cX5_firstWrong 27 = .ok (.iload_n 3, 1)) ∧ (decode cX5_firstWrong 28 = .ok (.invokestatic 64, 3)) ∧ (decode cX5_firstWrong 31 = .ok (.ifCond .eq 9, 3)) ∧ (decode cX5_firstWrong 34 = .ok (.iload_n 1, 1)) ∧ (decode cX5_firstWrong 35 = .ok (.iconst 1, 1)) := by decide +kernel
theorem m_883 : Cond.methodLink RX5 90 yX8_count ∈ BW := iB_BW47 _ (List.mem_of_getElem? (i := 12) rfl)
theorem si_X5_90 : SV RX5 RX8 90 yX8_count cX8_count 1 (some .int) 0 := ⟨⟨m_883, m_308, m_309, m_104, m_310⟩, rfl, nK_RX8.1, nK_RX8.2, pd_1⟩
theorem gX5_firstWrong_2 : (decode cX5_firstWrong 36 = .ok (.iload_n 3, 1)) ∧ (decode cX5_firstWrong 37 = .ok (.ishl, 1)) ∧ (decode cX5_firstWrong 38 = .ok (.ior, 1)) ∧ (decode cX5_firstWrong 39 = .ok (.istore_n 1, 1)) ∧ (decode cX5_firstWrong 40 = .ok (.iinc 3 1, 3)) ∧ (decode cX5_firstWrong 43 = .ok (.goto (-34), 3)) ∧ (decode cX5_firstWrong 46 = .ok (.iconst 0, 1)) ∧ (decode cX5_firstWrong 47 = .ok (.istore_n 3, 1)) ∧ (decode cX5_firstWrong 48 = .ok (.iload_n 3, 1)) ∧ (decode cX5_firstWrong 49 = .ok (.aload_n 0, 1)) := by decide +kernel
theorem gX5_firstWrong_3 : (decode cX5_firstWrong 50 = .ok (.getfield 14, 3)) ∧ (decode cX5_firstWrong 53 = .ok (.invokevirtual 90, 3)) ∧ (decode cX5_firstWrong 56 = .ok (.if_icmp .ge 64, 3)) ∧ (decode cX5_firstWrong 59 = .ok (.aload_n 0, 1)) ∧ (decode cX5_firstWrong 60 = .ok (.getfield 14, 3)) ∧ (decode cX5_firstWrong 63 = .ok (.iload_n 3, 1)) ∧ (decode cX5_firstWrong 64 = .ok (.iconst 0, 1)) ∧ (decode cX5_firstWrong 65 = .ok (.invokevirtual 44, 3)) ∧ (decode cX5_firstWrong 68 = .ok (.istore 4, 2)) ∧ (decode cX5_firstWrong 70 = .ok (.iload_n 1, 1)) := by decide +kernel
theorem gX5_firstWrong_7 : (decode cX5_firstWrong 120 = .ok (.iload_n 1, 1)) ∧ (decode cX5_firstWrong 121 = .ok (.ifCond .ne 7, 3)) ∧ (decode cX5_firstWrong 124 = .ok (.iconst (-1), 1)) ∧ (decode cX5_firstWrong 125 = .ok (.goto 10, 3)) ∧ (decode cX5_firstWrong 128 = .ok (.aload_n 0, 1)) ∧ (decode cX5_firstWrong 129 = .ok (.getfield 14, 3)) ∧ (decode cX5_firstWrong 132 = .ok (.invokevirtual 90, 3)) ∧ (decode cX5_firstWrong 135 = .ok (.ireturn, 1)) := by decide +kernel
theorem gX5_firstWrong_4 : (decode cX5_firstWrong 71 = .ok (.iload 4, 2)) ∧ (decode cX5_firstWrong 73 = .ok (.invokestatic 64, 3)) ∧ (decode cX5_firstWrong 76 = .ok (.ifCond .ne 5, 3)) ∧ (decode cX5_firstWrong 79 = .ok (.iload_n 3, 1)) ∧ (decode cX5_firstWrong 80 = .ok (.ireturn, 1)) ∧ (decode cX5_firstWrong 81 = .ok (.iload_n 1, 1)) ∧ (decode cX5_firstWrong 82 = .ok (.iconst 1, 1)) ∧ (decode cX5_firstWrong 83 = .ok (.iload 4, 2)) ∧ (decode cX5_firstWrong 85 = .ok (.ishl, 1)) ∧ (decode cX5_firstWrong 86 = .ok (.iconst (-1), 1)) := by decide +kernel
theorem gX5_firstWrong_5 : (decode cX5_firstWrong 87 = .ok (.ixor, 1)) ∧ (decode cX5_firstWrong 88 = .ok (.iand, 1)) ∧ (decode cX5_firstWrong 89 = .ok (.istore_n 1, 1)) ∧ (decode cX5_firstWrong 90 = .ok (.iload_n 2, 1)) ∧ (decode cX5_firstWrong 91 = .ok (.aload_n 0, 1)) ∧ (decode cX5_firstWrong 92 = .ok (.iload 4, 2)) ∧ (decode cX5_firstWrong 94 = .ok (.invokevirtual 61, 3)) ∧ (decode cX5_firstWrong 97 = .ok (.iadd, 1)) ∧ (decode cX5_firstWrong 98 = .ok (.istore_n 2, 1)) ∧ (decode cX5_firstWrong 99 = .ok (.aload_n 0, 1)) := by decide +kernel
theorem gX5_firstWrong_6 : (decode cX5_firstWrong 100 = .ok (.getfield 14, 3)) ∧ (decode cX5_firstWrong 103 = .ok (.iload_n 3, 1)) ∧ (decode cX5_firstWrong 104 = .ok (.iconst 1, 1)) ∧ (decode cX5_firstWrong 105 = .ok (.invokevirtual 44, 3)) ∧ (decode cX5_firstWrong 108 = .ok (.iload_n 2, 1)) ∧ (decode cX5_firstWrong 109 = .ok (.if_icmp .eq 5, 3)) ∧ (decode cX5_firstWrong 112 = .ok (.iload_n 3, 1)) ∧ (decode cX5_firstWrong 113 = .ok (.ireturn, 1)) ∧ (decode cX5_firstWrong 114 = .ok (.iinc 3 1, 3)) ∧ (decode cX5_firstWrong 117 = .ok (.goto (-69), 3)) := by decide +kernel
theorem gX5_isTold_0 : (decode cX5_isTold 0 = .ok (.aload_n 0, 1)) ∧ (decode cX5_isTold 1 = .ok (.getfield 35, 3)) ∧ (decode cX5_isTold 4 = .ok (.ireturn, 1)) := by decide +kernel
theorem gf_X5_35 (hC : CX p s m meth c y0 b0 mL0 rt0 args) (hy0 : y0.cls = RX5) (hK : KK G s) (hP : va_P G.1 vwCl ws H) (q0 : Nat) {fs : List Value} {v : Value} (he : ws[q0]? = some (a, .inr (5, fs))) (hv : fs[5]? = some v) (hdg : decode b0 pc = .ok (.getfield 35, 3)) (kk : W p l e R s m args below meth c H locs cells slots Q (F0 m (pc + 3) ls (v :: rest))) : W p l e R s m args below meth c H locs cells slots Q (F0 m pc ls (.ref a :: rest)) := by
  obtain ⟨hx, hb, hr, hml, hB, hown, hlocks, hnm⟩ := hC
  rw [hy0] at hown
  exact va_get (ci := 5) (C := RX5) (T := TX5) (N := 6) hx hb hB in_X5 hown hK.1 hP q0 he rfl 5 (by decide) (hB _ m_250) (fun _ h => h) hv hdg kk
end WR
theorem rm_5_4_7 {mc ms : Nat} : 4 + 1 ≤ (RM 5 mc ms).frames ∧ 8 + (7 + 11) + 40 * 4 ≤ (RM 5 mc ms).locals := ⟨by show 4 + 1 ≤ 5; decide, by show 8 + (7 + 11) + 40 * 4 ≤ 40 * 5; decide⟩
theorem rm_6_1_2 {mc ms : Nat} : 1 + 1 ≤ (RM 6 mc ms).frames ∧ 8 + (2 + 11) + 40 * 1 ≤ (RM 6 mc ms).locals := ⟨by show 1 + 1 ≤ 6; decide, by show 8 + (2 + 11) + 40 * 1 ≤ 40 * 6; decide⟩
theorem sm_0_2_3_4_5_6 {a0 a1 a2 a3 a4 a5 a6 : Nat × va_E} {l : va_W} : ([0, 2, 3, 4, 5, 6] : List Nat).map (fun i => (a0 :: a1 :: a2 :: a3 :: a4 :: a5 :: a6 :: l : va_W)[i]?) = ([a0, a2, a3, a4, a5, a6] : va_W).map some := rfl
theorem nd_0_2_3_4_5_6 : va_nd [0, 2, 3, 4, 5, 6] = true := by decide
theorem dj_1__0_2_3_4_5_6 : ∀ i ∈ ([0, 2, 3, 4, 5, 6] : List Nat), i ∉ ([1] : List Nat) := by decide
theorem rm_6_5_6 {mc ms : Nat} : 5 + 1 ≤ (RM 6 mc ms).frames ∧ 8 + (6 + 11) + 40 * 5 ≤ (RM 6 mc ms).locals := ⟨by show 5 + 1 ≤ 6; decide, by show 8 + (6 + 11) + 40 * 5 ≤ 40 * 6; decide⟩
theorem sm_0_2_3_4_5 {a0 a1 a2 a3 a4 a5 : Nat × va_E} {l : va_W} : ([0, 2, 3, 4, 5] : List Nat).map (fun i => (a0 :: a1 :: a2 :: a3 :: a4 :: a5 :: l : va_W)[i]?) = ([a0, a2, a3, a4, a5] : va_W).map some := rfl
theorem fm_0_2_3_4_5 {a0 a1 a2 a3 a4 a5 : Nat × va_E} {l : va_W} : ([0, 2, 3, 4, 5] : List Nat).filterMap (fun i => (a0 :: a1 :: a2 :: a3 :: a4 :: a5 :: l : va_W)[i]?) = ([a0, a2, a3, a4, a5] : va_W) := rfl
theorem nd_0_2_3_4_5 : va_nd [0, 2, 3, 4, 5] = true := by decide
theorem rm_6_3_2 {mc ms : Nat} : 3 + 1 ≤ (RM 6 mc ms).frames ∧ 8 + (2 + 11) + 40 * 3 ≤ (RM 6 mc ms).locals := ⟨by show 3 + 1 ≤ 6; decide, by show 8 + (2 + 11) + 40 * 3 ≤ 40 * 6; decide⟩
theorem sm_0_3_4_5 {a0 a1 a2 a3 a4 a5 : Nat × va_E} {l : va_W} : ([0, 3, 4, 5] : List Nat).map (fun i => (a0 :: a1 :: a2 :: a3 :: a4 :: a5 :: l : va_W)[i]?) = ([a0, a3, a4, a5] : va_W).map some := rfl
theorem fm_0_3_4_5 {a0 a1 a2 a3 a4 a5 : Nat × va_E} {l : va_W} : ([0, 3, 4, 5] : List Nat).filterMap (fun i => (a0 :: a1 :: a2 :: a3 :: a4 :: a5 :: l : va_W)[i]?) = ([a0, a3, a4, a5] : va_W) := rfl
theorem nd_0_3_4_5 : va_nd [0, 3, 4, 5] = true := by decide
theorem sm_0_1_2_3_4_5 {a0 a1 a2 a3 a4 a5 : Nat × va_E} {l : va_W} : ([0, 1, 2, 3, 4, 5] : List Nat).map (fun i => (a0 :: a1 :: a2 :: a3 :: a4 :: a5 :: l : va_W)[i]?) = ([a0, a1, a2, a3, a4, a5] : va_W).map some := rfl
theorem nd_0_1_2_3_4_5 : va_nd [0, 1, 2, 3, 4, 5] = true := by decide
theorem dj_6__0_1_2_3_4_5 : ∀ i ∈ ([0, 1, 2, 3, 4, 5] : List Nat), i ∉ ([6] : List Nat) := by decide
theorem rm_6_1_4 {mc ms : Nat} : 1 + 1 ≤ (RM 6 mc ms).frames ∧ 8 + (4 + 11) + 40 * 1 ≤ (RM 6 mc ms).locals := ⟨by show 1 + 1 ≤ 6; decide, by show 8 + (4 + 11) + 40 * 1 ≤ 40 * 6; decide⟩
theorem sm_6_1 {a0 a1 a2 a3 a4 a5 a6 : Nat × va_E} {l : va_W} : ([6, 1] : List Nat).map (fun i => (a0 :: a1 :: a2 :: a3 :: a4 :: a5 :: a6 :: l : va_W)[i]?) = ([a6, a1] : va_W).map some := rfl
theorem fm_6_1 {a0 a1 a2 a3 a4 a5 a6 : Nat × va_E} {l : va_W} : ([6, 1] : List Nat).filterMap (fun i => (a0 :: a1 :: a2 :: a3 :: a4 :: a5 :: a6 :: l : va_W)[i]?) = ([a6, a1] : va_W) := rfl
theorem nd_6_1 : va_nd [6, 1] = true := by decide
theorem dj_6_1__0_2_3_4_5 : ∀ i ∈ ([0, 2, 3, 4, 5] : List Nat), i ∉ ([6, 1] : List Nat) := by decide
theorem dj_5_6__0_1_2_3_4 : ∀ i ∈ ([0, 1, 2, 3, 4] : List Nat), i ∉ ([5, 6] : List Nat) := by decide
theorem fm_0_6_1_2_3_4_5 {a0 a1 a2 a3 a4 a5 a6 : Nat × va_E} {l : va_W} : ([0, 6, 1, 2, 3, 4, 5] : List Nat).filterMap (fun i => (a0 :: a1 :: a2 :: a3 :: a4 :: a5 :: a6 :: l : va_W)[i]?) = ([a0, a6, a1, a2, a3, a4, a5] : va_W) := rfl
theorem nd_0_6_1_2_3_4_5 : va_nd [0, 6, 1, 2, 3, 4, 5] = true := by decide
theorem sm_0_6_1_2_3_4_5 {a0 a1 a2 a3 a4 a5 a6 : Nat × va_E} {l : va_W} : ([0, 6, 1, 2, 3, 4, 5] : List Nat).map (fun i => (a0 :: a1 :: a2 :: a3 :: a4 :: a5 :: a6 :: l : va_W)[i]?) = ([a0, a6, a1, a2, a3, a4, a5] : va_W).map some := rfl
theorem rm_8_6_6 {mc ms : Nat} : 6 + 1 ≤ (RM 8 mc ms).frames ∧ 8 + (6 + 11) + 40 * 6 ≤ (RM 8 mc ms).locals := ⟨by show 6 + 1 ≤ 8; decide, by show 8 + (6 + 11) + 40 * 6 ≤ 40 * 8; decide⟩
theorem sm_0_1_2_3_4_5_6 {a0 a1 a2 a3 a4 a5 a6 : Nat × va_E} {l : va_W} : ([0, 1, 2, 3, 4, 5, 6] : List Nat).map (fun i => (a0 :: a1 :: a2 :: a3 :: a4 :: a5 :: a6 :: l : va_W)[i]?) = ([a0, a1, a2, a3, a4, a5, a6] : va_W).map some := rfl
theorem fm_0_1_2_3_4_5_6 {a0 a1 a2 a3 a4 a5 a6 : Nat × va_E} {l : va_W} : ([0, 1, 2, 3, 4, 5, 6] : List Nat).filterMap (fun i => (a0 :: a1 :: a2 :: a3 :: a4 :: a5 :: a6 :: l : va_W)[i]?) = ([a0, a1, a2, a3, a4, a5, a6] : va_W) := rfl
theorem nd_0_1_2_3_4_5_6 : va_nd [0, 1, 2, 3, 4, 5, 6] = true := by decide
theorem rm_8_5_6 {mc ms : Nat} : 5 + 1 ≤ (RM 8 mc ms).frames ∧ 8 + (6 + 11) + 40 * 5 ≤ (RM 8 mc ms).locals := ⟨by show 5 + 1 ≤ 8; decide, by show 8 + (6 + 11) + 40 * 5 ≤ 40 * 8; decide⟩
theorem sm_0_3_4_5_6 {a0 a1 a2 a3 a4 a5 a6 : Nat × va_E} {l : va_W} : ([0, 3, 4, 5, 6] : List Nat).map (fun i => (a0 :: a1 :: a2 :: a3 :: a4 :: a5 :: a6 :: l : va_W)[i]?) = ([a0, a3, a4, a5, a6] : va_W).map some := rfl
theorem fm_0_3_4_5_6 {a0 a1 a2 a3 a4 a5 a6 : Nat × va_E} {l : va_W} : ([0, 3, 4, 5, 6] : List Nat).filterMap (fun i => (a0 :: a1 :: a2 :: a3 :: a4 :: a5 :: a6 :: l : va_W)[i]?) = ([a0, a3, a4, a5, a6] : va_W) := rfl
theorem nd_0_3_4_5_6 : va_nd [0, 3, 4, 5, 6] = true := by decide
theorem rm_8_4_7 {mc ms : Nat} : 4 + 1 ≤ (RM 8 mc ms).frames ∧ 8 + (7 + 11) + 40 * 4 ≤ (RM 8 mc ms).locals := ⟨by show 4 + 1 ≤ 8; decide, by show 8 + (7 + 11) + 40 * 4 ≤ 40 * 8; decide⟩
def K_c_bitCount (l : Launch) (G : GG) (iv : Int32) : Prop := MP l G yJ6_bitCount_0f7a4 cJ6_bitCount_0f7a4 1 (some .int) 1 [.int iv] [] (fun r : Int32 => True)
set_option maxHeartbeats 4000000 in
set_option maxRecDepth 100000 in
theorem c_bitCount (l : Launch) (G : GG) (iv : Int32) : K_c_bitCount l G iv := by
  refine MP.start (by decide +kernel) (Nat.le_of_ble_eq_true rfl) ?_
  intro p e s m below meth c ls hC hK hP hD hl
  refine absQ (fun Q0 hQ0 => ?_)
  have hl : lv_has ls 1 [(0, .int iv)] := hl
  refine Kan8 hC (fun hx hb hr hml hB hown hlocks hnm => ?_)
  refine lv_iload_n hx hb gJ6_bitCount_0f7a4_0.1 rfl (lv_at0 hl) ?_
  refine lv_iload_n hx hb gJ6_bitCount_0f7a4_0.2.1 rfl (lv_at0 hl) ?_
  refine lv_iconst (v := 1) hx hb gJ6_bitCount_0f7a4_0.2.2.1 (by decide) ?_
  refine lv_iushr hx hb gJ6_bitCount_0f7a4_0.2.2.2.1 rfl ?_
  refine lv_topi (fun x1495 ex1495 => ?_)
  refine lv_ldcw hx hb hown (hB _ m_318) gJ6_bitCount_0f7a4_0.2.2.2.2.1 ?_
  refine lv_iand hx hb gJ6_bitCount_0f7a4_0.2.2.2.2.2.1 ?_
  refine lv_isub hx hb gJ6_bitCount_0f7a4_0.2.2.2.2.2.2.1 ?_
  refine lv_istore_n (lv' := [(0, .int (iv - (x1495 &&& 1431655765)))]) hx hb gJ6_bitCount_0f7a4_0.2.2.2.2.2.2.2.1 rfl hl (by decide) rfl (fun ls hl => ?_)
  refine lv_iload_n hx hb gJ6_bitCount_0f7a4_0.2.2.2.2.2.2.2.2.1 rfl (lv_at0 hl) ?_
  refine lv_ldcw hx hb hown (hB _ m_319) gJ6_bitCount_0f7a4_0.2.2.2.2.2.2.2.2.2 ?_
  refine lv_iand hx hb gJ6_bitCount_0f7a4_1.1 ?_
  refine lv_iload_n hx hb gJ6_bitCount_0f7a4_1.2.1 rfl (lv_at0 hl) ?_
  refine lv_iconst (v := 2) hx hb gJ6_bitCount_0f7a4_1.2.2.1 (by decide) ?_
  refine lv_iushr hx hb gJ6_bitCount_0f7a4_1.2.2.2.1 rfl ?_
  refine lv_topi (fun x1496 ex1496 => ?_)
  refine lv_ldcw hx hb hown (hB _ m_319) gJ6_bitCount_0f7a4_1.2.2.2.2.1 ?_
  refine lv_iand hx hb gJ6_bitCount_0f7a4_1.2.2.2.2.2.1 ?_
  refine lv_iadd hx hb gJ6_bitCount_0f7a4_1.2.2.2.2.2.2.1 ?_
  refine lv_istore_n (lv' := [(0, .int (((iv - (x1495 &&& 1431655765)) &&& 858993459) + (x1496 &&& 858993459)))]) hx hb gJ6_bitCount_0f7a4_1.2.2.2.2.2.2.2.1 rfl hl (by decide) rfl (fun ls hl => ?_)
  refine lv_iload_n hx hb gJ6_bitCount_0f7a4_1.2.2.2.2.2.2.2.2.1 rfl (lv_at0 hl) ?_
  refine lv_iload_n hx hb gJ6_bitCount_0f7a4_1.2.2.2.2.2.2.2.2.2 rfl (lv_at0 hl) ?_
  refine lv_iconst (v := 4) hx hb gJ6_bitCount_0f7a4_2.1 (by decide) ?_
  refine lv_iushr hx hb gJ6_bitCount_0f7a4_2.2.1 rfl ?_
  refine lv_topi (fun x1497 ex1497 => ?_)
  refine lv_iadd hx hb gJ6_bitCount_0f7a4_2.2.2.1 ?_
  refine lv_ldcw hx hb hown (hB _ m_320) gJ6_bitCount_0f7a4_2.2.2.2.1 ?_
  refine lv_iand hx hb gJ6_bitCount_0f7a4_2.2.2.2.2.1 ?_
  refine lv_istore_n (lv' := [(0, .int (((((iv - (x1495 &&& 1431655765)) &&& 858993459) + (x1496 &&& 858993459)) + x1497) &&& 252645135))]) hx hb gJ6_bitCount_0f7a4_2.2.2.2.2.2.1 rfl hl (by decide) rfl (fun ls hl => ?_)
  refine lv_iload_n hx hb gJ6_bitCount_0f7a4_2.2.2.2.2.2.2.1 rfl (lv_at0 hl) ?_
  refine lv_iload_n hx hb gJ6_bitCount_0f7a4_2.2.2.2.2.2.2.2.1 rfl (lv_at0 hl) ?_
  refine lv_bipush (v := 8) hx hb gJ6_bitCount_0f7a4_2.2.2.2.2.2.2.2.2.1 (by decide) ?_
  refine lv_iushr hx hb gJ6_bitCount_0f7a4_2.2.2.2.2.2.2.2.2.2 rfl ?_
  refine lv_topi (fun x1498 ex1498 => ?_)
  refine lv_iadd hx hb gJ6_bitCount_0f7a4_3.1 ?_
  refine lv_istore_n (lv' := [(0, .int ((((((iv - (x1495 &&& 1431655765)) &&& 858993459) + (x1496 &&& 858993459)) + x1497) &&& 252645135) + x1498))]) hx hb gJ6_bitCount_0f7a4_3.2.1 rfl hl (by decide) rfl (fun ls hl => ?_)
  refine lv_iload_n hx hb gJ6_bitCount_0f7a4_3.2.2.1 rfl (lv_at0 hl) ?_
  refine lv_iload_n hx hb gJ6_bitCount_0f7a4_3.2.2.2.1 rfl (lv_at0 hl) ?_
  refine lv_bipush (v := 16) hx hb gJ6_bitCount_0f7a4_3.2.2.2.2.1 (by decide) ?_
  refine lv_iushr hx hb gJ6_bitCount_0f7a4_3.2.2.2.2.2.1 rfl ?_
  refine lv_topi (fun x1499 ex1499 => ?_)
  refine lv_iadd hx hb gJ6_bitCount_0f7a4_3.2.2.2.2.2.2.1 ?_
  refine lv_istore_n (lv' := [(0, .int (((((((iv - (x1495 &&& 1431655765)) &&& 858993459) + (x1496 &&& 858993459)) + x1497) &&& 252645135) + x1498) + x1499))]) hx hb gJ6_bitCount_0f7a4_3.2.2.2.2.2.2.2.1 rfl hl (by decide) rfl (fun ls hl => ?_)
  refine lv_iload_n hx hb gJ6_bitCount_0f7a4_3.2.2.2.2.2.2.2.2.1 rfl (lv_at0 hl) ?_
  refine lv_bipush (v := 63) hx hb gJ6_bitCount_0f7a4_3.2.2.2.2.2.2.2.2.2 (by decide) ?_
  refine lv_iand hx hb gJ6_bitCount_0f7a4_4.1 ?_
  refine toQ hQ0 ?_
  exact RP (v := (((((((iv - (x1495 &&& 1431655765)) &&& 858993459) + (x1496 &&& 858993459)) + x1497) &&& 252645135) + x1498) + x1499) &&& 63) hC (trivial) rfl gJ6_bitCount_0f7a4_4.2
def K_c_T_cut0 (l : Launch) (G : GG) (h0 : Nat) (R : Nat) (W : Nat) (ca : Nat) (k : Nat) : Prop := MV l G yX8_cut cX8_cut 2 1 0 0 [.ref h0, .int 0] [(h0, oX8 (nI R) (nI W) ca (nI k))] (fun u : Unit => True) (fun u : Unit => [(h0, oX8 (nI R) (nI W) ca 0)])
set_option maxHeartbeats 4000000 in
set_option maxRecDepth 100000 in
theorem c_T_cut0 (l : Launch) (G : GG) (h0 : Nat) (R : Nat) (W : Nat) (ca : Nat) (k : Nat) (hk : k < 2 ^ 31) : K_c_T_cut0 l G h0 R W ca k := by
  refine MV.start (by decide +kernel) (Nat.le_of_ble_eq_true rfl) ?_
  intro p e s m below meth c A ls hC hK hP hD hS hA hl
  refine absQ (fun Q0 hQ0 => ?_)
  have hl : lv_has ls 2 [(0, .ref h0), (1, .int 0)] := hl
  refine Kan8 hC (fun hx hb hr hml hB hown hlocks hnm => ?_)
  refine lv_iload_n hx hb gX8_cut_0.1 rfl (lv_at1 hl) ?_
  refine lv_if_lt (tgt := 17) hx hb gX8_cut_0.2.1 (by decide) (fun c9 => absurd c9 (by decide)) (fun _ => ?_)
  refine lv_iload_n hx hb gX8_cut_0.2.2.1 rfl (lv_at1 hl) ?_
  refine lv_aload_n hx hb gX8_cut_0.2.2.2.1 rfl (lv_at0 hl) ?_
  refine gf_X8_28 hC rfl hK hP 0 rfl rfl gX8_cut_0.2.2.2.2.1 ?_
  refine lv_icmp_ge (tgt := 17) hx hb gX8_cut_0.2.2.2.2.2.1 (by decide) (fun c_9_1500 => ?_) (fun c_9_1500 => ?_)
  · obtain rfl : 0 = k := (le0 (by omega) c_9_1500).symm
    refine toQ hQ0 ?_
    exact RV hC hP hD hS [0] () rfl rfl (by decide) (trivial) gX8_cut_0.2.2.2.2.2.2.2.2.2
  · refine lv_aload_n hx hb gX8_cut_0.2.2.2.2.2.2.1 rfl (lv_at0 hl) ?_
    refine lv_iload_n hx hb gX8_cut_0.2.2.2.2.2.2.2.1 rfl (lv_at1 hl) ?_
    refine pf_X8_28 hC rfl hK hP hD hS 0 (ws' := [(h0, oX8 (nI R) (nI W) ca 0)]) rfl (Nat.le_of_ble_eq_true rfl) rfl rfl rfl gX8_cut_0.2.2.2.2.2.2.2.2.1 (fun H locs hP hD hS => ?_)
    refine toQ hQ0 ?_
    exact RV hC hP hD hS [0] () rfl rfl (by decide) (trivial) gX8_cut_0.2.2.2.2.2.2.2.2.2
def K_c_lengthOf (l : Launch) (G : GG) (h0 : Nat) (qq : Int32) (bb : Nat) (rr : Nat) (tc : Nat) (asd : Int32) (st9 : Int32) (tol : Int32) (bpersons : Nat) (bpapers : Nat) (bstamps : Nat) (bversions : Nat) (blines : Nat) (bsteps : Nat) (bsayings : Nat) (bfindings : Nat) (bwarnings : Nat) (bquestions : Nat) (td : Int32) (vd : Int32) (vl : Int32) (gp : Int32) (bquestionsc : Nat) (kbquestions : Nat) (fbquestions : Nat → Int32) : Prop := MP l G yX5_lengthOf cX5_lengthOf 2 (some .int) 3 [.ref h0, .int qq] [(h0, oX5 bb rr tc asd st9 tol), (bb, oX0 bpersons bpapers bstamps bversions blines bsteps bsayings bfindings bwarnings bquestions td vd vl gp), (bquestions, oX8 7 2 bquestionsc (nI kbquestions)), (bquestionsc, iA G 14 fbquestions)] (fun r : Int32 => True)
set_option maxHeartbeats 4000000 in
set_option maxRecDepth 100000 in
theorem c_lengthOf (l : Launch) (G : GG) (h0 : Nat) (qq : Int32) (bb : Nat) (rr : Nat) (tc : Nat) (asd : Int32) (st9 : Int32) (tol : Int32) (bpersons : Nat) (bpapers : Nat) (bstamps : Nat) (bversions : Nat) (blines : Nat) (bsteps : Nat) (bsayings : Nat) (bfindings : Nat) (bwarnings : Nat) (bquestions : Nat) (td : Int32) (vd : Int32) (vl : Int32) (gp : Int32) (bquestionsc : Nat) (kbquestions : Nat) (fbquestions : Nat → Int32) (hkbquestions : kbquestions ≤ 7) : K_c_lengthOf l G h0 qq bb rr tc asd st9 tol bpersons bpapers bstamps bversions blines bsteps bsayings bfindings bwarnings bquestions td vd vl gp bquestionsc kbquestions fbquestions := by
  refine MP.start (by decide +kernel) (Nat.le_of_ble_eq_true rfl) ?_
  intro p e s m below meth c ls hC hK hP hD hl
  refine absQ (fun Q0 hQ0 => ?_)
  have hl : lv_has ls 2 [(0, .ref h0), (1, .int qq)] := hl
  refine Kan8 hC (fun hx hb hr hml hB hown hlocks hnm => ?_)
  refine lv_aload_n hx hb gX5_lengthOf_0.1 rfl (lv_at0 hl) ?_
  refine gf_X5_24 hC rfl hK hP 0 rfl rfl gX5_lengthOf_0.2.1 ?_
  refine gf_X5_39 hC rfl hK hP 1 rfl rfl gX5_lengthOf_0.2.2.1 ?_
  refine lv_iload_n hx hb gX5_lengthOf_0.2.2.2.1 rfl (lv_at1 hl) ?_
  refine lv_iconst (v := 0) hx hb gX5_lengthOf_0.2.2.2.2.1 (by decide) ?_
  refine pV hC hK hl hP hD (c_T_at l G bquestions qq 0 7 2 bquestionsc kbquestions fbquestions (hkbquestions) (by omega) (by omega)) si_X5_44 [2, 3] sm_2_3 fm_2_3 nd_2_3 rfl rfl rfl rfl rfl (Nat.le_of_ble_eq_true rfl) rm_3_1_3 ⟨by first | exact Nat.le_of_ble_eq_true rfl | exact Nat.zero_le _, by first | exact Nat.le_of_ble_eq_true rfl | exact Nat.zero_le _⟩ gX5_lengthOf_0.2.2.2.2.2.1 (fun r1501 hr1501 => ?_)
  refine toQ hQ0 ?_
  exact RP (v := r1501) hC (trivial) rfl gX5_lengthOf_0.2.2.2.2.2.2
def K_c_costBehind (l : Launch) (G : GG) (h0 : Nat) (ov : Int32) (qq : Int32) (bb : Nat) (rr : Nat) (tc : Nat) (asd : Int32) (st9 : Int32) (tol : Int32) (ftc : Nat → Int32) (bpersons : Nat) (bpapers : Nat) (bstamps : Nat) (bversions : Nat) (blines : Nat) (bsteps : Nat) (bsayings : Nat) (bfindings : Nat) (bwarnings : Nat) (bquestions : Nat) (td : Int32) (vd : Int32) (vl : Int32) (gp : Int32) (bquestionsc : Nat) (kbquestions : Nat) (fbquestions : Nat → Int32) : Prop := MP l G yX5_costBehind cX5_costBehind 7 (some .int) 4 [.ref h0, .int ov, .int qq] [(h0, oX5 bb rr tc asd st9 tol), (tc, iA G 128 ftc), (bb, oX0 bpersons bpapers bstamps bversions blines bsteps bsayings bfindings bwarnings bquestions td vd vl gp), (bquestions, oX8 7 2 bquestionsc (nI kbquestions)), (bquestionsc, iA G 14 fbquestions)] (fun r : Int32 => True)
set_option maxHeartbeats 4000000 in
set_option maxRecDepth 100000 in
theorem c_costBehind (l : Launch) (G : GG) (h0 : Nat) (ov : Int32) (qq : Int32) (bb : Nat) (rr : Nat) (tc : Nat) (asd : Int32) (st9 : Int32) (tol : Int32) (ftc : Nat → Int32) (bpersons : Nat) (bpapers : Nat) (bstamps : Nat) (bversions : Nat) (blines : Nat) (bsteps : Nat) (bsayings : Nat) (bfindings : Nat) (bwarnings : Nat) (bquestions : Nat) (td : Int32) (vd : Int32) (vl : Int32) (gp : Int32) (bquestionsc : Nat) (kbquestions : Nat) (fbquestions : Nat → Int32) (hkbquestions : kbquestions ≤ 7) : K_c_costBehind l G h0 ov qq bb rr tc asd st9 tol ftc bpersons bpapers bstamps bversions blines bsteps bsayings bfindings bwarnings bquestions td vd vl gp bquestionsc kbquestions fbquestions := by
  refine MP.start (by decide +kernel) (Nat.le_of_ble_eq_true rfl) ?_
  intro p e s m below meth c ls hC hK hP hD hl
  refine absQ (fun Q0 hQ0 => ?_)
  have hl : lv_has ls 7 [(0, .ref h0), (1, .int ov), (2, .int qq)] := hl
  refine Kan8 hC (fun hx hb hr hml hB hown hlocks hnm => ?_)
  refine lv_aload_n hx hb gX5_costBehind_0.1 rfl (lv_at0 hl) ?_
  refine lv_iload_n hx hb gX5_costBehind_0.2.1 rfl (lv_at2 hl) ?_
  refine pV hC hK hl hP hD (c_lengthOf l G h0 qq bb rr tc asd st9 tol bpersons bpapers bstamps bversions blines bsteps bsayings bfindings bwarnings bquestions td vd vl gp bquestionsc kbquestions fbquestions (hkbquestions)) si_X5_61 [0, 2, 3, 4] sm_0_2_3_4 fm_0_2_3_4 nd_0_2_3_4 rfl rfl rfl rfl rfl (Nat.le_of_ble_eq_true rfl) rm_4_3_2 ⟨by first | exact Nat.le_of_ble_eq_true rfl | exact Nat.zero_le _, by first | exact Nat.le_of_ble_eq_true rfl | exact Nat.zero_le _⟩ gX5_costBehind_0.2.2.1 (fun r1503 hr1503 => ?_)
  refine lv_istore_n (lv' := [(3, .int r1503), (0, .ref h0), (1, .int ov), (2, .int qq)]) hx hb gX5_costBehind_0.2.2.2.1 rfl hl (by decide) rfl (fun ls hl => ?_)
  refine lv_iconst (v := 0) hx hb gX5_costBehind_0.2.2.2.2.1 (by decide) ?_
  refine lv_istore (lv' := [(4, .int 0), (3, .int r1503), (0, .ref h0), (1, .int ov), (2, .int qq)]) hx hb gX5_costBehind_0.2.2.2.2.2.1 hl (by decide) rfl (fun ls hl => ?_)
  refine lv_iload_n hx hb gX5_costBehind_0.2.2.2.2.2.2.1 rfl (lv_at3 hl) ?_
  refine lv_iconst (v := 1) hx hb gX5_costBehind_0.2.2.2.2.2.2.2.1 (by decide) ?_
  refine lv_iload_n hx hb gX5_costBehind_0.2.2.2.2.2.2.2.2.1 rfl (lv_at4 hl) ?_
  refine lv_ishl hx hb gX5_costBehind_0.2.2.2.2.2.2.2.2.2 ?_
  refine lv_ior hx hb gX5_costBehind_1.1 ?_
  refine lv_topi (fun x1504 ex1504 => ?_)
  refine lv_istore (lv' := [(5, .int x1504), (4, .int 0), (3, .int r1503), (0, .ref h0), (1, .int ov), (2, .int qq)]) hx hb gX5_costBehind_1.2.1 hl (by decide) rfl (fun ls hl => ?_)
  refine lv_iconst (v := 0) hx hb gX5_costBehind_1.2.2.1 (by decide) ?_
  refine lv_istore (lv' := [(6, .int 0), (5, .int x1504), (4, .int 0), (3, .int r1503), (0, .ref h0), (1, .int ov), (2, .int qq)]) hx hb gX5_costBehind_1.2.2.2.1 hl (by decide) rfl (fun ls hl => ?_)
  have keyP : ∀ (nP kP : Nat) (le : Int32) (cl : Int32) (ls : Array Slot), kP + nP = 7 → lv_has ls 7 [(6, .int (nI kP)), (5, .int x1504), (4, .int cl), (3, .int le), (0, .ref h0), (1, .int ov), (2, .int qq)] → W p l e (RM 4 0 0) s m ([.ref h0, .int ov, .int qq] : List Value).toArray below meth c s.heap [] 0 0 Q0 (F0 m 19 ls []) := by
    intro nP
    induction nP with
    | zero =>
      intro kP le cl ls hkP hl
      obtain rfl : 7 = kP := by omega
      have hl : lv_has ls 7 [(6, .int 7), (5, .int x1504), (4, .int cl), (3, .int le), (0, .ref h0), (1, .int ov), (2, .int qq)] := hl
      refine lv_iload hx hb gX5_costBehind_1.2.2.2.2.1 (lv_at0 hl) ?_
      refine lv_bipush (v := 7) hx hb gX5_costBehind_1.2.2.2.2.2.1 (by decide) ?_
      refine lv_icmp_ge (tgt := 71) hx hb gX5_costBehind_1.2.2.2.2.2.2.1 (by decide) (fun _ => ?_) (fun c9 => absurd (by decide) c9)
      refine lv_aload_n hx hb gX5_costBehind_3.2.2.2.2.2.2.2.2.2 rfl (lv_at4 hl) ?_
      refine gf_X5_24 hC rfl hK hP 0 rfl rfl gX5_costBehind_4.1 ?_
      refine gf_X5_39 hC rfl hK hP 2 rfl rfl gX5_costBehind_4.2.1 ?_
      refine lv_iload_n hx hb gX5_costBehind_4.2.2.1 rfl (lv_at6 hl) ?_
      refine lv_iconst (v := 1) hx hb gX5_costBehind_4.2.2.2.1 (by decide) ?_
      refine pV hC hK hl hP hD (c_T_at l G bquestions qq 1 7 2 bquestionsc kbquestions fbquestions (hkbquestions) (by omega) (by omega)) si_X5_44 [3, 4] sm_3_4 fm_3_4 nd_3_4 rfl rfl rfl rfl rfl (Nat.le_of_ble_eq_true rfl) rm_4_1_3 ⟨by first | exact Nat.le_of_ble_eq_true rfl | exact Nat.zero_le _, by first | exact Nat.le_of_ble_eq_true rfl | exact Nat.zero_le _⟩ gX5_costBehind_4.2.2.2.2.1 (fun r1505 hr1505 => ?_)
      refine lv_iload hx hb gX5_costBehind_4.2.2.2.2.2.1 (lv_at2 hl) ?_
      refine lv_iconst (v := (-1)) hx hb gX5_costBehind_4.2.2.2.2.2.2.1 (by decide) ?_
      refine lv_ixor hx hb gX5_costBehind_4.2.2.2.2.2.2.2.1 ?_
      refine lv_iand hx hb gX5_costBehind_4.2.2.2.2.2.2.2.2.1 ?_
      refine pS hC hK hl (c_bitCount l G (r1505 &&& (cl ^^^ (-1)))) si_X5_68 rfl rfl (Nat.le_of_ble_eq_true rfl) rm_4_1_1 ⟨by first | exact Nat.le_of_ble_eq_true rfl | exact Nat.zero_le _, by first | exact Nat.le_of_ble_eq_true rfl | exact Nat.zero_le _⟩ gX5_costBehind_4.2.2.2.2.2.2.2.2.2 (fun r1507 hr1507 => ?_)
      refine lv_istore (lv' := [(6, .int r1507), (5, .int x1504), (4, .int cl), (3, .int le), (0, .ref h0), (1, .int ov), (2, .int qq)]) hx hb gX5_costBehind_5.1 hl (by decide) rfl (fun ls hl => ?_)
      refine lv_iload_n hx hb gX5_costBehind_5.2.1 rfl (lv_at3 hl) ?_
      refine lv_iload hx hb gX5_costBehind_5.2.2.1 (lv_at0 hl) ?_
      refine lv_imul hx hb gX5_costBehind_5.2.2.2.1 ?_
      refine lv_iload hx hb gX5_costBehind_5.2.2.2.2.1 (lv_at1 hl) ?_
      refine lv_iconst (v := 0) hx hb gX5_costBehind_5.2.2.2.2.2.1 (by decide) ?_
      refine lv_aload_n hx hb gX5_costBehind_5.2.2.2.2.2.2.1 rfl (lv_at4 hl) ?_
      refine gf_X5_20 hC rfl hK hP 0 rfl rfl gX5_costBehind_5.2.2.2.2.2.2.2.1 ?_
      refine va_alen (v := 128) hx hb hK.1 hP 1 0 rfl rfl (show Int32.ofNat 128 = 128 by decide) gX5_costBehind_5.2.2.2.2.2.2.2.2.1 ?_
      refine lv_iconst (v := 1) hx hb gX5_costBehind_5.2.2.2.2.2.2.2.2.2 (by decide) ?_
      refine lv_isub hx hb gX5_costBehind_6.1 ?_
      refine eqi (x1 := 127) (by decide) ?_
      refine pSN hC hK hl (c_within l G x1504 0 127) si_X5_73 rfl rfl (Nat.le_of_ble_eq_true rfl) rm_4_1_3 ⟨by first | exact Nat.le_of_ble_eq_true rfl | exact Nat.zero_le _, by first | exact Nat.le_of_ble_eq_true rfl | exact Nat.zero_le _⟩ gX5_costBehind_6.2.1 (Kors (Keqa fun a1509 => ?_) (Keqa fun a1509 => ?_))
      · refine lv_if_eq (tgt := 123) hx hb gX5_costBehind_6.2.2.1 (by decide) (fun c9 => absurd c9 (by decide)) (fun _ => ?_)
        obtain ⟨jb, hjb, rfl⟩ := Wi127 a1509
        refine lv_aload_n hx hb gX5_costBehind_6.2.2.2.1 rfl (lv_at4 hl) ?_
        refine gf_X5_20 hC rfl hK hP 0 rfl rfl gX5_costBehind_6.2.2.2.2.1 ?_
        refine lv_iload hx hb gX5_costBehind_6.2.2.2.2.2.1 (lv_at1 hl) ?_
        refine aldN hC hK hP 1 rfl (k := jb) (by omega) (Nat.le_of_ble_eq_true rfl) (v := ftc jb) rfl gX5_costBehind_6.2.2.2.2.2.2.1 ?_
        refine lv_topi (fun x1510 ex1510 => ?_)
        refine lv_goto (tgt := 124) hx hb gX5_costBehind_6.2.2.2.2.2.2.2.1 (by decide) ?_
        refine lv_iadd hx hb gX5_costBehind_6.2.2.2.2.2.2.2.2.2 ?_
        refine toQ hQ0 ?_
        exact RP (v := (le * r1507) + x1510) hC (trivial) rfl gX5_costBehind_7
      · refine lv_if_eq (tgt := 123) hx hb gX5_costBehind_6.2.2.1 (by decide) (fun _ => ?_) (fun c9 => absurd (by decide) c9)
        refine lv_iconst (v := 0) hx hb gX5_costBehind_6.2.2.2.2.2.2.2.2.1 (by decide) ?_
        refine lv_iadd hx hb gX5_costBehind_6.2.2.2.2.2.2.2.2.2 ?_
        refine toQ hQ0 ?_
        exact RP (v := (le * r1507) + 0) hC (trivial) rfl gX5_costBehind_7
    | succ nP ihP =>
      intro kP le cl ls hkP hl
      refine lv_iload hx hb gX5_costBehind_1.2.2.2.2.1 (lv_at0 hl) ?_
      refine lv_bipush (v := 7) hx hb gX5_costBehind_1.2.2.2.2.2.1 (by decide) ?_
      refine lv_icmp_ge (tgt := 71) hx hb gX5_costBehind_1.2.2.2.2.2.2.1 (by decide) (fun c9 => absurd c9 (nI_ge (a := kP) (b := 7) (by omega) (by omega))) (fun _ => ?_)
      refine lv_iload_n hx hb gX5_costBehind_1.2.2.2.2.2.2.2.1 rfl (lv_at5 hl) ?_
      refine lv_iload hx hb gX5_costBehind_1.2.2.2.2.2.2.2.2.1 (lv_at0 hl) ?_
      refine pSN hC hK hl (c_hasBit l G ov (nI kP)) si_X5_64 rfl rfl (Nat.le_of_ble_eq_true rfl) rm_4_1_2 ⟨by first | exact Nat.le_of_ble_eq_true rfl | exact Nat.zero_le _, by first | exact Nat.le_of_ble_eq_true rfl | exact Nat.zero_le _⟩ gX5_costBehind_1.2.2.2.2.2.2.2.2.2 (Kors (Keqa fun a1512 => ?_) (Keqa fun a1512 => ?_))
      · refine lv_if_ne (tgt := 38) hx hb gX5_costBehind_2.1 (by decide) (fun _ => ?_) (fun c9 => absurd c9 (by decide))
        refine lv_iload_n hx hb gX5_costBehind_2.2.2.1 rfl (lv_at3 hl) ?_
        refine lv_aload_n hx hb gX5_costBehind_2.2.2.2.1 rfl (lv_at4 hl) ?_
        refine lv_iload hx hb gX5_costBehind_2.2.2.2.2.1 (lv_at0 hl) ?_
        refine pV hC hK hl hP hD (c_lengthOf l G h0 (nI kP) bb rr tc asd st9 tol bpersons bpapers bstamps bversions blines bsteps bsayings bfindings bwarnings bquestions td vd vl gp bquestionsc kbquestions fbquestions (hkbquestions)) si_X5_61 [0, 2, 3, 4] sm_0_2_3_4 fm_0_2_3_4 nd_0_2_3_4 rfl rfl rfl rfl rfl (Nat.le_of_ble_eq_true rfl) rm_4_3_2 ⟨by first | exact Nat.le_of_ble_eq_true rfl | exact Nat.zero_le _, by first | exact Nat.le_of_ble_eq_true rfl | exact Nat.zero_le _⟩ gX5_costBehind_2.2.2.2.2.2.1 (fun r1513 hr1513 => ?_)
        refine lv_iadd hx hb gX5_costBehind_2.2.2.2.2.2.2.1 ?_
        refine lv_istore_n (lv' := [(3, .int (le + r1513)), (6, .int (nI kP)), (5, .int x1504), (4, .int cl), (0, .ref h0), (1, .int ov), (2, .int qq)]) hx hb gX5_costBehind_2.2.2.2.2.2.2.2.1 rfl hl (by decide) rfl (fun ls hl => ?_)
        refine lv_iload hx hb gX5_costBehind_2.2.2.2.2.2.2.2.2.1 (lv_at3 hl) ?_
        refine lv_aload_n hx hb gX5_costBehind_2.2.2.2.2.2.2.2.2.2 rfl (lv_at4 hl) ?_
        refine gf_X5_24 hC rfl hK hP 0 rfl rfl gX5_costBehind_3.1 ?_
        refine gf_X5_39 hC rfl hK hP 2 rfl rfl gX5_costBehind_3.2.1 ?_
        refine lv_iload hx hb gX5_costBehind_3.2.2.1 (lv_at1 hl) ?_
        refine lv_iconst (v := 1) hx hb gX5_costBehind_3.2.2.2.1 (by decide) ?_
        refine pV hC hK hl hP hD (c_T_at l G bquestions (nI kP) 1 7 2 bquestionsc kbquestions fbquestions (hkbquestions) (by omega) (by omega)) si_X5_44 [3, 4] sm_3_4 fm_3_4 nd_3_4 rfl rfl rfl rfl rfl (Nat.le_of_ble_eq_true rfl) rm_4_1_3 ⟨by first | exact Nat.le_of_ble_eq_true rfl | exact Nat.zero_le _, by first | exact Nat.le_of_ble_eq_true rfl | exact Nat.zero_le _⟩ gX5_costBehind_3.2.2.2.2.1 (fun r1514 hr1514 => ?_)
        refine lv_ior hx hb gX5_costBehind_3.2.2.2.2.2.1 ?_
        refine lv_istore (lv' := [(4, .int (cl ||| r1514)), (3, .int (le + r1513)), (6, .int (nI kP)), (5, .int x1504), (0, .ref h0), (1, .int ov), (2, .int qq)]) hx hb gX5_costBehind_3.2.2.2.2.2.2.1 hl (by decide) rfl (fun ls hl => ?_)
        refine lv_iinc (v := nI (kP + 1)) (lv' := [(6, .int (nI (kP + 1))), (4, .int (cl ||| r1514)), (3, .int (le + r1513)), (5, .int x1504), (0, .ref h0), (1, .int ov), (2, .int qq)]) hx hb gX5_costBehind_3.2.2.2.2.2.2.2.1 hl (k := 2) rfl (nI_1 _) (by decide) rfl (fun ls hl => ?_)
        refine lv_goto (tgt := 19) hx hb gX5_costBehind_3.2.2.2.2.2.2.2.2.1 (by decide) ?_
        exact ihP (kP + 1) (le + r1513) (cl ||| r1514) _ (by omega) (lv_sub hl [0, 3, 1, 2, 4, 5, 6] rfl)
      · refine lv_if_ne (tgt := 38) hx hb gX5_costBehind_2.1 (by decide) (fun c9 => absurd (by decide) c9) (fun _ => ?_)
        refine lv_goto (tgt := 65) hx hb gX5_costBehind_2.2.1 (by decide) ?_
        refine lv_iinc (v := nI (kP + 1)) (lv' := [(6, .int (nI (kP + 1))), (5, .int x1504), (4, .int cl), (3, .int le), (0, .ref h0), (1, .int ov), (2, .int qq)]) hx hb gX5_costBehind_3.2.2.2.2.2.2.2.1 hl (k := 0) rfl (nI_1 _) (by decide) rfl (fun ls hl => ?_)
        refine lv_goto (tgt := 19) hx hb gX5_costBehind_3.2.2.2.2.2.2.2.2.1 (by decide) ?_
        exact ihP (kP + 1) le cl _ (by omega) (lv_sub hl [0, 1, 2, 3, 4, 5, 6] rfl)
  exact keyP 7 0 r1503 0 _ (by omega) (lv_sub hl [0, 1, 2, 3, 4, 5, 6] rfl)
def K_c_nextBehind (l : Launch) (G : GG) (h0 : Nat) (ov : Int32) (bb : Nat) (rr : Nat) (tc : Nat) (asd : Int32) (st9 : Int32) (tol : Int32) (ftc : Nat → Int32) (bpersons : Nat) (bpapers : Nat) (bstamps : Nat) (bversions : Nat) (blines : Nat) (bsteps : Nat) (bsayings : Nat) (bfindings : Nat) (bwarnings : Nat) (bquestions : Nat) (td : Int32) (vd : Int32) (vl : Int32) (gp : Int32) (bquestionsc : Nat) (kbquestions : Nat) (fbquestions : Nat → Int32) : Prop := MP l G yX5_nextBehind cX5_nextBehind 6 (some .int) 5 [.ref h0, .int ov] [(h0, oX5 bb rr tc asd st9 tol), (tc, iA G 128 ftc), (bb, oX0 bpersons bpapers bstamps bversions blines bsteps bsayings bfindings bwarnings bquestions td vd vl gp), (bquestions, oX8 7 2 bquestionsc (nI kbquestions)), (bquestionsc, iA G 14 fbquestions)] (fun r : Int32 => True)
set_option maxHeartbeats 4000000 in
set_option maxRecDepth 100000 in
theorem c_nextBehind (l : Launch) (G : GG) (h0 : Nat) (ov : Int32) (bb : Nat) (rr : Nat) (tc : Nat) (asd : Int32) (st9 : Int32) (tol : Int32) (ftc : Nat → Int32) (bpersons : Nat) (bpapers : Nat) (bstamps : Nat) (bversions : Nat) (blines : Nat) (bsteps : Nat) (bsayings : Nat) (bfindings : Nat) (bwarnings : Nat) (bquestions : Nat) (td : Int32) (vd : Int32) (vl : Int32) (gp : Int32) (bquestionsc : Nat) (kbquestions : Nat) (fbquestions : Nat → Int32) (hkbquestions : kbquestions ≤ 7) : K_c_nextBehind l G h0 ov bb rr tc asd st9 tol ftc bpersons bpapers bstamps bversions blines bsteps bsayings bfindings bwarnings bquestions td vd vl gp bquestionsc kbquestions fbquestions := by
  refine MP.start (by decide +kernel) (Nat.le_of_ble_eq_true rfl) ?_
  intro p e s m below meth c ls hC hK hP hD hl
  refine absQ (fun Q0 hQ0 => ?_)
  have hl : lv_has ls 6 [(0, .ref h0), (1, .int ov)] := hl
  refine Kan8 hC (fun hx hb hr hml hB hown hlocks hnm => ?_)
  refine lv_iconst (v := 0) hx hb gX5_nextBehind_0.1 (by decide) ?_
  refine lv_istore_n (lv' := [(2, .int 0), (0, .ref h0), (1, .int ov)]) hx hb gX5_nextBehind_0.2.1 rfl hl (by decide) rfl (fun ls hl => ?_)
  refine lv_ldc hx hb hown (hB _ m_843) gX5_nextBehind_0.2.2.1 ?_
  refine lv_istore_n (lv' := [(3, .int 1000000), (2, .int 0), (0, .ref h0), (1, .int ov)]) hx hb gX5_nextBehind_0.2.2.2.1 rfl hl (by decide) rfl (fun ls hl => ?_)
  refine lv_iconst (v := 0) hx hb gX5_nextBehind_0.2.2.2.2.1 (by decide) ?_
  refine lv_istore (lv' := [(4, .int 0), (3, .int 1000000), (2, .int 0), (0, .ref h0), (1, .int ov)]) hx hb gX5_nextBehind_0.2.2.2.2.2.1 hl (by decide) rfl (fun ls hl => ?_)
  have keyP : ∀ (nP kP : Nat) (nx : Int32) (le : Int32) (ls : Array Slot), kP + nP = 7 → lv_has ls 6 [(4, .int (nI kP)), (3, .int le), (2, .int nx), (0, .ref h0), (1, .int ov)] → W p l e (RM 5 0 0) s m ([.ref h0, .int ov] : List Value).toArray below meth c s.heap [] 0 0 Q0 (F0 m 8 ls []) := by
    intro nP
    induction nP with
    | zero =>
      intro kP nx le ls hkP hl
      obtain rfl : 7 = kP := by omega
      have hl : lv_has ls 6 [(4, .int 7), (3, .int le), (2, .int nx), (0, .ref h0), (1, .int ov)] := hl
      refine lv_iload hx hb gX5_nextBehind_0.2.2.2.2.2.2.1 (lv_at0 hl) ?_
      refine lv_bipush (v := 7) hx hb gX5_nextBehind_0.2.2.2.2.2.2.2.1 (by decide) ?_
      refine lv_icmp_ge (tgt := 64) hx hb gX5_nextBehind_0.2.2.2.2.2.2.2.2.1 (by decide) (fun _ => ?_) (fun c9 => absurd (by decide) c9)
      refine lv_iload_n hx hb gX5_nextBehind_3.2.2.2.2.1 rfl (lv_at2 hl) ?_
      refine toQ hQ0 ?_
      exact RP (v := nx) hC (trivial) rfl gX5_nextBehind_3.2.2.2.2.2
    | succ nP ihP =>
      intro kP nx le ls hkP hl
      refine lv_iload hx hb gX5_nextBehind_0.2.2.2.2.2.2.1 (lv_at0 hl) ?_
      refine lv_bipush (v := 7) hx hb gX5_nextBehind_0.2.2.2.2.2.2.2.1 (by decide) ?_
      refine lv_icmp_ge (tgt := 64) hx hb gX5_nextBehind_0.2.2.2.2.2.2.2.2.1 (by decide) (fun c9 => absurd c9 (nI_ge (a := kP) (b := 7) (by omega) (by omega))) (fun _ => ?_)
      refine lv_aload_n hx hb gX5_nextBehind_0.2.2.2.2.2.2.2.2.2 rfl (lv_at3 hl) ?_
      refine gf_X5_28 hC rfl hK hP 0 rfl rfl gX5_nextBehind_1.1 ?_
      refine lv_iload_n hx hb gX5_nextBehind_1.2.1 rfl (lv_at4 hl) ?_
      refine lv_iconst (v := (-1)) hx hb gX5_nextBehind_1.2.2.1 (by decide) ?_
      refine lv_ixor hx hb gX5_nextBehind_1.2.2.2.1 ?_
      refine lv_iand hx hb gX5_nextBehind_1.2.2.2.2.1 ?_
      refine lv_iload hx hb gX5_nextBehind_1.2.2.2.2.2.1 (lv_at0 hl) ?_
      refine pSN hC hK hl (c_hasBit l G (asd &&& (ov ^^^ (-1))) (nI kP)) si_X5_64 rfl rfl (Nat.le_of_ble_eq_true rfl) rm_5_1_2 ⟨by first | exact Nat.le_of_ble_eq_true rfl | exact Nat.zero_le _, by first | exact Nat.le_of_ble_eq_true rfl | exact Nat.zero_le _⟩ gX5_nextBehind_1.2.2.2.2.2.2.1 (Kors (Keqa fun a1517 => ?_) (Keqa fun a1517 => ?_))
      · refine lv_if_ne (tgt := 34) hx hb gX5_nextBehind_1.2.2.2.2.2.2.2.1 (by decide) (fun _ => ?_) (fun c9 => absurd c9 (by decide))
        refine lv_aload_n hx hb gX5_nextBehind_1.2.2.2.2.2.2.2.2.2 rfl (lv_at3 hl) ?_
        refine lv_iload_n hx hb gX5_nextBehind_2.1 rfl (lv_at4 hl) ?_
        refine lv_iload hx hb gX5_nextBehind_2.2.1 (lv_at0 hl) ?_
        refine pV hC hK hl hP hD (c_costBehind l G h0 ov (nI kP) bb rr tc asd st9 tol ftc bpersons bpapers bstamps bversions blines bsteps bsayings bfindings bwarnings bquestions td vd vl gp bquestionsc kbquestions fbquestions (hkbquestions)) si_X5_55 [0, 1, 2, 3, 4] sm_0_1_2_3_4 fm_0_1_2_3_4 nd_0_1_2_3_4 rfl rfl rfl rfl rfl (Nat.le_of_ble_eq_true rfl) rm_5_4_7 ⟨by first | exact Nat.le_of_ble_eq_true rfl | exact Nat.zero_le _, by first | exact Nat.le_of_ble_eq_true rfl | exact Nat.zero_le _⟩ gX5_nextBehind_2.2.2.1 (fun r1518 hr1518 => ?_)
        refine lv_istore (lv' := [(5, .int r1518), (4, .int (nI kP)), (3, .int le), (2, .int nx), (0, .ref h0), (1, .int ov)]) hx hb gX5_nextBehind_2.2.2.2.1 hl (by decide) rfl (fun ls hl => ?_)
        refine lv_iload hx hb gX5_nextBehind_2.2.2.2.2.1 (lv_at0 hl) ?_
        refine lv_iload_n hx hb gX5_nextBehind_2.2.2.2.2.2.1 rfl (lv_at2 hl) ?_
        refine lv_icmp_lt (tgt := 52) hx hb gX5_nextBehind_2.2.2.2.2.2.2.1 (by decide) (fun c_46_1519 => ?_) (fun c_46_1519 => ?_)
        · refine lv_iload hx hb gX5_nextBehind_2.2.2.2.2.2.2.2.2.1 (lv_at0 hl) ?_
          refine lv_istore_n (lv' := [(3, .int r1518), (5, .int r1518), (4, .int (nI kP)), (2, .int nx), (0, .ref h0), (1, .int ov)]) hx hb gX5_nextBehind_2.2.2.2.2.2.2.2.2.2 rfl hl (by decide) rfl (fun ls hl => ?_)
          refine lv_iload hx hb gX5_nextBehind_3.1 (lv_at2 hl) ?_
          refine lv_istore_n (lv' := [(2, .int (nI kP)), (3, .int r1518), (5, .int r1518), (4, .int (nI kP)), (0, .ref h0), (1, .int ov)]) hx hb gX5_nextBehind_3.2.1 rfl hl (by decide) rfl (fun ls hl => ?_)
          refine lv_iinc (v := nI (kP + 1)) (lv' := [(4, .int (nI (kP + 1))), (2, .int (nI kP)), (3, .int r1518), (5, .int r1518), (0, .ref h0), (1, .int ov)]) hx hb gX5_nextBehind_3.2.2.1 hl (k := 3) rfl (nI_1 _) (by decide) rfl (fun ls hl => ?_)
          refine lv_goto (tgt := 8) hx hb gX5_nextBehind_3.2.2.2.1 (by decide) ?_
          exact ihP (kP + 1) (nI kP) r1518 _ (by omega) (lv_sub hl [0, 2, 1, 4, 5] rfl)
        · refine lv_goto (tgt := 58) hx hb gX5_nextBehind_2.2.2.2.2.2.2.2.1 (by decide) ?_
          refine lv_iinc (v := nI (kP + 1)) (lv' := [(4, .int (nI (kP + 1))), (5, .int r1518), (3, .int le), (2, .int nx), (0, .ref h0), (1, .int ov)]) hx hb gX5_nextBehind_3.2.2.1 hl (k := 1) rfl (nI_1 _) (by decide) rfl (fun ls hl => ?_)
          refine lv_goto (tgt := 8) hx hb gX5_nextBehind_3.2.2.2.1 (by decide) ?_
          exact ihP (kP + 1) nx le _ (by omega) (lv_sub hl [0, 2, 3, 4, 5] rfl)
      · refine lv_if_ne (tgt := 34) hx hb gX5_nextBehind_1.2.2.2.2.2.2.2.1 (by decide) (fun c9 => absurd (by decide) c9) (fun _ => ?_)
        refine lv_goto (tgt := 58) hx hb gX5_nextBehind_1.2.2.2.2.2.2.2.2.1 (by decide) ?_
        refine lv_iinc (v := nI (kP + 1)) (lv' := [(4, .int (nI (kP + 1))), (3, .int le), (2, .int nx), (0, .ref h0), (1, .int ov)]) hx hb gX5_nextBehind_3.2.2.1 hl (k := 0) rfl (nI_1 _) (by decide) rfl (fun ls hl => ?_)
        refine lv_goto (tgt := 8) hx hb gX5_nextBehind_3.2.2.2.1 (by decide) ?_
        exact ihP (kP + 1) nx le _ (by omega) (lv_sub hl [0, 1, 2, 3, 4] rfl)
  exact keyP 7 0 0 1000000 _ (by omega) (lv_sub hl [0, 1, 2, 3, 4] rfl)
def K_c_tellRows (l : Launch) (G : GG) (h0 : Nat) (bb : Nat) (rr : Nat) (tc : Nat) (asd : Int32) (st9 : Int32) (tol : Int32) (rrc : Nat) (kr : Nat) (frr : Nat → Int32) (ftc : Nat → Int32) (bpersons : Nat) (bpapers : Nat) (bstamps : Nat) (bversions : Nat) (blines : Nat) (bsteps : Nat) (bsayings : Nat) (bfindings : Nat) (bwarnings : Nat) (bquestions : Nat) (td : Int32) (vd : Int32) (vl : Int32) (gp : Int32) (bquestionsc : Nat) (kbquestions : Nat) (fbquestions : Nat → Int32) : Prop := MV l G yX5_tellRows cX5_tellRows 6 6 0 0 [.ref h0] [(h0, oX5 bb rr tc asd st9 tol), (rr, oX8 7 2 rrc (nI kr)), (rrc, iA G 14 frr), (tc, iA G 128 ftc), (bb, oX0 bpersons bpapers bstamps bversions blines bsteps bsayings bfindings bwarnings bquestions td vd vl gp), (bquestions, oX8 7 2 bquestionsc (nI kbquestions)), (bquestionsc, iA G 14 fbquestions)] (fun u : Nat × (Nat → Int32) => u.1 ≤ 7) (fun u : Nat × (Nat → Int32) => [(h0, oX5 bb rr tc asd st9 tol), (rr, oX8 7 2 rrc (nI u.1)), (rrc, iA G 14 u.2), (tc, iA G 128 ftc), (bb, oX0 bpersons bpapers bstamps bversions blines bsteps bsayings bfindings bwarnings bquestions td vd vl gp), (bquestions, oX8 7 2 bquestionsc (nI kbquestions)), (bquestionsc, iA G 14 fbquestions)])
set_option maxHeartbeats 4000000 in
set_option maxRecDepth 100000 in
theorem c_tellRows (l : Launch) (G : GG) (h0 : Nat) (bb : Nat) (rr : Nat) (tc : Nat) (asd : Int32) (st9 : Int32) (tol : Int32) (rrc : Nat) (kr : Nat) (frr : Nat → Int32) (ftc : Nat → Int32) (bpersons : Nat) (bpapers : Nat) (bstamps : Nat) (bversions : Nat) (blines : Nat) (bsteps : Nat) (bsayings : Nat) (bfindings : Nat) (bwarnings : Nat) (bquestions : Nat) (td : Int32) (vd : Int32) (vl : Int32) (gp : Int32) (bquestionsc : Nat) (kbquestions : Nat) (fbquestions : Nat → Int32) (hkr : kr ≤ 7) (hkbquestions : kbquestions ≤ 7) : K_c_tellRows l G h0 bb rr tc asd st9 tol rrc kr frr ftc bpersons bpapers bstamps bversions blines bsteps bsayings bfindings bwarnings bquestions td vd vl gp bquestionsc kbquestions fbquestions := by
  refine MV.start (by decide +kernel) (Nat.le_of_ble_eq_true rfl) ?_
  intro p e s m below meth c A ls hC hK hP hD hS hA hl
  refine absQ (fun Q0 hQ0 => ?_)
  have hl : lv_has ls 6 [(0, .ref h0)] := hl
  refine Kan8 hC (fun hx hb hr hml hB hown hlocks hnm => ?_)
  refine lv_aload_n hx hb gX5_tellRows_0.1 rfl (lv_at0 hl) ?_
  refine gf_X5_14 hC rfl hK hP 0 rfl rfl gX5_tellRows_0.2.1 ?_
  refine lv_iconst (v := 0) hx hb gX5_tellRows_0.2.2.1 (by decide) ?_
  refine vV (wr := [(h0, oX5 bb rr tc asd st9 tol), (rrc, iA G 14 frr), (tc, iA G 128 ftc), (bb, oX0 bpersons bpapers bstamps bversions blines bsteps bsayings bfindings bwarnings bquestions td vd vl gp), (bquestions, oX8 7 2 bquestionsc (nI kbquestions)), (bquestionsc, iA G 14 fbquestions)]) hC hK hl hP hD hS hA (c_T_cut0 l G rr 7 2 rrc kr (by omega)) si_X5_78 [1] [0, 2, 3, 4, 5, 6] sm_1 fm_1 nd_1 sm_0_2_3_4_5_6 nd_0_2_3_4_5_6 dj_1__0_2_3_4_5_6 rfl rfl rfl rfl rfl (Nat.le_of_ble_eq_true rfl) rm_6_1_2 ⟨Nat.le_of_ble_eq_true rfl, Nat.le_of_ble_eq_true rfl⟩ gX5_tellRows_0.2.2.2.1 (fun u1521 H locs hr1520 hP hD hS => ?_)
  refine Kpdr (ws := [(h0, oX5 bb rr tc asd st9 tol), (rrc, iA G 14 frr), (tc, iA G 128 ftc), (bb, oX0 bpersons bpapers bstamps bversions blines bsteps bsayings bfindings bwarnings bquestions td vd vl gp), (bquestions, oX8 7 2 bquestionsc (nI kbquestions)), (bquestionsc, iA G 14 fbquestions), (rr, oX8 7 2 rrc 0)]) hP hD (fun hP hD => ?_)
  refine lv_iconst (v := 0) hx hb gX5_tellRows_0.2.2.2.2.1 (by decide) ?_
  refine lv_istore_n (lv' := [(1, .int 0), (0, .ref h0)]) hx hb gX5_tellRows_0.2.2.2.2.2.1 rfl hl (by decide) rfl (fun ls hl => ?_)
  refine lv_aload_n hx hb gX5_tellRows_0.2.2.2.2.2.2.1 rfl (lv_at1 hl) ?_
  refine gf_X5_32 hC rfl hK hP 0 rfl rfl gX5_tellRows_0.2.2.2.2.2.2.2.1 ?_
  refine lv_istore_n (lv' := [(2, .int st9), (1, .int 0), (0, .ref h0)]) hx hb gX5_tellRows_0.2.2.2.2.2.2.2.2.1 rfl hl (by decide) rfl (fun ls hl => ?_)
  refine lv_iconst (v := 0) hx hb gX5_tellRows_0.2.2.2.2.2.2.2.2.2 (by decide) ?_
  refine lv_istore_n (lv' := [(3, .int 0), (2, .int st9), (1, .int 0), (0, .ref h0)]) hx hb gX5_tellRows_1.1 rfl hl (by decide) rfl (fun ls hl => ?_)
  have keyP : ∀ (nP kP : Nat) (ov9 : Int32) (dy9 : Int32) (vrr : Nat → Int32) (H : Heap) (locs : List Loc) (ls : Array Slot), kP + nP = 7 → va_PD G A [(h0, oX5 bb rr tc asd st9 tol), (rrc, iA G 14 vrr), (tc, iA G 128 ftc), (bb, oX0 bpersons bpapers bstamps bversions blines bsteps bsayings bfindings bwarnings bquestions td vd vl gp), (bquestions, oX8 7 2 bquestionsc (nI kbquestions)), (bquestionsc, iA G 14 fbquestions), (rr, oX8 7 2 rrc (nI kP))] H → va_S A s.heap H locs → lv_has ls 6 [(3, .int (nI kP)), (2, .int dy9), (1, .int ov9), (0, .ref h0)] → W p l e (RM 6 0 0) s m ([.ref h0] : List Value).toArray below meth c H locs 0 0 Q0 (F0 m 17 ls []) := by
    intro nP
    induction nP with
    | zero =>
      intro kP ov9 dy9 vrr H locs ls hkP hPD hS hl
      refine Kan2 hPD (fun hP hD => ?_)
      obtain rfl : 7 = kP := by omega
      refine Kpdr (ws := [(h0, oX5 bb rr tc asd st9 tol), (rrc, iA G 14 vrr), (tc, iA G 128 ftc), (bb, oX0 bpersons bpapers bstamps bversions blines bsteps bsayings bfindings bwarnings bquestions td vd vl gp), (bquestions, oX8 7 2 bquestionsc (nI kbquestions)), (bquestionsc, iA G 14 fbquestions), (rr, oX8 7 2 rrc 7)]) hP hD (fun hP hD => ?_)
      have hl : lv_has ls 6 [(3, .int 7), (2, .int dy9), (1, .int ov9), (0, .ref h0)] := hl
      refine lv_iload_n hx hb gX5_tellRows_1.2.1 rfl (lv_at0 hl) ?_
      refine lv_bipush (v := 7) hx hb gX5_tellRows_1.2.2.1 (by decide) ?_
      refine lv_icmp_ge (tgt := 92) hx hb gX5_tellRows_1.2.2.2.1 (by decide) (fun _ => ?_) (fun c9 => absurd (by decide) c9)
      refine toQ hQ0 ?_
      exact RV hC hP hD hS [0, 6, 1, 2, 3, 4, 5] (7, vrr) rfl rfl (by decide) (by omega) gX5_tellRows_5.2.2
    | succ nP ihP =>
      intro kP ov9 dy9 vrr H locs ls hkP hPD hS hl
      refine Kan2 hPD (fun hP hD => ?_)
      refine lv_iload_n hx hb gX5_tellRows_1.2.1 rfl (lv_at0 hl) ?_
      refine lv_bipush (v := 7) hx hb gX5_tellRows_1.2.2.1 (by decide) ?_
      refine lv_icmp_ge (tgt := 92) hx hb gX5_tellRows_1.2.2.2.1 (by decide) (fun c9 => absurd c9 (nI_ge (a := kP) (b := 7) (by omega) (by omega))) (fun _ => ?_)
      refine lv_iload_n hx hb gX5_tellRows_1.2.2.2.2.1 rfl (lv_at2 hl) ?_
      refine lv_aload_n hx hb gX5_tellRows_1.2.2.2.2.2.1 rfl (lv_at3 hl) ?_
      refine gf_X5_28 hC rfl hK hP 0 rfl rfl gX5_tellRows_1.2.2.2.2.2.2.1 ?_
      refine lv_icmp_eq (tgt := 92) hx hb gX5_tellRows_1.2.2.2.2.2.2.2.1 (by decide) (fun c_28_1522 => ?_) (fun c_28_1522 => ?_)
      · refine toQ hQ0 ?_
        exact RV hC hP hD hS [0, 6, 1, 2, 3, 4, 5] (kP, vrr) rfl rfl (by decide) (by omega) gX5_tellRows_5.2.2
      · refine lv_aload_n hx hb gX5_tellRows_1.2.2.2.2.2.2.2.2.1 rfl (lv_at3 hl) ?_
        refine lv_iload_n hx hb gX5_tellRows_1.2.2.2.2.2.2.2.2.2 rfl (lv_at2 hl) ?_
        refine pV hC hK hl hP hD (c_nextBehind l G h0 ov9 bb rr tc asd st9 tol ftc bpersons bpapers bstamps bversions blines bsteps bsayings bfindings bwarnings bquestions td vd vl gp bquestionsc kbquestions fbquestions (hkbquestions)) si_X5_51 [0, 2, 3, 4, 5] sm_0_2_3_4_5 fm_0_2_3_4_5 nd_0_2_3_4_5 rfl rfl rfl rfl rfl (Nat.le_of_ble_eq_true rfl) rm_6_5_6 ⟨by first | exact Nat.le_of_ble_eq_true rfl | exact Nat.zero_le _, by first | exact Nat.le_of_ble_eq_true rfl | exact Nat.zero_le _⟩ gX5_tellRows_2.1 (fun r1523 hr1523 => ?_)
        refine lv_istore (lv' := [(4, .int r1523), (3, .int (nI kP)), (2, .int dy9), (1, .int ov9), (0, .ref h0)]) hx hb gX5_tellRows_2.2.1 hl (by decide) rfl (fun ls hl => ?_)
        refine lv_iload_n hx hb gX5_tellRows_2.2.2.1 rfl (lv_at3 hl) ?_
        refine lv_iconst (v := 1) hx hb gX5_tellRows_2.2.2.2.1 (by decide) ?_
        refine lv_iload hx hb gX5_tellRows_2.2.2.2.2.1 (lv_at0 hl) ?_
        refine lv_ishl hx hb gX5_tellRows_2.2.2.2.2.2.1 ?_
        refine lv_ior hx hb gX5_tellRows_2.2.2.2.2.2.2.1 ?_
        refine lv_istore_n (lv' := [(1, .int (ov9 ||| (1 <<< (r1523 &&& 31)))), (4, .int r1523), (3, .int (nI kP)), (2, .int dy9), (0, .ref h0)]) hx hb gX5_tellRows_2.2.2.2.2.2.2.2.1 rfl hl (by decide) rfl (fun ls hl => ?_)
        refine lv_iload_n hx hb gX5_tellRows_2.2.2.2.2.2.2.2.2.1 rfl (lv_at3 hl) ?_
        refine lv_aload_n hx hb gX5_tellRows_2.2.2.2.2.2.2.2.2.2 rfl (lv_at4 hl) ?_
        refine lv_iload hx hb gX5_tellRows_3.1 (lv_at1 hl) ?_
        refine pV hC hK hl hP hD (c_lengthOf l G h0 r1523 bb rr tc asd st9 tol bpersons bpapers bstamps bversions blines bsteps bsayings bfindings bwarnings bquestions td vd vl gp bquestionsc kbquestions fbquestions (hkbquestions)) si_X5_61 [0, 3, 4, 5] sm_0_3_4_5 fm_0_3_4_5 nd_0_3_4_5 rfl rfl rfl rfl rfl (Nat.le_of_ble_eq_true rfl) rm_6_3_2 ⟨by first | exact Nat.le_of_ble_eq_true rfl | exact Nat.zero_le _, by first | exact Nat.le_of_ble_eq_true rfl | exact Nat.zero_le _⟩ gX5_tellRows_3.2.1 (fun r1524 hr1524 => ?_)
        refine lv_iadd hx hb gX5_tellRows_3.2.2.1 ?_
        refine lv_istore_n (lv' := [(2, .int (dy9 + r1524)), (1, .int (ov9 ||| (1 <<< (r1523 &&& 31)))), (4, .int r1523), (3, .int (nI kP)), (0, .ref h0)]) hx hb gX5_tellRows_3.2.2.2.1 rfl hl (by decide) rfl (fun ls hl => ?_)
        refine lv_aload_n hx hb gX5_tellRows_3.2.2.2.2.1 rfl (lv_at4 hl) ?_
        refine gf_X5_14 hC rfl hK hP 0 rfl rfl gX5_tellRows_3.2.2.2.2.2.1 ?_
        refine iV (wr := [(h0, oX5 bb rr tc asd st9 tol), (rrc, iA G 14 vrr), (tc, iA G 128 ftc), (bb, oX0 bpersons bpapers bstamps bversions blines bsteps bsayings bfindings bwarnings bquestions td vd vl gp), (bquestions, oX8 7 2 bquestionsc (nI kbquestions)), (bquestionsc, iA G 14 fbquestions)]) hC hK hl hP hD hS hA (c_T_append l G rr 7 2 rrc kP (by omega) (by omega)) si_X5_82 [6] [0, 1, 2, 3, 4, 5] sm_6 fm_6 nd_6 sm_0_1_2_3_4_5 nd_0_1_2_3_4_5 dj_6__0_1_2_3_4_5 rfl rfl rfl rfl rfl (Nat.le_of_ble_eq_true rfl) rm_6_1_1 ⟨Nat.le_of_ble_eq_true rfl, Nat.le_of_ble_eq_true rfl⟩ gX5_tellRows_3.2.2.2.2.2.2.1 (fun r1525 u1526 H locs hr1525 hP hD hS => ?_)
        refine Kpdr (ws := [(h0, oX5 bb rr tc asd st9 tol), (rrc, iA G 14 vrr), (tc, iA G 128 ftc), (bb, oX0 bpersons bpapers bstamps bversions blines bsteps bsayings bfindings bwarnings bquestions td vd vl gp), (bquestions, oX8 7 2 bquestionsc (nI kbquestions)), (bquestionsc, iA G 14 fbquestions), (rr, oX8 7 2 rrc (nI (kP + 1)))]) hP hD (fun hP hD => ?_)
        obtain rfl := hr1525
        refine lv_istore (lv' := [(5, .int (nI kP)), (2, .int (dy9 + r1524)), (1, .int (ov9 ||| (1 <<< (r1523 &&& 31)))), (4, .int r1523), (3, .int (nI kP)), (0, .ref h0)]) hx hb gX5_tellRows_3.2.2.2.2.2.2.2.1 hl (by decide) rfl (fun ls hl => ?_)
        refine lv_aload_n hx hb gX5_tellRows_3.2.2.2.2.2.2.2.2.1 rfl (lv_at5 hl) ?_
        refine gf_X5_14 hC rfl hK hP 0 rfl rfl gX5_tellRows_3.2.2.2.2.2.2.2.2.2 ?_
        refine lv_iload hx hb gX5_tellRows_4.1 (lv_at0 hl) ?_
        refine lv_iconst (v := 0) hx hb gX5_tellRows_4.2.1 (by decide) ?_
        refine lv_iload hx hb gX5_tellRows_4.2.2.1 (lv_at3 hl) ?_
        refine vV (wr := [(h0, oX5 bb rr tc asd st9 tol), (tc, iA G 128 ftc), (bb, oX0 bpersons bpapers bstamps bversions blines bsteps bsayings bfindings bwarnings bquestions td vd vl gp), (bquestions, oX8 7 2 bquestionsc (nI kbquestions)), (bquestionsc, iA G 14 fbquestions)]) hC hK hl hP hD hS hA (c_T_set l G rr (nI kP) 0 r1523 7 2 rrc (kP + 1) vrr (by omega) (by omega) (by omega)) si_X5_86 [6, 1] [0, 2, 3, 4, 5] sm_6_1 fm_6_1 nd_6_1 sm_0_2_3_4_5 nd_0_2_3_4_5 dj_6_1__0_2_3_4_5 rfl rfl rfl rfl rfl (Nat.le_of_ble_eq_true rfl) rm_6_1_4 ⟨Nat.le_of_ble_eq_true rfl, Nat.le_of_ble_eq_true rfl⟩ gX5_tellRows_4.2.2.2.1 (fun f11530 H locs hr1528 hP hD hS => ?_)
        try dsimp only at hr1528
        refine Kpdr (ws := [(h0, oX5 bb rr tc asd st9 tol), (tc, iA G 128 ftc), (bb, oX0 bpersons bpapers bstamps bversions blines bsteps bsayings bfindings bwarnings bquestions td vd vl gp), (bquestions, oX8 7 2 bquestionsc (nI kbquestions)), (bquestionsc, iA G 14 fbquestions), (rr, oX8 7 2 rrc (nI (kP + 1))), (rrc, iA G 14 f11530)]) hP hD (fun hP hD => ?_)
        have w1531 := hr1528
        refine lv_aload_n hx hb gX5_tellRows_4.2.2.2.2.1 rfl (lv_at5 hl) ?_
        refine gf_X5_14 hC rfl hK hP 0 rfl rfl gX5_tellRows_4.2.2.2.2.2.1 ?_
        refine lv_iload hx hb gX5_tellRows_4.2.2.2.2.2.2.1 (lv_at0 hl) ?_
        refine lv_iconst (v := 1) hx hb gX5_tellRows_4.2.2.2.2.2.2.2.1 (by decide) ?_
        refine lv_iload_n hx hb gX5_tellRows_4.2.2.2.2.2.2.2.2.1 rfl (lv_at1 hl) ?_
        refine vV (wr := [(h0, oX5 bb rr tc asd st9 tol), (tc, iA G 128 ftc), (bb, oX0 bpersons bpapers bstamps bversions blines bsteps bsayings bfindings bwarnings bquestions td vd vl gp), (bquestions, oX8 7 2 bquestionsc (nI kbquestions)), (bquestionsc, iA G 14 fbquestions)]) hC hK hl hP hD hS hA (c_T_set l G rr (nI kP) 1 (dy9 + r1524) 7 2 rrc (kP + 1) f11530 (by omega) (by omega) (by omega)) si_X5_86 [5, 6] [0, 1, 2, 3, 4] sm_5_6 fm_5_6 nd_5_6 sm_0_1_2_3_4 nd_0_1_2_3_4 dj_5_6__0_1_2_3_4 rfl rfl rfl rfl rfl (Nat.le_of_ble_eq_true rfl) rm_6_1_4 ⟨Nat.le_of_ble_eq_true rfl, Nat.le_of_ble_eq_true rfl⟩ gX5_tellRows_4.2.2.2.2.2.2.2.2.2 (fun f11534 H locs hr1532 hP hD hS => ?_)
        try dsimp only at hr1532
        refine Kpdr (ws := [(h0, oX5 bb rr tc asd st9 tol), (tc, iA G 128 ftc), (bb, oX0 bpersons bpapers bstamps bversions blines bsteps bsayings bfindings bwarnings bquestions td vd vl gp), (bquestions, oX8 7 2 bquestionsc (nI kbquestions)), (bquestionsc, iA G 14 fbquestions), (rr, oX8 7 2 rrc (nI (kP + 1))), (rrc, iA G 14 f11534)]) hP hD (fun hP hD => ?_)
        have w1535 := hr1532
        refine lv_iinc (v := nI (kP + 1)) (lv' := [(3, .int (nI (kP + 1))), (5, .int (nI kP)), (2, .int (dy9 + r1524)), (1, .int (ov9 ||| (1 <<< (r1523 &&& 31)))), (4, .int r1523), (0, .ref h0)]) hx hb gX5_tellRows_5.1 hl (k := 4) rfl (nI_1 _) (by decide) rfl (fun ls hl => ?_)
        refine lv_goto (tgt := 17) hx hb gX5_tellRows_5.2.1 (by decide) ?_
        refine Kpds (ws' := [(h0, oX5 bb rr tc asd st9 tol), (rrc, iA G 14 f11534), (tc, iA G 128 ftc), (bb, oX0 bpersons bpapers bstamps bversions blines bsteps bsayings bfindings bwarnings bquestions td vd vl gp), (bquestions, oX8 7 2 bquestionsc (nI kbquestions)), (bquestionsc, iA G 14 fbquestions), (rr, oX8 7 2 rrc (nI (kP + 1)))]) hP hD [0, 6, 1, 2, 3, 4, 5] fm_0_6_1_2_3_4_5 nd_0_6_1_2_3_4_5 sm_0_6_1_2_3_4_5 (fun hP hD => ?_)
        exact ihP (kP + 1) (ov9 ||| (1 <<< (r1523 &&& 31))) (dy9 + r1524) f11534 _ _ _ (by omega) (And.intro hP hD) hS (lv_sub hl [0, 2, 3, 5] rfl)
  exact keyP 7 0 0 st9 frr _ _ _ (by omega) (And.intro hP hD) hS (lv_sub hl [0, 1, 2, 3] rfl)
def K_c_order (l : Launch) (G : GG) (h0 : Nat) (qs : Int32) (bb : Nat) (rr : Nat) (tc : Nat) (asd : Int32) (st9 : Int32) (tol : Int32) (rrc : Nat) (kr : Nat) (frr : Nat → Int32) (ftc : Nat → Int32) (bpersons : Nat) (bpapers : Nat) (bstamps : Nat) (bversions : Nat) (blines : Nat) (bsteps : Nat) (bsayings : Nat) (bfindings : Nat) (bwarnings : Nat) (bquestions : Nat) (td : Int32) (vd : Int32) (vl : Int32) (gp : Int32) (bquestionsc : Nat) (kbquestions : Nat) (fbquestions : Nat → Int32) : Prop := MI l G yX5_order cX5_order 3 (some .int) 8 0 0 [.ref h0, .int qs] [(h0, oX5 bb rr tc asd st9 tol), (rr, oX8 7 2 rrc (nI kr)), (rrc, iA G 14 frr), (tc, iA G 128 ftc), (bb, oX0 bpersons bpapers bstamps bversions blines bsteps bsayings bfindings bwarnings bquestions td vd vl gp), (bquestions, oX8 7 2 bquestionsc (nI kbquestions)), (bquestionsc, iA G 14 fbquestions)] (fun (r : Int32) (u : Nat × Nat × (Nat → Int32) × (Nat → Int32)) => (True) ∧ (u.1 < 128 ∧ u.2.1 ≤ 7)) (fun u : Nat × Nat × (Nat → Int32) × (Nat → Int32) => [(h0, oX5 bb rr tc (nI u.1) td 1), (rr, oX8 7 2 rrc (nI u.2.1)), (rrc, iA G 14 u.2.2.1), (tc, iA G 128 u.2.2.2), (bb, oX0 bpersons bpapers bstamps bversions blines bsteps bsayings bfindings bwarnings bquestions td vd vl gp), (bquestions, oX8 7 2 bquestionsc (nI kbquestions)), (bquestionsc, iA G 14 fbquestions)])
set_option maxHeartbeats 4000000 in
set_option maxRecDepth 100000 in
theorem c_order (l : Launch) (G : GG) (h0 : Nat) (qs : Int32) (bb : Nat) (rr : Nat) (tc : Nat) (asd : Int32) (st9 : Int32) (tol : Int32) (rrc : Nat) (kr : Nat) (frr : Nat → Int32) (ftc : Nat → Int32) (bpersons : Nat) (bpapers : Nat) (bstamps : Nat) (bversions : Nat) (blines : Nat) (bsteps : Nat) (bsayings : Nat) (bfindings : Nat) (bwarnings : Nat) (bquestions : Nat) (td : Int32) (vd : Int32) (vl : Int32) (gp : Int32) (bquestionsc : Nat) (kbquestions : Nat) (fbquestions : Nat → Int32) (hkr : kr ≤ 7) (hkbquestions : kbquestions ≤ 7) : K_c_order l G h0 qs bb rr tc asd st9 tol rrc kr frr ftc bpersons bpapers bstamps bversions blines bsteps bsayings bfindings bwarnings bquestions td vd vl gp bquestionsc kbquestions fbquestions := by
  refine MI.start (by decide +kernel) (Nat.le_of_ble_eq_true rfl) ?_
  intro p e s m below meth c A ls hC hK hP hD hS hA hl
  refine absQ (fun Q0 hQ0 => ?_)
  have hl : lv_has ls 3 [(0, .ref h0), (1, .int qs)] := hl
  refine Kan8 hC (fun hx hb hr hml hB hown hlocks hnm => ?_)
  refine lv_aload_n hx hb gX5_order_0.1 rfl (lv_at0 hl) ?_
  refine lv_iload_n hx hb gX5_order_0.2.1 rfl (lv_at1 hl) ?_
  refine lv_aload_n hx hb gX5_order_0.2.2.1 rfl (lv_at0 hl) ?_
  refine gf_X5_20 hC rfl hK hP 0 rfl rfl gX5_order_0.2.2.2.1 ?_
  refine va_alen (v := 128) hx hb hK.1 hP 3 0 rfl rfl (show Int32.ofNat 128 = 128 by decide) gX5_order_0.2.2.2.2.1 ?_
  refine lv_iconst (v := 1) hx hb gX5_order_0.2.2.2.2.2.1 (by decide) ?_
  refine lv_isub hx hb gX5_order_0.2.2.2.2.2.2.1 ?_
  refine eqi (x1 := 127) (by decide) ?_
  refine lv_iand hx hb gX5_order_0.2.2.2.2.2.2.2.1 ?_
  obtain ⟨ja1, hja1, eja1⟩ := pk_andE qs (m := 127) 7 (by decide)
  refine eqi (x1 := nI ja1) (eja1) ?_
  refine pf_X5_28 hC rfl hK hP hD hS 0 (ws' := [(h0, oX5 bb rr tc (nI ja1) st9 tol), (rr, oX8 7 2 rrc (nI kr)), (rrc, iA G 14 frr), (tc, iA G 128 ftc), (bb, oX0 bpersons bpapers bstamps bversions blines bsteps bsayings bfindings bwarnings bquestions td vd vl gp), (bquestions, oX8 7 2 bquestionsc (nI kbquestions)), (bquestionsc, iA G 14 fbquestions)]) rfl (Nat.le_of_ble_eq_true rfl) rfl rfl rfl gX5_order_0.2.2.2.2.2.2.2.2.1 (fun H locs hP hD hS => ?_)
  refine lv_aload_n hx hb gX5_order_0.2.2.2.2.2.2.2.2.2 rfl (lv_at0 hl) ?_
  refine lv_aload_n hx hb gX5_order_1.1 rfl (lv_at0 hl) ?_
  refine gf_X5_24 hC rfl hK hP 0 rfl rfl gX5_order_1.2.1 ?_
  refine gf_X5_48 hC rfl hK hP 4 rfl rfl gX5_order_1.2.2.1 ?_
  refine pf_X5_32 hC rfl hK hP hD hS 0 (ws' := [(h0, oX5 bb rr tc (nI ja1) td tol), (rr, oX8 7 2 rrc (nI kr)), (rrc, iA G 14 frr), (tc, iA G 128 ftc), (bb, oX0 bpersons bpapers bstamps bversions blines bsteps bsayings bfindings bwarnings bquestions td vd vl gp), (bquestions, oX8 7 2 bquestionsc (nI kbquestions)), (bquestionsc, iA G 14 fbquestions)]) rfl (Nat.le_of_ble_eq_true rfl) rfl rfl rfl gX5_order_1.2.2.2.1 (fun H locs hP hD hS => ?_)
  refine lv_aload_n hx hb gX5_order_1.2.2.2.2.1 rfl (lv_at0 hl) ?_
  refine lv_iconst (v := 1) hx hb gX5_order_1.2.2.2.2.2.1 (by decide) ?_
  refine pf_X5_35 hC rfl hK hP hD hS 0 (ws' := [(h0, oX5 bb rr tc (nI ja1) td 1), (rr, oX8 7 2 rrc (nI kr)), (rrc, iA G 14 frr), (tc, iA G 128 ftc), (bb, oX0 bpersons bpapers bstamps bversions blines bsteps bsayings bfindings bwarnings bquestions td vd vl gp), (bquestions, oX8 7 2 bquestionsc (nI kbquestions)), (bquestionsc, iA G 14 fbquestions)]) rfl (Nat.le_of_ble_eq_true rfl) rfl (by decide +kernel) (by decide +kernel) gX5_order_1.2.2.2.2.2.2.1 (fun H locs hP hD hS => ?_)
  refine lv_aload_n hx hb gX5_order_1.2.2.2.2.2.2.2.1 rfl (lv_at0 hl) ?_
  refine gf_X5_28 hC rfl hK hP 0 rfl rfl gX5_order_1.2.2.2.2.2.2.2.2.1 ?_
  refine lv_istore_n (lv' := [(2, .int (nI ja1)), (0, .ref h0), (1, .int qs)]) hx hb gX5_order_1.2.2.2.2.2.2.2.2.2 rfl hl (by decide) rfl (fun ls hl => ?_)
  have keyD : ∀ (jD : Nat) (vtc : Nat → Int32) (H : Heap) (locs : List Loc) (ls : Array Slot), jD ≤ ja1 + 1 → va_PD G A [(h0, oX5 bb rr tc (nI ja1) td 1), (rr, oX8 7 2 rrc (nI kr)), (rrc, iA G 14 frr), (tc, iA G 128 vtc), (bb, oX0 bpersons bpapers bstamps bversions blines bsteps bsayings bfindings bwarnings bquestions td vd vl gp), (bquestions, oX8 7 2 bquestionsc (nI kbquestions)), (bquestionsc, iA G 14 fbquestions)] H → va_S A s.heap H locs → lv_has ls 3 [(2, .int (nI jD - 1)), (0, .ref h0), (1, .int qs)] → W p l e (RM 8 0 0) s m ([.ref h0, .int qs] : List Value).toArray below meth c H locs 0 0 Q0 (F0 m 34 ls []) := by
    intro jD
    induction jD with
    | zero =>
      intro vtc H locs ls hkD hPD hS hl
      refine Kan2 hPD (fun hP hD => ?_)
      have hl : lv_has ls 3 [(2, .int (-1)), (0, .ref h0), (1, .int qs)] := hl
      refine lv_iload_n hx hb gX5_order_2.1 rfl (lv_at0 hl) ?_
      refine lv_if_lt (tgt := 83) hx hb gX5_order_2.2.1 (by decide) (fun _ => ?_) (fun c9 => absurd (by decide) c9)
      refine lv_aload_n hx hb gX5_order_4.2.2.2.2.2.2.2.1 rfl (lv_at1 hl) ?_
      refine vV (wr := []) hC hK hl hP hD hS hA (c_tellRows l G h0 bb rr tc (nI ja1) td 1 rrc kr frr vtc bpersons bpapers bstamps bversions blines bsteps bsayings bfindings bwarnings bquestions td vd vl gp bquestionsc kbquestions fbquestions (hkr) (hkbquestions)) si_X5_58 [0, 1, 2, 3, 4, 5, 6] [] sm_0_1_2_3_4_5_6 fm_0_1_2_3_4_5_6 nd_0_1_2_3_4_5_6 rfl rfl (by decide) rfl rfl rfl rfl rfl (Nat.le_of_ble_eq_true rfl) rm_8_6_6 ⟨Nat.le_of_ble_eq_true rfl, Nat.le_of_ble_eq_true rfl⟩ gX5_order_4.2.2.2.2.2.2.2.2.1 (Ktu2 fun nr1538 grr1539 => ?_)
      intro H locs hr1536 hP hD hS
      try dsimp only at hr1536
      refine Kpdr (ws := [(h0, oX5 bb rr tc (nI ja1) td 1), (rr, oX8 7 2 rrc (nI nr1538)), (rrc, iA G 14 grr1539), (tc, iA G 128 vtc), (bb, oX0 bpersons bpapers bstamps bversions blines bsteps bsayings bfindings bwarnings bquestions td vd vl gp), (bquestions, oX8 7 2 bquestionsc (nI kbquestions)), (bquestionsc, iA G 14 fbquestions)]) hP hD (fun hP hD => ?_)
      have w1540 := hr1536
      refine lv_aload_n hx hb gX5_order_4.2.2.2.2.2.2.2.2.2 rfl (lv_at1 hl) ?_
      refine gf_X5_20 hC rfl hK hP 0 rfl rfl gX5_order_5.1 ?_
      refine lv_iconst (v := 0) hx hb gX5_order_5.2.1 (by decide) ?_
      refine ald hC hK hP 3 rfl (vin (by decide +kernel)) (k := 0) (by decide +kernel) (v := vtc 0) (rfl) gX5_order_5.2.2.1 ?_
      refine toQ hQ0 ?_
      exact RI (v := vtc 0) hC hP hD hS [0, 1, 2, 3, 4, 5, 6] (ja1, nr1538, grr1539, vtc) rfl rfl (by decide) (⟨trivial, ⟨by omega, by omega⟩⟩) rfl gX5_order_5.2.2.2
    | succ jD ihD =>
      intro vtc H locs ls hkD hPD hS hl
      refine Kan2 hPD (fun hP hD => ?_)
      have hl : lv_has ls 3 [(2, .int (nI jD)), (0, .ref h0), (1, .int qs)] := by rw [nI_sub1] at hl; exact hl
      refine lv_iload_n hx hb gX5_order_2.1 rfl (lv_at0 hl) ?_
      refine lv_if_lt (tgt := 83) hx hb gX5_order_2.2.1 (by decide) (fun c_35_1541 => ?_) (fun c_35_1541 => ?_)
      · refine lv_aload_n hx hb gX5_order_4.2.2.2.2.2.2.2.1 rfl (lv_at1 hl) ?_
        refine vV (wr := []) hC hK hl hP hD hS hA (c_tellRows l G h0 bb rr tc (nI ja1) td 1 rrc kr frr vtc bpersons bpapers bstamps bversions blines bsteps bsayings bfindings bwarnings bquestions td vd vl gp bquestionsc kbquestions fbquestions (hkr) (hkbquestions)) si_X5_58 [0, 1, 2, 3, 4, 5, 6] [] sm_0_1_2_3_4_5_6 fm_0_1_2_3_4_5_6 nd_0_1_2_3_4_5_6 rfl rfl (by decide) rfl rfl rfl rfl rfl (Nat.le_of_ble_eq_true rfl) rm_8_6_6 ⟨Nat.le_of_ble_eq_true rfl, Nat.le_of_ble_eq_true rfl⟩ gX5_order_4.2.2.2.2.2.2.2.2.1 (Ktu2 fun nr1544 grr1545 => ?_)
        intro H locs hr1542 hP hD hS
        try dsimp only at hr1542
        refine Kpdr (ws := [(h0, oX5 bb rr tc (nI ja1) td 1), (rr, oX8 7 2 rrc (nI nr1544)), (rrc, iA G 14 grr1545), (tc, iA G 128 vtc), (bb, oX0 bpersons bpapers bstamps bversions blines bsteps bsayings bfindings bwarnings bquestions td vd vl gp), (bquestions, oX8 7 2 bquestionsc (nI kbquestions)), (bquestionsc, iA G 14 fbquestions)]) hP hD (fun hP hD => ?_)
        have w1546 := hr1542
        refine lv_aload_n hx hb gX5_order_4.2.2.2.2.2.2.2.2.2 rfl (lv_at1 hl) ?_
        refine gf_X5_20 hC rfl hK hP 0 rfl rfl gX5_order_5.1 ?_
        refine lv_iconst (v := 0) hx hb gX5_order_5.2.1 (by decide) ?_
        refine ald hC hK hP 3 rfl (vin (by decide +kernel)) (k := 0) (by decide +kernel) (v := vtc 0) (rfl) gX5_order_5.2.2.1 ?_
        refine toQ hQ0 ?_
        exact RI (v := vtc 0) hC hP hD hS [0, 1, 2, 3, 4, 5, 6] (ja1, nr1544, grr1545, vtc) rfl rfl (by decide) (⟨trivial, ⟨by omega, by omega⟩⟩) rfl gX5_order_5.2.2.2
      · refine lv_iload_n hx hb gX5_order_2.2.2.1 rfl (lv_at0 hl) ?_
        refine lv_aload_n hx hb gX5_order_2.2.2.2.1 rfl (lv_at1 hl) ?_
        refine gf_X5_28 hC rfl hK hP 0 rfl rfl gX5_order_2.2.2.2.2.1 ?_
        refine lv_iconst (v := (-1)) hx hb gX5_order_2.2.2.2.2.2.1 (by decide) ?_
        refine lv_ixor hx hb gX5_order_2.2.2.2.2.2.2.1 ?_
        refine lv_iand hx hb gX5_order_2.2.2.2.2.2.2.2.1 ?_
        refine lv_if_ne (tgt := 77) hx hb gX5_order_2.2.2.2.2.2.2.2.2.1 (by decide) (fun c_46_1547 => ?_) (fun c_46_1547 => ?_)
        · refine lv_iinc (v := nI jD - 1) (lv' := [(2, .int (nI jD - 1)), (0, .ref h0), (1, .int qs)]) hx hb gX5_order_4.2.2.2.2.2.1 hl (k := 0) rfl (nI_dec _) (by decide) rfl (fun ls hl => ?_)
          refine lv_goto (tgt := 34) hx hb gX5_order_4.2.2.2.2.2.2.1 (by decide) ?_
          exact ihD vtc _ _ _ (by omega) (And.intro hP hD) hS (lv_sub hl [0, 1, 2] rfl)
        · refine lv_aload_n hx hb gX5_order_2.2.2.2.2.2.2.2.2.2 rfl (lv_at1 hl) ?_
          refine gf_X5_20 hC rfl hK hP 0 rfl rfl gX5_order_3.1 ?_
          refine lv_iload_n hx hb gX5_order_3.2.1 rfl (lv_at0 hl) ?_
          refine lv_iload_n hx hb gX5_order_3.2.2.1 rfl (lv_at0 hl) ?_
          refine lv_aload_n hx hb gX5_order_3.2.2.2.1 rfl (lv_at1 hl) ?_
          refine gf_X5_28 hC rfl hK hP 0 rfl rfl gX5_order_3.2.2.2.2.1 ?_
          refine lv_icmp_ne (tgt := 66) hx hb gX5_order_3.2.2.2.2.2.1 (by decide) (fun c_59_1548 => ?_) (fun c_59_1548 => ?_)
          · refine lv_aload_n hx hb gX5_order_3.2.2.2.2.2.2.2.2.1 rfl (lv_at1 hl) ?_
            refine lv_iload_n hx hb gX5_order_3.2.2.2.2.2.2.2.2.2 rfl (lv_at0 hl) ?_
            refine lv_aload_n hx hb gX5_order_4.1 rfl (lv_at1 hl) ?_
            refine lv_iload_n hx hb gX5_order_4.2.1 rfl (lv_at0 hl) ?_
            refine pV hC hK hl hP hD (c_nextBehind l G h0 (nI jD) bb rr tc (nI ja1) td 1 vtc bpersons bpapers bstamps bversions blines bsteps bsayings bfindings bwarnings bquestions td vd vl gp bquestionsc kbquestions fbquestions (hkbquestions)) si_X5_51 [0, 3, 4, 5, 6] sm_0_3_4_5_6 fm_0_3_4_5_6 nd_0_3_4_5_6 rfl rfl rfl rfl rfl (Nat.le_of_ble_eq_true rfl) rm_8_5_6 ⟨by first | exact Nat.le_of_ble_eq_true rfl | exact Nat.zero_le _, by first | exact Nat.le_of_ble_eq_true rfl | exact Nat.zero_le _⟩ gX5_order_4.2.2.1 (fun r1549 hr1549 => ?_)
            refine pV hC hK hl hP hD (c_costBehind l G h0 (nI jD) r1549 bb rr tc (nI ja1) td 1 vtc bpersons bpapers bstamps bversions blines bsteps bsayings bfindings bwarnings bquestions td vd vl gp bquestionsc kbquestions fbquestions (hkbquestions)) si_X5_55 [0, 3, 4, 5, 6] sm_0_3_4_5_6 fm_0_3_4_5_6 nd_0_3_4_5_6 rfl rfl rfl rfl rfl (Nat.le_of_ble_eq_true rfl) rm_8_4_7 ⟨by first | exact Nat.le_of_ble_eq_true rfl | exact Nat.zero_le _, by first | exact Nat.le_of_ble_eq_true rfl | exact Nat.zero_le _⟩ gX5_order_4.2.2.2.1 (fun r1550 hr1550 => ?_)
            refine astN hC hK hP hD hS 3 (ws' := [(h0, oX5 bb rr tc (nI ja1) td 1), (rr, oX8 7 2 rrc (nI kr)), (rrc, iA G 14 frr), (tc, iA G 128 (upd vtc jD r1550)), (bb, oX0 bpersons bpapers bstamps bversions blines bsteps bsayings bfindings bwarnings bquestions td vd vl gp), (bquestions, oX8 7 2 bquestionsc (nI kbquestions)), (bquestionsc, iA G 14 fbquestions)]) rfl (k := jD) (by omega) (Nat.le_of_ble_eq_true rfl) (rfl) gX5_order_4.2.2.2.2.1 (fun H locs hP hD hS => ?_)
            refine lv_iinc (v := nI jD - 1) (lv' := [(2, .int (nI jD - 1)), (0, .ref h0), (1, .int qs)]) hx hb gX5_order_4.2.2.2.2.2.1 hl (k := 0) rfl (nI_dec _) (by decide) rfl (fun ls hl => ?_)
            refine lv_goto (tgt := 34) hx hb gX5_order_4.2.2.2.2.2.2.1 (by decide) ?_
            exact ihD (upd vtc jD r1550) _ _ _ (by omega) (And.intro hP hD) hS (lv_sub hl [0, 1, 2] rfl)
          · refine lv_iconst (v := 0) hx hb gX5_order_3.2.2.2.2.2.2.1 (by decide) ?_
            refine lv_goto (tgt := 76) hx hb gX5_order_3.2.2.2.2.2.2.2.1 (by decide) ?_
            refine astN hC hK hP hD hS 3 (ws' := [(h0, oX5 bb rr tc (nI ja1) td 1), (rr, oX8 7 2 rrc (nI kr)), (rrc, iA G 14 frr), (tc, iA G 128 (upd vtc jD 0)), (bb, oX0 bpersons bpapers bstamps bversions blines bsteps bsayings bfindings bwarnings bquestions td vd vl gp), (bquestions, oX8 7 2 bquestionsc (nI kbquestions)), (bquestionsc, iA G 14 fbquestions)]) rfl (k := jD) (by omega) (Nat.le_of_ble_eq_true rfl) (rfl) gX5_order_4.2.2.2.2.1 (fun H locs hP hD hS => ?_)
            refine lv_iinc (v := nI jD - 1) (lv' := [(2, .int (nI jD - 1)), (0, .ref h0), (1, .int qs)]) hx hb gX5_order_4.2.2.2.2.2.1 hl (k := 0) rfl (nI_dec _) (by decide) rfl (fun ls hl => ?_)
            refine lv_goto (tgt := 34) hx hb gX5_order_4.2.2.2.2.2.2.1 (by decide) ?_
            exact ihD (upd vtc jD 0) _ _ _ (by omega) (And.intro hP hD) hS (lv_sub hl [0, 1, 2] rfl)
  exact keyD (ja1 + 1) ftc _ _ _ (Nat.le_refl _) (And.intro hP hD) hS (by rw [nI_sub1]; exact lv_sub hl [0, 1, 2] rfl)
def K_c_firstWrong (l : Launch) (G : GG) (h0 : Nat) (bb : Nat) (rr : Nat) (tc : Nat) (asd : Int32) (st9 : Int32) (tol : Int32) (rrc : Nat) (kr : Nat) (frr : Nat → Int32) (bpersons : Nat) (bpapers : Nat) (bstamps : Nat) (bversions : Nat) (blines : Nat) (bsteps : Nat) (bsayings : Nat) (bfindings : Nat) (bwarnings : Nat) (bquestions : Nat) (td : Int32) (vd : Int32) (vl : Int32) (gp : Int32) (bquestionsc : Nat) (kbquestions : Nat) (fbquestions : Nat → Int32) : Prop := MP l G yX5_firstWrong cX5_firstWrong 5 (some .int) 4 [.ref h0] [(h0, oX5 bb rr tc asd st9 tol), (rr, oX8 7 2 rrc (nI kr)), (rrc, iA G 14 frr), (bb, oX0 bpersons bpapers bstamps bversions blines bsteps bsayings bfindings bwarnings bquestions td vd vl gp), (bquestions, oX8 7 2 bquestionsc (nI kbquestions)), (bquestionsc, iA G 14 fbquestions)] (fun r : Int32 => True)
set_option maxHeartbeats 4000000 in
set_option maxRecDepth 100000 in
theorem c_firstWrong (l : Launch) (G : GG) (h0 : Nat) (bb : Nat) (rr : Nat) (tc : Nat) (asd : Int32) (st9 : Int32) (tol : Int32) (rrc : Nat) (kr : Nat) (frr : Nat → Int32) (bpersons : Nat) (bpapers : Nat) (bstamps : Nat) (bversions : Nat) (blines : Nat) (bsteps : Nat) (bsayings : Nat) (bfindings : Nat) (bwarnings : Nat) (bquestions : Nat) (td : Int32) (vd : Int32) (vl : Int32) (gp : Int32) (bquestionsc : Nat) (kbquestions : Nat) (fbquestions : Nat → Int32) (hkr : kr ≤ 7) (hkbquestions : kbquestions ≤ 7) : K_c_firstWrong l G h0 bb rr tc asd st9 tol rrc kr frr bpersons bpapers bstamps bversions blines bsteps bsayings bfindings bwarnings bquestions td vd vl gp bquestionsc kbquestions fbquestions := by
  refine MP.start (by decide +kernel) (Nat.le_of_ble_eq_true rfl) ?_
  intro p e s m below meth c ls hC hK hP hD hl
  refine absQ (fun Q0 hQ0 => ?_)
  have hl : lv_has ls 5 [(0, .ref h0)] := hl
  refine Kan8 hC (fun hx hb hr hml hB hown hlocks hnm => ?_)
  refine lv_iconst (v := 0) hx hb gX5_firstWrong_0.1 (by decide) ?_
  refine lv_istore_n (lv' := [(1, .int 0), (0, .ref h0)]) hx hb gX5_firstWrong_0.2.1 rfl hl (by decide) rfl (fun ls hl => ?_)
  refine lv_aload_n hx hb gX5_firstWrong_0.2.2.1 rfl (lv_at1 hl) ?_
  refine gf_X5_32 hC rfl hK hP 0 rfl rfl gX5_firstWrong_0.2.2.2.1 ?_
  refine lv_istore_n (lv' := [(2, .int st9), (1, .int 0), (0, .ref h0)]) hx hb gX5_firstWrong_0.2.2.2.2.1 rfl hl (by decide) rfl (fun ls hl => ?_)
  refine lv_iconst (v := 0) hx hb gX5_firstWrong_0.2.2.2.2.2.1 (by decide) ?_
  refine lv_istore_n (lv' := [(3, .int 0), (2, .int st9), (1, .int 0), (0, .ref h0)]) hx hb gX5_firstWrong_0.2.2.2.2.2.2.1 rfl hl (by decide) rfl (fun ls hl => ?_)
  have keyP : ∀ (nP kP : Nat) (lf : Int32) (ls : Array Slot), kP + nP = kbquestions → lv_has ls 5 [(3, .int (nI kP)), (2, .int st9), (1, .int lf), (0, .ref h0)] → W p l e (RM 4 0 0) s m ([.ref h0] : List Value).toArray below meth c s.heap [] 0 0 Q0 (F0 m 9 ls []) := by
    intro nP
    induction nP with
    | zero =>
      intro kP lf ls hkP hl
      obtain rfl : kbquestions = kP := by omega
      have hl : lv_has ls 5 [(3, .int (nI kbquestions)), (2, .int st9), (1, .int lf), (0, .ref h0)] := hl
      refine lv_iload_n hx hb gX5_firstWrong_0.2.2.2.2.2.2.2.1 rfl (lv_at0 hl) ?_
      refine lv_aload_n hx hb gX5_firstWrong_0.2.2.2.2.2.2.2.2.1 rfl (lv_at3 hl) ?_
      refine gf_X5_24 hC rfl hK hP 0 rfl rfl gX5_firstWrong_0.2.2.2.2.2.2.2.2.2 ?_
      refine gf_X5_39 hC rfl hK hP 3 rfl rfl gX5_firstWrong_1.1 ?_
      refine pV hC hK hl hP hD (c_T_count l G bquestions 7 2 bquestionsc kbquestions) si_X5_90 [4] sm_4 fm_4 nd_4 rfl rfl rfl rfl rfl (Nat.le_of_ble_eq_true rfl) rm_4_1_1 ⟨by first | exact Nat.le_of_ble_eq_true rfl | exact Nat.zero_le _, by first | exact Nat.le_of_ble_eq_true rfl | exact Nat.zero_le _⟩ gX5_firstWrong_1.2.1 (Keqr ?_)
      refine lv_icmp_ge (tgt := 46) hx hb gX5_firstWrong_1.2.2.1 (by decide) (fun _ => ?_) (fun c9 => absurd (Int32.le_refl _) c9)
      refine lv_iconst (v := 0) hx hb gX5_firstWrong_2.2.2.2.2.2.2.1 (by decide) ?_
      refine lv_istore_n (lv' := [(3, .int 0), (2, .int st9), (1, .int lf), (0, .ref h0)]) hx hb gX5_firstWrong_2.2.2.2.2.2.2.2.1 rfl hl (by decide) rfl (fun ls hl => ?_)
      have keyQ : ∀ (nQ kQ : Nat) (lf2 : Int32) (dy : Int32) (ls : Array Slot), kQ + nQ = kr → lv_has ls 5 [(3, .int (nI kQ)), (2, .int dy), (1, .int lf2), (0, .ref h0)] → W p l e (RM 4 0 0) s m ([.ref h0] : List Value).toArray below meth c s.heap [] 0 0 Q0 (F0 m 48 ls []) := by
        intro nQ
        induction nQ with
        | zero =>
          intro kQ lf2 dy ls hkQ hl
          obtain rfl : kr = kQ := by omega
          have hl : lv_has ls 5 [(3, .int (nI kr)), (2, .int dy), (1, .int lf2), (0, .ref h0)] := hl
          refine lv_iload_n hx hb gX5_firstWrong_2.2.2.2.2.2.2.2.2.1 rfl (lv_at0 hl) ?_
          refine lv_aload_n hx hb gX5_firstWrong_2.2.2.2.2.2.2.2.2.2 rfl (lv_at3 hl) ?_
          refine gf_X5_14 hC rfl hK hP 0 rfl rfl gX5_firstWrong_3.1 ?_
          refine pV hC hK hl hP hD (c_T_count l G rr 7 2 rrc kr) si_X5_90 [1] sm_1 fm_1 nd_1 rfl rfl rfl rfl rfl (Nat.le_of_ble_eq_true rfl) rm_4_1_1 ⟨by first | exact Nat.le_of_ble_eq_true rfl | exact Nat.zero_le _, by first | exact Nat.le_of_ble_eq_true rfl | exact Nat.zero_le _⟩ gX5_firstWrong_3.2.1 (Keqr ?_)
          refine lv_icmp_ge (tgt := 120) hx hb gX5_firstWrong_3.2.2.1 (by decide) (fun _ => ?_) (fun c9 => absurd (Int32.le_refl _) c9)
          refine lv_iload_n hx hb gX5_firstWrong_7.1 rfl (lv_at2 hl) ?_
          refine lv_if_ne (tgt := 128) hx hb gX5_firstWrong_7.2.1 (by decide) (fun c_121_1555 => ?_) (fun c_121_1555 => ?_)
          · refine lv_aload_n hx hb gX5_firstWrong_7.2.2.2.2.1 rfl (lv_at3 hl) ?_
            refine gf_X5_14 hC rfl hK hP 0 rfl rfl gX5_firstWrong_7.2.2.2.2.2.1 ?_
            refine pV hC hK hl hP hD (c_T_count l G rr 7 2 rrc kr) si_X5_90 [1] sm_1 fm_1 nd_1 rfl rfl rfl rfl rfl (Nat.le_of_ble_eq_true rfl) rm_4_1_1 ⟨by first | exact Nat.le_of_ble_eq_true rfl | exact Nat.zero_le _, by first | exact Nat.le_of_ble_eq_true rfl | exact Nat.zero_le _⟩ gX5_firstWrong_7.2.2.2.2.2.2.1 (Keqr ?_)
            refine toQ hQ0 ?_
            exact RP (v := nI kr) hC (trivial) rfl gX5_firstWrong_7.2.2.2.2.2.2.2
          · refine lv_iconst (v := (-1)) hx hb gX5_firstWrong_7.2.2.1 (by decide) ?_
            refine lv_goto (tgt := 135) hx hb gX5_firstWrong_7.2.2.2.1 (by decide) ?_
            refine toQ hQ0 ?_
            exact RP (v := (-1)) hC (trivial) rfl gX5_firstWrong_7.2.2.2.2.2.2.2
        | succ nQ ihQ =>
          intro kQ lf2 dy ls hkQ hl
          refine lv_iload_n hx hb gX5_firstWrong_2.2.2.2.2.2.2.2.2.1 rfl (lv_at0 hl) ?_
          refine lv_aload_n hx hb gX5_firstWrong_2.2.2.2.2.2.2.2.2.2 rfl (lv_at3 hl) ?_
          refine gf_X5_14 hC rfl hK hP 0 rfl rfl gX5_firstWrong_3.1 ?_
          refine pV hC hK hl hP hD (c_T_count l G rr 7 2 rrc kr) si_X5_90 [1] sm_1 fm_1 nd_1 rfl rfl rfl rfl rfl (Nat.le_of_ble_eq_true rfl) rm_4_1_1 ⟨by first | exact Nat.le_of_ble_eq_true rfl | exact Nat.zero_le _, by first | exact Nat.le_of_ble_eq_true rfl | exact Nat.zero_le _⟩ gX5_firstWrong_3.2.1 (Keqr ?_)
          refine lv_icmp_ge (tgt := 120) hx hb gX5_firstWrong_3.2.2.1 (by decide) (fun c9 => absurd c9 (nI_ge (a := kQ) (b := kr) (by omega) (by omega))) (fun _ => ?_)
          refine lv_aload_n hx hb gX5_firstWrong_3.2.2.2.1 rfl (lv_at3 hl) ?_
          refine gf_X5_14 hC rfl hK hP 0 rfl rfl gX5_firstWrong_3.2.2.2.2.1 ?_
          refine lv_iload_n hx hb gX5_firstWrong_3.2.2.2.2.2.1 rfl (lv_at0 hl) ?_
          refine lv_iconst (v := 0) hx hb gX5_firstWrong_3.2.2.2.2.2.2.1 (by decide) ?_
          refine pV hC hK hl hP hD (c_T_at l G rr (nI kQ) 0 7 2 rrc kr frr (hkr) (by omega) (by omega)) si_X5_44 [1, 2] sm_1_2 fm_1_2 nd_1_2 rfl rfl rfl rfl rfl (Nat.le_of_ble_eq_true rfl) rm_4_1_3 ⟨by first | exact Nat.le_of_ble_eq_true rfl | exact Nat.zero_le _, by first | exact Nat.le_of_ble_eq_true rfl | exact Nat.zero_le _⟩ gX5_firstWrong_3.2.2.2.2.2.2.2.1 (fun r1560 hr1560 => ?_)
          refine lv_istore (lv' := [(4, .int r1560), (3, .int (nI kQ)), (2, .int dy), (1, .int lf2), (0, .ref h0)]) hx hb gX5_firstWrong_3.2.2.2.2.2.2.2.2.1 hl (by decide) rfl (fun ls hl => ?_)
          refine lv_iload_n hx hb gX5_firstWrong_3.2.2.2.2.2.2.2.2.2 rfl (lv_at3 hl) ?_
          refine lv_iload hx hb gX5_firstWrong_4.1 (lv_at0 hl) ?_
          refine pSN hC hK hl (c_hasBit l G lf2 r1560) si_X5_64 rfl rfl (Nat.le_of_ble_eq_true rfl) rm_4_1_2 ⟨by first | exact Nat.le_of_ble_eq_true rfl | exact Nat.zero_le _, by first | exact Nat.le_of_ble_eq_true rfl | exact Nat.zero_le _⟩ gX5_firstWrong_4.2.1 (Kors (Keqa fun a1563 => ?_) (Keqa fun a1563 => ?_))
          · refine lv_if_ne (tgt := 81) hx hb gX5_firstWrong_4.2.2.1 (by decide) (fun _ => ?_) (fun c9 => absurd c9 (by decide))
            refine lv_iload_n hx hb gX5_firstWrong_4.2.2.2.2.2.1 rfl (lv_at3 hl) ?_
            refine lv_iconst (v := 1) hx hb gX5_firstWrong_4.2.2.2.2.2.2.1 (by decide) ?_
            refine lv_iload hx hb gX5_firstWrong_4.2.2.2.2.2.2.2.1 (lv_at0 hl) ?_
            refine lv_ishl hx hb gX5_firstWrong_4.2.2.2.2.2.2.2.2.1 ?_
            refine lv_iconst (v := (-1)) hx hb gX5_firstWrong_4.2.2.2.2.2.2.2.2.2 (by decide) ?_
            refine lv_ixor hx hb gX5_firstWrong_5.1 ?_
            refine lv_iand hx hb gX5_firstWrong_5.2.1 ?_
            refine lv_istore_n (lv' := [(1, .int (lf2 &&& ((1 <<< (r1560 &&& 31)) ^^^ (-1)))), (4, .int r1560), (3, .int (nI kQ)), (2, .int dy), (0, .ref h0)]) hx hb gX5_firstWrong_5.2.2.1 rfl hl (by decide) rfl (fun ls hl => ?_)
            refine lv_iload_n hx hb gX5_firstWrong_5.2.2.2.1 rfl (lv_at3 hl) ?_
            refine lv_aload_n hx hb gX5_firstWrong_5.2.2.2.2.1 rfl (lv_at4 hl) ?_
            refine lv_iload hx hb gX5_firstWrong_5.2.2.2.2.2.1 (lv_at1 hl) ?_
            refine pV hC hK hl hP hD (c_lengthOf l G h0 r1560 bb rr tc asd st9 tol bpersons bpapers bstamps bversions blines bsteps bsayings bfindings bwarnings bquestions td vd vl gp bquestionsc kbquestions fbquestions (hkbquestions)) si_X5_61 [0, 3, 4, 5] sm_0_3_4_5 fm_0_3_4_5 nd_0_3_4_5 rfl rfl rfl rfl rfl (Nat.le_of_ble_eq_true rfl) rm_4_3_2 ⟨by first | exact Nat.le_of_ble_eq_true rfl | exact Nat.zero_le _, by first | exact Nat.le_of_ble_eq_true rfl | exact Nat.zero_le _⟩ gX5_firstWrong_5.2.2.2.2.2.2.1 (fun r1564 hr1564 => ?_)
            refine lv_iadd hx hb gX5_firstWrong_5.2.2.2.2.2.2.2.1 ?_
            refine lv_istore_n (lv' := [(2, .int (dy + r1564)), (1, .int (lf2 &&& ((1 <<< (r1560 &&& 31)) ^^^ (-1)))), (4, .int r1560), (3, .int (nI kQ)), (0, .ref h0)]) hx hb gX5_firstWrong_5.2.2.2.2.2.2.2.2.1 rfl hl (by decide) rfl (fun ls hl => ?_)
            refine lv_aload_n hx hb gX5_firstWrong_5.2.2.2.2.2.2.2.2.2 rfl (lv_at4 hl) ?_
            refine gf_X5_14 hC rfl hK hP 0 rfl rfl gX5_firstWrong_6.1 ?_
            refine lv_iload_n hx hb gX5_firstWrong_6.2.1 rfl (lv_at3 hl) ?_
            refine lv_iconst (v := 1) hx hb gX5_firstWrong_6.2.2.1 (by decide) ?_
            refine pV hC hK hl hP hD (c_T_at l G rr (nI kQ) 1 7 2 rrc kr frr (hkr) (by omega) (by omega)) si_X5_44 [1, 2] sm_1_2 fm_1_2 nd_1_2 rfl rfl rfl rfl rfl (Nat.le_of_ble_eq_true rfl) rm_4_1_3 ⟨by first | exact Nat.le_of_ble_eq_true rfl | exact Nat.zero_le _, by first | exact Nat.le_of_ble_eq_true rfl | exact Nat.zero_le _⟩ gX5_firstWrong_6.2.2.2.1 (fun r1565 hr1565 => ?_)
            refine lv_iload_n hx hb gX5_firstWrong_6.2.2.2.2.1 rfl (lv_at0 hl) ?_
            refine lv_icmp_eq (tgt := 114) hx hb gX5_firstWrong_6.2.2.2.2.2.1 (by decide) (fun c_109_1567 => ?_) (fun c_109_1567 => ?_)
            · refine lv_iinc (v := nI (kQ + 1)) (lv' := [(3, .int (nI (kQ + 1))), (2, .int (dy + r1564)), (1, .int (lf2 &&& ((1 <<< (r1560 &&& 31)) ^^^ (-1)))), (4, .int r1560), (0, .ref h0)]) hx hb gX5_firstWrong_6.2.2.2.2.2.2.2.2.1 hl (k := 3) rfl (nI_1 _) (by decide) rfl (fun ls hl => ?_)
              refine lv_goto (tgt := 48) hx hb gX5_firstWrong_6.2.2.2.2.2.2.2.2.2 (by decide) ?_
              exact ihQ (kQ + 1) (lf2 &&& ((1 <<< (r1560 &&& 31)) ^^^ (-1))) (dy + r1564) _ (by omega) (lv_sub hl [0, 1, 2, 4] rfl)
            · refine lv_iload_n hx hb gX5_firstWrong_6.2.2.2.2.2.2.1 rfl (lv_at3 hl) ?_
              refine toQ hQ0 ?_
              exact RP (v := nI kQ) hC (trivial) rfl gX5_firstWrong_6.2.2.2.2.2.2.2.1
          · refine lv_if_ne (tgt := 81) hx hb gX5_firstWrong_4.2.2.1 (by decide) (fun c9 => absurd (by decide) c9) (fun _ => ?_)
            refine lv_iload_n hx hb gX5_firstWrong_4.2.2.2.1 rfl (lv_at1 hl) ?_
            refine toQ hQ0 ?_
            exact RP (v := nI kQ) hC (trivial) rfl gX5_firstWrong_4.2.2.2.2.1
      exact keyQ kr 0 lf st9 _ (by omega) (lv_sub hl [0, 1, 2, 3] rfl)
    | succ nP ihP =>
      intro kP lf ls hkP hl
      refine lv_iload_n hx hb gX5_firstWrong_0.2.2.2.2.2.2.2.1 rfl (lv_at0 hl) ?_
      refine lv_aload_n hx hb gX5_firstWrong_0.2.2.2.2.2.2.2.2.1 rfl (lv_at3 hl) ?_
      refine gf_X5_24 hC rfl hK hP 0 rfl rfl gX5_firstWrong_0.2.2.2.2.2.2.2.2.2 ?_
      refine gf_X5_39 hC rfl hK hP 3 rfl rfl gX5_firstWrong_1.1 ?_
      refine pV hC hK hl hP hD (c_T_count l G bquestions 7 2 bquestionsc kbquestions) si_X5_90 [4] sm_4 fm_4 nd_4 rfl rfl rfl rfl rfl (Nat.le_of_ble_eq_true rfl) rm_4_1_1 ⟨by first | exact Nat.le_of_ble_eq_true rfl | exact Nat.zero_le _, by first | exact Nat.le_of_ble_eq_true rfl | exact Nat.zero_le _⟩ gX5_firstWrong_1.2.1 (Keqr ?_)
      refine lv_icmp_ge (tgt := 46) hx hb gX5_firstWrong_1.2.2.1 (by decide) (fun c9 => absurd c9 (nI_ge (a := kP) (b := kbquestions) (by omega) (by omega))) (fun _ => ?_)
      refine lv_aload_n hx hb gX5_firstWrong_1.2.2.2.1 rfl (lv_at3 hl) ?_
      refine gf_X5_28 hC rfl hK hP 0 rfl rfl gX5_firstWrong_1.2.2.2.2.1 ?_
      refine lv_iload_n hx hb gX5_firstWrong_1.2.2.2.2.2.1 rfl (lv_at0 hl) ?_
      refine pSN hC hK hl (c_hasBit l G asd (nI kP)) si_X5_64 rfl rfl (Nat.le_of_ble_eq_true rfl) rm_4_1_2 ⟨by first | exact Nat.le_of_ble_eq_true rfl | exact Nat.zero_le _, by first | exact Nat.le_of_ble_eq_true rfl | exact Nat.zero_le _⟩ gX5_firstWrong_1.2.2.2.2.2.2.1 (Kors (Keqa fun a1571 => ?_) (Keqa fun a1571 => ?_))
      · refine lv_if_eq (tgt := 40) hx hb gX5_firstWrong_1.2.2.2.2.2.2.2.1 (by decide) (fun c9 => absurd c9 (by decide)) (fun _ => ?_)
        refine lv_iload_n hx hb gX5_firstWrong_1.2.2.2.2.2.2.2.2.1 rfl (lv_at2 hl) ?_
        refine lv_iconst (v := 1) hx hb gX5_firstWrong_1.2.2.2.2.2.2.2.2.2 (by decide) ?_
        refine lv_iload_n hx hb gX5_firstWrong_2.1 rfl (lv_at0 hl) ?_
        refine lv_ishl hx hb gX5_firstWrong_2.2.1 ?_
        refine lv_ior hx hb gX5_firstWrong_2.2.2.1 ?_
        refine lv_istore_n (lv' := [(1, .int (lf ||| (1 <<< ((nI kP) &&& 31)))), (3, .int (nI kP)), (2, .int st9), (0, .ref h0)]) hx hb gX5_firstWrong_2.2.2.2.1 rfl hl (by decide) rfl (fun ls hl => ?_)
        refine lv_iinc (v := nI (kP + 1)) (lv' := [(3, .int (nI (kP + 1))), (1, .int (lf ||| (1 <<< ((nI kP) &&& 31)))), (2, .int st9), (0, .ref h0)]) hx hb gX5_firstWrong_2.2.2.2.2.1 hl (k := 1) rfl (nI_1 _) (by decide) rfl (fun ls hl => ?_)
        refine lv_goto (tgt := 9) hx hb gX5_firstWrong_2.2.2.2.2.2.1 (by decide) ?_
        exact ihP (kP + 1) (lf ||| (1 <<< ((nI kP) &&& 31))) _ (by omega) (lv_sub hl [0, 2, 1, 3] rfl)
      · refine lv_if_eq (tgt := 40) hx hb gX5_firstWrong_1.2.2.2.2.2.2.2.1 (by decide) (fun _ => ?_) (fun c9 => absurd (by decide) c9)
        refine lv_iinc (v := nI (kP + 1)) (lv' := [(3, .int (nI (kP + 1))), (2, .int st9), (1, .int lf), (0, .ref h0)]) hx hb gX5_firstWrong_2.2.2.2.2.1 hl (k := 0) rfl (nI_1 _) (by decide) rfl (fun ls hl => ?_)
        refine lv_goto (tgt := 9) hx hb gX5_firstWrong_2.2.2.2.2.2.1 (by decide) ?_
        exact ihP (kP + 1) lf _ (by omega) (lv_sub hl [0, 1, 2, 3] rfl)
  exact keyP kbquestions 0 0 _ (by omega) (lv_sub hl [0, 1, 2, 3] rfl)
def K_c_isTold (l : Launch) (G : GG) (h0 : Nat) (bb : Nat) (rr : Nat) (tc : Nat) (asd : Int32) (st9 : Int32) (tol : Int32) : Prop := MP l G yX5_isTold cX5_isTold 1 (some .boolean) 1 [.ref h0] [(h0, oX5 bb rr tc asd st9 tol)] (fun r : Int32 => (r = 1 ∧ tol = 1) ∨ (r = 0 ∧ tol = 0))
set_option maxHeartbeats 4000000 in
set_option maxRecDepth 100000 in
theorem c_isTold (l : Launch) (G : GG) (h0 : Nat) (bb : Nat) (rr : Nat) (tc : Nat) (asd : Int32) (st9 : Int32) (tol : Int32) (htol : tol = 0 ∨ tol = 1) : K_c_isTold l G h0 bb rr tc asd st9 tol := by
  refine MP.start (by decide +kernel) (Nat.le_of_ble_eq_true rfl) ?_
  intro p e s m below meth c ls hC hK hP hD hl
  refine absQ (fun Q0 hQ0 => ?_)
  have hl : lv_has ls 1 [(0, .ref h0)] := hl
  refine Kan8 hC (fun hx hb hr hml hB hown hlocks hnm => ?_)
  rcases htol with rfl | rfl
  · refine lv_aload_n hx hb gX5_isTold_0.1 rfl (lv_at0 hl) ?_
    refine gf_X5_35 hC rfl hK hP 0 rfl rfl gX5_isTold_0.2.1 ?_
    refine toQ hQ0 ?_
    exact RP (v := 0) hC (Or.inr ⟨rfl, rfl⟩) (by decide +kernel) gX5_isTold_0.2.2
  · refine lv_aload_n hx hb gX5_isTold_0.1 rfl (lv_at0 hl) ?_
    refine gf_X5_35 hC rfl hK hP 0 rfl rfl gX5_isTold_0.2.1 ?_
    refine toQ hQ0 ?_
    exact RP (v := 1) hC (Or.inl ⟨rfl, rfl⟩) (by decide +kernel) gX5_isTold_0.2.2
