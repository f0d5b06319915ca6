section WR
variable {p : Program} {l : Launch} {e : Env} {R : Room} {s : State} {m : MethodId} {args : Array Value} {below : List Frame} {meth : Method} {c : Code} {H : Heap} {locs : List Loc} {cells slots : Nat} {Q : State → Prop}
variable {pc : Nat} {ls : Array Slot} {rest : List Value} {G : GG} {ws : va_W} {A : Nat → Prop} {y0 : MethodName} {b0 : ByteArray} {mL0 : Nat} {rt0 : Option FieldType} {a : Nat} {H0 : Heap}
end WR
theorem ix6n {a b : Nat} (ha : a < 6) (hb : b < 6) : vp_in (nI a * 6 + nI b) 36 ∧ (nI a * 6 + nI b).toNatClampNeg = a * 6 + b := by
  have e : (6 : Int32) = nI 6 := rfl
  rw [e, nI_mul, nI_add]
  exact ⟨vp_in_nI (by omega) (by decide), nI_clamp (by omega)⟩
theorem Wi5 {v : Int32} (h : Wi v 0 5) : ∃ j, j < 6 ∧ v = nI j := by
  obtain ⟨j, hj, e⟩ := Wi_nat (N := 5) (by decide) h
  exact ⟨j, by omega, e⟩
theorem Wi11 {v : Int32} (h : Wi v 0 11) : ∃ j, j < 12 ∧ v = nI j := by
  obtain ⟨j, hj, e⟩ := Wi_nat (N := 11) (by decide) h
  exact ⟨j, by omega, e⟩
theorem lt6n {v : Int32} (h0 : ¬ v < 0) (h : ¬ 6 ≤ v) : ∃ j, j < 6 ∧ v = nI j := by
  obtain ⟨j, hj, rfl⟩ := nI_of h0
  have e : (6 : Int32) = nI 6 := rfl
  rw [e, nI_leI (by decide) hj] at h
  exact ⟨j, by omega, rfl⟩
theorem lt12n {v : Int32} (h0 : ¬ v < 0) (h : v < 12) : ∃ j, j < 12 ∧ v = nI j := by
  obtain ⟨j, hj, rfl⟩ := nI_of h0
  have e : (12 : Int32) = nI 12 := rfl
  rw [e, nI_ltI hj (by decide)] at h
  exact ⟨j, h, rfl⟩
section WR
variable {p : Program} {l : Launch} {e : Env} {R : Room} {s : State} {m : MethodId} {args : Array Value} {below : List Frame} {meth : Method} {c : Code} {H : Heap} {locs : List Loc} {cells slots : Nat} {Q : State → Prop}
variable {pc : Nat} {ls : Array Slot} {rest : List Value} {G : GG} {ws : va_W} {A : Nat → Prop} {y0 : MethodName} {b0 : ByteArray} {mL0 : Nat} {rt0 : Option FieldType} {a : Nat} {H0 : Heap}
theorem gX1_free_0 : (decode cX1_free 0 = .ok (.iconst 0, 1)) ∧ (decode cX1_free 1 = .ok (.istore_n 1, 1)) ∧ (decode cX1_free 2 = .ok (.iload_n 1, 1)) ∧ (decode cX1_free 3 = .ok (.bipush 6, 2)) ∧ (decode cX1_free 5 = .ok (.if_icmp .ge 60, 3)) ∧ (decode cX1_free 8 = .ok (.iconst 0, 1)) ∧ (decode cX1_free 9 = .ok (.istore_n 2, 1)) ∧ (decode cX1_free 10 = .ok (.iload_n 2, 1)) ∧ (decode cX1_free 11 = .ok (.bipush 6, 2)) ∧ (decode cX1_free 13 = .ok (.if_icmp .ge 46, 3)) := by decide +kernel
theorem gX1_free_3 : (decode cX1_free 51 = .ok (.iload_n 3, 1)) ∧ (decode cX1_free 52 = .ok (.iastore, 1)) ∧ (decode cX1_free 53 = .ok (.iinc 2 1, 3)) ∧ (decode cX1_free 56 = .ok (.goto (-46), 3)) ∧ (decode cX1_free 59 = .ok (.iinc 1 1, 3)) ∧ (decode cX1_free 62 = .ok (.goto (-60), 3)) ∧ (decode cX1_free 65 = .ok (.return_, 1)) := by decide +kernel
theorem gX1_free_1 : (decode cX1_free 16 = .ok (.iload_n 1, 1)) ∧ (decode cX1_free 17 = .ok (.ifCond .eq 7, 3)) ∧ (decode cX1_free 20 = .ok (.iload_n 2, 1)) ∧ (decode cX1_free 21 = .ok (.ifCond .ne 8, 3)) ∧ (decode cX1_free 24 = .ok (.bipush 60, 2)) ∧ (decode cX1_free 26 = .ok (.goto 5, 3)) ∧ (decode cX1_free 29 = .ok (.bipush 120, 2)) ∧ (decode cX1_free 31 = .ok (.istore_n 3, 1)) ∧ (decode cX1_free 32 = .ok (.aload_n 0, 1)) ∧ (decode cX1_free 33 = .ok (.getfield 9, 3)) := by decide +kernel
theorem in_X1 : ∀ w ∈ wsX10, w ∈ BW := iB_wsX10
theorem m_174 : Cond.fieldLink RX1 9 "InquiryBench$Clocks" "most" "[I" ∈ BW := iB_BW9 _ (List.mem_of_getElem? (i := 12) rfl)
theorem gf_X1_9 (hC : CX p s m meth c y0 b0 mL0 rt0 args) (hy0 : y0.cls = RX1) (hK : KK G s) (hP : va_P G.1 vwCl ws H) (q0 : Nat) {fs : List Value} {v : Value} (he : ws[q0]? = some (a, .inr (1, fs))) (hv : fs[0]? = some v) (hdg : decode b0 pc = .ok (.getfield 9, 3)) (kk : W p l e R s m args below meth c H locs cells slots Q (F0 m (pc + 3) ls (v :: rest))) : W p l e R s m args below meth c H locs cells slots Q (F0 m pc ls (.ref a :: rest)) := by
  obtain ⟨hx, hb, hr, hml, hB, hown, hlocks, hnm⟩ := hC
  rw [hy0] at hown
  exact va_get (ci := 1) (C := RX1) (T := TX1) (N := 1) hx hb hB in_X1 hown hK.1 hP q0 he rfl 0 (by decide) (hB _ m_174) (fun _ h => h) hv hdg kk
theorem gX1_free_2 : (decode cX1_free 36 = .ok (.iload_n 1, 1)) ∧ (decode cX1_free 37 = .ok (.bipush 6, 2)) ∧ (decode cX1_free 39 = .ok (.imul, 1)) ∧ (decode cX1_free 40 = .ok (.iload_n 2, 1)) ∧ (decode cX1_free 41 = .ok (.iadd, 1)) ∧ (decode cX1_free 42 = .ok (.iload_n 1, 1)) ∧ (decode cX1_free 43 = .ok (.iload_n 2, 1)) ∧ (decode cX1_free 44 = .ok (.if_icmp .ne 7, 3)) ∧ (decode cX1_free 47 = .ok (.iconst 0, 1)) ∧ (decode cX1_free 48 = .ok (.goto 4, 3)) := by decide +kernel
theorem gX1_mostAhead_0 : (decode cX1_mostAhead 0 = .ok (.iload_n 1, 1)) ∧ (decode cX1_mostAhead 1 = .ok (.ifCond .lt 19, 3)) ∧ (decode cX1_mostAhead 4 = .ok (.iload_n 1, 1)) ∧ (decode cX1_mostAhead 5 = .ok (.bipush 6, 2)) ∧ (decode cX1_mostAhead 7 = .ok (.if_icmp .ge 13, 3)) ∧ (decode cX1_mostAhead 10 = .ok (.iload_n 2, 1)) ∧ (decode cX1_mostAhead 11 = .ok (.ifCond .lt 9, 3)) ∧ (decode cX1_mostAhead 14 = .ok (.iload_n 2, 1)) ∧ (decode cX1_mostAhead 15 = .ok (.bipush 6, 2)) ∧ (decode cX1_mostAhead 17 = .ok (.if_icmp .lt 5, 3)) := by decide +kernel
theorem gX1_mostAhead_1 : (decode cX1_mostAhead 20 = .ok (.iconst 0, 1)) ∧ (decode cX1_mostAhead 21 = .ok (.ireturn, 1)) ∧ (decode cX1_mostAhead 22 = .ok (.aload_n 0, 1)) ∧ (decode cX1_mostAhead 23 = .ok (.getfield 9, 3)) ∧ (decode cX1_mostAhead 26 = .ok (.iload_n 1, 1)) ∧ (decode cX1_mostAhead 27 = .ok (.bipush 6, 2)) ∧ (decode cX1_mostAhead 29 = .ok (.imul, 1)) ∧ (decode cX1_mostAhead 30 = .ok (.iload_n 2, 1)) ∧ (decode cX1_mostAhead 31 = .ok (.iadd, 1)) ∧ (decode cX1_mostAhead 32 = .ok (.iaload, 1)) := by decide +kernel
theorem gX1_mostAhead_2 : (decode cX1_mostAhead 33 = .ok (.ireturn, 1)) := by decide +kernel
theorem gX1_narrow_0 : (decode cX1_narrow 0 = .ok (.iload_n 1, 1)) ∧ (decode cX1_narrow 1 = .ok (.iconst 0, 1)) ∧ (decode cX1_narrow 2 = .ok (.iconst 5, 1)) ∧ (decode cX1_narrow 3 = .ok (.invokestatic 31, 3)) ∧ (decode cX1_narrow 6 = .ok (.ifCond .eq 12, 3)) ∧ (decode cX1_narrow 9 = .ok (.iload_n 2, 1)) ∧ (decode cX1_narrow 10 = .ok (.iconst 0, 1)) ∧ (decode cX1_narrow 11 = .ok (.iconst 5, 1)) ∧ (decode cX1_narrow 12 = .ok (.invokestatic 31, 3)) ∧ (decode cX1_narrow 15 = .ok (.ifCond .ne 5, 3)) := by decide +kernel
theorem nm_45 : Cond.methodLinkNest RX1 31 yX11_within RX11 ∈ NestW := List.mem_of_getElem? (i := 45) rfl
theorem si_X1_31 : SSN RX1 RX11 31 yX11_within cX11_within 3 (some .boolean) 3 := ⟨⟨nm_45, m_293, m_102, m_294⟩, ⟨nK_RX11.1, nK_RX11.2, pd_0⟩⟩
theorem gX1_narrow_1 : (decode cX1_narrow 18 = .ok (.iconst 1, 1)) ∧ (decode cX1_narrow 19 = .ok (.ireturn, 1)) ∧ (decode cX1_narrow 20 = .ok (.aload_n 0, 1)) ∧ (decode cX1_narrow 21 = .ok (.getfield 9, 3)) ∧ (decode cX1_narrow 24 = .ok (.iload_n 2, 1)) ∧ (decode cX1_narrow 25 = .ok (.bipush 6, 2)) ∧ (decode cX1_narrow 27 = .ok (.imul, 1)) ∧ (decode cX1_narrow 28 = .ok (.iload_n 1, 1)) ∧ (decode cX1_narrow 29 = .ok (.iadd, 1)) ∧ (decode cX1_narrow 30 = .ok (.iaload, 1)) := by decide +kernel
theorem gX1_narrow_2 : (decode cX1_narrow 31 = .ok (.iload_n 3, 1)) ∧ (decode cX1_narrow 32 = .ok (.iadd, 1)) ∧ (decode cX1_narrow 33 = .ok (.ifCond .ge 5, 3)) ∧ (decode cX1_narrow 36 = .ok (.iconst 0, 1)) ∧ (decode cX1_narrow 37 = .ok (.ireturn, 1)) ∧ (decode cX1_narrow 38 = .ok (.iload_n 3, 1)) ∧ (decode cX1_narrow 39 = .ok (.aload_n 0, 1)) ∧ (decode cX1_narrow 40 = .ok (.getfield 9, 3)) ∧ (decode cX1_narrow 43 = .ok (.iload_n 1, 1)) ∧ (decode cX1_narrow 44 = .ok (.bipush 6, 2)) := by decide +kernel
theorem gX1_narrow_3 : (decode cX1_narrow 46 = .ok (.imul, 1)) ∧ (decode cX1_narrow 47 = .ok (.iload_n 2, 1)) ∧ (decode cX1_narrow 48 = .ok (.iadd, 1)) ∧ (decode cX1_narrow 49 = .ok (.iaload, 1)) ∧ (decode cX1_narrow 50 = .ok (.if_icmp .lt 5, 3)) ∧ (decode cX1_narrow 53 = .ok (.iconst 1, 1)) ∧ (decode cX1_narrow 54 = .ok (.ireturn, 1)) ∧ (decode cX1_narrow 55 = .ok (.iconst 0, 1)) ∧ (decode cX1_narrow 56 = .ok (.istore 4, 2)) ∧ (decode cX1_narrow 58 = .ok (.iload 4, 2)) := by decide +kernel
theorem gX1_narrow_4 : (decode cX1_narrow 60 = .ok (.bipush 6, 2)) ∧ (decode cX1_narrow 62 = .ok (.if_icmp .ge 91, 3)) ∧ (decode cX1_narrow 65 = .ok (.aload_n 0, 1)) ∧ (decode cX1_narrow 66 = .ok (.getfield 9, 3)) ∧ (decode cX1_narrow 69 = .ok (.iload 4, 2)) ∧ (decode cX1_narrow 71 = .ok (.bipush 6, 2)) ∧ (decode cX1_narrow 73 = .ok (.imul, 1)) ∧ (decode cX1_narrow 74 = .ok (.iload_n 1, 1)) ∧ (decode cX1_narrow 75 = .ok (.iadd, 1)) ∧ (decode cX1_narrow 76 = .ok (.iaload, 1)) := by decide +kernel
theorem gX1_narrow_9 : (decode cX1_narrow 147 = .ok (.iinc 4 1, 3)) ∧ (decode cX1_narrow 150 = .ok (.goto (-92), 3)) ∧ (decode cX1_narrow 153 = .ok (.iconst 1, 1)) ∧ (decode cX1_narrow 154 = .ok (.ireturn, 1)) := by decide +kernel
theorem gX1_narrow_5 : (decode cX1_narrow 77 = .ok (.iload_n 3, 1)) ∧ (decode cX1_narrow 78 = .ok (.iadd, 1)) ∧ (decode cX1_narrow 79 = .ok (.istore 5, 2)) ∧ (decode cX1_narrow 81 = .ok (.iconst 0, 1)) ∧ (decode cX1_narrow 82 = .ok (.istore 6, 2)) ∧ (decode cX1_narrow 84 = .ok (.iload 6, 2)) ∧ (decode cX1_narrow 86 = .ok (.bipush 6, 2)) ∧ (decode cX1_narrow 88 = .ok (.if_icmp .ge 59, 3)) ∧ (decode cX1_narrow 91 = .ok (.iload 5, 2)) ∧ (decode cX1_narrow 93 = .ok (.aload_n 0, 1)) := by decide +kernel
theorem gX1_narrow_6 : (decode cX1_narrow 94 = .ok (.getfield 9, 3)) ∧ (decode cX1_narrow 97 = .ok (.iload_n 2, 1)) ∧ (decode cX1_narrow 98 = .ok (.bipush 6, 2)) ∧ (decode cX1_narrow 100 = .ok (.imul, 1)) ∧ (decode cX1_narrow 101 = .ok (.iload 6, 2)) ∧ (decode cX1_narrow 103 = .ok (.iadd, 1)) ∧ (decode cX1_narrow 104 = .ok (.iaload, 1)) ∧ (decode cX1_narrow 105 = .ok (.iadd, 1)) ∧ (decode cX1_narrow 106 = .ok (.istore 7, 2)) ∧ (decode cX1_narrow 108 = .ok (.iload 7, 2)) := by decide +kernel
theorem gX1_narrow_7 : (decode cX1_narrow 110 = .ok (.aload_n 0, 1)) ∧ (decode cX1_narrow 111 = .ok (.getfield 9, 3)) ∧ (decode cX1_narrow 114 = .ok (.iload 4, 2)) ∧ (decode cX1_narrow 116 = .ok (.bipush 6, 2)) ∧ (decode cX1_narrow 118 = .ok (.imul, 1)) ∧ (decode cX1_narrow 119 = .ok (.iload 6, 2)) ∧ (decode cX1_narrow 121 = .ok (.iadd, 1)) ∧ (decode cX1_narrow 122 = .ok (.iaload, 1)) ∧ (decode cX1_narrow 123 = .ok (.if_icmp .ge 18, 3)) ∧ (decode cX1_narrow 126 = .ok (.aload_n 0, 1)) := by decide +kernel
theorem gX1_narrow_8 : (decode cX1_narrow 127 = .ok (.getfield 9, 3)) ∧ (decode cX1_narrow 130 = .ok (.iload 4, 2)) ∧ (decode cX1_narrow 132 = .ok (.bipush 6, 2)) ∧ (decode cX1_narrow 134 = .ok (.imul, 1)) ∧ (decode cX1_narrow 135 = .ok (.iload 6, 2)) ∧ (decode cX1_narrow 137 = .ok (.iadd, 1)) ∧ (decode cX1_narrow 138 = .ok (.iload 7, 2)) ∧ (decode cX1_narrow 140 = .ok (.iastore, 1)) ∧ (decode cX1_narrow 141 = .ok (.iinc 6 1, 3)) ∧ (decode cX1_narrow 144 = .ok (.goto (-60), 3)) := by decide +kernel
theorem gX1_copy_0 : (decode cX1_copy 0 = .ok (.aload_n 1, 1)) ∧ (decode cX1_copy 1 = .ok (.getfield 9, 3)) ∧ (decode cX1_copy 4 = .ok (.iconst 0, 1)) ∧ (decode cX1_copy 5 = .ok (.aload_n 0, 1)) ∧ (decode cX1_copy 6 = .ok (.getfield 9, 3)) ∧ (decode cX1_copy 9 = .ok (.iconst 0, 1)) ∧ (decode cX1_copy 10 = .ok (.bipush 36, 2)) ∧ (decode cX1_copy 12 = .ok (.invokestatic 15, 3)) ∧ (decode cX1_copy 15 = .ok (.return_, 1)) := by decide +kernel
theorem m_453 : Cond.methodLink RX1 15 arraycopyName ∈ BW := iB_BW24 _ (List.mem_of_getElem? (i := 17) rfl)
theorem m_455 : Cond.native arraycopyName ∈ BW := iB_BW24 _ (List.mem_of_getElem? (i := 19) rfl)
theorem m_454 : Cond.static arraycopyName ∈ BW := iB_BW24 _ (List.mem_of_getElem? (i := 18) rfl)
theorem m_117 : Cond.initialized "java/lang/System" ∈ BW := iB_BW6 _ (List.mem_of_getElem? (i := 15) rfl)
theorem gX1_follow_0 : (decode cX1_follow 0 = .ok (.aload_n 1, 1)) ∧ (decode cX1_follow 1 = .ok (.iload_n 2, 1)) ∧ (decode cX1_follow 2 = .ok (.iconst 1, 1)) ∧ (decode cX1_follow 3 = .ok (.invokevirtual 21, 3)) ∧ (decode cX1_follow 6 = .ok (.istore 5, 2)) ∧ (decode cX1_follow 8 = .ok (.aload_n 1, 1)) ∧ (decode cX1_follow 9 = .ok (.iload_n 3, 1)) ∧ (decode cX1_follow 10 = .ok (.iconst 1, 1)) ∧ (decode cX1_follow 11 = .ok (.invokevirtual 21, 3)) ∧ (decode cX1_follow 14 = .ok (.istore 6, 2)) := by decide +kernel
theorem m_464 : Cond.methodLink RX1 21 yX8_at ∈ BW := iB_BW25 _ (List.mem_of_getElem? (i := 8) rfl)
theorem si_X1_21 : SV RX1 RX8 21 yX8_at cX8_at 3 (some .int) 2 := ⟨⟨m_464, m_312, m_313, m_104, m_314⟩, rfl, nK_RX8.1, nK_RX8.2, pd_2⟩
theorem gX1_follow_1 : (decode cX1_follow 16 = .ok (.aload_n 1, 1)) ∧ (decode cX1_follow 17 = .ok (.iload_n 3, 1)) ∧ (decode cX1_follow 18 = .ok (.iconst 2, 1)) ∧ (decode cX1_follow 19 = .ok (.invokevirtual 21, 3)) ∧ (decode cX1_follow 22 = .ok (.aload_n 1, 1)) ∧ (decode cX1_follow 23 = .ok (.iload_n 2, 1)) ∧ (decode cX1_follow 24 = .ok (.iconst 2, 1)) ∧ (decode cX1_follow 25 = .ok (.invokevirtual 21, 3)) ∧ (decode cX1_follow 28 = .ok (.isub, 1)) ∧ (decode cX1_follow 29 = .ok (.istore 7, 2)) := by decide +kernel
theorem gX1_follow_2 : (decode cX1_follow 31 = .ok (.aload_n 0, 1)) ∧ (decode cX1_follow 32 = .ok (.iload 5, 2)) ∧ (decode cX1_follow 34 = .ok (.iload 6, 2)) ∧ (decode cX1_follow 36 = .ok (.iload 7, 2)) ∧ (decode cX1_follow 38 = .ok (.invokevirtual 27, 3)) ∧ (decode cX1_follow 41 = .ok (.ifCond .eq 23, 3)) ∧ (decode cX1_follow 44 = .ok (.aload_n 0, 1)) ∧ (decode cX1_follow 45 = .ok (.iload 6, 2)) ∧ (decode cX1_follow 47 = .ok (.iload 5, 2)) ∧ (decode cX1_follow 49 = .ok (.iload 4, 2)) := by decide +kernel
theorem m_467 : Cond.code yX1_narrow cX1_narrow 8 (some .boolean) ∈ BW := iB_BW25 _ (List.mem_of_getElem? (i := 11) rfl)
theorem m_107 : Cond.initialized RX1 ∈ BW := iB_BW6 _ (List.mem_of_getElem? (i := 5) rfl)
theorem nK_RX1 : RX1 ≠ "java/lang/invoke/MethodHandle" ∧ RX1 ≠ "java/lang/invoke/VarHandle" := ⟨by decide +kernel, by decide +kernel⟩
theorem m_465 : Cond.methodLink RX1 27 yX1_narrow ∈ BW := iB_BW25 _ (List.mem_of_getElem? (i := 9) rfl)
theorem m_466 : Cond.instanceMethod yX1_narrow ∈ BW := iB_BW25 _ (List.mem_of_getElem? (i := 10) rfl)
theorem m_3 : Cond.selects RX1 yX1_narrow yX1_narrow ∈ BW := iB_BW0 _ (List.mem_of_getElem? (i := 3) rfl)
theorem si_X1_27 : SV RX1 RX1 27 yX1_narrow cX1_narrow 8 (some .boolean) 3 := ⟨⟨m_465, m_466, m_3, m_107, m_467⟩, rfl, nK_RX1.1, nK_RX1.2, pd_0⟩
theorem gX1_follow_3 : (decode cX1_follow 51 = .ok (.iload 7, 2)) ∧ (decode cX1_follow 53 = .ok (.isub, 1)) ∧ (decode cX1_follow 54 = .ok (.invokevirtual 27, 3)) ∧ (decode cX1_follow 57 = .ok (.ifCond .eq 7, 3)) ∧ (decode cX1_follow 60 = .ok (.iconst 1, 1)) ∧ (decode cX1_follow 61 = .ok (.goto 4, 3)) ∧ (decode cX1_follow 64 = .ok (.iconst 0, 1)) ∧ (decode cX1_follow 65 = .ok (.ireturn, 1)) := by decide +kernel
end WR
theorem nI_z {k : Nat} (hk : k < 2 ^ 31) (h : nI k = 0) : k = 0 := (nI_eq (b := 0) hk (by decide)).mp h
section WR
variable {p : Program} {l : Launch} {e : Env} {R : Room} {s : State} {m : MethodId} {args : Array Value} {below : List Frame} {meth : Method} {c : Code} {H : Heap} {locs : List Loc} {cells slots : Nat} {Q : State → Prop}
variable {pc : Nat} {ls : Array Slot} {rest : List Value} {G : GG} {ws : va_W} {A : Nat → Prop} {y0 : MethodName} {b0 : ByteArray} {mL0 : Nat} {rt0 : Option FieldType} {a : Nat} {H0 : Heap}
end WR
theorem Wi_j {j N : Nat} {b : Int32} (hb : b = nI N) (hN : N < 2 ^ 31) (h : j ≤ N) : Wi (nI j) 0 b := by
  subst hb
  rw [Wi_iff, nI_toInt (by omega), nI_toInt hN]
  have e0 : (0 : Int32).toInt = 0 := by decide
  omega
section WR
variable {p : Program} {l : Launch} {e : Env} {R : Room} {s : State} {m : MethodId} {args : Array Value} {below : List Frame} {meth : Method} {c : Code} {H : Heap} {locs : List Loc} {cells slots : Nat} {Q : State → Prop}
variable {pc : Nat} {ls : Array Slot} {rest : List Value} {G : GG} {ws : va_W} {A : Nat → Prop} {y0 : MethodName} {b0 : ByteArray} {mL0 : Nat} {rt0 : Option FieldType} {a : Nat} {H0 : Heap}
end WR
theorem tatq {W j k c : Nat} {f : Nat → Int32} {col : Int32} (hj : j < k) (hk : k < 2 ^ 31) (hc : c < W) (hW : W < 2 ^ 31) (ec : col = nI c) : tat W f k (nI j) col = f (j * W + c) := by
  subst ec
  unfold tat
  rw [ifc_t ⟨nI_pos (by omega), fun h => by rw [nI_leI (by omega) (by omega)] at h; omega, nI_pos (by omega), nI_lt hc hW⟩, nI_clamp (by omega), nI_clamp (by omega)]
/-- stamps as they are laid: paper, clock, hour -/
def SVL (ft : Nat → Int32) (n : Nat) : Prop := ∀ s, s < n → (∃ p, p < 12 ∧ ft (s * 3 + 0) = nI p) ∧ (∃ c, c < 6 ∧ ft (s * 3 + 1) = nI c) ∧ 0 ≤ (ft (s * 3 + 2)).toInt ∧ (ft (s * 3 + 2)).toInt ≤ 999
def GPR (g : Int32) : Prop := 0 ≤ g.toInt ∧ g.toInt ≤ 99
/-- what a stamp behind another one binds -/
def KFO (K : Nat → Nat → Int → Prop) (ft : Nat → Int32) (gp : Int) (s0 n : Nat) : Nat → Nat → Int → Prop := KAD (KAD K (CKS ft s0) (CKS ft n) (HRS ft n - HRS ft s0)) (CKS ft n) (CKS ft s0) (gp - (HRS ft n - HRS ft s0))
theorem KFO.mk {K : Nat → Nat → Int → Prop} {ft : Nat → Int32} {gp : Int32} {ja jb ca cb : Nat} (ea : ft (ja * 3 + 1) = nI ca) (eb : ft (jb * 3 + 1) = nI cb) (ha : ca < 6) (hb : cb < 6) (a0 : 0 ≤ (ft (ja * 3 + 2)).toInt) (a9 : (ft (ja * 3 + 2)).toInt ≤ 999) (b0 : 0 ≤ (ft (jb * 3 + 2)).toInt) (b9 : (ft (jb * 3 + 2)).toInt ≤ 999) (hg : GPR gp) : KFO K ft gp.toInt ja jb = KAD (KAD K ca cb (ft (jb * 3 + 2) - ft (ja * 3 + 2)).toInt) cb ca (gp - (ft (jb * 3 + 2) - ft (ja * 3 + 2))).toInt := by
  have h1 := ti_sb (x := ft (jb * 3 + 2)) (y := ft (ja * 3 + 2)) (by omega) (by omega) (by omega) (by omega)
  have h2 := ti_sb (x := gp) (y := ft (jb * 3 + 2) - ft (ja * 3 + 2)) (by have := hg.1; omega) (by have := hg.2; omega) (by omega) (by omega)
  unfold KFO CKS HRS
  rw [ea, eb, nI_clamp (by omega), nI_clamp (by omega), h2, h1]
section WR
variable {p : Program} {l : Launch} {e : Env} {R : Room} {s : State} {m : MethodId} {args : Array Value} {below : List Frame} {meth : Method} {c : Code} {H : Heap} {locs : List Loc} {cells slots : Nat} {Q : State → Prop}
variable {pc : Nat} {ls : Array Slot} {rest : List Value} {G : GG} {ws : va_W} {A : Nat → Prop} {y0 : MethodName} {b0 : ByteArray} {mL0 : Nat} {rt0 : Option FieldType} {a : Nat} {H0 : Heap}
end WR
theorem sm_2_3 {a0 a1 a2 a3 : Nat × va_E} {l : va_W} : ([2, 3] : List Nat).map (fun i => (a0 :: a1 :: a2 :: a3 :: l : va_W)[i]?) = ([a2, a3] : va_W).map some := rfl
theorem fm_2_3 {a0 a1 a2 a3 : Nat × va_E} {l : va_W} : ([2, 3] : List Nat).filterMap (fun i => (a0 :: a1 :: a2 :: a3 :: l : va_W)[i]?) = ([a2, a3] : va_W) := rfl
theorem nd_2_3 : va_nd [2, 3] = true := by decide
theorem rm_3_2_8 {mc ms : Nat} : 2 + 1 ≤ (RM 3 mc ms).frames ∧ 8 + (8 + 11) + 40 * 2 ≤ (RM 3 mc ms).locals := ⟨by show 2 + 1 ≤ 3; decide, by show 8 + (8 + 11) + 40 * 2 ≤ 40 * 3; decide⟩
theorem sm_0_1 {a0 a1 : Nat × va_E} {l : va_W} : ([0, 1] : List Nat).map (fun i => (a0 :: a1 :: l : va_W)[i]?) = ([a0, a1] : va_W).map some := rfl
theorem fm_0_1 {a0 a1 : Nat × va_E} {l : va_W} : ([0, 1] : List Nat).filterMap (fun i => (a0 :: a1 :: l : va_W)[i]?) = ([a0, a1] : va_W) := rfl
theorem nd_0_1 : va_nd [0, 1] = true := by decide
theorem dj_0_1__2_3 : ∀ i ∈ ([2, 3] : List Nat), i ∉ ([0, 1] : List Nat) := by decide
theorem dj_2_3__0_1 : ∀ i ∈ ([0, 1] : List Nat), i ∉ ([2, 3] : List Nat) := by decide
def K_c_free (l : Launch) (G : GG) (h0 : Nat) (cm : Nat) (fm : Nat → Int32) : Prop := MV l G yX1_free cX1_free 4 1 0 0 [.ref h0] [(h0, oX1 cm), (cm, iA G 36 fm)] (fun u : (Nat → Int32) => True) (fun u : (Nat → Int32) => [(h0, oX1 cm), (cm, iA G 36 u)])
set_option maxHeartbeats 4000000 in
set_option maxRecDepth 100000 in
theorem c_free (l : Launch) (G : GG) (h0 : Nat) (cm : Nat) (fm : Nat → Int32) : K_c_free l G h0 cm fm := by
  refine MV.start (by decide +kernel) (Nat.le_of_ble_eq_true rfl) ?_
  intro p e s m below meth c A ls hC hK hP hD hS hA hl
  refine absQ (fun Q0 hQ0 => ?_)
  have hl : lv_has ls 4 [(0, .ref h0)] := hl
  refine Kan8 hC (fun hx hb hr hml hB hown hlocks hnm => ?_)
  refine lv_iconst (v := 0) hx hb gX1_free_0.1 (by decide) ?_
  refine lv_istore_n (lv' := [(1, .int 0), (0, .ref h0)]) hx hb gX1_free_0.2.1 rfl hl (by decide) rfl (fun ls hl => ?_)
  have keyA : ∀ (nA kA : Nat) (fa : Nat → Int32) (H : Heap) (locs : List Loc) (ls : Array Slot), kA + nA = 6 → va_PD G A [(h0, oX1 cm), (cm, iA G 36 fa)] H → va_S A s.heap H locs → lv_has ls 4 [(1, .int (nI kA)), (0, .ref h0)] → W p l e (RM 1 0 0) s m ([.ref h0] : List Value).toArray below meth c H locs 0 0 Q0 (F0 m 2 ls []) := by
    intro nA
    induction nA with
    | zero =>
      intro kA fa H locs ls hkA hPD hS hl
      refine Kan2 hPD (fun hP hD => ?_)
      obtain rfl : 6 = kA := by omega
      have hl : lv_has ls 4 [(1, .int 6), (0, .ref h0)] := hl
      refine lv_iload_n hx hb gX1_free_0.2.2.1 rfl (lv_at0 hl) ?_
      refine lv_bipush (v := 6) hx hb gX1_free_0.2.2.2.1 (by decide) ?_
      refine lv_icmp_ge (tgt := 65) hx hb gX1_free_0.2.2.2.2.1 (by decide) (fun _ => ?_) (fun c9 => absurd (by decide) c9)
      refine toQ hQ0 ?_
      exact RV hC hP hD hS [0, 1] fa rfl rfl (by decide) (trivial) gX1_free_3.2.2.2.2.2.2
    | succ nA ihA =>
      intro kA fa H locs ls hkA hPD hS hl
      refine Kan2 hPD (fun hP hD => ?_)
      refine lv_iload_n hx hb gX1_free_0.2.2.1 rfl (lv_at0 hl) ?_
      refine lv_bipush (v := 6) hx hb gX1_free_0.2.2.2.1 (by decide) ?_
      refine lv_icmp_ge (tgt := 65) hx hb gX1_free_0.2.2.2.2.1 (by decide) (fun c9 => absurd c9 (nI_ge (a := kA) (b := 6) (by omega) (by omega))) (fun _ => ?_)
      refine lv_iconst (v := 0) hx hb gX1_free_0.2.2.2.2.2.1 (by decide) ?_
      refine lv_istore_n (lv' := [(2, .int 0), (1, .int (nI kA)), (0, .ref h0)]) hx hb gX1_free_0.2.2.2.2.2.2.1 rfl hl (by decide) rfl (fun ls hl => ?_)
      have keyB : ∀ (nB kB : Nat) (fb : Nat → Int32) (H : Heap) (locs : List Loc) (ls : Array Slot), kB + nB = 6 → va_PD G A [(h0, oX1 cm), (cm, iA G 36 fb)] H → va_S A s.heap H locs → lv_has ls 4 [(2, .int (nI kB)), (1, .int (nI kA)), (0, .ref h0)] → W p l e (RM 1 0 0) s m ([.ref h0] : List Value).toArray below meth c H locs 0 0 Q0 (F0 m 10 ls []) := by
        intro nB
        induction nB with
        | zero =>
          intro kB fb H locs ls hkB hPD hS hl
          refine Kan2 hPD (fun hP hD => ?_)
          obtain rfl : 6 = kB := by omega
          have hl : lv_has ls 4 [(2, .int 6), (1, .int (nI kA)), (0, .ref h0)] := hl
          refine lv_iload_n hx hb gX1_free_0.2.2.2.2.2.2.2.1 rfl (lv_at0 hl) ?_
          refine lv_bipush (v := 6) hx hb gX1_free_0.2.2.2.2.2.2.2.2.1 (by decide) ?_
          refine lv_icmp_ge (tgt := 59) hx hb gX1_free_0.2.2.2.2.2.2.2.2.2 (by decide) (fun _ => ?_) (fun c9 => absurd (by decide) c9)
          refine lv_iinc (v := nI (kA + 1)) (lv' := [(1, .int (nI (kA + 1))), (2, .int 6), (0, .ref h0)]) hx hb gX1_free_3.2.2.2.2.1 hl (k := 1) rfl (nI_1 _) (by decide) rfl (fun ls hl => ?_)
          refine lv_goto (tgt := 2) hx hb gX1_free_3.2.2.2.2.2.1 (by decide) ?_
          exact ihA (kA + 1) fb _ _ _ (by omega) (And.intro hP hD) hS (lv_sub hl [0, 2] rfl)
        | succ nB ihB =>
          intro kB fb H locs ls hkB hPD hS hl
          refine Kan2 hPD (fun hP hD => ?_)
          refine lv_iload_n hx hb gX1_free_0.2.2.2.2.2.2.2.1 rfl (lv_at0 hl) ?_
          refine lv_bipush (v := 6) hx hb gX1_free_0.2.2.2.2.2.2.2.2.1 (by decide) ?_
          refine lv_icmp_ge (tgt := 59) hx hb gX1_free_0.2.2.2.2.2.2.2.2.2 (by decide) (fun c9 => absurd c9 (nI_ge (a := kB) (b := 6) (by omega) (by omega))) (fun _ => ?_)
          refine lv_iload_n hx hb gX1_free_1.1 rfl (lv_at1 hl) ?_
          refine lv_if_eq (tgt := 24) hx hb gX1_free_1.2.1 (by decide) (fun c_17_195 => ?_) (fun c_17_195 => ?_)
          · refine lv_bipush (v := 60) hx hb gX1_free_1.2.2.2.2.1 (by decide) ?_
            refine lv_goto (tgt := 31) hx hb gX1_free_1.2.2.2.2.2.1 (by decide) ?_
            refine lv_istore_n (lv' := [(3, .int 60), (2, .int (nI kB)), (1, .int (nI kA)), (0, .ref h0)]) hx hb gX1_free_1.2.2.2.2.2.2.2.1 rfl hl (by decide) rfl (fun ls hl => ?_)
            refine lv_aload_n hx hb gX1_free_1.2.2.2.2.2.2.2.2.1 rfl (lv_at3 hl) ?_
            refine gf_X1_9 hC rfl hK hP 0 rfl rfl gX1_free_1.2.2.2.2.2.2.2.2.2 ?_
            refine lv_iload_n hx hb gX1_free_2.1 rfl (lv_at2 hl) ?_
            refine lv_bipush (v := 6) hx hb gX1_free_2.2.1 (by decide) ?_
            refine lv_imul hx hb gX1_free_2.2.2.1 ?_
            refine lv_iload_n hx hb gX1_free_2.2.2.2.1 rfl (lv_at1 hl) ?_
            refine lv_iadd hx hb gX1_free_2.2.2.2.2.1 ?_
            refine lv_iload_n hx hb gX1_free_2.2.2.2.2.2.1 rfl (lv_at2 hl) ?_
            refine lv_iload_n hx hb gX1_free_2.2.2.2.2.2.2.1 rfl (lv_at1 hl) ?_
            refine lv_icmp_ne (tgt := 51) hx hb gX1_free_2.2.2.2.2.2.2.2.1 (by decide) (fun c_44_196 => ?_) (fun c_44_196 => ?_)
            · refine lv_iload_n hx hb gX1_free_3.1 rfl (lv_at0 hl) ?_
              refine ast hC hK hP hD hS 1 (ws' := [(h0, oX1 cm), (cm, iA G 36 (upd fb (kA * 6 + kB) 60))]) rfl ((ix6n (a := kA) (b := kB) (by omega) (by omega)).1) (k := kA * 6 + kB) (ix6n (by omega) (by omega)).2 (rfl) gX1_free_3.2.1 (fun H locs hP hD hS => ?_)
              refine lv_iinc (v := nI (kB + 1)) (lv' := [(2, .int (nI (kB + 1))), (3, .int 60), (1, .int (nI kA)), (0, .ref h0)]) hx hb gX1_free_3.2.2.1 hl (k := 1) rfl (nI_1 _) (by decide) rfl (fun ls hl => ?_)
              refine lv_goto (tgt := 10) hx hb gX1_free_3.2.2.2.1 (by decide) ?_
              exact ihB (kB + 1) (upd fb (kA * 6 + kB) 60) _ _ _ (by omega) (And.intro hP hD) hS (lv_sub hl [0, 2, 3] rfl)
            · refine lv_iconst (v := 0) hx hb gX1_free_2.2.2.2.2.2.2.2.2.1 (by decide) ?_
              refine lv_goto (tgt := 52) hx hb gX1_free_2.2.2.2.2.2.2.2.2.2 (by decide) ?_
              refine ast hC hK hP hD hS 1 (ws' := [(h0, oX1 cm), (cm, iA G 36 (upd fb (kA * 6 + kB) 0))]) rfl ((ix6n (a := kA) (b := kB) (by omega) (by omega)).1) (k := kA * 6 + kB) (ix6n (by omega) (by omega)).2 (rfl) gX1_free_3.2.1 (fun H locs hP hD hS => ?_)
              refine lv_iinc (v := nI (kB + 1)) (lv' := [(2, .int (nI (kB + 1))), (3, .int 60), (1, .int (nI kA)), (0, .ref h0)]) hx hb gX1_free_3.2.2.1 hl (k := 1) rfl (nI_1 _) (by decide) rfl (fun ls hl => ?_)
              refine lv_goto (tgt := 10) hx hb gX1_free_3.2.2.2.1 (by decide) ?_
              exact ihB (kB + 1) (upd fb (kA * 6 + kB) 0) _ _ _ (by omega) (And.intro hP hD) hS (lv_sub hl [0, 2, 3] rfl)
          · refine lv_iload_n hx hb gX1_free_1.2.2.1 rfl (lv_at0 hl) ?_
            refine lv_if_ne (tgt := 29) hx hb gX1_free_1.2.2.2.1 (by decide) (fun c_21_197 => ?_) (fun c_21_197 => ?_)
            · refine lv_bipush (v := 120) hx hb gX1_free_1.2.2.2.2.2.2.1 (by decide) ?_
              refine lv_istore_n (lv' := [(3, .int 120), (2, .int (nI kB)), (1, .int (nI kA)), (0, .ref h0)]) hx hb gX1_free_1.2.2.2.2.2.2.2.1 rfl hl (by decide) rfl (fun ls hl => ?_)
              refine lv_aload_n hx hb gX1_free_1.2.2.2.2.2.2.2.2.1 rfl (lv_at3 hl) ?_
              refine gf_X1_9 hC rfl hK hP 0 rfl rfl gX1_free_1.2.2.2.2.2.2.2.2.2 ?_
              refine lv_iload_n hx hb gX1_free_2.1 rfl (lv_at2 hl) ?_
              refine lv_bipush (v := 6) hx hb gX1_free_2.2.1 (by decide) ?_
              refine lv_imul hx hb gX1_free_2.2.2.1 ?_
              refine lv_iload_n hx hb gX1_free_2.2.2.2.1 rfl (lv_at1 hl) ?_
              refine lv_iadd hx hb gX1_free_2.2.2.2.2.1 ?_
              refine lv_iload_n hx hb gX1_free_2.2.2.2.2.2.1 rfl (lv_at2 hl) ?_
              refine lv_iload_n hx hb gX1_free_2.2.2.2.2.2.2.1 rfl (lv_at1 hl) ?_
              refine lv_icmp_ne (tgt := 51) hx hb gX1_free_2.2.2.2.2.2.2.2.1 (by decide) (fun c_44_198 => ?_) (fun c_44_198 => ?_)
              · refine lv_iload_n hx hb gX1_free_3.1 rfl (lv_at0 hl) ?_
                refine ast hC hK hP hD hS 1 (ws' := [(h0, oX1 cm), (cm, iA G 36 (upd fb (kA * 6 + kB) 120))]) rfl ((ix6n (a := kA) (b := kB) (by omega) (by omega)).1) (k := kA * 6 + kB) (ix6n (by omega) (by omega)).2 (rfl) gX1_free_3.2.1 (fun H locs hP hD hS => ?_)
                refine lv_iinc (v := nI (kB + 1)) (lv' := [(2, .int (nI (kB + 1))), (3, .int 120), (1, .int (nI kA)), (0, .ref h0)]) hx hb gX1_free_3.2.2.1 hl (k := 1) rfl (nI_1 _) (by decide) rfl (fun ls hl => ?_)
                refine lv_goto (tgt := 10) hx hb gX1_free_3.2.2.2.1 (by decide) ?_
                exact ihB (kB + 1) (upd fb (kA * 6 + kB) 120) _ _ _ (by omega) (And.intro hP hD) hS (lv_sub hl [0, 2, 3] rfl)
              · refine lv_iconst (v := 0) hx hb gX1_free_2.2.2.2.2.2.2.2.2.1 (by decide) ?_
                refine lv_goto (tgt := 52) hx hb gX1_free_2.2.2.2.2.2.2.2.2.2 (by decide) ?_
                refine ast hC hK hP hD hS 1 (ws' := [(h0, oX1 cm), (cm, iA G 36 (upd fb (kA * 6 + kB) 0))]) rfl ((ix6n (a := kA) (b := kB) (by omega) (by omega)).1) (k := kA * 6 + kB) (ix6n (by omega) (by omega)).2 (rfl) gX1_free_3.2.1 (fun H locs hP hD hS => ?_)
                refine lv_iinc (v := nI (kB + 1)) (lv' := [(2, .int (nI (kB + 1))), (3, .int 120), (1, .int (nI kA)), (0, .ref h0)]) hx hb gX1_free_3.2.2.1 hl (k := 1) rfl (nI_1 _) (by decide) rfl (fun ls hl => ?_)
                refine lv_goto (tgt := 10) hx hb gX1_free_3.2.2.2.1 (by decide) ?_
                exact ihB (kB + 1) (upd fb (kA * 6 + kB) 0) _ _ _ (by omega) (And.intro hP hD) hS (lv_sub hl [0, 2, 3] rfl)
            · refine lv_bipush (v := 60) hx hb gX1_free_1.2.2.2.2.1 (by decide) ?_
              refine lv_goto (tgt := 31) hx hb gX1_free_1.2.2.2.2.2.1 (by decide) ?_
              refine lv_istore_n (lv' := [(3, .int 60), (2, .int (nI kB)), (1, .int (nI kA)), (0, .ref h0)]) hx hb gX1_free_1.2.2.2.2.2.2.2.1 rfl hl (by decide) rfl (fun ls hl => ?_)
              refine lv_aload_n hx hb gX1_free_1.2.2.2.2.2.2.2.2.1 rfl (lv_at3 hl) ?_
              refine gf_X1_9 hC rfl hK hP 0 rfl rfl gX1_free_1.2.2.2.2.2.2.2.2.2 ?_
              refine lv_iload_n hx hb gX1_free_2.1 rfl (lv_at2 hl) ?_
              refine lv_bipush (v := 6) hx hb gX1_free_2.2.1 (by decide) ?_
              refine lv_imul hx hb gX1_free_2.2.2.1 ?_
              refine lv_iload_n hx hb gX1_free_2.2.2.2.1 rfl (lv_at1 hl) ?_
              refine lv_iadd hx hb gX1_free_2.2.2.2.2.1 ?_
              refine lv_iload_n hx hb gX1_free_2.2.2.2.2.2.1 rfl (lv_at2 hl) ?_
              refine lv_iload_n hx hb gX1_free_2.2.2.2.2.2.2.1 rfl (lv_at1 hl) ?_
              refine lv_icmp_ne (tgt := 51) hx hb gX1_free_2.2.2.2.2.2.2.2.1 (by decide) (fun c_44_199 => ?_) (fun c_44_199 => ?_)
              · refine lv_iload_n hx hb gX1_free_3.1 rfl (lv_at0 hl) ?_
                refine ast hC hK hP hD hS 1 (ws' := [(h0, oX1 cm), (cm, iA G 36 (upd fb (kA * 6 + kB) 60))]) rfl ((ix6n (a := kA) (b := kB) (by omega) (by omega)).1) (k := kA * 6 + kB) (ix6n (by omega) (by omega)).2 (rfl) gX1_free_3.2.1 (fun H locs hP hD hS => ?_)
                refine lv_iinc (v := nI (kB + 1)) (lv' := [(2, .int (nI (kB + 1))), (3, .int 60), (1, .int (nI kA)), (0, .ref h0)]) hx hb gX1_free_3.2.2.1 hl (k := 1) rfl (nI_1 _) (by decide) rfl (fun ls hl => ?_)
                refine lv_goto (tgt := 10) hx hb gX1_free_3.2.2.2.1 (by decide) ?_
                exact ihB (kB + 1) (upd fb (kA * 6 + kB) 60) _ _ _ (by omega) (And.intro hP hD) hS (lv_sub hl [0, 2, 3] rfl)
              · refine lv_iconst (v := 0) hx hb gX1_free_2.2.2.2.2.2.2.2.2.1 (by decide) ?_
                refine lv_goto (tgt := 52) hx hb gX1_free_2.2.2.2.2.2.2.2.2.2 (by decide) ?_
                refine ast hC hK hP hD hS 1 (ws' := [(h0, oX1 cm), (cm, iA G 36 (upd fb (kA * 6 + kB) 0))]) rfl ((ix6n (a := kA) (b := kB) (by omega) (by omega)).1) (k := kA * 6 + kB) (ix6n (by omega) (by omega)).2 (rfl) gX1_free_3.2.1 (fun H locs hP hD hS => ?_)
                refine lv_iinc (v := nI (kB + 1)) (lv' := [(2, .int (nI (kB + 1))), (3, .int 60), (1, .int (nI kA)), (0, .ref h0)]) hx hb gX1_free_3.2.2.1 hl (k := 1) rfl (nI_1 _) (by decide) rfl (fun ls hl => ?_)
                refine lv_goto (tgt := 10) hx hb gX1_free_3.2.2.2.1 (by decide) ?_
                exact ihB (kB + 1) (upd fb (kA * 6 + kB) 0) _ _ _ (by omega) (And.intro hP hD) hS (lv_sub hl [0, 2, 3] rfl)
      exact keyB 6 0 fa _ _ _ (by omega) (And.intro hP hD) hS (lv_sub hl [0, 1, 2] rfl)
  exact keyA 6 0 fm _ _ _ (by omega) (And.intro hP hD) hS (lv_sub hl [0, 1] rfl)
def K_c_mostAhead (l : Launch) (G : GG) (h0 : Nat) (fr : Int32) (to9 : Int32) (cm : Nat) (fm : Nat → Int32) : Prop := MP l G yX1_mostAhead cX1_mostAhead 3 (some .int) 1 [.ref h0, .int fr, .int to9] [(h0, oX1 cm), (cm, iA G 36 fm)] (fun r : Int32 => True)
set_option maxHeartbeats 4000000 in
set_option maxRecDepth 100000 in
theorem c_mostAhead (l : Launch) (G : GG) (h0 : Nat) (fr : Int32) (to9 : Int32) (cm : Nat) (fm : Nat → Int32) : K_c_mostAhead l G h0 fr to9 cm fm := by
  refine MP.start (by decide +kernel) (Nat.le_of_ble_eq_true rfl) ?_
  intro p e s m below meth c ls hC hK hP hD hl
  refine absQ (fun Q0 hQ0 => ?_)
  have hl : lv_has ls 3 [(0, .ref h0), (1, .int fr), (2, .int to9)] := hl
  refine Kan8 hC (fun hx hb hr hml hB hown hlocks hnm => ?_)
  refine lv_iload_n hx hb gX1_mostAhead_0.1 rfl (lv_at1 hl) ?_
  refine lv_if_lt (tgt := 20) hx hb gX1_mostAhead_0.2.1 (by decide) (fun c_1_200 => ?_) (fun c_1_200 => ?_)
  · refine lv_iconst (v := 0) hx hb gX1_mostAhead_1.1 (by decide) ?_
    refine toQ hQ0 ?_
    exact RP (v := 0) hC (trivial) rfl gX1_mostAhead_1.2.1
  · refine lv_iload_n hx hb gX1_mostAhead_0.2.2.1 rfl (lv_at1 hl) ?_
    refine lv_bipush (v := 6) hx hb gX1_mostAhead_0.2.2.2.1 (by decide) ?_
    refine lv_icmp_ge (tgt := 20) hx hb gX1_mostAhead_0.2.2.2.2.1 (by decide) (fun c_7_201 => ?_) (fun c_7_201 => ?_)
    · refine lv_iconst (v := 0) hx hb gX1_mostAhead_1.1 (by decide) ?_
      refine toQ hQ0 ?_
      exact RP (v := 0) hC (trivial) rfl gX1_mostAhead_1.2.1
    · refine lv_iload_n hx hb gX1_mostAhead_0.2.2.2.2.2.1 rfl (lv_at2 hl) ?_
      refine lv_if_lt (tgt := 20) hx hb gX1_mostAhead_0.2.2.2.2.2.2.1 (by decide) (fun c_11_202 => ?_) (fun c_11_202 => ?_)
      · refine lv_iconst (v := 0) hx hb gX1_mostAhead_1.1 (by decide) ?_
        refine toQ hQ0 ?_
        exact RP (v := 0) hC (trivial) rfl gX1_mostAhead_1.2.1
      · refine lv_iload_n hx hb gX1_mostAhead_0.2.2.2.2.2.2.2.1 rfl (lv_at2 hl) ?_
        refine lv_bipush (v := 6) hx hb gX1_mostAhead_0.2.2.2.2.2.2.2.2.1 (by decide) ?_
        refine lv_icmp_lt (tgt := 22) hx hb gX1_mostAhead_0.2.2.2.2.2.2.2.2.2 (by decide) (fun c_17_203 => ?_) (fun c_17_203 => ?_)
        · obtain ⟨jf, hjf, rfl⟩ := lt6n c_1_200 c_7_201
          obtain ⟨jt, hjt, rfl⟩ := lt6n c_11_202 (Int32.not_le.mpr c_17_203)
          refine lv_aload_n hx hb gX1_mostAhead_1.2.2.1 rfl (lv_at0 hl) ?_
          refine gf_X1_9 hC rfl hK hP 0 rfl rfl gX1_mostAhead_1.2.2.2.1 ?_
          refine lv_iload_n hx hb gX1_mostAhead_1.2.2.2.2.1 rfl (lv_at1 hl) ?_
          refine lv_bipush (v := 6) hx hb gX1_mostAhead_1.2.2.2.2.2.1 (by decide) ?_
          refine lv_imul hx hb gX1_mostAhead_1.2.2.2.2.2.2.1 ?_
          refine lv_iload_n hx hb gX1_mostAhead_1.2.2.2.2.2.2.2.1 rfl (lv_at2 hl) ?_
          refine lv_iadd hx hb gX1_mostAhead_1.2.2.2.2.2.2.2.2.1 ?_
          refine ald hC hK hP 1 rfl ((ix6n (a := jf) (b := jt) (by omega) (by omega)).1) (k := jf * 6 + jt) (ix6n (by omega) (by omega)).2 (v := fm (jf * 6 + jt)) (rfl) gX1_mostAhead_1.2.2.2.2.2.2.2.2.2 ?_
          refine toQ hQ0 ?_
          exact RP (v := fm (jf * 6 + jt)) hC (trivial) rfl gX1_mostAhead_2
        · refine lv_iconst (v := 0) hx hb gX1_mostAhead_1.1 (by decide) ?_
          refine toQ hQ0 ?_
          exact RP (v := 0) hC (trivial) rfl gX1_mostAhead_1.2.1
def K_c_narrow (l : Launch) (G : GG) (h0 : Nat) (fr : Int32) (to9 : Int32) (bo : Int32) (cm : Nat) (fm : Nat → Int32) : Prop := MI l G yX1_narrow cX1_narrow 8 (some .boolean) 2 0 0 [.ref h0, .int fr, .int to9, .int bo] [(h0, oX1 cm), (cm, iA G 36 fm)] (fun (r : Int32) (u : (Nat → Int32)) => (r = 1 ∨ r = 0)) (fun u : (Nat → Int32) => [(h0, oX1 cm), (cm, iA G 36 u)])
set_option maxHeartbeats 4000000 in
set_option maxRecDepth 100000 in
theorem c_narrow (l : Launch) (G : GG) (h0 : Nat) (fr : Int32) (to9 : Int32) (bo : Int32) (cm : Nat) (fm : Nat → Int32) : K_c_narrow l G h0 fr to9 bo cm fm := by
  refine MI.start (by decide +kernel) (Nat.le_of_ble_eq_true rfl) ?_
  intro p e s m below meth c A ls hC hK hP hD hS hA hl
  refine absQ (fun Q0 hQ0 => ?_)
  have hl : lv_has ls 8 [(0, .ref h0), (1, .int fr), (2, .int to9), (3, .int bo)] := hl
  refine Kan8 hC (fun hx hb hr hml hB hown hlocks hnm => ?_)
  refine lv_iload_n hx hb gX1_narrow_0.1 rfl (lv_at1 hl) ?_
  refine lv_iconst (v := 0) hx hb gX1_narrow_0.2.1 (by decide) ?_
  refine lv_iconst (v := 5) hx hb gX1_narrow_0.2.2.1 (by decide) ?_
  refine pSN hC hK hl (c_within l G fr 0 5) si_X1_31 rfl rfl (Nat.le_of_ble_eq_true rfl) rm_2_1_3 ⟨by first | exact Nat.le_of_ble_eq_true rfl | exact Nat.zero_le _, by first | exact Nat.le_of_ble_eq_true rfl | exact Nat.zero_le _⟩ gX1_narrow_0.2.2.2.1 (Kors (Keqa fun a205 => ?_) (Keqa fun a205 => ?_))
  · refine lv_if_eq (tgt := 18) hx hb gX1_narrow_0.2.2.2.2.1 (by decide) (fun c9 => absurd c9 (by decide)) (fun _ => ?_)
    refine lv_iload_n hx hb gX1_narrow_0.2.2.2.2.2.1 rfl (lv_at2 hl) ?_
    refine lv_iconst (v := 0) hx hb gX1_narrow_0.2.2.2.2.2.2.1 (by decide) ?_
    refine lv_iconst (v := 5) hx hb gX1_narrow_0.2.2.2.2.2.2.2.1 (by decide) ?_
    refine pSN hC hK hl (c_within l G to9 0 5) si_X1_31 rfl rfl (Nat.le_of_ble_eq_true rfl) rm_2_1_3 ⟨by first | exact Nat.le_of_ble_eq_true rfl | exact Nat.zero_le _, by first | exact Nat.le_of_ble_eq_true rfl | exact Nat.zero_le _⟩ gX1_narrow_0.2.2.2.2.2.2.2.2.1 (Kors (Keqa fun a207 => ?_) (Keqa fun a207 => ?_))
    · refine lv_if_ne (tgt := 20) hx hb gX1_narrow_0.2.2.2.2.2.2.2.2.2 (by decide) (fun _ => ?_) (fun c9 => absurd c9 (by decide))
      obtain ⟨jf, hjf, rfl⟩ := Wi5 a205
      obtain ⟨jt, hjt, rfl⟩ := Wi5 a207
      refine lv_aload_n hx hb gX1_narrow_1.2.2.1 rfl (lv_at0 hl) ?_
      refine gf_X1_9 hC rfl hK hP 0 rfl rfl gX1_narrow_1.2.2.2.1 ?_
      refine lv_iload_n hx hb gX1_narrow_1.2.2.2.2.1 rfl (lv_at2 hl) ?_
      refine lv_bipush (v := 6) hx hb gX1_narrow_1.2.2.2.2.2.1 (by decide) ?_
      refine lv_imul hx hb gX1_narrow_1.2.2.2.2.2.2.1 ?_
      refine lv_iload_n hx hb gX1_narrow_1.2.2.2.2.2.2.2.1 rfl (lv_at1 hl) ?_
      refine lv_iadd hx hb gX1_narrow_1.2.2.2.2.2.2.2.2.1 ?_
      refine ald hC hK hP 1 rfl ((ix6n (a := jt) (b := jf) (by omega) (by omega)).1) (k := jt * 6 + jf) (ix6n (by omega) (by omega)).2 (v := fm (jt * 6 + jf)) (rfl) gX1_narrow_1.2.2.2.2.2.2.2.2.2 ?_
      refine lv_iload_n hx hb gX1_narrow_2.1 rfl (lv_at3 hl) ?_
      refine lv_iadd hx hb gX1_narrow_2.2.1 ?_
      refine lv_if_ge (tgt := 38) hx hb gX1_narrow_2.2.2.1 (by decide) (fun c_33_208 => ?_) (fun c_33_208 => ?_)
      · refine lv_iload_n hx hb gX1_narrow_2.2.2.2.2.2.1 rfl (lv_at3 hl) ?_
        refine lv_aload_n hx hb gX1_narrow_2.2.2.2.2.2.2.1 rfl (lv_at0 hl) ?_
        refine gf_X1_9 hC rfl hK hP 0 rfl rfl gX1_narrow_2.2.2.2.2.2.2.2.1 ?_
        refine lv_iload_n hx hb gX1_narrow_2.2.2.2.2.2.2.2.2.1 rfl (lv_at1 hl) ?_
        refine lv_bipush (v := 6) hx hb gX1_narrow_2.2.2.2.2.2.2.2.2.2 (by decide) ?_
        refine lv_imul hx hb gX1_narrow_3.1 ?_
        refine lv_iload_n hx hb gX1_narrow_3.2.1 rfl (lv_at2 hl) ?_
        refine lv_iadd hx hb gX1_narrow_3.2.2.1 ?_
        refine ald hC hK hP 1 rfl ((ix6n (a := jf) (b := jt) (by omega) (by omega)).1) (k := jf * 6 + jt) (ix6n (by omega) (by omega)).2 (v := fm (jf * 6 + jt)) (rfl) gX1_narrow_3.2.2.2.1 ?_
        refine lv_icmp_lt (tgt := 55) hx hb gX1_narrow_3.2.2.2.2.1 (by decide) (fun c_50_209 => ?_) (fun c_50_209 => ?_)
        · refine lv_iconst (v := 0) hx hb gX1_narrow_3.2.2.2.2.2.2.2.1 (by decide) ?_
          refine lv_istore (lv' := [(4, .int 0), (0, .ref h0), (1, .int (nI jf)), (2, .int (nI jt)), (3, .int bo)]) hx hb gX1_narrow_3.2.2.2.2.2.2.2.2.1 hl (by decide) rfl (fun ls hl => ?_)
          have keyA : ∀ (nA kA : Nat) (fa : Nat → Int32) (H : Heap) (locs : List Loc) (ls : Array Slot), kA + nA = 6 → va_PD G A [(h0, oX1 cm), (cm, iA G 36 fa)] H → va_S A s.heap H locs → lv_has ls 8 [(4, .int (nI kA)), (0, .ref h0), (1, .int (nI jf)), (2, .int (nI jt)), (3, .int bo)] → W p l e (RM 2 0 0) s m ([.ref h0, .int (nI jf), .int (nI jt), .int bo] : List Value).toArray below meth c H locs 0 0 Q0 (F0 m 58 ls []) := by
            intro nA
            induction nA with
            | zero =>
              intro kA fa H locs ls hkA hPD hS hl
              refine Kan2 hPD (fun hP hD => ?_)
              obtain rfl : 6 = kA := by omega
              have hl : lv_has ls 8 [(4, .int 6), (0, .ref h0), (1, .int (nI jf)), (2, .int (nI jt)), (3, .int bo)] := hl
              refine lv_iload hx hb gX1_narrow_3.2.2.2.2.2.2.2.2.2 (lv_at0 hl) ?_
              refine lv_bipush (v := 6) hx hb gX1_narrow_4.1 (by decide) ?_
              refine lv_icmp_ge (tgt := 153) hx hb gX1_narrow_4.2.1 (by decide) (fun _ => ?_) (fun c9 => absurd (by decide) c9)
              refine lv_iconst (v := 1) hx hb gX1_narrow_9.2.2.1 (by decide) ?_
              refine toQ hQ0 ?_
              exact RI (v := 1) hC hP hD hS [0, 1] fa rfl rfl (by decide) (Or.inl (rfl)) (by decide +kernel) gX1_narrow_9.2.2.2
            | succ nA ihA =>
              intro kA fa H locs ls hkA hPD hS hl
              refine Kan2 hPD (fun hP hD => ?_)
              refine lv_iload hx hb gX1_narrow_3.2.2.2.2.2.2.2.2.2 (lv_at0 hl) ?_
              refine lv_bipush (v := 6) hx hb gX1_narrow_4.1 (by decide) ?_
              refine lv_icmp_ge (tgt := 153) hx hb gX1_narrow_4.2.1 (by decide) (fun c9 => absurd c9 (nI_ge (a := kA) (b := 6) (by omega) (by omega))) (fun _ => ?_)
              refine lv_aload_n hx hb gX1_narrow_4.2.2.1 rfl (lv_at1 hl) ?_
              refine gf_X1_9 hC rfl hK hP 0 rfl rfl gX1_narrow_4.2.2.2.1 ?_
              refine lv_iload hx hb gX1_narrow_4.2.2.2.2.1 (lv_at0 hl) ?_
              refine lv_bipush (v := 6) hx hb gX1_narrow_4.2.2.2.2.2.1 (by decide) ?_
              refine lv_imul hx hb gX1_narrow_4.2.2.2.2.2.2.1 ?_
              refine lv_iload_n hx hb gX1_narrow_4.2.2.2.2.2.2.2.1 rfl (lv_at2 hl) ?_
              refine lv_iadd hx hb gX1_narrow_4.2.2.2.2.2.2.2.2.1 ?_
              refine ald hC hK hP 1 rfl ((ix6n (a := kA) (b := jf) (by omega) (by omega)).1) (k := kA * 6 + jf) (ix6n (by omega) (by omega)).2 (v := fa (kA * 6 + jf)) (rfl) gX1_narrow_4.2.2.2.2.2.2.2.2.2 ?_
              refine lv_iload_n hx hb gX1_narrow_5.1 rfl (lv_at4 hl) ?_
              refine lv_iadd hx hb gX1_narrow_5.2.1 ?_
              refine lv_istore (lv' := [(5, .int ((fa (kA * 6 + jf)) + bo)), (4, .int (nI kA)), (0, .ref h0), (1, .int (nI jf)), (2, .int (nI jt)), (3, .int bo)]) hx hb gX1_narrow_5.2.2.1 hl (by decide) rfl (fun ls hl => ?_)
              refine lv_iconst (v := 0) hx hb gX1_narrow_5.2.2.2.1 (by decide) ?_
              refine lv_istore (lv' := [(6, .int 0), (5, .int ((fa (kA * 6 + jf)) + bo)), (4, .int (nI kA)), (0, .ref h0), (1, .int (nI jf)), (2, .int (nI jt)), (3, .int bo)]) hx hb gX1_narrow_5.2.2.2.2.1 hl (by decide) rfl (fun ls hl => ?_)
              have keyB : ∀ (nB kB : Nat) (fb : Nat → Int32) (H : Heap) (locs : List Loc) (ls : Array Slot), kB + nB = 6 → va_PD G A [(h0, oX1 cm), (cm, iA G 36 fb)] H → va_S A s.heap H locs → lv_has ls 8 [(6, .int (nI kB)), (5, .int ((fa (kA * 6 + jf)) + bo)), (4, .int (nI kA)), (0, .ref h0), (1, .int (nI jf)), (2, .int (nI jt)), (3, .int bo)] → W p l e (RM 2 0 0) s m ([.ref h0, .int (nI jf), .int (nI jt), .int bo] : List Value).toArray below meth c H locs 0 0 Q0 (F0 m 84 ls []) := by
                intro nB
                induction nB with
                | zero =>
                  intro kB fb H locs ls hkB hPD hS hl
                  refine Kan2 hPD (fun hP hD => ?_)
                  obtain rfl : 6 = kB := by omega
                  have hl : lv_has ls 8 [(6, .int 6), (5, .int ((fa (kA * 6 + jf)) + bo)), (4, .int (nI kA)), (0, .ref h0), (1, .int (nI jf)), (2, .int (nI jt)), (3, .int bo)] := hl
                  refine lv_iload hx hb gX1_narrow_5.2.2.2.2.2.1 (lv_at0 hl) ?_
                  refine lv_bipush (v := 6) hx hb gX1_narrow_5.2.2.2.2.2.2.1 (by decide) ?_
                  refine lv_icmp_ge (tgt := 147) hx hb gX1_narrow_5.2.2.2.2.2.2.2.1 (by decide) (fun _ => ?_) (fun c9 => absurd (by decide) c9)
                  refine lv_iinc (v := nI (kA + 1)) (lv' := [(4, .int (nI (kA + 1))), (6, .int 6), (5, .int ((fa (kA * 6 + jf)) + bo)), (0, .ref h0), (1, .int (nI jf)), (2, .int (nI jt)), (3, .int bo)]) hx hb gX1_narrow_9.1 hl (k := 2) rfl (nI_1 _) (by decide) rfl (fun ls hl => ?_)
                  refine lv_goto (tgt := 58) hx hb gX1_narrow_9.2.1 (by decide) ?_
                  exact ihA (kA + 1) fb _ _ _ (by omega) (And.intro hP hD) hS (lv_sub hl [0, 3, 4, 5, 6] rfl)
                | succ nB ihB =>
                  intro kB fb H locs ls hkB hPD hS hl
                  refine Kan2 hPD (fun hP hD => ?_)
                  refine lv_iload hx hb gX1_narrow_5.2.2.2.2.2.1 (lv_at0 hl) ?_
                  refine lv_bipush (v := 6) hx hb gX1_narrow_5.2.2.2.2.2.2.1 (by decide) ?_
                  refine lv_icmp_ge (tgt := 147) hx hb gX1_narrow_5.2.2.2.2.2.2.2.1 (by decide) (fun c9 => absurd c9 (nI_ge (a := kB) (b := 6) (by omega) (by omega))) (fun _ => ?_)
                  refine lv_iload hx hb gX1_narrow_5.2.2.2.2.2.2.2.2.1 (lv_at1 hl) ?_
                  refine lv_aload_n hx hb gX1_narrow_5.2.2.2.2.2.2.2.2.2 rfl (lv_at3 hl) ?_
                  refine gf_X1_9 hC rfl hK hP 0 rfl rfl gX1_narrow_6.1 ?_
                  refine lv_iload_n hx hb gX1_narrow_6.2.1 rfl (lv_at5 hl) ?_
                  refine lv_bipush (v := 6) hx hb gX1_narrow_6.2.2.1 (by decide) ?_
                  refine lv_imul hx hb gX1_narrow_6.2.2.2.1 ?_
                  refine lv_iload hx hb gX1_narrow_6.2.2.2.2.1 (lv_at0 hl) ?_
                  refine lv_iadd hx hb gX1_narrow_6.2.2.2.2.2.1 ?_
                  refine ald hC hK hP 1 rfl ((ix6n (a := jt) (b := kB) (by omega) (by omega)).1) (k := jt * 6 + kB) (ix6n (by omega) (by omega)).2 (v := fb (jt * 6 + kB)) (rfl) gX1_narrow_6.2.2.2.2.2.2.1 ?_
                  refine lv_iadd hx hb gX1_narrow_6.2.2.2.2.2.2.2.1 ?_
                  refine lv_istore (lv' := [(7, .int (((fa (kA * 6 + jf)) + bo) + (fb (jt * 6 + kB)))), (6, .int (nI kB)), (5, .int ((fa (kA * 6 + jf)) + bo)), (4, .int (nI kA)), (0, .ref h0), (1, .int (nI jf)), (2, .int (nI jt)), (3, .int bo)]) hx hb gX1_narrow_6.2.2.2.2.2.2.2.2.1 hl (by decide) rfl (fun ls hl => ?_)
                  refine lv_iload hx hb gX1_narrow_6.2.2.2.2.2.2.2.2.2 (lv_at0 hl) ?_
                  refine lv_aload_n hx hb gX1_narrow_7.1 rfl (lv_at4 hl) ?_
                  refine gf_X1_9 hC rfl hK hP 0 rfl rfl gX1_narrow_7.2.1 ?_
                  refine lv_iload hx hb gX1_narrow_7.2.2.1 (lv_at3 hl) ?_
                  refine lv_bipush (v := 6) hx hb gX1_narrow_7.2.2.2.1 (by decide) ?_
                  refine lv_imul hx hb gX1_narrow_7.2.2.2.2.1 ?_
                  refine lv_iload hx hb gX1_narrow_7.2.2.2.2.2.1 (lv_at1 hl) ?_
                  refine lv_iadd hx hb gX1_narrow_7.2.2.2.2.2.2.1 ?_
                  refine ald hC hK hP 1 rfl ((ix6n (a := kA) (b := kB) (by omega) (by omega)).1) (k := kA * 6 + kB) (ix6n (by omega) (by omega)).2 (v := fb (kA * 6 + kB)) (rfl) gX1_narrow_7.2.2.2.2.2.2.2.1 ?_
                  refine lv_icmp_ge (tgt := 141) hx hb gX1_narrow_7.2.2.2.2.2.2.2.2.1 (by decide) (fun c_123_210 => ?_) (fun c_123_210 => ?_)
                  · refine lv_iinc (v := nI (kB + 1)) (lv' := [(6, .int (nI (kB + 1))), (7, .int (((fa (kA * 6 + jf)) + bo) + (fb (jt * 6 + kB)))), (5, .int ((fa (kA * 6 + jf)) + bo)), (4, .int (nI kA)), (0, .ref h0), (1, .int (nI jf)), (2, .int (nI jt)), (3, .int bo)]) hx hb gX1_narrow_8.2.2.2.2.2.2.2.2.1 hl (k := 1) rfl (nI_1 _) (by decide) rfl (fun ls hl => ?_)
                    refine lv_goto (tgt := 84) hx hb gX1_narrow_8.2.2.2.2.2.2.2.2.2 (by decide) ?_
                    exact ihB (kB + 1) fb _ _ _ (by omega) (And.intro hP hD) hS (lv_sub hl [0, 2, 3, 4, 5, 6, 7] rfl)
                  · refine lv_aload_n hx hb gX1_narrow_7.2.2.2.2.2.2.2.2.2 rfl (lv_at4 hl) ?_
                    refine gf_X1_9 hC rfl hK hP 0 rfl rfl gX1_narrow_8.1 ?_
                    refine lv_iload hx hb gX1_narrow_8.2.1 (lv_at3 hl) ?_
                    refine lv_bipush (v := 6) hx hb gX1_narrow_8.2.2.1 (by decide) ?_
                    refine lv_imul hx hb gX1_narrow_8.2.2.2.1 ?_
                    refine lv_iload hx hb gX1_narrow_8.2.2.2.2.1 (lv_at1 hl) ?_
                    refine lv_iadd hx hb gX1_narrow_8.2.2.2.2.2.1 ?_
                    refine lv_iload hx hb gX1_narrow_8.2.2.2.2.2.2.1 (lv_at0 hl) ?_
                    refine ast hC hK hP hD hS 1 (ws' := [(h0, oX1 cm), (cm, iA G 36 (upd fb (kA * 6 + kB) (((fa (kA * 6 + jf)) + bo) + (fb (jt * 6 + kB)))))]) rfl ((ix6n (a := kA) (b := kB) (by omega) (by omega)).1) (k := kA * 6 + kB) (ix6n (by omega) (by omega)).2 (rfl) gX1_narrow_8.2.2.2.2.2.2.2.1 (fun H locs hP hD hS => ?_)
                    refine lv_iinc (v := nI (kB + 1)) (lv' := [(6, .int (nI (kB + 1))), (7, .int (((fa (kA * 6 + jf)) + bo) + (fb (jt * 6 + kB)))), (5, .int ((fa (kA * 6 + jf)) + bo)), (4, .int (nI kA)), (0, .ref h0), (1, .int (nI jf)), (2, .int (nI jt)), (3, .int bo)]) hx hb gX1_narrow_8.2.2.2.2.2.2.2.2.1 hl (k := 1) rfl (nI_1 _) (by decide) rfl (fun ls hl => ?_)
                    refine lv_goto (tgt := 84) hx hb gX1_narrow_8.2.2.2.2.2.2.2.2.2 (by decide) ?_
                    exact ihB (kB + 1) (upd fb (kA * 6 + kB) (((fa (kA * 6 + jf)) + bo) + (fb (jt * 6 + kB)))) _ _ _ (by omega) (And.intro hP hD) hS (lv_sub hl [0, 2, 3, 4, 5, 6, 7] rfl)
              exact keyB 6 0 fa _ _ _ (by omega) (And.intro hP hD) hS (lv_sub hl [0, 1, 2, 3, 4, 5, 6] rfl)
          exact keyA 6 0 fm _ _ _ (by omega) (And.intro hP hD) hS (lv_sub hl [0, 1, 2, 3, 4] rfl)
        · refine lv_iconst (v := 1) hx hb gX1_narrow_3.2.2.2.2.2.1 (by decide) ?_
          refine toQ hQ0 ?_
          exact RI (v := 1) hC hP hD hS [0, 1] fm rfl rfl (by decide) (Or.inl (rfl)) (by decide +kernel) gX1_narrow_3.2.2.2.2.2.2.1
      · refine lv_iconst (v := 0) hx hb gX1_narrow_2.2.2.2.1 (by decide) ?_
        refine toQ hQ0 ?_
        exact RI (v := 0) hC hP hD hS [0, 1] fm rfl rfl (by decide) (Or.inr (rfl)) (by decide +kernel) gX1_narrow_2.2.2.2.2.1
    · refine lv_if_ne (tgt := 20) hx hb gX1_narrow_0.2.2.2.2.2.2.2.2.2 (by decide) (fun c9 => absurd (by decide) c9) (fun _ => ?_)
      refine lv_iconst (v := 1) hx hb gX1_narrow_1.1 (by decide) ?_
      refine toQ hQ0 ?_
      exact RI (v := 1) hC hP hD hS [0, 1] fm rfl rfl (by decide) (Or.inl (rfl)) (by decide +kernel) gX1_narrow_1.2.1
  · refine lv_if_eq (tgt := 18) hx hb gX1_narrow_0.2.2.2.2.1 (by decide) (fun _ => ?_) (fun c9 => absurd (by decide) c9)
    refine lv_iconst (v := 1) hx hb gX1_narrow_1.1 (by decide) ?_
    refine toQ hQ0 ?_
    exact RI (v := 1) hC hP hD hS [0, 1] fm rfl rfl (by decide) (Or.inl (rfl)) (by decide +kernel) gX1_narrow_1.2.1
def K_c_Cl_copy (l : Launch) (G : GG) (h0 : Nat) (h1 : Nat) (cm : Nat) (fm : Nat → Int32) (cn : Nat) (fn : Nat → Int32) : Prop := MV l G yX1_copy cX1_copy 2 2 0 0 [.ref h0, .ref h1] [(h0, oX1 cm), (cm, iA G 36 fm), (h1, oX1 cn), (cn, iA G 36 fn)] (fun u : (Nat → Int32) => True) (fun u : (Nat → Int32) => [(h0, oX1 cm), (cm, iA G 36 u), (h1, oX1 cn), (cn, iA G 36 fn)])
set_option maxHeartbeats 4000000 in
set_option maxRecDepth 100000 in
theorem c_Cl_copy (l : Launch) (G : GG) (h0 : Nat) (h1 : Nat) (cm : Nat) (fm : Nat → Int32) (cn : Nat) (fn : Nat → Int32) : K_c_Cl_copy l G h0 h1 cm fm cn fn := by
  refine MV.start (by decide +kernel) (Nat.le_of_ble_eq_true rfl) ?_
  intro p e s m below meth c A ls hC hK hP hD hS hA hl
  refine absQ (fun Q0 hQ0 => ?_)
  have hl : lv_has ls 2 [(0, .ref h0), (1, .ref h1)] := hl
  refine Kan8 hC (fun hx hb hr hml hB hown hlocks hnm => ?_)
  refine lv_aload_n hx hb gX1_copy_0.1 rfl (lv_at1 hl) ?_
  refine gf_X1_9 hC rfl hK hP 2 rfl rfl gX1_copy_0.2.1 ?_
  refine lv_iconst (v := 0) hx hb gX1_copy_0.2.2.1 (by decide) ?_
  refine lv_aload_n hx hb gX1_copy_0.2.2.2.1 rfl (lv_at0 hl) ?_
  refine gf_X1_9 hC rfl hK hP 0 rfl rfl gX1_copy_0.2.2.2.2.1 ?_
  refine lv_iconst (v := 0) hx hb gX1_copy_0.2.2.2.2.2.1 (by decide) ?_
  refine lv_bipush (v := 36) hx hb gX1_copy_0.2.2.2.2.2.2.1 (by decide) ?_
  refine va_copyi hx hb (hml.trans hl.1.symm) hown (hB _ m_453) (hB _ m_455) (hB _ m_454) (hB _ m_117) hK.1 hP hD hS 3 1 0 0 rfl rfl rfl rfl rfl (by decide) (by decide) (by decide) (by decide +kernel) (by decide +kernel) (fun _ _ => rfl) (Nat.le_of_ble_eq_true rfl) (by decide +kernel) gX1_copy_0.2.2.2.2.2.2.2.1 (fun H locs hP hD hS => ?_)
  refine Kpdr (ws := [(h0, oX1 cm), (cm, iA G 36 (va_cpy fn fm (0 : Int32).toNatClampNeg (0 : Int32).toNatClampNeg (36 : Int32).toNatClampNeg)), (h1, oX1 cn), (cn, iA G 36 fn)]) hP hD (fun hP hD => ?_)
  refine toQ hQ0 ?_
  exact RV hC hP hD hS [0, 1, 2, 3] (va_cpy fn fm (0 : Int32).toNatClampNeg (0 : Int32).toNatClampNeg (36 : Int32).toNatClampNeg) rfl rfl (by decide) (trivial) gX1_copy_0.2.2.2.2.2.2.2.2
def K_c_follow (l : Launch) (G : GG) (h0 : Nat) (tt : Nat) (ah : Int32) (be : Int32) (gp : Int32) (cm : Nat) (fm : Nat → Int32) (tc : Nat) (kt : Nat) (ft : Nat → Int32) : Prop := MI l G yX1_follow cX1_follow 8 (some .boolean) 3 0 0 [.ref h0, .ref tt, .int ah, .int be, .int gp] [(h0, oX1 cm), (cm, iA G 36 fm), (tt, oX8 24 3 tc (nI kt)), (tc, iA G 72 ft)] (fun (r : Int32) (u : (Nat → Int32)) => (r = 1 ∨ r = 0)) (fun u : (Nat → Int32) => [(h0, oX1 cm), (cm, iA G 36 u), (tt, oX8 24 3 tc (nI kt)), (tc, iA G 72 ft)])
set_option maxHeartbeats 4000000 in
set_option maxRecDepth 100000 in
theorem c_follow (l : Launch) (G : GG) (h0 : Nat) (tt : Nat) (ah : Int32) (be : Int32) (gp : Int32) (cm : Nat) (fm : Nat → Int32) (tc : Nat) (kt : Nat) (ft : Nat → Int32) (hkt : kt ≤ 24) : K_c_follow l G h0 tt ah be gp cm fm tc kt ft := by
  refine MI.start (by decide +kernel) (Nat.le_of_ble_eq_true rfl) ?_
  intro p e s m below meth c A ls hC hK hP hD hS hA hl
  refine absQ (fun Q0 hQ0 => ?_)
  have hl : lv_has ls 8 [(0, .ref h0), (1, .ref tt), (2, .int ah), (3, .int be), (4, .int gp)] := hl
  refine Kan8 hC (fun hx hb hr hml hB hown hlocks hnm => ?_)
  refine lv_aload_n hx hb gX1_follow_0.1 rfl (lv_at1 hl) ?_
  refine lv_iload_n hx hb gX1_follow_0.2.1 rfl (lv_at2 hl) ?_
  refine lv_iconst (v := 1) hx hb gX1_follow_0.2.2.1 (by decide) ?_
  refine pV hC hK hl hP hD (c_T_at l G tt ah 1 24 3 tc kt ft (hkt) (by omega) (by omega)) si_X1_21 [2, 3] sm_2_3 fm_2_3 nd_2_3 rfl rfl rfl rfl rfl (Nat.le_of_ble_eq_true rfl) rm_3_1_3 ⟨by first | exact Nat.le_of_ble_eq_true rfl | exact Nat.zero_le _, by first | exact Nat.le_of_ble_eq_true rfl | exact Nat.zero_le _⟩ gX1_follow_0.2.2.2.1 (fun r211 hr211 => ?_)
  refine lv_istore (lv' := [(5, .int r211), (0, .ref h0), (1, .ref tt), (2, .int ah), (3, .int be), (4, .int gp)]) hx hb gX1_follow_0.2.2.2.2.1 hl (by decide) rfl (fun ls hl => ?_)
  refine lv_aload_n hx hb gX1_follow_0.2.2.2.2.2.1 rfl (lv_at2 hl) ?_
  refine lv_iload_n hx hb gX1_follow_0.2.2.2.2.2.2.1 rfl (lv_at4 hl) ?_
  refine lv_iconst (v := 1) hx hb gX1_follow_0.2.2.2.2.2.2.2.1 (by decide) ?_
  refine pV hC hK hl hP hD (c_T_at l G tt be 1 24 3 tc kt ft (hkt) (by omega) (by omega)) si_X1_21 [2, 3] sm_2_3 fm_2_3 nd_2_3 rfl rfl rfl rfl rfl (Nat.le_of_ble_eq_true rfl) rm_3_1_3 ⟨by first | exact Nat.le_of_ble_eq_true rfl | exact Nat.zero_le _, by first | exact Nat.le_of_ble_eq_true rfl | exact Nat.zero_le _⟩ gX1_follow_0.2.2.2.2.2.2.2.2.1 (fun r213 hr213 => ?_)
  refine lv_istore (lv' := [(6, .int r213), (5, .int r211), (0, .ref h0), (1, .ref tt), (2, .int ah), (3, .int be), (4, .int gp)]) hx hb gX1_follow_0.2.2.2.2.2.2.2.2.2 hl (by decide) rfl (fun ls hl => ?_)
  refine lv_aload_n hx hb gX1_follow_1.1 rfl (lv_at3 hl) ?_
  refine lv_iload_n hx hb gX1_follow_1.2.1 rfl (lv_at5 hl) ?_
  refine lv_iconst (v := 2) hx hb gX1_follow_1.2.2.1 (by decide) ?_
  refine pV hC hK hl hP hD (c_T_at l G tt be 2 24 3 tc kt ft (hkt) (by omega) (by omega)) si_X1_21 [2, 3] sm_2_3 fm_2_3 nd_2_3 rfl rfl rfl rfl rfl (Nat.le_of_ble_eq_true rfl) rm_3_1_3 ⟨by first | exact Nat.le_of_ble_eq_true rfl | exact Nat.zero_le _, by first | exact Nat.le_of_ble_eq_true rfl | exact Nat.zero_le _⟩ gX1_follow_1.2.2.2.1 (fun r215 hr215 => ?_)
  refine lv_aload_n hx hb gX1_follow_1.2.2.2.2.1 rfl (lv_at3 hl) ?_
  refine lv_iload_n hx hb gX1_follow_1.2.2.2.2.2.1 rfl (lv_at4 hl) ?_
  refine lv_iconst (v := 2) hx hb gX1_follow_1.2.2.2.2.2.2.1 (by decide) ?_
  refine pV hC hK hl hP hD (c_T_at l G tt ah 2 24 3 tc kt ft (hkt) (by omega) (by omega)) si_X1_21 [2, 3] sm_2_3 fm_2_3 nd_2_3 rfl rfl rfl rfl rfl (Nat.le_of_ble_eq_true rfl) rm_3_1_3 ⟨by first | exact Nat.le_of_ble_eq_true rfl | exact Nat.zero_le _, by first | exact Nat.le_of_ble_eq_true rfl | exact Nat.zero_le _⟩ gX1_follow_1.2.2.2.2.2.2.2.1 (fun r217 hr217 => ?_)
  refine lv_isub hx hb gX1_follow_1.2.2.2.2.2.2.2.2.1 ?_
  refine lv_istore (lv' := [(7, .int (r215 - r217)), (6, .int r213), (5, .int r211), (0, .ref h0), (1, .ref tt), (2, .int ah), (3, .int be), (4, .int gp)]) hx hb gX1_follow_1.2.2.2.2.2.2.2.2.2 hl (by decide) rfl (fun ls hl => ?_)
  refine lv_aload_n hx hb gX1_follow_2.1 rfl (lv_at3 hl) ?_
  refine lv_iload hx hb gX1_follow_2.2.1 (lv_at2 hl) ?_
  refine lv_iload hx hb gX1_follow_2.2.2.1 (lv_at1 hl) ?_
  refine lv_iload hx hb gX1_follow_2.2.2.2.1 (lv_at0 hl) ?_
  refine iV (wr := [(tt, oX8 24 3 tc (nI kt)), (tc, iA G 72 ft)]) hC hK hl hP hD hS hA (c_narrow l G h0 r211 r213 (r215 - r217) cm fm) si_X1_27 [0, 1] [2, 3] sm_0_1 fm_0_1 nd_0_1 sm_2_3 nd_2_3 dj_0_1__2_3 rfl rfl rfl rfl rfl (Nat.le_of_ble_eq_true rfl) rm_3_2_8 ⟨Nat.le_of_ble_eq_true rfl, Nat.le_of_ble_eq_true rfl⟩ gX1_follow_2.2.2.2.2.1 (fun r219 f1221 H locs hr219 hP hD hS => ?_)
  try dsimp only at hr219
  refine Kpdr (ws := [(tt, oX8 24 3 tc (nI kt)), (tc, iA G 72 ft), (h0, oX1 cm), (cm, iA G 36 f1221)]) hP hD (fun hP hD => ?_)
  rcases hr219 with rfl | rfl
  · refine lv_if_eq (tgt := 64) hx hb gX1_follow_2.2.2.2.2.2.1 (by decide) (fun c9 => absurd c9 (by decide)) (fun _ => ?_)
    refine lv_aload_n hx hb gX1_follow_2.2.2.2.2.2.2.1 rfl (lv_at3 hl) ?_
    refine lv_iload hx hb gX1_follow_2.2.2.2.2.2.2.2.1 (lv_at1 hl) ?_
    refine lv_iload hx hb gX1_follow_2.2.2.2.2.2.2.2.2.1 (lv_at2 hl) ?_
    refine lv_iload hx hb gX1_follow_2.2.2.2.2.2.2.2.2.2 (lv_at7 hl) ?_
    refine lv_iload hx hb gX1_follow_3.1 (lv_at0 hl) ?_
    refine lv_isub hx hb gX1_follow_3.2.1 ?_
    refine iV (wr := [(tt, oX8 24 3 tc (nI kt)), (tc, iA G 72 ft)]) hC hK hl hP hD hS hA (c_narrow l G h0 r213 r211 (gp - (r215 - r217)) cm f1221) si_X1_27 [2, 3] [0, 1] sm_2_3 fm_2_3 nd_2_3 sm_0_1 nd_0_1 dj_2_3__0_1 rfl rfl rfl rfl rfl (Nat.le_of_ble_eq_true rfl) rm_3_2_8 ⟨Nat.le_of_ble_eq_true rfl, Nat.le_of_ble_eq_true rfl⟩ gX1_follow_3.2.2.1 (fun r223 f1225 H locs hr223 hP hD hS => ?_)
    try dsimp only at hr223
    refine Kpdr (ws := [(tt, oX8 24 3 tc (nI kt)), (tc, iA G 72 ft), (h0, oX1 cm), (cm, iA G 36 f1225)]) hP hD (fun hP hD => ?_)
    rcases hr223 with rfl | rfl
    · refine lv_if_eq (tgt := 64) hx hb gX1_follow_3.2.2.2.1 (by decide) (fun c9 => absurd c9 (by decide)) (fun _ => ?_)
      refine lv_iconst (v := 1) hx hb gX1_follow_3.2.2.2.2.1 (by decide) ?_
      refine lv_goto (tgt := 65) hx hb gX1_follow_3.2.2.2.2.2.1 (by decide) ?_
      refine toQ hQ0 ?_
      exact RI (v := 1) hC hP hD hS [2, 3, 0, 1] f1225 rfl rfl (by decide) (Or.inl (rfl)) (by decide +kernel) gX1_follow_3.2.2.2.2.2.2.2
    · refine lv_if_eq (tgt := 64) hx hb gX1_follow_3.2.2.2.1 (by decide) (fun _ => ?_) (fun c9 => absurd (by decide) c9)
      refine lv_iconst (v := 0) hx hb gX1_follow_3.2.2.2.2.2.2.1 (by decide) ?_
      refine toQ hQ0 ?_
      exact RI (v := 0) hC hP hD hS [2, 3, 0, 1] f1225 rfl rfl (by decide) (Or.inr (rfl)) (by decide +kernel) gX1_follow_3.2.2.2.2.2.2.2
  · refine lv_if_eq (tgt := 64) hx hb gX1_follow_2.2.2.2.2.2.1 (by decide) (fun _ => ?_) (fun c9 => absurd (by decide) c9)
    refine lv_iconst (v := 0) hx hb gX1_follow_3.2.2.2.2.2.2.1 (by decide) ?_
    refine toQ hQ0 ?_
    exact RI (v := 0) hC hP hD hS [2, 3, 0, 1] f1221 rfl rfl (by decide) (Or.inr (rfl)) (by decide +kernel) gX1_follow_3.2.2.2.2.2.2.2
def K_c_freeX (l : Launch) (G : GG) (h0 : Nat) (cm : Nat) (fm : Nat → Int32) : Prop := MV l G yX1_free cX1_free 4 1 0 0 [.ref h0] [(h0, oX1 cm), (cm, iA G 36 fm)] (fun u : (Nat → Int32) => CLO KB (MAT u)) (fun u : (Nat → Int32) => [(h0, oX1 cm), (cm, iA G 36 u)])
set_option maxHeartbeats 4000000 in
set_option maxRecDepth 100000 in
theorem c_freeX (l : Launch) (G : GG) (h0 : Nat) (cm : Nat) (fm : Nat → Int32) : K_c_freeX l G h0 cm fm := by
  refine MV.start (by decide +kernel) (Nat.le_of_ble_eq_true rfl) ?_
  intro p e s m below meth c A ls hC hK hP hD hS hA hl
  refine absQ (fun Q0 hQ0 => ?_)
  have hl : lv_has ls 4 [(0, .ref h0)] := hl
  refine Kan8 hC (fun hx hb hr hml hB hown hlocks hnm => ?_)
  refine lv_iconst (v := 0) hx hb gX1_free_0.1 (by decide) ?_
  refine lv_istore_n (lv' := [(1, .int 0), (0, .ref h0)]) hx hb gX1_free_0.2.1 rfl hl (by decide) rfl (fun ls hl => ?_)
  have keyA : ∀ (nA kA : Nat) (fa : Nat → Int32) (H : Heap) (locs : List Loc) (ls : Array Slot), kA + nA = 6 → (FRP kA 0 (MAT fa)) → va_PD G A [(h0, oX1 cm), (cm, iA G 36 fa)] H → va_S A s.heap H locs → lv_has ls 4 [(1, .int (nI kA)), (0, .ref h0)] → W p l e (RM 1 0 0) s m ([.ref h0] : List Value).toArray below meth c H locs 0 0 Q0 (F0 m 2 ls []) := by
    intro nA
    induction nA with
    | zero =>
      intro kA fa H locs ls hkA hfa hPD hS hl
      refine Kan2 hPD (fun hP hD => ?_)
      obtain rfl : 6 = kA := by omega
      have hl : lv_has ls 4 [(1, .int 6), (0, .ref h0)] := hl
      refine lv_iload_n hx hb gX1_free_0.2.2.1 rfl (lv_at0 hl) ?_
      refine lv_bipush (v := 6) hx hb gX1_free_0.2.2.2.1 (by decide) ?_
      refine lv_icmp_ge (tgt := 65) hx hb gX1_free_0.2.2.2.2.1 (by decide) (fun _ => ?_) (fun c9 => absurd (by decide) c9)
      refine toQ hQ0 ?_
      exact RV hC hP hD hS [0, 1] fa rfl rfl (by decide) (FRP.clo hfa) gX1_free_3.2.2.2.2.2.2
    | succ nA ihA =>
      intro kA fa H locs ls hkA hfa hPD hS hl
      refine Kan2 hPD (fun hP hD => ?_)
      refine lv_iload_n hx hb gX1_free_0.2.2.1 rfl (lv_at0 hl) ?_
      refine lv_bipush (v := 6) hx hb gX1_free_0.2.2.2.1 (by decide) ?_
      refine lv_icmp_ge (tgt := 65) hx hb gX1_free_0.2.2.2.2.1 (by decide) (fun c9 => absurd c9 (nI_ge (a := kA) (b := 6) (by omega) (by omega))) (fun _ => ?_)
      refine lv_iconst (v := 0) hx hb gX1_free_0.2.2.2.2.2.1 (by decide) ?_
      refine lv_istore_n (lv' := [(2, .int 0), (1, .int (nI kA)), (0, .ref h0)]) hx hb gX1_free_0.2.2.2.2.2.2.1 rfl hl (by decide) rfl (fun ls hl => ?_)
      have keyB : ∀ (nB kB : Nat) (fb : Nat → Int32) (H : Heap) (locs : List Loc) (ls : Array Slot), kB + nB = 6 → (FRP kA kB (MAT fb)) → va_PD G A [(h0, oX1 cm), (cm, iA G 36 fb)] H → va_S A s.heap H locs → lv_has ls 4 [(2, .int (nI kB)), (1, .int (nI kA)), (0, .ref h0)] → W p l e (RM 1 0 0) s m ([.ref h0] : List Value).toArray below meth c H locs 0 0 Q0 (F0 m 10 ls []) := by
        intro nB
        induction nB with
        | zero =>
          intro kB fb H locs ls hkB hfb hPD hS hl
          refine Kan2 hPD (fun hP hD => ?_)
          obtain rfl : 6 = kB := by omega
          have hl : lv_has ls 4 [(2, .int 6), (1, .int (nI kA)), (0, .ref h0)] := hl
          refine lv_iload_n hx hb gX1_free_0.2.2.2.2.2.2.2.1 rfl (lv_at0 hl) ?_
          refine lv_bipush (v := 6) hx hb gX1_free_0.2.2.2.2.2.2.2.2.1 (by decide) ?_
          refine lv_icmp_ge (tgt := 59) hx hb gX1_free_0.2.2.2.2.2.2.2.2.2 (by decide) (fun _ => ?_) (fun c9 => absurd (by decide) c9)
          refine lv_iinc (v := nI (kA + 1)) (lv' := [(1, .int (nI (kA + 1))), (2, .int 6), (0, .ref h0)]) hx hb gX1_free_3.2.2.2.2.1 hl (k := 1) rfl (nI_1 _) (by decide) rfl (fun ls hl => ?_)
          refine lv_goto (tgt := 2) hx hb gX1_free_3.2.2.2.2.2.1 (by decide) ?_
          have hst8 : FRP (kA + 1) 0 (MAT fb) := FRP.row hfb
          exact ihA (kA + 1) fb _ _ _ (by omega) (by first | assumption | exact Or.inl rfl | exact Or.inr rfl | exact FRP.zero) (And.intro hP hD) hS (lv_sub hl [0, 2] rfl)
        | succ nB ihB =>
          intro kB fb H locs ls hkB hfb hPD hS hl
          refine Kan2 hPD (fun hP hD => ?_)
          refine lv_iload_n hx hb gX1_free_0.2.2.2.2.2.2.2.1 rfl (lv_at0 hl) ?_
          refine lv_bipush (v := 6) hx hb gX1_free_0.2.2.2.2.2.2.2.2.1 (by decide) ?_
          refine lv_icmp_ge (tgt := 59) hx hb gX1_free_0.2.2.2.2.2.2.2.2.2 (by decide) (fun c9 => absurd c9 (nI_ge (a := kB) (b := 6) (by omega) (by omega))) (fun _ => ?_)
          refine lv_iload_n hx hb gX1_free_1.1 rfl (lv_at1 hl) ?_
          refine lv_if_eq (tgt := 24) hx hb gX1_free_1.2.1 (by decide) (fun c_17_227 => ?_) (fun c_17_227 => ?_)
          · refine lv_bipush (v := 60) hx hb gX1_free_1.2.2.2.2.1 (by decide) ?_
            refine lv_goto (tgt := 31) hx hb gX1_free_1.2.2.2.2.2.1 (by decide) ?_
            refine lv_istore_n (lv' := [(3, .int 60), (2, .int (nI kB)), (1, .int (nI kA)), (0, .ref h0)]) hx hb gX1_free_1.2.2.2.2.2.2.2.1 rfl hl (by decide) rfl (fun ls hl => ?_)
            refine lv_aload_n hx hb gX1_free_1.2.2.2.2.2.2.2.2.1 rfl (lv_at3 hl) ?_
            refine gf_X1_9 hC rfl hK hP 0 rfl rfl gX1_free_1.2.2.2.2.2.2.2.2.2 ?_
            refine lv_iload_n hx hb gX1_free_2.1 rfl (lv_at2 hl) ?_
            refine lv_bipush (v := 6) hx hb gX1_free_2.2.1 (by decide) ?_
            refine lv_imul hx hb gX1_free_2.2.2.1 ?_
            refine eqi (x1 := nI (kA * 6)) (nI_mul kA 6) ?_
            refine lv_iload_n hx hb gX1_free_2.2.2.2.1 rfl (lv_at1 hl) ?_
            refine lv_iadd hx hb gX1_free_2.2.2.2.2.1 ?_
            refine eqi (x1 := nI (kA * 6 + kB)) (nI_add (kA * 6) kB) ?_
            refine lv_iload_n hx hb gX1_free_2.2.2.2.2.2.1 rfl (lv_at2 hl) ?_
            refine lv_iload_n hx hb gX1_free_2.2.2.2.2.2.2.1 rfl (lv_at1 hl) ?_
            refine lv_icmp_ne (tgt := 51) hx hb gX1_free_2.2.2.2.2.2.2.2.1 (by decide) (fun c_44_228 => ?_) (fun c_44_228 => ?_)
            · refine lv_iload_n hx hb gX1_free_3.1 rfl (lv_at0 hl) ?_
              refine astN hC hK hP hD hS 1 (ws' := [(h0, oX1 cm), (cm, iA G 36 (upd fb (kA * 6 + kB) 60))]) rfl (k := (kA * 6 + kB)) (by omega) (Nat.le_of_ble_eq_true rfl) (rfl) gX1_free_3.2.1 (fun H locs hP hD hS => ?_)
              refine lv_iinc (v := nI (kB + 1)) (lv' := [(2, .int (nI (kB + 1))), (3, .int 60), (1, .int (nI kA)), (0, .ref h0)]) hx hb gX1_free_3.2.2.1 hl (k := 1) rfl (nI_1 _) (by decide) rfl (fun ls hl => ?_)
              refine lv_goto (tgt := 10) hx hb gX1_free_3.2.2.2.1 (by decide) ?_
              have n1 : kA = 0 := nI_z (by omega) c_17_227
              have n3 : ¬ kA = kB := fun h9 => c_44_228 (congrArg nI h9)
              have hst9 : FRP kA (kB + 1) (MAT (upd fb (kA * 6 + kB) 60)) := FRP.set hfb (by omega) (by have e0 : (0 : Int32).toInt = 0 := (by decide); have e60 : (60 : Int32).toInt = 60 := (by decide); have e120 : (120 : Int32).toInt = 120 := (by decide); unfold BASW; split <;> (first | omega | (split <;> omega)))
              exact ihB (kB + 1) (upd fb (kA * 6 + kB) 60) _ _ _ (by omega) (by first | assumption | exact Or.inl rfl | exact Or.inr rfl) (And.intro hP hD) hS (lv_sub hl [0, 2, 3] rfl)
            · refine lv_iconst (v := 0) hx hb gX1_free_2.2.2.2.2.2.2.2.2.1 (by decide) ?_
              refine lv_goto (tgt := 52) hx hb gX1_free_2.2.2.2.2.2.2.2.2.2 (by decide) ?_
              refine astN hC hK hP hD hS 1 (ws' := [(h0, oX1 cm), (cm, iA G 36 (upd fb (kA * 6 + kB) 0))]) rfl (k := (kA * 6 + kB)) (by omega) (Nat.le_of_ble_eq_true rfl) (rfl) gX1_free_3.2.1 (fun H locs hP hD hS => ?_)
              refine lv_iinc (v := nI (kB + 1)) (lv' := [(2, .int (nI (kB + 1))), (3, .int 60), (1, .int (nI kA)), (0, .ref h0)]) hx hb gX1_free_3.2.2.1 hl (k := 1) rfl (nI_1 _) (by decide) rfl (fun ls hl => ?_)
              refine lv_goto (tgt := 10) hx hb gX1_free_3.2.2.2.1 (by decide) ?_
              have n1 : kA = 0 := nI_z (by omega) c_17_227
              have n3 : kA = kB := (nI_eq (by omega) (by omega)).mp c_44_228
              have hst9 : FRP kA (kB + 1) (MAT (upd fb (kA * 6 + kB) 0)) := FRP.set hfb (by omega) (by have e0 : (0 : Int32).toInt = 0 := (by decide); have e60 : (60 : Int32).toInt = 60 := (by decide); have e120 : (120 : Int32).toInt = 120 := (by decide); unfold BASW; split <;> (first | omega | (split <;> omega)))
              exact ihB (kB + 1) (upd fb (kA * 6 + kB) 0) _ _ _ (by omega) (by first | assumption | exact Or.inl rfl | exact Or.inr rfl) (And.intro hP hD) hS (lv_sub hl [0, 2, 3] rfl)
          · refine lv_iload_n hx hb gX1_free_1.2.2.1 rfl (lv_at0 hl) ?_
            refine lv_if_ne (tgt := 29) hx hb gX1_free_1.2.2.2.1 (by decide) (fun c_21_229 => ?_) (fun c_21_229 => ?_)
            · refine lv_bipush (v := 120) hx hb gX1_free_1.2.2.2.2.2.2.1 (by decide) ?_
              refine lv_istore_n (lv' := [(3, .int 120), (2, .int (nI kB)), (1, .int (nI kA)), (0, .ref h0)]) hx hb gX1_free_1.2.2.2.2.2.2.2.1 rfl hl (by decide) rfl (fun ls hl => ?_)
              refine lv_aload_n hx hb gX1_free_1.2.2.2.2.2.2.2.2.1 rfl (lv_at3 hl) ?_
              refine gf_X1_9 hC rfl hK hP 0 rfl rfl gX1_free_1.2.2.2.2.2.2.2.2.2 ?_
              refine lv_iload_n hx hb gX1_free_2.1 rfl (lv_at2 hl) ?_
              refine lv_bipush (v := 6) hx hb gX1_free_2.2.1 (by decide) ?_
              refine lv_imul hx hb gX1_free_2.2.2.1 ?_
              refine eqi (x1 := nI (kA * 6)) (nI_mul kA 6) ?_
              refine lv_iload_n hx hb gX1_free_2.2.2.2.1 rfl (lv_at1 hl) ?_
              refine lv_iadd hx hb gX1_free_2.2.2.2.2.1 ?_
              refine eqi (x1 := nI (kA * 6 + kB)) (nI_add (kA * 6) kB) ?_
              refine lv_iload_n hx hb gX1_free_2.2.2.2.2.2.1 rfl (lv_at2 hl) ?_
              refine lv_iload_n hx hb gX1_free_2.2.2.2.2.2.2.1 rfl (lv_at1 hl) ?_
              refine lv_icmp_ne (tgt := 51) hx hb gX1_free_2.2.2.2.2.2.2.2.1 (by decide) (fun c_44_230 => ?_) (fun c_44_230 => ?_)
              · refine lv_iload_n hx hb gX1_free_3.1 rfl (lv_at0 hl) ?_
                refine astN hC hK hP hD hS 1 (ws' := [(h0, oX1 cm), (cm, iA G 36 (upd fb (kA * 6 + kB) 120))]) rfl (k := (kA * 6 + kB)) (by omega) (Nat.le_of_ble_eq_true rfl) (rfl) gX1_free_3.2.1 (fun H locs hP hD hS => ?_)
                refine lv_iinc (v := nI (kB + 1)) (lv' := [(2, .int (nI (kB + 1))), (3, .int 120), (1, .int (nI kA)), (0, .ref h0)]) hx hb gX1_free_3.2.2.1 hl (k := 1) rfl (nI_1 _) (by decide) rfl (fun ls hl => ?_)
                refine lv_goto (tgt := 10) hx hb gX1_free_3.2.2.2.1 (by decide) ?_
                have n1 : ¬ kA = 0 := fun h9 => c_17_227 (congrArg nI h9)
                have n2 : ¬ kB = 0 := fun h9 => c_21_229 (congrArg nI h9)
                have n3 : ¬ kA = kB := fun h9 => c_44_230 (congrArg nI h9)
                have hst9 : FRP kA (kB + 1) (MAT (upd fb (kA * 6 + kB) 120)) := FRP.set hfb (by omega) (by have e0 : (0 : Int32).toInt = 0 := (by decide); have e60 : (60 : Int32).toInt = 60 := (by decide); have e120 : (120 : Int32).toInt = 120 := (by decide); unfold BASW; split <;> (first | omega | (split <;> omega)))
                exact ihB (kB + 1) (upd fb (kA * 6 + kB) 120) _ _ _ (by omega) (by first | assumption | exact Or.inl rfl | exact Or.inr rfl) (And.intro hP hD) hS (lv_sub hl [0, 2, 3] rfl)
              · refine lv_iconst (v := 0) hx hb gX1_free_2.2.2.2.2.2.2.2.2.1 (by decide) ?_
                refine lv_goto (tgt := 52) hx hb gX1_free_2.2.2.2.2.2.2.2.2.2 (by decide) ?_
                refine astN hC hK hP hD hS 1 (ws' := [(h0, oX1 cm), (cm, iA G 36 (upd fb (kA * 6 + kB) 0))]) rfl (k := (kA * 6 + kB)) (by omega) (Nat.le_of_ble_eq_true rfl) (rfl) gX1_free_3.2.1 (fun H locs hP hD hS => ?_)
                refine lv_iinc (v := nI (kB + 1)) (lv' := [(2, .int (nI (kB + 1))), (3, .int 120), (1, .int (nI kA)), (0, .ref h0)]) hx hb gX1_free_3.2.2.1 hl (k := 1) rfl (nI_1 _) (by decide) rfl (fun ls hl => ?_)
                refine lv_goto (tgt := 10) hx hb gX1_free_3.2.2.2.1 (by decide) ?_
                have n1 : ¬ kA = 0 := fun h9 => c_17_227 (congrArg nI h9)
                have n2 : ¬ kB = 0 := fun h9 => c_21_229 (congrArg nI h9)
                have n3 : kA = kB := (nI_eq (by omega) (by omega)).mp c_44_230
                have hst9 : FRP kA (kB + 1) (MAT (upd fb (kA * 6 + kB) 0)) := FRP.set hfb (by omega) (by have e0 : (0 : Int32).toInt = 0 := (by decide); have e60 : (60 : Int32).toInt = 60 := (by decide); have e120 : (120 : Int32).toInt = 120 := (by decide); unfold BASW; split <;> (first | omega | (split <;> omega)))
                exact ihB (kB + 1) (upd fb (kA * 6 + kB) 0) _ _ _ (by omega) (by first | assumption | exact Or.inl rfl | exact Or.inr rfl) (And.intro hP hD) hS (lv_sub hl [0, 2, 3] rfl)
            · refine lv_bipush (v := 60) hx hb gX1_free_1.2.2.2.2.1 (by decide) ?_
              refine lv_goto (tgt := 31) hx hb gX1_free_1.2.2.2.2.2.1 (by decide) ?_
              refine lv_istore_n (lv' := [(3, .int 60), (2, .int (nI kB)), (1, .int (nI kA)), (0, .ref h0)]) hx hb gX1_free_1.2.2.2.2.2.2.2.1 rfl hl (by decide) rfl (fun ls hl => ?_)
              refine lv_aload_n hx hb gX1_free_1.2.2.2.2.2.2.2.2.1 rfl (lv_at3 hl) ?_
              refine gf_X1_9 hC rfl hK hP 0 rfl rfl gX1_free_1.2.2.2.2.2.2.2.2.2 ?_
              refine lv_iload_n hx hb gX1_free_2.1 rfl (lv_at2 hl) ?_
              refine lv_bipush (v := 6) hx hb gX1_free_2.2.1 (by decide) ?_
              refine lv_imul hx hb gX1_free_2.2.2.1 ?_
              refine eqi (x1 := nI (kA * 6)) (nI_mul kA 6) ?_
              refine lv_iload_n hx hb gX1_free_2.2.2.2.1 rfl (lv_at1 hl) ?_
              refine lv_iadd hx hb gX1_free_2.2.2.2.2.1 ?_
              refine eqi (x1 := nI (kA * 6 + kB)) (nI_add (kA * 6) kB) ?_
              refine lv_iload_n hx hb gX1_free_2.2.2.2.2.2.1 rfl (lv_at2 hl) ?_
              refine lv_iload_n hx hb gX1_free_2.2.2.2.2.2.2.1 rfl (lv_at1 hl) ?_
              refine lv_icmp_ne (tgt := 51) hx hb gX1_free_2.2.2.2.2.2.2.2.1 (by decide) (fun c_44_231 => ?_) (fun c_44_231 => ?_)
              · refine lv_iload_n hx hb gX1_free_3.1 rfl (lv_at0 hl) ?_
                refine astN hC hK hP hD hS 1 (ws' := [(h0, oX1 cm), (cm, iA G 36 (upd fb (kA * 6 + kB) 60))]) rfl (k := (kA * 6 + kB)) (by omega) (Nat.le_of_ble_eq_true rfl) (rfl) gX1_free_3.2.1 (fun H locs hP hD hS => ?_)
                refine lv_iinc (v := nI (kB + 1)) (lv' := [(2, .int (nI (kB + 1))), (3, .int 60), (1, .int (nI kA)), (0, .ref h0)]) hx hb gX1_free_3.2.2.1 hl (k := 1) rfl (nI_1 _) (by decide) rfl (fun ls hl => ?_)
                refine lv_goto (tgt := 10) hx hb gX1_free_3.2.2.2.1 (by decide) ?_
                have n1 : ¬ kA = 0 := fun h9 => c_17_227 (congrArg nI h9)
                have n2 : kB = 0 := nI_z (by omega) c_21_229
                have n3 : ¬ kA = kB := fun h9 => c_44_231 (congrArg nI h9)
                have hst9 : FRP kA (kB + 1) (MAT (upd fb (kA * 6 + kB) 60)) := FRP.set hfb (by omega) (by have e0 : (0 : Int32).toInt = 0 := (by decide); have e60 : (60 : Int32).toInt = 60 := (by decide); have e120 : (120 : Int32).toInt = 120 := (by decide); unfold BASW; split <;> (first | omega | (split <;> omega)))
                exact ihB (kB + 1) (upd fb (kA * 6 + kB) 60) _ _ _ (by omega) (by first | assumption | exact Or.inl rfl | exact Or.inr rfl) (And.intro hP hD) hS (lv_sub hl [0, 2, 3] rfl)
              · refine lv_iconst (v := 0) hx hb gX1_free_2.2.2.2.2.2.2.2.2.1 (by decide) ?_
                refine lv_goto (tgt := 52) hx hb gX1_free_2.2.2.2.2.2.2.2.2.2 (by decide) ?_
                refine astN hC hK hP hD hS 1 (ws' := [(h0, oX1 cm), (cm, iA G 36 (upd fb (kA * 6 + kB) 0))]) rfl (k := (kA * 6 + kB)) (by omega) (Nat.le_of_ble_eq_true rfl) (rfl) gX1_free_3.2.1 (fun H locs hP hD hS => ?_)
                refine lv_iinc (v := nI (kB + 1)) (lv' := [(2, .int (nI (kB + 1))), (3, .int 60), (1, .int (nI kA)), (0, .ref h0)]) hx hb gX1_free_3.2.2.1 hl (k := 1) rfl (nI_1 _) (by decide) rfl (fun ls hl => ?_)
                refine lv_goto (tgt := 10) hx hb gX1_free_3.2.2.2.1 (by decide) ?_
                have n1 : ¬ kA = 0 := fun h9 => c_17_227 (congrArg nI h9)
                have n2 : kB = 0 := nI_z (by omega) c_21_229
                have n3 : kA = kB := (nI_eq (by omega) (by omega)).mp c_44_231
                have hst9 : FRP kA (kB + 1) (MAT (upd fb (kA * 6 + kB) 0)) := FRP.set hfb (by omega) (by have e0 : (0 : Int32).toInt = 0 := (by decide); have e60 : (60 : Int32).toInt = 60 := (by decide); have e120 : (120 : Int32).toInt = 120 := (by decide); unfold BASW; split <;> (first | omega | (split <;> omega)))
                exact ihB (kB + 1) (upd fb (kA * 6 + kB) 0) _ _ _ (by omega) (by first | assumption | exact Or.inl rfl | exact Or.inr rfl) (And.intro hP hD) hS (lv_sub hl [0, 2, 3] rfl)
      exact keyB 6 0 fa _ _ _ (by omega) (by first | assumption | exact Or.inl rfl | exact Or.inr rfl) (And.intro hP hD) hS (lv_sub hl [0, 1, 2] rfl)
  exact keyA 6 0 fm _ _ _ (by omega) (by first | assumption | exact Or.inl rfl | exact Or.inr rfl | exact FRP.zero) (And.intro hP hD) hS (lv_sub hl [0, 1] rfl)
def K_c_narrowX (l : Launch) (G : GG) (K9 : Nat → Nat → Int → Prop) (h0 : Nat) (jf : Nat) (jt : Nat) (bo : Int32) (cm : Nat) (fm : Nat → Int32) : Prop := MI l G yX1_narrow cX1_narrow 8 (some .boolean) 2 0 0 [.ref h0, .int (nI jf), .int (nI jt), .int bo] [(h0, oX1 cm), (cm, iA G 36 fm)] (fun (r : Int32) (u : (Nat → Int32)) => ((r = 1 ∧ CLB (KAD K9 jf jt bo.toInt) (MAT u)) ∨ (r = 0 ∧ NOS (KAD K9 jf jt bo.toInt)))) (fun u : (Nat → Int32) => [(h0, oX1 cm), (cm, iA G 36 u)])
set_option maxHeartbeats 4000000 in
set_option maxRecDepth 100000 in
theorem c_narrowX (l : Launch) (G : GG) (K9 : Nat → Nat → Int → Prop) (h0 : Nat) (jf : Nat) (jt : Nat) (bo : Int32) (cm : Nat) (fm : Nat → Int32) (hCB : CLB K9 (MAT fm)) (hb1 : -2000 ≤ bo.toInt) (hb2 : bo.toInt ≤ 2000) (hjf : jf < 6) (hjt : jt < 6) : K_c_narrowX l G K9 h0 jf jt bo cm fm := by
  refine MI.start (by decide +kernel) (Nat.le_of_ble_eq_true rfl) ?_
  intro p e s m below meth c A ls hC hK hP hD hS hA hl
  refine absQ (fun Q0 hQ0 => ?_)
  have hl : lv_has ls 8 [(0, .ref h0), (1, .int (nI jf)), (2, .int (nI jt)), (3, .int bo)] := hl
  refine Kan8 hC (fun hx hb hr hml hB hown hlocks hnm => ?_)
  have wj1 : Wi (nI jf) 0 5 := Wi_j (N := 5) rfl (by decide) (by omega)
  have wj2 : Wi (nI jt) 0 5 := Wi_j (N := 5) rfl (by decide) (by omega)
  have hlm := hCB.lim
  have hlt := nar_lt (x := fm (jt * 6 + jf)) (y := bo) (a := MAT fm jt jf) rfl (hlm jt jf hjt hjf).1 (hlm jt jf hjt hjf).2 hb1 hb2
  refine lv_iload_n hx hb gX1_narrow_0.1 rfl (lv_at1 hl) ?_
  refine lv_iconst (v := 0) hx hb gX1_narrow_0.2.1 (by decide) ?_
  refine lv_iconst (v := 5) hx hb gX1_narrow_0.2.2.1 (by decide) ?_
  refine pSN hC hK hl (c_within l G (nI jf) 0 5) si_X1_31 rfl rfl (Nat.le_of_ble_eq_true rfl) rm_2_1_3 ⟨by first | exact Nat.le_of_ble_eq_true rfl | exact Nat.zero_le _, by first | exact Nat.le_of_ble_eq_true rfl | exact Nat.zero_le _⟩ gX1_narrow_0.2.2.2.1 (Kors (Keqa fun a233 => ?_) (Keqa fun a233 => ?_))
  · refine lv_if_eq (tgt := 18) hx hb gX1_narrow_0.2.2.2.2.1 (by decide) (fun c9 => absurd c9 (by decide)) (fun _ => ?_)
    refine lv_iload_n hx hb gX1_narrow_0.2.2.2.2.2.1 rfl (lv_at2 hl) ?_
    refine lv_iconst (v := 0) hx hb gX1_narrow_0.2.2.2.2.2.2.1 (by decide) ?_
    refine lv_iconst (v := 5) hx hb gX1_narrow_0.2.2.2.2.2.2.2.1 (by decide) ?_
    refine pSN hC hK hl (c_within l G (nI jt) 0 5) si_X1_31 rfl rfl (Nat.le_of_ble_eq_true rfl) rm_2_1_3 ⟨by first | exact Nat.le_of_ble_eq_true rfl | exact Nat.zero_le _, by first | exact Nat.le_of_ble_eq_true rfl | exact Nat.zero_le _⟩ gX1_narrow_0.2.2.2.2.2.2.2.2.1 (Kors (Keqa fun a235 => ?_) (Keqa fun a235 => ?_))
    · refine lv_if_ne (tgt := 20) hx hb gX1_narrow_0.2.2.2.2.2.2.2.2.2 (by decide) (fun _ => ?_) (fun c9 => absurd c9 (by decide))
      refine lv_aload_n hx hb gX1_narrow_1.2.2.1 rfl (lv_at0 hl) ?_
      refine gf_X1_9 hC rfl hK hP 0 rfl rfl gX1_narrow_1.2.2.2.1 ?_
      refine lv_iload_n hx hb gX1_narrow_1.2.2.2.2.1 rfl (lv_at2 hl) ?_
      refine lv_bipush (v := 6) hx hb gX1_narrow_1.2.2.2.2.2.1 (by decide) ?_
      refine lv_imul hx hb gX1_narrow_1.2.2.2.2.2.2.1 ?_
      refine eqi (x1 := nI (jt * 6)) (nI_mul jt 6) ?_
      refine lv_iload_n hx hb gX1_narrow_1.2.2.2.2.2.2.2.1 rfl (lv_at1 hl) ?_
      refine lv_iadd hx hb gX1_narrow_1.2.2.2.2.2.2.2.2.1 ?_
      refine eqi (x1 := nI (jt * 6 + jf)) (nI_add (jt * 6) jf) ?_
      refine aldN hC hK hP 1 rfl (k := (jt * 6 + jf)) (by omega) (Nat.le_of_ble_eq_true rfl) (v := fm (jt * 6 + jf)) rfl gX1_narrow_1.2.2.2.2.2.2.2.2.2 ?_
      refine lv_iload_n hx hb gX1_narrow_2.1 rfl (lv_at3 hl) ?_
      refine lv_iadd hx hb gX1_narrow_2.2.1 ?_
      refine lv_if_ge (tgt := 38) hx hb gX1_narrow_2.2.2.1 (by decide) (fun c_33_236 => ?_) (fun c_33_236 => ?_)
      · refine lv_iload_n hx hb gX1_narrow_2.2.2.2.2.2.1 rfl (lv_at3 hl) ?_
        refine lv_aload_n hx hb gX1_narrow_2.2.2.2.2.2.2.1 rfl (lv_at0 hl) ?_
        refine gf_X1_9 hC rfl hK hP 0 rfl rfl gX1_narrow_2.2.2.2.2.2.2.2.1 ?_
        refine lv_iload_n hx hb gX1_narrow_2.2.2.2.2.2.2.2.2.1 rfl (lv_at1 hl) ?_
        refine lv_bipush (v := 6) hx hb gX1_narrow_2.2.2.2.2.2.2.2.2.2 (by decide) ?_
        refine lv_imul hx hb gX1_narrow_3.1 ?_
        refine eqi (x1 := nI (jf * 6)) (nI_mul jf 6) ?_
        refine lv_iload_n hx hb gX1_narrow_3.2.1 rfl (lv_at2 hl) ?_
        refine lv_iadd hx hb gX1_narrow_3.2.2.1 ?_
        refine eqi (x1 := nI (jf * 6 + jt)) (nI_add (jf * 6) jt) ?_
        refine aldN hC hK hP 1 rfl (k := (jf * 6 + jt)) (by omega) (Nat.le_of_ble_eq_true rfl) (v := fm (jf * 6 + jt)) rfl gX1_narrow_3.2.2.2.1 ?_
        refine lv_icmp_lt (tgt := 55) hx hb gX1_narrow_3.2.2.2.2.1 (by decide) (fun c_50_237 => ?_) (fun c_50_237 => ?_)
        · refine lv_iconst (v := 0) hx hb gX1_narrow_3.2.2.2.2.2.2.2.1 (by decide) ?_
          refine lv_istore (lv' := [(4, .int 0), (0, .ref h0), (1, .int (nI jf)), (2, .int (nI jt)), (3, .int bo)]) hx hb gX1_narrow_3.2.2.2.2.2.2.2.2.1 hl (by decide) rfl (fun ls hl => ?_)
          have keyA : ∀ (nA kA : Nat) (fa : Nat → Int32) (H : Heap) (locs : List Loc) (ls : Array Slot), kA + nA = 6 → (NRP (MAT fm) jf jt bo.toInt kA 0 (MAT fa)) → va_PD G A [(h0, oX1 cm), (cm, iA G 36 fa)] H → va_S A s.heap H locs → lv_has ls 8 [(4, .int (nI kA)), (0, .ref h0), (1, .int (nI jf)), (2, .int (nI jt)), (3, .int bo)] → W p l e (RM 2 0 0) s m ([.ref h0, .int (nI jf), .int (nI jt), .int bo] : List Value).toArray below meth c H locs 0 0 Q0 (F0 m 58 ls []) := by
            intro nA
            induction nA with
            | zero =>
              intro kA fa H locs ls hkA hnA hPD hS hl
              refine Kan2 hPD (fun hP hD => ?_)
              obtain rfl : 6 = kA := by omega
              have hl : lv_has ls 8 [(4, .int 6), (0, .ref h0), (1, .int (nI jf)), (2, .int (nI jt)), (3, .int bo)] := hl
              refine lv_iload hx hb gX1_narrow_3.2.2.2.2.2.2.2.2.2 (lv_at0 hl) ?_
              refine lv_bipush (v := 6) hx hb gX1_narrow_4.1 (by decide) ?_
              refine lv_icmp_ge (tgt := 153) hx hb gX1_narrow_4.2.1 (by decide) (fun _ => ?_) (fun c9 => absurd (by decide) c9)
              refine lv_iconst (v := 1) hx hb gX1_narrow_9.2.2.1 (by decide) ?_
              refine toQ hQ0 ?_
              exact RI (v := 1) hC hP hD hS [0, 1] fa rfl rfl (by decide) (Or.inl ⟨rfl, NRP.clo hnA hCB.1 hjf hjt (hlt.mp c_33_236), hCB.2.ad⟩) (by decide +kernel) gX1_narrow_9.2.2.2
            | succ nA ihA =>
              intro kA fa H locs ls hkA hnA hPD hS hl
              refine Kan2 hPD (fun hP hD => ?_)
              refine lv_iload hx hb gX1_narrow_3.2.2.2.2.2.2.2.2.2 (lv_at0 hl) ?_
              refine lv_bipush (v := 6) hx hb gX1_narrow_4.1 (by decide) ?_
              refine lv_icmp_ge (tgt := 153) hx hb gX1_narrow_4.2.1 (by decide) (fun c9 => absurd c9 (nI_ge (a := kA) (b := 6) (by omega) (by omega))) (fun _ => ?_)
              refine lv_aload_n hx hb gX1_narrow_4.2.2.1 rfl (lv_at1 hl) ?_
              refine gf_X1_9 hC rfl hK hP 0 rfl rfl gX1_narrow_4.2.2.2.1 ?_
              refine lv_iload hx hb gX1_narrow_4.2.2.2.2.1 (lv_at0 hl) ?_
              refine lv_bipush (v := 6) hx hb gX1_narrow_4.2.2.2.2.2.1 (by decide) ?_
              refine lv_imul hx hb gX1_narrow_4.2.2.2.2.2.2.1 ?_
              refine eqi (x1 := nI (kA * 6)) (nI_mul kA 6) ?_
              refine lv_iload_n hx hb gX1_narrow_4.2.2.2.2.2.2.2.1 rfl (lv_at2 hl) ?_
              refine lv_iadd hx hb gX1_narrow_4.2.2.2.2.2.2.2.2.1 ?_
              refine eqi (x1 := nI (kA * 6 + jf)) (nI_add (kA * 6) jf) ?_
              refine aldN hC hK hP 1 rfl (k := (kA * 6 + jf)) (by omega) (Nat.le_of_ble_eq_true rfl) (v := fa (kA * 6 + jf)) rfl gX1_narrow_4.2.2.2.2.2.2.2.2.2 ?_
              refine lv_iload_n hx hb gX1_narrow_5.1 rfl (lv_at4 hl) ?_
              refine lv_iadd hx hb gX1_narrow_5.2.1 ?_
              refine lv_istore (lv' := [(5, .int ((fa (kA * 6 + jf)) + bo)), (4, .int (nI kA)), (0, .ref h0), (1, .int (nI jf)), (2, .int (nI jt)), (3, .int bo)]) hx hb gX1_narrow_5.2.2.1 hl (by decide) rfl (fun ls hl => ?_)
              refine lv_iconst (v := 0) hx hb gX1_narrow_5.2.2.2.1 (by decide) ?_
              refine lv_istore (lv' := [(6, .int 0), (5, .int ((fa (kA * 6 + jf)) + bo)), (4, .int (nI kA)), (0, .ref h0), (1, .int (nI jf)), (2, .int (nI jt)), (3, .int bo)]) hx hb gX1_narrow_5.2.2.2.2.1 hl (by decide) rfl (fun ls hl => ?_)
              have keyB : ∀ (nB kB : Nat) (fb : Nat → Int32) (H : Heap) (locs : List Loc) (ls : Array Slot), kB + nB = 6 → (NRP (MAT fm) jf jt bo.toInt kA kB (MAT fb)) → va_PD G A [(h0, oX1 cm), (cm, iA G 36 fb)] H → va_S A s.heap H locs → lv_has ls 8 [(6, .int (nI kB)), (5, .int ((fa (kA * 6 + jf)) + bo)), (4, .int (nI kA)), (0, .ref h0), (1, .int (nI jf)), (2, .int (nI jt)), (3, .int bo)] → W p l e (RM 2 0 0) s m ([.ref h0, .int (nI jf), .int (nI jt), .int bo] : List Value).toArray below meth c H locs 0 0 Q0 (F0 m 84 ls []) := by
                intro nB
                induction nB with
                | zero =>
                  intro kB fb H locs ls hkB hnB hPD hS hl
                  refine Kan2 hPD (fun hP hD => ?_)
                  obtain rfl : 6 = kB := by omega
                  have hl : lv_has ls 8 [(6, .int 6), (5, .int ((fa (kA * 6 + jf)) + bo)), (4, .int (nI kA)), (0, .ref h0), (1, .int (nI jf)), (2, .int (nI jt)), (3, .int bo)] := hl
                  refine lv_iload hx hb gX1_narrow_5.2.2.2.2.2.1 (lv_at0 hl) ?_
                  refine lv_bipush (v := 6) hx hb gX1_narrow_5.2.2.2.2.2.2.1 (by decide) ?_
                  refine lv_icmp_ge (tgt := 147) hx hb gX1_narrow_5.2.2.2.2.2.2.2.1 (by decide) (fun _ => ?_) (fun c9 => absurd (by decide) c9)
                  refine lv_iinc (v := nI (kA + 1)) (lv' := [(4, .int (nI (kA + 1))), (6, .int 6), (5, .int ((fa (kA * 6 + jf)) + bo)), (0, .ref h0), (1, .int (nI jf)), (2, .int (nI jt)), (3, .int bo)]) hx hb gX1_narrow_9.1 hl (k := 2) rfl (nI_1 _) (by decide) rfl (fun ls hl => ?_)
                  refine lv_goto (tgt := 58) hx hb gX1_narrow_9.2.1 (by decide) ?_
                  have hst8 : NRP (MAT fm) jf jt bo.toInt (kA + 1) 0 (MAT fb) := NRP.row hnB
                  exact ihA (kA + 1) fb _ _ _ (by omega) (by first | assumption | exact Or.inl rfl | exact Or.inr rfl | exact NRP.zero) (And.intro hP hD) hS (lv_sub hl [0, 3, 4, 5, 6] rfl)
                | succ nB ihB =>
                  intro kB fb H locs ls hkB hnB hPD hS hl
                  refine Kan2 hPD (fun hP hD => ?_)
                  refine lv_iload hx hb gX1_narrow_5.2.2.2.2.2.1 (lv_at0 hl) ?_
                  refine lv_bipush (v := 6) hx hb gX1_narrow_5.2.2.2.2.2.2.1 (by decide) ?_
                  refine lv_icmp_ge (tgt := 147) hx hb gX1_narrow_5.2.2.2.2.2.2.2.1 (by decide) (fun c9 => absurd c9 (nI_ge (a := kB) (b := 6) (by omega) (by omega))) (fun _ => ?_)
                  refine lv_iload hx hb gX1_narrow_5.2.2.2.2.2.2.2.2.1 (lv_at1 hl) ?_
                  refine lv_aload_n hx hb gX1_narrow_5.2.2.2.2.2.2.2.2.2 rfl (lv_at3 hl) ?_
                  refine gf_X1_9 hC rfl hK hP 0 rfl rfl gX1_narrow_6.1 ?_
                  refine lv_iload_n hx hb gX1_narrow_6.2.1 rfl (lv_at5 hl) ?_
                  refine lv_bipush (v := 6) hx hb gX1_narrow_6.2.2.1 (by decide) ?_
                  refine lv_imul hx hb gX1_narrow_6.2.2.2.1 ?_
                  refine eqi (x1 := nI (jt * 6)) (nI_mul jt 6) ?_
                  refine lv_iload hx hb gX1_narrow_6.2.2.2.2.1 (lv_at0 hl) ?_
                  refine lv_iadd hx hb gX1_narrow_6.2.2.2.2.2.1 ?_
                  refine eqi (x1 := nI (jt * 6 + kB)) (nI_add (jt * 6) kB) ?_
                  refine aldN hC hK hP 1 rfl (k := (jt * 6 + kB)) (by omega) (Nat.le_of_ble_eq_true rfl) (v := fb (jt * 6 + kB)) rfl gX1_narrow_6.2.2.2.2.2.2.1 ?_
                  refine lv_iadd hx hb gX1_narrow_6.2.2.2.2.2.2.2.1 ?_
                  refine lv_istore (lv' := [(7, .int (((fa (kA * 6 + jf)) + bo) + (fb (jt * 6 + kB)))), (6, .int (nI kB)), (5, .int ((fa (kA * 6 + jf)) + bo)), (4, .int (nI kA)), (0, .ref h0), (1, .int (nI jf)), (2, .int (nI jt)), (3, .int bo)]) hx hb gX1_narrow_6.2.2.2.2.2.2.2.2.1 hl (by decide) rfl (fun ls hl => ?_)
                  refine lv_iload hx hb gX1_narrow_6.2.2.2.2.2.2.2.2.2 (lv_at0 hl) ?_
                  refine lv_aload_n hx hb gX1_narrow_7.1 rfl (lv_at4 hl) ?_
                  refine gf_X1_9 hC rfl hK hP 0 rfl rfl gX1_narrow_7.2.1 ?_
                  refine lv_iload hx hb gX1_narrow_7.2.2.1 (lv_at3 hl) ?_
                  refine lv_bipush (v := 6) hx hb gX1_narrow_7.2.2.2.1 (by decide) ?_
                  refine lv_imul hx hb gX1_narrow_7.2.2.2.2.1 ?_
                  refine eqi (x1 := nI (kA * 6)) (nI_mul kA 6) ?_
                  refine lv_iload hx hb gX1_narrow_7.2.2.2.2.2.1 (lv_at1 hl) ?_
                  refine lv_iadd hx hb gX1_narrow_7.2.2.2.2.2.2.1 ?_
                  refine eqi (x1 := nI (kA * 6 + kB)) (nI_add (kA * 6) kB) ?_
                  refine aldN hC hK hP 1 rfl (k := (kA * 6 + kB)) (by omega) (Nat.le_of_ble_eq_true rfl) (v := fb (kA * 6 + kB)) rfl gX1_narrow_7.2.2.2.2.2.2.2.1 ?_
                  refine lv_icmp_ge (tgt := 141) hx hb gX1_narrow_7.2.2.2.2.2.2.2.2.1 (by decide) (fun c_123_238 => ?_) (fun c_123_238 => ?_)
                  · refine lv_iinc (v := nI (kB + 1)) (lv' := [(6, .int (nI (kB + 1))), (7, .int (((fa (kA * 6 + jf)) + bo) + (fb (jt * 6 + kB)))), (5, .int ((fa (kA * 6 + jf)) + bo)), (4, .int (nI kA)), (0, .ref h0), (1, .int (nI jf)), (2, .int (nI jt)), (3, .int bo)]) hx hb gX1_narrow_8.2.2.2.2.2.2.2.2.1 hl (k := 1) rfl (nI_1 _) (by decide) rfl (fun ls hl => ?_)
                    refine lv_goto (tgt := 84) hx hb gX1_narrow_8.2.2.2.2.2.2.2.2.2 (by decide) ?_
                    have hwy := NRP.way hnA hnB (by omega) (by omega) hjf hjt hlm hb1 hb2 (hlt.mp c_33_236)
                    have hst9 : NRP (MAT fm) jf jt bo.toInt kA (kB + 1) (MAT fb) := NRP.skip hnB (by omega) (by omega) hwy c_123_238
                    exact ihB (kB + 1) fb _ _ _ (by omega) (by first | assumption | exact Or.inl rfl | exact Or.inr rfl) (And.intro hP hD) hS (lv_sub hl [0, 2, 3, 4, 5, 6, 7] rfl)
                  · refine lv_aload_n hx hb gX1_narrow_7.2.2.2.2.2.2.2.2.2 rfl (lv_at4 hl) ?_
                    refine gf_X1_9 hC rfl hK hP 0 rfl rfl gX1_narrow_8.1 ?_
                    refine lv_iload hx hb gX1_narrow_8.2.1 (lv_at3 hl) ?_
                    refine lv_bipush (v := 6) hx hb gX1_narrow_8.2.2.1 (by decide) ?_
                    refine lv_imul hx hb gX1_narrow_8.2.2.2.1 ?_
                    refine eqi (x1 := nI (kA * 6)) (nI_mul kA 6) ?_
                    refine lv_iload hx hb gX1_narrow_8.2.2.2.2.1 (lv_at1 hl) ?_
                    refine lv_iadd hx hb gX1_narrow_8.2.2.2.2.2.1 ?_
                    refine eqi (x1 := nI (kA * 6 + kB)) (nI_add (kA * 6) kB) ?_
                    refine lv_iload hx hb gX1_narrow_8.2.2.2.2.2.2.1 (lv_at0 hl) ?_
                    refine astN hC hK hP hD hS 1 (ws' := [(h0, oX1 cm), (cm, iA G 36 (upd fb (kA * 6 + kB) (((fa (kA * 6 + jf)) + bo) + (fb (jt * 6 + kB)))))]) rfl (k := (kA * 6 + kB)) (by omega) (Nat.le_of_ble_eq_true rfl) (rfl) gX1_narrow_8.2.2.2.2.2.2.2.1 (fun H locs hP hD hS => ?_)
                    refine lv_iinc (v := nI (kB + 1)) (lv' := [(6, .int (nI (kB + 1))), (7, .int (((fa (kA * 6 + jf)) + bo) + (fb (jt * 6 + kB)))), (5, .int ((fa (kA * 6 + jf)) + bo)), (4, .int (nI kA)), (0, .ref h0), (1, .int (nI jf)), (2, .int (nI jt)), (3, .int bo)]) hx hb gX1_narrow_8.2.2.2.2.2.2.2.2.1 hl (k := 1) rfl (nI_1 _) (by decide) rfl (fun ls hl => ?_)
                    refine lv_goto (tgt := 84) hx hb gX1_narrow_8.2.2.2.2.2.2.2.2.2 (by decide) ?_
                    have hwy := NRP.way hnA hnB (by omega) (by omega) hjf hjt hlm hb1 hb2 (hlt.mp c_33_236)
                    have hst9 : NRP (MAT fm) jf jt bo.toInt kA (kB + 1) (MAT (upd fb (kA * 6 + kB) (((fa (kA * 6 + jf)) + bo) + (fb (jt * 6 + kB))))) := NRP.put hnB (by omega) (by omega) hwy c_123_238
                    exact ihB (kB + 1) (upd fb (kA * 6 + kB) (((fa (kA * 6 + jf)) + bo) + (fb (jt * 6 + kB)))) _ _ _ (by omega) (by first | assumption | exact Or.inl rfl | exact Or.inr rfl) (And.intro hP hD) hS (lv_sub hl [0, 2, 3, 4, 5, 6, 7] rfl)
              exact keyB 6 0 fa _ _ _ (by omega) (by first | assumption | exact Or.inl rfl | exact Or.inr rfl) (And.intro hP hD) hS (lv_sub hl [0, 1, 2, 3, 4, 5, 6] rfl)
          exact keyA 6 0 fm _ _ _ (by omega) (by first | assumption | exact Or.inl rfl | exact Or.inr rfl | exact NRP.zero) (And.intro hP hD) hS (lv_sub hl [0, 1, 2, 3, 4] rfl)
        · refine lv_iconst (v := 1) hx hb gX1_narrow_3.2.2.2.2.2.1 (by decide) ?_
          refine toQ hQ0 ?_
          exact RI (v := 1) hC hP hD hS [0, 1] fm rfl rfl (by decide) (Or.inl ⟨rfl, hCB.1.same hjf hjt (by have h8 := Int32.not_lt.mp c_50_237; rw [Int32.le_iff_toInt_le] at h8; exact h8), hCB.2.ad⟩) (by decide +kernel) gX1_narrow_3.2.2.2.2.2.2.1
      · refine lv_iconst (v := 0) hx hb gX1_narrow_2.2.2.2.1 (by decide) ?_
        refine toQ hQ0 ?_
        exact RI (v := 0) hC hP hD hS [0, 1] fm rfl rfl (by decide) (Or.inr ⟨rfl, hCB.1.no hjf hjt (by have h8 : ¬ 0 ≤ MAT fm jt jf + bo.toInt := fun h9 => c_33_236 (hlt.mpr h9); omega)⟩) (by decide +kernel) gX1_narrow_2.2.2.2.2.1
    · exact absurd wj2 a235
  · exact absurd wj1 a233
def K_c_followX (l : Launch) (G : GG) (K9 : Nat → Nat → Int → Prop) (h0 : Nat) (tt : Nat) (ja : Nat) (jb : Nat) (gp : Int32) (cm : Nat) (fm : Nat → Int32) (tc : Nat) (kt : Nat) (ft : Nat → Int32) : Prop := MI l G yX1_follow cX1_follow 8 (some .boolean) 3 0 0 [.ref h0, .ref tt, .int (nI ja), .int (nI jb), .int gp] [(h0, oX1 cm), (cm, iA G 36 fm), (tt, oX8 24 3 tc (nI kt)), (tc, iA G 72 ft)] (fun (r : Int32) (u : (Nat → Int32)) => ((r = 1 ∧ CLB (KFO K9 ft gp.toInt ja jb) (MAT u)) ∨ (r = 0 ∧ NOS (KFO K9 ft gp.toInt ja jb)))) (fun u : (Nat → Int32) => [(h0, oX1 cm), (cm, iA G 36 u), (tt, oX8 24 3 tc (nI kt)), (tc, iA G 72 ft)])
set_option maxHeartbeats 4000000 in
set_option maxRecDepth 100000 in
theorem c_followX (l : Launch) (G : GG) (K9 : Nat → Nat → Int → Prop) (h0 : Nat) (tt : Nat) (ja : Nat) (jb : Nat) (gp : Int32) (cm : Nat) (fm : Nat → Int32) (tc : Nat) (kt : Nat) (ft : Nat → Int32) (hCB : CLB K9 (MAT fm)) (hSV : SVL ft kt) (hgp : GPR gp) (hja : ja < kt) (hjb : jb < kt) (hkt : kt ≤ 24) : K_c_followX l G K9 h0 tt ja jb gp cm fm tc kt ft := by
  refine MI.start (by decide +kernel) (Nat.le_of_ble_eq_true rfl) ?_
  intro p e s m below meth c A ls hC hK hP hD hS hA hl
  refine absQ (fun Q0 hQ0 => ?_)
  have hl : lv_has ls 8 [(0, .ref h0), (1, .ref tt), (2, .int (nI ja)), (3, .int (nI jb)), (4, .int gp)] := hl
  refine Kan8 hC (fun hx hb hr hml hB hown hlocks hnm => ?_)
  obtain ⟨-, ⟨ca, hca, eca⟩, ha0, ha9⟩ := hSV ja hja
  obtain ⟨-, ⟨cb, hcb, ecb⟩, hb0, hb9⟩ := hSV jb hjb
  have hsb := ti_sb (x := ft (jb * 3 + 2)) (y := ft (ja * 3 + 2)) (by omega) (by omega) (by omega) (by omega)
  have hsg := ti_sb (x := gp) (y := ft (jb * 3 + 2) - ft (ja * 3 + 2)) (by have := hgp.1; omega) (by have := hgp.2; omega) (by omega) (by omega)
  have hg1 := hgp.1
  have hg2 := hgp.2
  refine lv_aload_n hx hb gX1_follow_0.1 rfl (lv_at1 hl) ?_
  refine lv_iload_n hx hb gX1_follow_0.2.1 rfl (lv_at2 hl) ?_
  refine lv_iconst (v := 1) hx hb gX1_follow_0.2.2.1 (by decide) ?_
  refine pV hC hK hl hP hD (c_T_at l G tt (nI ja) 1 24 3 tc kt ft (hkt) (by omega) (by omega)) si_X1_21 [2, 3] sm_2_3 fm_2_3 nd_2_3 rfl rfl rfl rfl rfl (Nat.le_of_ble_eq_true rfl) rm_3_1_3 ⟨by first | exact Nat.le_of_ble_eq_true rfl | exact Nat.zero_le _, by first | exact Nat.le_of_ble_eq_true rfl | exact Nat.zero_le _⟩ gX1_follow_0.2.2.2.1 (fun r239 hr239 => ?_)
  refine eqi (x1 := nI ca) ((hr239.trans (tatq (by omega) (by omega) (by decide) (by decide) rfl)).trans eca) ?_
  refine lv_istore (lv' := [(5, .int (nI ca)), (0, .ref h0), (1, .ref tt), (2, .int (nI ja)), (3, .int (nI jb)), (4, .int gp)]) hx hb gX1_follow_0.2.2.2.2.1 hl (by decide) rfl (fun ls hl => ?_)
  refine lv_aload_n hx hb gX1_follow_0.2.2.2.2.2.1 rfl (lv_at2 hl) ?_
  refine lv_iload_n hx hb gX1_follow_0.2.2.2.2.2.2.1 rfl (lv_at4 hl) ?_
  refine lv_iconst (v := 1) hx hb gX1_follow_0.2.2.2.2.2.2.2.1 (by decide) ?_
  refine pV hC hK hl hP hD (c_T_at l G tt (nI jb) 1 24 3 tc kt ft (hkt) (by omega) (by omega)) si_X1_21 [2, 3] sm_2_3 fm_2_3 nd_2_3 rfl rfl rfl rfl rfl (Nat.le_of_ble_eq_true rfl) rm_3_1_3 ⟨by first | exact Nat.le_of_ble_eq_true rfl | exact Nat.zero_le _, by first | exact Nat.le_of_ble_eq_true rfl | exact Nat.zero_le _⟩ gX1_follow_0.2.2.2.2.2.2.2.2.1 (fun r241 hr241 => ?_)
  refine eqi (x1 := nI cb) ((hr241.trans (tatq (by omega) (by omega) (by decide) (by decide) rfl)).trans ecb) ?_
  refine lv_istore (lv' := [(6, .int (nI cb)), (5, .int (nI ca)), (0, .ref h0), (1, .ref tt), (2, .int (nI ja)), (3, .int (nI jb)), (4, .int gp)]) hx hb gX1_follow_0.2.2.2.2.2.2.2.2.2 hl (by decide) rfl (fun ls hl => ?_)
  refine lv_aload_n hx hb gX1_follow_1.1 rfl (lv_at3 hl) ?_
  refine lv_iload_n hx hb gX1_follow_1.2.1 rfl (lv_at5 hl) ?_
  refine lv_iconst (v := 2) hx hb gX1_follow_1.2.2.1 (by decide) ?_
  refine pV hC hK hl hP hD (c_T_at l G tt (nI jb) 2 24 3 tc kt ft (hkt) (by omega) (by omega)) si_X1_21 [2, 3] sm_2_3 fm_2_3 nd_2_3 rfl rfl rfl rfl rfl (Nat.le_of_ble_eq_true rfl) rm_3_1_3 ⟨by first | exact Nat.le_of_ble_eq_true rfl | exact Nat.zero_le _, by first | exact Nat.le_of_ble_eq_true rfl | exact Nat.zero_le _⟩ gX1_follow_1.2.2.2.1 (fun r243 hr243 => ?_)
  refine eqi (x1 := ft (jb * 3 + 2)) (hr243.trans (tatq (by omega) (by omega) (by decide) (by decide) rfl)) ?_
  refine lv_aload_n hx hb gX1_follow_1.2.2.2.2.1 rfl (lv_at3 hl) ?_
  refine lv_iload_n hx hb gX1_follow_1.2.2.2.2.2.1 rfl (lv_at4 hl) ?_
  refine lv_iconst (v := 2) hx hb gX1_follow_1.2.2.2.2.2.2.1 (by decide) ?_
  refine pV hC hK hl hP hD (c_T_at l G tt (nI ja) 2 24 3 tc kt ft (hkt) (by omega) (by omega)) si_X1_21 [2, 3] sm_2_3 fm_2_3 nd_2_3 rfl rfl rfl rfl rfl (Nat.le_of_ble_eq_true rfl) rm_3_1_3 ⟨by first | exact Nat.le_of_ble_eq_true rfl | exact Nat.zero_le _, by first | exact Nat.le_of_ble_eq_true rfl | exact Nat.zero_le _⟩ gX1_follow_1.2.2.2.2.2.2.2.1 (fun r245 hr245 => ?_)
  refine eqi (x1 := ft (ja * 3 + 2)) (hr245.trans (tatq (by omega) (by omega) (by decide) (by decide) rfl)) ?_
  refine lv_isub hx hb gX1_follow_1.2.2.2.2.2.2.2.2.1 ?_
  refine lv_istore (lv' := [(7, .int ((ft (jb * 3 + 2)) - (ft (ja * 3 + 2)))), (6, .int (nI cb)), (5, .int (nI ca)), (0, .ref h0), (1, .ref tt), (2, .int (nI ja)), (3, .int (nI jb)), (4, .int gp)]) hx hb gX1_follow_1.2.2.2.2.2.2.2.2.2 hl (by decide) rfl (fun ls hl => ?_)
  refine lv_aload_n hx hb gX1_follow_2.1 rfl (lv_at3 hl) ?_
  refine lv_iload hx hb gX1_follow_2.2.1 (lv_at2 hl) ?_
  refine lv_iload hx hb gX1_follow_2.2.2.1 (lv_at1 hl) ?_
  refine lv_iload hx hb gX1_follow_2.2.2.2.1 (lv_at0 hl) ?_
  refine iV (wr := [(tt, oX8 24 3 tc (nI kt)), (tc, iA G 72 ft)]) hC hK hl hP hD hS hA (c_narrowX l G K9 h0 ca cb ((ft (jb * 3 + 2)) - (ft (ja * 3 + 2))) cm fm (hCB) (by omega) (by omega) (by omega) (by omega)) si_X1_27 [0, 1] [2, 3] sm_0_1 fm_0_1 nd_0_1 sm_2_3 nd_2_3 dj_0_1__2_3 rfl rfl rfl rfl rfl (Nat.le_of_ble_eq_true rfl) rm_3_2_8 ⟨Nat.le_of_ble_eq_true rfl, Nat.le_of_ble_eq_true rfl⟩ gX1_follow_2.2.2.2.2.1 (fun r247 f1249 H locs hr247 hP hD hS => ?_)
  try dsimp only at hr247
  refine Kpdr (ws := [(tt, oX8 24 3 tc (nI kt)), (tc, iA G 72 ft), (h0, oX1 cm), (cm, iA G 36 f1249)]) hP hD (fun hP hD => ?_)
  rcases hr247 with ⟨rfl, a250⟩ | ⟨rfl, a250⟩
  · refine lv_if_eq (tgt := 64) hx hb gX1_follow_2.2.2.2.2.2.1 (by decide) (fun c9 => absurd c9 (by decide)) (fun _ => ?_)
    refine lv_aload_n hx hb gX1_follow_2.2.2.2.2.2.2.1 rfl (lv_at3 hl) ?_
    refine lv_iload hx hb gX1_follow_2.2.2.2.2.2.2.2.1 (lv_at1 hl) ?_
    refine lv_iload hx hb gX1_follow_2.2.2.2.2.2.2.2.2.1 (lv_at2 hl) ?_
    refine lv_iload hx hb gX1_follow_2.2.2.2.2.2.2.2.2.2 (lv_at7 hl) ?_
    refine lv_iload hx hb gX1_follow_3.1 (lv_at0 hl) ?_
    refine lv_isub hx hb gX1_follow_3.2.1 ?_
    refine iV (wr := [(tt, oX8 24 3 tc (nI kt)), (tc, iA G 72 ft)]) hC hK hl hP hD hS hA (c_narrowX l G (KAD K9 ca cb ((ft (jb * 3 + 2)) - (ft (ja * 3 + 2))).toInt) h0 cb ca (gp - ((ft (jb * 3 + 2)) - (ft (ja * 3 + 2)))) cm f1249 (a250) (by omega) (by omega) (by omega) (by omega)) si_X1_27 [2, 3] [0, 1] sm_2_3 fm_2_3 nd_2_3 sm_0_1 nd_0_1 dj_2_3__0_1 rfl rfl rfl rfl rfl (Nat.le_of_ble_eq_true rfl) rm_3_2_8 ⟨Nat.le_of_ble_eq_true rfl, Nat.le_of_ble_eq_true rfl⟩ gX1_follow_3.2.2.1 (fun r251 f1253 H locs hr251 hP hD hS => ?_)
    try dsimp only at hr251
    refine Kpdr (ws := [(tt, oX8 24 3 tc (nI kt)), (tc, iA G 72 ft), (h0, oX1 cm), (cm, iA G 36 f1253)]) hP hD (fun hP hD => ?_)
    rcases hr251 with ⟨rfl, a254⟩ | ⟨rfl, a254⟩
    · refine lv_if_eq (tgt := 64) hx hb gX1_follow_3.2.2.2.1 (by decide) (fun c9 => absurd c9 (by decide)) (fun _ => ?_)
      refine lv_iconst (v := 1) hx hb gX1_follow_3.2.2.2.2.1 (by decide) ?_
      refine lv_goto (tgt := 65) hx hb gX1_follow_3.2.2.2.2.2.1 (by decide) ?_
      refine toQ hQ0 ?_
      exact RI (v := 1) hC hP hD hS [2, 3, 0, 1] f1253 rfl rfl (by decide) (Or.inl ⟨rfl, by rw [(KFO.mk eca ecb hca hcb ha0 ha9 hb0 hb9 hgp)]; exact a254⟩) (by decide +kernel) gX1_follow_3.2.2.2.2.2.2.2
    · refine lv_if_eq (tgt := 64) hx hb gX1_follow_3.2.2.2.1 (by decide) (fun _ => ?_) (fun c9 => absurd (by decide) c9)
      refine lv_iconst (v := 0) hx hb gX1_follow_3.2.2.2.2.2.2.1 (by decide) ?_
      refine toQ hQ0 ?_
      exact RI (v := 0) hC hP hD hS [2, 3, 0, 1] f1253 rfl rfl (by decide) (Or.inr ⟨rfl, by rw [(KFO.mk eca ecb hca hcb ha0 ha9 hb0 hb9 hgp)]; exact a254⟩) (by decide +kernel) gX1_follow_3.2.2.2.2.2.2.2
  · refine lv_if_eq (tgt := 64) hx hb gX1_follow_2.2.2.2.2.2.1 (by decide) (fun _ => ?_) (fun c9 => absurd (by decide) c9)
    refine lv_iconst (v := 0) hx hb gX1_follow_3.2.2.2.2.2.2.1 (by decide) ?_
    refine toQ hQ0 ?_
    exact RI (v := 0) hC hP hD hS [2, 3, 0, 1] f1249 rfl rfl (by decide) (Or.inr ⟨rfl, by rw [(KFO.mk eca ecb hca hcb ha0 ha9 hb0 hb9 hgp)]; exact a250.ad⟩) (by decide +kernel) gX1_follow_3.2.2.2.2.2.2.2
def K_c_mostAheadX (l : Launch) (G : GG) (h0 : Nat) (jf : Nat) (jt : Nat) (cm : Nat) (fm : Nat → Int32) : Prop := MP l G yX1_mostAhead cX1_mostAhead 3 (some .int) 1 [.ref h0, .int (nI jf), .int (nI jt)] [(h0, oX1 cm), (cm, iA G 36 fm)] (fun r : Int32 => r = (fm (jf * 6 + jt)))
set_option maxHeartbeats 4000000 in
set_option maxRecDepth 100000 in
theorem c_mostAheadX (l : Launch) (G : GG) (h0 : Nat) (jf : Nat) (jt : Nat) (cm : Nat) (fm : Nat → Int32) (hjf : jf < 6) (hjt : jt < 6) : K_c_mostAheadX l G h0 jf jt cm fm := by
  refine MP.start (by decide +kernel) (Nat.le_of_ble_eq_true rfl) ?_
  intro p e s m below meth c ls hC hK hP hD hl
  refine absQ (fun Q0 hQ0 => ?_)
  have hl : lv_has ls 3 [(0, .ref h0), (1, .int (nI jf)), (2, .int (nI jt))] := hl
  refine Kan8 hC (fun hx hb hr hml hB hown hlocks hnm => ?_)
  refine lv_iload_n hx hb gX1_mostAhead_0.1 rfl (lv_at1 hl) ?_
  refine lv_if_lt (tgt := 20) hx hb gX1_mostAhead_0.2.1 (by decide) (fun c9 => absurd c9 (nI_pos (by omega))) (fun _ => ?_)
  refine lv_iload_n hx hb gX1_mostAhead_0.2.2.1 rfl (lv_at1 hl) ?_
  refine lv_bipush (v := 6) hx hb gX1_mostAhead_0.2.2.2.1 (by decide) ?_
  refine lv_icmp_ge (tgt := 20) hx hb gX1_mostAhead_0.2.2.2.2.1 (by decide) (fun c9 => absurd c9 (nI_ge (a := jf) (b := 6) (by omega) (by omega))) (fun _ => ?_)
  refine lv_iload_n hx hb gX1_mostAhead_0.2.2.2.2.2.1 rfl (lv_at2 hl) ?_
  refine lv_if_lt (tgt := 20) hx hb gX1_mostAhead_0.2.2.2.2.2.2.1 (by decide) (fun c9 => absurd c9 (nI_pos (by omega))) (fun _ => ?_)
  refine lv_iload_n hx hb gX1_mostAhead_0.2.2.2.2.2.2.2.1 rfl (lv_at2 hl) ?_
  refine lv_bipush (v := 6) hx hb gX1_mostAhead_0.2.2.2.2.2.2.2.2.1 (by decide) ?_
  refine lv_icmp_lt (tgt := 22) hx hb gX1_mostAhead_0.2.2.2.2.2.2.2.2.2 (by decide) (fun _ => ?_) (fun c9 => absurd (nI_lt (by omega) (by decide)) c9)
  refine lv_aload_n hx hb gX1_mostAhead_1.2.2.1 rfl (lv_at0 hl) ?_
  refine gf_X1_9 hC rfl hK hP 0 rfl rfl gX1_mostAhead_1.2.2.2.1 ?_
  refine lv_iload_n hx hb gX1_mostAhead_1.2.2.2.2.1 rfl (lv_at1 hl) ?_
  refine lv_bipush (v := 6) hx hb gX1_mostAhead_1.2.2.2.2.2.1 (by decide) ?_
  refine lv_imul hx hb gX1_mostAhead_1.2.2.2.2.2.2.1 ?_
  refine eqi (x1 := nI (jf * 6)) (nI_mul jf 6) ?_
  refine lv_iload_n hx hb gX1_mostAhead_1.2.2.2.2.2.2.2.1 rfl (lv_at2 hl) ?_
  refine lv_iadd hx hb gX1_mostAhead_1.2.2.2.2.2.2.2.2.1 ?_
  refine eqi (x1 := nI (jf * 6 + jt)) (nI_add (jf * 6) jt) ?_
  refine aldN hC hK hP 1 rfl (k := (jf * 6 + jt)) (by omega) (Nat.le_of_ble_eq_true rfl) (v := fm (jf * 6 + jt)) rfl gX1_mostAhead_1.2.2.2.2.2.2.2.2.2 ?_
  refine toQ hQ0 ?_
  exact RP (v := fm (jf * 6 + jt)) hC (rfl) rfl gX1_mostAhead_2
