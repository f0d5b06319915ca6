section WR
variable {p : Program} {l : Launch} {e : Env} {R : Room} {s : State} {m : MethodId} {args : Array Value} {below : List Frame} {meth : Method} {c : Code} {H : Heap} {locs : List Loc} {cells slots : Nat} {Q : State → Prop}
variable {pc : Nat} {ls : Array Slot} {rest : List Value} {G : GG} {ws : va_W} {A : Nat → Prop} {y0 : MethodName} {b0 : ByteArray} {mL0 : Nat} {rt0 : Option FieldType} {a : Nat} {H0 : Heap}
end WR
theorem bz {B : Int32} {k : Nat} (hk : k < 2 ^ 31) (h : B.toInt ≤ (k : Int)) : B ≤ nI k := by
  rw [Int32.le_iff_toInt_le, nI_toInt hk]
  exact h
theorem bs {B : Int32} {k : Nat} (hk : k < 2 ^ 31) (c : ¬ B ≤ nI k) : k + 1 < 2 ^ 31 := by
  rw [Int32.le_iff_toInt_le, nI_toInt hk] at c
  have h := Int32.toInt_lt B
  omega
theorem Wi7 {v : Int32} (h : Wi v 0 7) : ∃ j, j < 8 ∧ v = nI j := by
  obtain ⟨j, hj, e⟩ := Wi_nat (N := 7) (by decide) h
  exact ⟨j, by omega, e⟩
theorem ltN {N : Nat} {v : Int32} (hN : N < 2 ^ 31) (h0 : ¬ v < 0) (h : ¬ nI N ≤ v) : ∃ j, j < N ∧ v = nI j := by
  obtain ⟨j, hj, rfl⟩ := nI_of h0
  rw [nI_leI hN hj] at h
  exact ⟨j, by omega, rfl⟩
section WR
variable {p : Program} {l : Launch} {e : Env} {R : Room} {s : State} {m : MethodId} {args : Array Value} {below : List Frame} {meth : Method} {c : Code} {H : Heap} {locs : List Loc} {cells slots : Nat} {Q : State → Prop}
variable {pc : Nat} {ls : Array Slot} {rest : List Value} {G : GG} {ws : va_W} {A : Nat → Prop} {y0 : MethodName} {b0 : ByteArray} {mL0 : Nat} {rt0 : Option FieldType} {a : Nat} {H0 : Heap}
theorem gX6_isSo_0 : (decode cX6_isSo 0 = .ok (.iload_n 1, 1)) ∧ (decode cX6_isSo 1 = .ok (.sipush 1000, 3)) ∧ (decode cX6_isSo 4 = .ok (.idiv, 1)) ∧ (decode cX6_isSo 5 = .ok (.iconst 3, 1)) ∧ (decode cX6_isSo 6 = .ok (.idiv, 1)) ∧ (decode cX6_isSo 7 = .ok (.istore_n 2, 1)) ∧ (decode cX6_isSo 8 = .ok (.iload_n 1, 1)) ∧ (decode cX6_isSo 9 = .ok (.sipush 1000, 3)) ∧ (decode cX6_isSo 12 = .ok (.idiv, 1)) ∧ (decode cX6_isSo 13 = .ok (.iconst 3, 1)) := by decide +kernel
theorem gX6_isSo_1 : (decode cX6_isSo 14 = .ok (.irem, 1)) ∧ (decode cX6_isSo 15 = .ok (.istore_n 3, 1)) ∧ (decode cX6_isSo 16 = .ok (.iload_n 1, 1)) ∧ (decode cX6_isSo 17 = .ok (.sipush 1000, 3)) ∧ (decode cX6_isSo 20 = .ok (.irem, 1)) ∧ (decode cX6_isSo 21 = .ok (.istore 4, 2)) ∧ (decode cX6_isSo 23 = .ok (.iload_n 2, 1)) ∧ (decode cX6_isSo 24 = .ok (.ifCond .lt 12, 3)) ∧ (decode cX6_isSo 27 = .ok (.iload_n 2, 1)) ∧ (decode cX6_isSo 28 = .ok (.aload_n 0, 1)) := by decide +kernel
theorem gX6_isSo_2 : (decode cX6_isSo 29 = .ok (.getfield 9, 3)) ∧ (decode cX6_isSo 32 = .ok (.arraylength, 1)) ∧ (decode cX6_isSo 33 = .ok (.if_icmp .lt 5, 3)) ∧ (decode cX6_isSo 36 = .ok (.iconst 0, 1)) ∧ (decode cX6_isSo 37 = .ok (.ireturn, 1)) ∧ (decode cX6_isSo 38 = .ok (.iload_n 3, 1)) ∧ (decode cX6_isSo 39 = .ok (.ifCond .ne 20, 3)) ∧ (decode cX6_isSo 42 = .ok (.aload_n 0, 1)) ∧ (decode cX6_isSo 43 = .ok (.getfield 9, 3)) ∧ (decode cX6_isSo 46 = .ok (.iload_n 2, 1)) := by decide +kernel
theorem in_X6 : ∀ w ∈ wsX60, w ∈ BW := iB_wsX60
theorem m_204 : Cond.fieldLink RX6 9 "InquiryBench$Rules" "facts" "[I" ∈ BW := iB_BW11 _ (List.mem_of_getElem? (i := 2) rfl)
theorem gf_X6_9 (hC : CX p s m meth c y0 b0 mL0 rt0 args) (hy0 : y0.cls = RX6) (hK : KK G s) (hP : va_P G.1 vwCl ws H) (q0 : Nat) {fs : List Value} {v : Value} (he : ws[q0]? = some (a, .inr (6, fs))) (hv : fs[2]? = some v) (hdg : decode b0 pc = .ok (.getfield 9, 3)) (kk : W p l e R s m args below meth c H locs cells slots Q (F0 m (pc + 3) ls (v :: rest))) : W p l e R s m args below meth c H locs cells slots Q (F0 m pc ls (.ref a :: rest)) := by
  obtain ⟨hx, hb, hr, hml, hB, hown, hlocks, hnm⟩ := hC
  rw [hy0] at hown
  exact va_get (ci := 6) (C := RX6) (T := TX6) (N := 7) hx hb hB in_X6 hown hK.1 hP q0 he rfl 2 (by decide) (hB _ m_204) (fun _ h => h) hv hdg kk
theorem gX6_isSo_3 : (decode cX6_isSo 47 = .ok (.iaload, 1)) ∧ (decode cX6_isSo 48 = .ok (.iload 4, 2)) ∧ (decode cX6_isSo 50 = .ok (.if_icmp .ge 7, 3)) ∧ (decode cX6_isSo 53 = .ok (.iconst 1, 1)) ∧ (decode cX6_isSo 54 = .ok (.goto 4, 3)) ∧ (decode cX6_isSo 57 = .ok (.iconst 0, 1)) ∧ (decode cX6_isSo 58 = .ok (.ireturn, 1)) ∧ (decode cX6_isSo 59 = .ok (.iload_n 3, 1)) ∧ (decode cX6_isSo 60 = .ok (.iconst 1, 1)) ∧ (decode cX6_isSo 61 = .ok (.if_icmp .ne 22, 3)) := by decide +kernel
theorem gX6_isSo_5 : (decode cX6_isSo 83 = .ok (.aload_n 0, 1)) ∧ (decode cX6_isSo 84 = .ok (.getfield 9, 3)) ∧ (decode cX6_isSo 87 = .ok (.iload_n 2, 1)) ∧ (decode cX6_isSo 88 = .ok (.iaload, 1)) ∧ (decode cX6_isSo 89 = .ok (.iload 4, 2)) ∧ (decode cX6_isSo 91 = .ok (.if_icmp .le 7, 3)) ∧ (decode cX6_isSo 94 = .ok (.iconst 1, 1)) ∧ (decode cX6_isSo 95 = .ok (.goto 4, 3)) ∧ (decode cX6_isSo 98 = .ok (.iconst 0, 1)) ∧ (decode cX6_isSo 99 = .ok (.ireturn, 1)) := by decide +kernel
theorem gX6_isSo_4 : (decode cX6_isSo 64 = .ok (.aload_n 0, 1)) ∧ (decode cX6_isSo 65 = .ok (.getfield 9, 3)) ∧ (decode cX6_isSo 68 = .ok (.iload_n 2, 1)) ∧ (decode cX6_isSo 69 = .ok (.iaload, 1)) ∧ (decode cX6_isSo 70 = .ok (.iload 4, 2)) ∧ (decode cX6_isSo 72 = .ok (.if_icmp .ne 7, 3)) ∧ (decode cX6_isSo 75 = .ok (.iconst 1, 1)) ∧ (decode cX6_isSo 76 = .ok (.goto 23, 3)) ∧ (decode cX6_isSo 79 = .ok (.iconst 0, 1)) ∧ (decode cX6_isSo 80 = .ok (.goto 19, 3)) := by decide +kernel
theorem gX6_holds_0 : (decode cX6_holds 0 = .ok (.aload_n 0, 1)) ∧ (decode cX6_holds 1 = .ok (.getfield 18, 3)) ∧ (decode cX6_holds 4 = .ok (.getfield 65, 3)) ∧ (decode cX6_holds 7 = .ok (.iload_n 1, 1)) ∧ (decode cX6_holds 8 = .ok (.iconst 5, 1)) ∧ (decode cX6_holds 9 = .ok (.invokevirtual 46, 3)) ∧ (decode cX6_holds 12 = .ok (.istore_n 2, 1)) ∧ (decode cX6_holds 13 = .ok (.aload_n 0, 1)) ∧ (decode cX6_holds 14 = .ok (.getfield 18, 3)) ∧ (decode cX6_holds 17 = .ok (.getfield 65, 3)) := by decide +kernel
theorem m_202 : Cond.fieldLink RX6 18 "InquiryBench$Rules" "book" "LInquiryBench$Book;" ∈ BW := iB_BW11 _ (List.mem_of_getElem? (i := 0) rfl)
theorem gf_X6_18 (hC : CX p s m meth c y0 b0 mL0 rt0 args) (hy0 : y0.cls = RX6) (hK : KK G s) (hP : va_P G.1 vwCl ws H) (q0 : Nat) {fs : List Value} {v : Value} (he : ws[q0]? = some (a, .inr (6, fs))) (hv : fs[0]? = some v) (hdg : decode b0 pc = .ok (.getfield 18, 3)) (kk : W p l e R s m args below meth c H locs cells slots Q (F0 m (pc + 3) ls (v :: rest))) : W p l e R s m args below meth c H locs cells slots Q (F0 m pc ls (.ref a :: rest)) := by
  obtain ⟨hx, hb, hr, hml, hB, hown, hlocks, hnm⟩ := hC
  rw [hy0] at hown
  exact va_get (ci := 6) (C := RX6) (T := TX6) (N := 7) hx hb hB in_X6 hown hK.1 hP q0 he rfl 0 (by decide) (hB _ m_202) (fun _ h => h) hv hdg kk
theorem nm_15 : Cond.fieldLinkNest RX6 65 RX0 "lines" "LInquiryBench$Table;" RX11 ∈ NestW := List.mem_of_getElem? (i := 15) rfl
theorem gf_X6_65 (hC : CX p s m meth c y0 b0 mL0 rt0 args) (hy0 : y0.cls = RX6) (hK : KK G s) (hP : va_P G.1 vwCl ws H) (q0 : Nat) {fs : List Value} {v : Value} (he : ws[q0]? = some (a, .inr (0, fs))) (hv : fs[4]? = some v) (hdg : decode b0 pc = .ok (.getfield 65, 3)) (kk : W p l e R s m args below meth c H locs cells slots Q (F0 m (pc + 3) ls (v :: rest))) : W p l e R s m args below meth c H locs cells slots Q (F0 m pc ls (.ref a :: rest)) := by
  obtain ⟨hx, hb, hr, hml, hB, hown, hlocks, hnm⟩ := hC
  rw [hy0] at hown
  exact va_getN (ci := 0) (C := RX0) (T := TX0) (N := 14) hx hb hB in_X0 hown hK.1 hP q0 he rfl 4 (by decide) (va_Nw.use rfl (hK.2.1 _ nm_15)) (fun _ h => h) hv hdg kk
theorem m_574 : Cond.methodLink RX6 46 yX8_at ∈ BW := iB_BW30 _ (List.mem_of_getElem? (i := 18) rfl)
theorem si_X6_46 : SV RX6 RX8 46 yX8_at cX8_at 3 (some .int) 2 := ⟨⟨m_574, m_312, m_313, m_104, m_314⟩, rfl, nK_RX8.1, nK_RX8.2, pd_2⟩
theorem gX6_holds_1 : (decode cX6_holds 20 = .ok (.iload_n 1, 1)) ∧ (decode cX6_holds 21 = .ok (.bipush 6, 2)) ∧ (decode cX6_holds 23 = .ok (.invokevirtual 46, 3)) ∧ (decode cX6_holds 26 = .ok (.istore_n 3, 1)) ∧ (decode cX6_holds 27 = .ok (.iconst 1, 1)) ∧ (decode cX6_holds 28 = .ok (.istore 4, 2)) ∧ (decode cX6_holds 30 = .ok (.iconst 0, 1)) ∧ (decode cX6_holds 31 = .ok (.istore 5, 2)) ∧ (decode cX6_holds 33 = .ok (.iload 5, 2)) ∧ (decode cX6_holds 35 = .ok (.iload_n 3, 1)) := by decide +kernel
theorem gX6_holds_2 : (decode cX6_holds 36 = .ok (.if_icmp .ge 107, 3)) ∧ (decode cX6_holds 39 = .ok (.aload_n 0, 1)) ∧ (decode cX6_holds 40 = .ok (.getfield 18, 3)) ∧ (decode cX6_holds 43 = .ok (.getfield 68, 3)) ∧ (decode cX6_holds 46 = .ok (.iload_n 2, 1)) ∧ (decode cX6_holds 47 = .ok (.iload 5, 2)) ∧ (decode cX6_holds 49 = .ok (.iadd, 1)) ∧ (decode cX6_holds 50 = .ok (.iconst 0, 1)) ∧ (decode cX6_holds 51 = .ok (.invokevirtual 46, 3)) ∧ (decode cX6_holds 54 = .ok (.istore 6, 2)) := by decide +kernel
theorem gX6_holds_7 : (decode cX6_holds 130 = .ok (.iload 4, 2)) ∧ (decode cX6_holds 132 = .ok (.iload 7, 2)) ∧ (decode cX6_holds 134 = .ok (.ior, 1)) ∧ (decode cX6_holds 135 = .ok (.istore 4, 2)) ∧ (decode cX6_holds 137 = .ok (.iinc 5 1, 3)) ∧ (decode cX6_holds 140 = .ok (.goto (-107), 3)) ∧ (decode cX6_holds 143 = .ok (.iload 4, 2)) ∧ (decode cX6_holds 145 = .ok (.iconst 1, 1)) ∧ (decode cX6_holds 146 = .ok (.iand, 1)) ∧ (decode cX6_holds 147 = .ok (.iconst 1, 1)) := by decide +kernel
theorem gX6_holds_8 : (decode cX6_holds 148 = .ok (.if_icmp .ne 7, 3)) ∧ (decode cX6_holds 151 = .ok (.iconst 1, 1)) ∧ (decode cX6_holds 152 = .ok (.goto 4, 3)) ∧ (decode cX6_holds 155 = .ok (.iconst 0, 1)) ∧ (decode cX6_holds 156 = .ok (.ireturn, 1)) := by decide +kernel
theorem nm_18 : Cond.fieldLinkNest RX6 68 RX0 "steps" "LInquiryBench$Table;" RX11 ∈ NestW := List.mem_of_getElem? (i := 18) rfl
theorem gf_X6_68 (hC : CX p s m meth c y0 b0 mL0 rt0 args) (hy0 : y0.cls = RX6) (hK : KK G s) (hP : va_P G.1 vwCl ws H) (q0 : Nat) {fs : List Value} {v : Value} (he : ws[q0]? = some (a, .inr (0, fs))) (hv : fs[5]? = some v) (hdg : decode b0 pc = .ok (.getfield 68, 3)) (kk : W p l e R s m args below meth c H locs cells slots Q (F0 m (pc + 3) ls (v :: rest))) : W p l e R s m args below meth c H locs cells slots Q (F0 m pc ls (.ref a :: rest)) := by
  obtain ⟨hx, hb, hr, hml, hB, hown, hlocks, hnm⟩ := hC
  rw [hy0] at hown
  exact va_getN (ci := 0) (C := RX0) (T := TX0) (N := 14) hx hb hB in_X0 hown hK.1 hP q0 he rfl 5 (by decide) (va_Nw.use rfl (hK.2.1 _ nm_18)) (fun _ h => h) hv hdg kk
theorem gX6_holds_3 : (decode cX6_holds 56 = .ok (.iload 6, 2)) ∧ (decode cX6_holds 58 = .ok (.ifCond .lt 27, 3)) ∧ (decode cX6_holds 61 = .ok (.iload 4, 2)) ∧ (decode cX6_holds 63 = .ok (.iconst 1, 1)) ∧ (decode cX6_holds 64 = .ok (.ishl, 1)) ∧ (decode cX6_holds 65 = .ok (.aload_n 0, 1)) ∧ (decode cX6_holds 66 = .ok (.iload 6, 2)) ∧ (decode cX6_holds 68 = .ok (.invokevirtual 71, 3)) ∧ (decode cX6_holds 71 = .ok (.ifCond .eq 7, 3)) ∧ (decode cX6_holds 74 = .ok (.iconst 1, 1)) := by decide +kernel
theorem gX6_holds_4 : (decode cX6_holds 75 = .ok (.goto 4, 3)) ∧ (decode cX6_holds 78 = .ok (.iconst 0, 1)) ∧ (decode cX6_holds 79 = .ok (.ior, 1)) ∧ (decode cX6_holds 80 = .ok (.istore 4, 2)) ∧ (decode cX6_holds 82 = .ok (.goto 55, 3)) ∧ (decode cX6_holds 85 = .ok (.iload 6, 2)) ∧ (decode cX6_holds 87 = .ok (.iconst (-1), 1)) ∧ (decode cX6_holds 88 = .ok (.if_icmp .ne 12, 3)) ∧ (decode cX6_holds 91 = .ok (.iload 4, 2)) ∧ (decode cX6_holds 93 = .ok (.iconst 1, 1)) := by decide +kernel
theorem gX6_holds_5 : (decode cX6_holds 94 = .ok (.ixor, 1)) ∧ (decode cX6_holds 95 = .ok (.istore 4, 2)) ∧ (decode cX6_holds 97 = .ok (.goto 40, 3)) ∧ (decode cX6_holds 100 = .ok (.iload 4, 2)) ∧ (decode cX6_holds 102 = .ok (.iconst 1, 1)) ∧ (decode cX6_holds 103 = .ok (.iand, 1)) ∧ (decode cX6_holds 104 = .ok (.istore 7, 2)) ∧ (decode cX6_holds 106 = .ok (.iload 4, 2)) ∧ (decode cX6_holds 108 = .ok (.iconst 1, 1)) ∧ (decode cX6_holds 109 = .ok (.ishr, 1)) := by decide +kernel
theorem gX6_holds_6 : (decode cX6_holds 110 = .ok (.istore 4, 2)) ∧ (decode cX6_holds 112 = .ok (.iload 6, 2)) ∧ (decode cX6_holds 114 = .ok (.bipush (-2), 2)) ∧ (decode cX6_holds 116 = .ok (.if_icmp .ne 14, 3)) ∧ (decode cX6_holds 119 = .ok (.iload 4, 2)) ∧ (decode cX6_holds 121 = .ok (.bipush (-2), 2)) ∧ (decode cX6_holds 123 = .ok (.iload 7, 2)) ∧ (decode cX6_holds 125 = .ok (.ior, 1)) ∧ (decode cX6_holds 126 = .ok (.iand, 1)) ∧ (decode cX6_holds 127 = .ok (.goto 8, 3)) := by decide +kernel
theorem m_582 : Cond.code yX6_isSo cX6_isSo 5 (some .boolean) ∈ BW := iB_BW32 _ (List.mem_of_getElem? (i := 2) rfl)
theorem m_109 : Cond.initialized RX6 ∈ BW := iB_BW6 _ (List.mem_of_getElem? (i := 7) rfl)
theorem nK_RX6 : RX6 ≠ "java/lang/invoke/MethodHandle" ∧ RX6 ≠ "java/lang/invoke/VarHandle" := ⟨by decide +kernel, by decide +kernel⟩
theorem m_580 : Cond.methodLink RX6 71 yX6_isSo ∈ BW := iB_BW32 _ (List.mem_of_getElem? (i := 0) rfl)
theorem m_581 : Cond.instanceMethod yX6_isSo ∈ BW := iB_BW32 _ (List.mem_of_getElem? (i := 1) rfl)
theorem m_10 : Cond.selects RX6 yX6_isSo yX6_isSo ∈ BW := iB_BW0 _ (List.mem_of_getElem? (i := 10) rfl)
theorem si_X6_71 : SV RX6 RX6 71 yX6_isSo cX6_isSo 5 (some .boolean) 1 := ⟨⟨m_580, m_581, m_10, m_109, m_582⟩, rfl, nK_RX6.1, nK_RX6.2, pd_5⟩
theorem gX6_consider_0 : (decode cX6_consider 0 = .ok (.aload_n 0, 1)) ∧ (decode cX6_consider 1 = .ok (.getfield 18, 3)) ∧ (decode cX6_consider 4 = .ok (.invokevirtual 36, 3)) ∧ (decode cX6_consider 7 = .ok (.istore_n 3, 1)) ∧ (decode cX6_consider 8 = .ok (.aload_n 0, 1)) ∧ (decode cX6_consider 9 = .ok (.aload_n 0, 1)) ∧ (decode cX6_consider 10 = .ok (.getfield 18, 3)) ∧ (decode cX6_consider 13 = .ok (.getfield 42, 3)) ∧ (decode cX6_consider 16 = .ok (.iload_n 3, 1)) ∧ (decode cX6_consider 17 = .ok (.iconst 1, 1)) := by decide +kernel
theorem m_573 : Cond.code yX0_ruling cX0_ruling 4 (some .int) ∈ BW := iB_BW30 _ (List.mem_of_getElem? (i := 17) rfl)
theorem m_570 : Cond.methodLink RX6 36 yX0_ruling ∈ BW := iB_BW30 _ (List.mem_of_getElem? (i := 14) rfl)
theorem m_571 : Cond.instanceMethod yX0_ruling ∈ BW := iB_BW30 _ (List.mem_of_getElem? (i := 15) rfl)
theorem m_572 : Cond.selects RX0 yX0_ruling yX0_ruling ∈ BW := iB_BW30 _ (List.mem_of_getElem? (i := 16) rfl)
theorem si_X6_36 : SV RX6 RX0 36 yX0_ruling cX0_ruling 4 (some .int) 0 := ⟨⟨m_570, m_571, m_572, m_103, m_573⟩, rfl, nK_RX0.1, nK_RX0.2, pd_1⟩
theorem nm_12 : Cond.fieldLinkNest RX6 42 RX0 "versions" "LInquiryBench$Table;" RX11 ∈ NestW := List.mem_of_getElem? (i := 12) rfl
theorem gf_X6_42 (hC : CX p s m meth c y0 b0 mL0 rt0 args) (hy0 : y0.cls = RX6) (hK : KK G s) (hP : va_P G.1 vwCl ws H) (q0 : Nat) {fs : List Value} {v : Value} (he : ws[q0]? = some (a, .inr (0, fs))) (hv : fs[3]? = some v) (hdg : decode b0 pc = .ok (.getfield 42, 3)) (kk : W p l e R s m args below meth c H locs cells slots Q (F0 m (pc + 3) ls (v :: rest))) : W p l e R s m args below meth c H locs cells slots Q (F0 m pc ls (.ref a :: rest)) := by
  obtain ⟨hx, hb, hr, hml, hB, hown, hlocks, hnm⟩ := hC
  rw [hy0] at hown
  exact va_getN (ci := 0) (C := RX0) (T := TX0) (N := 14) hx hb hB in_X0 hown hK.1 hP q0 he rfl 3 (by decide) (va_Nw.use rfl (hK.2.1 _ nm_12)) (fun _ h => h) hv hdg kk
theorem gX6_consider_1 : (decode cX6_consider 18 = .ok (.invokevirtual 46, 3)) ∧ (decode cX6_consider 21 = .ok (.putfield 26, 3)) ∧ (decode cX6_consider 24 = .ok (.aload_n 0, 1)) ∧ (decode cX6_consider 25 = .ok (.aload_n 0, 1)) ∧ (decode cX6_consider 26 = .ok (.getfield 18, 3)) ∧ (decode cX6_consider 29 = .ok (.getfield 42, 3)) ∧ (decode cX6_consider 32 = .ok (.iload_n 3, 1)) ∧ (decode cX6_consider 33 = .ok (.iconst 2, 1)) ∧ (decode cX6_consider 34 = .ok (.invokevirtual 46, 3)) ∧ (decode cX6_consider 37 = .ok (.putfield 30, 3)) := by decide +kernel
theorem m_206 : Cond.fieldLink RX6 26 "InquiryBench$Rules" "first" "I" ∈ BW := iB_BW11 _ (List.mem_of_getElem? (i := 4) rfl)
theorem pf_X6_26 (hC : CX p s m meth c y0 b0 mL0 rt0 args) (hy0 : y0.cls = RX6) (hK : KK G s) (hP : va_P G.1 vwCl ws H) (hD : va_D A ws) (hS : va_S A H0 H locs) (q0 : Nat) {fs : List Value} {v : Value} {ws' : va_W} (he : ws[q0]? = some (a, .inr (6, fs))) (hl : 4 < fs.length) (hws : ws.set q0 (a, .inr (6, fs.set 4 v)) = ws') (hn : narrow .int v = v) (hfit : fits .int v = true) (hdg : decode b0 pc = .ok (.putfield 26, 3)) (kk : ∀ (H1 : Heap) (locs1 : List Loc), va_P G.1 vwCl ws' H1 → va_D A ws' → va_S A H0 H1 locs1 → W p l e R s m args below meth c H1 locs1 cells slots Q (F0 m (pc + 3) ls rest)) : W p l e R s m args below meth c H locs cells slots Q (F0 m pc ls (v :: .ref a :: rest)) := by
  obtain ⟨hx, hb, hr, hml, hB, hown, hlocks, hnm⟩ := hC
  rw [hy0] at hown
  subst hws
  exact va_put (ci := 6) (ty := .int) (C := RX6) (T := TX6) (N := 7) hx hb hB in_X6 tyX6 tyX6_ok nmX6 hown hK.1 hP hD hS q0 he rfl 4 (by decide) (hB _ m_206) (fun _ h => h) rfl (by decide +kernel) hn hfit hl hdg kk
theorem m_207 : Cond.fieldLink RX6 30 "InquiryBench$Rules" "count" "I" ∈ BW := iB_BW11 _ (List.mem_of_getElem? (i := 5) rfl)
theorem pf_X6_30 (hC : CX p s m meth c y0 b0 mL0 rt0 args) (hy0 : y0.cls = RX6) (hK : KK G s) (hP : va_P G.1 vwCl ws H) (hD : va_D A ws) (hS : va_S A H0 H locs) (q0 : Nat) {fs : List Value} {v : Value} {ws' : va_W} (he : ws[q0]? = some (a, .inr (6, fs))) (hl : 5 < fs.length) (hws : ws.set q0 (a, .inr (6, fs.set 5 v)) = ws') (hn : narrow .int v = v) (hfit : fits .int v = true) (hdg : decode b0 pc = .ok (.putfield 30, 3)) (kk : ∀ (H1 : Heap) (locs1 : List Loc), va_P G.1 vwCl ws' H1 → va_D A ws' → va_S A H0 H1 locs1 → W p l e R s m args below meth c H1 locs1 cells slots Q (F0 m (pc + 3) ls rest)) : W p l e R s m args below meth c H locs cells slots Q (F0 m pc ls (v :: .ref a :: rest)) := by
  obtain ⟨hx, hb, hr, hml, hB, hown, hlocks, hnm⟩ := hC
  rw [hy0] at hown
  subst hws
  exact va_put (ci := 6) (ty := .int) (C := RX6) (T := TX6) (N := 7) hx hb hB in_X6 tyX6 tyX6_ok nmX6 hown hK.1 hP hD hS q0 he rfl 5 (by decide) (hB _ m_207) (fun _ h => h) rfl (by decide +kernel) hn hfit hl hdg kk
theorem gX6_consider_2 : (decode cX6_consider 40 = .ok (.aload_n 0, 1)) ∧ (decode cX6_consider 41 = .ok (.getfield 9, 3)) ∧ (decode cX6_consider 44 = .ok (.iconst 0, 1)) ∧ (decode cX6_consider 45 = .ok (.iload_n 1, 1)) ∧ (decode cX6_consider 46 = .ok (.iastore, 1)) ∧ (decode cX6_consider 47 = .ok (.aload_n 0, 1)) ∧ (decode cX6_consider 48 = .ok (.getfield 9, 3)) ∧ (decode cX6_consider 51 = .ok (.iconst 1, 1)) ∧ (decode cX6_consider 52 = .ok (.aload_n 0, 1)) ∧ (decode cX6_consider 53 = .ok (.getfield 18, 3)) := by decide +kernel
theorem gX6_consider_3 : (decode cX6_consider 56 = .ok (.getfield 52, 3)) ∧ (decode cX6_consider 59 = .ok (.iload_n 1, 1)) ∧ (decode cX6_consider 60 = .ok (.iconst 0, 1)) ∧ (decode cX6_consider 61 = .ok (.invokevirtual 46, 3)) ∧ (decode cX6_consider 64 = .ok (.iastore, 1)) ∧ (decode cX6_consider 65 = .ok (.aload_n 0, 1)) ∧ (decode cX6_consider 66 = .ok (.getfield 9, 3)) ∧ (decode cX6_consider 69 = .ok (.iconst 2, 1)) ∧ (decode cX6_consider 70 = .ok (.aload_n 0, 1)) ∧ (decode cX6_consider 71 = .ok (.getfield 18, 3)) := by decide +kernel
theorem nm_1 : Cond.fieldLinkNest RX6 52 RX0 "persons" "LInquiryBench$Table;" RX11 ∈ NestW := List.mem_of_getElem? (i := 1) rfl
theorem gf_X6_52 (hC : CX p s m meth c y0 b0 mL0 rt0 args) (hy0 : y0.cls = RX6) (hK : KK G s) (hP : va_P G.1 vwCl ws H) (q0 : Nat) {fs : List Value} {v : Value} (he : ws[q0]? = some (a, .inr (0, fs))) (hv : fs[0]? = some v) (hdg : decode b0 pc = .ok (.getfield 52, 3)) (kk : W p l e R s m args below meth c H locs cells slots Q (F0 m (pc + 3) ls (v :: rest))) : W p l e R s m args below meth c H locs cells slots Q (F0 m pc ls (.ref a :: rest)) := by
  obtain ⟨hx, hb, hr, hml, hB, hown, hlocks, hnm⟩ := hC
  rw [hy0] at hown
  exact va_getN (ci := 0) (C := RX0) (T := TX0) (N := 14) hx hb hB in_X0 hown hK.1 hP q0 he rfl 0 (by decide) (va_Nw.use rfl (hK.2.1 _ nm_1)) (fun _ h => h) hv hdg kk
theorem gX6_consider_4 : (decode cX6_consider 74 = .ok (.iload_n 1, 1)) ∧ (decode cX6_consider 75 = .ok (.iload_n 2, 1)) ∧ (decode cX6_consider 76 = .ok (.invokevirtual 55, 3)) ∧ (decode cX6_consider 79 = .ok (.iastore, 1)) ∧ (decode cX6_consider 80 = .ok (.aload_n 0, 1)) ∧ (decode cX6_consider 81 = .ok (.getfield 9, 3)) ∧ (decode cX6_consider 84 = .ok (.iconst 3, 1)) ∧ (decode cX6_consider 85 = .ok (.aload_n 0, 1)) ∧ (decode cX6_consider 86 = .ok (.getfield 18, 3)) ∧ (decode cX6_consider 89 = .ok (.iload_n 1, 1)) := by decide +kernel
theorem m_349 : Cond.code yX0_countTo cX0_countTo 5 (some .int) ∈ BW := iB_BW18 _ (List.mem_of_getElem? (i := 15) rfl)
theorem m_575 : Cond.methodLink RX6 55 yX0_countTo ∈ BW := iB_BW30 _ (List.mem_of_getElem? (i := 19) rfl)
theorem m_347 : Cond.instanceMethod yX0_countTo ∈ BW := iB_BW18 _ (List.mem_of_getElem? (i := 13) rfl)
theorem m_348 : Cond.selects RX0 yX0_countTo yX0_countTo ∈ BW := iB_BW18 _ (List.mem_of_getElem? (i := 14) rfl)
theorem si_X6_55 : SV RX6 RX0 55 yX0_countTo cX0_countTo 5 (some .int) 2 := ⟨⟨m_575, m_347, m_348, m_103, m_349⟩, rfl, nK_RX0.1, nK_RX0.2, pd_2⟩
theorem gX6_consider_5 : (decode cX6_consider 90 = .ok (.iload_n 2, 1)) ∧ (decode cX6_consider 91 = .ok (.invokevirtual 58, 3)) ∧ (decode cX6_consider 94 = .ok (.iastore, 1)) ∧ (decode cX6_consider 95 = .ok (.aload_n 0, 1)) ∧ (decode cX6_consider 96 = .ok (.getfield 9, 3)) ∧ (decode cX6_consider 99 = .ok (.iconst 4, 1)) ∧ (decode cX6_consider 100 = .ok (.aload_n 0, 1)) ∧ (decode cX6_consider 101 = .ok (.getfield 18, 3)) ∧ (decode cX6_consider 104 = .ok (.getfield 52, 3)) ∧ (decode cX6_consider 107 = .ok (.iload_n 1, 1)) := by decide +kernel
theorem m_355 : Cond.code yX0_countBy cX0_countBy 5 (some .int) ∈ BW := iB_BW19 _ (List.mem_of_getElem? (i := 1) rfl)
theorem m_576 : Cond.methodLink RX6 58 yX0_countBy ∈ BW := iB_BW31 _ (List.mem_of_getElem? (i := 0) rfl)
theorem m_353 : Cond.instanceMethod yX0_countBy ∈ BW := iB_BW18 _ (List.mem_of_getElem? (i := 19) rfl)
theorem m_354 : Cond.selects RX0 yX0_countBy yX0_countBy ∈ BW := iB_BW19 _ (List.mem_of_getElem? (i := 0) rfl)
theorem si_X6_58 : SV RX6 RX0 58 yX0_countBy cX0_countBy 5 (some .int) 2 := ⟨⟨m_576, m_353, m_354, m_103, m_355⟩, rfl, nK_RX0.1, nK_RX0.2, pd_2⟩
theorem gX6_consider_6 : (decode cX6_consider 108 = .ok (.iconst 1, 1)) ∧ (decode cX6_consider 109 = .ok (.invokevirtual 46, 3)) ∧ (decode cX6_consider 112 = .ok (.iastore, 1)) ∧ (decode cX6_consider 113 = .ok (.aload_n 0, 1)) ∧ (decode cX6_consider 114 = .ok (.iconst 0, 1)) ∧ (decode cX6_consider 115 = .ok (.putfield 33, 3)) ∧ (decode cX6_consider 118 = .ok (.iconst 0, 1)) ∧ (decode cX6_consider 119 = .ok (.istore 4, 2)) ∧ (decode cX6_consider 121 = .ok (.iload 4, 2)) ∧ (decode cX6_consider 123 = .ok (.aload_n 0, 1)) := by decide +kernel
theorem m_208 : Cond.fieldLink RX6 33 "InquiryBench$Rules" "holding" "I" ∈ BW := iB_BW11 _ (List.mem_of_getElem? (i := 6) rfl)
theorem pf_X6_33 (hC : CX p s m meth c y0 b0 mL0 rt0 args) (hy0 : y0.cls = RX6) (hK : KK G s) (hP : va_P G.1 vwCl ws H) (hD : va_D A ws) (hS : va_S A H0 H locs) (q0 : Nat) {fs : List Value} {v : Value} {ws' : va_W} (he : ws[q0]? = some (a, .inr (6, fs))) (hl : 6 < fs.length) (hws : ws.set q0 (a, .inr (6, fs.set 6 v)) = ws') (hn : narrow .int v = v) (hfit : fits .int v = true) (hdg : decode b0 pc = .ok (.putfield 33, 3)) (kk : ∀ (H1 : Heap) (locs1 : List Loc), va_P G.1 vwCl ws' H1 → va_D A ws' → va_S A H0 H1 locs1 → W p l e R s m args below meth c H1 locs1 cells slots Q (F0 m (pc + 3) ls rest)) : W p l e R s m args below meth c H locs cells slots Q (F0 m pc ls (v :: .ref a :: rest)) := by
  obtain ⟨hx, hb, hr, hml, hB, hown, hlocks, hnm⟩ := hC
  rw [hy0] at hown
  subst hws
  exact va_put (ci := 6) (ty := .int) (C := RX6) (T := TX6) (N := 7) hx hb hB in_X6 tyX6 tyX6_ok nmX6 hown hK.1 hP hD hS q0 he rfl 6 (by decide) (hB _ m_208) (fun _ h => h) rfl (by decide +kernel) hn hfit hl hdg kk
theorem gX6_consider_7 : (decode cX6_consider 124 = .ok (.getfield 30, 3)) ∧ (decode cX6_consider 127 = .ok (.if_icmp .ge 36, 3)) ∧ (decode cX6_consider 130 = .ok (.aload_n 0, 1)) ∧ (decode cX6_consider 131 = .ok (.aload_n 0, 1)) ∧ (decode cX6_consider 132 = .ok (.getfield 26, 3)) ∧ (decode cX6_consider 135 = .ok (.iload 4, 2)) ∧ (decode cX6_consider 137 = .ok (.iadd, 1)) ∧ (decode cX6_consider 138 = .ok (.invokevirtual 61, 3)) ∧ (decode cX6_consider 141 = .ok (.ifCond .eq 16, 3)) ∧ (decode cX6_consider 144 = .ok (.aload_n 0, 1)) := by decide +kernel
theorem gf_X6_30 (hC : CX p s m meth c y0 b0 mL0 rt0 args) (hy0 : y0.cls = RX6) (hK : KK G s) (hP : va_P G.1 vwCl ws H) (q0 : Nat) {fs : List Value} {v : Value} (he : ws[q0]? = some (a, .inr (6, fs))) (hv : fs[5]? = some v) (hdg : decode b0 pc = .ok (.getfield 30, 3)) (kk : W p l e R s m args below meth c H locs cells slots Q (F0 m (pc + 3) ls (v :: rest))) : W p l e R s m args below meth c H locs cells slots Q (F0 m pc ls (.ref a :: rest)) := by
  obtain ⟨hx, hb, hr, hml, hB, hown, hlocks, hnm⟩ := hC
  rw [hy0] at hown
  exact va_get (ci := 6) (C := RX6) (T := TX6) (N := 7) hx hb hB in_X6 hown hK.1 hP q0 he rfl 5 (by decide) (hB _ m_207) (fun _ h => h) hv hdg kk
theorem gX6_consider_8 : (decode cX6_consider 145 = .ok (.dup, 1)) ∧ (decode cX6_consider 146 = .ok (.getfield 33, 3)) ∧ (decode cX6_consider 149 = .ok (.iconst 1, 1)) ∧ (decode cX6_consider 150 = .ok (.iload 4, 2)) ∧ (decode cX6_consider 152 = .ok (.ishl, 1)) ∧ (decode cX6_consider 153 = .ok (.ior, 1)) ∧ (decode cX6_consider 154 = .ok (.putfield 33, 3)) ∧ (decode cX6_consider 157 = .ok (.iinc 4 1, 3)) ∧ (decode cX6_consider 160 = .ok (.goto (-39), 3)) ∧ (decode cX6_consider 163 = .ok (.return_, 1)) := by decide +kernel
theorem gf_X6_26 (hC : CX p s m meth c y0 b0 mL0 rt0 args) (hy0 : y0.cls = RX6) (hK : KK G s) (hP : va_P G.1 vwCl ws H) (q0 : Nat) {fs : List Value} {v : Value} (he : ws[q0]? = some (a, .inr (6, fs))) (hv : fs[4]? = some v) (hdg : decode b0 pc = .ok (.getfield 26, 3)) (kk : W p l e R s m args below meth c H locs cells slots Q (F0 m (pc + 3) ls (v :: rest))) : W p l e R s m args below meth c H locs cells slots Q (F0 m pc ls (.ref a :: rest)) := by
  obtain ⟨hx, hb, hr, hml, hB, hown, hlocks, hnm⟩ := hC
  rw [hy0] at hown
  exact va_get (ci := 6) (C := RX6) (T := TX6) (N := 7) hx hb hB in_X6 hown hK.1 hP q0 he rfl 4 (by decide) (hB _ m_206) (fun _ h => h) hv hdg kk
theorem m_579 : Cond.code yX6_holds cX6_holds 8 (some .boolean) ∈ BW := iB_BW31 _ (List.mem_of_getElem? (i := 3) rfl)
theorem m_577 : Cond.methodLink RX6 61 yX6_holds ∈ BW := iB_BW31 _ (List.mem_of_getElem? (i := 1) rfl)
theorem m_578 : Cond.instanceMethod yX6_holds ∈ BW := iB_BW31 _ (List.mem_of_getElem? (i := 2) rfl)
theorem m_9 : Cond.selects RX6 yX6_holds yX6_holds ∈ BW := iB_BW0 _ (List.mem_of_getElem? (i := 9) rfl)
theorem si_X6_61 : SV RX6 RX6 61 yX6_holds cX6_holds 8 (some .boolean) 1 := ⟨⟨m_577, m_578, m_9, m_109, m_579⟩, rfl, nK_RX6.1, nK_RX6.2, pd_5⟩
theorem gf_X6_33 (hC : CX p s m meth c y0 b0 mL0 rt0 args) (hy0 : y0.cls = RX6) (hK : KK G s) (hP : va_P G.1 vwCl ws H) (q0 : Nat) {fs : List Value} {v : Value} (he : ws[q0]? = some (a, .inr (6, fs))) (hv : fs[6]? = some v) (hdg : decode b0 pc = .ok (.getfield 33, 3)) (kk : W p l e R s m args below meth c H locs cells slots Q (F0 m (pc + 3) ls (v :: rest))) : W p l e R s m args below meth c H locs cells slots Q (F0 m pc ls (.ref a :: rest)) := by
  obtain ⟨hx, hb, hr, hml, hB, hown, hlocks, hnm⟩ := hC
  rw [hy0] at hown
  exact va_get (ci := 6) (C := RX6) (T := TX6) (N := 7) hx hb hB in_X6 hown hK.1 hP q0 he rfl 6 (by decide) (hB _ m_208) (fun _ h => h) hv hdg kk
theorem gX6_shouldHour_0 : (decode cX6_shouldHour 0 = .ok (.iload_n 1, 1)) ∧ (decode cX6_shouldHour 1 = .ok (.ifCond .lt 18, 3)) ∧ (decode cX6_shouldHour 4 = .ok (.iload_n 1, 1)) ∧ (decode cX6_shouldHour 5 = .ok (.bipush 8, 2)) ∧ (decode cX6_shouldHour 7 = .ok (.if_icmp .ge 12, 3)) ∧ (decode cX6_shouldHour 10 = .ok (.aload_n 0, 1)) ∧ (decode cX6_shouldHour 11 = .ok (.getfield 15, 3)) ∧ (decode cX6_shouldHour 14 = .ok (.iload_n 1, 1)) ∧ (decode cX6_shouldHour 15 = .ok (.iaload, 1)) ∧ (decode cX6_shouldHour 16 = .ok (.goto 5, 3)) := by decide +kernel
theorem gX6_shouldHour_1 : (decode cX6_shouldHour 19 = .ok (.ldc 105, 2)) ∧ (decode cX6_shouldHour 21 = .ok (.ireturn, 1)) := by decide +kernel
theorem m_597 : Cond.constant RX6 105 (1000000) ∈ BW := iB_BW32 _ (List.mem_of_getElem? (i := 17) rfl)
theorem m_205 : Cond.fieldLink RX6 15 "InquiryBench$Rules" "should" "[I" ∈ BW := iB_BW11 _ (List.mem_of_getElem? (i := 3) rfl)
theorem gf_X6_15 (hC : CX p s m meth c y0 b0 mL0 rt0 args) (hy0 : y0.cls = RX6) (hK : KK G s) (hP : va_P G.1 vwCl ws H) (q0 : Nat) {fs : List Value} {v : Value} (he : ws[q0]? = some (a, .inr (6, fs))) (hv : fs[3]? = some v) (hdg : decode b0 pc = .ok (.getfield 15, 3)) (kk : W p l e R s m args below meth c H locs cells slots Q (F0 m (pc + 3) ls (v :: rest))) : W p l e R s m args below meth c H locs cells slots Q (F0 m pc ls (.ref a :: rest)) := by
  obtain ⟨hx, hb, hr, hml, hB, hown, hlocks, hnm⟩ := hC
  rw [hy0] at hown
  exact va_get (ci := 6) (C := RX6) (T := TX6) (N := 7) hx hb hB in_X6 hown hK.1 hP q0 he rfl 3 (by decide) (hB _ m_205) (fun _ h => h) hv hdg kk
theorem gX6_thingOf_0 : (decode cX6_thingOf 0 = .ok (.aload_n 0, 1)) ∧ (decode cX6_thingOf 1 = .ok (.getfield 33, 3)) ∧ (decode cX6_thingOf 4 = .ok (.iload_n 1, 1)) ∧ (decode cX6_thingOf 5 = .ok (.invokestatic 98, 3)) ∧ (decode cX6_thingOf 8 = .ok (.ifCond .ne 5, 3)) ∧ (decode cX6_thingOf 11 = .ok (.iconst (-1), 1)) ∧ (decode cX6_thingOf 12 = .ok (.ireturn, 1)) ∧ (decode cX6_thingOf 13 = .ok (.aload_n 0, 1)) ∧ (decode cX6_thingOf 14 = .ok (.getfield 18, 3)) ∧ (decode cX6_thingOf 17 = .ok (.getfield 65, 3)) := by decide +kernel
theorem nm_48 : Cond.methodLinkNest RX6 98 yX11_hasBit RX11 ∈ NestW := List.mem_of_getElem? (i := 48) rfl
theorem si_X6_98 : SSN RX6 RX11 98 yX11_hasBit cX11_hasBit 2 (some .boolean) 2 := ⟨⟨nm_48, m_350, m_102, m_351⟩, ⟨nK_RX11.1, nK_RX11.2, pd_3⟩⟩
theorem gX6_thingOf_1 : (decode cX6_thingOf 20 = .ok (.aload_n 0, 1)) ∧ (decode cX6_thingOf 21 = .ok (.getfield 26, 3)) ∧ (decode cX6_thingOf 24 = .ok (.iload_n 1, 1)) ∧ (decode cX6_thingOf 25 = .ok (.iadd, 1)) ∧ (decode cX6_thingOf 26 = .ok (.iconst 0, 1)) ∧ (decode cX6_thingOf 27 = .ok (.invokevirtual 46, 3)) ∧ (decode cX6_thingOf 30 = .ok (.istore_n 2, 1)) ∧ (decode cX6_thingOf 31 = .ok (.iload_n 2, 1)) ∧ (decode cX6_thingOf 32 = .ok (.ifCond .ne 21, 3)) ∧ (decode cX6_thingOf 35 = .ok (.aload_n 0, 1)) := by decide +kernel
theorem gX6_thingOf_2 : (decode cX6_thingOf 36 = .ok (.getfield 18, 3)) ∧ (decode cX6_thingOf 39 = .ok (.getfield 65, 3)) ∧ (decode cX6_thingOf 42 = .ok (.aload_n 0, 1)) ∧ (decode cX6_thingOf 43 = .ok (.getfield 26, 3)) ∧ (decode cX6_thingOf 46 = .ok (.iload_n 1, 1)) ∧ (decode cX6_thingOf 47 = .ok (.iadd, 1)) ∧ (decode cX6_thingOf 48 = .ok (.iconst 2, 1)) ∧ (decode cX6_thingOf 49 = .ok (.invokevirtual 46, 3)) ∧ (decode cX6_thingOf 52 = .ok (.ireturn, 1)) ∧ (decode cX6_thingOf 53 = .ok (.iload_n 2, 1)) := by decide +kernel
theorem gX6_thingOf_3 : (decode cX6_thingOf 54 = .ok (.iconst 2, 1)) ∧ (decode cX6_thingOf 55 = .ok (.if_icmp .ne 23, 3)) ∧ (decode cX6_thingOf 58 = .ok (.aload_n 0, 1)) ∧ (decode cX6_thingOf 59 = .ok (.getfield 18, 3)) ∧ (decode cX6_thingOf 62 = .ok (.getfield 65, 3)) ∧ (decode cX6_thingOf 65 = .ok (.aload_n 0, 1)) ∧ (decode cX6_thingOf 66 = .ok (.getfield 26, 3)) ∧ (decode cX6_thingOf 69 = .ok (.iload_n 1, 1)) ∧ (decode cX6_thingOf 70 = .ok (.iadd, 1)) ∧ (decode cX6_thingOf 71 = .ok (.iconst 1, 1)) := by decide +kernel
theorem gX6_thingOf_4 : (decode cX6_thingOf 72 = .ok (.invokevirtual 46, 3)) ∧ (decode cX6_thingOf 75 = .ok (.goto 4, 3)) ∧ (decode cX6_thingOf 78 = .ok (.iconst (-1), 1)) ∧ (decode cX6_thingOf 79 = .ok (.ireturn, 1)) := by decide +kernel
theorem gX6_hourBy_0 : (decode cX6_hourBy 0 = .ok (.aload_n 0, 1)) ∧ (decode cX6_hourBy 1 = .ok (.getfield 26, 3)) ∧ (decode cX6_hourBy 4 = .ok (.iload_n 1, 1)) ∧ (decode cX6_hourBy 5 = .ok (.iadd, 1)) ∧ (decode cX6_hourBy 6 = .ok (.istore_n 2, 1)) ∧ (decode cX6_hourBy 7 = .ok (.aload_n 0, 1)) ∧ (decode cX6_hourBy 8 = .ok (.getfield 18, 3)) ∧ (decode cX6_hourBy 11 = .ok (.getfield 65, 3)) ∧ (decode cX6_hourBy 14 = .ok (.iload_n 2, 1)) ∧ (decode cX6_hourBy 15 = .ok (.iconst 0, 1)) := by decide +kernel
theorem gX6_hourBy_1 : (decode cX6_hourBy 16 = .ok (.invokevirtual 46, 3)) ∧ (decode cX6_hourBy 19 = .ok (.iconst 2, 1)) ∧ (decode cX6_hourBy 20 = .ok (.if_icmp .ne 16, 3)) ∧ (decode cX6_hourBy 23 = .ok (.aload_n 0, 1)) ∧ (decode cX6_hourBy 24 = .ok (.getfield 18, 3)) ∧ (decode cX6_hourBy 27 = .ok (.getfield 65, 3)) ∧ (decode cX6_hourBy 30 = .ok (.iload_n 2, 1)) ∧ (decode cX6_hourBy 31 = .ok (.iconst 2, 1)) ∧ (decode cX6_hourBy 32 = .ok (.invokevirtual 46, 3)) ∧ (decode cX6_hourBy 35 = .ok (.ireturn, 1)) := by decide +kernel
theorem gX6_hourBy_2 : (decode cX6_hourBy 36 = .ok (.aload_n 0, 1)) ∧ (decode cX6_hourBy 37 = .ok (.aload_n 0, 1)) ∧ (decode cX6_hourBy 38 = .ok (.getfield 18, 3)) ∧ (decode cX6_hourBy 41 = .ok (.getfield 65, 3)) ∧ (decode cX6_hourBy 44 = .ok (.iload_n 2, 1)) ∧ (decode cX6_hourBy 45 = .ok (.iconst 3, 1)) ∧ (decode cX6_hourBy 46 = .ok (.invokevirtual 46, 3)) ∧ (decode cX6_hourBy 49 = .ok (.invokevirtual 102, 3)) ∧ (decode cX6_hourBy 52 = .ok (.istore_n 3, 1)) ∧ (decode cX6_hourBy 53 = .ok (.iload_n 3, 1)) := by decide +kernel
theorem m_596 : Cond.code yX6_shouldHour cX6_shouldHour 2 (some .int) ∈ BW := iB_BW32 _ (List.mem_of_getElem? (i := 16) rfl)
theorem m_593 : Cond.methodLink RX6 102 yX6_shouldHour ∈ BW := iB_BW32 _ (List.mem_of_getElem? (i := 13) rfl)
theorem m_594 : Cond.instanceMethod yX6_shouldHour ∈ BW := iB_BW32 _ (List.mem_of_getElem? (i := 14) rfl)
theorem m_595 : Cond.selects RX6 yX6_shouldHour yX6_shouldHour ∈ BW := iB_BW32 _ (List.mem_of_getElem? (i := 15) rfl)
theorem si_X6_102 : SV RX6 RX6 102 yX6_shouldHour cX6_shouldHour 2 (some .int) 1 := ⟨⟨m_593, m_594, m_595, m_109, m_596⟩, rfl, nK_RX6.1, nK_RX6.2, pd_7⟩
theorem gX6_hourBy_3 : (decode cX6_hourBy 54 = .ok (.ldc 105, 2)) ∧ (decode cX6_hourBy 56 = .ok (.if_icmp .ne 8, 3)) ∧ (decode cX6_hourBy 59 = .ok (.ldc 105, 2)) ∧ (decode cX6_hourBy 61 = .ok (.goto 17, 3)) ∧ (decode cX6_hourBy 64 = .ok (.iload_n 3, 1)) ∧ (decode cX6_hourBy 65 = .ok (.aload_n 0, 1)) ∧ (decode cX6_hourBy 66 = .ok (.getfield 18, 3)) ∧ (decode cX6_hourBy 69 = .ok (.getfield 65, 3)) ∧ (decode cX6_hourBy 72 = .ok (.iload_n 2, 1)) ∧ (decode cX6_hourBy 73 = .ok (.iconst 1, 1)) := by decide +kernel
theorem gX6_hourBy_4 : (decode cX6_hourBy 74 = .ok (.invokevirtual 46, 3)) ∧ (decode cX6_hourBy 77 = .ok (.iadd, 1)) ∧ (decode cX6_hourBy 78 = .ok (.ireturn, 1)) := by decide +kernel
theorem gX6_tellEarlier_0 : (decode cX6_tellEarlier 0 = .ok (.iconst 0, 1)) ∧ (decode cX6_tellEarlier 1 = .ok (.istore_n 1, 1)) ∧ (decode cX6_tellEarlier 2 = .ok (.iconst 0, 1)) ∧ (decode cX6_tellEarlier 3 = .ok (.istore_n 2, 1)) ∧ (decode cX6_tellEarlier 4 = .ok (.iload_n 2, 1)) ∧ (decode cX6_tellEarlier 5 = .ok (.aload_n 0, 1)) ∧ (decode cX6_tellEarlier 6 = .ok (.getfield 30, 3)) ∧ (decode cX6_tellEarlier 9 = .ok (.if_icmp .ge 52, 3)) ∧ (decode cX6_tellEarlier 12 = .ok (.aload_n 0, 1)) ∧ (decode cX6_tellEarlier 13 = .ok (.iload_n 2, 1)) := by decide +kernel
theorem gX6_tellEarlier_3 : (decode cX6_tellEarlier 52 = .ok (.iastore, 1)) ∧ (decode cX6_tellEarlier 53 = .ok (.iconst 1, 1)) ∧ (decode cX6_tellEarlier 54 = .ok (.istore_n 1, 1)) ∧ (decode cX6_tellEarlier 55 = .ok (.iinc 2 1, 3)) ∧ (decode cX6_tellEarlier 58 = .ok (.goto (-54), 3)) ∧ (decode cX6_tellEarlier 61 = .ok (.iload_n 1, 1)) ∧ (decode cX6_tellEarlier 62 = .ok (.ireturn, 1)) := by decide +kernel
theorem gX6_tellEarlier_1 : (decode cX6_tellEarlier 14 = .ok (.invokevirtual 88, 3)) ∧ (decode cX6_tellEarlier 17 = .ok (.istore_n 3, 1)) ∧ (decode cX6_tellEarlier 18 = .ok (.iload_n 3, 1)) ∧ (decode cX6_tellEarlier 19 = .ok (.invokestatic 92, 3)) ∧ (decode cX6_tellEarlier 22 = .ok (.ifCond .eq 33, 3)) ∧ (decode cX6_tellEarlier 25 = .ok (.aload_n 0, 1)) ∧ (decode cX6_tellEarlier 26 = .ok (.iload_n 2, 1)) ∧ (decode cX6_tellEarlier 27 = .ok (.invokevirtual 95, 3)) ∧ (decode cX6_tellEarlier 30 = .ok (.aload_n 0, 1)) ∧ (decode cX6_tellEarlier 31 = .ok (.getfield 15, 3)) := by decide +kernel
theorem m_589 : Cond.code yX6_thingOf cX6_thingOf 3 (some .int) ∈ BW := iB_BW32 _ (List.mem_of_getElem? (i := 9) rfl)
theorem m_587 : Cond.methodLink RX6 88 yX6_thingOf ∈ BW := iB_BW32 _ (List.mem_of_getElem? (i := 7) rfl)
theorem m_588 : Cond.instanceMethod yX6_thingOf ∈ BW := iB_BW32 _ (List.mem_of_getElem? (i := 8) rfl)
theorem m_12 : Cond.selects RX6 yX6_thingOf yX6_thingOf ∈ BW := iB_BW0 _ (List.mem_of_getElem? (i := 12) rfl)
theorem si_X6_88 : SV RX6 RX6 88 yX6_thingOf cX6_thingOf 3 (some .int) 1 := ⟨⟨m_587, m_588, m_12, m_109, m_589⟩, rfl, nK_RX6.1, nK_RX6.2, pd_7⟩
theorem m_547 : Cond.code yX11_isThing cX11_isThing 1 (some .boolean) ∈ BW := iB_BW29 _ (List.mem_of_getElem? (i := 11) rfl)
theorem nm_49 : Cond.methodLinkNest RX6 92 yX11_isThing RX11 ∈ NestW := List.mem_of_getElem? (i := 49) rfl
theorem m_546 : Cond.static yX11_isThing ∈ BW := iB_BW29 _ (List.mem_of_getElem? (i := 10) rfl)
theorem si_X6_92 : SSN RX6 RX11 92 yX11_isThing cX11_isThing 1 (some .boolean) 1 := ⟨⟨nm_49, m_546, m_102, m_547⟩, ⟨nK_RX11.1, nK_RX11.2, pd_5⟩⟩
theorem m_592 : Cond.code yX6_hourBy cX6_hourBy 4 (some .int) ∈ BW := iB_BW32 _ (List.mem_of_getElem? (i := 12) rfl)
theorem m_590 : Cond.methodLink RX6 95 yX6_hourBy ∈ BW := iB_BW32 _ (List.mem_of_getElem? (i := 10) rfl)
theorem m_591 : Cond.instanceMethod yX6_hourBy ∈ BW := iB_BW32 _ (List.mem_of_getElem? (i := 11) rfl)
theorem m_13 : Cond.selects RX6 yX6_hourBy yX6_hourBy ∈ BW := iB_BW0 _ (List.mem_of_getElem? (i := 13) rfl)
theorem si_X6_95 : SV RX6 RX6 95 yX6_hourBy cX6_hourBy 4 (some .int) 1 := ⟨⟨m_590, m_591, m_13, m_109, m_592⟩, rfl, nK_RX6.1, nK_RX6.2, pd_7⟩
theorem gX6_tellEarlier_2 : (decode cX6_tellEarlier 34 = .ok (.iload_n 3, 1)) ∧ (decode cX6_tellEarlier 35 = .ok (.iaload, 1)) ∧ (decode cX6_tellEarlier 36 = .ok (.if_icmp .lt 6, 3)) ∧ (decode cX6_tellEarlier 39 = .ok (.goto 16, 3)) ∧ (decode cX6_tellEarlier 42 = .ok (.aload_n 0, 1)) ∧ (decode cX6_tellEarlier 43 = .ok (.getfield 15, 3)) ∧ (decode cX6_tellEarlier 46 = .ok (.iload_n 3, 1)) ∧ (decode cX6_tellEarlier 47 = .ok (.aload_n 0, 1)) ∧ (decode cX6_tellEarlier 48 = .ok (.iload_n 2, 1)) ∧ (decode cX6_tellEarlier 49 = .ok (.invokevirtual 95, 3)) := by decide +kernel
theorem gX6_settle_0 : (decode cX6_settle 0 = .ok (.aload_n 0, 1)) ∧ (decode cX6_settle 1 = .ok (.iload_n 1, 1)) ∧ (decode cX6_settle 2 = .ok (.iload_n 2, 1)) ∧ (decode cX6_settle 3 = .ok (.invokevirtual 74, 3)) ∧ (decode cX6_settle 6 = .ok (.iconst 0, 1)) ∧ (decode cX6_settle 7 = .ok (.istore_n 3, 1)) ∧ (decode cX6_settle 8 = .ok (.iload_n 3, 1)) ∧ (decode cX6_settle 9 = .ok (.bipush 8, 2)) ∧ (decode cX6_settle 11 = .ok (.if_icmp .ge 25, 3)) ∧ (decode cX6_settle 14 = .ok (.aload_n 0, 1)) := by decide +kernel
theorem m_569 : Cond.code yX6_consider cX6_consider 5 none ∈ BW := iB_BW30 _ (List.mem_of_getElem? (i := 13) rfl)
theorem pd_14 : (parseMethodDescriptor "(II)V").map (fun d => d.parameters.length) = some 2 := by decide +kernel
theorem m_566 : Cond.methodLink RX6 74 yX6_consider ∈ BW := iB_BW30 _ (List.mem_of_getElem? (i := 10) rfl)
theorem m_567 : Cond.instanceMethod yX6_consider ∈ BW := iB_BW30 _ (List.mem_of_getElem? (i := 11) rfl)
theorem m_568 : Cond.selects RX6 yX6_consider yX6_consider ∈ BW := iB_BW30 _ (List.mem_of_getElem? (i := 12) rfl)
theorem si_X6_74 : SV RX6 RX6 74 yX6_consider cX6_consider 5 none 2 := ⟨⟨m_566, m_567, m_568, m_109, m_569⟩, rfl, nK_RX6.1, nK_RX6.2, pd_14⟩
theorem gX6_settle_2 : (decode cX6_settle 33 = .ok (.goto (-25), 3)) ∧ (decode cX6_settle 36 = .ok (.iconst 1, 1)) ∧ (decode cX6_settle 37 = .ok (.istore_n 3, 1)) ∧ (decode cX6_settle 38 = .ok (.iconst 0, 1)) ∧ (decode cX6_settle 39 = .ok (.istore 4, 2)) ∧ (decode cX6_settle 41 = .ok (.iload_n 3, 1)) ∧ (decode cX6_settle 42 = .ok (.ifCond .eq 21, 3)) ∧ (decode cX6_settle 45 = .ok (.iload 4, 2)) ∧ (decode cX6_settle 47 = .ok (.bipush 8, 2)) ∧ (decode cX6_settle 49 = .ok (.if_icmp .gt 14, 3)) := by decide +kernel
theorem gX6_settle_3 : (decode cX6_settle 52 = .ok (.aload_n 0, 1)) ∧ (decode cX6_settle 53 = .ok (.invokevirtual 84, 3)) ∧ (decode cX6_settle 56 = .ok (.istore_n 3, 1)) ∧ (decode cX6_settle 57 = .ok (.iinc 4 1, 3)) ∧ (decode cX6_settle 60 = .ok (.goto (-19), 3)) ∧ (decode cX6_settle 63 = .ok (.return_, 1)) := by decide +kernel
theorem m_586 : Cond.code yX6_tellEarlier cX6_tellEarlier 4 (some .boolean) ∈ BW := iB_BW32 _ (List.mem_of_getElem? (i := 6) rfl)
theorem pd_15 : (parseMethodDescriptor "()Z").map (fun d => d.parameters.length) = some 0 := by decide +kernel
theorem m_584 : Cond.methodLink RX6 84 yX6_tellEarlier ∈ BW := iB_BW32 _ (List.mem_of_getElem? (i := 4) rfl)
theorem m_585 : Cond.instanceMethod yX6_tellEarlier ∈ BW := iB_BW32 _ (List.mem_of_getElem? (i := 5) rfl)
theorem m_11 : Cond.selects RX6 yX6_tellEarlier yX6_tellEarlier ∈ BW := iB_BW0 _ (List.mem_of_getElem? (i := 11) rfl)
theorem si_X6_84 : SV RX6 RX6 84 yX6_tellEarlier cX6_tellEarlier 4 (some .boolean) 0 := ⟨⟨m_584, m_585, m_11, m_109, m_586⟩, rfl, nK_RX6.1, nK_RX6.2, pd_15⟩
theorem gX6_settle_1 : (decode cX6_settle 15 = .ok (.getfield 15, 3)) ∧ (decode cX6_settle 18 = .ok (.iload_n 3, 1)) ∧ (decode cX6_settle 19 = .ok (.aload_n 0, 1)) ∧ (decode cX6_settle 20 = .ok (.getfield 22, 3)) ∧ (decode cX6_settle 23 = .ok (.iload_n 1, 1)) ∧ (decode cX6_settle 24 = .ok (.iload_n 3, 1)) ∧ (decode cX6_settle 25 = .ok (.iconst 1, 1)) ∧ (decode cX6_settle 26 = .ok (.invokevirtual 78, 3)) ∧ (decode cX6_settle 29 = .ok (.iastore, 1)) ∧ (decode cX6_settle 30 = .ok (.iinc 3 1, 3)) := by decide +kernel
theorem m_203 : Cond.fieldLink RX6 22 "InquiryBench$Rules" "sight" "LInquiryBench$Sight;" ∈ BW := iB_BW11 _ (List.mem_of_getElem? (i := 1) rfl)
theorem gf_X6_22 (hC : CX p s m meth c y0 b0 mL0 rt0 args) (hy0 : y0.cls = RX6) (hK : KK G s) (hP : va_P G.1 vwCl ws H) (q0 : Nat) {fs : List Value} {v : Value} (he : ws[q0]? = some (a, .inr (6, fs))) (hv : fs[1]? = some v) (hdg : decode b0 pc = .ok (.getfield 22, 3)) (kk : W p l e R s m args below meth c H locs cells slots Q (F0 m (pc + 3) ls (v :: rest))) : W p l e R s m args below meth c H locs cells slots Q (F0 m pc ls (.ref a :: rest)) := by
  obtain ⟨hx, hb, hr, hml, hB, hown, hlocks, hnm⟩ := hC
  rw [hy0] at hown
  exact va_get (ci := 6) (C := RX6) (T := TX6) (N := 7) hx hb hB in_X6 hown hK.1 hP q0 he rfl 1 (by decide) (hB _ m_203) (fun _ h => h) hv hdg kk
theorem m_557 : Cond.code yX7_toldHour cX7_toldHour 6 (some .int) ∈ BW := iB_BW30 _ (List.mem_of_getElem? (i := 1) rfl)
theorem m_583 : Cond.methodLink RX6 78 yX7_toldHour ∈ BW := iB_BW32 _ (List.mem_of_getElem? (i := 3) rfl)
theorem m_555 : Cond.instanceMethod yX7_toldHour ∈ BW := iB_BW29 _ (List.mem_of_getElem? (i := 19) rfl)
theorem m_556 : Cond.selects RX7 yX7_toldHour yX7_toldHour ∈ BW := iB_BW30 _ (List.mem_of_getElem? (i := 0) rfl)
theorem si_X6_78 : SV RX6 RX7 78 yX7_toldHour cX7_toldHour 6 (some .int) 3 := ⟨⟨m_583, m_555, m_556, m_106, m_557⟩, rfl, nK_RX7.1, nK_RX7.2, pd_6⟩
theorem gX6_firstLineFor_0 : (decode cX6_firstLineFor 0 = .ok (.iconst 0, 1)) ∧ (decode cX6_firstLineFor 1 = .ok (.istore_n 2, 1)) ∧ (decode cX6_firstLineFor 2 = .ok (.iload_n 2, 1)) ∧ (decode cX6_firstLineFor 3 = .ok (.aload_n 0, 1)) ∧ (decode cX6_firstLineFor 4 = .ok (.getfield 30, 3)) ∧ (decode cX6_firstLineFor 7 = .ok (.if_icmp .ge 33, 3)) ∧ (decode cX6_firstLineFor 10 = .ok (.aload_n 0, 1)) ∧ (decode cX6_firstLineFor 11 = .ok (.iload_n 2, 1)) ∧ (decode cX6_firstLineFor 12 = .ok (.invokevirtual 88, 3)) ∧ (decode cX6_firstLineFor 15 = .ok (.iload_n 1, 1)) := by decide +kernel
theorem gX6_firstLineFor_2 : (decode cX6_firstLineFor 34 = .ok (.iinc 2 1, 3)) ∧ (decode cX6_firstLineFor 37 = .ok (.goto (-35), 3)) ∧ (decode cX6_firstLineFor 40 = .ok (.bipush (-3), 2)) ∧ (decode cX6_firstLineFor 42 = .ok (.ireturn, 1)) := by decide +kernel
theorem gX6_firstLineFor_1 : (decode cX6_firstLineFor 16 = .ok (.if_icmp .ne 18, 3)) ∧ (decode cX6_firstLineFor 19 = .ok (.aload_n 0, 1)) ∧ (decode cX6_firstLineFor 20 = .ok (.iload_n 2, 1)) ∧ (decode cX6_firstLineFor 21 = .ok (.invokevirtual 95, 3)) ∧ (decode cX6_firstLineFor 24 = .ok (.aload_n 0, 1)) ∧ (decode cX6_firstLineFor 25 = .ok (.iload_n 1, 1)) ∧ (decode cX6_firstLineFor 26 = .ok (.invokevirtual 102, 3)) ∧ (decode cX6_firstLineFor 29 = .ok (.if_icmp .ne 5, 3)) ∧ (decode cX6_firstLineFor 32 = .ok (.iload_n 2, 1)) ∧ (decode cX6_firstLineFor 33 = .ok (.ireturn, 1)) := by decide +kernel
theorem gX6_warnDays_0 : (decode cX6_warnDays 0 = .ok (.iconst 0, 1)) ∧ (decode cX6_warnDays 1 = .ok (.istore_n 1, 1)) ∧ (decode cX6_warnDays 2 = .ok (.iload_n 1, 1)) ∧ (decode cX6_warnDays 3 = .ok (.aload_n 0, 1)) ∧ (decode cX6_warnDays 4 = .ok (.getfield 30, 3)) ∧ (decode cX6_warnDays 7 = .ok (.if_icmp .ge 56, 3)) ∧ (decode cX6_warnDays 10 = .ok (.aload_n 0, 1)) ∧ (decode cX6_warnDays 11 = .ok (.getfield 26, 3)) ∧ (decode cX6_warnDays 14 = .ok (.iload_n 1, 1)) ∧ (decode cX6_warnDays 15 = .ok (.iadd, 1)) := by decide +kernel
theorem gX6_warnDays_3 : (decode cX6_warnDays 56 = .ok (.ireturn, 1)) ∧ (decode cX6_warnDays 57 = .ok (.iinc 1 1, 3)) ∧ (decode cX6_warnDays 60 = .ok (.goto (-58), 3)) ∧ (decode cX6_warnDays 63 = .ok (.iconst 0, 1)) ∧ (decode cX6_warnDays 64 = .ok (.ireturn, 1)) := by decide +kernel
theorem gX6_warnDays_1 : (decode cX6_warnDays 16 = .ok (.istore_n 2, 1)) ∧ (decode cX6_warnDays 17 = .ok (.aload_n 0, 1)) ∧ (decode cX6_warnDays 18 = .ok (.getfield 18, 3)) ∧ (decode cX6_warnDays 21 = .ok (.getfield 65, 3)) ∧ (decode cX6_warnDays 24 = .ok (.iload_n 2, 1)) ∧ (decode cX6_warnDays 25 = .ok (.iconst 0, 1)) ∧ (decode cX6_warnDays 26 = .ok (.invokevirtual 46, 3)) ∧ (decode cX6_warnDays 29 = .ok (.iconst 1, 1)) ∧ (decode cX6_warnDays 30 = .ok (.if_icmp .ne 27, 3)) ∧ (decode cX6_warnDays 33 = .ok (.aload_n 0, 1)) := by decide +kernel
theorem gX6_warnDays_2 : (decode cX6_warnDays 34 = .ok (.getfield 33, 3)) ∧ (decode cX6_warnDays 37 = .ok (.iload_n 1, 1)) ∧ (decode cX6_warnDays 38 = .ok (.invokestatic 98, 3)) ∧ (decode cX6_warnDays 41 = .ok (.ifCond .eq 16, 3)) ∧ (decode cX6_warnDays 44 = .ok (.aload_n 0, 1)) ∧ (decode cX6_warnDays 45 = .ok (.getfield 18, 3)) ∧ (decode cX6_warnDays 48 = .ok (.getfield 65, 3)) ∧ (decode cX6_warnDays 51 = .ok (.iload_n 2, 1)) ∧ (decode cX6_warnDays 52 = .ok (.iconst 1, 1)) ∧ (decode cX6_warnDays 53 = .ok (.invokevirtual 46, 3)) := by decide +kernel
theorem gX6_leastHeard_0 : (decode cX6_leastHeard 0 = .ok (.iconst 0, 1)) ∧ (decode cX6_leastHeard 1 = .ok (.istore_n 1, 1)) ∧ (decode cX6_leastHeard 2 = .ok (.iconst 0, 1)) ∧ (decode cX6_leastHeard 3 = .ok (.istore_n 2, 1)) ∧ (decode cX6_leastHeard 4 = .ok (.iload_n 2, 1)) ∧ (decode cX6_leastHeard 5 = .ok (.aload_n 0, 1)) ∧ (decode cX6_leastHeard 6 = .ok (.getfield 30, 3)) ∧ (decode cX6_leastHeard 9 = .ok (.if_icmp .ge 48, 3)) ∧ (decode cX6_leastHeard 12 = .ok (.aload_n 0, 1)) ∧ (decode cX6_leastHeard 13 = .ok (.getfield 18, 3)) := by decide +kernel
theorem gX6_leastHeard_3 : (decode cX6_leastHeard 54 = .ok (.goto (-50), 3)) ∧ (decode cX6_leastHeard 57 = .ok (.iload_n 1, 1)) ∧ (decode cX6_leastHeard 58 = .ok (.ireturn, 1)) := by decide +kernel
theorem gX6_leastHeard_1 : (decode cX6_leastHeard 16 = .ok (.getfield 65, 3)) ∧ (decode cX6_leastHeard 19 = .ok (.aload_n 0, 1)) ∧ (decode cX6_leastHeard 20 = .ok (.getfield 26, 3)) ∧ (decode cX6_leastHeard 23 = .ok (.iload_n 2, 1)) ∧ (decode cX6_leastHeard 24 = .ok (.iadd, 1)) ∧ (decode cX6_leastHeard 25 = .ok (.iconst 0, 1)) ∧ (decode cX6_leastHeard 26 = .ok (.invokevirtual 46, 3)) ∧ (decode cX6_leastHeard 29 = .ok (.iconst 3, 1)) ∧ (decode cX6_leastHeard 30 = .ok (.if_icmp .ne 21, 3)) ∧ (decode cX6_leastHeard 33 = .ok (.aload_n 0, 1)) := by decide +kernel
theorem gX6_leastHeard_2 : (decode cX6_leastHeard 34 = .ok (.getfield 18, 3)) ∧ (decode cX6_leastHeard 37 = .ok (.getfield 65, 3)) ∧ (decode cX6_leastHeard 40 = .ok (.aload_n 0, 1)) ∧ (decode cX6_leastHeard 41 = .ok (.getfield 26, 3)) ∧ (decode cX6_leastHeard 44 = .ok (.iload_n 2, 1)) ∧ (decode cX6_leastHeard 45 = .ok (.iadd, 1)) ∧ (decode cX6_leastHeard 46 = .ok (.iconst 1, 1)) ∧ (decode cX6_leastHeard 47 = .ok (.invokevirtual 46, 3)) ∧ (decode cX6_leastHeard 50 = .ok (.istore_n 1, 1)) ∧ (decode cX6_leastHeard 51 = .ok (.iinc 2 1, 3)) := by decide +kernel
end WR
theorem sm_5_6 {a0 a1 a2 a3 a4 a5 a6 : Nat × va_E} {l : va_W} : ([5, 6] : List Nat).map (fun i => (a0 :: a1 :: a2 :: a3 :: a4 :: a5 :: a6 :: l : va_W)[i]?) = ([a5, a6] : va_W).map some := rfl
theorem fm_5_6 {a0 a1 a2 a3 a4 a5 a6 : Nat × va_E} {l : va_W} : ([5, 6] : List Nat).filterMap (fun i => (a0 :: a1 :: a2 :: a3 :: a4 :: a5 :: a6 :: l : va_W)[i]?) = ([a5, a6] : va_W) := rfl
theorem nd_5_6 : va_nd [5, 6] = true := by decide
theorem rm_3_1_5 {mc ms : Nat} : 1 + 1 ≤ (RM 3 mc ms).frames ∧ 8 + (5 + 11) + 40 * 1 ≤ (RM 3 mc ms).locals := ⟨by show 1 + 1 ≤ 3; decide, by show 8 + (5 + 11) + 40 * 1 ≤ 40 * 3; decide⟩
theorem sm_2_3_4 {a0 a1 a2 a3 a4 : Nat × va_E} {l : va_W} : ([2, 3, 4] : List Nat).map (fun i => (a0 :: a1 :: a2 :: a3 :: a4 :: l : va_W)[i]?) = ([a2, a3, a4] : va_W).map some := rfl
theorem fm_2_3_4 {a0 a1 a2 a3 a4 : Nat × va_E} {l : va_W} : ([2, 3, 4] : List Nat).filterMap (fun i => (a0 :: a1 :: a2 :: a3 :: a4 :: l : va_W)[i]?) = ([a2, a3, a4] : va_W) := rfl
theorem nd_2_3_4 : va_nd [2, 3, 4] = true := by decide
theorem sm_2_7_8 {a0 a1 a2 a3 a4 a5 a6 a7 a8 : Nat × va_E} {l : va_W} : ([2, 7, 8] : List Nat).map (fun i => (a0 :: a1 :: a2 :: a3 :: a4 :: a5 :: a6 :: a7 :: a8 :: l : va_W)[i]?) = ([a2, a7, a8] : va_W).map some := rfl
theorem fm_2_7_8 {a0 a1 a2 a3 a4 a5 a6 a7 a8 : Nat × va_E} {l : va_W} : ([2, 7, 8] : List Nat).filterMap (fun i => (a0 :: a1 :: a2 :: a3 :: a4 :: a5 :: a6 :: a7 :: a8 :: l : va_W)[i]?) = ([a2, a7, a8] : va_W) := rfl
theorem nd_2_7_8 : va_nd [2, 7, 8] = true := by decide
theorem sm_0_1_2_9_10_11_12 {a0 a1 a2 a3 a4 a5 a6 a7 a8 a9 a10 a11 a12 : Nat × va_E} {l : va_W} : ([0, 1, 2, 9, 10, 11, 12] : List Nat).map (fun i => (a0 :: a1 :: a2 :: a3 :: a4 :: a5 :: a6 :: a7 :: a8 :: a9 :: a10 :: a11 :: a12 :: l : va_W)[i]?) = ([a0, a1, a2, a9, a10, a11, a12] : va_W).map some := rfl
theorem fm_0_1_2_9_10_11_12 {a0 a1 a2 a3 a4 a5 a6 a7 a8 a9 a10 a11 a12 : Nat × va_E} {l : va_W} : ([0, 1, 2, 9, 10, 11, 12] : List Nat).filterMap (fun i => (a0 :: a1 :: a2 :: a3 :: a4 :: a5 :: a6 :: a7 :: a8 :: a9 :: a10 :: a11 :: a12 :: l : va_W)[i]?) = ([a0, a1, a2, a9, a10, a11, a12] : va_W) := rfl
theorem nd_0_1_2_9_10_11_12 : va_nd [0, 1, 2, 9, 10, 11, 12] = true := by decide
theorem sm_0_2_3_4 {a0 a1 a2 a3 a4 : Nat × va_E} {l : va_W} : ([0, 2, 3, 4] : List Nat).map (fun i => (a0 :: a1 :: a2 :: a3 :: a4 :: l : va_W)[i]?) = ([a0, a2, a3, a4] : va_W).map some := rfl
theorem fm_0_2_3_4 {a0 a1 a2 a3 a4 : Nat × va_E} {l : va_W} : ([0, 2, 3, 4] : List Nat).filterMap (fun i => (a0 :: a1 :: a2 :: a3 :: a4 :: l : va_W)[i]?) = ([a0, a2, a3, a4] : va_W) := rfl
theorem nd_0_2_3_4 : va_nd [0, 2, 3, 4] = true := by decide
theorem rm_4_2_1 {mc ms : Nat} : 2 + 1 ≤ (RM 4 mc ms).frames ∧ 8 + (1 + 11) + 40 * 2 ≤ (RM 4 mc ms).locals := ⟨by show 2 + 1 ≤ 4; decide, by show 8 + (1 + 11) + 40 * 2 ≤ 40 * 4; decide⟩
theorem sm_0_1_2_3_4 {a0 a1 a2 a3 a4 : Nat × va_E} {l : va_W} : ([0, 1, 2, 3, 4] : List Nat).map (fun i => (a0 :: a1 :: a2 :: a3 :: a4 :: l : va_W)[i]?) = ([a0, a1, a2, a3, a4] : va_W).map some := rfl
theorem fm_0_1_2_3_4 {a0 a1 a2 a3 a4 : Nat × va_E} {l : va_W} : ([0, 1, 2, 3, 4] : List Nat).filterMap (fun i => (a0 :: a1 :: a2 :: a3 :: a4 :: l : va_W)[i]?) = ([a0, a1, a2, a3, a4] : va_W) := rfl
theorem nd_0_1_2_3_4 : va_nd [0, 1, 2, 3, 4] = true := by decide
theorem rm_5_4_5 {mc ms : Nat} : 4 + 1 ≤ (RM 5 mc ms).frames ∧ 8 + (5 + 11) + 40 * 4 ≤ (RM 5 mc ms).locals := ⟨by show 4 + 1 ≤ 5; decide, by show 8 + (5 + 11) + 40 * 4 ≤ 40 * 5; decide⟩
theorem sm_0_1_9_10_11_12_13_14_15_16_17_18_19 {a0 a1 a2 a3 a4 a5 a6 a7 a8 a9 a10 a11 a12 a13 a14 a15 a16 a17 a18 a19 : Nat × va_E} {l : va_W} : ([0, 1, 9, 10, 11, 12, 13, 14, 15, 16, 17, 18, 19] : List Nat).map (fun i => (a0 :: a1 :: a2 :: a3 :: a4 :: a5 :: a6 :: a7 :: a8 :: a9 :: a10 :: a11 :: a12 :: a13 :: a14 :: a15 :: a16 :: a17 :: a18 :: a19 :: l : va_W)[i]?) = ([a0, a1, a9, a10, a11, a12, a13, a14, a15, a16, a17, a18, a19] : va_W).map some := rfl
theorem fm_0_1_9_10_11_12_13_14_15_16_17_18_19 {a0 a1 a2 a3 a4 a5 a6 a7 a8 a9 a10 a11 a12 a13 a14 a15 a16 a17 a18 a19 : Nat × va_E} {l : va_W} : ([0, 1, 9, 10, 11, 12, 13, 14, 15, 16, 17, 18, 19] : List Nat).filterMap (fun i => (a0 :: a1 :: a2 :: a3 :: a4 :: a5 :: a6 :: a7 :: a8 :: a9 :: a10 :: a11 :: a12 :: a13 :: a14 :: a15 :: a16 :: a17 :: a18 :: a19 :: l : va_W)[i]?) = ([a0, a1, a9, a10, a11, a12, a13, a14, a15, a16, a17, a18, a19] : va_W) := rfl
theorem nd_0_1_9_10_11_12_13_14_15_16_17_18_19 : va_nd [0, 1, 9, 10, 11, 12, 13, 14, 15, 16, 17, 18, 19] = true := by decide
theorem sm_2_3_4_5_6_7_8 {a0 a1 a2 a3 a4 a5 a6 a7 a8 : Nat × va_E} {l : va_W} : ([2, 3, 4, 5, 6, 7, 8] : List Nat).map (fun i => (a0 :: a1 :: a2 :: a3 :: a4 :: a5 :: a6 :: a7 :: a8 :: l : va_W)[i]?) = ([a2, a3, a4, a5, a6, a7, a8] : va_W).map some := rfl
theorem nd_2_3_4_5_6_7_8 : va_nd [2, 3, 4, 5, 6, 7, 8] = true := by decide
theorem dj_0_1_9_10_11_12_13_14_15_16_17_18_19__2_3_4_5_6_7_8 : ∀ i ∈ ([2, 3, 4, 5, 6, 7, 8] : List Nat), i ∉ ([0, 1, 9, 10, 11, 12, 13, 14, 15, 16, 17, 18, 19] : List Nat) := by decide
theorem rm_5_4_4 {mc ms : Nat} : 4 + 1 ≤ (RM 5 mc ms).frames ∧ 8 + (4 + 11) + 40 * 4 ≤ (RM 5 mc ms).locals := ⟨by show 4 + 1 ≤ 5; decide, by show 8 + (4 + 11) + 40 * 4 ≤ 40 * 5; decide⟩
theorem sm_7_0_9_16_17 {a0 a1 a2 a3 a4 a5 a6 a7 a8 a9 a10 a11 a12 a13 a14 a15 a16 a17 : Nat × va_E} {l : va_W} : ([7, 0, 9, 16, 17] : List Nat).map (fun i => (a0 :: a1 :: a2 :: a3 :: a4 :: a5 :: a6 :: a7 :: a8 :: a9 :: a10 :: a11 :: a12 :: a13 :: a14 :: a15 :: a16 :: a17 :: l : va_W)[i]?) = ([a7, a0, a9, a16, a17] : va_W).map some := rfl
theorem fm_7_0_9_16_17 {a0 a1 a2 a3 a4 a5 a6 a7 a8 a9 a10 a11 a12 a13 a14 a15 a16 a17 : Nat × va_E} {l : va_W} : ([7, 0, 9, 16, 17] : List Nat).filterMap (fun i => (a0 :: a1 :: a2 :: a3 :: a4 :: a5 :: a6 :: a7 :: a8 :: a9 :: a10 :: a11 :: a12 :: a13 :: a14 :: a15 :: a16 :: a17 :: l : va_W)[i]?) = ([a7, a0, a9, a16, a17] : va_W) := rfl
theorem nd_7_0_9_16_17 : va_nd [7, 0, 9, 16, 17] = true := by decide
theorem sm_1_2_3_4_5_6_8_10_11_12_13_14_15_18_19 {a0 a1 a2 a3 a4 a5 a6 a7 a8 a9 a10 a11 a12 a13 a14 a15 a16 a17 a18 a19 : Nat × va_E} {l : va_W} : ([1, 2, 3, 4, 5, 6, 8, 10, 11, 12, 13, 14, 15, 18, 19] : List Nat).map (fun i => (a0 :: a1 :: a2 :: a3 :: a4 :: a5 :: a6 :: a7 :: a8 :: a9 :: a10 :: a11 :: a12 :: a13 :: a14 :: a15 :: a16 :: a17 :: a18 :: a19 :: l : va_W)[i]?) = ([a1, a2, a3, a4, a5, a6, a8, a10, a11, a12, a13, a14, a15, a18, a19] : va_W).map some := rfl
theorem nd_1_2_3_4_5_6_8_10_11_12_13_14_15_18_19 : va_nd [1, 2, 3, 4, 5, 6, 8, 10, 11, 12, 13, 14, 15, 18, 19] = true := by decide
theorem dj_7_0_9_16_17__1_2_3_4_5_6_8_10_11_12_13_14_15_18_19 : ∀ i ∈ ([1, 2, 3, 4, 5, 6, 8, 10, 11, 12, 13, 14, 15, 18, 19] : List Nat), i ∉ ([7, 0, 9, 16, 17] : List Nat) := by decide
theorem fm_16_0_1_2_3_4_5_15_6_17_7_8_9_10_11_12_18_19_13_14 {a0 a1 a2 a3 a4 a5 a6 a7 a8 a9 a10 a11 a12 a13 a14 a15 a16 a17 a18 a19 : Nat × va_E} {l : va_W} : ([16, 0, 1, 2, 3, 4, 5, 15, 6, 17, 7, 8, 9, 10, 11, 12, 18, 19, 13, 14] : List Nat).filterMap (fun i => (a0 :: a1 :: a2 :: a3 :: a4 :: a5 :: a6 :: a7 :: a8 :: a9 :: a10 :: a11 :: a12 :: a13 :: a14 :: a15 :: a16 :: a17 :: a18 :: a19 :: l : va_W)[i]?) = ([a16, a0, a1, a2, a3, a4, a5, a15, a6, a17, a7, a8, a9, a10, a11, a12, a18, a19, a13, a14] : va_W) := rfl
theorem nd_16_0_1_2_3_4_5_15_6_17_7_8_9_10_11_12_18_19_13_14 : va_nd [16, 0, 1, 2, 3, 4, 5, 15, 6, 17, 7, 8, 9, 10, 11, 12, 18, 19, 13, 14] = true := by decide
theorem sm_16_0_1_2_3_4_5_15_6_17_7_8_9_10_11_12_18_19_13_14 {a0 a1 a2 a3 a4 a5 a6 a7 a8 a9 a10 a11 a12 a13 a14 a15 a16 a17 a18 a19 : Nat × va_E} {l : va_W} : ([16, 0, 1, 2, 3, 4, 5, 15, 6, 17, 7, 8, 9, 10, 11, 12, 18, 19, 13, 14] : List Nat).map (fun i => (a0 :: a1 :: a2 :: a3 :: a4 :: a5 :: a6 :: a7 :: a8 :: a9 :: a10 :: a11 :: a12 :: a13 :: a14 :: a15 :: a16 :: a17 :: a18 :: a19 :: l : va_W)[i]?) = ([a16, a0, a1, a2, a3, a4, a5, a15, a6, a17, a7, a8, a9, a10, a11, a12, a18, a19, a13, a14] : va_W).map some := rfl
theorem rm_5_4_6 {mc ms : Nat} : 4 + 1 ≤ (RM 5 mc ms).frames ∧ 8 + (6 + 11) + 40 * 4 ≤ (RM 5 mc ms).locals := ⟨by show 4 + 1 ≤ 5; decide, by show 8 + (6 + 11) + 40 * 4 ≤ 40 * 5; decide⟩
theorem sm_1_2_3_4_5_6_9_14_15_12_13 {a0 a1 a2 a3 a4 a5 a6 a7 a8 a9 a10 a11 a12 a13 a14 a15 : Nat × va_E} {l : va_W} : ([1, 2, 3, 4, 5, 6, 9, 14, 15, 12, 13] : List Nat).map (fun i => (a0 :: a1 :: a2 :: a3 :: a4 :: a5 :: a6 :: a7 :: a8 :: a9 :: a10 :: a11 :: a12 :: a13 :: a14 :: a15 :: l : va_W)[i]?) = ([a1, a2, a3, a4, a5, a6, a9, a14, a15, a12, a13] : va_W).map some := rfl
theorem fm_1_2_3_4_5_6_9_14_15_12_13 {a0 a1 a2 a3 a4 a5 a6 a7 a8 a9 a10 a11 a12 a13 a14 a15 : Nat × va_E} {l : va_W} : ([1, 2, 3, 4, 5, 6, 9, 14, 15, 12, 13] : List Nat).filterMap (fun i => (a0 :: a1 :: a2 :: a3 :: a4 :: a5 :: a6 :: a7 :: a8 :: a9 :: a10 :: a11 :: a12 :: a13 :: a14 :: a15 :: l : va_W)[i]?) = ([a1, a2, a3, a4, a5, a6, a9, a14, a15, a12, a13] : va_W) := rfl
theorem nd_1_2_3_4_5_6_9_14_15_12_13 : va_nd [1, 2, 3, 4, 5, 6, 9, 14, 15, 12, 13] = true := by decide
def K_c_isSo (l : Launch) (G : GG) (h0 : Nat) (stp : Int32) (bb : Nat) (sg : Nat) (fc : Nat) (sh : Nat) (r1 : Int32) (rc : Int32) (rh : Int32) (ffc : Nat → Int32) : Prop := MP l G yX6_isSo cX6_isSo 5 (some .boolean) 1 [.ref h0, .int stp] [(h0, oX6 bb sg fc sh r1 rc rh), (fc, iA G 5 ffc)] (fun r : Int32 => r = 1 ∨ r = 0)
set_option maxHeartbeats 4000000 in
set_option maxRecDepth 100000 in
theorem c_isSo (l : Launch) (G : GG) (h0 : Nat) (stp : Int32) (bb : Nat) (sg : Nat) (fc : Nat) (sh : Nat) (r1 : Int32) (rc : Int32) (rh : Int32) (ffc : Nat → Int32) : K_c_isSo l G h0 stp bb sg fc sh r1 rc rh ffc := by
  refine MP.start (by decide +kernel) (Nat.le_of_ble_eq_true rfl) ?_
  intro p e s m below meth c ls hC hK hP hD hl
  refine absQ (fun Q0 hQ0 => ?_)
  have hl : lv_has ls 5 [(0, .ref h0), (1, .int stp)] := hl
  refine Kan8 hC (fun hx hb hr hml hB hown hlocks hnm => ?_)
  refine lv_iload_n hx hb gX6_isSo_0.1 rfl (lv_at1 hl) ?_
  refine lv_sipush (v := 1000) hx hb gX6_isSo_0.2.1 (by decide) ?_
  refine lv_idiv hx hb gX6_isSo_0.2.2.1 (by decide) ?_
  refine lv_topi (fun x1175 ex1175 => ?_)
  refine lv_iconst (v := 3) hx hb gX6_isSo_0.2.2.2.1 (by decide) ?_
  refine lv_idiv hx hb gX6_isSo_0.2.2.2.2.1 (by decide) ?_
  refine lv_topi (fun x1176 ex1176 => ?_)
  refine lv_istore_n (lv' := [(2, .int x1176), (0, .ref h0), (1, .int stp)]) hx hb gX6_isSo_0.2.2.2.2.2.1 rfl hl (by decide) rfl (fun ls hl => ?_)
  refine lv_iload_n hx hb gX6_isSo_0.2.2.2.2.2.2.1 rfl (lv_at2 hl) ?_
  refine lv_sipush (v := 1000) hx hb gX6_isSo_0.2.2.2.2.2.2.2.1 (by decide) ?_
  refine lv_idiv hx hb gX6_isSo_0.2.2.2.2.2.2.2.2.1 (by decide) ?_
  refine lv_topi (fun x1177 ex1177 => ?_)
  refine lv_iconst (v := 3) hx hb gX6_isSo_0.2.2.2.2.2.2.2.2.2 (by decide) ?_
  refine lv_irem hx hb gX6_isSo_1.1 (by decide) ?_
  refine lv_topi (fun x1178 ex1178 => ?_)
  refine lv_istore_n (lv' := [(3, .int x1178), (2, .int x1176), (0, .ref h0), (1, .int stp)]) hx hb gX6_isSo_1.2.1 rfl hl (by decide) rfl (fun ls hl => ?_)
  refine lv_iload_n hx hb gX6_isSo_1.2.2.1 rfl (lv_at3 hl) ?_
  refine lv_sipush (v := 1000) hx hb gX6_isSo_1.2.2.2.1 (by decide) ?_
  refine lv_irem hx hb gX6_isSo_1.2.2.2.2.1 (by decide) ?_
  refine lv_topi (fun x1179 ex1179 => ?_)
  refine lv_istore (lv' := [(4, .int x1179), (3, .int x1178), (2, .int x1176), (0, .ref h0), (1, .int stp)]) hx hb gX6_isSo_1.2.2.2.2.2.1 hl (by decide) rfl (fun ls hl => ?_)
  refine lv_iload_n hx hb gX6_isSo_1.2.2.2.2.2.2.1 rfl (lv_at2 hl) ?_
  refine lv_if_lt (tgt := 36) hx hb gX6_isSo_1.2.2.2.2.2.2.2.1 (by decide) (fun c_24_1180 => ?_) (fun c_24_1180 => ?_)
  · refine lv_iconst (v := 0) hx hb gX6_isSo_2.2.2.2.1 (by decide) ?_
    refine toQ hQ0 ?_
    exact RP (v := 0) hC (Or.inr (rfl)) (by decide +kernel) gX6_isSo_2.2.2.2.2.1
  · refine lv_iload_n hx hb gX6_isSo_1.2.2.2.2.2.2.2.2.1 rfl (lv_at2 hl) ?_
    refine lv_aload_n hx hb gX6_isSo_1.2.2.2.2.2.2.2.2.2 rfl (lv_at3 hl) ?_
    refine gf_X6_9 hC rfl hK hP 0 rfl rfl gX6_isSo_2.1 ?_
    refine va_alen (v := 5) hx hb hK.1 hP 1 0 rfl rfl (show Int32.ofNat 5 = 5 by decide) gX6_isSo_2.2.1 ?_
    refine lv_icmp_lt (tgt := 38) hx hb gX6_isSo_2.2.2.1 (by decide) (fun c_33_1181 => ?_) (fun c_33_1181 => ?_)
    · obtain ⟨jf, hjf, rfl⟩ := ltN (N := 5) (by decide) c_24_1180 (Int32.not_le.mpr c_33_1181)
      refine lv_iload_n hx hb gX6_isSo_2.2.2.2.2.2.1 rfl (lv_at1 hl) ?_
      refine lv_if_ne (tgt := 59) hx hb gX6_isSo_2.2.2.2.2.2.2.1 (by decide) (fun c_39_1182 => ?_) (fun c_39_1182 => ?_)
      · refine lv_iload_n hx hb gX6_isSo_3.2.2.2.2.2.2.2.1 rfl (lv_at1 hl) ?_
        refine lv_iconst (v := 1) hx hb gX6_isSo_3.2.2.2.2.2.2.2.2.1 (by decide) ?_
        refine lv_icmp_ne (tgt := 83) hx hb gX6_isSo_3.2.2.2.2.2.2.2.2.2 (by decide) (fun c_61_1183 => ?_) (fun c_61_1183 => ?_)
        · refine lv_aload_n hx hb gX6_isSo_5.1 rfl (lv_at3 hl) ?_
          refine gf_X6_9 hC rfl hK hP 0 rfl rfl gX6_isSo_5.2.1 ?_
          refine lv_iload_n hx hb gX6_isSo_5.2.2.1 rfl (lv_at2 hl) ?_
          refine aldN hC hK hP 1 rfl (k := jf) (by omega) (Nat.le_of_ble_eq_true rfl) (v := ffc jf) rfl gX6_isSo_5.2.2.2.1 ?_
          refine lv_topi (fun x1184 ex1184 => ?_)
          refine lv_iload hx hb gX6_isSo_5.2.2.2.2.1 (lv_at0 hl) ?_
          refine lv_icmp_le (tgt := 98) hx hb gX6_isSo_5.2.2.2.2.2.1 (by decide) (fun c_91_1185 => ?_) (fun c_91_1185 => ?_)
          · refine lv_iconst (v := 0) hx hb gX6_isSo_5.2.2.2.2.2.2.2.2.1 (by decide) ?_
            refine toQ hQ0 ?_
            exact RP (v := 0) hC (Or.inr (rfl)) (by decide +kernel) gX6_isSo_5.2.2.2.2.2.2.2.2.2
          · refine lv_iconst (v := 1) hx hb gX6_isSo_5.2.2.2.2.2.2.1 (by decide) ?_
            refine lv_goto (tgt := 99) hx hb gX6_isSo_5.2.2.2.2.2.2.2.1 (by decide) ?_
            refine toQ hQ0 ?_
            exact RP (v := 1) hC (Or.inl (rfl)) (by decide +kernel) gX6_isSo_5.2.2.2.2.2.2.2.2.2
        · refine lv_aload_n hx hb gX6_isSo_4.1 rfl (lv_at3 hl) ?_
          refine gf_X6_9 hC rfl hK hP 0 rfl rfl gX6_isSo_4.2.1 ?_
          refine lv_iload_n hx hb gX6_isSo_4.2.2.1 rfl (lv_at2 hl) ?_
          refine aldN hC hK hP 1 rfl (k := jf) (by omega) (Nat.le_of_ble_eq_true rfl) (v := ffc jf) rfl gX6_isSo_4.2.2.2.1 ?_
          refine lv_topi (fun x1186 ex1186 => ?_)
          refine lv_iload hx hb gX6_isSo_4.2.2.2.2.1 (lv_at0 hl) ?_
          refine lv_icmp_ne (tgt := 79) hx hb gX6_isSo_4.2.2.2.2.2.1 (by decide) (fun c_72_1187 => ?_) (fun c_72_1187 => ?_)
          · refine lv_iconst (v := 0) hx hb gX6_isSo_4.2.2.2.2.2.2.2.2.1 (by decide) ?_
            refine lv_goto (tgt := 99) hx hb gX6_isSo_4.2.2.2.2.2.2.2.2.2 (by decide) ?_
            refine toQ hQ0 ?_
            exact RP (v := 0) hC (Or.inr (rfl)) (by decide +kernel) gX6_isSo_5.2.2.2.2.2.2.2.2.2
          · refine lv_iconst (v := 1) hx hb gX6_isSo_4.2.2.2.2.2.2.1 (by decide) ?_
            refine lv_goto (tgt := 99) hx hb gX6_isSo_4.2.2.2.2.2.2.2.1 (by decide) ?_
            refine toQ hQ0 ?_
            exact RP (v := 1) hC (Or.inl (rfl)) (by decide +kernel) gX6_isSo_5.2.2.2.2.2.2.2.2.2
      · refine lv_aload_n hx hb gX6_isSo_2.2.2.2.2.2.2.2.1 rfl (lv_at3 hl) ?_
        refine gf_X6_9 hC rfl hK hP 0 rfl rfl gX6_isSo_2.2.2.2.2.2.2.2.2.1 ?_
        refine lv_iload_n hx hb gX6_isSo_2.2.2.2.2.2.2.2.2.2 rfl (lv_at2 hl) ?_
        refine aldN hC hK hP 1 rfl (k := jf) (by omega) (Nat.le_of_ble_eq_true rfl) (v := ffc jf) rfl gX6_isSo_3.1 ?_
        refine lv_topi (fun x1188 ex1188 => ?_)
        refine lv_iload hx hb gX6_isSo_3.2.1 (lv_at0 hl) ?_
        refine lv_icmp_ge (tgt := 57) hx hb gX6_isSo_3.2.2.1 (by decide) (fun c_50_1189 => ?_) (fun c_50_1189 => ?_)
        · refine lv_iconst (v := 0) hx hb gX6_isSo_3.2.2.2.2.2.1 (by decide) ?_
          refine toQ hQ0 ?_
          exact RP (v := 0) hC (Or.inr (rfl)) (by decide +kernel) gX6_isSo_3.2.2.2.2.2.2.1
        · refine lv_iconst (v := 1) hx hb gX6_isSo_3.2.2.2.1 (by decide) ?_
          refine lv_goto (tgt := 58) hx hb gX6_isSo_3.2.2.2.2.1 (by decide) ?_
          refine toQ hQ0 ?_
          exact RP (v := 1) hC (Or.inl (rfl)) (by decide +kernel) gX6_isSo_3.2.2.2.2.2.2.1
    · refine lv_iconst (v := 0) hx hb gX6_isSo_2.2.2.2.1 (by decide) ?_
      refine toQ hQ0 ?_
      exact RP (v := 0) hC (Or.inr (rfl)) (by decide +kernel) gX6_isSo_2.2.2.2.2.1
def K_c_holds (l : Launch) (G : GG) (h0 : Nat) (li : Int32) (bb : Nat) (sg : Nat) (fc : Nat) (sh : Nat) (r1 : Int32) (rc : Int32) (rh : Int32) (ffc : Nat → Int32) (bpersons : Nat) (bpapers : Nat) (bstamps : Nat) (bversions : Nat) (blines : Nat) (bsteps : Nat) (bsayings : Nat) (bfindings : Nat) (bwarnings : Nat) (bquestions : Nat) (td : Int32) (vd : Int32) (vl : Int32) (gp : Int32) (blinesc : Nat) (kblines : Nat) (fblines : Nat → Int32) (bstepsc : Nat) (kbsteps : Nat) (fbsteps : Nat → Int32) : Prop := MP l G yX6_holds cX6_holds 8 (some .boolean) 3 [.ref h0, .int li] [(h0, oX6 bb sg fc sh r1 rc rh), (fc, iA G 5 ffc), (bb, oX0 bpersons bpapers bstamps bversions blines bsteps bsayings bfindings bwarnings bquestions td vd vl gp), (blines, oX8 72 7 blinesc (nI kblines)), (blinesc, iA G 504 fblines), (bsteps, oX8 960 1 bstepsc (nI kbsteps)), (bstepsc, iA G 960 fbsteps)] (fun r : Int32 => r = 1 ∨ r = 0)
set_option maxHeartbeats 4000000 in
set_option maxRecDepth 100000 in
theorem c_holds (l : Launch) (G : GG) (h0 : Nat) (li : Int32) (bb : Nat) (sg : Nat) (fc : Nat) (sh : Nat) (r1 : Int32) (rc : Int32) (rh : Int32) (ffc : Nat → Int32) (bpersons : Nat) (bpapers : Nat) (bstamps : Nat) (bversions : Nat) (blines : Nat) (bsteps : Nat) (bsayings : Nat) (bfindings : Nat) (bwarnings : Nat) (bquestions : Nat) (td : Int32) (vd : Int32) (vl : Int32) (gp : Int32) (blinesc : Nat) (kblines : Nat) (fblines : Nat → Int32) (bstepsc : Nat) (kbsteps : Nat) (fbsteps : Nat → Int32) (hkblines : kblines ≤ 72) (hkbsteps : kbsteps ≤ 960) : K_c_holds l G h0 li bb sg fc sh r1 rc rh ffc bpersons bpapers bstamps bversions blines bsteps bsayings bfindings bwarnings bquestions td vd vl gp blinesc kblines fblines bstepsc kbsteps fbsteps := by
  refine MP.start (by decide +kernel) (Nat.le_of_ble_eq_true rfl) ?_
  intro p e s m below meth c ls hC hK hP hD hl
  refine absQ (fun Q0 hQ0 => ?_)
  have hl : lv_has ls 8 [(0, .ref h0), (1, .int li)] := hl
  refine Kan8 hC (fun hx hb hr hml hB hown hlocks hnm => ?_)
  refine lv_aload_n hx hb gX6_holds_0.1 rfl (lv_at0 hl) ?_
  refine gf_X6_18 hC rfl hK hP 0 rfl rfl gX6_holds_0.2.1 ?_
  refine gf_X6_65 hC rfl hK hP 2 rfl rfl gX6_holds_0.2.2.1 ?_
  refine lv_iload_n hx hb gX6_holds_0.2.2.2.1 rfl (lv_at1 hl) ?_
  refine lv_iconst (v := 5) hx hb gX6_holds_0.2.2.2.2.1 (by decide) ?_
  refine pV hC hK hl hP hD (c_T_at l G blines li 5 72 7 blinesc kblines fblines (hkblines) (by omega) (by omega)) si_X6_46 [3, 4] sm_3_4 fm_3_4 nd_3_4 rfl rfl rfl rfl rfl (Nat.le_of_ble_eq_true rfl) rm_3_1_3 ⟨by first | exact Nat.le_of_ble_eq_true rfl | exact Nat.zero_le _, by first | exact Nat.le_of_ble_eq_true rfl | exact Nat.zero_le _⟩ gX6_holds_0.2.2.2.2.2.1 (fun r1190 hr1190 => ?_)
  refine lv_istore_n (lv' := [(2, .int r1190), (0, .ref h0), (1, .int li)]) hx hb gX6_holds_0.2.2.2.2.2.2.1 rfl hl (by decide) rfl (fun ls hl => ?_)
  refine lv_aload_n hx hb gX6_holds_0.2.2.2.2.2.2.2.1 rfl (lv_at1 hl) ?_
  refine gf_X6_18 hC rfl hK hP 0 rfl rfl gX6_holds_0.2.2.2.2.2.2.2.2.1 ?_
  refine gf_X6_65 hC rfl hK hP 2 rfl rfl gX6_holds_0.2.2.2.2.2.2.2.2.2 ?_
  refine lv_iload_n hx hb gX6_holds_1.1 rfl (lv_at2 hl) ?_
  refine lv_bipush (v := 6) hx hb gX6_holds_1.2.1 (by decide) ?_
  refine pV hC hK hl hP hD (c_T_at l G blines li 6 72 7 blinesc kblines fblines (hkblines) (by omega) (by omega)) si_X6_46 [3, 4] sm_3_4 fm_3_4 nd_3_4 rfl rfl rfl rfl rfl (Nat.le_of_ble_eq_true rfl) rm_3_1_3 ⟨by first | exact Nat.le_of_ble_eq_true rfl | exact Nat.zero_le _, by first | exact Nat.le_of_ble_eq_true rfl | exact Nat.zero_le _⟩ gX6_holds_1.2.2.1 (fun r1192 hr1192 => ?_)
  refine lv_istore_n (lv' := [(3, .int r1192), (2, .int r1190), (0, .ref h0), (1, .int li)]) hx hb gX6_holds_1.2.2.2.1 rfl hl (by decide) rfl (fun ls hl => ?_)
  refine lv_iconst (v := 1) hx hb gX6_holds_1.2.2.2.2.1 (by decide) ?_
  refine lv_istore (lv' := [(4, .int 1), (3, .int r1192), (2, .int r1190), (0, .ref h0), (1, .int li)]) hx hb gX6_holds_1.2.2.2.2.2.1 hl (by decide) rfl (fun ls hl => ?_)
  refine lv_iconst (v := 0) hx hb gX6_holds_1.2.2.2.2.2.2.1 (by decide) ?_
  refine lv_istore (lv' := [(5, .int 0), (4, .int 1), (3, .int r1192), (2, .int r1190), (0, .ref h0), (1, .int li)]) hx hb gX6_holds_1.2.2.2.2.2.2.2.1 hl (by decide) rfl (fun ls hl => ?_)
  have keyP : ∀ (nP kP : Nat) (pi : Int32) (ls : Array Slot), kP < 2 ^ 31 → (r1192).toInt ≤ ((kP + nP : Nat) : Int) → lv_has ls 8 [(5, .int (nI kP)), (4, .int pi), (3, .int r1192), (2, .int r1190), (0, .ref h0), (1, .int li)] → W p l e (RM 3 0 0) s m ([.ref h0, .int li] : List Value).toArray below meth c s.heap [] 0 0 Q0 (F0 m 33 ls []) := by
    intro nP
    induction nP with
    | zero =>
      intro kP pi ls hjP hkP hl
      have hzP : r1192 ≤ nI kP := bz hjP (by omega)
      refine lv_iload hx hb gX6_holds_1.2.2.2.2.2.2.2.2.1 (lv_at0 hl) ?_
      refine lv_iload_n hx hb gX6_holds_1.2.2.2.2.2.2.2.2.2 rfl (lv_at2 hl) ?_
      refine lv_icmp_ge (tgt := 143) hx hb gX6_holds_2.1 (by decide) (fun _ => ?_) (fun c9 => absurd (hzP) c9)
      refine lv_iload hx hb gX6_holds_7.2.2.2.2.2.2.1 (lv_at1 hl) ?_
      refine lv_iconst (v := 1) hx hb gX6_holds_7.2.2.2.2.2.2.2.1 (by decide) ?_
      refine lv_iand hx hb gX6_holds_7.2.2.2.2.2.2.2.2.1 ?_
      refine lv_iconst (v := 1) hx hb gX6_holds_7.2.2.2.2.2.2.2.2.2 (by decide) ?_
      refine lv_icmp_ne (tgt := 155) hx hb gX6_holds_8.1 (by decide) (fun c_148_1194 => ?_) (fun c_148_1194 => ?_)
      · refine lv_iconst (v := 0) hx hb gX6_holds_8.2.2.2.1 (by decide) ?_
        refine toQ hQ0 ?_
        exact RP (v := 0) hC (Or.inr (rfl)) (by decide +kernel) gX6_holds_8.2.2.2.2
      · refine lv_iconst (v := 1) hx hb gX6_holds_8.2.1 (by decide) ?_
        refine lv_goto (tgt := 156) hx hb gX6_holds_8.2.2.1 (by decide) ?_
        refine toQ hQ0 ?_
        exact RP (v := 1) hC (Or.inl (rfl)) (by decide +kernel) gX6_holds_8.2.2.2.2
    | succ nP ihP =>
      intro kP pi ls hjP hkP hl
      refine lv_iload hx hb gX6_holds_1.2.2.2.2.2.2.2.2.1 (lv_at0 hl) ?_
      refine lv_iload_n hx hb gX6_holds_1.2.2.2.2.2.2.2.2.2 rfl (lv_at2 hl) ?_
      refine lv_icmp_ge (tgt := 143) hx hb gX6_holds_2.1 (by decide) (fun c_36_1195 => ?_) (fun c_36_1195 => ?_)
      · refine lv_iload hx hb gX6_holds_7.2.2.2.2.2.2.1 (lv_at1 hl) ?_
        refine lv_iconst (v := 1) hx hb gX6_holds_7.2.2.2.2.2.2.2.1 (by decide) ?_
        refine lv_iand hx hb gX6_holds_7.2.2.2.2.2.2.2.2.1 ?_
        refine lv_iconst (v := 1) hx hb gX6_holds_7.2.2.2.2.2.2.2.2.2 (by decide) ?_
        refine lv_icmp_ne (tgt := 155) hx hb gX6_holds_8.1 (by decide) (fun c_148_1196 => ?_) (fun c_148_1196 => ?_)
        · refine lv_iconst (v := 0) hx hb gX6_holds_8.2.2.2.1 (by decide) ?_
          refine toQ hQ0 ?_
          exact RP (v := 0) hC (Or.inr (rfl)) (by decide +kernel) gX6_holds_8.2.2.2.2
        · refine lv_iconst (v := 1) hx hb gX6_holds_8.2.1 (by decide) ?_
          refine lv_goto (tgt := 156) hx hb gX6_holds_8.2.2.1 (by decide) ?_
          refine toQ hQ0 ?_
          exact RP (v := 1) hC (Or.inl (rfl)) (by decide +kernel) gX6_holds_8.2.2.2.2
      · refine lv_aload_n hx hb gX6_holds_2.2.1 rfl (lv_at4 hl) ?_
        refine gf_X6_18 hC rfl hK hP 0 rfl rfl gX6_holds_2.2.2.1 ?_
        refine gf_X6_68 hC rfl hK hP 2 rfl rfl gX6_holds_2.2.2.2.1 ?_
        refine lv_iload_n hx hb gX6_holds_2.2.2.2.2.1 rfl (lv_at3 hl) ?_
        refine lv_iload hx hb gX6_holds_2.2.2.2.2.2.1 (lv_at0 hl) ?_
        refine lv_iadd hx hb gX6_holds_2.2.2.2.2.2.2.1 ?_
        refine lv_iconst (v := 0) hx hb gX6_holds_2.2.2.2.2.2.2.2.1 (by decide) ?_
        refine pV hC hK hl hP hD (c_T_at l G bsteps (r1190 + (nI kP)) 0 960 1 bstepsc kbsteps fbsteps (hkbsteps) (by omega) (by omega)) si_X6_46 [5, 6] sm_5_6 fm_5_6 nd_5_6 rfl rfl rfl rfl rfl (Nat.le_of_ble_eq_true rfl) rm_3_1_3 ⟨by first | exact Nat.le_of_ble_eq_true rfl | exact Nat.zero_le _, by first | exact Nat.le_of_ble_eq_true rfl | exact Nat.zero_le _⟩ gX6_holds_2.2.2.2.2.2.2.2.2.1 (fun r1197 hr1197 => ?_)
        refine lv_istore (lv' := [(6, .int r1197), (5, .int (nI kP)), (4, .int pi), (3, .int r1192), (2, .int r1190), (0, .ref h0), (1, .int li)]) hx hb gX6_holds_2.2.2.2.2.2.2.2.2.2 hl (by decide) rfl (fun ls hl => ?_)
        refine lv_iload hx hb gX6_holds_3.1 (lv_at0 hl) ?_
        refine lv_if_lt (tgt := 85) hx hb gX6_holds_3.2.1 (by decide) (fun c_58_1199 => ?_) (fun c_58_1199 => ?_)
        · refine lv_iload hx hb gX6_holds_4.2.2.2.2.2.1 (lv_at0 hl) ?_
          refine lv_iconst (v := (-1)) hx hb gX6_holds_4.2.2.2.2.2.2.1 (by decide) ?_
          refine lv_icmp_ne (tgt := 100) hx hb gX6_holds_4.2.2.2.2.2.2.2.1 (by decide) (fun c_88_1200 => ?_) (fun c_88_1200 => ?_)
          · refine lv_iload hx hb gX6_holds_5.2.2.2.1 (lv_at2 hl) ?_
            refine lv_iconst (v := 1) hx hb gX6_holds_5.2.2.2.2.1 (by decide) ?_
            refine lv_iand hx hb gX6_holds_5.2.2.2.2.2.1 ?_
            refine lv_istore (lv' := [(7, .int (pi &&& 1)), (6, .int r1197), (5, .int (nI kP)), (4, .int pi), (3, .int r1192), (2, .int r1190), (0, .ref h0), (1, .int li)]) hx hb gX6_holds_5.2.2.2.2.2.2.1 hl (by decide) rfl (fun ls hl => ?_)
            refine lv_iload hx hb gX6_holds_5.2.2.2.2.2.2.2.1 (lv_at3 hl) ?_
            refine lv_iconst (v := 1) hx hb gX6_holds_5.2.2.2.2.2.2.2.2.1 (by decide) ?_
            refine lv_ishr hx hb gX6_holds_5.2.2.2.2.2.2.2.2.2 ?_
            refine lv_istore (lv' := [(4, .int (pi >>> (1 &&& 31))), (7, .int (pi &&& 1)), (6, .int r1197), (5, .int (nI kP)), (3, .int r1192), (2, .int r1190), (0, .ref h0), (1, .int li)]) hx hb gX6_holds_6.1 hl (by decide) rfl (fun ls hl => ?_)
            refine lv_iload hx hb gX6_holds_6.2.1 (lv_at2 hl) ?_
            refine lv_bipush (v := (-2)) hx hb gX6_holds_6.2.2.1 (by decide) ?_
            refine lv_icmp_ne (tgt := 130) hx hb gX6_holds_6.2.2.2.1 (by decide) (fun c_116_1201 => ?_) (fun c_116_1201 => ?_)
            · refine lv_iload hx hb gX6_holds_7.1 (lv_at0 hl) ?_
              refine lv_iload hx hb gX6_holds_7.2.1 (lv_at1 hl) ?_
              refine lv_ior hx hb gX6_holds_7.2.2.1 ?_
              refine lv_istore (lv' := [(4, .int ((pi >>> (1 &&& 31)) ||| (pi &&& 1))), (7, .int (pi &&& 1)), (6, .int r1197), (5, .int (nI kP)), (3, .int r1192), (2, .int r1190), (0, .ref h0), (1, .int li)]) hx hb gX6_holds_7.2.2.2.1 hl (by decide) rfl (fun ls hl => ?_)
              refine lv_iinc (v := nI (kP + 1)) (lv' := [(5, .int (nI (kP + 1))), (4, .int ((pi >>> (1 &&& 31)) ||| (pi &&& 1))), (7, .int (pi &&& 1)), (6, .int r1197), (3, .int r1192), (2, .int r1190), (0, .ref h0), (1, .int li)]) hx hb gX6_holds_7.2.2.2.2.1 hl (k := 3) rfl (nI_1 _) (by decide) rfl (fun ls hl => ?_)
              refine lv_goto (tgt := 33) hx hb gX6_holds_7.2.2.2.2.2.1 (by decide) ?_
              exact ihP (kP + 1) ((pi >>> (1 &&& 31)) ||| (pi &&& 1)) _ (bs hjP c_36_1195) (by omega) (lv_sub hl [0, 1, 4, 5, 6, 7] rfl)
            · refine lv_iload hx hb gX6_holds_6.2.2.2.2.1 (lv_at0 hl) ?_
              refine lv_bipush (v := (-2)) hx hb gX6_holds_6.2.2.2.2.2.1 (by decide) ?_
              refine lv_iload hx hb gX6_holds_6.2.2.2.2.2.2.1 (lv_at1 hl) ?_
              refine lv_ior hx hb gX6_holds_6.2.2.2.2.2.2.2.1 ?_
              refine lv_iand hx hb gX6_holds_6.2.2.2.2.2.2.2.2.1 ?_
              refine lv_goto (tgt := 135) hx hb gX6_holds_6.2.2.2.2.2.2.2.2.2 (by decide) ?_
              refine lv_istore (lv' := [(4, .int ((pi >>> (1 &&& 31)) &&& ((-2) ||| (pi &&& 1)))), (7, .int (pi &&& 1)), (6, .int r1197), (5, .int (nI kP)), (3, .int r1192), (2, .int r1190), (0, .ref h0), (1, .int li)]) hx hb gX6_holds_7.2.2.2.1 hl (by decide) rfl (fun ls hl => ?_)
              refine lv_iinc (v := nI (kP + 1)) (lv' := [(5, .int (nI (kP + 1))), (4, .int ((pi >>> (1 &&& 31)) &&& ((-2) ||| (pi &&& 1)))), (7, .int (pi &&& 1)), (6, .int r1197), (3, .int r1192), (2, .int r1190), (0, .ref h0), (1, .int li)]) hx hb gX6_holds_7.2.2.2.2.1 hl (k := 3) rfl (nI_1 _) (by decide) rfl (fun ls hl => ?_)
              refine lv_goto (tgt := 33) hx hb gX6_holds_7.2.2.2.2.2.1 (by decide) ?_
              exact ihP (kP + 1) ((pi >>> (1 &&& 31)) &&& ((-2) ||| (pi &&& 1))) _ (bs hjP c_36_1195) (by omega) (lv_sub hl [0, 1, 4, 5, 6, 7] rfl)
          · refine lv_iload hx hb gX6_holds_4.2.2.2.2.2.2.2.2.1 (lv_at2 hl) ?_
            refine lv_iconst (v := 1) hx hb gX6_holds_4.2.2.2.2.2.2.2.2.2 (by decide) ?_
            refine lv_ixor hx hb gX6_holds_5.1 ?_
            refine lv_istore (lv' := [(4, .int (pi ^^^ 1)), (6, .int r1197), (5, .int (nI kP)), (3, .int r1192), (2, .int r1190), (0, .ref h0), (1, .int li)]) hx hb gX6_holds_5.2.1 hl (by decide) rfl (fun ls hl => ?_)
            refine lv_goto (tgt := 137) hx hb gX6_holds_5.2.2.1 (by decide) ?_
            refine lv_iinc (v := nI (kP + 1)) (lv' := [(5, .int (nI (kP + 1))), (4, .int (pi ^^^ 1)), (6, .int r1197), (3, .int r1192), (2, .int r1190), (0, .ref h0), (1, .int li)]) hx hb gX6_holds_7.2.2.2.2.1 hl (k := 2) rfl (nI_1 _) (by decide) rfl (fun ls hl => ?_)
            refine lv_goto (tgt := 33) hx hb gX6_holds_7.2.2.2.2.2.1 (by decide) ?_
            exact ihP (kP + 1) (pi ^^^ 1) _ (bs hjP c_36_1195) (by omega) (lv_sub hl [0, 1, 3, 4, 5, 6] rfl)
        · refine lv_iload hx hb gX6_holds_3.2.2.1 (lv_at2 hl) ?_
          refine lv_iconst (v := 1) hx hb gX6_holds_3.2.2.2.1 (by decide) ?_
          refine lv_ishl hx hb gX6_holds_3.2.2.2.2.1 ?_
          refine lv_aload_n hx hb gX6_holds_3.2.2.2.2.2.1 rfl (lv_at5 hl) ?_
          refine lv_iload hx hb gX6_holds_3.2.2.2.2.2.2.1 (lv_at0 hl) ?_
          refine pV hC hK hl hP hD (c_isSo l G h0 r1197 bb sg fc sh r1 rc rh ffc) si_X6_71 [0, 1] sm_0_1 fm_0_1 nd_0_1 rfl rfl rfl rfl rfl (Nat.le_of_ble_eq_true rfl) rm_3_1_5 ⟨by first | exact Nat.le_of_ble_eq_true rfl | exact Nat.zero_le _, by first | exact Nat.le_of_ble_eq_true rfl | exact Nat.zero_le _⟩ gX6_holds_3.2.2.2.2.2.2.2.1 (Kors (Keqr ?_) (Keqr ?_))
          · refine lv_if_eq (tgt := 78) hx hb gX6_holds_3.2.2.2.2.2.2.2.2.1 (by decide) (fun c9 => absurd c9 (by decide)) (fun _ => ?_)
            refine lv_iconst (v := 1) hx hb gX6_holds_3.2.2.2.2.2.2.2.2.2 (by decide) ?_
            refine lv_goto (tgt := 79) hx hb gX6_holds_4.1 (by decide) ?_
            refine lv_ior hx hb gX6_holds_4.2.2.1 ?_
            refine lv_istore (lv' := [(4, .int ((pi <<< (1 &&& 31)) ||| 1)), (6, .int r1197), (5, .int (nI kP)), (3, .int r1192), (2, .int r1190), (0, .ref h0), (1, .int li)]) hx hb gX6_holds_4.2.2.2.1 hl (by decide) rfl (fun ls hl => ?_)
            refine lv_goto (tgt := 137) hx hb gX6_holds_4.2.2.2.2.1 (by decide) ?_
            refine lv_iinc (v := nI (kP + 1)) (lv' := [(5, .int (nI (kP + 1))), (4, .int ((pi <<< (1 &&& 31)) ||| 1)), (6, .int r1197), (3, .int r1192), (2, .int r1190), (0, .ref h0), (1, .int li)]) hx hb gX6_holds_7.2.2.2.2.1 hl (k := 2) rfl (nI_1 _) (by decide) rfl (fun ls hl => ?_)
            refine lv_goto (tgt := 33) hx hb gX6_holds_7.2.2.2.2.2.1 (by decide) ?_
            exact ihP (kP + 1) ((pi <<< (1 &&& 31)) ||| 1) _ (bs hjP c_36_1195) (by omega) (lv_sub hl [0, 1, 3, 4, 5, 6] rfl)
          · refine lv_if_eq (tgt := 78) hx hb gX6_holds_3.2.2.2.2.2.2.2.2.1 (by decide) (fun _ => ?_) (fun c9 => absurd (by decide) c9)
            refine lv_iconst (v := 0) hx hb gX6_holds_4.2.1 (by decide) ?_
            refine lv_ior hx hb gX6_holds_4.2.2.1 ?_
            refine lv_istore (lv' := [(4, .int ((pi <<< (1 &&& 31)) ||| 0)), (6, .int r1197), (5, .int (nI kP)), (3, .int r1192), (2, .int r1190), (0, .ref h0), (1, .int li)]) hx hb gX6_holds_4.2.2.2.1 hl (by decide) rfl (fun ls hl => ?_)
            refine lv_goto (tgt := 137) hx hb gX6_holds_4.2.2.2.2.1 (by decide) ?_
            refine lv_iinc (v := nI (kP + 1)) (lv' := [(5, .int (nI (kP + 1))), (4, .int ((pi <<< (1 &&& 31)) ||| 0)), (6, .int r1197), (3, .int r1192), (2, .int r1190), (0, .ref h0), (1, .int li)]) hx hb gX6_holds_7.2.2.2.2.1 hl (k := 2) rfl (nI_1 _) (by decide) rfl (fun ls hl => ?_)
            refine lv_goto (tgt := 33) hx hb gX6_holds_7.2.2.2.2.2.1 (by decide) ?_
            exact ihP (kP + 1) ((pi <<< (1 &&& 31)) ||| 0) _ (bs hjP c_36_1195) (by omega) (lv_sub hl [0, 1, 3, 4, 5, 6] rfl)
  exact keyP (r1192).toInt.toNat 0 1 _ (by decide) (by omega) (lv_sub hl [0, 1, 2, 3, 4, 5] rfl)
def K_c_consider (l : Launch) (G : GG) (h0 : Nat) (pe : Int32) (pp : Int32) (bb : Nat) (sg : Nat) (fc : Nat) (sh : Nat) (r1 : Int32) (rc : Int32) (rh : Int32) (ffc : Nat → Int32) (bpersons : Nat) (bpapers : Nat) (bstamps : Nat) (bversions : Nat) (blines : Nat) (bsteps : Nat) (bsayings : Nat) (bfindings : Nat) (bwarnings : Nat) (bquestions : Nat) (td : Int32) (vd : Int32) (vl : Int32) (gp : Int32) (bversionsc : Nat) (kbversions : Nat) (fbversions : Nat → Int32) (bpersonsc : Nat) (kbpersons : Nat) (fbpersons : Nat → Int32) (bpapersc : Nat) (kbpapers : Nat) (fbpapers : Nat → Int32) (blinesc : Nat) (kblines : Nat) (fblines : Nat → Int32) (bstepsc : Nat) (kbsteps : Nat) (fbsteps : Nat → Int32) : Prop := MV l G yX6_consider cX6_consider 5 4 0 0 [.ref h0, .int pe, .int pp] [(h0, oX6 bb sg fc sh r1 rc rh), (fc, iA G 5 ffc), (bb, oX0 bpersons bpapers bstamps bversions blines bsteps bsayings bfindings bwarnings bquestions td vd vl gp), (bversions, oX8 8 3 bversionsc (nI kbversions)), (bversionsc, iA G 24 fbversions), (bpersons, oX8 10 2 bpersonsc (nI kbpersons)), (bpersonsc, iA G 20 fbpersons), (bpapers, oX8 12 6 bpapersc (nI kbpapers)), (bpapersc, iA G 72 fbpapers), (blines, oX8 72 7 blinesc (nI kblines)), (blinesc, iA G 504 fblines), (bsteps, oX8 960 1 bstepsc (nI kbsteps)), (bstepsc, iA G 960 fbsteps)] (fun u : Int32 × Int32 × Int32 × (Nat → Int32) => True) (fun u : Int32 × Int32 × Int32 × (Nat → Int32) => [(h0, oX6 bb sg fc sh u.1 u.2.1 u.2.2.1), (fc, iA G 5 u.2.2.2), (bb, oX0 bpersons bpapers bstamps bversions blines bsteps bsayings bfindings bwarnings bquestions td vd vl gp), (bversions, oX8 8 3 bversionsc (nI kbversions)), (bversionsc, iA G 24 fbversions), (bpersons, oX8 10 2 bpersonsc (nI kbpersons)), (bpersonsc, iA G 20 fbpersons), (bpapers, oX8 12 6 bpapersc (nI kbpapers)), (bpapersc, iA G 72 fbpapers), (blines, oX8 72 7 blinesc (nI kblines)), (blinesc, iA G 504 fblines), (bsteps, oX8 960 1 bstepsc (nI kbsteps)), (bstepsc, iA G 960 fbsteps)])
set_option maxHeartbeats 4000000 in
set_option maxRecDepth 100000 in
theorem c_consider (l : Launch) (G : GG) (h0 : Nat) (pe : Int32) (pp : Int32) (bb : Nat) (sg : Nat) (fc : Nat) (sh : Nat) (r1 : Int32) (rc : Int32) (rh : Int32) (ffc : Nat → Int32) (bpersons : Nat) (bpapers : Nat) (bstamps : Nat) (bversions : Nat) (blines : Nat) (bsteps : Nat) (bsayings : Nat) (bfindings : Nat) (bwarnings : Nat) (bquestions : Nat) (td : Int32) (vd : Int32) (vl : Int32) (gp : Int32) (bversionsc : Nat) (kbversions : Nat) (fbversions : Nat → Int32) (bpersonsc : Nat) (kbpersons : Nat) (fbpersons : Nat → Int32) (bpapersc : Nat) (kbpapers : Nat) (fbpapers : Nat → Int32) (blinesc : Nat) (kblines : Nat) (fblines : Nat → Int32) (bstepsc : Nat) (kbsteps : Nat) (fbsteps : Nat → Int32) (hkbversions : kbversions ≤ 8) (hkbpersons : kbpersons ≤ 10) (hkbpapers : kbpapers ≤ 12) (hkblines : kblines ≤ 72) (hkbsteps : kbsteps ≤ 960) : K_c_consider l G h0 pe pp bb sg fc sh r1 rc rh ffc bpersons bpapers bstamps bversions blines bsteps bsayings bfindings bwarnings bquestions td vd vl gp bversionsc kbversions fbversions bpersonsc kbpersons fbpersons bpapersc kbpapers fbpapers blinesc kblines fblines bstepsc kbsteps fbsteps := by
  refine MV.start (by decide +kernel) (Nat.le_of_ble_eq_true rfl) ?_
  intro p e s m below meth c A ls hC hK hP hD hS hA hl
  refine absQ (fun Q0 hQ0 => ?_)
  have hl : lv_has ls 5 [(0, .ref h0), (1, .int pe), (2, .int pp)] := hl
  refine Kan8 hC (fun hx hb hr hml hB hown hlocks hnm => ?_)
  refine lv_aload_n hx hb gX6_consider_0.1 rfl (lv_at0 hl) ?_
  refine gf_X6_18 hC rfl hK hP 0 rfl rfl gX6_consider_0.2.1 ?_
  refine pV hC hK hl hP hD (c_ruling l G bb bpersons bpapers bstamps bversions blines bsteps bsayings bfindings bwarnings bquestions td vd vl gp bversionsc kbversions fbversions (hkbversions)) si_X6_36 [2, 3, 4] sm_2_3_4 fm_2_3_4 nd_2_3_4 rfl rfl rfl rfl rfl (Nat.le_of_ble_eq_true rfl) rm_4_3_4 ⟨by first | exact Nat.le_of_ble_eq_true rfl | exact Nat.zero_le _, by first | exact Nat.le_of_ble_eq_true rfl | exact Nat.zero_le _⟩ gX6_consider_0.2.2.1 (fun r1204 hr1204 => ?_)
  refine lv_istore_n (lv' := [(3, .int r1204), (0, .ref h0), (1, .int pe), (2, .int pp)]) hx hb gX6_consider_0.2.2.2.1 rfl hl (by decide) rfl (fun ls hl => ?_)
  refine lv_aload_n hx hb gX6_consider_0.2.2.2.2.1 rfl (lv_at1 hl) ?_
  refine lv_aload_n hx hb gX6_consider_0.2.2.2.2.2.1 rfl (lv_at1 hl) ?_
  refine gf_X6_18 hC rfl hK hP 0 rfl rfl gX6_consider_0.2.2.2.2.2.2.1 ?_
  refine gf_X6_42 hC rfl hK hP 2 rfl rfl gX6_consider_0.2.2.2.2.2.2.2.1 ?_
  refine lv_iload_n hx hb gX6_consider_0.2.2.2.2.2.2.2.2.1 rfl (lv_at0 hl) ?_
  refine lv_iconst (v := 1) hx hb gX6_consider_0.2.2.2.2.2.2.2.2.2 (by decide) ?_
  refine pV hC hK hl hP hD (c_T_at l G bversions r1204 1 8 3 bversionsc kbversions fbversions (hkbversions) (by omega) (by omega)) si_X6_46 [3, 4] sm_3_4 fm_3_4 nd_3_4 rfl rfl rfl rfl rfl (Nat.le_of_ble_eq_true rfl) rm_4_1_3 ⟨by first | exact Nat.le_of_ble_eq_true rfl | exact Nat.zero_le _, by first | exact Nat.le_of_ble_eq_true rfl | exact Nat.zero_le _⟩ gX6_consider_1.1 (fun r1205 hr1205 => ?_)
  refine pf_X6_26 hC rfl hK hP hD hS 0 (ws' := [(h0, oX6 bb sg fc sh r1205 rc rh), (fc, iA G 5 ffc), (bb, oX0 bpersons bpapers bstamps bversions blines bsteps bsayings bfindings bwarnings bquestions td vd vl gp), (bversions, oX8 8 3 bversionsc (nI kbversions)), (bversionsc, iA G 24 fbversions), (bpersons, oX8 10 2 bpersonsc (nI kbpersons)), (bpersonsc, iA G 20 fbpersons), (bpapers, oX8 12 6 bpapersc (nI kbpapers)), (bpapersc, iA G 72 fbpapers), (blines, oX8 72 7 blinesc (nI kblines)), (blinesc, iA G 504 fblines), (bsteps, oX8 960 1 bstepsc (nI kbsteps)), (bstepsc, iA G 960 fbsteps)]) rfl (Nat.le_of_ble_eq_true rfl) rfl rfl rfl gX6_consider_1.2.1 (fun H locs hP hD hS => ?_)
  refine lv_aload_n hx hb gX6_consider_1.2.2.1 rfl (lv_at1 hl) ?_
  refine lv_aload_n hx hb gX6_consider_1.2.2.2.1 rfl (lv_at1 hl) ?_
  refine gf_X6_18 hC rfl hK hP 0 rfl rfl gX6_consider_1.2.2.2.2.1 ?_
  refine gf_X6_42 hC rfl hK hP 2 rfl rfl gX6_consider_1.2.2.2.2.2.1 ?_
  refine lv_iload_n hx hb gX6_consider_1.2.2.2.2.2.2.1 rfl (lv_at0 hl) ?_
  refine lv_iconst (v := 2) hx hb gX6_consider_1.2.2.2.2.2.2.2.1 (by decide) ?_
  refine pV hC hK hl hP hD (c_T_at l G bversions r1204 2 8 3 bversionsc kbversions fbversions (hkbversions) (by omega) (by omega)) si_X6_46 [3, 4] sm_3_4 fm_3_4 nd_3_4 rfl rfl rfl rfl rfl (Nat.le_of_ble_eq_true rfl) rm_4_1_3 ⟨by first | exact Nat.le_of_ble_eq_true rfl | exact Nat.zero_le _, by first | exact Nat.le_of_ble_eq_true rfl | exact Nat.zero_le _⟩ gX6_consider_1.2.2.2.2.2.2.2.2.1 (fun r1207 hr1207 => ?_)
  refine pf_X6_30 hC rfl hK hP hD hS 0 (ws' := [(h0, oX6 bb sg fc sh r1205 r1207 rh), (fc, iA G 5 ffc), (bb, oX0 bpersons bpapers bstamps bversions blines bsteps bsayings bfindings bwarnings bquestions td vd vl gp), (bversions, oX8 8 3 bversionsc (nI kbversions)), (bversionsc, iA G 24 fbversions), (bpersons, oX8 10 2 bpersonsc (nI kbpersons)), (bpersonsc, iA G 20 fbpersons), (bpapers, oX8 12 6 bpapersc (nI kbpapers)), (bpapersc, iA G 72 fbpapers), (blines, oX8 72 7 blinesc (nI kblines)), (blinesc, iA G 504 fblines), (bsteps, oX8 960 1 bstepsc (nI kbsteps)), (bstepsc, iA G 960 fbsteps)]) rfl (Nat.le_of_ble_eq_true rfl) rfl rfl rfl gX6_consider_1.2.2.2.2.2.2.2.2.2 (fun H locs hP hD hS => ?_)
  refine lv_aload_n hx hb gX6_consider_2.1 rfl (lv_at1 hl) ?_
  refine gf_X6_9 hC rfl hK hP 0 rfl rfl gX6_consider_2.2.1 ?_
  refine lv_iconst (v := 0) hx hb gX6_consider_2.2.2.1 (by decide) ?_
  refine lv_iload_n hx hb gX6_consider_2.2.2.2.1 rfl (lv_at2 hl) ?_
  refine ast hC hK hP hD hS 1 (ws' := [(h0, oX6 bb sg fc sh r1205 r1207 rh), (fc, iA G 5 (upd ffc 0 pe)), (bb, oX0 bpersons bpapers bstamps bversions blines bsteps bsayings bfindings bwarnings bquestions td vd vl gp), (bversions, oX8 8 3 bversionsc (nI kbversions)), (bversionsc, iA G 24 fbversions), (bpersons, oX8 10 2 bpersonsc (nI kbpersons)), (bpersonsc, iA G 20 fbpersons), (bpapers, oX8 12 6 bpapersc (nI kbpapers)), (bpapersc, iA G 72 fbpapers), (blines, oX8 72 7 blinesc (nI kblines)), (blinesc, iA G 504 fblines), (bsteps, oX8 960 1 bstepsc (nI kbsteps)), (bstepsc, iA G 960 fbsteps)]) rfl (vin (by decide +kernel)) (k := 0) (by decide +kernel) (rfl) gX6_consider_2.2.2.2.2.1 (fun H locs hP hD hS => ?_)
  refine lv_aload_n hx hb gX6_consider_2.2.2.2.2.2.1 rfl (lv_at1 hl) ?_
  refine gf_X6_9 hC rfl hK hP 0 rfl rfl gX6_consider_2.2.2.2.2.2.2.1 ?_
  refine lv_iconst (v := 1) hx hb gX6_consider_2.2.2.2.2.2.2.2.1 (by decide) ?_
  refine lv_aload_n hx hb gX6_consider_2.2.2.2.2.2.2.2.2.1 rfl (lv_at1 hl) ?_
  refine gf_X6_18 hC rfl hK hP 0 rfl rfl gX6_consider_2.2.2.2.2.2.2.2.2.2 ?_
  refine gf_X6_52 hC rfl hK hP 2 rfl rfl gX6_consider_3.1 ?_
  refine lv_iload_n hx hb gX6_consider_3.2.1 rfl (lv_at2 hl) ?_
  refine lv_iconst (v := 0) hx hb gX6_consider_3.2.2.1 (by decide) ?_
  refine pV hC hK hl hP hD (c_T_at l G bpersons pe 0 10 2 bpersonsc kbpersons fbpersons (hkbpersons) (by omega) (by omega)) si_X6_46 [5, 6] sm_5_6 fm_5_6 nd_5_6 rfl rfl rfl rfl rfl (Nat.le_of_ble_eq_true rfl) rm_4_1_3 ⟨by first | exact Nat.le_of_ble_eq_true rfl | exact Nat.zero_le _, by first | exact Nat.le_of_ble_eq_true rfl | exact Nat.zero_le _⟩ gX6_consider_3.2.2.2.1 (fun r1209 hr1209 => ?_)
  refine ast hC hK hP hD hS 1 (ws' := [(h0, oX6 bb sg fc sh r1205 r1207 rh), (fc, iA G 5 (upd (upd ffc 0 pe) 1 r1209)), (bb, oX0 bpersons bpapers bstamps bversions blines bsteps bsayings bfindings bwarnings bquestions td vd vl gp), (bversions, oX8 8 3 bversionsc (nI kbversions)), (bversionsc, iA G 24 fbversions), (bpersons, oX8 10 2 bpersonsc (nI kbpersons)), (bpersonsc, iA G 20 fbpersons), (bpapers, oX8 12 6 bpapersc (nI kbpapers)), (bpapersc, iA G 72 fbpapers), (blines, oX8 72 7 blinesc (nI kblines)), (blinesc, iA G 504 fblines), (bsteps, oX8 960 1 bstepsc (nI kbsteps)), (bstepsc, iA G 960 fbsteps)]) rfl (vin (by decide +kernel)) (k := 1) (by decide +kernel) (rfl) gX6_consider_3.2.2.2.2.1 (fun H locs hP hD hS => ?_)
  refine lv_aload_n hx hb gX6_consider_3.2.2.2.2.2.1 rfl (lv_at1 hl) ?_
  refine gf_X6_9 hC rfl hK hP 0 rfl rfl gX6_consider_3.2.2.2.2.2.2.1 ?_
  refine lv_iconst (v := 2) hx hb gX6_consider_3.2.2.2.2.2.2.2.1 (by decide) ?_
  refine lv_aload_n hx hb gX6_consider_3.2.2.2.2.2.2.2.2.1 rfl (lv_at1 hl) ?_
  refine gf_X6_18 hC rfl hK hP 0 rfl rfl gX6_consider_3.2.2.2.2.2.2.2.2.2 ?_
  refine lv_iload_n hx hb gX6_consider_4.1 rfl (lv_at2 hl) ?_
  refine lv_iload_n hx hb gX6_consider_4.2.1 rfl (lv_at3 hl) ?_
  refine pV hC hK hl hP hD (c_countTo l G bb pe pp bpersons bpapers bstamps bversions blines bsteps bsayings bfindings bwarnings bquestions td vd vl gp bpapersc kbpapers fbpapers (hkbpapers)) si_X6_55 [2, 7, 8] sm_2_7_8 fm_2_7_8 nd_2_7_8 rfl rfl rfl rfl rfl (Nat.le_of_ble_eq_true rfl) rm_4_3_5 ⟨by first | exact Nat.le_of_ble_eq_true rfl | exact Nat.zero_le _, by first | exact Nat.le_of_ble_eq_true rfl | exact Nat.zero_le _⟩ gX6_consider_4.2.2.1 (fun r1211 hr1211 => ?_)
  refine ast hC hK hP hD hS 1 (ws' := [(h0, oX6 bb sg fc sh r1205 r1207 rh), (fc, iA G 5 (upd (upd (upd ffc 0 pe) 1 r1209) 2 r1211)), (bb, oX0 bpersons bpapers bstamps bversions blines bsteps bsayings bfindings bwarnings bquestions td vd vl gp), (bversions, oX8 8 3 bversionsc (nI kbversions)), (bversionsc, iA G 24 fbversions), (bpersons, oX8 10 2 bpersonsc (nI kbpersons)), (bpersonsc, iA G 20 fbpersons), (bpapers, oX8 12 6 bpapersc (nI kbpapers)), (bpapersc, iA G 72 fbpapers), (blines, oX8 72 7 blinesc (nI kblines)), (blinesc, iA G 504 fblines), (bsteps, oX8 960 1 bstepsc (nI kbsteps)), (bstepsc, iA G 960 fbsteps)]) rfl (vin (by decide +kernel)) (k := 2) (by decide +kernel) (rfl) gX6_consider_4.2.2.2.1 (fun H locs hP hD hS => ?_)
  refine lv_aload_n hx hb gX6_consider_4.2.2.2.2.1 rfl (lv_at1 hl) ?_
  refine gf_X6_9 hC rfl hK hP 0 rfl rfl gX6_consider_4.2.2.2.2.2.1 ?_
  refine lv_iconst (v := 3) hx hb gX6_consider_4.2.2.2.2.2.2.1 (by decide) ?_
  refine lv_aload_n hx hb gX6_consider_4.2.2.2.2.2.2.2.1 rfl (lv_at1 hl) ?_
  refine gf_X6_18 hC rfl hK hP 0 rfl rfl gX6_consider_4.2.2.2.2.2.2.2.2.1 ?_
  refine lv_iload_n hx hb gX6_consider_4.2.2.2.2.2.2.2.2.2 rfl (lv_at2 hl) ?_
  refine lv_iload_n hx hb gX6_consider_5.1 rfl (lv_at3 hl) ?_
  refine pV hC hK hl hP hD (c_countBy l G bb pe pp bpersons bpapers bstamps bversions blines bsteps bsayings bfindings bwarnings bquestions td vd vl gp bpapersc kbpapers fbpapers (hkbpapers)) si_X6_58 [2, 7, 8] sm_2_7_8 fm_2_7_8 nd_2_7_8 rfl rfl rfl rfl rfl (Nat.le_of_ble_eq_true rfl) rm_4_3_5 ⟨by first | exact Nat.le_of_ble_eq_true rfl | exact Nat.zero_le _, by first | exact Nat.le_of_ble_eq_true rfl | exact Nat.zero_le _⟩ gX6_consider_5.2.1 (fun r1212 hr1212 => ?_)
  refine ast hC hK hP hD hS 1 (ws' := [(h0, oX6 bb sg fc sh r1205 r1207 rh), (fc, iA G 5 (upd (upd (upd (upd ffc 0 pe) 1 r1209) 2 r1211) 3 r1212)), (bb, oX0 bpersons bpapers bstamps bversions blines bsteps bsayings bfindings bwarnings bquestions td vd vl gp), (bversions, oX8 8 3 bversionsc (nI kbversions)), (bversionsc, iA G 24 fbversions), (bpersons, oX8 10 2 bpersonsc (nI kbpersons)), (bpersonsc, iA G 20 fbpersons), (bpapers, oX8 12 6 bpapersc (nI kbpapers)), (bpapersc, iA G 72 fbpapers), (blines, oX8 72 7 blinesc (nI kblines)), (blinesc, iA G 504 fblines), (bsteps, oX8 960 1 bstepsc (nI kbsteps)), (bstepsc, iA G 960 fbsteps)]) rfl (vin (by decide +kernel)) (k := 3) (by decide +kernel) (rfl) gX6_consider_5.2.2.1 (fun H locs hP hD hS => ?_)
  refine lv_aload_n hx hb gX6_consider_5.2.2.2.1 rfl (lv_at1 hl) ?_
  refine gf_X6_9 hC rfl hK hP 0 rfl rfl gX6_consider_5.2.2.2.2.1 ?_
  refine lv_iconst (v := 4) hx hb gX6_consider_5.2.2.2.2.2.1 (by decide) ?_
  refine lv_aload_n hx hb gX6_consider_5.2.2.2.2.2.2.1 rfl (lv_at1 hl) ?_
  refine gf_X6_18 hC rfl hK hP 0 rfl rfl gX6_consider_5.2.2.2.2.2.2.2.1 ?_
  refine gf_X6_52 hC rfl hK hP 2 rfl rfl gX6_consider_5.2.2.2.2.2.2.2.2.1 ?_
  refine lv_iload_n hx hb gX6_consider_5.2.2.2.2.2.2.2.2.2 rfl (lv_at2 hl) ?_
  refine lv_iconst (v := 1) hx hb gX6_consider_6.1 (by decide) ?_
  refine pV hC hK hl hP hD (c_T_at l G bpersons pe 1 10 2 bpersonsc kbpersons fbpersons (hkbpersons) (by omega) (by omega)) si_X6_46 [5, 6] sm_5_6 fm_5_6 nd_5_6 rfl rfl rfl rfl rfl (Nat.le_of_ble_eq_true rfl) rm_4_1_3 ⟨by first | exact Nat.le_of_ble_eq_true rfl | exact Nat.zero_le _, by first | exact Nat.le_of_ble_eq_true rfl | exact Nat.zero_le _⟩ gX6_consider_6.2.1 (fun r1213 hr1213 => ?_)
  refine ast hC hK hP hD hS 1 (ws' := [(h0, oX6 bb sg fc sh r1205 r1207 rh), (fc, iA G 5 (upd (upd (upd (upd (upd ffc 0 pe) 1 r1209) 2 r1211) 3 r1212) 4 r1213)), (bb, oX0 bpersons bpapers bstamps bversions blines bsteps bsayings bfindings bwarnings bquestions td vd vl gp), (bversions, oX8 8 3 bversionsc (nI kbversions)), (bversionsc, iA G 24 fbversions), (bpersons, oX8 10 2 bpersonsc (nI kbpersons)), (bpersonsc, iA G 20 fbpersons), (bpapers, oX8 12 6 bpapersc (nI kbpapers)), (bpapersc, iA G 72 fbpapers), (blines, oX8 72 7 blinesc (nI kblines)), (blinesc, iA G 504 fblines), (bsteps, oX8 960 1 bstepsc (nI kbsteps)), (bstepsc, iA G 960 fbsteps)]) rfl (vin (by decide +kernel)) (k := 4) (by decide +kernel) (rfl) gX6_consider_6.2.2.1 (fun H locs hP hD hS => ?_)
  refine lv_aload_n hx hb gX6_consider_6.2.2.2.1 rfl (lv_at1 hl) ?_
  refine lv_iconst (v := 0) hx hb gX6_consider_6.2.2.2.2.1 (by decide) ?_
  refine pf_X6_33 hC rfl hK hP hD hS 0 (ws' := [(h0, oX6 bb sg fc sh r1205 r1207 0), (fc, iA G 5 (upd (upd (upd (upd (upd ffc 0 pe) 1 r1209) 2 r1211) 3 r1212) 4 r1213)), (bb, oX0 bpersons bpapers bstamps bversions blines bsteps bsayings bfindings bwarnings bquestions td vd vl gp), (bversions, oX8 8 3 bversionsc (nI kbversions)), (bversionsc, iA G 24 fbversions), (bpersons, oX8 10 2 bpersonsc (nI kbpersons)), (bpersonsc, iA G 20 fbpersons), (bpapers, oX8 12 6 bpapersc (nI kbpapers)), (bpapersc, iA G 72 fbpapers), (blines, oX8 72 7 blinesc (nI kblines)), (blinesc, iA G 504 fblines), (bsteps, oX8 960 1 bstepsc (nI kbsteps)), (bstepsc, iA G 960 fbsteps)]) rfl (Nat.le_of_ble_eq_true rfl) rfl rfl rfl gX6_consider_6.2.2.2.2.2.1 (fun H locs hP hD hS => ?_)
  refine lv_iconst (v := 0) hx hb gX6_consider_6.2.2.2.2.2.2.1 (by decide) ?_
  refine lv_istore (lv' := [(4, .int 0), (3, .int r1204), (0, .ref h0), (1, .int pe), (2, .int pp)]) hx hb gX6_consider_6.2.2.2.2.2.2.2.1 hl (by decide) rfl (fun ls hl => ?_)
  have keyP : ∀ (nP kP : Nat) (wh : Int32) (H : Heap) (locs : List Loc) (ls : Array Slot), kP < 2 ^ 31 → (r1207).toInt ≤ ((kP + nP : Nat) : Int) → va_PD G A [(h0, oX6 bb sg fc sh r1205 r1207 wh), (fc, iA G 5 (upd (upd (upd (upd (upd ffc 0 pe) 1 r1209) 2 r1211) 3 r1212) 4 r1213)), (bb, oX0 bpersons bpapers bstamps bversions blines bsteps bsayings bfindings bwarnings bquestions td vd vl gp), (bversions, oX8 8 3 bversionsc (nI kbversions)), (bversionsc, iA G 24 fbversions), (bpersons, oX8 10 2 bpersonsc (nI kbpersons)), (bpersonsc, iA G 20 fbpersons), (bpapers, oX8 12 6 bpapersc (nI kbpapers)), (bpapersc, iA G 72 fbpapers), (blines, oX8 72 7 blinesc (nI kblines)), (blinesc, iA G 504 fblines), (bsteps, oX8 960 1 bstepsc (nI kbsteps)), (bstepsc, iA G 960 fbsteps)] H → va_S A s.heap H locs → lv_has ls 5 [(4, .int (nI kP)), (3, .int r1204), (0, .ref h0), (1, .int pe), (2, .int pp)] → W p l e (RM 4 0 0) s m ([.ref h0, .int pe, .int pp] : List Value).toArray below meth c H locs 0 0 Q0 (F0 m 121 ls []) := by
    intro nP
    induction nP with
    | zero =>
      intro kP wh H locs ls hjP hkP hPD hS hl
      refine Kan2 hPD (fun hP hD => ?_)
      have hzP : r1207 ≤ nI kP := bz hjP (by omega)
      refine lv_iload hx hb gX6_consider_6.2.2.2.2.2.2.2.2.1 (lv_at0 hl) ?_
      refine lv_aload_n hx hb gX6_consider_6.2.2.2.2.2.2.2.2.2 rfl (lv_at2 hl) ?_
      refine gf_X6_30 hC rfl hK hP 0 rfl rfl gX6_consider_7.1 ?_
      refine lv_icmp_ge (tgt := 163) hx hb gX6_consider_7.2.1 (by decide) (fun _ => ?_) (fun c9 => absurd (hzP) c9)
      refine toQ hQ0 ?_
      exact RV hC hP hD hS [0, 1, 2, 3, 4, 5, 6, 7, 8, 9, 10, 11, 12] (r1205, r1207, wh, upd (upd (upd (upd (upd ffc 0 pe) 1 r1209) 2 r1211) 3 r1212) 4 r1213) rfl rfl (by decide) (trivial) gX6_consider_8.2.2.2.2.2.2.2.2.2
    | succ nP ihP =>
      intro kP wh H locs ls hjP hkP hPD hS hl
      refine Kan2 hPD (fun hP hD => ?_)
      refine lv_iload hx hb gX6_consider_6.2.2.2.2.2.2.2.2.1 (lv_at0 hl) ?_
      refine lv_aload_n hx hb gX6_consider_6.2.2.2.2.2.2.2.2.2 rfl (lv_at2 hl) ?_
      refine gf_X6_30 hC rfl hK hP 0 rfl rfl gX6_consider_7.1 ?_
      refine lv_icmp_ge (tgt := 163) hx hb gX6_consider_7.2.1 (by decide) (fun c_127_1215 => ?_) (fun c_127_1215 => ?_)
      · refine toQ hQ0 ?_
        exact RV hC hP hD hS [0, 1, 2, 3, 4, 5, 6, 7, 8, 9, 10, 11, 12] (r1205, r1207, wh, upd (upd (upd (upd (upd ffc 0 pe) 1 r1209) 2 r1211) 3 r1212) 4 r1213) rfl rfl (by decide) (trivial) gX6_consider_8.2.2.2.2.2.2.2.2.2
      · refine lv_aload_n hx hb gX6_consider_7.2.2.1 rfl (lv_at2 hl) ?_
        refine lv_aload_n hx hb gX6_consider_7.2.2.2.1 rfl (lv_at2 hl) ?_
        refine gf_X6_26 hC rfl hK hP 0 rfl rfl gX6_consider_7.2.2.2.2.1 ?_
        refine lv_iload hx hb gX6_consider_7.2.2.2.2.2.1 (lv_at0 hl) ?_
        refine lv_iadd hx hb gX6_consider_7.2.2.2.2.2.2.1 ?_
        refine pV hC hK hl hP hD (c_holds l G h0 (r1205 + (nI kP)) bb sg fc sh r1205 r1207 wh (upd (upd (upd (upd (upd ffc 0 pe) 1 r1209) 2 r1211) 3 r1212) 4 r1213) bpersons bpapers bstamps bversions blines bsteps bsayings bfindings bwarnings bquestions td vd vl gp blinesc kblines fblines bstepsc kbsteps fbsteps (hkblines) (hkbsteps)) si_X6_61 [0, 1, 2, 9, 10, 11, 12] sm_0_1_2_9_10_11_12 fm_0_1_2_9_10_11_12 nd_0_1_2_9_10_11_12 rfl rfl rfl rfl rfl (Nat.le_of_ble_eq_true rfl) rm_4_3_8 ⟨by first | exact Nat.le_of_ble_eq_true rfl | exact Nat.zero_le _, by first | exact Nat.le_of_ble_eq_true rfl | exact Nat.zero_le _⟩ gX6_consider_7.2.2.2.2.2.2.2.1 (Kors (Keqr ?_) (Keqr ?_))
        · refine lv_if_eq (tgt := 157) hx hb gX6_consider_7.2.2.2.2.2.2.2.2.1 (by decide) (fun c9 => absurd c9 (by decide)) (fun _ => ?_)
          refine lv_aload_n hx hb gX6_consider_7.2.2.2.2.2.2.2.2.2 rfl (lv_at2 hl) ?_
          refine lv_dup hx hb gX6_consider_8.1 rfl ?_
          refine gf_X6_33 hC rfl hK hP 0 rfl rfl gX6_consider_8.2.1 ?_
          refine lv_iconst (v := 1) hx hb gX6_consider_8.2.2.1 (by decide) ?_
          refine lv_iload hx hb gX6_consider_8.2.2.2.1 (lv_at0 hl) ?_
          refine lv_ishl hx hb gX6_consider_8.2.2.2.2.1 ?_
          refine lv_ior hx hb gX6_consider_8.2.2.2.2.2.1 ?_
          refine pf_X6_33 hC rfl hK hP hD hS 0 (ws' := [(h0, oX6 bb sg fc sh r1205 r1207 (wh ||| (1 <<< ((nI kP) &&& 31)))), (fc, iA G 5 (upd (upd (upd (upd (upd ffc 0 pe) 1 r1209) 2 r1211) 3 r1212) 4 r1213)), (bb, oX0 bpersons bpapers bstamps bversions blines bsteps bsayings bfindings bwarnings bquestions td vd vl gp), (bversions, oX8 8 3 bversionsc (nI kbversions)), (bversionsc, iA G 24 fbversions), (bpersons, oX8 10 2 bpersonsc (nI kbpersons)), (bpersonsc, iA G 20 fbpersons), (bpapers, oX8 12 6 bpapersc (nI kbpapers)), (bpapersc, iA G 72 fbpapers), (blines, oX8 72 7 blinesc (nI kblines)), (blinesc, iA G 504 fblines), (bsteps, oX8 960 1 bstepsc (nI kbsteps)), (bstepsc, iA G 960 fbsteps)]) rfl (Nat.le_of_ble_eq_true rfl) rfl rfl rfl gX6_consider_8.2.2.2.2.2.2.1 (fun H locs hP hD hS => ?_)
          refine lv_iinc (v := nI (kP + 1)) (lv' := [(4, .int (nI (kP + 1))), (3, .int r1204), (0, .ref h0), (1, .int pe), (2, .int pp)]) hx hb gX6_consider_8.2.2.2.2.2.2.2.1 hl (k := 0) rfl (nI_1 _) (by decide) rfl (fun ls hl => ?_)
          refine lv_goto (tgt := 121) hx hb gX6_consider_8.2.2.2.2.2.2.2.2.1 (by decide) ?_
          exact ihP (kP + 1) (wh ||| (1 <<< ((nI kP) &&& 31))) _ _ _ (bs hjP c_127_1215) (by omega) (And.intro hP hD) hS (lv_sub hl [0, 1, 2, 3, 4] rfl)
        · refine lv_if_eq (tgt := 157) hx hb gX6_consider_7.2.2.2.2.2.2.2.2.1 (by decide) (fun _ => ?_) (fun c9 => absurd (by decide) c9)
          refine lv_iinc (v := nI (kP + 1)) (lv' := [(4, .int (nI (kP + 1))), (3, .int r1204), (0, .ref h0), (1, .int pe), (2, .int pp)]) hx hb gX6_consider_8.2.2.2.2.2.2.2.1 hl (k := 0) rfl (nI_1 _) (by decide) rfl (fun ls hl => ?_)
          refine lv_goto (tgt := 121) hx hb gX6_consider_8.2.2.2.2.2.2.2.2.1 (by decide) ?_
          exact ihP (kP + 1) wh _ _ _ (bs hjP c_127_1215) (by omega) (And.intro hP hD) hS (lv_sub hl [0, 1, 2, 3, 4] rfl)
  exact keyP (r1207).toInt.toNat 0 0 _ _ _ (by decide) (by omega) (And.intro hP hD) hS (lv_sub hl [0, 1, 2, 3, 4] rfl)
def K_c_shouldHour (l : Launch) (G : GG) (h0 : Nat) (th : Int32) (bb : Nat) (sg : Nat) (fc : Nat) (sh : Nat) (r1 : Int32) (rc : Int32) (rh : Int32) (fsh : Nat → Int32) : Prop := MP l G yX6_shouldHour cX6_shouldHour 2 (some .int) 1 [.ref h0, .int th] [(h0, oX6 bb sg fc sh r1 rc rh), (sh, iA G 8 fsh)] (fun r : Int32 => True)
set_option maxHeartbeats 4000000 in
set_option maxRecDepth 100000 in
theorem c_shouldHour (l : Launch) (G : GG) (h0 : Nat) (th : Int32) (bb : Nat) (sg : Nat) (fc : Nat) (sh : Nat) (r1 : Int32) (rc : Int32) (rh : Int32) (fsh : Nat → Int32) : K_c_shouldHour l G h0 th bb sg fc sh r1 rc rh fsh := by
  refine MP.start (by decide +kernel) (Nat.le_of_ble_eq_true rfl) ?_
  intro p e s m below meth c ls hC hK hP hD hl
  refine absQ (fun Q0 hQ0 => ?_)
  have hl : lv_has ls 2 [(0, .ref h0), (1, .int th)] := hl
  refine Kan8 hC (fun hx hb hr hml hB hown hlocks hnm => ?_)
  refine lv_iload_n hx hb gX6_shouldHour_0.1 rfl (lv_at1 hl) ?_
  refine lv_if_lt (tgt := 19) hx hb gX6_shouldHour_0.2.1 (by decide) (fun c_1_1218 => ?_) (fun c_1_1218 => ?_)
  · refine lv_ldc hx hb hown (hB _ m_597) gX6_shouldHour_1.1 ?_
    refine toQ hQ0 ?_
    exact RP (v := 1000000) hC (trivial) rfl gX6_shouldHour_1.2
  · refine lv_iload_n hx hb gX6_shouldHour_0.2.2.1 rfl (lv_at1 hl) ?_
    refine lv_bipush (v := 8) hx hb gX6_shouldHour_0.2.2.2.1 (by decide) ?_
    refine lv_icmp_ge (tgt := 19) hx hb gX6_shouldHour_0.2.2.2.2.1 (by decide) (fun c_7_1219 => ?_) (fun c_7_1219 => ?_)
    · refine lv_ldc hx hb hown (hB _ m_597) gX6_shouldHour_1.1 ?_
      refine toQ hQ0 ?_
      exact RP (v := 1000000) hC (trivial) rfl gX6_shouldHour_1.2
    · obtain ⟨jt, hjt, rfl⟩ := ltN (N := 8) (by decide) c_1_1218 c_7_1219
      refine lv_aload_n hx hb gX6_shouldHour_0.2.2.2.2.2.1 rfl (lv_at0 hl) ?_
      refine gf_X6_15 hC rfl hK hP 0 rfl rfl gX6_shouldHour_0.2.2.2.2.2.2.1 ?_
      refine lv_iload_n hx hb gX6_shouldHour_0.2.2.2.2.2.2.2.1 rfl (lv_at1 hl) ?_
      refine aldN hC hK hP 1 rfl (k := jt) (by omega) (Nat.le_of_ble_eq_true rfl) (v := fsh jt) rfl gX6_shouldHour_0.2.2.2.2.2.2.2.2.1 ?_
      refine lv_topi (fun x1220 ex1220 => ?_)
      refine lv_goto (tgt := 21) hx hb gX6_shouldHour_0.2.2.2.2.2.2.2.2.2 (by decide) ?_
      refine toQ hQ0 ?_
      exact RP (v := x1220) hC (trivial) rfl gX6_shouldHour_1.2
def K_c_thingOf (l : Launch) (G : GG) (h0 : Nat) (i : Int32) (bb : Nat) (sg : Nat) (fc : Nat) (sh : Nat) (r1 : Int32) (rc : Int32) (rh : Int32) (bpersons : Nat) (bpapers : Nat) (bstamps : Nat) (bversions : Nat) (blines : Nat) (bsteps : Nat) (bsayings : Nat) (bfindings : Nat) (bwarnings : Nat) (bquestions : Nat) (td : Int32) (vd : Int32) (vl : Int32) (gp : Int32) (blinesc : Nat) (kblines : Nat) (fblines : Nat → Int32) : Prop := MP l G yX6_thingOf cX6_thingOf 3 (some .int) 3 [.ref h0, .int i] [(h0, oX6 bb sg fc sh r1 rc rh), (bb, oX0 bpersons bpapers bstamps bversions blines bsteps bsayings bfindings bwarnings bquestions td vd vl gp), (blines, oX8 72 7 blinesc (nI kblines)), (blinesc, iA G 504 fblines)] (fun r : Int32 => True)
set_option maxHeartbeats 4000000 in
set_option maxRecDepth 100000 in
theorem c_thingOf (l : Launch) (G : GG) (h0 : Nat) (i : Int32) (bb : Nat) (sg : Nat) (fc : Nat) (sh : Nat) (r1 : Int32) (rc : Int32) (rh : Int32) (bpersons : Nat) (bpapers : Nat) (bstamps : Nat) (bversions : Nat) (blines : Nat) (bsteps : Nat) (bsayings : Nat) (bfindings : Nat) (bwarnings : Nat) (bquestions : Nat) (td : Int32) (vd : Int32) (vl : Int32) (gp : Int32) (blinesc : Nat) (kblines : Nat) (fblines : Nat → Int32) (hkblines : kblines ≤ 72) : K_c_thingOf l G h0 i bb sg fc sh r1 rc rh bpersons bpapers bstamps bversions blines bsteps bsayings bfindings bwarnings bquestions td vd vl gp blinesc kblines fblines := by
  refine MP.start (by decide +kernel) (Nat.le_of_ble_eq_true rfl) ?_
  intro p e s m below meth c ls hC hK hP hD hl
  refine absQ (fun Q0 hQ0 => ?_)
  have hl : lv_has ls 3 [(0, .ref h0), (1, .int i)] := hl
  refine Kan8 hC (fun hx hb hr hml hB hown hlocks hnm => ?_)
  refine lv_aload_n hx hb gX6_thingOf_0.1 rfl (lv_at0 hl) ?_
  refine gf_X6_33 hC rfl hK hP 0 rfl rfl gX6_thingOf_0.2.1 ?_
  refine lv_iload_n hx hb gX6_thingOf_0.2.2.1 rfl (lv_at1 hl) ?_
  refine pSN hC hK hl (c_hasBit l G rh i) si_X6_98 rfl rfl (Nat.le_of_ble_eq_true rfl) rm_3_1_2 ⟨by first | exact Nat.le_of_ble_eq_true rfl | exact Nat.zero_le _, by first | exact Nat.le_of_ble_eq_true rfl | exact Nat.zero_le _⟩ gX6_thingOf_0.2.2.2.1 (Kors (Keqa fun a1222 => ?_) (Keqa fun a1222 => ?_))
  · refine lv_if_ne (tgt := 13) hx hb gX6_thingOf_0.2.2.2.2.1 (by decide) (fun _ => ?_) (fun c9 => absurd c9 (by decide))
    refine lv_aload_n hx hb gX6_thingOf_0.2.2.2.2.2.2.2.1 rfl (lv_at0 hl) ?_
    refine gf_X6_18 hC rfl hK hP 0 rfl rfl gX6_thingOf_0.2.2.2.2.2.2.2.2.1 ?_
    refine gf_X6_65 hC rfl hK hP 1 rfl rfl gX6_thingOf_0.2.2.2.2.2.2.2.2.2 ?_
    refine lv_aload_n hx hb gX6_thingOf_1.1 rfl (lv_at0 hl) ?_
    refine gf_X6_26 hC rfl hK hP 0 rfl rfl gX6_thingOf_1.2.1 ?_
    refine lv_iload_n hx hb gX6_thingOf_1.2.2.1 rfl (lv_at1 hl) ?_
    refine lv_iadd hx hb gX6_thingOf_1.2.2.2.1 ?_
    refine lv_iconst (v := 0) hx hb gX6_thingOf_1.2.2.2.2.1 (by decide) ?_
    refine pV hC hK hl hP hD (c_T_at l G blines (r1 + i) 0 72 7 blinesc kblines fblines (hkblines) (by omega) (by omega)) si_X6_46 [2, 3] sm_2_3 fm_2_3 nd_2_3 rfl rfl rfl rfl rfl (Nat.le_of_ble_eq_true rfl) rm_3_1_3 ⟨by first | exact Nat.le_of_ble_eq_true rfl | exact Nat.zero_le _, by first | exact Nat.le_of_ble_eq_true rfl | exact Nat.zero_le _⟩ gX6_thingOf_1.2.2.2.2.2.1 (fun r1223 hr1223 => ?_)
    refine lv_istore_n (lv' := [(2, .int r1223), (0, .ref h0), (1, .int i)]) hx hb gX6_thingOf_1.2.2.2.2.2.2.1 rfl hl (by decide) rfl (fun ls hl => ?_)
    refine lv_iload_n hx hb gX6_thingOf_1.2.2.2.2.2.2.2.1 rfl (lv_at0 hl) ?_
    refine lv_if_ne (tgt := 53) hx hb gX6_thingOf_1.2.2.2.2.2.2.2.2.1 (by decide) (fun c_32_1225 => ?_) (fun c_32_1225 => ?_)
    · refine lv_iload_n hx hb gX6_thingOf_2.2.2.2.2.2.2.2.2.2 rfl (lv_at0 hl) ?_
      refine lv_iconst (v := 2) hx hb gX6_thingOf_3.1 (by decide) ?_
      refine lv_icmp_ne (tgt := 78) hx hb gX6_thingOf_3.2.1 (by decide) (fun c_55_1226 => ?_) (fun c_55_1226 => ?_)
      · refine lv_iconst (v := (-1)) hx hb gX6_thingOf_4.2.2.1 (by decide) ?_
        refine toQ hQ0 ?_
        exact RP (v := (-1)) hC (trivial) rfl gX6_thingOf_4.2.2.2
      · refine lv_aload_n hx hb gX6_thingOf_3.2.2.1 rfl (lv_at1 hl) ?_
        refine gf_X6_18 hC rfl hK hP 0 rfl rfl gX6_thingOf_3.2.2.2.1 ?_
        refine gf_X6_65 hC rfl hK hP 1 rfl rfl gX6_thingOf_3.2.2.2.2.1 ?_
        refine lv_aload_n hx hb gX6_thingOf_3.2.2.2.2.2.1 rfl (lv_at1 hl) ?_
        refine gf_X6_26 hC rfl hK hP 0 rfl rfl gX6_thingOf_3.2.2.2.2.2.2.1 ?_
        refine lv_iload_n hx hb gX6_thingOf_3.2.2.2.2.2.2.2.1 rfl (lv_at2 hl) ?_
        refine lv_iadd hx hb gX6_thingOf_3.2.2.2.2.2.2.2.2.1 ?_
        refine lv_iconst (v := 1) hx hb gX6_thingOf_3.2.2.2.2.2.2.2.2.2 (by decide) ?_
        refine pV hC hK hl hP hD (c_T_at l G blines (r1 + i) 1 72 7 blinesc kblines fblines (hkblines) (by omega) (by omega)) si_X6_46 [2, 3] sm_2_3 fm_2_3 nd_2_3 rfl rfl rfl rfl rfl (Nat.le_of_ble_eq_true rfl) rm_3_1_3 ⟨by first | exact Nat.le_of_ble_eq_true rfl | exact Nat.zero_le _, by first | exact Nat.le_of_ble_eq_true rfl | exact Nat.zero_le _⟩ gX6_thingOf_4.1 (fun r1227 hr1227 => ?_)
        refine lv_goto (tgt := 79) hx hb gX6_thingOf_4.2.1 (by decide) ?_
        refine toQ hQ0 ?_
        exact RP (v := r1227) hC (trivial) rfl gX6_thingOf_4.2.2.2
    · refine lv_aload_n hx hb gX6_thingOf_1.2.2.2.2.2.2.2.2.2 rfl (lv_at1 hl) ?_
      refine gf_X6_18 hC rfl hK hP 0 rfl rfl gX6_thingOf_2.1 ?_
      refine gf_X6_65 hC rfl hK hP 1 rfl rfl gX6_thingOf_2.2.1 ?_
      refine lv_aload_n hx hb gX6_thingOf_2.2.2.1 rfl (lv_at1 hl) ?_
      refine gf_X6_26 hC rfl hK hP 0 rfl rfl gX6_thingOf_2.2.2.2.1 ?_
      refine lv_iload_n hx hb gX6_thingOf_2.2.2.2.2.1 rfl (lv_at2 hl) ?_
      refine lv_iadd hx hb gX6_thingOf_2.2.2.2.2.2.1 ?_
      refine lv_iconst (v := 2) hx hb gX6_thingOf_2.2.2.2.2.2.2.1 (by decide) ?_
      refine pV hC hK hl hP hD (c_T_at l G blines (r1 + i) 2 72 7 blinesc kblines fblines (hkblines) (by omega) (by omega)) si_X6_46 [2, 3] sm_2_3 fm_2_3 nd_2_3 rfl rfl rfl rfl rfl (Nat.le_of_ble_eq_true rfl) rm_3_1_3 ⟨by first | exact Nat.le_of_ble_eq_true rfl | exact Nat.zero_le _, by first | exact Nat.le_of_ble_eq_true rfl | exact Nat.zero_le _⟩ gX6_thingOf_2.2.2.2.2.2.2.2.1 (fun r1229 hr1229 => ?_)
      refine toQ hQ0 ?_
      exact RP (v := r1229) hC (trivial) rfl gX6_thingOf_2.2.2.2.2.2.2.2.2.1
  · refine lv_if_ne (tgt := 13) hx hb gX6_thingOf_0.2.2.2.2.1 (by decide) (fun c9 => absurd (by decide) c9) (fun _ => ?_)
    refine lv_iconst (v := (-1)) hx hb gX6_thingOf_0.2.2.2.2.2.1 (by decide) ?_
    refine toQ hQ0 ?_
    exact RP (v := (-1)) hC (trivial) rfl gX6_thingOf_0.2.2.2.2.2.2.1
def K_c_hourBy (l : Launch) (G : GG) (h0 : Nat) (i : Int32) (bb : Nat) (sg : Nat) (fc : Nat) (sh : Nat) (r1 : Int32) (rc : Int32) (rh : Int32) (fsh : Nat → Int32) (bpersons : Nat) (bpapers : Nat) (bstamps : Nat) (bversions : Nat) (blines : Nat) (bsteps : Nat) (bsayings : Nat) (bfindings : Nat) (bwarnings : Nat) (bquestions : Nat) (td : Int32) (vd : Int32) (vl : Int32) (gp : Int32) (blinesc : Nat) (kblines : Nat) (fblines : Nat → Int32) : Prop := MP l G yX6_hourBy cX6_hourBy 4 (some .int) 3 [.ref h0, .int i] [(h0, oX6 bb sg fc sh r1 rc rh), (sh, iA G 8 fsh), (bb, oX0 bpersons bpapers bstamps bversions blines bsteps bsayings bfindings bwarnings bquestions td vd vl gp), (blines, oX8 72 7 blinesc (nI kblines)), (blinesc, iA G 504 fblines)] (fun r : Int32 => True)
set_option maxHeartbeats 4000000 in
set_option maxRecDepth 100000 in
theorem c_hourBy (l : Launch) (G : GG) (h0 : Nat) (i : Int32) (bb : Nat) (sg : Nat) (fc : Nat) (sh : Nat) (r1 : Int32) (rc : Int32) (rh : Int32) (fsh : Nat → Int32) (bpersons : Nat) (bpapers : Nat) (bstamps : Nat) (bversions : Nat) (blines : Nat) (bsteps : Nat) (bsayings : Nat) (bfindings : Nat) (bwarnings : Nat) (bquestions : Nat) (td : Int32) (vd : Int32) (vl : Int32) (gp : Int32) (blinesc : Nat) (kblines : Nat) (fblines : Nat → Int32) (hkblines : kblines ≤ 72) : K_c_hourBy l G h0 i bb sg fc sh r1 rc rh fsh bpersons bpapers bstamps bversions blines bsteps bsayings bfindings bwarnings bquestions td vd vl gp blinesc kblines fblines := by
  refine MP.start (by decide +kernel) (Nat.le_of_ble_eq_true rfl) ?_
  intro p e s m below meth c ls hC hK hP hD hl
  refine absQ (fun Q0 hQ0 => ?_)
  have hl : lv_has ls 4 [(0, .ref h0), (1, .int i)] := hl
  refine Kan8 hC (fun hx hb hr hml hB hown hlocks hnm => ?_)
  refine lv_aload_n hx hb gX6_hourBy_0.1 rfl (lv_at0 hl) ?_
  refine gf_X6_26 hC rfl hK hP 0 rfl rfl gX6_hourBy_0.2.1 ?_
  refine lv_iload_n hx hb gX6_hourBy_0.2.2.1 rfl (lv_at1 hl) ?_
  refine lv_iadd hx hb gX6_hourBy_0.2.2.2.1 ?_
  refine lv_istore_n (lv' := [(2, .int (r1 + i)), (0, .ref h0), (1, .int i)]) hx hb gX6_hourBy_0.2.2.2.2.1 rfl hl (by decide) rfl (fun ls hl => ?_)
  refine lv_aload_n hx hb gX6_hourBy_0.2.2.2.2.2.1 rfl (lv_at1 hl) ?_
  refine gf_X6_18 hC rfl hK hP 0 rfl rfl gX6_hourBy_0.2.2.2.2.2.2.1 ?_
  refine gf_X6_65 hC rfl hK hP 2 rfl rfl gX6_hourBy_0.2.2.2.2.2.2.2.1 ?_
  refine lv_iload_n hx hb gX6_hourBy_0.2.2.2.2.2.2.2.2.1 rfl (lv_at0 hl) ?_
  refine lv_iconst (v := 0) hx hb gX6_hourBy_0.2.2.2.2.2.2.2.2.2 (by decide) ?_
  refine pV hC hK hl hP hD (c_T_at l G blines (r1 + i) 0 72 7 blinesc kblines fblines (hkblines) (by omega) (by omega)) si_X6_46 [3, 4] sm_3_4 fm_3_4 nd_3_4 rfl rfl rfl rfl rfl (Nat.le_of_ble_eq_true rfl) rm_3_1_3 ⟨by first | exact Nat.le_of_ble_eq_true rfl | exact Nat.zero_le _, by first | exact Nat.le_of_ble_eq_true rfl | exact Nat.zero_le _⟩ gX6_hourBy_1.1 (fun r1231 hr1231 => ?_)
  refine lv_iconst (v := 2) hx hb gX6_hourBy_1.2.1 (by decide) ?_
  refine lv_icmp_ne (tgt := 36) hx hb gX6_hourBy_1.2.2.1 (by decide) (fun c_20_1233 => ?_) (fun c_20_1233 => ?_)
  · refine lv_aload_n hx hb gX6_hourBy_2.1 rfl (lv_at1 hl) ?_
    refine lv_aload_n hx hb gX6_hourBy_2.2.1 rfl (lv_at1 hl) ?_
    refine gf_X6_18 hC rfl hK hP 0 rfl rfl gX6_hourBy_2.2.2.1 ?_
    refine gf_X6_65 hC rfl hK hP 2 rfl rfl gX6_hourBy_2.2.2.2.1 ?_
    refine lv_iload_n hx hb gX6_hourBy_2.2.2.2.2.1 rfl (lv_at0 hl) ?_
    refine lv_iconst (v := 3) hx hb gX6_hourBy_2.2.2.2.2.2.1 (by decide) ?_
    refine pV hC hK hl hP hD (c_T_at l G blines (r1 + i) 3 72 7 blinesc kblines fblines (hkblines) (by omega) (by omega)) si_X6_46 [3, 4] sm_3_4 fm_3_4 nd_3_4 rfl rfl rfl rfl rfl (Nat.le_of_ble_eq_true rfl) rm_3_1_3 ⟨by first | exact Nat.le_of_ble_eq_true rfl | exact Nat.zero_le _, by first | exact Nat.le_of_ble_eq_true rfl | exact Nat.zero_le _⟩ gX6_hourBy_2.2.2.2.2.2.2.1 (fun r1234 hr1234 => ?_)
    refine pV hC hK hl hP hD (c_shouldHour l G h0 r1234 bb sg fc sh r1 rc rh fsh) si_X6_102 [0, 1] sm_0_1 fm_0_1 nd_0_1 rfl rfl rfl rfl rfl (Nat.le_of_ble_eq_true rfl) rm_3_1_2 ⟨by first | exact Nat.le_of_ble_eq_true rfl | exact Nat.zero_le _, by first | exact Nat.le_of_ble_eq_true rfl | exact Nat.zero_le _⟩ gX6_hourBy_2.2.2.2.2.2.2.2.1 (fun r1236 hr1236 => ?_)
    refine lv_istore_n (lv' := [(3, .int r1236), (2, .int (r1 + i)), (0, .ref h0), (1, .int i)]) hx hb gX6_hourBy_2.2.2.2.2.2.2.2.2.1 rfl hl (by decide) rfl (fun ls hl => ?_)
    refine lv_iload_n hx hb gX6_hourBy_2.2.2.2.2.2.2.2.2.2 rfl (lv_at0 hl) ?_
    refine lv_ldc hx hb hown (hB _ m_597) gX6_hourBy_3.1 ?_
    refine lv_icmp_ne (tgt := 64) hx hb gX6_hourBy_3.2.1 (by decide) (fun c_56_1237 => ?_) (fun c_56_1237 => ?_)
    · refine lv_iload_n hx hb gX6_hourBy_3.2.2.2.2.1 rfl (lv_at0 hl) ?_
      refine lv_aload_n hx hb gX6_hourBy_3.2.2.2.2.2.1 rfl (lv_at2 hl) ?_
      refine gf_X6_18 hC rfl hK hP 0 rfl rfl gX6_hourBy_3.2.2.2.2.2.2.1 ?_
      refine gf_X6_65 hC rfl hK hP 2 rfl rfl gX6_hourBy_3.2.2.2.2.2.2.2.1 ?_
      refine lv_iload_n hx hb gX6_hourBy_3.2.2.2.2.2.2.2.2.1 rfl (lv_at1 hl) ?_
      refine lv_iconst (v := 1) hx hb gX6_hourBy_3.2.2.2.2.2.2.2.2.2 (by decide) ?_
      refine pV hC hK hl hP hD (c_T_at l G blines (r1 + i) 1 72 7 blinesc kblines fblines (hkblines) (by omega) (by omega)) si_X6_46 [3, 4] sm_3_4 fm_3_4 nd_3_4 rfl rfl rfl rfl rfl (Nat.le_of_ble_eq_true rfl) rm_3_1_3 ⟨by first | exact Nat.le_of_ble_eq_true rfl | exact Nat.zero_le _, by first | exact Nat.le_of_ble_eq_true rfl | exact Nat.zero_le _⟩ gX6_hourBy_4.1 (fun r1238 hr1238 => ?_)
      refine lv_iadd hx hb gX6_hourBy_4.2.1 ?_
      refine toQ hQ0 ?_
      exact RP (v := r1236 + r1238) hC (trivial) rfl gX6_hourBy_4.2.2
    · refine lv_ldc hx hb hown (hB _ m_597) gX6_hourBy_3.2.2.1 ?_
      refine lv_goto (tgt := 78) hx hb gX6_hourBy_3.2.2.2.1 (by decide) ?_
      refine toQ hQ0 ?_
      exact RP (v := 1000000) hC (trivial) rfl gX6_hourBy_4.2.2
  · refine lv_aload_n hx hb gX6_hourBy_1.2.2.2.1 rfl (lv_at1 hl) ?_
    refine gf_X6_18 hC rfl hK hP 0 rfl rfl gX6_hourBy_1.2.2.2.2.1 ?_
    refine gf_X6_65 hC rfl hK hP 2 rfl rfl gX6_hourBy_1.2.2.2.2.2.1 ?_
    refine lv_iload_n hx hb gX6_hourBy_1.2.2.2.2.2.2.1 rfl (lv_at0 hl) ?_
    refine lv_iconst (v := 2) hx hb gX6_hourBy_1.2.2.2.2.2.2.2.1 (by decide) ?_
    refine pV hC hK hl hP hD (c_T_at l G blines (r1 + i) 2 72 7 blinesc kblines fblines (hkblines) (by omega) (by omega)) si_X6_46 [3, 4] sm_3_4 fm_3_4 nd_3_4 rfl rfl rfl rfl rfl (Nat.le_of_ble_eq_true rfl) rm_3_1_3 ⟨by first | exact Nat.le_of_ble_eq_true rfl | exact Nat.zero_le _, by first | exact Nat.le_of_ble_eq_true rfl | exact Nat.zero_le _⟩ gX6_hourBy_1.2.2.2.2.2.2.2.2.1 (fun r1240 hr1240 => ?_)
    refine toQ hQ0 ?_
    exact RP (v := r1240) hC (trivial) rfl gX6_hourBy_1.2.2.2.2.2.2.2.2.2
def K_c_tellEarlier (l : Launch) (G : GG) (h0 : Nat) (bb : Nat) (sg : Nat) (fc : Nat) (sh : Nat) (r1 : Int32) (rc : Int32) (rh : Int32) (fsh : Nat → Int32) (bpersons : Nat) (bpapers : Nat) (bstamps : Nat) (bversions : Nat) (blines : Nat) (bsteps : Nat) (bsayings : Nat) (bfindings : Nat) (bwarnings : Nat) (bquestions : Nat) (td : Int32) (vd : Int32) (vl : Int32) (gp : Int32) (blinesc : Nat) (kblines : Nat) (fblines : Nat → Int32) : Prop := MI l G yX6_tellEarlier cX6_tellEarlier 4 (some .boolean) 4 0 0 [.ref h0] [(h0, oX6 bb sg fc sh r1 rc rh), (sh, iA G 8 fsh), (bb, oX0 bpersons bpapers bstamps bversions blines bsteps bsayings bfindings bwarnings bquestions td vd vl gp), (blines, oX8 72 7 blinesc (nI kblines)), (blinesc, iA G 504 fblines)] (fun (r : Int32) (u : (Nat → Int32)) => (r = 1 ∨ r = 0)) (fun u : (Nat → Int32) => [(h0, oX6 bb sg fc sh r1 rc rh), (sh, iA G 8 u), (bb, oX0 bpersons bpapers bstamps bversions blines bsteps bsayings bfindings bwarnings bquestions td vd vl gp), (blines, oX8 72 7 blinesc (nI kblines)), (blinesc, iA G 504 fblines)])
set_option maxHeartbeats 4000000 in
set_option maxRecDepth 100000 in
theorem c_tellEarlier (l : Launch) (G : GG) (h0 : Nat) (bb : Nat) (sg : Nat) (fc : Nat) (sh : Nat) (r1 : Int32) (rc : Int32) (rh : Int32) (fsh : Nat → Int32) (bpersons : Nat) (bpapers : Nat) (bstamps : Nat) (bversions : Nat) (blines : Nat) (bsteps : Nat) (bsayings : Nat) (bfindings : Nat) (bwarnings : Nat) (bquestions : Nat) (td : Int32) (vd : Int32) (vl : Int32) (gp : Int32) (blinesc : Nat) (kblines : Nat) (fblines : Nat → Int32) (hkblines : kblines ≤ 72) : K_c_tellEarlier l G h0 bb sg fc sh r1 rc rh fsh bpersons bpapers bstamps bversions blines bsteps bsayings bfindings bwarnings bquestions td vd vl gp blinesc kblines fblines := by
  refine MI.start (by decide +kernel) (Nat.le_of_ble_eq_true rfl) ?_
  intro p e s m below meth c A ls hC hK hP hD hS hA hl
  refine absQ (fun Q0 hQ0 => ?_)
  have hl : lv_has ls 4 [(0, .ref h0)] := hl
  refine Kan8 hC (fun hx hb hr hml hB hown hlocks hnm => ?_)
  refine lv_iconst (v := 0) hx hb gX6_tellEarlier_0.1 (by decide) ?_
  refine lv_istore_n (lv' := [(1, .int 0), (0, .ref h0)]) hx hb gX6_tellEarlier_0.2.1 rfl hl (by decide) rfl (fun ls hl => ?_)
  refine lv_iconst (v := 0) hx hb gX6_tellEarlier_0.2.2.1 (by decide) ?_
  refine lv_istore_n (lv' := [(2, .int 0), (1, .int 0), (0, .ref h0)]) hx hb gX6_tellEarlier_0.2.2.2.1 rfl hl (by decide) rfl (fun ls hl => ?_)
  have keyP : ∀ (nP kP : Nat) (so : Int32) (vsh : Nat → Int32) (H : Heap) (locs : List Loc) (ls : Array Slot), kP < 2 ^ 31 → (rc).toInt ≤ ((kP + nP : Nat) : Int) → (so = 0 ∨ so = 1) → va_PD G A [(h0, oX6 bb sg fc sh r1 rc rh), (sh, iA G 8 vsh), (bb, oX0 bpersons bpapers bstamps bversions blines bsteps bsayings bfindings bwarnings bquestions td vd vl gp), (blines, oX8 72 7 blinesc (nI kblines)), (blinesc, iA G 504 fblines)] H → va_S A s.heap H locs → lv_has ls 4 [(2, .int (nI kP)), (1, .int so), (0, .ref h0)] → W p l e (RM 4 0 0) s m ([.ref h0] : List Value).toArray below meth c H locs 0 0 Q0 (F0 m 4 ls []) := by
    intro nP
    induction nP with
    | zero =>
      intro kP so vsh H locs ls hjP hkP hso hPD hS hl
      refine Kan2 hPD (fun hP hD => ?_)
      have hzP : rc ≤ nI kP := bz hjP (by omega)
      refine lv_iload_n hx hb gX6_tellEarlier_0.2.2.2.2.1 rfl (lv_at0 hl) ?_
      refine lv_aload_n hx hb gX6_tellEarlier_0.2.2.2.2.2.1 rfl (lv_at2 hl) ?_
      refine gf_X6_30 hC rfl hK hP 0 rfl rfl gX6_tellEarlier_0.2.2.2.2.2.2.1 ?_
      refine lv_icmp_ge (tgt := 61) hx hb gX6_tellEarlier_0.2.2.2.2.2.2.2.1 (by decide) (fun _ => ?_) (fun c9 => absurd (hzP) c9)
      rcases hso with rfl | rfl
      · refine lv_iload_n hx hb gX6_tellEarlier_3.2.2.2.2.2.1 rfl (lv_at1 hl) ?_
        refine toQ hQ0 ?_
        exact RI (v := 0) hC hP hD hS [0, 1, 2, 3, 4] vsh rfl rfl (by decide) (Or.inr (rfl)) (by decide +kernel) gX6_tellEarlier_3.2.2.2.2.2.2
      · refine lv_iload_n hx hb gX6_tellEarlier_3.2.2.2.2.2.1 rfl (lv_at1 hl) ?_
        refine toQ hQ0 ?_
        exact RI (v := 1) hC hP hD hS [0, 1, 2, 3, 4] vsh rfl rfl (by decide) (Or.inl (rfl)) (by decide +kernel) gX6_tellEarlier_3.2.2.2.2.2.2
    | succ nP ihP =>
      intro kP so vsh H locs ls hjP hkP hso hPD hS hl
      refine Kan2 hPD (fun hP hD => ?_)
      refine lv_iload_n hx hb gX6_tellEarlier_0.2.2.2.2.1 rfl (lv_at0 hl) ?_
      refine lv_aload_n hx hb gX6_tellEarlier_0.2.2.2.2.2.1 rfl (lv_at2 hl) ?_
      refine gf_X6_30 hC rfl hK hP 0 rfl rfl gX6_tellEarlier_0.2.2.2.2.2.2.1 ?_
      refine lv_icmp_ge (tgt := 61) hx hb gX6_tellEarlier_0.2.2.2.2.2.2.2.1 (by decide) (fun c_9_1242 => ?_) (fun c_9_1242 => ?_)
      · rcases hso with rfl | rfl
        · refine lv_iload_n hx hb gX6_tellEarlier_3.2.2.2.2.2.1 rfl (lv_at1 hl) ?_
          refine toQ hQ0 ?_
          exact RI (v := 0) hC hP hD hS [0, 1, 2, 3, 4] vsh rfl rfl (by decide) (Or.inr (rfl)) (by decide +kernel) gX6_tellEarlier_3.2.2.2.2.2.2
        · refine lv_iload_n hx hb gX6_tellEarlier_3.2.2.2.2.2.1 rfl (lv_at1 hl) ?_
          refine toQ hQ0 ?_
          exact RI (v := 1) hC hP hD hS [0, 1, 2, 3, 4] vsh rfl rfl (by decide) (Or.inl (rfl)) (by decide +kernel) gX6_tellEarlier_3.2.2.2.2.2.2
      · refine lv_aload_n hx hb gX6_tellEarlier_0.2.2.2.2.2.2.2.2.1 rfl (lv_at2 hl) ?_
        refine lv_iload_n hx hb gX6_tellEarlier_0.2.2.2.2.2.2.2.2.2 rfl (lv_at0 hl) ?_
        refine pV hC hK hl hP hD (c_thingOf l G h0 (nI kP) bb sg fc sh r1 rc rh bpersons bpapers bstamps bversions blines bsteps bsayings bfindings bwarnings bquestions td vd vl gp blinesc kblines fblines (hkblines)) si_X6_88 [0, 2, 3, 4] sm_0_2_3_4 fm_0_2_3_4 nd_0_2_3_4 rfl rfl rfl rfl rfl (Nat.le_of_ble_eq_true rfl) rm_4_3_3 ⟨by first | exact Nat.le_of_ble_eq_true rfl | exact Nat.zero_le _, by first | exact Nat.le_of_ble_eq_true rfl | exact Nat.zero_le _⟩ gX6_tellEarlier_1.1 (fun r1243 hr1243 => ?_)
        refine lv_istore_n (lv' := [(3, .int r1243), (2, .int (nI kP)), (1, .int so), (0, .ref h0)]) hx hb gX6_tellEarlier_1.2.1 rfl hl (by decide) rfl (fun ls hl => ?_)
        refine lv_iload_n hx hb gX6_tellEarlier_1.2.2.1 rfl (lv_at0 hl) ?_
        refine pSN hC hK hl (c_isThing l G r1243) si_X6_92 rfl rfl (Nat.le_of_ble_eq_true rfl) rm_4_2_1 ⟨by first | exact Nat.le_of_ble_eq_true rfl | exact Nat.zero_le _, by first | exact Nat.le_of_ble_eq_true rfl | exact Nat.zero_le _⟩ gX6_tellEarlier_1.2.2.2.1 (Kors (Keqa fun a1245 => ?_) (Keqa fun a1245 => ?_))
        · refine lv_if_eq (tgt := 55) hx hb gX6_tellEarlier_1.2.2.2.2.1 (by decide) (fun c9 => absurd c9 (by decide)) (fun _ => ?_)
          obtain ⟨jt, hjt, rfl⟩ := Wi7 a1245
          refine lv_aload_n hx hb gX6_tellEarlier_1.2.2.2.2.2.1 rfl (lv_at3 hl) ?_
          refine lv_iload_n hx hb gX6_tellEarlier_1.2.2.2.2.2.2.1 rfl (lv_at1 hl) ?_
          refine pV hC hK hl hP hD (c_hourBy l G h0 (nI kP) bb sg fc sh r1 rc rh vsh bpersons bpapers bstamps bversions blines bsteps bsayings bfindings bwarnings bquestions td vd vl gp blinesc kblines fblines (hkblines)) si_X6_95 [0, 1, 2, 3, 4] sm_0_1_2_3_4 fm_0_1_2_3_4 nd_0_1_2_3_4 rfl rfl rfl rfl rfl (Nat.le_of_ble_eq_true rfl) rm_4_3_4 ⟨by first | exact Nat.le_of_ble_eq_true rfl | exact Nat.zero_le _, by first | exact Nat.le_of_ble_eq_true rfl | exact Nat.zero_le _⟩ gX6_tellEarlier_1.2.2.2.2.2.2.2.1 (fun r1246 hr1246 => ?_)
          refine lv_aload_n hx hb gX6_tellEarlier_1.2.2.2.2.2.2.2.2.1 rfl (lv_at3 hl) ?_
          refine gf_X6_15 hC rfl hK hP 0 rfl rfl gX6_tellEarlier_1.2.2.2.2.2.2.2.2.2 ?_
          refine lv_iload_n hx hb gX6_tellEarlier_2.1 rfl (lv_at0 hl) ?_
          refine aldN hC hK hP 1 rfl (k := jt) (by omega) (Nat.le_of_ble_eq_true rfl) (v := vsh jt) rfl gX6_tellEarlier_2.2.1 ?_
          refine lv_topi (fun x1247 ex1247 => ?_)
          refine lv_icmp_lt (tgt := 42) hx hb gX6_tellEarlier_2.2.2.1 (by decide) (fun c_36_1248 => ?_) (fun c_36_1248 => ?_)
          · refine lv_aload_n hx hb gX6_tellEarlier_2.2.2.2.2.1 rfl (lv_at3 hl) ?_
            refine gf_X6_15 hC rfl hK hP 0 rfl rfl gX6_tellEarlier_2.2.2.2.2.2.1 ?_
            refine lv_iload_n hx hb gX6_tellEarlier_2.2.2.2.2.2.2.1 rfl (lv_at0 hl) ?_
            refine lv_aload_n hx hb gX6_tellEarlier_2.2.2.2.2.2.2.2.1 rfl (lv_at3 hl) ?_
            refine lv_iload_n hx hb gX6_tellEarlier_2.2.2.2.2.2.2.2.2.1 rfl (lv_at1 hl) ?_
            refine pV hC hK hl hP hD (c_hourBy l G h0 (nI kP) bb sg fc sh r1 rc rh vsh bpersons bpapers bstamps bversions blines bsteps bsayings bfindings bwarnings bquestions td vd vl gp blinesc kblines fblines (hkblines)) si_X6_95 [0, 1, 2, 3, 4] sm_0_1_2_3_4 fm_0_1_2_3_4 nd_0_1_2_3_4 rfl rfl rfl rfl rfl (Nat.le_of_ble_eq_true rfl) rm_4_3_4 ⟨by first | exact Nat.le_of_ble_eq_true rfl | exact Nat.zero_le _, by first | exact Nat.le_of_ble_eq_true rfl | exact Nat.zero_le _⟩ gX6_tellEarlier_2.2.2.2.2.2.2.2.2.2 (fun r1249 hr1249 => ?_)
            refine astN hC hK hP hD hS 1 (ws' := [(h0, oX6 bb sg fc sh r1 rc rh), (sh, iA G 8 (upd vsh jt r1249)), (bb, oX0 bpersons bpapers bstamps bversions blines bsteps bsayings bfindings bwarnings bquestions td vd vl gp), (blines, oX8 72 7 blinesc (nI kblines)), (blinesc, iA G 504 fblines)]) rfl (k := jt) (by omega) (Nat.le_of_ble_eq_true rfl) (rfl) gX6_tellEarlier_3.1 (fun H locs hP hD hS => ?_)
            refine lv_iconst (v := 1) hx hb gX6_tellEarlier_3.2.1 (by decide) ?_
            refine lv_istore_n (lv' := [(1, .int 1), (3, .int (nI jt)), (2, .int (nI kP)), (0, .ref h0)]) hx hb gX6_tellEarlier_3.2.2.1 rfl hl (by decide) rfl (fun ls hl => ?_)
            refine lv_iinc (v := nI (kP + 1)) (lv' := [(2, .int (nI (kP + 1))), (1, .int 1), (3, .int (nI jt)), (0, .ref h0)]) hx hb gX6_tellEarlier_3.2.2.2.1 hl (k := 2) rfl (nI_1 _) (by decide) rfl (fun ls hl => ?_)
            refine lv_goto (tgt := 4) hx hb gX6_tellEarlier_3.2.2.2.2.1 (by decide) ?_
            exact ihP (kP + 1) 1 (upd vsh jt r1249) _ _ _ (bs hjP c_9_1242) (by omega) (by first | assumption | exact Or.inl rfl | exact Or.inr rfl) (And.intro hP hD) hS (lv_sub hl [0, 1, 3] rfl)
          · refine lv_goto (tgt := 55) hx hb gX6_tellEarlier_2.2.2.2.1 (by decide) ?_
            refine lv_iinc (v := nI (kP + 1)) (lv' := [(2, .int (nI (kP + 1))), (3, .int (nI jt)), (1, .int so), (0, .ref h0)]) hx hb gX6_tellEarlier_3.2.2.2.1 hl (k := 1) rfl (nI_1 _) (by decide) rfl (fun ls hl => ?_)
            refine lv_goto (tgt := 4) hx hb gX6_tellEarlier_3.2.2.2.2.1 (by decide) ?_
            exact ihP (kP + 1) so vsh _ _ _ (bs hjP c_9_1242) (by omega) (by first | assumption | exact Or.inl rfl | exact Or.inr rfl) (And.intro hP hD) hS (lv_sub hl [0, 2, 3] rfl)
        · refine lv_if_eq (tgt := 55) hx hb gX6_tellEarlier_1.2.2.2.2.1 (by decide) (fun _ => ?_) (fun c9 => absurd (by decide) c9)
          refine lv_iinc (v := nI (kP + 1)) (lv' := [(2, .int (nI (kP + 1))), (3, .int r1243), (1, .int so), (0, .ref h0)]) hx hb gX6_tellEarlier_3.2.2.2.1 hl (k := 1) rfl (nI_1 _) (by decide) rfl (fun ls hl => ?_)
          refine lv_goto (tgt := 4) hx hb gX6_tellEarlier_3.2.2.2.2.1 (by decide) ?_
          exact ihP (kP + 1) so vsh _ _ _ (bs hjP c_9_1242) (by omega) (by first | assumption | exact Or.inl rfl | exact Or.inr rfl) (And.intro hP hD) hS (lv_sub hl [0, 2, 3] rfl)
  exact keyP (rc).toInt.toNat 0 0 fsh _ _ _ (by decide) (by omega) (by first | assumption | exact Or.inl rfl | exact Or.inr rfl) (And.intro hP hD) hS (lv_sub hl [0, 1, 2] rfl)
def K_c_settle (l : Launch) (G : GG) (h0 : Nat) (pe : Int32) (pp : Int32) (bb : Nat) (sg : Nat) (fc : Nat) (sh : Nat) (r1 : Int32) (rc : Int32) (rh : Int32) (ffc : Nat → Int32) (fsh : Nat → Int32) (clk : Nat) (fi : Nat) (la : Nat) (ml : Nat) (mm : Nat) (sl : Nat) (sm : Nat) (scl : Int32) (fla : Nat → Int32) (fml : Nat → Int32) (fmm : Nat → Int32) (fsl : Nat → Int32) (fsm : Nat → Int32) (bpersons : Nat) (bpapers : Nat) (bstamps : Nat) (bversions : Nat) (blines : Nat) (bsteps : Nat) (bsayings : Nat) (bfindings : Nat) (bwarnings : Nat) (bquestions : Nat) (td : Int32) (vd : Int32) (vl : Int32) (gp : Int32) (bversionsc : Nat) (kbversions : Nat) (fbversions : Nat → Int32) (bpersonsc : Nat) (kbpersons : Nat) (fbpersons : Nat → Int32) (bpapersc : Nat) (kbpapers : Nat) (fbpapers : Nat → Int32) (blinesc : Nat) (kblines : Nat) (fblines : Nat → Int32) (bstepsc : Nat) (kbsteps : Nat) (fbsteps : Nat → Int32) : Prop := MV l G yX6_settle cX6_settle 5 5 0 0 [.ref h0, .int pe, .int pp] [(h0, oX6 bb sg fc sh r1 rc rh), (fc, iA G 5 ffc), (sh, iA G 8 fsh), (sg, oX7 bb clk fi la ml mm sl sm scl), (la, iA G 12 fla), (ml, iA G 12 fml), (mm, iA G 12 fmm), (sl, iA G 12 fsl), (sm, iA G 12 fsm), (bb, oX0 bpersons bpapers bstamps bversions blines bsteps bsayings bfindings bwarnings bquestions td vd vl gp), (bversions, oX8 8 3 bversionsc (nI kbversions)), (bversionsc, iA G 24 fbversions), (bpersons, oX8 10 2 bpersonsc (nI kbpersons)), (bpersonsc, iA G 20 fbpersons), (bpapers, oX8 12 6 bpapersc (nI kbpapers)), (bpapersc, iA G 72 fbpapers), (blines, oX8 72 7 blinesc (nI kblines)), (blinesc, iA G 504 fblines), (bsteps, oX8 960 1 bstepsc (nI kbsteps)), (bstepsc, iA G 960 fbsteps)] (fun u : Int32 × Int32 × Int32 × (Nat → Int32) × (Nat → Int32) => True) (fun u : Int32 × Int32 × Int32 × (Nat → Int32) × (Nat → Int32) => [(h0, oX6 bb sg fc sh u.1 u.2.1 u.2.2.1), (fc, iA G 5 u.2.2.2.1), (sh, iA G 8 u.2.2.2.2), (sg, oX7 bb clk fi la ml mm sl sm scl), (la, iA G 12 fla), (ml, iA G 12 fml), (mm, iA G 12 fmm), (sl, iA G 12 fsl), (sm, iA G 12 fsm), (bb, oX0 bpersons bpapers bstamps bversions blines bsteps bsayings bfindings bwarnings bquestions td vd vl gp), (bversions, oX8 8 3 bversionsc (nI kbversions)), (bversionsc, iA G 24 fbversions), (bpersons, oX8 10 2 bpersonsc (nI kbpersons)), (bpersonsc, iA G 20 fbpersons), (bpapers, oX8 12 6 bpapersc (nI kbpapers)), (bpapersc, iA G 72 fbpapers), (blines, oX8 72 7 blinesc (nI kblines)), (blinesc, iA G 504 fblines), (bsteps, oX8 960 1 bstepsc (nI kbsteps)), (bstepsc, iA G 960 fbsteps)])
set_option maxHeartbeats 4000000 in
set_option maxRecDepth 100000 in
theorem c_settle (l : Launch) (G : GG) (h0 : Nat) (pe : Int32) (pp : Int32) (bb : Nat) (sg : Nat) (fc : Nat) (sh : Nat) (r1 : Int32) (rc : Int32) (rh : Int32) (ffc : Nat → Int32) (fsh : Nat → Int32) (clk : Nat) (fi : Nat) (la : Nat) (ml : Nat) (mm : Nat) (sl : Nat) (sm : Nat) (scl : Int32) (fla : Nat → Int32) (fml : Nat → Int32) (fmm : Nat → Int32) (fsl : Nat → Int32) (fsm : Nat → Int32) (bpersons : Nat) (bpapers : Nat) (bstamps : Nat) (bversions : Nat) (blines : Nat) (bsteps : Nat) (bsayings : Nat) (bfindings : Nat) (bwarnings : Nat) (bquestions : Nat) (td : Int32) (vd : Int32) (vl : Int32) (gp : Int32) (bversionsc : Nat) (kbversions : Nat) (fbversions : Nat → Int32) (bpersonsc : Nat) (kbpersons : Nat) (fbpersons : Nat → Int32) (bpapersc : Nat) (kbpapers : Nat) (fbpapers : Nat → Int32) (blinesc : Nat) (kblines : Nat) (fblines : Nat → Int32) (bstepsc : Nat) (kbsteps : Nat) (fbsteps : Nat → Int32) (hkbversions : kbversions ≤ 8) (hkbpersons : kbpersons ≤ 10) (hkbpapers : kbpapers ≤ 12) (hkblines : kblines ≤ 72) (hkbsteps : kbsteps ≤ 960) : K_c_settle l G h0 pe pp bb sg fc sh r1 rc rh ffc fsh clk fi la ml mm sl sm scl fla fml fmm fsl fsm bpersons bpapers bstamps bversions blines bsteps bsayings bfindings bwarnings bquestions td vd vl gp bversionsc kbversions fbversions bpersonsc kbpersons fbpersons bpapersc kbpapers fbpapers blinesc kblines fblines bstepsc kbsteps fbsteps := by
  refine MV.start (by decide +kernel) (Nat.le_of_ble_eq_true rfl) ?_
  intro p e s m below meth c A ls hC hK hP hD hS hA hl
  refine absQ (fun Q0 hQ0 => ?_)
  have hl : lv_has ls 5 [(0, .ref h0), (1, .int pe), (2, .int pp)] := hl
  refine Kan8 hC (fun hx hb hr hml hB hown hlocks hnm => ?_)
  refine lv_aload_n hx hb gX6_settle_0.1 rfl (lv_at0 hl) ?_
  refine lv_iload_n hx hb gX6_settle_0.2.1 rfl (lv_at1 hl) ?_
  refine lv_iload_n hx hb gX6_settle_0.2.2.1 rfl (lv_at2 hl) ?_
  refine vV (wr := [(sh, iA G 8 fsh), (sg, oX7 bb clk fi la ml mm sl sm scl), (la, iA G 12 fla), (ml, iA G 12 fml), (mm, iA G 12 fmm), (sl, iA G 12 fsl), (sm, iA G 12 fsm)]) hC hK hl hP hD hS hA (c_consider l G h0 pe pp bb sg fc sh r1 rc rh ffc bpersons bpapers bstamps bversions blines bsteps bsayings bfindings bwarnings bquestions td vd vl gp bversionsc kbversions fbversions bpersonsc kbpersons fbpersons bpapersc kbpapers fbpapers blinesc kblines fblines bstepsc kbsteps fbsteps (hkbversions) (hkbpersons) (hkbpapers) (hkblines) (hkbsteps)) si_X6_74 [0, 1, 9, 10, 11, 12, 13, 14, 15, 16, 17, 18, 19] [2, 3, 4, 5, 6, 7, 8] sm_0_1_9_10_11_12_13_14_15_16_17_18_19 fm_0_1_9_10_11_12_13_14_15_16_17_18_19 nd_0_1_9_10_11_12_13_14_15_16_17_18_19 sm_2_3_4_5_6_7_8 nd_2_3_4_5_6_7_8 dj_0_1_9_10_11_12_13_14_15_16_17_18_19__2_3_4_5_6_7_8 rfl rfl rfl rfl rfl (Nat.le_of_ble_eq_true rfl) rm_5_4_5 ⟨Nat.le_of_ble_eq_true rfl, Nat.le_of_ble_eq_true rfl⟩ gX6_settle_0.2.2.2.1 (Ktu4 fun r111252 rc11253 rh11254 gfc1255 => ?_)
  intro H locs hr1250 hP hD hS
  try dsimp only at hr1250
  refine Kpdr (ws := [(sh, iA G 8 fsh), (sg, oX7 bb clk fi la ml mm sl sm scl), (la, iA G 12 fla), (ml, iA G 12 fml), (mm, iA G 12 fmm), (sl, iA G 12 fsl), (sm, iA G 12 fsm), (h0, oX6 bb sg fc sh r111252 rc11253 rh11254), (fc, iA G 5 gfc1255), (bb, oX0 bpersons bpapers bstamps bversions blines bsteps bsayings bfindings bwarnings bquestions td vd vl gp), (bversions, oX8 8 3 bversionsc (nI kbversions)), (bversionsc, iA G 24 fbversions), (bpersons, oX8 10 2 bpersonsc (nI kbpersons)), (bpersonsc, iA G 20 fbpersons), (bpapers, oX8 12 6 bpapersc (nI kbpapers)), (bpapersc, iA G 72 fbpapers), (blines, oX8 72 7 blinesc (nI kblines)), (blinesc, iA G 504 fblines), (bsteps, oX8 960 1 bstepsc (nI kbsteps)), (bstepsc, iA G 960 fbsteps)]) hP hD (fun hP hD => ?_)
  refine lv_iconst (v := 0) hx hb gX6_settle_0.2.2.2.2.1 (by decide) ?_
  refine lv_istore_n (lv' := [(3, .int 0), (0, .ref h0), (1, .int pe), (2, .int pp)]) hx hb gX6_settle_0.2.2.2.2.2.1 rfl hl (by decide) rfl (fun ls hl => ?_)
  have keyP : ∀ (nP kP : Nat) (vsh : Nat → Int32) (H : Heap) (locs : List Loc) (ls : Array Slot), kP + nP = 8 → va_PD G A [(sh, iA G 8 vsh), (sg, oX7 bb clk fi la ml mm sl sm scl), (la, iA G 12 fla), (ml, iA G 12 fml), (mm, iA G 12 fmm), (sl, iA G 12 fsl), (sm, iA G 12 fsm), (h0, oX6 bb sg fc sh r111252 rc11253 rh11254), (fc, iA G 5 gfc1255), (bb, oX0 bpersons bpapers bstamps bversions blines bsteps bsayings bfindings bwarnings bquestions td vd vl gp), (bversions, oX8 8 3 bversionsc (nI kbversions)), (bversionsc, iA G 24 fbversions), (bpersons, oX8 10 2 bpersonsc (nI kbpersons)), (bpersonsc, iA G 20 fbpersons), (bpapers, oX8 12 6 bpapersc (nI kbpapers)), (bpapersc, iA G 72 fbpapers), (blines, oX8 72 7 blinesc (nI kblines)), (blinesc, iA G 504 fblines), (bsteps, oX8 960 1 bstepsc (nI kbsteps)), (bstepsc, iA G 960 fbsteps)] H → va_S A s.heap H locs → lv_has ls 5 [(3, .int (nI kP)), (0, .ref h0), (1, .int pe), (2, .int pp)] → W p l e (RM 5 0 0) s m ([.ref h0, .int pe, .int pp] : List Value).toArray below meth c H locs 0 0 Q0 (F0 m 8 ls []) := by
    intro nP
    induction nP with
    | zero =>
      intro kP vsh H locs ls hkP hPD hS hl
      refine Kan2 hPD (fun hP hD => ?_)
      obtain rfl : 8 = kP := by omega
      have hl : lv_has ls 5 [(3, .int 8), (0, .ref h0), (1, .int pe), (2, .int pp)] := hl
      refine lv_iload_n hx hb gX6_settle_0.2.2.2.2.2.2.1 rfl (lv_at0 hl) ?_
      refine lv_bipush (v := 8) hx hb gX6_settle_0.2.2.2.2.2.2.2.1 (by decide) ?_
      refine lv_icmp_ge (tgt := 36) hx hb gX6_settle_0.2.2.2.2.2.2.2.2.1 (by decide) (fun _ => ?_) (fun c9 => absurd (by decide) c9)
      refine lv_iconst (v := 1) hx hb gX6_settle_2.2.1 (by decide) ?_
      refine lv_istore_n (lv' := [(3, .int 1), (0, .ref h0), (1, .int pe), (2, .int pp)]) hx hb gX6_settle_2.2.2.1 rfl hl (by decide) rfl (fun ls hl => ?_)
      refine lv_iconst (v := 0) hx hb gX6_settle_2.2.2.2.1 (by decide) ?_
      refine lv_istore (lv' := [(4, .int 0), (3, .int 1), (0, .ref h0), (1, .int pe), (2, .int pp)]) hx hb gX6_settle_2.2.2.2.2.1 hl (by decide) rfl (fun ls hl => ?_)
      have keyQ : ∀ (nQ kQ : Nat) (go9 : Int32) (wsh : Nat → Int32) (H : Heap) (locs : List Loc) (ls : Array Slot), kQ + nQ = 9 → va_PD G A [(sh, iA G 8 wsh), (sg, oX7 bb clk fi la ml mm sl sm scl), (la, iA G 12 fla), (ml, iA G 12 fml), (mm, iA G 12 fmm), (sl, iA G 12 fsl), (sm, iA G 12 fsm), (h0, oX6 bb sg fc sh r111252 rc11253 rh11254), (fc, iA G 5 gfc1255), (bb, oX0 bpersons bpapers bstamps bversions blines bsteps bsayings bfindings bwarnings bquestions td vd vl gp), (bversions, oX8 8 3 bversionsc (nI kbversions)), (bversionsc, iA G 24 fbversions), (bpersons, oX8 10 2 bpersonsc (nI kbpersons)), (bpersonsc, iA G 20 fbpersons), (bpapers, oX8 12 6 bpapersc (nI kbpapers)), (bpapersc, iA G 72 fbpapers), (blines, oX8 72 7 blinesc (nI kblines)), (blinesc, iA G 504 fblines), (bsteps, oX8 960 1 bstepsc (nI kbsteps)), (bstepsc, iA G 960 fbsteps)] H → va_S A s.heap H locs → lv_has ls 5 [(4, .int (nI kQ)), (3, .int go9), (0, .ref h0), (1, .int pe), (2, .int pp)] → W p l e (RM 5 0 0) s m ([.ref h0, .int pe, .int pp] : List Value).toArray below meth c H locs 0 0 Q0 (F0 m 41 ls []) := by
        intro nQ
        induction nQ with
        | zero =>
          intro kQ go9 wsh H locs ls hkQ hPD hS hl
          refine Kan2 hPD (fun hP hD => ?_)
          obtain rfl : 9 = kQ := by omega
          have hl : lv_has ls 5 [(4, .int 9), (3, .int go9), (0, .ref h0), (1, .int pe), (2, .int pp)] := hl
          refine lv_iload_n hx hb gX6_settle_2.2.2.2.2.2.1 rfl (lv_at1 hl) ?_
          refine lv_if_eq (tgt := 63) hx hb gX6_settle_2.2.2.2.2.2.2.1 (by decide) (fun c_42_1256 => ?_) (fun c_42_1256 => ?_)
          · refine toQ hQ0 ?_
            exact RV hC hP hD hS [7, 8, 0, 1, 2, 3, 4, 5, 6, 9, 10, 11, 12, 13, 14, 15, 16, 17, 18, 19] (r111252, rc11253, rh11254, gfc1255, wsh) rfl rfl (by decide) (trivial) gX6_settle_3.2.2.2.2.2
          · refine lv_iload hx hb gX6_settle_2.2.2.2.2.2.2.2.1 (lv_at0 hl) ?_
            refine lv_bipush (v := 8) hx hb gX6_settle_2.2.2.2.2.2.2.2.2.1 (by decide) ?_
            refine lv_icmp_gt (tgt := 63) hx hb gX6_settle_2.2.2.2.2.2.2.2.2.2 (by decide) (fun _ => ?_) (fun c9 => absurd (by decide) c9)
            refine toQ hQ0 ?_
            exact RV hC hP hD hS [7, 8, 0, 1, 2, 3, 4, 5, 6, 9, 10, 11, 12, 13, 14, 15, 16, 17, 18, 19] (r111252, rc11253, rh11254, gfc1255, wsh) rfl rfl (by decide) (trivial) gX6_settle_3.2.2.2.2.2
        | succ nQ ihQ =>
          intro kQ go9 wsh H locs ls hkQ hPD hS hl
          refine Kan2 hPD (fun hP hD => ?_)
          refine lv_iload_n hx hb gX6_settle_2.2.2.2.2.2.1 rfl (lv_at1 hl) ?_
          refine lv_if_eq (tgt := 63) hx hb gX6_settle_2.2.2.2.2.2.2.1 (by decide) (fun c_42_1257 => ?_) (fun c_42_1257 => ?_)
          · refine toQ hQ0 ?_
            exact RV hC hP hD hS [7, 8, 0, 1, 2, 3, 4, 5, 6, 9, 10, 11, 12, 13, 14, 15, 16, 17, 18, 19] (r111252, rc11253, rh11254, gfc1255, wsh) rfl rfl (by decide) (trivial) gX6_settle_3.2.2.2.2.2
          · refine lv_iload hx hb gX6_settle_2.2.2.2.2.2.2.2.1 (lv_at0 hl) ?_
            refine lv_bipush (v := 8) hx hb gX6_settle_2.2.2.2.2.2.2.2.2.1 (by decide) ?_
            refine lv_icmp_gt (tgt := 63) hx hb gX6_settle_2.2.2.2.2.2.2.2.2.2 (by decide) (fun c9 => absurd c9 (nI_nlt (a := 8) (b := kQ) (by omega) (by omega))) (fun _ => ?_)
            refine lv_aload_n hx hb gX6_settle_3.1 rfl (lv_at2 hl) ?_
            refine iV (wr := [(sg, oX7 bb clk fi la ml mm sl sm scl), (la, iA G 12 fla), (ml, iA G 12 fml), (mm, iA G 12 fmm), (sl, iA G 12 fsl), (sm, iA G 12 fsm), (fc, iA G 5 gfc1255), (bversions, oX8 8 3 bversionsc (nI kbversions)), (bversionsc, iA G 24 fbversions), (bpersons, oX8 10 2 bpersonsc (nI kbpersons)), (bpersonsc, iA G 20 fbpersons), (bpapers, oX8 12 6 bpapersc (nI kbpapers)), (bpapersc, iA G 72 fbpapers), (bsteps, oX8 960 1 bstepsc (nI kbsteps)), (bstepsc, iA G 960 fbsteps)]) hC hK hl hP hD hS hA (c_tellEarlier l G h0 bb sg fc sh r111252 rc11253 rh11254 wsh bpersons bpapers bstamps bversions blines bsteps bsayings bfindings bwarnings bquestions td vd vl gp blinesc kblines fblines (hkblines)) si_X6_84 [7, 0, 9, 16, 17] [1, 2, 3, 4, 5, 6, 8, 10, 11, 12, 13, 14, 15, 18, 19] sm_7_0_9_16_17 fm_7_0_9_16_17 nd_7_0_9_16_17 sm_1_2_3_4_5_6_8_10_11_12_13_14_15_18_19 nd_1_2_3_4_5_6_8_10_11_12_13_14_15_18_19 dj_7_0_9_16_17__1_2_3_4_5_6_8_10_11_12_13_14_15_18_19 rfl rfl rfl rfl rfl (Nat.le_of_ble_eq_true rfl) rm_5_4_4 ⟨Nat.le_of_ble_eq_true rfl, Nat.le_of_ble_eq_true rfl⟩ gX6_settle_3.2.1 (fun r1258 gsh1260 H locs hr1258 hP hD hS => ?_)
            try dsimp only at hr1258
            refine Kpdr (ws := [(sg, oX7 bb clk fi la ml mm sl sm scl), (la, iA G 12 fla), (ml, iA G 12 fml), (mm, iA G 12 fmm), (sl, iA G 12 fsl), (sm, iA G 12 fsm), (fc, iA G 5 gfc1255), (bversions, oX8 8 3 bversionsc (nI kbversions)), (bversionsc, iA G 24 fbversions), (bpersons, oX8 10 2 bpersonsc (nI kbpersons)), (bpersonsc, iA G 20 fbpersons), (bpapers, oX8 12 6 bpapersc (nI kbpapers)), (bpapersc, iA G 72 fbpapers), (bsteps, oX8 960 1 bstepsc (nI kbsteps)), (bstepsc, iA G 960 fbsteps), (h0, oX6 bb sg fc sh r111252 rc11253 rh11254), (sh, iA G 8 gsh1260), (bb, oX0 bpersons bpapers bstamps bversions blines bsteps bsayings bfindings bwarnings bquestions td vd vl gp), (blines, oX8 72 7 blinesc (nI kblines)), (blinesc, iA G 504 fblines)]) hP hD (fun hP hD => ?_)
            rcases hr1258 with rfl | rfl
            · refine lv_istore_n (lv' := [(3, .int 1), (4, .int (nI kQ)), (0, .ref h0), (1, .int pe), (2, .int pp)]) hx hb gX6_settle_3.2.2.1 rfl hl (by decide) rfl (fun ls hl => ?_)
              refine lv_iinc (v := nI (kQ + 1)) (lv' := [(4, .int (nI (kQ + 1))), (3, .int 1), (0, .ref h0), (1, .int pe), (2, .int pp)]) hx hb gX6_settle_3.2.2.2.1 hl (k := 1) rfl (nI_1 _) (by decide) rfl (fun ls hl => ?_)
              refine lv_goto (tgt := 41) hx hb gX6_settle_3.2.2.2.2.1 (by decide) ?_
              refine Kpds (ws' := [(sh, iA G 8 gsh1260), (sg, oX7 bb clk fi la ml mm sl sm scl), (la, iA G 12 fla), (ml, iA G 12 fml), (mm, iA G 12 fmm), (sl, iA G 12 fsl), (sm, iA G 12 fsm), (h0, oX6 bb sg fc sh r111252 rc11253 rh11254), (fc, iA G 5 gfc1255), (bb, oX0 bpersons bpapers bstamps bversions blines bsteps bsayings bfindings bwarnings bquestions td vd vl gp), (bversions, oX8 8 3 bversionsc (nI kbversions)), (bversionsc, iA G 24 fbversions), (bpersons, oX8 10 2 bpersonsc (nI kbpersons)), (bpersonsc, iA G 20 fbpersons), (bpapers, oX8 12 6 bpapersc (nI kbpapers)), (bpapersc, iA G 72 fbpapers), (blines, oX8 72 7 blinesc (nI kblines)), (blinesc, iA G 504 fblines), (bsteps, oX8 960 1 bstepsc (nI kbsteps)), (bstepsc, iA G 960 fbsteps)]) hP hD [16, 0, 1, 2, 3, 4, 5, 15, 6, 17, 7, 8, 9, 10, 11, 12, 18, 19, 13, 14] fm_16_0_1_2_3_4_5_15_6_17_7_8_9_10_11_12_18_19_13_14 nd_16_0_1_2_3_4_5_15_6_17_7_8_9_10_11_12_18_19_13_14 sm_16_0_1_2_3_4_5_15_6_17_7_8_9_10_11_12_18_19_13_14 (fun hP hD => ?_)
              exact ihQ (kQ + 1) 1 gsh1260 _ _ _ (by omega) (And.intro hP hD) hS (lv_sub hl [0, 1, 2, 3, 4] rfl)
            · refine lv_istore_n (lv' := [(3, .int 0), (4, .int (nI kQ)), (0, .ref h0), (1, .int pe), (2, .int pp)]) hx hb gX6_settle_3.2.2.1 rfl hl (by decide) rfl (fun ls hl => ?_)
              refine lv_iinc (v := nI (kQ + 1)) (lv' := [(4, .int (nI (kQ + 1))), (3, .int 0), (0, .ref h0), (1, .int pe), (2, .int pp)]) hx hb gX6_settle_3.2.2.2.1 hl (k := 1) rfl (nI_1 _) (by decide) rfl (fun ls hl => ?_)
              refine lv_goto (tgt := 41) hx hb gX6_settle_3.2.2.2.2.1 (by decide) ?_
              refine Kpds (ws' := [(sh, iA G 8 gsh1260), (sg, oX7 bb clk fi la ml mm sl sm scl), (la, iA G 12 fla), (ml, iA G 12 fml), (mm, iA G 12 fmm), (sl, iA G 12 fsl), (sm, iA G 12 fsm), (h0, oX6 bb sg fc sh r111252 rc11253 rh11254), (fc, iA G 5 gfc1255), (bb, oX0 bpersons bpapers bstamps bversions blines bsteps bsayings bfindings bwarnings bquestions td vd vl gp), (bversions, oX8 8 3 bversionsc (nI kbversions)), (bversionsc, iA G 24 fbversions), (bpersons, oX8 10 2 bpersonsc (nI kbpersons)), (bpersonsc, iA G 20 fbpersons), (bpapers, oX8 12 6 bpapersc (nI kbpapers)), (bpapersc, iA G 72 fbpapers), (blines, oX8 72 7 blinesc (nI kblines)), (blinesc, iA G 504 fblines), (bsteps, oX8 960 1 bstepsc (nI kbsteps)), (bstepsc, iA G 960 fbsteps)]) hP hD [16, 0, 1, 2, 3, 4, 5, 15, 6, 17, 7, 8, 9, 10, 11, 12, 18, 19, 13, 14] fm_16_0_1_2_3_4_5_15_6_17_7_8_9_10_11_12_18_19_13_14 nd_16_0_1_2_3_4_5_15_6_17_7_8_9_10_11_12_18_19_13_14 sm_16_0_1_2_3_4_5_15_6_17_7_8_9_10_11_12_18_19_13_14 (fun hP hD => ?_)
              exact ihQ (kQ + 1) 0 gsh1260 _ _ _ (by omega) (And.intro hP hD) hS (lv_sub hl [0, 1, 2, 3, 4] rfl)
      exact keyQ 9 0 1 vsh _ _ _ (by omega) (And.intro hP hD) hS (lv_sub hl [0, 1, 2, 3, 4] rfl)
    | succ nP ihP =>
      intro kP vsh H locs ls hkP hPD hS hl
      refine Kan2 hPD (fun hP hD => ?_)
      refine lv_iload_n hx hb gX6_settle_0.2.2.2.2.2.2.1 rfl (lv_at0 hl) ?_
      refine lv_bipush (v := 8) hx hb gX6_settle_0.2.2.2.2.2.2.2.1 (by decide) ?_
      refine lv_icmp_ge (tgt := 36) hx hb gX6_settle_0.2.2.2.2.2.2.2.2.1 (by decide) (fun c9 => absurd c9 (nI_ge (a := kP) (b := 8) (by omega) (by omega))) (fun _ => ?_)
      refine lv_aload_n hx hb gX6_settle_0.2.2.2.2.2.2.2.2.2 rfl (lv_at1 hl) ?_
      refine gf_X6_15 hC rfl hK hP 7 rfl rfl gX6_settle_1.1 ?_
      refine lv_iload_n hx hb gX6_settle_1.2.1 rfl (lv_at0 hl) ?_
      refine lv_aload_n hx hb gX6_settle_1.2.2.1 rfl (lv_at1 hl) ?_
      refine gf_X6_22 hC rfl hK hP 7 rfl rfl gX6_settle_1.2.2.2.1 ?_
      refine lv_iload_n hx hb gX6_settle_1.2.2.2.2.1 rfl (lv_at2 hl) ?_
      refine lv_iload_n hx hb gX6_settle_1.2.2.2.2.2.1 rfl (lv_at0 hl) ?_
      refine lv_iconst (v := 1) hx hb gX6_settle_1.2.2.2.2.2.2.1 (by decide) ?_
      refine pV hC hK hl hP hD (c_toldHour l G sg pe (nI kP) 1 bb clk fi la ml mm sl sm scl fla fml fmm fsl fsm bpersons bpapers bstamps bversions blines bsteps bsayings bfindings bwarnings bquestions td vd vl gp bpapersc kbpapers fbpapers bpersonsc kbpersons fbpersons (hkbpapers) (hkbpersons)) si_X6_78 [1, 2, 3, 4, 5, 6, 9, 14, 15, 12, 13] sm_1_2_3_4_5_6_9_14_15_12_13 fm_1_2_3_4_5_6_9_14_15_12_13 nd_1_2_3_4_5_6_9_14_15_12_13 rfl rfl rfl rfl rfl (Nat.le_of_ble_eq_true rfl) rm_5_4_6 ⟨by first | exact Nat.le_of_ble_eq_true rfl | exact Nat.zero_le _, by first | exact Nat.le_of_ble_eq_true rfl | exact Nat.zero_le _⟩ gX6_settle_1.2.2.2.2.2.2.2.1 (fun r1262 hr1262 => ?_)
      refine astN hC hK hP hD hS 0 (ws' := [(sh, iA G 8 (upd vsh kP r1262)), (sg, oX7 bb clk fi la ml mm sl sm scl), (la, iA G 12 fla), (ml, iA G 12 fml), (mm, iA G 12 fmm), (sl, iA G 12 fsl), (sm, iA G 12 fsm), (h0, oX6 bb sg fc sh r111252 rc11253 rh11254), (fc, iA G 5 gfc1255), (bb, oX0 bpersons bpapers bstamps bversions blines bsteps bsayings bfindings bwarnings bquestions td vd vl gp), (bversions, oX8 8 3 bversionsc (nI kbversions)), (bversionsc, iA G 24 fbversions), (bpersons, oX8 10 2 bpersonsc (nI kbpersons)), (bpersonsc, iA G 20 fbpersons), (bpapers, oX8 12 6 bpapersc (nI kbpapers)), (bpapersc, iA G 72 fbpapers), (blines, oX8 72 7 blinesc (nI kblines)), (blinesc, iA G 504 fblines), (bsteps, oX8 960 1 bstepsc (nI kbsteps)), (bstepsc, iA G 960 fbsteps)]) rfl (k := kP) (by omega) (Nat.le_of_ble_eq_true rfl) (rfl) gX6_settle_1.2.2.2.2.2.2.2.2.1 (fun H locs hP hD hS => ?_)
      refine lv_iinc (v := nI (kP + 1)) (lv' := [(3, .int (nI (kP + 1))), (0, .ref h0), (1, .int pe), (2, .int pp)]) hx hb gX6_settle_1.2.2.2.2.2.2.2.2.2 hl (k := 0) rfl (nI_1 _) (by decide) rfl (fun ls hl => ?_)
      refine lv_goto (tgt := 8) hx hb gX6_settle_2.1 (by decide) ?_
      exact ihP (kP + 1) (upd vsh kP r1262) _ _ _ (by omega) (And.intro hP hD) hS (lv_sub hl [0, 1, 2, 3] rfl)
  exact keyP 8 0 fsh _ _ _ (by omega) (And.intro hP hD) hS (lv_sub hl [0, 1, 2, 3] rfl)
def K_c_firstLineFor (l : Launch) (G : GG) (h0 : Nat) (th : Int32) (bb : Nat) (sg : Nat) (fc : Nat) (sh : Nat) (r1 : Int32) (rc : Int32) (rh : Int32) (fsh : Nat → Int32) (bpersons : Nat) (bpapers : Nat) (bstamps : Nat) (bversions : Nat) (blines : Nat) (bsteps : Nat) (bsayings : Nat) (bfindings : Nat) (bwarnings : Nat) (bquestions : Nat) (td : Int32) (vd : Int32) (vl : Int32) (gp : Int32) (blinesc : Nat) (kblines : Nat) (fblines : Nat → Int32) : Prop := MP l G yX6_firstLineFor cX6_firstLineFor 3 (some .int) 4 [.ref h0, .int th] [(h0, oX6 bb sg fc sh r1 rc rh), (sh, iA G 8 fsh), (bb, oX0 bpersons bpapers bstamps bversions blines bsteps bsayings bfindings bwarnings bquestions td vd vl gp), (blines, oX8 72 7 blinesc (nI kblines)), (blinesc, iA G 504 fblines)] (fun r : Int32 => True)
set_option maxHeartbeats 4000000 in
set_option maxRecDepth 100000 in
theorem c_firstLineFor (l : Launch) (G : GG) (h0 : Nat) (th : Int32) (bb : Nat) (sg : Nat) (fc : Nat) (sh : Nat) (r1 : Int32) (rc : Int32) (rh : Int32) (fsh : Nat → Int32) (bpersons : Nat) (bpapers : Nat) (bstamps : Nat) (bversions : Nat) (blines : Nat) (bsteps : Nat) (bsayings : Nat) (bfindings : Nat) (bwarnings : Nat) (bquestions : Nat) (td : Int32) (vd : Int32) (vl : Int32) (gp : Int32) (blinesc : Nat) (kblines : Nat) (fblines : Nat → Int32) (hkblines : kblines ≤ 72) : K_c_firstLineFor l G h0 th bb sg fc sh r1 rc rh fsh bpersons bpapers bstamps bversions blines bsteps bsayings bfindings bwarnings bquestions td vd vl gp blinesc kblines fblines := by
  refine MP.start (by decide +kernel) (Nat.le_of_ble_eq_true rfl) ?_
  intro p e s m below meth c ls hC hK hP hD hl
  refine absQ (fun Q0 hQ0 => ?_)
  have hl : lv_has ls 3 [(0, .ref h0), (1, .int th)] := hl
  refine Kan8 hC (fun hx hb hr hml hB hown hlocks hnm => ?_)
  refine lv_iconst (v := 0) hx hb gX6_firstLineFor_0.1 (by decide) ?_
  refine lv_istore_n (lv' := [(2, .int 0), (0, .ref h0), (1, .int th)]) hx hb gX6_firstLineFor_0.2.1 rfl hl (by decide) rfl (fun ls hl => ?_)
  have keyP : ∀ (nP kP : Nat) (ls : Array Slot), kP < 2 ^ 31 → (rc).toInt ≤ ((kP + nP : Nat) : Int) → lv_has ls 3 [(2, .int (nI kP)), (0, .ref h0), (1, .int th)] → W p l e (RM 4 0 0) s m ([.ref h0, .int th] : List Value).toArray below meth c s.heap [] 0 0 Q0 (F0 m 2 ls []) := by
    intro nP
    induction nP with
    | zero =>
      intro kP ls hjP hkP hl
      have hzP : rc ≤ nI kP := bz hjP (by omega)
      refine lv_iload_n hx hb gX6_firstLineFor_0.2.2.1 rfl (lv_at0 hl) ?_
      refine lv_aload_n hx hb gX6_firstLineFor_0.2.2.2.1 rfl (lv_at1 hl) ?_
      refine gf_X6_30 hC rfl hK hP 0 rfl rfl gX6_firstLineFor_0.2.2.2.2.1 ?_
      refine lv_icmp_ge (tgt := 40) hx hb gX6_firstLineFor_0.2.2.2.2.2.1 (by decide) (fun _ => ?_) (fun c9 => absurd (hzP) c9)
      refine lv_bipush (v := (-3)) hx hb gX6_firstLineFor_2.2.2.1 (by decide) ?_
      refine toQ hQ0 ?_
      exact RP (v := (-3)) hC (trivial) rfl gX6_firstLineFor_2.2.2.2
    | succ nP ihP =>
      intro kP ls hjP hkP hl
      refine lv_iload_n hx hb gX6_firstLineFor_0.2.2.1 rfl (lv_at0 hl) ?_
      refine lv_aload_n hx hb gX6_firstLineFor_0.2.2.2.1 rfl (lv_at1 hl) ?_
      refine gf_X6_30 hC rfl hK hP 0 rfl rfl gX6_firstLineFor_0.2.2.2.2.1 ?_
      refine lv_icmp_ge (tgt := 40) hx hb gX6_firstLineFor_0.2.2.2.2.2.1 (by decide) (fun c_7_1263 => ?_) (fun c_7_1263 => ?_)
      · refine lv_bipush (v := (-3)) hx hb gX6_firstLineFor_2.2.2.1 (by decide) ?_
        refine toQ hQ0 ?_
        exact RP (v := (-3)) hC (trivial) rfl gX6_firstLineFor_2.2.2.2
      · refine lv_aload_n hx hb gX6_firstLineFor_0.2.2.2.2.2.2.1 rfl (lv_at1 hl) ?_
        refine lv_iload_n hx hb gX6_firstLineFor_0.2.2.2.2.2.2.2.1 rfl (lv_at0 hl) ?_
        refine pV hC hK hl hP hD (c_thingOf l G h0 (nI kP) bb sg fc sh r1 rc rh bpersons bpapers bstamps bversions blines bsteps bsayings bfindings bwarnings bquestions td vd vl gp blinesc kblines fblines (hkblines)) si_X6_88 [0, 2, 3, 4] sm_0_2_3_4 fm_0_2_3_4 nd_0_2_3_4 rfl rfl rfl rfl rfl (Nat.le_of_ble_eq_true rfl) rm_4_3_3 ⟨by first | exact Nat.le_of_ble_eq_true rfl | exact Nat.zero_le _, by first | exact Nat.le_of_ble_eq_true rfl | exact Nat.zero_le _⟩ gX6_firstLineFor_0.2.2.2.2.2.2.2.2.1 (fun r1264 hr1264 => ?_)
        refine lv_iload_n hx hb gX6_firstLineFor_0.2.2.2.2.2.2.2.2.2 rfl (lv_at2 hl) ?_
        refine lv_icmp_ne (tgt := 34) hx hb gX6_firstLineFor_1.1 (by decide) (fun c_16_1265 => ?_) (fun c_16_1265 => ?_)
        · refine lv_iinc (v := nI (kP + 1)) (lv' := [(2, .int (nI (kP + 1))), (0, .ref h0), (1, .int th)]) hx hb gX6_firstLineFor_2.1 hl (k := 0) rfl (nI_1 _) (by decide) rfl (fun ls hl => ?_)
          refine lv_goto (tgt := 2) hx hb gX6_firstLineFor_2.2.1 (by decide) ?_
          exact ihP (kP + 1) _ (bs hjP c_7_1263) (by omega) (lv_sub hl [0, 1, 2] rfl)
        · refine lv_aload_n hx hb gX6_firstLineFor_1.2.1 rfl (lv_at1 hl) ?_
          refine lv_iload_n hx hb gX6_firstLineFor_1.2.2.1 rfl (lv_at0 hl) ?_
          refine pV hC hK hl hP hD (c_hourBy l G h0 (nI kP) bb sg fc sh r1 rc rh fsh bpersons bpapers bstamps bversions blines bsteps bsayings bfindings bwarnings bquestions td vd vl gp blinesc kblines fblines (hkblines)) si_X6_95 [0, 1, 2, 3, 4] sm_0_1_2_3_4 fm_0_1_2_3_4 nd_0_1_2_3_4 rfl rfl rfl rfl rfl (Nat.le_of_ble_eq_true rfl) rm_4_3_4 ⟨by first | exact Nat.le_of_ble_eq_true rfl | exact Nat.zero_le _, by first | exact Nat.le_of_ble_eq_true rfl | exact Nat.zero_le _⟩ gX6_firstLineFor_1.2.2.2.1 (fun r1266 hr1266 => ?_)
          refine lv_aload_n hx hb gX6_firstLineFor_1.2.2.2.2.1 rfl (lv_at1 hl) ?_
          refine lv_iload_n hx hb gX6_firstLineFor_1.2.2.2.2.2.1 rfl (lv_at2 hl) ?_
          refine pV hC hK hl hP hD (c_shouldHour l G h0 th bb sg fc sh r1 rc rh fsh) si_X6_102 [0, 1] sm_0_1 fm_0_1 nd_0_1 rfl rfl rfl rfl rfl (Nat.le_of_ble_eq_true rfl) rm_4_1_2 ⟨by first | exact Nat.le_of_ble_eq_true rfl | exact Nat.zero_le _, by first | exact Nat.le_of_ble_eq_true rfl | exact Nat.zero_le _⟩ gX6_firstLineFor_1.2.2.2.2.2.2.1 (fun r1267 hr1267 => ?_)
          refine lv_icmp_ne (tgt := 34) hx hb gX6_firstLineFor_1.2.2.2.2.2.2.2.1 (by decide) (fun c_29_1268 => ?_) (fun c_29_1268 => ?_)
          · refine lv_iinc (v := nI (kP + 1)) (lv' := [(2, .int (nI (kP + 1))), (0, .ref h0), (1, .int th)]) hx hb gX6_firstLineFor_2.1 hl (k := 0) rfl (nI_1 _) (by decide) rfl (fun ls hl => ?_)
            refine lv_goto (tgt := 2) hx hb gX6_firstLineFor_2.2.1 (by decide) ?_
            exact ihP (kP + 1) _ (bs hjP c_7_1263) (by omega) (lv_sub hl [0, 1, 2] rfl)
          · refine lv_iload_n hx hb gX6_firstLineFor_1.2.2.2.2.2.2.2.2.1 rfl (lv_at0 hl) ?_
            refine toQ hQ0 ?_
            exact RP (v := nI kP) hC (trivial) rfl gX6_firstLineFor_1.2.2.2.2.2.2.2.2.2
  exact keyP (rc).toInt.toNat 0 _ (by decide) (by omega) (lv_sub hl [0, 1, 2] rfl)
def K_c_warnDays (l : Launch) (G : GG) (h0 : Nat) (bb : Nat) (sg : Nat) (fc : Nat) (sh : Nat) (r1 : Int32) (rc : Int32) (rh : Int32) (bpersons : Nat) (bpapers : Nat) (bstamps : Nat) (bversions : Nat) (blines : Nat) (bsteps : Nat) (bsayings : Nat) (bfindings : Nat) (bwarnings : Nat) (bquestions : Nat) (td : Int32) (vd : Int32) (vl : Int32) (gp : Int32) (blinesc : Nat) (kblines : Nat) (fblines : Nat → Int32) : Prop := MP l G yX6_warnDays cX6_warnDays 3 (some .int) 4 [.ref h0] [(h0, oX6 bb sg fc sh r1 rc rh), (bb, oX0 bpersons bpapers bstamps bversions blines bsteps bsayings bfindings bwarnings bquestions td vd vl gp), (blines, oX8 72 7 blinesc (nI kblines)), (blinesc, iA G 504 fblines)] (fun r : Int32 => True)
set_option maxHeartbeats 4000000 in
set_option maxRecDepth 100000 in
theorem c_warnDays (l : Launch) (G : GG) (h0 : Nat) (bb : Nat) (sg : Nat) (fc : Nat) (sh : Nat) (r1 : Int32) (rc : Int32) (rh : Int32) (bpersons : Nat) (bpapers : Nat) (bstamps : Nat) (bversions : Nat) (blines : Nat) (bsteps : Nat) (bsayings : Nat) (bfindings : Nat) (bwarnings : Nat) (bquestions : Nat) (td : Int32) (vd : Int32) (vl : Int32) (gp : Int32) (blinesc : Nat) (kblines : Nat) (fblines : Nat → Int32) (hkblines : kblines ≤ 72) : K_c_warnDays l G h0 bb sg fc sh r1 rc rh bpersons bpapers bstamps bversions blines bsteps bsayings bfindings bwarnings bquestions td vd vl gp blinesc kblines fblines := by
  refine MP.start (by decide +kernel) (Nat.le_of_ble_eq_true rfl) ?_
  intro p e s m below meth c ls hC hK hP hD hl
  refine absQ (fun Q0 hQ0 => ?_)
  have hl : lv_has ls 3 [(0, .ref h0)] := hl
  refine Kan8 hC (fun hx hb hr hml hB hown hlocks hnm => ?_)
  refine lv_iconst (v := 0) hx hb gX6_warnDays_0.1 (by decide) ?_
  refine lv_istore_n (lv' := [(1, .int 0), (0, .ref h0)]) hx hb gX6_warnDays_0.2.1 rfl hl (by decide) rfl (fun ls hl => ?_)
  have keyP : ∀ (nP kP : Nat) (ls : Array Slot), kP < 2 ^ 31 → (rc).toInt ≤ ((kP + nP : Nat) : Int) → lv_has ls 3 [(1, .int (nI kP)), (0, .ref h0)] → W p l e (RM 4 0 0) s m ([.ref h0] : List Value).toArray below meth c s.heap [] 0 0 Q0 (F0 m 2 ls []) := by
    intro nP
    induction nP with
    | zero =>
      intro kP ls hjP hkP hl
      have hzP : rc ≤ nI kP := bz hjP (by omega)
      refine lv_iload_n hx hb gX6_warnDays_0.2.2.1 rfl (lv_at0 hl) ?_
      refine lv_aload_n hx hb gX6_warnDays_0.2.2.2.1 rfl (lv_at1 hl) ?_
      refine gf_X6_30 hC rfl hK hP 0 rfl rfl gX6_warnDays_0.2.2.2.2.1 ?_
      refine lv_icmp_ge (tgt := 63) hx hb gX6_warnDays_0.2.2.2.2.2.1 (by decide) (fun _ => ?_) (fun c9 => absurd (hzP) c9)
      refine lv_iconst (v := 0) hx hb gX6_warnDays_3.2.2.2.1 (by decide) ?_
      refine toQ hQ0 ?_
      exact RP (v := 0) hC (trivial) rfl gX6_warnDays_3.2.2.2.2
    | succ nP ihP =>
      intro kP ls hjP hkP hl
      refine lv_iload_n hx hb gX6_warnDays_0.2.2.1 rfl (lv_at0 hl) ?_
      refine lv_aload_n hx hb gX6_warnDays_0.2.2.2.1 rfl (lv_at1 hl) ?_
      refine gf_X6_30 hC rfl hK hP 0 rfl rfl gX6_warnDays_0.2.2.2.2.1 ?_
      refine lv_icmp_ge (tgt := 63) hx hb gX6_warnDays_0.2.2.2.2.2.1 (by decide) (fun c_7_1269 => ?_) (fun c_7_1269 => ?_)
      · refine lv_iconst (v := 0) hx hb gX6_warnDays_3.2.2.2.1 (by decide) ?_
        refine toQ hQ0 ?_
        exact RP (v := 0) hC (trivial) rfl gX6_warnDays_3.2.2.2.2
      · refine lv_aload_n hx hb gX6_warnDays_0.2.2.2.2.2.2.1 rfl (lv_at1 hl) ?_
        refine gf_X6_26 hC rfl hK hP 0 rfl rfl gX6_warnDays_0.2.2.2.2.2.2.2.1 ?_
        refine lv_iload_n hx hb gX6_warnDays_0.2.2.2.2.2.2.2.2.1 rfl (lv_at0 hl) ?_
        refine lv_iadd hx hb gX6_warnDays_0.2.2.2.2.2.2.2.2.2 ?_
        refine lv_istore_n (lv' := [(2, .int (r1 + (nI kP))), (1, .int (nI kP)), (0, .ref h0)]) hx hb gX6_warnDays_1.1 rfl hl (by decide) rfl (fun ls hl => ?_)
        refine lv_aload_n hx hb gX6_warnDays_1.2.1 rfl (lv_at2 hl) ?_
        refine gf_X6_18 hC rfl hK hP 0 rfl rfl gX6_warnDays_1.2.2.1 ?_
        refine gf_X6_65 hC rfl hK hP 1 rfl rfl gX6_warnDays_1.2.2.2.1 ?_
        refine lv_iload_n hx hb gX6_warnDays_1.2.2.2.2.1 rfl (lv_at0 hl) ?_
        refine lv_iconst (v := 0) hx hb gX6_warnDays_1.2.2.2.2.2.1 (by decide) ?_
        refine pV hC hK hl hP hD (c_T_at l G blines (r1 + (nI kP)) 0 72 7 blinesc kblines fblines (hkblines) (by omega) (by omega)) si_X6_46 [2, 3] sm_2_3 fm_2_3 nd_2_3 rfl rfl rfl rfl rfl (Nat.le_of_ble_eq_true rfl) rm_4_1_3 ⟨by first | exact Nat.le_of_ble_eq_true rfl | exact Nat.zero_le _, by first | exact Nat.le_of_ble_eq_true rfl | exact Nat.zero_le _⟩ gX6_warnDays_1.2.2.2.2.2.2.1 (fun r1270 hr1270 => ?_)
        refine lv_iconst (v := 1) hx hb gX6_warnDays_1.2.2.2.2.2.2.2.1 (by decide) ?_
        refine lv_icmp_ne (tgt := 57) hx hb gX6_warnDays_1.2.2.2.2.2.2.2.2.1 (by decide) (fun c_30_1272 => ?_) (fun c_30_1272 => ?_)
        · refine lv_iinc (v := nI (kP + 1)) (lv' := [(1, .int (nI (kP + 1))), (2, .int (r1 + (nI kP))), (0, .ref h0)]) hx hb gX6_warnDays_3.2.1 hl (k := 1) rfl (nI_1 _) (by decide) rfl (fun ls hl => ?_)
          refine lv_goto (tgt := 2) hx hb gX6_warnDays_3.2.2.1 (by decide) ?_
          exact ihP (kP + 1) _ (bs hjP c_7_1269) (by omega) (lv_sub hl [0, 2] rfl)
        · refine lv_aload_n hx hb gX6_warnDays_1.2.2.2.2.2.2.2.2.2 rfl (lv_at2 hl) ?_
          refine gf_X6_33 hC rfl hK hP 0 rfl rfl gX6_warnDays_2.1 ?_
          refine lv_iload_n hx hb gX6_warnDays_2.2.1 rfl (lv_at1 hl) ?_
          refine pSN hC hK hl (c_hasBit l G rh (nI kP)) si_X6_98 rfl rfl (Nat.le_of_ble_eq_true rfl) rm_4_1_2 ⟨by first | exact Nat.le_of_ble_eq_true rfl | exact Nat.zero_le _, by first | exact Nat.le_of_ble_eq_true rfl | exact Nat.zero_le _⟩ gX6_warnDays_2.2.2.1 (Kors (Keqa fun a1274 => ?_) (Keqa fun a1274 => ?_))
          · refine lv_if_eq (tgt := 57) hx hb gX6_warnDays_2.2.2.2.1 (by decide) (fun c9 => absurd c9 (by decide)) (fun _ => ?_)
            refine lv_aload_n hx hb gX6_warnDays_2.2.2.2.2.1 rfl (lv_at2 hl) ?_
            refine gf_X6_18 hC rfl hK hP 0 rfl rfl gX6_warnDays_2.2.2.2.2.2.1 ?_
            refine gf_X6_65 hC rfl hK hP 1 rfl rfl gX6_warnDays_2.2.2.2.2.2.2.1 ?_
            refine lv_iload_n hx hb gX6_warnDays_2.2.2.2.2.2.2.2.1 rfl (lv_at0 hl) ?_
            refine lv_iconst (v := 1) hx hb gX6_warnDays_2.2.2.2.2.2.2.2.2.1 (by decide) ?_
            refine pV hC hK hl hP hD (c_T_at l G blines (r1 + (nI kP)) 1 72 7 blinesc kblines fblines (hkblines) (by omega) (by omega)) si_X6_46 [2, 3] sm_2_3 fm_2_3 nd_2_3 rfl rfl rfl rfl rfl (Nat.le_of_ble_eq_true rfl) rm_4_1_3 ⟨by first | exact Nat.le_of_ble_eq_true rfl | exact Nat.zero_le _, by first | exact Nat.le_of_ble_eq_true rfl | exact Nat.zero_le _⟩ gX6_warnDays_2.2.2.2.2.2.2.2.2.2 (fun r1275 hr1275 => ?_)
            refine toQ hQ0 ?_
            exact RP (v := r1275) hC (trivial) rfl gX6_warnDays_3.1
          · refine lv_if_eq (tgt := 57) hx hb gX6_warnDays_2.2.2.2.1 (by decide) (fun _ => ?_) (fun c9 => absurd (by decide) c9)
            refine lv_iinc (v := nI (kP + 1)) (lv' := [(1, .int (nI (kP + 1))), (2, .int (r1 + (nI kP))), (0, .ref h0)]) hx hb gX6_warnDays_3.2.1 hl (k := 1) rfl (nI_1 _) (by decide) rfl (fun ls hl => ?_)
            refine lv_goto (tgt := 2) hx hb gX6_warnDays_3.2.2.1 (by decide) ?_
            exact ihP (kP + 1) _ (bs hjP c_7_1269) (by omega) (lv_sub hl [0, 2] rfl)
  exact keyP (rc).toInt.toNat 0 _ (by decide) (by omega) (lv_sub hl [0, 1] rfl)
def K_c_leastHeard (l : Launch) (G : GG) (h0 : Nat) (bb : Nat) (sg : Nat) (fc : Nat) (sh : Nat) (r1 : Int32) (rc : Int32) (rh : Int32) (bpersons : Nat) (bpapers : Nat) (bstamps : Nat) (bversions : Nat) (blines : Nat) (bsteps : Nat) (bsayings : Nat) (bfindings : Nat) (bwarnings : Nat) (bquestions : Nat) (td : Int32) (vd : Int32) (vl : Int32) (gp : Int32) (blinesc : Nat) (kblines : Nat) (fblines : Nat → Int32) : Prop := MP l G yX6_leastHeard cX6_leastHeard 3 (some .int) 4 [.ref h0] [(h0, oX6 bb sg fc sh r1 rc rh), (bb, oX0 bpersons bpapers bstamps bversions blines bsteps bsayings bfindings bwarnings bquestions td vd vl gp), (blines, oX8 72 7 blinesc (nI kblines)), (blinesc, iA G 504 fblines)] (fun r : Int32 => True)
set_option maxHeartbeats 4000000 in
set_option maxRecDepth 100000 in
theorem c_leastHeard (l : Launch) (G : GG) (h0 : Nat) (bb : Nat) (sg : Nat) (fc : Nat) (sh : Nat) (r1 : Int32) (rc : Int32) (rh : Int32) (bpersons : Nat) (bpapers : Nat) (bstamps : Nat) (bversions : Nat) (blines : Nat) (bsteps : Nat) (bsayings : Nat) (bfindings : Nat) (bwarnings : Nat) (bquestions : Nat) (td : Int32) (vd : Int32) (vl : Int32) (gp : Int32) (blinesc : Nat) (kblines : Nat) (fblines : Nat → Int32) (hkblines : kblines ≤ 72) : K_c_leastHeard l G h0 bb sg fc sh r1 rc rh bpersons bpapers bstamps bversions blines bsteps bsayings bfindings bwarnings bquestions td vd vl gp blinesc kblines fblines := by
  refine MP.start (by decide +kernel) (Nat.le_of_ble_eq_true rfl) ?_
  intro p e s m below meth c ls hC hK hP hD hl
  refine absQ (fun Q0 hQ0 => ?_)
  have hl : lv_has ls 3 [(0, .ref h0)] := hl
  refine Kan8 hC (fun hx hb hr hml hB hown hlocks hnm => ?_)
  refine lv_iconst (v := 0) hx hb gX6_leastHeard_0.1 (by decide) ?_
  refine lv_istore_n (lv' := [(1, .int 0), (0, .ref h0)]) hx hb gX6_leastHeard_0.2.1 rfl hl (by decide) rfl (fun ls hl => ?_)
  refine lv_iconst (v := 0) hx hb gX6_leastHeard_0.2.2.1 (by decide) ?_
  refine lv_istore_n (lv' := [(2, .int 0), (1, .int 0), (0, .ref h0)]) hx hb gX6_leastHeard_0.2.2.2.1 rfl hl (by decide) rfl (fun ls hl => ?_)
  have keyP : ∀ (nP kP : Nat) (nn : Int32) (ls : Array Slot), kP < 2 ^ 31 → (rc).toInt ≤ ((kP + nP : Nat) : Int) → lv_has ls 3 [(2, .int (nI kP)), (1, .int nn), (0, .ref h0)] → W p l e (RM 4 0 0) s m ([.ref h0] : List Value).toArray below meth c s.heap [] 0 0 Q0 (F0 m 4 ls []) := by
    intro nP
    induction nP with
    | zero =>
      intro kP nn ls hjP hkP hl
      have hzP : rc ≤ nI kP := bz hjP (by omega)
      refine lv_iload_n hx hb gX6_leastHeard_0.2.2.2.2.1 rfl (lv_at0 hl) ?_
      refine lv_aload_n hx hb gX6_leastHeard_0.2.2.2.2.2.1 rfl (lv_at2 hl) ?_
      refine gf_X6_30 hC rfl hK hP 0 rfl rfl gX6_leastHeard_0.2.2.2.2.2.2.1 ?_
      refine lv_icmp_ge (tgt := 57) hx hb gX6_leastHeard_0.2.2.2.2.2.2.2.1 (by decide) (fun _ => ?_) (fun c9 => absurd (hzP) c9)
      refine lv_iload_n hx hb gX6_leastHeard_3.2.1 rfl (lv_at1 hl) ?_
      refine toQ hQ0 ?_
      exact RP (v := nn) hC (trivial) rfl gX6_leastHeard_3.2.2
    | succ nP ihP =>
      intro kP nn ls hjP hkP hl
      refine lv_iload_n hx hb gX6_leastHeard_0.2.2.2.2.1 rfl (lv_at0 hl) ?_
      refine lv_aload_n hx hb gX6_leastHeard_0.2.2.2.2.2.1 rfl (lv_at2 hl) ?_
      refine gf_X6_30 hC rfl hK hP 0 rfl rfl gX6_leastHeard_0.2.2.2.2.2.2.1 ?_
      refine lv_icmp_ge (tgt := 57) hx hb gX6_leastHeard_0.2.2.2.2.2.2.2.1 (by decide) (fun c_9_1277 => ?_) (fun c_9_1277 => ?_)
      · refine lv_iload_n hx hb gX6_leastHeard_3.2.1 rfl (lv_at1 hl) ?_
        refine toQ hQ0 ?_
        exact RP (v := nn) hC (trivial) rfl gX6_leastHeard_3.2.2
      · refine lv_aload_n hx hb gX6_leastHeard_0.2.2.2.2.2.2.2.2.1 rfl (lv_at2 hl) ?_
        refine gf_X6_18 hC rfl hK hP 0 rfl rfl gX6_leastHeard_0.2.2.2.2.2.2.2.2.2 ?_
        refine gf_X6_65 hC rfl hK hP 1 rfl rfl gX6_leastHeard_1.1 ?_
        refine lv_aload_n hx hb gX6_leastHeard_1.2.1 rfl (lv_at2 hl) ?_
        refine gf_X6_26 hC rfl hK hP 0 rfl rfl gX6_leastHeard_1.2.2.1 ?_
        refine lv_iload_n hx hb gX6_leastHeard_1.2.2.2.1 rfl (lv_at0 hl) ?_
        refine lv_iadd hx hb gX6_leastHeard_1.2.2.2.2.1 ?_
        refine lv_iconst (v := 0) hx hb gX6_leastHeard_1.2.2.2.2.2.1 (by decide) ?_
        refine pV hC hK hl hP hD (c_T_at l G blines (r1 + (nI kP)) 0 72 7 blinesc kblines fblines (hkblines) (by omega) (by omega)) si_X6_46 [2, 3] sm_2_3 fm_2_3 nd_2_3 rfl rfl rfl rfl rfl (Nat.le_of_ble_eq_true rfl) rm_4_1_3 ⟨by first | exact Nat.le_of_ble_eq_true rfl | exact Nat.zero_le _, by first | exact Nat.le_of_ble_eq_true rfl | exact Nat.zero_le _⟩ gX6_leastHeard_1.2.2.2.2.2.2.1 (fun r1278 hr1278 => ?_)
        refine lv_iconst (v := 3) hx hb gX6_leastHeard_1.2.2.2.2.2.2.2.1 (by decide) ?_
        refine lv_icmp_ne (tgt := 51) hx hb gX6_leastHeard_1.2.2.2.2.2.2.2.2.1 (by decide) (fun c_30_1280 => ?_) (fun c_30_1280 => ?_)
        · refine lv_iinc (v := nI (kP + 1)) (lv' := [(2, .int (nI (kP + 1))), (1, .int nn), (0, .ref h0)]) hx hb gX6_leastHeard_2.2.2.2.2.2.2.2.2.2 hl (k := 0) rfl (nI_1 _) (by decide) rfl (fun ls hl => ?_)
          refine lv_goto (tgt := 4) hx hb gX6_leastHeard_3.1 (by decide) ?_
          exact ihP (kP + 1) nn _ (bs hjP c_9_1277) (by omega) (lv_sub hl [0, 1, 2] rfl)
        · refine lv_aload_n hx hb gX6_leastHeard_1.2.2.2.2.2.2.2.2.2 rfl (lv_at2 hl) ?_
          refine gf_X6_18 hC rfl hK hP 0 rfl rfl gX6_leastHeard_2.1 ?_
          refine gf_X6_65 hC rfl hK hP 1 rfl rfl gX6_leastHeard_2.2.1 ?_
          refine lv_aload_n hx hb gX6_leastHeard_2.2.2.1 rfl (lv_at2 hl) ?_
          refine gf_X6_26 hC rfl hK hP 0 rfl rfl gX6_leastHeard_2.2.2.2.1 ?_
          refine lv_iload_n hx hb gX6_leastHeard_2.2.2.2.2.1 rfl (lv_at0 hl) ?_
          refine lv_iadd hx hb gX6_leastHeard_2.2.2.2.2.2.1 ?_
          refine lv_iconst (v := 1) hx hb gX6_leastHeard_2.2.2.2.2.2.2.1 (by decide) ?_
          refine pV hC hK hl hP hD (c_T_at l G blines (r1 + (nI kP)) 1 72 7 blinesc kblines fblines (hkblines) (by omega) (by omega)) si_X6_46 [2, 3] sm_2_3 fm_2_3 nd_2_3 rfl rfl rfl rfl rfl (Nat.le_of_ble_eq_true rfl) rm_4_1_3 ⟨by first | exact Nat.le_of_ble_eq_true rfl | exact Nat.zero_le _, by first | exact Nat.le_of_ble_eq_true rfl | exact Nat.zero_le _⟩ gX6_leastHeard_2.2.2.2.2.2.2.2.1 (fun r1281 hr1281 => ?_)
          refine lv_istore_n (lv' := [(1, .int r1281), (2, .int (nI kP)), (0, .ref h0)]) hx hb gX6_leastHeard_2.2.2.2.2.2.2.2.2.1 rfl hl (by decide) rfl (fun ls hl => ?_)
          refine lv_iinc (v := nI (kP + 1)) (lv' := [(2, .int (nI (kP + 1))), (1, .int r1281), (0, .ref h0)]) hx hb gX6_leastHeard_2.2.2.2.2.2.2.2.2.2 hl (k := 1) rfl (nI_1 _) (by decide) rfl (fun ls hl => ?_)
          refine lv_goto (tgt := 4) hx hb gX6_leastHeard_3.1 (by decide) ?_
          exact ihP (kP + 1) r1281 _ (bs hjP c_9_1277) (by omega) (lv_sub hl [0, 1, 2] rfl)
  exact keyP (rc).toInt.toNat 0 0 _ (by decide) (by omega) (lv_sub hl [0, 1, 2] rfl)
