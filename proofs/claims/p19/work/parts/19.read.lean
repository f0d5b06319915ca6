section WR
variable {p : Program} {l : Launch} {e : Env} {R : Room} {s : State} {m : MethodId} {args : Array Value} {below : List Frame} {meth : Method} {c : Code} {H : Heap} {locs : List Loc} {cells slots : Nat} {Q : State → Prop}
variable {pc : Nat} {ls : Array Slot} {rest : List Value} {G : GG} {ws : va_W} {A : Nat → Prop} {y0 : MethodName} {b0 : ByteArray} {mL0 : Nat} {rt0 : Option FieldType} {a : Nat} {H0 : Heap}
theorem gX10_store_0 : (decode cX10_store 0 = .ok (.aload_n 1, 1)) ∧ (decode cX10_store 1 = .ok (.getfield 54, 3)) ∧ (decode cX10_store 4 = .ok (.invokevirtual 59, 3)) ∧ (decode cX10_store 7 = .ok (.istore_n 2, 1)) ∧ (decode cX10_store 8 = .ok (.aload_n 1, 1)) ∧ (decode cX10_store 9 = .ok (.getfield 54, 3)) ∧ (decode cX10_store 12 = .ok (.iload_n 2, 1)) ∧ (decode cX10_store 13 = .ok (.iconst 0, 1)) ∧ (decode cX10_store 14 = .ok (.aload_n 1, 1)) ∧ (decode cX10_store 15 = .ok (.getfield 63, 3)) := by decide +kernel
theorem nm_13 : Cond.fieldLinkNest RX10 54 RX0 "versions" "LInquiryBench$Table;" RX11 ∈ NestW := List.mem_of_getElem? (i := 13) rfl
theorem gf_X10_54 (hC : CX p s m meth c y0 b0 mL0 rt0 args) (hy0 : y0.cls = RX10) (hK : KK G s) (hP : va_P G.1 vwCl ws H) (q0 : Nat) {fs : List Value} {v : Value} (he : ws[q0]? = some (a, .inr (0, fs))) (hv : fs[3]? = some v) (hdg : decode b0 pc = .ok (.getfield 54, 3)) (kk : W p l e R s m args below meth c H locs cells slots Q (F0 m (pc + 3) ls (v :: rest))) : W p l e R s m args below meth c H locs cells slots Q (F0 m pc ls (.ref a :: rest)) := by
  obtain ⟨hx, hb, hr, hml, hB, hown, hlocks, hnm⟩ := hC
  rw [hy0] at hown
  exact va_getN (ci := 0) (C := RX0) (T := TX0) (N := 14) hx hb hB in_X0 hown hK.1 hP q0 he rfl 3 (by decide) (va_Nw.use rfl (hK.2.1 _ nm_13)) (fun _ h => h) hv hdg kk
theorem nm_32 : Cond.fieldLinkNest RX10 63 RX0 "today" "I" RX11 ∈ NestW := List.mem_of_getElem? (i := 32) rfl
theorem gf_X10_63 (hC : CX p s m meth c y0 b0 mL0 rt0 args) (hy0 : y0.cls = RX10) (hK : KK G s) (hP : va_P G.1 vwCl ws H) (q0 : Nat) {fs : List Value} {v : Value} (he : ws[q0]? = some (a, .inr (0, fs))) (hv : fs[10]? = some v) (hdg : decode b0 pc = .ok (.getfield 63, 3)) (kk : W p l e R s m args below meth c H locs cells slots Q (F0 m (pc + 3) ls (v :: rest))) : W p l e R s m args below meth c H locs cells slots Q (F0 m pc ls (.ref a :: rest)) := by
  obtain ⟨hx, hb, hr, hml, hB, hown, hlocks, hnm⟩ := hC
  rw [hy0] at hown
  exact va_getN (ci := 0) (C := RX0) (T := TX0) (N := 14) hx hb hB in_X0 hown hK.1 hP q0 he rfl 10 (by decide) (va_Nw.use rfl (hK.2.1 _ nm_32)) (fun _ h => h) hv hdg kk
theorem gX10_store_1 : (decode cX10_store 18 = .ok (.invokevirtual 66, 3)) ∧ (decode cX10_store 21 = .ok (.aload_n 1, 1)) ∧ (decode cX10_store 22 = .ok (.getfield 54, 3)) ∧ (decode cX10_store 25 = .ok (.iload_n 2, 1)) ∧ (decode cX10_store 26 = .ok (.iconst 1, 1)) ∧ (decode cX10_store 27 = .ok (.aload_n 1, 1)) ∧ (decode cX10_store 28 = .ok (.getfield 70, 3)) ∧ (decode cX10_store 31 = .ok (.invokevirtual 71, 3)) ∧ (decode cX10_store 34 = .ok (.invokevirtual 66, 3)) ∧ (decode cX10_store 37 = .ok (.aload_n 1, 1)) := by decide +kernel
theorem nm_16 : Cond.fieldLinkNest RX10 70 RX0 "lines" "LInquiryBench$Table;" RX11 ∈ NestW := List.mem_of_getElem? (i := 16) rfl
theorem gf_X10_70 (hC : CX p s m meth c y0 b0 mL0 rt0 args) (hy0 : y0.cls = RX10) (hK : KK G s) (hP : va_P G.1 vwCl ws H) (q0 : Nat) {fs : List Value} {v : Value} (he : ws[q0]? = some (a, .inr (0, fs))) (hv : fs[4]? = some v) (hdg : decode b0 pc = .ok (.getfield 70, 3)) (kk : W p l e R s m args below meth c H locs cells slots Q (F0 m (pc + 3) ls (v :: rest))) : W p l e R s m args below meth c H locs cells slots Q (F0 m pc ls (.ref a :: rest)) := by
  obtain ⟨hx, hb, hr, hml, hB, hown, hlocks, hnm⟩ := hC
  rw [hy0] at hown
  exact va_getN (ci := 0) (C := RX0) (T := TX0) (N := 14) hx hb hB in_X0 hown hK.1 hP q0 he rfl 4 (by decide) (va_Nw.use rfl (hK.2.1 _ nm_16)) (fun _ h => h) hv hdg kk
theorem gX10_store_2 : (decode cX10_store 38 = .ok (.getfield 54, 3)) ∧ (decode cX10_store 41 = .ok (.iload_n 2, 1)) ∧ (decode cX10_store 42 = .ok (.iconst 2, 1)) ∧ (decode cX10_store 43 = .ok (.aload_n 0, 1)) ∧ (decode cX10_store 44 = .ok (.getfield 20, 3)) ∧ (decode cX10_store 47 = .ok (.invokevirtual 71, 3)) ∧ (decode cX10_store 50 = .ok (.invokevirtual 66, 3)) ∧ (decode cX10_store 53 = .ok (.aload_n 1, 1)) ∧ (decode cX10_store 54 = .ok (.getfield 73, 3)) ∧ (decode cX10_store 57 = .ok (.invokevirtual 71, 3)) := by decide +kernel
theorem nm_19 : Cond.fieldLinkNest RX10 73 RX0 "steps" "LInquiryBench$Table;" RX11 ∈ NestW := List.mem_of_getElem? (i := 19) rfl
theorem gf_X10_73 (hC : CX p s m meth c y0 b0 mL0 rt0 args) (hy0 : y0.cls = RX10) (hK : KK G s) (hP : va_P G.1 vwCl ws H) (q0 : Nat) {fs : List Value} {v : Value} (he : ws[q0]? = some (a, .inr (0, fs))) (hv : fs[5]? = some v) (hdg : decode b0 pc = .ok (.getfield 73, 3)) (kk : W p l e R s m args below meth c H locs cells slots Q (F0 m (pc + 3) ls (v :: rest))) : W p l e R s m args below meth c H locs cells slots Q (F0 m pc ls (.ref a :: rest)) := by
  obtain ⟨hx, hb, hr, hml, hB, hown, hlocks, hnm⟩ := hC
  rw [hy0] at hown
  exact va_getN (ci := 0) (C := RX0) (T := TX0) (N := 14) hx hb hB in_X0 hown hK.1 hP q0 he rfl 5 (by decide) (va_Nw.use rfl (hK.2.1 _ nm_19)) (fun _ h => h) hv hdg kk
theorem gX10_store_3 : (decode cX10_store 60 = .ok (.istore_n 3, 1)) ∧ (decode cX10_store 61 = .ok (.iconst 0, 1)) ∧ (decode cX10_store 62 = .ok (.istore 4, 2)) ∧ (decode cX10_store 64 = .ok (.iload 4, 2)) ∧ (decode cX10_store 66 = .ok (.aload_n 0, 1)) ∧ (decode cX10_store 67 = .ok (.getfield 20, 3)) ∧ (decode cX10_store 70 = .ok (.invokevirtual 71, 3)) ∧ (decode cX10_store 73 = .ok (.if_icmp .ge 78, 3)) ∧ (decode cX10_store 76 = .ok (.aload_n 1, 1)) ∧ (decode cX10_store 77 = .ok (.getfield 70, 3)) := by decide +kernel
theorem gX10_store_7 : (decode cX10_store 142 = .ok (.invokevirtual 66, 3)) ∧ (decode cX10_store 145 = .ok (.iinc 4 1, 3)) ∧ (decode cX10_store 148 = .ok (.goto (-84), 3)) ∧ (decode cX10_store 151 = .ok (.iconst 0, 1)) ∧ (decode cX10_store 152 = .ok (.istore 4, 2)) ∧ (decode cX10_store 154 = .ok (.iload 4, 2)) ∧ (decode cX10_store 156 = .ok (.aload_n 0, 1)) ∧ (decode cX10_store 157 = .ok (.getfield 24, 3)) ∧ (decode cX10_store 160 = .ok (.invokevirtual 71, 3)) ∧ (decode cX10_store 163 = .ok (.if_icmp .ge 34, 3)) := by decide +kernel
theorem gX10_store_9 : (decode cX10_store 185 = .ok (.invokevirtual 74, 3)) ∧ (decode cX10_store 188 = .ok (.invokevirtual 66, 3)) ∧ (decode cX10_store 191 = .ok (.iinc 4 1, 3)) ∧ (decode cX10_store 194 = .ok (.goto (-40), 3)) ∧ (decode cX10_store 197 = .ok (.iload_n 2, 1)) ∧ (decode cX10_store 198 = .ok (.ireturn, 1)) := by decide +kernel
theorem gX10_store_8 : (decode cX10_store 166 = .ok (.aload_n 1, 1)) ∧ (decode cX10_store 167 = .ok (.getfield 73, 3)) ∧ (decode cX10_store 170 = .ok (.aload_n 1, 1)) ∧ (decode cX10_store 171 = .ok (.getfield 73, 3)) ∧ (decode cX10_store 174 = .ok (.invokevirtual 59, 3)) ∧ (decode cX10_store 177 = .ok (.iconst 0, 1)) ∧ (decode cX10_store 178 = .ok (.aload_n 0, 1)) ∧ (decode cX10_store 179 = .ok (.getfield 24, 3)) ∧ (decode cX10_store 182 = .ok (.iload 4, 2)) ∧ (decode cX10_store 184 = .ok (.iconst 0, 1)) := by decide +kernel
theorem gX10_store_4 : (decode cX10_store 80 = .ok (.invokevirtual 59, 3)) ∧ (decode cX10_store 83 = .ok (.istore 5, 2)) ∧ (decode cX10_store 85 = .ok (.iconst 0, 1)) ∧ (decode cX10_store 86 = .ok (.istore 6, 2)) ∧ (decode cX10_store 88 = .ok (.iload 6, 2)) ∧ (decode cX10_store 90 = .ok (.bipush 6, 2)) ∧ (decode cX10_store 92 = .ok (.if_icmp .gt 31, 3)) ∧ (decode cX10_store 95 = .ok (.aload_n 1, 1)) ∧ (decode cX10_store 96 = .ok (.getfield 70, 3)) ∧ (decode cX10_store 99 = .ok (.iload 5, 2)) := by decide +kernel
theorem gX10_store_5 : (decode cX10_store 101 = .ok (.iload 6, 2)) ∧ (decode cX10_store 103 = .ok (.aload_n 0, 1)) ∧ (decode cX10_store 104 = .ok (.getfield 20, 3)) ∧ (decode cX10_store 107 = .ok (.iload 4, 2)) ∧ (decode cX10_store 109 = .ok (.iload 6, 2)) ∧ (decode cX10_store 111 = .ok (.invokevirtual 74, 3)) ∧ (decode cX10_store 114 = .ok (.invokevirtual 66, 3)) ∧ (decode cX10_store 117 = .ok (.iinc 6 1, 3)) ∧ (decode cX10_store 120 = .ok (.goto (-32), 3)) ∧ (decode cX10_store 123 = .ok (.aload_n 1, 1)) := by decide +kernel
theorem gX10_store_6 : (decode cX10_store 124 = .ok (.getfield 70, 3)) ∧ (decode cX10_store 127 = .ok (.iload 5, 2)) ∧ (decode cX10_store 129 = .ok (.iconst 5, 1)) ∧ (decode cX10_store 130 = .ok (.aload_n 0, 1)) ∧ (decode cX10_store 131 = .ok (.getfield 20, 3)) ∧ (decode cX10_store 134 = .ok (.iload 4, 2)) ∧ (decode cX10_store 136 = .ok (.iconst 5, 1)) ∧ (decode cX10_store 137 = .ok (.invokevirtual 74, 3)) ∧ (decode cX10_store 140 = .ok (.iload_n 3, 1)) ∧ (decode cX10_store 141 = .ok (.iadd, 1)) := by decide +kernel
end WR
theorem RDQ.nf {p k : Nat} (hp : p ≤ 240) (hk : k ≤ 8) : ¬ (-100 : Int32) - nI p = nI k := by
  intro h
  have h2 := congrArg (fun z9 => z9 + nI p) h
  have h3 : (-100 : Int32) - nI p + nI p = -100 := Int32.sub_add_cancel _ _
  have h4 : (-100 : Int32) = nI (k + p) := h3.symm.trans (h2.trans (nI_add k p))
  have h5 := congrArg Int32.toInt h4
  have e1 : (-100 : Int32).toInt = -100 := by decide
  rw [e1, nI_toInt (by omega)] at h5
  omega
theorem RDQ.n8 {k : Nat} (hk : k ≤ 8) : ¬ (-2 : Int32) = nI k := by
  intro h
  have h2 := congrArg Int32.toInt h
  have e1 : (-2 : Int32).toInt = -2 := by decide
  rw [nI_toInt (by omega), e1] at h2
  omega
section WR
variable {p : Program} {l : Launch} {e : Env} {R : Room} {s : State} {m : MethodId} {args : Array Value} {below : List Frame} {meth : Method} {c : Code} {H : Heap} {locs : List Loc} {cells slots : Nat} {Q : State → Prop}
variable {pc : Nat} {ls : Array Slot} {rest : List Value} {G : GG} {K : OO} {ws : va_W} {A : Nat → Prop} {y0 : MethodName} {b0 : ByteArray} {mL0 : Nat} {rt0 : Option FieldType} {a : Nat} {H0 : Heap}
theorem gX11_read_0 : (decode cX11_read 0 = .ok (.aload_n 0, 1)) ∧ (decode cX11_read 1 = .ok (.getfield 58, 3)) ∧ (decode cX11_read 4 = .ok (.invokevirtual 227, 3)) ∧ (decode cX11_read 7 = .ok (.istore_n 1, 1)) ∧ (decode cX11_read 8 = .ok (.aload_n 0, 1)) ∧ (decode cX11_read 9 = .ok (.getfield 58, 3)) ∧ (decode cX11_read 12 = .ok (.invokevirtual 230, 3)) ∧ (decode cX11_read 15 = .ok (.iload_n 1, 1)) ∧ (decode cX11_read 16 = .ok (.ifCond .lt 8, 3)) ∧ (decode cX11_read 19 = .ok (.bipush (-100), 2)) := by decide +kernel
theorem m_619 : Cond.code yX10_scan cX10_scan 2 (some .int) ∈ BW := iB_BW33 _ (List.mem_of_getElem? (i := 19) rfl)
theorem m_616 : Cond.methodLink RX11 227 yX10_scan ∈ BW := iB_BW33 _ (List.mem_of_getElem? (i := 16) rfl)
theorem m_617 : Cond.instanceMethod yX10_scan ∈ BW := iB_BW33 _ (List.mem_of_getElem? (i := 17) rfl)
theorem m_618 : Cond.selects RX10 yX10_scan yX10_scan ∈ BW := iB_BW33 _ (List.mem_of_getElem? (i := 18) rfl)
theorem si_X11_227 : SV RX11 RX10 227 yX10_scan cX10_scan 2 (some .int) 0 := ⟨⟨m_616, m_617, m_618, m_111, m_619⟩, rfl, nK_RX10.1, nK_RX10.2, pd_1⟩
theorem m_734 : Cond.code yX10_clear cX10_clear 1 none ∈ BW := iB_BW39 _ (List.mem_of_getElem? (i := 14) rfl)
theorem m_731 : Cond.methodLink RX11 230 yX10_clear ∈ BW := iB_BW39 _ (List.mem_of_getElem? (i := 11) rfl)
theorem m_732 : Cond.instanceMethod yX10_clear ∈ BW := iB_BW39 _ (List.mem_of_getElem? (i := 12) rfl)
theorem m_733 : Cond.selects RX10 yX10_clear yX10_clear ∈ BW := iB_BW39 _ (List.mem_of_getElem? (i := 13) rfl)
theorem si_X11_230 : SV RX11 RX10 230 yX10_clear cX10_clear 1 none 0 := ⟨⟨m_731, m_732, m_733, m_111, m_734⟩, rfl, nK_RX10.1, nK_RX10.2, pd_9⟩
theorem gX11_read_1 : (decode cX11_read 21 = .ok (.iload_n 1, 1)) ∧ (decode cX11_read 22 = .ok (.isub, 1)) ∧ (decode cX11_read 23 = .ok (.ireturn, 1)) ∧ (decode cX11_read 24 = .ok (.aload_n 0, 1)) ∧ (decode cX11_read 25 = .ok (.getfield 15, 3)) ∧ (decode cX11_read 28 = .ok (.getfield 233, 3)) ∧ (decode cX11_read 31 = .ok (.invokevirtual 111, 3)) ∧ (decode cX11_read 34 = .ok (.ifCond .eq 6, 3)) ∧ (decode cX11_read 37 = .ok (.bipush (-2), 2)) ∧ (decode cX11_read 39 = .ok (.ireturn, 1)) := by decide +kernel
theorem gX11_read_2 : (decode cX11_read 40 = .ok (.aload_n 0, 1)) ∧ (decode cX11_read 41 = .ok (.getfield 58, 3)) ∧ (decode cX11_read 44 = .ok (.aload_n 0, 1)) ∧ (decode cX11_read 45 = .ok (.getfield 15, 3)) ∧ (decode cX11_read 48 = .ok (.invokevirtual 236, 3)) ∧ (decode cX11_read 51 = .ok (.ireturn, 1)) := by decide +kernel
theorem m_738 : Cond.code yX10_store cX10_store 7 (some .int) ∈ BW := iB_BW39 _ (List.mem_of_getElem? (i := 18) rfl)
theorem pd_27 : (parseMethodDescriptor "(LInquiryBench$Book;)I").map (fun d => d.parameters.length) = some 1 := by decide +kernel
theorem m_735 : Cond.methodLink RX11 236 yX10_store ∈ BW := iB_BW39 _ (List.mem_of_getElem? (i := 15) rfl)
theorem m_736 : Cond.instanceMethod yX10_store ∈ BW := iB_BW39 _ (List.mem_of_getElem? (i := 16) rfl)
theorem m_737 : Cond.selects RX10 yX10_store yX10_store ∈ BW := iB_BW39 _ (List.mem_of_getElem? (i := 17) rfl)
theorem si_X11_236 : SV RX11 RX10 236 yX10_store cX10_store 7 (some .int) 1 := ⟨⟨m_735, m_736, m_737, m_111, m_738⟩, rfl, nK_RX10.1, nK_RX10.2, pd_27⟩
end WR
theorem sm_0_1_2_3_4_5_7_8_9_10_11 {a0 a1 a2 a3 a4 a5 a6 a7 a8 a9 a10 a11 : Nat × va_E} {l : va_W} : ([0, 1, 2, 3, 4, 5, 7, 8, 9, 10, 11] : List Nat).map (fun i => (a0 :: a1 :: a2 :: a3 :: a4 :: a5 :: a6 :: a7 :: a8 :: a9 :: a10 :: a11 :: l : va_W)[i]?) = ([a0, a1, a2, a3, a4, a5, a7, a8, a9, a10, a11] : va_W).map some := rfl
theorem nd_0_1_2_3_4_5_7_8_9_10_11 : va_nd [0, 1, 2, 3, 4, 5, 7, 8, 9, 10, 11] = true := by decide
theorem dj_6__0_1_2_3_4_5_7_8_9_10_11 : ∀ i ∈ ([0, 1, 2, 3, 4, 5, 7, 8, 9, 10, 11] : List Nat), i ∉ ([6] : List Nat) := by decide
theorem sm_11_6 {a0 a1 a2 a3 a4 a5 a6 a7 a8 a9 a10 a11 : Nat × va_E} {l : va_W} : ([11, 6] : List Nat).map (fun i => (a0 :: a1 :: a2 :: a3 :: a4 :: a5 :: a6 :: a7 :: a8 :: a9 :: a10 :: a11 :: l : va_W)[i]?) = ([a11, a6] : va_W).map some := rfl
theorem fm_11_6 {a0 a1 a2 a3 a4 a5 a6 a7 a8 a9 a10 a11 : Nat × va_E} {l : va_W} : ([11, 6] : List Nat).filterMap (fun i => (a0 :: a1 :: a2 :: a3 :: a4 :: a5 :: a6 :: a7 :: a8 :: a9 :: a10 :: a11 :: l : va_W)[i]?) = ([a11, a6] : va_W) := rfl
theorem nd_11_6 : va_nd [11, 6] = true := by decide
theorem sm_0_1_2_3_4_5_7_8_9_10 {a0 a1 a2 a3 a4 a5 a6 a7 a8 a9 a10 : Nat × va_E} {l : va_W} : ([0, 1, 2, 3, 4, 5, 7, 8, 9, 10] : List Nat).map (fun i => (a0 :: a1 :: a2 :: a3 :: a4 :: a5 :: a6 :: a7 :: a8 :: a9 :: a10 :: l : va_W)[i]?) = ([a0, a1, a2, a3, a4, a5, a7, a8, a9, a10] : va_W).map some := rfl
theorem nd_0_1_2_3_4_5_7_8_9_10 : va_nd [0, 1, 2, 3, 4, 5, 7, 8, 9, 10] = true := by decide
theorem dj_11_6__0_1_2_3_4_5_7_8_9_10 : ∀ i ∈ ([0, 1, 2, 3, 4, 5, 7, 8, 9, 10] : List Nat), i ∉ ([11, 6] : List Nat) := by decide
theorem sm_10_11 {a0 a1 a2 a3 a4 a5 a6 a7 a8 a9 a10 a11 : Nat × va_E} {l : va_W} : ([10, 11] : List Nat).map (fun i => (a0 :: a1 :: a2 :: a3 :: a4 :: a5 :: a6 :: a7 :: a8 :: a9 :: a10 :: a11 :: l : va_W)[i]?) = ([a10, a11] : va_W).map some := rfl
theorem fm_10_11 {a0 a1 a2 a3 a4 a5 a6 a7 a8 a9 a10 a11 : Nat × va_E} {l : va_W} : ([10, 11] : List Nat).filterMap (fun i => (a0 :: a1 :: a2 :: a3 :: a4 :: a5 :: a6 :: a7 :: a8 :: a9 :: a10 :: a11 :: l : va_W)[i]?) = ([a10, a11] : va_W) := rfl
theorem nd_10_11 : va_nd [10, 11] = true := by decide
theorem sm_0_1_2_3_4_5_6_7_8_9 {a0 a1 a2 a3 a4 a5 a6 a7 a8 a9 : Nat × va_E} {l : va_W} : ([0, 1, 2, 3, 4, 5, 6, 7, 8, 9] : List Nat).map (fun i => (a0 :: a1 :: a2 :: a3 :: a4 :: a5 :: a6 :: a7 :: a8 :: a9 :: l : va_W)[i]?) = ([a0, a1, a2, a3, a4, a5, a6, a7, a8, a9] : va_W).map some := rfl
theorem nd_0_1_2_3_4_5_6_7_8_9 : va_nd [0, 1, 2, 3, 4, 5, 6, 7, 8, 9] = true := by decide
theorem dj_10_11__0_1_2_3_4_5_6_7_8_9 : ∀ i ∈ ([0, 1, 2, 3, 4, 5, 6, 7, 8, 9] : List Nat), i ∉ ([10, 11] : List Nat) := by decide
theorem sm_0_1_2_3_4_5_6_7_9_10_11 {a0 a1 a2 a3 a4 a5 a6 a7 a8 a9 a10 a11 : Nat × va_E} {l : va_W} : ([0, 1, 2, 3, 4, 5, 6, 7, 9, 10, 11] : List Nat).map (fun i => (a0 :: a1 :: a2 :: a3 :: a4 :: a5 :: a6 :: a7 :: a8 :: a9 :: a10 :: a11 :: l : va_W)[i]?) = ([a0, a1, a2, a3, a4, a5, a6, a7, a9, a10, a11] : va_W).map some := rfl
theorem nd_0_1_2_3_4_5_6_7_9_10_11 : va_nd [0, 1, 2, 3, 4, 5, 6, 7, 9, 10, 11] = true := by decide
theorem dj_8__0_1_2_3_4_5_6_7_9_10_11 : ∀ i ∈ ([0, 1, 2, 3, 4, 5, 6, 7, 9, 10, 11] : List Nat), i ∉ ([8] : List Nat) := by decide
theorem sm_11_8 {a0 a1 a2 a3 a4 a5 a6 a7 a8 a9 a10 a11 : Nat × va_E} {l : va_W} : ([11, 8] : List Nat).map (fun i => (a0 :: a1 :: a2 :: a3 :: a4 :: a5 :: a6 :: a7 :: a8 :: a9 :: a10 :: a11 :: l : va_W)[i]?) = ([a11, a8] : va_W).map some := rfl
theorem fm_11_8 {a0 a1 a2 a3 a4 a5 a6 a7 a8 a9 a10 a11 : Nat × va_E} {l : va_W} : ([11, 8] : List Nat).filterMap (fun i => (a0 :: a1 :: a2 :: a3 :: a4 :: a5 :: a6 :: a7 :: a8 :: a9 :: a10 :: a11 :: l : va_W)[i]?) = ([a11, a8] : va_W) := rfl
theorem nd_11_8 : va_nd [11, 8] = true := by decide
theorem sm_0_1_2_3_4_5_6_7_9_10 {a0 a1 a2 a3 a4 a5 a6 a7 a8 a9 a10 : Nat × va_E} {l : va_W} : ([0, 1, 2, 3, 4, 5, 6, 7, 9, 10] : List Nat).map (fun i => (a0 :: a1 :: a2 :: a3 :: a4 :: a5 :: a6 :: a7 :: a8 :: a9 :: a10 :: l : va_W)[i]?) = ([a0, a1, a2, a3, a4, a5, a6, a7, a9, a10] : va_W).map some := rfl
theorem nd_0_1_2_3_4_5_6_7_9_10 : va_nd [0, 1, 2, 3, 4, 5, 6, 7, 9, 10] = true := by decide
theorem dj_11_8__0_1_2_3_4_5_6_7_9_10 : ∀ i ∈ ([0, 1, 2, 3, 4, 5, 6, 7, 9, 10] : List Nat), i ∉ ([11, 8] : List Nat) := by decide
theorem fm_0_1_2_3_4_5_10_11_6_7_8_9 {a0 a1 a2 a3 a4 a5 a6 a7 a8 a9 a10 a11 : Nat × va_E} {l : va_W} : ([0, 1, 2, 3, 4, 5, 10, 11, 6, 7, 8, 9] : List Nat).filterMap (fun i => (a0 :: a1 :: a2 :: a3 :: a4 :: a5 :: a6 :: a7 :: a8 :: a9 :: a10 :: a11 :: l : va_W)[i]?) = ([a0, a1, a2, a3, a4, a5, a10, a11, a6, a7, a8, a9] : va_W) := rfl
theorem nd_0_1_2_3_4_5_10_11_6_7_8_9 : va_nd [0, 1, 2, 3, 4, 5, 10, 11, 6, 7, 8, 9] = true := by decide
theorem sm_0_1_2_3_4_5_10_11_6_7_8_9 {a0 a1 a2 a3 a4 a5 a6 a7 a8 a9 a10 a11 : Nat × va_E} {l : va_W} : ([0, 1, 2, 3, 4, 5, 10, 11, 6, 7, 8, 9] : List Nat).map (fun i => (a0 :: a1 :: a2 :: a3 :: a4 :: a5 :: a6 :: a7 :: a8 :: a9 :: a10 :: a11 :: l : va_W)[i]?) = ([a0, a1, a2, a3, a4, a5, a10, a11, a6, a7, a8, a9] : va_W).map some := rfl
theorem rm_33_31_2 {mc ms : Nat} : 31 + 1 ≤ (RM 33 mc ms).frames ∧ 8 + (2 + 11) + 40 * 31 ≤ (RM 33 mc ms).locals := ⟨by show 31 + 1 ≤ 33; decide, by show 8 + (2 + 11) + 40 * 31 ≤ 40 * 33; decide⟩
theorem sm_1_2_3_4_5_6 {a0 a1 a2 a3 a4 a5 a6 : Nat × va_E} {l : va_W} : ([1, 2, 3, 4, 5, 6] : List Nat).map (fun i => (a0 :: a1 :: a2 :: a3 :: a4 :: a5 :: a6 :: l : va_W)[i]?) = ([a1, a2, a3, a4, a5, a6] : va_W).map some := rfl
theorem fm_1_2_3_4_5_6 {a0 a1 a2 a3 a4 a5 a6 : Nat × va_E} {l : va_W} : ([1, 2, 3, 4, 5, 6] : List Nat).filterMap (fun i => (a0 :: a1 :: a2 :: a3 :: a4 :: a5 :: a6 :: l : va_W)[i]?) = ([a1, a2, a3, a4, a5, a6] : va_W) := rfl
theorem nd_1_2_3_4_5_6 : va_nd [1, 2, 3, 4, 5, 6] = true := by decide
theorem sm_0_7_8_9_10_11_12_13 {a0 a1 a2 a3 a4 a5 a6 a7 a8 a9 a10 a11 a12 a13 : Nat × va_E} {l : va_W} : ([0, 7, 8, 9, 10, 11, 12, 13] : List Nat).map (fun i => (a0 :: a1 :: a2 :: a3 :: a4 :: a5 :: a6 :: a7 :: a8 :: a9 :: a10 :: a11 :: a12 :: a13 :: l : va_W)[i]?) = ([a0, a7, a8, a9, a10, a11, a12, a13] : va_W).map some := rfl
theorem nd_0_7_8_9_10_11_12_13 : va_nd [0, 7, 8, 9, 10, 11, 12, 13] = true := by decide
theorem dj_1_2_3_4_5_6__0_7_8_9_10_11_12_13 : ∀ i ∈ ([0, 7, 8, 9, 10, 11, 12, 13] : List Nat), i ∉ ([1, 2, 3, 4, 5, 6] : List Nat) := by decide
theorem rm_33_1_1 {mc ms : Nat} : 1 + 1 ≤ (RM 33 mc ms).frames ∧ 8 + (1 + 11) + 40 * 1 ≤ (RM 33 mc ms).locals := ⟨by show 1 + 1 ≤ 33; decide, by show 8 + (1 + 11) + 40 * 1 ≤ 40 * 33; decide⟩
theorem sm_0_1_2_3_4_5_6_7_9_10_11_12_13 {a0 a1 a2 a3 a4 a5 a6 a7 a8 a9 a10 a11 a12 a13 : Nat × va_E} {l : va_W} : ([0, 1, 2, 3, 4, 5, 6, 7, 9, 10, 11, 12, 13] : List Nat).map (fun i => (a0 :: a1 :: a2 :: a3 :: a4 :: a5 :: a6 :: a7 :: a8 :: a9 :: a10 :: a11 :: a12 :: a13 :: l : va_W)[i]?) = ([a0, a1, a2, a3, a4, a5, a6, a7, a9, a10, a11, a12, a13] : va_W).map some := rfl
theorem nd_0_1_2_3_4_5_6_7_9_10_11_12_13 : va_nd [0, 1, 2, 3, 4, 5, 6, 7, 9, 10, 11, 12, 13] = true := by decide
theorem dj_8__0_1_2_3_4_5_6_7_9_10_11_12_13 : ∀ i ∈ ([0, 1, 2, 3, 4, 5, 6, 7, 9, 10, 11, 12, 13] : List Nat), i ∉ ([8] : List Nat) := by decide
theorem rm_33_3_7 {mc ms : Nat} : 3 + 1 ≤ (RM 33 mc ms).frames ∧ 8 + (7 + 11) + 40 * 3 ≤ (RM 33 mc ms).locals := ⟨by show 3 + 1 ≤ 33; decide, by show 8 + (7 + 11) + 40 * 3 ≤ 40 * 33; decide⟩
theorem sm_13_9_10_11_12_1_2_3_4_5_6_7 {a0 a1 a2 a3 a4 a5 a6 a7 a8 a9 a10 a11 a12 a13 : Nat × va_E} {l : va_W} : ([13, 9, 10, 11, 12, 1, 2, 3, 4, 5, 6, 7] : List Nat).map (fun i => (a0 :: a1 :: a2 :: a3 :: a4 :: a5 :: a6 :: a7 :: a8 :: a9 :: a10 :: a11 :: a12 :: a13 :: l : va_W)[i]?) = ([a13, a9, a10, a11, a12, a1, a2, a3, a4, a5, a6, a7] : va_W).map some := rfl
theorem fm_13_9_10_11_12_1_2_3_4_5_6_7 {a0 a1 a2 a3 a4 a5 a6 a7 a8 a9 a10 a11 a12 a13 : Nat × va_E} {l : va_W} : ([13, 9, 10, 11, 12, 1, 2, 3, 4, 5, 6, 7] : List Nat).filterMap (fun i => (a0 :: a1 :: a2 :: a3 :: a4 :: a5 :: a6 :: a7 :: a8 :: a9 :: a10 :: a11 :: a12 :: a13 :: l : va_W)[i]?) = ([a13, a9, a10, a11, a12, a1, a2, a3, a4, a5, a6, a7] : va_W) := rfl
theorem nd_13_9_10_11_12_1_2_3_4_5_6_7 : va_nd [13, 9, 10, 11, 12, 1, 2, 3, 4, 5, 6, 7] = true := by decide
theorem sm_0_8 {a0 a1 a2 a3 a4 a5 a6 a7 a8 : Nat × va_E} {l : va_W} : ([0, 8] : List Nat).map (fun i => (a0 :: a1 :: a2 :: a3 :: a4 :: a5 :: a6 :: a7 :: a8 :: l : va_W)[i]?) = ([a0, a8] : va_W).map some := rfl
theorem nd_0_8 : va_nd [0, 8] = true := by decide
theorem dj_13_9_10_11_12_1_2_3_4_5_6_7__0_8 : ∀ i ∈ ([0, 8] : List Nat), i ∉ ([13, 9, 10, 11, 12, 1, 2, 3, 4, 5, 6, 7] : List Nat) := by decide
def K_t_store (l : Launch) (G : GG) (h0 : Nat) (bb : Nat) (tby : Nat) (kt : Nat) (tln : Nat) (tsp : Nat) (tkd : Int32) (ts9 : Int32) (tn9 : Int32) (tf9 : Int32) (tlnc : Nat) (kln : Nat) (ftln : Nat → Int32) (tspc : Nat) (ksp : Nat) (ftsp : Nat → Int32) (bpersons : Nat) (bpapers : Nat) (bstamps : Nat) (bversions : Nat) (blines : Nat) (bsteps : Nat) (bsayings : Nat) (bfindings : Nat) (bwarnings : Nat) (bquestions : Nat) (td : Int32) (vd : Int32) (vl : Int32) (gp : Int32) (bversionsc : Nat) (kbversions : Nat) (fbversions : Nat → Int32) (blinesc : Nat) (kblines : Nat) (fblines : Nat → Int32) (bstepsc : Nat) (kbsteps : Nat) (fbsteps : Nat → Int32) : Prop := MI l G yX10_store cX10_store 7 (some .int) 3 0 0 [.ref h0, .ref bb] [(h0, oX10 tby (nI kt) tln tsp tkd ts9 tn9 tf9), (tln, oX8 9 7 tlnc (nI kln)), (tlnc, iA G 63 ftln), (tsp, oX8 120 1 tspc (nI ksp)), (tspc, iA G 120 ftsp), (bb, oX0 bpersons bpapers bstamps bversions blines bsteps bsayings bfindings bwarnings bquestions td vd vl gp), (bversions, oX8 8 3 bversionsc (nI kbversions)), (bversionsc, iA G 24 fbversions), (blines, oX8 72 7 blinesc (nI kblines)), (blinesc, iA G 504 fblines), (bsteps, oX8 960 1 bstepsc (nI kbsteps)), (bstepsc, iA G 960 fbsteps)] (fun (r : Int32) (u : Nat × Nat × (Nat → Int32) × (Nat → Int32) × (Nat → Int32)) => (r = nI kbversions) ∧ (u.1 ≤ 72 ∧ u.2.1 ≤ 960)) (fun u : Nat × Nat × (Nat → Int32) × (Nat → Int32) × (Nat → Int32) => [(h0, oX10 tby (nI kt) tln tsp tkd ts9 tn9 tf9), (tln, oX8 9 7 tlnc (nI kln)), (tlnc, iA G 63 ftln), (tsp, oX8 120 1 tspc (nI ksp)), (tspc, iA G 120 ftsp), (bb, oX0 bpersons bpapers bstamps bversions blines bsteps bsayings bfindings bwarnings bquestions td vd vl gp), (bversions, oX8 8 3 bversionsc (nI (kbversions + 1))), (bversionsc, iA G 24 u.2.2.1), (blines, oX8 72 7 blinesc (nI u.1)), (blinesc, iA G 504 u.2.2.2.1), (bsteps, oX8 960 1 bstepsc (nI u.2.1)), (bstepsc, iA G 960 u.2.2.2.2)])
set_option maxHeartbeats 4000000 in
set_option maxRecDepth 100000 in
theorem t_store (l : Launch) (G : GG) (h0 : Nat) (bb : Nat) (tby : Nat) (kt : Nat) (tln : Nat) (tsp : Nat) (tkd : Int32) (ts9 : Int32) (tn9 : Int32) (tf9 : Int32) (tlnc : Nat) (kln : Nat) (ftln : Nat → Int32) (tspc : Nat) (ksp : Nat) (ftsp : Nat → Int32) (bpersons : Nat) (bpapers : Nat) (bstamps : Nat) (bversions : Nat) (blines : Nat) (bsteps : Nat) (bsayings : Nat) (bfindings : Nat) (bwarnings : Nat) (bquestions : Nat) (td : Int32) (vd : Int32) (vl : Int32) (gp : Int32) (bversionsc : Nat) (kbversions : Nat) (fbversions : Nat → Int32) (blinesc : Nat) (kblines : Nat) (fblines : Nat → Int32) (bstepsc : Nat) (kbsteps : Nat) (fbsteps : Nat → Int32) (hkln : kln ≤ 9) (hksp : ksp ≤ 120) (hkbv : kbversions < 8) (hkblines : kblines ≤ 72) (hkbsteps : kbsteps ≤ 960) : K_t_store l G h0 bb tby kt tln tsp tkd ts9 tn9 tf9 tlnc kln ftln tspc ksp ftsp bpersons bpapers bstamps bversions blines bsteps bsayings bfindings bwarnings bquestions td vd vl gp bversionsc kbversions fbversions blinesc kblines fblines bstepsc kbsteps fbsteps := by
  refine MI.start (by decide +kernel) (Nat.le_of_ble_eq_true rfl) ?_
  intro p e s m below meth c A ls hC hK hP hD hS hA hl
  refine absQ (fun Q0 hQ0 => ?_)
  have hl : lv_has ls 7 [(0, .ref h0), (1, .ref bb)] := hl
  refine Kan8 hC (fun hx hb hr hml hB hown hlocks hnm => ?_)
  refine lv_aload_n hx hb gX10_store_0.1 rfl (lv_at1 hl) ?_
  refine gf_X10_54 hC rfl hK hP 5 rfl rfl gX10_store_0.2.1 ?_
  refine iV (wr := [(h0, oX10 tby (nI kt) tln tsp tkd ts9 tn9 tf9), (tln, oX8 9 7 tlnc (nI kln)), (tlnc, iA G 63 ftln), (tsp, oX8 120 1 tspc (nI ksp)), (tspc, iA G 120 ftsp), (bb, oX0 bpersons bpapers bstamps bversions blines bsteps bsayings bfindings bwarnings bquestions td vd vl gp), (bversionsc, iA G 24 fbversions), (blines, oX8 72 7 blinesc (nI kblines)), (blinesc, iA G 504 fblines), (bsteps, oX8 960 1 bstepsc (nI kbsteps)), (bstepsc, iA G 960 fbsteps)]) hC hK hl hP hD hS hA (c_T_append l G bversions 8 3 bversionsc kbversions (hkbv) (by omega)) si_X10_59 [6] [0, 1, 2, 3, 4, 5, 7, 8, 9, 10, 11] sm_6 fm_6 nd_6 sm_0_1_2_3_4_5_7_8_9_10_11 nd_0_1_2_3_4_5_7_8_9_10_11 dj_6__0_1_2_3_4_5_7_8_9_10_11 rfl rfl rfl rfl rfl (Nat.le_of_ble_eq_true rfl) rm_3_1_1 ⟨Nat.le_of_ble_eq_true rfl, Nat.le_of_ble_eq_true rfl⟩ gX10_store_0.2.2.1 (fun r3544 u3545 H locs hr3544 hP hD hS => ?_)
  refine Kpdr (ws := [(h0, oX10 tby (nI kt) tln tsp tkd ts9 tn9 tf9), (tln, oX8 9 7 tlnc (nI kln)), (tlnc, iA G 63 ftln), (tsp, oX8 120 1 tspc (nI ksp)), (tspc, iA G 120 ftsp), (bb, oX0 bpersons bpapers bstamps bversions blines bsteps bsayings bfindings bwarnings bquestions td vd vl gp), (bversionsc, iA G 24 fbversions), (blines, oX8 72 7 blinesc (nI kblines)), (blinesc, iA G 504 fblines), (bsteps, oX8 960 1 bstepsc (nI kbsteps)), (bstepsc, iA G 960 fbsteps), (bversions, oX8 8 3 bversionsc (nI (kbversions + 1)))]) hP hD (fun hP hD => ?_)
  obtain rfl := hr3544
  refine lv_istore_n (lv' := [(2, .int (nI kbversions)), (0, .ref h0), (1, .ref bb)]) hx hb gX10_store_0.2.2.2.1 rfl hl (by decide) rfl (fun ls hl => ?_)
  refine lv_aload_n hx hb gX10_store_0.2.2.2.2.1 rfl (lv_at2 hl) ?_
  refine gf_X10_54 hC rfl hK hP 5 rfl rfl gX10_store_0.2.2.2.2.2.1 ?_
  refine lv_iload_n hx hb gX10_store_0.2.2.2.2.2.2.1 rfl (lv_at0 hl) ?_
  refine lv_iconst (v := 0) hx hb gX10_store_0.2.2.2.2.2.2.2.1 (by decide) ?_
  refine lv_aload_n hx hb gX10_store_0.2.2.2.2.2.2.2.2.1 rfl (lv_at2 hl) ?_
  refine gf_X10_63 hC rfl hK hP 5 rfl rfl gX10_store_0.2.2.2.2.2.2.2.2.2 ?_
  refine vV (wr := [(h0, oX10 tby (nI kt) tln tsp tkd ts9 tn9 tf9), (tln, oX8 9 7 tlnc (nI kln)), (tlnc, iA G 63 ftln), (tsp, oX8 120 1 tspc (nI ksp)), (tspc, iA G 120 ftsp), (bb, oX0 bpersons bpapers bstamps bversions blines bsteps bsayings bfindings bwarnings bquestions td vd vl gp), (blines, oX8 72 7 blinesc (nI kblines)), (blinesc, iA G 504 fblines), (bsteps, oX8 960 1 bstepsc (nI kbsteps)), (bstepsc, iA G 960 fbsteps)]) hC hK hl hP hD hS hA (c_T_set l G bversions (nI kbversions) 0 td 8 3 bversionsc (kbversions + 1) fbversions (by omega) (by omega) (by omega)) si_X10_66 [11, 6] [0, 1, 2, 3, 4, 5, 7, 8, 9, 10] sm_11_6 fm_11_6 nd_11_6 sm_0_1_2_3_4_5_7_8_9_10 nd_0_1_2_3_4_5_7_8_9_10 dj_11_6__0_1_2_3_4_5_7_8_9_10 rfl rfl rfl rfl rfl (Nat.le_of_ble_eq_true rfl) rm_3_1_4 ⟨Nat.le_of_ble_eq_true rfl, Nat.le_of_ble_eq_true rfl⟩ gX10_store_1.1 (fun f13549 H locs hr3547 hP hD hS => ?_)
  try dsimp only at hr3547
  refine Kpdr (ws := [(h0, oX10 tby (nI kt) tln tsp tkd ts9 tn9 tf9), (tln, oX8 9 7 tlnc (nI kln)), (tlnc, iA G 63 ftln), (tsp, oX8 120 1 tspc (nI ksp)), (tspc, iA G 120 ftsp), (bb, oX0 bpersons bpapers bstamps bversions blines bsteps bsayings bfindings bwarnings bquestions td vd vl gp), (blines, oX8 72 7 blinesc (nI kblines)), (blinesc, iA G 504 fblines), (bsteps, oX8 960 1 bstepsc (nI kbsteps)), (bstepsc, iA G 960 fbsteps), (bversions, oX8 8 3 bversionsc (nI (kbversions + 1))), (bversionsc, iA G 24 f13549)]) hP hD (fun hP hD => ?_)
  have w3550 := hr3547
  refine lv_aload_n hx hb gX10_store_1.2.1 rfl (lv_at2 hl) ?_
  refine gf_X10_54 hC rfl hK hP 5 rfl rfl gX10_store_1.2.2.1 ?_
  refine lv_iload_n hx hb gX10_store_1.2.2.2.1 rfl (lv_at0 hl) ?_
  refine lv_iconst (v := 1) hx hb gX10_store_1.2.2.2.2.1 (by decide) ?_
  refine lv_aload_n hx hb gX10_store_1.2.2.2.2.2.1 rfl (lv_at2 hl) ?_
  refine gf_X10_70 hC rfl hK hP 5 rfl rfl gX10_store_1.2.2.2.2.2.2.1 ?_
  refine pV hC hK hl hP hD (c_T_count l G blines 72 7 blinesc kblines) si_X10_71 [6] sm_6 fm_6 nd_6 rfl rfl rfl rfl rfl (Nat.le_of_ble_eq_true rfl) rm_3_1_1 ⟨by first | exact Nat.le_of_ble_eq_true rfl | exact Nat.zero_le _, by first | exact Nat.le_of_ble_eq_true rfl | exact Nat.zero_le _⟩ gX10_store_1.2.2.2.2.2.2.2.1 (Keqr ?_)
  refine vV (wr := [(h0, oX10 tby (nI kt) tln tsp tkd ts9 tn9 tf9), (tln, oX8 9 7 tlnc (nI kln)), (tlnc, iA G 63 ftln), (tsp, oX8 120 1 tspc (nI ksp)), (tspc, iA G 120 ftsp), (bb, oX0 bpersons bpapers bstamps bversions blines bsteps bsayings bfindings bwarnings bquestions td vd vl gp), (blines, oX8 72 7 blinesc (nI kblines)), (blinesc, iA G 504 fblines), (bsteps, oX8 960 1 bstepsc (nI kbsteps)), (bstepsc, iA G 960 fbsteps)]) hC hK hl hP hD hS hA (c_T_set l G bversions (nI kbversions) 1 (nI kblines) 8 3 bversionsc (kbversions + 1) f13549 (by omega) (by omega) (by omega)) si_X10_66 [10, 11] [0, 1, 2, 3, 4, 5, 6, 7, 8, 9] sm_10_11 fm_10_11 nd_10_11 sm_0_1_2_3_4_5_6_7_8_9 nd_0_1_2_3_4_5_6_7_8_9 dj_10_11__0_1_2_3_4_5_6_7_8_9 rfl rfl rfl rfl rfl (Nat.le_of_ble_eq_true rfl) rm_3_1_4 ⟨Nat.le_of_ble_eq_true rfl, Nat.le_of_ble_eq_true rfl⟩ gX10_store_1.2.2.2.2.2.2.2.2.1 (fun f13555 H locs hr3553 hP hD hS => ?_)
  try dsimp only at hr3553
  refine Kpdr (ws := [(h0, oX10 tby (nI kt) tln tsp tkd ts9 tn9 tf9), (tln, oX8 9 7 tlnc (nI kln)), (tlnc, iA G 63 ftln), (tsp, oX8 120 1 tspc (nI ksp)), (tspc, iA G 120 ftsp), (bb, oX0 bpersons bpapers bstamps bversions blines bsteps bsayings bfindings bwarnings bquestions td vd vl gp), (blines, oX8 72 7 blinesc (nI kblines)), (blinesc, iA G 504 fblines), (bsteps, oX8 960 1 bstepsc (nI kbsteps)), (bstepsc, iA G 960 fbsteps), (bversions, oX8 8 3 bversionsc (nI (kbversions + 1))), (bversionsc, iA G 24 f13555)]) hP hD (fun hP hD => ?_)
  have w3556 := hr3553
  refine lv_aload_n hx hb gX10_store_1.2.2.2.2.2.2.2.2.2 rfl (lv_at2 hl) ?_
  refine gf_X10_54 hC rfl hK hP 5 rfl rfl gX10_store_2.1 ?_
  refine lv_iload_n hx hb gX10_store_2.2.1 rfl (lv_at0 hl) ?_
  refine lv_iconst (v := 2) hx hb gX10_store_2.2.2.1 (by decide) ?_
  refine lv_aload_n hx hb gX10_store_2.2.2.2.1 rfl (lv_at1 hl) ?_
  refine gf_X10_20 hC rfl hK hP 0 rfl rfl gX10_store_2.2.2.2.2.1 ?_
  refine pV hC hK hl hP hD (c_T_count l G tln 9 7 tlnc kln) si_X10_71 [1] sm_1 fm_1 nd_1 rfl rfl rfl rfl rfl (Nat.le_of_ble_eq_true rfl) rm_3_1_1 ⟨by first | exact Nat.le_of_ble_eq_true rfl | exact Nat.zero_le _, by first | exact Nat.le_of_ble_eq_true rfl | exact Nat.zero_le _⟩ gX10_store_2.2.2.2.2.2.1 (Keqr ?_)
  refine vV (wr := [(h0, oX10 tby (nI kt) tln tsp tkd ts9 tn9 tf9), (tln, oX8 9 7 tlnc (nI kln)), (tlnc, iA G 63 ftln), (tsp, oX8 120 1 tspc (nI ksp)), (tspc, iA G 120 ftsp), (bb, oX0 bpersons bpapers bstamps bversions blines bsteps bsayings bfindings bwarnings bquestions td vd vl gp), (blines, oX8 72 7 blinesc (nI kblines)), (blinesc, iA G 504 fblines), (bsteps, oX8 960 1 bstepsc (nI kbsteps)), (bstepsc, iA G 960 fbsteps)]) hC hK hl hP hD hS hA (c_T_set l G bversions (nI kbversions) 2 (nI kln) 8 3 bversionsc (kbversions + 1) f13555 (by omega) (by omega) (by omega)) si_X10_66 [10, 11] [0, 1, 2, 3, 4, 5, 6, 7, 8, 9] sm_10_11 fm_10_11 nd_10_11 sm_0_1_2_3_4_5_6_7_8_9 nd_0_1_2_3_4_5_6_7_8_9 dj_10_11__0_1_2_3_4_5_6_7_8_9 rfl rfl rfl rfl rfl (Nat.le_of_ble_eq_true rfl) rm_3_1_4 ⟨Nat.le_of_ble_eq_true rfl, Nat.le_of_ble_eq_true rfl⟩ gX10_store_2.2.2.2.2.2.2.1 (fun f13561 H locs hr3559 hP hD hS => ?_)
  try dsimp only at hr3559
  refine Kpdr (ws := [(h0, oX10 tby (nI kt) tln tsp tkd ts9 tn9 tf9), (tln, oX8 9 7 tlnc (nI kln)), (tlnc, iA G 63 ftln), (tsp, oX8 120 1 tspc (nI ksp)), (tspc, iA G 120 ftsp), (bb, oX0 bpersons bpapers bstamps bversions blines bsteps bsayings bfindings bwarnings bquestions td vd vl gp), (blines, oX8 72 7 blinesc (nI kblines)), (blinesc, iA G 504 fblines), (bsteps, oX8 960 1 bstepsc (nI kbsteps)), (bstepsc, iA G 960 fbsteps), (bversions, oX8 8 3 bversionsc (nI (kbversions + 1))), (bversionsc, iA G 24 f13561)]) hP hD (fun hP hD => ?_)
  have w3562 := hr3559
  refine lv_aload_n hx hb gX10_store_2.2.2.2.2.2.2.2.1 rfl (lv_at2 hl) ?_
  refine gf_X10_73 hC rfl hK hP 5 rfl rfl gX10_store_2.2.2.2.2.2.2.2.2.1 ?_
  refine pV hC hK hl hP hD (c_T_count l G bsteps 960 1 bstepsc kbsteps) si_X10_71 [8] sm_8 fm_8 nd_8 rfl rfl rfl rfl rfl (Nat.le_of_ble_eq_true rfl) rm_3_1_1 ⟨by first | exact Nat.le_of_ble_eq_true rfl | exact Nat.zero_le _, by first | exact Nat.le_of_ble_eq_true rfl | exact Nat.zero_le _⟩ gX10_store_2.2.2.2.2.2.2.2.2.2 (Keqr ?_)
  refine lv_istore_n (lv' := [(3, .int (nI kbsteps)), (2, .int (nI kbversions)), (0, .ref h0), (1, .ref bb)]) hx hb gX10_store_3.1 rfl hl (by decide) rfl (fun ls hl => ?_)
  refine lv_iconst (v := 0) hx hb gX10_store_3.2.1 (by decide) ?_
  refine lv_istore (lv' := [(4, .int 0), (3, .int (nI kbsteps)), (2, .int (nI kbversions)), (0, .ref h0), (1, .ref bb)]) hx hb gX10_store_3.2.2.1 hl (by decide) rfl (fun ls hl => ?_)
  have keyP : ∀ (nP kP : Nat) (vbl : Nat → Int32) (vkb : Nat) (H : Heap) (locs : List Loc) (ls : Array Slot), kP + nP = kln → (vkb ≤ 72) → va_PD G A [(h0, oX10 tby (nI kt) tln tsp tkd ts9 tn9 tf9), (tln, oX8 9 7 tlnc (nI kln)), (tlnc, iA G 63 ftln), (tsp, oX8 120 1 tspc (nI ksp)), (tspc, iA G 120 ftsp), (bb, oX0 bpersons bpapers bstamps bversions blines bsteps bsayings bfindings bwarnings bquestions td vd vl gp), (blines, oX8 72 7 blinesc (nI vkb)), (blinesc, iA G 504 vbl), (bsteps, oX8 960 1 bstepsc (nI kbsteps)), (bstepsc, iA G 960 fbsteps), (bversions, oX8 8 3 bversionsc (nI (kbversions + 1))), (bversionsc, iA G 24 f13561)] H → va_S A s.heap H locs → lv_has ls 7 [(4, .int (nI kP)), (3, .int (nI kbsteps)), (2, .int (nI kbversions)), (0, .ref h0), (1, .ref bb)] → W p l e (RM 3 0 0) s m ([.ref h0, .ref bb] : List Value).toArray below meth c H locs 0 0 Q0 (F0 m 64 ls []) := by
    intro nP
    induction nP with
    | zero =>
      intro kP vbl vkb H locs ls hkP hvkb hPD hS hl
      refine Kan2 hPD (fun hP hD => ?_)
      obtain rfl : kln = kP := by omega
      have hl : lv_has ls 7 [(4, .int (nI kln)), (3, .int (nI kbsteps)), (2, .int (nI kbversions)), (0, .ref h0), (1, .ref bb)] := hl
      refine lv_iload hx hb gX10_store_3.2.2.2.1 (lv_at0 hl) ?_
      refine lv_aload_n hx hb gX10_store_3.2.2.2.2.1 rfl (lv_at3 hl) ?_
      refine gf_X10_20 hC rfl hK hP 0 rfl rfl gX10_store_3.2.2.2.2.2.1 ?_
      refine pV hC hK hl hP hD (c_T_count l G tln 9 7 tlnc kln) si_X10_71 [1] sm_1 fm_1 nd_1 rfl rfl rfl rfl rfl (Nat.le_of_ble_eq_true rfl) rm_3_1_1 ⟨by first | exact Nat.le_of_ble_eq_true rfl | exact Nat.zero_le _, by first | exact Nat.le_of_ble_eq_true rfl | exact Nat.zero_le _⟩ gX10_store_3.2.2.2.2.2.2.1 (Keqr ?_)
      refine lv_icmp_ge (tgt := 151) hx hb gX10_store_3.2.2.2.2.2.2.2.1 (by decide) (fun _ => ?_) (fun c9 => absurd (Int32.le_refl _) c9)
      refine lv_iconst (v := 0) hx hb gX10_store_7.2.2.2.1 (by decide) ?_
      refine lv_istore (lv' := [(4, .int 0), (3, .int (nI kbsteps)), (2, .int (nI kbversions)), (0, .ref h0), (1, .ref bb)]) hx hb gX10_store_7.2.2.2.2.1 hl (by decide) rfl (fun ls hl => ?_)
      have keyQ : ∀ (nQ kQ : Nat) (vbs : Nat → Int32) (vkc : Nat) (H : Heap) (locs : List Loc) (ls : Array Slot), kQ + nQ = ksp → (vkc ≤ 960) → va_PD G A [(h0, oX10 tby (nI kt) tln tsp tkd ts9 tn9 tf9), (tln, oX8 9 7 tlnc (nI kln)), (tlnc, iA G 63 ftln), (tsp, oX8 120 1 tspc (nI ksp)), (tspc, iA G 120 ftsp), (bb, oX0 bpersons bpapers bstamps bversions blines bsteps bsayings bfindings bwarnings bquestions td vd vl gp), (blines, oX8 72 7 blinesc (nI vkb)), (blinesc, iA G 504 vbl), (bsteps, oX8 960 1 bstepsc (nI vkc)), (bstepsc, iA G 960 vbs), (bversions, oX8 8 3 bversionsc (nI (kbversions + 1))), (bversionsc, iA G 24 f13561)] H → va_S A s.heap H locs → lv_has ls 7 [(4, .int (nI kQ)), (3, .int (nI kbsteps)), (2, .int (nI kbversions)), (0, .ref h0), (1, .ref bb)] → W p l e (RM 3 0 0) s m ([.ref h0, .ref bb] : List Value).toArray below meth c H locs 0 0 Q0 (F0 m 154 ls []) := by
        intro nQ
        induction nQ with
        | zero =>
          intro kQ vbs vkc H locs ls hkQ hvkc hPD hS hl
          refine Kan2 hPD (fun hP hD => ?_)
          obtain rfl : ksp = kQ := by omega
          have hl : lv_has ls 7 [(4, .int (nI ksp)), (3, .int (nI kbsteps)), (2, .int (nI kbversions)), (0, .ref h0), (1, .ref bb)] := hl
          refine lv_iload hx hb gX10_store_7.2.2.2.2.2.1 (lv_at0 hl) ?_
          refine lv_aload_n hx hb gX10_store_7.2.2.2.2.2.2.1 rfl (lv_at3 hl) ?_
          refine gf_X10_24 hC rfl hK hP 0 rfl rfl gX10_store_7.2.2.2.2.2.2.2.1 ?_
          refine pV hC hK hl hP hD (c_T_count l G tsp 120 1 tspc ksp) si_X10_71 [3] sm_3 fm_3 nd_3 rfl rfl rfl rfl rfl (Nat.le_of_ble_eq_true rfl) rm_3_1_1 ⟨by first | exact Nat.le_of_ble_eq_true rfl | exact Nat.zero_le _, by first | exact Nat.le_of_ble_eq_true rfl | exact Nat.zero_le _⟩ gX10_store_7.2.2.2.2.2.2.2.2.1 (Keqr ?_)
          refine lv_icmp_ge (tgt := 197) hx hb gX10_store_7.2.2.2.2.2.2.2.2.2 (by decide) (fun _ => ?_) (fun c9 => absurd (Int32.le_refl _) c9)
          refine lv_iload_n hx hb gX10_store_9.2.2.2.2.1 rfl (lv_at2 hl) ?_
          refine toQ hQ0 ?_
          exact RI (v := nI kbversions) hC hP hD hS [0, 1, 2, 3, 4, 5, 10, 11, 6, 7, 8, 9] (vkb, vkc, f13561, vbl, vbs) rfl rfl (by decide) (⟨rfl, by dsimp only; omega⟩) rfl gX10_store_9.2.2.2.2.2
        | succ nQ ihQ =>
          intro kQ vbs vkc H locs ls hkQ hvkc hPD hS hl
          refine Kan2 hPD (fun hP hD => ?_)
          refine lv_iload hx hb gX10_store_7.2.2.2.2.2.1 (lv_at0 hl) ?_
          refine lv_aload_n hx hb gX10_store_7.2.2.2.2.2.2.1 rfl (lv_at3 hl) ?_
          refine gf_X10_24 hC rfl hK hP 0 rfl rfl gX10_store_7.2.2.2.2.2.2.2.1 ?_
          refine pV hC hK hl hP hD (c_T_count l G tsp 120 1 tspc ksp) si_X10_71 [3] sm_3 fm_3 nd_3 rfl rfl rfl rfl rfl (Nat.le_of_ble_eq_true rfl) rm_3_1_1 ⟨by first | exact Nat.le_of_ble_eq_true rfl | exact Nat.zero_le _, by first | exact Nat.le_of_ble_eq_true rfl | exact Nat.zero_le _⟩ gX10_store_7.2.2.2.2.2.2.2.2.1 (Keqr ?_)
          refine lv_icmp_ge (tgt := 197) hx hb gX10_store_7.2.2.2.2.2.2.2.2.2 (by decide) (fun c9 => absurd c9 (nI_ge (a := kQ) (b := ksp) (by omega) (by omega))) (fun _ => ?_)
          refine lv_aload_n hx hb gX10_store_8.1 rfl (lv_at4 hl) ?_
          refine gf_X10_73 hC rfl hK hP 5 rfl rfl gX10_store_8.2.1 ?_
          refine lv_aload_n hx hb gX10_store_8.2.2.1 rfl (lv_at4 hl) ?_
          refine gf_X10_73 hC rfl hK hP 5 rfl rfl gX10_store_8.2.2.2.1 ?_
          rcases Nat.lt_or_ge vkc 960 with hcap9 | hcap9
          · refine iV (wr := [(h0, oX10 tby (nI kt) tln tsp tkd ts9 tn9 tf9), (tln, oX8 9 7 tlnc (nI kln)), (tlnc, iA G 63 ftln), (tsp, oX8 120 1 tspc (nI ksp)), (tspc, iA G 120 ftsp), (bb, oX0 bpersons bpapers bstamps bversions blines bsteps bsayings bfindings bwarnings bquestions td vd vl gp), (blines, oX8 72 7 blinesc (nI vkb)), (blinesc, iA G 504 vbl), (bstepsc, iA G 960 vbs), (bversions, oX8 8 3 bversionsc (nI (kbversions + 1))), (bversionsc, iA G 24 f13561)]) hC hK hl hP hD hS hA (c_T_append l G bsteps 960 1 bstepsc vkc (by omega) (by omega)) si_X10_59 [8] [0, 1, 2, 3, 4, 5, 6, 7, 9, 10, 11] sm_8 fm_8 nd_8 sm_0_1_2_3_4_5_6_7_9_10_11 nd_0_1_2_3_4_5_6_7_9_10_11 dj_8__0_1_2_3_4_5_6_7_9_10_11 rfl rfl rfl rfl rfl (Nat.le_of_ble_eq_true rfl) rm_3_1_1 ⟨Nat.le_of_ble_eq_true rfl, Nat.le_of_ble_eq_true rfl⟩ gX10_store_8.2.2.2.2.1 (fun r3571 u3572 H locs hr3571 hP hD hS => ?_)
            refine Kpdr (ws := [(h0, oX10 tby (nI kt) tln tsp tkd ts9 tn9 tf9), (tln, oX8 9 7 tlnc (nI kln)), (tlnc, iA G 63 ftln), (tsp, oX8 120 1 tspc (nI ksp)), (tspc, iA G 120 ftsp), (bb, oX0 bpersons bpapers bstamps bversions blines bsteps bsayings bfindings bwarnings bquestions td vd vl gp), (blines, oX8 72 7 blinesc (nI vkb)), (blinesc, iA G 504 vbl), (bstepsc, iA G 960 vbs), (bversions, oX8 8 3 bversionsc (nI (kbversions + 1))), (bversionsc, iA G 24 f13561), (bsteps, oX8 960 1 bstepsc (nI (vkc + 1)))]) hP hD (fun hP hD => ?_)
            obtain rfl := hr3571
            refine lv_iconst (v := 0) hx hb gX10_store_8.2.2.2.2.2.1 (by decide) ?_
            refine lv_aload_n hx hb gX10_store_8.2.2.2.2.2.2.1 rfl (lv_at3 hl) ?_
            refine gf_X10_24 hC rfl hK hP 0 rfl rfl gX10_store_8.2.2.2.2.2.2.2.1 ?_
            refine lv_iload hx hb gX10_store_8.2.2.2.2.2.2.2.2.1 (lv_at0 hl) ?_
            refine lv_iconst (v := 0) hx hb gX10_store_8.2.2.2.2.2.2.2.2.2 (by decide) ?_
            refine pV hC hK hl hP hD (c_T_at l G tsp (nI kQ) 0 120 1 tspc ksp ftsp (hksp) (by omega) (by omega)) si_X10_74 [3, 4] sm_3_4 fm_3_4 nd_3_4 rfl rfl rfl rfl rfl (Nat.le_of_ble_eq_true rfl) rm_3_1_3 ⟨by first | exact Nat.le_of_ble_eq_true rfl | exact Nat.zero_le _, by first | exact Nat.le_of_ble_eq_true rfl | exact Nat.zero_le _⟩ gX10_store_9.1 (fun r3574 hr3574 => ?_)
            refine vV (wr := [(h0, oX10 tby (nI kt) tln tsp tkd ts9 tn9 tf9), (tln, oX8 9 7 tlnc (nI kln)), (tlnc, iA G 63 ftln), (tsp, oX8 120 1 tspc (nI ksp)), (tspc, iA G 120 ftsp), (bb, oX0 bpersons bpapers bstamps bversions blines bsteps bsayings bfindings bwarnings bquestions td vd vl gp), (blines, oX8 72 7 blinesc (nI vkb)), (blinesc, iA G 504 vbl), (bversions, oX8 8 3 bversionsc (nI (kbversions + 1))), (bversionsc, iA G 24 f13561)]) hC hK hl hP hD hS hA (c_T_set l G bsteps (nI vkc) 0 r3574 960 1 bstepsc (vkc + 1) vbs (by omega) (by omega) (by omega)) si_X10_66 [11, 8] [0, 1, 2, 3, 4, 5, 6, 7, 9, 10] sm_11_8 fm_11_8 nd_11_8 sm_0_1_2_3_4_5_6_7_9_10 nd_0_1_2_3_4_5_6_7_9_10 dj_11_8__0_1_2_3_4_5_6_7_9_10 rfl rfl rfl rfl rfl (Nat.le_of_ble_eq_true rfl) rm_3_1_4 ⟨Nat.le_of_ble_eq_true rfl, Nat.le_of_ble_eq_true rfl⟩ gX10_store_9.2.1 (fun f13578 H locs hr3576 hP hD hS => ?_)
            try dsimp only at hr3576
            refine Kpdr (ws := [(h0, oX10 tby (nI kt) tln tsp tkd ts9 tn9 tf9), (tln, oX8 9 7 tlnc (nI kln)), (tlnc, iA G 63 ftln), (tsp, oX8 120 1 tspc (nI ksp)), (tspc, iA G 120 ftsp), (bb, oX0 bpersons bpapers bstamps bversions blines bsteps bsayings bfindings bwarnings bquestions td vd vl gp), (blines, oX8 72 7 blinesc (nI vkb)), (blinesc, iA G 504 vbl), (bversions, oX8 8 3 bversionsc (nI (kbversions + 1))), (bversionsc, iA G 24 f13561), (bsteps, oX8 960 1 bstepsc (nI (vkc + 1))), (bstepsc, iA G 960 f13578)]) hP hD (fun hP hD => ?_)
            have w3579 := hr3576
            refine lv_iinc (v := nI (kQ + 1)) (lv' := [(4, .int (nI (kQ + 1))), (3, .int (nI kbsteps)), (2, .int (nI kbversions)), (0, .ref h0), (1, .ref bb)]) hx hb gX10_store_9.2.2.1 hl (k := 0) rfl (nI_1 _) (by decide) rfl (fun ls hl => ?_)
            refine lv_goto (tgt := 154) hx hb gX10_store_9.2.2.2.1 (by decide) ?_
            refine Kpds (ws' := [(h0, oX10 tby (nI kt) tln tsp tkd ts9 tn9 tf9), (tln, oX8 9 7 tlnc (nI kln)), (tlnc, iA G 63 ftln), (tsp, oX8 120 1 tspc (nI ksp)), (tspc, iA G 120 ftsp), (bb, oX0 bpersons bpapers bstamps bversions blines bsteps bsayings bfindings bwarnings bquestions td vd vl gp), (blines, oX8 72 7 blinesc (nI vkb)), (blinesc, iA G 504 vbl), (bsteps, oX8 960 1 bstepsc (nI (vkc + 1))), (bstepsc, iA G 960 f13578), (bversions, oX8 8 3 bversionsc (nI (kbversions + 1))), (bversionsc, iA G 24 f13561)]) hP hD [0, 1, 2, 3, 4, 5, 6, 7, 10, 11, 8, 9] fm_0_1_2_3_4_5_6_7_10_11_8_9 nd_0_1_2_3_4_5_6_7_10_11_8_9 sm_0_1_2_3_4_5_6_7_10_11_8_9 (fun hP hD => ?_)
            exact ihQ (kQ + 1) f13578 (vkc + 1) _ _ _ (by omega) (by first | assumption | exact Or.inl rfl | exact Or.inr rfl | omega) (And.intro hP hD) hS (lv_sub hl [0, 1, 2, 3, 4] rfl)
          · refine iV (wr := [(h0, oX10 tby (nI kt) tln tsp tkd ts9 tn9 tf9), (tln, oX8 9 7 tlnc (nI kln)), (tlnc, iA G 63 ftln), (tsp, oX8 120 1 tspc (nI ksp)), (tspc, iA G 120 ftsp), (bb, oX0 bpersons bpapers bstamps bversions blines bsteps bsayings bfindings bwarnings bquestions td vd vl gp), (blines, oX8 72 7 blinesc (nI vkb)), (blinesc, iA G 504 vbl), (bstepsc, iA G 960 vbs), (bversions, oX8 8 3 bversionsc (nI (kbversions + 1))), (bversionsc, iA G 24 f13561)]) hC hK hl hP hD hS hA (c_T_appendF l G bsteps 960 1 bstepsc vkc (by omega) (by omega)) si_X10_59 [8] [0, 1, 2, 3, 4, 5, 6, 7, 9, 10, 11] sm_8 fm_8 nd_8 sm_0_1_2_3_4_5_6_7_9_10_11 nd_0_1_2_3_4_5_6_7_9_10_11 dj_8__0_1_2_3_4_5_6_7_9_10_11 rfl rfl rfl rfl rfl (Nat.le_of_ble_eq_true rfl) rm_3_1_1 ⟨Nat.le_of_ble_eq_true rfl, Nat.le_of_ble_eq_true rfl⟩ gX10_store_8.2.2.2.2.1 (fun r3580 u3581 H locs hr3580 hP hD hS => ?_)
            refine Kpdr (ws := [(h0, oX10 tby (nI kt) tln tsp tkd ts9 tn9 tf9), (tln, oX8 9 7 tlnc (nI kln)), (tlnc, iA G 63 ftln), (tsp, oX8 120 1 tspc (nI ksp)), (tspc, iA G 120 ftsp), (bb, oX0 bpersons bpapers bstamps bversions blines bsteps bsayings bfindings bwarnings bquestions td vd vl gp), (blines, oX8 72 7 blinesc (nI vkb)), (blinesc, iA G 504 vbl), (bstepsc, iA G 960 vbs), (bversions, oX8 8 3 bversionsc (nI (kbversions + 1))), (bversionsc, iA G 24 f13561), (bsteps, oX8 960 1 bstepsc (nI vkc))]) hP hD (fun hP hD => ?_)
            obtain rfl := hr3580
            refine lv_iconst (v := 0) hx hb gX10_store_8.2.2.2.2.2.1 (by decide) ?_
            refine lv_aload_n hx hb gX10_store_8.2.2.2.2.2.2.1 rfl (lv_at3 hl) ?_
            refine gf_X10_24 hC rfl hK hP 0 rfl rfl gX10_store_8.2.2.2.2.2.2.2.1 ?_
            refine lv_iload hx hb gX10_store_8.2.2.2.2.2.2.2.2.1 (lv_at0 hl) ?_
            refine lv_iconst (v := 0) hx hb gX10_store_8.2.2.2.2.2.2.2.2.2 (by decide) ?_
            refine pV hC hK hl hP hD (c_T_at l G tsp (nI kQ) 0 120 1 tspc ksp ftsp (hksp) (by omega) (by omega)) si_X10_74 [3, 4] sm_3_4 fm_3_4 nd_3_4 rfl rfl rfl rfl rfl (Nat.le_of_ble_eq_true rfl) rm_3_1_3 ⟨by first | exact Nat.le_of_ble_eq_true rfl | exact Nat.zero_le _, by first | exact Nat.le_of_ble_eq_true rfl | exact Nat.zero_le _⟩ gX10_store_9.1 (fun r3583 hr3583 => ?_)
            refine vV (wr := [(h0, oX10 tby (nI kt) tln tsp tkd ts9 tn9 tf9), (tln, oX8 9 7 tlnc (nI kln)), (tlnc, iA G 63 ftln), (tsp, oX8 120 1 tspc (nI ksp)), (tspc, iA G 120 ftsp), (bb, oX0 bpersons bpapers bstamps bversions blines bsteps bsayings bfindings bwarnings bquestions td vd vl gp), (blines, oX8 72 7 blinesc (nI vkb)), (blinesc, iA G 504 vbl), (bversions, oX8 8 3 bversionsc (nI (kbversions + 1))), (bversionsc, iA G 24 f13561)]) hC hK hl hP hD hS hA (c_T_set l G bsteps (-2) 0 r3583 960 1 bstepsc vkc vbs (hvkc) (by omega) (by omega)) si_X10_66 [11, 8] [0, 1, 2, 3, 4, 5, 6, 7, 9, 10] sm_11_8 fm_11_8 nd_11_8 sm_0_1_2_3_4_5_6_7_9_10 nd_0_1_2_3_4_5_6_7_9_10 dj_11_8__0_1_2_3_4_5_6_7_9_10 rfl rfl rfl rfl rfl (Nat.le_of_ble_eq_true rfl) rm_3_1_4 ⟨Nat.le_of_ble_eq_true rfl, Nat.le_of_ble_eq_true rfl⟩ gX10_store_9.2.1 (fun f13587 H locs hr3585 hP hD hS => ?_)
            try dsimp only at hr3585
            refine Kpdr (ws := [(h0, oX10 tby (nI kt) tln tsp tkd ts9 tn9 tf9), (tln, oX8 9 7 tlnc (nI kln)), (tlnc, iA G 63 ftln), (tsp, oX8 120 1 tspc (nI ksp)), (tspc, iA G 120 ftsp), (bb, oX0 bpersons bpapers bstamps bversions blines bsteps bsayings bfindings bwarnings bquestions td vd vl gp), (blines, oX8 72 7 blinesc (nI vkb)), (blinesc, iA G 504 vbl), (bversions, oX8 8 3 bversionsc (nI (kbversions + 1))), (bversionsc, iA G 24 f13561), (bsteps, oX8 960 1 bstepsc (nI vkc)), (bstepsc, iA G 960 f13587)]) hP hD (fun hP hD => ?_)
            have w3588 := hr3585
            refine lv_iinc (v := nI (kQ + 1)) (lv' := [(4, .int (nI (kQ + 1))), (3, .int (nI kbsteps)), (2, .int (nI kbversions)), (0, .ref h0), (1, .ref bb)]) hx hb gX10_store_9.2.2.1 hl (k := 0) rfl (nI_1 _) (by decide) rfl (fun ls hl => ?_)
            refine lv_goto (tgt := 154) hx hb gX10_store_9.2.2.2.1 (by decide) ?_
            refine Kpds (ws' := [(h0, oX10 tby (nI kt) tln tsp tkd ts9 tn9 tf9), (tln, oX8 9 7 tlnc (nI kln)), (tlnc, iA G 63 ftln), (tsp, oX8 120 1 tspc (nI ksp)), (tspc, iA G 120 ftsp), (bb, oX0 bpersons bpapers bstamps bversions blines bsteps bsayings bfindings bwarnings bquestions td vd vl gp), (blines, oX8 72 7 blinesc (nI vkb)), (blinesc, iA G 504 vbl), (bsteps, oX8 960 1 bstepsc (nI vkc)), (bstepsc, iA G 960 f13587), (bversions, oX8 8 3 bversionsc (nI (kbversions + 1))), (bversionsc, iA G 24 f13561)]) hP hD [0, 1, 2, 3, 4, 5, 6, 7, 10, 11, 8, 9] fm_0_1_2_3_4_5_6_7_10_11_8_9 nd_0_1_2_3_4_5_6_7_10_11_8_9 sm_0_1_2_3_4_5_6_7_10_11_8_9 (fun hP hD => ?_)
            exact ihQ (kQ + 1) f13587 vkc _ _ _ (by omega) (by first | assumption | exact Or.inl rfl | exact Or.inr rfl | omega) (And.intro hP hD) hS (lv_sub hl [0, 1, 2, 3, 4] rfl)
      exact keyQ ksp 0 fbsteps kbsteps _ _ _ (by omega) (by first | assumption | exact Or.inl rfl | exact Or.inr rfl | omega) (And.intro hP hD) hS (lv_sub hl [0, 1, 2, 3, 4] rfl)
    | succ nP ihP =>
      intro kP vbl vkb H locs ls hkP hvkb hPD hS hl
      refine Kan2 hPD (fun hP hD => ?_)
      refine lv_iload hx hb gX10_store_3.2.2.2.1 (lv_at0 hl) ?_
      refine lv_aload_n hx hb gX10_store_3.2.2.2.2.1 rfl (lv_at3 hl) ?_
      refine gf_X10_20 hC rfl hK hP 0 rfl rfl gX10_store_3.2.2.2.2.2.1 ?_
      refine pV hC hK hl hP hD (c_T_count l G tln 9 7 tlnc kln) si_X10_71 [1] sm_1 fm_1 nd_1 rfl rfl rfl rfl rfl (Nat.le_of_ble_eq_true rfl) rm_3_1_1 ⟨by first | exact Nat.le_of_ble_eq_true rfl | exact Nat.zero_le _, by first | exact Nat.le_of_ble_eq_true rfl | exact Nat.zero_le _⟩ gX10_store_3.2.2.2.2.2.2.1 (Keqr ?_)
      refine lv_icmp_ge (tgt := 151) hx hb gX10_store_3.2.2.2.2.2.2.2.1 (by decide) (fun c9 => absurd c9 (nI_ge (a := kP) (b := kln) (by omega) (by omega))) (fun _ => ?_)
      refine lv_aload_n hx hb gX10_store_3.2.2.2.2.2.2.2.2.1 rfl (lv_at4 hl) ?_
      refine gf_X10_70 hC rfl hK hP 5 rfl rfl gX10_store_3.2.2.2.2.2.2.2.2.2 ?_
      rcases Nat.lt_or_ge vkb 72 with hcap9 | hcap9
      · refine iV (wr := [(h0, oX10 tby (nI kt) tln tsp tkd ts9 tn9 tf9), (tln, oX8 9 7 tlnc (nI kln)), (tlnc, iA G 63 ftln), (tsp, oX8 120 1 tspc (nI ksp)), (tspc, iA G 120 ftsp), (bb, oX0 bpersons bpapers bstamps bversions blines bsteps bsayings bfindings bwarnings bquestions td vd vl gp), (blinesc, iA G 504 vbl), (bsteps, oX8 960 1 bstepsc (nI kbsteps)), (bstepsc, iA G 960 fbsteps), (bversions, oX8 8 3 bversionsc (nI (kbversions + 1))), (bversionsc, iA G 24 f13561)]) hC hK hl hP hD hS hA (c_T_append l G blines 72 7 blinesc vkb (by omega) (by omega)) si_X10_59 [6] [0, 1, 2, 3, 4, 5, 7, 8, 9, 10, 11] sm_6 fm_6 nd_6 sm_0_1_2_3_4_5_7_8_9_10_11 nd_0_1_2_3_4_5_7_8_9_10_11 dj_6__0_1_2_3_4_5_7_8_9_10_11 rfl rfl rfl rfl rfl (Nat.le_of_ble_eq_true rfl) rm_3_1_1 ⟨Nat.le_of_ble_eq_true rfl, Nat.le_of_ble_eq_true rfl⟩ gX10_store_4.1 (fun r3591 u3592 H locs hr3591 hP hD hS => ?_)
        refine Kpdr (ws := [(h0, oX10 tby (nI kt) tln tsp tkd ts9 tn9 tf9), (tln, oX8 9 7 tlnc (nI kln)), (tlnc, iA G 63 ftln), (tsp, oX8 120 1 tspc (nI ksp)), (tspc, iA G 120 ftsp), (bb, oX0 bpersons bpapers bstamps bversions blines bsteps bsayings bfindings bwarnings bquestions td vd vl gp), (blinesc, iA G 504 vbl), (bsteps, oX8 960 1 bstepsc (nI kbsteps)), (bstepsc, iA G 960 fbsteps), (bversions, oX8 8 3 bversionsc (nI (kbversions + 1))), (bversionsc, iA G 24 f13561), (blines, oX8 72 7 blinesc (nI (vkb + 1)))]) hP hD (fun hP hD => ?_)
        obtain rfl := hr3591
        refine lv_istore (lv' := [(5, .int (nI vkb)), (4, .int (nI kP)), (3, .int (nI kbsteps)), (2, .int (nI kbversions)), (0, .ref h0), (1, .ref bb)]) hx hb gX10_store_4.2.1 hl (by decide) rfl (fun ls hl => ?_)
        refine lv_iconst (v := 0) hx hb gX10_store_4.2.2.1 (by decide) ?_
        refine lv_istore (lv' := [(6, .int 0), (5, .int (nI vkb)), (4, .int (nI kP)), (3, .int (nI kbsteps)), (2, .int (nI kbversions)), (0, .ref h0), (1, .ref bb)]) hx hb gX10_store_4.2.2.2.1 hl (by decide) rfl (fun ls hl => ?_)
        refine lv_iload hx hb gX10_store_4.2.2.2.2.1 (lv_at0 hl) ?_
        refine lv_bipush (v := 6) hx hb gX10_store_4.2.2.2.2.2.1 (by decide) ?_
        refine lv_icmp_gt (tgt := 123) hx hb gX10_store_4.2.2.2.2.2.2.1 (by decide) (fun c9 => absurd c9 (by decide)) (fun _ => ?_)
        refine lv_aload_n hx hb gX10_store_4.2.2.2.2.2.2.2.1 rfl (lv_at6 hl) ?_
        refine gf_X10_70 hC rfl hK hP 5 rfl rfl gX10_store_4.2.2.2.2.2.2.2.2.1 ?_
        refine lv_iload hx hb gX10_store_4.2.2.2.2.2.2.2.2.2 (lv_at1 hl) ?_
        refine lv_iload hx hb gX10_store_5.1 (lv_at0 hl) ?_
        refine lv_aload_n hx hb gX10_store_5.2.1 rfl (lv_at5 hl) ?_
        refine gf_X10_20 hC rfl hK hP 0 rfl rfl gX10_store_5.2.2.1 ?_
        refine lv_iload hx hb gX10_store_5.2.2.2.1 (lv_at2 hl) ?_
        refine lv_iload hx hb gX10_store_5.2.2.2.2.1 (lv_at0 hl) ?_
        refine pV hC hK hl hP hD (c_T_at l G tln (nI kP) 0 9 7 tlnc kln ftln (hkln) (by omega) (by omega)) si_X10_74 [1, 2] sm_1_2 fm_1_2 nd_1_2 rfl rfl rfl rfl rfl (Nat.le_of_ble_eq_true rfl) rm_3_1_3 ⟨by first | exact Nat.le_of_ble_eq_true rfl | exact Nat.zero_le _, by first | exact Nat.le_of_ble_eq_true rfl | exact Nat.zero_le _⟩ gX10_store_5.2.2.2.2.2.1 (fun r3594 hr3594 => ?_)
        refine vV (wr := [(h0, oX10 tby (nI kt) tln tsp tkd ts9 tn9 tf9), (tln, oX8 9 7 tlnc (nI kln)), (tlnc, iA G 63 ftln), (tsp, oX8 120 1 tspc (nI ksp)), (tspc, iA G 120 ftsp), (bb, oX0 bpersons bpapers bstamps bversions blines bsteps bsayings bfindings bwarnings bquestions td vd vl gp), (bsteps, oX8 960 1 bstepsc (nI kbsteps)), (bstepsc, iA G 960 fbsteps), (bversions, oX8 8 3 bversionsc (nI (kbversions + 1))), (bversionsc, iA G 24 f13561)]) hC hK hl hP hD hS hA (c_T_set l G blines (nI vkb) 0 r3594 72 7 blinesc (vkb + 1) vbl (by omega) (by omega) (by omega)) si_X10_66 [11, 6] [0, 1, 2, 3, 4, 5, 7, 8, 9, 10] sm_11_6 fm_11_6 nd_11_6 sm_0_1_2_3_4_5_7_8_9_10 nd_0_1_2_3_4_5_7_8_9_10 dj_11_6__0_1_2_3_4_5_7_8_9_10 rfl rfl rfl rfl rfl (Nat.le_of_ble_eq_true rfl) rm_3_1_4 ⟨Nat.le_of_ble_eq_true rfl, Nat.le_of_ble_eq_true rfl⟩ gX10_store_5.2.2.2.2.2.2.1 (fun f13598 H locs hr3596 hP hD hS => ?_)
        try dsimp only at hr3596
        refine Kpdr (ws := [(h0, oX10 tby (nI kt) tln tsp tkd ts9 tn9 tf9), (tln, oX8 9 7 tlnc (nI kln)), (tlnc, iA G 63 ftln), (tsp, oX8 120 1 tspc (nI ksp)), (tspc, iA G 120 ftsp), (bb, oX0 bpersons bpapers bstamps bversions blines bsteps bsayings bfindings bwarnings bquestions td vd vl gp), (bsteps, oX8 960 1 bstepsc (nI kbsteps)), (bstepsc, iA G 960 fbsteps), (bversions, oX8 8 3 bversionsc (nI (kbversions + 1))), (bversionsc, iA G 24 f13561), (blines, oX8 72 7 blinesc (nI (vkb + 1))), (blinesc, iA G 504 f13598)]) hP hD (fun hP hD => ?_)
        have w3599 := hr3596
        refine lv_iinc (v := 1) (lv' := [(6, .int 1), (5, .int (nI vkb)), (4, .int (nI kP)), (3, .int (nI kbsteps)), (2, .int (nI kbversions)), (0, .ref h0), (1, .ref bb)]) hx hb gX10_store_5.2.2.2.2.2.2.2.1 hl (k := 0) rfl (by decide) (by decide) rfl (fun ls hl => ?_)
        refine lv_goto (tgt := 88) hx hb gX10_store_5.2.2.2.2.2.2.2.2.1 (by decide) ?_
        refine lv_iload hx hb gX10_store_4.2.2.2.2.1 (lv_at0 hl) ?_
        refine lv_bipush (v := 6) hx hb gX10_store_4.2.2.2.2.2.1 (by decide) ?_
        refine lv_icmp_gt (tgt := 123) hx hb gX10_store_4.2.2.2.2.2.2.1 (by decide) (fun c9 => absurd c9 (by decide)) (fun _ => ?_)
        refine lv_aload_n hx hb gX10_store_4.2.2.2.2.2.2.2.1 rfl (lv_at6 hl) ?_
        refine gf_X10_70 hC rfl hK hP 5 rfl rfl gX10_store_4.2.2.2.2.2.2.2.2.1 ?_
        refine lv_iload hx hb gX10_store_4.2.2.2.2.2.2.2.2.2 (lv_at1 hl) ?_
        refine lv_iload hx hb gX10_store_5.1 (lv_at0 hl) ?_
        refine lv_aload_n hx hb gX10_store_5.2.1 rfl (lv_at5 hl) ?_
        refine gf_X10_20 hC rfl hK hP 0 rfl rfl gX10_store_5.2.2.1 ?_
        refine lv_iload hx hb gX10_store_5.2.2.2.1 (lv_at2 hl) ?_
        refine lv_iload hx hb gX10_store_5.2.2.2.2.1 (lv_at0 hl) ?_
        refine pV hC hK hl hP hD (c_T_at l G tln (nI kP) 1 9 7 tlnc kln ftln (hkln) (by omega) (by omega)) si_X10_74 [1, 2] sm_1_2 fm_1_2 nd_1_2 rfl rfl rfl rfl rfl (Nat.le_of_ble_eq_true rfl) rm_3_1_3 ⟨by first | exact Nat.le_of_ble_eq_true rfl | exact Nat.zero_le _, by first | exact Nat.le_of_ble_eq_true rfl | exact Nat.zero_le _⟩ gX10_store_5.2.2.2.2.2.1 (fun r3600 hr3600 => ?_)
        refine vV (wr := [(h0, oX10 tby (nI kt) tln tsp tkd ts9 tn9 tf9), (tln, oX8 9 7 tlnc (nI kln)), (tlnc, iA G 63 ftln), (tsp, oX8 120 1 tspc (nI ksp)), (tspc, iA G 120 ftsp), (bb, oX0 bpersons bpapers bstamps bversions blines bsteps bsayings bfindings bwarnings bquestions td vd vl gp), (bsteps, oX8 960 1 bstepsc (nI kbsteps)), (bstepsc, iA G 960 fbsteps), (bversions, oX8 8 3 bversionsc (nI (kbversions + 1))), (bversionsc, iA G 24 f13561)]) hC hK hl hP hD hS hA (c_T_set l G blines (nI vkb) 1 r3600 72 7 blinesc (vkb + 1) f13598 (by omega) (by omega) (by omega)) si_X10_66 [10, 11] [0, 1, 2, 3, 4, 5, 6, 7, 8, 9] sm_10_11 fm_10_11 nd_10_11 sm_0_1_2_3_4_5_6_7_8_9 nd_0_1_2_3_4_5_6_7_8_9 dj_10_11__0_1_2_3_4_5_6_7_8_9 rfl rfl rfl rfl rfl (Nat.le_of_ble_eq_true rfl) rm_3_1_4 ⟨Nat.le_of_ble_eq_true rfl, Nat.le_of_ble_eq_true rfl⟩ gX10_store_5.2.2.2.2.2.2.1 (fun f13604 H locs hr3602 hP hD hS => ?_)
        try dsimp only at hr3602
        refine Kpdr (ws := [(h0, oX10 tby (nI kt) tln tsp tkd ts9 tn9 tf9), (tln, oX8 9 7 tlnc (nI kln)), (tlnc, iA G 63 ftln), (tsp, oX8 120 1 tspc (nI ksp)), (tspc, iA G 120 ftsp), (bb, oX0 bpersons bpapers bstamps bversions blines bsteps bsayings bfindings bwarnings bquestions td vd vl gp), (bsteps, oX8 960 1 bstepsc (nI kbsteps)), (bstepsc, iA G 960 fbsteps), (bversions, oX8 8 3 bversionsc (nI (kbversions + 1))), (bversionsc, iA G 24 f13561), (blines, oX8 72 7 blinesc (nI (vkb + 1))), (blinesc, iA G 504 f13604)]) hP hD (fun hP hD => ?_)
        have w3605 := hr3602
        refine lv_iinc (v := 2) (lv' := [(6, .int 2), (5, .int (nI vkb)), (4, .int (nI kP)), (3, .int (nI kbsteps)), (2, .int (nI kbversions)), (0, .ref h0), (1, .ref bb)]) hx hb gX10_store_5.2.2.2.2.2.2.2.1 hl (k := 0) rfl (by decide) (by decide) rfl (fun ls hl => ?_)
        refine lv_goto (tgt := 88) hx hb gX10_store_5.2.2.2.2.2.2.2.2.1 (by decide) ?_
        refine lv_iload hx hb gX10_store_4.2.2.2.2.1 (lv_at0 hl) ?_
        refine lv_bipush (v := 6) hx hb gX10_store_4.2.2.2.2.2.1 (by decide) ?_
        refine lv_icmp_gt (tgt := 123) hx hb gX10_store_4.2.2.2.2.2.2.1 (by decide) (fun c9 => absurd c9 (by decide)) (fun _ => ?_)
        refine lv_aload_n hx hb gX10_store_4.2.2.2.2.2.2.2.1 rfl (lv_at6 hl) ?_
        refine gf_X10_70 hC rfl hK hP 5 rfl rfl gX10_store_4.2.2.2.2.2.2.2.2.1 ?_
        refine lv_iload hx hb gX10_store_4.2.2.2.2.2.2.2.2.2 (lv_at1 hl) ?_
        refine lv_iload hx hb gX10_store_5.1 (lv_at0 hl) ?_
        refine lv_aload_n hx hb gX10_store_5.2.1 rfl (lv_at5 hl) ?_
        refine gf_X10_20 hC rfl hK hP 0 rfl rfl gX10_store_5.2.2.1 ?_
        refine lv_iload hx hb gX10_store_5.2.2.2.1 (lv_at2 hl) ?_
        refine lv_iload hx hb gX10_store_5.2.2.2.2.1 (lv_at0 hl) ?_
        refine pV hC hK hl hP hD (c_T_at l G tln (nI kP) 2 9 7 tlnc kln ftln (hkln) (by omega) (by omega)) si_X10_74 [1, 2] sm_1_2 fm_1_2 nd_1_2 rfl rfl rfl rfl rfl (Nat.le_of_ble_eq_true rfl) rm_3_1_3 ⟨by first | exact Nat.le_of_ble_eq_true rfl | exact Nat.zero_le _, by first | exact Nat.le_of_ble_eq_true rfl | exact Nat.zero_le _⟩ gX10_store_5.2.2.2.2.2.1 (fun r3606 hr3606 => ?_)
        refine vV (wr := [(h0, oX10 tby (nI kt) tln tsp tkd ts9 tn9 tf9), (tln, oX8 9 7 tlnc (nI kln)), (tlnc, iA G 63 ftln), (tsp, oX8 120 1 tspc (nI ksp)), (tspc, iA G 120 ftsp), (bb, oX0 bpersons bpapers bstamps bversions blines bsteps bsayings bfindings bwarnings bquestions td vd vl gp), (bsteps, oX8 960 1 bstepsc (nI kbsteps)), (bstepsc, iA G 960 fbsteps), (bversions, oX8 8 3 bversionsc (nI (kbversions + 1))), (bversionsc, iA G 24 f13561)]) hC hK hl hP hD hS hA (c_T_set l G blines (nI vkb) 2 r3606 72 7 blinesc (vkb + 1) f13604 (by omega) (by omega) (by omega)) si_X10_66 [10, 11] [0, 1, 2, 3, 4, 5, 6, 7, 8, 9] sm_10_11 fm_10_11 nd_10_11 sm_0_1_2_3_4_5_6_7_8_9 nd_0_1_2_3_4_5_6_7_8_9 dj_10_11__0_1_2_3_4_5_6_7_8_9 rfl rfl rfl rfl rfl (Nat.le_of_ble_eq_true rfl) rm_3_1_4 ⟨Nat.le_of_ble_eq_true rfl, Nat.le_of_ble_eq_true rfl⟩ gX10_store_5.2.2.2.2.2.2.1 (fun f13610 H locs hr3608 hP hD hS => ?_)
        try dsimp only at hr3608
        refine Kpdr (ws := [(h0, oX10 tby (nI kt) tln tsp tkd ts9 tn9 tf9), (tln, oX8 9 7 tlnc (nI kln)), (tlnc, iA G 63 ftln), (tsp, oX8 120 1 tspc (nI ksp)), (tspc, iA G 120 ftsp), (bb, oX0 bpersons bpapers bstamps bversions blines bsteps bsayings bfindings bwarnings bquestions td vd vl gp), (bsteps, oX8 960 1 bstepsc (nI kbsteps)), (bstepsc, iA G 960 fbsteps), (bversions, oX8 8 3 bversionsc (nI (kbversions + 1))), (bversionsc, iA G 24 f13561), (blines, oX8 72 7 blinesc (nI (vkb + 1))), (blinesc, iA G 504 f13610)]) hP hD (fun hP hD => ?_)
        have w3611 := hr3608
        refine lv_iinc (v := 3) (lv' := [(6, .int 3), (5, .int (nI vkb)), (4, .int (nI kP)), (3, .int (nI kbsteps)), (2, .int (nI kbversions)), (0, .ref h0), (1, .ref bb)]) hx hb gX10_store_5.2.2.2.2.2.2.2.1 hl (k := 0) rfl (by decide) (by decide) rfl (fun ls hl => ?_)
        refine lv_goto (tgt := 88) hx hb gX10_store_5.2.2.2.2.2.2.2.2.1 (by decide) ?_
        refine lv_iload hx hb gX10_store_4.2.2.2.2.1 (lv_at0 hl) ?_
        refine lv_bipush (v := 6) hx hb gX10_store_4.2.2.2.2.2.1 (by decide) ?_
        refine lv_icmp_gt (tgt := 123) hx hb gX10_store_4.2.2.2.2.2.2.1 (by decide) (fun c9 => absurd c9 (by decide)) (fun _ => ?_)
        refine lv_aload_n hx hb gX10_store_4.2.2.2.2.2.2.2.1 rfl (lv_at6 hl) ?_
        refine gf_X10_70 hC rfl hK hP 5 rfl rfl gX10_store_4.2.2.2.2.2.2.2.2.1 ?_
        refine lv_iload hx hb gX10_store_4.2.2.2.2.2.2.2.2.2 (lv_at1 hl) ?_
        refine lv_iload hx hb gX10_store_5.1 (lv_at0 hl) ?_
        refine lv_aload_n hx hb gX10_store_5.2.1 rfl (lv_at5 hl) ?_
        refine gf_X10_20 hC rfl hK hP 0 rfl rfl gX10_store_5.2.2.1 ?_
        refine lv_iload hx hb gX10_store_5.2.2.2.1 (lv_at2 hl) ?_
        refine lv_iload hx hb gX10_store_5.2.2.2.2.1 (lv_at0 hl) ?_
        refine pV hC hK hl hP hD (c_T_at l G tln (nI kP) 3 9 7 tlnc kln ftln (hkln) (by omega) (by omega)) si_X10_74 [1, 2] sm_1_2 fm_1_2 nd_1_2 rfl rfl rfl rfl rfl (Nat.le_of_ble_eq_true rfl) rm_3_1_3 ⟨by first | exact Nat.le_of_ble_eq_true rfl | exact Nat.zero_le _, by first | exact Nat.le_of_ble_eq_true rfl | exact Nat.zero_le _⟩ gX10_store_5.2.2.2.2.2.1 (fun r3612 hr3612 => ?_)
        refine vV (wr := [(h0, oX10 tby (nI kt) tln tsp tkd ts9 tn9 tf9), (tln, oX8 9 7 tlnc (nI kln)), (tlnc, iA G 63 ftln), (tsp, oX8 120 1 tspc (nI ksp)), (tspc, iA G 120 ftsp), (bb, oX0 bpersons bpapers bstamps bversions blines bsteps bsayings bfindings bwarnings bquestions td vd vl gp), (bsteps, oX8 960 1 bstepsc (nI kbsteps)), (bstepsc, iA G 960 fbsteps), (bversions, oX8 8 3 bversionsc (nI (kbversions + 1))), (bversionsc, iA G 24 f13561)]) hC hK hl hP hD hS hA (c_T_set l G blines (nI vkb) 3 r3612 72 7 blinesc (vkb + 1) f13610 (by omega) (by omega) (by omega)) si_X10_66 [10, 11] [0, 1, 2, 3, 4, 5, 6, 7, 8, 9] sm_10_11 fm_10_11 nd_10_11 sm_0_1_2_3_4_5_6_7_8_9 nd_0_1_2_3_4_5_6_7_8_9 dj_10_11__0_1_2_3_4_5_6_7_8_9 rfl rfl rfl rfl rfl (Nat.le_of_ble_eq_true rfl) rm_3_1_4 ⟨Nat.le_of_ble_eq_true rfl, Nat.le_of_ble_eq_true rfl⟩ gX10_store_5.2.2.2.2.2.2.1 (fun f13616 H locs hr3614 hP hD hS => ?_)
        try dsimp only at hr3614
        refine Kpdr (ws := [(h0, oX10 tby (nI kt) tln tsp tkd ts9 tn9 tf9), (tln, oX8 9 7 tlnc (nI kln)), (tlnc, iA G 63 ftln), (tsp, oX8 120 1 tspc (nI ksp)), (tspc, iA G 120 ftsp), (bb, oX0 bpersons bpapers bstamps bversions blines bsteps bsayings bfindings bwarnings bquestions td vd vl gp), (bsteps, oX8 960 1 bstepsc (nI kbsteps)), (bstepsc, iA G 960 fbsteps), (bversions, oX8 8 3 bversionsc (nI (kbversions + 1))), (bversionsc, iA G 24 f13561), (blines, oX8 72 7 blinesc (nI (vkb + 1))), (blinesc, iA G 504 f13616)]) hP hD (fun hP hD => ?_)
        have w3617 := hr3614
        refine lv_iinc (v := 4) (lv' := [(6, .int 4), (5, .int (nI vkb)), (4, .int (nI kP)), (3, .int (nI kbsteps)), (2, .int (nI kbversions)), (0, .ref h0), (1, .ref bb)]) hx hb gX10_store_5.2.2.2.2.2.2.2.1 hl (k := 0) rfl (by decide) (by decide) rfl (fun ls hl => ?_)
        refine lv_goto (tgt := 88) hx hb gX10_store_5.2.2.2.2.2.2.2.2.1 (by decide) ?_
        refine lv_iload hx hb gX10_store_4.2.2.2.2.1 (lv_at0 hl) ?_
        refine lv_bipush (v := 6) hx hb gX10_store_4.2.2.2.2.2.1 (by decide) ?_
        refine lv_icmp_gt (tgt := 123) hx hb gX10_store_4.2.2.2.2.2.2.1 (by decide) (fun c9 => absurd c9 (by decide)) (fun _ => ?_)
        refine lv_aload_n hx hb gX10_store_4.2.2.2.2.2.2.2.1 rfl (lv_at6 hl) ?_
        refine gf_X10_70 hC rfl hK hP 5 rfl rfl gX10_store_4.2.2.2.2.2.2.2.2.1 ?_
        refine lv_iload hx hb gX10_store_4.2.2.2.2.2.2.2.2.2 (lv_at1 hl) ?_
        refine lv_iload hx hb gX10_store_5.1 (lv_at0 hl) ?_
        refine lv_aload_n hx hb gX10_store_5.2.1 rfl (lv_at5 hl) ?_
        refine gf_X10_20 hC rfl hK hP 0 rfl rfl gX10_store_5.2.2.1 ?_
        refine lv_iload hx hb gX10_store_5.2.2.2.1 (lv_at2 hl) ?_
        refine lv_iload hx hb gX10_store_5.2.2.2.2.1 (lv_at0 hl) ?_
        refine pV hC hK hl hP hD (c_T_at l G tln (nI kP) 4 9 7 tlnc kln ftln (hkln) (by omega) (by omega)) si_X10_74 [1, 2] sm_1_2 fm_1_2 nd_1_2 rfl rfl rfl rfl rfl (Nat.le_of_ble_eq_true rfl) rm_3_1_3 ⟨by first | exact Nat.le_of_ble_eq_true rfl | exact Nat.zero_le _, by first | exact Nat.le_of_ble_eq_true rfl | exact Nat.zero_le _⟩ gX10_store_5.2.2.2.2.2.1 (fun r3618 hr3618 => ?_)
        refine vV (wr := [(h0, oX10 tby (nI kt) tln tsp tkd ts9 tn9 tf9), (tln, oX8 9 7 tlnc (nI kln)), (tlnc, iA G 63 ftln), (tsp, oX8 120 1 tspc (nI ksp)), (tspc, iA G 120 ftsp), (bb, oX0 bpersons bpapers bstamps bversions blines bsteps bsayings bfindings bwarnings bquestions td vd vl gp), (bsteps, oX8 960 1 bstepsc (nI kbsteps)), (bstepsc, iA G 960 fbsteps), (bversions, oX8 8 3 bversionsc (nI (kbversions + 1))), (bversionsc, iA G 24 f13561)]) hC hK hl hP hD hS hA (c_T_set l G blines (nI vkb) 4 r3618 72 7 blinesc (vkb + 1) f13616 (by omega) (by omega) (by omega)) si_X10_66 [10, 11] [0, 1, 2, 3, 4, 5, 6, 7, 8, 9] sm_10_11 fm_10_11 nd_10_11 sm_0_1_2_3_4_5_6_7_8_9 nd_0_1_2_3_4_5_6_7_8_9 dj_10_11__0_1_2_3_4_5_6_7_8_9 rfl rfl rfl rfl rfl (Nat.le_of_ble_eq_true rfl) rm_3_1_4 ⟨Nat.le_of_ble_eq_true rfl, Nat.le_of_ble_eq_true rfl⟩ gX10_store_5.2.2.2.2.2.2.1 (fun f13622 H locs hr3620 hP hD hS => ?_)
        try dsimp only at hr3620
        refine Kpdr (ws := [(h0, oX10 tby (nI kt) tln tsp tkd ts9 tn9 tf9), (tln, oX8 9 7 tlnc (nI kln)), (tlnc, iA G 63 ftln), (tsp, oX8 120 1 tspc (nI ksp)), (tspc, iA G 120 ftsp), (bb, oX0 bpersons bpapers bstamps bversions blines bsteps bsayings bfindings bwarnings bquestions td vd vl gp), (bsteps, oX8 960 1 bstepsc (nI kbsteps)), (bstepsc, iA G 960 fbsteps), (bversions, oX8 8 3 bversionsc (nI (kbversions + 1))), (bversionsc, iA G 24 f13561), (blines, oX8 72 7 blinesc (nI (vkb + 1))), (blinesc, iA G 504 f13622)]) hP hD (fun hP hD => ?_)
        have w3623 := hr3620
        refine lv_iinc (v := 5) (lv' := [(6, .int 5), (5, .int (nI vkb)), (4, .int (nI kP)), (3, .int (nI kbsteps)), (2, .int (nI kbversions)), (0, .ref h0), (1, .ref bb)]) hx hb gX10_store_5.2.2.2.2.2.2.2.1 hl (k := 0) rfl (by decide) (by decide) rfl (fun ls hl => ?_)
        refine lv_goto (tgt := 88) hx hb gX10_store_5.2.2.2.2.2.2.2.2.1 (by decide) ?_
        refine lv_iload hx hb gX10_store_4.2.2.2.2.1 (lv_at0 hl) ?_
        refine lv_bipush (v := 6) hx hb gX10_store_4.2.2.2.2.2.1 (by decide) ?_
        refine lv_icmp_gt (tgt := 123) hx hb gX10_store_4.2.2.2.2.2.2.1 (by decide) (fun c9 => absurd c9 (by decide)) (fun _ => ?_)
        refine lv_aload_n hx hb gX10_store_4.2.2.2.2.2.2.2.1 rfl (lv_at6 hl) ?_
        refine gf_X10_70 hC rfl hK hP 5 rfl rfl gX10_store_4.2.2.2.2.2.2.2.2.1 ?_
        refine lv_iload hx hb gX10_store_4.2.2.2.2.2.2.2.2.2 (lv_at1 hl) ?_
        refine lv_iload hx hb gX10_store_5.1 (lv_at0 hl) ?_
        refine lv_aload_n hx hb gX10_store_5.2.1 rfl (lv_at5 hl) ?_
        refine gf_X10_20 hC rfl hK hP 0 rfl rfl gX10_store_5.2.2.1 ?_
        refine lv_iload hx hb gX10_store_5.2.2.2.1 (lv_at2 hl) ?_
        refine lv_iload hx hb gX10_store_5.2.2.2.2.1 (lv_at0 hl) ?_
        refine pV hC hK hl hP hD (c_T_at l G tln (nI kP) 5 9 7 tlnc kln ftln (hkln) (by omega) (by omega)) si_X10_74 [1, 2] sm_1_2 fm_1_2 nd_1_2 rfl rfl rfl rfl rfl (Nat.le_of_ble_eq_true rfl) rm_3_1_3 ⟨by first | exact Nat.le_of_ble_eq_true rfl | exact Nat.zero_le _, by first | exact Nat.le_of_ble_eq_true rfl | exact Nat.zero_le _⟩ gX10_store_5.2.2.2.2.2.1 (fun r3624 hr3624 => ?_)
        refine vV (wr := [(h0, oX10 tby (nI kt) tln tsp tkd ts9 tn9 tf9), (tln, oX8 9 7 tlnc (nI kln)), (tlnc, iA G 63 ftln), (tsp, oX8 120 1 tspc (nI ksp)), (tspc, iA G 120 ftsp), (bb, oX0 bpersons bpapers bstamps bversions blines bsteps bsayings bfindings bwarnings bquestions td vd vl gp), (bsteps, oX8 960 1 bstepsc (nI kbsteps)), (bstepsc, iA G 960 fbsteps), (bversions, oX8 8 3 bversionsc (nI (kbversions + 1))), (bversionsc, iA G 24 f13561)]) hC hK hl hP hD hS hA (c_T_set l G blines (nI vkb) 5 r3624 72 7 blinesc (vkb + 1) f13622 (by omega) (by omega) (by omega)) si_X10_66 [10, 11] [0, 1, 2, 3, 4, 5, 6, 7, 8, 9] sm_10_11 fm_10_11 nd_10_11 sm_0_1_2_3_4_5_6_7_8_9 nd_0_1_2_3_4_5_6_7_8_9 dj_10_11__0_1_2_3_4_5_6_7_8_9 rfl rfl rfl rfl rfl (Nat.le_of_ble_eq_true rfl) rm_3_1_4 ⟨Nat.le_of_ble_eq_true rfl, Nat.le_of_ble_eq_true rfl⟩ gX10_store_5.2.2.2.2.2.2.1 (fun f13628 H locs hr3626 hP hD hS => ?_)
        try dsimp only at hr3626
        refine Kpdr (ws := [(h0, oX10 tby (nI kt) tln tsp tkd ts9 tn9 tf9), (tln, oX8 9 7 tlnc (nI kln)), (tlnc, iA G 63 ftln), (tsp, oX8 120 1 tspc (nI ksp)), (tspc, iA G 120 ftsp), (bb, oX0 bpersons bpapers bstamps bversions blines bsteps bsayings bfindings bwarnings bquestions td vd vl gp), (bsteps, oX8 960 1 bstepsc (nI kbsteps)), (bstepsc, iA G 960 fbsteps), (bversions, oX8 8 3 bversionsc (nI (kbversions + 1))), (bversionsc, iA G 24 f13561), (blines, oX8 72 7 blinesc (nI (vkb + 1))), (blinesc, iA G 504 f13628)]) hP hD (fun hP hD => ?_)
        have w3629 := hr3626
        refine lv_iinc (v := 6) (lv' := [(6, .int 6), (5, .int (nI vkb)), (4, .int (nI kP)), (3, .int (nI kbsteps)), (2, .int (nI kbversions)), (0, .ref h0), (1, .ref bb)]) hx hb gX10_store_5.2.2.2.2.2.2.2.1 hl (k := 0) rfl (by decide) (by decide) rfl (fun ls hl => ?_)
        refine lv_goto (tgt := 88) hx hb gX10_store_5.2.2.2.2.2.2.2.2.1 (by decide) ?_
        refine lv_iload hx hb gX10_store_4.2.2.2.2.1 (lv_at0 hl) ?_
        refine lv_bipush (v := 6) hx hb gX10_store_4.2.2.2.2.2.1 (by decide) ?_
        refine lv_icmp_gt (tgt := 123) hx hb gX10_store_4.2.2.2.2.2.2.1 (by decide) (fun c9 => absurd c9 (by decide)) (fun _ => ?_)
        refine lv_aload_n hx hb gX10_store_4.2.2.2.2.2.2.2.1 rfl (lv_at6 hl) ?_
        refine gf_X10_70 hC rfl hK hP 5 rfl rfl gX10_store_4.2.2.2.2.2.2.2.2.1 ?_
        refine lv_iload hx hb gX10_store_4.2.2.2.2.2.2.2.2.2 (lv_at1 hl) ?_
        refine lv_iload hx hb gX10_store_5.1 (lv_at0 hl) ?_
        refine lv_aload_n hx hb gX10_store_5.2.1 rfl (lv_at5 hl) ?_
        refine gf_X10_20 hC rfl hK hP 0 rfl rfl gX10_store_5.2.2.1 ?_
        refine lv_iload hx hb gX10_store_5.2.2.2.1 (lv_at2 hl) ?_
        refine lv_iload hx hb gX10_store_5.2.2.2.2.1 (lv_at0 hl) ?_
        refine pV hC hK hl hP hD (c_T_at l G tln (nI kP) 6 9 7 tlnc kln ftln (hkln) (by omega) (by omega)) si_X10_74 [1, 2] sm_1_2 fm_1_2 nd_1_2 rfl rfl rfl rfl rfl (Nat.le_of_ble_eq_true rfl) rm_3_1_3 ⟨by first | exact Nat.le_of_ble_eq_true rfl | exact Nat.zero_le _, by first | exact Nat.le_of_ble_eq_true rfl | exact Nat.zero_le _⟩ gX10_store_5.2.2.2.2.2.1 (fun r3630 hr3630 => ?_)
        refine vV (wr := [(h0, oX10 tby (nI kt) tln tsp tkd ts9 tn9 tf9), (tln, oX8 9 7 tlnc (nI kln)), (tlnc, iA G 63 ftln), (tsp, oX8 120 1 tspc (nI ksp)), (tspc, iA G 120 ftsp), (bb, oX0 bpersons bpapers bstamps bversions blines bsteps bsayings bfindings bwarnings bquestions td vd vl gp), (bsteps, oX8 960 1 bstepsc (nI kbsteps)), (bstepsc, iA G 960 fbsteps), (bversions, oX8 8 3 bversionsc (nI (kbversions + 1))), (bversionsc, iA G 24 f13561)]) hC hK hl hP hD hS hA (c_T_set l G blines (nI vkb) 6 r3630 72 7 blinesc (vkb + 1) f13628 (by omega) (by omega) (by omega)) si_X10_66 [10, 11] [0, 1, 2, 3, 4, 5, 6, 7, 8, 9] sm_10_11 fm_10_11 nd_10_11 sm_0_1_2_3_4_5_6_7_8_9 nd_0_1_2_3_4_5_6_7_8_9 dj_10_11__0_1_2_3_4_5_6_7_8_9 rfl rfl rfl rfl rfl (Nat.le_of_ble_eq_true rfl) rm_3_1_4 ⟨Nat.le_of_ble_eq_true rfl, Nat.le_of_ble_eq_true rfl⟩ gX10_store_5.2.2.2.2.2.2.1 (fun f13634 H locs hr3632 hP hD hS => ?_)
        try dsimp only at hr3632
        refine Kpdr (ws := [(h0, oX10 tby (nI kt) tln tsp tkd ts9 tn9 tf9), (tln, oX8 9 7 tlnc (nI kln)), (tlnc, iA G 63 ftln), (tsp, oX8 120 1 tspc (nI ksp)), (tspc, iA G 120 ftsp), (bb, oX0 bpersons bpapers bstamps bversions blines bsteps bsayings bfindings bwarnings bquestions td vd vl gp), (bsteps, oX8 960 1 bstepsc (nI kbsteps)), (bstepsc, iA G 960 fbsteps), (bversions, oX8 8 3 bversionsc (nI (kbversions + 1))), (bversionsc, iA G 24 f13561), (blines, oX8 72 7 blinesc (nI (vkb + 1))), (blinesc, iA G 504 f13634)]) hP hD (fun hP hD => ?_)
        have w3635 := hr3632
        refine lv_iinc (v := 7) (lv' := [(6, .int 7), (5, .int (nI vkb)), (4, .int (nI kP)), (3, .int (nI kbsteps)), (2, .int (nI kbversions)), (0, .ref h0), (1, .ref bb)]) hx hb gX10_store_5.2.2.2.2.2.2.2.1 hl (k := 0) rfl (by decide) (by decide) rfl (fun ls hl => ?_)
        refine lv_goto (tgt := 88) hx hb gX10_store_5.2.2.2.2.2.2.2.2.1 (by decide) ?_
        refine lv_iload hx hb gX10_store_4.2.2.2.2.1 (lv_at0 hl) ?_
        refine lv_bipush (v := 6) hx hb gX10_store_4.2.2.2.2.2.1 (by decide) ?_
        refine lv_icmp_gt (tgt := 123) hx hb gX10_store_4.2.2.2.2.2.2.1 (by decide) (fun _ => ?_) (fun c9 => absurd (by decide) c9)
        refine lv_aload_n hx hb gX10_store_5.2.2.2.2.2.2.2.2.2 rfl (lv_at6 hl) ?_
        refine gf_X10_70 hC rfl hK hP 5 rfl rfl gX10_store_6.1 ?_
        refine lv_iload hx hb gX10_store_6.2.1 (lv_at1 hl) ?_
        refine lv_iconst (v := 5) hx hb gX10_store_6.2.2.1 (by decide) ?_
        refine lv_aload_n hx hb gX10_store_6.2.2.2.1 rfl (lv_at5 hl) ?_
        refine gf_X10_20 hC rfl hK hP 0 rfl rfl gX10_store_6.2.2.2.2.1 ?_
        refine lv_iload hx hb gX10_store_6.2.2.2.2.2.1 (lv_at2 hl) ?_
        refine lv_iconst (v := 5) hx hb gX10_store_6.2.2.2.2.2.2.1 (by decide) ?_
        refine pV hC hK hl hP hD (c_T_at l G tln (nI kP) 5 9 7 tlnc kln ftln (hkln) (by omega) (by omega)) si_X10_74 [1, 2] sm_1_2 fm_1_2 nd_1_2 rfl rfl rfl rfl rfl (Nat.le_of_ble_eq_true rfl) rm_3_1_3 ⟨by first | exact Nat.le_of_ble_eq_true rfl | exact Nat.zero_le _, by first | exact Nat.le_of_ble_eq_true rfl | exact Nat.zero_le _⟩ gX10_store_6.2.2.2.2.2.2.2.1 (fun r3636 hr3636 => ?_)
        refine lv_iload_n hx hb gX10_store_6.2.2.2.2.2.2.2.2.1 rfl (lv_at3 hl) ?_
        refine lv_iadd hx hb gX10_store_6.2.2.2.2.2.2.2.2.2 ?_
        refine vV (wr := [(h0, oX10 tby (nI kt) tln tsp tkd ts9 tn9 tf9), (tln, oX8 9 7 tlnc (nI kln)), (tlnc, iA G 63 ftln), (tsp, oX8 120 1 tspc (nI ksp)), (tspc, iA G 120 ftsp), (bb, oX0 bpersons bpapers bstamps bversions blines bsteps bsayings bfindings bwarnings bquestions td vd vl gp), (bsteps, oX8 960 1 bstepsc (nI kbsteps)), (bstepsc, iA G 960 fbsteps), (bversions, oX8 8 3 bversionsc (nI (kbversions + 1))), (bversionsc, iA G 24 f13561)]) hC hK hl hP hD hS hA (c_T_set l G blines (nI vkb) 5 (r3636 + (nI kbsteps)) 72 7 blinesc (vkb + 1) f13634 (by omega) (by omega) (by omega)) si_X10_66 [10, 11] [0, 1, 2, 3, 4, 5, 6, 7, 8, 9] sm_10_11 fm_10_11 nd_10_11 sm_0_1_2_3_4_5_6_7_8_9 nd_0_1_2_3_4_5_6_7_8_9 dj_10_11__0_1_2_3_4_5_6_7_8_9 rfl rfl rfl rfl rfl (Nat.le_of_ble_eq_true rfl) rm_3_1_4 ⟨Nat.le_of_ble_eq_true rfl, Nat.le_of_ble_eq_true rfl⟩ gX10_store_7.1 (fun f13640 H locs hr3638 hP hD hS => ?_)
        try dsimp only at hr3638
        refine Kpdr (ws := [(h0, oX10 tby (nI kt) tln tsp tkd ts9 tn9 tf9), (tln, oX8 9 7 tlnc (nI kln)), (tlnc, iA G 63 ftln), (tsp, oX8 120 1 tspc (nI ksp)), (tspc, iA G 120 ftsp), (bb, oX0 bpersons bpapers bstamps bversions blines bsteps bsayings bfindings bwarnings bquestions td vd vl gp), (bsteps, oX8 960 1 bstepsc (nI kbsteps)), (bstepsc, iA G 960 fbsteps), (bversions, oX8 8 3 bversionsc (nI (kbversions + 1))), (bversionsc, iA G 24 f13561), (blines, oX8 72 7 blinesc (nI (vkb + 1))), (blinesc, iA G 504 f13640)]) hP hD (fun hP hD => ?_)
        have w3641 := hr3638
        refine lv_iinc (v := nI (kP + 1)) (lv' := [(4, .int (nI (kP + 1))), (6, .int 7), (5, .int (nI vkb)), (3, .int (nI kbsteps)), (2, .int (nI kbversions)), (0, .ref h0), (1, .ref bb)]) hx hb gX10_store_7.2.1 hl (k := 2) rfl (nI_1 _) (by decide) rfl (fun ls hl => ?_)
        refine lv_goto (tgt := 64) hx hb gX10_store_7.2.2.1 (by decide) ?_
        refine Kpds (ws' := [(h0, oX10 tby (nI kt) tln tsp tkd ts9 tn9 tf9), (tln, oX8 9 7 tlnc (nI kln)), (tlnc, iA G 63 ftln), (tsp, oX8 120 1 tspc (nI ksp)), (tspc, iA G 120 ftsp), (bb, oX0 bpersons bpapers bstamps bversions blines bsteps bsayings bfindings bwarnings bquestions td vd vl gp), (blines, oX8 72 7 blinesc (nI (vkb + 1))), (blinesc, iA G 504 f13640), (bsteps, oX8 960 1 bstepsc (nI kbsteps)), (bstepsc, iA G 960 fbsteps), (bversions, oX8 8 3 bversionsc (nI (kbversions + 1))), (bversionsc, iA G 24 f13561)]) hP hD [0, 1, 2, 3, 4, 5, 10, 11, 6, 7, 8, 9] fm_0_1_2_3_4_5_10_11_6_7_8_9 nd_0_1_2_3_4_5_10_11_6_7_8_9 sm_0_1_2_3_4_5_10_11_6_7_8_9 (fun hP hD => ?_)
        exact ihP (kP + 1) f13640 (vkb + 1) _ _ _ (by omega) (by first | assumption | exact Or.inl rfl | exact Or.inr rfl | omega) (And.intro hP hD) hS (lv_sub hl [0, 3, 4, 5, 6] rfl)
      · refine iV (wr := [(h0, oX10 tby (nI kt) tln tsp tkd ts9 tn9 tf9), (tln, oX8 9 7 tlnc (nI kln)), (tlnc, iA G 63 ftln), (tsp, oX8 120 1 tspc (nI ksp)), (tspc, iA G 120 ftsp), (bb, oX0 bpersons bpapers bstamps bversions blines bsteps bsayings bfindings bwarnings bquestions td vd vl gp), (blinesc, iA G 504 vbl), (bsteps, oX8 960 1 bstepsc (nI kbsteps)), (bstepsc, iA G 960 fbsteps), (bversions, oX8 8 3 bversionsc (nI (kbversions + 1))), (bversionsc, iA G 24 f13561)]) hC hK hl hP hD hS hA (c_T_appendF l G blines 72 7 blinesc vkb (by omega) (by omega)) si_X10_59 [6] [0, 1, 2, 3, 4, 5, 7, 8, 9, 10, 11] sm_6 fm_6 nd_6 sm_0_1_2_3_4_5_7_8_9_10_11 nd_0_1_2_3_4_5_7_8_9_10_11 dj_6__0_1_2_3_4_5_7_8_9_10_11 rfl rfl rfl rfl rfl (Nat.le_of_ble_eq_true rfl) rm_3_1_1 ⟨Nat.le_of_ble_eq_true rfl, Nat.le_of_ble_eq_true rfl⟩ gX10_store_4.1 (fun r3642 u3643 H locs hr3642 hP hD hS => ?_)
        refine Kpdr (ws := [(h0, oX10 tby (nI kt) tln tsp tkd ts9 tn9 tf9), (tln, oX8 9 7 tlnc (nI kln)), (tlnc, iA G 63 ftln), (tsp, oX8 120 1 tspc (nI ksp)), (tspc, iA G 120 ftsp), (bb, oX0 bpersons bpapers bstamps bversions blines bsteps bsayings bfindings bwarnings bquestions td vd vl gp), (blinesc, iA G 504 vbl), (bsteps, oX8 960 1 bstepsc (nI kbsteps)), (bstepsc, iA G 960 fbsteps), (bversions, oX8 8 3 bversionsc (nI (kbversions + 1))), (bversionsc, iA G 24 f13561), (blines, oX8 72 7 blinesc (nI vkb))]) hP hD (fun hP hD => ?_)
        obtain rfl := hr3642
        refine lv_istore (lv' := [(5, .int (-2)), (4, .int (nI kP)), (3, .int (nI kbsteps)), (2, .int (nI kbversions)), (0, .ref h0), (1, .ref bb)]) hx hb gX10_store_4.2.1 hl (by decide) rfl (fun ls hl => ?_)
        refine lv_iconst (v := 0) hx hb gX10_store_4.2.2.1 (by decide) ?_
        refine lv_istore (lv' := [(6, .int 0), (5, .int (-2)), (4, .int (nI kP)), (3, .int (nI kbsteps)), (2, .int (nI kbversions)), (0, .ref h0), (1, .ref bb)]) hx hb gX10_store_4.2.2.2.1 hl (by decide) rfl (fun ls hl => ?_)
        refine lv_iload hx hb gX10_store_4.2.2.2.2.1 (lv_at0 hl) ?_
        refine lv_bipush (v := 6) hx hb gX10_store_4.2.2.2.2.2.1 (by decide) ?_
        refine lv_icmp_gt (tgt := 123) hx hb gX10_store_4.2.2.2.2.2.2.1 (by decide) (fun c9 => absurd c9 (by decide)) (fun _ => ?_)
        refine lv_aload_n hx hb gX10_store_4.2.2.2.2.2.2.2.1 rfl (lv_at6 hl) ?_
        refine gf_X10_70 hC rfl hK hP 5 rfl rfl gX10_store_4.2.2.2.2.2.2.2.2.1 ?_
        refine lv_iload hx hb gX10_store_4.2.2.2.2.2.2.2.2.2 (lv_at1 hl) ?_
        refine lv_iload hx hb gX10_store_5.1 (lv_at0 hl) ?_
        refine lv_aload_n hx hb gX10_store_5.2.1 rfl (lv_at5 hl) ?_
        refine gf_X10_20 hC rfl hK hP 0 rfl rfl gX10_store_5.2.2.1 ?_
        refine lv_iload hx hb gX10_store_5.2.2.2.1 (lv_at2 hl) ?_
        refine lv_iload hx hb gX10_store_5.2.2.2.2.1 (lv_at0 hl) ?_
        refine pV hC hK hl hP hD (c_T_at l G tln (nI kP) 0 9 7 tlnc kln ftln (hkln) (by omega) (by omega)) si_X10_74 [1, 2] sm_1_2 fm_1_2 nd_1_2 rfl rfl rfl rfl rfl (Nat.le_of_ble_eq_true rfl) rm_3_1_3 ⟨by first | exact Nat.le_of_ble_eq_true rfl | exact Nat.zero_le _, by first | exact Nat.le_of_ble_eq_true rfl | exact Nat.zero_le _⟩ gX10_store_5.2.2.2.2.2.1 (fun r3645 hr3645 => ?_)
        refine vV (wr := [(h0, oX10 tby (nI kt) tln tsp tkd ts9 tn9 tf9), (tln, oX8 9 7 tlnc (nI kln)), (tlnc, iA G 63 ftln), (tsp, oX8 120 1 tspc (nI ksp)), (tspc, iA G 120 ftsp), (bb, oX0 bpersons bpapers bstamps bversions blines bsteps bsayings bfindings bwarnings bquestions td vd vl gp), (bsteps, oX8 960 1 bstepsc (nI kbsteps)), (bstepsc, iA G 960 fbsteps), (bversions, oX8 8 3 bversionsc (nI (kbversions + 1))), (bversionsc, iA G 24 f13561)]) hC hK hl hP hD hS hA (c_T_set l G blines (-2) 0 r3645 72 7 blinesc vkb vbl (hvkb) (by omega) (by omega)) si_X10_66 [11, 6] [0, 1, 2, 3, 4, 5, 7, 8, 9, 10] sm_11_6 fm_11_6 nd_11_6 sm_0_1_2_3_4_5_7_8_9_10 nd_0_1_2_3_4_5_7_8_9_10 dj_11_6__0_1_2_3_4_5_7_8_9_10 rfl rfl rfl rfl rfl (Nat.le_of_ble_eq_true rfl) rm_3_1_4 ⟨Nat.le_of_ble_eq_true rfl, Nat.le_of_ble_eq_true rfl⟩ gX10_store_5.2.2.2.2.2.2.1 (fun f13649 H locs hr3647 hP hD hS => ?_)
        try dsimp only at hr3647
        refine Kpdr (ws := [(h0, oX10 tby (nI kt) tln tsp tkd ts9 tn9 tf9), (tln, oX8 9 7 tlnc (nI kln)), (tlnc, iA G 63 ftln), (tsp, oX8 120 1 tspc (nI ksp)), (tspc, iA G 120 ftsp), (bb, oX0 bpersons bpapers bstamps bversions blines bsteps bsayings bfindings bwarnings bquestions td vd vl gp), (bsteps, oX8 960 1 bstepsc (nI kbsteps)), (bstepsc, iA G 960 fbsteps), (bversions, oX8 8 3 bversionsc (nI (kbversions + 1))), (bversionsc, iA G 24 f13561), (blines, oX8 72 7 blinesc (nI vkb)), (blinesc, iA G 504 f13649)]) hP hD (fun hP hD => ?_)
        have w3650 := hr3647
        refine lv_iinc (v := 1) (lv' := [(6, .int 1), (5, .int (-2)), (4, .int (nI kP)), (3, .int (nI kbsteps)), (2, .int (nI kbversions)), (0, .ref h0), (1, .ref bb)]) hx hb gX10_store_5.2.2.2.2.2.2.2.1 hl (k := 0) rfl (by decide) (by decide) rfl (fun ls hl => ?_)
        refine lv_goto (tgt := 88) hx hb gX10_store_5.2.2.2.2.2.2.2.2.1 (by decide) ?_
        refine lv_iload hx hb gX10_store_4.2.2.2.2.1 (lv_at0 hl) ?_
        refine lv_bipush (v := 6) hx hb gX10_store_4.2.2.2.2.2.1 (by decide) ?_
        refine lv_icmp_gt (tgt := 123) hx hb gX10_store_4.2.2.2.2.2.2.1 (by decide) (fun c9 => absurd c9 (by decide)) (fun _ => ?_)
        refine lv_aload_n hx hb gX10_store_4.2.2.2.2.2.2.2.1 rfl (lv_at6 hl) ?_
        refine gf_X10_70 hC rfl hK hP 5 rfl rfl gX10_store_4.2.2.2.2.2.2.2.2.1 ?_
        refine lv_iload hx hb gX10_store_4.2.2.2.2.2.2.2.2.2 (lv_at1 hl) ?_
        refine lv_iload hx hb gX10_store_5.1 (lv_at0 hl) ?_
        refine lv_aload_n hx hb gX10_store_5.2.1 rfl (lv_at5 hl) ?_
        refine gf_X10_20 hC rfl hK hP 0 rfl rfl gX10_store_5.2.2.1 ?_
        refine lv_iload hx hb gX10_store_5.2.2.2.1 (lv_at2 hl) ?_
        refine lv_iload hx hb gX10_store_5.2.2.2.2.1 (lv_at0 hl) ?_
        refine pV hC hK hl hP hD (c_T_at l G tln (nI kP) 1 9 7 tlnc kln ftln (hkln) (by omega) (by omega)) si_X10_74 [1, 2] sm_1_2 fm_1_2 nd_1_2 rfl rfl rfl rfl rfl (Nat.le_of_ble_eq_true rfl) rm_3_1_3 ⟨by first | exact Nat.le_of_ble_eq_true rfl | exact Nat.zero_le _, by first | exact Nat.le_of_ble_eq_true rfl | exact Nat.zero_le _⟩ gX10_store_5.2.2.2.2.2.1 (fun r3651 hr3651 => ?_)
        refine vV (wr := [(h0, oX10 tby (nI kt) tln tsp tkd ts9 tn9 tf9), (tln, oX8 9 7 tlnc (nI kln)), (tlnc, iA G 63 ftln), (tsp, oX8 120 1 tspc (nI ksp)), (tspc, iA G 120 ftsp), (bb, oX0 bpersons bpapers bstamps bversions blines bsteps bsayings bfindings bwarnings bquestions td vd vl gp), (bsteps, oX8 960 1 bstepsc (nI kbsteps)), (bstepsc, iA G 960 fbsteps), (bversions, oX8 8 3 bversionsc (nI (kbversions + 1))), (bversionsc, iA G 24 f13561)]) hC hK hl hP hD hS hA (c_T_set l G blines (-2) 1 r3651 72 7 blinesc vkb f13649 (hvkb) (by omega) (by omega)) si_X10_66 [10, 11] [0, 1, 2, 3, 4, 5, 6, 7, 8, 9] sm_10_11 fm_10_11 nd_10_11 sm_0_1_2_3_4_5_6_7_8_9 nd_0_1_2_3_4_5_6_7_8_9 dj_10_11__0_1_2_3_4_5_6_7_8_9 rfl rfl rfl rfl rfl (Nat.le_of_ble_eq_true rfl) rm_3_1_4 ⟨Nat.le_of_ble_eq_true rfl, Nat.le_of_ble_eq_true rfl⟩ gX10_store_5.2.2.2.2.2.2.1 (fun f13655 H locs hr3653 hP hD hS => ?_)
        try dsimp only at hr3653
        refine Kpdr (ws := [(h0, oX10 tby (nI kt) tln tsp tkd ts9 tn9 tf9), (tln, oX8 9 7 tlnc (nI kln)), (tlnc, iA G 63 ftln), (tsp, oX8 120 1 tspc (nI ksp)), (tspc, iA G 120 ftsp), (bb, oX0 bpersons bpapers bstamps bversions blines bsteps bsayings bfindings bwarnings bquestions td vd vl gp), (bsteps, oX8 960 1 bstepsc (nI kbsteps)), (bstepsc, iA G 960 fbsteps), (bversions, oX8 8 3 bversionsc (nI (kbversions + 1))), (bversionsc, iA G 24 f13561), (blines, oX8 72 7 blinesc (nI vkb)), (blinesc, iA G 504 f13655)]) hP hD (fun hP hD => ?_)
        have w3656 := hr3653
        refine lv_iinc (v := 2) (lv' := [(6, .int 2), (5, .int (-2)), (4, .int (nI kP)), (3, .int (nI kbsteps)), (2, .int (nI kbversions)), (0, .ref h0), (1, .ref bb)]) hx hb gX10_store_5.2.2.2.2.2.2.2.1 hl (k := 0) rfl (by decide) (by decide) rfl (fun ls hl => ?_)
        refine lv_goto (tgt := 88) hx hb gX10_store_5.2.2.2.2.2.2.2.2.1 (by decide) ?_
        refine lv_iload hx hb gX10_store_4.2.2.2.2.1 (lv_at0 hl) ?_
        refine lv_bipush (v := 6) hx hb gX10_store_4.2.2.2.2.2.1 (by decide) ?_
        refine lv_icmp_gt (tgt := 123) hx hb gX10_store_4.2.2.2.2.2.2.1 (by decide) (fun c9 => absurd c9 (by decide)) (fun _ => ?_)
        refine lv_aload_n hx hb gX10_store_4.2.2.2.2.2.2.2.1 rfl (lv_at6 hl) ?_
        refine gf_X10_70 hC rfl hK hP 5 rfl rfl gX10_store_4.2.2.2.2.2.2.2.2.1 ?_
        refine lv_iload hx hb gX10_store_4.2.2.2.2.2.2.2.2.2 (lv_at1 hl) ?_
        refine lv_iload hx hb gX10_store_5.1 (lv_at0 hl) ?_
        refine lv_aload_n hx hb gX10_store_5.2.1 rfl (lv_at5 hl) ?_
        refine gf_X10_20 hC rfl hK hP 0 rfl rfl gX10_store_5.2.2.1 ?_
        refine lv_iload hx hb gX10_store_5.2.2.2.1 (lv_at2 hl) ?_
        refine lv_iload hx hb gX10_store_5.2.2.2.2.1 (lv_at0 hl) ?_
        refine pV hC hK hl hP hD (c_T_at l G tln (nI kP) 2 9 7 tlnc kln ftln (hkln) (by omega) (by omega)) si_X10_74 [1, 2] sm_1_2 fm_1_2 nd_1_2 rfl rfl rfl rfl rfl (Nat.le_of_ble_eq_true rfl) rm_3_1_3 ⟨by first | exact Nat.le_of_ble_eq_true rfl | exact Nat.zero_le _, by first | exact Nat.le_of_ble_eq_true rfl | exact Nat.zero_le _⟩ gX10_store_5.2.2.2.2.2.1 (fun r3657 hr3657 => ?_)
        refine vV (wr := [(h0, oX10 tby (nI kt) tln tsp tkd ts9 tn9 tf9), (tln, oX8 9 7 tlnc (nI kln)), (tlnc, iA G 63 ftln), (tsp, oX8 120 1 tspc (nI ksp)), (tspc, iA G 120 ftsp), (bb, oX0 bpersons bpapers bstamps bversions blines bsteps bsayings bfindings bwarnings bquestions td vd vl gp), (bsteps, oX8 960 1 bstepsc (nI kbsteps)), (bstepsc, iA G 960 fbsteps), (bversions, oX8 8 3 bversionsc (nI (kbversions + 1))), (bversionsc, iA G 24 f13561)]) hC hK hl hP hD hS hA (c_T_set l G blines (-2) 2 r3657 72 7 blinesc vkb f13655 (hvkb) (by omega) (by omega)) si_X10_66 [10, 11] [0, 1, 2, 3, 4, 5, 6, 7, 8, 9] sm_10_11 fm_10_11 nd_10_11 sm_0_1_2_3_4_5_6_7_8_9 nd_0_1_2_3_4_5_6_7_8_9 dj_10_11__0_1_2_3_4_5_6_7_8_9 rfl rfl rfl rfl rfl (Nat.le_of_ble_eq_true rfl) rm_3_1_4 ⟨Nat.le_of_ble_eq_true rfl, Nat.le_of_ble_eq_true rfl⟩ gX10_store_5.2.2.2.2.2.2.1 (fun f13661 H locs hr3659 hP hD hS => ?_)
        try dsimp only at hr3659
        refine Kpdr (ws := [(h0, oX10 tby (nI kt) tln tsp tkd ts9 tn9 tf9), (tln, oX8 9 7 tlnc (nI kln)), (tlnc, iA G 63 ftln), (tsp, oX8 120 1 tspc (nI ksp)), (tspc, iA G 120 ftsp), (bb, oX0 bpersons bpapers bstamps bversions blines bsteps bsayings bfindings bwarnings bquestions td vd vl gp), (bsteps, oX8 960 1 bstepsc (nI kbsteps)), (bstepsc, iA G 960 fbsteps), (bversions, oX8 8 3 bversionsc (nI (kbversions + 1))), (bversionsc, iA G 24 f13561), (blines, oX8 72 7 blinesc (nI vkb)), (blinesc, iA G 504 f13661)]) hP hD (fun hP hD => ?_)
        have w3662 := hr3659
        refine lv_iinc (v := 3) (lv' := [(6, .int 3), (5, .int (-2)), (4, .int (nI kP)), (3, .int (nI kbsteps)), (2, .int (nI kbversions)), (0, .ref h0), (1, .ref bb)]) hx hb gX10_store_5.2.2.2.2.2.2.2.1 hl (k := 0) rfl (by decide) (by decide) rfl (fun ls hl => ?_)
        refine lv_goto (tgt := 88) hx hb gX10_store_5.2.2.2.2.2.2.2.2.1 (by decide) ?_
        refine lv_iload hx hb gX10_store_4.2.2.2.2.1 (lv_at0 hl) ?_
        refine lv_bipush (v := 6) hx hb gX10_store_4.2.2.2.2.2.1 (by decide) ?_
        refine lv_icmp_gt (tgt := 123) hx hb gX10_store_4.2.2.2.2.2.2.1 (by decide) (fun c9 => absurd c9 (by decide)) (fun _ => ?_)
        refine lv_aload_n hx hb gX10_store_4.2.2.2.2.2.2.2.1 rfl (lv_at6 hl) ?_
        refine gf_X10_70 hC rfl hK hP 5 rfl rfl gX10_store_4.2.2.2.2.2.2.2.2.1 ?_
        refine lv_iload hx hb gX10_store_4.2.2.2.2.2.2.2.2.2 (lv_at1 hl) ?_
        refine lv_iload hx hb gX10_store_5.1 (lv_at0 hl) ?_
        refine lv_aload_n hx hb gX10_store_5.2.1 rfl (lv_at5 hl) ?_
        refine gf_X10_20 hC rfl hK hP 0 rfl rfl gX10_store_5.2.2.1 ?_
        refine lv_iload hx hb gX10_store_5.2.2.2.1 (lv_at2 hl) ?_
        refine lv_iload hx hb gX10_store_5.2.2.2.2.1 (lv_at0 hl) ?_
        refine pV hC hK hl hP hD (c_T_at l G tln (nI kP) 3 9 7 tlnc kln ftln (hkln) (by omega) (by omega)) si_X10_74 [1, 2] sm_1_2 fm_1_2 nd_1_2 rfl rfl rfl rfl rfl (Nat.le_of_ble_eq_true rfl) rm_3_1_3 ⟨by first | exact Nat.le_of_ble_eq_true rfl | exact Nat.zero_le _, by first | exact Nat.le_of_ble_eq_true rfl | exact Nat.zero_le _⟩ gX10_store_5.2.2.2.2.2.1 (fun r3663 hr3663 => ?_)
        refine vV (wr := [(h0, oX10 tby (nI kt) tln tsp tkd ts9 tn9 tf9), (tln, oX8 9 7 tlnc (nI kln)), (tlnc, iA G 63 ftln), (tsp, oX8 120 1 tspc (nI ksp)), (tspc, iA G 120 ftsp), (bb, oX0 bpersons bpapers bstamps bversions blines bsteps bsayings bfindings bwarnings bquestions td vd vl gp), (bsteps, oX8 960 1 bstepsc (nI kbsteps)), (bstepsc, iA G 960 fbsteps), (bversions, oX8 8 3 bversionsc (nI (kbversions + 1))), (bversionsc, iA G 24 f13561)]) hC hK hl hP hD hS hA (c_T_set l G blines (-2) 3 r3663 72 7 blinesc vkb f13661 (hvkb) (by omega) (by omega)) si_X10_66 [10, 11] [0, 1, 2, 3, 4, 5, 6, 7, 8, 9] sm_10_11 fm_10_11 nd_10_11 sm_0_1_2_3_4_5_6_7_8_9 nd_0_1_2_3_4_5_6_7_8_9 dj_10_11__0_1_2_3_4_5_6_7_8_9 rfl rfl rfl rfl rfl (Nat.le_of_ble_eq_true rfl) rm_3_1_4 ⟨Nat.le_of_ble_eq_true rfl, Nat.le_of_ble_eq_true rfl⟩ gX10_store_5.2.2.2.2.2.2.1 (fun f13667 H locs hr3665 hP hD hS => ?_)
        try dsimp only at hr3665
        refine Kpdr (ws := [(h0, oX10 tby (nI kt) tln tsp tkd ts9 tn9 tf9), (tln, oX8 9 7 tlnc (nI kln)), (tlnc, iA G 63 ftln), (tsp, oX8 120 1 tspc (nI ksp)), (tspc, iA G 120 ftsp), (bb, oX0 bpersons bpapers bstamps bversions blines bsteps bsayings bfindings bwarnings bquestions td vd vl gp), (bsteps, oX8 960 1 bstepsc (nI kbsteps)), (bstepsc, iA G 960 fbsteps), (bversions, oX8 8 3 bversionsc (nI (kbversions + 1))), (bversionsc, iA G 24 f13561), (blines, oX8 72 7 blinesc (nI vkb)), (blinesc, iA G 504 f13667)]) hP hD (fun hP hD => ?_)
        have w3668 := hr3665
        refine lv_iinc (v := 4) (lv' := [(6, .int 4), (5, .int (-2)), (4, .int (nI kP)), (3, .int (nI kbsteps)), (2, .int (nI kbversions)), (0, .ref h0), (1, .ref bb)]) hx hb gX10_store_5.2.2.2.2.2.2.2.1 hl (k := 0) rfl (by decide) (by decide) rfl (fun ls hl => ?_)
        refine lv_goto (tgt := 88) hx hb gX10_store_5.2.2.2.2.2.2.2.2.1 (by decide) ?_
        refine lv_iload hx hb gX10_store_4.2.2.2.2.1 (lv_at0 hl) ?_
        refine lv_bipush (v := 6) hx hb gX10_store_4.2.2.2.2.2.1 (by decide) ?_
        refine lv_icmp_gt (tgt := 123) hx hb gX10_store_4.2.2.2.2.2.2.1 (by decide) (fun c9 => absurd c9 (by decide)) (fun _ => ?_)
        refine lv_aload_n hx hb gX10_store_4.2.2.2.2.2.2.2.1 rfl (lv_at6 hl) ?_
        refine gf_X10_70 hC rfl hK hP 5 rfl rfl gX10_store_4.2.2.2.2.2.2.2.2.1 ?_
        refine lv_iload hx hb gX10_store_4.2.2.2.2.2.2.2.2.2 (lv_at1 hl) ?_
        refine lv_iload hx hb gX10_store_5.1 (lv_at0 hl) ?_
        refine lv_aload_n hx hb gX10_store_5.2.1 rfl (lv_at5 hl) ?_
        refine gf_X10_20 hC rfl hK hP 0 rfl rfl gX10_store_5.2.2.1 ?_
        refine lv_iload hx hb gX10_store_5.2.2.2.1 (lv_at2 hl) ?_
        refine lv_iload hx hb gX10_store_5.2.2.2.2.1 (lv_at0 hl) ?_
        refine pV hC hK hl hP hD (c_T_at l G tln (nI kP) 4 9 7 tlnc kln ftln (hkln) (by omega) (by omega)) si_X10_74 [1, 2] sm_1_2 fm_1_2 nd_1_2 rfl rfl rfl rfl rfl (Nat.le_of_ble_eq_true rfl) rm_3_1_3 ⟨by first | exact Nat.le_of_ble_eq_true rfl | exact Nat.zero_le _, by first | exact Nat.le_of_ble_eq_true rfl | exact Nat.zero_le _⟩ gX10_store_5.2.2.2.2.2.1 (fun r3669 hr3669 => ?_)
        refine vV (wr := [(h0, oX10 tby (nI kt) tln tsp tkd ts9 tn9 tf9), (tln, oX8 9 7 tlnc (nI kln)), (tlnc, iA G 63 ftln), (tsp, oX8 120 1 tspc (nI ksp)), (tspc, iA G 120 ftsp), (bb, oX0 bpersons bpapers bstamps bversions blines bsteps bsayings bfindings bwarnings bquestions td vd vl gp), (bsteps, oX8 960 1 bstepsc (nI kbsteps)), (bstepsc, iA G 960 fbsteps), (bversions, oX8 8 3 bversionsc (nI (kbversions + 1))), (bversionsc, iA G 24 f13561)]) hC hK hl hP hD hS hA (c_T_set l G blines (-2) 4 r3669 72 7 blinesc vkb f13667 (hvkb) (by omega) (by omega)) si_X10_66 [10, 11] [0, 1, 2, 3, 4, 5, 6, 7, 8, 9] sm_10_11 fm_10_11 nd_10_11 sm_0_1_2_3_4_5_6_7_8_9 nd_0_1_2_3_4_5_6_7_8_9 dj_10_11__0_1_2_3_4_5_6_7_8_9 rfl rfl rfl rfl rfl (Nat.le_of_ble_eq_true rfl) rm_3_1_4 ⟨Nat.le_of_ble_eq_true rfl, Nat.le_of_ble_eq_true rfl⟩ gX10_store_5.2.2.2.2.2.2.1 (fun f13673 H locs hr3671 hP hD hS => ?_)
        try dsimp only at hr3671
        refine Kpdr (ws := [(h0, oX10 tby (nI kt) tln tsp tkd ts9 tn9 tf9), (tln, oX8 9 7 tlnc (nI kln)), (tlnc, iA G 63 ftln), (tsp, oX8 120 1 tspc (nI ksp)), (tspc, iA G 120 ftsp), (bb, oX0 bpersons bpapers bstamps bversions blines bsteps bsayings bfindings bwarnings bquestions td vd vl gp), (bsteps, oX8 960 1 bstepsc (nI kbsteps)), (bstepsc, iA G 960 fbsteps), (bversions, oX8 8 3 bversionsc (nI (kbversions + 1))), (bversionsc, iA G 24 f13561), (blines, oX8 72 7 blinesc (nI vkb)), (blinesc, iA G 504 f13673)]) hP hD (fun hP hD => ?_)
        have w3674 := hr3671
        refine lv_iinc (v := 5) (lv' := [(6, .int 5), (5, .int (-2)), (4, .int (nI kP)), (3, .int (nI kbsteps)), (2, .int (nI kbversions)), (0, .ref h0), (1, .ref bb)]) hx hb gX10_store_5.2.2.2.2.2.2.2.1 hl (k := 0) rfl (by decide) (by decide) rfl (fun ls hl => ?_)
        refine lv_goto (tgt := 88) hx hb gX10_store_5.2.2.2.2.2.2.2.2.1 (by decide) ?_
        refine lv_iload hx hb gX10_store_4.2.2.2.2.1 (lv_at0 hl) ?_
        refine lv_bipush (v := 6) hx hb gX10_store_4.2.2.2.2.2.1 (by decide) ?_
        refine lv_icmp_gt (tgt := 123) hx hb gX10_store_4.2.2.2.2.2.2.1 (by decide) (fun c9 => absurd c9 (by decide)) (fun _ => ?_)
        refine lv_aload_n hx hb gX10_store_4.2.2.2.2.2.2.2.1 rfl (lv_at6 hl) ?_
        refine gf_X10_70 hC rfl hK hP 5 rfl rfl gX10_store_4.2.2.2.2.2.2.2.2.1 ?_
        refine lv_iload hx hb gX10_store_4.2.2.2.2.2.2.2.2.2 (lv_at1 hl) ?_
        refine lv_iload hx hb gX10_store_5.1 (lv_at0 hl) ?_
        refine lv_aload_n hx hb gX10_store_5.2.1 rfl (lv_at5 hl) ?_
        refine gf_X10_20 hC rfl hK hP 0 rfl rfl gX10_store_5.2.2.1 ?_
        refine lv_iload hx hb gX10_store_5.2.2.2.1 (lv_at2 hl) ?_
        refine lv_iload hx hb gX10_store_5.2.2.2.2.1 (lv_at0 hl) ?_
        refine pV hC hK hl hP hD (c_T_at l G tln (nI kP) 5 9 7 tlnc kln ftln (hkln) (by omega) (by omega)) si_X10_74 [1, 2] sm_1_2 fm_1_2 nd_1_2 rfl rfl rfl rfl rfl (Nat.le_of_ble_eq_true rfl) rm_3_1_3 ⟨by first | exact Nat.le_of_ble_eq_true rfl | exact Nat.zero_le _, by first | exact Nat.le_of_ble_eq_true rfl | exact Nat.zero_le _⟩ gX10_store_5.2.2.2.2.2.1 (fun r3675 hr3675 => ?_)
        refine vV (wr := [(h0, oX10 tby (nI kt) tln tsp tkd ts9 tn9 tf9), (tln, oX8 9 7 tlnc (nI kln)), (tlnc, iA G 63 ftln), (tsp, oX8 120 1 tspc (nI ksp)), (tspc, iA G 120 ftsp), (bb, oX0 bpersons bpapers bstamps bversions blines bsteps bsayings bfindings bwarnings bquestions td vd vl gp), (bsteps, oX8 960 1 bstepsc (nI kbsteps)), (bstepsc, iA G 960 fbsteps), (bversions, oX8 8 3 bversionsc (nI (kbversions + 1))), (bversionsc, iA G 24 f13561)]) hC hK hl hP hD hS hA (c_T_set l G blines (-2) 5 r3675 72 7 blinesc vkb f13673 (hvkb) (by omega) (by omega)) si_X10_66 [10, 11] [0, 1, 2, 3, 4, 5, 6, 7, 8, 9] sm_10_11 fm_10_11 nd_10_11 sm_0_1_2_3_4_5_6_7_8_9 nd_0_1_2_3_4_5_6_7_8_9 dj_10_11__0_1_2_3_4_5_6_7_8_9 rfl rfl rfl rfl rfl (Nat.le_of_ble_eq_true rfl) rm_3_1_4 ⟨Nat.le_of_ble_eq_true rfl, Nat.le_of_ble_eq_true rfl⟩ gX10_store_5.2.2.2.2.2.2.1 (fun f13679 H locs hr3677 hP hD hS => ?_)
        try dsimp only at hr3677
        refine Kpdr (ws := [(h0, oX10 tby (nI kt) tln tsp tkd ts9 tn9 tf9), (tln, oX8 9 7 tlnc (nI kln)), (tlnc, iA G 63 ftln), (tsp, oX8 120 1 tspc (nI ksp)), (tspc, iA G 120 ftsp), (bb, oX0 bpersons bpapers bstamps bversions blines bsteps bsayings bfindings bwarnings bquestions td vd vl gp), (bsteps, oX8 960 1 bstepsc (nI kbsteps)), (bstepsc, iA G 960 fbsteps), (bversions, oX8 8 3 bversionsc (nI (kbversions + 1))), (bversionsc, iA G 24 f13561), (blines, oX8 72 7 blinesc (nI vkb)), (blinesc, iA G 504 f13679)]) hP hD (fun hP hD => ?_)
        have w3680 := hr3677
        refine lv_iinc (v := 6) (lv' := [(6, .int 6), (5, .int (-2)), (4, .int (nI kP)), (3, .int (nI kbsteps)), (2, .int (nI kbversions)), (0, .ref h0), (1, .ref bb)]) hx hb gX10_store_5.2.2.2.2.2.2.2.1 hl (k := 0) rfl (by decide) (by decide) rfl (fun ls hl => ?_)
        refine lv_goto (tgt := 88) hx hb gX10_store_5.2.2.2.2.2.2.2.2.1 (by decide) ?_
        refine lv_iload hx hb gX10_store_4.2.2.2.2.1 (lv_at0 hl) ?_
        refine lv_bipush (v := 6) hx hb gX10_store_4.2.2.2.2.2.1 (by decide) ?_
        refine lv_icmp_gt (tgt := 123) hx hb gX10_store_4.2.2.2.2.2.2.1 (by decide) (fun c9 => absurd c9 (by decide)) (fun _ => ?_)
        refine lv_aload_n hx hb gX10_store_4.2.2.2.2.2.2.2.1 rfl (lv_at6 hl) ?_
        refine gf_X10_70 hC rfl hK hP 5 rfl rfl gX10_store_4.2.2.2.2.2.2.2.2.1 ?_
        refine lv_iload hx hb gX10_store_4.2.2.2.2.2.2.2.2.2 (lv_at1 hl) ?_
        refine lv_iload hx hb gX10_store_5.1 (lv_at0 hl) ?_
        refine lv_aload_n hx hb gX10_store_5.2.1 rfl (lv_at5 hl) ?_
        refine gf_X10_20 hC rfl hK hP 0 rfl rfl gX10_store_5.2.2.1 ?_
        refine lv_iload hx hb gX10_store_5.2.2.2.1 (lv_at2 hl) ?_
        refine lv_iload hx hb gX10_store_5.2.2.2.2.1 (lv_at0 hl) ?_
        refine pV hC hK hl hP hD (c_T_at l G tln (nI kP) 6 9 7 tlnc kln ftln (hkln) (by omega) (by omega)) si_X10_74 [1, 2] sm_1_2 fm_1_2 nd_1_2 rfl rfl rfl rfl rfl (Nat.le_of_ble_eq_true rfl) rm_3_1_3 ⟨by first | exact Nat.le_of_ble_eq_true rfl | exact Nat.zero_le _, by first | exact Nat.le_of_ble_eq_true rfl | exact Nat.zero_le _⟩ gX10_store_5.2.2.2.2.2.1 (fun r3681 hr3681 => ?_)
        refine vV (wr := [(h0, oX10 tby (nI kt) tln tsp tkd ts9 tn9 tf9), (tln, oX8 9 7 tlnc (nI kln)), (tlnc, iA G 63 ftln), (tsp, oX8 120 1 tspc (nI ksp)), (tspc, iA G 120 ftsp), (bb, oX0 bpersons bpapers bstamps bversions blines bsteps bsayings bfindings bwarnings bquestions td vd vl gp), (bsteps, oX8 960 1 bstepsc (nI kbsteps)), (bstepsc, iA G 960 fbsteps), (bversions, oX8 8 3 bversionsc (nI (kbversions + 1))), (bversionsc, iA G 24 f13561)]) hC hK hl hP hD hS hA (c_T_set l G blines (-2) 6 r3681 72 7 blinesc vkb f13679 (hvkb) (by omega) (by omega)) si_X10_66 [10, 11] [0, 1, 2, 3, 4, 5, 6, 7, 8, 9] sm_10_11 fm_10_11 nd_10_11 sm_0_1_2_3_4_5_6_7_8_9 nd_0_1_2_3_4_5_6_7_8_9 dj_10_11__0_1_2_3_4_5_6_7_8_9 rfl rfl rfl rfl rfl (Nat.le_of_ble_eq_true rfl) rm_3_1_4 ⟨Nat.le_of_ble_eq_true rfl, Nat.le_of_ble_eq_true rfl⟩ gX10_store_5.2.2.2.2.2.2.1 (fun f13685 H locs hr3683 hP hD hS => ?_)
        try dsimp only at hr3683
        refine Kpdr (ws := [(h0, oX10 tby (nI kt) tln tsp tkd ts9 tn9 tf9), (tln, oX8 9 7 tlnc (nI kln)), (tlnc, iA G 63 ftln), (tsp, oX8 120 1 tspc (nI ksp)), (tspc, iA G 120 ftsp), (bb, oX0 bpersons bpapers bstamps bversions blines bsteps bsayings bfindings bwarnings bquestions td vd vl gp), (bsteps, oX8 960 1 bstepsc (nI kbsteps)), (bstepsc, iA G 960 fbsteps), (bversions, oX8 8 3 bversionsc (nI (kbversions + 1))), (bversionsc, iA G 24 f13561), (blines, oX8 72 7 blinesc (nI vkb)), (blinesc, iA G 504 f13685)]) hP hD (fun hP hD => ?_)
        have w3686 := hr3683
        refine lv_iinc (v := 7) (lv' := [(6, .int 7), (5, .int (-2)), (4, .int (nI kP)), (3, .int (nI kbsteps)), (2, .int (nI kbversions)), (0, .ref h0), (1, .ref bb)]) hx hb gX10_store_5.2.2.2.2.2.2.2.1 hl (k := 0) rfl (by decide) (by decide) rfl (fun ls hl => ?_)
        refine lv_goto (tgt := 88) hx hb gX10_store_5.2.2.2.2.2.2.2.2.1 (by decide) ?_
        refine lv_iload hx hb gX10_store_4.2.2.2.2.1 (lv_at0 hl) ?_
        refine lv_bipush (v := 6) hx hb gX10_store_4.2.2.2.2.2.1 (by decide) ?_
        refine lv_icmp_gt (tgt := 123) hx hb gX10_store_4.2.2.2.2.2.2.1 (by decide) (fun _ => ?_) (fun c9 => absurd (by decide) c9)
        refine lv_aload_n hx hb gX10_store_5.2.2.2.2.2.2.2.2.2 rfl (lv_at6 hl) ?_
        refine gf_X10_70 hC rfl hK hP 5 rfl rfl gX10_store_6.1 ?_
        refine lv_iload hx hb gX10_store_6.2.1 (lv_at1 hl) ?_
        refine lv_iconst (v := 5) hx hb gX10_store_6.2.2.1 (by decide) ?_
        refine lv_aload_n hx hb gX10_store_6.2.2.2.1 rfl (lv_at5 hl) ?_
        refine gf_X10_20 hC rfl hK hP 0 rfl rfl gX10_store_6.2.2.2.2.1 ?_
        refine lv_iload hx hb gX10_store_6.2.2.2.2.2.1 (lv_at2 hl) ?_
        refine lv_iconst (v := 5) hx hb gX10_store_6.2.2.2.2.2.2.1 (by decide) ?_
        refine pV hC hK hl hP hD (c_T_at l G tln (nI kP) 5 9 7 tlnc kln ftln (hkln) (by omega) (by omega)) si_X10_74 [1, 2] sm_1_2 fm_1_2 nd_1_2 rfl rfl rfl rfl rfl (Nat.le_of_ble_eq_true rfl) rm_3_1_3 ⟨by first | exact Nat.le_of_ble_eq_true rfl | exact Nat.zero_le _, by first | exact Nat.le_of_ble_eq_true rfl | exact Nat.zero_le _⟩ gX10_store_6.2.2.2.2.2.2.2.1 (fun r3687 hr3687 => ?_)
        refine lv_iload_n hx hb gX10_store_6.2.2.2.2.2.2.2.2.1 rfl (lv_at3 hl) ?_
        refine lv_iadd hx hb gX10_store_6.2.2.2.2.2.2.2.2.2 ?_
        refine vV (wr := [(h0, oX10 tby (nI kt) tln tsp tkd ts9 tn9 tf9), (tln, oX8 9 7 tlnc (nI kln)), (tlnc, iA G 63 ftln), (tsp, oX8 120 1 tspc (nI ksp)), (tspc, iA G 120 ftsp), (bb, oX0 bpersons bpapers bstamps bversions blines bsteps bsayings bfindings bwarnings bquestions td vd vl gp), (bsteps, oX8 960 1 bstepsc (nI kbsteps)), (bstepsc, iA G 960 fbsteps), (bversions, oX8 8 3 bversionsc (nI (kbversions + 1))), (bversionsc, iA G 24 f13561)]) hC hK hl hP hD hS hA (c_T_set l G blines (-2) 5 (r3687 + (nI kbsteps)) 72 7 blinesc vkb f13685 (hvkb) (by omega) (by omega)) si_X10_66 [10, 11] [0, 1, 2, 3, 4, 5, 6, 7, 8, 9] sm_10_11 fm_10_11 nd_10_11 sm_0_1_2_3_4_5_6_7_8_9 nd_0_1_2_3_4_5_6_7_8_9 dj_10_11__0_1_2_3_4_5_6_7_8_9 rfl rfl rfl rfl rfl (Nat.le_of_ble_eq_true rfl) rm_3_1_4 ⟨Nat.le_of_ble_eq_true rfl, Nat.le_of_ble_eq_true rfl⟩ gX10_store_7.1 (fun f13691 H locs hr3689 hP hD hS => ?_)
        try dsimp only at hr3689
        refine Kpdr (ws := [(h0, oX10 tby (nI kt) tln tsp tkd ts9 tn9 tf9), (tln, oX8 9 7 tlnc (nI kln)), (tlnc, iA G 63 ftln), (tsp, oX8 120 1 tspc (nI ksp)), (tspc, iA G 120 ftsp), (bb, oX0 bpersons bpapers bstamps bversions blines bsteps bsayings bfindings bwarnings bquestions td vd vl gp), (bsteps, oX8 960 1 bstepsc (nI kbsteps)), (bstepsc, iA G 960 fbsteps), (bversions, oX8 8 3 bversionsc (nI (kbversions + 1))), (bversionsc, iA G 24 f13561), (blines, oX8 72 7 blinesc (nI vkb)), (blinesc, iA G 504 f13691)]) hP hD (fun hP hD => ?_)
        have w3692 := hr3689
        refine lv_iinc (v := nI (kP + 1)) (lv' := [(4, .int (nI (kP + 1))), (6, .int 7), (5, .int (-2)), (3, .int (nI kbsteps)), (2, .int (nI kbversions)), (0, .ref h0), (1, .ref bb)]) hx hb gX10_store_7.2.1 hl (k := 2) rfl (nI_1 _) (by decide) rfl (fun ls hl => ?_)
        refine lv_goto (tgt := 64) hx hb gX10_store_7.2.2.1 (by decide) ?_
        refine Kpds (ws' := [(h0, oX10 tby (nI kt) tln tsp tkd ts9 tn9 tf9), (tln, oX8 9 7 tlnc (nI kln)), (tlnc, iA G 63 ftln), (tsp, oX8 120 1 tspc (nI ksp)), (tspc, iA G 120 ftsp), (bb, oX0 bpersons bpapers bstamps bversions blines bsteps bsayings bfindings bwarnings bquestions td vd vl gp), (blines, oX8 72 7 blinesc (nI vkb)), (blinesc, iA G 504 f13691), (bsteps, oX8 960 1 bstepsc (nI kbsteps)), (bstepsc, iA G 960 fbsteps), (bversions, oX8 8 3 bversionsc (nI (kbversions + 1))), (bversionsc, iA G 24 f13561)]) hP hD [0, 1, 2, 3, 4, 5, 10, 11, 6, 7, 8, 9] fm_0_1_2_3_4_5_10_11_6_7_8_9 nd_0_1_2_3_4_5_10_11_6_7_8_9 sm_0_1_2_3_4_5_10_11_6_7_8_9 (fun hP hD => ?_)
        exact ihP (kP + 1) f13691 vkb _ _ _ (by omega) (by first | assumption | exact Or.inl rfl | exact Or.inr rfl | omega) (And.intro hP hD) hS (lv_sub hl [0, 3, 4, 5, 6] rfl)
  exact keyP kln 0 fblines kblines _ _ _ (by omega) (by first | assumption | exact Or.inl rfl | exact Or.inr rfl | omega) (And.intro hP hD) hS (lv_sub hl [0, 1, 2, 3, 4] rfl)
def K_p_read (l : Launch) (G : GG) (K : OO) (h0 : Nat) (bb : Nat) (kk : Nat) (ikp : Int32) (sg : Nat) (do9 : Nat) (ru9 : Nat) (ta9 : Nat) (tp9 : Nat) (ro9 : Nat) (ho9 : Nat) (de9 : Nat) (tby : Nat) (kt : Nat) (tln : Nat) (tsp : Nat) (tkd : Int32) (ts9 : Int32) (tn9 : Int32) (tf9 : Int32) (fby : Nat → Int32) (tlnc : Nat) (kln : Nat) (ftln : Nat → Int32) (tspc : Nat) (ksp : Nat) (ftsp : Nat → Int32) (bpersons : Nat) (bpapers : Nat) (bstamps : Nat) (bversions : Nat) (blines : Nat) (bsteps : Nat) (bsayings : Nat) (bfindings : Nat) (bwarnings : Nat) (bquestions : Nat) (td : Int32) (vd : Int32) (vl : Int32) (gp : Int32) (bversionsc : Nat) (kbversions : Nat) (fbversions : Nat → Int32) (blinesc : Nat) (kblines : Nat) (fblines : Nat → Int32) (bstepsc : Nat) (kbsteps : Nat) (fbsteps : Nat → Int32) : Prop := MIo l G K yX11_read cX11_read 2 (some .int) 33 0 0 [.ref h0] [(h0, oX11 bb kk ikp sg do9 ru9 ta9 tp9 ro9 ho9 de9), (tp9, oX10 tby (nI kt) tln tsp tkd ts9 tn9 tf9), (tby, iA G 240 fby), (tln, oX8 9 7 tlnc (nI kln)), (tlnc, iA G 63 ftln), (tsp, oX8 120 1 tspc (nI ksp)), (tspc, iA G 120 ftsp), (bb, oX0 bpersons bpapers bstamps bversions blines bsteps bsayings bfindings bwarnings bquestions td vd vl gp), (bversions, oX8 8 3 bversionsc (nI kbversions)), (bversionsc, iA G 24 fbversions), (blines, oX8 72 7 blinesc (nI kblines)), (blinesc, iA G 504 fblines), (bsteps, oX8 960 1 bstepsc (nI kbsteps)), (bstepsc, iA G 960 fbsteps)] (fun (r : Int32) (u : Int32 × Int32 × Int32 × Int32 × Nat × Nat × (Nat → Int32) × Nat × (Nat → Int32) × Nat × Nat × Nat × (Nat → Int32) × (Nat → Int32) × (Nat → Int32)) => (∃ (rq:Int32), (RDQ fby kt kbversions rq ∧ nI u.2.2.2.2.2.2.2.2.2.1 = ifc (rq = nI kbversions) (nI kbversions + 1) (nI kbversions)) ∧ r = rq) ∧ (u.2.2.2.2.2.1 ≤ 9 ∧ u.2.2.2.2.2.2.2.1 ≤ 120 ∧ u.2.2.2.2.1 = 0 ∧ u.2.2.2.2.2.2.2.2.2.1 ≤ 8 ∧ u.2.2.2.2.2.2.2.2.2.2.1 ≤ 72 ∧ u.2.2.2.2.2.2.2.2.2.2.2.1 ≤ 960)) (fun u : Int32 × Int32 × Int32 × Int32 × Nat × Nat × (Nat → Int32) × Nat × (Nat → Int32) × Nat × Nat × Nat × (Nat → Int32) × (Nat → Int32) × (Nat → Int32) => [(h0, oX11 bb kk ikp sg do9 ru9 ta9 tp9 ro9 ho9 de9), (tp9, oX10 tby (nI u.2.2.2.2.1) tln tsp u.1 u.2.1 u.2.2.1 u.2.2.2.1), (tby, iA G 240 fby), (tln, oX8 9 7 tlnc (nI u.2.2.2.2.2.1)), (tlnc, iA G 63 u.2.2.2.2.2.2.1), (tsp, oX8 120 1 tspc (nI u.2.2.2.2.2.2.2.1)), (tspc, iA G 120 u.2.2.2.2.2.2.2.2.1), (bb, oX0 bpersons bpapers bstamps bversions blines bsteps bsayings bfindings bwarnings bquestions td vd vl gp), (bversions, oX8 8 3 bversionsc (nI u.2.2.2.2.2.2.2.2.2.1)), (bversionsc, iA G 24 u.2.2.2.2.2.2.2.2.2.2.2.2.1), (blines, oX8 72 7 blinesc (nI u.2.2.2.2.2.2.2.2.2.2.1)), (blinesc, iA G 504 u.2.2.2.2.2.2.2.2.2.2.2.2.2.1), (bsteps, oX8 960 1 bstepsc (nI u.2.2.2.2.2.2.2.2.2.2.2.1)), (bstepsc, iA G 960 u.2.2.2.2.2.2.2.2.2.2.2.2.2.2)])
set_option maxHeartbeats 4000000 in
set_option maxRecDepth 100000 in
theorem p_read (l : Launch) (G : GG) (K : OO) (h0 : Nat) (bb : Nat) (kk : Nat) (ikp : Int32) (sg : Nat) (do9 : Nat) (ru9 : Nat) (ta9 : Nat) (tp9 : Nat) (ro9 : Nat) (ho9 : Nat) (de9 : Nat) (tby : Nat) (kt : Nat) (tln : Nat) (tsp : Nat) (tkd : Int32) (ts9 : Int32) (tn9 : Int32) (tf9 : Int32) (fby : Nat → Int32) (tlnc : Nat) (kln : Nat) (ftln : Nat → Int32) (tspc : Nat) (ksp : Nat) (ftsp : Nat → Int32) (bpersons : Nat) (bpapers : Nat) (bstamps : Nat) (bversions : Nat) (blines : Nat) (bsteps : Nat) (bsayings : Nat) (bfindings : Nat) (bwarnings : Nat) (bquestions : Nat) (td : Int32) (vd : Int32) (vl : Int32) (gp : Int32) (bversionsc : Nat) (kbversions : Nat) (fbversions : Nat → Int32) (blinesc : Nat) (kblines : Nat) (fblines : Nat → Int32) (bstepsc : Nat) (kbsteps : Nat) (fbsteps : Nat → Int32) (hkt : kt ≤ 240) (hBB : BNN fby kt) (hkln : kln ≤ 9) (hksp : ksp ≤ 120) (hkbversions : kbversions ≤ 8) (hkblines : kblines ≤ 72) (hkbsteps : kbsteps ≤ 960) : K_p_read l G K h0 bb kk ikp sg do9 ru9 ta9 tp9 ro9 ho9 de9 tby kt tln tsp tkd ts9 tn9 tf9 fby tlnc kln ftln tspc ksp ftsp bpersons bpapers bstamps bversions blines bsteps bsayings bfindings bwarnings bquestions td vd vl gp bversionsc kbversions fbversions blinesc kblines fblines bstepsc kbsteps fbsteps := by
  refine MIo.start (by decide +kernel) (Nat.le_of_ble_eq_true rfl) ?_
  intro p e s m below meth c A ls hC hK hP hD hS hA hl hO
  refine absQ (fun Q0 hQ0 => ?_)
  have hl : lv_has ls 2 [(0, .ref h0)] := hl
  refine Kan8 hC (fun hx hb hr hml hB hown hlocks hnm => ?_)
  refine lv_aload_n hx hb gX11_read_0.1 rfl (lv_at0 hl) ?_
  refine gf_X11_58 hC rfl hK hP 0 rfl rfl gX11_read_0.2.1 ?_
  refine iVo (wr := [(h0, oX11 bb kk ikp sg do9 ru9 ta9 tp9 ro9 ho9 de9), (bb, oX0 bpersons bpapers bstamps bversions blines bsteps bsayings bfindings bwarnings bquestions td vd vl gp), (bversions, oX8 8 3 bversionsc (nI kbversions)), (bversionsc, iA G 24 fbversions), (blines, oX8 72 7 blinesc (nI kblines)), (blinesc, iA G 504 fblines), (bsteps, oX8 960 1 bstepsc (nI kbsteps)), (bstepsc, iA G 960 fbsteps)]) hO hC hK hl hP hD hS hA (t_scan l G K tp9 tby kt tln tsp tkd ts9 tn9 tf9 fby tlnc kln ftln tspc ksp ftsp (hkt) (hBB) (hkln) (hksp)) si_X11_227 [1, 2, 3, 4, 5, 6] [0, 7, 8, 9, 10, 11, 12, 13] sm_1_2_3_4_5_6 fm_1_2_3_4_5_6 nd_1_2_3_4_5_6 sm_0_7_8_9_10_11_12_13 nd_0_7_8_9_10_11_12_13 dj_1_2_3_4_5_6__0_7_8_9_10_11_12_13 rfl rfl rfl rfl rfl (Nat.le_of_ble_eq_true rfl) rm_33_31_2 ⟨Nat.le_of_ble_eq_true rfl, Nat.le_of_ble_eq_true rfl⟩ gX11_read_0.2.2.1 (fun r3693 => Ktu9 fun ks13695 tf13696 kln13697 gtln3698 ksp13699 gtsp3700 ls13701 c13702 r13703 => ?_)
  intro H locs hr3693 hP hD hS
  try dsimp only at hr3693
  refine Kpdr (ws := [(h0, oX11 bb kk ikp sg do9 ru9 ta9 tp9 ro9 ho9 de9), (bb, oX0 bpersons bpapers bstamps bversions blines bsteps bsayings bfindings bwarnings bquestions td vd vl gp), (bversions, oX8 8 3 bversionsc (nI kbversions)), (bversionsc, iA G 24 fbversions), (blines, oX8 72 7 blinesc (nI kblines)), (blinesc, iA G 504 fblines), (bsteps, oX8 960 1 bstepsc (nI kbsteps)), (bstepsc, iA G 960 fbsteps), (tp9, oX10 tby (nI kt) tln tsp (CKD fby kt ks13695) (nI ks13695) (nI (TKE fby kt ks13695)) tf13696), (tby, iA G 240 fby), (tln, oX8 9 7 tlnc (nI kln13697)), (tlnc, iA G 63 gtln3698), (tsp, oX8 120 1 tspc (nI ksp13699)), (tspc, iA G 120 gtsp3700)]) hP hD (fun hP hD => ?_)
  rcases hr3693 with ⟨rfl, a3704⟩ | ⟨rfl, a3704⟩
  · obtain ⟨hq3705, hq3706, hq3707, hq3708, hq3709, hq3710⟩ := a3704
    have xl3711 := hq3707.1
    refine lv_istore_n (lv' := [(1, .int (-1)), (0, .ref h0)]) hx hb gX11_read_0.2.2.2.1 rfl hl (by decide) rfl (fun ls hl => ?_)
    refine lv_aload_n hx hb gX11_read_0.2.2.2.2.1 rfl (lv_at1 hl) ?_
    refine gf_X11_58 hC rfl hK hP 0 rfl rfl gX11_read_0.2.2.2.2.2.1 ?_
    refine vV (wr := [(h0, oX11 bb kk ikp sg do9 ru9 ta9 tp9 ro9 ho9 de9), (bb, oX0 bpersons bpapers bstamps bversions blines bsteps bsayings bfindings bwarnings bquestions td vd vl gp), (bversions, oX8 8 3 bversionsc (nI kbversions)), (bversionsc, iA G 24 fbversions), (blines, oX8 72 7 blinesc (nI kblines)), (blinesc, iA G 504 fblines), (bsteps, oX8 960 1 bstepsc (nI kbsteps)), (bstepsc, iA G 960 fbsteps), (tby, iA G 240 fby), (tln, oX8 9 7 tlnc (nI kln13697)), (tlnc, iA G 63 gtln3698), (tsp, oX8 120 1 tspc (nI ksp13699)), (tspc, iA G 120 gtsp3700)]) hC hK hl hP hD hS hA (t_clear l G tp9 tby kt tln tsp (CKD fby kt ks13695) (nI ks13695) (nI (TKE fby kt ks13695)) tf13696) si_X11_230 [8] [0, 1, 2, 3, 4, 5, 6, 7, 9, 10, 11, 12, 13] sm_8 fm_8 nd_8 sm_0_1_2_3_4_5_6_7_9_10_11_12_13 nd_0_1_2_3_4_5_6_7_9_10_11_12_13 dj_8__0_1_2_3_4_5_6_7_9_10_11_12_13 rfl rfl rfl rfl rfl (Nat.le_of_ble_eq_true rfl) rm_33_1_1 ⟨Nat.le_of_ble_eq_true rfl, Nat.le_of_ble_eq_true rfl⟩ gX11_read_0.2.2.2.2.2.2.1 (fun u3713 H locs hr3712 hP hD hS => ?_)
    refine Kpdr (ws := [(h0, oX11 bb kk ikp sg do9 ru9 ta9 tp9 ro9 ho9 de9), (bb, oX0 bpersons bpapers bstamps bversions blines bsteps bsayings bfindings bwarnings bquestions td vd vl gp), (bversions, oX8 8 3 bversionsc (nI kbversions)), (bversionsc, iA G 24 fbversions), (blines, oX8 72 7 blinesc (nI kblines)), (blinesc, iA G 504 fblines), (bsteps, oX8 960 1 bstepsc (nI kbsteps)), (bstepsc, iA G 960 fbsteps), (tby, iA G 240 fby), (tln, oX8 9 7 tlnc (nI kln13697)), (tlnc, iA G 63 gtln3698), (tsp, oX8 120 1 tspc (nI ksp13699)), (tspc, iA G 120 gtsp3700), (tp9, oX10 tby 0 tln tsp (CKD fby kt ks13695) (nI ks13695) (nI (TKE fby kt ks13695)) tf13696)]) hP hD (fun hP hD => ?_)
    refine lv_iload_n hx hb gX11_read_0.2.2.2.2.2.2.2.1 rfl (lv_at0 hl) ?_
    refine lv_if_lt (tgt := 24) hx hb gX11_read_0.2.2.2.2.2.2.2.2.1 (by decide) (fun _ => ?_) (fun c9 => absurd (by decide) c9)
    refine lv_aload_n hx hb gX11_read_1.2.2.2.1 rfl (lv_at1 hl) ?_
    refine gf_X11_15 hC rfl hK hP 0 rfl rfl gX11_read_1.2.2.2.2.1 ?_
    refine gf_X11_233 hC rfl hK hP 1 rfl rfl gX11_read_1.2.2.2.2.2.1 ?_
    refine pV hC hK hl hP hD (c_T_isFull l G bversions 8 3 bversionsc kbversions (hkbversions) (by omega)) si_X11_111 [2] sm_2 fm_2 nd_2 rfl rfl rfl rfl rfl (Nat.le_of_ble_eq_true rfl) rm_33_1_1 ⟨by first | exact Nat.le_of_ble_eq_true rfl | exact Nat.zero_le _, by first | exact Nat.le_of_ble_eq_true rfl | exact Nat.zero_le _⟩ gX11_read_1.2.2.2.2.2.2.1 (Kors (Keqa fun a3715 => ?_) (Keqa fun a3715 => ?_))
    · refine lv_if_eq (tgt := 40) hx hb gX11_read_1.2.2.2.2.2.2.2.1 (by decide) (fun c9 => absurd c9 (by decide)) (fun _ => ?_)
      refine lv_bipush (v := (-2)) hx hb gX11_read_1.2.2.2.2.2.2.2.2.1 (by decide) ?_
      refine toQ hQ0 ?_
      exact RI (v := (-2)) hC hP hD hS [0, 13, 8, 9, 10, 11, 12, 1, 2, 3, 4, 5, 6, 7] (CKD fby kt ks13695, nI ks13695, nI (TKE fby kt ks13695), tf13696, 0, kln13697, gtln3698, ksp13699, gtsp3700, kbversions, kblines, kbsteps, fbversions, fblines, fbsteps) rfl rfl (by decide) (⟨⟨_, ⟨Or.inr ⟨_, _, _, hq3705, Or.inl ⟨by omega, rfl⟩⟩, (ifc_f (RDQ.n8 (by omega))).symm⟩, rfl⟩, (by dsimp only; omega)⟩) rfl gX11_read_1.2.2.2.2.2.2.2.2.2
    · refine lv_if_eq (tgt := 40) hx hb gX11_read_1.2.2.2.2.2.2.2.1 (by decide) (fun _ => ?_) (fun c9 => absurd (by decide) c9)
      refine lv_aload_n hx hb gX11_read_2.1 rfl (lv_at1 hl) ?_
      refine gf_X11_58 hC rfl hK hP 0 rfl rfl gX11_read_2.2.1 ?_
      refine lv_aload_n hx hb gX11_read_2.2.2.1 rfl (lv_at1 hl) ?_
      refine gf_X11_15 hC rfl hK hP 0 rfl rfl gX11_read_2.2.2.2.1 ?_
      refine iV (wr := [(h0, oX11 bb kk ikp sg do9 ru9 ta9 tp9 ro9 ho9 de9), (tby, iA G 240 fby)]) hC hK hl hP hD hS hA (t_store l G tp9 bb tby 0 tln tsp (CKD fby kt ks13695) (nI ks13695) (nI (TKE fby kt ks13695)) tf13696 tlnc kln13697 gtln3698 tspc ksp13699 gtsp3700 bpersons bpapers bstamps bversions blines bsteps bsayings bfindings bwarnings bquestions td vd vl gp bversionsc kbversions fbversions blinesc kblines fblines bstepsc kbsteps fbsteps (hq3709) (hq3710) (a3715) (hkblines) (hkbsteps)) si_X11_236 [13, 9, 10, 11, 12, 1, 2, 3, 4, 5, 6, 7] [0, 8] sm_13_9_10_11_12_1_2_3_4_5_6_7 fm_13_9_10_11_12_1_2_3_4_5_6_7 nd_13_9_10_11_12_1_2_3_4_5_6_7 sm_0_8 nd_0_8 dj_13_9_10_11_12_1_2_3_4_5_6_7__0_8 rfl rfl rfl rfl rfl (Nat.le_of_ble_eq_true rfl) rm_33_3_7 ⟨Nat.le_of_ble_eq_true rfl, Nat.le_of_ble_eq_true rfl⟩ gX11_read_2.2.2.2.2.1 (fun r3716 => Ktu5 fun kl13718 kp13719 gversions3720 glines3721 gsteps3722 => ?_)
      intro H locs hr3716 hP hD hS
      try dsimp only at hr3716
      refine Kpdr (ws := [(h0, oX11 bb kk ikp sg do9 ru9 ta9 tp9 ro9 ho9 de9), (tby, iA G 240 fby), (tp9, oX10 tby 0 tln tsp (CKD fby kt ks13695) (nI ks13695) (nI (TKE fby kt ks13695)) tf13696), (tln, oX8 9 7 tlnc (nI kln13697)), (tlnc, iA G 63 gtln3698), (tsp, oX8 120 1 tspc (nI ksp13699)), (tspc, iA G 120 gtsp3700), (bb, oX0 bpersons bpapers bstamps bversions blines bsteps bsayings bfindings bwarnings bquestions td vd vl gp), (bversions, oX8 8 3 bversionsc (nI (kbversions + 1))), (bversionsc, iA G 24 gversions3720), (blines, oX8 72 7 blinesc (nI kl13718)), (blinesc, iA G 504 glines3721), (bsteps, oX8 960 1 bstepsc (nI kp13719)), (bstepsc, iA G 960 gsteps3722)]) hP hD (fun hP hD => ?_)
      obtain ⟨hr3716, w3723⟩ := hr3716
      obtain rfl := hr3716
      refine toQ hQ0 ?_
      exact RI (v := nI kbversions) hC hP hD hS [0, 2, 1, 3, 4, 5, 6, 7, 8, 9, 10, 11, 12, 13] (CKD fby kt ks13695, nI ks13695, nI (TKE fby kt ks13695), tf13696, 0, kln13697, gtln3698, ksp13699, gtsp3700, (kbversions + 1), kl13718, kp13719, gversions3720, glines3721, gsteps3722) rfl rfl (by decide) (⟨⟨_, ⟨Or.inr ⟨_, _, _, hq3705, Or.inr ⟨by omega, rfl⟩⟩, ((ifc_t rfl).trans (nI_1 kbversions)).symm⟩, rfl⟩, (by dsimp only; omega)⟩) rfl gX11_read_2.2.2.2.2.2
  · obtain ⟨hq3725, hq3726, hq3727, hq3728⟩ := a3704
    refine lv_istore_n (lv' := [(1, .int (nI ks13695)), (0, .ref h0)]) hx hb gX11_read_0.2.2.2.1 rfl hl (by decide) rfl (fun ls hl => ?_)
    refine lv_aload_n hx hb gX11_read_0.2.2.2.2.1 rfl (lv_at1 hl) ?_
    refine gf_X11_58 hC rfl hK hP 0 rfl rfl gX11_read_0.2.2.2.2.2.1 ?_
    refine vV (wr := [(h0, oX11 bb kk ikp sg do9 ru9 ta9 tp9 ro9 ho9 de9), (bb, oX0 bpersons bpapers bstamps bversions blines bsteps bsayings bfindings bwarnings bquestions td vd vl gp), (bversions, oX8 8 3 bversionsc (nI kbversions)), (bversionsc, iA G 24 fbversions), (blines, oX8 72 7 blinesc (nI kblines)), (blinesc, iA G 504 fblines), (bsteps, oX8 960 1 bstepsc (nI kbsteps)), (bstepsc, iA G 960 fbsteps), (tby, iA G 240 fby), (tln, oX8 9 7 tlnc (nI kln13697)), (tlnc, iA G 63 gtln3698), (tsp, oX8 120 1 tspc (nI ksp13699)), (tspc, iA G 120 gtsp3700)]) hC hK hl hP hD hS hA (t_clear l G tp9 tby kt tln tsp (CKD fby kt ks13695) (nI ks13695) (nI (TKE fby kt ks13695)) tf13696) si_X11_230 [8] [0, 1, 2, 3, 4, 5, 6, 7, 9, 10, 11, 12, 13] sm_8 fm_8 nd_8 sm_0_1_2_3_4_5_6_7_9_10_11_12_13 nd_0_1_2_3_4_5_6_7_9_10_11_12_13 dj_8__0_1_2_3_4_5_6_7_9_10_11_12_13 rfl rfl rfl rfl rfl (Nat.le_of_ble_eq_true rfl) rm_33_1_1 ⟨Nat.le_of_ble_eq_true rfl, Nat.le_of_ble_eq_true rfl⟩ gX11_read_0.2.2.2.2.2.2.1 (fun u3730 H locs hr3729 hP hD hS => ?_)
    refine Kpdr (ws := [(h0, oX11 bb kk ikp sg do9 ru9 ta9 tp9 ro9 ho9 de9), (bb, oX0 bpersons bpapers bstamps bversions blines bsteps bsayings bfindings bwarnings bquestions td vd vl gp), (bversions, oX8 8 3 bversionsc (nI kbversions)), (bversionsc, iA G 24 fbversions), (blines, oX8 72 7 blinesc (nI kblines)), (blinesc, iA G 504 fblines), (bsteps, oX8 960 1 bstepsc (nI kbsteps)), (bstepsc, iA G 960 fbsteps), (tby, iA G 240 fby), (tln, oX8 9 7 tlnc (nI kln13697)), (tlnc, iA G 63 gtln3698), (tsp, oX8 120 1 tspc (nI ksp13699)), (tspc, iA G 120 gtsp3700), (tp9, oX10 tby 0 tln tsp (CKD fby kt ks13695) (nI ks13695) (nI (TKE fby kt ks13695)) tf13696)]) hP hD (fun hP hD => ?_)
    refine lv_iload_n hx hb gX11_read_0.2.2.2.2.2.2.2.1 rfl (lv_at0 hl) ?_
    refine lv_if_lt (tgt := 24) hx hb gX11_read_0.2.2.2.2.2.2.2.2.1 (by decide) (fun c9 => absurd c9 (nI_pos (by omega))) (fun _ => ?_)
    refine lv_bipush (v := (-100)) hx hb gX11_read_0.2.2.2.2.2.2.2.2.2 (by decide) ?_
    refine lv_iload_n hx hb gX11_read_1.1 rfl (lv_at0 hl) ?_
    refine lv_isub hx hb gX11_read_1.2.1 ?_
    refine toQ hQ0 ?_
    exact RI (v := (-100) - (nI ks13695)) hC hP hD hS [0, 13, 8, 9, 10, 11, 12, 1, 2, 3, 4, 5, 6, 7] (CKD fby kt ks13695, nI ks13695, nI (TKE fby kt ks13695), tf13696, 0, kln13697, gtln3698, ksp13699, gtsp3700, kbversions, kblines, kbsteps, fbversions, fblines, fbsteps) rfl rfl (by decide) (⟨⟨_, ⟨Or.inl ⟨_, hq3725, rfl⟩, (ifc_f (RDQ.nf (by omega) (by omega))).symm⟩, rfl⟩, (by dsimp only; omega)⟩) rfl gX11_read_1.2.2.1
