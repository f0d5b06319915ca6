section WR
variable {p : Program} {l : Launch} {e : Env} {R : Room} {s : State} {m : MethodId} {args : Array Value} {below : List Frame} {meth : Method} {c : Code} {H : Heap} {locs : List Loc} {cells slots : Nat} {Q : State → Prop}
variable {pc : Nat} {ls : Array Slot} {rest : List Value} {G : GG} {ws : va_W} {A : Nat → Prop} {y0 : MethodName} {b0 : ByteArray} {mL0 : Nat} {rt0 : Option FieldType} {a : Nat} {H0 : Heap}
end WR
theorem Wi6 {v : Int32} (h : Wi v 0 6) : ∃ j, j < 7 ∧ v = nI j := by
  obtain ⟨j, hj, e⟩ := Wi_nat (N := 6) (by decide) h
  exact ⟨j, by omega, e⟩
section WR
variable {p : Program} {l : Launch} {e : Env} {R : Room} {s : State} {m : MethodId} {args : Array Value} {below : List Frame} {meth : Method} {c : Code} {H : Heap} {locs : List Loc} {cells slots : Nat} {Q : State → Prop}
variable {pc : Nat} {ls : Array Slot} {rest : List Value} {G : GG} {ws : va_W} {A : Nat → Prop} {y0 : MethodName} {b0 : ByteArray} {mL0 : Nat} {rt0 : Option FieldType} {a : Nat} {H0 : Heap}
theorem dX2_kindOfPaper_0 : decode cX2_kindOfPaper 0 = .ok (.aload_n 0, 1) := by decide +kernel
theorem dX2_kindOfPaper_1 : decode cX2_kindOfPaper 1 = .ok (.getfield 15, 3) := by decide +kernel
theorem m_176 : Cond.fieldLink RX2 15 "InquiryBench$Deale\x72" "book" "LInquiryBench$Book;" ∈ BW := List.mem_of_getElem? (i := 176) (by decide +kernel)
theorem gf_X2_15 (hC : CX p s m meth c y0 b0 mL0 rt0 args) (hy0 : y0.cls = RX2) (hK : KK G s) (hP : va_P G.1 vwCl ws H) (q0 : Nat) {fs : List Value} {v : Value} (he : ws[q0]? = some (a, .inr (2, fs))) (hv : fs[0]? = some v) (hdg : decode b0 pc = .ok (.getfield 15, 3)) (kk : W p l e R s m args below meth c H locs cells slots Q (F0 m (pc + 3) ls (v :: rest))) : W p l e R s m args below meth c H locs cells slots Q (F0 m pc ls (.ref a :: rest)) := by
  obtain ⟨hx, hb, hr, hml, hB, hown, hlocks, hnm⟩ := hC
  rw [hy0] at hown
  exact va_get (ci := 2) (C := RX2) (T := TX2) (N := 8) hx hb hB in_X2 hown hK.1 hP q0 he rfl 0 (by decide) (hB _ m_176) (fun _ h => h) hv hdg kk
theorem dX2_kindOfPaper_4 : decode cX2_kindOfPaper 4 = .ok (.getfield 43, 3) := by decide +kernel
theorem nm_5 : Cond.fieldLinkNest RX2 43 RX0 "papers" "LInquiryBench$Table;" RX11 ∈ NestW := List.mem_of_getElem? (i := 5) (by decide +kernel)
theorem gf_X2_43 (hC : CX p s m meth c y0 b0 mL0 rt0 args) (hy0 : y0.cls = RX2) (hK : KK G s) (hP : va_P G.1 vwCl ws H) (q0 : Nat) {fs : List Value} {v : Value} (he : ws[q0]? = some (a, .inr (0, fs))) (hv : fs[1]? = some v) (hdg : decode b0 pc = .ok (.getfield 43, 3)) (kk : W p l e R s m args below meth c H locs cells slots Q (F0 m (pc + 3) ls (v :: rest))) : W p l e R s m args below meth c H locs cells slots Q (F0 m pc ls (.ref a :: rest)) := by
  obtain ⟨hx, hb, hr, hml, hB, hown, hlocks, hnm⟩ := hC
  rw [hy0] at hown
  exact va_getN (ci := 0) (C := RX0) (T := TX0) (N := 14) hx hb hB in_X0 hown hK.1 hP q0 he rfl 1 (by decide) (va_Nw.use rfl (hK.2.1 _ nm_5)) (fun _ h => h) hv hdg kk
theorem dX2_kindOfPaper_7 : decode cX2_kindOfPaper 7 = .ok (.iload_n 1, 1) := by decide +kernel
theorem dX2_kindOfPaper_8 : decode cX2_kindOfPaper 8 = .ok (.iconst 1, 1) := by decide +kernel
theorem dX2_kindOfPaper_9 : decode cX2_kindOfPaper 9 = .ok (.invokevirtual 49, 3) := by decide +kernel
theorem m_1296 : Cond.methodLink RX2 49 yX8_at ∈ BW := List.mem_of_getElem? (i := 1296) (by decide +kernel)
theorem si_X2_49 : SV RX2 RX8 49 yX8_at cX8_at 3 (some .int) 2 := ⟨⟨m_1296, m_239, m_240, m_56, m_241⟩, rfl, by decide +kernel, by decide +kernel, by decide +kernel⟩
theorem dX2_kindOfPaper_12 : decode cX2_kindOfPaper 12 = .ok (.iconst 1, 1) := by decide +kernel
theorem dX2_kindOfPaper_13 : decode cX2_kindOfPaper 13 = .ok (.aload_n 0, 1) := by decide +kernel
theorem dX2_kindOfPaper_14 : decode cX2_kindOfPaper 14 = .ok (.getfield 15, 3) := by decide +kernel
theorem dX2_kindOfPaper_17 : decode cX2_kindOfPaper 17 = .ok (.getfield 43, 3) := by decide +kernel
theorem dX2_kindOfPaper_20 : decode cX2_kindOfPaper 20 = .ok (.iload_n 1, 1) := by decide +kernel
theorem dX2_kindOfPaper_21 : decode cX2_kindOfPaper 21 = .ok (.iconst 0, 1) := by decide +kernel
theorem dX2_kindOfPaper_22 : decode cX2_kindOfPaper 22 = .ok (.invokevirtual 49, 3) := by decide +kernel
theorem dX2_kindOfPaper_25 : decode cX2_kindOfPaper 25 = .ok (.ishl, 1) := by decide +kernel
theorem dX2_kindOfPaper_26 : decode cX2_kindOfPaper 26 = .ok (.iconst (-1), 1) := by decide +kernel
theorem dX2_kindOfPaper_27 : decode cX2_kindOfPaper 27 = .ok (.ixor, 1) := by decide +kernel
theorem dX2_kindOfPaper_28 : decode cX2_kindOfPaper 28 = .ok (.iand, 1) := by decide +kernel
theorem dX2_kindOfPaper_29 : decode cX2_kindOfPaper 29 = .ok (.istore_n 2, 1) := by decide +kernel
theorem dX2_kindOfPaper_30 : decode cX2_kindOfPaper 30 = .ok (.iload_n 2, 1) := by decide +kernel
theorem dX2_kindOfPaper_31 : decode cX2_kindOfPaper 31 = .ok (.ifCond .ne 5, 3) := by decide +kernel
theorem dX2_kindOfPaper_36 : decode cX2_kindOfPaper 36 = .ok (.aload_n 0, 1) := by decide +kernel
theorem dX2_kindOfPaper_37 : decode cX2_kindOfPaper 37 = .ok (.getfield 15, 3) := by decide +kernel
theorem dX2_kindOfPaper_40 : decode cX2_kindOfPaper 40 = .ok (.getfield 43, 3) := by decide +kernel
theorem dX2_kindOfPaper_43 : decode cX2_kindOfPaper 43 = .ok (.iload_n 1, 1) := by decide +kernel
theorem dX2_kindOfPaper_44 : decode cX2_kindOfPaper 44 = .ok (.iconst 3, 1) := by decide +kernel
theorem dX2_kindOfPaper_45 : decode cX2_kindOfPaper 45 = .ok (.invokevirtual 49, 3) := by decide +kernel
theorem dX2_kindOfPaper_48 : decode cX2_kindOfPaper 48 = .ok (.ifCond .le 7, 3) := by decide +kernel
theorem dX2_kindOfPaper_55 : decode cX2_kindOfPaper 55 = .ok (.iconst 1, 1) := by decide +kernel
theorem dX2_kindOfPaper_56 : decode cX2_kindOfPaper 56 = .ok (.ireturn, 1) := by decide +kernel
theorem dX2_kindOfPaper_51 : decode cX2_kindOfPaper 51 = .ok (.iconst 3, 1) := by decide +kernel
theorem dX2_kindOfPaper_52 : decode cX2_kindOfPaper 52 = .ok (.goto 4, 3) := by decide +kernel
theorem dX2_kindOfPaper_34 : decode cX2_kindOfPaper 34 = .ok (.iconst 2, 1) := by decide +kernel
theorem dX2_kindOfPaper_35 : decode cX2_kindOfPaper 35 = .ok (.ireturn, 1) := by decide +kernel
theorem dX2_grasp_0 : decode cX2_grasp 0 = .ok (.aload_n 0, 1) := by decide +kernel
theorem dX2_grasp_1 : decode cX2_grasp 1 = .ok (.iload_n 2, 1) := by decide +kernel
theorem dX2_grasp_2 : decode cX2_grasp 2 = .ok (.putfield 26, 3) := by decide +kernel
theorem m_179 : Cond.fieldLink RX2 26 "InquiryBench$Deale\x72" "n" "I" ∈ BW := List.mem_of_getElem? (i := 179) (by decide +kernel)
theorem pf_X2_26 (hC : CX p s m meth c y0 b0 mL0 rt0 args) (hy0 : y0.cls = RX2) (hK : KK G s) (hP : va_P G.1 vwCl ws H) (hD : va_D A ws) (hS : va_S A H0 H locs) (q0 : Nat) {fs : List Value} {v : Value} {ws' : va_W} (he : ws[q0]? = some (a, .inr (2, fs))) (hl : 4 < fs.length) (hws : ws.set q0 (a, .inr (2, fs.set 4 v)) = ws') (hn : narrow .int v = v) (hfit : fits .int v = true) (hdg : decode b0 pc = .ok (.putfield 26, 3)) (kk : ∀ (H1 : Heap) (locs1 : List Loc), va_P G.1 vwCl ws' H1 → va_D A ws' → va_S A H0 H1 locs1 → W p l e R s m args below meth c H1 locs1 cells slots Q (F0 m (pc + 3) ls rest)) : W p l e R s m args below meth c H locs cells slots Q (F0 m pc ls (v :: .ref a :: rest)) := by
  obtain ⟨hx, hb, hr, hml, hB, hown, hlocks, hnm⟩ := hC
  rw [hy0] at hown
  subst hws
  exact va_put (ci := 2) (ty := .int) (C := RX2) (T := TX2) (N := 8) hx hb hB in_X2 tyX2 tyX2_ok nmX2 hown hK.1 hP hD hS q0 he rfl 4 (by decide) (hB _ m_179) (fun _ h => h) rfl (by decide +kernel) hn hfit hl hdg kk
theorem dX2_grasp_5 : decode cX2_grasp 5 = .ok (.iload_n 1, 1) := by decide +kernel
theorem dX2_grasp_6 : decode cX2_grasp 6 = .ok (.ifCond .ne 47, 3) := by decide +kernel
theorem dX2_grasp_53 : decode cX2_grasp 53 = .ok (.iload_n 1, 1) := by decide +kernel
theorem dX2_grasp_54 : decode cX2_grasp 54 = .ok (.iconst 1, 1) := by decide +kernel
theorem dX2_grasp_55 : decode cX2_grasp 55 = .ok (.if_icmp .ne 63, 3) := by decide +kernel
theorem dX2_grasp_118 : decode cX2_grasp 118 = .ok (.aload_n 0, 1) := by decide +kernel
theorem dX2_grasp_119 : decode cX2_grasp 119 = .ok (.bipush 6, 2) := by decide +kernel
theorem dX2_grasp_121 : decode cX2_grasp 121 = .ok (.putfield 23, 3) := by decide +kernel
theorem m_178 : Cond.fieldLink RX2 23 "InquiryBench$Deale\x72" "kind" "I" ∈ BW := List.mem_of_getElem? (i := 178) (by decide +kernel)
theorem pf_X2_23 (hC : CX p s m meth c y0 b0 mL0 rt0 args) (hy0 : y0.cls = RX2) (hK : KK G s) (hP : va_P G.1 vwCl ws H) (hD : va_D A ws) (hS : va_S A H0 H locs) (q0 : Nat) {fs : List Value} {v : Value} {ws' : va_W} (he : ws[q0]? = some (a, .inr (2, fs))) (hl : 3 < fs.length) (hws : ws.set q0 (a, .inr (2, fs.set 3 v)) = ws') (hn : narrow .int v = v) (hfit : fits .int v = true) (hdg : decode b0 pc = .ok (.putfield 23, 3)) (kk : ∀ (H1 : Heap) (locs1 : List Loc), va_P G.1 vwCl ws' H1 → va_D A ws' → va_S A H0 H1 locs1 → W p l e R s m args below meth c H1 locs1 cells slots Q (F0 m (pc + 3) ls rest)) : W p l e R s m args below meth c H locs cells slots Q (F0 m pc ls (v :: .ref a :: rest)) := by
  obtain ⟨hx, hb, hr, hml, hB, hown, hlocks, hnm⟩ := hC
  rw [hy0] at hown
  subst hws
  exact va_put (ci := 2) (ty := .int) (C := RX2) (T := TX2) (N := 8) hx hb hB in_X2 tyX2 tyX2_ok nmX2 hown hK.1 hP hD hS q0 he rfl 3 (by decide) (hB _ m_178) (fun _ h => h) rfl (by decide +kernel) hn hfit hl hdg kk
theorem dX2_grasp_124 : decode cX2_grasp 124 = .ok (.aload_n 0, 1) := by decide +kernel
theorem dX2_grasp_125 : decode cX2_grasp 125 = .ok (.aload_n 0, 1) := by decide +kernel
theorem dX2_grasp_126 : decode cX2_grasp 126 = .ok (.getfield 15, 3) := by decide +kernel
theorem dX2_grasp_129 : decode cX2_grasp 129 = .ok (.getfield 58, 3) := by decide +kernel
theorem nm_24 : Cond.fieldLinkNest RX2 58 RX0 "findings" "LInquiryBench$Table;" RX11 ∈ NestW := List.mem_of_getElem? (i := 24) (by decide +kernel)
theorem gf_X2_58 (hC : CX p s m meth c y0 b0 mL0 rt0 args) (hy0 : y0.cls = RX2) (hK : KK G s) (hP : va_P G.1 vwCl ws H) (q0 : Nat) {fs : List Value} {v : Value} (he : ws[q0]? = some (a, .inr (0, fs))) (hv : fs[7]? = some v) (hdg : decode b0 pc = .ok (.getfield 58, 3)) (kk : W p l e R s m args below meth c H locs cells slots Q (F0 m (pc + 3) ls (v :: rest))) : W p l e R s m args below meth c H locs cells slots Q (F0 m pc ls (.ref a :: rest)) := by
  obtain ⟨hx, hb, hr, hml, hB, hown, hlocks, hnm⟩ := hC
  rw [hy0] at hown
  exact va_getN (ci := 0) (C := RX0) (T := TX0) (N := 14) hx hb hB in_X0 hown hK.1 hP q0 he rfl 7 (by decide) (va_Nw.use rfl (hK.2.1 _ nm_24)) (fun _ h => h) hv hdg kk
theorem dX2_grasp_132 : decode cX2_grasp 132 = .ok (.iload_n 2, 1) := by decide +kernel
theorem dX2_grasp_133 : decode cX2_grasp 133 = .ok (.iconst 0, 1) := by decide +kernel
theorem dX2_grasp_134 : decode cX2_grasp 134 = .ok (.invokevirtual 49, 3) := by decide +kernel
theorem dX2_grasp_137 : decode cX2_grasp 137 = .ok (.putfield 29, 3) := by decide +kernel
theorem m_180 : Cond.fieldLink RX2 29 "InquiryBench$Deale\x72" "p" "I" ∈ BW := List.mem_of_getElem? (i := 180) (by decide +kernel)
theorem pf_X2_29 (hC : CX p s m meth c y0 b0 mL0 rt0 args) (hy0 : y0.cls = RX2) (hK : KK G s) (hP : va_P G.1 vwCl ws H) (hD : va_D A ws) (hS : va_S A H0 H locs) (q0 : Nat) {fs : List Value} {v : Value} {ws' : va_W} (he : ws[q0]? = some (a, .inr (2, fs))) (hl : 5 < fs.length) (hws : ws.set q0 (a, .inr (2, fs.set 5 v)) = ws') (hn : narrow .int v = v) (hfit : fits .int v = true) (hdg : decode b0 pc = .ok (.putfield 29, 3)) (kk : ∀ (H1 : Heap) (locs1 : List Loc), va_P G.1 vwCl ws' H1 → va_D A ws' → va_S A H0 H1 locs1 → W p l e R s m args below meth c H1 locs1 cells slots Q (F0 m (pc + 3) ls rest)) : W p l e R s m args below meth c H locs cells slots Q (F0 m pc ls (v :: .ref a :: rest)) := by
  obtain ⟨hx, hb, hr, hml, hB, hown, hlocks, hnm⟩ := hC
  rw [hy0] at hown
  subst hws
  exact va_put (ci := 2) (ty := .int) (C := RX2) (T := TX2) (N := 8) hx hb hB in_X2 tyX2 tyX2_ok nmX2 hown hK.1 hP hD hS q0 he rfl 5 (by decide) (hB _ m_180) (fun _ h => h) rfl (by decide +kernel) hn hfit hl hdg kk
theorem dX2_grasp_140 : decode cX2_grasp 140 = .ok (.aload_n 0, 1) := by decide +kernel
theorem dX2_grasp_141 : decode cX2_grasp 141 = .ok (.aload_n 0, 1) := by decide +kernel
theorem dX2_grasp_142 : decode cX2_grasp 142 = .ok (.getfield 15, 3) := by decide +kernel
theorem dX2_grasp_145 : decode cX2_grasp 145 = .ok (.getfield 58, 3) := by decide +kernel
theorem dX2_grasp_148 : decode cX2_grasp 148 = .ok (.iload_n 2, 1) := by decide +kernel
theorem dX2_grasp_149 : decode cX2_grasp 149 = .ok (.iconst 2, 1) := by decide +kernel
theorem dX2_grasp_150 : decode cX2_grasp 150 = .ok (.invokevirtual 49, 3) := by decide +kernel
theorem dX2_grasp_153 : decode cX2_grasp 153 = .ok (.putfield 32, 3) := by decide +kernel
theorem m_181 : Cond.fieldLink RX2 32 "InquiryBench$Deale\x72" "a" "I" ∈ BW := List.mem_of_getElem? (i := 181) (by decide +kernel)
theorem pf_X2_32 (hC : CX p s m meth c y0 b0 mL0 rt0 args) (hy0 : y0.cls = RX2) (hK : KK G s) (hP : va_P G.1 vwCl ws H) (hD : va_D A ws) (hS : va_S A H0 H locs) (q0 : Nat) {fs : List Value} {v : Value} {ws' : va_W} (he : ws[q0]? = some (a, .inr (2, fs))) (hl : 6 < fs.length) (hws : ws.set q0 (a, .inr (2, fs.set 6 v)) = ws') (hn : narrow .int v = v) (hfit : fits .int v = true) (hdg : decode b0 pc = .ok (.putfield 32, 3)) (kk : ∀ (H1 : Heap) (locs1 : List Loc), va_P G.1 vwCl ws' H1 → va_D A ws' → va_S A H0 H1 locs1 → W p l e R s m args below meth c H1 locs1 cells slots Q (F0 m (pc + 3) ls rest)) : W p l e R s m args below meth c H locs cells slots Q (F0 m pc ls (v :: .ref a :: rest)) := by
  obtain ⟨hx, hb, hr, hml, hB, hown, hlocks, hnm⟩ := hC
  rw [hy0] at hown
  subst hws
  exact va_put (ci := 2) (ty := .int) (C := RX2) (T := TX2) (N := 8) hx hb hB in_X2 tyX2 tyX2_ok nmX2 hown hK.1 hP hD hS q0 he rfl 6 (by decide) (hB _ m_181) (fun _ h => h) rfl (by decide +kernel) hn hfit hl hdg kk
theorem dX2_grasp_156 : decode cX2_grasp 156 = .ok (.return_, 1) := by decide +kernel
theorem dX2_grasp_58 : decode cX2_grasp 58 = .ok (.aload_n 0, 1) := by decide +kernel
theorem dX2_grasp_59 : decode cX2_grasp 59 = .ok (.aload_n 0, 1) := by decide +kernel
theorem dX2_grasp_60 : decode cX2_grasp 60 = .ok (.getfield 15, 3) := by decide +kernel
theorem dX2_grasp_63 : decode cX2_grasp 63 = .ok (.getfield 55, 3) := by decide +kernel
theorem nm_21 : Cond.fieldLinkNest RX2 55 RX0 "sayings" "LInquiryBench$Table;" RX11 ∈ NestW := List.mem_of_getElem? (i := 21) (by decide +kernel)
theorem gf_X2_55 (hC : CX p s m meth c y0 b0 mL0 rt0 args) (hy0 : y0.cls = RX2) (hK : KK G s) (hP : va_P G.1 vwCl ws H) (q0 : Nat) {fs : List Value} {v : Value} (he : ws[q0]? = some (a, .inr (0, fs))) (hv : fs[6]? = some v) (hdg : decode b0 pc = .ok (.getfield 55, 3)) (kk : W p l e R s m args below meth c H locs cells slots Q (F0 m (pc + 3) ls (v :: rest))) : W p l e R s m args below meth c H locs cells slots Q (F0 m pc ls (.ref a :: rest)) := by
  obtain ⟨hx, hb, hr, hml, hB, hown, hlocks, hnm⟩ := hC
  rw [hy0] at hown
  exact va_getN (ci := 0) (C := RX0) (T := TX0) (N := 14) hx hb hB in_X0 hown hK.1 hP q0 he rfl 6 (by decide) (va_Nw.use rfl (hK.2.1 _ nm_21)) (fun _ h => h) hv hdg kk
theorem dX2_grasp_66 : decode cX2_grasp 66 = .ok (.iload_n 2, 1) := by decide +kernel
theorem dX2_grasp_67 : decode cX2_grasp 67 = .ok (.bipush 6, 2) := by decide +kernel
theorem dX2_grasp_69 : decode cX2_grasp 69 = .ok (.invokevirtual 49, 3) := by decide +kernel
theorem dX2_grasp_72 : decode cX2_grasp 72 = .ok (.ifCond .ge 7, 3) := by decide +kernel
theorem dX2_grasp_79 : decode cX2_grasp 79 = .ok (.iconst 4, 1) := by decide +kernel
theorem dX2_grasp_80 : decode cX2_grasp 80 = .ok (.putfield 23, 3) := by decide +kernel
theorem dX2_grasp_83 : decode cX2_grasp 83 = .ok (.aload_n 0, 1) := by decide +kernel
theorem dX2_grasp_84 : decode cX2_grasp 84 = .ok (.aload_n 0, 1) := by decide +kernel
theorem dX2_grasp_85 : decode cX2_grasp 85 = .ok (.getfield 15, 3) := by decide +kernel
theorem dX2_grasp_88 : decode cX2_grasp 88 = .ok (.getfield 55, 3) := by decide +kernel
theorem dX2_grasp_91 : decode cX2_grasp 91 = .ok (.iload_n 2, 1) := by decide +kernel
theorem dX2_grasp_92 : decode cX2_grasp 92 = .ok (.iconst 0, 1) := by decide +kernel
theorem dX2_grasp_93 : decode cX2_grasp 93 = .ok (.invokevirtual 49, 3) := by decide +kernel
theorem dX2_grasp_96 : decode cX2_grasp 96 = .ok (.putfield 29, 3) := by decide +kernel
theorem dX2_grasp_99 : decode cX2_grasp 99 = .ok (.aload_n 0, 1) := by decide +kernel
theorem dX2_grasp_100 : decode cX2_grasp 100 = .ok (.aload_n 0, 1) := by decide +kernel
theorem dX2_grasp_101 : decode cX2_grasp 101 = .ok (.getfield 15, 3) := by decide +kernel
theorem dX2_grasp_104 : decode cX2_grasp 104 = .ok (.getfield 55, 3) := by decide +kernel
theorem dX2_grasp_107 : decode cX2_grasp 107 = .ok (.iload_n 2, 1) := by decide +kernel
theorem dX2_grasp_108 : decode cX2_grasp 108 = .ok (.iconst 4, 1) := by decide +kernel
theorem dX2_grasp_109 : decode cX2_grasp 109 = .ok (.invokevirtual 49, 3) := by decide +kernel
theorem dX2_grasp_112 : decode cX2_grasp 112 = .ok (.putfield 32, 3) := by decide +kernel
theorem dX2_grasp_115 : decode cX2_grasp 115 = .ok (.goto 41, 3) := by decide +kernel
theorem dX2_grasp_75 : decode cX2_grasp 75 = .ok (.iconst 5, 1) := by decide +kernel
theorem dX2_grasp_76 : decode cX2_grasp 76 = .ok (.goto 4, 3) := by decide +kernel
theorem dX2_grasp_9 : decode cX2_grasp 9 = .ok (.aload_n 0, 1) := by decide +kernel
theorem dX2_grasp_10 : decode cX2_grasp 10 = .ok (.aload_n 0, 1) := by decide +kernel
theorem dX2_grasp_11 : decode cX2_grasp 11 = .ok (.iload_n 2, 1) := by decide +kernel
theorem dX2_grasp_12 : decode cX2_grasp 12 = .ok (.invokevirtual 39, 3) := by decide +kernel
theorem m_1295 : Cond.code yX2_kindOfPaper cX2_kindOfPaper 3 (some .int) ∈ BW := List.mem_of_getElem? (i := 1295) (by decide +kernel)
theorem m_1292 : Cond.methodLink RX2 39 yX2_kindOfPaper ∈ BW := List.mem_of_getElem? (i := 1292) (by decide +kernel)
theorem m_1293 : Cond.instanceMethod yX2_kindOfPaper ∈ BW := List.mem_of_getElem? (i := 1293) (by decide +kernel)
theorem m_1294 : Cond.selects RX2 yX2_kindOfPaper yX2_kindOfPaper ∈ BW := List.mem_of_getElem? (i := 1294) (by decide +kernel)
theorem si_X2_39 : SV RX2 RX2 39 yX2_kindOfPaper cX2_kindOfPaper 3 (some .int) 1 := ⟨⟨m_1292, m_1293, m_1294, m_49, m_1295⟩, rfl, by decide +kernel, by decide +kernel, by decide +kernel⟩
theorem dX2_grasp_15 : decode cX2_grasp 15 = .ok (.putfield 23, 3) := by decide +kernel
theorem dX2_grasp_18 : decode cX2_grasp 18 = .ok (.aload_n 0, 1) := by decide +kernel
theorem dX2_grasp_19 : decode cX2_grasp 19 = .ok (.aload_n 0, 1) := by decide +kernel
theorem dX2_grasp_20 : decode cX2_grasp 20 = .ok (.getfield 15, 3) := by decide +kernel
theorem dX2_grasp_23 : decode cX2_grasp 23 = .ok (.getfield 43, 3) := by decide +kernel
theorem dX2_grasp_26 : decode cX2_grasp 26 = .ok (.iload_n 2, 1) := by decide +kernel
theorem dX2_grasp_27 : decode cX2_grasp 27 = .ok (.iconst 0, 1) := by decide +kernel
theorem dX2_grasp_28 : decode cX2_grasp 28 = .ok (.invokevirtual 49, 3) := by decide +kernel
theorem dX2_grasp_31 : decode cX2_grasp 31 = .ok (.putfield 29, 3) := by decide +kernel
theorem dX2_grasp_34 : decode cX2_grasp 34 = .ok (.aload_n 0, 1) := by decide +kernel
theorem dX2_grasp_35 : decode cX2_grasp 35 = .ok (.aload_n 0, 1) := by decide +kernel
theorem dX2_grasp_36 : decode cX2_grasp 36 = .ok (.getfield 15, 3) := by decide +kernel
theorem dX2_grasp_39 : decode cX2_grasp 39 = .ok (.getfield 43, 3) := by decide +kernel
theorem dX2_grasp_42 : decode cX2_grasp 42 = .ok (.iload_n 2, 1) := by decide +kernel
theorem dX2_grasp_43 : decode cX2_grasp 43 = .ok (.iconst 2, 1) := by decide +kernel
theorem dX2_grasp_44 : decode cX2_grasp 44 = .ok (.invokevirtual 49, 3) := by decide +kernel
theorem dX2_grasp_47 : decode cX2_grasp 47 = .ok (.putfield 32, 3) := by decide +kernel
theorem dX2_grasp_50 : decode cX2_grasp 50 = .ok (.goto 106, 3) := by decide +kernel
theorem dX2_clearTrace_0 : decode cX2_clearTrace 0 = .ok (.aload_n 0, 1) := by decide +kernel
theorem dX2_clearTrace_1 : decode cX2_clearTrace 1 = .ok (.iconst 0, 1) := by decide +kernel
theorem dX2_clearTrace_2 : decode cX2_clearTrace 2 = .ok (.putfield 19, 3) := by decide +kernel
theorem pf_X2_19 (hC : CX p s m meth c y0 b0 mL0 rt0 args) (hy0 : y0.cls = RX2) (hK : KK G s) (hP : va_P G.1 vwCl ws H) (hD : va_D A ws) (hS : va_S A H0 H locs) (q0 : Nat) {fs : List Value} {v : Value} {ws' : va_W} (he : ws[q0]? = some (a, .inr (2, fs))) (hl : 2 < fs.length) (hws : ws.set q0 (a, .inr (2, fs.set 2 v)) = ws') (hn : narrow .int v = v) (hfit : fits .int v = true) (hdg : decode b0 pc = .ok (.putfield 19, 3)) (kk : ∀ (H1 : Heap) (locs1 : List Loc), va_P G.1 vwCl ws' H1 → va_D A ws' → va_S A H0 H1 locs1 → W p l e R s m args below meth c H1 locs1 cells slots Q (F0 m (pc + 3) ls rest)) : W p l e R s m args below meth c H locs cells slots Q (F0 m pc ls (v :: .ref a :: rest)) := by
  obtain ⟨hx, hb, hr, hml, hB, hown, hlocks, hnm⟩ := hC
  rw [hy0] at hown
  subst hws
  exact va_put (ci := 2) (ty := .int) (C := RX2) (T := TX2) (N := 8) hx hb hB in_X2 tyX2 tyX2_ok nmX2 hown hK.1 hP hD hS q0 he rfl 2 (by decide) (hB _ m_177) (fun _ h => h) rfl (by decide +kernel) hn hfit hl hdg kk
theorem dX2_clearTrace_5 : decode cX2_clearTrace 5 = .ok (.return_, 1) := by decide +kernel
theorem dX2_isUnder_0 : decode cX2_isUnder 0 = .ok (.aload_n 0, 1) := by decide +kernel
theorem dX2_isUnder_1 : decode cX2_isUnder 1 = .ok (.getfield 23, 3) := by decide +kernel
theorem gf_X2_23 (hC : CX p s m meth c y0 b0 mL0 rt0 args) (hy0 : y0.cls = RX2) (hK : KK G s) (hP : va_P G.1 vwCl ws H) (q0 : Nat) {fs : List Value} {v : Value} (he : ws[q0]? = some (a, .inr (2, fs))) (hv : fs[3]? = some v) (hdg : decode b0 pc = .ok (.getfield 23, 3)) (kk : W p l e R s m args below meth c H locs cells slots Q (F0 m (pc + 3) ls (v :: rest))) : W p l e R s m args below meth c H locs cells slots Q (F0 m pc ls (.ref a :: rest)) := by
  obtain ⟨hx, hb, hr, hml, hB, hown, hlocks, hnm⟩ := hC
  rw [hy0] at hown
  exact va_get (ci := 2) (C := RX2) (T := TX2) (N := 8) hx hb hB in_X2 hown hK.1 hP q0 he rfl 3 (by decide) (hB _ m_178) (fun _ h => h) hv hdg kk
theorem dX2_isUnder_4 : decode cX2_isUnder 4 = .ok (.istore_n 2, 1) := by decide +kernel
theorem dX2_isUnder_5 : decode cX2_isUnder 5 = .ok (.iconst 0, 1) := by decide +kernel
theorem dX2_isUnder_6 : decode cX2_isUnder 6 = .ok (.istore_n 3, 1) := by decide +kernel
theorem dX2_isUnder_7 : decode cX2_isUnder 7 = .ok (.iload_n 3, 1) := by decide +kernel
theorem dX2_isUnder_8 : decode cX2_isUnder 8 = .ok (.bipush 7, 2) := by decide +kernel
theorem dX2_isUnder_10 : decode cX2_isUnder 10 = .ok (.if_icmp .ge 30, 3) := by decide +kernel
theorem dX2_isUnder_40 : decode cX2_isUnder 40 = .ok (.iload_n 2, 1) := by decide +kernel
theorem dX2_isUnder_41 : decode cX2_isUnder 41 = .ok (.iload_n 1, 1) := by decide +kernel
theorem dX2_isUnder_42 : decode cX2_isUnder 42 = .ok (.if_icmp .ne 17, 3) := by decide +kernel
theorem dX2_isUnder_59 : decode cX2_isUnder 59 = .ok (.iconst 0, 1) := by decide +kernel
theorem dX2_isUnder_60 : decode cX2_isUnder 60 = .ok (.ireturn, 1) := by decide +kernel
theorem dX2_isUnder_45 : decode cX2_isUnder 45 = .ok (.iload_n 2, 1) := by decide +kernel
theorem dX2_isUnder_46 : decode cX2_isUnder 46 = .ok (.iconst 0, 1) := by decide +kernel
theorem dX2_isUnder_47 : decode cX2_isUnder 47 = .ok (.bipush 6, 2) := by decide +kernel
theorem dX2_isUnder_49 : decode cX2_isUnder 49 = .ok (.invokestatic 61, 3) := by decide +kernel
theorem nm_55 : Cond.methodLinkNest RX2 61 yX11_within RX11 ∈ NestW := List.mem_of_getElem? (i := 55) (by decide +kernel)
theorem si_X2_61 : SSN RX2 RX11 61 yX11_within cX11_within 3 (some .boolean) 3 := ⟨⟨nm_55, m_213, m_2, m_214⟩, ⟨by decide +kernel, by decide +kernel, by decide +kernel⟩⟩
theorem dX2_isUnder_52 : decode cX2_isUnder 52 = .ok (.ifCond .eq 7, 3) := by decide +kernel
theorem dX2_isUnder_55 : decode cX2_isUnder 55 = .ok (.iconst 1, 1) := by decide +kernel
theorem dX2_isUnder_56 : decode cX2_isUnder 56 = .ok (.goto 4, 3) := by decide +kernel
theorem dX2_isUnder_13 : decode cX2_isUnder 13 = .ok (.iload_n 2, 1) := by decide +kernel
theorem dX2_isUnder_14 : decode cX2_isUnder 14 = .ok (.iload_n 1, 1) := by decide +kernel
theorem dX2_isUnder_15 : decode cX2_isUnder 15 = .ok (.if_icmp .eq 25, 3) := by decide +kernel
theorem dX2_isUnder_18 : decode cX2_isUnder 18 = .ok (.iload_n 2, 1) := by decide +kernel
theorem dX2_isUnder_19 : decode cX2_isUnder 19 = .ok (.iconst 0, 1) := by decide +kernel
theorem dX2_isUnder_20 : decode cX2_isUnder 20 = .ok (.bipush 6, 2) := by decide +kernel
theorem dX2_isUnder_22 : decode cX2_isUnder 22 = .ok (.invokestatic 61, 3) := by decide +kernel
theorem dX2_isUnder_25 : decode cX2_isUnder 25 = .ok (.ifCond .eq 15, 3) := by decide +kernel
theorem dX2_isUnder_28 : decode cX2_isUnder 28 = .ok (.getstatic 65, 3) := by decide +kernel
theorem m_1301 : Cond.fieldLink RX2 65 "InquiryBench$Deale\x72" "ABOVE" "[I" ∈ BW := List.mem_of_getElem? (i := 1301) (by decide +kernel)
theorem dX2_isUnder_31 : decode cX2_isUnder 31 = .ok (.iload_n 2, 1) := by decide +kernel
theorem dX2_isUnder_32 : decode cX2_isUnder 32 = .ok (.iaload, 1) := by decide +kernel
theorem dX2_isUnder_33 : decode cX2_isUnder 33 = .ok (.istore_n 2, 1) := by decide +kernel
theorem dX2_isUnder_34 : decode cX2_isUnder 34 = .ok (.iinc 3 1, 3) := by decide +kernel
theorem dX2_isUnder_37 : decode cX2_isUnder 37 = .ok (.goto (-30), 3) := by decide +kernel
theorem dX2_quotient_0 : decode cX2_quotient 0 = .ok (.aload_n 0, 1) := by decide +kernel
theorem dX2_quotient_1 : decode cX2_quotient 1 = .ok (.getfield 29, 3) := by decide +kernel
theorem gf_X2_29 (hC : CX p s m meth c y0 b0 mL0 rt0 args) (hy0 : y0.cls = RX2) (hK : KK G s) (hP : va_P G.1 vwCl ws H) (q0 : Nat) {fs : List Value} {v : Value} (he : ws[q0]? = some (a, .inr (2, fs))) (hv : fs[5]? = some v) (hdg : decode b0 pc = .ok (.getfield 29, 3)) (kk : W p l e R s m args below meth c H locs cells slots Q (F0 m (pc + 3) ls (v :: rest))) : W p l e R s m args below meth c H locs cells slots Q (F0 m pc ls (.ref a :: rest)) := by
  obtain ⟨hx, hb, hr, hml, hB, hown, hlocks, hnm⟩ := hC
  rw [hy0] at hown
  exact va_get (ci := 2) (C := RX2) (T := TX2) (N := 8) hx hb hB in_X2 hown hK.1 hP q0 he rfl 5 (by decide) (hB _ m_180) (fun _ h => h) hv hdg kk
theorem dX2_quotient_4 : decode cX2_quotient 4 = .ok (.aload_n 0, 1) := by decide +kernel
theorem dX2_quotient_5 : decode cX2_quotient 5 = .ok (.getfield 26, 3) := by decide +kernel
theorem gf_X2_26 (hC : CX p s m meth c y0 b0 mL0 rt0 args) (hy0 : y0.cls = RX2) (hK : KK G s) (hP : va_P G.1 vwCl ws H) (q0 : Nat) {fs : List Value} {v : Value} (he : ws[q0]? = some (a, .inr (2, fs))) (hv : fs[4]? = some v) (hdg : decode b0 pc = .ok (.getfield 26, 3)) (kk : W p l e R s m args below meth c H locs cells slots Q (F0 m (pc + 3) ls (v :: rest))) : W p l e R s m args below meth c H locs cells slots Q (F0 m pc ls (.ref a :: rest)) := by
  obtain ⟨hx, hb, hr, hml, hB, hown, hlocks, hnm⟩ := hC
  rw [hy0] at hown
  exact va_get (ci := 2) (C := RX2) (T := TX2) (N := 8) hx hb hB in_X2 hown hK.1 hP q0 he rfl 4 (by decide) (hB _ m_179) (fun _ h => h) hv hdg kk
theorem dX2_quotient_8 : decode cX2_quotient 8 = .ok (.isub, 1) := by decide +kernel
theorem dX2_quotient_9 : decode cX2_quotient 9 = .ok (.istore_n 2, 1) := by decide +kernel
theorem dX2_quotient_10 : decode cX2_quotient 10 = .ok (.iload_n 2, 1) := by decide +kernel
theorem dX2_quotient_11 : decode cX2_quotient 11 = .ok (.ifCond .ne 10, 3) := by decide +kernel
theorem dX2_quotient_21 : decode cX2_quotient 21 = .ok (.iload_n 1, 1) := by decide +kernel
theorem dX2_quotient_22 : decode cX2_quotient 22 = .ok (.iload_n 2, 1) := by decide +kernel
theorem dX2_quotient_23 : decode cX2_quotient 23 = .ok (.idiv, 1) := by decide +kernel
theorem dX2_quotient_24 : decode cX2_quotient 24 = .ok (.ireturn, 1) := by decide +kernel
theorem dX2_quotient_14 : decode cX2_quotient 14 = .ok (.aload_n 0, 1) := by decide +kernel
theorem dX2_quotient_15 : decode cX2_quotient 15 = .ok (.iconst 1, 1) := by decide +kernel
theorem dX2_quotient_16 : decode cX2_quotient 16 = .ok (.putfield 35, 3) := by decide +kernel
theorem m_182 : Cond.fieldLink RX2 35 "InquiryBench$Deale\x72" "parted" "Z" ∈ BW := List.mem_of_getElem? (i := 182) (by decide +kernel)
theorem pf_X2_35 (hC : CX p s m meth c y0 b0 mL0 rt0 args) (hy0 : y0.cls = RX2) (hK : KK G s) (hP : va_P G.1 vwCl ws H) (hD : va_D A ws) (hS : va_S A H0 H locs) (q0 : Nat) {fs : List Value} {v : Value} {ws' : va_W} (he : ws[q0]? = some (a, .inr (2, fs))) (hl : 7 < fs.length) (hws : ws.set q0 (a, .inr (2, fs.set 7 v)) = ws') (hn : narrow .boolean v = v) (hfit : fits .boolean v = true) (hdg : decode b0 pc = .ok (.putfield 35, 3)) (kk : ∀ (H1 : Heap) (locs1 : List Loc), va_P G.1 vwCl ws' H1 → va_D A ws' → va_S A H0 H1 locs1 → W p l e R s m args below meth c H1 locs1 cells slots Q (F0 m (pc + 3) ls rest)) : W p l e R s m args below meth c H locs cells slots Q (F0 m pc ls (v :: .ref a :: rest)) := by
  obtain ⟨hx, hb, hr, hml, hB, hown, hlocks, hnm⟩ := hC
  rw [hy0] at hown
  subst hws
  exact va_put (ci := 2) (ty := .boolean) (C := RX2) (T := TX2) (N := 8) hx hb hB in_X2 tyX2 tyX2_ok nmX2 hown hK.1 hP hD hS q0 he rfl 7 (by decide) (hB _ m_182) (fun _ h => h) rfl (by decide +kernel) hn hfit hl hdg kk
theorem dX2_quotient_19 : decode cX2_quotient 19 = .ok (.iconst 0, 1) := by decide +kernel
theorem dX2_quotient_20 : decode cX2_quotient 20 = .ok (.ireturn, 1) := by decide +kernel
theorem dX2_dealAs_0 : decode cX2_dealAs 0 = .ok (.iload_n 2, 1) := by decide +kernel
theorem dX2_dealAs_1 : decode cX2_dealAs 1 = .ok (.ifCond .lt 8, 3) := by decide +kernel
theorem dX2_dealAs_9 : decode cX2_dealAs 9 = .ok (.iconst 0, 1) := by decide +kernel
theorem dX2_dealAs_10 : decode cX2_dealAs 10 = .ok (.ireturn, 1) := by decide +kernel
theorem dX2_dealAs_4 : decode cX2_dealAs 4 = .ok (.iload_n 2, 1) := by decide +kernel
theorem dX2_dealAs_5 : decode cX2_dealAs 5 = .ok (.iconst 4, 1) := by decide +kernel
theorem dX2_dealAs_6 : decode cX2_dealAs 6 = .ok (.if_icmp .lt 5, 3) := by decide +kernel
theorem dX2_dealAs_11 : decode cX2_dealAs 11 = .ok (.iload_n 1, 1) := by decide +kernel
theorem dX2_dealAs_12 : decode cX2_dealAs 12 = .ok (.istore 5, 2) := by decide +kernel
theorem dX2_dealAs_14 : decode cX2_dealAs 14 = .ok (.iconst 0, 1) := by decide +kernel
theorem dX2_dealAs_15 : decode cX2_dealAs 15 = .ok (.istore 6, 2) := by decide +kernel
theorem dX2_dealAs_17 : decode cX2_dealAs 17 = .ok (.iload 6, 2) := by decide +kernel
theorem dX2_dealAs_19 : decode cX2_dealAs 19 = .ok (.bipush 7, 2) := by decide +kernel
theorem dX2_dealAs_21 : decode cX2_dealAs 21 = .ok (.if_icmp .ge 59, 3) := by decide +kernel
theorem dX2_dealAs_80 : decode cX2_dealAs 80 = .ok (.iconst 0, 1) := by decide +kernel
theorem dX2_dealAs_81 : decode cX2_dealAs 81 = .ok (.ireturn, 1) := by decide +kernel
theorem dX2_dealAs_24 : decode cX2_dealAs 24 = .ok (.iload 5, 2) := by decide +kernel
theorem dX2_dealAs_26 : decode cX2_dealAs 26 = .ok (.iconst 0, 1) := by decide +kernel
theorem dX2_dealAs_27 : decode cX2_dealAs 27 = .ok (.bipush 6, 2) := by decide +kernel
theorem dX2_dealAs_29 : decode cX2_dealAs 29 = .ok (.invokestatic 61, 3) := by decide +kernel
theorem dX2_dealAs_32 : decode cX2_dealAs 32 = .ok (.ifCond .eq 48, 3) := by decide +kernel
theorem dX2_dealAs_35 : decode cX2_dealAs 35 = .ok (.getstatic 72, 3) := by decide +kernel
theorem m_1329 : Cond.fieldLink RX2 72 "InquiryBench$Deale\x72" "BODIES" "[I" ∈ BW := List.mem_of_getElem? (i := 1329) (by decide +kernel)
theorem dX2_dealAs_38 : decode cX2_dealAs 38 = .ok (.iload 5, 2) := by decide +kernel
theorem dX2_dealAs_40 : decode cX2_dealAs 40 = .ok (.iconst 4, 1) := by decide +kernel
theorem dX2_dealAs_41 : decode cX2_dealAs 41 = .ok (.imul, 1) := by decide +kernel
theorem dX2_dealAs_42 : decode cX2_dealAs 42 = .ok (.iload_n 2, 1) := by decide +kernel
theorem dX2_dealAs_43 : decode cX2_dealAs 43 = .ok (.iadd, 1) := by decide +kernel
theorem dX2_dealAs_44 : decode cX2_dealAs 44 = .ok (.iaload, 1) := by decide +kernel
theorem dX2_dealAs_45 : decode cX2_dealAs 45 = .ok (.istore 7, 2) := by decide +kernel
theorem dX2_dealAs_47 : decode cX2_dealAs 47 = .ok (.iload 7, 2) := by decide +kernel
theorem dX2_dealAs_49 : decode cX2_dealAs 49 = .ok (.ifCond .eq 17, 3) := by decide +kernel
theorem dX2_dealAs_66 : decode cX2_dealAs 66 = .ok (.getstatic 65, 3) := by decide +kernel
theorem dX2_dealAs_69 : decode cX2_dealAs 69 = .ok (.iload 5, 2) := by decide +kernel
theorem dX2_dealAs_71 : decode cX2_dealAs 71 = .ok (.iaload, 1) := by decide +kernel
theorem dX2_dealAs_72 : decode cX2_dealAs 72 = .ok (.istore 5, 2) := by decide +kernel
theorem dX2_dealAs_74 : decode cX2_dealAs 74 = .ok (.iinc 6 1, 3) := by decide +kernel
theorem dX2_dealAs_77 : decode cX2_dealAs 77 = .ok (.goto (-60), 3) := by decide +kernel
theorem dX2_dealAs_52 : decode cX2_dealAs 52 = .ok (.aload_n 0, 1) := by decide +kernel
theorem dX2_dealAs_53 : decode cX2_dealAs 53 = .ok (.iload 7, 2) := by decide +kernel
theorem dX2_dealAs_55 : decode cX2_dealAs 55 = .ok (.iload 5, 2) := by decide +kernel
theorem dX2_dealAs_57 : decode cX2_dealAs 57 = .ok (.iload_n 3, 1) := by decide +kernel
theorem dX2_dealAs_58 : decode cX2_dealAs 58 = .ok (.iload 4, 2) := by decide +kernel
theorem dX2_dealAs_60 : decode cX2_dealAs 60 = .ok (.iconst 1, 1) := by decide +kernel
theorem dX2_dealAs_61 : decode cX2_dealAs 61 = .ok (.iadd, 1) := by decide +kernel
theorem dX2_dealAs_62 : decode cX2_dealAs 62 = .ok (.invokevirtual 75, 3) := by decide +kernel
theorem m_1333 : Cond.code yX2_run cX2_run 7 (some .int) ∈ BW := List.mem_of_getElem? (i := 1333) (by decide +kernel)
theorem m_1330 : Cond.methodLink RX2 75 yX2_run ∈ BW := List.mem_of_getElem? (i := 1330) (by decide +kernel)
theorem m_1331 : Cond.instanceMethod yX2_run ∈ BW := List.mem_of_getElem? (i := 1331) (by decide +kernel)
theorem m_1332 : Cond.selects RX2 yX2_run yX2_run ∈ BW := List.mem_of_getElem? (i := 1332) (by decide +kernel)
theorem si_X2_75 : SV RX2 RX2 75 yX2_run cX2_run 7 (some .int) 4 := ⟨⟨m_1330, m_1331, m_1332, m_49, m_1333⟩, rfl, by decide +kernel, by decide +kernel, by decide +kernel⟩
theorem dX2_dealAs_65 : decode cX2_dealAs 65 = .ok (.ireturn, 1) := by decide +kernel
theorem dX2_upper_0 : decode cX2_upper 0 = .ok (.iload_n 1, 1) := by decide +kernel
theorem dX2_upper_1 : decode cX2_upper 1 = .ok (.iconst 0, 1) := by decide +kernel
theorem dX2_upper_2 : decode cX2_upper 2 = .ok (.bipush 6, 2) := by decide +kernel
theorem dX2_upper_4 : decode cX2_upper 4 = .ok (.invokestatic 61, 3) := by decide +kernel
theorem dX2_upper_7 : decode cX2_upper 7 = .ok (.ifCond .eq 19, 3) := by decide +kernel
theorem dX2_upper_10 : decode cX2_upper 10 = .ok (.aload_n 0, 1) := by decide +kernel
theorem dX2_upper_11 : decode cX2_upper 11 = .ok (.getstatic 65, 3) := by decide +kernel
theorem dX2_upper_14 : decode cX2_upper 14 = .ok (.iload_n 1, 1) := by decide +kernel
theorem dX2_upper_15 : decode cX2_upper 15 = .ok (.iaload, 1) := by decide +kernel
theorem dX2_upper_16 : decode cX2_upper 16 = .ok (.iload_n 2, 1) := by decide +kernel
theorem dX2_upper_17 : decode cX2_upper 17 = .ok (.iload_n 3, 1) := by decide +kernel
theorem dX2_upper_18 : decode cX2_upper 18 = .ok (.iload 4, 2) := by decide +kernel
theorem dX2_upper_20 : decode cX2_upper 20 = .ok (.invokevirtual 68, 3) := by decide +kernel
theorem m_1328 : Cond.code yX2_dealAs cX2_dealAs 8 (some .int) ∈ BW := List.mem_of_getElem? (i := 1328) (by decide +kernel)
theorem m_1325 : Cond.methodLink RX2 68 yX2_dealAs ∈ BW := List.mem_of_getElem? (i := 1325) (by decide +kernel)
theorem m_1326 : Cond.instanceMethod yX2_dealAs ∈ BW := List.mem_of_getElem? (i := 1326) (by decide +kernel)
theorem m_1327 : Cond.selects RX2 yX2_dealAs yX2_dealAs ∈ BW := List.mem_of_getElem? (i := 1327) (by decide +kernel)
theorem si_X2_68 : SV RX2 RX2 68 yX2_dealAs cX2_dealAs 8 (some .int) 4 := ⟨⟨m_1325, m_1326, m_1327, m_49, m_1328⟩, rfl, by decide +kernel, by decide +kernel, by decide +kernel⟩
theorem dX2_upper_23 : decode cX2_upper 23 = .ok (.goto 4, 3) := by decide +kernel
theorem dX2_upper_27 : decode cX2_upper 27 = .ok (.ireturn, 1) := by decide +kernel
theorem dX2_upper_26 : decode cX2_upper 26 = .ok (.iconst 0, 1) := by decide +kernel
theorem dX2_run_0 : decode cX2_run 0 = .ok (.iload 4, 2) := by decide +kernel
theorem dX2_run_2 : decode cX2_run 2 = .ok (.bipush 20, 2) := by decide +kernel
theorem dX2_run_4 : decode cX2_run 4 = .ok (.if_icmp .le 5, 3) := by decide +kernel
theorem dX2_run_9 : decode cX2_run 9 = .ok (.aload_n 0, 1) := by decide +kernel
theorem dX2_run_10 : decode cX2_run 10 = .ok (.getfield 19, 3) := by decide +kernel
theorem dX2_run_13 : decode cX2_run 13 = .ok (.bipush 30, 2) := by decide +kernel
theorem dX2_run_15 : decode cX2_run 15 = .ok (.if_icmp .ge 23, 3) := by decide +kernel
theorem dX2_run_38 : decode cX2_run 38 = .ok (.iload_n 1, 1) := by decide +kernel
theorem dX2_run_39 : decode cX2_run 39 = .ok (.lookupswitch 320 #[(10, 113), (11, 120), (12, 135), (13, 153), (20, 159), (30, 174), (40, 186), (41, 198), (50, 210), (51, 225), (60, 252), (61, 264), (70, 279)], 113) := by decide +kernel
theorem dX2_run_152 : decode cX2_run 152 = .ok (.iload_n 3, 1) := by decide +kernel
theorem dX2_run_153 : decode cX2_run 153 = .ok (.aload_n 0, 1) := by decide +kernel
theorem dX2_run_154 : decode cX2_run 154 = .ok (.getfield 32, 3) := by decide +kernel
theorem gf_X2_32 (hC : CX p s m meth c y0 b0 mL0 rt0 args) (hy0 : y0.cls = RX2) (hK : KK G s) (hP : va_P G.1 vwCl ws H) (q0 : Nat) {fs : List Value} {v : Value} (he : ws[q0]? = some (a, .inr (2, fs))) (hv : fs[6]? = some v) (hdg : decode b0 pc = .ok (.getfield 32, 3)) (kk : W p l e R s m args below meth c H locs cells slots Q (F0 m (pc + 3) ls (v :: rest))) : W p l e R s m args below meth c H locs cells slots Q (F0 m pc ls (.ref a :: rest)) := by
  obtain ⟨hx, hb, hr, hml, hB, hown, hlocks, hnm⟩ := hC
  rw [hy0] at hown
  exact va_get (ci := 2) (C := RX2) (T := TX2) (N := 8) hx hb hB in_X2 hown hK.1 hP q0 he rfl 6 (by decide) (hB _ m_181) (fun _ h => h) hv hdg kk
theorem dX2_run_157 : decode cX2_run 157 = .ok (.iadd, 1) := by decide +kernel
theorem dX2_run_158 : decode cX2_run 158 = .ok (.ireturn, 1) := by decide +kernel
theorem dX2_run_159 : decode cX2_run 159 = .ok (.aload_n 0, 1) := by decide +kernel
theorem dX2_run_160 : decode cX2_run 160 = .ok (.aload_n 0, 1) := by decide +kernel
theorem dX2_run_161 : decode cX2_run 161 = .ok (.getfield 23, 3) := by decide +kernel
theorem dX2_run_164 : decode cX2_run 164 = .ok (.iconst 0, 1) := by decide +kernel
theorem dX2_run_165 : decode cX2_run 165 = .ok (.iload_n 3, 1) := by decide +kernel
theorem dX2_run_166 : decode cX2_run 166 = .ok (.iload 4, 2) := by decide +kernel
theorem dX2_run_168 : decode cX2_run 168 = .ok (.invokevirtual 68, 3) := by decide +kernel
theorem dX2_run_171 : decode cX2_run 171 = .ok (.iconst 2, 1) := by decide +kernel
theorem dX2_run_172 : decode cX2_run 172 = .ok (.imul, 1) := by decide +kernel
theorem dX2_run_173 : decode cX2_run 173 = .ok (.ireturn, 1) := by decide +kernel
theorem dX2_run_174 : decode cX2_run 174 = .ok (.aload_n 0, 1) := by decide +kernel
theorem dX2_run_175 : decode cX2_run 175 = .ok (.aload_n 0, 1) := by decide +kernel
theorem dX2_run_176 : decode cX2_run 176 = .ok (.getfield 23, 3) := by decide +kernel
theorem dX2_run_179 : decode cX2_run 179 = .ok (.iconst 1, 1) := by decide +kernel
theorem dX2_run_180 : decode cX2_run 180 = .ok (.iload_n 3, 1) := by decide +kernel
theorem dX2_run_181 : decode cX2_run 181 = .ok (.iload 4, 2) := by decide +kernel
theorem dX2_run_183 : decode cX2_run 183 = .ok (.invokevirtual 68, 3) := by decide +kernel
theorem dX2_run_186 : decode cX2_run 186 = .ok (.aload_n 0, 1) := by decide +kernel
theorem dX2_run_187 : decode cX2_run 187 = .ok (.getfield 29, 3) := by decide +kernel
theorem dX2_run_190 : decode cX2_run 190 = .ok (.isub, 1) := by decide +kernel
theorem dX2_run_191 : decode cX2_run 191 = .ok (.ireturn, 1) := by decide +kernel
theorem dX2_run_192 : decode cX2_run 192 = .ok (.aload_n 0, 1) := by decide +kernel
theorem dX2_run_193 : decode cX2_run 193 = .ok (.iload_n 3, 1) := by decide +kernel
theorem dX2_run_194 : decode cX2_run 194 = .ok (.invokevirtual 78, 3) := by decide +kernel
theorem m_1337 : Cond.code yX2_quotient cX2_quotient 3 (some .int) ∈ BW := List.mem_of_getElem? (i := 1337) (by decide +kernel)
theorem m_1334 : Cond.methodLink RX2 78 yX2_quotient ∈ BW := List.mem_of_getElem? (i := 1334) (by decide +kernel)
theorem m_1335 : Cond.instanceMethod yX2_quotient ∈ BW := List.mem_of_getElem? (i := 1335) (by decide +kernel)
theorem m_1336 : Cond.selects RX2 yX2_quotient yX2_quotient ∈ BW := List.mem_of_getElem? (i := 1336) (by decide +kernel)
theorem si_X2_78 : SV RX2 RX2 78 yX2_quotient cX2_quotient 3 (some .int) 1 := ⟨⟨m_1334, m_1335, m_1336, m_49, m_1337⟩, rfl, by decide +kernel, by decide +kernel, by decide +kernel⟩
theorem dX2_run_197 : decode cX2_run 197 = .ok (.ireturn, 1) := by decide +kernel
theorem dX2_run_198 : decode cX2_run 198 = .ok (.aload_n 0, 1) := by decide +kernel
theorem dX2_run_199 : decode cX2_run 199 = .ok (.iload_n 2, 1) := by decide +kernel
theorem dX2_run_200 : decode cX2_run 200 = .ok (.iconst 1, 1) := by decide +kernel
theorem dX2_run_201 : decode cX2_run 201 = .ok (.iload_n 3, 1) := by decide +kernel
theorem dX2_run_202 : decode cX2_run 202 = .ok (.iload 4, 2) := by decide +kernel
theorem dX2_run_204 : decode cX2_run 204 = .ok (.invokevirtual 81, 3) := by decide +kernel
theorem m_1341 : Cond.code yX2_upper cX2_upper 5 (some .int) ∈ BW := List.mem_of_getElem? (i := 1341) (by decide +kernel)
theorem m_1338 : Cond.methodLink RX2 81 yX2_upper ∈ BW := List.mem_of_getElem? (i := 1338) (by decide +kernel)
theorem m_1339 : Cond.instanceMethod yX2_upper ∈ BW := List.mem_of_getElem? (i := 1339) (by decide +kernel)
theorem m_1340 : Cond.selects RX2 yX2_upper yX2_upper ∈ BW := List.mem_of_getElem? (i := 1340) (by decide +kernel)
theorem si_X2_81 : SV RX2 RX2 81 yX2_upper cX2_upper 5 (some .int) 4 := ⟨⟨m_1338, m_1339, m_1340, m_49, m_1341⟩, rfl, by decide +kernel, by decide +kernel, by decide +kernel⟩
theorem dX2_run_207 : decode cX2_run 207 = .ok (.aload_n 0, 1) := by decide +kernel
theorem dX2_run_208 : decode cX2_run 208 = .ok (.getfield 26, 3) := by decide +kernel
theorem dX2_run_211 : decode cX2_run 211 = .ok (.ixor, 1) := by decide +kernel
theorem dX2_run_212 : decode cX2_run 212 = .ok (.ireturn, 1) := by decide +kernel
theorem dX2_run_213 : decode cX2_run 213 = .ok (.aload_n 0, 1) := by decide +kernel
theorem dX2_run_214 : decode cX2_run 214 = .ok (.iload_n 2, 1) := by decide +kernel
theorem dX2_run_215 : decode cX2_run 215 = .ok (.iconst 2, 1) := by decide +kernel
theorem dX2_run_216 : decode cX2_run 216 = .ok (.iload_n 3, 1) := by decide +kernel
theorem dX2_run_217 : decode cX2_run 217 = .ok (.iload 4, 2) := by decide +kernel
theorem dX2_run_219 : decode cX2_run 219 = .ok (.invokevirtual 81, 3) := by decide +kernel
theorem dX2_run_222 : decode cX2_run 222 = .ok (.iconst 3, 1) := by decide +kernel
theorem dX2_run_223 : decode cX2_run 223 = .ok (.imul, 1) := by decide +kernel
theorem dX2_run_224 : decode cX2_run 224 = .ok (.ireturn, 1) := by decide +kernel
theorem dX2_run_225 : decode cX2_run 225 = .ok (.iconst 0, 1) := by decide +kernel
theorem dX2_run_226 : decode cX2_run 226 = .ok (.aload_n 0, 1) := by decide +kernel
theorem dX2_run_227 : decode cX2_run 227 = .ok (.iload_n 2, 1) := by decide +kernel
theorem dX2_run_228 : decode cX2_run 228 = .ok (.iconst 1, 1) := by decide +kernel
theorem dX2_run_229 : decode cX2_run 229 = .ok (.iload_n 3, 1) := by decide +kernel
theorem dX2_run_230 : decode cX2_run 230 = .ok (.iload 4, 2) := by decide +kernel
theorem dX2_run_232 : decode cX2_run 232 = .ok (.invokevirtual 81, 3) := by decide +kernel
theorem dX2_run_235 : decode cX2_run 235 = .ok (.isub, 1) := by decide +kernel
theorem dX2_run_236 : decode cX2_run 236 = .ok (.ireturn, 1) := by decide +kernel
theorem dX2_run_237 : decode cX2_run 237 = .ok (.aload_n 0, 1) := by decide +kernel
theorem dX2_run_238 : decode cX2_run 238 = .ok (.iload_n 2, 1) := by decide +kernel
theorem dX2_run_239 : decode cX2_run 239 = .ok (.iconst 3, 1) := by decide +kernel
theorem dX2_run_240 : decode cX2_run 240 = .ok (.iload_n 3, 1) := by decide +kernel
theorem dX2_run_241 : decode cX2_run 241 = .ok (.iconst 2, 1) := by decide +kernel
theorem dX2_run_242 : decode cX2_run 242 = .ok (.iadd, 1) := by decide +kernel
theorem dX2_run_243 : decode cX2_run 243 = .ok (.iload 4, 2) := by decide +kernel
theorem dX2_run_245 : decode cX2_run 245 = .ok (.invokevirtual 81, 3) := by decide +kernel
theorem dX2_run_248 : decode cX2_run 248 = .ok (.ireturn, 1) := by decide +kernel
theorem dX2_run_249 : decode cX2_run 249 = .ok (.aload_n 0, 1) := by decide +kernel
theorem dX2_run_250 : decode cX2_run 250 = .ok (.iload_n 2, 1) := by decide +kernel
theorem dX2_run_251 : decode cX2_run 251 = .ok (.iconst 0, 1) := by decide +kernel
theorem dX2_run_252 : decode cX2_run 252 = .ok (.iload_n 3, 1) := by decide +kernel
theorem dX2_run_253 : decode cX2_run 253 = .ok (.iload 4, 2) := by decide +kernel
theorem dX2_run_255 : decode cX2_run 255 = .ok (.invokevirtual 81, 3) := by decide +kernel
theorem dX2_run_258 : decode cX2_run 258 = .ok (.aload_n 0, 1) := by decide +kernel
theorem dX2_run_259 : decode cX2_run 259 = .ok (.getfield 26, 3) := by decide +kernel
theorem dX2_run_262 : decode cX2_run 262 = .ok (.isub, 1) := by decide +kernel
theorem dX2_run_263 : decode cX2_run 263 = .ok (.ireturn, 1) := by decide +kernel
theorem dX2_run_264 : decode cX2_run 264 = .ok (.aload_n 0, 1) := by decide +kernel
theorem dX2_run_265 : decode cX2_run 265 = .ok (.iload_n 2, 1) := by decide +kernel
theorem dX2_run_266 : decode cX2_run 266 = .ok (.iconst 2, 1) := by decide +kernel
theorem dX2_run_267 : decode cX2_run 267 = .ok (.iload_n 3, 1) := by decide +kernel
theorem dX2_run_268 : decode cX2_run 268 = .ok (.iload 4, 2) := by decide +kernel
theorem dX2_run_270 : decode cX2_run 270 = .ok (.invokevirtual 81, 3) := by decide +kernel
theorem dX2_run_273 : decode cX2_run 273 = .ok (.istore 5, 2) := by decide +kernel
theorem dX2_run_275 : decode cX2_run 275 = .ok (.iload 5, 2) := by decide +kernel
theorem dX2_run_277 : decode cX2_run 277 = .ok (.aload_n 0, 1) := by decide +kernel
theorem dX2_run_278 : decode cX2_run 278 = .ok (.aload_n 0, 1) := by decide +kernel
theorem dX2_run_279 : decode cX2_run 279 = .ok (.getfield 23, 3) := by decide +kernel
theorem dX2_run_282 : decode cX2_run 282 = .ok (.iconst 1, 1) := by decide +kernel
theorem dX2_run_283 : decode cX2_run 283 = .ok (.iconst 1, 1) := by decide +kernel
theorem dX2_run_284 : decode cX2_run 284 = .ok (.iload 4, 2) := by decide +kernel
theorem dX2_run_286 : decode cX2_run 286 = .ok (.invokevirtual 68, 3) := by decide +kernel
theorem dX2_run_289 : decode cX2_run 289 = .ok (.iadd, 1) := by decide +kernel
theorem dX2_run_290 : decode cX2_run 290 = .ok (.ireturn, 1) := by decide +kernel
theorem dX2_run_291 : decode cX2_run 291 = .ok (.aload_n 0, 1) := by decide +kernel
theorem dX2_run_292 : decode cX2_run 292 = .ok (.iload_n 2, 1) := by decide +kernel
theorem dX2_run_293 : decode cX2_run 293 = .ok (.iconst 2, 1) := by decide +kernel
theorem dX2_run_294 : decode cX2_run 294 = .ok (.iload_n 3, 1) := by decide +kernel
theorem dX2_run_295 : decode cX2_run 295 = .ok (.iload 4, 2) := by decide +kernel
theorem dX2_run_297 : decode cX2_run 297 = .ok (.invokevirtual 81, 3) := by decide +kernel
theorem dX2_run_300 : decode cX2_run 300 = .ok (.iconst 2, 1) := by decide +kernel
theorem dX2_run_301 : decode cX2_run 301 = .ok (.imul, 1) := by decide +kernel
theorem dX2_run_302 : decode cX2_run 302 = .ok (.ireturn, 1) := by decide +kernel
theorem dX2_run_303 : decode cX2_run 303 = .ok (.aload_n 0, 1) := by decide +kernel
theorem dX2_run_304 : decode cX2_run 304 = .ok (.iload_n 2, 1) := by decide +kernel
theorem dX2_run_305 : decode cX2_run 305 = .ok (.iconst 0, 1) := by decide +kernel
theorem dX2_run_306 : decode cX2_run 306 = .ok (.iload_n 3, 1) := by decide +kernel
theorem dX2_run_307 : decode cX2_run 307 = .ok (.aload_n 0, 1) := by decide +kernel
theorem dX2_run_308 : decode cX2_run 308 = .ok (.getfield 29, 3) := by decide +kernel
theorem dX2_run_311 : decode cX2_run 311 = .ok (.iadd, 1) := by decide +kernel
theorem dX2_run_312 : decode cX2_run 312 = .ok (.iload 4, 2) := by decide +kernel
theorem dX2_run_314 : decode cX2_run 314 = .ok (.invokevirtual 81, 3) := by decide +kernel
theorem dX2_run_317 : decode cX2_run 317 = .ok (.ireturn, 1) := by decide +kernel
theorem dX2_run_318 : decode cX2_run 318 = .ok (.aload_n 0, 1) := by decide +kernel
theorem dX2_run_319 : decode cX2_run 319 = .ok (.iload_n 2, 1) := by decide +kernel
theorem dX2_run_320 : decode cX2_run 320 = .ok (.iconst 3, 1) := by decide +kernel
theorem dX2_run_321 : decode cX2_run 321 = .ok (.iload_n 3, 1) := by decide +kernel
theorem dX2_run_322 : decode cX2_run 322 = .ok (.iload 4, 2) := by decide +kernel
theorem dX2_run_324 : decode cX2_run 324 = .ok (.invokevirtual 81, 3) := by decide +kernel
theorem dX2_run_327 : decode cX2_run 327 = .ok (.istore 6, 2) := by decide +kernel
theorem dX2_run_329 : decode cX2_run 329 = .ok (.aload_n 0, 1) := by decide +kernel
theorem dX2_run_330 : decode cX2_run 330 = .ok (.getfield 35, 3) := by decide +kernel
theorem gf_X2_35 (hC : CX p s m meth c y0 b0 mL0 rt0 args) (hy0 : y0.cls = RX2) (hK : KK G s) (hP : va_P G.1 vwCl ws H) (q0 : Nat) {fs : List Value} {v : Value} (he : ws[q0]? = some (a, .inr (2, fs))) (hv : fs[7]? = some v) (hdg : decode b0 pc = .ok (.getfield 35, 3)) (kk : W p l e R s m args below meth c H locs cells slots Q (F0 m (pc + 3) ls (v :: rest))) : W p l e R s m args below meth c H locs cells slots Q (F0 m pc ls (.ref a :: rest)) := by
  obtain ⟨hx, hb, hr, hml, hB, hown, hlocks, hnm⟩ := hC
  rw [hy0] at hown
  exact va_get (ci := 2) (C := RX2) (T := TX2) (N := 8) hx hb hB in_X2 hown hK.1 hP q0 he rfl 7 (by decide) (hB _ m_182) (fun _ h => h) hv hdg kk
theorem dX2_run_333 : decode cX2_run 333 = .ok (.ifCond .eq 7, 3) := by decide +kernel
theorem dX2_run_340 : decode cX2_run 340 = .ok (.iload 6, 2) := by decide +kernel
theorem dX2_run_342 : decode cX2_run 342 = .ok (.aload_n 0, 1) := by decide +kernel
theorem dX2_run_343 : decode cX2_run 343 = .ok (.aload_n 0, 1) := by decide +kernel
theorem dX2_run_344 : decode cX2_run 344 = .ok (.getfield 23, 3) := by decide +kernel
theorem dX2_run_347 : decode cX2_run 347 = .ok (.iconst 0, 1) := by decide +kernel
theorem dX2_run_348 : decode cX2_run 348 = .ok (.aload_n 0, 1) := by decide +kernel
theorem dX2_run_349 : decode cX2_run 349 = .ok (.getfield 26, 3) := by decide +kernel
theorem dX2_run_352 : decode cX2_run 352 = .ok (.iload 4, 2) := by decide +kernel
theorem dX2_run_354 : decode cX2_run 354 = .ok (.invokevirtual 68, 3) := by decide +kernel
theorem dX2_run_357 : decode cX2_run 357 = .ok (.isub, 1) := by decide +kernel
theorem dX2_run_358 : decode cX2_run 358 = .ok (.ireturn, 1) := by decide +kernel
theorem dX2_run_336 : decode cX2_run 336 = .ok (.iconst 0, 1) := by decide +kernel
theorem dX2_run_337 : decode cX2_run 337 = .ok (.goto 21, 3) := by decide +kernel
theorem dX2_run_359 : decode cX2_run 359 = .ok (.iconst 0, 1) := by decide +kernel
theorem dX2_run_360 : decode cX2_run 360 = .ok (.ireturn, 1) := by decide +kernel
theorem dX2_run_18 : decode cX2_run 18 = .ok (.aload_n 0, 1) := by decide +kernel
theorem dX2_run_19 : decode cX2_run 19 = .ok (.getfield 11, 3) := by decide +kernel
theorem dX2_run_22 : decode cX2_run 22 = .ok (.aload_n 0, 1) := by decide +kernel
theorem dX2_run_23 : decode cX2_run 23 = .ok (.getfield 19, 3) := by decide +kernel
theorem dX2_run_26 : decode cX2_run 26 = .ok (.iload_n 1, 1) := by decide +kernel
theorem dX2_run_27 : decode cX2_run 27 = .ok (.iastore, 1) := by decide +kernel
theorem dX2_run_28 : decode cX2_run 28 = .ok (.aload_n 0, 1) := by decide +kernel
theorem dX2_run_29 : decode cX2_run 29 = .ok (.dup, 1) := by decide +kernel
theorem dX2_run_30 : decode cX2_run 30 = .ok (.getfield 19, 3) := by decide +kernel
theorem dX2_run_33 : decode cX2_run 33 = .ok (.iconst 1, 1) := by decide +kernel
theorem dX2_run_34 : decode cX2_run 34 = .ok (.iadd, 1) := by decide +kernel
theorem dX2_run_35 : decode cX2_run 35 = .ok (.putfield 19, 3) := by decide +kernel
theorem dX2_run_7 : decode cX2_run 7 = .ok (.iconst 0, 1) := by decide +kernel
theorem dX2_run_8 : decode cX2_run 8 = .ok (.ireturn, 1) := by decide +kernel
theorem dX2_answer_0 : decode cX2_answer 0 = .ok (.aload_n 0, 1) := by decide +kernel
theorem dX2_answer_1 : decode cX2_answer 1 = .ok (.iconst 0, 1) := by decide +kernel
theorem dX2_answer_2 : decode cX2_answer 2 = .ok (.putfield 35, 3) := by decide +kernel
theorem dX2_answer_5 : decode cX2_answer 5 = .ok (.aload_n 0, 1) := by decide +kernel
theorem dX2_answer_6 : decode cX2_answer 6 = .ok (.aload_n 0, 1) := by decide +kernel
theorem dX2_answer_7 : decode cX2_answer 7 = .ok (.getfield 23, 3) := by decide +kernel
theorem dX2_answer_10 : decode cX2_answer 10 = .ok (.iload_n 1, 1) := by decide +kernel
theorem dX2_answer_11 : decode cX2_answer 11 = .ok (.iload_n 2, 1) := by decide +kernel
theorem dX2_answer_12 : decode cX2_answer 12 = .ok (.iconst 0, 1) := by decide +kernel
theorem dX2_answer_13 : decode cX2_answer 13 = .ok (.invokevirtual 68, 3) := by decide +kernel
theorem dX2_answer_16 : decode cX2_answer 16 = .ok (.istore_n 3, 1) := by decide +kernel
theorem dX2_answer_17 : decode cX2_answer 17 = .ok (.aload_n 0, 1) := by decide +kernel
theorem dX2_answer_18 : decode cX2_answer 18 = .ok (.getfield 35, 3) := by decide +kernel
theorem dX2_answer_21 : decode cX2_answer 21 = .ok (.ifCond .eq 8, 3) := by decide +kernel
theorem dX2_answer_29 : decode cX2_answer 29 = .ok (.iload_n 3, 1) := by decide +kernel
theorem dX2_answer_30 : decode cX2_answer 30 = .ok (.ireturn, 1) := by decide +kernel
theorem dX2_answer_24 : decode cX2_answer 24 = .ok (.bipush (-15), 2) := by decide +kernel
theorem dX2_answer_26 : decode cX2_answer 26 = .ok (.goto 4, 3) := by decide +kernel
theorem dX11_taken_0 : decode cX11_taken 0 = .ok (.iload_n 1, 1) := by decide +kernel
theorem dX11_taken_1 : decode cX11_taken 1 = .ok (.invokestatic 318, 3) := by decide +kernel
theorem dX11_taken_4 : decode cX11_taken 4 = .ok (.ifCond .eq 23, 3) := by decide +kernel
theorem dX11_taken_7 : decode cX11_taken 7 = .ok (.iload_n 2, 1) := by decide +kernel
theorem dX11_taken_8 : decode cX11_taken 8 = .ok (.iconst 0, 1) := by decide +kernel
theorem dX11_taken_9 : decode cX11_taken 9 = .ok (.bipush 6, 2) := by decide +kernel
theorem dX11_taken_11 : decode cX11_taken 11 = .ok (.invokestatic 83, 3) := by decide +kernel
theorem dX11_taken_14 : decode cX11_taken 14 = .ok (.ifCond .ne 15, 3) := by decide +kernel
theorem dX11_taken_29 : decode cX11_taken 29 = .ok (.aload_n 0, 1) := by decide +kernel
theorem dX11_taken_30 : decode cX11_taken 30 = .ok (.getfield 72, 3) := by decide +kernel
theorem dX11_taken_33 : decode cX11_taken 33 = .ok (.iload_n 1, 1) := by decide +kernel
theorem dX11_taken_34 : decode cX11_taken 34 = .ok (.aload_n 0, 1) := by decide +kernel
theorem dX11_taken_35 : decode cX11_taken 35 = .ok (.getfield 15, 3) := by decide +kernel
theorem dX11_taken_38 : decode cX11_taken 38 = .ok (.invokevirtual 327, 3) := by decide +kernel
theorem m_1278 : Cond.code yX4_held cX4_held 4 (some .int) ∈ BW := List.mem_of_getElem? (i := 1278) (by decide +kernel)
theorem m_1275 : Cond.methodLink RX11 327 yX4_held ∈ BW := List.mem_of_getElem? (i := 1275) (by decide +kernel)
theorem m_1276 : Cond.instanceMethod yX4_held ∈ BW := List.mem_of_getElem? (i := 1276) (by decide +kernel)
theorem m_1277 : Cond.selects RX4 yX4_held yX4_held ∈ BW := List.mem_of_getElem? (i := 1277) (by decide +kernel)
theorem si_X11_327 : SV RX11 RX4 327 yX4_held cX4_held 4 (some .int) 2 := ⟨⟨m_1275, m_1276, m_1277, m_45, m_1278⟩, rfl, by decide +kernel, by decide +kernel, by decide +kernel⟩
theorem dX11_taken_41 : decode cX11_taken 41 = .ok (.istore_n 3, 1) := by decide +kernel
theorem dX11_taken_42 : decode cX11_taken 42 = .ok (.iload_n 3, 1) := by decide +kernel
theorem dX11_taken_43 : decode cX11_taken 43 = .ok (.iconst 4, 1) := by decide +kernel
theorem dX11_taken_44 : decode cX11_taken 44 = .ok (.if_icmp .ne 6, 3) := by decide +kernel
theorem dX11_taken_50 : decode cX11_taken 50 = .ok (.iload_n 3, 1) := by decide +kernel
theorem dX11_taken_51 : decode cX11_taken 51 = .ok (.iconst 3, 1) := by decide +kernel
theorem dX11_taken_52 : decode cX11_taken 52 = .ok (.if_icmp .ne 32, 3) := by decide +kernel
theorem dX11_taken_84 : decode cX11_taken 84 = .ok (.aload_n 0, 1) := by decide +kernel
theorem dX11_taken_85 : decode cX11_taken 85 = .ok (.getfield 79, 3) := by decide +kernel
theorem dX11_taken_88 : decode cX11_taken 88 = .ok (.iload_n 3, 1) := by decide +kernel
theorem dX11_taken_89 : decode cX11_taken 89 = .ok (.aload_n 0, 1) := by decide +kernel
theorem dX11_taken_90 : decode cX11_taken 90 = .ok (.getfield 72, 3) := by decide +kernel
theorem dX11_taken_93 : decode cX11_taken 93 = .ok (.iload_n 1, 1) := by decide +kernel
theorem dX11_taken_94 : decode cX11_taken 94 = .ok (.invokevirtual 334, 3) := by decide +kernel
theorem m_1287 : Cond.code yX4_heldNumber cX4_heldNumber 2 (some .int) ∈ BW := List.mem_of_getElem? (i := 1287) (by decide +kernel)
theorem m_1284 : Cond.methodLink RX11 334 yX4_heldNumber ∈ BW := List.mem_of_getElem? (i := 1284) (by decide +kernel)
theorem m_1285 : Cond.instanceMethod yX4_heldNumber ∈ BW := List.mem_of_getElem? (i := 1285) (by decide +kernel)
theorem m_1286 : Cond.selects RX4 yX4_heldNumber yX4_heldNumber ∈ BW := List.mem_of_getElem? (i := 1286) (by decide +kernel)
theorem si_X11_334 : SV RX11 RX4 334 yX4_heldNumber cX4_heldNumber 2 (some .int) 1 := ⟨⟨m_1284, m_1285, m_1286, m_45, m_1287⟩, rfl, by decide +kernel, by decide +kernel, by decide +kernel⟩
theorem dX11_taken_97 : decode cX11_taken 97 = .ok (.invokevirtual 337, 3) := by decide +kernel
theorem m_1291 : Cond.code yX2_grasp cX2_grasp 3 none ∈ BW := List.mem_of_getElem? (i := 1291) (by decide +kernel)
theorem m_1288 : Cond.methodLink RX11 337 yX2_grasp ∈ BW := List.mem_of_getElem? (i := 1288) (by decide +kernel)
theorem m_1289 : Cond.instanceMethod yX2_grasp ∈ BW := List.mem_of_getElem? (i := 1289) (by decide +kernel)
theorem m_1290 : Cond.selects RX2 yX2_grasp yX2_grasp ∈ BW := List.mem_of_getElem? (i := 1290) (by decide +kernel)
theorem si_X11_337 : SV RX11 RX2 337 yX2_grasp cX2_grasp 3 none 2 := ⟨⟨m_1288, m_1289, m_1290, m_49, m_1291⟩, rfl, by decide +kernel, by decide +kernel, by decide +kernel⟩
theorem dX11_taken_100 : decode cX11_taken 100 = .ok (.aload_n 0, 1) := by decide +kernel
theorem dX11_taken_101 : decode cX11_taken 101 = .ok (.getfield 79, 3) := by decide +kernel
theorem dX11_taken_104 : decode cX11_taken 104 = .ok (.iload_n 2, 1) := by decide +kernel
theorem dX11_taken_105 : decode cX11_taken 105 = .ok (.invokevirtual 340, 3) := by decide +kernel
theorem m_1300 : Cond.code yX2_isUnder cX2_isUnder 4 (some .boolean) ∈ BW := List.mem_of_getElem? (i := 1300) (by decide +kernel)
theorem m_1297 : Cond.methodLink RX11 340 yX2_isUnder ∈ BW := List.mem_of_getElem? (i := 1297) (by decide +kernel)
theorem m_1298 : Cond.instanceMethod yX2_isUnder ∈ BW := List.mem_of_getElem? (i := 1298) (by decide +kernel)
theorem m_1299 : Cond.selects RX2 yX2_isUnder yX2_isUnder ∈ BW := List.mem_of_getElem? (i := 1299) (by decide +kernel)
theorem si_X11_340 : SV RX11 RX2 340 yX2_isUnder cX2_isUnder 4 (some .boolean) 1 := ⟨⟨m_1297, m_1298, m_1299, m_49, m_1300⟩, rfl, by decide +kernel, by decide +kernel, by decide +kernel⟩
theorem dX11_taken_108 : decode cX11_taken 108 = .ok (.ifCond .eq 14, 3) := by decide +kernel
theorem dX11_taken_111 : decode cX11_taken 111 = .ok (.aload_n 0, 1) := by decide +kernel
theorem dX11_taken_112 : decode cX11_taken 112 = .ok (.getfield 72, 3) := by decide +kernel
theorem dX11_taken_115 : decode cX11_taken 115 = .ok (.iload_n 1, 1) := by decide +kernel
theorem dX11_taken_116 : decode cX11_taken 116 = .ok (.invokevirtual 334, 3) := by decide +kernel
theorem dX11_taken_119 : decode cX11_taken 119 = .ok (.goto 5, 3) := by decide +kernel
theorem dX11_taken_124 : decode cX11_taken 124 = .ok (.ireturn, 1) := by decide +kernel
theorem dX11_taken_122 : decode cX11_taken 122 = .ok (.bipush (-13), 2) := by decide +kernel
theorem dX11_taken_55 : decode cX11_taken 55 = .ok (.aload_n 0, 1) := by decide +kernel
theorem dX11_taken_56 : decode cX11_taken 56 = .ok (.getfield 72, 3) := by decide +kernel
theorem dX11_taken_59 : decode cX11_taken 59 = .ok (.iload_n 1, 1) := by decide +kernel
theorem dX11_taken_60 : decode cX11_taken 60 = .ok (.invokevirtual 331, 3) := by decide +kernel
theorem m_1283 : Cond.code yX4_heldSort cX4_heldSort 2 (some .int) ∈ BW := List.mem_of_getElem? (i := 1283) (by decide +kernel)
theorem m_1280 : Cond.methodLink RX11 331 yX4_heldSort ∈ BW := List.mem_of_getElem? (i := 1280) (by decide +kernel)
theorem m_1281 : Cond.instanceMethod yX4_heldSort ∈ BW := List.mem_of_getElem? (i := 1281) (by decide +kernel)
theorem m_1282 : Cond.selects RX4 yX4_heldSort yX4_heldSort ∈ BW := List.mem_of_getElem? (i := 1282) (by decide +kernel)
theorem si_X11_331 : SV RX11 RX4 331 yX4_heldSort cX4_heldSort 2 (some .int) 1 := ⟨⟨m_1280, m_1281, m_1282, m_45, m_1283⟩, rfl, by decide +kernel, by decide +kernel, by decide +kernel⟩
theorem dX11_taken_63 : decode cX11_taken 63 = .ok (.iload_n 2, 1) := by decide +kernel
theorem dX11_taken_64 : decode cX11_taken 64 = .ok (.bipush 10, 2) := by decide +kernel
theorem dX11_taken_66 : decode cX11_taken 66 = .ok (.isub, 1) := by decide +kernel
theorem dX11_taken_67 : decode cX11_taken 67 = .ok (.if_icmp .ne 14, 3) := by decide +kernel
theorem dX11_taken_81 : decode cX11_taken 81 = .ok (.bipush (-13), 2) := by decide +kernel
theorem dX11_taken_83 : decode cX11_taken 83 = .ok (.ireturn, 1) := by decide +kernel
theorem dX11_taken_70 : decode cX11_taken 70 = .ok (.aload_n 0, 1) := by decide +kernel
theorem dX11_taken_71 : decode cX11_taken 71 = .ok (.getfield 72, 3) := by decide +kernel
theorem dX11_taken_74 : decode cX11_taken 74 = .ok (.iload_n 1, 1) := by decide +kernel
theorem dX11_taken_75 : decode cX11_taken 75 = .ok (.invokevirtual 334, 3) := by decide +kernel
theorem dX11_taken_78 : decode cX11_taken 78 = .ok (.goto 5, 3) := by decide +kernel
theorem dX11_taken_47 : decode cX11_taken 47 = .ok (.bipush (-11), 2) := by decide +kernel
theorem dX11_taken_49 : decode cX11_taken 49 = .ok (.ireturn, 1) := by decide +kernel
theorem dX11_taken_17 : decode cX11_taken 17 = .ok (.iload_n 2, 1) := by decide +kernel
theorem dX11_taken_18 : decode cX11_taken 18 = .ok (.bipush 10, 2) := by decide +kernel
theorem dX11_taken_20 : decode cX11_taken 20 = .ok (.isub, 1) := by decide +kernel
theorem dX11_taken_21 : decode cX11_taken 21 = .ok (.invokestatic 315, 3) := by decide +kernel
theorem dX11_taken_24 : decode cX11_taken 24 = .ok (.ifCond .ne 5, 3) := by decide +kernel
theorem dX11_taken_27 : decode cX11_taken 27 = .ok (.iconst (-1), 1) := by decide +kernel
theorem dX11_taken_28 : decode cX11_taken 28 = .ok (.ireturn, 1) := by decide +kernel
theorem dX11_deal_0 : decode cX11_deal 0 = .ok (.aload_n 0, 1) := by decide +kernel
theorem dX11_deal_1 : decode cX11_deal 1 = .ok (.getfield 79, 3) := by decide +kernel
theorem dX11_deal_4 : decode cX11_deal 4 = .ok (.invokevirtual 343, 3) := by decide +kernel
theorem m_1320 : Cond.code yX2_clearTrace cX2_clearTrace 1 none ∈ BW := List.mem_of_getElem? (i := 1320) (by decide +kernel)
theorem m_1317 : Cond.methodLink RX11 343 yX2_clearTrace ∈ BW := List.mem_of_getElem? (i := 1317) (by decide +kernel)
theorem m_1318 : Cond.instanceMethod yX2_clearTrace ∈ BW := List.mem_of_getElem? (i := 1318) (by decide +kernel)
theorem m_1319 : Cond.selects RX2 yX2_clearTrace yX2_clearTrace ∈ BW := List.mem_of_getElem? (i := 1319) (by decide +kernel)
theorem si_X11_343 : SV RX11 RX2 343 yX2_clearTrace cX2_clearTrace 1 none 0 := ⟨⟨m_1317, m_1318, m_1319, m_49, m_1320⟩, rfl, by decide +kernel, by decide +kernel, by decide +kernel⟩
theorem dX11_deal_7 : decode cX11_deal 7 = .ok (.iload_n 1, 1) := by decide +kernel
theorem dX11_deal_8 : decode cX11_deal 8 = .ok (.invokestatic 318, 3) := by decide +kernel
theorem dX11_deal_11 : decode cX11_deal 11 = .ok (.ifCond .eq 12, 3) := by decide +kernel
theorem dX11_deal_14 : decode cX11_deal 14 = .ok (.iload_n 2, 1) := by decide +kernel
theorem dX11_deal_15 : decode cX11_deal 15 = .ok (.iconst 0, 1) := by decide +kernel
theorem dX11_deal_16 : decode cX11_deal 16 = .ok (.iconst 3, 1) := by decide +kernel
theorem dX11_deal_17 : decode cX11_deal 17 = .ok (.invokestatic 83, 3) := by decide +kernel
theorem dX11_deal_20 : decode cX11_deal 20 = .ok (.ifCond .ne 5, 3) := by decide +kernel
theorem dX11_deal_25 : decode cX11_deal 25 = .ok (.aload_n 0, 1) := by decide +kernel
theorem dX11_deal_26 : decode cX11_deal 26 = .ok (.getfield 72, 3) := by decide +kernel
theorem dX11_deal_29 : decode cX11_deal 29 = .ok (.iload_n 1, 1) := by decide +kernel
theorem dX11_deal_30 : decode cX11_deal 30 = .ok (.aload_n 0, 1) := by decide +kernel
theorem dX11_deal_31 : decode cX11_deal 31 = .ok (.getfield 15, 3) := by decide +kernel
theorem dX11_deal_34 : decode cX11_deal 34 = .ok (.invokevirtual 327, 3) := by decide +kernel
theorem dX11_deal_37 : decode cX11_deal 37 = .ok (.istore 4, 2) := by decide +kernel
theorem dX11_deal_39 : decode cX11_deal 39 = .ok (.iload 4, 2) := by decide +kernel
theorem dX11_deal_41 : decode cX11_deal 41 = .ok (.iconst 4, 1) := by decide +kernel
theorem dX11_deal_42 : decode cX11_deal 42 = .ok (.if_icmp .eq 9, 3) := by decide +kernel
theorem dX11_deal_51 : decode cX11_deal 51 = .ok (.iconst 0, 1) := by decide +kernel
theorem dX11_deal_52 : decode cX11_deal 52 = .ok (.ireturn, 1) := by decide +kernel
theorem dX11_deal_45 : decode cX11_deal 45 = .ok (.iload 4, 2) := by decide +kernel
theorem dX11_deal_47 : decode cX11_deal 47 = .ok (.iconst 3, 1) := by decide +kernel
theorem dX11_deal_48 : decode cX11_deal 48 = .ok (.if_icmp .ne 5, 3) := by decide +kernel
theorem dX11_deal_53 : decode cX11_deal 53 = .ok (.aload_n 0, 1) := by decide +kernel
theorem dX11_deal_54 : decode cX11_deal 54 = .ok (.getfield 79, 3) := by decide +kernel
theorem dX11_deal_57 : decode cX11_deal 57 = .ok (.iload 4, 2) := by decide +kernel
theorem dX11_deal_59 : decode cX11_deal 59 = .ok (.aload_n 0, 1) := by decide +kernel
theorem dX11_deal_60 : decode cX11_deal 60 = .ok (.getfield 72, 3) := by decide +kernel
theorem dX11_deal_63 : decode cX11_deal 63 = .ok (.iload_n 1, 1) := by decide +kernel
theorem dX11_deal_64 : decode cX11_deal 64 = .ok (.invokevirtual 334, 3) := by decide +kernel
theorem dX11_deal_67 : decode cX11_deal 67 = .ok (.invokevirtual 337, 3) := by decide +kernel
theorem dX11_deal_70 : decode cX11_deal 70 = .ok (.aload_n 0, 1) := by decide +kernel
theorem dX11_deal_71 : decode cX11_deal 71 = .ok (.getfield 79, 3) := by decide +kernel
theorem dX11_deal_74 : decode cX11_deal 74 = .ok (.iload_n 2, 1) := by decide +kernel
theorem dX11_deal_75 : decode cX11_deal 75 = .ok (.iload_n 3, 1) := by decide +kernel
theorem dX11_deal_76 : decode cX11_deal 76 = .ok (.invokevirtual 346, 3) := by decide +kernel
theorem m_1324 : Cond.code yX2_answer cX2_answer 4 (some .int) ∈ BW := List.mem_of_getElem? (i := 1324) (by decide +kernel)
theorem m_1321 : Cond.methodLink RX11 346 yX2_answer ∈ BW := List.mem_of_getElem? (i := 1321) (by decide +kernel)
theorem m_1322 : Cond.instanceMethod yX2_answer ∈ BW := List.mem_of_getElem? (i := 1322) (by decide +kernel)
theorem m_1323 : Cond.selects RX2 yX2_answer yX2_answer ∈ BW := List.mem_of_getElem? (i := 1323) (by decide +kernel)
theorem si_X11_346 : SV RX11 RX2 346 yX2_answer cX2_answer 4 (some .int) 2 := ⟨⟨m_1321, m_1322, m_1323, m_49, m_1324⟩, rfl, by decide +kernel, by decide +kernel, by decide +kernel⟩
theorem dX11_deal_79 : decode cX11_deal 79 = .ok (.ireturn, 1) := by decide +kernel
theorem dX11_deal_23 : decode cX11_deal 23 = .ok (.iconst 0, 1) := by decide +kernel
theorem dX11_deal_24 : decode cX11_deal 24 = .ok (.ireturn, 1) := by decide +kernel
end WR
set_option maxHeartbeats 4000000 in
set_option maxRecDepth 100000 in
theorem d_kindOfPaper (l : Launch) (G : GG) (h0 : Nat) (pa : Int32) (bb : Nat) (tr9 : Nat) (jr : Nat) (dk : Int32) (dn : Int32) (dp : Int32) (da : Int32) (dq : Int32) (bpersons : Nat) (bpapers : Nat) (bstamps : Nat) (bversions : Nat) (blines : Nat) (bsteps : Nat) (bsayings : Nat) (bfindings : Nat) (bwarnings : Nat) (bquestions : Nat) (td : Int32) (vd : Int32) (vl : Int32) (gp : Int32) (bpapersc : Nat) (kbpapers : Nat) (fbpapers : Nat → Int32) (hkbpapers : kbpapers ≤ 12) : MP l G yX2_kindOfPaper cX2_kindOfPaper 3 (some .int) 3 [.ref h0, .int pa] [(h0, .inr (2, [.ref bb, .ref tr9, .int (nI jr), .int dk, .int dn, .int dp, .int da, .int dq])), (bb, .inr (0, [.ref bpersons, .ref bpapers, .ref bstamps, .ref bversions, .ref blines, .ref bsteps, .ref bsayings, .ref bfindings, .ref bwarnings, .ref bquestions, .int td, .int vd, .int vl, .int gp])), (bpapers, .inr (8, [.int 12, .int 6, .ref bpapersc, .int (nI kbpapers)])), (bpapersc, .inl (G.2.1, 72, .inl fbpapers))] (fun r : Int32 => True) := by
  refine MP.start (by decide +kernel) (Nat.le_of_ble_eq_true rfl) ?_
  intro p e s m below meth c ls hC hK hP hD hl
  have hl : lv_has ls 3 [(0, .ref h0), (1, .int pa)] := hl
  obtain ⟨hx, hb, hr, hml, hB, hown, hlocks, hnm⟩ := id hC
  refine lv_aload_n hx hb dX2_kindOfPaper_0 rfl (lv_at hl 0 rfl) ?_
  refine gf_X2_15 hC rfl hK hP 0 rfl rfl dX2_kindOfPaper_1 ?_
  refine gf_X2_43 hC rfl hK hP 1 rfl rfl dX2_kindOfPaper_4 ?_
  refine lv_iload_n hx hb dX2_kindOfPaper_7 rfl (lv_at hl 1 rfl) ?_
  refine lv_iconst (v := 1) hx hb dX2_kindOfPaper_8 (by decide) ?_
  refine pV hC hK hl hP hD (c_T_at l G bpapers pa 1 12 6 bpapersc kbpapers fbpapers (by omega) (by omega) (by omega)) si_X2_49 [2, 3] rfl rfl (by decide) rfl rfl rfl rfl rfl (Nat.le_of_ble_eq_true rfl) ⟨Nat.le_of_ble_eq_true rfl, Nat.le_of_ble_eq_true rfl⟩ ⟨by first | exact Nat.le_of_ble_eq_true rfl | exact Nat.zero_le _, by first | exact Nat.le_of_ble_eq_true rfl | exact Nat.zero_le _⟩ dX2_kindOfPaper_9 (fun r4174 hr4174 => ?_)
  refine lv_iconst (v := 1) hx hb dX2_kindOfPaper_12 (by decide) ?_
  refine lv_aload_n hx hb dX2_kindOfPaper_13 rfl (lv_at hl 0 rfl) ?_
  refine gf_X2_15 hC rfl hK hP 0 rfl rfl dX2_kindOfPaper_14 ?_
  refine gf_X2_43 hC rfl hK hP 1 rfl rfl dX2_kindOfPaper_17 ?_
  refine lv_iload_n hx hb dX2_kindOfPaper_20 rfl (lv_at hl 1 rfl) ?_
  refine lv_iconst (v := 0) hx hb dX2_kindOfPaper_21 (by decide) ?_
  refine pV hC hK hl hP hD (c_T_at l G bpapers pa 0 12 6 bpapersc kbpapers fbpapers (by omega) (by omega) (by omega)) si_X2_49 [2, 3] rfl rfl (by decide) rfl rfl rfl rfl rfl (Nat.le_of_ble_eq_true rfl) ⟨Nat.le_of_ble_eq_true rfl, Nat.le_of_ble_eq_true rfl⟩ ⟨by first | exact Nat.le_of_ble_eq_true rfl | exact Nat.zero_le _, by first | exact Nat.le_of_ble_eq_true rfl | exact Nat.zero_le _⟩ dX2_kindOfPaper_22 (fun r4176 hr4176 => ?_)
  refine lv_ishl hx hb dX2_kindOfPaper_25 ?_
  refine lv_iconst (v := (-1)) hx hb dX2_kindOfPaper_26 (by decide) ?_
  refine lv_ixor hx hb dX2_kindOfPaper_27 ?_
  refine lv_iand hx hb dX2_kindOfPaper_28 ?_
  refine lv_istore_n (lv' := [(2, .int (r4174 &&& ((1 <<< (r4176 &&& 31)) ^^^ (-1)))), (0, .ref h0), (1, .int pa)]) hx hb dX2_kindOfPaper_29 rfl hl (by decide) rfl (fun ls hl => ?_)
  refine lv_iload_n hx hb dX2_kindOfPaper_30 rfl (lv_at hl 0 rfl) ?_
  refine lv_if_ne (tgt := 36) hx hb dX2_kindOfPaper_31 (by decide) (fun c_31_4178 => ?_) (fun c_31_4178 => ?_)
  · refine lv_aload_n hx hb dX2_kindOfPaper_36 rfl (lv_at hl 1 rfl) ?_
    refine gf_X2_15 hC rfl hK hP 0 rfl rfl dX2_kindOfPaper_37 ?_
    refine gf_X2_43 hC rfl hK hP 1 rfl rfl dX2_kindOfPaper_40 ?_
    refine lv_iload_n hx hb dX2_kindOfPaper_43 rfl (lv_at hl 2 rfl) ?_
    refine lv_iconst (v := 3) hx hb dX2_kindOfPaper_44 (by decide) ?_
    refine pV hC hK hl hP hD (c_T_at l G bpapers pa 3 12 6 bpapersc kbpapers fbpapers (by omega) (by omega) (by omega)) si_X2_49 [2, 3] rfl rfl (by decide) rfl rfl rfl rfl rfl (Nat.le_of_ble_eq_true rfl) ⟨Nat.le_of_ble_eq_true rfl, Nat.le_of_ble_eq_true rfl⟩ ⟨by first | exact Nat.le_of_ble_eq_true rfl | exact Nat.zero_le _, by first | exact Nat.le_of_ble_eq_true rfl | exact Nat.zero_le _⟩ dX2_kindOfPaper_45 (fun r4179 hr4179 => ?_)
    refine lv_if_le (tgt := 55) hx hb dX2_kindOfPaper_48 (by decide) (fun c_48_4181 => ?_) (fun c_48_4181 => ?_)
    · refine lv_iconst (v := 1) hx hb dX2_kindOfPaper_55 (by decide) ?_
      exact RP (v := 1) hC (trivial) rfl dX2_kindOfPaper_56
    · refine lv_iconst (v := 3) hx hb dX2_kindOfPaper_51 (by decide) ?_
      refine lv_goto (tgt := 56) hx hb dX2_kindOfPaper_52 (by decide) ?_
      exact RP (v := 3) hC (trivial) rfl dX2_kindOfPaper_56
  · refine lv_iconst (v := 2) hx hb dX2_kindOfPaper_34 (by decide) ?_
    exact RP (v := 2) hC (trivial) rfl dX2_kindOfPaper_35
set_option maxHeartbeats 4000000 in
set_option maxRecDepth 100000 in
theorem d_grasp (l : Launch) (G : GG) (h0 : Nat) (wh : Int32) (nu : Int32) (bb : Nat) (tr9 : Nat) (jr : Nat) (dk : Int32) (dn : Int32) (dp : Int32) (da : Int32) (dq : Int32) (bpersons : Nat) (bpapers : Nat) (bstamps : Nat) (bversions : Nat) (blines : Nat) (bsteps : Nat) (bsayings : Nat) (bfindings : Nat) (bwarnings : Nat) (bquestions : Nat) (td : Int32) (vd : Int32) (vl : Int32) (gp : Int32) (bpapersc : Nat) (kbpapers : Nat) (fbpapers : Nat → Int32) (bsayingsc : Nat) (kbsayings : Nat) (fbsayings : Nat → Int32) (bfindingsc : Nat) (kbfindings : Nat) (fbfindings : Nat → Int32) (hkbpapers : kbpapers ≤ 12) (hkbsayings : kbsayings ≤ 16) (hkbfindings : kbfindings ≤ 12) : MV l G yX2_grasp cX2_grasp 3 5 0 0 [.ref h0, .int wh, .int nu] [(h0, .inr (2, [.ref bb, .ref tr9, .int (nI jr), .int dk, .int dn, .int dp, .int da, .int dq])), (bb, .inr (0, [.ref bpersons, .ref bpapers, .ref bstamps, .ref bversions, .ref blines, .ref bsteps, .ref bsayings, .ref bfindings, .ref bwarnings, .ref bquestions, .int td, .int vd, .int vl, .int gp])), (bpapers, .inr (8, [.int 12, .int 6, .ref bpapersc, .int (nI kbpapers)])), (bpapersc, .inl (G.2.1, 72, .inl fbpapers)), (bsayings, .inr (8, [.int 16, .int 8, .ref bsayingsc, .int (nI kbsayings)])), (bsayingsc, .inl (G.2.1, 128, .inl fbsayings)), (bfindings, .inr (8, [.int 12, .int 4, .ref bfindingsc, .int (nI kbfindings)])), (bfindingsc, .inl (G.2.1, 48, .inl fbfindings))] (fun u : Int32 × Int32 × Int32 × Int32 => True) (fun u : Int32 × Int32 × Int32 × Int32 => [(h0, .inr (2, [.ref bb, .ref tr9, .int (nI jr), .int u.1, .int u.2.1, .int u.2.2.1, .int u.2.2.2, .int dq])), (bb, .inr (0, [.ref bpersons, .ref bpapers, .ref bstamps, .ref bversions, .ref blines, .ref bsteps, .ref bsayings, .ref bfindings, .ref bwarnings, .ref bquestions, .int td, .int vd, .int vl, .int gp])), (bpapers, .inr (8, [.int 12, .int 6, .ref bpapersc, .int (nI kbpapers)])), (bpapersc, .inl (G.2.1, 72, .inl fbpapers)), (bsayings, .inr (8, [.int 16, .int 8, .ref bsayingsc, .int (nI kbsayings)])), (bsayingsc, .inl (G.2.1, 128, .inl fbsayings)), (bfindings, .inr (8, [.int 12, .int 4, .ref bfindingsc, .int (nI kbfindings)])), (bfindingsc, .inl (G.2.1, 48, .inl fbfindings))]) := by
  refine MV.start (by decide +kernel) (Nat.le_of_ble_eq_true rfl) ?_
  intro p e s m below meth c A ls hC hK hP hD hS hA hl
  have hl : lv_has ls 3 [(0, .ref h0), (1, .int wh), (2, .int nu)] := hl
  obtain ⟨hx, hb, hr, hml, hB, hown, hlocks, hnm⟩ := id hC
  refine lv_aload_n hx hb dX2_grasp_0 rfl (lv_at hl 0 rfl) ?_
  refine lv_iload_n hx hb dX2_grasp_1 rfl (lv_at hl 2 rfl) ?_
  refine pf_X2_26 hC rfl hK hP hD hS 0 (ws' := [(h0, .inr (2, [.ref bb, .ref tr9, .int (nI jr), .int dk, .int nu, .int dp, .int da, .int dq])), (bb, .inr (0, [.ref bpersons, .ref bpapers, .ref bstamps, .ref bversions, .ref blines, .ref bsteps, .ref bsayings, .ref bfindings, .ref bwarnings, .ref bquestions, .int td, .int vd, .int vl, .int gp])), (bpapers, .inr (8, [.int 12, .int 6, .ref bpapersc, .int (nI kbpapers)])), (bpapersc, .inl (G.2.1, 72, .inl fbpapers)), (bsayings, .inr (8, [.int 16, .int 8, .ref bsayingsc, .int (nI kbsayings)])), (bsayingsc, .inl (G.2.1, 128, .inl fbsayings)), (bfindings, .inr (8, [.int 12, .int 4, .ref bfindingsc, .int (nI kbfindings)])), (bfindingsc, .inl (G.2.1, 48, .inl fbfindings))]) rfl (Nat.le_of_ble_eq_true rfl) rfl rfl rfl dX2_grasp_2 (fun H locs hP hD hS => ?_)
  refine lv_iload_n hx hb dX2_grasp_5 rfl (lv_at hl 1 rfl) ?_
  refine lv_if_ne (tgt := 53) hx hb dX2_grasp_6 (by decide) (fun c_6_4182 => ?_) (fun c_6_4182 => ?_)
  · refine lv_iload_n hx hb dX2_grasp_53 rfl (lv_at hl 1 rfl) ?_
    refine lv_iconst (v := 1) hx hb dX2_grasp_54 (by decide) ?_
    refine lv_icmp_ne (tgt := 118) hx hb dX2_grasp_55 (by decide) (fun c_55_4183 => ?_) (fun c_55_4183 => ?_)
    · refine lv_aload_n hx hb dX2_grasp_118 rfl (lv_at hl 0 rfl) ?_
      refine lv_bipush (v := 6) hx hb dX2_grasp_119 (by decide) ?_
      refine pf_X2_23 hC rfl hK hP hD hS 0 (ws' := [(h0, .inr (2, [.ref bb, .ref tr9, .int (nI jr), .int 6, .int nu, .int dp, .int da, .int dq])), (bb, .inr (0, [.ref bpersons, .ref bpapers, .ref bstamps, .ref bversions, .ref blines, .ref bsteps, .ref bsayings, .ref bfindings, .ref bwarnings, .ref bquestions, .int td, .int vd, .int vl, .int gp])), (bpapers, .inr (8, [.int 12, .int 6, .ref bpapersc, .int (nI kbpapers)])), (bpapersc, .inl (G.2.1, 72, .inl fbpapers)), (bsayings, .inr (8, [.int 16, .int 8, .ref bsayingsc, .int (nI kbsayings)])), (bsayingsc, .inl (G.2.1, 128, .inl fbsayings)), (bfindings, .inr (8, [.int 12, .int 4, .ref bfindingsc, .int (nI kbfindings)])), (bfindingsc, .inl (G.2.1, 48, .inl fbfindings))]) rfl (Nat.le_of_ble_eq_true rfl) rfl rfl rfl dX2_grasp_121 (fun H locs hP hD hS => ?_)
      refine lv_aload_n hx hb dX2_grasp_124 rfl (lv_at hl 0 rfl) ?_
      refine lv_aload_n hx hb dX2_grasp_125 rfl (lv_at hl 0 rfl) ?_
      refine gf_X2_15 hC rfl hK hP 0 rfl rfl dX2_grasp_126 ?_
      refine gf_X2_58 hC rfl hK hP 1 rfl rfl dX2_grasp_129 ?_
      refine lv_iload_n hx hb dX2_grasp_132 rfl (lv_at hl 2 rfl) ?_
      refine lv_iconst (v := 0) hx hb dX2_grasp_133 (by decide) ?_
      refine pV hC hK hl hP hD (c_T_at l G bfindings nu 0 12 4 bfindingsc kbfindings fbfindings (by omega) (by omega) (by omega)) si_X2_49 [6, 7] rfl rfl (by decide) rfl rfl rfl rfl rfl (Nat.le_of_ble_eq_true rfl) ⟨Nat.le_of_ble_eq_true rfl, Nat.le_of_ble_eq_true rfl⟩ ⟨by first | exact Nat.le_of_ble_eq_true rfl | exact Nat.zero_le _, by first | exact Nat.le_of_ble_eq_true rfl | exact Nat.zero_le _⟩ dX2_grasp_134 (fun r4184 hr4184 => ?_)
      refine pf_X2_29 hC rfl hK hP hD hS 0 (ws' := [(h0, .inr (2, [.ref bb, .ref tr9, .int (nI jr), .int 6, .int nu, .int r4184, .int da, .int dq])), (bb, .inr (0, [.ref bpersons, .ref bpapers, .ref bstamps, .ref bversions, .ref blines, .ref bsteps, .ref bsayings, .ref bfindings, .ref bwarnings, .ref bquestions, .int td, .int vd, .int vl, .int gp])), (bpapers, .inr (8, [.int 12, .int 6, .ref bpapersc, .int (nI kbpapers)])), (bpapersc, .inl (G.2.1, 72, .inl fbpapers)), (bsayings, .inr (8, [.int 16, .int 8, .ref bsayingsc, .int (nI kbsayings)])), (bsayingsc, .inl (G.2.1, 128, .inl fbsayings)), (bfindings, .inr (8, [.int 12, .int 4, .ref bfindingsc, .int (nI kbfindings)])), (bfindingsc, .inl (G.2.1, 48, .inl fbfindings))]) rfl (Nat.le_of_ble_eq_true rfl) rfl rfl rfl dX2_grasp_137 (fun H locs hP hD hS => ?_)
      refine lv_aload_n hx hb dX2_grasp_140 rfl (lv_at hl 0 rfl) ?_
      refine lv_aload_n hx hb dX2_grasp_141 rfl (lv_at hl 0 rfl) ?_
      refine gf_X2_15 hC rfl hK hP 0 rfl rfl dX2_grasp_142 ?_
      refine gf_X2_58 hC rfl hK hP 1 rfl rfl dX2_grasp_145 ?_
      refine lv_iload_n hx hb dX2_grasp_148 rfl (lv_at hl 2 rfl) ?_
      refine lv_iconst (v := 2) hx hb dX2_grasp_149 (by decide) ?_
      refine pV hC hK hl hP hD (c_T_at l G bfindings nu 2 12 4 bfindingsc kbfindings fbfindings (by omega) (by omega) (by omega)) si_X2_49 [6, 7] rfl rfl (by decide) rfl rfl rfl rfl rfl (Nat.le_of_ble_eq_true rfl) ⟨Nat.le_of_ble_eq_true rfl, Nat.le_of_ble_eq_true rfl⟩ ⟨by first | exact Nat.le_of_ble_eq_true rfl | exact Nat.zero_le _, by first | exact Nat.le_of_ble_eq_true rfl | exact Nat.zero_le _⟩ dX2_grasp_150 (fun r4186 hr4186 => ?_)
      refine pf_X2_32 hC rfl hK hP hD hS 0 (ws' := [(h0, .inr (2, [.ref bb, .ref tr9, .int (nI jr), .int 6, .int nu, .int r4184, .int r4186, .int dq])), (bb, .inr (0, [.ref bpersons, .ref bpapers, .ref bstamps, .ref bversions, .ref blines, .ref bsteps, .ref bsayings, .ref bfindings, .ref bwarnings, .ref bquestions, .int td, .int vd, .int vl, .int gp])), (bpapers, .inr (8, [.int 12, .int 6, .ref bpapersc, .int (nI kbpapers)])), (bpapersc, .inl (G.2.1, 72, .inl fbpapers)), (bsayings, .inr (8, [.int 16, .int 8, .ref bsayingsc, .int (nI kbsayings)])), (bsayingsc, .inl (G.2.1, 128, .inl fbsayings)), (bfindings, .inr (8, [.int 12, .int 4, .ref bfindingsc, .int (nI kbfindings)])), (bfindingsc, .inl (G.2.1, 48, .inl fbfindings))]) rfl (Nat.le_of_ble_eq_true rfl) rfl rfl rfl dX2_grasp_153 (fun H locs hP hD hS => ?_)
      exact RV hC hP hD hS [0, 1, 2, 3, 4, 5, 6, 7] (6, nu, r4184, r4186) rfl rfl (by decide) (trivial) dX2_grasp_156
    · refine lv_aload_n hx hb dX2_grasp_58 rfl (lv_at hl 0 rfl) ?_
      refine lv_aload_n hx hb dX2_grasp_59 rfl (lv_at hl 0 rfl) ?_
      refine gf_X2_15 hC rfl hK hP 0 rfl rfl dX2_grasp_60 ?_
      refine gf_X2_55 hC rfl hK hP 1 rfl rfl dX2_grasp_63 ?_
      refine lv_iload_n hx hb dX2_grasp_66 rfl (lv_at hl 2 rfl) ?_
      refine lv_bipush (v := 6) hx hb dX2_grasp_67 (by decide) ?_
      refine pV hC hK hl hP hD (c_T_at l G bsayings nu 6 16 8 bsayingsc kbsayings fbsayings (by omega) (by omega) (by omega)) si_X2_49 [4, 5] rfl rfl (by decide) rfl rfl rfl rfl rfl (Nat.le_of_ble_eq_true rfl) ⟨Nat.le_of_ble_eq_true rfl, Nat.le_of_ble_eq_true rfl⟩ ⟨by first | exact Nat.le_of_ble_eq_true rfl | exact Nat.zero_le _, by first | exact Nat.le_of_ble_eq_true rfl | exact Nat.zero_le _⟩ dX2_grasp_69 (fun r4188 hr4188 => ?_)
      refine lv_if_ge (tgt := 79) hx hb dX2_grasp_72 (by decide) (fun c_72_4190 => ?_) (fun c_72_4190 => ?_)
      · refine lv_iconst (v := 4) hx hb dX2_grasp_79 (by decide) ?_
        refine pf_X2_23 hC rfl hK hP hD hS 0 (ws' := [(h0, .inr (2, [.ref bb, .ref tr9, .int (nI jr), .int 4, .int nu, .int dp, .int da, .int dq])), (bb, .inr (0, [.ref bpersons, .ref bpapers, .ref bstamps, .ref bversions, .ref blines, .ref bsteps, .ref bsayings, .ref bfindings, .ref bwarnings, .ref bquestions, .int td, .int vd, .int vl, .int gp])), (bpapers, .inr (8, [.int 12, .int 6, .ref bpapersc, .int (nI kbpapers)])), (bpapersc, .inl (G.2.1, 72, .inl fbpapers)), (bsayings, .inr (8, [.int 16, .int 8, .ref bsayingsc, .int (nI kbsayings)])), (bsayingsc, .inl (G.2.1, 128, .inl fbsayings)), (bfindings, .inr (8, [.int 12, .int 4, .ref bfindingsc, .int (nI kbfindings)])), (bfindingsc, .inl (G.2.1, 48, .inl fbfindings))]) rfl (Nat.le_of_ble_eq_true rfl) rfl rfl rfl dX2_grasp_80 (fun H locs hP hD hS => ?_)
        refine lv_aload_n hx hb dX2_grasp_83 rfl (lv_at hl 0 rfl) ?_
        refine lv_aload_n hx hb dX2_grasp_84 rfl (lv_at hl 0 rfl) ?_
        refine gf_X2_15 hC rfl hK hP 0 rfl rfl dX2_grasp_85 ?_
        refine gf_X2_55 hC rfl hK hP 1 rfl rfl dX2_grasp_88 ?_
        refine lv_iload_n hx hb dX2_grasp_91 rfl (lv_at hl 2 rfl) ?_
        refine lv_iconst (v := 0) hx hb dX2_grasp_92 (by decide) ?_
        refine pV hC hK hl hP hD (c_T_at l G bsayings nu 0 16 8 bsayingsc kbsayings fbsayings (by omega) (by omega) (by omega)) si_X2_49 [4, 5] rfl rfl (by decide) rfl rfl rfl rfl rfl (Nat.le_of_ble_eq_true rfl) ⟨Nat.le_of_ble_eq_true rfl, Nat.le_of_ble_eq_true rfl⟩ ⟨by first | exact Nat.le_of_ble_eq_true rfl | exact Nat.zero_le _, by first | exact Nat.le_of_ble_eq_true rfl | exact Nat.zero_le _⟩ dX2_grasp_93 (fun r4191 hr4191 => ?_)
        refine pf_X2_29 hC rfl hK hP hD hS 0 (ws' := [(h0, .inr (2, [.ref bb, .ref tr9, .int (nI jr), .int 4, .int nu, .int r4191, .int da, .int dq])), (bb, .inr (0, [.ref bpersons, .ref bpapers, .ref bstamps, .ref bversions, .ref blines, .ref bsteps, .ref bsayings, .ref bfindings, .ref bwarnings, .ref bquestions, .int td, .int vd, .int vl, .int gp])), (bpapers, .inr (8, [.int 12, .int 6, .ref bpapersc, .int (nI kbpapers)])), (bpapersc, .inl (G.2.1, 72, .inl fbpapers)), (bsayings, .inr (8, [.int 16, .int 8, .ref bsayingsc, .int (nI kbsayings)])), (bsayingsc, .inl (G.2.1, 128, .inl fbsayings)), (bfindings, .inr (8, [.int 12, .int 4, .ref bfindingsc, .int (nI kbfindings)])), (bfindingsc, .inl (G.2.1, 48, .inl fbfindings))]) rfl (Nat.le_of_ble_eq_true rfl) rfl rfl rfl dX2_grasp_96 (fun H locs hP hD hS => ?_)
        refine lv_aload_n hx hb dX2_grasp_99 rfl (lv_at hl 0 rfl) ?_
        refine lv_aload_n hx hb dX2_grasp_100 rfl (lv_at hl 0 rfl) ?_
        refine gf_X2_15 hC rfl hK hP 0 rfl rfl dX2_grasp_101 ?_
        refine gf_X2_55 hC rfl hK hP 1 rfl rfl dX2_grasp_104 ?_
        refine lv_iload_n hx hb dX2_grasp_107 rfl (lv_at hl 2 rfl) ?_
        refine lv_iconst (v := 4) hx hb dX2_grasp_108 (by decide) ?_
        refine pV hC hK hl hP hD (c_T_at l G bsayings nu 4 16 8 bsayingsc kbsayings fbsayings (by omega) (by omega) (by omega)) si_X2_49 [4, 5] rfl rfl (by decide) rfl rfl rfl rfl rfl (Nat.le_of_ble_eq_true rfl) ⟨Nat.le_of_ble_eq_true rfl, Nat.le_of_ble_eq_true rfl⟩ ⟨by first | exact Nat.le_of_ble_eq_true rfl | exact Nat.zero_le _, by first | exact Nat.le_of_ble_eq_true rfl | exact Nat.zero_le _⟩ dX2_grasp_109 (fun r4193 hr4193 => ?_)
        refine pf_X2_32 hC rfl hK hP hD hS 0 (ws' := [(h0, .inr (2, [.ref bb, .ref tr9, .int (nI jr), .int 4, .int nu, .int r4191, .int r4193, .int dq])), (bb, .inr (0, [.ref bpersons, .ref bpapers, .ref bstamps, .ref bversions, .ref blines, .ref bsteps, .ref bsayings, .ref bfindings, .ref bwarnings, .ref bquestions, .int td, .int vd, .int vl, .int gp])), (bpapers, .inr (8, [.int 12, .int 6, .ref bpapersc, .int (nI kbpapers)])), (bpapersc, .inl (G.2.1, 72, .inl fbpapers)), (bsayings, .inr (8, [.int 16, .int 8, .ref bsayingsc, .int (nI kbsayings)])), (bsayingsc, .inl (G.2.1, 128, .inl fbsayings)), (bfindings, .inr (8, [.int 12, .int 4, .ref bfindingsc, .int (nI kbfindings)])), (bfindingsc, .inl (G.2.1, 48, .inl fbfindings))]) rfl (Nat.le_of_ble_eq_true rfl) rfl rfl rfl dX2_grasp_112 (fun H locs hP hD hS => ?_)
        refine lv_goto (tgt := 156) hx hb dX2_grasp_115 (by decide) ?_
        exact RV hC hP hD hS [0, 1, 2, 3, 4, 5, 6, 7] (4, nu, r4191, r4193) rfl rfl (by decide) (trivial) dX2_grasp_156
      · refine lv_iconst (v := 5) hx hb dX2_grasp_75 (by decide) ?_
        refine lv_goto (tgt := 80) hx hb dX2_grasp_76 (by decide) ?_
        refine pf_X2_23 hC rfl hK hP hD hS 0 (ws' := [(h0, .inr (2, [.ref bb, .ref tr9, .int (nI jr), .int 5, .int nu, .int dp, .int da, .int dq])), (bb, .inr (0, [.ref bpersons, .ref bpapers, .ref bstamps, .ref bversions, .ref blines, .ref bsteps, .ref bsayings, .ref bfindings, .ref bwarnings, .ref bquestions, .int td, .int vd, .int vl, .int gp])), (bpapers, .inr (8, [.int 12, .int 6, .ref bpapersc, .int (nI kbpapers)])), (bpapersc, .inl (G.2.1, 72, .inl fbpapers)), (bsayings, .inr (8, [.int 16, .int 8, .ref bsayingsc, .int (nI kbsayings)])), (bsayingsc, .inl (G.2.1, 128, .inl fbsayings)), (bfindings, .inr (8, [.int 12, .int 4, .ref bfindingsc, .int (nI kbfindings)])), (bfindingsc, .inl (G.2.1, 48, .inl fbfindings))]) rfl (Nat.le_of_ble_eq_true rfl) rfl rfl rfl dX2_grasp_80 (fun H locs hP hD hS => ?_)
        refine lv_aload_n hx hb dX2_grasp_83 rfl (lv_at hl 0 rfl) ?_
        refine lv_aload_n hx hb dX2_grasp_84 rfl (lv_at hl 0 rfl) ?_
        refine gf_X2_15 hC rfl hK hP 0 rfl rfl dX2_grasp_85 ?_
        refine gf_X2_55 hC rfl hK hP 1 rfl rfl dX2_grasp_88 ?_
        refine lv_iload_n hx hb dX2_grasp_91 rfl (lv_at hl 2 rfl) ?_
        refine lv_iconst (v := 0) hx hb dX2_grasp_92 (by decide) ?_
        refine pV hC hK hl hP hD (c_T_at l G bsayings nu 0 16 8 bsayingsc kbsayings fbsayings (by omega) (by omega) (by omega)) si_X2_49 [4, 5] rfl rfl (by decide) rfl rfl rfl rfl rfl (Nat.le_of_ble_eq_true rfl) ⟨Nat.le_of_ble_eq_true rfl, Nat.le_of_ble_eq_true rfl⟩ ⟨by first | exact Nat.le_of_ble_eq_true rfl | exact Nat.zero_le _, by first | exact Nat.le_of_ble_eq_true rfl | exact Nat.zero_le _⟩ dX2_grasp_93 (fun r4195 hr4195 => ?_)
        refine pf_X2_29 hC rfl hK hP hD hS 0 (ws' := [(h0, .inr (2, [.ref bb, .ref tr9, .int (nI jr), .int 5, .int nu, .int r4195, .int da, .int dq])), (bb, .inr (0, [.ref bpersons, .ref bpapers, .ref bstamps, .ref bversions, .ref blines, .ref bsteps, .ref bsayings, .ref bfindings, .ref bwarnings, .ref bquestions, .int td, .int vd, .int vl, .int gp])), (bpapers, .inr (8, [.int 12, .int 6, .ref bpapersc, .int (nI kbpapers)])), (bpapersc, .inl (G.2.1, 72, .inl fbpapers)), (bsayings, .inr (8, [.int 16, .int 8, .ref bsayingsc, .int (nI kbsayings)])), (bsayingsc, .inl (G.2.1, 128, .inl fbsayings)), (bfindings, .inr (8, [.int 12, .int 4, .ref bfindingsc, .int (nI kbfindings)])), (bfindingsc, .inl (G.2.1, 48, .inl fbfindings))]) rfl (Nat.le_of_ble_eq_true rfl) rfl rfl rfl dX2_grasp_96 (fun H locs hP hD hS => ?_)
        refine lv_aload_n hx hb dX2_grasp_99 rfl (lv_at hl 0 rfl) ?_
        refine lv_aload_n hx hb dX2_grasp_100 rfl (lv_at hl 0 rfl) ?_
        refine gf_X2_15 hC rfl hK hP 0 rfl rfl dX2_grasp_101 ?_
        refine gf_X2_55 hC rfl hK hP 1 rfl rfl dX2_grasp_104 ?_
        refine lv_iload_n hx hb dX2_grasp_107 rfl (lv_at hl 2 rfl) ?_
        refine lv_iconst (v := 4) hx hb dX2_grasp_108 (by decide) ?_
        refine pV hC hK hl hP hD (c_T_at l G bsayings nu 4 16 8 bsayingsc kbsayings fbsayings (by omega) (by omega) (by omega)) si_X2_49 [4, 5] rfl rfl (by decide) rfl rfl rfl rfl rfl (Nat.le_of_ble_eq_true rfl) ⟨Nat.le_of_ble_eq_true rfl, Nat.le_of_ble_eq_true rfl⟩ ⟨by first | exact Nat.le_of_ble_eq_true rfl | exact Nat.zero_le _, by first | exact Nat.le_of_ble_eq_true rfl | exact Nat.zero_le _⟩ dX2_grasp_109 (fun r4197 hr4197 => ?_)
        refine pf_X2_32 hC rfl hK hP hD hS 0 (ws' := [(h0, .inr (2, [.ref bb, .ref tr9, .int (nI jr), .int 5, .int nu, .int r4195, .int r4197, .int dq])), (bb, .inr (0, [.ref bpersons, .ref bpapers, .ref bstamps, .ref bversions, .ref blines, .ref bsteps, .ref bsayings, .ref bfindings, .ref bwarnings, .ref bquestions, .int td, .int vd, .int vl, .int gp])), (bpapers, .inr (8, [.int 12, .int 6, .ref bpapersc, .int (nI kbpapers)])), (bpapersc, .inl (G.2.1, 72, .inl fbpapers)), (bsayings, .inr (8, [.int 16, .int 8, .ref bsayingsc, .int (nI kbsayings)])), (bsayingsc, .inl (G.2.1, 128, .inl fbsayings)), (bfindings, .inr (8, [.int 12, .int 4, .ref bfindingsc, .int (nI kbfindings)])), (bfindingsc, .inl (G.2.1, 48, .inl fbfindings))]) rfl (Nat.le_of_ble_eq_true rfl) rfl rfl rfl dX2_grasp_112 (fun H locs hP hD hS => ?_)
        refine lv_goto (tgt := 156) hx hb dX2_grasp_115 (by decide) ?_
        exact RV hC hP hD hS [0, 1, 2, 3, 4, 5, 6, 7] (5, nu, r4195, r4197) rfl rfl (by decide) (trivial) dX2_grasp_156
  · refine lv_aload_n hx hb dX2_grasp_9 rfl (lv_at hl 0 rfl) ?_
    refine lv_aload_n hx hb dX2_grasp_10 rfl (lv_at hl 0 rfl) ?_
    refine lv_iload_n hx hb dX2_grasp_11 rfl (lv_at hl 2 rfl) ?_
    refine pV hC hK hl hP hD (d_kindOfPaper l G h0 nu bb tr9 jr dk nu dp da dq bpersons bpapers bstamps bversions blines bsteps bsayings bfindings bwarnings bquestions td vd vl gp bpapersc kbpapers fbpapers (by omega)) si_X2_39 [0, 1, 2, 3] rfl rfl (by decide) rfl rfl rfl rfl rfl (Nat.le_of_ble_eq_true rfl) ⟨Nat.le_of_ble_eq_true rfl, Nat.le_of_ble_eq_true rfl⟩ ⟨by first | exact Nat.le_of_ble_eq_true rfl | exact Nat.zero_le _, by first | exact Nat.le_of_ble_eq_true rfl | exact Nat.zero_le _⟩ dX2_grasp_12 (fun r4199 hr4199 => ?_)
    refine pf_X2_23 hC rfl hK hP hD hS 0 (ws' := [(h0, .inr (2, [.ref bb, .ref tr9, .int (nI jr), .int r4199, .int nu, .int dp, .int da, .int dq])), (bb, .inr (0, [.ref bpersons, .ref bpapers, .ref bstamps, .ref bversions, .ref blines, .ref bsteps, .ref bsayings, .ref bfindings, .ref bwarnings, .ref bquestions, .int td, .int vd, .int vl, .int gp])), (bpapers, .inr (8, [.int 12, .int 6, .ref bpapersc, .int (nI kbpapers)])), (bpapersc, .inl (G.2.1, 72, .inl fbpapers)), (bsayings, .inr (8, [.int 16, .int 8, .ref bsayingsc, .int (nI kbsayings)])), (bsayingsc, .inl (G.2.1, 128, .inl fbsayings)), (bfindings, .inr (8, [.int 12, .int 4, .ref bfindingsc, .int (nI kbfindings)])), (bfindingsc, .inl (G.2.1, 48, .inl fbfindings))]) rfl (Nat.le_of_ble_eq_true rfl) rfl rfl rfl dX2_grasp_15 (fun H locs hP hD hS => ?_)
    refine lv_aload_n hx hb dX2_grasp_18 rfl (lv_at hl 0 rfl) ?_
    refine lv_aload_n hx hb dX2_grasp_19 rfl (lv_at hl 0 rfl) ?_
    refine gf_X2_15 hC rfl hK hP 0 rfl rfl dX2_grasp_20 ?_
    refine gf_X2_43 hC rfl hK hP 1 rfl rfl dX2_grasp_23 ?_
    refine lv_iload_n hx hb dX2_grasp_26 rfl (lv_at hl 2 rfl) ?_
    refine lv_iconst (v := 0) hx hb dX2_grasp_27 (by decide) ?_
    refine pV hC hK hl hP hD (c_T_at l G bpapers nu 0 12 6 bpapersc kbpapers fbpapers (by omega) (by omega) (by omega)) si_X2_49 [2, 3] rfl rfl (by decide) rfl rfl rfl rfl rfl (Nat.le_of_ble_eq_true rfl) ⟨Nat.le_of_ble_eq_true rfl, Nat.le_of_ble_eq_true rfl⟩ ⟨by first | exact Nat.le_of_ble_eq_true rfl | exact Nat.zero_le _, by first | exact Nat.le_of_ble_eq_true rfl | exact Nat.zero_le _⟩ dX2_grasp_28 (fun r4200 hr4200 => ?_)
    refine pf_X2_29 hC rfl hK hP hD hS 0 (ws' := [(h0, .inr (2, [.ref bb, .ref tr9, .int (nI jr), .int r4199, .int nu, .int r4200, .int da, .int dq])), (bb, .inr (0, [.ref bpersons, .ref bpapers, .ref bstamps, .ref bversions, .ref blines, .ref bsteps, .ref bsayings, .ref bfindings, .ref bwarnings, .ref bquestions, .int td, .int vd, .int vl, .int gp])), (bpapers, .inr (8, [.int 12, .int 6, .ref bpapersc, .int (nI kbpapers)])), (bpapersc, .inl (G.2.1, 72, .inl fbpapers)), (bsayings, .inr (8, [.int 16, .int 8, .ref bsayingsc, .int (nI kbsayings)])), (bsayingsc, .inl (G.2.1, 128, .inl fbsayings)), (bfindings, .inr (8, [.int 12, .int 4, .ref bfindingsc, .int (nI kbfindings)])), (bfindingsc, .inl (G.2.1, 48, .inl fbfindings))]) rfl (Nat.le_of_ble_eq_true rfl) rfl rfl rfl dX2_grasp_31 (fun H locs hP hD hS => ?_)
    refine lv_aload_n hx hb dX2_grasp_34 rfl (lv_at hl 0 rfl) ?_
    refine lv_aload_n hx hb dX2_grasp_35 rfl (lv_at hl 0 rfl) ?_
    refine gf_X2_15 hC rfl hK hP 0 rfl rfl dX2_grasp_36 ?_
    refine gf_X2_43 hC rfl hK hP 1 rfl rfl dX2_grasp_39 ?_
    refine lv_iload_n hx hb dX2_grasp_42 rfl (lv_at hl 2 rfl) ?_
    refine lv_iconst (v := 2) hx hb dX2_grasp_43 (by decide) ?_
    refine pV hC hK hl hP hD (c_T_at l G bpapers nu 2 12 6 bpapersc kbpapers fbpapers (by omega) (by omega) (by omega)) si_X2_49 [2, 3] rfl rfl (by decide) rfl rfl rfl rfl rfl (Nat.le_of_ble_eq_true rfl) ⟨Nat.le_of_ble_eq_true rfl, Nat.le_of_ble_eq_true rfl⟩ ⟨by first | exact Nat.le_of_ble_eq_true rfl | exact Nat.zero_le _, by first | exact Nat.le_of_ble_eq_true rfl | exact Nat.zero_le _⟩ dX2_grasp_44 (fun r4202 hr4202 => ?_)
    refine pf_X2_32 hC rfl hK hP hD hS 0 (ws' := [(h0, .inr (2, [.ref bb, .ref tr9, .int (nI jr), .int r4199, .int nu, .int r4200, .int r4202, .int dq])), (bb, .inr (0, [.ref bpersons, .ref bpapers, .ref bstamps, .ref bversions, .ref blines, .ref bsteps, .ref bsayings, .ref bfindings, .ref bwarnings, .ref bquestions, .int td, .int vd, .int vl, .int gp])), (bpapers, .inr (8, [.int 12, .int 6, .ref bpapersc, .int (nI kbpapers)])), (bpapersc, .inl (G.2.1, 72, .inl fbpapers)), (bsayings, .inr (8, [.int 16, .int 8, .ref bsayingsc, .int (nI kbsayings)])), (bsayingsc, .inl (G.2.1, 128, .inl fbsayings)), (bfindings, .inr (8, [.int 12, .int 4, .ref bfindingsc, .int (nI kbfindings)])), (bfindingsc, .inl (G.2.1, 48, .inl fbfindings))]) rfl (Nat.le_of_ble_eq_true rfl) rfl rfl rfl dX2_grasp_47 (fun H locs hP hD hS => ?_)
    refine lv_goto (tgt := 156) hx hb dX2_grasp_50 (by decide) ?_
    exact RV hC hP hD hS [0, 1, 2, 3, 4, 5, 6, 7] (r4199, nu, r4200, r4202) rfl rfl (by decide) (trivial) dX2_grasp_156
set_option maxHeartbeats 4000000 in
set_option maxRecDepth 100000 in
theorem d_clearTrace (l : Launch) (G : GG) (h0 : Nat) (bb : Nat) (tr9 : Nat) (jr : Nat) (dk : Int32) (dn : Int32) (dp : Int32) (da : Int32) (dq : Int32) : MV l G yX2_clearTrace cX2_clearTrace 1 1 0 0 [.ref h0] [(h0, .inr (2, [.ref bb, .ref tr9, .int (nI jr), .int dk, .int dn, .int dp, .int da, .int dq]))] (fun u : Unit => True) (fun u : Unit => [(h0, .inr (2, [.ref bb, .ref tr9, .int 0, .int dk, .int dn, .int dp, .int da, .int dq]))]) := by
  refine MV.start (by decide +kernel) (Nat.le_of_ble_eq_true rfl) ?_
  intro p e s m below meth c A ls hC hK hP hD hS hA hl
  have hl : lv_has ls 1 [(0, .ref h0)] := hl
  obtain ⟨hx, hb, hr, hml, hB, hown, hlocks, hnm⟩ := id hC
  refine lv_aload_n hx hb dX2_clearTrace_0 rfl (lv_at hl 0 rfl) ?_
  refine lv_iconst (v := 0) hx hb dX2_clearTrace_1 (by decide) ?_
  refine pf_X2_19 hC rfl hK hP hD hS 0 (ws' := [(h0, .inr (2, [.ref bb, .ref tr9, .int 0, .int dk, .int dn, .int dp, .int da, .int dq]))]) rfl (Nat.le_of_ble_eq_true rfl) rfl rfl rfl dX2_clearTrace_2 (fun H locs hP hD hS => ?_)
  exact RV hC hP hD hS [0] () rfl rfl (by decide) (trivial) dX2_clearTrace_5
set_option maxHeartbeats 4000000 in
set_option maxRecDepth 100000 in
theorem d_isUnder (l : Launch) (G : GG) (K : OO) (h0 : Nat) (as9 : Int32) (bb : Nat) (tr9 : Nat) (jr : Nat) (dk : Int32) (dn : Int32) (dp : Int32) (da : Int32) (dq : Int32) : MPo l G K yX2_isUnder cX2_isUnder 4 (some .boolean) 3 [.ref h0, .int as9] [(h0, .inr (2, [.ref bb, .ref tr9, .int (nI jr), .int dk, .int dn, .int dp, .int da, .int dq]))] (fun r : Int32 => r = 1 ∨ r = 0) := by
  refine MPo.start (by decide +kernel) (Nat.le_of_ble_eq_true rfl) ?_
  intro p e s m below meth c ls hC hK hP hD hl hO hS
  have hl : lv_has ls 4 [(0, .ref h0), (1, .int as9)] := hl
  obtain ⟨hx, hb, hr, hml, hB, hown, hlocks, hnm⟩ := id hC
  refine lv_aload_n hx hb dX2_isUnder_0 rfl (lv_at hl 0 rfl) ?_
  refine gf_X2_23 hC rfl hK hP 0 rfl rfl dX2_isUnder_1 ?_
  refine lv_istore_n (lv' := [(2, .int dk), (0, .ref h0), (1, .int as9)]) hx hb dX2_isUnder_4 rfl hl (by decide) rfl (fun ls hl => ?_)
  refine lv_iconst (v := 0) hx hb dX2_isUnder_5 (by decide) ?_
  refine lv_istore_n (lv' := [(3, .int 0), (2, .int dk), (0, .ref h0), (1, .int as9)]) hx hb dX2_isUnder_6 rfl hl (by decide) rfl (fun ls hl => ?_)
  have keyP : ∀ (nP kP : Nat) (vk : Int32) (ls : Array Slot), kP + nP = 7 → lv_has ls 4 [(3, .int (nI kP)), (2, .int vk), (0, .ref h0), (1, .int as9)] → W p l e (RM 3 0 0) s m ([.ref h0, .int as9] : List Value).toArray below meth c s.heap [] 0 0 (MQ below (QP (fun r : Int32 => r = 1 ∨ r = 0)) ([.ref h0, .int as9] : List Value).toArray s 0 0 (fun _ => False)) (F0 m 7 ls []) := by
    intro nP
    induction nP with
    | zero =>
      intro kP vk ls hkP hl
      obtain rfl : 7 = kP := by omega
      have hl : lv_has ls 4 [(3, .int 7), (2, .int vk), (0, .ref h0), (1, .int as9)] := hl
      refine lv_iload_n hx hb dX2_isUnder_7 rfl (lv_at hl 0 rfl) ?_
      refine lv_bipush (v := 7) hx hb dX2_isUnder_8 (by decide) ?_
      refine lv_icmp_ge (tgt := 40) hx hb dX2_isUnder_10 (by decide) (fun _ => ?_) (fun c9 => absurd (by decide) c9)
      refine lv_iload_n hx hb dX2_isUnder_40 rfl (lv_at hl 1 rfl) ?_
      refine lv_iload_n hx hb dX2_isUnder_41 rfl (lv_at hl 3 rfl) ?_
      refine lv_icmp_ne (tgt := 59) hx hb dX2_isUnder_42 (by decide) (fun c_42_4204 => ?_) (fun c_42_4204 => ?_)
      · refine lv_iconst (v := 0) hx hb dX2_isUnder_59 (by decide) ?_
        exact RP (v := 0) hC (Or.inr (rfl)) (by decide +kernel) dX2_isUnder_60
      · refine lv_iload_n hx hb dX2_isUnder_45 rfl (lv_at hl 1 rfl) ?_
        refine lv_iconst (v := 0) hx hb dX2_isUnder_46 (by decide) ?_
        refine lv_bipush (v := 6) hx hb dX2_isUnder_47 (by decide) ?_
        refine pSN hC hK hl (c_within l G vk 0 6) si_X2_61 rfl rfl (Nat.le_of_ble_eq_true rfl) ⟨Nat.le_of_ble_eq_true rfl, Nat.le_of_ble_eq_true rfl⟩ ⟨by first | exact Nat.le_of_ble_eq_true rfl | exact Nat.zero_le _, by first | exact Nat.le_of_ble_eq_true rfl | exact Nat.zero_le _⟩ dX2_isUnder_49 (fun r4205 hr4205 => ?_)
        rcases hr4205 with ⟨rfl, a4206⟩ | ⟨rfl, a4206⟩
        · refine lv_if_eq (tgt := 59) hx hb dX2_isUnder_52 (by decide) (fun c9 => absurd c9 (by decide)) (fun _ => ?_)
          refine lv_iconst (v := 1) hx hb dX2_isUnder_55 (by decide) ?_
          refine lv_goto (tgt := 60) hx hb dX2_isUnder_56 (by decide) ?_
          exact RP (v := 1) hC (Or.inl (rfl)) (by decide +kernel) dX2_isUnder_60
        · refine lv_if_eq (tgt := 59) hx hb dX2_isUnder_52 (by decide) (fun _ => ?_) (fun c9 => absurd (by decide) c9)
          refine lv_iconst (v := 0) hx hb dX2_isUnder_59 (by decide) ?_
          exact RP (v := 0) hC (Or.inr (rfl)) (by decide +kernel) dX2_isUnder_60
    | succ nP ihP =>
      intro kP vk ls hkP hl
      refine lv_iload_n hx hb dX2_isUnder_7 rfl (lv_at hl 0 rfl) ?_
      refine lv_bipush (v := 7) hx hb dX2_isUnder_8 (by decide) ?_
      refine lv_icmp_ge (tgt := 40) hx hb dX2_isUnder_10 (by decide) (fun c9 => absurd c9 (nI_ge (a := kP) (b := 7) (by omega) (by omega))) (fun _ => ?_)
      refine lv_iload_n hx hb dX2_isUnder_13 rfl (lv_at hl 1 rfl) ?_
      refine lv_iload_n hx hb dX2_isUnder_14 rfl (lv_at hl 3 rfl) ?_
      refine lv_icmp_eq (tgt := 40) hx hb dX2_isUnder_15 (by decide) (fun c_15_4207 => ?_) (fun c_15_4207 => ?_)
      · refine lv_iload_n hx hb dX2_isUnder_40 rfl (lv_at hl 1 rfl) ?_
        refine lv_iload_n hx hb dX2_isUnder_41 rfl (lv_at hl 3 rfl) ?_
        refine lv_icmp_ne (tgt := 59) hx hb dX2_isUnder_42 (by decide) (fun c9 => absurd (c_15_4207) c9) (fun _ => ?_)
        refine lv_iload_n hx hb dX2_isUnder_45 rfl (lv_at hl 1 rfl) ?_
        refine lv_iconst (v := 0) hx hb dX2_isUnder_46 (by decide) ?_
        refine lv_bipush (v := 6) hx hb dX2_isUnder_47 (by decide) ?_
        refine pSN hC hK hl (c_within l G vk 0 6) si_X2_61 rfl rfl (Nat.le_of_ble_eq_true rfl) ⟨Nat.le_of_ble_eq_true rfl, Nat.le_of_ble_eq_true rfl⟩ ⟨by first | exact Nat.le_of_ble_eq_true rfl | exact Nat.zero_le _, by first | exact Nat.le_of_ble_eq_true rfl | exact Nat.zero_le _⟩ dX2_isUnder_49 (fun r4208 hr4208 => ?_)
        rcases hr4208 with ⟨rfl, a4209⟩ | ⟨rfl, a4209⟩
        · refine lv_if_eq (tgt := 59) hx hb dX2_isUnder_52 (by decide) (fun c9 => absurd c9 (by decide)) (fun _ => ?_)
          refine lv_iconst (v := 1) hx hb dX2_isUnder_55 (by decide) ?_
          refine lv_goto (tgt := 60) hx hb dX2_isUnder_56 (by decide) ?_
          exact RP (v := 1) hC (Or.inl (rfl)) (by decide +kernel) dX2_isUnder_60
        · refine lv_if_eq (tgt := 59) hx hb dX2_isUnder_52 (by decide) (fun _ => ?_) (fun c9 => absurd (by decide) c9)
          refine lv_iconst (v := 0) hx hb dX2_isUnder_59 (by decide) ?_
          exact RP (v := 0) hC (Or.inr (rfl)) (by decide +kernel) dX2_isUnder_60
      · refine lv_iload_n hx hb dX2_isUnder_18 rfl (lv_at hl 1 rfl) ?_
        refine lv_iconst (v := 0) hx hb dX2_isUnder_19 (by decide) ?_
        refine lv_bipush (v := 6) hx hb dX2_isUnder_20 (by decide) ?_
        refine pSN hC hK hl (c_within l G vk 0 6) si_X2_61 rfl rfl (Nat.le_of_ble_eq_true rfl) ⟨Nat.le_of_ble_eq_true rfl, Nat.le_of_ble_eq_true rfl⟩ ⟨by first | exact Nat.le_of_ble_eq_true rfl | exact Nat.zero_le _, by first | exact Nat.le_of_ble_eq_true rfl | exact Nat.zero_le _⟩ dX2_isUnder_22 (fun r4210 hr4210 => ?_)
        rcases hr4210 with ⟨rfl, a4211⟩ | ⟨rfl, a4211⟩
        · refine lv_if_eq (tgt := 40) hx hb dX2_isUnder_25 (by decide) (fun c9 => absurd c9 (by decide)) (fun _ => ?_)
          obtain ⟨jk, hjk, rfl⟩ := Wi6 a4211
          refine va_gets hx hb hO.1.2.2.2.1 hS hown (hB _ m_1301) (fun _ h => h) dX2_isUnder_28 ?_
          refine lv_iload_n hx hb dX2_isUnder_31 rfl (lv_at hl 1 rfl) ?_
          refine va_ti hx hb hO.1.2.2.2.2.1 hS (vp_in_nI (by omega) (by omega)) (v := .int (ABV.getD jk 0)) (congrArg (fun z9 => Value.int (ABV.getD z9 0)) (nI_clamp (by omega))) dX2_isUnder_32 ?_
          refine lv_topi (fun x4212 ex4212 => ?_)
          refine lv_istore_n (lv' := [(2, .int x4212), (3, .int (nI kP)), (0, .ref h0), (1, .int as9)]) hx hb dX2_isUnder_33 rfl hl (by decide) rfl (fun ls hl => ?_)
          refine lv_iinc (v := nI (kP + 1)) (lv' := [(3, .int (nI (kP + 1))), (2, .int x4212), (0, .ref h0), (1, .int as9)]) hx hb dX2_isUnder_34 hl (k := 1) rfl (nI_1 _) (by decide) rfl (fun ls hl => ?_)
          refine lv_goto (tgt := 7) hx hb dX2_isUnder_37 (by decide) ?_
          exact ihP (kP + 1) x4212 _ (by omega) (lv_sub hl [0, 1, 2, 3] rfl)
        · refine lv_if_eq (tgt := 40) hx hb dX2_isUnder_25 (by decide) (fun _ => ?_) (fun c9 => absurd (by decide) c9)
          refine lv_iload_n hx hb dX2_isUnder_40 rfl (lv_at hl 1 rfl) ?_
          refine lv_iload_n hx hb dX2_isUnder_41 rfl (lv_at hl 3 rfl) ?_
          refine lv_icmp_ne (tgt := 59) hx hb dX2_isUnder_42 (by decide) (fun _ => ?_) (fun c9 => absurd c9 (c_15_4207))
          refine lv_iconst (v := 0) hx hb dX2_isUnder_59 (by decide) ?_
          exact RP (v := 0) hC (Or.inr (rfl)) (by decide +kernel) dX2_isUnder_60
  exact keyP 7 0 dk _ (by omega) (lv_sub hl [0, 1, 2, 3] rfl)
set_option maxHeartbeats 4000000 in
set_option maxRecDepth 100000 in
theorem d_quotient (l : Launch) (G : GG) (h0 : Nat) (xx : Int32) (bb : Nat) (tr9 : Nat) (jr : Nat) (dk : Int32) (dn : Int32) (dp : Int32) (da : Int32) (dq : Int32) : MI l G yX2_quotient cX2_quotient 3 (some .int) 1 0 0 [.ref h0, .int xx] [(h0, .inr (2, [.ref bb, .ref tr9, .int (nI jr), .int dk, .int dn, .int dp, .int da, .int dq]))] (fun (r : Int32) (u : Int32) => (True)) (fun u : Int32 => [(h0, .inr (2, [.ref bb, .ref tr9, .int (nI jr), .int dk, .int dn, .int dp, .int da, .int u]))]) := by
  refine MI.start (by decide +kernel) (Nat.le_of_ble_eq_true rfl) ?_
  intro p e s m below meth c A ls hC hK hP hD hS hA hl
  have hl : lv_has ls 3 [(0, .ref h0), (1, .int xx)] := hl
  obtain ⟨hx, hb, hr, hml, hB, hown, hlocks, hnm⟩ := id hC
  refine lv_aload_n hx hb dX2_quotient_0 rfl (lv_at hl 0 rfl) ?_
  refine gf_X2_29 hC rfl hK hP 0 rfl rfl dX2_quotient_1 ?_
  refine lv_aload_n hx hb dX2_quotient_4 rfl (lv_at hl 0 rfl) ?_
  refine gf_X2_26 hC rfl hK hP 0 rfl rfl dX2_quotient_5 ?_
  refine lv_isub hx hb dX2_quotient_8 ?_
  refine lv_istore_n (lv' := [(2, .int (dp - dn)), (0, .ref h0), (1, .int xx)]) hx hb dX2_quotient_9 rfl hl (by decide) rfl (fun ls hl => ?_)
  refine lv_iload_n hx hb dX2_quotient_10 rfl (lv_at hl 0 rfl) ?_
  refine lv_if_ne (tgt := 21) hx hb dX2_quotient_11 (by decide) (fun c_11_4213 => ?_) (fun c_11_4213 => ?_)
  · refine lv_iload_n hx hb dX2_quotient_21 rfl (lv_at hl 2 rfl) ?_
    refine lv_iload_n hx hb dX2_quotient_22 rfl (lv_at hl 0 rfl) ?_
    refine lv_idiv hx hb dX2_quotient_23 (c_11_4213) ?_
    refine lv_topi (fun x4214 ex4214 => ?_)
    exact RI (v := x4214) hC hP hD hS [0] dq rfl rfl (by decide) (trivial) rfl dX2_quotient_24
  · refine lv_aload_n hx hb dX2_quotient_14 rfl (lv_at hl 1 rfl) ?_
    refine lv_iconst (v := 1) hx hb dX2_quotient_15 (by decide) ?_
    refine pf_X2_35 hC rfl hK hP hD hS 0 (ws' := [(h0, .inr (2, [.ref bb, .ref tr9, .int (nI jr), .int dk, .int dn, .int dp, .int da, .int 1]))]) rfl (Nat.le_of_ble_eq_true rfl) rfl (by decide +kernel) (by decide +kernel) dX2_quotient_16 (fun H locs hP hD hS => ?_)
    refine lv_iconst (v := 0) hx hb dX2_quotient_19 (by decide) ?_
    exact RI (v := 0) hC hP hD hS [0] 1 rfl rfl (by decide) (trivial) rfl dX2_quotient_20
set_option maxHeartbeats 4000000 in
set_option maxRecDepth 100000 in
theorem d_dealAs (l : Launch) (G : GG) (K : OO) (mn : Nat) (h0 : Nat) (as9 : Int32) (dd : Int32) (xx : Int32) (dz : Nat) (bb : Nat) (tr9 : Nat) (jr : Nat) (dk : Int32) (dn : Int32) (dp : Int32) (da : Int32) (dq : Int32) (ftr : Nat → Int32) (hdz : dz + mn = 20) (hjr : jr ≤ 30) (ihR : ∀ (h0 : Nat) (body : Int32) (of9 : Int32) (xx : Int32) (dz : Nat) (bb : Nat) (tr9 : Nat) (jr : Nat) (dk : Int32) (dn : Int32) (dp : Int32) (da : Int32) (dq : Int32) (ftr : Nat → Int32) (hdz : dz + mn = 21) (hjr : jr ≤ 30), MIo l G K yX2_run cX2_run 7 (some .int) (3 * mn + 2) 0 0 [.ref h0, .int body, .int of9, .int xx, .int (nI dz)] [(h0, .inr (2, [.ref bb, .ref tr9, .int (nI jr), .int dk, .int dn, .int dp, .int da, .int dq])), (tr9, .inl (G.2.1, 30, .inl ftr))] (fun (r : Int32) (u : Nat × (Nat → Int32) × Int32) => (True) ∧ (u.1 ≤ 30)) (fun u : Nat × (Nat → Int32) × Int32 => [(h0, .inr (2, [.ref bb, .ref tr9, .int (nI u.1), .int dk, .int dn, .int dp, .int da, .int u.2.2])), (tr9, .inl (G.2.1, 30, .inl u.2.1))])) : MIo l G K yX2_dealAs cX2_dealAs 8 (some .int) (3 * mn + 3) 0 0 [.ref h0, .int as9, .int dd, .int xx, .int (nI dz)] [(h0, .inr (2, [.ref bb, .ref tr9, .int (nI jr), .int dk, .int dn, .int dp, .int da, .int dq])), (tr9, .inl (G.2.1, 30, .inl ftr))] (fun (r : Int32) (u : Nat × (Nat → Int32) × Int32) => (True) ∧ (u.1 ≤ 30)) (fun u : Nat × (Nat → Int32) × Int32 => [(h0, .inr (2, [.ref bb, .ref tr9, .int (nI u.1), .int dk, .int dn, .int dp, .int da, .int u.2.2])), (tr9, .inl (G.2.1, 30, .inl u.2.1))]) := by
  refine MIo.start (by decide +kernel) (Nat.le_of_ble_eq_true rfl) ?_
  intro p e s m below meth c A ls hC hK hP hD hS hA hl hO
  have hl : lv_has ls 8 [(0, .ref h0), (1, .int as9), (2, .int dd), (3, .int xx), (4, .int (nI dz))] := hl
  obtain ⟨hx, hb, hr, hml, hB, hown, hlocks, hnm⟩ := id hC
  refine lv_iload_n hx hb dX2_dealAs_0 rfl (lv_at hl 2 rfl) ?_
  refine lv_if_lt (tgt := 9) hx hb dX2_dealAs_1 (by decide) (fun c_1_4215 => ?_) (fun c_1_4215 => ?_)
  · refine lv_iconst (v := 0) hx hb dX2_dealAs_9 (by decide) ?_
    exact RI (v := 0) hC hP hD hS [0, 1] (jr, ftr, dq) rfl rfl (by decide) (⟨trivial, by dsimp only; omega⟩) rfl dX2_dealAs_10
  · refine lv_iload_n hx hb dX2_dealAs_4 rfl (lv_at hl 2 rfl) ?_
    refine lv_iconst (v := 4) hx hb dX2_dealAs_5 (by decide) ?_
    refine lv_icmp_lt (tgt := 11) hx hb dX2_dealAs_6 (by decide) (fun c_6_4216 => ?_) (fun c_6_4216 => ?_)
    · obtain ⟨jd, hjd, rfl⟩ := ltN (N := 4) (by decide) c_1_4215 (Int32.not_le.mpr c_6_4216)
      refine lv_iload_n hx hb dX2_dealAs_11 rfl (lv_at hl 1 rfl) ?_
      refine lv_istore (lv' := [(5, .int as9), (0, .ref h0), (1, .int as9), (2, .int (nI jd)), (3, .int xx), (4, .int (nI dz))]) hx hb dX2_dealAs_12 hl (by decide) rfl (fun ls hl => ?_)
      refine lv_iconst (v := 0) hx hb dX2_dealAs_14 (by decide) ?_
      refine lv_istore (lv' := [(6, .int 0), (5, .int as9), (0, .ref h0), (1, .int as9), (2, .int (nI jd)), (3, .int xx), (4, .int (nI dz))]) hx hb dX2_dealAs_15 hl (by decide) rfl (fun ls hl => ?_)
      have keyP : ∀ (nP kP : Nat) (vk : Int32) (H : Heap) (locs : List Loc) (ls : Array Slot), kP + nP = 7 → va_P G.1 vwCl [(h0, .inr (2, [.ref bb, .ref tr9, .int (nI jr), .int dk, .int dn, .int dp, .int da, .int dq])), (tr9, .inl (G.2.1, 30, .inl ftr))] H → va_D A [(h0, .inr (2, [.ref bb, .ref tr9, .int (nI jr), .int dk, .int dn, .int dp, .int da, .int dq])), (tr9, .inl (G.2.1, 30, .inl ftr))] → va_S A s.heap H locs → lv_has ls 8 [(6, .int (nI kP)), (5, .int vk), (0, .ref h0), (1, .int as9), (2, .int (nI jd)), (3, .int xx), (4, .int (nI dz))] → W p l e (RM (3 * mn + 3) 0 0) s m ([.ref h0, .int as9, .int (nI jd), .int xx, .int (nI dz)] : List Value).toArray below meth c H locs 0 0 (MQ below (QI G (fun (r : Int32) (u : Nat × (Nat → Int32) × Int32) => (True) ∧ (u.1 ≤ 30)) (fun u : Nat × (Nat → Int32) × Int32 => [(h0, .inr (2, [.ref bb, .ref tr9, .int (nI u.1), .int dk, .int dn, .int dp, .int da, .int u.2.2])), (tr9, .inl (G.2.1, 30, .inl u.2.1))]) A) ([.ref h0, .int as9, .int (nI jd), .int xx, .int (nI dz)] : List Value).toArray s 0 0 A) (F0 m 17 ls []) := by
        intro nP
        induction nP with
        | zero =>
          intro kP vk H locs ls hkP hP hD hS hl
          obtain rfl : 7 = kP := by omega
          have hl : lv_has ls 8 [(6, .int 7), (5, .int vk), (0, .ref h0), (1, .int as9), (2, .int (nI jd)), (3, .int xx), (4, .int (nI dz))] := hl
          refine lv_iload hx hb dX2_dealAs_17 (lv_at hl 0 rfl) ?_
          refine lv_bipush (v := 7) hx hb dX2_dealAs_19 (by decide) ?_
          refine lv_icmp_ge (tgt := 80) hx hb dX2_dealAs_21 (by decide) (fun _ => ?_) (fun c9 => absurd (by decide) c9)
          refine lv_iconst (v := 0) hx hb dX2_dealAs_80 (by decide) ?_
          exact RI (v := 0) hC hP hD hS [0, 1] (jr, ftr, dq) rfl rfl (by decide) (⟨trivial, by dsimp only; omega⟩) rfl dX2_dealAs_81
        | succ nP ihP =>
          intro kP vk H locs ls hkP hP hD hS hl
          refine lv_iload hx hb dX2_dealAs_17 (lv_at hl 0 rfl) ?_
          refine lv_bipush (v := 7) hx hb dX2_dealAs_19 (by decide) ?_
          refine lv_icmp_ge (tgt := 80) hx hb dX2_dealAs_21 (by decide) (fun c9 => absurd c9 (nI_ge (a := kP) (b := 7) (by omega) (by omega))) (fun _ => ?_)
          refine lv_iload hx hb dX2_dealAs_24 (lv_at hl 1 rfl) ?_
          refine lv_iconst (v := 0) hx hb dX2_dealAs_26 (by decide) ?_
          refine lv_bipush (v := 6) hx hb dX2_dealAs_27 (by decide) ?_
          refine pSN hC hK hl (c_within l G vk 0 6) si_X2_61 rfl rfl (Nat.le_of_ble_eq_true rfl) ⟨by simp only [RM]; omega, by simp only [RM]; omega⟩ ⟨by first | exact Nat.le_of_ble_eq_true rfl | exact Nat.zero_le _, by first | exact Nat.le_of_ble_eq_true rfl | exact Nat.zero_le _⟩ dX2_dealAs_29 (fun r4217 hr4217 => ?_)
          rcases hr4217 with ⟨rfl, a4218⟩ | ⟨rfl, a4218⟩
          · refine lv_if_eq (tgt := 80) hx hb dX2_dealAs_32 (by decide) (fun c9 => absurd c9 (by decide)) (fun _ => ?_)
            obtain ⟨jk, hjk, rfl⟩ := Wi6 a4218
            refine va_gets hx hb hO.1.2.2.2.2.2.1 hS hown (hB _ m_1329) (fun _ h => h) dX2_dealAs_35 ?_
            refine lv_iload hx hb dX2_dealAs_38 (lv_at hl 1 rfl) ?_
            refine lv_iconst (v := 4) hx hb dX2_dealAs_40 (by decide) ?_
            refine lv_imul hx hb dX2_dealAs_41 ?_
            refine eqi (x1 := nI (jk * 4)) (nI_mul _ _) ?_
            refine lv_iload_n hx hb dX2_dealAs_42 rfl (lv_at hl 4 rfl) ?_
            refine lv_iadd hx hb dX2_dealAs_43 ?_
            refine eqi (x1 := nI (jk * 4 + jd)) (nI_add _ _) ?_
            refine va_ti hx hb hO.1.2.2.2.2.2.2 hS (vp_in_nI (by omega) (by omega)) (v := .int (BDS.getD (jk * 4 + jd) 0)) (congrArg (fun z9 => Value.int (BDS.getD z9 0)) (nI_clamp (by omega))) dX2_dealAs_44 ?_
            refine lv_topi (fun x4219 ex4219 => ?_)
            refine lv_istore (lv' := [(7, .int x4219), (6, .int (nI kP)), (5, .int (nI jk)), (0, .ref h0), (1, .int as9), (2, .int (nI jd)), (3, .int xx), (4, .int (nI dz))]) hx hb dX2_dealAs_45 hl (by decide) rfl (fun ls hl => ?_)
            refine lv_iload hx hb dX2_dealAs_47 (lv_at hl 0 rfl) ?_
            refine lv_if_eq (tgt := 66) hx hb dX2_dealAs_49 (by decide) (fun c_49_4220 => ?_) (fun c_49_4220 => ?_)
            · refine va_gets hx hb hO.1.2.2.2.1 hS hown (hB _ m_1301) (fun _ h => h) dX2_dealAs_66 ?_
              refine lv_iload hx hb dX2_dealAs_69 (lv_at hl 2 rfl) ?_
              refine va_ti hx hb hO.1.2.2.2.2.1 hS (vp_in_nI (by omega) (by omega)) (v := .int (ABV.getD jk 0)) (congrArg (fun z9 => Value.int (ABV.getD z9 0)) (nI_clamp (by omega))) dX2_dealAs_71 ?_
              refine lv_topi (fun x4221 ex4221 => ?_)
              refine lv_istore (lv' := [(5, .int x4221), (7, .int x4219), (6, .int (nI kP)), (0, .ref h0), (1, .int as9), (2, .int (nI jd)), (3, .int xx), (4, .int (nI dz))]) hx hb dX2_dealAs_72 hl (by decide) rfl (fun ls hl => ?_)
              refine lv_iinc (v := nI (kP + 1)) (lv' := [(6, .int (nI (kP + 1))), (5, .int x4221), (7, .int x4219), (0, .ref h0), (1, .int as9), (2, .int (nI jd)), (3, .int xx), (4, .int (nI dz))]) hx hb dX2_dealAs_74 hl (k := 2) rfl (nI_1 _) (by decide) rfl (fun ls hl => ?_)
              refine lv_goto (tgt := 17) hx hb dX2_dealAs_77 (by decide) ?_
              exact ihP (kP + 1) x4221 _ _ _ (by omega) hP hD hS (lv_sub hl [0, 1, 3, 4, 5, 6, 7] rfl)
            · refine lv_aload_n hx hb dX2_dealAs_52 rfl (lv_at hl 3 rfl) ?_
              refine lv_iload hx hb dX2_dealAs_53 (lv_at hl 0 rfl) ?_
              refine lv_iload hx hb dX2_dealAs_55 (lv_at hl 2 rfl) ?_
              refine lv_iload_n hx hb dX2_dealAs_57 rfl (lv_at hl 6 rfl) ?_
              refine lv_iload hx hb dX2_dealAs_58 (lv_at hl 7 rfl) ?_
              refine lv_iconst (v := 1) hx hb dX2_dealAs_60 (by decide) ?_
              refine lv_iadd hx hb dX2_dealAs_61 ?_
              refine eqi (x1 := nI (dz + 1)) (nI_1 _) ?_
              refine iVo (wr := []) hO hC hK hl hP hD hS hA (ihR h0 x4219 (nI jk) xx (dz + 1) bb tr9 jr dk dn dp da dq ftr (by omega) (by omega)) si_X2_75 [0, 1] [] rfl rfl (by decide) rfl (by decide) (by decide) rfl rfl rfl rfl rfl (Nat.le_of_ble_eq_true rfl) ⟨by simp only [RM]; omega, by simp only [RM]; omega⟩ ⟨Nat.le_of_ble_eq_true rfl, Nat.le_of_ble_eq_true rfl⟩ dX2_dealAs_62 (fun r4222 u4223 H locs hr4222 hP hD hS => ?_)
              obtain ⟨jr14224, gtr4225, dq14226⟩ := u4223
              try dsimp only at hr4222
              have hP : va_P G.1 vwCl [(h0, .inr (2, [.ref bb, .ref tr9, .int (nI jr14224), .int dk, .int dn, .int dp, .int da, .int dq14226])), (tr9, .inl (G.2.1, 30, .inl gtr4225))] H := hP
              have hD : va_D A [(h0, .inr (2, [.ref bb, .ref tr9, .int (nI jr14224), .int dk, .int dn, .int dp, .int da, .int dq14226])), (tr9, .inl (G.2.1, 30, .inl gtr4225))] := hD
              obtain ⟨hr4222, w4227⟩ := hr4222
              exact RI (v := r4222) hC hP hD hS [0, 1] (jr14224, gtr4225, dq14226) rfl rfl (by decide) (⟨trivial, by dsimp only; omega⟩) rfl dX2_dealAs_65
          · refine lv_if_eq (tgt := 80) hx hb dX2_dealAs_32 (by decide) (fun _ => ?_) (fun c9 => absurd (by decide) c9)
            refine lv_iconst (v := 0) hx hb dX2_dealAs_80 (by decide) ?_
            exact RI (v := 0) hC hP hD hS [0, 1] (jr, ftr, dq) rfl rfl (by decide) (⟨trivial, by dsimp only; omega⟩) rfl dX2_dealAs_81
      exact keyP 7 0 as9 _ _ _ (by omega) hP hD hS (lv_sub hl [0, 1, 2, 3, 4, 5, 6] rfl)
    · refine lv_iconst (v := 0) hx hb dX2_dealAs_9 (by decide) ?_
      exact RI (v := 0) hC hP hD hS [0, 1] (jr, ftr, dq) rfl rfl (by decide) (⟨trivial, by dsimp only; omega⟩) rfl dX2_dealAs_10
set_option maxHeartbeats 4000000 in
set_option maxRecDepth 100000 in
theorem d_upper (l : Launch) (G : GG) (K : OO) (mn : Nat) (h0 : Nat) (of9 : Int32) (dd : Int32) (xx : Int32) (dz : Nat) (bb : Nat) (tr9 : Nat) (jr : Nat) (dk : Int32) (dn : Int32) (dp : Int32) (da : Int32) (dq : Int32) (ftr : Nat → Int32) (hdz : dz + mn = 20) (hjr : jr ≤ 30) (ihR : ∀ (h0 : Nat) (body : Int32) (of9 : Int32) (xx : Int32) (dz : Nat) (bb : Nat) (tr9 : Nat) (jr : Nat) (dk : Int32) (dn : Int32) (dp : Int32) (da : Int32) (dq : Int32) (ftr : Nat → Int32) (hdz : dz + mn = 21) (hjr : jr ≤ 30), MIo l G K yX2_run cX2_run 7 (some .int) (3 * mn + 2) 0 0 [.ref h0, .int body, .int of9, .int xx, .int (nI dz)] [(h0, .inr (2, [.ref bb, .ref tr9, .int (nI jr), .int dk, .int dn, .int dp, .int da, .int dq])), (tr9, .inl (G.2.1, 30, .inl ftr))] (fun (r : Int32) (u : Nat × (Nat → Int32) × Int32) => (True) ∧ (u.1 ≤ 30)) (fun u : Nat × (Nat → Int32) × Int32 => [(h0, .inr (2, [.ref bb, .ref tr9, .int (nI u.1), .int dk, .int dn, .int dp, .int da, .int u.2.2])), (tr9, .inl (G.2.1, 30, .inl u.2.1))])) : MIo l G K yX2_upper cX2_upper 5 (some .int) (3 * mn + 4) 0 0 [.ref h0, .int of9, .int dd, .int xx, .int (nI dz)] [(h0, .inr (2, [.ref bb, .ref tr9, .int (nI jr), .int dk, .int dn, .int dp, .int da, .int dq])), (tr9, .inl (G.2.1, 30, .inl ftr))] (fun (r : Int32) (u : Nat × (Nat → Int32) × Int32) => (True) ∧ (u.1 ≤ 30)) (fun u : Nat × (Nat → Int32) × Int32 => [(h0, .inr (2, [.ref bb, .ref tr9, .int (nI u.1), .int dk, .int dn, .int dp, .int da, .int u.2.2])), (tr9, .inl (G.2.1, 30, .inl u.2.1))]) := by
  refine MIo.start (by decide +kernel) (Nat.le_of_ble_eq_true rfl) ?_
  intro p e s m below meth c A ls hC hK hP hD hS hA hl hO
  have hl : lv_has ls 5 [(0, .ref h0), (1, .int of9), (2, .int dd), (3, .int xx), (4, .int (nI dz))] := hl
  obtain ⟨hx, hb, hr, hml, hB, hown, hlocks, hnm⟩ := id hC
  refine lv_iload_n hx hb dX2_upper_0 rfl (lv_at hl 1 rfl) ?_
  refine lv_iconst (v := 0) hx hb dX2_upper_1 (by decide) ?_
  refine lv_bipush (v := 6) hx hb dX2_upper_2 (by decide) ?_
  refine pSN hC hK hl (c_within l G of9 0 6) si_X2_61 rfl rfl (Nat.le_of_ble_eq_true rfl) ⟨by simp only [RM]; omega, by simp only [RM]; omega⟩ ⟨by first | exact Nat.le_of_ble_eq_true rfl | exact Nat.zero_le _, by first | exact Nat.le_of_ble_eq_true rfl | exact Nat.zero_le _⟩ dX2_upper_4 (fun r4228 hr4228 => ?_)
  rcases hr4228 with ⟨rfl, a4229⟩ | ⟨rfl, a4229⟩
  · refine lv_if_eq (tgt := 26) hx hb dX2_upper_7 (by decide) (fun c9 => absurd c9 (by decide)) (fun _ => ?_)
    obtain ⟨jk, hjk, rfl⟩ := Wi6 a4229
    refine lv_aload_n hx hb dX2_upper_10 rfl (lv_at hl 0 rfl) ?_
    refine va_gets hx hb hO.1.2.2.2.1 hS hown (hB _ m_1301) (fun _ h => h) dX2_upper_11 ?_
    refine lv_iload_n hx hb dX2_upper_14 rfl (lv_at hl 1 rfl) ?_
    refine va_ti hx hb hO.1.2.2.2.2.1 hS (vp_in_nI (by omega) (by omega)) (v := .int (ABV.getD jk 0)) (congrArg (fun z9 => Value.int (ABV.getD z9 0)) (nI_clamp (by omega))) dX2_upper_15 ?_
    refine lv_topi (fun x4230 ex4230 => ?_)
    refine lv_iload_n hx hb dX2_upper_16 rfl (lv_at hl 2 rfl) ?_
    refine lv_iload_n hx hb dX2_upper_17 rfl (lv_at hl 3 rfl) ?_
    refine lv_iload hx hb dX2_upper_18 (lv_at hl 4 rfl) ?_
    refine iVo (wr := []) hO hC hK hl hP hD hS hA (d_dealAs l G K mn h0 x4230 dd xx dz bb tr9 jr dk dn dp da dq ftr (by omega) (by omega) ihR) si_X2_68 [0, 1] [] rfl rfl (by decide) rfl (by decide) (by decide) rfl rfl rfl rfl rfl (Nat.le_of_ble_eq_true rfl) ⟨by simp only [RM]; omega, by simp only [RM]; omega⟩ ⟨Nat.le_of_ble_eq_true rfl, Nat.le_of_ble_eq_true rfl⟩ dX2_upper_20 (fun r4231 u4232 H locs hr4231 hP hD hS => ?_)
    obtain ⟨jr14233, gtr4234, dq14235⟩ := u4232
    try dsimp only at hr4231
    have hP : va_P G.1 vwCl [(h0, .inr (2, [.ref bb, .ref tr9, .int (nI jr14233), .int dk, .int dn, .int dp, .int da, .int dq14235])), (tr9, .inl (G.2.1, 30, .inl gtr4234))] H := hP
    have hD : va_D A [(h0, .inr (2, [.ref bb, .ref tr9, .int (nI jr14233), .int dk, .int dn, .int dp, .int da, .int dq14235])), (tr9, .inl (G.2.1, 30, .inl gtr4234))] := hD
    obtain ⟨hr4231, w4236⟩ := hr4231
    refine lv_goto (tgt := 27) hx hb dX2_upper_23 (by decide) ?_
    exact RI (v := r4231) hC hP hD hS [0, 1] (jr14233, gtr4234, dq14235) rfl rfl (by decide) (⟨trivial, by dsimp only; omega⟩) rfl dX2_upper_27
  · refine lv_if_eq (tgt := 26) hx hb dX2_upper_7 (by decide) (fun _ => ?_) (fun c9 => absurd (by decide) c9)
    refine lv_iconst (v := 0) hx hb dX2_upper_26 (by decide) ?_
    exact RI (v := 0) hC hP hD hS [0, 1] (jr, ftr, dq) rfl rfl (by decide) (⟨trivial, by dsimp only; omega⟩) rfl dX2_upper_27
set_option maxHeartbeats 4000000 in
set_option maxRecDepth 100000 in
theorem d_run_step (l : Launch) (G : GG) (K : OO) (mn : Nat) (h0 : Nat) (body : Int32) (of9 : Int32) (xx : Int32) (dz : Nat) (bb : Nat) (tr9 : Nat) (jr : Nat) (dk : Int32) (dn : Int32) (dp : Int32) (da : Int32) (dq : Int32) (ftr : Nat → Int32) (hdz : dz + (mn + 1) = 21) (hjr : jr ≤ 30) (ihR : ∀ (h0 : Nat) (body : Int32) (of9 : Int32) (xx : Int32) (dz : Nat) (bb : Nat) (tr9 : Nat) (jr : Nat) (dk : Int32) (dn : Int32) (dp : Int32) (da : Int32) (dq : Int32) (ftr : Nat → Int32) (hdz : dz + mn = 21) (hjr : jr ≤ 30), MIo l G K yX2_run cX2_run 7 (some .int) (3 * mn + 2) 0 0 [.ref h0, .int body, .int of9, .int xx, .int (nI dz)] [(h0, .inr (2, [.ref bb, .ref tr9, .int (nI jr), .int dk, .int dn, .int dp, .int da, .int dq])), (tr9, .inl (G.2.1, 30, .inl ftr))] (fun (r : Int32) (u : Nat × (Nat → Int32) × Int32) => (True) ∧ (u.1 ≤ 30)) (fun u : Nat × (Nat → Int32) × Int32 => [(h0, .inr (2, [.ref bb, .ref tr9, .int (nI u.1), .int dk, .int dn, .int dp, .int da, .int u.2.2])), (tr9, .inl (G.2.1, 30, .inl u.2.1))])) : MIo l G K yX2_run cX2_run 7 (some .int) (3 * (mn + 1) + 2) 0 0 [.ref h0, .int body, .int of9, .int xx, .int (nI dz)] [(h0, .inr (2, [.ref bb, .ref tr9, .int (nI jr), .int dk, .int dn, .int dp, .int da, .int dq])), (tr9, .inl (G.2.1, 30, .inl ftr))] (fun (r : Int32) (u : Nat × (Nat → Int32) × Int32) => (True) ∧ (u.1 ≤ 30)) (fun u : Nat × (Nat → Int32) × Int32 => [(h0, .inr (2, [.ref bb, .ref tr9, .int (nI u.1), .int dk, .int dn, .int dp, .int da, .int u.2.2])), (tr9, .inl (G.2.1, 30, .inl u.2.1))]) := by
  refine MIo.start (by decide +kernel) (Nat.le_of_ble_eq_true rfl) ?_
  intro p e s m below meth c A ls hC hK hP hD hS hA hl hO
  have hl : lv_has ls 7 [(0, .ref h0), (1, .int body), (2, .int of9), (3, .int xx), (4, .int (nI dz))] := hl
  obtain ⟨hx, hb, hr, hml, hB, hown, hlocks, hnm⟩ := id hC
  refine lv_iload hx hb dX2_run_0 (lv_at hl 4 rfl) ?_
  refine lv_bipush (v := 20) hx hb dX2_run_2 (by decide) ?_
  refine lv_icmp_le (tgt := 9) hx hb dX2_run_4 (by decide) (fun _ => ?_) (fun c9 => absurd ((nI_leI (a := dz) (b := 20) (by omega) (by decide)).mpr (by omega)) c9)
  refine lv_aload_n hx hb dX2_run_9 rfl (lv_at hl 0 rfl) ?_
  refine gf_X2_19 hC rfl hK hP 0 rfl rfl dX2_run_10 ?_
  refine lv_bipush (v := 30) hx hb dX2_run_13 (by decide) ?_
  refine lv_icmp_ge (tgt := 38) hx hb dX2_run_15 (by decide) (fun c_15_4237 => ?_) (fun c_15_4237 => ?_)
  · refine lv_iload_n hx hb dX2_run_38 rfl (lv_at hl 1 rfl) ?_
    by_cases c_39_4238 : body = 10
    · refine lv_lookup (tgt := 152) (off := 113) hx hb dX2_run_39 (by decide) (by rw [c_39_4238]; rfl) (by decide) ?_
      refine lv_iload_n hx hb dX2_run_152 rfl (lv_at hl 3 rfl) ?_
      refine lv_aload_n hx hb dX2_run_153 rfl (lv_at hl 0 rfl) ?_
      refine gf_X2_32 hC rfl hK hP 0 rfl rfl dX2_run_154 ?_
      refine lv_iadd hx hb dX2_run_157 ?_
      exact RI (v := xx + da) hC hP hD hS [0, 1] (jr, ftr, dq) rfl rfl (by decide) (⟨trivial, by dsimp only; omega⟩) rfl dX2_run_158
    by_cases c_39_4239 : body = 11
    · refine lv_lookup (tgt := 159) (off := 120) hx hb dX2_run_39 (by decide) (by rw [c_39_4239]; rfl) (by decide) ?_
      refine lv_aload_n hx hb dX2_run_159 rfl (lv_at hl 0 rfl) ?_
      refine lv_aload_n hx hb dX2_run_160 rfl (lv_at hl 0 rfl) ?_
      refine gf_X2_23 hC rfl hK hP 0 rfl rfl dX2_run_161 ?_
      refine lv_iconst (v := 0) hx hb dX2_run_164 (by decide) ?_
      refine lv_iload_n hx hb dX2_run_165 rfl (lv_at hl 3 rfl) ?_
      refine lv_iload hx hb dX2_run_166 (lv_at hl 4 rfl) ?_
      refine iVo (wr := []) hO hC hK hl hP hD hS hA (d_dealAs l G K mn h0 dk 0 xx dz bb tr9 jr dk dn dp da dq ftr (by omega) (by omega) ihR) si_X2_68 [0, 1] [] rfl rfl (by decide) rfl (by decide) (by decide) rfl rfl rfl rfl rfl (Nat.le_of_ble_eq_true rfl) ⟨by simp only [RM]; omega, by simp only [RM]; omega⟩ ⟨Nat.le_of_ble_eq_true rfl, Nat.le_of_ble_eq_true rfl⟩ dX2_run_168 (fun r4240 u4241 H locs hr4240 hP hD hS => ?_)
      obtain ⟨jr14242, gtr4243, dq14244⟩ := u4241
      try dsimp only at hr4240
      have hP : va_P G.1 vwCl [(h0, .inr (2, [.ref bb, .ref tr9, .int (nI jr14242), .int dk, .int dn, .int dp, .int da, .int dq14244])), (tr9, .inl (G.2.1, 30, .inl gtr4243))] H := hP
      have hD : va_D A [(h0, .inr (2, [.ref bb, .ref tr9, .int (nI jr14242), .int dk, .int dn, .int dp, .int da, .int dq14244])), (tr9, .inl (G.2.1, 30, .inl gtr4243))] := hD
      obtain ⟨hr4240, w4245⟩ := hr4240
      refine lv_iconst (v := 2) hx hb dX2_run_171 (by decide) ?_
      refine lv_imul hx hb dX2_run_172 ?_
      exact RI (v := r4240 * 2) hC hP hD hS [0, 1] (jr14242, gtr4243, dq14244) rfl rfl (by decide) (⟨trivial, by dsimp only; omega⟩) rfl dX2_run_173
    by_cases c_39_4246 : body = 12
    · refine lv_lookup (tgt := 174) (off := 135) hx hb dX2_run_39 (by decide) (by rw [c_39_4246]; rfl) (by decide) ?_
      refine lv_aload_n hx hb dX2_run_174 rfl (lv_at hl 0 rfl) ?_
      refine lv_aload_n hx hb dX2_run_175 rfl (lv_at hl 0 rfl) ?_
      refine gf_X2_23 hC rfl hK hP 0 rfl rfl dX2_run_176 ?_
      refine lv_iconst (v := 1) hx hb dX2_run_179 (by decide) ?_
      refine lv_iload_n hx hb dX2_run_180 rfl (lv_at hl 3 rfl) ?_
      refine lv_iload hx hb dX2_run_181 (lv_at hl 4 rfl) ?_
      refine iVo (wr := []) hO hC hK hl hP hD hS hA (d_dealAs l G K mn h0 dk 1 xx dz bb tr9 jr dk dn dp da dq ftr (by omega) (by omega) ihR) si_X2_68 [0, 1] [] rfl rfl (by decide) rfl (by decide) (by decide) rfl rfl rfl rfl rfl (Nat.le_of_ble_eq_true rfl) ⟨by simp only [RM]; omega, by simp only [RM]; omega⟩ ⟨Nat.le_of_ble_eq_true rfl, Nat.le_of_ble_eq_true rfl⟩ dX2_run_183 (fun r4247 u4248 H locs hr4247 hP hD hS => ?_)
      obtain ⟨jr14249, gtr4250, dq14251⟩ := u4248
      try dsimp only at hr4247
      have hP : va_P G.1 vwCl [(h0, .inr (2, [.ref bb, .ref tr9, .int (nI jr14249), .int dk, .int dn, .int dp, .int da, .int dq14251])), (tr9, .inl (G.2.1, 30, .inl gtr4250))] H := hP
      have hD : va_D A [(h0, .inr (2, [.ref bb, .ref tr9, .int (nI jr14249), .int dk, .int dn, .int dp, .int da, .int dq14251])), (tr9, .inl (G.2.1, 30, .inl gtr4250))] := hD
      obtain ⟨hr4247, w4252⟩ := hr4247
      refine lv_aload_n hx hb dX2_run_186 rfl (lv_at hl 0 rfl) ?_
      refine gf_X2_29 hC rfl hK hP 0 rfl rfl dX2_run_187 ?_
      refine lv_isub hx hb dX2_run_190 ?_
      exact RI (v := r4247 - dp) hC hP hD hS [0, 1] (jr14249, gtr4250, dq14251) rfl rfl (by decide) (⟨trivial, by dsimp only; omega⟩) rfl dX2_run_191
    by_cases c_39_4253 : body = 13
    · refine lv_lookup (tgt := 192) (off := 153) hx hb dX2_run_39 (by decide) (by rw [c_39_4253]; rfl) (by decide) ?_
      refine lv_aload_n hx hb dX2_run_192 rfl (lv_at hl 0 rfl) ?_
      refine lv_iload_n hx hb dX2_run_193 rfl (lv_at hl 3 rfl) ?_
      refine iV (wr := [(tr9, .inl (G.2.1, 30, .inl ftr))]) hC hK hl hP hD hS hA (d_quotient l G h0 xx bb tr9 jr dk dn dp da dq) si_X2_78 [0] [1] rfl rfl (by decide) rfl (by decide) (by decide) rfl rfl rfl rfl rfl (Nat.le_of_ble_eq_true rfl) ⟨by simp only [RM]; omega, by simp only [RM]; omega⟩ ⟨Nat.le_of_ble_eq_true rfl, Nat.le_of_ble_eq_true rfl⟩ dX2_run_194 (fun r4254 u4255 H locs hr4254 hP hD hS => ?_)
      obtain ⟨dq14256, rfl⟩ : ∃ z9, z9 = u4255 := ⟨_, rfl⟩
      try dsimp only at hr4254
      have hP : va_P G.1 vwCl [(tr9, .inl (G.2.1, 30, .inl ftr)), (h0, .inr (2, [.ref bb, .ref tr9, .int (nI jr), .int dk, .int dn, .int dp, .int da, .int dq14256]))] H := hP
      have hD : va_D A [(tr9, .inl (G.2.1, 30, .inl ftr)), (h0, .inr (2, [.ref bb, .ref tr9, .int (nI jr), .int dk, .int dn, .int dp, .int da, .int dq14256]))] := hD
      exact RI (v := r4254) hC hP hD hS [1, 0] (jr, ftr, dq14256) rfl rfl (by decide) (⟨trivial, by dsimp only; omega⟩) rfl dX2_run_197
    by_cases c_39_4257 : body = 20
    · refine lv_lookup (tgt := 198) (off := 159) hx hb dX2_run_39 (by decide) (by rw [c_39_4257]; rfl) (by decide) ?_
      refine lv_aload_n hx hb dX2_run_198 rfl (lv_at hl 0 rfl) ?_
      refine lv_iload_n hx hb dX2_run_199 rfl (lv_at hl 2 rfl) ?_
      refine lv_iconst (v := 1) hx hb dX2_run_200 (by decide) ?_
      refine lv_iload_n hx hb dX2_run_201 rfl (lv_at hl 3 rfl) ?_
      refine lv_iload hx hb dX2_run_202 (lv_at hl 4 rfl) ?_
      refine iVo (wr := []) hO hC hK hl hP hD hS hA (d_upper l G K mn h0 of9 1 xx dz bb tr9 jr dk dn dp da dq ftr (by omega) (by omega) ihR) si_X2_81 [0, 1] [] rfl rfl (by decide) rfl (by decide) (by decide) rfl rfl rfl rfl rfl (Nat.le_of_ble_eq_true rfl) ⟨by simp only [RM]; omega, by simp only [RM]; omega⟩ ⟨Nat.le_of_ble_eq_true rfl, Nat.le_of_ble_eq_true rfl⟩ dX2_run_204 (fun r4258 u4259 H locs hr4258 hP hD hS => ?_)
      obtain ⟨jr14260, gtr4261, dq14262⟩ := u4259
      try dsimp only at hr4258
      have hP : va_P G.1 vwCl [(h0, .inr (2, [.ref bb, .ref tr9, .int (nI jr14260), .int dk, .int dn, .int dp, .int da, .int dq14262])), (tr9, .inl (G.2.1, 30, .inl gtr4261))] H := hP
      have hD : va_D A [(h0, .inr (2, [.ref bb, .ref tr9, .int (nI jr14260), .int dk, .int dn, .int dp, .int da, .int dq14262])), (tr9, .inl (G.2.1, 30, .inl gtr4261))] := hD
      obtain ⟨hr4258, w4263⟩ := hr4258
      refine lv_aload_n hx hb dX2_run_207 rfl (lv_at hl 0 rfl) ?_
      refine gf_X2_26 hC rfl hK hP 0 rfl rfl dX2_run_208 ?_
      refine lv_ixor hx hb dX2_run_211 ?_
      exact RI (v := r4258 ^^^ dn) hC hP hD hS [0, 1] (jr14260, gtr4261, dq14262) rfl rfl (by decide) (⟨trivial, by dsimp only; omega⟩) rfl dX2_run_212
    by_cases c_39_4264 : body = 30
    · refine lv_lookup (tgt := 213) (off := 174) hx hb dX2_run_39 (by decide) (by rw [c_39_4264]; rfl) (by decide) ?_
      refine lv_aload_n hx hb dX2_run_213 rfl (lv_at hl 0 rfl) ?_
      refine lv_iload_n hx hb dX2_run_214 rfl (lv_at hl 2 rfl) ?_
      refine lv_iconst (v := 2) hx hb dX2_run_215 (by decide) ?_
      refine lv_iload_n hx hb dX2_run_216 rfl (lv_at hl 3 rfl) ?_
      refine lv_iload hx hb dX2_run_217 (lv_at hl 4 rfl) ?_
      refine iVo (wr := []) hO hC hK hl hP hD hS hA (d_upper l G K mn h0 of9 2 xx dz bb tr9 jr dk dn dp da dq ftr (by omega) (by omega) ihR) si_X2_81 [0, 1] [] rfl rfl (by decide) rfl (by decide) (by decide) rfl rfl rfl rfl rfl (Nat.le_of_ble_eq_true rfl) ⟨by simp only [RM]; omega, by simp only [RM]; omega⟩ ⟨Nat.le_of_ble_eq_true rfl, Nat.le_of_ble_eq_true rfl⟩ dX2_run_219 (fun r4265 u4266 H locs hr4265 hP hD hS => ?_)
      obtain ⟨jr14267, gtr4268, dq14269⟩ := u4266
      try dsimp only at hr4265
      have hP : va_P G.1 vwCl [(h0, .inr (2, [.ref bb, .ref tr9, .int (nI jr14267), .int dk, .int dn, .int dp, .int da, .int dq14269])), (tr9, .inl (G.2.1, 30, .inl gtr4268))] H := hP
      have hD : va_D A [(h0, .inr (2, [.ref bb, .ref tr9, .int (nI jr14267), .int dk, .int dn, .int dp, .int da, .int dq14269])), (tr9, .inl (G.2.1, 30, .inl gtr4268))] := hD
      obtain ⟨hr4265, w4270⟩ := hr4265
      refine lv_iconst (v := 3) hx hb dX2_run_222 (by decide) ?_
      refine lv_imul hx hb dX2_run_223 ?_
      exact RI (v := r4265 * 3) hC hP hD hS [0, 1] (jr14267, gtr4268, dq14269) rfl rfl (by decide) (⟨trivial, by dsimp only; omega⟩) rfl dX2_run_224
    by_cases c_39_4271 : body = 40
    · refine lv_lookup (tgt := 225) (off := 186) hx hb dX2_run_39 (by decide) (by rw [c_39_4271]; rfl) (by decide) ?_
      refine lv_iconst (v := 0) hx hb dX2_run_225 (by decide) ?_
      refine lv_aload_n hx hb dX2_run_226 rfl (lv_at hl 0 rfl) ?_
      refine lv_iload_n hx hb dX2_run_227 rfl (lv_at hl 2 rfl) ?_
      refine lv_iconst (v := 1) hx hb dX2_run_228 (by decide) ?_
      refine lv_iload_n hx hb dX2_run_229 rfl (lv_at hl 3 rfl) ?_
      refine lv_iload hx hb dX2_run_230 (lv_at hl 4 rfl) ?_
      refine iVo (wr := []) hO hC hK hl hP hD hS hA (d_upper l G K mn h0 of9 1 xx dz bb tr9 jr dk dn dp da dq ftr (by omega) (by omega) ihR) si_X2_81 [0, 1] [] rfl rfl (by decide) rfl (by decide) (by decide) rfl rfl rfl rfl rfl (Nat.le_of_ble_eq_true rfl) ⟨by simp only [RM]; omega, by simp only [RM]; omega⟩ ⟨Nat.le_of_ble_eq_true rfl, Nat.le_of_ble_eq_true rfl⟩ dX2_run_232 (fun r4272 u4273 H locs hr4272 hP hD hS => ?_)
      obtain ⟨jr14274, gtr4275, dq14276⟩ := u4273
      try dsimp only at hr4272
      have hP : va_P G.1 vwCl [(h0, .inr (2, [.ref bb, .ref tr9, .int (nI jr14274), .int dk, .int dn, .int dp, .int da, .int dq14276])), (tr9, .inl (G.2.1, 30, .inl gtr4275))] H := hP
      have hD : va_D A [(h0, .inr (2, [.ref bb, .ref tr9, .int (nI jr14274), .int dk, .int dn, .int dp, .int da, .int dq14276])), (tr9, .inl (G.2.1, 30, .inl gtr4275))] := hD
      obtain ⟨hr4272, w4277⟩ := hr4272
      refine lv_isub hx hb dX2_run_235 ?_
      exact RI (v := 0 - r4272) hC hP hD hS [0, 1] (jr14274, gtr4275, dq14276) rfl rfl (by decide) (⟨trivial, by dsimp only; omega⟩) rfl dX2_run_236
    by_cases c_39_4278 : body = 41
    · refine lv_lookup (tgt := 237) (off := 198) hx hb dX2_run_39 (by decide) (by rw [c_39_4278]; rfl) (by decide) ?_
      refine lv_aload_n hx hb dX2_run_237 rfl (lv_at hl 0 rfl) ?_
      refine lv_iload_n hx hb dX2_run_238 rfl (lv_at hl 2 rfl) ?_
      refine lv_iconst (v := 3) hx hb dX2_run_239 (by decide) ?_
      refine lv_iload_n hx hb dX2_run_240 rfl (lv_at hl 3 rfl) ?_
      refine lv_iconst (v := 2) hx hb dX2_run_241 (by decide) ?_
      refine lv_iadd hx hb dX2_run_242 ?_
      refine lv_iload hx hb dX2_run_243 (lv_at hl 4 rfl) ?_
      refine iVo (wr := []) hO hC hK hl hP hD hS hA (d_upper l G K mn h0 of9 3 (xx + 2) dz bb tr9 jr dk dn dp da dq ftr (by omega) (by omega) ihR) si_X2_81 [0, 1] [] rfl rfl (by decide) rfl (by decide) (by decide) rfl rfl rfl rfl rfl (Nat.le_of_ble_eq_true rfl) ⟨by simp only [RM]; omega, by simp only [RM]; omega⟩ ⟨Nat.le_of_ble_eq_true rfl, Nat.le_of_ble_eq_true rfl⟩ dX2_run_245 (fun r4279 u4280 H locs hr4279 hP hD hS => ?_)
      obtain ⟨jr14281, gtr4282, dq14283⟩ := u4280
      try dsimp only at hr4279
      have hP : va_P G.1 vwCl [(h0, .inr (2, [.ref bb, .ref tr9, .int (nI jr14281), .int dk, .int dn, .int dp, .int da, .int dq14283])), (tr9, .inl (G.2.1, 30, .inl gtr4282))] H := hP
      have hD : va_D A [(h0, .inr (2, [.ref bb, .ref tr9, .int (nI jr14281), .int dk, .int dn, .int dp, .int da, .int dq14283])), (tr9, .inl (G.2.1, 30, .inl gtr4282))] := hD
      obtain ⟨hr4279, w4284⟩ := hr4279
      exact RI (v := r4279) hC hP hD hS [0, 1] (jr14281, gtr4282, dq14283) rfl rfl (by decide) (⟨trivial, by dsimp only; omega⟩) rfl dX2_run_248
    by_cases c_39_4285 : body = 50
    · refine lv_lookup (tgt := 249) (off := 210) hx hb dX2_run_39 (by decide) (by rw [c_39_4285]; rfl) (by decide) ?_
      refine lv_aload_n hx hb dX2_run_249 rfl (lv_at hl 0 rfl) ?_
      refine lv_iload_n hx hb dX2_run_250 rfl (lv_at hl 2 rfl) ?_
      refine lv_iconst (v := 0) hx hb dX2_run_251 (by decide) ?_
      refine lv_iload_n hx hb dX2_run_252 rfl (lv_at hl 3 rfl) ?_
      refine lv_iload hx hb dX2_run_253 (lv_at hl 4 rfl) ?_
      refine iVo (wr := []) hO hC hK hl hP hD hS hA (d_upper l G K mn h0 of9 0 xx dz bb tr9 jr dk dn dp da dq ftr (by omega) (by omega) ihR) si_X2_81 [0, 1] [] rfl rfl (by decide) rfl (by decide) (by decide) rfl rfl rfl rfl rfl (Nat.le_of_ble_eq_true rfl) ⟨by simp only [RM]; omega, by simp only [RM]; omega⟩ ⟨Nat.le_of_ble_eq_true rfl, Nat.le_of_ble_eq_true rfl⟩ dX2_run_255 (fun r4286 u4287 H locs hr4286 hP hD hS => ?_)
      obtain ⟨jr14288, gtr4289, dq14290⟩ := u4287
      try dsimp only at hr4286
      have hP : va_P G.1 vwCl [(h0, .inr (2, [.ref bb, .ref tr9, .int (nI jr14288), .int dk, .int dn, .int dp, .int da, .int dq14290])), (tr9, .inl (G.2.1, 30, .inl gtr4289))] H := hP
      have hD : va_D A [(h0, .inr (2, [.ref bb, .ref tr9, .int (nI jr14288), .int dk, .int dn, .int dp, .int da, .int dq14290])), (tr9, .inl (G.2.1, 30, .inl gtr4289))] := hD
      obtain ⟨hr4286, w4291⟩ := hr4286
      refine lv_aload_n hx hb dX2_run_258 rfl (lv_at hl 0 rfl) ?_
      refine gf_X2_26 hC rfl hK hP 0 rfl rfl dX2_run_259 ?_
      refine lv_isub hx hb dX2_run_262 ?_
      exact RI (v := r4286 - dn) hC hP hD hS [0, 1] (jr14288, gtr4289, dq14290) rfl rfl (by decide) (⟨trivial, by dsimp only; omega⟩) rfl dX2_run_263
    by_cases c_39_4292 : body = 51
    · refine lv_lookup (tgt := 264) (off := 225) hx hb dX2_run_39 (by decide) (by rw [c_39_4292]; rfl) (by decide) ?_
      refine lv_aload_n hx hb dX2_run_264 rfl (lv_at hl 0 rfl) ?_
      refine lv_iload_n hx hb dX2_run_265 rfl (lv_at hl 2 rfl) ?_
      refine lv_iconst (v := 2) hx hb dX2_run_266 (by decide) ?_
      refine lv_iload_n hx hb dX2_run_267 rfl (lv_at hl 3 rfl) ?_
      refine lv_iload hx hb dX2_run_268 (lv_at hl 4 rfl) ?_
      refine iVo (wr := []) hO hC hK hl hP hD hS hA (d_upper l G K mn h0 of9 2 xx dz bb tr9 jr dk dn dp da dq ftr (by omega) (by omega) ihR) si_X2_81 [0, 1] [] rfl rfl (by decide) rfl (by decide) (by decide) rfl rfl rfl rfl rfl (Nat.le_of_ble_eq_true rfl) ⟨by simp only [RM]; omega, by simp only [RM]; omega⟩ ⟨Nat.le_of_ble_eq_true rfl, Nat.le_of_ble_eq_true rfl⟩ dX2_run_270 (fun r4293 u4294 H locs hr4293 hP hD hS => ?_)
      obtain ⟨jr14295, gtr4296, dq14297⟩ := u4294
      try dsimp only at hr4293
      have hP : va_P G.1 vwCl [(h0, .inr (2, [.ref bb, .ref tr9, .int (nI jr14295), .int dk, .int dn, .int dp, .int da, .int dq14297])), (tr9, .inl (G.2.1, 30, .inl gtr4296))] H := hP
      have hD : va_D A [(h0, .inr (2, [.ref bb, .ref tr9, .int (nI jr14295), .int dk, .int dn, .int dp, .int da, .int dq14297])), (tr9, .inl (G.2.1, 30, .inl gtr4296))] := hD
      obtain ⟨hr4293, w4298⟩ := hr4293
      refine lv_istore (lv' := [(5, .int r4293), (0, .ref h0), (1, .int body), (2, .int of9), (3, .int xx), (4, .int (nI dz))]) hx hb dX2_run_273 hl (by decide) rfl (fun ls hl => ?_)
      refine lv_iload hx hb dX2_run_275 (lv_at hl 0 rfl) ?_
      refine lv_aload_n hx hb dX2_run_277 rfl (lv_at hl 1 rfl) ?_
      refine lv_aload_n hx hb dX2_run_278 rfl (lv_at hl 1 rfl) ?_
      refine gf_X2_23 hC rfl hK hP 0 rfl rfl dX2_run_279 ?_
      refine lv_iconst (v := 1) hx hb dX2_run_282 (by decide) ?_
      refine lv_iconst (v := 1) hx hb dX2_run_283 (by decide) ?_
      refine lv_iload hx hb dX2_run_284 (lv_at hl 5 rfl) ?_
      refine iVo (wr := []) hO hC hK hl hP hD hS hA (d_dealAs l G K mn h0 dk 1 1 dz bb tr9 jr14295 dk dn dp da dq14297 gtr4296 (by omega) (by omega) ihR) si_X2_68 [0, 1] [] rfl rfl (by decide) rfl (by decide) (by decide) rfl rfl rfl rfl rfl (Nat.le_of_ble_eq_true rfl) ⟨by simp only [RM]; omega, by simp only [RM]; omega⟩ ⟨Nat.le_of_ble_eq_true rfl, Nat.le_of_ble_eq_true rfl⟩ dX2_run_286 (fun r4299 u4300 H locs hr4299 hP hD hS => ?_)
      obtain ⟨jr14301, gtr4302, dq14303⟩ := u4300
      try dsimp only at hr4299
      have hP : va_P G.1 vwCl [(h0, .inr (2, [.ref bb, .ref tr9, .int (nI jr14301), .int dk, .int dn, .int dp, .int da, .int dq14303])), (tr9, .inl (G.2.1, 30, .inl gtr4302))] H := hP
      have hD : va_D A [(h0, .inr (2, [.ref bb, .ref tr9, .int (nI jr14301), .int dk, .int dn, .int dp, .int da, .int dq14303])), (tr9, .inl (G.2.1, 30, .inl gtr4302))] := hD
      obtain ⟨hr4299, w4304⟩ := hr4299
      refine lv_iadd hx hb dX2_run_289 ?_
      exact RI (v := r4293 + r4299) hC hP hD hS [0, 1] (jr14301, gtr4302, dq14303) rfl rfl (by decide) (⟨trivial, by dsimp only; omega⟩) rfl dX2_run_290
    by_cases c_39_4305 : body = 60
    · refine lv_lookup (tgt := 291) (off := 252) hx hb dX2_run_39 (by decide) (by rw [c_39_4305]; rfl) (by decide) ?_
      refine lv_aload_n hx hb dX2_run_291 rfl (lv_at hl 0 rfl) ?_
      refine lv_iload_n hx hb dX2_run_292 rfl (lv_at hl 2 rfl) ?_
      refine lv_iconst (v := 2) hx hb dX2_run_293 (by decide) ?_
      refine lv_iload_n hx hb dX2_run_294 rfl (lv_at hl 3 rfl) ?_
      refine lv_iload hx hb dX2_run_295 (lv_at hl 4 rfl) ?_
      refine iVo (wr := []) hO hC hK hl hP hD hS hA (d_upper l G K mn h0 of9 2 xx dz bb tr9 jr dk dn dp da dq ftr (by omega) (by omega) ihR) si_X2_81 [0, 1] [] rfl rfl (by decide) rfl (by decide) (by decide) rfl rfl rfl rfl rfl (Nat.le_of_ble_eq_true rfl) ⟨by simp only [RM]; omega, by simp only [RM]; omega⟩ ⟨Nat.le_of_ble_eq_true rfl, Nat.le_of_ble_eq_true rfl⟩ dX2_run_297 (fun r4306 u4307 H locs hr4306 hP hD hS => ?_)
      obtain ⟨jr14308, gtr4309, dq14310⟩ := u4307
      try dsimp only at hr4306
      have hP : va_P G.1 vwCl [(h0, .inr (2, [.ref bb, .ref tr9, .int (nI jr14308), .int dk, .int dn, .int dp, .int da, .int dq14310])), (tr9, .inl (G.2.1, 30, .inl gtr4309))] H := hP
      have hD : va_D A [(h0, .inr (2, [.ref bb, .ref tr9, .int (nI jr14308), .int dk, .int dn, .int dp, .int da, .int dq14310])), (tr9, .inl (G.2.1, 30, .inl gtr4309))] := hD
      obtain ⟨hr4306, w4311⟩ := hr4306
      refine lv_iconst (v := 2) hx hb dX2_run_300 (by decide) ?_
      refine lv_imul hx hb dX2_run_301 ?_
      exact RI (v := r4306 * 2) hC hP hD hS [0, 1] (jr14308, gtr4309, dq14310) rfl rfl (by decide) (⟨trivial, by dsimp only; omega⟩) rfl dX2_run_302
    by_cases c_39_4312 : body = 61
    · refine lv_lookup (tgt := 303) (off := 264) hx hb dX2_run_39 (by decide) (by rw [c_39_4312]; rfl) (by decide) ?_
      refine lv_aload_n hx hb dX2_run_303 rfl (lv_at hl 0 rfl) ?_
      refine lv_iload_n hx hb dX2_run_304 rfl (lv_at hl 2 rfl) ?_
      refine lv_iconst (v := 0) hx hb dX2_run_305 (by decide) ?_
      refine lv_iload_n hx hb dX2_run_306 rfl (lv_at hl 3 rfl) ?_
      refine lv_aload_n hx hb dX2_run_307 rfl (lv_at hl 0 rfl) ?_
      refine gf_X2_29 hC rfl hK hP 0 rfl rfl dX2_run_308 ?_
      refine lv_iadd hx hb dX2_run_311 ?_
      refine lv_iload hx hb dX2_run_312 (lv_at hl 4 rfl) ?_
      refine iVo (wr := []) hO hC hK hl hP hD hS hA (d_upper l G K mn h0 of9 0 (xx + dp) dz bb tr9 jr dk dn dp da dq ftr (by omega) (by omega) ihR) si_X2_81 [0, 1] [] rfl rfl (by decide) rfl (by decide) (by decide) rfl rfl rfl rfl rfl (Nat.le_of_ble_eq_true rfl) ⟨by simp only [RM]; omega, by simp only [RM]; omega⟩ ⟨Nat.le_of_ble_eq_true rfl, Nat.le_of_ble_eq_true rfl⟩ dX2_run_314 (fun r4313 u4314 H locs hr4313 hP hD hS => ?_)
      obtain ⟨jr14315, gtr4316, dq14317⟩ := u4314
      try dsimp only at hr4313
      have hP : va_P G.1 vwCl [(h0, .inr (2, [.ref bb, .ref tr9, .int (nI jr14315), .int dk, .int dn, .int dp, .int da, .int dq14317])), (tr9, .inl (G.2.1, 30, .inl gtr4316))] H := hP
      have hD : va_D A [(h0, .inr (2, [.ref bb, .ref tr9, .int (nI jr14315), .int dk, .int dn, .int dp, .int da, .int dq14317])), (tr9, .inl (G.2.1, 30, .inl gtr4316))] := hD
      obtain ⟨hr4313, w4318⟩ := hr4313
      exact RI (v := r4313) hC hP hD hS [0, 1] (jr14315, gtr4316, dq14317) rfl rfl (by decide) (⟨trivial, by dsimp only; omega⟩) rfl dX2_run_317
    by_cases c_39_4319 : body = 70
    · refine lv_lookup (tgt := 318) (off := 279) hx hb dX2_run_39 (by decide) (by rw [c_39_4319]; rfl) (by decide) ?_
      refine lv_aload_n hx hb dX2_run_318 rfl (lv_at hl 0 rfl) ?_
      refine lv_iload_n hx hb dX2_run_319 rfl (lv_at hl 2 rfl) ?_
      refine lv_iconst (v := 3) hx hb dX2_run_320 (by decide) ?_
      refine lv_iload_n hx hb dX2_run_321 rfl (lv_at hl 3 rfl) ?_
      refine lv_iload hx hb dX2_run_322 (lv_at hl 4 rfl) ?_
      refine iVo (wr := []) hO hC hK hl hP hD hS hA (d_upper l G K mn h0 of9 3 xx dz bb tr9 jr dk dn dp da dq ftr (by omega) (by omega) ihR) si_X2_81 [0, 1] [] rfl rfl (by decide) rfl (by decide) (by decide) rfl rfl rfl rfl rfl (Nat.le_of_ble_eq_true rfl) ⟨by simp only [RM]; omega, by simp only [RM]; omega⟩ ⟨Nat.le_of_ble_eq_true rfl, Nat.le_of_ble_eq_true rfl⟩ dX2_run_324 (fun r4320 u4321 H locs hr4320 hP hD hS => ?_)
      obtain ⟨jr14322, gtr4323, dq14324⟩ := u4321
      try dsimp only at hr4320
      have hP : va_P G.1 vwCl [(h0, .inr (2, [.ref bb, .ref tr9, .int (nI jr14322), .int dk, .int dn, .int dp, .int da, .int dq14324])), (tr9, .inl (G.2.1, 30, .inl gtr4323))] H := hP
      have hD : va_D A [(h0, .inr (2, [.ref bb, .ref tr9, .int (nI jr14322), .int dk, .int dn, .int dp, .int da, .int dq14324])), (tr9, .inl (G.2.1, 30, .inl gtr4323))] := hD
      obtain ⟨hr4320, w4325⟩ := hr4320
      refine lv_istore (lv' := [(6, .int r4320), (0, .ref h0), (1, .int body), (2, .int of9), (3, .int xx), (4, .int (nI dz))]) hx hb dX2_run_327 hl (by decide) rfl (fun ls hl => ?_)
      refine lv_aload_n hx hb dX2_run_329 rfl (lv_at hl 1 rfl) ?_
      refine gf_X2_35 hC rfl hK hP 0 rfl rfl dX2_run_330 ?_
      refine lv_if_eq (tgt := 340) hx hb dX2_run_333 (by decide) (fun c_333_4326 => ?_) (fun c_333_4326 => ?_)
      · refine lv_iload hx hb dX2_run_340 (lv_at hl 0 rfl) ?_
        refine lv_aload_n hx hb dX2_run_342 rfl (lv_at hl 1 rfl) ?_
        refine lv_aload_n hx hb dX2_run_343 rfl (lv_at hl 1 rfl) ?_
        refine gf_X2_23 hC rfl hK hP 0 rfl rfl dX2_run_344 ?_
        refine lv_iconst (v := 0) hx hb dX2_run_347 (by decide) ?_
        refine lv_aload_n hx hb dX2_run_348 rfl (lv_at hl 1 rfl) ?_
        refine gf_X2_26 hC rfl hK hP 0 rfl rfl dX2_run_349 ?_
        refine lv_iload hx hb dX2_run_352 (lv_at hl 5 rfl) ?_
        refine iVo (wr := []) hO hC hK hl hP hD hS hA (d_dealAs l G K mn h0 dk 0 dn dz bb tr9 jr14322 dk dn dp da dq14324 gtr4323 (by omega) (by omega) ihR) si_X2_68 [0, 1] [] rfl rfl (by decide) rfl (by decide) (by decide) rfl rfl rfl rfl rfl (Nat.le_of_ble_eq_true rfl) ⟨by simp only [RM]; omega, by simp only [RM]; omega⟩ ⟨Nat.le_of_ble_eq_true rfl, Nat.le_of_ble_eq_true rfl⟩ dX2_run_354 (fun r4327 u4328 H locs hr4327 hP hD hS => ?_)
        obtain ⟨jr14329, gtr4330, dq14331⟩ := u4328
        try dsimp only at hr4327
        have hP : va_P G.1 vwCl [(h0, .inr (2, [.ref bb, .ref tr9, .int (nI jr14329), .int dk, .int dn, .int dp, .int da, .int dq14331])), (tr9, .inl (G.2.1, 30, .inl gtr4330))] H := hP
        have hD : va_D A [(h0, .inr (2, [.ref bb, .ref tr9, .int (nI jr14329), .int dk, .int dn, .int dp, .int da, .int dq14331])), (tr9, .inl (G.2.1, 30, .inl gtr4330))] := hD
        obtain ⟨hr4327, w4332⟩ := hr4327
        refine lv_isub hx hb dX2_run_357 ?_
        exact RI (v := r4320 - r4327) hC hP hD hS [0, 1] (jr14329, gtr4330, dq14331) rfl rfl (by decide) (⟨trivial, by dsimp only; omega⟩) rfl dX2_run_358
      · refine lv_iconst (v := 0) hx hb dX2_run_336 (by decide) ?_
        refine lv_goto (tgt := 358) hx hb dX2_run_337 (by decide) ?_
        exact RI (v := 0) hC hP hD hS [0, 1] (jr14322, gtr4323, dq14324) rfl rfl (by decide) (⟨trivial, by dsimp only; omega⟩) rfl dX2_run_358
    refine lv_lookup (tgt := 359) (off := 320) hx hb dX2_run_39 (by decide) ((lv_osw c_39_4238 (by decide)).trans ((lv_osw c_39_4239 (by decide)).trans ((lv_osw c_39_4246 (by decide)).trans ((lv_osw c_39_4253 (by decide)).trans ((lv_osw c_39_4257 (by decide)).trans ((lv_osw c_39_4264 (by decide)).trans ((lv_osw c_39_4271 (by decide)).trans ((lv_osw c_39_4278 (by decide)).trans ((lv_osw c_39_4285 (by decide)).trans ((lv_osw c_39_4292 (by decide)).trans ((lv_osw c_39_4305 (by decide)).trans ((lv_osw c_39_4312 (by decide)).trans ((lv_osw c_39_4319 (by decide)).trans (rfl)))))))))))))) (by decide) ?_
    refine lv_iconst (v := 0) hx hb dX2_run_359 (by decide) ?_
    exact RI (v := 0) hC hP hD hS [0, 1] (jr, ftr, dq) rfl rfl (by decide) (⟨trivial, by dsimp only; omega⟩) rfl dX2_run_360
  · have hjr30 := nge_nat (R := 30) (k := jr) (by decide) (by omega) c_15_4237
    refine lv_aload_n hx hb dX2_run_18 rfl (lv_at hl 0 rfl) ?_
    refine gf_X2_11 hC rfl hK hP 0 rfl rfl dX2_run_19 ?_
    refine lv_aload_n hx hb dX2_run_22 rfl (lv_at hl 0 rfl) ?_
    refine gf_X2_19 hC rfl hK hP 0 rfl rfl dX2_run_23 ?_
    refine lv_iload_n hx hb dX2_run_26 rfl (lv_at hl 1 rfl) ?_
    refine ast hC hK hP hD hS 1 (ws' := [(h0, .inr (2, [.ref bb, .ref tr9, .int (nI jr), .int dk, .int dn, .int dp, .int da, .int dq])), (tr9, .inl (G.2.1, 30, .inl (upd ftr jr body)))]) rfl (vp_in_nI (by omega) (by omega)) (k := jr) (nI_clamp (by omega)) (rfl) dX2_run_27 (fun H locs hP hD hS => ?_)
    refine lv_aload_n hx hb dX2_run_28 rfl (lv_at hl 0 rfl) ?_
    refine lv_dup hx hb dX2_run_29 rfl ?_
    refine gf_X2_19 hC rfl hK hP 0 rfl rfl dX2_run_30 ?_
    refine lv_iconst (v := 1) hx hb dX2_run_33 (by decide) ?_
    refine lv_iadd hx hb dX2_run_34 ?_
    refine eqi (x1 := nI (jr + 1)) (nI_1 _) ?_
    refine pf_X2_19 hC rfl hK hP hD hS 0 (ws' := [(h0, .inr (2, [.ref bb, .ref tr9, .int (nI (jr + 1)), .int dk, .int dn, .int dp, .int da, .int dq])), (tr9, .inl (G.2.1, 30, .inl (upd ftr jr body)))]) rfl (Nat.le_of_ble_eq_true rfl) rfl rfl rfl dX2_run_35 (fun H locs hP hD hS => ?_)
    refine lv_iload_n hx hb dX2_run_38 rfl (lv_at hl 1 rfl) ?_
    by_cases c_39_4333 : body = 10
    · refine lv_lookup (tgt := 152) (off := 113) hx hb dX2_run_39 (by decide) (by rw [c_39_4333]; rfl) (by decide) ?_
      refine lv_iload_n hx hb dX2_run_152 rfl (lv_at hl 3 rfl) ?_
      refine lv_aload_n hx hb dX2_run_153 rfl (lv_at hl 0 rfl) ?_
      refine gf_X2_32 hC rfl hK hP 0 rfl rfl dX2_run_154 ?_
      refine lv_iadd hx hb dX2_run_157 ?_
      exact RI (v := xx + da) hC hP hD hS [0, 1] ((jr + 1), upd ftr jr body, dq) rfl rfl (by decide) (⟨trivial, by dsimp only; omega⟩) rfl dX2_run_158
    by_cases c_39_4334 : body = 11
    · refine lv_lookup (tgt := 159) (off := 120) hx hb dX2_run_39 (by decide) (by rw [c_39_4334]; rfl) (by decide) ?_
      refine lv_aload_n hx hb dX2_run_159 rfl (lv_at hl 0 rfl) ?_
      refine lv_aload_n hx hb dX2_run_160 rfl (lv_at hl 0 rfl) ?_
      refine gf_X2_23 hC rfl hK hP 0 rfl rfl dX2_run_161 ?_
      refine lv_iconst (v := 0) hx hb dX2_run_164 (by decide) ?_
      refine lv_iload_n hx hb dX2_run_165 rfl (lv_at hl 3 rfl) ?_
      refine lv_iload hx hb dX2_run_166 (lv_at hl 4 rfl) ?_
      refine iVo (wr := []) hO hC hK hl hP hD hS hA (d_dealAs l G K mn h0 dk 0 xx dz bb tr9 (jr + 1) dk dn dp da dq (upd ftr jr body) (by omega) (by omega) ihR) si_X2_68 [0, 1] [] rfl rfl (by decide) rfl (by decide) (by decide) rfl rfl rfl rfl rfl (Nat.le_of_ble_eq_true rfl) ⟨by simp only [RM]; omega, by simp only [RM]; omega⟩ ⟨Nat.le_of_ble_eq_true rfl, Nat.le_of_ble_eq_true rfl⟩ dX2_run_168 (fun r4335 u4336 H locs hr4335 hP hD hS => ?_)
      obtain ⟨jr14337, gtr4338, dq14339⟩ := u4336
      try dsimp only at hr4335
      have hP : va_P G.1 vwCl [(h0, .inr (2, [.ref bb, .ref tr9, .int (nI jr14337), .int dk, .int dn, .int dp, .int da, .int dq14339])), (tr9, .inl (G.2.1, 30, .inl gtr4338))] H := hP
      have hD : va_D A [(h0, .inr (2, [.ref bb, .ref tr9, .int (nI jr14337), .int dk, .int dn, .int dp, .int da, .int dq14339])), (tr9, .inl (G.2.1, 30, .inl gtr4338))] := hD
      obtain ⟨hr4335, w4340⟩ := hr4335
      refine lv_iconst (v := 2) hx hb dX2_run_171 (by decide) ?_
      refine lv_imul hx hb dX2_run_172 ?_
      exact RI (v := r4335 * 2) hC hP hD hS [0, 1] (jr14337, gtr4338, dq14339) rfl rfl (by decide) (⟨trivial, by dsimp only; omega⟩) rfl dX2_run_173
    by_cases c_39_4341 : body = 12
    · refine lv_lookup (tgt := 174) (off := 135) hx hb dX2_run_39 (by decide) (by rw [c_39_4341]; rfl) (by decide) ?_
      refine lv_aload_n hx hb dX2_run_174 rfl (lv_at hl 0 rfl) ?_
      refine lv_aload_n hx hb dX2_run_175 rfl (lv_at hl 0 rfl) ?_
      refine gf_X2_23 hC rfl hK hP 0 rfl rfl dX2_run_176 ?_
      refine lv_iconst (v := 1) hx hb dX2_run_179 (by decide) ?_
      refine lv_iload_n hx hb dX2_run_180 rfl (lv_at hl 3 rfl) ?_
      refine lv_iload hx hb dX2_run_181 (lv_at hl 4 rfl) ?_
      refine iVo (wr := []) hO hC hK hl hP hD hS hA (d_dealAs l G K mn h0 dk 1 xx dz bb tr9 (jr + 1) dk dn dp da dq (upd ftr jr body) (by omega) (by omega) ihR) si_X2_68 [0, 1] [] rfl rfl (by decide) rfl (by decide) (by decide) rfl rfl rfl rfl rfl (Nat.le_of_ble_eq_true rfl) ⟨by simp only [RM]; omega, by simp only [RM]; omega⟩ ⟨Nat.le_of_ble_eq_true rfl, Nat.le_of_ble_eq_true rfl⟩ dX2_run_183 (fun r4342 u4343 H locs hr4342 hP hD hS => ?_)
      obtain ⟨jr14344, gtr4345, dq14346⟩ := u4343
      try dsimp only at hr4342
      have hP : va_P G.1 vwCl [(h0, .inr (2, [.ref bb, .ref tr9, .int (nI jr14344), .int dk, .int dn, .int dp, .int da, .int dq14346])), (tr9, .inl (G.2.1, 30, .inl gtr4345))] H := hP
      have hD : va_D A [(h0, .inr (2, [.ref bb, .ref tr9, .int (nI jr14344), .int dk, .int dn, .int dp, .int da, .int dq14346])), (tr9, .inl (G.2.1, 30, .inl gtr4345))] := hD
      obtain ⟨hr4342, w4347⟩ := hr4342
      refine lv_aload_n hx hb dX2_run_186 rfl (lv_at hl 0 rfl) ?_
      refine gf_X2_29 hC rfl hK hP 0 rfl rfl dX2_run_187 ?_
      refine lv_isub hx hb dX2_run_190 ?_
      exact RI (v := r4342 - dp) hC hP hD hS [0, 1] (jr14344, gtr4345, dq14346) rfl rfl (by decide) (⟨trivial, by dsimp only; omega⟩) rfl dX2_run_191
    by_cases c_39_4348 : body = 13
    · refine lv_lookup (tgt := 192) (off := 153) hx hb dX2_run_39 (by decide) (by rw [c_39_4348]; rfl) (by decide) ?_
      refine lv_aload_n hx hb dX2_run_192 rfl (lv_at hl 0 rfl) ?_
      refine lv_iload_n hx hb dX2_run_193 rfl (lv_at hl 3 rfl) ?_
      refine iV (wr := [(tr9, .inl (G.2.1, 30, .inl (upd ftr jr body)))]) hC hK hl hP hD hS hA (d_quotient l G h0 xx bb tr9 (jr + 1) dk dn dp da dq) si_X2_78 [0] [1] rfl rfl (by decide) rfl (by decide) (by decide) rfl rfl rfl rfl rfl (Nat.le_of_ble_eq_true rfl) ⟨by simp only [RM]; omega, by simp only [RM]; omega⟩ ⟨Nat.le_of_ble_eq_true rfl, Nat.le_of_ble_eq_true rfl⟩ dX2_run_194 (fun r4349 u4350 H locs hr4349 hP hD hS => ?_)
      obtain ⟨dq14351, rfl⟩ : ∃ z9, z9 = u4350 := ⟨_, rfl⟩
      try dsimp only at hr4349
      have hP : va_P G.1 vwCl [(tr9, .inl (G.2.1, 30, .inl (upd ftr jr body))), (h0, .inr (2, [.ref bb, .ref tr9, .int (nI (jr + 1)), .int dk, .int dn, .int dp, .int da, .int dq14351]))] H := hP
      have hD : va_D A [(tr9, .inl (G.2.1, 30, .inl (upd ftr jr body))), (h0, .inr (2, [.ref bb, .ref tr9, .int (nI (jr + 1)), .int dk, .int dn, .int dp, .int da, .int dq14351]))] := hD
      exact RI (v := r4349) hC hP hD hS [1, 0] ((jr + 1), upd ftr jr body, dq14351) rfl rfl (by decide) (⟨trivial, by dsimp only; omega⟩) rfl dX2_run_197
    by_cases c_39_4352 : body = 20
    · refine lv_lookup (tgt := 198) (off := 159) hx hb dX2_run_39 (by decide) (by rw [c_39_4352]; rfl) (by decide) ?_
      refine lv_aload_n hx hb dX2_run_198 rfl (lv_at hl 0 rfl) ?_
      refine lv_iload_n hx hb dX2_run_199 rfl (lv_at hl 2 rfl) ?_
      refine lv_iconst (v := 1) hx hb dX2_run_200 (by decide) ?_
      refine lv_iload_n hx hb dX2_run_201 rfl (lv_at hl 3 rfl) ?_
      refine lv_iload hx hb dX2_run_202 (lv_at hl 4 rfl) ?_
      refine iVo (wr := []) hO hC hK hl hP hD hS hA (d_upper l G K mn h0 of9 1 xx dz bb tr9 (jr + 1) dk dn dp da dq (upd ftr jr body) (by omega) (by omega) ihR) si_X2_81 [0, 1] [] rfl rfl (by decide) rfl (by decide) (by decide) rfl rfl rfl rfl rfl (Nat.le_of_ble_eq_true rfl) ⟨by simp only [RM]; omega, by simp only [RM]; omega⟩ ⟨Nat.le_of_ble_eq_true rfl, Nat.le_of_ble_eq_true rfl⟩ dX2_run_204 (fun r4353 u4354 H locs hr4353 hP hD hS => ?_)
      obtain ⟨jr14355, gtr4356, dq14357⟩ := u4354
      try dsimp only at hr4353
      have hP : va_P G.1 vwCl [(h0, .inr (2, [.ref bb, .ref tr9, .int (nI jr14355), .int dk, .int dn, .int dp, .int da, .int dq14357])), (tr9, .inl (G.2.1, 30, .inl gtr4356))] H := hP
      have hD : va_D A [(h0, .inr (2, [.ref bb, .ref tr9, .int (nI jr14355), .int dk, .int dn, .int dp, .int da, .int dq14357])), (tr9, .inl (G.2.1, 30, .inl gtr4356))] := hD
      obtain ⟨hr4353, w4358⟩ := hr4353
      refine lv_aload_n hx hb dX2_run_207 rfl (lv_at hl 0 rfl) ?_
      refine gf_X2_26 hC rfl hK hP 0 rfl rfl dX2_run_208 ?_
      refine lv_ixor hx hb dX2_run_211 ?_
      exact RI (v := r4353 ^^^ dn) hC hP hD hS [0, 1] (jr14355, gtr4356, dq14357) rfl rfl (by decide) (⟨trivial, by dsimp only; omega⟩) rfl dX2_run_212
    by_cases c_39_4359 : body = 30
    · refine lv_lookup (tgt := 213) (off := 174) hx hb dX2_run_39 (by decide) (by rw [c_39_4359]; rfl) (by decide) ?_
      refine lv_aload_n hx hb dX2_run_213 rfl (lv_at hl 0 rfl) ?_
      refine lv_iload_n hx hb dX2_run_214 rfl (lv_at hl 2 rfl) ?_
      refine lv_iconst (v := 2) hx hb dX2_run_215 (by decide) ?_
      refine lv_iload_n hx hb dX2_run_216 rfl (lv_at hl 3 rfl) ?_
      refine lv_iload hx hb dX2_run_217 (lv_at hl 4 rfl) ?_
      refine iVo (wr := []) hO hC hK hl hP hD hS hA (d_upper l G K mn h0 of9 2 xx dz bb tr9 (jr + 1) dk dn dp da dq (upd ftr jr body) (by omega) (by omega) ihR) si_X2_81 [0, 1] [] rfl rfl (by decide) rfl (by decide) (by decide) rfl rfl rfl rfl rfl (Nat.le_of_ble_eq_true rfl) ⟨by simp only [RM]; omega, by simp only [RM]; omega⟩ ⟨Nat.le_of_ble_eq_true rfl, Nat.le_of_ble_eq_true rfl⟩ dX2_run_219 (fun r4360 u4361 H locs hr4360 hP hD hS => ?_)
      obtain ⟨jr14362, gtr4363, dq14364⟩ := u4361
      try dsimp only at hr4360
      have hP : va_P G.1 vwCl [(h0, .inr (2, [.ref bb, .ref tr9, .int (nI jr14362), .int dk, .int dn, .int dp, .int da, .int dq14364])), (tr9, .inl (G.2.1, 30, .inl gtr4363))] H := hP
      have hD : va_D A [(h0, .inr (2, [.ref bb, .ref tr9, .int (nI jr14362), .int dk, .int dn, .int dp, .int da, .int dq14364])), (tr9, .inl (G.2.1, 30, .inl gtr4363))] := hD
      obtain ⟨hr4360, w4365⟩ := hr4360
      refine lv_iconst (v := 3) hx hb dX2_run_222 (by decide) ?_
      refine lv_imul hx hb dX2_run_223 ?_
      exact RI (v := r4360 * 3) hC hP hD hS [0, 1] (jr14362, gtr4363, dq14364) rfl rfl (by decide) (⟨trivial, by dsimp only; omega⟩) rfl dX2_run_224
    by_cases c_39_4366 : body = 40
    · refine lv_lookup (tgt := 225) (off := 186) hx hb dX2_run_39 (by decide) (by rw [c_39_4366]; rfl) (by decide) ?_
      refine lv_iconst (v := 0) hx hb dX2_run_225 (by decide) ?_
      refine lv_aload_n hx hb dX2_run_226 rfl (lv_at hl 0 rfl) ?_
      refine lv_iload_n hx hb dX2_run_227 rfl (lv_at hl 2 rfl) ?_
      refine lv_iconst (v := 1) hx hb dX2_run_228 (by decide) ?_
      refine lv_iload_n hx hb dX2_run_229 rfl (lv_at hl 3 rfl) ?_
      refine lv_iload hx hb dX2_run_230 (lv_at hl 4 rfl) ?_
      refine iVo (wr := []) hO hC hK hl hP hD hS hA (d_upper l G K mn h0 of9 1 xx dz bb tr9 (jr + 1) dk dn dp da dq (upd ftr jr body) (by omega) (by omega) ihR) si_X2_81 [0, 1] [] rfl rfl (by decide) rfl (by decide) (by decide) rfl rfl rfl rfl rfl (Nat.le_of_ble_eq_true rfl) ⟨by simp only [RM]; omega, by simp only [RM]; omega⟩ ⟨Nat.le_of_ble_eq_true rfl, Nat.le_of_ble_eq_true rfl⟩ dX2_run_232 (fun r4367 u4368 H locs hr4367 hP hD hS => ?_)
      obtain ⟨jr14369, gtr4370, dq14371⟩ := u4368
      try dsimp only at hr4367
      have hP : va_P G.1 vwCl [(h0, .inr (2, [.ref bb, .ref tr9, .int (nI jr14369), .int dk, .int dn, .int dp, .int da, .int dq14371])), (tr9, .inl (G.2.1, 30, .inl gtr4370))] H := hP
      have hD : va_D A [(h0, .inr (2, [.ref bb, .ref tr9, .int (nI jr14369), .int dk, .int dn, .int dp, .int da, .int dq14371])), (tr9, .inl (G.2.1, 30, .inl gtr4370))] := hD
      obtain ⟨hr4367, w4372⟩ := hr4367
      refine lv_isub hx hb dX2_run_235 ?_
      exact RI (v := 0 - r4367) hC hP hD hS [0, 1] (jr14369, gtr4370, dq14371) rfl rfl (by decide) (⟨trivial, by dsimp only; omega⟩) rfl dX2_run_236
    by_cases c_39_4373 : body = 41
    · refine lv_lookup (tgt := 237) (off := 198) hx hb dX2_run_39 (by decide) (by rw [c_39_4373]; rfl) (by decide) ?_
      refine lv_aload_n hx hb dX2_run_237 rfl (lv_at hl 0 rfl) ?_
      refine lv_iload_n hx hb dX2_run_238 rfl (lv_at hl 2 rfl) ?_
      refine lv_iconst (v := 3) hx hb dX2_run_239 (by decide) ?_
      refine lv_iload_n hx hb dX2_run_240 rfl (lv_at hl 3 rfl) ?_
      refine lv_iconst (v := 2) hx hb dX2_run_241 (by decide) ?_
      refine lv_iadd hx hb dX2_run_242 ?_
      refine lv_iload hx hb dX2_run_243 (lv_at hl 4 rfl) ?_
      refine iVo (wr := []) hO hC hK hl hP hD hS hA (d_upper l G K mn h0 of9 3 (xx + 2) dz bb tr9 (jr + 1) dk dn dp da dq (upd ftr jr body) (by omega) (by omega) ihR) si_X2_81 [0, 1] [] rfl rfl (by decide) rfl (by decide) (by decide) rfl rfl rfl rfl rfl (Nat.le_of_ble_eq_true rfl) ⟨by simp only [RM]; omega, by simp only [RM]; omega⟩ ⟨Nat.le_of_ble_eq_true rfl, Nat.le_of_ble_eq_true rfl⟩ dX2_run_245 (fun r4374 u4375 H locs hr4374 hP hD hS => ?_)
      obtain ⟨jr14376, gtr4377, dq14378⟩ := u4375
      try dsimp only at hr4374
      have hP : va_P G.1 vwCl [(h0, .inr (2, [.ref bb, .ref tr9, .int (nI jr14376), .int dk, .int dn, .int dp, .int da, .int dq14378])), (tr9, .inl (G.2.1, 30, .inl gtr4377))] H := hP
      have hD : va_D A [(h0, .inr (2, [.ref bb, .ref tr9, .int (nI jr14376), .int dk, .int dn, .int dp, .int da, .int dq14378])), (tr9, .inl (G.2.1, 30, .inl gtr4377))] := hD
      obtain ⟨hr4374, w4379⟩ := hr4374
      exact RI (v := r4374) hC hP hD hS [0, 1] (jr14376, gtr4377, dq14378) rfl rfl (by decide) (⟨trivial, by dsimp only; omega⟩) rfl dX2_run_248
    by_cases c_39_4380 : body = 50
    · refine lv_lookup (tgt := 249) (off := 210) hx hb dX2_run_39 (by decide) (by rw [c_39_4380]; rfl) (by decide) ?_
      refine lv_aload_n hx hb dX2_run_249 rfl (lv_at hl 0 rfl) ?_
      refine lv_iload_n hx hb dX2_run_250 rfl (lv_at hl 2 rfl) ?_
      refine lv_iconst (v := 0) hx hb dX2_run_251 (by decide) ?_
      refine lv_iload_n hx hb dX2_run_252 rfl (lv_at hl 3 rfl) ?_
      refine lv_iload hx hb dX2_run_253 (lv_at hl 4 rfl) ?_
      refine iVo (wr := []) hO hC hK hl hP hD hS hA (d_upper l G K mn h0 of9 0 xx dz bb tr9 (jr + 1) dk dn dp da dq (upd ftr jr body) (by omega) (by omega) ihR) si_X2_81 [0, 1] [] rfl rfl (by decide) rfl (by decide) (by decide) rfl rfl rfl rfl rfl (Nat.le_of_ble_eq_true rfl) ⟨by simp only [RM]; omega, by simp only [RM]; omega⟩ ⟨Nat.le_of_ble_eq_true rfl, Nat.le_of_ble_eq_true rfl⟩ dX2_run_255 (fun r4381 u4382 H locs hr4381 hP hD hS => ?_)
      obtain ⟨jr14383, gtr4384, dq14385⟩ := u4382
      try dsimp only at hr4381
      have hP : va_P G.1 vwCl [(h0, .inr (2, [.ref bb, .ref tr9, .int (nI jr14383), .int dk, .int dn, .int dp, .int da, .int dq14385])), (tr9, .inl (G.2.1, 30, .inl gtr4384))] H := hP
      have hD : va_D A [(h0, .inr (2, [.ref bb, .ref tr9, .int (nI jr14383), .int dk, .int dn, .int dp, .int da, .int dq14385])), (tr9, .inl (G.2.1, 30, .inl gtr4384))] := hD
      obtain ⟨hr4381, w4386⟩ := hr4381
      refine lv_aload_n hx hb dX2_run_258 rfl (lv_at hl 0 rfl) ?_
      refine gf_X2_26 hC rfl hK hP 0 rfl rfl dX2_run_259 ?_
      refine lv_isub hx hb dX2_run_262 ?_
      exact RI (v := r4381 - dn) hC hP hD hS [0, 1] (jr14383, gtr4384, dq14385) rfl rfl (by decide) (⟨trivial, by dsimp only; omega⟩) rfl dX2_run_263
    by_cases c_39_4387 : body = 51
    · refine lv_lookup (tgt := 264) (off := 225) hx hb dX2_run_39 (by decide) (by rw [c_39_4387]; rfl) (by decide) ?_
      refine lv_aload_n hx hb dX2_run_264 rfl (lv_at hl 0 rfl) ?_
      refine lv_iload_n hx hb dX2_run_265 rfl (lv_at hl 2 rfl) ?_
      refine lv_iconst (v := 2) hx hb dX2_run_266 (by decide) ?_
      refine lv_iload_n hx hb dX2_run_267 rfl (lv_at hl 3 rfl) ?_
      refine lv_iload hx hb dX2_run_268 (lv_at hl 4 rfl) ?_
      refine iVo (wr := []) hO hC hK hl hP hD hS hA (d_upper l G K mn h0 of9 2 xx dz bb tr9 (jr + 1) dk dn dp da dq (upd ftr jr body) (by omega) (by omega) ihR) si_X2_81 [0, 1] [] rfl rfl (by decide) rfl (by decide) (by decide) rfl rfl rfl rfl rfl (Nat.le_of_ble_eq_true rfl) ⟨by simp only [RM]; omega, by simp only [RM]; omega⟩ ⟨Nat.le_of_ble_eq_true rfl, Nat.le_of_ble_eq_true rfl⟩ dX2_run_270 (fun r4388 u4389 H locs hr4388 hP hD hS => ?_)
      obtain ⟨jr14390, gtr4391, dq14392⟩ := u4389
      try dsimp only at hr4388
      have hP : va_P G.1 vwCl [(h0, .inr (2, [.ref bb, .ref tr9, .int (nI jr14390), .int dk, .int dn, .int dp, .int da, .int dq14392])), (tr9, .inl (G.2.1, 30, .inl gtr4391))] H := hP
      have hD : va_D A [(h0, .inr (2, [.ref bb, .ref tr9, .int (nI jr14390), .int dk, .int dn, .int dp, .int da, .int dq14392])), (tr9, .inl (G.2.1, 30, .inl gtr4391))] := hD
      obtain ⟨hr4388, w4393⟩ := hr4388
      refine lv_istore (lv' := [(5, .int r4388), (0, .ref h0), (1, .int body), (2, .int of9), (3, .int xx), (4, .int (nI dz))]) hx hb dX2_run_273 hl (by decide) rfl (fun ls hl => ?_)
      refine lv_iload hx hb dX2_run_275 (lv_at hl 0 rfl) ?_
      refine lv_aload_n hx hb dX2_run_277 rfl (lv_at hl 1 rfl) ?_
      refine lv_aload_n hx hb dX2_run_278 rfl (lv_at hl 1 rfl) ?_
      refine gf_X2_23 hC rfl hK hP 0 rfl rfl dX2_run_279 ?_
      refine lv_iconst (v := 1) hx hb dX2_run_282 (by decide) ?_
      refine lv_iconst (v := 1) hx hb dX2_run_283 (by decide) ?_
      refine lv_iload hx hb dX2_run_284 (lv_at hl 5 rfl) ?_
      refine iVo (wr := []) hO hC hK hl hP hD hS hA (d_dealAs l G K mn h0 dk 1 1 dz bb tr9 jr14390 dk dn dp da dq14392 gtr4391 (by omega) (by omega) ihR) si_X2_68 [0, 1] [] rfl rfl (by decide) rfl (by decide) (by decide) rfl rfl rfl rfl rfl (Nat.le_of_ble_eq_true rfl) ⟨by simp only [RM]; omega, by simp only [RM]; omega⟩ ⟨Nat.le_of_ble_eq_true rfl, Nat.le_of_ble_eq_true rfl⟩ dX2_run_286 (fun r4394 u4395 H locs hr4394 hP hD hS => ?_)
      obtain ⟨jr14396, gtr4397, dq14398⟩ := u4395
      try dsimp only at hr4394
      have hP : va_P G.1 vwCl [(h0, .inr (2, [.ref bb, .ref tr9, .int (nI jr14396), .int dk, .int dn, .int dp, .int da, .int dq14398])), (tr9, .inl (G.2.1, 30, .inl gtr4397))] H := hP
      have hD : va_D A [(h0, .inr (2, [.ref bb, .ref tr9, .int (nI jr14396), .int dk, .int dn, .int dp, .int da, .int dq14398])), (tr9, .inl (G.2.1, 30, .inl gtr4397))] := hD
      obtain ⟨hr4394, w4399⟩ := hr4394
      refine lv_iadd hx hb dX2_run_289 ?_
      exact RI (v := r4388 + r4394) hC hP hD hS [0, 1] (jr14396, gtr4397, dq14398) rfl rfl (by decide) (⟨trivial, by dsimp only; omega⟩) rfl dX2_run_290
    by_cases c_39_4400 : body = 60
    · refine lv_lookup (tgt := 291) (off := 252) hx hb dX2_run_39 (by decide) (by rw [c_39_4400]; rfl) (by decide) ?_
      refine lv_aload_n hx hb dX2_run_291 rfl (lv_at hl 0 rfl) ?_
      refine lv_iload_n hx hb dX2_run_292 rfl (lv_at hl 2 rfl) ?_
      refine lv_iconst (v := 2) hx hb dX2_run_293 (by decide) ?_
      refine lv_iload_n hx hb dX2_run_294 rfl (lv_at hl 3 rfl) ?_
      refine lv_iload hx hb dX2_run_295 (lv_at hl 4 rfl) ?_
      refine iVo (wr := []) hO hC hK hl hP hD hS hA (d_upper l G K mn h0 of9 2 xx dz bb tr9 (jr + 1) dk dn dp da dq (upd ftr jr body) (by omega) (by omega) ihR) si_X2_81 [0, 1] [] rfl rfl (by decide) rfl (by decide) (by decide) rfl rfl rfl rfl rfl (Nat.le_of_ble_eq_true rfl) ⟨by simp only [RM]; omega, by simp only [RM]; omega⟩ ⟨Nat.le_of_ble_eq_true rfl, Nat.le_of_ble_eq_true rfl⟩ dX2_run_297 (fun r4401 u4402 H locs hr4401 hP hD hS => ?_)
      obtain ⟨jr14403, gtr4404, dq14405⟩ := u4402
      try dsimp only at hr4401
      have hP : va_P G.1 vwCl [(h0, .inr (2, [.ref bb, .ref tr9, .int (nI jr14403), .int dk, .int dn, .int dp, .int da, .int dq14405])), (tr9, .inl (G.2.1, 30, .inl gtr4404))] H := hP
      have hD : va_D A [(h0, .inr (2, [.ref bb, .ref tr9, .int (nI jr14403), .int dk, .int dn, .int dp, .int da, .int dq14405])), (tr9, .inl (G.2.1, 30, .inl gtr4404))] := hD
      obtain ⟨hr4401, w4406⟩ := hr4401
      refine lv_iconst (v := 2) hx hb dX2_run_300 (by decide) ?_
      refine lv_imul hx hb dX2_run_301 ?_
      exact RI (v := r4401 * 2) hC hP hD hS [0, 1] (jr14403, gtr4404, dq14405) rfl rfl (by decide) (⟨trivial, by dsimp only; omega⟩) rfl dX2_run_302
    by_cases c_39_4407 : body = 61
    · refine lv_lookup (tgt := 303) (off := 264) hx hb dX2_run_39 (by decide) (by rw [c_39_4407]; rfl) (by decide) ?_
      refine lv_aload_n hx hb dX2_run_303 rfl (lv_at hl 0 rfl) ?_
      refine lv_iload_n hx hb dX2_run_304 rfl (lv_at hl 2 rfl) ?_
      refine lv_iconst (v := 0) hx hb dX2_run_305 (by decide) ?_
      refine lv_iload_n hx hb dX2_run_306 rfl (lv_at hl 3 rfl) ?_
      refine lv_aload_n hx hb dX2_run_307 rfl (lv_at hl 0 rfl) ?_
      refine gf_X2_29 hC rfl hK hP 0 rfl rfl dX2_run_308 ?_
      refine lv_iadd hx hb dX2_run_311 ?_
      refine lv_iload hx hb dX2_run_312 (lv_at hl 4 rfl) ?_
      refine iVo (wr := []) hO hC hK hl hP hD hS hA (d_upper l G K mn h0 of9 0 (xx + dp) dz bb tr9 (jr + 1) dk dn dp da dq (upd ftr jr body) (by omega) (by omega) ihR) si_X2_81 [0, 1] [] rfl rfl (by decide) rfl (by decide) (by decide) rfl rfl rfl rfl rfl (Nat.le_of_ble_eq_true rfl) ⟨by simp only [RM]; omega, by simp only [RM]; omega⟩ ⟨Nat.le_of_ble_eq_true rfl, Nat.le_of_ble_eq_true rfl⟩ dX2_run_314 (fun r4408 u4409 H locs hr4408 hP hD hS => ?_)
      obtain ⟨jr14410, gtr4411, dq14412⟩ := u4409
      try dsimp only at hr4408
      have hP : va_P G.1 vwCl [(h0, .inr (2, [.ref bb, .ref tr9, .int (nI jr14410), .int dk, .int dn, .int dp, .int da, .int dq14412])), (tr9, .inl (G.2.1, 30, .inl gtr4411))] H := hP
      have hD : va_D A [(h0, .inr (2, [.ref bb, .ref tr9, .int (nI jr14410), .int dk, .int dn, .int dp, .int da, .int dq14412])), (tr9, .inl (G.2.1, 30, .inl gtr4411))] := hD
      obtain ⟨hr4408, w4413⟩ := hr4408
      exact RI (v := r4408) hC hP hD hS [0, 1] (jr14410, gtr4411, dq14412) rfl rfl (by decide) (⟨trivial, by dsimp only; omega⟩) rfl dX2_run_317
    by_cases c_39_4414 : body = 70
    · refine lv_lookup (tgt := 318) (off := 279) hx hb dX2_run_39 (by decide) (by rw [c_39_4414]; rfl) (by decide) ?_
      refine lv_aload_n hx hb dX2_run_318 rfl (lv_at hl 0 rfl) ?_
      refine lv_iload_n hx hb dX2_run_319 rfl (lv_at hl 2 rfl) ?_
      refine lv_iconst (v := 3) hx hb dX2_run_320 (by decide) ?_
      refine lv_iload_n hx hb dX2_run_321 rfl (lv_at hl 3 rfl) ?_
      refine lv_iload hx hb dX2_run_322 (lv_at hl 4 rfl) ?_
      refine iVo (wr := []) hO hC hK hl hP hD hS hA (d_upper l G K mn h0 of9 3 xx dz bb tr9 (jr + 1) dk dn dp da dq (upd ftr jr body) (by omega) (by omega) ihR) si_X2_81 [0, 1] [] rfl rfl (by decide) rfl (by decide) (by decide) rfl rfl rfl rfl rfl (Nat.le_of_ble_eq_true rfl) ⟨by simp only [RM]; omega, by simp only [RM]; omega⟩ ⟨Nat.le_of_ble_eq_true rfl, Nat.le_of_ble_eq_true rfl⟩ dX2_run_324 (fun r4415 u4416 H locs hr4415 hP hD hS => ?_)
      obtain ⟨jr14417, gtr4418, dq14419⟩ := u4416
      try dsimp only at hr4415
      have hP : va_P G.1 vwCl [(h0, .inr (2, [.ref bb, .ref tr9, .int (nI jr14417), .int dk, .int dn, .int dp, .int da, .int dq14419])), (tr9, .inl (G.2.1, 30, .inl gtr4418))] H := hP
      have hD : va_D A [(h0, .inr (2, [.ref bb, .ref tr9, .int (nI jr14417), .int dk, .int dn, .int dp, .int da, .int dq14419])), (tr9, .inl (G.2.1, 30, .inl gtr4418))] := hD
      obtain ⟨hr4415, w4420⟩ := hr4415
      refine lv_istore (lv' := [(6, .int r4415), (0, .ref h0), (1, .int body), (2, .int of9), (3, .int xx), (4, .int (nI dz))]) hx hb dX2_run_327 hl (by decide) rfl (fun ls hl => ?_)
      refine lv_aload_n hx hb dX2_run_329 rfl (lv_at hl 1 rfl) ?_
      refine gf_X2_35 hC rfl hK hP 0 rfl rfl dX2_run_330 ?_
      refine lv_if_eq (tgt := 340) hx hb dX2_run_333 (by decide) (fun c_333_4421 => ?_) (fun c_333_4421 => ?_)
      · refine lv_iload hx hb dX2_run_340 (lv_at hl 0 rfl) ?_
        refine lv_aload_n hx hb dX2_run_342 rfl (lv_at hl 1 rfl) ?_
        refine lv_aload_n hx hb dX2_run_343 rfl (lv_at hl 1 rfl) ?_
        refine gf_X2_23 hC rfl hK hP 0 rfl rfl dX2_run_344 ?_
        refine lv_iconst (v := 0) hx hb dX2_run_347 (by decide) ?_
        refine lv_aload_n hx hb dX2_run_348 rfl (lv_at hl 1 rfl) ?_
        refine gf_X2_26 hC rfl hK hP 0 rfl rfl dX2_run_349 ?_
        refine lv_iload hx hb dX2_run_352 (lv_at hl 5 rfl) ?_
        refine iVo (wr := []) hO hC hK hl hP hD hS hA (d_dealAs l G K mn h0 dk 0 dn dz bb tr9 jr14417 dk dn dp da dq14419 gtr4418 (by omega) (by omega) ihR) si_X2_68 [0, 1] [] rfl rfl (by decide) rfl (by decide) (by decide) rfl rfl rfl rfl rfl (Nat.le_of_ble_eq_true rfl) ⟨by simp only [RM]; omega, by simp only [RM]; omega⟩ ⟨Nat.le_of_ble_eq_true rfl, Nat.le_of_ble_eq_true rfl⟩ dX2_run_354 (fun r4422 u4423 H locs hr4422 hP hD hS => ?_)
        obtain ⟨jr14424, gtr4425, dq14426⟩ := u4423
        try dsimp only at hr4422
        have hP : va_P G.1 vwCl [(h0, .inr (2, [.ref bb, .ref tr9, .int (nI jr14424), .int dk, .int dn, .int dp, .int da, .int dq14426])), (tr9, .inl (G.2.1, 30, .inl gtr4425))] H := hP
        have hD : va_D A [(h0, .inr (2, [.ref bb, .ref tr9, .int (nI jr14424), .int dk, .int dn, .int dp, .int da, .int dq14426])), (tr9, .inl (G.2.1, 30, .inl gtr4425))] := hD
        obtain ⟨hr4422, w4427⟩ := hr4422
        refine lv_isub hx hb dX2_run_357 ?_
        exact RI (v := r4415 - r4422) hC hP hD hS [0, 1] (jr14424, gtr4425, dq14426) rfl rfl (by decide) (⟨trivial, by dsimp only; omega⟩) rfl dX2_run_358
      · refine lv_iconst (v := 0) hx hb dX2_run_336 (by decide) ?_
        refine lv_goto (tgt := 358) hx hb dX2_run_337 (by decide) ?_
        exact RI (v := 0) hC hP hD hS [0, 1] (jr14417, gtr4418, dq14419) rfl rfl (by decide) (⟨trivial, by dsimp only; omega⟩) rfl dX2_run_358
    refine lv_lookup (tgt := 359) (off := 320) hx hb dX2_run_39 (by decide) ((lv_osw c_39_4333 (by decide)).trans ((lv_osw c_39_4334 (by decide)).trans ((lv_osw c_39_4341 (by decide)).trans ((lv_osw c_39_4348 (by decide)).trans ((lv_osw c_39_4352 (by decide)).trans ((lv_osw c_39_4359 (by decide)).trans ((lv_osw c_39_4366 (by decide)).trans ((lv_osw c_39_4373 (by decide)).trans ((lv_osw c_39_4380 (by decide)).trans ((lv_osw c_39_4387 (by decide)).trans ((lv_osw c_39_4400 (by decide)).trans ((lv_osw c_39_4407 (by decide)).trans ((lv_osw c_39_4414 (by decide)).trans (rfl)))))))))))))) (by decide) ?_
    refine lv_iconst (v := 0) hx hb dX2_run_359 (by decide) ?_
    exact RI (v := 0) hC hP hD hS [0, 1] ((jr + 1), upd ftr jr body, dq) rfl rfl (by decide) (⟨trivial, by dsimp only; omega⟩) rfl dX2_run_360
set_option maxHeartbeats 4000000 in
set_option maxRecDepth 100000 in
theorem d_run_0 (l : Launch) (G : GG) (K : OO) (h0 : Nat) (body : Int32) (of9 : Int32) (xx : Int32) (dz : Nat) (bb : Nat) (tr9 : Nat) (jr : Nat) (dk : Int32) (dn : Int32) (dp : Int32) (da : Int32) (dq : Int32) (ftr : Nat → Int32) (hdz : dz + 0 = 21) (hjr : jr ≤ 30) : MIo l G K yX2_run cX2_run 7 (some .int) (3 * 0 + 2) 0 0 [.ref h0, .int body, .int of9, .int xx, .int (nI dz)] [(h0, .inr (2, [.ref bb, .ref tr9, .int (nI jr), .int dk, .int dn, .int dp, .int da, .int dq])), (tr9, .inl (G.2.1, 30, .inl ftr))] (fun (r : Int32) (u : Nat × (Nat → Int32) × Int32) => (True) ∧ (u.1 ≤ 30)) (fun u : Nat × (Nat → Int32) × Int32 => [(h0, .inr (2, [.ref bb, .ref tr9, .int (nI u.1), .int dk, .int dn, .int dp, .int da, .int u.2.2])), (tr9, .inl (G.2.1, 30, .inl u.2.1))]) := by
  refine MIo.start (by decide +kernel) (Nat.le_of_ble_eq_true rfl) ?_
  intro p e s m below meth c A ls hC hK hP hD hS hA hl hO
  have hl : lv_has ls 7 [(0, .ref h0), (1, .int body), (2, .int of9), (3, .int xx), (4, .int (nI dz))] := hl
  obtain ⟨hx, hb, hr, hml, hB, hown, hlocks, hnm⟩ := id hC
  refine lv_iload hx hb dX2_run_0 (lv_at hl 4 rfl) ?_
  refine lv_bipush (v := 20) hx hb dX2_run_2 (by decide) ?_
  refine lv_icmp_le (tgt := 9) hx hb dX2_run_4 (by decide) (fun c9 => absurd c9 (nI_ge (a := 20) (b := dz) (by omega) (by omega))) (fun _ => ?_)
  refine lv_iconst (v := 0) hx hb dX2_run_7 (by decide) ?_
  exact RI (v := 0) hC hP hD hS [0, 1] (jr, ftr, dq) rfl rfl (by decide) (⟨trivial, by dsimp only; omega⟩) rfl dX2_run_8
theorem d_run (l : Launch) (G : GG) (K : OO) : ∀ (mn : Nat) (h0 : Nat) (body : Int32) (of9 : Int32) (xx : Int32) (dz : Nat) (bb : Nat) (tr9 : Nat) (jr : Nat) (dk : Int32) (dn : Int32) (dp : Int32) (da : Int32) (dq : Int32) (ftr : Nat → Int32) (hdz : dz + mn = 21) (hjr : jr ≤ 30), MIo l G K yX2_run cX2_run 7 (some .int) (3 * mn + 2) 0 0 [.ref h0, .int body, .int of9, .int xx, .int (nI dz)] [(h0, .inr (2, [.ref bb, .ref tr9, .int (nI jr), .int dk, .int dn, .int dp, .int da, .int dq])), (tr9, .inl (G.2.1, 30, .inl ftr))] (fun (r : Int32) (u : Nat × (Nat → Int32) × Int32) => (True) ∧ (u.1 ≤ 30)) (fun u : Nat × (Nat → Int32) × Int32 => [(h0, .inr (2, [.ref bb, .ref tr9, .int (nI u.1), .int dk, .int dn, .int dp, .int da, .int u.2.2])), (tr9, .inl (G.2.1, 30, .inl u.2.1))]) := by
  intro mn
  induction mn with
  | zero => exact fun h0 body of9 xx dz bb tr9 jr dk dn dp da dq ftr hdz hjr => d_run_0 l G K h0 body of9 xx dz bb tr9 jr dk dn dp da dq ftr hdz hjr
  | succ mn ih => exact fun h0 body of9 xx dz bb tr9 jr dk dn dp da dq ftr hdz hjr => d_run_step l G K mn h0 body of9 xx dz bb tr9 jr dk dn dp da dq ftr hdz hjr ih
set_option maxHeartbeats 4000000 in
set_option maxRecDepth 100000 in
theorem d_answer (l : Launch) (G : GG) (K : OO) (h0 : Nat) (dd : Int32) (xx : Int32) (bb : Nat) (tr9 : Nat) (jr : Nat) (dk : Int32) (dn : Int32) (dp : Int32) (da : Int32) (dq : Int32) (ftr : Nat → Int32) (hjr : jr ≤ 30) : MIo l G K yX2_answer cX2_answer 4 (some .int) 64 0 0 [.ref h0, .int dd, .int xx] [(h0, .inr (2, [.ref bb, .ref tr9, .int (nI jr), .int dk, .int dn, .int dp, .int da, .int dq])), (tr9, .inl (G.2.1, 30, .inl ftr))] (fun (r : Int32) (u : Nat × (Nat → Int32) × Int32) => (True) ∧ (u.1 ≤ 30)) (fun u : Nat × (Nat → Int32) × Int32 => [(h0, .inr (2, [.ref bb, .ref tr9, .int (nI u.1), .int dk, .int dn, .int dp, .int da, .int u.2.2])), (tr9, .inl (G.2.1, 30, .inl u.2.1))]) := by
  refine MIo.start (by decide +kernel) (Nat.le_of_ble_eq_true rfl) ?_
  intro p e s m below meth c A ls hC hK hP hD hS hA hl hO
  have hl : lv_has ls 4 [(0, .ref h0), (1, .int dd), (2, .int xx)] := hl
  obtain ⟨hx, hb, hr, hml, hB, hown, hlocks, hnm⟩ := id hC
  refine lv_aload_n hx hb dX2_answer_0 rfl (lv_at hl 0 rfl) ?_
  refine lv_iconst (v := 0) hx hb dX2_answer_1 (by decide) ?_
  refine pf_X2_35 hC rfl hK hP hD hS 0 (ws' := [(h0, .inr (2, [.ref bb, .ref tr9, .int (nI jr), .int dk, .int dn, .int dp, .int da, .int 0])), (tr9, .inl (G.2.1, 30, .inl ftr))]) rfl (Nat.le_of_ble_eq_true rfl) rfl (by decide +kernel) (by decide +kernel) dX2_answer_2 (fun H locs hP hD hS => ?_)
  refine lv_aload_n hx hb dX2_answer_5 rfl (lv_at hl 0 rfl) ?_
  refine lv_aload_n hx hb dX2_answer_6 rfl (lv_at hl 0 rfl) ?_
  refine gf_X2_23 hC rfl hK hP 0 rfl rfl dX2_answer_7 ?_
  refine lv_iload_n hx hb dX2_answer_10 rfl (lv_at hl 1 rfl) ?_
  refine lv_iload_n hx hb dX2_answer_11 rfl (lv_at hl 2 rfl) ?_
  refine lv_iconst (v := 0) hx hb dX2_answer_12 (by decide) ?_
  refine iVo (wr := []) hO hC hK hl hP hD hS hA (d_dealAs l G K 20 h0 dk dd xx 0 bb tr9 jr dk dn dp da 0 ftr (by omega) (by omega) (d_run l G K 20)) si_X2_68 [0, 1] [] rfl rfl (by decide) rfl (by decide) (by decide) rfl rfl rfl rfl rfl (Nat.le_of_ble_eq_true rfl) ⟨Nat.le_of_ble_eq_true rfl, Nat.le_of_ble_eq_true rfl⟩ ⟨Nat.le_of_ble_eq_true rfl, Nat.le_of_ble_eq_true rfl⟩ dX2_answer_13 (fun r4428 u4429 H locs hr4428 hP hD hS => ?_)
  obtain ⟨jr14430, gtr4431, dq14432⟩ := u4429
  try dsimp only at hr4428
  have hP : va_P G.1 vwCl [(h0, .inr (2, [.ref bb, .ref tr9, .int (nI jr14430), .int dk, .int dn, .int dp, .int da, .int dq14432])), (tr9, .inl (G.2.1, 30, .inl gtr4431))] H := hP
  have hD : va_D A [(h0, .inr (2, [.ref bb, .ref tr9, .int (nI jr14430), .int dk, .int dn, .int dp, .int da, .int dq14432])), (tr9, .inl (G.2.1, 30, .inl gtr4431))] := hD
  obtain ⟨hr4428, w4433⟩ := hr4428
  refine lv_istore_n (lv' := [(3, .int r4428), (0, .ref h0), (1, .int dd), (2, .int xx)]) hx hb dX2_answer_16 rfl hl (by decide) rfl (fun ls hl => ?_)
  refine lv_aload_n hx hb dX2_answer_17 rfl (lv_at hl 1 rfl) ?_
  refine gf_X2_35 hC rfl hK hP 0 rfl rfl dX2_answer_18 ?_
  refine lv_if_eq (tgt := 29) hx hb dX2_answer_21 (by decide) (fun c_21_4434 => ?_) (fun c_21_4434 => ?_)
  · refine lv_iload_n hx hb dX2_answer_29 rfl (lv_at hl 0 rfl) ?_
    exact RI (v := r4428) hC hP hD hS [0, 1] (jr14430, gtr4431, dq14432) rfl rfl (by decide) (⟨trivial, by dsimp only; omega⟩) rfl dX2_answer_30
  · refine lv_bipush (v := (-15)) hx hb dX2_answer_24 (by decide) ?_
    refine lv_goto (tgt := 30) hx hb dX2_answer_26 (by decide) ?_
    exact RI (v := (-15)) hC hP hD hS [0, 1] (jr14430, gtr4431, dq14432) rfl rfl (by decide) (⟨trivial, by dsimp only; omega⟩) rfl dX2_answer_30
set_option maxHeartbeats 4000000 in
set_option maxRecDepth 100000 in
theorem p_taken (l : Launch) (G : GG) (K : OO) (h0 : Nat) (x1 : Int32) (x2 : Int32) (bb : Nat) (kk : Nat) (ikp : Int32) (sg : Nat) (do9 : Nat) (ru9 : Nat) (ta9 : Nat) (tp9 : Nat) (ro9 : Nat) (ho9 : Nat) (de9 : Nat) (bpersons : Nat) (bpapers : Nat) (bstamps : Nat) (bversions : Nat) (blines : Nat) (bsteps : Nat) (bsayings : Nat) (bfindings : Nat) (bwarnings : Nat) (bquestions : Nat) (td : Int32) (vd : Int32) (vl : Int32) (gp : Int32) (bpapersc : Nat) (kbpapers : Nat) (fbpapers : Nat → Int32) (bsayingsc : Nat) (kbsayings : Nat) (fbsayings : Nat → Int32) (bfindingsc : Nat) (kbfindings : Nat) (fbfindings : Nat → Int32) (hs : Nat) (hz : Nat) (hi : Nat) (hw : Nat) (hn : Nat) (ht : Nat) (fhw : Nat → Int32) (fhn : Nat → Int32) (fht : Nat → Int32) (tr9 : Nat) (jr : Nat) (dk : Int32) (dn : Int32) (dp : Int32) (da : Int32) (dq : Int32) (hkbpapers : kbpapers ≤ 12) (hkbsayings : kbsayings ≤ 16) (hkbfindings : kbfindings ≤ 12) : MIo l G K yX11_taken cX11_taken 4 (some .int) 7 0 0 [.ref h0, .int x1, .int x2] [(h0, .inr (11, [.ref bb, .ref kk, .int ikp, .ref sg, .ref do9, .ref ru9, .ref ta9, .ref tp9, .ref ro9, .ref ho9, .ref de9])), (bb, .inr (0, [.ref bpersons, .ref bpapers, .ref bstamps, .ref bversions, .ref blines, .ref bsteps, .ref bsayings, .ref bfindings, .ref bwarnings, .ref bquestions, .int td, .int vd, .int vl, .int gp])), (bpapers, .inr (8, [.int 12, .int 6, .ref bpapersc, .int (nI kbpapers)])), (bpapersc, .inl (G.2.1, 72, .inl fbpapers)), (bsayings, .inr (8, [.int 16, .int 8, .ref bsayingsc, .int (nI kbsayings)])), (bsayingsc, .inl (G.2.1, 128, .inl fbsayings)), (bfindings, .inr (8, [.int 12, .int 4, .ref bfindingsc, .int (nI kbfindings)])), (bfindingsc, .inl (G.2.1, 48, .inl fbfindings)), (ho9, .inr (4, [.ref hs, .ref hz, .ref hi, .ref hw, .ref hn, .ref ht])), (hw, .inl (G.2.1, 4, .inl fhw)), (hn, .inl (G.2.1, 4, .inl fhn)), (ht, .inl (G.2.1, 4, .inl fht)), (de9, .inr (2, [.ref bb, .ref tr9, .int (nI jr), .int dk, .int dn, .int dp, .int da, .int dq]))] (fun (r : Int32) (u : Int32 × Int32 × Int32 × Int32) => (True)) (fun u : Int32 × Int32 × Int32 × Int32 => [(h0, .inr (11, [.ref bb, .ref kk, .int ikp, .ref sg, .ref do9, .ref ru9, .ref ta9, .ref tp9, .ref ro9, .ref ho9, .ref de9])), (bb, .inr (0, [.ref bpersons, .ref bpapers, .ref bstamps, .ref bversions, .ref blines, .ref bsteps, .ref bsayings, .ref bfindings, .ref bwarnings, .ref bquestions, .int td, .int vd, .int vl, .int gp])), (bpapers, .inr (8, [.int 12, .int 6, .ref bpapersc, .int (nI kbpapers)])), (bpapersc, .inl (G.2.1, 72, .inl fbpapers)), (bsayings, .inr (8, [.int 16, .int 8, .ref bsayingsc, .int (nI kbsayings)])), (bsayingsc, .inl (G.2.1, 128, .inl fbsayings)), (bfindings, .inr (8, [.int 12, .int 4, .ref bfindingsc, .int (nI kbfindings)])), (bfindingsc, .inl (G.2.1, 48, .inl fbfindings)), (ho9, .inr (4, [.ref hs, .ref hz, .ref hi, .ref hw, .ref hn, .ref ht])), (hw, .inl (G.2.1, 4, .inl fhw)), (hn, .inl (G.2.1, 4, .inl fhn)), (ht, .inl (G.2.1, 4, .inl fht)), (de9, .inr (2, [.ref bb, .ref tr9, .int (nI jr), .int u.1, .int u.2.1, .int u.2.2.1, .int u.2.2.2, .int dq]))]) := by
  refine MIo.start (by decide +kernel) (Nat.le_of_ble_eq_true rfl) ?_
  intro p e s m below meth c A ls hC hK hP hD hS hA hl hO
  have hl : lv_has ls 4 [(0, .ref h0), (1, .int x1), (2, .int x2)] := hl
  obtain ⟨hx, hb, hr, hml, hB, hown, hlocks, hnm⟩ := id hC
  refine lv_iload_n hx hb dX11_taken_0 rfl (lv_at hl 1 rfl) ?_
  refine pS hC hK hl (c_isShelf l G x1) si_X11_318 rfl rfl (Nat.le_of_ble_eq_true rfl) ⟨Nat.le_of_ble_eq_true rfl, Nat.le_of_ble_eq_true rfl⟩ ⟨by first | exact Nat.le_of_ble_eq_true rfl | exact Nat.zero_le _, by first | exact Nat.le_of_ble_eq_true rfl | exact Nat.zero_le _⟩ dX11_taken_1 (fun r4435 hr4435 => ?_)
  rcases hr4435 with ⟨rfl, a4436⟩ | ⟨rfl, a4436⟩
  · refine lv_if_eq (tgt := 27) hx hb dX11_taken_4 (by decide) (fun c9 => absurd c9 (by decide)) (fun _ => ?_)
    refine lv_iload_n hx hb dX11_taken_7 rfl (lv_at hl 2 rfl) ?_
    refine lv_iconst (v := 0) hx hb dX11_taken_8 (by decide) ?_
    refine lv_bipush (v := 6) hx hb dX11_taken_9 (by decide) ?_
    refine pS hC hK hl (c_within l G x2 0 6) si_X11_83 rfl rfl (Nat.le_of_ble_eq_true rfl) ⟨Nat.le_of_ble_eq_true rfl, Nat.le_of_ble_eq_true rfl⟩ ⟨by first | exact Nat.le_of_ble_eq_true rfl | exact Nat.zero_le _, by first | exact Nat.le_of_ble_eq_true rfl | exact Nat.zero_le _⟩ dX11_taken_11 (fun r4437 hr4437 => ?_)
    rcases hr4437 with ⟨rfl, a4438⟩ | ⟨rfl, a4438⟩
    · refine lv_if_ne (tgt := 29) hx hb dX11_taken_14 (by decide) (fun _ => ?_) (fun c9 => absurd c9 (by decide))
      refine lv_aload_n hx hb dX11_taken_29 rfl (lv_at hl 0 rfl) ?_
      refine gf_X11_72 hC rfl hK hP 0 rfl rfl dX11_taken_30 ?_
      refine lv_iload_n hx hb dX11_taken_33 rfl (lv_at hl 1 rfl) ?_
      refine lv_aload_n hx hb dX11_taken_34 rfl (lv_at hl 0 rfl) ?_
      refine gf_X11_15 hC rfl hK hP 0 rfl rfl dX11_taken_35 ?_
      refine pV hC hK hl hP hD (c_held l G ho9 x1 bb hs hz hi hw hn ht fhw fhn bpersons bpapers bstamps bversions blines bsteps bsayings bfindings bwarnings bquestions td vd vl gp bpapersc kbpapers bsayingsc kbsayings bfindingsc kbfindings) si_X11_327 [8, 9, 10, 1, 2, 4, 6] rfl rfl (by decide) rfl rfl rfl rfl rfl (Nat.le_of_ble_eq_true rfl) ⟨Nat.le_of_ble_eq_true rfl, Nat.le_of_ble_eq_true rfl⟩ ⟨by first | exact Nat.le_of_ble_eq_true rfl | exact Nat.zero_le _, by first | exact Nat.le_of_ble_eq_true rfl | exact Nat.zero_le _⟩ dX11_taken_38 (fun r4439 hr4439 => ?_)
      refine lv_istore_n (lv' := [(3, .int r4439), (0, .ref h0), (1, .int x1), (2, .int x2)]) hx hb dX11_taken_41 rfl hl (by decide) rfl (fun ls hl => ?_)
      refine lv_iload_n hx hb dX11_taken_42 rfl (lv_at hl 0 rfl) ?_
      refine lv_iconst (v := 4) hx hb dX11_taken_43 (by decide) ?_
      refine lv_icmp_ne (tgt := 50) hx hb dX11_taken_44 (by decide) (fun c_44_4440 => ?_) (fun c_44_4440 => ?_)
      · refine lv_iload_n hx hb dX11_taken_50 rfl (lv_at hl 0 rfl) ?_
        refine lv_iconst (v := 3) hx hb dX11_taken_51 (by decide) ?_
        refine lv_icmp_ne (tgt := 84) hx hb dX11_taken_52 (by decide) (fun c_52_4441 => ?_) (fun c_52_4441 => ?_)
        · refine lv_aload_n hx hb dX11_taken_84 rfl (lv_at hl 1 rfl) ?_
          refine gf_X11_79 hC rfl hK hP 0 rfl rfl dX11_taken_85 ?_
          refine lv_iload_n hx hb dX11_taken_88 rfl (lv_at hl 0 rfl) ?_
          refine lv_aload_n hx hb dX11_taken_89 rfl (lv_at hl 1 rfl) ?_
          refine gf_X11_72 hC rfl hK hP 0 rfl rfl dX11_taken_90 ?_
          refine lv_iload_n hx hb dX11_taken_93 rfl (lv_at hl 2 rfl) ?_
          refine pV hC hK hl hP hD (c_heldNumber l G ho9 x1 hs hz hi hw hn ht fhn) si_X11_334 [8, 10] rfl rfl (by decide) rfl rfl rfl rfl rfl (Nat.le_of_ble_eq_true rfl) ⟨Nat.le_of_ble_eq_true rfl, Nat.le_of_ble_eq_true rfl⟩ ⟨by first | exact Nat.le_of_ble_eq_true rfl | exact Nat.zero_le _, by first | exact Nat.le_of_ble_eq_true rfl | exact Nat.zero_le _⟩ dX11_taken_94 (fun r4442 hr4442 => ?_)
          refine vV (wr := [(h0, .inr (11, [.ref bb, .ref kk, .int ikp, .ref sg, .ref do9, .ref ru9, .ref ta9, .ref tp9, .ref ro9, .ref ho9, .ref de9])), (ho9, .inr (4, [.ref hs, .ref hz, .ref hi, .ref hw, .ref hn, .ref ht])), (hw, .inl (G.2.1, 4, .inl fhw)), (hn, .inl (G.2.1, 4, .inl fhn)), (ht, .inl (G.2.1, 4, .inl fht))]) hC hK hl hP hD hS hA (d_grasp l G de9 r4439 r4442 bb tr9 jr dk dn dp da dq bpersons bpapers bstamps bversions blines bsteps bsayings bfindings bwarnings bquestions td vd vl gp bpapersc kbpapers fbpapers bsayingsc kbsayings fbsayings bfindingsc kbfindings fbfindings (by omega) (by omega) (by omega)) si_X11_337 [12, 1, 2, 3, 4, 5, 6, 7] [0, 8, 9, 10, 11] rfl rfl (by decide) rfl (by decide) (by decide) rfl rfl rfl rfl rfl (Nat.le_of_ble_eq_true rfl) ⟨Nat.le_of_ble_eq_true rfl, Nat.le_of_ble_eq_true rfl⟩ ⟨Nat.le_of_ble_eq_true rfl, Nat.le_of_ble_eq_true rfl⟩ dX11_taken_97 (fun u4444 H locs hr4443 hP hD hS => ?_)
          obtain ⟨dk14445, dn14446, dp14447, da14448⟩ := u4444
          try dsimp only at hr4443
          have hP : va_P G.1 vwCl [(h0, .inr (11, [.ref bb, .ref kk, .int ikp, .ref sg, .ref do9, .ref ru9, .ref ta9, .ref tp9, .ref ro9, .ref ho9, .ref de9])), (ho9, .inr (4, [.ref hs, .ref hz, .ref hi, .ref hw, .ref hn, .ref ht])), (hw, .inl (G.2.1, 4, .inl fhw)), (hn, .inl (G.2.1, 4, .inl fhn)), (ht, .inl (G.2.1, 4, .inl fht)), (de9, .inr (2, [.ref bb, .ref tr9, .int (nI jr), .int dk14445, .int dn14446, .int dp14447, .int da14448, .int dq])), (bb, .inr (0, [.ref bpersons, .ref bpapers, .ref bstamps, .ref bversions, .ref blines, .ref bsteps, .ref bsayings, .ref bfindings, .ref bwarnings, .ref bquestions, .int td, .int vd, .int vl, .int gp])), (bpapers, .inr (8, [.int 12, .int 6, .ref bpapersc, .int (nI kbpapers)])), (bpapersc, .inl (G.2.1, 72, .inl fbpapers)), (bsayings, .inr (8, [.int 16, .int 8, .ref bsayingsc, .int (nI kbsayings)])), (bsayingsc, .inl (G.2.1, 128, .inl fbsayings)), (bfindings, .inr (8, [.int 12, .int 4, .ref bfindingsc, .int (nI kbfindings)])), (bfindingsc, .inl (G.2.1, 48, .inl fbfindings))] H := hP
          have hD : va_D A [(h0, .inr (11, [.ref bb, .ref kk, .int ikp, .ref sg, .ref do9, .ref ru9, .ref ta9, .ref tp9, .ref ro9, .ref ho9, .ref de9])), (ho9, .inr (4, [.ref hs, .ref hz, .ref hi, .ref hw, .ref hn, .ref ht])), (hw, .inl (G.2.1, 4, .inl fhw)), (hn, .inl (G.2.1, 4, .inl fhn)), (ht, .inl (G.2.1, 4, .inl fht)), (de9, .inr (2, [.ref bb, .ref tr9, .int (nI jr), .int dk14445, .int dn14446, .int dp14447, .int da14448, .int dq])), (bb, .inr (0, [.ref bpersons, .ref bpapers, .ref bstamps, .ref bversions, .ref blines, .ref bsteps, .ref bsayings, .ref bfindings, .ref bwarnings, .ref bquestions, .int td, .int vd, .int vl, .int gp])), (bpapers, .inr (8, [.int 12, .int 6, .ref bpapersc, .int (nI kbpapers)])), (bpapersc, .inl (G.2.1, 72, .inl fbpapers)), (bsayings, .inr (8, [.int 16, .int 8, .ref bsayingsc, .int (nI kbsayings)])), (bsayingsc, .inl (G.2.1, 128, .inl fbsayings)), (bfindings, .inr (8, [.int 12, .int 4, .ref bfindingsc, .int (nI kbfindings)])), (bfindingsc, .inl (G.2.1, 48, .inl fbfindings))] := hD
          refine lv_aload_n hx hb dX11_taken_100 rfl (lv_at hl 1 rfl) ?_
          refine gf_X11_79 hC rfl hK hP 0 rfl rfl dX11_taken_101 ?_
          refine lv_iload_n hx hb dX11_taken_104 rfl (lv_at hl 3 rfl) ?_
          refine pVo hO hS hC hK hl hP hD (d_isUnder l G K de9 x2 bb tr9 jr dk14445 dn14446 dp14447 da14448 dq) si_X11_340 [5] rfl rfl (by decide) rfl rfl rfl rfl rfl (Nat.le_of_ble_eq_true rfl) ⟨Nat.le_of_ble_eq_true rfl, Nat.le_of_ble_eq_true rfl⟩ ⟨by first | exact Nat.le_of_ble_eq_true rfl | exact Nat.zero_le _, by first | exact Nat.le_of_ble_eq_true rfl | exact Nat.zero_le _⟩ dX11_taken_105 (fun r4449 hr4449 => ?_)
          rcases hr4449 with rfl | rfl
          · refine lv_if_eq (tgt := 122) hx hb dX11_taken_108 (by decide) (fun c9 => absurd c9 (by decide)) (fun _ => ?_)
            refine lv_aload_n hx hb dX11_taken_111 rfl (lv_at hl 1 rfl) ?_
            refine gf_X11_72 hC rfl hK hP 0 rfl rfl dX11_taken_112 ?_
            refine lv_iload_n hx hb dX11_taken_115 rfl (lv_at hl 2 rfl) ?_
            refine pV hC hK hl hP hD (c_heldNumber l G ho9 x1 hs hz hi hw hn ht fhn) si_X11_334 [1, 3] rfl rfl (by decide) rfl rfl rfl rfl rfl (Nat.le_of_ble_eq_true rfl) ⟨Nat.le_of_ble_eq_true rfl, Nat.le_of_ble_eq_true rfl⟩ ⟨by first | exact Nat.le_of_ble_eq_true rfl | exact Nat.zero_le _, by first | exact Nat.le_of_ble_eq_true rfl | exact Nat.zero_le _⟩ dX11_taken_116 (fun r4451 hr4451 => ?_)
            refine lv_goto (tgt := 124) hx hb dX11_taken_119 (by decide) ?_
            exact RI (v := r4451) hC hP hD hS [0, 6, 7, 8, 9, 10, 11, 12, 1, 2, 3, 4, 5] (dk14445, dn14446, dp14447, da14448) rfl rfl (by decide) (trivial) rfl dX11_taken_124
          · refine lv_if_eq (tgt := 122) hx hb dX11_taken_108 (by decide) (fun _ => ?_) (fun c9 => absurd (by decide) c9)
            refine lv_bipush (v := (-13)) hx hb dX11_taken_122 (by decide) ?_
            exact RI (v := (-13)) hC hP hD hS [0, 6, 7, 8, 9, 10, 11, 12, 1, 2, 3, 4, 5] (dk14445, dn14446, dp14447, da14448) rfl rfl (by decide) (trivial) rfl dX11_taken_124
        · refine lv_aload_n hx hb dX11_taken_55 rfl (lv_at hl 1 rfl) ?_
          refine gf_X11_72 hC rfl hK hP 0 rfl rfl dX11_taken_56 ?_
          refine lv_iload_n hx hb dX11_taken_59 rfl (lv_at hl 2 rfl) ?_
          refine pV hC hK hl hP hD (c_heldSort l G ho9 x1 hs hz hi hw hn ht fht) si_X11_331 [8, 11] rfl rfl (by decide) rfl rfl rfl rfl rfl (Nat.le_of_ble_eq_true rfl) ⟨Nat.le_of_ble_eq_true rfl, Nat.le_of_ble_eq_true rfl⟩ ⟨by first | exact Nat.le_of_ble_eq_true rfl | exact Nat.zero_le _, by first | exact Nat.le_of_ble_eq_true rfl | exact Nat.zero_le _⟩ dX11_taken_60 (fun r4452 hr4452 => ?_)
          refine lv_iload_n hx hb dX11_taken_63 rfl (lv_at hl 3 rfl) ?_
          refine lv_bipush (v := 10) hx hb dX11_taken_64 (by decide) ?_
          refine lv_isub hx hb dX11_taken_66 ?_
          refine lv_icmp_ne (tgt := 81) hx hb dX11_taken_67 (by decide) (fun c_67_4453 => ?_) (fun c_67_4453 => ?_)
          · refine lv_bipush (v := (-13)) hx hb dX11_taken_81 (by decide) ?_
            exact RI (v := (-13)) hC hP hD hS [0, 1, 2, 3, 4, 5, 6, 7, 8, 9, 10, 11, 12] (dk, dn, dp, da) rfl rfl (by decide) (trivial) rfl dX11_taken_83
          · refine lv_aload_n hx hb dX11_taken_70 rfl (lv_at hl 1 rfl) ?_
            refine gf_X11_72 hC rfl hK hP 0 rfl rfl dX11_taken_71 ?_
            refine lv_iload_n hx hb dX11_taken_74 rfl (lv_at hl 2 rfl) ?_
            refine pV hC hK hl hP hD (c_heldNumber l G ho9 x1 hs hz hi hw hn ht fhn) si_X11_334 [8, 10] rfl rfl (by decide) rfl rfl rfl rfl rfl (Nat.le_of_ble_eq_true rfl) ⟨Nat.le_of_ble_eq_true rfl, Nat.le_of_ble_eq_true rfl⟩ ⟨by first | exact Nat.le_of_ble_eq_true rfl | exact Nat.zero_le _, by first | exact Nat.le_of_ble_eq_true rfl | exact Nat.zero_le _⟩ dX11_taken_75 (fun r4454 hr4454 => ?_)
            refine lv_goto (tgt := 83) hx hb dX11_taken_78 (by decide) ?_
            exact RI (v := r4454) hC hP hD hS [0, 1, 2, 3, 4, 5, 6, 7, 8, 9, 10, 11, 12] (dk, dn, dp, da) rfl rfl (by decide) (trivial) rfl dX11_taken_83
      · refine lv_bipush (v := (-11)) hx hb dX11_taken_47 (by decide) ?_
        exact RI (v := (-11)) hC hP hD hS [0, 1, 2, 3, 4, 5, 6, 7, 8, 9, 10, 11, 12] (dk, dn, dp, da) rfl rfl (by decide) (trivial) rfl dX11_taken_49
    · refine lv_if_ne (tgt := 29) hx hb dX11_taken_14 (by decide) (fun c9 => absurd (by decide) c9) (fun _ => ?_)
      refine lv_iload_n hx hb dX11_taken_17 rfl (lv_at hl 2 rfl) ?_
      refine lv_bipush (v := 10) hx hb dX11_taken_18 (by decide) ?_
      refine lv_isub hx hb dX11_taken_20 ?_
      refine pS hC hK hl (c_isSort l G (x2 - 10)) si_X11_315 rfl rfl (Nat.le_of_ble_eq_true rfl) ⟨Nat.le_of_ble_eq_true rfl, Nat.le_of_ble_eq_true rfl⟩ ⟨by first | exact Nat.le_of_ble_eq_true rfl | exact Nat.zero_le _, by first | exact Nat.le_of_ble_eq_true rfl | exact Nat.zero_le _⟩ dX11_taken_21 (fun r4455 hr4455 => ?_)
      rcases hr4455 with ⟨rfl, a4456⟩ | ⟨rfl, a4456⟩
      · refine lv_if_ne (tgt := 29) hx hb dX11_taken_24 (by decide) (fun _ => ?_) (fun c9 => absurd c9 (by decide))
        refine lv_aload_n hx hb dX11_taken_29 rfl (lv_at hl 0 rfl) ?_
        refine gf_X11_72 hC rfl hK hP 0 rfl rfl dX11_taken_30 ?_
        refine lv_iload_n hx hb dX11_taken_33 rfl (lv_at hl 1 rfl) ?_
        refine lv_aload_n hx hb dX11_taken_34 rfl (lv_at hl 0 rfl) ?_
        refine gf_X11_15 hC rfl hK hP 0 rfl rfl dX11_taken_35 ?_
        refine pV hC hK hl hP hD (c_held l G ho9 x1 bb hs hz hi hw hn ht fhw fhn bpersons bpapers bstamps bversions blines bsteps bsayings bfindings bwarnings bquestions td vd vl gp bpapersc kbpapers bsayingsc kbsayings bfindingsc kbfindings) si_X11_327 [8, 9, 10, 1, 2, 4, 6] rfl rfl (by decide) rfl rfl rfl rfl rfl (Nat.le_of_ble_eq_true rfl) ⟨Nat.le_of_ble_eq_true rfl, Nat.le_of_ble_eq_true rfl⟩ ⟨by first | exact Nat.le_of_ble_eq_true rfl | exact Nat.zero_le _, by first | exact Nat.le_of_ble_eq_true rfl | exact Nat.zero_le _⟩ dX11_taken_38 (fun r4457 hr4457 => ?_)
        refine lv_istore_n (lv' := [(3, .int r4457), (0, .ref h0), (1, .int x1), (2, .int x2)]) hx hb dX11_taken_41 rfl hl (by decide) rfl (fun ls hl => ?_)
        refine lv_iload_n hx hb dX11_taken_42 rfl (lv_at hl 0 rfl) ?_
        refine lv_iconst (v := 4) hx hb dX11_taken_43 (by decide) ?_
        refine lv_icmp_ne (tgt := 50) hx hb dX11_taken_44 (by decide) (fun c_44_4458 => ?_) (fun c_44_4458 => ?_)
        · refine lv_iload_n hx hb dX11_taken_50 rfl (lv_at hl 0 rfl) ?_
          refine lv_iconst (v := 3) hx hb dX11_taken_51 (by decide) ?_
          refine lv_icmp_ne (tgt := 84) hx hb dX11_taken_52 (by decide) (fun c_52_4459 => ?_) (fun c_52_4459 => ?_)
          · refine lv_aload_n hx hb dX11_taken_84 rfl (lv_at hl 1 rfl) ?_
            refine gf_X11_79 hC rfl hK hP 0 rfl rfl dX11_taken_85 ?_
            refine lv_iload_n hx hb dX11_taken_88 rfl (lv_at hl 0 rfl) ?_
            refine lv_aload_n hx hb dX11_taken_89 rfl (lv_at hl 1 rfl) ?_
            refine gf_X11_72 hC rfl hK hP 0 rfl rfl dX11_taken_90 ?_
            refine lv_iload_n hx hb dX11_taken_93 rfl (lv_at hl 2 rfl) ?_
            refine pV hC hK hl hP hD (c_heldNumber l G ho9 x1 hs hz hi hw hn ht fhn) si_X11_334 [8, 10] rfl rfl (by decide) rfl rfl rfl rfl rfl (Nat.le_of_ble_eq_true rfl) ⟨Nat.le_of_ble_eq_true rfl, Nat.le_of_ble_eq_true rfl⟩ ⟨by first | exact Nat.le_of_ble_eq_true rfl | exact Nat.zero_le _, by first | exact Nat.le_of_ble_eq_true rfl | exact Nat.zero_le _⟩ dX11_taken_94 (fun r4460 hr4460 => ?_)
            refine vV (wr := [(h0, .inr (11, [.ref bb, .ref kk, .int ikp, .ref sg, .ref do9, .ref ru9, .ref ta9, .ref tp9, .ref ro9, .ref ho9, .ref de9])), (ho9, .inr (4, [.ref hs, .ref hz, .ref hi, .ref hw, .ref hn, .ref ht])), (hw, .inl (G.2.1, 4, .inl fhw)), (hn, .inl (G.2.1, 4, .inl fhn)), (ht, .inl (G.2.1, 4, .inl fht))]) hC hK hl hP hD hS hA (d_grasp l G de9 r4457 r4460 bb tr9 jr dk dn dp da dq bpersons bpapers bstamps bversions blines bsteps bsayings bfindings bwarnings bquestions td vd vl gp bpapersc kbpapers fbpapers bsayingsc kbsayings fbsayings bfindingsc kbfindings fbfindings (by omega) (by omega) (by omega)) si_X11_337 [12, 1, 2, 3, 4, 5, 6, 7] [0, 8, 9, 10, 11] rfl rfl (by decide) rfl (by decide) (by decide) rfl rfl rfl rfl rfl (Nat.le_of_ble_eq_true rfl) ⟨Nat.le_of_ble_eq_true rfl, Nat.le_of_ble_eq_true rfl⟩ ⟨Nat.le_of_ble_eq_true rfl, Nat.le_of_ble_eq_true rfl⟩ dX11_taken_97 (fun u4462 H locs hr4461 hP hD hS => ?_)
            obtain ⟨dk14463, dn14464, dp14465, da14466⟩ := u4462
            try dsimp only at hr4461
            have hP : va_P G.1 vwCl [(h0, .inr (11, [.ref bb, .ref kk, .int ikp, .ref sg, .ref do9, .ref ru9, .ref ta9, .ref tp9, .ref ro9, .ref ho9, .ref de9])), (ho9, .inr (4, [.ref hs, .ref hz, .ref hi, .ref hw, .ref hn, .ref ht])), (hw, .inl (G.2.1, 4, .inl fhw)), (hn, .inl (G.2.1, 4, .inl fhn)), (ht, .inl (G.2.1, 4, .inl fht)), (de9, .inr (2, [.ref bb, .ref tr9, .int (nI jr), .int dk14463, .int dn14464, .int dp14465, .int da14466, .int dq])), (bb, .inr (0, [.ref bpersons, .ref bpapers, .ref bstamps, .ref bversions, .ref blines, .ref bsteps, .ref bsayings, .ref bfindings, .ref bwarnings, .ref bquestions, .int td, .int vd, .int vl, .int gp])), (bpapers, .inr (8, [.int 12, .int 6, .ref bpapersc, .int (nI kbpapers)])), (bpapersc, .inl (G.2.1, 72, .inl fbpapers)), (bsayings, .inr (8, [.int 16, .int 8, .ref bsayingsc, .int (nI kbsayings)])), (bsayingsc, .inl (G.2.1, 128, .inl fbsayings)), (bfindings, .inr (8, [.int 12, .int 4, .ref bfindingsc, .int (nI kbfindings)])), (bfindingsc, .inl (G.2.1, 48, .inl fbfindings))] H := hP
            have hD : va_D A [(h0, .inr (11, [.ref bb, .ref kk, .int ikp, .ref sg, .ref do9, .ref ru9, .ref ta9, .ref tp9, .ref ro9, .ref ho9, .ref de9])), (ho9, .inr (4, [.ref hs, .ref hz, .ref hi, .ref hw, .ref hn, .ref ht])), (hw, .inl (G.2.1, 4, .inl fhw)), (hn, .inl (G.2.1, 4, .inl fhn)), (ht, .inl (G.2.1, 4, .inl fht)), (de9, .inr (2, [.ref bb, .ref tr9, .int (nI jr), .int dk14463, .int dn14464, .int dp14465, .int da14466, .int dq])), (bb, .inr (0, [.ref bpersons, .ref bpapers, .ref bstamps, .ref bversions, .ref blines, .ref bsteps, .ref bsayings, .ref bfindings, .ref bwarnings, .ref bquestions, .int td, .int vd, .int vl, .int gp])), (bpapers, .inr (8, [.int 12, .int 6, .ref bpapersc, .int (nI kbpapers)])), (bpapersc, .inl (G.2.1, 72, .inl fbpapers)), (bsayings, .inr (8, [.int 16, .int 8, .ref bsayingsc, .int (nI kbsayings)])), (bsayingsc, .inl (G.2.1, 128, .inl fbsayings)), (bfindings, .inr (8, [.int 12, .int 4, .ref bfindingsc, .int (nI kbfindings)])), (bfindingsc, .inl (G.2.1, 48, .inl fbfindings))] := hD
            refine lv_aload_n hx hb dX11_taken_100 rfl (lv_at hl 1 rfl) ?_
            refine gf_X11_79 hC rfl hK hP 0 rfl rfl dX11_taken_101 ?_
            refine lv_iload_n hx hb dX11_taken_104 rfl (lv_at hl 3 rfl) ?_
            refine pVo hO hS hC hK hl hP hD (d_isUnder l G K de9 x2 bb tr9 jr dk14463 dn14464 dp14465 da14466 dq) si_X11_340 [5] rfl rfl (by decide) rfl rfl rfl rfl rfl (Nat.le_of_ble_eq_true rfl) ⟨Nat.le_of_ble_eq_true rfl, Nat.le_of_ble_eq_true rfl⟩ ⟨by first | exact Nat.le_of_ble_eq_true rfl | exact Nat.zero_le _, by first | exact Nat.le_of_ble_eq_true rfl | exact Nat.zero_le _⟩ dX11_taken_105 (fun r4467 hr4467 => ?_)
            rcases hr4467 with rfl | rfl
            · refine lv_if_eq (tgt := 122) hx hb dX11_taken_108 (by decide) (fun c9 => absurd c9 (by decide)) (fun _ => ?_)
              refine lv_aload_n hx hb dX11_taken_111 rfl (lv_at hl 1 rfl) ?_
              refine gf_X11_72 hC rfl hK hP 0 rfl rfl dX11_taken_112 ?_
              refine lv_iload_n hx hb dX11_taken_115 rfl (lv_at hl 2 rfl) ?_
              refine pV hC hK hl hP hD (c_heldNumber l G ho9 x1 hs hz hi hw hn ht fhn) si_X11_334 [1, 3] rfl rfl (by decide) rfl rfl rfl rfl rfl (Nat.le_of_ble_eq_true rfl) ⟨Nat.le_of_ble_eq_true rfl, Nat.le_of_ble_eq_true rfl⟩ ⟨by first | exact Nat.le_of_ble_eq_true rfl | exact Nat.zero_le _, by first | exact Nat.le_of_ble_eq_true rfl | exact Nat.zero_le _⟩ dX11_taken_116 (fun r4469 hr4469 => ?_)
              refine lv_goto (tgt := 124) hx hb dX11_taken_119 (by decide) ?_
              exact RI (v := r4469) hC hP hD hS [0, 6, 7, 8, 9, 10, 11, 12, 1, 2, 3, 4, 5] (dk14463, dn14464, dp14465, da14466) rfl rfl (by decide) (trivial) rfl dX11_taken_124
            · refine lv_if_eq (tgt := 122) hx hb dX11_taken_108 (by decide) (fun _ => ?_) (fun c9 => absurd (by decide) c9)
              refine lv_bipush (v := (-13)) hx hb dX11_taken_122 (by decide) ?_
              exact RI (v := (-13)) hC hP hD hS [0, 6, 7, 8, 9, 10, 11, 12, 1, 2, 3, 4, 5] (dk14463, dn14464, dp14465, da14466) rfl rfl (by decide) (trivial) rfl dX11_taken_124
          · refine lv_aload_n hx hb dX11_taken_55 rfl (lv_at hl 1 rfl) ?_
            refine gf_X11_72 hC rfl hK hP 0 rfl rfl dX11_taken_56 ?_
            refine lv_iload_n hx hb dX11_taken_59 rfl (lv_at hl 2 rfl) ?_
            refine pV hC hK hl hP hD (c_heldSort l G ho9 x1 hs hz hi hw hn ht fht) si_X11_331 [8, 11] rfl rfl (by decide) rfl rfl rfl rfl rfl (Nat.le_of_ble_eq_true rfl) ⟨Nat.le_of_ble_eq_true rfl, Nat.le_of_ble_eq_true rfl⟩ ⟨by first | exact Nat.le_of_ble_eq_true rfl | exact Nat.zero_le _, by first | exact Nat.le_of_ble_eq_true rfl | exact Nat.zero_le _⟩ dX11_taken_60 (fun r4470 hr4470 => ?_)
            refine lv_iload_n hx hb dX11_taken_63 rfl (lv_at hl 3 rfl) ?_
            refine lv_bipush (v := 10) hx hb dX11_taken_64 (by decide) ?_
            refine lv_isub hx hb dX11_taken_66 ?_
            refine lv_icmp_ne (tgt := 81) hx hb dX11_taken_67 (by decide) (fun c_67_4471 => ?_) (fun c_67_4471 => ?_)
            · refine lv_bipush (v := (-13)) hx hb dX11_taken_81 (by decide) ?_
              exact RI (v := (-13)) hC hP hD hS [0, 1, 2, 3, 4, 5, 6, 7, 8, 9, 10, 11, 12] (dk, dn, dp, da) rfl rfl (by decide) (trivial) rfl dX11_taken_83
            · refine lv_aload_n hx hb dX11_taken_70 rfl (lv_at hl 1 rfl) ?_
              refine gf_X11_72 hC rfl hK hP 0 rfl rfl dX11_taken_71 ?_
              refine lv_iload_n hx hb dX11_taken_74 rfl (lv_at hl 2 rfl) ?_
              refine pV hC hK hl hP hD (c_heldNumber l G ho9 x1 hs hz hi hw hn ht fhn) si_X11_334 [8, 10] rfl rfl (by decide) rfl rfl rfl rfl rfl (Nat.le_of_ble_eq_true rfl) ⟨Nat.le_of_ble_eq_true rfl, Nat.le_of_ble_eq_true rfl⟩ ⟨by first | exact Nat.le_of_ble_eq_true rfl | exact Nat.zero_le _, by first | exact Nat.le_of_ble_eq_true rfl | exact Nat.zero_le _⟩ dX11_taken_75 (fun r4472 hr4472 => ?_)
              refine lv_goto (tgt := 83) hx hb dX11_taken_78 (by decide) ?_
              exact RI (v := r4472) hC hP hD hS [0, 1, 2, 3, 4, 5, 6, 7, 8, 9, 10, 11, 12] (dk, dn, dp, da) rfl rfl (by decide) (trivial) rfl dX11_taken_83
        · refine lv_bipush (v := (-11)) hx hb dX11_taken_47 (by decide) ?_
          exact RI (v := (-11)) hC hP hD hS [0, 1, 2, 3, 4, 5, 6, 7, 8, 9, 10, 11, 12] (dk, dn, dp, da) rfl rfl (by decide) (trivial) rfl dX11_taken_49
      · refine lv_if_ne (tgt := 29) hx hb dX11_taken_24 (by decide) (fun c9 => absurd (by decide) c9) (fun _ => ?_)
        refine lv_iconst (v := (-1)) hx hb dX11_taken_27 (by decide) ?_
        exact RI (v := (-1)) hC hP hD hS [0, 1, 2, 3, 4, 5, 6, 7, 8, 9, 10, 11, 12] (dk, dn, dp, da) rfl rfl (by decide) (trivial) rfl dX11_taken_28
  · refine lv_if_eq (tgt := 27) hx hb dX11_taken_4 (by decide) (fun _ => ?_) (fun c9 => absurd (by decide) c9)
    refine lv_iconst (v := (-1)) hx hb dX11_taken_27 (by decide) ?_
    exact RI (v := (-1)) hC hP hD hS [0, 1, 2, 3, 4, 5, 6, 7, 8, 9, 10, 11, 12] (dk, dn, dp, da) rfl rfl (by decide) (trivial) rfl dX11_taken_28
set_option maxHeartbeats 4000000 in
set_option maxRecDepth 100000 in
theorem p_deal (l : Launch) (G : GG) (K : OO) (h0 : Nat) (x1 : Int32) (x2 : Int32) (x3 : Int32) (bb : Nat) (kk : Nat) (ikp : Int32) (sg : Nat) (do9 : Nat) (ru9 : Nat) (ta9 : Nat) (tp9 : Nat) (ro9 : Nat) (ho9 : Nat) (de9 : Nat) (bpersons : Nat) (bpapers : Nat) (bstamps : Nat) (bversions : Nat) (blines : Nat) (bsteps : Nat) (bsayings : Nat) (bfindings : Nat) (bwarnings : Nat) (bquestions : Nat) (td : Int32) (vd : Int32) (vl : Int32) (gp : Int32) (bpapersc : Nat) (kbpapers : Nat) (fbpapers : Nat → Int32) (bsayingsc : Nat) (kbsayings : Nat) (fbsayings : Nat → Int32) (bfindingsc : Nat) (kbfindings : Nat) (fbfindings : Nat → Int32) (hs : Nat) (hz : Nat) (hi : Nat) (hw : Nat) (hn : Nat) (ht : Nat) (fhw : Nat → Int32) (fhn : Nat → Int32) (tr9 : Nat) (jr : Nat) (dk : Int32) (dn : Int32) (dp : Int32) (da : Int32) (dq : Int32) (ftr : Nat → Int32) (hkbpapers : kbpapers ≤ 12) (hkbsayings : kbsayings ≤ 16) (hkbfindings : kbfindings ≤ 12) (hjr : jr ≤ 30) : MIo l G K yX11_deal cX11_deal 5 (some .int) 66 0 0 [.ref h0, .int x1, .int x2, .int x3] [(h0, .inr (11, [.ref bb, .ref kk, .int ikp, .ref sg, .ref do9, .ref ru9, .ref ta9, .ref tp9, .ref ro9, .ref ho9, .ref de9])), (bb, .inr (0, [.ref bpersons, .ref bpapers, .ref bstamps, .ref bversions, .ref blines, .ref bsteps, .ref bsayings, .ref bfindings, .ref bwarnings, .ref bquestions, .int td, .int vd, .int vl, .int gp])), (bpapers, .inr (8, [.int 12, .int 6, .ref bpapersc, .int (nI kbpapers)])), (bpapersc, .inl (G.2.1, 72, .inl fbpapers)), (bsayings, .inr (8, [.int 16, .int 8, .ref bsayingsc, .int (nI kbsayings)])), (bsayingsc, .inl (G.2.1, 128, .inl fbsayings)), (bfindings, .inr (8, [.int 12, .int 4, .ref bfindingsc, .int (nI kbfindings)])), (bfindingsc, .inl (G.2.1, 48, .inl fbfindings)), (ho9, .inr (4, [.ref hs, .ref hz, .ref hi, .ref hw, .ref hn, .ref ht])), (hw, .inl (G.2.1, 4, .inl fhw)), (hn, .inl (G.2.1, 4, .inl fhn)), (de9, .inr (2, [.ref bb, .ref tr9, .int (nI jr), .int dk, .int dn, .int dp, .int da, .int dq])), (tr9, .inl (G.2.1, 30, .inl ftr))] (fun (r : Int32) (u : Int32 × Int32 × Int32 × Int32 × Nat × (Nat → Int32) × Int32) => (True) ∧ (u.2.2.2.2.1 ≤ 30)) (fun u : Int32 × Int32 × Int32 × Int32 × Nat × (Nat → Int32) × Int32 => [(h0, .inr (11, [.ref bb, .ref kk, .int ikp, .ref sg, .ref do9, .ref ru9, .ref ta9, .ref tp9, .ref ro9, .ref ho9, .ref de9])), (bb, .inr (0, [.ref bpersons, .ref bpapers, .ref bstamps, .ref bversions, .ref blines, .ref bsteps, .ref bsayings, .ref bfindings, .ref bwarnings, .ref bquestions, .int td, .int vd, .int vl, .int gp])), (bpapers, .inr (8, [.int 12, .int 6, .ref bpapersc, .int (nI kbpapers)])), (bpapersc, .inl (G.2.1, 72, .inl fbpapers)), (bsayings, .inr (8, [.int 16, .int 8, .ref bsayingsc, .int (nI kbsayings)])), (bsayingsc, .inl (G.2.1, 128, .inl fbsayings)), (bfindings, .inr (8, [.int 12, .int 4, .ref bfindingsc, .int (nI kbfindings)])), (bfindingsc, .inl (G.2.1, 48, .inl fbfindings)), (ho9, .inr (4, [.ref hs, .ref hz, .ref hi, .ref hw, .ref hn, .ref ht])), (hw, .inl (G.2.1, 4, .inl fhw)), (hn, .inl (G.2.1, 4, .inl fhn)), (de9, .inr (2, [.ref bb, .ref tr9, .int (nI u.2.2.2.2.1), .int u.1, .int u.2.1, .int u.2.2.1, .int u.2.2.2.1, .int u.2.2.2.2.2.2])), (tr9, .inl (G.2.1, 30, .inl u.2.2.2.2.2.1))]) := by
  refine MIo.start (by decide +kernel) (Nat.le_of_ble_eq_true rfl) ?_
  intro p e s m below meth c A ls hC hK hP hD hS hA hl hO
  have hl : lv_has ls 5 [(0, .ref h0), (1, .int x1), (2, .int x2), (3, .int x3)] := hl
  obtain ⟨hx, hb, hr, hml, hB, hown, hlocks, hnm⟩ := id hC
  refine lv_aload_n hx hb dX11_deal_0 rfl (lv_at hl 0 rfl) ?_
  refine gf_X11_79 hC rfl hK hP 0 rfl rfl dX11_deal_1 ?_
  refine vV (wr := [(h0, .inr (11, [.ref bb, .ref kk, .int ikp, .ref sg, .ref do9, .ref ru9, .ref ta9, .ref tp9, .ref ro9, .ref ho9, .ref de9])), (bb, .inr (0, [.ref bpersons, .ref bpapers, .ref bstamps, .ref bversions, .ref blines, .ref bsteps, .ref bsayings, .ref bfindings, .ref bwarnings, .ref bquestions, .int td, .int vd, .int vl, .int gp])), (bpapers, .inr (8, [.int 12, .int 6, .ref bpapersc, .int (nI kbpapers)])), (bpapersc, .inl (G.2.1, 72, .inl fbpapers)), (bsayings, .inr (8, [.int 16, .int 8, .ref bsayingsc, .int (nI kbsayings)])), (bsayingsc, .inl (G.2.1, 128, .inl fbsayings)), (bfindings, .inr (8, [.int 12, .int 4, .ref bfindingsc, .int (nI kbfindings)])), (bfindingsc, .inl (G.2.1, 48, .inl fbfindings)), (ho9, .inr (4, [.ref hs, .ref hz, .ref hi, .ref hw, .ref hn, .ref ht])), (hw, .inl (G.2.1, 4, .inl fhw)), (hn, .inl (G.2.1, 4, .inl fhn)), (tr9, .inl (G.2.1, 30, .inl ftr))]) hC hK hl hP hD hS hA (d_clearTrace l G de9 bb tr9 jr dk dn dp da dq) si_X11_343 [11] [0, 1, 2, 3, 4, 5, 6, 7, 8, 9, 10, 12] rfl rfl (by decide) rfl (by decide) (by decide) rfl rfl rfl rfl rfl (Nat.le_of_ble_eq_true rfl) ⟨Nat.le_of_ble_eq_true rfl, Nat.le_of_ble_eq_true rfl⟩ ⟨Nat.le_of_ble_eq_true rfl, Nat.le_of_ble_eq_true rfl⟩ dX11_deal_4 (fun u4474 H locs hr4473 hP hD hS => ?_)
  have hP : va_P G.1 vwCl [(h0, .inr (11, [.ref bb, .ref kk, .int ikp, .ref sg, .ref do9, .ref ru9, .ref ta9, .ref tp9, .ref ro9, .ref ho9, .ref de9])), (bb, .inr (0, [.ref bpersons, .ref bpapers, .ref bstamps, .ref bversions, .ref blines, .ref bsteps, .ref bsayings, .ref bfindings, .ref bwarnings, .ref bquestions, .int td, .int vd, .int vl, .int gp])), (bpapers, .inr (8, [.int 12, .int 6, .ref bpapersc, .int (nI kbpapers)])), (bpapersc, .inl (G.2.1, 72, .inl fbpapers)), (bsayings, .inr (8, [.int 16, .int 8, .ref bsayingsc, .int (nI kbsayings)])), (bsayingsc, .inl (G.2.1, 128, .inl fbsayings)), (bfindings, .inr (8, [.int 12, .int 4, .ref bfindingsc, .int (nI kbfindings)])), (bfindingsc, .inl (G.2.1, 48, .inl fbfindings)), (ho9, .inr (4, [.ref hs, .ref hz, .ref hi, .ref hw, .ref hn, .ref ht])), (hw, .inl (G.2.1, 4, .inl fhw)), (hn, .inl (G.2.1, 4, .inl fhn)), (tr9, .inl (G.2.1, 30, .inl ftr)), (de9, .inr (2, [.ref bb, .ref tr9, .int 0, .int dk, .int dn, .int dp, .int da, .int dq]))] H := hP
  have hD : va_D A [(h0, .inr (11, [.ref bb, .ref kk, .int ikp, .ref sg, .ref do9, .ref ru9, .ref ta9, .ref tp9, .ref ro9, .ref ho9, .ref de9])), (bb, .inr (0, [.ref bpersons, .ref bpapers, .ref bstamps, .ref bversions, .ref blines, .ref bsteps, .ref bsayings, .ref bfindings, .ref bwarnings, .ref bquestions, .int td, .int vd, .int vl, .int gp])), (bpapers, .inr (8, [.int 12, .int 6, .ref bpapersc, .int (nI kbpapers)])), (bpapersc, .inl (G.2.1, 72, .inl fbpapers)), (bsayings, .inr (8, [.int 16, .int 8, .ref bsayingsc, .int (nI kbsayings)])), (bsayingsc, .inl (G.2.1, 128, .inl fbsayings)), (bfindings, .inr (8, [.int 12, .int 4, .ref bfindingsc, .int (nI kbfindings)])), (bfindingsc, .inl (G.2.1, 48, .inl fbfindings)), (ho9, .inr (4, [.ref hs, .ref hz, .ref hi, .ref hw, .ref hn, .ref ht])), (hw, .inl (G.2.1, 4, .inl fhw)), (hn, .inl (G.2.1, 4, .inl fhn)), (tr9, .inl (G.2.1, 30, .inl ftr)), (de9, .inr (2, [.ref bb, .ref tr9, .int 0, .int dk, .int dn, .int dp, .int da, .int dq]))] := hD
  refine lv_iload_n hx hb dX11_deal_7 rfl (lv_at hl 1 rfl) ?_
  refine pS hC hK hl (c_isShelf l G x1) si_X11_318 rfl rfl (Nat.le_of_ble_eq_true rfl) ⟨Nat.le_of_ble_eq_true rfl, Nat.le_of_ble_eq_true rfl⟩ ⟨by first | exact Nat.le_of_ble_eq_true rfl | exact Nat.zero_le _, by first | exact Nat.le_of_ble_eq_true rfl | exact Nat.zero_le _⟩ dX11_deal_8 (fun r4475 hr4475 => ?_)
  rcases hr4475 with ⟨rfl, a4476⟩ | ⟨rfl, a4476⟩
  · refine lv_if_eq (tgt := 23) hx hb dX11_deal_11 (by decide) (fun c9 => absurd c9 (by decide)) (fun _ => ?_)
    refine lv_iload_n hx hb dX11_deal_14 rfl (lv_at hl 2 rfl) ?_
    refine lv_iconst (v := 0) hx hb dX11_deal_15 (by decide) ?_
    refine lv_iconst (v := 3) hx hb dX11_deal_16 (by decide) ?_
    refine pS hC hK hl (c_within l G x2 0 3) si_X11_83 rfl rfl (Nat.le_of_ble_eq_true rfl) ⟨Nat.le_of_ble_eq_true rfl, Nat.le_of_ble_eq_true rfl⟩ ⟨by first | exact Nat.le_of_ble_eq_true rfl | exact Nat.zero_le _, by first | exact Nat.le_of_ble_eq_true rfl | exact Nat.zero_le _⟩ dX11_deal_17 (fun r4477 hr4477 => ?_)
    rcases hr4477 with ⟨rfl, a4478⟩ | ⟨rfl, a4478⟩
    · refine lv_if_ne (tgt := 25) hx hb dX11_deal_20 (by decide) (fun _ => ?_) (fun c9 => absurd c9 (by decide))
      refine lv_aload_n hx hb dX11_deal_25 rfl (lv_at hl 0 rfl) ?_
      refine gf_X11_72 hC rfl hK hP 0 rfl rfl dX11_deal_26 ?_
      refine lv_iload_n hx hb dX11_deal_29 rfl (lv_at hl 1 rfl) ?_
      refine lv_aload_n hx hb dX11_deal_30 rfl (lv_at hl 0 rfl) ?_
      refine gf_X11_15 hC rfl hK hP 0 rfl rfl dX11_deal_31 ?_
      refine pV hC hK hl hP hD (c_held l G ho9 x1 bb hs hz hi hw hn ht fhw fhn bpersons bpapers bstamps bversions blines bsteps bsayings bfindings bwarnings bquestions td vd vl gp bpapersc kbpapers bsayingsc kbsayings bfindingsc kbfindings) si_X11_327 [8, 9, 10, 1, 2, 4, 6] rfl rfl (by decide) rfl rfl rfl rfl rfl (Nat.le_of_ble_eq_true rfl) ⟨Nat.le_of_ble_eq_true rfl, Nat.le_of_ble_eq_true rfl⟩ ⟨by first | exact Nat.le_of_ble_eq_true rfl | exact Nat.zero_le _, by first | exact Nat.le_of_ble_eq_true rfl | exact Nat.zero_le _⟩ dX11_deal_34 (fun r4479 hr4479 => ?_)
      refine lv_istore (lv' := [(4, .int r4479), (0, .ref h0), (1, .int x1), (2, .int x2), (3, .int x3)]) hx hb dX11_deal_37 hl (by decide) rfl (fun ls hl => ?_)
      refine lv_iload hx hb dX11_deal_39 (lv_at hl 0 rfl) ?_
      refine lv_iconst (v := 4) hx hb dX11_deal_41 (by decide) ?_
      refine lv_icmp_eq (tgt := 51) hx hb dX11_deal_42 (by decide) (fun c_42_4480 => ?_) (fun c_42_4480 => ?_)
      · refine lv_iconst (v := 0) hx hb dX11_deal_51 (by decide) ?_
        exact RI (v := 0) hC hP hD hS [0, 1, 2, 3, 4, 5, 6, 7, 8, 9, 10, 12, 11] (dk, dn, dp, da, 0, ftr, dq) rfl rfl (by decide) (⟨trivial, by dsimp only; omega⟩) rfl dX11_deal_52
      · refine lv_iload hx hb dX11_deal_45 (lv_at hl 0 rfl) ?_
        refine lv_iconst (v := 3) hx hb dX11_deal_47 (by decide) ?_
        refine lv_icmp_ne (tgt := 53) hx hb dX11_deal_48 (by decide) (fun c_48_4481 => ?_) (fun c_48_4481 => ?_)
        · refine lv_aload_n hx hb dX11_deal_53 rfl (lv_at hl 1 rfl) ?_
          refine gf_X11_79 hC rfl hK hP 0 rfl rfl dX11_deal_54 ?_
          refine lv_iload hx hb dX11_deal_57 (lv_at hl 0 rfl) ?_
          refine lv_aload_n hx hb dX11_deal_59 rfl (lv_at hl 1 rfl) ?_
          refine gf_X11_72 hC rfl hK hP 0 rfl rfl dX11_deal_60 ?_
          refine lv_iload_n hx hb dX11_deal_63 rfl (lv_at hl 2 rfl) ?_
          refine pV hC hK hl hP hD (c_heldNumber l G ho9 x1 hs hz hi hw hn ht fhn) si_X11_334 [8, 10] rfl rfl (by decide) rfl rfl rfl rfl rfl (Nat.le_of_ble_eq_true rfl) ⟨Nat.le_of_ble_eq_true rfl, Nat.le_of_ble_eq_true rfl⟩ ⟨by first | exact Nat.le_of_ble_eq_true rfl | exact Nat.zero_le _, by first | exact Nat.le_of_ble_eq_true rfl | exact Nat.zero_le _⟩ dX11_deal_64 (fun r4482 hr4482 => ?_)
          refine vV (wr := [(h0, .inr (11, [.ref bb, .ref kk, .int ikp, .ref sg, .ref do9, .ref ru9, .ref ta9, .ref tp9, .ref ro9, .ref ho9, .ref de9])), (ho9, .inr (4, [.ref hs, .ref hz, .ref hi, .ref hw, .ref hn, .ref ht])), (hw, .inl (G.2.1, 4, .inl fhw)), (hn, .inl (G.2.1, 4, .inl fhn)), (tr9, .inl (G.2.1, 30, .inl ftr))]) hC hK hl hP hD hS hA (d_grasp l G de9 r4479 r4482 bb tr9 0 dk dn dp da dq bpersons bpapers bstamps bversions blines bsteps bsayings bfindings bwarnings bquestions td vd vl gp bpapersc kbpapers fbpapers bsayingsc kbsayings fbsayings bfindingsc kbfindings fbfindings (by omega) (by omega) (by omega)) si_X11_337 [12, 1, 2, 3, 4, 5, 6, 7] [0, 8, 9, 10, 11] rfl rfl (by decide) rfl (by decide) (by decide) rfl rfl rfl rfl rfl (Nat.le_of_ble_eq_true rfl) ⟨Nat.le_of_ble_eq_true rfl, Nat.le_of_ble_eq_true rfl⟩ ⟨Nat.le_of_ble_eq_true rfl, Nat.le_of_ble_eq_true rfl⟩ dX11_deal_67 (fun u4484 H locs hr4483 hP hD hS => ?_)
          obtain ⟨dk14485, dn14486, dp14487, da14488⟩ := u4484
          try dsimp only at hr4483
          have hP : va_P G.1 vwCl [(h0, .inr (11, [.ref bb, .ref kk, .int ikp, .ref sg, .ref do9, .ref ru9, .ref ta9, .ref tp9, .ref ro9, .ref ho9, .ref de9])), (ho9, .inr (4, [.ref hs, .ref hz, .ref hi, .ref hw, .ref hn, .ref ht])), (hw, .inl (G.2.1, 4, .inl fhw)), (hn, .inl (G.2.1, 4, .inl fhn)), (tr9, .inl (G.2.1, 30, .inl ftr)), (de9, .inr (2, [.ref bb, .ref tr9, .int 0, .int dk14485, .int dn14486, .int dp14487, .int da14488, .int dq])), (bb, .inr (0, [.ref bpersons, .ref bpapers, .ref bstamps, .ref bversions, .ref blines, .ref bsteps, .ref bsayings, .ref bfindings, .ref bwarnings, .ref bquestions, .int td, .int vd, .int vl, .int gp])), (bpapers, .inr (8, [.int 12, .int 6, .ref bpapersc, .int (nI kbpapers)])), (bpapersc, .inl (G.2.1, 72, .inl fbpapers)), (bsayings, .inr (8, [.int 16, .int 8, .ref bsayingsc, .int (nI kbsayings)])), (bsayingsc, .inl (G.2.1, 128, .inl fbsayings)), (bfindings, .inr (8, [.int 12, .int 4, .ref bfindingsc, .int (nI kbfindings)])), (bfindingsc, .inl (G.2.1, 48, .inl fbfindings))] H := hP
          have hD : va_D A [(h0, .inr (11, [.ref bb, .ref kk, .int ikp, .ref sg, .ref do9, .ref ru9, .ref ta9, .ref tp9, .ref ro9, .ref ho9, .ref de9])), (ho9, .inr (4, [.ref hs, .ref hz, .ref hi, .ref hw, .ref hn, .ref ht])), (hw, .inl (G.2.1, 4, .inl fhw)), (hn, .inl (G.2.1, 4, .inl fhn)), (tr9, .inl (G.2.1, 30, .inl ftr)), (de9, .inr (2, [.ref bb, .ref tr9, .int 0, .int dk14485, .int dn14486, .int dp14487, .int da14488, .int dq])), (bb, .inr (0, [.ref bpersons, .ref bpapers, .ref bstamps, .ref bversions, .ref blines, .ref bsteps, .ref bsayings, .ref bfindings, .ref bwarnings, .ref bquestions, .int td, .int vd, .int vl, .int gp])), (bpapers, .inr (8, [.int 12, .int 6, .ref bpapersc, .int (nI kbpapers)])), (bpapersc, .inl (G.2.1, 72, .inl fbpapers)), (bsayings, .inr (8, [.int 16, .int 8, .ref bsayingsc, .int (nI kbsayings)])), (bsayingsc, .inl (G.2.1, 128, .inl fbsayings)), (bfindings, .inr (8, [.int 12, .int 4, .ref bfindingsc, .int (nI kbfindings)])), (bfindingsc, .inl (G.2.1, 48, .inl fbfindings))] := hD
          refine lv_aload_n hx hb dX11_deal_70 rfl (lv_at hl 1 rfl) ?_
          refine gf_X11_79 hC rfl hK hP 0 rfl rfl dX11_deal_71 ?_
          refine lv_iload_n hx hb dX11_deal_74 rfl (lv_at hl 3 rfl) ?_
          refine lv_iload_n hx hb dX11_deal_75 rfl (lv_at hl 4 rfl) ?_
          refine iVo (wr := [(h0, .inr (11, [.ref bb, .ref kk, .int ikp, .ref sg, .ref do9, .ref ru9, .ref ta9, .ref tp9, .ref ro9, .ref ho9, .ref de9])), (ho9, .inr (4, [.ref hs, .ref hz, .ref hi, .ref hw, .ref hn, .ref ht])), (hw, .inl (G.2.1, 4, .inl fhw)), (hn, .inl (G.2.1, 4, .inl fhn)), (bb, .inr (0, [.ref bpersons, .ref bpapers, .ref bstamps, .ref bversions, .ref blines, .ref bsteps, .ref bsayings, .ref bfindings, .ref bwarnings, .ref bquestions, .int td, .int vd, .int vl, .int gp])), (bpapers, .inr (8, [.int 12, .int 6, .ref bpapersc, .int (nI kbpapers)])), (bpapersc, .inl (G.2.1, 72, .inl fbpapers)), (bsayings, .inr (8, [.int 16, .int 8, .ref bsayingsc, .int (nI kbsayings)])), (bsayingsc, .inl (G.2.1, 128, .inl fbsayings)), (bfindings, .inr (8, [.int 12, .int 4, .ref bfindingsc, .int (nI kbfindings)])), (bfindingsc, .inl (G.2.1, 48, .inl fbfindings))]) hO hC hK hl hP hD hS hA (d_answer l G K de9 x2 x3 bb tr9 0 dk14485 dn14486 dp14487 da14488 dq ftr (by omega)) si_X11_346 [5, 4] [0, 1, 2, 3, 6, 7, 8, 9, 10, 11, 12] rfl rfl (by decide) rfl (by decide) (by decide) rfl rfl rfl rfl rfl (Nat.le_of_ble_eq_true rfl) ⟨Nat.le_of_ble_eq_true rfl, Nat.le_of_ble_eq_true rfl⟩ ⟨Nat.le_of_ble_eq_true rfl, Nat.le_of_ble_eq_true rfl⟩ dX11_deal_76 (fun r4489 u4490 H locs hr4489 hP hD hS => ?_)
          obtain ⟨jr14491, gtr4492, dq14493⟩ := u4490
          try dsimp only at hr4489
          have hP : va_P G.1 vwCl [(h0, .inr (11, [.ref bb, .ref kk, .int ikp, .ref sg, .ref do9, .ref ru9, .ref ta9, .ref tp9, .ref ro9, .ref ho9, .ref de9])), (ho9, .inr (4, [.ref hs, .ref hz, .ref hi, .ref hw, .ref hn, .ref ht])), (hw, .inl (G.2.1, 4, .inl fhw)), (hn, .inl (G.2.1, 4, .inl fhn)), (bb, .inr (0, [.ref bpersons, .ref bpapers, .ref bstamps, .ref bversions, .ref blines, .ref bsteps, .ref bsayings, .ref bfindings, .ref bwarnings, .ref bquestions, .int td, .int vd, .int vl, .int gp])), (bpapers, .inr (8, [.int 12, .int 6, .ref bpapersc, .int (nI kbpapers)])), (bpapersc, .inl (G.2.1, 72, .inl fbpapers)), (bsayings, .inr (8, [.int 16, .int 8, .ref bsayingsc, .int (nI kbsayings)])), (bsayingsc, .inl (G.2.1, 128, .inl fbsayings)), (bfindings, .inr (8, [.int 12, .int 4, .ref bfindingsc, .int (nI kbfindings)])), (bfindingsc, .inl (G.2.1, 48, .inl fbfindings)), (de9, .inr (2, [.ref bb, .ref tr9, .int (nI jr14491), .int dk14485, .int dn14486, .int dp14487, .int da14488, .int dq14493])), (tr9, .inl (G.2.1, 30, .inl gtr4492))] H := hP
          have hD : va_D A [(h0, .inr (11, [.ref bb, .ref kk, .int ikp, .ref sg, .ref do9, .ref ru9, .ref ta9, .ref tp9, .ref ro9, .ref ho9, .ref de9])), (ho9, .inr (4, [.ref hs, .ref hz, .ref hi, .ref hw, .ref hn, .ref ht])), (hw, .inl (G.2.1, 4, .inl fhw)), (hn, .inl (G.2.1, 4, .inl fhn)), (bb, .inr (0, [.ref bpersons, .ref bpapers, .ref bstamps, .ref bversions, .ref blines, .ref bsteps, .ref bsayings, .ref bfindings, .ref bwarnings, .ref bquestions, .int td, .int vd, .int vl, .int gp])), (bpapers, .inr (8, [.int 12, .int 6, .ref bpapersc, .int (nI kbpapers)])), (bpapersc, .inl (G.2.1, 72, .inl fbpapers)), (bsayings, .inr (8, [.int 16, .int 8, .ref bsayingsc, .int (nI kbsayings)])), (bsayingsc, .inl (G.2.1, 128, .inl fbsayings)), (bfindings, .inr (8, [.int 12, .int 4, .ref bfindingsc, .int (nI kbfindings)])), (bfindingsc, .inl (G.2.1, 48, .inl fbfindings)), (de9, .inr (2, [.ref bb, .ref tr9, .int (nI jr14491), .int dk14485, .int dn14486, .int dp14487, .int da14488, .int dq14493])), (tr9, .inl (G.2.1, 30, .inl gtr4492))] := hD
          obtain ⟨hr4489, w4494⟩ := hr4489
          exact RI (v := r4489) hC hP hD hS [0, 4, 5, 6, 7, 8, 9, 10, 1, 2, 3, 11, 12] (dk14485, dn14486, dp14487, da14488, jr14491, gtr4492, dq14493) rfl rfl (by decide) (⟨trivial, by dsimp only; omega⟩) rfl dX11_deal_79
        · refine lv_iconst (v := 0) hx hb dX11_deal_51 (by decide) ?_
          exact RI (v := 0) hC hP hD hS [0, 1, 2, 3, 4, 5, 6, 7, 8, 9, 10, 12, 11] (dk, dn, dp, da, 0, ftr, dq) rfl rfl (by decide) (⟨trivial, by dsimp only; omega⟩) rfl dX11_deal_52
    · refine lv_if_ne (tgt := 25) hx hb dX11_deal_20 (by decide) (fun c9 => absurd (by decide) c9) (fun _ => ?_)
      refine lv_iconst (v := 0) hx hb dX11_deal_23 (by decide) ?_
      exact RI (v := 0) hC hP hD hS [0, 1, 2, 3, 4, 5, 6, 7, 8, 9, 10, 12, 11] (dk, dn, dp, da, 0, ftr, dq) rfl rfl (by decide) (⟨trivial, by dsimp only; omega⟩) rfl dX11_deal_24
  · refine lv_if_eq (tgt := 23) hx hb dX11_deal_11 (by decide) (fun _ => ?_) (fun c9 => absurd (by decide) c9)
    refine lv_iconst (v := 0) hx hb dX11_deal_23 (by decide) ?_
    exact RI (v := 0) hC hP hD hS [0, 1, 2, 3, 4, 5, 6, 7, 8, 9, 10, 12, 11] (dk, dn, dp, da, 0, ftr, dq) rfl rfl (by decide) (⟨trivial, by dsimp only; omega⟩) rfl dX11_deal_24
