section WR
variable {p : Program} {l : Launch} {e : Env} {R : Room} {s : State} {m : MethodId} {args : Array Value} {below : List Frame} {meth : Method} {c : Code} {H : Heap} {locs : List Loc} {cells slots : Nat} {Q : State → Prop}
variable {pc : Nat} {ls : Array Slot} {rest : List Value} {G : GG} {ws : va_W} {A : Nat → Prop} {y0 : MethodName} {b0 : ByteArray} {mL0 : Nat} {rt0 : Option FieldType} {a : Nat} {H0 : Heap}
end WR
theorem Wi6 {v : Int32} (h : Wi v 0 6) : ∃ j, j < 7 ∧ v = nI j := by
  obtain ⟨j, hj, e⟩ := Wi_nat (N := 6) (by decide) h
  exact ⟨j, by omega, e⟩
section WR
variable {p : Program} {l : Launch} {e : Env} {R : Room} {s : State} {m : MethodId} {args : Array Value} {below : List Frame} {meth : Method} {c : Code} {H : Heap} {locs : List Loc} {cells slots : Nat} {Q : State → Prop}
variable {pc : Nat} {ls : Array Slot} {rest : List Value} {G : GG} {ws : va_W} {A : Nat → Prop} {y0 : MethodName} {b0 : ByteArray} {mL0 : Nat} {rt0 : Option FieldType} {a : Nat} {H0 : Heap}
theorem gX2_kindOfPaper_0 : (decode cX2_kindOfPaper 0 = .ok (.aload_n 0, 1)) ∧ (decode cX2_kindOfPaper 1 = .ok (.getfield 15, 3)) ∧ (decode cX2_kindOfPaper 4 = .ok (.getfield 43, 3)) ∧ (decode cX2_kindOfPaper 7 = .ok (.iload_n 1, 1)) ∧ (decode cX2_kindOfPaper 8 = .ok (.iconst 1, 1)) ∧ (decode cX2_kindOfPaper 9 = .ok (.invokevirtual 49, 3)) ∧ (decode cX2_kindOfPaper 12 = .ok (.iconst 1, 1)) ∧ (decode cX2_kindOfPaper 13 = .ok (.aload_n 0, 1)) ∧ (decode cX2_kindOfPaper 14 = .ok (.getfield 15, 3)) ∧ (decode cX2_kindOfPaper 17 = .ok (.getfield 43, 3)) := by decide +kernel
theorem m_269 : Cond.fieldLink RX2 15 "InquiryBench$Deale\x72" "book" "LInquiryBench$Book;" ∈ BW := iB_BW14 _ (List.mem_of_getElem? (i := 15) rfl)
theorem gf_X2_15 (hC : CX p s m meth c y0 b0 mL0 rt0 args) (hy0 : y0.cls = RX2) (hK : KK G s) (hP : va_P G.1 vwCl ws H) (q0 : Nat) {fs : List Value} {v : Value} (he : ws[q0]? = some (a, .inr (2, fs))) (hv : fs[0]? = some v) (hdg : decode b0 pc = .ok (.getfield 15, 3)) (kk : W p l e R s m args below meth c H locs cells slots Q (F0 m (pc + 3) ls (v :: rest))) : W p l e R s m args below meth c H locs cells slots Q (F0 m pc ls (.ref a :: rest)) := by
  obtain ⟨hx, hb, hr, hml, hB, hown, hlocks, hnm⟩ := hC
  rw [hy0] at hown
  exact va_get (ci := 2) (C := RX2) (T := TX2) (N := 8) hx hb hB in_X2 hown hK.1 hP q0 he rfl 0 (by decide) (hB _ m_269) (fun _ h => h) hv hdg kk
theorem nm_5 : Cond.fieldLinkNest RX2 43 RX0 "papers" "LInquiryBench$Table;" RX11 ∈ NestW := List.mem_of_getElem? (i := 5) rfl
theorem gf_X2_43 (hC : CX p s m meth c y0 b0 mL0 rt0 args) (hy0 : y0.cls = RX2) (hK : KK G s) (hP : va_P G.1 vwCl ws H) (q0 : Nat) {fs : List Value} {v : Value} (he : ws[q0]? = some (a, .inr (0, fs))) (hv : fs[1]? = some v) (hdg : decode b0 pc = .ok (.getfield 43, 3)) (kk : W p l e R s m args below meth c H locs cells slots Q (F0 m (pc + 3) ls (v :: rest))) : W p l e R s m args below meth c H locs cells slots Q (F0 m pc ls (.ref a :: rest)) := by
  obtain ⟨hx, hb, hr, hml, hB, hown, hlocks, hnm⟩ := hC
  rw [hy0] at hown
  exact va_getN (ci := 0) (C := RX0) (T := TX0) (N := 14) hx hb hB in_X0 hown hK.1 hP q0 he rfl 1 (by decide) (va_Nw.use rfl (hK.2.1 _ nm_5)) (fun _ h => h) hv hdg kk
theorem m_952 : Cond.methodLink RX2 49 yX8_at ∈ BW := iB_BW51 _ (List.mem_of_getElem? (i := 1) rfl)
theorem si_X2_49 : SV RX2 RX8 49 yX8_at cX8_at 3 (some .int) 2 := ⟨⟨m_952, m_312, m_313, m_104, m_314⟩, rfl, nK_RX8.1, nK_RX8.2, pd_2⟩
theorem gX2_kindOfPaper_1 : (decode cX2_kindOfPaper 20 = .ok (.iload_n 1, 1)) ∧ (decode cX2_kindOfPaper 21 = .ok (.iconst 0, 1)) ∧ (decode cX2_kindOfPaper 22 = .ok (.invokevirtual 49, 3)) ∧ (decode cX2_kindOfPaper 25 = .ok (.ishl, 1)) ∧ (decode cX2_kindOfPaper 26 = .ok (.iconst (-1), 1)) ∧ (decode cX2_kindOfPaper 27 = .ok (.ixor, 1)) ∧ (decode cX2_kindOfPaper 28 = .ok (.iand, 1)) ∧ (decode cX2_kindOfPaper 29 = .ok (.istore_n 2, 1)) ∧ (decode cX2_kindOfPaper 30 = .ok (.iload_n 2, 1)) ∧ (decode cX2_kindOfPaper 31 = .ok (.ifCond .ne 5, 3)) := by decide +kernel
theorem gX2_kindOfPaper_2 : (decode cX2_kindOfPaper 34 = .ok (.iconst 2, 1)) ∧ (decode cX2_kindOfPaper 35 = .ok (.ireturn, 1)) ∧ (decode cX2_kindOfPaper 36 = .ok (.aload_n 0, 1)) ∧ (decode cX2_kindOfPaper 37 = .ok (.getfield 15, 3)) ∧ (decode cX2_kindOfPaper 40 = .ok (.getfield 43, 3)) ∧ (decode cX2_kindOfPaper 43 = .ok (.iload_n 1, 1)) ∧ (decode cX2_kindOfPaper 44 = .ok (.iconst 3, 1)) ∧ (decode cX2_kindOfPaper 45 = .ok (.invokevirtual 49, 3)) ∧ (decode cX2_kindOfPaper 48 = .ok (.ifCond .le 7, 3)) ∧ (decode cX2_kindOfPaper 51 = .ok (.iconst 3, 1)) := by decide +kernel
theorem gX2_kindOfPaper_3 : (decode cX2_kindOfPaper 52 = .ok (.goto 4, 3)) ∧ (decode cX2_kindOfPaper 55 = .ok (.iconst 1, 1)) ∧ (decode cX2_kindOfPaper 56 = .ok (.ireturn, 1)) := by decide +kernel
theorem gX2_grasp_0 : (decode cX2_grasp 0 = .ok (.aload_n 0, 1)) ∧ (decode cX2_grasp 1 = .ok (.iload_n 2, 1)) ∧ (decode cX2_grasp 2 = .ok (.putfield 26, 3)) ∧ (decode cX2_grasp 5 = .ok (.iload_n 1, 1)) ∧ (decode cX2_grasp 6 = .ok (.ifCond .ne 47, 3)) ∧ (decode cX2_grasp 9 = .ok (.aload_n 0, 1)) ∧ (decode cX2_grasp 10 = .ok (.aload_n 0, 1)) ∧ (decode cX2_grasp 11 = .ok (.iload_n 2, 1)) ∧ (decode cX2_grasp 12 = .ok (.invokevirtual 39, 3)) ∧ (decode cX2_grasp 15 = .ok (.putfield 23, 3)) := by decide +kernel
theorem m_273 : Cond.fieldLink RX2 26 "InquiryBench$Deale\x72" "n" "I" ∈ BW := iB_BW14 _ (List.mem_of_getElem? (i := 19) rfl)
theorem pf_X2_26 (hC : CX p s m meth c y0 b0 mL0 rt0 args) (hy0 : y0.cls = RX2) (hK : KK G s) (hP : va_P G.1 vwCl ws H) (hD : va_D A ws) (hS : va_S A H0 H locs) (q0 : Nat) {fs : List Value} {v : Value} {ws' : va_W} (he : ws[q0]? = some (a, .inr (2, fs))) (hl : 4 < fs.length) (hws : ws.set q0 (a, .inr (2, fs.set 4 v)) = ws') (hn : narrow .int v = v) (hfit : fits .int v = true) (hdg : decode b0 pc = .ok (.putfield 26, 3)) (kk : ∀ (H1 : Heap) (locs1 : List Loc), va_P G.1 vwCl ws' H1 → va_D A ws' → va_S A H0 H1 locs1 → W p l e R s m args below meth c H1 locs1 cells slots Q (F0 m (pc + 3) ls rest)) : W p l e R s m args below meth c H locs cells slots Q (F0 m pc ls (v :: .ref a :: rest)) := by
  obtain ⟨hx, hb, hr, hml, hB, hown, hlocks, hnm⟩ := hC
  rw [hy0] at hown
  subst hws
  exact va_put (ci := 2) (ty := .int) (C := RX2) (T := TX2) (N := 8) hx hb hB in_X2 tyX2 tyX2_ok nmX2 hown hK.1 hP hD hS q0 he rfl 4 (by decide) (hB _ m_273) (fun _ h => h) rfl (by decide +kernel) hn hfit hl hdg kk
theorem gX2_grasp_2 : (decode cX2_grasp 36 = .ok (.getfield 15, 3)) ∧ (decode cX2_grasp 39 = .ok (.getfield 43, 3)) ∧ (decode cX2_grasp 42 = .ok (.iload_n 2, 1)) ∧ (decode cX2_grasp 43 = .ok (.iconst 2, 1)) ∧ (decode cX2_grasp 44 = .ok (.invokevirtual 49, 3)) ∧ (decode cX2_grasp 47 = .ok (.putfield 32, 3)) ∧ (decode cX2_grasp 50 = .ok (.goto 106, 3)) ∧ (decode cX2_grasp 53 = .ok (.iload_n 1, 1)) ∧ (decode cX2_grasp 54 = .ok (.iconst 1, 1)) ∧ (decode cX2_grasp 55 = .ok (.if_icmp .ne 63, 3)) := by decide +kernel
theorem gX2_grasp_5 : (decode cX2_grasp 99 = .ok (.aload_n 0, 1)) ∧ (decode cX2_grasp 100 = .ok (.aload_n 0, 1)) ∧ (decode cX2_grasp 101 = .ok (.getfield 15, 3)) ∧ (decode cX2_grasp 104 = .ok (.getfield 55, 3)) ∧ (decode cX2_grasp 107 = .ok (.iload_n 2, 1)) ∧ (decode cX2_grasp 108 = .ok (.iconst 4, 1)) ∧ (decode cX2_grasp 109 = .ok (.invokevirtual 49, 3)) ∧ (decode cX2_grasp 112 = .ok (.putfield 32, 3)) ∧ (decode cX2_grasp 115 = .ok (.goto 41, 3)) ∧ (decode cX2_grasp 118 = .ok (.aload_n 0, 1)) := by decide +kernel
theorem gX2_grasp_6 : (decode cX2_grasp 119 = .ok (.bipush 6, 2)) ∧ (decode cX2_grasp 121 = .ok (.putfield 23, 3)) ∧ (decode cX2_grasp 124 = .ok (.aload_n 0, 1)) ∧ (decode cX2_grasp 125 = .ok (.aload_n 0, 1)) ∧ (decode cX2_grasp 126 = .ok (.getfield 15, 3)) ∧ (decode cX2_grasp 129 = .ok (.getfield 58, 3)) ∧ (decode cX2_grasp 132 = .ok (.iload_n 2, 1)) ∧ (decode cX2_grasp 133 = .ok (.iconst 0, 1)) ∧ (decode cX2_grasp 134 = .ok (.invokevirtual 49, 3)) ∧ (decode cX2_grasp 137 = .ok (.putfield 29, 3)) := by decide +kernel
theorem m_272 : Cond.fieldLink RX2 23 "InquiryBench$Deale\x72" "kind" "I" ∈ BW := iB_BW14 _ (List.mem_of_getElem? (i := 18) rfl)
theorem pf_X2_23 (hC : CX p s m meth c y0 b0 mL0 rt0 args) (hy0 : y0.cls = RX2) (hK : KK G s) (hP : va_P G.1 vwCl ws H) (hD : va_D A ws) (hS : va_S A H0 H locs) (q0 : Nat) {fs : List Value} {v : Value} {ws' : va_W} (he : ws[q0]? = some (a, .inr (2, fs))) (hl : 3 < fs.length) (hws : ws.set q0 (a, .inr (2, fs.set 3 v)) = ws') (hn : narrow .int v = v) (hfit : fits .int v = true) (hdg : decode b0 pc = .ok (.putfield 23, 3)) (kk : ∀ (H1 : Heap) (locs1 : List Loc), va_P G.1 vwCl ws' H1 → va_D A ws' → va_S A H0 H1 locs1 → W p l e R s m args below meth c H1 locs1 cells slots Q (F0 m (pc + 3) ls rest)) : W p l e R s m args below meth c H locs cells slots Q (F0 m pc ls (v :: .ref a :: rest)) := by
  obtain ⟨hx, hb, hr, hml, hB, hown, hlocks, hnm⟩ := hC
  rw [hy0] at hown
  subst hws
  exact va_put (ci := 2) (ty := .int) (C := RX2) (T := TX2) (N := 8) hx hb hB in_X2 tyX2 tyX2_ok nmX2 hown hK.1 hP hD hS q0 he rfl 3 (by decide) (hB _ m_272) (fun _ h => h) rfl (by decide +kernel) hn hfit hl hdg kk
theorem nm_24 : Cond.fieldLinkNest RX2 58 RX0 "findings" "LInquiryBench$Table;" RX11 ∈ NestW := List.mem_of_getElem? (i := 24) rfl
theorem gf_X2_58 (hC : CX p s m meth c y0 b0 mL0 rt0 args) (hy0 : y0.cls = RX2) (hK : KK G s) (hP : va_P G.1 vwCl ws H) (q0 : Nat) {fs : List Value} {v : Value} (he : ws[q0]? = some (a, .inr (0, fs))) (hv : fs[7]? = some v) (hdg : decode b0 pc = .ok (.getfield 58, 3)) (kk : W p l e R s m args below meth c H locs cells slots Q (F0 m (pc + 3) ls (v :: rest))) : W p l e R s m args below meth c H locs cells slots Q (F0 m pc ls (.ref a :: rest)) := by
  obtain ⟨hx, hb, hr, hml, hB, hown, hlocks, hnm⟩ := hC
  rw [hy0] at hown
  exact va_getN (ci := 0) (C := RX0) (T := TX0) (N := 14) hx hb hB in_X0 hown hK.1 hP q0 he rfl 7 (by decide) (va_Nw.use rfl (hK.2.1 _ nm_24)) (fun _ h => h) hv hdg kk
theorem m_274 : Cond.fieldLink RX2 29 "InquiryBench$Deale\x72" "p" "I" ∈ BW := iB_BW15 _ (List.mem_of_getElem? (i := 0) rfl)
theorem pf_X2_29 (hC : CX p s m meth c y0 b0 mL0 rt0 args) (hy0 : y0.cls = RX2) (hK : KK G s) (hP : va_P G.1 vwCl ws H) (hD : va_D A ws) (hS : va_S A H0 H locs) (q0 : Nat) {fs : List Value} {v : Value} {ws' : va_W} (he : ws[q0]? = some (a, .inr (2, fs))) (hl : 5 < fs.length) (hws : ws.set q0 (a, .inr (2, fs.set 5 v)) = ws') (hn : narrow .int v = v) (hfit : fits .int v = true) (hdg : decode b0 pc = .ok (.putfield 29, 3)) (kk : ∀ (H1 : Heap) (locs1 : List Loc), va_P G.1 vwCl ws' H1 → va_D A ws' → va_S A H0 H1 locs1 → W p l e R s m args below meth c H1 locs1 cells slots Q (F0 m (pc + 3) ls rest)) : W p l e R s m args below meth c H locs cells slots Q (F0 m pc ls (v :: .ref a :: rest)) := by
  obtain ⟨hx, hb, hr, hml, hB, hown, hlocks, hnm⟩ := hC
  rw [hy0] at hown
  subst hws
  exact va_put (ci := 2) (ty := .int) (C := RX2) (T := TX2) (N := 8) hx hb hB in_X2 tyX2 tyX2_ok nmX2 hown hK.1 hP hD hS q0 he rfl 5 (by decide) (hB _ m_274) (fun _ h => h) rfl (by decide +kernel) hn hfit hl hdg kk
theorem gX2_grasp_7 : (decode cX2_grasp 140 = .ok (.aload_n 0, 1)) ∧ (decode cX2_grasp 141 = .ok (.aload_n 0, 1)) ∧ (decode cX2_grasp 142 = .ok (.getfield 15, 3)) ∧ (decode cX2_grasp 145 = .ok (.getfield 58, 3)) ∧ (decode cX2_grasp 148 = .ok (.iload_n 2, 1)) ∧ (decode cX2_grasp 149 = .ok (.iconst 2, 1)) ∧ (decode cX2_grasp 150 = .ok (.invokevirtual 49, 3)) ∧ (decode cX2_grasp 153 = .ok (.putfield 32, 3)) ∧ (decode cX2_grasp 156 = .ok (.return_, 1)) := by decide +kernel
theorem m_275 : Cond.fieldLink RX2 32 "InquiryBench$Deale\x72" "a" "I" ∈ BW := iB_BW15 _ (List.mem_of_getElem? (i := 1) rfl)
theorem pf_X2_32 (hC : CX p s m meth c y0 b0 mL0 rt0 args) (hy0 : y0.cls = RX2) (hK : KK G s) (hP : va_P G.1 vwCl ws H) (hD : va_D A ws) (hS : va_S A H0 H locs) (q0 : Nat) {fs : List Value} {v : Value} {ws' : va_W} (he : ws[q0]? = some (a, .inr (2, fs))) (hl : 6 < fs.length) (hws : ws.set q0 (a, .inr (2, fs.set 6 v)) = ws') (hn : narrow .int v = v) (hfit : fits .int v = true) (hdg : decode b0 pc = .ok (.putfield 32, 3)) (kk : ∀ (H1 : Heap) (locs1 : List Loc), va_P G.1 vwCl ws' H1 → va_D A ws' → va_S A H0 H1 locs1 → W p l e R s m args below meth c H1 locs1 cells slots Q (F0 m (pc + 3) ls rest)) : W p l e R s m args below meth c H locs cells slots Q (F0 m pc ls (v :: .ref a :: rest)) := by
  obtain ⟨hx, hb, hr, hml, hB, hown, hlocks, hnm⟩ := hC
  rw [hy0] at hown
  subst hws
  exact va_put (ci := 2) (ty := .int) (C := RX2) (T := TX2) (N := 8) hx hb hB in_X2 tyX2 tyX2_ok nmX2 hown hK.1 hP hD hS q0 he rfl 6 (by decide) (hB _ m_275) (fun _ h => h) rfl (by decide +kernel) hn hfit hl hdg kk
theorem gX2_grasp_3 : (decode cX2_grasp 58 = .ok (.aload_n 0, 1)) ∧ (decode cX2_grasp 59 = .ok (.aload_n 0, 1)) ∧ (decode cX2_grasp 60 = .ok (.getfield 15, 3)) ∧ (decode cX2_grasp 63 = .ok (.getfield 55, 3)) ∧ (decode cX2_grasp 66 = .ok (.iload_n 2, 1)) ∧ (decode cX2_grasp 67 = .ok (.bipush 6, 2)) ∧ (decode cX2_grasp 69 = .ok (.invokevirtual 49, 3)) ∧ (decode cX2_grasp 72 = .ok (.ifCond .ge 7, 3)) ∧ (decode cX2_grasp 75 = .ok (.iconst 5, 1)) ∧ (decode cX2_grasp 76 = .ok (.goto 4, 3)) := by decide +kernel
theorem nm_21 : Cond.fieldLinkNest RX2 55 RX0 "sayings" "LInquiryBench$Table;" RX11 ∈ NestW := List.mem_of_getElem? (i := 21) rfl
theorem gf_X2_55 (hC : CX p s m meth c y0 b0 mL0 rt0 args) (hy0 : y0.cls = RX2) (hK : KK G s) (hP : va_P G.1 vwCl ws H) (q0 : Nat) {fs : List Value} {v : Value} (he : ws[q0]? = some (a, .inr (0, fs))) (hv : fs[6]? = some v) (hdg : decode b0 pc = .ok (.getfield 55, 3)) (kk : W p l e R s m args below meth c H locs cells slots Q (F0 m (pc + 3) ls (v :: rest))) : W p l e R s m args below meth c H locs cells slots Q (F0 m pc ls (.ref a :: rest)) := by
  obtain ⟨hx, hb, hr, hml, hB, hown, hlocks, hnm⟩ := hC
  rw [hy0] at hown
  exact va_getN (ci := 0) (C := RX0) (T := TX0) (N := 14) hx hb hB in_X0 hown hK.1 hP q0 he rfl 6 (by decide) (va_Nw.use rfl (hK.2.1 _ nm_21)) (fun _ h => h) hv hdg kk
theorem gX2_grasp_4 : (decode cX2_grasp 79 = .ok (.iconst 4, 1)) ∧ (decode cX2_grasp 80 = .ok (.putfield 23, 3)) ∧ (decode cX2_grasp 83 = .ok (.aload_n 0, 1)) ∧ (decode cX2_grasp 84 = .ok (.aload_n 0, 1)) ∧ (decode cX2_grasp 85 = .ok (.getfield 15, 3)) ∧ (decode cX2_grasp 88 = .ok (.getfield 55, 3)) ∧ (decode cX2_grasp 91 = .ok (.iload_n 2, 1)) ∧ (decode cX2_grasp 92 = .ok (.iconst 0, 1)) ∧ (decode cX2_grasp 93 = .ok (.invokevirtual 49, 3)) ∧ (decode cX2_grasp 96 = .ok (.putfield 29, 3)) := by decide +kernel
theorem m_951 : Cond.code yX2_kindOfPaper cX2_kindOfPaper 3 (some .int) ∈ BW := iB_BW51 _ (List.mem_of_getElem? (i := 0) rfl)
theorem m_949 : Cond.methodLink RX2 39 yX2_kindOfPaper ∈ BW := iB_BW50 _ (List.mem_of_getElem? (i := 18) rfl)
theorem m_950 : Cond.instanceMethod yX2_kindOfPaper ∈ BW := iB_BW50 _ (List.mem_of_getElem? (i := 19) rfl)
theorem m_42 : Cond.selects RX2 yX2_kindOfPaper yX2_kindOfPaper ∈ BW := iB_BW2 _ (List.mem_of_getElem? (i := 2) rfl)
theorem si_X2_39 : SV RX2 RX2 39 yX2_kindOfPaper cX2_kindOfPaper 3 (some .int) 1 := ⟨⟨m_949, m_950, m_42, m_114, m_951⟩, rfl, nK_RX2.1, nK_RX2.2, pd_7⟩
theorem gX2_grasp_1 : (decode cX2_grasp 18 = .ok (.aload_n 0, 1)) ∧ (decode cX2_grasp 19 = .ok (.aload_n 0, 1)) ∧ (decode cX2_grasp 20 = .ok (.getfield 15, 3)) ∧ (decode cX2_grasp 23 = .ok (.getfield 43, 3)) ∧ (decode cX2_grasp 26 = .ok (.iload_n 2, 1)) ∧ (decode cX2_grasp 27 = .ok (.iconst 0, 1)) ∧ (decode cX2_grasp 28 = .ok (.invokevirtual 49, 3)) ∧ (decode cX2_grasp 31 = .ok (.putfield 29, 3)) ∧ (decode cX2_grasp 34 = .ok (.aload_n 0, 1)) ∧ (decode cX2_grasp 35 = .ok (.aload_n 0, 1)) := by decide +kernel
theorem gX2_clearTrace_0 : (decode cX2_clearTrace 0 = .ok (.aload_n 0, 1)) ∧ (decode cX2_clearTrace 1 = .ok (.iconst 0, 1)) ∧ (decode cX2_clearTrace 2 = .ok (.putfield 19, 3)) ∧ (decode cX2_clearTrace 5 = .ok (.return_, 1)) := by decide +kernel
theorem pf_X2_19 (hC : CX p s m meth c y0 b0 mL0 rt0 args) (hy0 : y0.cls = RX2) (hK : KK G s) (hP : va_P G.1 vwCl ws H) (hD : va_D A ws) (hS : va_S A H0 H locs) (q0 : Nat) {fs : List Value} {v : Value} {ws' : va_W} (he : ws[q0]? = some (a, .inr (2, fs))) (hl : 2 < fs.length) (hws : ws.set q0 (a, .inr (2, fs.set 2 v)) = ws') (hn : narrow .int v = v) (hfit : fits .int v = true) (hdg : decode b0 pc = .ok (.putfield 19, 3)) (kk : ∀ (H1 : Heap) (locs1 : List Loc), va_P G.1 vwCl ws' H1 → va_D A ws' → va_S A H0 H1 locs1 → W p l e R s m args below meth c H1 locs1 cells slots Q (F0 m (pc + 3) ls rest)) : W p l e R s m args below meth c H locs cells slots Q (F0 m pc ls (v :: .ref a :: rest)) := by
  obtain ⟨hx, hb, hr, hml, hB, hown, hlocks, hnm⟩ := hC
  rw [hy0] at hown
  subst hws
  exact va_put (ci := 2) (ty := .int) (C := RX2) (T := TX2) (N := 8) hx hb hB in_X2 tyX2 tyX2_ok nmX2 hown hK.1 hP hD hS q0 he rfl 2 (by decide) (hB _ m_271) (fun _ h => h) rfl (by decide +kernel) hn hfit hl hdg kk
theorem gX2_isUnder_0 : (decode cX2_isUnder 0 = .ok (.aload_n 0, 1)) ∧ (decode cX2_isUnder 1 = .ok (.getfield 23, 3)) ∧ (decode cX2_isUnder 4 = .ok (.istore_n 2, 1)) ∧ (decode cX2_isUnder 5 = .ok (.iconst 0, 1)) ∧ (decode cX2_isUnder 6 = .ok (.istore_n 3, 1)) ∧ (decode cX2_isUnder 7 = .ok (.iload_n 3, 1)) ∧ (decode cX2_isUnder 8 = .ok (.bipush 7, 2)) ∧ (decode cX2_isUnder 10 = .ok (.if_icmp .ge 30, 3)) ∧ (decode cX2_isUnder 13 = .ok (.iload_n 2, 1)) ∧ (decode cX2_isUnder 14 = .ok (.iload_n 1, 1)) := by decide +kernel
theorem gf_X2_23 (hC : CX p s m meth c y0 b0 mL0 rt0 args) (hy0 : y0.cls = RX2) (hK : KK G s) (hP : va_P G.1 vwCl ws H) (q0 : Nat) {fs : List Value} {v : Value} (he : ws[q0]? = some (a, .inr (2, fs))) (hv : fs[3]? = some v) (hdg : decode b0 pc = .ok (.getfield 23, 3)) (kk : W p l e R s m args below meth c H locs cells slots Q (F0 m (pc + 3) ls (v :: rest))) : W p l e R s m args below meth c H locs cells slots Q (F0 m pc ls (.ref a :: rest)) := by
  obtain ⟨hx, hb, hr, hml, hB, hown, hlocks, hnm⟩ := hC
  rw [hy0] at hown
  exact va_get (ci := 2) (C := RX2) (T := TX2) (N := 8) hx hb hB in_X2 hown hK.1 hP q0 he rfl 3 (by decide) (hB _ m_272) (fun _ h => h) hv hdg kk
theorem gX2_isUnder_2 : (decode cX2_isUnder 34 = .ok (.iinc 3 1, 3)) ∧ (decode cX2_isUnder 37 = .ok (.goto (-30), 3)) ∧ (decode cX2_isUnder 40 = .ok (.iload_n 2, 1)) ∧ (decode cX2_isUnder 41 = .ok (.iload_n 1, 1)) ∧ (decode cX2_isUnder 42 = .ok (.if_icmp .ne 17, 3)) ∧ (decode cX2_isUnder 45 = .ok (.iload_n 2, 1)) ∧ (decode cX2_isUnder 46 = .ok (.iconst 0, 1)) ∧ (decode cX2_isUnder 47 = .ok (.bipush 6, 2)) ∧ (decode cX2_isUnder 49 = .ok (.invokestatic 61, 3)) ∧ (decode cX2_isUnder 52 = .ok (.ifCond .eq 7, 3)) := by decide +kernel
theorem gX2_isUnder_3 : (decode cX2_isUnder 55 = .ok (.iconst 1, 1)) ∧ (decode cX2_isUnder 56 = .ok (.goto 4, 3)) ∧ (decode cX2_isUnder 59 = .ok (.iconst 0, 1)) ∧ (decode cX2_isUnder 60 = .ok (.ireturn, 1)) := by decide +kernel
theorem nm_55 : Cond.methodLinkNest RX2 61 yX11_within RX11 ∈ NestW := List.mem_of_getElem? (i := 55) rfl
theorem si_X2_61 : SSN RX2 RX11 61 yX11_within cX11_within 3 (some .boolean) 3 := ⟨⟨nm_55, m_293, m_102, m_294⟩, ⟨nK_RX11.1, nK_RX11.2, pd_0⟩⟩
theorem gX2_isUnder_1 : (decode cX2_isUnder 15 = .ok (.if_icmp .eq 25, 3)) ∧ (decode cX2_isUnder 18 = .ok (.iload_n 2, 1)) ∧ (decode cX2_isUnder 19 = .ok (.iconst 0, 1)) ∧ (decode cX2_isUnder 20 = .ok (.bipush 6, 2)) ∧ (decode cX2_isUnder 22 = .ok (.invokestatic 61, 3)) ∧ (decode cX2_isUnder 25 = .ok (.ifCond .eq 15, 3)) ∧ (decode cX2_isUnder 28 = .ok (.getstatic 65, 3)) ∧ (decode cX2_isUnder 31 = .ok (.iload_n 2, 1)) ∧ (decode cX2_isUnder 32 = .ok (.iaload, 1)) ∧ (decode cX2_isUnder 33 = .ok (.istore_n 2, 1)) := by decide +kernel
theorem m_957 : Cond.fieldLink RX2 65 "InquiryBench$Deale\x72" "ABOVE" "[I" ∈ BW := iB_BW51 _ (List.mem_of_getElem? (i := 6) rfl)
theorem gX2_quotient_0 : (decode cX2_quotient 0 = .ok (.aload_n 0, 1)) ∧ (decode cX2_quotient 1 = .ok (.getfield 29, 3)) ∧ (decode cX2_quotient 4 = .ok (.aload_n 0, 1)) ∧ (decode cX2_quotient 5 = .ok (.getfield 26, 3)) ∧ (decode cX2_quotient 8 = .ok (.isub, 1)) ∧ (decode cX2_quotient 9 = .ok (.istore_n 2, 1)) ∧ (decode cX2_quotient 10 = .ok (.iload_n 2, 1)) ∧ (decode cX2_quotient 11 = .ok (.ifCond .ne 10, 3)) ∧ (decode cX2_quotient 14 = .ok (.aload_n 0, 1)) ∧ (decode cX2_quotient 15 = .ok (.iconst 1, 1)) := by decide +kernel
theorem gf_X2_29 (hC : CX p s m meth c y0 b0 mL0 rt0 args) (hy0 : y0.cls = RX2) (hK : KK G s) (hP : va_P G.1 vwCl ws H) (q0 : Nat) {fs : List Value} {v : Value} (he : ws[q0]? = some (a, .inr (2, fs))) (hv : fs[5]? = some v) (hdg : decode b0 pc = .ok (.getfield 29, 3)) (kk : W p l e R s m args below meth c H locs cells slots Q (F0 m (pc + 3) ls (v :: rest))) : W p l e R s m args below meth c H locs cells slots Q (F0 m pc ls (.ref a :: rest)) := by
  obtain ⟨hx, hb, hr, hml, hB, hown, hlocks, hnm⟩ := hC
  rw [hy0] at hown
  exact va_get (ci := 2) (C := RX2) (T := TX2) (N := 8) hx hb hB in_X2 hown hK.1 hP q0 he rfl 5 (by decide) (hB _ m_274) (fun _ h => h) hv hdg kk
theorem gf_X2_26 (hC : CX p s m meth c y0 b0 mL0 rt0 args) (hy0 : y0.cls = RX2) (hK : KK G s) (hP : va_P G.1 vwCl ws H) (q0 : Nat) {fs : List Value} {v : Value} (he : ws[q0]? = some (a, .inr (2, fs))) (hv : fs[4]? = some v) (hdg : decode b0 pc = .ok (.getfield 26, 3)) (kk : W p l e R s m args below meth c H locs cells slots Q (F0 m (pc + 3) ls (v :: rest))) : W p l e R s m args below meth c H locs cells slots Q (F0 m pc ls (.ref a :: rest)) := by
  obtain ⟨hx, hb, hr, hml, hB, hown, hlocks, hnm⟩ := hC
  rw [hy0] at hown
  exact va_get (ci := 2) (C := RX2) (T := TX2) (N := 8) hx hb hB in_X2 hown hK.1 hP q0 he rfl 4 (by decide) (hB _ m_273) (fun _ h => h) hv hdg kk
theorem gX2_quotient_1 : (decode cX2_quotient 16 = .ok (.putfield 35, 3)) ∧ (decode cX2_quotient 19 = .ok (.iconst 0, 1)) ∧ (decode cX2_quotient 20 = .ok (.ireturn, 1)) ∧ (decode cX2_quotient 21 = .ok (.iload_n 1, 1)) ∧ (decode cX2_quotient 22 = .ok (.iload_n 2, 1)) ∧ (decode cX2_quotient 23 = .ok (.idiv, 1)) ∧ (decode cX2_quotient 24 = .ok (.ireturn, 1)) := by decide +kernel
theorem m_276 : Cond.fieldLink RX2 35 "InquiryBench$Deale\x72" "parted" "Z" ∈ BW := iB_BW15 _ (List.mem_of_getElem? (i := 2) rfl)
theorem pf_X2_35 (hC : CX p s m meth c y0 b0 mL0 rt0 args) (hy0 : y0.cls = RX2) (hK : KK G s) (hP : va_P G.1 vwCl ws H) (hD : va_D A ws) (hS : va_S A H0 H locs) (q0 : Nat) {fs : List Value} {v : Value} {ws' : va_W} (he : ws[q0]? = some (a, .inr (2, fs))) (hl : 7 < fs.length) (hws : ws.set q0 (a, .inr (2, fs.set 7 v)) = ws') (hn : narrow .boolean v = v) (hfit : fits .boolean v = true) (hdg : decode b0 pc = .ok (.putfield 35, 3)) (kk : ∀ (H1 : Heap) (locs1 : List Loc), va_P G.1 vwCl ws' H1 → va_D A ws' → va_S A H0 H1 locs1 → W p l e R s m args below meth c H1 locs1 cells slots Q (F0 m (pc + 3) ls rest)) : W p l e R s m args below meth c H locs cells slots Q (F0 m pc ls (v :: .ref a :: rest)) := by
  obtain ⟨hx, hb, hr, hml, hB, hown, hlocks, hnm⟩ := hC
  rw [hy0] at hown
  subst hws
  exact va_put (ci := 2) (ty := .boolean) (C := RX2) (T := TX2) (N := 8) hx hb hB in_X2 tyX2 tyX2_ok nmX2 hown hK.1 hP hD hS q0 he rfl 7 (by decide) (hB _ m_276) (fun _ h => h) rfl (by decide +kernel) hn hfit hl hdg kk
theorem gX2_dealAs_0 : (decode cX2_dealAs 0 = .ok (.iload_n 2, 1)) ∧ (decode cX2_dealAs 1 = .ok (.ifCond .lt 8, 3)) ∧ (decode cX2_dealAs 4 = .ok (.iload_n 2, 1)) ∧ (decode cX2_dealAs 5 = .ok (.iconst 4, 1)) ∧ (decode cX2_dealAs 6 = .ok (.if_icmp .lt 5, 3)) ∧ (decode cX2_dealAs 9 = .ok (.iconst 0, 1)) ∧ (decode cX2_dealAs 10 = .ok (.ireturn, 1)) ∧ (decode cX2_dealAs 11 = .ok (.iload_n 1, 1)) ∧ (decode cX2_dealAs 12 = .ok (.istore 5, 2)) ∧ (decode cX2_dealAs 14 = .ok (.iconst 0, 1)) := by decide +kernel
theorem gX2_dealAs_1 : (decode cX2_dealAs 15 = .ok (.istore 6, 2)) ∧ (decode cX2_dealAs 17 = .ok (.iload 6, 2)) ∧ (decode cX2_dealAs 19 = .ok (.bipush 7, 2)) ∧ (decode cX2_dealAs 21 = .ok (.if_icmp .ge 59, 3)) ∧ (decode cX2_dealAs 24 = .ok (.iload 5, 2)) ∧ (decode cX2_dealAs 26 = .ok (.iconst 0, 1)) ∧ (decode cX2_dealAs 27 = .ok (.bipush 6, 2)) ∧ (decode cX2_dealAs 29 = .ok (.invokestatic 61, 3)) ∧ (decode cX2_dealAs 32 = .ok (.ifCond .eq 48, 3)) ∧ (decode cX2_dealAs 35 = .ok (.getstatic 72, 3)) := by decide +kernel
theorem gX2_dealAs_4 : (decode cX2_dealAs 71 = .ok (.iaload, 1)) ∧ (decode cX2_dealAs 72 = .ok (.istore 5, 2)) ∧ (decode cX2_dealAs 74 = .ok (.iinc 6 1, 3)) ∧ (decode cX2_dealAs 77 = .ok (.goto (-60), 3)) ∧ (decode cX2_dealAs 80 = .ok (.iconst 0, 1)) ∧ (decode cX2_dealAs 81 = .ok (.ireturn, 1)) := by decide +kernel
theorem m_973 : Cond.fieldLink RX2 72 "InquiryBench$Deale\x72" "BODIES" "[I" ∈ BW := iB_BW52 _ (List.mem_of_getElem? (i := 2) rfl)
theorem gX2_dealAs_2 : (decode cX2_dealAs 38 = .ok (.iload 5, 2)) ∧ (decode cX2_dealAs 40 = .ok (.iconst 4, 1)) ∧ (decode cX2_dealAs 41 = .ok (.imul, 1)) ∧ (decode cX2_dealAs 42 = .ok (.iload_n 2, 1)) ∧ (decode cX2_dealAs 43 = .ok (.iadd, 1)) ∧ (decode cX2_dealAs 44 = .ok (.iaload, 1)) ∧ (decode cX2_dealAs 45 = .ok (.istore 7, 2)) ∧ (decode cX2_dealAs 47 = .ok (.iload 7, 2)) ∧ (decode cX2_dealAs 49 = .ok (.ifCond .eq 17, 3)) ∧ (decode cX2_dealAs 52 = .ok (.aload_n 0, 1)) := by decide +kernel
theorem gX2_dealAs_3 : (decode cX2_dealAs 53 = .ok (.iload 7, 2)) ∧ (decode cX2_dealAs 55 = .ok (.iload 5, 2)) ∧ (decode cX2_dealAs 57 = .ok (.iload_n 3, 1)) ∧ (decode cX2_dealAs 58 = .ok (.iload 4, 2)) ∧ (decode cX2_dealAs 60 = .ok (.iconst 1, 1)) ∧ (decode cX2_dealAs 61 = .ok (.iadd, 1)) ∧ (decode cX2_dealAs 62 = .ok (.invokevirtual 75, 3)) ∧ (decode cX2_dealAs 65 = .ok (.ireturn, 1)) ∧ (decode cX2_dealAs 66 = .ok (.getstatic 65, 3)) ∧ (decode cX2_dealAs 69 = .ok (.iload 5, 2)) := by decide +kernel
theorem m_976 : Cond.code yX2_run cX2_run 7 (some .int) ∈ BW := iB_BW52 _ (List.mem_of_getElem? (i := 5) rfl)
theorem m_974 : Cond.methodLink RX2 75 yX2_run ∈ BW := iB_BW52 _ (List.mem_of_getElem? (i := 3) rfl)
theorem m_975 : Cond.instanceMethod yX2_run ∈ BW := iB_BW52 _ (List.mem_of_getElem? (i := 4) rfl)
theorem m_44 : Cond.selects RX2 yX2_run yX2_run ∈ BW := iB_BW2 _ (List.mem_of_getElem? (i := 4) rfl)
theorem si_X2_75 : SV RX2 RX2 75 yX2_run cX2_run 7 (some .int) 4 := ⟨⟨m_974, m_975, m_44, m_114, m_976⟩, rfl, nK_RX2.1, nK_RX2.2, pd_17⟩
theorem gX2_upper_0 : (decode cX2_upper 0 = .ok (.iload_n 1, 1)) ∧ (decode cX2_upper 1 = .ok (.iconst 0, 1)) ∧ (decode cX2_upper 2 = .ok (.bipush 6, 2)) ∧ (decode cX2_upper 4 = .ok (.invokestatic 61, 3)) ∧ (decode cX2_upper 7 = .ok (.ifCond .eq 19, 3)) ∧ (decode cX2_upper 10 = .ok (.aload_n 0, 1)) ∧ (decode cX2_upper 11 = .ok (.getstatic 65, 3)) ∧ (decode cX2_upper 14 = .ok (.iload_n 1, 1)) ∧ (decode cX2_upper 15 = .ok (.iaload, 1)) ∧ (decode cX2_upper 16 = .ok (.iload_n 2, 1)) := by decide +kernel
theorem gX2_upper_1 : (decode cX2_upper 17 = .ok (.iload_n 3, 1)) ∧ (decode cX2_upper 18 = .ok (.iload 4, 2)) ∧ (decode cX2_upper 20 = .ok (.invokevirtual 68, 3)) ∧ (decode cX2_upper 23 = .ok (.goto 4, 3)) ∧ (decode cX2_upper 26 = .ok (.iconst 0, 1)) ∧ (decode cX2_upper 27 = .ok (.ireturn, 1)) := by decide +kernel
theorem m_972 : Cond.code yX2_dealAs cX2_dealAs 8 (some .int) ∈ BW := iB_BW52 _ (List.mem_of_getElem? (i := 1) rfl)
theorem m_970 : Cond.methodLink RX2 68 yX2_dealAs ∈ BW := iB_BW51 _ (List.mem_of_getElem? (i := 19) rfl)
theorem m_971 : Cond.instanceMethod yX2_dealAs ∈ BW := iB_BW52 _ (List.mem_of_getElem? (i := 0) rfl)
theorem m_43 : Cond.selects RX2 yX2_dealAs yX2_dealAs ∈ BW := iB_BW2 _ (List.mem_of_getElem? (i := 3) rfl)
theorem si_X2_68 : SV RX2 RX2 68 yX2_dealAs cX2_dealAs 8 (some .int) 4 := ⟨⟨m_970, m_971, m_43, m_114, m_972⟩, rfl, nK_RX2.1, nK_RX2.2, pd_17⟩
theorem gX2_run_0 : (decode cX2_run 0 = .ok (.iload 4, 2)) ∧ (decode cX2_run 2 = .ok (.bipush 20, 2)) ∧ (decode cX2_run 4 = .ok (.if_icmp .le 5, 3)) ∧ (decode cX2_run 7 = .ok (.iconst 0, 1)) ∧ (decode cX2_run 8 = .ok (.ireturn, 1)) ∧ (decode cX2_run 9 = .ok (.aload_n 0, 1)) ∧ (decode cX2_run 10 = .ok (.getfield 19, 3)) ∧ (decode cX2_run 13 = .ok (.bipush 30, 2)) ∧ (decode cX2_run 15 = .ok (.if_icmp .ge 23, 3)) ∧ (decode cX2_run 18 = .ok (.aload_n 0, 1)) := by decide +kernel
theorem gX2_run_2 : (decode cX2_run 35 = .ok (.putfield 19, 3)) ∧ (decode cX2_run 38 = .ok (.iload_n 1, 1)) ∧ (decode cX2_run 39 = .ok (.lookupswitch 320 #[(10, 113), (11, 120), (12, 135), (13, 153), (20, 159), (30, 174), (40, 186), (41, 198), (50, 210), (51, 225), (60, 252), (61, 264), (70, 279)], 113)) ∧ (decode cX2_run 152 = .ok (.iload_n 3, 1)) ∧ (decode cX2_run 153 = .ok (.aload_n 0, 1)) ∧ (decode cX2_run 154 = .ok (.getfield 32, 3)) ∧ (decode cX2_run 157 = .ok (.iadd, 1)) ∧ (decode cX2_run 158 = .ok (.ireturn, 1)) ∧ (decode cX2_run 159 = .ok (.aload_n 0, 1)) ∧ (decode cX2_run 160 = .ok (.aload_n 0, 1)) := by decide +kernel
theorem gf_X2_32 (hC : CX p s m meth c y0 b0 mL0 rt0 args) (hy0 : y0.cls = RX2) (hK : KK G s) (hP : va_P G.1 vwCl ws H) (q0 : Nat) {fs : List Value} {v : Value} (he : ws[q0]? = some (a, .inr (2, fs))) (hv : fs[6]? = some v) (hdg : decode b0 pc = .ok (.getfield 32, 3)) (kk : W p l e R s m args below meth c H locs cells slots Q (F0 m (pc + 3) ls (v :: rest))) : W p l e R s m args below meth c H locs cells slots Q (F0 m pc ls (.ref a :: rest)) := by
  obtain ⟨hx, hb, hr, hml, hB, hown, hlocks, hnm⟩ := hC
  rw [hy0] at hown
  exact va_get (ci := 2) (C := RX2) (T := TX2) (N := 8) hx hb hB in_X2 hown hK.1 hP q0 he rfl 6 (by decide) (hB _ m_275) (fun _ h => h) hv hdg kk
theorem gX2_run_3 : (decode cX2_run 161 = .ok (.getfield 23, 3)) ∧ (decode cX2_run 164 = .ok (.iconst 0, 1)) ∧ (decode cX2_run 165 = .ok (.iload_n 3, 1)) ∧ (decode cX2_run 166 = .ok (.iload 4, 2)) ∧ (decode cX2_run 168 = .ok (.invokevirtual 68, 3)) ∧ (decode cX2_run 171 = .ok (.iconst 2, 1)) ∧ (decode cX2_run 172 = .ok (.imul, 1)) ∧ (decode cX2_run 173 = .ok (.ireturn, 1)) ∧ (decode cX2_run 174 = .ok (.aload_n 0, 1)) ∧ (decode cX2_run 175 = .ok (.aload_n 0, 1)) := by decide +kernel
theorem gX2_run_4 : (decode cX2_run 176 = .ok (.getfield 23, 3)) ∧ (decode cX2_run 179 = .ok (.iconst 1, 1)) ∧ (decode cX2_run 180 = .ok (.iload_n 3, 1)) ∧ (decode cX2_run 181 = .ok (.iload 4, 2)) ∧ (decode cX2_run 183 = .ok (.invokevirtual 68, 3)) ∧ (decode cX2_run 186 = .ok (.aload_n 0, 1)) ∧ (decode cX2_run 187 = .ok (.getfield 29, 3)) ∧ (decode cX2_run 190 = .ok (.isub, 1)) ∧ (decode cX2_run 191 = .ok (.ireturn, 1)) ∧ (decode cX2_run 192 = .ok (.aload_n 0, 1)) := by decide +kernel
theorem gX2_run_5 : (decode cX2_run 193 = .ok (.iload_n 3, 1)) ∧ (decode cX2_run 194 = .ok (.invokevirtual 78, 3)) ∧ (decode cX2_run 197 = .ok (.ireturn, 1)) ∧ (decode cX2_run 198 = .ok (.aload_n 0, 1)) ∧ (decode cX2_run 199 = .ok (.iload_n 2, 1)) ∧ (decode cX2_run 200 = .ok (.iconst 1, 1)) ∧ (decode cX2_run 201 = .ok (.iload_n 3, 1)) ∧ (decode cX2_run 202 = .ok (.iload 4, 2)) ∧ (decode cX2_run 204 = .ok (.invokevirtual 81, 3)) ∧ (decode cX2_run 207 = .ok (.aload_n 0, 1)) := by decide +kernel
theorem m_979 : Cond.code yX2_quotient cX2_quotient 3 (some .int) ∈ BW := iB_BW52 _ (List.mem_of_getElem? (i := 8) rfl)
theorem m_977 : Cond.methodLink RX2 78 yX2_quotient ∈ BW := iB_BW52 _ (List.mem_of_getElem? (i := 6) rfl)
theorem m_978 : Cond.instanceMethod yX2_quotient ∈ BW := iB_BW52 _ (List.mem_of_getElem? (i := 7) rfl)
theorem m_45 : Cond.selects RX2 yX2_quotient yX2_quotient ∈ BW := iB_BW2 _ (List.mem_of_getElem? (i := 5) rfl)
theorem si_X2_78 : SV RX2 RX2 78 yX2_quotient cX2_quotient 3 (some .int) 1 := ⟨⟨m_977, m_978, m_45, m_114, m_979⟩, rfl, nK_RX2.1, nK_RX2.2, pd_7⟩
theorem m_982 : Cond.code yX2_upper cX2_upper 5 (some .int) ∈ BW := iB_BW52 _ (List.mem_of_getElem? (i := 11) rfl)
theorem m_980 : Cond.methodLink RX2 81 yX2_upper ∈ BW := iB_BW52 _ (List.mem_of_getElem? (i := 9) rfl)
theorem m_981 : Cond.instanceMethod yX2_upper ∈ BW := iB_BW52 _ (List.mem_of_getElem? (i := 10) rfl)
theorem m_46 : Cond.selects RX2 yX2_upper yX2_upper ∈ BW := iB_BW2 _ (List.mem_of_getElem? (i := 6) rfl)
theorem si_X2_81 : SV RX2 RX2 81 yX2_upper cX2_upper 5 (some .int) 4 := ⟨⟨m_980, m_981, m_46, m_114, m_982⟩, rfl, nK_RX2.1, nK_RX2.2, pd_17⟩
theorem gX2_run_6 : (decode cX2_run 208 = .ok (.getfield 26, 3)) ∧ (decode cX2_run 211 = .ok (.ixor, 1)) ∧ (decode cX2_run 212 = .ok (.ireturn, 1)) ∧ (decode cX2_run 213 = .ok (.aload_n 0, 1)) ∧ (decode cX2_run 214 = .ok (.iload_n 2, 1)) ∧ (decode cX2_run 215 = .ok (.iconst 2, 1)) ∧ (decode cX2_run 216 = .ok (.iload_n 3, 1)) ∧ (decode cX2_run 217 = .ok (.iload 4, 2)) ∧ (decode cX2_run 219 = .ok (.invokevirtual 81, 3)) ∧ (decode cX2_run 222 = .ok (.iconst 3, 1)) := by decide +kernel
theorem gX2_run_7 : (decode cX2_run 223 = .ok (.imul, 1)) ∧ (decode cX2_run 224 = .ok (.ireturn, 1)) ∧ (decode cX2_run 225 = .ok (.iconst 0, 1)) ∧ (decode cX2_run 226 = .ok (.aload_n 0, 1)) ∧ (decode cX2_run 227 = .ok (.iload_n 2, 1)) ∧ (decode cX2_run 228 = .ok (.iconst 1, 1)) ∧ (decode cX2_run 229 = .ok (.iload_n 3, 1)) ∧ (decode cX2_run 230 = .ok (.iload 4, 2)) ∧ (decode cX2_run 232 = .ok (.invokevirtual 81, 3)) ∧ (decode cX2_run 235 = .ok (.isub, 1)) := by decide +kernel
theorem gX2_run_8 : (decode cX2_run 236 = .ok (.ireturn, 1)) ∧ (decode cX2_run 237 = .ok (.aload_n 0, 1)) ∧ (decode cX2_run 238 = .ok (.iload_n 2, 1)) ∧ (decode cX2_run 239 = .ok (.iconst 3, 1)) ∧ (decode cX2_run 240 = .ok (.iload_n 3, 1)) ∧ (decode cX2_run 241 = .ok (.iconst 2, 1)) ∧ (decode cX2_run 242 = .ok (.iadd, 1)) ∧ (decode cX2_run 243 = .ok (.iload 4, 2)) ∧ (decode cX2_run 245 = .ok (.invokevirtual 81, 3)) ∧ (decode cX2_run 248 = .ok (.ireturn, 1)) := by decide +kernel
theorem gX2_run_9 : (decode cX2_run 249 = .ok (.aload_n 0, 1)) ∧ (decode cX2_run 250 = .ok (.iload_n 2, 1)) ∧ (decode cX2_run 251 = .ok (.iconst 0, 1)) ∧ (decode cX2_run 252 = .ok (.iload_n 3, 1)) ∧ (decode cX2_run 253 = .ok (.iload 4, 2)) ∧ (decode cX2_run 255 = .ok (.invokevirtual 81, 3)) ∧ (decode cX2_run 258 = .ok (.aload_n 0, 1)) ∧ (decode cX2_run 259 = .ok (.getfield 26, 3)) ∧ (decode cX2_run 262 = .ok (.isub, 1)) ∧ (decode cX2_run 263 = .ok (.ireturn, 1)) := by decide +kernel
theorem gX2_run_10 : (decode cX2_run 264 = .ok (.aload_n 0, 1)) ∧ (decode cX2_run 265 = .ok (.iload_n 2, 1)) ∧ (decode cX2_run 266 = .ok (.iconst 2, 1)) ∧ (decode cX2_run 267 = .ok (.iload_n 3, 1)) ∧ (decode cX2_run 268 = .ok (.iload 4, 2)) ∧ (decode cX2_run 270 = .ok (.invokevirtual 81, 3)) ∧ (decode cX2_run 273 = .ok (.istore 5, 2)) ∧ (decode cX2_run 275 = .ok (.iload 5, 2)) ∧ (decode cX2_run 277 = .ok (.aload_n 0, 1)) ∧ (decode cX2_run 278 = .ok (.aload_n 0, 1)) := by decide +kernel
theorem gX2_run_11 : (decode cX2_run 279 = .ok (.getfield 23, 3)) ∧ (decode cX2_run 282 = .ok (.iconst 1, 1)) ∧ (decode cX2_run 283 = .ok (.iconst 1, 1)) ∧ (decode cX2_run 284 = .ok (.iload 4, 2)) ∧ (decode cX2_run 286 = .ok (.invokevirtual 68, 3)) ∧ (decode cX2_run 289 = .ok (.iadd, 1)) ∧ (decode cX2_run 290 = .ok (.ireturn, 1)) ∧ (decode cX2_run 291 = .ok (.aload_n 0, 1)) ∧ (decode cX2_run 292 = .ok (.iload_n 2, 1)) ∧ (decode cX2_run 293 = .ok (.iconst 2, 1)) := by decide +kernel
theorem gX2_run_12 : (decode cX2_run 294 = .ok (.iload_n 3, 1)) ∧ (decode cX2_run 295 = .ok (.iload 4, 2)) ∧ (decode cX2_run 297 = .ok (.invokevirtual 81, 3)) ∧ (decode cX2_run 300 = .ok (.iconst 2, 1)) ∧ (decode cX2_run 301 = .ok (.imul, 1)) ∧ (decode cX2_run 302 = .ok (.ireturn, 1)) ∧ (decode cX2_run 303 = .ok (.aload_n 0, 1)) ∧ (decode cX2_run 304 = .ok (.iload_n 2, 1)) ∧ (decode cX2_run 305 = .ok (.iconst 0, 1)) ∧ (decode cX2_run 306 = .ok (.iload_n 3, 1)) := by decide +kernel
theorem gX2_run_13 : (decode cX2_run 307 = .ok (.aload_n 0, 1)) ∧ (decode cX2_run 308 = .ok (.getfield 29, 3)) ∧ (decode cX2_run 311 = .ok (.iadd, 1)) ∧ (decode cX2_run 312 = .ok (.iload 4, 2)) ∧ (decode cX2_run 314 = .ok (.invokevirtual 81, 3)) ∧ (decode cX2_run 317 = .ok (.ireturn, 1)) ∧ (decode cX2_run 318 = .ok (.aload_n 0, 1)) ∧ (decode cX2_run 319 = .ok (.iload_n 2, 1)) ∧ (decode cX2_run 320 = .ok (.iconst 3, 1)) ∧ (decode cX2_run 321 = .ok (.iload_n 3, 1)) := by decide +kernel
theorem gX2_run_14 : (decode cX2_run 322 = .ok (.iload 4, 2)) ∧ (decode cX2_run 324 = .ok (.invokevirtual 81, 3)) ∧ (decode cX2_run 327 = .ok (.istore 6, 2)) ∧ (decode cX2_run 329 = .ok (.aload_n 0, 1)) ∧ (decode cX2_run 330 = .ok (.getfield 35, 3)) ∧ (decode cX2_run 333 = .ok (.ifCond .eq 7, 3)) ∧ (decode cX2_run 336 = .ok (.iconst 0, 1)) ∧ (decode cX2_run 337 = .ok (.goto 21, 3)) ∧ (decode cX2_run 340 = .ok (.iload 6, 2)) ∧ (decode cX2_run 342 = .ok (.aload_n 0, 1)) := by decide +kernel
theorem gf_X2_35 (hC : CX p s m meth c y0 b0 mL0 rt0 args) (hy0 : y0.cls = RX2) (hK : KK G s) (hP : va_P G.1 vwCl ws H) (q0 : Nat) {fs : List Value} {v : Value} (he : ws[q0]? = some (a, .inr (2, fs))) (hv : fs[7]? = some v) (hdg : decode b0 pc = .ok (.getfield 35, 3)) (kk : W p l e R s m args below meth c H locs cells slots Q (F0 m (pc + 3) ls (v :: rest))) : W p l e R s m args below meth c H locs cells slots Q (F0 m pc ls (.ref a :: rest)) := by
  obtain ⟨hx, hb, hr, hml, hB, hown, hlocks, hnm⟩ := hC
  rw [hy0] at hown
  exact va_get (ci := 2) (C := RX2) (T := TX2) (N := 8) hx hb hB in_X2 hown hK.1 hP q0 he rfl 7 (by decide) (hB _ m_276) (fun _ h => h) hv hdg kk
theorem gX2_run_15 : (decode cX2_run 343 = .ok (.aload_n 0, 1)) ∧ (decode cX2_run 344 = .ok (.getfield 23, 3)) ∧ (decode cX2_run 347 = .ok (.iconst 0, 1)) ∧ (decode cX2_run 348 = .ok (.aload_n 0, 1)) ∧ (decode cX2_run 349 = .ok (.getfield 26, 3)) ∧ (decode cX2_run 352 = .ok (.iload 4, 2)) ∧ (decode cX2_run 354 = .ok (.invokevirtual 68, 3)) ∧ (decode cX2_run 357 = .ok (.isub, 1)) ∧ (decode cX2_run 358 = .ok (.ireturn, 1)) ∧ (decode cX2_run 359 = .ok (.iconst 0, 1)) := by decide +kernel
theorem gX2_run_16 : (decode cX2_run 360 = .ok (.ireturn, 1)) := by decide +kernel
theorem gX2_run_1 : (decode cX2_run 19 = .ok (.getfield 11, 3)) ∧ (decode cX2_run 22 = .ok (.aload_n 0, 1)) ∧ (decode cX2_run 23 = .ok (.getfield 19, 3)) ∧ (decode cX2_run 26 = .ok (.iload_n 1, 1)) ∧ (decode cX2_run 27 = .ok (.iastore, 1)) ∧ (decode cX2_run 28 = .ok (.aload_n 0, 1)) ∧ (decode cX2_run 29 = .ok (.dup, 1)) ∧ (decode cX2_run 30 = .ok (.getfield 19, 3)) ∧ (decode cX2_run 33 = .ok (.iconst 1, 1)) ∧ (decode cX2_run 34 = .ok (.iadd, 1)) := by decide +kernel
theorem gX2_answer_0 : (decode cX2_answer 0 = .ok (.aload_n 0, 1)) ∧ (decode cX2_answer 1 = .ok (.iconst 0, 1)) ∧ (decode cX2_answer 2 = .ok (.putfield 35, 3)) ∧ (decode cX2_answer 5 = .ok (.aload_n 0, 1)) ∧ (decode cX2_answer 6 = .ok (.aload_n 0, 1)) ∧ (decode cX2_answer 7 = .ok (.getfield 23, 3)) ∧ (decode cX2_answer 10 = .ok (.iload_n 1, 1)) ∧ (decode cX2_answer 11 = .ok (.iload_n 2, 1)) ∧ (decode cX2_answer 12 = .ok (.iconst 0, 1)) ∧ (decode cX2_answer 13 = .ok (.invokevirtual 68, 3)) := by decide +kernel
theorem gX2_answer_1 : (decode cX2_answer 16 = .ok (.istore_n 3, 1)) ∧ (decode cX2_answer 17 = .ok (.aload_n 0, 1)) ∧ (decode cX2_answer 18 = .ok (.getfield 35, 3)) ∧ (decode cX2_answer 21 = .ok (.ifCond .eq 8, 3)) ∧ (decode cX2_answer 24 = .ok (.bipush (-15), 2)) ∧ (decode cX2_answer 26 = .ok (.goto 4, 3)) ∧ (decode cX2_answer 29 = .ok (.iload_n 3, 1)) ∧ (decode cX2_answer 30 = .ok (.ireturn, 1)) := by decide +kernel
end WR
noncomputable def ifn (q : Prop) (a b : Nat) : Nat := @ite _ q (Classical.propDecidable q) a b
theorem ifn_t {q : Prop} {a b : Nat} (h : q) : ifn q a b = a := @if_pos q (Classical.propDecidable q) h _ a b
theorem ifn_f {q : Prop} {a b : Nat} (h : ¬ q) : ifn q a b = b := @if_neg q (Classical.propDecidable q) h _ a b
/-- the kind of a paper -/
noncomputable def PKn (to by9 lv : Int32) : Nat := ifn (to &&& ((1 <<< (by9 &&& 31)) ^^^ (-1)) = 0) 2 (ifn (0 < lv) 3 1)
/-- the kind of a saying -/
noncomputable def SKn (t : Int32) : Nat := ifn (t < 0) 5 4
theorem PKn.lt {a b c : Int32} : PKn a b c < 7 := by
  unfold PKn
  by_cases h : a &&& ((1 <<< (b &&& 31)) ^^^ (-1)) = 0
  · rw [ifn_t h]; decide
  · rw [ifn_f h]
    by_cases h2 : 0 < c
    · rw [ifn_t h2]; decide
    · rw [ifn_f h2]; decide
theorem SKn.lt {a : Int32} : SKn a < 7 := by
  unfold SKn
  by_cases h : a < 0
  · rw [ifn_t h]; decide
  · rw [ifn_f h]; decide
/-- a kind is, or is under, another -/
def UNl : Nat → Int32 → Prop
  | 0, a => a = 0
  | 1, a => a = 1 ∨ a = 0
  | 2, a => a = 2 ∨ a = 0
  | 3, a => a = 3 ∨ a = 1 ∨ a = 0
  | 4, a => a = 4 ∨ a = 0
  | 5, a => a = 5 ∨ a = 4 ∨ a = 0
  | _, a => a = 6 ∨ a = 0
/-- the kind of what a shelf holds -/
noncomputable def KNn (w : Int32) (n : Nat) (fp fs : Nat → Int32) : Nat := ifn (w = 0) (PKn (fp (n * 6 + 1)) (fp (n * 6 + 0)) (fp (n * 6 + 3))) (ifn (w = 1) (SKn (fs (n * 8 + 6))) 6)
/-- what a shelf holds, as long as it is there -/
noncomputable def HLD (w n : Int32) (kp ks kf : Nat) : Int32 := ifc (w = 0) (ifc (Hs n kp) w 4) (ifc (w = 1) (ifc (Hs n ks) w 4) (ifc (w = 2) (ifc (Hs n kf) w 4) w))
section WR
variable {p : Program} {l : Launch} {e : Env} {R : Room} {s : State} {m : MethodId} {args : Array Value} {below : List Frame} {meth : Method} {c : Code} {H : Heap} {locs : List Loc} {cells slots : Nat} {Q : State → Prop}
variable {pc : Nat} {ls : Array Slot} {rest : List Value} {G : GG} {K : OO} {ws : va_W} {A : Nat → Prop} {y0 : MethodName} {b0 : ByteArray} {mL0 : Nat} {rt0 : Option FieldType} {a : Nat} {H0 : Heap}
end WR
theorem HLD.v {w n : Int32} {kp ks kf : Nat} (h : HLD w n kp ks kf = 3) : w = 3 := by
  unfold HLD at h
  by_cases w0 : w = 0
  · rw [ifc_t w0] at h
    by_cases c : Hs n kp
    · rw [ifc_t c] at h; exact h
    · rw [ifc_f c] at h; exact absurd h (by decide)
  rw [ifc_f w0] at h
  by_cases w1 : w = 1
  · rw [ifc_t w1] at h
    by_cases c : Hs n ks
    · rw [ifc_t c] at h; exact h
    · rw [ifc_f c] at h; exact absurd h (by decide)
  rw [ifc_f w1] at h
  by_cases w2 : w = 2
  · rw [ifc_t w2] at h
    by_cases c : Hs n kf
    · rw [ifc_t c] at h; exact h
    · rw [ifc_f c] at h; exact absurd h (by decide)
  rw [ifc_f w2] at h
  exact h
theorem PKn.one {a b c : Int32} : PKn a b c = 1 ∨ PKn a b c = 2 ∨ PKn a b c = 3 := by
  unfold PKn
  by_cases h : a &&& ((1 <<< (b &&& 31)) ^^^ (-1)) = 0
  · rw [ifn_t h]; exact Or.inr (Or.inl rfl)
  · rw [ifn_f h]
    by_cases h2 : 0 < c
    · rw [ifn_t h2]; exact Or.inr (Or.inr rfl)
    · rw [ifn_f h2]; exact Or.inl rfl
theorem SKn.one {a : Int32} : SKn a = 4 ∨ SKn a = 5 := by
  unfold SKn
  by_cases h : a < 0
  · rw [ifn_t h]; exact Or.inr rfl
  · rw [ifn_f h]; exact Or.inl rfl
section WR
variable {p : Program} {l : Launch} {e : Env} {R : Room} {s : State} {m : MethodId} {args : Array Value} {below : List Frame} {meth : Method} {c : Code} {H : Heap} {locs : List Loc} {cells slots : Nat} {Q : State → Prop}
variable {pc : Nat} {ls : Array Slot} {rest : List Value} {G : GG} {K : OO} {ws : va_W} {A : Nat → Prop} {y0 : MethodName} {b0 : ByteArray} {mL0 : Nat} {rt0 : Option FieldType} {a : Nat} {H0 : Heap}
theorem gX11_taken_0 : (decode cX11_taken 0 = .ok (.iload_n 1, 1)) ∧ (decode cX11_taken 1 = .ok (.invokestatic 318, 3)) ∧ (decode cX11_taken 4 = .ok (.ifCond .eq 23, 3)) ∧ (decode cX11_taken 7 = .ok (.iload_n 2, 1)) ∧ (decode cX11_taken 8 = .ok (.iconst 0, 1)) ∧ (decode cX11_taken 9 = .ok (.bipush 6, 2)) ∧ (decode cX11_taken 11 = .ok (.invokestatic 83, 3)) ∧ (decode cX11_taken 14 = .ok (.ifCond .ne 15, 3)) ∧ (decode cX11_taken 17 = .ok (.iload_n 2, 1)) ∧ (decode cX11_taken 18 = .ok (.bipush 10, 2)) := by decide +kernel
theorem gX11_taken_1 : (decode cX11_taken 20 = .ok (.isub, 1)) ∧ (decode cX11_taken 21 = .ok (.invokestatic 315, 3)) ∧ (decode cX11_taken 24 = .ok (.ifCond .ne 5, 3)) ∧ (decode cX11_taken 27 = .ok (.iconst (-1), 1)) ∧ (decode cX11_taken 28 = .ok (.ireturn, 1)) ∧ (decode cX11_taken 29 = .ok (.aload_n 0, 1)) ∧ (decode cX11_taken 30 = .ok (.getfield 72, 3)) ∧ (decode cX11_taken 33 = .ok (.iload_n 1, 1)) ∧ (decode cX11_taken 34 = .ok (.aload_n 0, 1)) ∧ (decode cX11_taken 35 = .ok (.getfield 15, 3)) := by decide +kernel
theorem gX11_taken_2 : (decode cX11_taken 38 = .ok (.invokevirtual 327, 3)) ∧ (decode cX11_taken 41 = .ok (.istore_n 3, 1)) ∧ (decode cX11_taken 42 = .ok (.iload_n 3, 1)) ∧ (decode cX11_taken 43 = .ok (.iconst 4, 1)) ∧ (decode cX11_taken 44 = .ok (.if_icmp .ne 6, 3)) ∧ (decode cX11_taken 47 = .ok (.bipush (-11), 2)) ∧ (decode cX11_taken 49 = .ok (.ireturn, 1)) ∧ (decode cX11_taken 50 = .ok (.iload_n 3, 1)) ∧ (decode cX11_taken 51 = .ok (.iconst 3, 1)) ∧ (decode cX11_taken 52 = .ok (.if_icmp .ne 32, 3)) := by decide +kernel
theorem m_935 : Cond.code yX4_held cX4_held 4 (some .int) ∈ BW := iB_BW50 _ (List.mem_of_getElem? (i := 4) rfl)
theorem pd_28 : (parseMethodDescriptor "(ILInquiryBench$Book;)I").map (fun d => d.parameters.length) = some 2 := by decide +kernel
theorem m_932 : Cond.methodLink RX11 327 yX4_held ∈ BW := iB_BW50 _ (List.mem_of_getElem? (i := 1) rfl)
theorem m_933 : Cond.instanceMethod yX4_held ∈ BW := iB_BW50 _ (List.mem_of_getElem? (i := 2) rfl)
theorem m_934 : Cond.selects RX4 yX4_held yX4_held ∈ BW := iB_BW50 _ (List.mem_of_getElem? (i := 3) rfl)
theorem si_X11_327 : SV RX11 RX4 327 yX4_held cX4_held 4 (some .int) 2 := ⟨⟨m_932, m_933, m_934, m_113, m_935⟩, rfl, nK_RX4.1, nK_RX4.2, pd_28⟩
theorem gX11_taken_4 : (decode cX11_taken 74 = .ok (.iload_n 1, 1)) ∧ (decode cX11_taken 75 = .ok (.invokevirtual 334, 3)) ∧ (decode cX11_taken 78 = .ok (.goto 5, 3)) ∧ (decode cX11_taken 81 = .ok (.bipush (-13), 2)) ∧ (decode cX11_taken 83 = .ok (.ireturn, 1)) ∧ (decode cX11_taken 84 = .ok (.aload_n 0, 1)) ∧ (decode cX11_taken 85 = .ok (.getfield 79, 3)) ∧ (decode cX11_taken 88 = .ok (.iload_n 3, 1)) ∧ (decode cX11_taken 89 = .ok (.aload_n 0, 1)) ∧ (decode cX11_taken 90 = .ok (.getfield 72, 3)) := by decide +kernel
theorem gX11_taken_5 : (decode cX11_taken 93 = .ok (.iload_n 1, 1)) ∧ (decode cX11_taken 94 = .ok (.invokevirtual 334, 3)) ∧ (decode cX11_taken 97 = .ok (.invokevirtual 337, 3)) ∧ (decode cX11_taken 100 = .ok (.aload_n 0, 1)) ∧ (decode cX11_taken 101 = .ok (.getfield 79, 3)) ∧ (decode cX11_taken 104 = .ok (.iload_n 2, 1)) ∧ (decode cX11_taken 105 = .ok (.invokevirtual 340, 3)) ∧ (decode cX11_taken 108 = .ok (.ifCond .eq 14, 3)) ∧ (decode cX11_taken 111 = .ok (.aload_n 0, 1)) ∧ (decode cX11_taken 112 = .ok (.getfield 72, 3)) := by decide +kernel
theorem m_944 : Cond.code yX4_heldNumber cX4_heldNumber 2 (some .int) ∈ BW := iB_BW50 _ (List.mem_of_getElem? (i := 13) rfl)
theorem m_941 : Cond.methodLink RX11 334 yX4_heldNumber ∈ BW := iB_BW50 _ (List.mem_of_getElem? (i := 10) rfl)
theorem m_942 : Cond.instanceMethod yX4_heldNumber ∈ BW := iB_BW50 _ (List.mem_of_getElem? (i := 11) rfl)
theorem m_943 : Cond.selects RX4 yX4_heldNumber yX4_heldNumber ∈ BW := iB_BW50 _ (List.mem_of_getElem? (i := 12) rfl)
theorem si_X11_334 : SV RX11 RX4 334 yX4_heldNumber cX4_heldNumber 2 (some .int) 1 := ⟨⟨m_941, m_942, m_943, m_113, m_944⟩, rfl, nK_RX4.1, nK_RX4.2, pd_7⟩
theorem m_948 : Cond.code yX2_grasp cX2_grasp 3 none ∈ BW := iB_BW50 _ (List.mem_of_getElem? (i := 17) rfl)
theorem m_945 : Cond.methodLink RX11 337 yX2_grasp ∈ BW := iB_BW50 _ (List.mem_of_getElem? (i := 14) rfl)
theorem m_946 : Cond.instanceMethod yX2_grasp ∈ BW := iB_BW50 _ (List.mem_of_getElem? (i := 15) rfl)
theorem m_947 : Cond.selects RX2 yX2_grasp yX2_grasp ∈ BW := iB_BW50 _ (List.mem_of_getElem? (i := 16) rfl)
theorem si_X11_337 : SV RX11 RX2 337 yX2_grasp cX2_grasp 3 none 2 := ⟨⟨m_945, m_946, m_947, m_114, m_948⟩, rfl, nK_RX2.1, nK_RX2.2, pd_14⟩
theorem m_956 : Cond.code yX2_isUnder cX2_isUnder 4 (some .boolean) ∈ BW := iB_BW51 _ (List.mem_of_getElem? (i := 5) rfl)
theorem m_953 : Cond.methodLink RX11 340 yX2_isUnder ∈ BW := iB_BW51 _ (List.mem_of_getElem? (i := 2) rfl)
theorem m_954 : Cond.instanceMethod yX2_isUnder ∈ BW := iB_BW51 _ (List.mem_of_getElem? (i := 3) rfl)
theorem m_955 : Cond.selects RX2 yX2_isUnder yX2_isUnder ∈ BW := iB_BW51 _ (List.mem_of_getElem? (i := 4) rfl)
theorem si_X11_340 : SV RX11 RX2 340 yX2_isUnder cX2_isUnder 4 (some .boolean) 1 := ⟨⟨m_953, m_954, m_955, m_114, m_956⟩, rfl, nK_RX2.1, nK_RX2.2, pd_5⟩
theorem gX11_taken_6 : (decode cX11_taken 115 = .ok (.iload_n 1, 1)) ∧ (decode cX11_taken 116 = .ok (.invokevirtual 334, 3)) ∧ (decode cX11_taken 119 = .ok (.goto 5, 3)) ∧ (decode cX11_taken 122 = .ok (.bipush (-13), 2)) ∧ (decode cX11_taken 124 = .ok (.ireturn, 1)) := by decide +kernel
theorem gX11_taken_3 : (decode cX11_taken 55 = .ok (.aload_n 0, 1)) ∧ (decode cX11_taken 56 = .ok (.getfield 72, 3)) ∧ (decode cX11_taken 59 = .ok (.iload_n 1, 1)) ∧ (decode cX11_taken 60 = .ok (.invokevirtual 331, 3)) ∧ (decode cX11_taken 63 = .ok (.iload_n 2, 1)) ∧ (decode cX11_taken 64 = .ok (.bipush 10, 2)) ∧ (decode cX11_taken 66 = .ok (.isub, 1)) ∧ (decode cX11_taken 67 = .ok (.if_icmp .ne 14, 3)) ∧ (decode cX11_taken 70 = .ok (.aload_n 0, 1)) ∧ (decode cX11_taken 71 = .ok (.getfield 72, 3)) := by decide +kernel
theorem m_940 : Cond.code yX4_heldSort cX4_heldSort 2 (some .int) ∈ BW := iB_BW50 _ (List.mem_of_getElem? (i := 9) rfl)
theorem m_937 : Cond.methodLink RX11 331 yX4_heldSort ∈ BW := iB_BW50 _ (List.mem_of_getElem? (i := 6) rfl)
theorem m_938 : Cond.instanceMethod yX4_heldSort ∈ BW := iB_BW50 _ (List.mem_of_getElem? (i := 7) rfl)
theorem m_939 : Cond.selects RX4 yX4_heldSort yX4_heldSort ∈ BW := iB_BW50 _ (List.mem_of_getElem? (i := 8) rfl)
theorem si_X11_331 : SV RX11 RX4 331 yX4_heldSort cX4_heldSort 2 (some .int) 1 := ⟨⟨m_937, m_938, m_939, m_113, m_940⟩, rfl, nK_RX4.1, nK_RX4.2, pd_7⟩
theorem gX11_deal_0 : (decode cX11_deal 0 = .ok (.aload_n 0, 1)) ∧ (decode cX11_deal 1 = .ok (.getfield 79, 3)) ∧ (decode cX11_deal 4 = .ok (.invokevirtual 343, 3)) ∧ (decode cX11_deal 7 = .ok (.iload_n 1, 1)) ∧ (decode cX11_deal 8 = .ok (.invokestatic 318, 3)) ∧ (decode cX11_deal 11 = .ok (.ifCond .eq 12, 3)) ∧ (decode cX11_deal 14 = .ok (.iload_n 2, 1)) ∧ (decode cX11_deal 15 = .ok (.iconst 0, 1)) ∧ (decode cX11_deal 16 = .ok (.iconst 3, 1)) ∧ (decode cX11_deal 17 = .ok (.invokestatic 83, 3)) := by decide +kernel
theorem m_965 : Cond.code yX2_clearTrace cX2_clearTrace 1 none ∈ BW := iB_BW51 _ (List.mem_of_getElem? (i := 14) rfl)
theorem m_962 : Cond.methodLink RX11 343 yX2_clearTrace ∈ BW := iB_BW51 _ (List.mem_of_getElem? (i := 11) rfl)
theorem m_963 : Cond.instanceMethod yX2_clearTrace ∈ BW := iB_BW51 _ (List.mem_of_getElem? (i := 12) rfl)
theorem m_964 : Cond.selects RX2 yX2_clearTrace yX2_clearTrace ∈ BW := iB_BW51 _ (List.mem_of_getElem? (i := 13) rfl)
theorem si_X11_343 : SV RX11 RX2 343 yX2_clearTrace cX2_clearTrace 1 none 0 := ⟨⟨m_962, m_963, m_964, m_114, m_965⟩, rfl, nK_RX2.1, nK_RX2.2, pd_9⟩
theorem gX11_deal_1 : (decode cX11_deal 20 = .ok (.ifCond .ne 5, 3)) ∧ (decode cX11_deal 23 = .ok (.iconst 0, 1)) ∧ (decode cX11_deal 24 = .ok (.ireturn, 1)) ∧ (decode cX11_deal 25 = .ok (.aload_n 0, 1)) ∧ (decode cX11_deal 26 = .ok (.getfield 72, 3)) ∧ (decode cX11_deal 29 = .ok (.iload_n 1, 1)) ∧ (decode cX11_deal 30 = .ok (.aload_n 0, 1)) ∧ (decode cX11_deal 31 = .ok (.getfield 15, 3)) ∧ (decode cX11_deal 34 = .ok (.invokevirtual 327, 3)) ∧ (decode cX11_deal 37 = .ok (.istore 4, 2)) := by decide +kernel
theorem gX11_deal_2 : (decode cX11_deal 39 = .ok (.iload 4, 2)) ∧ (decode cX11_deal 41 = .ok (.iconst 4, 1)) ∧ (decode cX11_deal 42 = .ok (.if_icmp .eq 9, 3)) ∧ (decode cX11_deal 45 = .ok (.iload 4, 2)) ∧ (decode cX11_deal 47 = .ok (.iconst 3, 1)) ∧ (decode cX11_deal 48 = .ok (.if_icmp .ne 5, 3)) ∧ (decode cX11_deal 51 = .ok (.iconst 0, 1)) ∧ (decode cX11_deal 52 = .ok (.ireturn, 1)) ∧ (decode cX11_deal 53 = .ok (.aload_n 0, 1)) ∧ (decode cX11_deal 54 = .ok (.getfield 79, 3)) := by decide +kernel
theorem gX11_deal_3 : (decode cX11_deal 57 = .ok (.iload 4, 2)) ∧ (decode cX11_deal 59 = .ok (.aload_n 0, 1)) ∧ (decode cX11_deal 60 = .ok (.getfield 72, 3)) ∧ (decode cX11_deal 63 = .ok (.iload_n 1, 1)) ∧ (decode cX11_deal 64 = .ok (.invokevirtual 334, 3)) ∧ (decode cX11_deal 67 = .ok (.invokevirtual 337, 3)) ∧ (decode cX11_deal 70 = .ok (.aload_n 0, 1)) ∧ (decode cX11_deal 71 = .ok (.getfield 79, 3)) ∧ (decode cX11_deal 74 = .ok (.iload_n 2, 1)) ∧ (decode cX11_deal 75 = .ok (.iload_n 3, 1)) := by decide +kernel
theorem gX11_deal_4 : (decode cX11_deal 76 = .ok (.invokevirtual 346, 3)) ∧ (decode cX11_deal 79 = .ok (.ireturn, 1)) := by decide +kernel
theorem m_969 : Cond.code yX2_answer cX2_answer 4 (some .int) ∈ BW := iB_BW51 _ (List.mem_of_getElem? (i := 18) rfl)
theorem m_966 : Cond.methodLink RX11 346 yX2_answer ∈ BW := iB_BW51 _ (List.mem_of_getElem? (i := 15) rfl)
theorem m_967 : Cond.instanceMethod yX2_answer ∈ BW := iB_BW51 _ (List.mem_of_getElem? (i := 16) rfl)
theorem m_968 : Cond.selects RX2 yX2_answer yX2_answer ∈ BW := iB_BW51 _ (List.mem_of_getElem? (i := 17) rfl)
theorem si_X11_346 : SV RX11 RX2 346 yX2_answer cX2_answer 4 (some .int) 2 := ⟨⟨m_966, m_967, m_968, m_114, m_969⟩, rfl, nK_RX2.1, nK_RX2.2, pd_2⟩
end WR
theorem sm_6_7 {a0 a1 a2 a3 a4 a5 a6 a7 : Nat × va_E} {l : va_W} : ([6, 7] : List Nat).map (fun i => (a0 :: a1 :: a2 :: a3 :: a4 :: a5 :: a6 :: a7 :: l : va_W)[i]?) = ([a6, a7] : va_W).map some := rfl
theorem fm_6_7 {a0 a1 a2 a3 a4 a5 a6 a7 : Nat × va_E} {l : va_W} : ([6, 7] : List Nat).filterMap (fun i => (a0 :: a1 :: a2 :: a3 :: a4 :: a5 :: a6 :: a7 :: l : va_W)[i]?) = ([a6, a7] : va_W) := rfl
theorem nd_6_7 : va_nd [6, 7] = true := by decide
theorem sm_8_9_10_1_2_4_6 {a0 a1 a2 a3 a4 a5 a6 a7 a8 a9 a10 : Nat × va_E} {l : va_W} : ([8, 9, 10, 1, 2, 4, 6] : List Nat).map (fun i => (a0 :: a1 :: a2 :: a3 :: a4 :: a5 :: a6 :: a7 :: a8 :: a9 :: a10 :: l : va_W)[i]?) = ([a8, a9, a10, a1, a2, a4, a6] : va_W).map some := rfl
theorem fm_8_9_10_1_2_4_6 {a0 a1 a2 a3 a4 a5 a6 a7 a8 a9 a10 : Nat × va_E} {l : va_W} : ([8, 9, 10, 1, 2, 4, 6] : List Nat).filterMap (fun i => (a0 :: a1 :: a2 :: a3 :: a4 :: a5 :: a6 :: a7 :: a8 :: a9 :: a10 :: l : va_W)[i]?) = ([a8, a9, a10, a1, a2, a4, a6] : va_W) := rfl
theorem nd_8_9_10_1_2_4_6 : va_nd [8, 9, 10, 1, 2, 4, 6] = true := by decide
theorem rm_7_3_2 {mc ms : Nat} : 3 + 1 ≤ (RM 7 mc ms).frames ∧ 8 + (2 + 11) + 40 * 3 ≤ (RM 7 mc ms).locals := ⟨by show 3 + 1 ≤ 7; decide, by show 8 + (2 + 11) + 40 * 3 ≤ 40 * 7; decide⟩
theorem sm_8_10 {a0 a1 a2 a3 a4 a5 a6 a7 a8 a9 a10 : Nat × va_E} {l : va_W} : ([8, 10] : List Nat).map (fun i => (a0 :: a1 :: a2 :: a3 :: a4 :: a5 :: a6 :: a7 :: a8 :: a9 :: a10 :: l : va_W)[i]?) = ([a8, a10] : va_W).map some := rfl
theorem fm_8_10 {a0 a1 a2 a3 a4 a5 a6 a7 a8 a9 a10 : Nat × va_E} {l : va_W} : ([8, 10] : List Nat).filterMap (fun i => (a0 :: a1 :: a2 :: a3 :: a4 :: a5 :: a6 :: a7 :: a8 :: a9 :: a10 :: l : va_W)[i]?) = ([a8, a10] : va_W) := rfl
theorem nd_8_10 : va_nd [8, 10] = true := by decide
theorem rm_7_5_3 {mc ms : Nat} : 5 + 1 ≤ (RM 7 mc ms).frames ∧ 8 + (3 + 11) + 40 * 5 ≤ (RM 7 mc ms).locals := ⟨by show 5 + 1 ≤ 7; decide, by show 8 + (3 + 11) + 40 * 5 ≤ 40 * 7; decide⟩
theorem sm_12_1_2_3 {a0 a1 a2 a3 a4 a5 a6 a7 a8 a9 a10 a11 a12 : Nat × va_E} {l : va_W} : ([12, 1, 2, 3] : List Nat).map (fun i => (a0 :: a1 :: a2 :: a3 :: a4 :: a5 :: a6 :: a7 :: a8 :: a9 :: a10 :: a11 :: a12 :: l : va_W)[i]?) = ([a12, a1, a2, a3] : va_W).map some := rfl
theorem fm_12_1_2_3 {a0 a1 a2 a3 a4 a5 a6 a7 a8 a9 a10 a11 a12 : Nat × va_E} {l : va_W} : ([12, 1, 2, 3] : List Nat).filterMap (fun i => (a0 :: a1 :: a2 :: a3 :: a4 :: a5 :: a6 :: a7 :: a8 :: a9 :: a10 :: a11 :: a12 :: l : va_W)[i]?) = ([a12, a1, a2, a3] : va_W) := rfl
theorem nd_12_1_2_3 : va_nd [12, 1, 2, 3] = true := by decide
theorem sm_0_4_5_6_7_8_9_10_11 {a0 a1 a2 a3 a4 a5 a6 a7 a8 a9 a10 a11 : Nat × va_E} {l : va_W} : ([0, 4, 5, 6, 7, 8, 9, 10, 11] : List Nat).map (fun i => (a0 :: a1 :: a2 :: a3 :: a4 :: a5 :: a6 :: a7 :: a8 :: a9 :: a10 :: a11 :: l : va_W)[i]?) = ([a0, a4, a5, a6, a7, a8, a9, a10, a11] : va_W).map some := rfl
theorem nd_0_4_5_6_7_8_9_10_11 : va_nd [0, 4, 5, 6, 7, 8, 9, 10, 11] = true := by decide
theorem dj_12_1_2_3__0_4_5_6_7_8_9_10_11 : ∀ i ∈ ([0, 4, 5, 6, 7, 8, 9, 10, 11] : List Nat), i ∉ ([12, 1, 2, 3] : List Nat) := by decide
theorem sm_9 {a0 a1 a2 a3 a4 a5 a6 a7 a8 a9 : Nat × va_E} {l : va_W} : ([9] : List Nat).map (fun i => (a0 :: a1 :: a2 :: a3 :: a4 :: a5 :: a6 :: a7 :: a8 :: a9 :: l : va_W)[i]?) = ([a9] : va_W).map some := rfl
theorem fm_9 {a0 a1 a2 a3 a4 a5 a6 a7 a8 a9 : Nat × va_E} {l : va_W} : ([9] : List Nat).filterMap (fun i => (a0 :: a1 :: a2 :: a3 :: a4 :: a5 :: a6 :: a7 :: a8 :: a9 :: l : va_W)[i]?) = ([a9] : va_W) := rfl
theorem nd_9 : va_nd [9] = true := by decide
theorem sm_12_1_4_5 {a0 a1 a2 a3 a4 a5 a6 a7 a8 a9 a10 a11 a12 : Nat × va_E} {l : va_W} : ([12, 1, 4, 5] : List Nat).map (fun i => (a0 :: a1 :: a2 :: a3 :: a4 :: a5 :: a6 :: a7 :: a8 :: a9 :: a10 :: a11 :: a12 :: l : va_W)[i]?) = ([a12, a1, a4, a5] : va_W).map some := rfl
theorem fm_12_1_4_5 {a0 a1 a2 a3 a4 a5 a6 a7 a8 a9 a10 a11 a12 : Nat × va_E} {l : va_W} : ([12, 1, 4, 5] : List Nat).filterMap (fun i => (a0 :: a1 :: a2 :: a3 :: a4 :: a5 :: a6 :: a7 :: a8 :: a9 :: a10 :: a11 :: a12 :: l : va_W)[i]?) = ([a12, a1, a4, a5] : va_W) := rfl
theorem nd_12_1_4_5 : va_nd [12, 1, 4, 5] = true := by decide
theorem sm_0_2_3_6_7_8_9_10_11 {a0 a1 a2 a3 a4 a5 a6 a7 a8 a9 a10 a11 : Nat × va_E} {l : va_W} : ([0, 2, 3, 6, 7, 8, 9, 10, 11] : List Nat).map (fun i => (a0 :: a1 :: a2 :: a3 :: a4 :: a5 :: a6 :: a7 :: a8 :: a9 :: a10 :: a11 :: l : va_W)[i]?) = ([a0, a2, a3, a6, a7, a8, a9, a10, a11] : va_W).map some := rfl
theorem nd_0_2_3_6_7_8_9_10_11 : va_nd [0, 2, 3, 6, 7, 8, 9, 10, 11] = true := by decide
theorem dj_12_1_4_5__0_2_3_6_7_8_9_10_11 : ∀ i ∈ ([0, 2, 3, 6, 7, 8, 9, 10, 11] : List Nat), i ∉ ([12, 1, 4, 5] : List Nat) := by decide
theorem sm_12_1_6_7 {a0 a1 a2 a3 a4 a5 a6 a7 a8 a9 a10 a11 a12 : Nat × va_E} {l : va_W} : ([12, 1, 6, 7] : List Nat).map (fun i => (a0 :: a1 :: a2 :: a3 :: a4 :: a5 :: a6 :: a7 :: a8 :: a9 :: a10 :: a11 :: a12 :: l : va_W)[i]?) = ([a12, a1, a6, a7] : va_W).map some := rfl
theorem fm_12_1_6_7 {a0 a1 a2 a3 a4 a5 a6 a7 a8 a9 a10 a11 a12 : Nat × va_E} {l : va_W} : ([12, 1, 6, 7] : List Nat).filterMap (fun i => (a0 :: a1 :: a2 :: a3 :: a4 :: a5 :: a6 :: a7 :: a8 :: a9 :: a10 :: a11 :: a12 :: l : va_W)[i]?) = ([a12, a1, a6, a7] : va_W) := rfl
theorem nd_12_1_6_7 : va_nd [12, 1, 6, 7] = true := by decide
theorem sm_0_2_3_4_5_8_9_10_11 {a0 a1 a2 a3 a4 a5 a6 a7 a8 a9 a10 a11 : Nat × va_E} {l : va_W} : ([0, 2, 3, 4, 5, 8, 9, 10, 11] : List Nat).map (fun i => (a0 :: a1 :: a2 :: a3 :: a4 :: a5 :: a6 :: a7 :: a8 :: a9 :: a10 :: a11 :: l : va_W)[i]?) = ([a0, a2, a3, a4, a5, a8, a9, a10, a11] : va_W).map some := rfl
theorem nd_0_2_3_4_5_8_9_10_11 : va_nd [0, 2, 3, 4, 5, 8, 9, 10, 11] = true := by decide
theorem dj_12_1_6_7__0_2_3_4_5_8_9_10_11 : ∀ i ∈ ([0, 2, 3, 4, 5, 8, 9, 10, 11] : List Nat), i ∉ ([12, 1, 6, 7] : List Nat) := by decide
theorem sm_8_11 {a0 a1 a2 a3 a4 a5 a6 a7 a8 a9 a10 a11 : Nat × va_E} {l : va_W} : ([8, 11] : List Nat).map (fun i => (a0 :: a1 :: a2 :: a3 :: a4 :: a5 :: a6 :: a7 :: a8 :: a9 :: a10 :: a11 :: l : va_W)[i]?) = ([a8, a11] : va_W).map some := rfl
theorem fm_8_11 {a0 a1 a2 a3 a4 a5 a6 a7 a8 a9 a10 a11 : Nat × va_E} {l : va_W} : ([8, 11] : List Nat).filterMap (fun i => (a0 :: a1 :: a2 :: a3 :: a4 :: a5 :: a6 :: a7 :: a8 :: a9 :: a10 :: a11 :: l : va_W)[i]?) = ([a8, a11] : va_W) := rfl
theorem nd_8_11 : va_nd [8, 11] = true := by decide
theorem rm_66_1_1 {mc ms : Nat} : 1 + 1 ≤ (RM 66 mc ms).frames ∧ 8 + (1 + 11) + 40 * 1 ≤ (RM 66 mc ms).locals := ⟨by show 1 + 1 ≤ 66; decide, by show 8 + (1 + 11) + 40 * 1 ≤ 40 * 66; decide⟩
theorem sm_0_1_2_3_4_5_6_7_8_9_10_12 {a0 a1 a2 a3 a4 a5 a6 a7 a8 a9 a10 a11 a12 : Nat × va_E} {l : va_W} : ([0, 1, 2, 3, 4, 5, 6, 7, 8, 9, 10, 12] : List Nat).map (fun i => (a0 :: a1 :: a2 :: a3 :: a4 :: a5 :: a6 :: a7 :: a8 :: a9 :: a10 :: a11 :: a12 :: l : va_W)[i]?) = ([a0, a1, a2, a3, a4, a5, a6, a7, a8, a9, a10, a12] : va_W).map some := rfl
theorem nd_0_1_2_3_4_5_6_7_8_9_10_12 : va_nd [0, 1, 2, 3, 4, 5, 6, 7, 8, 9, 10, 12] = true := by decide
theorem dj_11__0_1_2_3_4_5_6_7_8_9_10_12 : ∀ i ∈ ([0, 1, 2, 3, 4, 5, 6, 7, 8, 9, 10, 12] : List Nat), i ∉ ([11] : List Nat) := by decide
theorem rm_66_2_1 {mc ms : Nat} : 2 + 1 ≤ (RM 66 mc ms).frames ∧ 8 + (1 + 11) + 40 * 2 ≤ (RM 66 mc ms).locals := ⟨by show 2 + 1 ≤ 66; decide, by show 8 + (1 + 11) + 40 * 2 ≤ 40 * 66; decide⟩
theorem rm_66_1_3 {mc ms : Nat} : 1 + 1 ≤ (RM 66 mc ms).frames ∧ 8 + (3 + 11) + 40 * 1 ≤ (RM 66 mc ms).locals := ⟨by show 1 + 1 ≤ 66; decide, by show 8 + (3 + 11) + 40 * 1 ≤ 40 * 66; decide⟩
theorem rm_66_3_4 {mc ms : Nat} : 3 + 1 ≤ (RM 66 mc ms).frames ∧ 8 + (4 + 11) + 40 * 3 ≤ (RM 66 mc ms).locals := ⟨by show 3 + 1 ≤ 66; decide, by show 8 + (4 + 11) + 40 * 3 ≤ 40 * 66; decide⟩
theorem rm_66_3_2 {mc ms : Nat} : 3 + 1 ≤ (RM 66 mc ms).frames ∧ 8 + (2 + 11) + 40 * 3 ≤ (RM 66 mc ms).locals := ⟨by show 3 + 1 ≤ 66; decide, by show 8 + (2 + 11) + 40 * 3 ≤ 40 * 66; decide⟩
theorem rm_66_5_3 {mc ms : Nat} : 5 + 1 ≤ (RM 66 mc ms).frames ∧ 8 + (3 + 11) + 40 * 5 ≤ (RM 66 mc ms).locals := ⟨by show 5 + 1 ≤ 66; decide, by show 8 + (3 + 11) + 40 * 5 ≤ 40 * 66; decide⟩
theorem sm_12_1_2_3_4_5_6_7 {a0 a1 a2 a3 a4 a5 a6 a7 a8 a9 a10 a11 a12 : Nat × va_E} {l : va_W} : ([12, 1, 2, 3, 4, 5, 6, 7] : List Nat).map (fun i => (a0 :: a1 :: a2 :: a3 :: a4 :: a5 :: a6 :: a7 :: a8 :: a9 :: a10 :: a11 :: a12 :: l : va_W)[i]?) = ([a12, a1, a2, a3, a4, a5, a6, a7] : va_W).map some := rfl
theorem fm_12_1_2_3_4_5_6_7 {a0 a1 a2 a3 a4 a5 a6 a7 a8 a9 a10 a11 a12 : Nat × va_E} {l : va_W} : ([12, 1, 2, 3, 4, 5, 6, 7] : List Nat).filterMap (fun i => (a0 :: a1 :: a2 :: a3 :: a4 :: a5 :: a6 :: a7 :: a8 :: a9 :: a10 :: a11 :: a12 :: l : va_W)[i]?) = ([a12, a1, a2, a3, a4, a5, a6, a7] : va_W) := rfl
theorem nd_12_1_2_3_4_5_6_7 : va_nd [12, 1, 2, 3, 4, 5, 6, 7] = true := by decide
theorem sm_0_8_9_10_11 {a0 a1 a2 a3 a4 a5 a6 a7 a8 a9 a10 a11 : Nat × va_E} {l : va_W} : ([0, 8, 9, 10, 11] : List Nat).map (fun i => (a0 :: a1 :: a2 :: a3 :: a4 :: a5 :: a6 :: a7 :: a8 :: a9 :: a10 :: a11 :: l : va_W)[i]?) = ([a0, a8, a9, a10, a11] : va_W).map some := rfl
theorem nd_0_8_9_10_11 : va_nd [0, 8, 9, 10, 11] = true := by decide
theorem dj_12_1_2_3_4_5_6_7__0_8_9_10_11 : ∀ i ∈ ([0, 8, 9, 10, 11] : List Nat), i ∉ ([12, 1, 2, 3, 4, 5, 6, 7] : List Nat) := by decide
theorem rm_66_64_4 {mc ms : Nat} : 64 + 1 ≤ (RM 66 mc ms).frames ∧ 8 + (4 + 11) + 40 * 64 ≤ (RM 66 mc ms).locals := ⟨by show 64 + 1 ≤ 66; decide, by show 8 + (4 + 11) + 40 * 64 ≤ 40 * 66; decide⟩
theorem sm_5_4 {a0 a1 a2 a3 a4 a5 : Nat × va_E} {l : va_W} : ([5, 4] : List Nat).map (fun i => (a0 :: a1 :: a2 :: a3 :: a4 :: a5 :: l : va_W)[i]?) = ([a5, a4] : va_W).map some := rfl
theorem fm_5_4 {a0 a1 a2 a3 a4 a5 : Nat × va_E} {l : va_W} : ([5, 4] : List Nat).filterMap (fun i => (a0 :: a1 :: a2 :: a3 :: a4 :: a5 :: l : va_W)[i]?) = ([a5, a4] : va_W) := rfl
theorem nd_5_4 : va_nd [5, 4] = true := by decide
theorem sm_0_1_2_3_6_7_8_9_10_11_12 {a0 a1 a2 a3 a4 a5 a6 a7 a8 a9 a10 a11 a12 : Nat × va_E} {l : va_W} : ([0, 1, 2, 3, 6, 7, 8, 9, 10, 11, 12] : List Nat).map (fun i => (a0 :: a1 :: a2 :: a3 :: a4 :: a5 :: a6 :: a7 :: a8 :: a9 :: a10 :: a11 :: a12 :: l : va_W)[i]?) = ([a0, a1, a2, a3, a6, a7, a8, a9, a10, a11, a12] : va_W).map some := rfl
theorem nd_0_1_2_3_6_7_8_9_10_11_12 : va_nd [0, 1, 2, 3, 6, 7, 8, 9, 10, 11, 12] = true := by decide
theorem dj_5_4__0_1_2_3_6_7_8_9_10_11_12 : ∀ i ∈ ([0, 1, 2, 3, 6, 7, 8, 9, 10, 11, 12] : List Nat), i ∉ ([5, 4] : List Nat) := by decide
def K_d_kindOfPaper (l : Launch) (G : GG) (h0 : Nat) (pa : Int32) (bb : Nat) (tr9 : Nat) (jr : Nat) (dk : Int32) (dn : Int32) (dp : Int32) (da : Int32) (dq : Int32) (bpersons : Nat) (bpapers : Nat) (bstamps : Nat) (bversions : Nat) (blines : Nat) (bsteps : Nat) (bsayings : Nat) (bfindings : Nat) (bwarnings : Nat) (bquestions : Nat) (td : Int32) (vd : Int32) (vl : Int32) (gp : Int32) (bpapersc : Nat) (kbpapers : Nat) (fbpapers : Nat → Int32) : Prop := MP l G yX2_kindOfPaper cX2_kindOfPaper 3 (some .int) 3 [.ref h0, .int pa] [(h0, oX2 bb tr9 (nI jr) dk dn dp da dq), (bb, oX0 bpersons bpapers bstamps bversions blines bsteps bsayings bfindings bwarnings bquestions td vd vl gp), (bpapers, oX8 12 6 bpapersc (nI kbpapers)), (bpapersc, iA G 72 fbpapers)] (fun r : Int32 => True)
set_option maxHeartbeats 4000000 in
set_option maxRecDepth 100000 in
theorem d_kindOfPaper (l : Launch) (G : GG) (h0 : Nat) (pa : Int32) (bb : Nat) (tr9 : Nat) (jr : Nat) (dk : Int32) (dn : Int32) (dp : Int32) (da : Int32) (dq : Int32) (bpersons : Nat) (bpapers : Nat) (bstamps : Nat) (bversions : Nat) (blines : Nat) (bsteps : Nat) (bsayings : Nat) (bfindings : Nat) (bwarnings : Nat) (bquestions : Nat) (td : Int32) (vd : Int32) (vl : Int32) (gp : Int32) (bpapersc : Nat) (kbpapers : Nat) (fbpapers : Nat → Int32) (hkbpapers : kbpapers ≤ 12) : K_d_kindOfPaper l G h0 pa bb tr9 jr dk dn dp da dq bpersons bpapers bstamps bversions blines bsteps bsayings bfindings bwarnings bquestions td vd vl gp bpapersc kbpapers fbpapers := by
  refine MP.start (by decide +kernel) (Nat.le_of_ble_eq_true rfl) ?_
  intro p e s m below meth c ls hC hK hP hD hl
  refine absQ (fun Q0 hQ0 => ?_)
  have hl : lv_has ls 3 [(0, .ref h0), (1, .int pa)] := hl
  refine Kan8 hC (fun hx hb hr hml hB hown hlocks hnm => ?_)
  refine lv_aload_n hx hb gX2_kindOfPaper_0.1 rfl (lv_at0 hl) ?_
  refine gf_X2_15 hC rfl hK hP 0 rfl rfl gX2_kindOfPaper_0.2.1 ?_
  refine gf_X2_43 hC rfl hK hP 1 rfl rfl gX2_kindOfPaper_0.2.2.1 ?_
  refine lv_iload_n hx hb gX2_kindOfPaper_0.2.2.2.1 rfl (lv_at1 hl) ?_
  refine lv_iconst (v := 1) hx hb gX2_kindOfPaper_0.2.2.2.2.1 (by decide) ?_
  refine pV hC hK hl hP hD (c_T_at l G bpapers pa 1 12 6 bpapersc kbpapers fbpapers (hkbpapers) (by omega) (by omega)) si_X2_49 [2, 3] sm_2_3 fm_2_3 nd_2_3 rfl rfl rfl rfl rfl (Nat.le_of_ble_eq_true rfl) rm_3_1_3 ⟨by first | exact Nat.le_of_ble_eq_true rfl | exact Nat.zero_le _, by first | exact Nat.le_of_ble_eq_true rfl | exact Nat.zero_le _⟩ gX2_kindOfPaper_0.2.2.2.2.2.1 (fun r4596 hr4596 => ?_)
  refine lv_iconst (v := 1) hx hb gX2_kindOfPaper_0.2.2.2.2.2.2.1 (by decide) ?_
  refine lv_aload_n hx hb gX2_kindOfPaper_0.2.2.2.2.2.2.2.1 rfl (lv_at0 hl) ?_
  refine gf_X2_15 hC rfl hK hP 0 rfl rfl gX2_kindOfPaper_0.2.2.2.2.2.2.2.2.1 ?_
  refine gf_X2_43 hC rfl hK hP 1 rfl rfl gX2_kindOfPaper_0.2.2.2.2.2.2.2.2.2 ?_
  refine lv_iload_n hx hb gX2_kindOfPaper_1.1 rfl (lv_at1 hl) ?_
  refine lv_iconst (v := 0) hx hb gX2_kindOfPaper_1.2.1 (by decide) ?_
  refine pV hC hK hl hP hD (c_T_at l G bpapers pa 0 12 6 bpapersc kbpapers fbpapers (hkbpapers) (by omega) (by omega)) si_X2_49 [2, 3] sm_2_3 fm_2_3 nd_2_3 rfl rfl rfl rfl rfl (Nat.le_of_ble_eq_true rfl) rm_3_1_3 ⟨by first | exact Nat.le_of_ble_eq_true rfl | exact Nat.zero_le _, by first | exact Nat.le_of_ble_eq_true rfl | exact Nat.zero_le _⟩ gX2_kindOfPaper_1.2.2.1 (fun r4598 hr4598 => ?_)
  refine lv_ishl hx hb gX2_kindOfPaper_1.2.2.2.1 ?_
  refine lv_iconst (v := (-1)) hx hb gX2_kindOfPaper_1.2.2.2.2.1 (by decide) ?_
  refine lv_ixor hx hb gX2_kindOfPaper_1.2.2.2.2.2.1 ?_
  refine lv_iand hx hb gX2_kindOfPaper_1.2.2.2.2.2.2.1 ?_
  refine lv_istore_n (lv' := [(2, .int (r4596 &&& ((1 <<< (r4598 &&& 31)) ^^^ (-1)))), (0, .ref h0), (1, .int pa)]) hx hb gX2_kindOfPaper_1.2.2.2.2.2.2.2.1 rfl hl (by decide) rfl (fun ls hl => ?_)
  refine lv_iload_n hx hb gX2_kindOfPaper_1.2.2.2.2.2.2.2.2.1 rfl (lv_at0 hl) ?_
  refine lv_if_ne (tgt := 36) hx hb gX2_kindOfPaper_1.2.2.2.2.2.2.2.2.2 (by decide) (fun c_31_4600 => ?_) (fun c_31_4600 => ?_)
  · refine lv_aload_n hx hb gX2_kindOfPaper_2.2.2.1 rfl (lv_at1 hl) ?_
    refine gf_X2_15 hC rfl hK hP 0 rfl rfl gX2_kindOfPaper_2.2.2.2.1 ?_
    refine gf_X2_43 hC rfl hK hP 1 rfl rfl gX2_kindOfPaper_2.2.2.2.2.1 ?_
    refine lv_iload_n hx hb gX2_kindOfPaper_2.2.2.2.2.2.1 rfl (lv_at2 hl) ?_
    refine lv_iconst (v := 3) hx hb gX2_kindOfPaper_2.2.2.2.2.2.2.1 (by decide) ?_
    refine pV hC hK hl hP hD (c_T_at l G bpapers pa 3 12 6 bpapersc kbpapers fbpapers (hkbpapers) (by omega) (by omega)) si_X2_49 [2, 3] sm_2_3 fm_2_3 nd_2_3 rfl rfl rfl rfl rfl (Nat.le_of_ble_eq_true rfl) rm_3_1_3 ⟨by first | exact Nat.le_of_ble_eq_true rfl | exact Nat.zero_le _, by first | exact Nat.le_of_ble_eq_true rfl | exact Nat.zero_le _⟩ gX2_kindOfPaper_2.2.2.2.2.2.2.2.1 (fun r4601 hr4601 => ?_)
    refine lv_if_le (tgt := 55) hx hb gX2_kindOfPaper_2.2.2.2.2.2.2.2.2.1 (by decide) (fun c_48_4603 => ?_) (fun c_48_4603 => ?_)
    · refine lv_iconst (v := 1) hx hb gX2_kindOfPaper_3.2.1 (by decide) ?_
      refine toQ hQ0 ?_
      exact RP (v := 1) hC (trivial) rfl gX2_kindOfPaper_3.2.2
    · refine lv_iconst (v := 3) hx hb gX2_kindOfPaper_2.2.2.2.2.2.2.2.2.2 (by decide) ?_
      refine lv_goto (tgt := 56) hx hb gX2_kindOfPaper_3.1 (by decide) ?_
      refine toQ hQ0 ?_
      exact RP (v := 3) hC (trivial) rfl gX2_kindOfPaper_3.2.2
  · refine lv_iconst (v := 2) hx hb gX2_kindOfPaper_2.1 (by decide) ?_
    refine toQ hQ0 ?_
    exact RP (v := 2) hC (trivial) rfl gX2_kindOfPaper_2.2.1
def K_d_grasp (l : Launch) (G : GG) (h0 : Nat) (wh : Int32) (nu : Int32) (bb : Nat) (tr9 : Nat) (jr : Nat) (dk : Int32) (dn : Int32) (dp : Int32) (da : Int32) (dq : Int32) (bpersons : Nat) (bpapers : Nat) (bstamps : Nat) (bversions : Nat) (blines : Nat) (bsteps : Nat) (bsayings : Nat) (bfindings : Nat) (bwarnings : Nat) (bquestions : Nat) (td : Int32) (vd : Int32) (vl : Int32) (gp : Int32) (bpapersc : Nat) (kbpapers : Nat) (fbpapers : Nat → Int32) (bsayingsc : Nat) (kbsayings : Nat) (fbsayings : Nat → Int32) (bfindingsc : Nat) (kbfindings : Nat) (fbfindings : Nat → Int32) : Prop := MV l G yX2_grasp cX2_grasp 3 5 0 0 [.ref h0, .int wh, .int nu] [(h0, oX2 bb tr9 (nI jr) dk dn dp da dq), (bb, oX0 bpersons bpapers bstamps bversions blines bsteps bsayings bfindings bwarnings bquestions td vd vl gp), (bpapers, oX8 12 6 bpapersc (nI kbpapers)), (bpapersc, iA G 72 fbpapers), (bsayings, oX8 16 8 bsayingsc (nI kbsayings)), (bsayingsc, iA G 128 fbsayings), (bfindings, oX8 12 4 bfindingsc (nI kbfindings)), (bfindingsc, iA G 48 fbfindings)] (fun u : Int32 × Int32 × Int32 × Int32 => True) (fun u : Int32 × Int32 × Int32 × Int32 => [(h0, oX2 bb tr9 (nI jr) u.1 u.2.1 u.2.2.1 u.2.2.2 dq), (bb, oX0 bpersons bpapers bstamps bversions blines bsteps bsayings bfindings bwarnings bquestions td vd vl gp), (bpapers, oX8 12 6 bpapersc (nI kbpapers)), (bpapersc, iA G 72 fbpapers), (bsayings, oX8 16 8 bsayingsc (nI kbsayings)), (bsayingsc, iA G 128 fbsayings), (bfindings, oX8 12 4 bfindingsc (nI kbfindings)), (bfindingsc, iA G 48 fbfindings)])
set_option maxHeartbeats 4000000 in
set_option maxRecDepth 100000 in
theorem d_grasp (l : Launch) (G : GG) (h0 : Nat) (wh : Int32) (nu : Int32) (bb : Nat) (tr9 : Nat) (jr : Nat) (dk : Int32) (dn : Int32) (dp : Int32) (da : Int32) (dq : Int32) (bpersons : Nat) (bpapers : Nat) (bstamps : Nat) (bversions : Nat) (blines : Nat) (bsteps : Nat) (bsayings : Nat) (bfindings : Nat) (bwarnings : Nat) (bquestions : Nat) (td : Int32) (vd : Int32) (vl : Int32) (gp : Int32) (bpapersc : Nat) (kbpapers : Nat) (fbpapers : Nat → Int32) (bsayingsc : Nat) (kbsayings : Nat) (fbsayings : Nat → Int32) (bfindingsc : Nat) (kbfindings : Nat) (fbfindings : Nat → Int32) (hkbpapers : kbpapers ≤ 12) (hkbsayings : kbsayings ≤ 16) (hkbfindings : kbfindings ≤ 12) : K_d_grasp l G h0 wh nu bb tr9 jr dk dn dp da dq bpersons bpapers bstamps bversions blines bsteps bsayings bfindings bwarnings bquestions td vd vl gp bpapersc kbpapers fbpapers bsayingsc kbsayings fbsayings bfindingsc kbfindings fbfindings := by
  refine MV.start (by decide +kernel) (Nat.le_of_ble_eq_true rfl) ?_
  intro p e s m below meth c A ls hC hK hP hD hS hA hl
  refine absQ (fun Q0 hQ0 => ?_)
  have hl : lv_has ls 3 [(0, .ref h0), (1, .int wh), (2, .int nu)] := hl
  refine Kan8 hC (fun hx hb hr hml hB hown hlocks hnm => ?_)
  refine lv_aload_n hx hb gX2_grasp_0.1 rfl (lv_at0 hl) ?_
  refine lv_iload_n hx hb gX2_grasp_0.2.1 rfl (lv_at2 hl) ?_
  refine pf_X2_26 hC rfl hK hP hD hS 0 (ws' := [(h0, oX2 bb tr9 (nI jr) dk nu dp da dq), (bb, oX0 bpersons bpapers bstamps bversions blines bsteps bsayings bfindings bwarnings bquestions td vd vl gp), (bpapers, oX8 12 6 bpapersc (nI kbpapers)), (bpapersc, iA G 72 fbpapers), (bsayings, oX8 16 8 bsayingsc (nI kbsayings)), (bsayingsc, iA G 128 fbsayings), (bfindings, oX8 12 4 bfindingsc (nI kbfindings)), (bfindingsc, iA G 48 fbfindings)]) rfl (Nat.le_of_ble_eq_true rfl) rfl rfl rfl gX2_grasp_0.2.2.1 (fun H locs hP hD hS => ?_)
  refine lv_iload_n hx hb gX2_grasp_0.2.2.2.1 rfl (lv_at1 hl) ?_
  refine lv_if_ne (tgt := 53) hx hb gX2_grasp_0.2.2.2.2.1 (by decide) (fun c_6_4604 => ?_) (fun c_6_4604 => ?_)
  · refine lv_iload_n hx hb gX2_grasp_2.2.2.2.2.2.2.2.1 rfl (lv_at1 hl) ?_
    refine lv_iconst (v := 1) hx hb gX2_grasp_2.2.2.2.2.2.2.2.2.1 (by decide) ?_
    refine lv_icmp_ne (tgt := 118) hx hb gX2_grasp_2.2.2.2.2.2.2.2.2.2 (by decide) (fun c_55_4605 => ?_) (fun c_55_4605 => ?_)
    · refine lv_aload_n hx hb gX2_grasp_5.2.2.2.2.2.2.2.2.2 rfl (lv_at0 hl) ?_
      refine lv_bipush (v := 6) hx hb gX2_grasp_6.1 (by decide) ?_
      refine pf_X2_23 hC rfl hK hP hD hS 0 (ws' := [(h0, oX2 bb tr9 (nI jr) 6 nu dp da dq), (bb, oX0 bpersons bpapers bstamps bversions blines bsteps bsayings bfindings bwarnings bquestions td vd vl gp), (bpapers, oX8 12 6 bpapersc (nI kbpapers)), (bpapersc, iA G 72 fbpapers), (bsayings, oX8 16 8 bsayingsc (nI kbsayings)), (bsayingsc, iA G 128 fbsayings), (bfindings, oX8 12 4 bfindingsc (nI kbfindings)), (bfindingsc, iA G 48 fbfindings)]) rfl (Nat.le_of_ble_eq_true rfl) rfl rfl rfl gX2_grasp_6.2.1 (fun H locs hP hD hS => ?_)
      refine lv_aload_n hx hb gX2_grasp_6.2.2.1 rfl (lv_at0 hl) ?_
      refine lv_aload_n hx hb gX2_grasp_6.2.2.2.1 rfl (lv_at0 hl) ?_
      refine gf_X2_15 hC rfl hK hP 0 rfl rfl gX2_grasp_6.2.2.2.2.1 ?_
      refine gf_X2_58 hC rfl hK hP 1 rfl rfl gX2_grasp_6.2.2.2.2.2.1 ?_
      refine lv_iload_n hx hb gX2_grasp_6.2.2.2.2.2.2.1 rfl (lv_at2 hl) ?_
      refine lv_iconst (v := 0) hx hb gX2_grasp_6.2.2.2.2.2.2.2.1 (by decide) ?_
      refine pV hC hK hl hP hD (c_T_at l G bfindings nu 0 12 4 bfindingsc kbfindings fbfindings (hkbfindings) (by omega) (by omega)) si_X2_49 [6, 7] sm_6_7 fm_6_7 nd_6_7 rfl rfl rfl rfl rfl (Nat.le_of_ble_eq_true rfl) rm_5_1_3 ⟨by first | exact Nat.le_of_ble_eq_true rfl | exact Nat.zero_le _, by first | exact Nat.le_of_ble_eq_true rfl | exact Nat.zero_le _⟩ gX2_grasp_6.2.2.2.2.2.2.2.2.1 (fun r4606 hr4606 => ?_)
      refine pf_X2_29 hC rfl hK hP hD hS 0 (ws' := [(h0, oX2 bb tr9 (nI jr) 6 nu r4606 da dq), (bb, oX0 bpersons bpapers bstamps bversions blines bsteps bsayings bfindings bwarnings bquestions td vd vl gp), (bpapers, oX8 12 6 bpapersc (nI kbpapers)), (bpapersc, iA G 72 fbpapers), (bsayings, oX8 16 8 bsayingsc (nI kbsayings)), (bsayingsc, iA G 128 fbsayings), (bfindings, oX8 12 4 bfindingsc (nI kbfindings)), (bfindingsc, iA G 48 fbfindings)]) rfl (Nat.le_of_ble_eq_true rfl) rfl rfl rfl gX2_grasp_6.2.2.2.2.2.2.2.2.2 (fun H locs hP hD hS => ?_)
      refine lv_aload_n hx hb gX2_grasp_7.1 rfl (lv_at0 hl) ?_
      refine lv_aload_n hx hb gX2_grasp_7.2.1 rfl (lv_at0 hl) ?_
      refine gf_X2_15 hC rfl hK hP 0 rfl rfl gX2_grasp_7.2.2.1 ?_
      refine gf_X2_58 hC rfl hK hP 1 rfl rfl gX2_grasp_7.2.2.2.1 ?_
      refine lv_iload_n hx hb gX2_grasp_7.2.2.2.2.1 rfl (lv_at2 hl) ?_
      refine lv_iconst (v := 2) hx hb gX2_grasp_7.2.2.2.2.2.1 (by decide) ?_
      refine pV hC hK hl hP hD (c_T_at l G bfindings nu 2 12 4 bfindingsc kbfindings fbfindings (hkbfindings) (by omega) (by omega)) si_X2_49 [6, 7] sm_6_7 fm_6_7 nd_6_7 rfl rfl rfl rfl rfl (Nat.le_of_ble_eq_true rfl) rm_5_1_3 ⟨by first | exact Nat.le_of_ble_eq_true rfl | exact Nat.zero_le _, by first | exact Nat.le_of_ble_eq_true rfl | exact Nat.zero_le _⟩ gX2_grasp_7.2.2.2.2.2.2.1 (fun r4608 hr4608 => ?_)
      refine pf_X2_32 hC rfl hK hP hD hS 0 (ws' := [(h0, oX2 bb tr9 (nI jr) 6 nu r4606 r4608 dq), (bb, oX0 bpersons bpapers bstamps bversions blines bsteps bsayings bfindings bwarnings bquestions td vd vl gp), (bpapers, oX8 12 6 bpapersc (nI kbpapers)), (bpapersc, iA G 72 fbpapers), (bsayings, oX8 16 8 bsayingsc (nI kbsayings)), (bsayingsc, iA G 128 fbsayings), (bfindings, oX8 12 4 bfindingsc (nI kbfindings)), (bfindingsc, iA G 48 fbfindings)]) rfl (Nat.le_of_ble_eq_true rfl) rfl rfl rfl gX2_grasp_7.2.2.2.2.2.2.2.1 (fun H locs hP hD hS => ?_)
      refine toQ hQ0 ?_
      exact RV hC hP hD hS [0, 1, 2, 3, 4, 5, 6, 7] (6, nu, r4606, r4608) rfl rfl (by decide) (trivial) gX2_grasp_7.2.2.2.2.2.2.2.2
    · refine lv_aload_n hx hb gX2_grasp_3.1 rfl (lv_at0 hl) ?_
      refine lv_aload_n hx hb gX2_grasp_3.2.1 rfl (lv_at0 hl) ?_
      refine gf_X2_15 hC rfl hK hP 0 rfl rfl gX2_grasp_3.2.2.1 ?_
      refine gf_X2_55 hC rfl hK hP 1 rfl rfl gX2_grasp_3.2.2.2.1 ?_
      refine lv_iload_n hx hb gX2_grasp_3.2.2.2.2.1 rfl (lv_at2 hl) ?_
      refine lv_bipush (v := 6) hx hb gX2_grasp_3.2.2.2.2.2.1 (by decide) ?_
      refine pV hC hK hl hP hD (c_T_at l G bsayings nu 6 16 8 bsayingsc kbsayings fbsayings (hkbsayings) (by omega) (by omega)) si_X2_49 [4, 5] sm_4_5 fm_4_5 nd_4_5 rfl rfl rfl rfl rfl (Nat.le_of_ble_eq_true rfl) rm_5_1_3 ⟨by first | exact Nat.le_of_ble_eq_true rfl | exact Nat.zero_le _, by first | exact Nat.le_of_ble_eq_true rfl | exact Nat.zero_le _⟩ gX2_grasp_3.2.2.2.2.2.2.1 (fun r4610 hr4610 => ?_)
      refine lv_if_ge (tgt := 79) hx hb gX2_grasp_3.2.2.2.2.2.2.2.1 (by decide) (fun c_72_4612 => ?_) (fun c_72_4612 => ?_)
      · refine lv_iconst (v := 4) hx hb gX2_grasp_4.1 (by decide) ?_
        refine pf_X2_23 hC rfl hK hP hD hS 0 (ws' := [(h0, oX2 bb tr9 (nI jr) 4 nu dp da dq), (bb, oX0 bpersons bpapers bstamps bversions blines bsteps bsayings bfindings bwarnings bquestions td vd vl gp), (bpapers, oX8 12 6 bpapersc (nI kbpapers)), (bpapersc, iA G 72 fbpapers), (bsayings, oX8 16 8 bsayingsc (nI kbsayings)), (bsayingsc, iA G 128 fbsayings), (bfindings, oX8 12 4 bfindingsc (nI kbfindings)), (bfindingsc, iA G 48 fbfindings)]) rfl (Nat.le_of_ble_eq_true rfl) rfl rfl rfl gX2_grasp_4.2.1 (fun H locs hP hD hS => ?_)
        refine lv_aload_n hx hb gX2_grasp_4.2.2.1 rfl (lv_at0 hl) ?_
        refine lv_aload_n hx hb gX2_grasp_4.2.2.2.1 rfl (lv_at0 hl) ?_
        refine gf_X2_15 hC rfl hK hP 0 rfl rfl gX2_grasp_4.2.2.2.2.1 ?_
        refine gf_X2_55 hC rfl hK hP 1 rfl rfl gX2_grasp_4.2.2.2.2.2.1 ?_
        refine lv_iload_n hx hb gX2_grasp_4.2.2.2.2.2.2.1 rfl (lv_at2 hl) ?_
        refine lv_iconst (v := 0) hx hb gX2_grasp_4.2.2.2.2.2.2.2.1 (by decide) ?_
        refine pV hC hK hl hP hD (c_T_at l G bsayings nu 0 16 8 bsayingsc kbsayings fbsayings (hkbsayings) (by omega) (by omega)) si_X2_49 [4, 5] sm_4_5 fm_4_5 nd_4_5 rfl rfl rfl rfl rfl (Nat.le_of_ble_eq_true rfl) rm_5_1_3 ⟨by first | exact Nat.le_of_ble_eq_true rfl | exact Nat.zero_le _, by first | exact Nat.le_of_ble_eq_true rfl | exact Nat.zero_le _⟩ gX2_grasp_4.2.2.2.2.2.2.2.2.1 (fun r4613 hr4613 => ?_)
        refine pf_X2_29 hC rfl hK hP hD hS 0 (ws' := [(h0, oX2 bb tr9 (nI jr) 4 nu r4613 da dq), (bb, oX0 bpersons bpapers bstamps bversions blines bsteps bsayings bfindings bwarnings bquestions td vd vl gp), (bpapers, oX8 12 6 bpapersc (nI kbpapers)), (bpapersc, iA G 72 fbpapers), (bsayings, oX8 16 8 bsayingsc (nI kbsayings)), (bsayingsc, iA G 128 fbsayings), (bfindings, oX8 12 4 bfindingsc (nI kbfindings)), (bfindingsc, iA G 48 fbfindings)]) rfl (Nat.le_of_ble_eq_true rfl) rfl rfl rfl gX2_grasp_4.2.2.2.2.2.2.2.2.2 (fun H locs hP hD hS => ?_)
        refine lv_aload_n hx hb gX2_grasp_5.1 rfl (lv_at0 hl) ?_
        refine lv_aload_n hx hb gX2_grasp_5.2.1 rfl (lv_at0 hl) ?_
        refine gf_X2_15 hC rfl hK hP 0 rfl rfl gX2_grasp_5.2.2.1 ?_
        refine gf_X2_55 hC rfl hK hP 1 rfl rfl gX2_grasp_5.2.2.2.1 ?_
        refine lv_iload_n hx hb gX2_grasp_5.2.2.2.2.1 rfl (lv_at2 hl) ?_
        refine lv_iconst (v := 4) hx hb gX2_grasp_5.2.2.2.2.2.1 (by decide) ?_
        refine pV hC hK hl hP hD (c_T_at l G bsayings nu 4 16 8 bsayingsc kbsayings fbsayings (hkbsayings) (by omega) (by omega)) si_X2_49 [4, 5] sm_4_5 fm_4_5 nd_4_5 rfl rfl rfl rfl rfl (Nat.le_of_ble_eq_true rfl) rm_5_1_3 ⟨by first | exact Nat.le_of_ble_eq_true rfl | exact Nat.zero_le _, by first | exact Nat.le_of_ble_eq_true rfl | exact Nat.zero_le _⟩ gX2_grasp_5.2.2.2.2.2.2.1 (fun r4615 hr4615 => ?_)
        refine pf_X2_32 hC rfl hK hP hD hS 0 (ws' := [(h0, oX2 bb tr9 (nI jr) 4 nu r4613 r4615 dq), (bb, oX0 bpersons bpapers bstamps bversions blines bsteps bsayings bfindings bwarnings bquestions td vd vl gp), (bpapers, oX8 12 6 bpapersc (nI kbpapers)), (bpapersc, iA G 72 fbpapers), (bsayings, oX8 16 8 bsayingsc (nI kbsayings)), (bsayingsc, iA G 128 fbsayings), (bfindings, oX8 12 4 bfindingsc (nI kbfindings)), (bfindingsc, iA G 48 fbfindings)]) rfl (Nat.le_of_ble_eq_true rfl) rfl rfl rfl gX2_grasp_5.2.2.2.2.2.2.2.1 (fun H locs hP hD hS => ?_)
        refine lv_goto (tgt := 156) hx hb gX2_grasp_5.2.2.2.2.2.2.2.2.1 (by decide) ?_
        refine toQ hQ0 ?_
        exact RV hC hP hD hS [0, 1, 2, 3, 4, 5, 6, 7] (4, nu, r4613, r4615) rfl rfl (by decide) (trivial) gX2_grasp_7.2.2.2.2.2.2.2.2
      · refine lv_iconst (v := 5) hx hb gX2_grasp_3.2.2.2.2.2.2.2.2.1 (by decide) ?_
        refine lv_goto (tgt := 80) hx hb gX2_grasp_3.2.2.2.2.2.2.2.2.2 (by decide) ?_
        refine pf_X2_23 hC rfl hK hP hD hS 0 (ws' := [(h0, oX2 bb tr9 (nI jr) 5 nu dp da dq), (bb, oX0 bpersons bpapers bstamps bversions blines bsteps bsayings bfindings bwarnings bquestions td vd vl gp), (bpapers, oX8 12 6 bpapersc (nI kbpapers)), (bpapersc, iA G 72 fbpapers), (bsayings, oX8 16 8 bsayingsc (nI kbsayings)), (bsayingsc, iA G 128 fbsayings), (bfindings, oX8 12 4 bfindingsc (nI kbfindings)), (bfindingsc, iA G 48 fbfindings)]) rfl (Nat.le_of_ble_eq_true rfl) rfl rfl rfl gX2_grasp_4.2.1 (fun H locs hP hD hS => ?_)
        refine lv_aload_n hx hb gX2_grasp_4.2.2.1 rfl (lv_at0 hl) ?_
        refine lv_aload_n hx hb gX2_grasp_4.2.2.2.1 rfl (lv_at0 hl) ?_
        refine gf_X2_15 hC rfl hK hP 0 rfl rfl gX2_grasp_4.2.2.2.2.1 ?_
        refine gf_X2_55 hC rfl hK hP 1 rfl rfl gX2_grasp_4.2.2.2.2.2.1 ?_
        refine lv_iload_n hx hb gX2_grasp_4.2.2.2.2.2.2.1 rfl (lv_at2 hl) ?_
        refine lv_iconst (v := 0) hx hb gX2_grasp_4.2.2.2.2.2.2.2.1 (by decide) ?_
        refine pV hC hK hl hP hD (c_T_at l G bsayings nu 0 16 8 bsayingsc kbsayings fbsayings (hkbsayings) (by omega) (by omega)) si_X2_49 [4, 5] sm_4_5 fm_4_5 nd_4_5 rfl rfl rfl rfl rfl (Nat.le_of_ble_eq_true rfl) rm_5_1_3 ⟨by first | exact Nat.le_of_ble_eq_true rfl | exact Nat.zero_le _, by first | exact Nat.le_of_ble_eq_true rfl | exact Nat.zero_le _⟩ gX2_grasp_4.2.2.2.2.2.2.2.2.1 (fun r4617 hr4617 => ?_)
        refine pf_X2_29 hC rfl hK hP hD hS 0 (ws' := [(h0, oX2 bb tr9 (nI jr) 5 nu r4617 da dq), (bb, oX0 bpersons bpapers bstamps bversions blines bsteps bsayings bfindings bwarnings bquestions td vd vl gp), (bpapers, oX8 12 6 bpapersc (nI kbpapers)), (bpapersc, iA G 72 fbpapers), (bsayings, oX8 16 8 bsayingsc (nI kbsayings)), (bsayingsc, iA G 128 fbsayings), (bfindings, oX8 12 4 bfindingsc (nI kbfindings)), (bfindingsc, iA G 48 fbfindings)]) rfl (Nat.le_of_ble_eq_true rfl) rfl rfl rfl gX2_grasp_4.2.2.2.2.2.2.2.2.2 (fun H locs hP hD hS => ?_)
        refine lv_aload_n hx hb gX2_grasp_5.1 rfl (lv_at0 hl) ?_
        refine lv_aload_n hx hb gX2_grasp_5.2.1 rfl (lv_at0 hl) ?_
        refine gf_X2_15 hC rfl hK hP 0 rfl rfl gX2_grasp_5.2.2.1 ?_
        refine gf_X2_55 hC rfl hK hP 1 rfl rfl gX2_grasp_5.2.2.2.1 ?_
        refine lv_iload_n hx hb gX2_grasp_5.2.2.2.2.1 rfl (lv_at2 hl) ?_
        refine lv_iconst (v := 4) hx hb gX2_grasp_5.2.2.2.2.2.1 (by decide) ?_
        refine pV hC hK hl hP hD (c_T_at l G bsayings nu 4 16 8 bsayingsc kbsayings fbsayings (hkbsayings) (by omega) (by omega)) si_X2_49 [4, 5] sm_4_5 fm_4_5 nd_4_5 rfl rfl rfl rfl rfl (Nat.le_of_ble_eq_true rfl) rm_5_1_3 ⟨by first | exact Nat.le_of_ble_eq_true rfl | exact Nat.zero_le _, by first | exact Nat.le_of_ble_eq_true rfl | exact Nat.zero_le _⟩ gX2_grasp_5.2.2.2.2.2.2.1 (fun r4619 hr4619 => ?_)
        refine pf_X2_32 hC rfl hK hP hD hS 0 (ws' := [(h0, oX2 bb tr9 (nI jr) 5 nu r4617 r4619 dq), (bb, oX0 bpersons bpapers bstamps bversions blines bsteps bsayings bfindings bwarnings bquestions td vd vl gp), (bpapers, oX8 12 6 bpapersc (nI kbpapers)), (bpapersc, iA G 72 fbpapers), (bsayings, oX8 16 8 bsayingsc (nI kbsayings)), (bsayingsc, iA G 128 fbsayings), (bfindings, oX8 12 4 bfindingsc (nI kbfindings)), (bfindingsc, iA G 48 fbfindings)]) rfl (Nat.le_of_ble_eq_true rfl) rfl rfl rfl gX2_grasp_5.2.2.2.2.2.2.2.1 (fun H locs hP hD hS => ?_)
        refine lv_goto (tgt := 156) hx hb gX2_grasp_5.2.2.2.2.2.2.2.2.1 (by decide) ?_
        refine toQ hQ0 ?_
        exact RV hC hP hD hS [0, 1, 2, 3, 4, 5, 6, 7] (5, nu, r4617, r4619) rfl rfl (by decide) (trivial) gX2_grasp_7.2.2.2.2.2.2.2.2
  · refine lv_aload_n hx hb gX2_grasp_0.2.2.2.2.2.1 rfl (lv_at0 hl) ?_
    refine lv_aload_n hx hb gX2_grasp_0.2.2.2.2.2.2.1 rfl (lv_at0 hl) ?_
    refine lv_iload_n hx hb gX2_grasp_0.2.2.2.2.2.2.2.1 rfl (lv_at2 hl) ?_
    refine pV hC hK hl hP hD (d_kindOfPaper l G h0 nu bb tr9 jr dk nu dp da dq bpersons bpapers bstamps bversions blines bsteps bsayings bfindings bwarnings bquestions td vd vl gp bpapersc kbpapers fbpapers (hkbpapers)) si_X2_39 [0, 1, 2, 3] sm_0_1_2_3 fm_0_1_2_3 nd_0_1_2_3 rfl rfl rfl rfl rfl (Nat.le_of_ble_eq_true rfl) rm_5_3_3 ⟨by first | exact Nat.le_of_ble_eq_true rfl | exact Nat.zero_le _, by first | exact Nat.le_of_ble_eq_true rfl | exact Nat.zero_le _⟩ gX2_grasp_0.2.2.2.2.2.2.2.2.1 (fun r4621 hr4621 => ?_)
    refine pf_X2_23 hC rfl hK hP hD hS 0 (ws' := [(h0, oX2 bb tr9 (nI jr) r4621 nu dp da dq), (bb, oX0 bpersons bpapers bstamps bversions blines bsteps bsayings bfindings bwarnings bquestions td vd vl gp), (bpapers, oX8 12 6 bpapersc (nI kbpapers)), (bpapersc, iA G 72 fbpapers), (bsayings, oX8 16 8 bsayingsc (nI kbsayings)), (bsayingsc, iA G 128 fbsayings), (bfindings, oX8 12 4 bfindingsc (nI kbfindings)), (bfindingsc, iA G 48 fbfindings)]) rfl (Nat.le_of_ble_eq_true rfl) rfl rfl rfl gX2_grasp_0.2.2.2.2.2.2.2.2.2 (fun H locs hP hD hS => ?_)
    refine lv_aload_n hx hb gX2_grasp_1.1 rfl (lv_at0 hl) ?_
    refine lv_aload_n hx hb gX2_grasp_1.2.1 rfl (lv_at0 hl) ?_
    refine gf_X2_15 hC rfl hK hP 0 rfl rfl gX2_grasp_1.2.2.1 ?_
    refine gf_X2_43 hC rfl hK hP 1 rfl rfl gX2_grasp_1.2.2.2.1 ?_
    refine lv_iload_n hx hb gX2_grasp_1.2.2.2.2.1 rfl (lv_at2 hl) ?_
    refine lv_iconst (v := 0) hx hb gX2_grasp_1.2.2.2.2.2.1 (by decide) ?_
    refine pV hC hK hl hP hD (c_T_at l G bpapers nu 0 12 6 bpapersc kbpapers fbpapers (hkbpapers) (by omega) (by omega)) si_X2_49 [2, 3] sm_2_3 fm_2_3 nd_2_3 rfl rfl rfl rfl rfl (Nat.le_of_ble_eq_true rfl) rm_5_1_3 ⟨by first | exact Nat.le_of_ble_eq_true rfl | exact Nat.zero_le _, by first | exact Nat.le_of_ble_eq_true rfl | exact Nat.zero_le _⟩ gX2_grasp_1.2.2.2.2.2.2.1 (fun r4622 hr4622 => ?_)
    refine pf_X2_29 hC rfl hK hP hD hS 0 (ws' := [(h0, oX2 bb tr9 (nI jr) r4621 nu r4622 da dq), (bb, oX0 bpersons bpapers bstamps bversions blines bsteps bsayings bfindings bwarnings bquestions td vd vl gp), (bpapers, oX8 12 6 bpapersc (nI kbpapers)), (bpapersc, iA G 72 fbpapers), (bsayings, oX8 16 8 bsayingsc (nI kbsayings)), (bsayingsc, iA G 128 fbsayings), (bfindings, oX8 12 4 bfindingsc (nI kbfindings)), (bfindingsc, iA G 48 fbfindings)]) rfl (Nat.le_of_ble_eq_true rfl) rfl rfl rfl gX2_grasp_1.2.2.2.2.2.2.2.1 (fun H locs hP hD hS => ?_)
    refine lv_aload_n hx hb gX2_grasp_1.2.2.2.2.2.2.2.2.1 rfl (lv_at0 hl) ?_
    refine lv_aload_n hx hb gX2_grasp_1.2.2.2.2.2.2.2.2.2 rfl (lv_at0 hl) ?_
    refine gf_X2_15 hC rfl hK hP 0 rfl rfl gX2_grasp_2.1 ?_
    refine gf_X2_43 hC rfl hK hP 1 rfl rfl gX2_grasp_2.2.1 ?_
    refine lv_iload_n hx hb gX2_grasp_2.2.2.1 rfl (lv_at2 hl) ?_
    refine lv_iconst (v := 2) hx hb gX2_grasp_2.2.2.2.1 (by decide) ?_
    refine pV hC hK hl hP hD (c_T_at l G bpapers nu 2 12 6 bpapersc kbpapers fbpapers (hkbpapers) (by omega) (by omega)) si_X2_49 [2, 3] sm_2_3 fm_2_3 nd_2_3 rfl rfl rfl rfl rfl (Nat.le_of_ble_eq_true rfl) rm_5_1_3 ⟨by first | exact Nat.le_of_ble_eq_true rfl | exact Nat.zero_le _, by first | exact Nat.le_of_ble_eq_true rfl | exact Nat.zero_le _⟩ gX2_grasp_2.2.2.2.2.1 (fun r4624 hr4624 => ?_)
    refine pf_X2_32 hC rfl hK hP hD hS 0 (ws' := [(h0, oX2 bb tr9 (nI jr) r4621 nu r4622 r4624 dq), (bb, oX0 bpersons bpapers bstamps bversions blines bsteps bsayings bfindings bwarnings bquestions td vd vl gp), (bpapers, oX8 12 6 bpapersc (nI kbpapers)), (bpapersc, iA G 72 fbpapers), (bsayings, oX8 16 8 bsayingsc (nI kbsayings)), (bsayingsc, iA G 128 fbsayings), (bfindings, oX8 12 4 bfindingsc (nI kbfindings)), (bfindingsc, iA G 48 fbfindings)]) rfl (Nat.le_of_ble_eq_true rfl) rfl rfl rfl gX2_grasp_2.2.2.2.2.2.1 (fun H locs hP hD hS => ?_)
    refine lv_goto (tgt := 156) hx hb gX2_grasp_2.2.2.2.2.2.2.1 (by decide) ?_
    refine toQ hQ0 ?_
    exact RV hC hP hD hS [0, 1, 2, 3, 4, 5, 6, 7] (r4621, nu, r4622, r4624) rfl rfl (by decide) (trivial) gX2_grasp_7.2.2.2.2.2.2.2.2
def K_d_clearTrace (l : Launch) (G : GG) (h0 : Nat) (bb : Nat) (tr9 : Nat) (jr : Nat) (dk : Int32) (dn : Int32) (dp : Int32) (da : Int32) (dq : Int32) : Prop := MV l G yX2_clearTrace cX2_clearTrace 1 1 0 0 [.ref h0] [(h0, oX2 bb tr9 (nI jr) dk dn dp da dq)] (fun u : Unit => True) (fun u : Unit => [(h0, oX2 bb tr9 0 dk dn dp da dq)])
set_option maxHeartbeats 4000000 in
set_option maxRecDepth 100000 in
theorem d_clearTrace (l : Launch) (G : GG) (h0 : Nat) (bb : Nat) (tr9 : Nat) (jr : Nat) (dk : Int32) (dn : Int32) (dp : Int32) (da : Int32) (dq : Int32) : K_d_clearTrace l G h0 bb tr9 jr dk dn dp da dq := by
  refine MV.start (by decide +kernel) (Nat.le_of_ble_eq_true rfl) ?_
  intro p e s m below meth c A ls hC hK hP hD hS hA hl
  refine absQ (fun Q0 hQ0 => ?_)
  have hl : lv_has ls 1 [(0, .ref h0)] := hl
  refine Kan8 hC (fun hx hb hr hml hB hown hlocks hnm => ?_)
  refine lv_aload_n hx hb gX2_clearTrace_0.1 rfl (lv_at0 hl) ?_
  refine lv_iconst (v := 0) hx hb gX2_clearTrace_0.2.1 (by decide) ?_
  refine pf_X2_19 hC rfl hK hP hD hS 0 (ws' := [(h0, oX2 bb tr9 0 dk dn dp da dq)]) rfl (Nat.le_of_ble_eq_true rfl) rfl rfl rfl gX2_clearTrace_0.2.2.1 (fun H locs hP hD hS => ?_)
  refine toQ hQ0 ?_
  exact RV hC hP hD hS [0] () rfl rfl (by decide) (trivial) gX2_clearTrace_0.2.2.2
def K_d_isUnder (l : Launch) (G : GG) (K : OO) (h0 : Nat) (as9 : Int32) (bb : Nat) (tr9 : Nat) (jr : Nat) (dk : Int32) (dn : Int32) (dp : Int32) (da : Int32) (dq : Int32) : Prop := MPo l G K yX2_isUnder cX2_isUnder 4 (some .boolean) 3 [.ref h0, .int as9] [(h0, oX2 bb tr9 (nI jr) dk dn dp da dq)] (fun r : Int32 => r = 1 ∨ r = 0)
set_option maxHeartbeats 4000000 in
set_option maxRecDepth 100000 in
theorem d_isUnder (l : Launch) (G : GG) (K : OO) (h0 : Nat) (as9 : Int32) (bb : Nat) (tr9 : Nat) (jr : Nat) (dk : Int32) (dn : Int32) (dp : Int32) (da : Int32) (dq : Int32) : K_d_isUnder l G K h0 as9 bb tr9 jr dk dn dp da dq := by
  refine MPo.start (by decide +kernel) (Nat.le_of_ble_eq_true rfl) ?_
  intro p e s m below meth c ls hC hK hP hD hl hO hS
  refine absQ (fun Q0 hQ0 => ?_)
  have hl : lv_has ls 4 [(0, .ref h0), (1, .int as9)] := hl
  refine Kan8 hC (fun hx hb hr hml hB hown hlocks hnm => ?_)
  refine lv_aload_n hx hb gX2_isUnder_0.1 rfl (lv_at0 hl) ?_
  refine gf_X2_23 hC rfl hK hP 0 rfl rfl gX2_isUnder_0.2.1 ?_
  refine lv_istore_n (lv' := [(2, .int dk), (0, .ref h0), (1, .int as9)]) hx hb gX2_isUnder_0.2.2.1 rfl hl (by decide) rfl (fun ls hl => ?_)
  refine lv_iconst (v := 0) hx hb gX2_isUnder_0.2.2.2.1 (by decide) ?_
  refine lv_istore_n (lv' := [(3, .int 0), (2, .int dk), (0, .ref h0), (1, .int as9)]) hx hb gX2_isUnder_0.2.2.2.2.1 rfl hl (by decide) rfl (fun ls hl => ?_)
  have keyP : ∀ (nP kP : Nat) (vk : Int32) (ls : Array Slot), kP + nP = 7 → lv_has ls 4 [(3, .int (nI kP)), (2, .int vk), (0, .ref h0), (1, .int as9)] → W p l e (RM 3 0 0) s m ([.ref h0, .int as9] : List Value).toArray below meth c s.heap [] 0 0 Q0 (F0 m 7 ls []) := by
    intro nP
    induction nP with
    | zero =>
      intro kP vk ls hkP hl
      obtain rfl : 7 = kP := by omega
      have hl : lv_has ls 4 [(3, .int 7), (2, .int vk), (0, .ref h0), (1, .int as9)] := hl
      refine lv_iload_n hx hb gX2_isUnder_0.2.2.2.2.2.1 rfl (lv_at0 hl) ?_
      refine lv_bipush (v := 7) hx hb gX2_isUnder_0.2.2.2.2.2.2.1 (by decide) ?_
      refine lv_icmp_ge (tgt := 40) hx hb gX2_isUnder_0.2.2.2.2.2.2.2.1 (by decide) (fun _ => ?_) (fun c9 => absurd (by decide) c9)
      refine lv_iload_n hx hb gX2_isUnder_2.2.2.1 rfl (lv_at1 hl) ?_
      refine lv_iload_n hx hb gX2_isUnder_2.2.2.2.1 rfl (lv_at3 hl) ?_
      refine lv_icmp_ne (tgt := 59) hx hb gX2_isUnder_2.2.2.2.2.1 (by decide) (fun c_42_4626 => ?_) (fun c_42_4626 => ?_)
      · refine lv_iconst (v := 0) hx hb gX2_isUnder_3.2.2.1 (by decide) ?_
        refine toQ hQ0 ?_
        exact RP (v := 0) hC (Or.inr (rfl)) (by decide +kernel) gX2_isUnder_3.2.2.2
      · refine lv_iload_n hx hb gX2_isUnder_2.2.2.2.2.2.1 rfl (lv_at1 hl) ?_
        refine lv_iconst (v := 0) hx hb gX2_isUnder_2.2.2.2.2.2.2.1 (by decide) ?_
        refine lv_bipush (v := 6) hx hb gX2_isUnder_2.2.2.2.2.2.2.2.1 (by decide) ?_
        refine pSN hC hK hl (c_within l G vk 0 6) si_X2_61 rfl rfl (Nat.le_of_ble_eq_true rfl) rm_3_1_3 ⟨by first | exact Nat.le_of_ble_eq_true rfl | exact Nat.zero_le _, by first | exact Nat.le_of_ble_eq_true rfl | exact Nat.zero_le _⟩ gX2_isUnder_2.2.2.2.2.2.2.2.2.1 (Kors (Keqa fun a4628 => ?_) (Keqa fun a4628 => ?_))
        · refine lv_if_eq (tgt := 59) hx hb gX2_isUnder_2.2.2.2.2.2.2.2.2.2 (by decide) (fun c9 => absurd c9 (by decide)) (fun _ => ?_)
          refine lv_iconst (v := 1) hx hb gX2_isUnder_3.1 (by decide) ?_
          refine lv_goto (tgt := 60) hx hb gX2_isUnder_3.2.1 (by decide) ?_
          refine toQ hQ0 ?_
          exact RP (v := 1) hC (Or.inl (rfl)) (by decide +kernel) gX2_isUnder_3.2.2.2
        · refine lv_if_eq (tgt := 59) hx hb gX2_isUnder_2.2.2.2.2.2.2.2.2.2 (by decide) (fun _ => ?_) (fun c9 => absurd (by decide) c9)
          refine lv_iconst (v := 0) hx hb gX2_isUnder_3.2.2.1 (by decide) ?_
          refine toQ hQ0 ?_
          exact RP (v := 0) hC (Or.inr (rfl)) (by decide +kernel) gX2_isUnder_3.2.2.2
    | succ nP ihP =>
      intro kP vk ls hkP hl
      refine lv_iload_n hx hb gX2_isUnder_0.2.2.2.2.2.1 rfl (lv_at0 hl) ?_
      refine lv_bipush (v := 7) hx hb gX2_isUnder_0.2.2.2.2.2.2.1 (by decide) ?_
      refine lv_icmp_ge (tgt := 40) hx hb gX2_isUnder_0.2.2.2.2.2.2.2.1 (by decide) (fun c9 => absurd c9 (nI_ge (a := kP) (b := 7) (by omega) (by omega))) (fun _ => ?_)
      refine lv_iload_n hx hb gX2_isUnder_0.2.2.2.2.2.2.2.2.1 rfl (lv_at1 hl) ?_
      refine lv_iload_n hx hb gX2_isUnder_0.2.2.2.2.2.2.2.2.2 rfl (lv_at3 hl) ?_
      refine lv_icmp_eq (tgt := 40) hx hb gX2_isUnder_1.1 (by decide) (fun c_15_4629 => ?_) (fun c_15_4629 => ?_)
      · refine lv_iload_n hx hb gX2_isUnder_2.2.2.1 rfl (lv_at1 hl) ?_
        refine lv_iload_n hx hb gX2_isUnder_2.2.2.2.1 rfl (lv_at3 hl) ?_
        refine lv_icmp_ne (tgt := 59) hx hb gX2_isUnder_2.2.2.2.2.1 (by decide) (fun c9 => absurd (c_15_4629) c9) (fun _ => ?_)
        refine lv_iload_n hx hb gX2_isUnder_2.2.2.2.2.2.1 rfl (lv_at1 hl) ?_
        refine lv_iconst (v := 0) hx hb gX2_isUnder_2.2.2.2.2.2.2.1 (by decide) ?_
        refine lv_bipush (v := 6) hx hb gX2_isUnder_2.2.2.2.2.2.2.2.1 (by decide) ?_
        refine pSN hC hK hl (c_within l G vk 0 6) si_X2_61 rfl rfl (Nat.le_of_ble_eq_true rfl) rm_3_1_3 ⟨by first | exact Nat.le_of_ble_eq_true rfl | exact Nat.zero_le _, by first | exact Nat.le_of_ble_eq_true rfl | exact Nat.zero_le _⟩ gX2_isUnder_2.2.2.2.2.2.2.2.2.1 (Kors (Keqa fun a4631 => ?_) (Keqa fun a4631 => ?_))
        · refine lv_if_eq (tgt := 59) hx hb gX2_isUnder_2.2.2.2.2.2.2.2.2.2 (by decide) (fun c9 => absurd c9 (by decide)) (fun _ => ?_)
          refine lv_iconst (v := 1) hx hb gX2_isUnder_3.1 (by decide) ?_
          refine lv_goto (tgt := 60) hx hb gX2_isUnder_3.2.1 (by decide) ?_
          refine toQ hQ0 ?_
          exact RP (v := 1) hC (Or.inl (rfl)) (by decide +kernel) gX2_isUnder_3.2.2.2
        · refine lv_if_eq (tgt := 59) hx hb gX2_isUnder_2.2.2.2.2.2.2.2.2.2 (by decide) (fun _ => ?_) (fun c9 => absurd (by decide) c9)
          refine lv_iconst (v := 0) hx hb gX2_isUnder_3.2.2.1 (by decide) ?_
          refine toQ hQ0 ?_
          exact RP (v := 0) hC (Or.inr (rfl)) (by decide +kernel) gX2_isUnder_3.2.2.2
      · refine lv_iload_n hx hb gX2_isUnder_1.2.1 rfl (lv_at1 hl) ?_
        refine lv_iconst (v := 0) hx hb gX2_isUnder_1.2.2.1 (by decide) ?_
        refine lv_bipush (v := 6) hx hb gX2_isUnder_1.2.2.2.1 (by decide) ?_
        refine pSN hC hK hl (c_within l G vk 0 6) si_X2_61 rfl rfl (Nat.le_of_ble_eq_true rfl) rm_3_1_3 ⟨by first | exact Nat.le_of_ble_eq_true rfl | exact Nat.zero_le _, by first | exact Nat.le_of_ble_eq_true rfl | exact Nat.zero_le _⟩ gX2_isUnder_1.2.2.2.2.1 (Kors (Keqa fun a4633 => ?_) (Keqa fun a4633 => ?_))
        · refine lv_if_eq (tgt := 40) hx hb gX2_isUnder_1.2.2.2.2.2.1 (by decide) (fun c9 => absurd c9 (by decide)) (fun _ => ?_)
          obtain ⟨jk, hjk, rfl⟩ := Wi6 a4633
          refine va_gets hx hb hO.1.2.2.2.1 hS hown (hB _ m_957) (fun _ h => h) gX2_isUnder_1.2.2.2.2.2.2.1 ?_
          refine lv_iload_n hx hb gX2_isUnder_1.2.2.2.2.2.2.2.1 rfl (lv_at1 hl) ?_
          refine va_ti hx hb hO.1.2.2.2.2.1 hS (vp_in_nI (by omega) (by omega)) (v := .int (ABV.getD jk 0)) (congrArg (fun z9 => Value.int (ABV.getD z9 0)) (nI_clamp (by omega))) gX2_isUnder_1.2.2.2.2.2.2.2.2.1 ?_
          refine lv_topi (fun x4634 ex4634 => ?_)
          refine lv_istore_n (lv' := [(2, .int x4634), (3, .int (nI kP)), (0, .ref h0), (1, .int as9)]) hx hb gX2_isUnder_1.2.2.2.2.2.2.2.2.2 rfl hl (by decide) rfl (fun ls hl => ?_)
          refine lv_iinc (v := nI (kP + 1)) (lv' := [(3, .int (nI (kP + 1))), (2, .int x4634), (0, .ref h0), (1, .int as9)]) hx hb gX2_isUnder_2.1 hl (k := 1) rfl (nI_1 _) (by decide) rfl (fun ls hl => ?_)
          refine lv_goto (tgt := 7) hx hb gX2_isUnder_2.2.1 (by decide) ?_
          exact ihP (kP + 1) x4634 _ (by omega) (lv_sub hl [0, 1, 2, 3] rfl)
        · refine lv_if_eq (tgt := 40) hx hb gX2_isUnder_1.2.2.2.2.2.1 (by decide) (fun _ => ?_) (fun c9 => absurd (by decide) c9)
          refine lv_iload_n hx hb gX2_isUnder_2.2.2.1 rfl (lv_at1 hl) ?_
          refine lv_iload_n hx hb gX2_isUnder_2.2.2.2.1 rfl (lv_at3 hl) ?_
          refine lv_icmp_ne (tgt := 59) hx hb gX2_isUnder_2.2.2.2.2.1 (by decide) (fun _ => ?_) (fun c9 => absurd c9 (c_15_4629))
          refine lv_iconst (v := 0) hx hb gX2_isUnder_3.2.2.1 (by decide) ?_
          refine toQ hQ0 ?_
          exact RP (v := 0) hC (Or.inr (rfl)) (by decide +kernel) gX2_isUnder_3.2.2.2
  exact keyP 7 0 dk _ (by omega) (lv_sub hl [0, 1, 2, 3] rfl)
def K_d_quotient (l : Launch) (G : GG) (h0 : Nat) (xx : Int32) (bb : Nat) (tr9 : Nat) (jr : Nat) (dk : Int32) (dn : Int32) (dp : Int32) (da : Int32) (dq : Int32) : Prop := MI l G yX2_quotient cX2_quotient 3 (some .int) 1 0 0 [.ref h0, .int xx] [(h0, oX2 bb tr9 (nI jr) dk dn dp da dq)] (fun (r : Int32) (u : Int32) => (True)) (fun u : Int32 => [(h0, oX2 bb tr9 (nI jr) dk dn dp da u)])
set_option maxHeartbeats 4000000 in
set_option maxRecDepth 100000 in
theorem d_quotient (l : Launch) (G : GG) (h0 : Nat) (xx : Int32) (bb : Nat) (tr9 : Nat) (jr : Nat) (dk : Int32) (dn : Int32) (dp : Int32) (da : Int32) (dq : Int32) : K_d_quotient l G h0 xx bb tr9 jr dk dn dp da dq := by
  refine MI.start (by decide +kernel) (Nat.le_of_ble_eq_true rfl) ?_
  intro p e s m below meth c A ls hC hK hP hD hS hA hl
  refine absQ (fun Q0 hQ0 => ?_)
  have hl : lv_has ls 3 [(0, .ref h0), (1, .int xx)] := hl
  refine Kan8 hC (fun hx hb hr hml hB hown hlocks hnm => ?_)
  refine lv_aload_n hx hb gX2_quotient_0.1 rfl (lv_at0 hl) ?_
  refine gf_X2_29 hC rfl hK hP 0 rfl rfl gX2_quotient_0.2.1 ?_
  refine lv_aload_n hx hb gX2_quotient_0.2.2.1 rfl (lv_at0 hl) ?_
  refine gf_X2_26 hC rfl hK hP 0 rfl rfl gX2_quotient_0.2.2.2.1 ?_
  refine lv_isub hx hb gX2_quotient_0.2.2.2.2.1 ?_
  refine lv_istore_n (lv' := [(2, .int (dp - dn)), (0, .ref h0), (1, .int xx)]) hx hb gX2_quotient_0.2.2.2.2.2.1 rfl hl (by decide) rfl (fun ls hl => ?_)
  refine lv_iload_n hx hb gX2_quotient_0.2.2.2.2.2.2.1 rfl (lv_at0 hl) ?_
  refine lv_if_ne (tgt := 21) hx hb gX2_quotient_0.2.2.2.2.2.2.2.1 (by decide) (fun c_11_4635 => ?_) (fun c_11_4635 => ?_)
  · refine lv_iload_n hx hb gX2_quotient_1.2.2.2.1 rfl (lv_at2 hl) ?_
    refine lv_iload_n hx hb gX2_quotient_1.2.2.2.2.1 rfl (lv_at0 hl) ?_
    refine lv_idiv hx hb gX2_quotient_1.2.2.2.2.2.1 (c_11_4635) ?_
    refine lv_topi (fun x4636 ex4636 => ?_)
    refine toQ hQ0 ?_
    exact RI (v := x4636) hC hP hD hS [0] dq rfl rfl (by decide) (trivial) rfl gX2_quotient_1.2.2.2.2.2.2
  · refine lv_aload_n hx hb gX2_quotient_0.2.2.2.2.2.2.2.2.1 rfl (lv_at1 hl) ?_
    refine lv_iconst (v := 1) hx hb gX2_quotient_0.2.2.2.2.2.2.2.2.2 (by decide) ?_
    refine pf_X2_35 hC rfl hK hP hD hS 0 (ws' := [(h0, oX2 bb tr9 (nI jr) dk dn dp da 1)]) rfl (Nat.le_of_ble_eq_true rfl) rfl (by decide +kernel) (by decide +kernel) gX2_quotient_1.1 (fun H locs hP hD hS => ?_)
    refine lv_iconst (v := 0) hx hb gX2_quotient_1.2.1 (by decide) ?_
    refine toQ hQ0 ?_
    exact RI (v := 0) hC hP hD hS [0] 1 rfl rfl (by decide) (trivial) rfl gX2_quotient_1.2.2.1
def K_d_dealAs (l : Launch) (G : GG) (K : OO) (mn : Nat) (h0 : Nat) (as9 : Int32) (dd : Int32) (xx : Int32) (dz : Nat) (bb : Nat) (tr9 : Nat) (jr : Nat) (dk : Int32) (dn : Int32) (dp : Int32) (da : Int32) (dq : Int32) (ftr : Nat → Int32) : Prop := MIo l G K yX2_dealAs cX2_dealAs 8 (some .int) (3 * mn + 3) 0 0 [.ref h0, .int as9, .int dd, .int xx, .int (nI dz)] [(h0, oX2 bb tr9 (nI jr) dk dn dp da dq), (tr9, iA G 30 ftr)] (fun (r : Int32) (u : Nat × (Nat → Int32) × Int32) => (True) ∧ (u.1 ≤ 30)) (fun u : Nat × (Nat → Int32) × Int32 => [(h0, oX2 bb tr9 (nI u.1) dk dn dp da u.2.2), (tr9, iA G 30 u.2.1)])
set_option maxHeartbeats 4000000 in
set_option maxRecDepth 100000 in
theorem d_dealAs (l : Launch) (G : GG) (K : OO) (mn : Nat) (h0 : Nat) (as9 : Int32) (dd : Int32) (xx : Int32) (dz : Nat) (bb : Nat) (tr9 : Nat) (jr : Nat) (dk : Int32) (dn : Int32) (dp : Int32) (da : Int32) (dq : Int32) (ftr : Nat → Int32) (hdz : dz + mn = 20) (hjr : jr ≤ 30) (ihR : ∀ (h0 : Nat) (body : Int32) (of9 : Int32) (xx : Int32) (dz : Nat) (bb : Nat) (tr9 : Nat) (jr : Nat) (dk : Int32) (dn : Int32) (dp : Int32) (da : Int32) (dq : Int32) (ftr : Nat → Int32) (hdz : dz + mn = 21) (hjr : jr ≤ 30), MIo l G K yX2_run cX2_run 7 (some .int) (3 * mn + 2) 0 0 [.ref h0, .int body, .int of9, .int xx, .int (nI dz)] [(h0, oX2 bb tr9 (nI jr) dk dn dp da dq), (tr9, iA G 30 ftr)] (fun (r : Int32) (u : Nat × (Nat → Int32) × Int32) => (True) ∧ (u.1 ≤ 30)) (fun u : Nat × (Nat → Int32) × Int32 => [(h0, oX2 bb tr9 (nI u.1) dk dn dp da u.2.2), (tr9, iA G 30 u.2.1)])) : K_d_dealAs l G K mn h0 as9 dd xx dz bb tr9 jr dk dn dp da dq ftr := by
  refine MIo.start (by decide +kernel) (Nat.le_of_ble_eq_true rfl) ?_
  intro p e s m below meth c A ls hC hK hP hD hS hA hl hO
  refine absQ (fun Q0 hQ0 => ?_)
  have hl : lv_has ls 8 [(0, .ref h0), (1, .int as9), (2, .int dd), (3, .int xx), (4, .int (nI dz))] := hl
  refine Kan8 hC (fun hx hb hr hml hB hown hlocks hnm => ?_)
  refine lv_iload_n hx hb gX2_dealAs_0.1 rfl (lv_at2 hl) ?_
  refine lv_if_lt (tgt := 9) hx hb gX2_dealAs_0.2.1 (by decide) (fun c_1_4637 => ?_) (fun c_1_4637 => ?_)
  · refine lv_iconst (v := 0) hx hb gX2_dealAs_0.2.2.2.2.2.1 (by decide) ?_
    refine toQ hQ0 ?_
    exact RI (v := 0) hC hP hD hS [0, 1] (jr, ftr, dq) rfl rfl (by decide) (⟨trivial, by dsimp only; omega⟩) rfl gX2_dealAs_0.2.2.2.2.2.2.1
  · refine lv_iload_n hx hb gX2_dealAs_0.2.2.1 rfl (lv_at2 hl) ?_
    refine lv_iconst (v := 4) hx hb gX2_dealAs_0.2.2.2.1 (by decide) ?_
    refine lv_icmp_lt (tgt := 11) hx hb gX2_dealAs_0.2.2.2.2.1 (by decide) (fun c_6_4638 => ?_) (fun c_6_4638 => ?_)
    · obtain ⟨jd, hjd, rfl⟩ := ltN (N := 4) (by decide) c_1_4637 (Int32.not_le.mpr c_6_4638)
      refine lv_iload_n hx hb gX2_dealAs_0.2.2.2.2.2.2.2.1 rfl (lv_at1 hl) ?_
      refine lv_istore (lv' := [(5, .int as9), (0, .ref h0), (1, .int as9), (2, .int (nI jd)), (3, .int xx), (4, .int (nI dz))]) hx hb gX2_dealAs_0.2.2.2.2.2.2.2.2.1 hl (by decide) rfl (fun ls hl => ?_)
      refine lv_iconst (v := 0) hx hb gX2_dealAs_0.2.2.2.2.2.2.2.2.2 (by decide) ?_
      refine lv_istore (lv' := [(6, .int 0), (5, .int as9), (0, .ref h0), (1, .int as9), (2, .int (nI jd)), (3, .int xx), (4, .int (nI dz))]) hx hb gX2_dealAs_1.1 hl (by decide) rfl (fun ls hl => ?_)
      have keyP : ∀ (nP kP : Nat) (vk : Int32) (H : Heap) (locs : List Loc) (ls : Array Slot), kP + nP = 7 → va_PD G A [(h0, oX2 bb tr9 (nI jr) dk dn dp da dq), (tr9, iA G 30 ftr)] H → va_S A s.heap H locs → lv_has ls 8 [(6, .int (nI kP)), (5, .int vk), (0, .ref h0), (1, .int as9), (2, .int (nI jd)), (3, .int xx), (4, .int (nI dz))] → W p l e (RM (3 * mn + 3) 0 0) s m ([.ref h0, .int as9, .int (nI jd), .int xx, .int (nI dz)] : List Value).toArray below meth c H locs 0 0 Q0 (F0 m 17 ls []) := by
        intro nP
        induction nP with
        | zero =>
          intro kP vk H locs ls hkP hPD hS hl
          refine Kan2 hPD (fun hP hD => ?_)
          obtain rfl : 7 = kP := by omega
          have hl : lv_has ls 8 [(6, .int 7), (5, .int vk), (0, .ref h0), (1, .int as9), (2, .int (nI jd)), (3, .int xx), (4, .int (nI dz))] := hl
          refine lv_iload hx hb gX2_dealAs_1.2.1 (lv_at0 hl) ?_
          refine lv_bipush (v := 7) hx hb gX2_dealAs_1.2.2.1 (by decide) ?_
          refine lv_icmp_ge (tgt := 80) hx hb gX2_dealAs_1.2.2.2.1 (by decide) (fun _ => ?_) (fun c9 => absurd (by decide) c9)
          refine lv_iconst (v := 0) hx hb gX2_dealAs_4.2.2.2.2.1 (by decide) ?_
          refine toQ hQ0 ?_
          exact RI (v := 0) hC hP hD hS [0, 1] (jr, ftr, dq) rfl rfl (by decide) (⟨trivial, by dsimp only; omega⟩) rfl gX2_dealAs_4.2.2.2.2.2
        | succ nP ihP =>
          intro kP vk H locs ls hkP hPD hS hl
          refine Kan2 hPD (fun hP hD => ?_)
          refine lv_iload hx hb gX2_dealAs_1.2.1 (lv_at0 hl) ?_
          refine lv_bipush (v := 7) hx hb gX2_dealAs_1.2.2.1 (by decide) ?_
          refine lv_icmp_ge (tgt := 80) hx hb gX2_dealAs_1.2.2.2.1 (by decide) (fun c9 => absurd c9 (nI_ge (a := kP) (b := 7) (by omega) (by omega))) (fun _ => ?_)
          refine lv_iload hx hb gX2_dealAs_1.2.2.2.2.1 (lv_at1 hl) ?_
          refine lv_iconst (v := 0) hx hb gX2_dealAs_1.2.2.2.2.2.1 (by decide) ?_
          refine lv_bipush (v := 6) hx hb gX2_dealAs_1.2.2.2.2.2.2.1 (by decide) ?_
          refine pSN hC hK hl (c_within l G vk 0 6) si_X2_61 rfl rfl (Nat.le_of_ble_eq_true rfl) ⟨by simp only [RM]; omega, by simp only [RM]; omega⟩ ⟨by first | exact Nat.le_of_ble_eq_true rfl | exact Nat.zero_le _, by first | exact Nat.le_of_ble_eq_true rfl | exact Nat.zero_le _⟩ gX2_dealAs_1.2.2.2.2.2.2.2.1 (Kors (Keqa fun a4640 => ?_) (Keqa fun a4640 => ?_))
          · refine lv_if_eq (tgt := 80) hx hb gX2_dealAs_1.2.2.2.2.2.2.2.2.1 (by decide) (fun c9 => absurd c9 (by decide)) (fun _ => ?_)
            obtain ⟨jk, hjk, rfl⟩ := Wi6 a4640
            refine va_gets hx hb hO.1.2.2.2.2.2.1 hS hown (hB _ m_973) (fun _ h => h) gX2_dealAs_1.2.2.2.2.2.2.2.2.2 ?_
            refine lv_iload hx hb gX2_dealAs_2.1 (lv_at1 hl) ?_
            refine lv_iconst (v := 4) hx hb gX2_dealAs_2.2.1 (by decide) ?_
            refine lv_imul hx hb gX2_dealAs_2.2.2.1 ?_
            refine eqi (x1 := nI (jk * 4)) (nI_mul _ _) ?_
            refine lv_iload_n hx hb gX2_dealAs_2.2.2.2.1 rfl (lv_at4 hl) ?_
            refine lv_iadd hx hb gX2_dealAs_2.2.2.2.2.1 ?_
            refine eqi (x1 := nI (jk * 4 + jd)) (nI_add _ _) ?_
            refine va_ti hx hb hO.1.2.2.2.2.2.2 hS (vp_in_nI (by omega) (by omega)) (v := .int (BDS.getD (jk * 4 + jd) 0)) (congrArg (fun z9 => Value.int (BDS.getD z9 0)) (nI_clamp (by omega))) gX2_dealAs_2.2.2.2.2.2.1 ?_
            refine lv_topi (fun x4641 ex4641 => ?_)
            refine lv_istore (lv' := [(7, .int x4641), (6, .int (nI kP)), (5, .int (nI jk)), (0, .ref h0), (1, .int as9), (2, .int (nI jd)), (3, .int xx), (4, .int (nI dz))]) hx hb gX2_dealAs_2.2.2.2.2.2.2.1 hl (by decide) rfl (fun ls hl => ?_)
            refine lv_iload hx hb gX2_dealAs_2.2.2.2.2.2.2.2.1 (lv_at0 hl) ?_
            refine lv_if_eq (tgt := 66) hx hb gX2_dealAs_2.2.2.2.2.2.2.2.2.1 (by decide) (fun c_49_4642 => ?_) (fun c_49_4642 => ?_)
            · refine va_gets hx hb hO.1.2.2.2.1 hS hown (hB _ m_957) (fun _ h => h) gX2_dealAs_3.2.2.2.2.2.2.2.2.1 ?_
              refine lv_iload hx hb gX2_dealAs_3.2.2.2.2.2.2.2.2.2 (lv_at2 hl) ?_
              refine va_ti hx hb hO.1.2.2.2.2.1 hS (vp_in_nI (by omega) (by omega)) (v := .int (ABV.getD jk 0)) (congrArg (fun z9 => Value.int (ABV.getD z9 0)) (nI_clamp (by omega))) gX2_dealAs_4.1 ?_
              refine lv_topi (fun x4643 ex4643 => ?_)
              refine lv_istore (lv' := [(5, .int x4643), (7, .int x4641), (6, .int (nI kP)), (0, .ref h0), (1, .int as9), (2, .int (nI jd)), (3, .int xx), (4, .int (nI dz))]) hx hb gX2_dealAs_4.2.1 hl (by decide) rfl (fun ls hl => ?_)
              refine lv_iinc (v := nI (kP + 1)) (lv' := [(6, .int (nI (kP + 1))), (5, .int x4643), (7, .int x4641), (0, .ref h0), (1, .int as9), (2, .int (nI jd)), (3, .int xx), (4, .int (nI dz))]) hx hb gX2_dealAs_4.2.2.1 hl (k := 2) rfl (nI_1 _) (by decide) rfl (fun ls hl => ?_)
              refine lv_goto (tgt := 17) hx hb gX2_dealAs_4.2.2.2.1 (by decide) ?_
              exact ihP (kP + 1) x4643 _ _ _ (by omega) (And.intro hP hD) hS (lv_sub hl [0, 1, 3, 4, 5, 6, 7] rfl)
            · refine lv_aload_n hx hb gX2_dealAs_2.2.2.2.2.2.2.2.2.2 rfl (lv_at3 hl) ?_
              refine lv_iload hx hb gX2_dealAs_3.1 (lv_at0 hl) ?_
              refine lv_iload hx hb gX2_dealAs_3.2.1 (lv_at2 hl) ?_
              refine lv_iload_n hx hb gX2_dealAs_3.2.2.1 rfl (lv_at6 hl) ?_
              refine lv_iload hx hb gX2_dealAs_3.2.2.2.1 (lv_at7 hl) ?_
              refine lv_iconst (v := 1) hx hb gX2_dealAs_3.2.2.2.2.1 (by decide) ?_
              refine lv_iadd hx hb gX2_dealAs_3.2.2.2.2.2.1 ?_
              refine eqi (x1 := nI (dz + 1)) (nI_1 _) ?_
              refine iVo (wr := []) hO hC hK hl hP hD hS hA (ihR h0 x4641 (nI jk) xx (dz + 1) bb tr9 jr dk dn dp da dq ftr (by omega) (by omega)) si_X2_75 [0, 1] [] sm_0_1 fm_0_1 nd_0_1 rfl rfl (by decide) rfl rfl rfl rfl rfl (Nat.le_of_ble_eq_true rfl) ⟨by simp only [RM]; omega, by simp only [RM]; omega⟩ ⟨Nat.le_of_ble_eq_true rfl, Nat.le_of_ble_eq_true rfl⟩ gX2_dealAs_3.2.2.2.2.2.2.1 (fun r4644 => Ktu3 fun jr14646 gtr4647 dq14648 => ?_)
              intro H locs hr4644 hP hD hS
              try dsimp only at hr4644
              refine Kpdr (ws := [(h0, oX2 bb tr9 (nI jr14646) dk dn dp da dq14648), (tr9, iA G 30 gtr4647)]) hP hD (fun hP hD => ?_)
              obtain ⟨hr4644, w4649⟩ := hr4644
              refine toQ hQ0 ?_
              exact RI (v := r4644) hC hP hD hS [0, 1] (jr14646, gtr4647, dq14648) rfl rfl (by decide) (⟨trivial, by dsimp only; omega⟩) rfl gX2_dealAs_3.2.2.2.2.2.2.2.1
          · refine lv_if_eq (tgt := 80) hx hb gX2_dealAs_1.2.2.2.2.2.2.2.2.1 (by decide) (fun _ => ?_) (fun c9 => absurd (by decide) c9)
            refine lv_iconst (v := 0) hx hb gX2_dealAs_4.2.2.2.2.1 (by decide) ?_
            refine toQ hQ0 ?_
            exact RI (v := 0) hC hP hD hS [0, 1] (jr, ftr, dq) rfl rfl (by decide) (⟨trivial, by dsimp only; omega⟩) rfl gX2_dealAs_4.2.2.2.2.2
      exact keyP 7 0 as9 _ _ _ (by omega) (And.intro hP hD) hS (lv_sub hl [0, 1, 2, 3, 4, 5, 6] rfl)
    · refine lv_iconst (v := 0) hx hb gX2_dealAs_0.2.2.2.2.2.1 (by decide) ?_
      refine toQ hQ0 ?_
      exact RI (v := 0) hC hP hD hS [0, 1] (jr, ftr, dq) rfl rfl (by decide) (⟨trivial, by dsimp only; omega⟩) rfl gX2_dealAs_0.2.2.2.2.2.2.1
def K_d_upper (l : Launch) (G : GG) (K : OO) (mn : Nat) (h0 : Nat) (of9 : Int32) (dd : Int32) (xx : Int32) (dz : Nat) (bb : Nat) (tr9 : Nat) (jr : Nat) (dk : Int32) (dn : Int32) (dp : Int32) (da : Int32) (dq : Int32) (ftr : Nat → Int32) : Prop := MIo l G K yX2_upper cX2_upper 5 (some .int) (3 * mn + 4) 0 0 [.ref h0, .int of9, .int dd, .int xx, .int (nI dz)] [(h0, oX2 bb tr9 (nI jr) dk dn dp da dq), (tr9, iA G 30 ftr)] (fun (r : Int32) (u : Nat × (Nat → Int32) × Int32) => (True) ∧ (u.1 ≤ 30)) (fun u : Nat × (Nat → Int32) × Int32 => [(h0, oX2 bb tr9 (nI u.1) dk dn dp da u.2.2), (tr9, iA G 30 u.2.1)])
set_option maxHeartbeats 4000000 in
set_option maxRecDepth 100000 in
theorem d_upper (l : Launch) (G : GG) (K : OO) (mn : Nat) (h0 : Nat) (of9 : Int32) (dd : Int32) (xx : Int32) (dz : Nat) (bb : Nat) (tr9 : Nat) (jr : Nat) (dk : Int32) (dn : Int32) (dp : Int32) (da : Int32) (dq : Int32) (ftr : Nat → Int32) (hdz : dz + mn = 20) (hjr : jr ≤ 30) (ihR : ∀ (h0 : Nat) (body : Int32) (of9 : Int32) (xx : Int32) (dz : Nat) (bb : Nat) (tr9 : Nat) (jr : Nat) (dk : Int32) (dn : Int32) (dp : Int32) (da : Int32) (dq : Int32) (ftr : Nat → Int32) (hdz : dz + mn = 21) (hjr : jr ≤ 30), MIo l G K yX2_run cX2_run 7 (some .int) (3 * mn + 2) 0 0 [.ref h0, .int body, .int of9, .int xx, .int (nI dz)] [(h0, oX2 bb tr9 (nI jr) dk dn dp da dq), (tr9, iA G 30 ftr)] (fun (r : Int32) (u : Nat × (Nat → Int32) × Int32) => (True) ∧ (u.1 ≤ 30)) (fun u : Nat × (Nat → Int32) × Int32 => [(h0, oX2 bb tr9 (nI u.1) dk dn dp da u.2.2), (tr9, iA G 30 u.2.1)])) : K_d_upper l G K mn h0 of9 dd xx dz bb tr9 jr dk dn dp da dq ftr := by
  refine MIo.start (by decide +kernel) (Nat.le_of_ble_eq_true rfl) ?_
  intro p e s m below meth c A ls hC hK hP hD hS hA hl hO
  refine absQ (fun Q0 hQ0 => ?_)
  have hl : lv_has ls 5 [(0, .ref h0), (1, .int of9), (2, .int dd), (3, .int xx), (4, .int (nI dz))] := hl
  refine Kan8 hC (fun hx hb hr hml hB hown hlocks hnm => ?_)
  refine lv_iload_n hx hb gX2_upper_0.1 rfl (lv_at1 hl) ?_
  refine lv_iconst (v := 0) hx hb gX2_upper_0.2.1 (by decide) ?_
  refine lv_bipush (v := 6) hx hb gX2_upper_0.2.2.1 (by decide) ?_
  refine pSN hC hK hl (c_within l G of9 0 6) si_X2_61 rfl rfl (Nat.le_of_ble_eq_true rfl) ⟨by simp only [RM]; omega, by simp only [RM]; omega⟩ ⟨by first | exact Nat.le_of_ble_eq_true rfl | exact Nat.zero_le _, by first | exact Nat.le_of_ble_eq_true rfl | exact Nat.zero_le _⟩ gX2_upper_0.2.2.2.1 (Kors (Keqa fun a4651 => ?_) (Keqa fun a4651 => ?_))
  · refine lv_if_eq (tgt := 26) hx hb gX2_upper_0.2.2.2.2.1 (by decide) (fun c9 => absurd c9 (by decide)) (fun _ => ?_)
    obtain ⟨jk, hjk, rfl⟩ := Wi6 a4651
    refine lv_aload_n hx hb gX2_upper_0.2.2.2.2.2.1 rfl (lv_at0 hl) ?_
    refine va_gets hx hb hO.1.2.2.2.1 hS hown (hB _ m_957) (fun _ h => h) gX2_upper_0.2.2.2.2.2.2.1 ?_
    refine lv_iload_n hx hb gX2_upper_0.2.2.2.2.2.2.2.1 rfl (lv_at1 hl) ?_
    refine va_ti hx hb hO.1.2.2.2.2.1 hS (vp_in_nI (by omega) (by omega)) (v := .int (ABV.getD jk 0)) (congrArg (fun z9 => Value.int (ABV.getD z9 0)) (nI_clamp (by omega))) gX2_upper_0.2.2.2.2.2.2.2.2.1 ?_
    refine lv_topi (fun x4652 ex4652 => ?_)
    refine lv_iload_n hx hb gX2_upper_0.2.2.2.2.2.2.2.2.2 rfl (lv_at2 hl) ?_
    refine lv_iload_n hx hb gX2_upper_1.1 rfl (lv_at3 hl) ?_
    refine lv_iload hx hb gX2_upper_1.2.1 (lv_at4 hl) ?_
    refine iVo (wr := []) hO hC hK hl hP hD hS hA (d_dealAs l G K mn h0 x4652 dd xx dz bb tr9 jr dk dn dp da dq ftr (by omega) (by omega) ihR) si_X2_68 [0, 1] [] sm_0_1 fm_0_1 nd_0_1 rfl rfl (by decide) rfl rfl rfl rfl rfl (Nat.le_of_ble_eq_true rfl) ⟨by simp only [RM]; omega, by simp only [RM]; omega⟩ ⟨Nat.le_of_ble_eq_true rfl, Nat.le_of_ble_eq_true rfl⟩ gX2_upper_1.2.2.1 (fun r4653 => Ktu3 fun jr14655 gtr4656 dq14657 => ?_)
    intro H locs hr4653 hP hD hS
    try dsimp only at hr4653
    refine Kpdr (ws := [(h0, oX2 bb tr9 (nI jr14655) dk dn dp da dq14657), (tr9, iA G 30 gtr4656)]) hP hD (fun hP hD => ?_)
    obtain ⟨hr4653, w4658⟩ := hr4653
    refine lv_goto (tgt := 27) hx hb gX2_upper_1.2.2.2.1 (by decide) ?_
    refine toQ hQ0 ?_
    exact RI (v := r4653) hC hP hD hS [0, 1] (jr14655, gtr4656, dq14657) rfl rfl (by decide) (⟨trivial, by dsimp only; omega⟩) rfl gX2_upper_1.2.2.2.2.2
  · refine lv_if_eq (tgt := 26) hx hb gX2_upper_0.2.2.2.2.1 (by decide) (fun _ => ?_) (fun c9 => absurd (by decide) c9)
    refine lv_iconst (v := 0) hx hb gX2_upper_1.2.2.2.2.1 (by decide) ?_
    refine toQ hQ0 ?_
    exact RI (v := 0) hC hP hD hS [0, 1] (jr, ftr, dq) rfl rfl (by decide) (⟨trivial, by dsimp only; omega⟩) rfl gX2_upper_1.2.2.2.2.2
def K_d_run_step (l : Launch) (G : GG) (K : OO) (mn : Nat) (h0 : Nat) (body : Int32) (of9 : Int32) (xx : Int32) (dz : Nat) (bb : Nat) (tr9 : Nat) (jr : Nat) (dk : Int32) (dn : Int32) (dp : Int32) (da : Int32) (dq : Int32) (ftr : Nat → Int32) : Prop := MIo l G K yX2_run cX2_run 7 (some .int) (3 * (mn + 1) + 2) 0 0 [.ref h0, .int body, .int of9, .int xx, .int (nI dz)] [(h0, oX2 bb tr9 (nI jr) dk dn dp da dq), (tr9, iA G 30 ftr)] (fun (r : Int32) (u : Nat × (Nat → Int32) × Int32) => (True) ∧ (u.1 ≤ 30)) (fun u : Nat × (Nat → Int32) × Int32 => [(h0, oX2 bb tr9 (nI u.1) dk dn dp da u.2.2), (tr9, iA G 30 u.2.1)])
set_option maxHeartbeats 4000000 in
set_option maxRecDepth 100000 in
theorem d_run_step (l : Launch) (G : GG) (K : OO) (mn : Nat) (h0 : Nat) (body : Int32) (of9 : Int32) (xx : Int32) (dz : Nat) (bb : Nat) (tr9 : Nat) (jr : Nat) (dk : Int32) (dn : Int32) (dp : Int32) (da : Int32) (dq : Int32) (ftr : Nat → Int32) (hdz : dz + (mn + 1) = 21) (hjr : jr ≤ 30) (ihR : ∀ (h0 : Nat) (body : Int32) (of9 : Int32) (xx : Int32) (dz : Nat) (bb : Nat) (tr9 : Nat) (jr : Nat) (dk : Int32) (dn : Int32) (dp : Int32) (da : Int32) (dq : Int32) (ftr : Nat → Int32) (hdz : dz + mn = 21) (hjr : jr ≤ 30), MIo l G K yX2_run cX2_run 7 (some .int) (3 * mn + 2) 0 0 [.ref h0, .int body, .int of9, .int xx, .int (nI dz)] [(h0, oX2 bb tr9 (nI jr) dk dn dp da dq), (tr9, iA G 30 ftr)] (fun (r : Int32) (u : Nat × (Nat → Int32) × Int32) => (True) ∧ (u.1 ≤ 30)) (fun u : Nat × (Nat → Int32) × Int32 => [(h0, oX2 bb tr9 (nI u.1) dk dn dp da u.2.2), (tr9, iA G 30 u.2.1)])) : K_d_run_step l G K mn h0 body of9 xx dz bb tr9 jr dk dn dp da dq ftr := by
  refine MIo.start (by decide +kernel) (Nat.le_of_ble_eq_true rfl) ?_
  intro p e s m below meth c A ls hC hK hP hD hS hA hl hO
  refine absQ (fun Q0 hQ0 => ?_)
  have hl : lv_has ls 7 [(0, .ref h0), (1, .int body), (2, .int of9), (3, .int xx), (4, .int (nI dz))] := hl
  refine Kan8 hC (fun hx hb hr hml hB hown hlocks hnm => ?_)
  refine lv_iload hx hb gX2_run_0.1 (lv_at4 hl) ?_
  refine lv_bipush (v := 20) hx hb gX2_run_0.2.1 (by decide) ?_
  refine lv_icmp_le (tgt := 9) hx hb gX2_run_0.2.2.1 (by decide) (fun _ => ?_) (fun c9 => absurd ((nI_leI (a := dz) (b := 20) (by omega) (by decide)).mpr (by omega)) c9)
  refine lv_aload_n hx hb gX2_run_0.2.2.2.2.2.1 rfl (lv_at0 hl) ?_
  refine gf_X2_19 hC rfl hK hP 0 rfl rfl gX2_run_0.2.2.2.2.2.2.1 ?_
  refine lv_bipush (v := 30) hx hb gX2_run_0.2.2.2.2.2.2.2.1 (by decide) ?_
  refine lv_icmp_ge (tgt := 38) hx hb gX2_run_0.2.2.2.2.2.2.2.2.1 (by decide) (fun c_15_4659 => ?_) (fun c_15_4659 => ?_)
  · refine lv_iload_n hx hb gX2_run_2.2.1 rfl (lv_at1 hl) ?_
    by_cases c_39_4660 : body = 10
    · refine lv_lookup (tgt := 152) (off := 113) hx hb gX2_run_2.2.2.1 (by decide) (by rw [c_39_4660]; rfl) (by decide) ?_
      refine lv_iload_n hx hb gX2_run_2.2.2.2.1 rfl (lv_at3 hl) ?_
      refine lv_aload_n hx hb gX2_run_2.2.2.2.2.1 rfl (lv_at0 hl) ?_
      refine gf_X2_32 hC rfl hK hP 0 rfl rfl gX2_run_2.2.2.2.2.2.1 ?_
      refine lv_iadd hx hb gX2_run_2.2.2.2.2.2.2.1 ?_
      refine toQ hQ0 ?_
      exact RI (v := xx + da) hC hP hD hS [0, 1] (jr, ftr, dq) rfl rfl (by decide) (⟨trivial, by dsimp only; omega⟩) rfl gX2_run_2.2.2.2.2.2.2.2.1
    by_cases c_39_4661 : body = 11
    · refine lv_lookup (tgt := 159) (off := 120) hx hb gX2_run_2.2.2.1 (by decide) (by rw [c_39_4661]; rfl) (by decide) ?_
      refine lv_aload_n hx hb gX2_run_2.2.2.2.2.2.2.2.2.1 rfl (lv_at0 hl) ?_
      refine lv_aload_n hx hb gX2_run_2.2.2.2.2.2.2.2.2.2 rfl (lv_at0 hl) ?_
      refine gf_X2_23 hC rfl hK hP 0 rfl rfl gX2_run_3.1 ?_
      refine lv_iconst (v := 0) hx hb gX2_run_3.2.1 (by decide) ?_
      refine lv_iload_n hx hb gX2_run_3.2.2.1 rfl (lv_at3 hl) ?_
      refine lv_iload hx hb gX2_run_3.2.2.2.1 (lv_at4 hl) ?_
      refine iVo (wr := []) hO hC hK hl hP hD hS hA (d_dealAs l G K mn h0 dk 0 xx dz bb tr9 jr dk dn dp da dq ftr (by omega) (by omega) ihR) si_X2_68 [0, 1] [] sm_0_1 fm_0_1 nd_0_1 rfl rfl (by decide) rfl rfl rfl rfl rfl (Nat.le_of_ble_eq_true rfl) ⟨by simp only [RM]; omega, by simp only [RM]; omega⟩ ⟨Nat.le_of_ble_eq_true rfl, Nat.le_of_ble_eq_true rfl⟩ gX2_run_3.2.2.2.2.1 (fun r4662 => Ktu3 fun jr14664 gtr4665 dq14666 => ?_)
      intro H locs hr4662 hP hD hS
      try dsimp only at hr4662
      refine Kpdr (ws := [(h0, oX2 bb tr9 (nI jr14664) dk dn dp da dq14666), (tr9, iA G 30 gtr4665)]) hP hD (fun hP hD => ?_)
      obtain ⟨hr4662, w4667⟩ := hr4662
      refine lv_iconst (v := 2) hx hb gX2_run_3.2.2.2.2.2.1 (by decide) ?_
      refine lv_imul hx hb gX2_run_3.2.2.2.2.2.2.1 ?_
      refine toQ hQ0 ?_
      exact RI (v := r4662 * 2) hC hP hD hS [0, 1] (jr14664, gtr4665, dq14666) rfl rfl (by decide) (⟨trivial, by dsimp only; omega⟩) rfl gX2_run_3.2.2.2.2.2.2.2.1
    by_cases c_39_4668 : body = 12
    · refine lv_lookup (tgt := 174) (off := 135) hx hb gX2_run_2.2.2.1 (by decide) (by rw [c_39_4668]; rfl) (by decide) ?_
      refine lv_aload_n hx hb gX2_run_3.2.2.2.2.2.2.2.2.1 rfl (lv_at0 hl) ?_
      refine lv_aload_n hx hb gX2_run_3.2.2.2.2.2.2.2.2.2 rfl (lv_at0 hl) ?_
      refine gf_X2_23 hC rfl hK hP 0 rfl rfl gX2_run_4.1 ?_
      refine lv_iconst (v := 1) hx hb gX2_run_4.2.1 (by decide) ?_
      refine lv_iload_n hx hb gX2_run_4.2.2.1 rfl (lv_at3 hl) ?_
      refine lv_iload hx hb gX2_run_4.2.2.2.1 (lv_at4 hl) ?_
      refine iVo (wr := []) hO hC hK hl hP hD hS hA (d_dealAs l G K mn h0 dk 1 xx dz bb tr9 jr dk dn dp da dq ftr (by omega) (by omega) ihR) si_X2_68 [0, 1] [] sm_0_1 fm_0_1 nd_0_1 rfl rfl (by decide) rfl rfl rfl rfl rfl (Nat.le_of_ble_eq_true rfl) ⟨by simp only [RM]; omega, by simp only [RM]; omega⟩ ⟨Nat.le_of_ble_eq_true rfl, Nat.le_of_ble_eq_true rfl⟩ gX2_run_4.2.2.2.2.1 (fun r4669 => Ktu3 fun jr14671 gtr4672 dq14673 => ?_)
      intro H locs hr4669 hP hD hS
      try dsimp only at hr4669
      refine Kpdr (ws := [(h0, oX2 bb tr9 (nI jr14671) dk dn dp da dq14673), (tr9, iA G 30 gtr4672)]) hP hD (fun hP hD => ?_)
      obtain ⟨hr4669, w4674⟩ := hr4669
      refine lv_aload_n hx hb gX2_run_4.2.2.2.2.2.1 rfl (lv_at0 hl) ?_
      refine gf_X2_29 hC rfl hK hP 0 rfl rfl gX2_run_4.2.2.2.2.2.2.1 ?_
      refine lv_isub hx hb gX2_run_4.2.2.2.2.2.2.2.1 ?_
      refine toQ hQ0 ?_
      exact RI (v := r4669 - dp) hC hP hD hS [0, 1] (jr14671, gtr4672, dq14673) rfl rfl (by decide) (⟨trivial, by dsimp only; omega⟩) rfl gX2_run_4.2.2.2.2.2.2.2.2.1
    by_cases c_39_4675 : body = 13
    · refine lv_lookup (tgt := 192) (off := 153) hx hb gX2_run_2.2.2.1 (by decide) (by rw [c_39_4675]; rfl) (by decide) ?_
      refine lv_aload_n hx hb gX2_run_4.2.2.2.2.2.2.2.2.2 rfl (lv_at0 hl) ?_
      refine lv_iload_n hx hb gX2_run_5.1 rfl (lv_at3 hl) ?_
      refine iV (wr := [(tr9, iA G 30 ftr)]) hC hK hl hP hD hS hA (d_quotient l G h0 xx bb tr9 jr dk dn dp da dq) si_X2_78 [0] [1] sm_0 fm_0 nd_0 sm_1 nd_1 dj_0__1 rfl rfl rfl rfl rfl (Nat.le_of_ble_eq_true rfl) ⟨by simp only [RM]; omega, by simp only [RM]; omega⟩ ⟨Nat.le_of_ble_eq_true rfl, Nat.le_of_ble_eq_true rfl⟩ gX2_run_5.2.1 (fun r4676 dq14678 H locs hr4676 hP hD hS => ?_)
      try dsimp only at hr4676
      refine Kpdr (ws := [(tr9, iA G 30 ftr), (h0, oX2 bb tr9 (nI jr) dk dn dp da dq14678)]) hP hD (fun hP hD => ?_)
      refine toQ hQ0 ?_
      exact RI (v := r4676) hC hP hD hS [1, 0] (jr, ftr, dq14678) rfl rfl (by decide) (⟨trivial, by dsimp only; omega⟩) rfl gX2_run_5.2.2.1
    by_cases c_39_4679 : body = 20
    · refine lv_lookup (tgt := 198) (off := 159) hx hb gX2_run_2.2.2.1 (by decide) (by rw [c_39_4679]; rfl) (by decide) ?_
      refine lv_aload_n hx hb gX2_run_5.2.2.2.1 rfl (lv_at0 hl) ?_
      refine lv_iload_n hx hb gX2_run_5.2.2.2.2.1 rfl (lv_at2 hl) ?_
      refine lv_iconst (v := 1) hx hb gX2_run_5.2.2.2.2.2.1 (by decide) ?_
      refine lv_iload_n hx hb gX2_run_5.2.2.2.2.2.2.1 rfl (lv_at3 hl) ?_
      refine lv_iload hx hb gX2_run_5.2.2.2.2.2.2.2.1 (lv_at4 hl) ?_
      refine iVo (wr := []) hO hC hK hl hP hD hS hA (d_upper l G K mn h0 of9 1 xx dz bb tr9 jr dk dn dp da dq ftr (by omega) (by omega) ihR) si_X2_81 [0, 1] [] sm_0_1 fm_0_1 nd_0_1 rfl rfl (by decide) rfl rfl rfl rfl rfl (Nat.le_of_ble_eq_true rfl) ⟨by simp only [RM]; omega, by simp only [RM]; omega⟩ ⟨Nat.le_of_ble_eq_true rfl, Nat.le_of_ble_eq_true rfl⟩ gX2_run_5.2.2.2.2.2.2.2.2.1 (fun r4680 => Ktu3 fun jr14682 gtr4683 dq14684 => ?_)
      intro H locs hr4680 hP hD hS
      try dsimp only at hr4680
      refine Kpdr (ws := [(h0, oX2 bb tr9 (nI jr14682) dk dn dp da dq14684), (tr9, iA G 30 gtr4683)]) hP hD (fun hP hD => ?_)
      obtain ⟨hr4680, w4685⟩ := hr4680
      refine lv_aload_n hx hb gX2_run_5.2.2.2.2.2.2.2.2.2 rfl (lv_at0 hl) ?_
      refine gf_X2_26 hC rfl hK hP 0 rfl rfl gX2_run_6.1 ?_
      refine lv_ixor hx hb gX2_run_6.2.1 ?_
      refine toQ hQ0 ?_
      exact RI (v := r4680 ^^^ dn) hC hP hD hS [0, 1] (jr14682, gtr4683, dq14684) rfl rfl (by decide) (⟨trivial, by dsimp only; omega⟩) rfl gX2_run_6.2.2.1
    by_cases c_39_4686 : body = 30
    · refine lv_lookup (tgt := 213) (off := 174) hx hb gX2_run_2.2.2.1 (by decide) (by rw [c_39_4686]; rfl) (by decide) ?_
      refine lv_aload_n hx hb gX2_run_6.2.2.2.1 rfl (lv_at0 hl) ?_
      refine lv_iload_n hx hb gX2_run_6.2.2.2.2.1 rfl (lv_at2 hl) ?_
      refine lv_iconst (v := 2) hx hb gX2_run_6.2.2.2.2.2.1 (by decide) ?_
      refine lv_iload_n hx hb gX2_run_6.2.2.2.2.2.2.1 rfl (lv_at3 hl) ?_
      refine lv_iload hx hb gX2_run_6.2.2.2.2.2.2.2.1 (lv_at4 hl) ?_
      refine iVo (wr := []) hO hC hK hl hP hD hS hA (d_upper l G K mn h0 of9 2 xx dz bb tr9 jr dk dn dp da dq ftr (by omega) (by omega) ihR) si_X2_81 [0, 1] [] sm_0_1 fm_0_1 nd_0_1 rfl rfl (by decide) rfl rfl rfl rfl rfl (Nat.le_of_ble_eq_true rfl) ⟨by simp only [RM]; omega, by simp only [RM]; omega⟩ ⟨Nat.le_of_ble_eq_true rfl, Nat.le_of_ble_eq_true rfl⟩ gX2_run_6.2.2.2.2.2.2.2.2.1 (fun r4687 => Ktu3 fun jr14689 gtr4690 dq14691 => ?_)
      intro H locs hr4687 hP hD hS
      try dsimp only at hr4687
      refine Kpdr (ws := [(h0, oX2 bb tr9 (nI jr14689) dk dn dp da dq14691), (tr9, iA G 30 gtr4690)]) hP hD (fun hP hD => ?_)
      obtain ⟨hr4687, w4692⟩ := hr4687
      refine lv_iconst (v := 3) hx hb gX2_run_6.2.2.2.2.2.2.2.2.2 (by decide) ?_
      refine lv_imul hx hb gX2_run_7.1 ?_
      refine toQ hQ0 ?_
      exact RI (v := r4687 * 3) hC hP hD hS [0, 1] (jr14689, gtr4690, dq14691) rfl rfl (by decide) (⟨trivial, by dsimp only; omega⟩) rfl gX2_run_7.2.1
    by_cases c_39_4693 : body = 40
    · refine lv_lookup (tgt := 225) (off := 186) hx hb gX2_run_2.2.2.1 (by decide) (by rw [c_39_4693]; rfl) (by decide) ?_
      refine lv_iconst (v := 0) hx hb gX2_run_7.2.2.1 (by decide) ?_
      refine lv_aload_n hx hb gX2_run_7.2.2.2.1 rfl (lv_at0 hl) ?_
      refine lv_iload_n hx hb gX2_run_7.2.2.2.2.1 rfl (lv_at2 hl) ?_
      refine lv_iconst (v := 1) hx hb gX2_run_7.2.2.2.2.2.1 (by decide) ?_
      refine lv_iload_n hx hb gX2_run_7.2.2.2.2.2.2.1 rfl (lv_at3 hl) ?_
      refine lv_iload hx hb gX2_run_7.2.2.2.2.2.2.2.1 (lv_at4 hl) ?_
      refine iVo (wr := []) hO hC hK hl hP hD hS hA (d_upper l G K mn h0 of9 1 xx dz bb tr9 jr dk dn dp da dq ftr (by omega) (by omega) ihR) si_X2_81 [0, 1] [] sm_0_1 fm_0_1 nd_0_1 rfl rfl (by decide) rfl rfl rfl rfl rfl (Nat.le_of_ble_eq_true rfl) ⟨by simp only [RM]; omega, by simp only [RM]; omega⟩ ⟨Nat.le_of_ble_eq_true rfl, Nat.le_of_ble_eq_true rfl⟩ gX2_run_7.2.2.2.2.2.2.2.2.1 (fun r4694 => Ktu3 fun jr14696 gtr4697 dq14698 => ?_)
      intro H locs hr4694 hP hD hS
      try dsimp only at hr4694
      refine Kpdr (ws := [(h0, oX2 bb tr9 (nI jr14696) dk dn dp da dq14698), (tr9, iA G 30 gtr4697)]) hP hD (fun hP hD => ?_)
      obtain ⟨hr4694, w4699⟩ := hr4694
      refine lv_isub hx hb gX2_run_7.2.2.2.2.2.2.2.2.2 ?_
      refine toQ hQ0 ?_
      exact RI (v := 0 - r4694) hC hP hD hS [0, 1] (jr14696, gtr4697, dq14698) rfl rfl (by decide) (⟨trivial, by dsimp only; omega⟩) rfl gX2_run_8.1
    by_cases c_39_4700 : body = 41
    · refine lv_lookup (tgt := 237) (off := 198) hx hb gX2_run_2.2.2.1 (by decide) (by rw [c_39_4700]; rfl) (by decide) ?_
      refine lv_aload_n hx hb gX2_run_8.2.1 rfl (lv_at0 hl) ?_
      refine lv_iload_n hx hb gX2_run_8.2.2.1 rfl (lv_at2 hl) ?_
      refine lv_iconst (v := 3) hx hb gX2_run_8.2.2.2.1 (by decide) ?_
      refine lv_iload_n hx hb gX2_run_8.2.2.2.2.1 rfl (lv_at3 hl) ?_
      refine lv_iconst (v := 2) hx hb gX2_run_8.2.2.2.2.2.1 (by decide) ?_
      refine lv_iadd hx hb gX2_run_8.2.2.2.2.2.2.1 ?_
      refine lv_iload hx hb gX2_run_8.2.2.2.2.2.2.2.1 (lv_at4 hl) ?_
      refine iVo (wr := []) hO hC hK hl hP hD hS hA (d_upper l G K mn h0 of9 3 (xx + 2) dz bb tr9 jr dk dn dp da dq ftr (by omega) (by omega) ihR) si_X2_81 [0, 1] [] sm_0_1 fm_0_1 nd_0_1 rfl rfl (by decide) rfl rfl rfl rfl rfl (Nat.le_of_ble_eq_true rfl) ⟨by simp only [RM]; omega, by simp only [RM]; omega⟩ ⟨Nat.le_of_ble_eq_true rfl, Nat.le_of_ble_eq_true rfl⟩ gX2_run_8.2.2.2.2.2.2.2.2.1 (fun r4701 => Ktu3 fun jr14703 gtr4704 dq14705 => ?_)
      intro H locs hr4701 hP hD hS
      try dsimp only at hr4701
      refine Kpdr (ws := [(h0, oX2 bb tr9 (nI jr14703) dk dn dp da dq14705), (tr9, iA G 30 gtr4704)]) hP hD (fun hP hD => ?_)
      obtain ⟨hr4701, w4706⟩ := hr4701
      refine toQ hQ0 ?_
      exact RI (v := r4701) hC hP hD hS [0, 1] (jr14703, gtr4704, dq14705) rfl rfl (by decide) (⟨trivial, by dsimp only; omega⟩) rfl gX2_run_8.2.2.2.2.2.2.2.2.2
    by_cases c_39_4707 : body = 50
    · refine lv_lookup (tgt := 249) (off := 210) hx hb gX2_run_2.2.2.1 (by decide) (by rw [c_39_4707]; rfl) (by decide) ?_
      refine lv_aload_n hx hb gX2_run_9.1 rfl (lv_at0 hl) ?_
      refine lv_iload_n hx hb gX2_run_9.2.1 rfl (lv_at2 hl) ?_
      refine lv_iconst (v := 0) hx hb gX2_run_9.2.2.1 (by decide) ?_
      refine lv_iload_n hx hb gX2_run_9.2.2.2.1 rfl (lv_at3 hl) ?_
      refine lv_iload hx hb gX2_run_9.2.2.2.2.1 (lv_at4 hl) ?_
      refine iVo (wr := []) hO hC hK hl hP hD hS hA (d_upper l G K mn h0 of9 0 xx dz bb tr9 jr dk dn dp da dq ftr (by omega) (by omega) ihR) si_X2_81 [0, 1] [] sm_0_1 fm_0_1 nd_0_1 rfl rfl (by decide) rfl rfl rfl rfl rfl (Nat.le_of_ble_eq_true rfl) ⟨by simp only [RM]; omega, by simp only [RM]; omega⟩ ⟨Nat.le_of_ble_eq_true rfl, Nat.le_of_ble_eq_true rfl⟩ gX2_run_9.2.2.2.2.2.1 (fun r4708 => Ktu3 fun jr14710 gtr4711 dq14712 => ?_)
      intro H locs hr4708 hP hD hS
      try dsimp only at hr4708
      refine Kpdr (ws := [(h0, oX2 bb tr9 (nI jr14710) dk dn dp da dq14712), (tr9, iA G 30 gtr4711)]) hP hD (fun hP hD => ?_)
      obtain ⟨hr4708, w4713⟩ := hr4708
      refine lv_aload_n hx hb gX2_run_9.2.2.2.2.2.2.1 rfl (lv_at0 hl) ?_
      refine gf_X2_26 hC rfl hK hP 0 rfl rfl gX2_run_9.2.2.2.2.2.2.2.1 ?_
      refine lv_isub hx hb gX2_run_9.2.2.2.2.2.2.2.2.1 ?_
      refine toQ hQ0 ?_
      exact RI (v := r4708 - dn) hC hP hD hS [0, 1] (jr14710, gtr4711, dq14712) rfl rfl (by decide) (⟨trivial, by dsimp only; omega⟩) rfl gX2_run_9.2.2.2.2.2.2.2.2.2
    by_cases c_39_4714 : body = 51
    · refine lv_lookup (tgt := 264) (off := 225) hx hb gX2_run_2.2.2.1 (by decide) (by rw [c_39_4714]; rfl) (by decide) ?_
      refine lv_aload_n hx hb gX2_run_10.1 rfl (lv_at0 hl) ?_
      refine lv_iload_n hx hb gX2_run_10.2.1 rfl (lv_at2 hl) ?_
      refine lv_iconst (v := 2) hx hb gX2_run_10.2.2.1 (by decide) ?_
      refine lv_iload_n hx hb gX2_run_10.2.2.2.1 rfl (lv_at3 hl) ?_
      refine lv_iload hx hb gX2_run_10.2.2.2.2.1 (lv_at4 hl) ?_
      refine iVo (wr := []) hO hC hK hl hP hD hS hA (d_upper l G K mn h0 of9 2 xx dz bb tr9 jr dk dn dp da dq ftr (by omega) (by omega) ihR) si_X2_81 [0, 1] [] sm_0_1 fm_0_1 nd_0_1 rfl rfl (by decide) rfl rfl rfl rfl rfl (Nat.le_of_ble_eq_true rfl) ⟨by simp only [RM]; omega, by simp only [RM]; omega⟩ ⟨Nat.le_of_ble_eq_true rfl, Nat.le_of_ble_eq_true rfl⟩ gX2_run_10.2.2.2.2.2.1 (fun r4715 => Ktu3 fun jr14717 gtr4718 dq14719 => ?_)
      intro H locs hr4715 hP hD hS
      try dsimp only at hr4715
      refine Kpdr (ws := [(h0, oX2 bb tr9 (nI jr14717) dk dn dp da dq14719), (tr9, iA G 30 gtr4718)]) hP hD (fun hP hD => ?_)
      obtain ⟨hr4715, w4720⟩ := hr4715
      refine lv_istore (lv' := [(5, .int r4715), (0, .ref h0), (1, .int body), (2, .int of9), (3, .int xx), (4, .int (nI dz))]) hx hb gX2_run_10.2.2.2.2.2.2.1 hl (by decide) rfl (fun ls hl => ?_)
      refine lv_iload hx hb gX2_run_10.2.2.2.2.2.2.2.1 (lv_at0 hl) ?_
      refine lv_aload_n hx hb gX2_run_10.2.2.2.2.2.2.2.2.1 rfl (lv_at1 hl) ?_
      refine lv_aload_n hx hb gX2_run_10.2.2.2.2.2.2.2.2.2 rfl (lv_at1 hl) ?_
      refine gf_X2_23 hC rfl hK hP 0 rfl rfl gX2_run_11.1 ?_
      refine lv_iconst (v := 1) hx hb gX2_run_11.2.1 (by decide) ?_
      refine lv_iconst (v := 1) hx hb gX2_run_11.2.2.1 (by decide) ?_
      refine lv_iload hx hb gX2_run_11.2.2.2.1 (lv_at5 hl) ?_
      refine iVo (wr := []) hO hC hK hl hP hD hS hA (d_dealAs l G K mn h0 dk 1 1 dz bb tr9 jr14717 dk dn dp da dq14719 gtr4718 (by omega) (by omega) ihR) si_X2_68 [0, 1] [] sm_0_1 fm_0_1 nd_0_1 rfl rfl (by decide) rfl rfl rfl rfl rfl (Nat.le_of_ble_eq_true rfl) ⟨by simp only [RM]; omega, by simp only [RM]; omega⟩ ⟨Nat.le_of_ble_eq_true rfl, Nat.le_of_ble_eq_true rfl⟩ gX2_run_11.2.2.2.2.1 (fun r4721 => Ktu3 fun jr14723 gtr4724 dq14725 => ?_)
      intro H locs hr4721 hP hD hS
      try dsimp only at hr4721
      refine Kpdr (ws := [(h0, oX2 bb tr9 (nI jr14723) dk dn dp da dq14725), (tr9, iA G 30 gtr4724)]) hP hD (fun hP hD => ?_)
      obtain ⟨hr4721, w4726⟩ := hr4721
      refine lv_iadd hx hb gX2_run_11.2.2.2.2.2.1 ?_
      refine toQ hQ0 ?_
      exact RI (v := r4715 + r4721) hC hP hD hS [0, 1] (jr14723, gtr4724, dq14725) rfl rfl (by decide) (⟨trivial, by dsimp only; omega⟩) rfl gX2_run_11.2.2.2.2.2.2.1
    by_cases c_39_4727 : body = 60
    · refine lv_lookup (tgt := 291) (off := 252) hx hb gX2_run_2.2.2.1 (by decide) (by rw [c_39_4727]; rfl) (by decide) ?_
      refine lv_aload_n hx hb gX2_run_11.2.2.2.2.2.2.2.1 rfl (lv_at0 hl) ?_
      refine lv_iload_n hx hb gX2_run_11.2.2.2.2.2.2.2.2.1 rfl (lv_at2 hl) ?_
      refine lv_iconst (v := 2) hx hb gX2_run_11.2.2.2.2.2.2.2.2.2 (by decide) ?_
      refine lv_iload_n hx hb gX2_run_12.1 rfl (lv_at3 hl) ?_
      refine lv_iload hx hb gX2_run_12.2.1 (lv_at4 hl) ?_
      refine iVo (wr := []) hO hC hK hl hP hD hS hA (d_upper l G K mn h0 of9 2 xx dz bb tr9 jr dk dn dp da dq ftr (by omega) (by omega) ihR) si_X2_81 [0, 1] [] sm_0_1 fm_0_1 nd_0_1 rfl rfl (by decide) rfl rfl rfl rfl rfl (Nat.le_of_ble_eq_true rfl) ⟨by simp only [RM]; omega, by simp only [RM]; omega⟩ ⟨Nat.le_of_ble_eq_true rfl, Nat.le_of_ble_eq_true rfl⟩ gX2_run_12.2.2.1 (fun r4728 => Ktu3 fun jr14730 gtr4731 dq14732 => ?_)
      intro H locs hr4728 hP hD hS
      try dsimp only at hr4728
      refine Kpdr (ws := [(h0, oX2 bb tr9 (nI jr14730) dk dn dp da dq14732), (tr9, iA G 30 gtr4731)]) hP hD (fun hP hD => ?_)
      obtain ⟨hr4728, w4733⟩ := hr4728
      refine lv_iconst (v := 2) hx hb gX2_run_12.2.2.2.1 (by decide) ?_
      refine lv_imul hx hb gX2_run_12.2.2.2.2.1 ?_
      refine toQ hQ0 ?_
      exact RI (v := r4728 * 2) hC hP hD hS [0, 1] (jr14730, gtr4731, dq14732) rfl rfl (by decide) (⟨trivial, by dsimp only; omega⟩) rfl gX2_run_12.2.2.2.2.2.1
    by_cases c_39_4734 : body = 61
    · refine lv_lookup (tgt := 303) (off := 264) hx hb gX2_run_2.2.2.1 (by decide) (by rw [c_39_4734]; rfl) (by decide) ?_
      refine lv_aload_n hx hb gX2_run_12.2.2.2.2.2.2.1 rfl (lv_at0 hl) ?_
      refine lv_iload_n hx hb gX2_run_12.2.2.2.2.2.2.2.1 rfl (lv_at2 hl) ?_
      refine lv_iconst (v := 0) hx hb gX2_run_12.2.2.2.2.2.2.2.2.1 (by decide) ?_
      refine lv_iload_n hx hb gX2_run_12.2.2.2.2.2.2.2.2.2 rfl (lv_at3 hl) ?_
      refine lv_aload_n hx hb gX2_run_13.1 rfl (lv_at0 hl) ?_
      refine gf_X2_29 hC rfl hK hP 0 rfl rfl gX2_run_13.2.1 ?_
      refine lv_iadd hx hb gX2_run_13.2.2.1 ?_
      refine lv_iload hx hb gX2_run_13.2.2.2.1 (lv_at4 hl) ?_
      refine iVo (wr := []) hO hC hK hl hP hD hS hA (d_upper l G K mn h0 of9 0 (xx + dp) dz bb tr9 jr dk dn dp da dq ftr (by omega) (by omega) ihR) si_X2_81 [0, 1] [] sm_0_1 fm_0_1 nd_0_1 rfl rfl (by decide) rfl rfl rfl rfl rfl (Nat.le_of_ble_eq_true rfl) ⟨by simp only [RM]; omega, by simp only [RM]; omega⟩ ⟨Nat.le_of_ble_eq_true rfl, Nat.le_of_ble_eq_true rfl⟩ gX2_run_13.2.2.2.2.1 (fun r4735 => Ktu3 fun jr14737 gtr4738 dq14739 => ?_)
      intro H locs hr4735 hP hD hS
      try dsimp only at hr4735
      refine Kpdr (ws := [(h0, oX2 bb tr9 (nI jr14737) dk dn dp da dq14739), (tr9, iA G 30 gtr4738)]) hP hD (fun hP hD => ?_)
      obtain ⟨hr4735, w4740⟩ := hr4735
      refine toQ hQ0 ?_
      exact RI (v := r4735) hC hP hD hS [0, 1] (jr14737, gtr4738, dq14739) rfl rfl (by decide) (⟨trivial, by dsimp only; omega⟩) rfl gX2_run_13.2.2.2.2.2.1
    by_cases c_39_4741 : body = 70
    · refine lv_lookup (tgt := 318) (off := 279) hx hb gX2_run_2.2.2.1 (by decide) (by rw [c_39_4741]; rfl) (by decide) ?_
      refine lv_aload_n hx hb gX2_run_13.2.2.2.2.2.2.1 rfl (lv_at0 hl) ?_
      refine lv_iload_n hx hb gX2_run_13.2.2.2.2.2.2.2.1 rfl (lv_at2 hl) ?_
      refine lv_iconst (v := 3) hx hb gX2_run_13.2.2.2.2.2.2.2.2.1 (by decide) ?_
      refine lv_iload_n hx hb gX2_run_13.2.2.2.2.2.2.2.2.2 rfl (lv_at3 hl) ?_
      refine lv_iload hx hb gX2_run_14.1 (lv_at4 hl) ?_
      refine iVo (wr := []) hO hC hK hl hP hD hS hA (d_upper l G K mn h0 of9 3 xx dz bb tr9 jr dk dn dp da dq ftr (by omega) (by omega) ihR) si_X2_81 [0, 1] [] sm_0_1 fm_0_1 nd_0_1 rfl rfl (by decide) rfl rfl rfl rfl rfl (Nat.le_of_ble_eq_true rfl) ⟨by simp only [RM]; omega, by simp only [RM]; omega⟩ ⟨Nat.le_of_ble_eq_true rfl, Nat.le_of_ble_eq_true rfl⟩ gX2_run_14.2.1 (fun r4742 => Ktu3 fun jr14744 gtr4745 dq14746 => ?_)
      intro H locs hr4742 hP hD hS
      try dsimp only at hr4742
      refine Kpdr (ws := [(h0, oX2 bb tr9 (nI jr14744) dk dn dp da dq14746), (tr9, iA G 30 gtr4745)]) hP hD (fun hP hD => ?_)
      obtain ⟨hr4742, w4747⟩ := hr4742
      refine lv_istore (lv' := [(6, .int r4742), (0, .ref h0), (1, .int body), (2, .int of9), (3, .int xx), (4, .int (nI dz))]) hx hb gX2_run_14.2.2.1 hl (by decide) rfl (fun ls hl => ?_)
      refine lv_aload_n hx hb gX2_run_14.2.2.2.1 rfl (lv_at1 hl) ?_
      refine gf_X2_35 hC rfl hK hP 0 rfl rfl gX2_run_14.2.2.2.2.1 ?_
      refine lv_if_eq (tgt := 340) hx hb gX2_run_14.2.2.2.2.2.1 (by decide) (fun c_333_4748 => ?_) (fun c_333_4748 => ?_)
      · refine lv_iload hx hb gX2_run_14.2.2.2.2.2.2.2.2.1 (lv_at0 hl) ?_
        refine lv_aload_n hx hb gX2_run_14.2.2.2.2.2.2.2.2.2 rfl (lv_at1 hl) ?_
        refine lv_aload_n hx hb gX2_run_15.1 rfl (lv_at1 hl) ?_
        refine gf_X2_23 hC rfl hK hP 0 rfl rfl gX2_run_15.2.1 ?_
        refine lv_iconst (v := 0) hx hb gX2_run_15.2.2.1 (by decide) ?_
        refine lv_aload_n hx hb gX2_run_15.2.2.2.1 rfl (lv_at1 hl) ?_
        refine gf_X2_26 hC rfl hK hP 0 rfl rfl gX2_run_15.2.2.2.2.1 ?_
        refine lv_iload hx hb gX2_run_15.2.2.2.2.2.1 (lv_at5 hl) ?_
        refine iVo (wr := []) hO hC hK hl hP hD hS hA (d_dealAs l G K mn h0 dk 0 dn dz bb tr9 jr14744 dk dn dp da dq14746 gtr4745 (by omega) (by omega) ihR) si_X2_68 [0, 1] [] sm_0_1 fm_0_1 nd_0_1 rfl rfl (by decide) rfl rfl rfl rfl rfl (Nat.le_of_ble_eq_true rfl) ⟨by simp only [RM]; omega, by simp only [RM]; omega⟩ ⟨Nat.le_of_ble_eq_true rfl, Nat.le_of_ble_eq_true rfl⟩ gX2_run_15.2.2.2.2.2.2.1 (fun r4749 => Ktu3 fun jr14751 gtr4752 dq14753 => ?_)
        intro H locs hr4749 hP hD hS
        try dsimp only at hr4749
        refine Kpdr (ws := [(h0, oX2 bb tr9 (nI jr14751) dk dn dp da dq14753), (tr9, iA G 30 gtr4752)]) hP hD (fun hP hD => ?_)
        obtain ⟨hr4749, w4754⟩ := hr4749
        refine lv_isub hx hb gX2_run_15.2.2.2.2.2.2.2.1 ?_
        refine toQ hQ0 ?_
        exact RI (v := r4742 - r4749) hC hP hD hS [0, 1] (jr14751, gtr4752, dq14753) rfl rfl (by decide) (⟨trivial, by dsimp only; omega⟩) rfl gX2_run_15.2.2.2.2.2.2.2.2.1
      · refine lv_iconst (v := 0) hx hb gX2_run_14.2.2.2.2.2.2.1 (by decide) ?_
        refine lv_goto (tgt := 358) hx hb gX2_run_14.2.2.2.2.2.2.2.1 (by decide) ?_
        refine toQ hQ0 ?_
        exact RI (v := 0) hC hP hD hS [0, 1] (jr14744, gtr4745, dq14746) rfl rfl (by decide) (⟨trivial, by dsimp only; omega⟩) rfl gX2_run_15.2.2.2.2.2.2.2.2.1
    refine lv_lookup (tgt := 359) (off := 320) hx hb gX2_run_2.2.2.1 (by decide) ((lv_osw c_39_4660 (by decide)).trans ((lv_osw c_39_4661 (by decide)).trans ((lv_osw c_39_4668 (by decide)).trans ((lv_osw c_39_4675 (by decide)).trans ((lv_osw c_39_4679 (by decide)).trans ((lv_osw c_39_4686 (by decide)).trans ((lv_osw c_39_4693 (by decide)).trans ((lv_osw c_39_4700 (by decide)).trans ((lv_osw c_39_4707 (by decide)).trans ((lv_osw c_39_4714 (by decide)).trans ((lv_osw c_39_4727 (by decide)).trans ((lv_osw c_39_4734 (by decide)).trans ((lv_osw c_39_4741 (by decide)).trans (rfl)))))))))))))) (by decide) ?_
    refine lv_iconst (v := 0) hx hb gX2_run_15.2.2.2.2.2.2.2.2.2 (by decide) ?_
    refine toQ hQ0 ?_
    exact RI (v := 0) hC hP hD hS [0, 1] (jr, ftr, dq) rfl rfl (by decide) (⟨trivial, by dsimp only; omega⟩) rfl gX2_run_16
  · have hjr30 := nge_nat (R := 30) (k := jr) (by decide) (by omega) c_15_4659
    refine lv_aload_n hx hb gX2_run_0.2.2.2.2.2.2.2.2.2 rfl (lv_at0 hl) ?_
    refine gf_X2_11 hC rfl hK hP 0 rfl rfl gX2_run_1.1 ?_
    refine lv_aload_n hx hb gX2_run_1.2.1 rfl (lv_at0 hl) ?_
    refine gf_X2_19 hC rfl hK hP 0 rfl rfl gX2_run_1.2.2.1 ?_
    refine lv_iload_n hx hb gX2_run_1.2.2.2.1 rfl (lv_at1 hl) ?_
    refine astN hC hK hP hD hS 1 (ws' := [(h0, oX2 bb tr9 (nI jr) dk dn dp da dq), (tr9, iA G 30 (upd ftr jr body))]) rfl (k := jr) (by omega) (Nat.le_of_ble_eq_true rfl) (rfl) gX2_run_1.2.2.2.2.1 (fun H locs hP hD hS => ?_)
    refine lv_aload_n hx hb gX2_run_1.2.2.2.2.2.1 rfl (lv_at0 hl) ?_
    refine lv_dup hx hb gX2_run_1.2.2.2.2.2.2.1 rfl ?_
    refine gf_X2_19 hC rfl hK hP 0 rfl rfl gX2_run_1.2.2.2.2.2.2.2.1 ?_
    refine lv_iconst (v := 1) hx hb gX2_run_1.2.2.2.2.2.2.2.2.1 (by decide) ?_
    refine lv_iadd hx hb gX2_run_1.2.2.2.2.2.2.2.2.2 ?_
    refine eqi (x1 := nI (jr + 1)) (nI_1 _) ?_
    refine pf_X2_19 hC rfl hK hP hD hS 0 (ws' := [(h0, oX2 bb tr9 (nI (jr + 1)) dk dn dp da dq), (tr9, iA G 30 (upd ftr jr body))]) rfl (Nat.le_of_ble_eq_true rfl) rfl rfl rfl gX2_run_2.1 (fun H locs hP hD hS => ?_)
    refine lv_iload_n hx hb gX2_run_2.2.1 rfl (lv_at1 hl) ?_
    by_cases c_39_4755 : body = 10
    · refine lv_lookup (tgt := 152) (off := 113) hx hb gX2_run_2.2.2.1 (by decide) (by rw [c_39_4755]; rfl) (by decide) ?_
      refine lv_iload_n hx hb gX2_run_2.2.2.2.1 rfl (lv_at3 hl) ?_
      refine lv_aload_n hx hb gX2_run_2.2.2.2.2.1 rfl (lv_at0 hl) ?_
      refine gf_X2_32 hC rfl hK hP 0 rfl rfl gX2_run_2.2.2.2.2.2.1 ?_
      refine lv_iadd hx hb gX2_run_2.2.2.2.2.2.2.1 ?_
      refine toQ hQ0 ?_
      exact RI (v := xx + da) hC hP hD hS [0, 1] ((jr + 1), upd ftr jr body, dq) rfl rfl (by decide) (⟨trivial, by dsimp only; omega⟩) rfl gX2_run_2.2.2.2.2.2.2.2.1
    by_cases c_39_4756 : body = 11
    · refine lv_lookup (tgt := 159) (off := 120) hx hb gX2_run_2.2.2.1 (by decide) (by rw [c_39_4756]; rfl) (by decide) ?_
      refine lv_aload_n hx hb gX2_run_2.2.2.2.2.2.2.2.2.1 rfl (lv_at0 hl) ?_
      refine lv_aload_n hx hb gX2_run_2.2.2.2.2.2.2.2.2.2 rfl (lv_at0 hl) ?_
      refine gf_X2_23 hC rfl hK hP 0 rfl rfl gX2_run_3.1 ?_
      refine lv_iconst (v := 0) hx hb gX2_run_3.2.1 (by decide) ?_
      refine lv_iload_n hx hb gX2_run_3.2.2.1 rfl (lv_at3 hl) ?_
      refine lv_iload hx hb gX2_run_3.2.2.2.1 (lv_at4 hl) ?_
      refine iVo (wr := []) hO hC hK hl hP hD hS hA (d_dealAs l G K mn h0 dk 0 xx dz bb tr9 (jr + 1) dk dn dp da dq (upd ftr jr body) (by omega) (by omega) ihR) si_X2_68 [0, 1] [] sm_0_1 fm_0_1 nd_0_1 rfl rfl (by decide) rfl rfl rfl rfl rfl (Nat.le_of_ble_eq_true rfl) ⟨by simp only [RM]; omega, by simp only [RM]; omega⟩ ⟨Nat.le_of_ble_eq_true rfl, Nat.le_of_ble_eq_true rfl⟩ gX2_run_3.2.2.2.2.1 (fun r4757 => Ktu3 fun jr14759 gtr4760 dq14761 => ?_)
      intro H locs hr4757 hP hD hS
      try dsimp only at hr4757
      refine Kpdr (ws := [(h0, oX2 bb tr9 (nI jr14759) dk dn dp da dq14761), (tr9, iA G 30 gtr4760)]) hP hD (fun hP hD => ?_)
      obtain ⟨hr4757, w4762⟩ := hr4757
      refine lv_iconst (v := 2) hx hb gX2_run_3.2.2.2.2.2.1 (by decide) ?_
      refine lv_imul hx hb gX2_run_3.2.2.2.2.2.2.1 ?_
      refine toQ hQ0 ?_
      exact RI (v := r4757 * 2) hC hP hD hS [0, 1] (jr14759, gtr4760, dq14761) rfl rfl (by decide) (⟨trivial, by dsimp only; omega⟩) rfl gX2_run_3.2.2.2.2.2.2.2.1
    by_cases c_39_4763 : body = 12
    · refine lv_lookup (tgt := 174) (off := 135) hx hb gX2_run_2.2.2.1 (by decide) (by rw [c_39_4763]; rfl) (by decide) ?_
      refine lv_aload_n hx hb gX2_run_3.2.2.2.2.2.2.2.2.1 rfl (lv_at0 hl) ?_
      refine lv_aload_n hx hb gX2_run_3.2.2.2.2.2.2.2.2.2 rfl (lv_at0 hl) ?_
      refine gf_X2_23 hC rfl hK hP 0 rfl rfl gX2_run_4.1 ?_
      refine lv_iconst (v := 1) hx hb gX2_run_4.2.1 (by decide) ?_
      refine lv_iload_n hx hb gX2_run_4.2.2.1 rfl (lv_at3 hl) ?_
      refine lv_iload hx hb gX2_run_4.2.2.2.1 (lv_at4 hl) ?_
      refine iVo (wr := []) hO hC hK hl hP hD hS hA (d_dealAs l G K mn h0 dk 1 xx dz bb tr9 (jr + 1) dk dn dp da dq (upd ftr jr body) (by omega) (by omega) ihR) si_X2_68 [0, 1] [] sm_0_1 fm_0_1 nd_0_1 rfl rfl (by decide) rfl rfl rfl rfl rfl (Nat.le_of_ble_eq_true rfl) ⟨by simp only [RM]; omega, by simp only [RM]; omega⟩ ⟨Nat.le_of_ble_eq_true rfl, Nat.le_of_ble_eq_true rfl⟩ gX2_run_4.2.2.2.2.1 (fun r4764 => Ktu3 fun jr14766 gtr4767 dq14768 => ?_)
      intro H locs hr4764 hP hD hS
      try dsimp only at hr4764
      refine Kpdr (ws := [(h0, oX2 bb tr9 (nI jr14766) dk dn dp da dq14768), (tr9, iA G 30 gtr4767)]) hP hD (fun hP hD => ?_)
      obtain ⟨hr4764, w4769⟩ := hr4764
      refine lv_aload_n hx hb gX2_run_4.2.2.2.2.2.1 rfl (lv_at0 hl) ?_
      refine gf_X2_29 hC rfl hK hP 0 rfl rfl gX2_run_4.2.2.2.2.2.2.1 ?_
      refine lv_isub hx hb gX2_run_4.2.2.2.2.2.2.2.1 ?_
      refine toQ hQ0 ?_
      exact RI (v := r4764 - dp) hC hP hD hS [0, 1] (jr14766, gtr4767, dq14768) rfl rfl (by decide) (⟨trivial, by dsimp only; omega⟩) rfl gX2_run_4.2.2.2.2.2.2.2.2.1
    by_cases c_39_4770 : body = 13
    · refine lv_lookup (tgt := 192) (off := 153) hx hb gX2_run_2.2.2.1 (by decide) (by rw [c_39_4770]; rfl) (by decide) ?_
      refine lv_aload_n hx hb gX2_run_4.2.2.2.2.2.2.2.2.2 rfl (lv_at0 hl) ?_
      refine lv_iload_n hx hb gX2_run_5.1 rfl (lv_at3 hl) ?_
      refine iV (wr := [(tr9, iA G 30 (upd ftr jr body))]) hC hK hl hP hD hS hA (d_quotient l G h0 xx bb tr9 (jr + 1) dk dn dp da dq) si_X2_78 [0] [1] sm_0 fm_0 nd_0 sm_1 nd_1 dj_0__1 rfl rfl rfl rfl rfl (Nat.le_of_ble_eq_true rfl) ⟨by simp only [RM]; omega, by simp only [RM]; omega⟩ ⟨Nat.le_of_ble_eq_true rfl, Nat.le_of_ble_eq_true rfl⟩ gX2_run_5.2.1 (fun r4771 dq14773 H locs hr4771 hP hD hS => ?_)
      try dsimp only at hr4771
      refine Kpdr (ws := [(tr9, iA G 30 (upd ftr jr body)), (h0, oX2 bb tr9 (nI (jr + 1)) dk dn dp da dq14773)]) hP hD (fun hP hD => ?_)
      refine toQ hQ0 ?_
      exact RI (v := r4771) hC hP hD hS [1, 0] ((jr + 1), upd ftr jr body, dq14773) rfl rfl (by decide) (⟨trivial, by dsimp only; omega⟩) rfl gX2_run_5.2.2.1
    by_cases c_39_4774 : body = 20
    · refine lv_lookup (tgt := 198) (off := 159) hx hb gX2_run_2.2.2.1 (by decide) (by rw [c_39_4774]; rfl) (by decide) ?_
      refine lv_aload_n hx hb gX2_run_5.2.2.2.1 rfl (lv_at0 hl) ?_
      refine lv_iload_n hx hb gX2_run_5.2.2.2.2.1 rfl (lv_at2 hl) ?_
      refine lv_iconst (v := 1) hx hb gX2_run_5.2.2.2.2.2.1 (by decide) ?_
      refine lv_iload_n hx hb gX2_run_5.2.2.2.2.2.2.1 rfl (lv_at3 hl) ?_
      refine lv_iload hx hb gX2_run_5.2.2.2.2.2.2.2.1 (lv_at4 hl) ?_
      refine iVo (wr := []) hO hC hK hl hP hD hS hA (d_upper l G K mn h0 of9 1 xx dz bb tr9 (jr + 1) dk dn dp da dq (upd ftr jr body) (by omega) (by omega) ihR) si_X2_81 [0, 1] [] sm_0_1 fm_0_1 nd_0_1 rfl rfl (by decide) rfl rfl rfl rfl rfl (Nat.le_of_ble_eq_true rfl) ⟨by simp only [RM]; omega, by simp only [RM]; omega⟩ ⟨Nat.le_of_ble_eq_true rfl, Nat.le_of_ble_eq_true rfl⟩ gX2_run_5.2.2.2.2.2.2.2.2.1 (fun r4775 => Ktu3 fun jr14777 gtr4778 dq14779 => ?_)
      intro H locs hr4775 hP hD hS
      try dsimp only at hr4775
      refine Kpdr (ws := [(h0, oX2 bb tr9 (nI jr14777) dk dn dp da dq14779), (tr9, iA G 30 gtr4778)]) hP hD (fun hP hD => ?_)
      obtain ⟨hr4775, w4780⟩ := hr4775
      refine lv_aload_n hx hb gX2_run_5.2.2.2.2.2.2.2.2.2 rfl (lv_at0 hl) ?_
      refine gf_X2_26 hC rfl hK hP 0 rfl rfl gX2_run_6.1 ?_
      refine lv_ixor hx hb gX2_run_6.2.1 ?_
      refine toQ hQ0 ?_
      exact RI (v := r4775 ^^^ dn) hC hP hD hS [0, 1] (jr14777, gtr4778, dq14779) rfl rfl (by decide) (⟨trivial, by dsimp only; omega⟩) rfl gX2_run_6.2.2.1
    by_cases c_39_4781 : body = 30
    · refine lv_lookup (tgt := 213) (off := 174) hx hb gX2_run_2.2.2.1 (by decide) (by rw [c_39_4781]; rfl) (by decide) ?_
      refine lv_aload_n hx hb gX2_run_6.2.2.2.1 rfl (lv_at0 hl) ?_
      refine lv_iload_n hx hb gX2_run_6.2.2.2.2.1 rfl (lv_at2 hl) ?_
      refine lv_iconst (v := 2) hx hb gX2_run_6.2.2.2.2.2.1 (by decide) ?_
      refine lv_iload_n hx hb gX2_run_6.2.2.2.2.2.2.1 rfl (lv_at3 hl) ?_
      refine lv_iload hx hb gX2_run_6.2.2.2.2.2.2.2.1 (lv_at4 hl) ?_
      refine iVo (wr := []) hO hC hK hl hP hD hS hA (d_upper l G K mn h0 of9 2 xx dz bb tr9 (jr + 1) dk dn dp da dq (upd ftr jr body) (by omega) (by omega) ihR) si_X2_81 [0, 1] [] sm_0_1 fm_0_1 nd_0_1 rfl rfl (by decide) rfl rfl rfl rfl rfl (Nat.le_of_ble_eq_true rfl) ⟨by simp only [RM]; omega, by simp only [RM]; omega⟩ ⟨Nat.le_of_ble_eq_true rfl, Nat.le_of_ble_eq_true rfl⟩ gX2_run_6.2.2.2.2.2.2.2.2.1 (fun r4782 => Ktu3 fun jr14784 gtr4785 dq14786 => ?_)
      intro H locs hr4782 hP hD hS
      try dsimp only at hr4782
      refine Kpdr (ws := [(h0, oX2 bb tr9 (nI jr14784) dk dn dp da dq14786), (tr9, iA G 30 gtr4785)]) hP hD (fun hP hD => ?_)
      obtain ⟨hr4782, w4787⟩ := hr4782
      refine lv_iconst (v := 3) hx hb gX2_run_6.2.2.2.2.2.2.2.2.2 (by decide) ?_
      refine lv_imul hx hb gX2_run_7.1 ?_
      refine toQ hQ0 ?_
      exact RI (v := r4782 * 3) hC hP hD hS [0, 1] (jr14784, gtr4785, dq14786) rfl rfl (by decide) (⟨trivial, by dsimp only; omega⟩) rfl gX2_run_7.2.1
    by_cases c_39_4788 : body = 40
    · refine lv_lookup (tgt := 225) (off := 186) hx hb gX2_run_2.2.2.1 (by decide) (by rw [c_39_4788]; rfl) (by decide) ?_
      refine lv_iconst (v := 0) hx hb gX2_run_7.2.2.1 (by decide) ?_
      refine lv_aload_n hx hb gX2_run_7.2.2.2.1 rfl (lv_at0 hl) ?_
      refine lv_iload_n hx hb gX2_run_7.2.2.2.2.1 rfl (lv_at2 hl) ?_
      refine lv_iconst (v := 1) hx hb gX2_run_7.2.2.2.2.2.1 (by decide) ?_
      refine lv_iload_n hx hb gX2_run_7.2.2.2.2.2.2.1 rfl (lv_at3 hl) ?_
      refine lv_iload hx hb gX2_run_7.2.2.2.2.2.2.2.1 (lv_at4 hl) ?_
      refine iVo (wr := []) hO hC hK hl hP hD hS hA (d_upper l G K mn h0 of9 1 xx dz bb tr9 (jr + 1) dk dn dp da dq (upd ftr jr body) (by omega) (by omega) ihR) si_X2_81 [0, 1] [] sm_0_1 fm_0_1 nd_0_1 rfl rfl (by decide) rfl rfl rfl rfl rfl (Nat.le_of_ble_eq_true rfl) ⟨by simp only [RM]; omega, by simp only [RM]; omega⟩ ⟨Nat.le_of_ble_eq_true rfl, Nat.le_of_ble_eq_true rfl⟩ gX2_run_7.2.2.2.2.2.2.2.2.1 (fun r4789 => Ktu3 fun jr14791 gtr4792 dq14793 => ?_)
      intro H locs hr4789 hP hD hS
      try dsimp only at hr4789
      refine Kpdr (ws := [(h0, oX2 bb tr9 (nI jr14791) dk dn dp da dq14793), (tr9, iA G 30 gtr4792)]) hP hD (fun hP hD => ?_)
      obtain ⟨hr4789, w4794⟩ := hr4789
      refine lv_isub hx hb gX2_run_7.2.2.2.2.2.2.2.2.2 ?_
      refine toQ hQ0 ?_
      exact RI (v := 0 - r4789) hC hP hD hS [0, 1] (jr14791, gtr4792, dq14793) rfl rfl (by decide) (⟨trivial, by dsimp only; omega⟩) rfl gX2_run_8.1
    by_cases c_39_4795 : body = 41
    · refine lv_lookup (tgt := 237) (off := 198) hx hb gX2_run_2.2.2.1 (by decide) (by rw [c_39_4795]; rfl) (by decide) ?_
      refine lv_aload_n hx hb gX2_run_8.2.1 rfl (lv_at0 hl) ?_
      refine lv_iload_n hx hb gX2_run_8.2.2.1 rfl (lv_at2 hl) ?_
      refine lv_iconst (v := 3) hx hb gX2_run_8.2.2.2.1 (by decide) ?_
      refine lv_iload_n hx hb gX2_run_8.2.2.2.2.1 rfl (lv_at3 hl) ?_
      refine lv_iconst (v := 2) hx hb gX2_run_8.2.2.2.2.2.1 (by decide) ?_
      refine lv_iadd hx hb gX2_run_8.2.2.2.2.2.2.1 ?_
      refine lv_iload hx hb gX2_run_8.2.2.2.2.2.2.2.1 (lv_at4 hl) ?_
      refine iVo (wr := []) hO hC hK hl hP hD hS hA (d_upper l G K mn h0 of9 3 (xx + 2) dz bb tr9 (jr + 1) dk dn dp da dq (upd ftr jr body) (by omega) (by omega) ihR) si_X2_81 [0, 1] [] sm_0_1 fm_0_1 nd_0_1 rfl rfl (by decide) rfl rfl rfl rfl rfl (Nat.le_of_ble_eq_true rfl) ⟨by simp only [RM]; omega, by simp only [RM]; omega⟩ ⟨Nat.le_of_ble_eq_true rfl, Nat.le_of_ble_eq_true rfl⟩ gX2_run_8.2.2.2.2.2.2.2.2.1 (fun r4796 => Ktu3 fun jr14798 gtr4799 dq14800 => ?_)
      intro H locs hr4796 hP hD hS
      try dsimp only at hr4796
      refine Kpdr (ws := [(h0, oX2 bb tr9 (nI jr14798) dk dn dp da dq14800), (tr9, iA G 30 gtr4799)]) hP hD (fun hP hD => ?_)
      obtain ⟨hr4796, w4801⟩ := hr4796
      refine toQ hQ0 ?_
      exact RI (v := r4796) hC hP hD hS [0, 1] (jr14798, gtr4799, dq14800) rfl rfl (by decide) (⟨trivial, by dsimp only; omega⟩) rfl gX2_run_8.2.2.2.2.2.2.2.2.2
    by_cases c_39_4802 : body = 50
    · refine lv_lookup (tgt := 249) (off := 210) hx hb gX2_run_2.2.2.1 (by decide) (by rw [c_39_4802]; rfl) (by decide) ?_
      refine lv_aload_n hx hb gX2_run_9.1 rfl (lv_at0 hl) ?_
      refine lv_iload_n hx hb gX2_run_9.2.1 rfl (lv_at2 hl) ?_
      refine lv_iconst (v := 0) hx hb gX2_run_9.2.2.1 (by decide) ?_
      refine lv_iload_n hx hb gX2_run_9.2.2.2.1 rfl (lv_at3 hl) ?_
      refine lv_iload hx hb gX2_run_9.2.2.2.2.1 (lv_at4 hl) ?_
      refine iVo (wr := []) hO hC hK hl hP hD hS hA (d_upper l G K mn h0 of9 0 xx dz bb tr9 (jr + 1) dk dn dp da dq (upd ftr jr body) (by omega) (by omega) ihR) si_X2_81 [0, 1] [] sm_0_1 fm_0_1 nd_0_1 rfl rfl (by decide) rfl rfl rfl rfl rfl (Nat.le_of_ble_eq_true rfl) ⟨by simp only [RM]; omega, by simp only [RM]; omega⟩ ⟨Nat.le_of_ble_eq_true rfl, Nat.le_of_ble_eq_true rfl⟩ gX2_run_9.2.2.2.2.2.1 (fun r4803 => Ktu3 fun jr14805 gtr4806 dq14807 => ?_)
      intro H locs hr4803 hP hD hS
      try dsimp only at hr4803
      refine Kpdr (ws := [(h0, oX2 bb tr9 (nI jr14805) dk dn dp da dq14807), (tr9, iA G 30 gtr4806)]) hP hD (fun hP hD => ?_)
      obtain ⟨hr4803, w4808⟩ := hr4803
      refine lv_aload_n hx hb gX2_run_9.2.2.2.2.2.2.1 rfl (lv_at0 hl) ?_
      refine gf_X2_26 hC rfl hK hP 0 rfl rfl gX2_run_9.2.2.2.2.2.2.2.1 ?_
      refine lv_isub hx hb gX2_run_9.2.2.2.2.2.2.2.2.1 ?_
      refine toQ hQ0 ?_
      exact RI (v := r4803 - dn) hC hP hD hS [0, 1] (jr14805, gtr4806, dq14807) rfl rfl (by decide) (⟨trivial, by dsimp only; omega⟩) rfl gX2_run_9.2.2.2.2.2.2.2.2.2
    by_cases c_39_4809 : body = 51
    · refine lv_lookup (tgt := 264) (off := 225) hx hb gX2_run_2.2.2.1 (by decide) (by rw [c_39_4809]; rfl) (by decide) ?_
      refine lv_aload_n hx hb gX2_run_10.1 rfl (lv_at0 hl) ?_
      refine lv_iload_n hx hb gX2_run_10.2.1 rfl (lv_at2 hl) ?_
      refine lv_iconst (v := 2) hx hb gX2_run_10.2.2.1 (by decide) ?_
      refine lv_iload_n hx hb gX2_run_10.2.2.2.1 rfl (lv_at3 hl) ?_
      refine lv_iload hx hb gX2_run_10.2.2.2.2.1 (lv_at4 hl) ?_
      refine iVo (wr := []) hO hC hK hl hP hD hS hA (d_upper l G K mn h0 of9 2 xx dz bb tr9 (jr + 1) dk dn dp da dq (upd ftr jr body) (by omega) (by omega) ihR) si_X2_81 [0, 1] [] sm_0_1 fm_0_1 nd_0_1 rfl rfl (by decide) rfl rfl rfl rfl rfl (Nat.le_of_ble_eq_true rfl) ⟨by simp only [RM]; omega, by simp only [RM]; omega⟩ ⟨Nat.le_of_ble_eq_true rfl, Nat.le_of_ble_eq_true rfl⟩ gX2_run_10.2.2.2.2.2.1 (fun r4810 => Ktu3 fun jr14812 gtr4813 dq14814 => ?_)
      intro H locs hr4810 hP hD hS
      try dsimp only at hr4810
      refine Kpdr (ws := [(h0, oX2 bb tr9 (nI jr14812) dk dn dp da dq14814), (tr9, iA G 30 gtr4813)]) hP hD (fun hP hD => ?_)
      obtain ⟨hr4810, w4815⟩ := hr4810
      refine lv_istore (lv' := [(5, .int r4810), (0, .ref h0), (1, .int body), (2, .int of9), (3, .int xx), (4, .int (nI dz))]) hx hb gX2_run_10.2.2.2.2.2.2.1 hl (by decide) rfl (fun ls hl => ?_)
      refine lv_iload hx hb gX2_run_10.2.2.2.2.2.2.2.1 (lv_at0 hl) ?_
      refine lv_aload_n hx hb gX2_run_10.2.2.2.2.2.2.2.2.1 rfl (lv_at1 hl) ?_
      refine lv_aload_n hx hb gX2_run_10.2.2.2.2.2.2.2.2.2 rfl (lv_at1 hl) ?_
      refine gf_X2_23 hC rfl hK hP 0 rfl rfl gX2_run_11.1 ?_
      refine lv_iconst (v := 1) hx hb gX2_run_11.2.1 (by decide) ?_
      refine lv_iconst (v := 1) hx hb gX2_run_11.2.2.1 (by decide) ?_
      refine lv_iload hx hb gX2_run_11.2.2.2.1 (lv_at5 hl) ?_
      refine iVo (wr := []) hO hC hK hl hP hD hS hA (d_dealAs l G K mn h0 dk 1 1 dz bb tr9 jr14812 dk dn dp da dq14814 gtr4813 (by omega) (by omega) ihR) si_X2_68 [0, 1] [] sm_0_1 fm_0_1 nd_0_1 rfl rfl (by decide) rfl rfl rfl rfl rfl (Nat.le_of_ble_eq_true rfl) ⟨by simp only [RM]; omega, by simp only [RM]; omega⟩ ⟨Nat.le_of_ble_eq_true rfl, Nat.le_of_ble_eq_true rfl⟩ gX2_run_11.2.2.2.2.1 (fun r4816 => Ktu3 fun jr14818 gtr4819 dq14820 => ?_)
      intro H locs hr4816 hP hD hS
      try dsimp only at hr4816
      refine Kpdr (ws := [(h0, oX2 bb tr9 (nI jr14818) dk dn dp da dq14820), (tr9, iA G 30 gtr4819)]) hP hD (fun hP hD => ?_)
      obtain ⟨hr4816, w4821⟩ := hr4816
      refine lv_iadd hx hb gX2_run_11.2.2.2.2.2.1 ?_
      refine toQ hQ0 ?_
      exact RI (v := r4810 + r4816) hC hP hD hS [0, 1] (jr14818, gtr4819, dq14820) rfl rfl (by decide) (⟨trivial, by dsimp only; omega⟩) rfl gX2_run_11.2.2.2.2.2.2.1
    by_cases c_39_4822 : body = 60
    · refine lv_lookup (tgt := 291) (off := 252) hx hb gX2_run_2.2.2.1 (by decide) (by rw [c_39_4822]; rfl) (by decide) ?_
      refine lv_aload_n hx hb gX2_run_11.2.2.2.2.2.2.2.1 rfl (lv_at0 hl) ?_
      refine lv_iload_n hx hb gX2_run_11.2.2.2.2.2.2.2.2.1 rfl (lv_at2 hl) ?_
      refine lv_iconst (v := 2) hx hb gX2_run_11.2.2.2.2.2.2.2.2.2 (by decide) ?_
      refine lv_iload_n hx hb gX2_run_12.1 rfl (lv_at3 hl) ?_
      refine lv_iload hx hb gX2_run_12.2.1 (lv_at4 hl) ?_
      refine iVo (wr := []) hO hC hK hl hP hD hS hA (d_upper l G K mn h0 of9 2 xx dz bb tr9 (jr + 1) dk dn dp da dq (upd ftr jr body) (by omega) (by omega) ihR) si_X2_81 [0, 1] [] sm_0_1 fm_0_1 nd_0_1 rfl rfl (by decide) rfl rfl rfl rfl rfl (Nat.le_of_ble_eq_true rfl) ⟨by simp only [RM]; omega, by simp only [RM]; omega⟩ ⟨Nat.le_of_ble_eq_true rfl, Nat.le_of_ble_eq_true rfl⟩ gX2_run_12.2.2.1 (fun r4823 => Ktu3 fun jr14825 gtr4826 dq14827 => ?_)
      intro H locs hr4823 hP hD hS
      try dsimp only at hr4823
      refine Kpdr (ws := [(h0, oX2 bb tr9 (nI jr14825) dk dn dp da dq14827), (tr9, iA G 30 gtr4826)]) hP hD (fun hP hD => ?_)
      obtain ⟨hr4823, w4828⟩ := hr4823
      refine lv_iconst (v := 2) hx hb gX2_run_12.2.2.2.1 (by decide) ?_
      refine lv_imul hx hb gX2_run_12.2.2.2.2.1 ?_
      refine toQ hQ0 ?_
      exact RI (v := r4823 * 2) hC hP hD hS [0, 1] (jr14825, gtr4826, dq14827) rfl rfl (by decide) (⟨trivial, by dsimp only; omega⟩) rfl gX2_run_12.2.2.2.2.2.1
    by_cases c_39_4829 : body = 61
    · refine lv_lookup (tgt := 303) (off := 264) hx hb gX2_run_2.2.2.1 (by decide) (by rw [c_39_4829]; rfl) (by decide) ?_
      refine lv_aload_n hx hb gX2_run_12.2.2.2.2.2.2.1 rfl (lv_at0 hl) ?_
      refine lv_iload_n hx hb gX2_run_12.2.2.2.2.2.2.2.1 rfl (lv_at2 hl) ?_
      refine lv_iconst (v := 0) hx hb gX2_run_12.2.2.2.2.2.2.2.2.1 (by decide) ?_
      refine lv_iload_n hx hb gX2_run_12.2.2.2.2.2.2.2.2.2 rfl (lv_at3 hl) ?_
      refine lv_aload_n hx hb gX2_run_13.1 rfl (lv_at0 hl) ?_
      refine gf_X2_29 hC rfl hK hP 0 rfl rfl gX2_run_13.2.1 ?_
      refine lv_iadd hx hb gX2_run_13.2.2.1 ?_
      refine lv_iload hx hb gX2_run_13.2.2.2.1 (lv_at4 hl) ?_
      refine iVo (wr := []) hO hC hK hl hP hD hS hA (d_upper l G K mn h0 of9 0 (xx + dp) dz bb tr9 (jr + 1) dk dn dp da dq (upd ftr jr body) (by omega) (by omega) ihR) si_X2_81 [0, 1] [] sm_0_1 fm_0_1 nd_0_1 rfl rfl (by decide) rfl rfl rfl rfl rfl (Nat.le_of_ble_eq_true rfl) ⟨by simp only [RM]; omega, by simp only [RM]; omega⟩ ⟨Nat.le_of_ble_eq_true rfl, Nat.le_of_ble_eq_true rfl⟩ gX2_run_13.2.2.2.2.1 (fun r4830 => Ktu3 fun jr14832 gtr4833 dq14834 => ?_)
      intro H locs hr4830 hP hD hS
      try dsimp only at hr4830
      refine Kpdr (ws := [(h0, oX2 bb tr9 (nI jr14832) dk dn dp da dq14834), (tr9, iA G 30 gtr4833)]) hP hD (fun hP hD => ?_)
      obtain ⟨hr4830, w4835⟩ := hr4830
      refine toQ hQ0 ?_
      exact RI (v := r4830) hC hP hD hS [0, 1] (jr14832, gtr4833, dq14834) rfl rfl (by decide) (⟨trivial, by dsimp only; omega⟩) rfl gX2_run_13.2.2.2.2.2.1
    by_cases c_39_4836 : body = 70
    · refine lv_lookup (tgt := 318) (off := 279) hx hb gX2_run_2.2.2.1 (by decide) (by rw [c_39_4836]; rfl) (by decide) ?_
      refine lv_aload_n hx hb gX2_run_13.2.2.2.2.2.2.1 rfl (lv_at0 hl) ?_
      refine lv_iload_n hx hb gX2_run_13.2.2.2.2.2.2.2.1 rfl (lv_at2 hl) ?_
      refine lv_iconst (v := 3) hx hb gX2_run_13.2.2.2.2.2.2.2.2.1 (by decide) ?_
      refine lv_iload_n hx hb gX2_run_13.2.2.2.2.2.2.2.2.2 rfl (lv_at3 hl) ?_
      refine lv_iload hx hb gX2_run_14.1 (lv_at4 hl) ?_
      refine iVo (wr := []) hO hC hK hl hP hD hS hA (d_upper l G K mn h0 of9 3 xx dz bb tr9 (jr + 1) dk dn dp da dq (upd ftr jr body) (by omega) (by omega) ihR) si_X2_81 [0, 1] [] sm_0_1 fm_0_1 nd_0_1 rfl rfl (by decide) rfl rfl rfl rfl rfl (Nat.le_of_ble_eq_true rfl) ⟨by simp only [RM]; omega, by simp only [RM]; omega⟩ ⟨Nat.le_of_ble_eq_true rfl, Nat.le_of_ble_eq_true rfl⟩ gX2_run_14.2.1 (fun r4837 => Ktu3 fun jr14839 gtr4840 dq14841 => ?_)
      intro H locs hr4837 hP hD hS
      try dsimp only at hr4837
      refine Kpdr (ws := [(h0, oX2 bb tr9 (nI jr14839) dk dn dp da dq14841), (tr9, iA G 30 gtr4840)]) hP hD (fun hP hD => ?_)
      obtain ⟨hr4837, w4842⟩ := hr4837
      refine lv_istore (lv' := [(6, .int r4837), (0, .ref h0), (1, .int body), (2, .int of9), (3, .int xx), (4, .int (nI dz))]) hx hb gX2_run_14.2.2.1 hl (by decide) rfl (fun ls hl => ?_)
      refine lv_aload_n hx hb gX2_run_14.2.2.2.1 rfl (lv_at1 hl) ?_
      refine gf_X2_35 hC rfl hK hP 0 rfl rfl gX2_run_14.2.2.2.2.1 ?_
      refine lv_if_eq (tgt := 340) hx hb gX2_run_14.2.2.2.2.2.1 (by decide) (fun c_333_4843 => ?_) (fun c_333_4843 => ?_)
      · refine lv_iload hx hb gX2_run_14.2.2.2.2.2.2.2.2.1 (lv_at0 hl) ?_
        refine lv_aload_n hx hb gX2_run_14.2.2.2.2.2.2.2.2.2 rfl (lv_at1 hl) ?_
        refine lv_aload_n hx hb gX2_run_15.1 rfl (lv_at1 hl) ?_
        refine gf_X2_23 hC rfl hK hP 0 rfl rfl gX2_run_15.2.1 ?_
        refine lv_iconst (v := 0) hx hb gX2_run_15.2.2.1 (by decide) ?_
        refine lv_aload_n hx hb gX2_run_15.2.2.2.1 rfl (lv_at1 hl) ?_
        refine gf_X2_26 hC rfl hK hP 0 rfl rfl gX2_run_15.2.2.2.2.1 ?_
        refine lv_iload hx hb gX2_run_15.2.2.2.2.2.1 (lv_at5 hl) ?_
        refine iVo (wr := []) hO hC hK hl hP hD hS hA (d_dealAs l G K mn h0 dk 0 dn dz bb tr9 jr14839 dk dn dp da dq14841 gtr4840 (by omega) (by omega) ihR) si_X2_68 [0, 1] [] sm_0_1 fm_0_1 nd_0_1 rfl rfl (by decide) rfl rfl rfl rfl rfl (Nat.le_of_ble_eq_true rfl) ⟨by simp only [RM]; omega, by simp only [RM]; omega⟩ ⟨Nat.le_of_ble_eq_true rfl, Nat.le_of_ble_eq_true rfl⟩ gX2_run_15.2.2.2.2.2.2.1 (fun r4844 => Ktu3 fun jr14846 gtr4847 dq14848 => ?_)
        intro H locs hr4844 hP hD hS
        try dsimp only at hr4844
        refine Kpdr (ws := [(h0, oX2 bb tr9 (nI jr14846) dk dn dp da dq14848), (tr9, iA G 30 gtr4847)]) hP hD (fun hP hD => ?_)
        obtain ⟨hr4844, w4849⟩ := hr4844
        refine lv_isub hx hb gX2_run_15.2.2.2.2.2.2.2.1 ?_
        refine toQ hQ0 ?_
        exact RI (v := r4837 - r4844) hC hP hD hS [0, 1] (jr14846, gtr4847, dq14848) rfl rfl (by decide) (⟨trivial, by dsimp only; omega⟩) rfl gX2_run_15.2.2.2.2.2.2.2.2.1
      · refine lv_iconst (v := 0) hx hb gX2_run_14.2.2.2.2.2.2.1 (by decide) ?_
        refine lv_goto (tgt := 358) hx hb gX2_run_14.2.2.2.2.2.2.2.1 (by decide) ?_
        refine toQ hQ0 ?_
        exact RI (v := 0) hC hP hD hS [0, 1] (jr14839, gtr4840, dq14841) rfl rfl (by decide) (⟨trivial, by dsimp only; omega⟩) rfl gX2_run_15.2.2.2.2.2.2.2.2.1
    refine lv_lookup (tgt := 359) (off := 320) hx hb gX2_run_2.2.2.1 (by decide) ((lv_osw c_39_4755 (by decide)).trans ((lv_osw c_39_4756 (by decide)).trans ((lv_osw c_39_4763 (by decide)).trans ((lv_osw c_39_4770 (by decide)).trans ((lv_osw c_39_4774 (by decide)).trans ((lv_osw c_39_4781 (by decide)).trans ((lv_osw c_39_4788 (by decide)).trans ((lv_osw c_39_4795 (by decide)).trans ((lv_osw c_39_4802 (by decide)).trans ((lv_osw c_39_4809 (by decide)).trans ((lv_osw c_39_4822 (by decide)).trans ((lv_osw c_39_4829 (by decide)).trans ((lv_osw c_39_4836 (by decide)).trans (rfl)))))))))))))) (by decide) ?_
    refine lv_iconst (v := 0) hx hb gX2_run_15.2.2.2.2.2.2.2.2.2 (by decide) ?_
    refine toQ hQ0 ?_
    exact RI (v := 0) hC hP hD hS [0, 1] ((jr + 1), upd ftr jr body, dq) rfl rfl (by decide) (⟨trivial, by dsimp only; omega⟩) rfl gX2_run_16
def K_d_run_0 (l : Launch) (G : GG) (K : OO) (h0 : Nat) (body : Int32) (of9 : Int32) (xx : Int32) (dz : Nat) (bb : Nat) (tr9 : Nat) (jr : Nat) (dk : Int32) (dn : Int32) (dp : Int32) (da : Int32) (dq : Int32) (ftr : Nat → Int32) : Prop := MIo l G K yX2_run cX2_run 7 (some .int) (3 * 0 + 2) 0 0 [.ref h0, .int body, .int of9, .int xx, .int (nI dz)] [(h0, oX2 bb tr9 (nI jr) dk dn dp da dq), (tr9, iA G 30 ftr)] (fun (r : Int32) (u : Nat × (Nat → Int32) × Int32) => (True) ∧ (u.1 ≤ 30)) (fun u : Nat × (Nat → Int32) × Int32 => [(h0, oX2 bb tr9 (nI u.1) dk dn dp da u.2.2), (tr9, iA G 30 u.2.1)])
set_option maxHeartbeats 4000000 in
set_option maxRecDepth 100000 in
theorem d_run_0 (l : Launch) (G : GG) (K : OO) (h0 : Nat) (body : Int32) (of9 : Int32) (xx : Int32) (dz : Nat) (bb : Nat) (tr9 : Nat) (jr : Nat) (dk : Int32) (dn : Int32) (dp : Int32) (da : Int32) (dq : Int32) (ftr : Nat → Int32) (hdz : dz + 0 = 21) (hjr : jr ≤ 30) : K_d_run_0 l G K h0 body of9 xx dz bb tr9 jr dk dn dp da dq ftr := by
  refine MIo.start (by decide +kernel) (Nat.le_of_ble_eq_true rfl) ?_
  intro p e s m below meth c A ls hC hK hP hD hS hA hl hO
  refine absQ (fun Q0 hQ0 => ?_)
  have hl : lv_has ls 7 [(0, .ref h0), (1, .int body), (2, .int of9), (3, .int xx), (4, .int (nI dz))] := hl
  refine Kan8 hC (fun hx hb hr hml hB hown hlocks hnm => ?_)
  refine lv_iload hx hb gX2_run_0.1 (lv_at4 hl) ?_
  refine lv_bipush (v := 20) hx hb gX2_run_0.2.1 (by decide) ?_
  refine lv_icmp_le (tgt := 9) hx hb gX2_run_0.2.2.1 (by decide) (fun c9 => absurd c9 (nI_ge (a := 20) (b := dz) (by omega) (by omega))) (fun _ => ?_)
  refine lv_iconst (v := 0) hx hb gX2_run_0.2.2.2.1 (by decide) ?_
  refine toQ hQ0 ?_
  exact RI (v := 0) hC hP hD hS [0, 1] (jr, ftr, dq) rfl rfl (by decide) (⟨trivial, by dsimp only; omega⟩) rfl gX2_run_0.2.2.2.2.1
theorem d_run (l : Launch) (G : GG) (K : OO) : ∀ (mn : Nat) (h0 : Nat) (body : Int32) (of9 : Int32) (xx : Int32) (dz : Nat) (bb : Nat) (tr9 : Nat) (jr : Nat) (dk : Int32) (dn : Int32) (dp : Int32) (da : Int32) (dq : Int32) (ftr : Nat → Int32) (hdz : dz + mn = 21) (hjr : jr ≤ 30), MIo l G K yX2_run cX2_run 7 (some .int) (3 * mn + 2) 0 0 [.ref h0, .int body, .int of9, .int xx, .int (nI dz)] [(h0, oX2 bb tr9 (nI jr) dk dn dp da dq), (tr9, iA G 30 ftr)] (fun (r : Int32) (u : Nat × (Nat → Int32) × Int32) => (True) ∧ (u.1 ≤ 30)) (fun u : Nat × (Nat → Int32) × Int32 => [(h0, oX2 bb tr9 (nI u.1) dk dn dp da u.2.2), (tr9, iA G 30 u.2.1)]) := by
  intro mn
  induction mn with
  | zero => exact fun h0 body of9 xx dz bb tr9 jr dk dn dp da dq ftr hdz hjr => d_run_0 l G K h0 body of9 xx dz bb tr9 jr dk dn dp da dq ftr hdz hjr
  | succ mn ih => exact fun h0 body of9 xx dz bb tr9 jr dk dn dp da dq ftr hdz hjr => d_run_step l G K mn h0 body of9 xx dz bb tr9 jr dk dn dp da dq ftr hdz hjr ih
def K_d_answer (l : Launch) (G : GG) (K : OO) (h0 : Nat) (dd : Int32) (xx : Int32) (bb : Nat) (tr9 : Nat) (jr : Nat) (dk : Int32) (dn : Int32) (dp : Int32) (da : Int32) (dq : Int32) (ftr : Nat → Int32) : Prop := MIo l G K yX2_answer cX2_answer 4 (some .int) 64 0 0 [.ref h0, .int dd, .int xx] [(h0, oX2 bb tr9 (nI jr) dk dn dp da dq), (tr9, iA G 30 ftr)] (fun (r : Int32) (u : Nat × (Nat → Int32) × Int32) => (True) ∧ (u.1 ≤ 30)) (fun u : Nat × (Nat → Int32) × Int32 => [(h0, oX2 bb tr9 (nI u.1) dk dn dp da u.2.2), (tr9, iA G 30 u.2.1)])
set_option maxHeartbeats 4000000 in
set_option maxRecDepth 100000 in
theorem d_answer (l : Launch) (G : GG) (K : OO) (h0 : Nat) (dd : Int32) (xx : Int32) (bb : Nat) (tr9 : Nat) (jr : Nat) (dk : Int32) (dn : Int32) (dp : Int32) (da : Int32) (dq : Int32) (ftr : Nat → Int32) (hjr : jr ≤ 30) : K_d_answer l G K h0 dd xx bb tr9 jr dk dn dp da dq ftr := by
  refine MIo.start (by decide +kernel) (Nat.le_of_ble_eq_true rfl) ?_
  intro p e s m below meth c A ls hC hK hP hD hS hA hl hO
  refine absQ (fun Q0 hQ0 => ?_)
  have hl : lv_has ls 4 [(0, .ref h0), (1, .int dd), (2, .int xx)] := hl
  refine Kan8 hC (fun hx hb hr hml hB hown hlocks hnm => ?_)
  refine lv_aload_n hx hb gX2_answer_0.1 rfl (lv_at0 hl) ?_
  refine lv_iconst (v := 0) hx hb gX2_answer_0.2.1 (by decide) ?_
  refine pf_X2_35 hC rfl hK hP hD hS 0 (ws' := [(h0, oX2 bb tr9 (nI jr) dk dn dp da 0), (tr9, iA G 30 ftr)]) rfl (Nat.le_of_ble_eq_true rfl) rfl (by decide +kernel) (by decide +kernel) gX2_answer_0.2.2.1 (fun H locs hP hD hS => ?_)
  refine lv_aload_n hx hb gX2_answer_0.2.2.2.1 rfl (lv_at0 hl) ?_
  refine lv_aload_n hx hb gX2_answer_0.2.2.2.2.1 rfl (lv_at0 hl) ?_
  refine gf_X2_23 hC rfl hK hP 0 rfl rfl gX2_answer_0.2.2.2.2.2.1 ?_
  refine lv_iload_n hx hb gX2_answer_0.2.2.2.2.2.2.1 rfl (lv_at1 hl) ?_
  refine lv_iload_n hx hb gX2_answer_0.2.2.2.2.2.2.2.1 rfl (lv_at2 hl) ?_
  refine lv_iconst (v := 0) hx hb gX2_answer_0.2.2.2.2.2.2.2.2.1 (by decide) ?_
  refine iVo (wr := []) hO hC hK hl hP hD hS hA (d_dealAs l G K 20 h0 dk dd xx 0 bb tr9 jr dk dn dp da 0 ftr (by omega) (by omega) (d_run l G K 20)) si_X2_68 [0, 1] [] sm_0_1 fm_0_1 nd_0_1 rfl rfl (by decide) rfl rfl rfl rfl rfl (Nat.le_of_ble_eq_true rfl) ⟨Nat.le_of_ble_eq_true rfl, Nat.le_of_ble_eq_true rfl⟩ ⟨Nat.le_of_ble_eq_true rfl, Nat.le_of_ble_eq_true rfl⟩ gX2_answer_0.2.2.2.2.2.2.2.2.2 (fun r4850 => Ktu3 fun jr14852 gtr4853 dq14854 => ?_)
  intro H locs hr4850 hP hD hS
  try dsimp only at hr4850
  refine Kpdr (ws := [(h0, oX2 bb tr9 (nI jr14852) dk dn dp da dq14854), (tr9, iA G 30 gtr4853)]) hP hD (fun hP hD => ?_)
  obtain ⟨hr4850, w4855⟩ := hr4850
  refine lv_istore_n (lv' := [(3, .int r4850), (0, .ref h0), (1, .int dd), (2, .int xx)]) hx hb gX2_answer_1.1 rfl hl (by decide) rfl (fun ls hl => ?_)
  refine lv_aload_n hx hb gX2_answer_1.2.1 rfl (lv_at1 hl) ?_
  refine gf_X2_35 hC rfl hK hP 0 rfl rfl gX2_answer_1.2.2.1 ?_
  refine lv_if_eq (tgt := 29) hx hb gX2_answer_1.2.2.2.1 (by decide) (fun c_21_4856 => ?_) (fun c_21_4856 => ?_)
  · refine lv_iload_n hx hb gX2_answer_1.2.2.2.2.2.2.1 rfl (lv_at0 hl) ?_
    refine toQ hQ0 ?_
    exact RI (v := r4850) hC hP hD hS [0, 1] (jr14852, gtr4853, dq14854) rfl rfl (by decide) (⟨trivial, by dsimp only; omega⟩) rfl gX2_answer_1.2.2.2.2.2.2.2
  · refine lv_bipush (v := (-15)) hx hb gX2_answer_1.2.2.2.2.1 (by decide) ?_
    refine lv_goto (tgt := 30) hx hb gX2_answer_1.2.2.2.2.2.1 (by decide) ?_
    refine toQ hQ0 ?_
    exact RI (v := (-15)) hC hP hD hS [0, 1] (jr14852, gtr4853, dq14854) rfl rfl (by decide) (⟨trivial, by dsimp only; omega⟩) rfl gX2_answer_1.2.2.2.2.2.2.2
def K_c_heldX (l : Launch) (G : GG) (h0 : Nat) (js : Nat) (bb : Nat) (hs : Nat) (hz : Nat) (hi : Nat) (hw : Nat) (hn : Nat) (ht : Nat) (fhw : Nat → Int32) (fhn : Nat → Int32) (bpersons : Nat) (bpapers : Nat) (bstamps : Nat) (bversions : Nat) (blines : Nat) (bsteps : Nat) (bsayings : Nat) (bfindings : Nat) (bwarnings : Nat) (bquestions : Nat) (td : Int32) (vd : Int32) (vl : Int32) (gp : Int32) (bpapersc : Nat) (kbpapers : Nat) (bsayingsc : Nat) (kbsayings : Nat) (bfindingsc : Nat) (kbfindings : Nat) : Prop := MP l G yX4_held cX4_held 4 (some .int) 3 [.ref h0, .int (nI js), .ref bb] [(h0, oX4 hs hz hi hw hn ht), (hw, iA G 4 fhw), (hn, iA G 4 fhn), (bb, oX0 bpersons bpapers bstamps bversions blines bsteps bsayings bfindings bwarnings bquestions td vd vl gp), (bpapers, oX8 12 6 bpapersc (nI kbpapers)), (bsayings, oX8 16 8 bsayingsc (nI kbsayings)), (bfindings, oX8 12 4 bfindingsc (nI kbfindings))] (fun r : Int32 => r = (HLD (fhw js) (fhn js) kbpapers kbsayings kbfindings))
set_option maxHeartbeats 4000000 in
set_option maxRecDepth 100000 in
theorem c_heldX (l : Launch) (G : GG) (h0 : Nat) (js : Nat) (bb : Nat) (hs : Nat) (hz : Nat) (hi : Nat) (hw : Nat) (hn : Nat) (ht : Nat) (fhw : Nat → Int32) (fhn : Nat → Int32) (bpersons : Nat) (bpapers : Nat) (bstamps : Nat) (bversions : Nat) (blines : Nat) (bsteps : Nat) (bsayings : Nat) (bfindings : Nat) (bwarnings : Nat) (bquestions : Nat) (td : Int32) (vd : Int32) (vl : Int32) (gp : Int32) (bpapersc : Nat) (kbpapers : Nat) (bsayingsc : Nat) (kbsayings : Nat) (bfindingsc : Nat) (kbfindings : Nat) (hjs : js < 4) : K_c_heldX l G h0 js bb hs hz hi hw hn ht fhw fhn bpersons bpapers bstamps bversions blines bsteps bsayings bfindings bwarnings bquestions td vd vl gp bpapersc kbpapers bsayingsc kbsayings bfindingsc kbfindings := by
  refine MP.start (by decide +kernel) (Nat.le_of_ble_eq_true rfl) ?_
  intro p e s m below meth c ls hC hK hP hD hl
  refine absQ (fun Q0 hQ0 => ?_)
  have hl : lv_has ls 4 [(0, .ref h0), (1, .int (nI js)), (2, .ref bb)] := hl
  refine Kan8 hC (fun hx hb hr hml hB hown hlocks hnm => ?_)
  have wj1 : Wi (nI js) 0 3 := Wi_j (N := 3) rfl (by decide) (by omega)
  refine lv_iload_n hx hb gX4_held_0.1 rfl (lv_at1 hl) ?_
  refine pSN hC hK hl (c_isShelf l G (nI js)) si_X4_41 rfl rfl (Nat.le_of_ble_eq_true rfl) rm_3_2_1 ⟨by first | exact Nat.le_of_ble_eq_true rfl | exact Nat.zero_le _, by first | exact Nat.le_of_ble_eq_true rfl | exact Nat.zero_le _⟩ gX4_held_0.2.1 (Kors (Keqa fun a4858 => ?_) (Keqa fun a4858 => ?_))
  · refine lv_if_ne (tgt := 9) hx hb gX4_held_0.2.2.1 (by decide) (fun _ => ?_) (fun c9 => absurd c9 (by decide))
    refine lv_iconst (v := 1) hx hb gX4_held_0.2.2.2.2.2.1 (by decide) ?_
    refine lv_istore_n (lv' := [(3, .int 1), (0, .ref h0), (1, .int (nI js)), (2, .ref bb)]) hx hb gX4_held_0.2.2.2.2.2.2.1 rfl hl (by decide) rfl (fun ls hl => ?_)
    refine lv_aload_n hx hb gX4_held_0.2.2.2.2.2.2.2.1 rfl (lv_at1 hl) ?_
    refine gf_X4_21 hC rfl hK hP 0 rfl rfl gX4_held_0.2.2.2.2.2.2.2.2.1 ?_
    refine lv_iload_n hx hb gX4_held_0.2.2.2.2.2.2.2.2.2 rfl (lv_at2 hl) ?_
    refine aldN hC hK hP 1 rfl (k := js) (by omega) (Nat.le_of_ble_eq_true rfl) (v := fhw js) rfl gX4_held_1.1 ?_
    refine lv_if_ne (tgt := 34) hx hb gX4_held_1.2.1 (by decide) (fun c_17_4859 => ?_) (fun c_17_4859 => ?_)
    · refine lv_aload_n hx hb gX4_held_2.1 rfl (lv_at1 hl) ?_
      refine gf_X4_21 hC rfl hK hP 0 rfl rfl gX4_held_2.2.1 ?_
      refine lv_iload_n hx hb gX4_held_2.2.2.1 rfl (lv_at2 hl) ?_
      refine aldN hC hK hP 1 rfl (k := js) (by omega) (Nat.le_of_ble_eq_true rfl) (v := fhw js) rfl gX4_held_2.2.2.2.1 ?_
      refine lv_iconst (v := 1) hx hb gX4_held_2.2.2.2.2.1 (by decide) ?_
      refine lv_icmp_ne (tgt := 58) hx hb gX4_held_2.2.2.2.2.2.1 (by decide) (fun c_41_4860 => ?_) (fun c_41_4860 => ?_)
      · refine lv_aload_n hx hb gX4_held_3.2.2.2.2.1 rfl (lv_at1 hl) ?_
        refine gf_X4_21 hC rfl hK hP 0 rfl rfl gX4_held_3.2.2.2.2.2.1 ?_
        refine lv_iload_n hx hb gX4_held_3.2.2.2.2.2.2.1 rfl (lv_at2 hl) ?_
        refine aldN hC hK hP 1 rfl (k := js) (by omega) (Nat.le_of_ble_eq_true rfl) (v := fhw js) rfl gX4_held_3.2.2.2.2.2.2.2.1 ?_
        refine lv_iconst (v := 2) hx hb gX4_held_3.2.2.2.2.2.2.2.2.1 (by decide) ?_
        refine lv_icmp_ne (tgt := 82) hx hb gX4_held_3.2.2.2.2.2.2.2.2.2 (by decide) (fun c_65_4861 => ?_) (fun c_65_4861 => ?_)
        · refine lv_iload_n hx hb gX4_held_4.2.2.2.2.2.2.2.2.1 rfl (lv_at0 hl) ?_
          refine lv_if_eq (tgt := 95) hx hb gX4_held_4.2.2.2.2.2.2.2.2.2 (by decide) (fun c9 => absurd c9 (by decide)) (fun _ => ?_)
          refine lv_aload_n hx hb gX4_held_5.1 rfl (lv_at1 hl) ?_
          refine gf_X4_21 hC rfl hK hP 0 rfl rfl gX4_held_5.2.1 ?_
          refine lv_iload_n hx hb gX4_held_5.2.2.1 rfl (lv_at2 hl) ?_
          refine aldN hC hK hP 1 rfl (k := js) (by omega) (Nat.le_of_ble_eq_true rfl) (v := fhw js) rfl gX4_held_5.2.2.2.1 ?_
          refine lv_goto (tgt := 96) hx hb gX4_held_5.2.2.2.2.1 (by decide) ?_
          refine toQ hQ0 ?_
          exact RP (v := fhw js) hC ((by unfold HLD; first | rfl | (simp only [ifc_t hjs, ifc_t a4858, ifc_f c_17_4859, ifc_f c_41_4860, ifc_f c_65_4861]; done) | (simp only [ifc_t hjs, ifc_t a4858, ifc_f c_17_4859, ifc_f c_41_4860, ifc_f c_65_4861]; rfl))) rfl gX4_held_5.2.2.2.2.2.2
        · refine lv_aload_n hx hb gX4_held_4.1 rfl (lv_at3 hl) ?_
          refine gf_X4_61 hC rfl hK hP 3 rfl rfl gX4_held_4.2.1 ?_
          refine lv_aload_n hx hb gX4_held_4.2.2.1 rfl (lv_at1 hl) ?_
          refine gf_X4_24 hC rfl hK hP 0 rfl rfl gX4_held_4.2.2.2.1 ?_
          refine lv_iload_n hx hb gX4_held_4.2.2.2.2.1 rfl (lv_at2 hl) ?_
          refine aldN hC hK hP 2 rfl (k := js) (by omega) (Nat.le_of_ble_eq_true rfl) (v := fhn js) rfl gX4_held_4.2.2.2.2.2.1 ?_
          refine pV hC hK hl hP hD (c_T_has l G bfindings (fhn js) 12 4 bfindingsc kbfindings) si_X4_53 [6] sm_6 fm_6 nd_6 rfl rfl rfl rfl rfl (Nat.le_of_ble_eq_true rfl) rm_3_1_2 ⟨by first | exact Nat.le_of_ble_eq_true rfl | exact Nat.zero_le _, by first | exact Nat.le_of_ble_eq_true rfl | exact Nat.zero_le _⟩ gX4_held_4.2.2.2.2.2.2.1 (Kors (Keqa fun a4863 => ?_) (Keqa fun a4863 => ?_))
          · refine lv_istore_n (lv' := [(3, .int 1), (0, .ref h0), (1, .int (nI js)), (2, .ref bb)]) hx hb gX4_held_4.2.2.2.2.2.2.2.1 rfl hl (by decide) rfl (fun ls hl => ?_)
            refine lv_iload_n hx hb gX4_held_4.2.2.2.2.2.2.2.2.1 rfl (lv_at0 hl) ?_
            refine lv_if_eq (tgt := 95) hx hb gX4_held_4.2.2.2.2.2.2.2.2.2 (by decide) (fun c9 => absurd c9 (by decide)) (fun _ => ?_)
            refine lv_aload_n hx hb gX4_held_5.1 rfl (lv_at1 hl) ?_
            refine gf_X4_21 hC rfl hK hP 0 rfl rfl gX4_held_5.2.1 ?_
            refine lv_iload_n hx hb gX4_held_5.2.2.1 rfl (lv_at2 hl) ?_
            refine aldN hC hK hP 1 rfl (k := js) (by omega) (Nat.le_of_ble_eq_true rfl) (v := fhw js) rfl gX4_held_5.2.2.2.1 ?_
            refine lv_goto (tgt := 96) hx hb gX4_held_5.2.2.2.2.1 (by decide) ?_
            refine toQ hQ0 ?_
            exact RP (v := fhw js) hC ((by unfold HLD; first | rfl | (simp only [ifc_t hjs, ifc_t a4858, ifc_f c_17_4859, ifc_f c_41_4860, ifc_t c_65_4861, ifc_t a4863]; done) | (simp only [ifc_t hjs, ifc_t a4858, ifc_f c_17_4859, ifc_f c_41_4860, ifc_t c_65_4861, ifc_t a4863]; rfl))) rfl gX4_held_5.2.2.2.2.2.2
          · refine lv_istore_n (lv' := [(3, .int 0), (0, .ref h0), (1, .int (nI js)), (2, .ref bb)]) hx hb gX4_held_4.2.2.2.2.2.2.2.1 rfl hl (by decide) rfl (fun ls hl => ?_)
            refine lv_iload_n hx hb gX4_held_4.2.2.2.2.2.2.2.2.1 rfl (lv_at0 hl) ?_
            refine lv_if_eq (tgt := 95) hx hb gX4_held_4.2.2.2.2.2.2.2.2.2 (by decide) (fun _ => ?_) (fun c9 => absurd (by decide) c9)
            refine lv_iconst (v := 4) hx hb gX4_held_5.2.2.2.2.2.1 (by decide) ?_
            refine toQ hQ0 ?_
            exact RP (v := 4) hC ((by unfold HLD; first | rfl | (simp only [ifc_t hjs, ifc_t a4858, ifc_f c_17_4859, ifc_f c_41_4860, ifc_t c_65_4861, ifc_f a4863]; done) | (simp only [ifc_t hjs, ifc_t a4858, ifc_f c_17_4859, ifc_f c_41_4860, ifc_t c_65_4861, ifc_f a4863]; rfl))) rfl gX4_held_5.2.2.2.2.2.2
      · refine lv_aload_n hx hb gX4_held_2.2.2.2.2.2.2.1 rfl (lv_at3 hl) ?_
        refine gf_X4_58 hC rfl hK hP 3 rfl rfl gX4_held_2.2.2.2.2.2.2.2.1 ?_
        refine lv_aload_n hx hb gX4_held_2.2.2.2.2.2.2.2.2.1 rfl (lv_at1 hl) ?_
        refine gf_X4_24 hC rfl hK hP 0 rfl rfl gX4_held_2.2.2.2.2.2.2.2.2.2 ?_
        refine lv_iload_n hx hb gX4_held_3.1 rfl (lv_at2 hl) ?_
        refine aldN hC hK hP 2 rfl (k := js) (by omega) (Nat.le_of_ble_eq_true rfl) (v := fhn js) rfl gX4_held_3.2.1 ?_
        refine pV hC hK hl hP hD (c_T_has l G bsayings (fhn js) 16 8 bsayingsc kbsayings) si_X4_53 [5] sm_5 fm_5 nd_5 rfl rfl rfl rfl rfl (Nat.le_of_ble_eq_true rfl) rm_3_1_2 ⟨by first | exact Nat.le_of_ble_eq_true rfl | exact Nat.zero_le _, by first | exact Nat.le_of_ble_eq_true rfl | exact Nat.zero_le _⟩ gX4_held_3.2.2.1 (Kors (Keqa fun a4865 => ?_) (Keqa fun a4865 => ?_))
        · refine lv_istore_n (lv' := [(3, .int 1), (0, .ref h0), (1, .int (nI js)), (2, .ref bb)]) hx hb gX4_held_3.2.2.2.1 rfl hl (by decide) rfl (fun ls hl => ?_)
          refine lv_aload_n hx hb gX4_held_3.2.2.2.2.1 rfl (lv_at1 hl) ?_
          refine gf_X4_21 hC rfl hK hP 0 rfl rfl gX4_held_3.2.2.2.2.2.1 ?_
          refine lv_iload_n hx hb gX4_held_3.2.2.2.2.2.2.1 rfl (lv_at2 hl) ?_
          refine aldN hC hK hP 1 rfl (k := js) (by omega) (Nat.le_of_ble_eq_true rfl) (v := fhw js) rfl gX4_held_3.2.2.2.2.2.2.2.1 ?_
          refine lv_iconst (v := 2) hx hb gX4_held_3.2.2.2.2.2.2.2.2.1 (by decide) ?_
          refine lv_icmp_ne (tgt := 82) hx hb gX4_held_3.2.2.2.2.2.2.2.2.2 (by decide) (fun _ => ?_) (fun c9 => absurd c9 ((by rw [c_41_4860]; decide)))
          refine lv_iload_n hx hb gX4_held_4.2.2.2.2.2.2.2.2.1 rfl (lv_at0 hl) ?_
          refine lv_if_eq (tgt := 95) hx hb gX4_held_4.2.2.2.2.2.2.2.2.2 (by decide) (fun c9 => absurd c9 (by decide)) (fun _ => ?_)
          refine lv_aload_n hx hb gX4_held_5.1 rfl (lv_at1 hl) ?_
          refine gf_X4_21 hC rfl hK hP 0 rfl rfl gX4_held_5.2.1 ?_
          refine lv_iload_n hx hb gX4_held_5.2.2.1 rfl (lv_at2 hl) ?_
          refine aldN hC hK hP 1 rfl (k := js) (by omega) (Nat.le_of_ble_eq_true rfl) (v := fhw js) rfl gX4_held_5.2.2.2.1 ?_
          refine lv_goto (tgt := 96) hx hb gX4_held_5.2.2.2.2.1 (by decide) ?_
          refine toQ hQ0 ?_
          exact RP (v := fhw js) hC ((by unfold HLD; first | rfl | (simp only [ifc_t hjs, ifc_t a4858, ifc_f c_17_4859, ifc_t c_41_4860, ifc_t a4865]; done) | (simp only [ifc_t hjs, ifc_t a4858, ifc_f c_17_4859, ifc_t c_41_4860, ifc_t a4865]; rfl))) rfl gX4_held_5.2.2.2.2.2.2
        · refine lv_istore_n (lv' := [(3, .int 0), (0, .ref h0), (1, .int (nI js)), (2, .ref bb)]) hx hb gX4_held_3.2.2.2.1 rfl hl (by decide) rfl (fun ls hl => ?_)
          refine lv_aload_n hx hb gX4_held_3.2.2.2.2.1 rfl (lv_at1 hl) ?_
          refine gf_X4_21 hC rfl hK hP 0 rfl rfl gX4_held_3.2.2.2.2.2.1 ?_
          refine lv_iload_n hx hb gX4_held_3.2.2.2.2.2.2.1 rfl (lv_at2 hl) ?_
          refine aldN hC hK hP 1 rfl (k := js) (by omega) (Nat.le_of_ble_eq_true rfl) (v := fhw js) rfl gX4_held_3.2.2.2.2.2.2.2.1 ?_
          refine lv_iconst (v := 2) hx hb gX4_held_3.2.2.2.2.2.2.2.2.1 (by decide) ?_
          refine lv_icmp_ne (tgt := 82) hx hb gX4_held_3.2.2.2.2.2.2.2.2.2 (by decide) (fun _ => ?_) (fun c9 => absurd c9 ((by rw [c_41_4860]; decide)))
          refine lv_iload_n hx hb gX4_held_4.2.2.2.2.2.2.2.2.1 rfl (lv_at0 hl) ?_
          refine lv_if_eq (tgt := 95) hx hb gX4_held_4.2.2.2.2.2.2.2.2.2 (by decide) (fun _ => ?_) (fun c9 => absurd (by decide) c9)
          refine lv_iconst (v := 4) hx hb gX4_held_5.2.2.2.2.2.1 (by decide) ?_
          refine toQ hQ0 ?_
          exact RP (v := 4) hC ((by unfold HLD; first | rfl | (simp only [ifc_t hjs, ifc_t a4858, ifc_f c_17_4859, ifc_t c_41_4860, ifc_f a4865]; done) | (simp only [ifc_t hjs, ifc_t a4858, ifc_f c_17_4859, ifc_t c_41_4860, ifc_f a4865]; rfl))) rfl gX4_held_5.2.2.2.2.2.2
    · refine lv_aload_n hx hb gX4_held_1.2.2.1 rfl (lv_at3 hl) ?_
      refine gf_X4_47 hC rfl hK hP 3 rfl rfl gX4_held_1.2.2.2.1 ?_
      refine lv_aload_n hx hb gX4_held_1.2.2.2.2.1 rfl (lv_at1 hl) ?_
      refine gf_X4_24 hC rfl hK hP 0 rfl rfl gX4_held_1.2.2.2.2.2.1 ?_
      refine lv_iload_n hx hb gX4_held_1.2.2.2.2.2.2.1 rfl (lv_at2 hl) ?_
      refine aldN hC hK hP 2 rfl (k := js) (by omega) (Nat.le_of_ble_eq_true rfl) (v := fhn js) rfl gX4_held_1.2.2.2.2.2.2.2.1 ?_
      refine pV hC hK hl hP hD (c_T_has l G bpapers (fhn js) 12 6 bpapersc kbpapers) si_X4_53 [4] sm_4 fm_4 nd_4 rfl rfl rfl rfl rfl (Nat.le_of_ble_eq_true rfl) rm_3_1_2 ⟨by first | exact Nat.le_of_ble_eq_true rfl | exact Nat.zero_le _, by first | exact Nat.le_of_ble_eq_true rfl | exact Nat.zero_le _⟩ gX4_held_1.2.2.2.2.2.2.2.2.1 (Kors (Keqa fun a4867 => ?_) (Keqa fun a4867 => ?_))
      · refine lv_istore_n (lv' := [(3, .int 1), (0, .ref h0), (1, .int (nI js)), (2, .ref bb)]) hx hb gX4_held_1.2.2.2.2.2.2.2.2.2 rfl hl (by decide) rfl (fun ls hl => ?_)
        refine lv_aload_n hx hb gX4_held_2.1 rfl (lv_at1 hl) ?_
        refine gf_X4_21 hC rfl hK hP 0 rfl rfl gX4_held_2.2.1 ?_
        refine lv_iload_n hx hb gX4_held_2.2.2.1 rfl (lv_at2 hl) ?_
        refine aldN hC hK hP 1 rfl (k := js) (by omega) (Nat.le_of_ble_eq_true rfl) (v := fhw js) rfl gX4_held_2.2.2.2.1 ?_
        refine lv_iconst (v := 1) hx hb gX4_held_2.2.2.2.2.1 (by decide) ?_
        refine lv_icmp_ne (tgt := 58) hx hb gX4_held_2.2.2.2.2.2.1 (by decide) (fun _ => ?_) (fun c9 => absurd c9 ((by rw [c_17_4859]; decide)))
        refine lv_aload_n hx hb gX4_held_3.2.2.2.2.1 rfl (lv_at1 hl) ?_
        refine gf_X4_21 hC rfl hK hP 0 rfl rfl gX4_held_3.2.2.2.2.2.1 ?_
        refine lv_iload_n hx hb gX4_held_3.2.2.2.2.2.2.1 rfl (lv_at2 hl) ?_
        refine aldN hC hK hP 1 rfl (k := js) (by omega) (Nat.le_of_ble_eq_true rfl) (v := fhw js) rfl gX4_held_3.2.2.2.2.2.2.2.1 ?_
        refine lv_iconst (v := 2) hx hb gX4_held_3.2.2.2.2.2.2.2.2.1 (by decide) ?_
        refine lv_icmp_ne (tgt := 82) hx hb gX4_held_3.2.2.2.2.2.2.2.2.2 (by decide) (fun _ => ?_) (fun c9 => absurd c9 ((by rw [c_17_4859]; decide)))
        refine lv_iload_n hx hb gX4_held_4.2.2.2.2.2.2.2.2.1 rfl (lv_at0 hl) ?_
        refine lv_if_eq (tgt := 95) hx hb gX4_held_4.2.2.2.2.2.2.2.2.2 (by decide) (fun c9 => absurd c9 (by decide)) (fun _ => ?_)
        refine lv_aload_n hx hb gX4_held_5.1 rfl (lv_at1 hl) ?_
        refine gf_X4_21 hC rfl hK hP 0 rfl rfl gX4_held_5.2.1 ?_
        refine lv_iload_n hx hb gX4_held_5.2.2.1 rfl (lv_at2 hl) ?_
        refine aldN hC hK hP 1 rfl (k := js) (by omega) (Nat.le_of_ble_eq_true rfl) (v := fhw js) rfl gX4_held_5.2.2.2.1 ?_
        refine lv_goto (tgt := 96) hx hb gX4_held_5.2.2.2.2.1 (by decide) ?_
        refine toQ hQ0 ?_
        exact RP (v := fhw js) hC ((by unfold HLD; first | rfl | (simp only [ifc_t hjs, ifc_t a4858, ifc_t c_17_4859, ifc_t a4867]; done) | (simp only [ifc_t hjs, ifc_t a4858, ifc_t c_17_4859, ifc_t a4867]; rfl))) rfl gX4_held_5.2.2.2.2.2.2
      · refine lv_istore_n (lv' := [(3, .int 0), (0, .ref h0), (1, .int (nI js)), (2, .ref bb)]) hx hb gX4_held_1.2.2.2.2.2.2.2.2.2 rfl hl (by decide) rfl (fun ls hl => ?_)
        refine lv_aload_n hx hb gX4_held_2.1 rfl (lv_at1 hl) ?_
        refine gf_X4_21 hC rfl hK hP 0 rfl rfl gX4_held_2.2.1 ?_
        refine lv_iload_n hx hb gX4_held_2.2.2.1 rfl (lv_at2 hl) ?_
        refine aldN hC hK hP 1 rfl (k := js) (by omega) (Nat.le_of_ble_eq_true rfl) (v := fhw js) rfl gX4_held_2.2.2.2.1 ?_
        refine lv_iconst (v := 1) hx hb gX4_held_2.2.2.2.2.1 (by decide) ?_
        refine lv_icmp_ne (tgt := 58) hx hb gX4_held_2.2.2.2.2.2.1 (by decide) (fun _ => ?_) (fun c9 => absurd c9 ((by rw [c_17_4859]; decide)))
        refine lv_aload_n hx hb gX4_held_3.2.2.2.2.1 rfl (lv_at1 hl) ?_
        refine gf_X4_21 hC rfl hK hP 0 rfl rfl gX4_held_3.2.2.2.2.2.1 ?_
        refine lv_iload_n hx hb gX4_held_3.2.2.2.2.2.2.1 rfl (lv_at2 hl) ?_
        refine aldN hC hK hP 1 rfl (k := js) (by omega) (Nat.le_of_ble_eq_true rfl) (v := fhw js) rfl gX4_held_3.2.2.2.2.2.2.2.1 ?_
        refine lv_iconst (v := 2) hx hb gX4_held_3.2.2.2.2.2.2.2.2.1 (by decide) ?_
        refine lv_icmp_ne (tgt := 82) hx hb gX4_held_3.2.2.2.2.2.2.2.2.2 (by decide) (fun _ => ?_) (fun c9 => absurd c9 ((by rw [c_17_4859]; decide)))
        refine lv_iload_n hx hb gX4_held_4.2.2.2.2.2.2.2.2.1 rfl (lv_at0 hl) ?_
        refine lv_if_eq (tgt := 95) hx hb gX4_held_4.2.2.2.2.2.2.2.2.2 (by decide) (fun _ => ?_) (fun c9 => absurd (by decide) c9)
        refine lv_iconst (v := 4) hx hb gX4_held_5.2.2.2.2.2.1 (by decide) ?_
        refine toQ hQ0 ?_
        exact RP (v := 4) hC ((by unfold HLD; first | rfl | (simp only [ifc_t hjs, ifc_t a4858, ifc_t c_17_4859, ifc_f a4867]; done) | (simp only [ifc_t hjs, ifc_t a4858, ifc_t c_17_4859, ifc_f a4867]; rfl))) rfl gX4_held_5.2.2.2.2.2.2
  · exact absurd wj1 a4858
def K_c_heldNumberX (l : Launch) (G : GG) (h0 : Nat) (js : Nat) (hs : Nat) (hz : Nat) (hi : Nat) (hw : Nat) (hn : Nat) (ht : Nat) (fhn : Nat → Int32) : Prop := MP l G yX4_heldNumber cX4_heldNumber 2 (some .int) 3 [.ref h0, .int (nI js)] [(h0, oX4 hs hz hi hw hn ht), (hn, iA G 4 fhn)] (fun r : Int32 => r = fhn js)
set_option maxHeartbeats 4000000 in
set_option maxRecDepth 100000 in
theorem c_heldNumberX (l : Launch) (G : GG) (h0 : Nat) (js : Nat) (hs : Nat) (hz : Nat) (hi : Nat) (hw : Nat) (hn : Nat) (ht : Nat) (fhn : Nat → Int32) (hjs : js < 4) : K_c_heldNumberX l G h0 js hs hz hi hw hn ht fhn := by
  refine MP.start (by decide +kernel) (Nat.le_of_ble_eq_true rfl) ?_
  intro p e s m below meth c ls hC hK hP hD hl
  refine absQ (fun Q0 hQ0 => ?_)
  have hl : lv_has ls 2 [(0, .ref h0), (1, .int (nI js))] := hl
  refine Kan8 hC (fun hx hb hr hml hB hown hlocks hnm => ?_)
  have wj1 : Wi (nI js) 0 3 := Wi_j (N := 3) rfl (by decide) (by omega)
  refine lv_iload_n hx hb gX4_heldNumber_0.1 rfl (lv_at1 hl) ?_
  refine pSN hC hK hl (c_isShelf l G (nI js)) si_X4_41 rfl rfl (Nat.le_of_ble_eq_true rfl) rm_3_2_1 ⟨by first | exact Nat.le_of_ble_eq_true rfl | exact Nat.zero_le _, by first | exact Nat.le_of_ble_eq_true rfl | exact Nat.zero_le _⟩ gX4_heldNumber_0.2.1 (Kors (Keqa fun a4869 => ?_) (Keqa fun a4869 => ?_))
  · refine lv_if_eq (tgt := 16) hx hb gX4_heldNumber_0.2.2.1 (by decide) (fun c9 => absurd c9 (by decide)) (fun _ => ?_)
    refine lv_aload_n hx hb gX4_heldNumber_0.2.2.2.1 rfl (lv_at0 hl) ?_
    refine gf_X4_24 hC rfl hK hP 0 rfl rfl gX4_heldNumber_0.2.2.2.2.1 ?_
    refine lv_iload_n hx hb gX4_heldNumber_0.2.2.2.2.2.1 rfl (lv_at1 hl) ?_
    refine aldN hC hK hP 1 rfl (k := js) (by omega) (Nat.le_of_ble_eq_true rfl) (v := fhn js) rfl gX4_heldNumber_0.2.2.2.2.2.2.1 ?_
    refine lv_goto (tgt := 17) hx hb gX4_heldNumber_0.2.2.2.2.2.2.2.1 (by decide) ?_
    refine toQ hQ0 ?_
    exact RP (v := fhn js) hC (rfl) rfl gX4_heldNumber_0.2.2.2.2.2.2.2.2.2
  · exact absurd wj1 a4869
def K_c_heldSortX (l : Launch) (G : GG) (h0 : Nat) (js : Nat) (hs : Nat) (hz : Nat) (hi : Nat) (hw : Nat) (hn : Nat) (ht : Nat) (fht : Nat → Int32) : Prop := MP l G yX4_heldSort cX4_heldSort 2 (some .int) 3 [.ref h0, .int (nI js)] [(h0, oX4 hs hz hi hw hn ht), (ht, iA G 4 fht)] (fun r : Int32 => r = fht js)
set_option maxHeartbeats 4000000 in
set_option maxRecDepth 100000 in
theorem c_heldSortX (l : Launch) (G : GG) (h0 : Nat) (js : Nat) (hs : Nat) (hz : Nat) (hi : Nat) (hw : Nat) (hn : Nat) (ht : Nat) (fht : Nat → Int32) (hjs : js < 4) : K_c_heldSortX l G h0 js hs hz hi hw hn ht fht := by
  refine MP.start (by decide +kernel) (Nat.le_of_ble_eq_true rfl) ?_
  intro p e s m below meth c ls hC hK hP hD hl
  refine absQ (fun Q0 hQ0 => ?_)
  have hl : lv_has ls 2 [(0, .ref h0), (1, .int (nI js))] := hl
  refine Kan8 hC (fun hx hb hr hml hB hown hlocks hnm => ?_)
  have wj1 : Wi (nI js) 0 3 := Wi_j (N := 3) rfl (by decide) (by omega)
  refine lv_iload_n hx hb gX4_heldSort_0.1 rfl (lv_at1 hl) ?_
  refine pSN hC hK hl (c_isShelf l G (nI js)) si_X4_41 rfl rfl (Nat.le_of_ble_eq_true rfl) rm_3_2_1 ⟨by first | exact Nat.le_of_ble_eq_true rfl | exact Nat.zero_le _, by first | exact Nat.le_of_ble_eq_true rfl | exact Nat.zero_le _⟩ gX4_heldSort_0.2.1 (Kors (Keqa fun a4871 => ?_) (Keqa fun a4871 => ?_))
  · refine lv_if_eq (tgt := 16) hx hb gX4_heldSort_0.2.2.1 (by decide) (fun c9 => absurd c9 (by decide)) (fun _ => ?_)
    refine lv_aload_n hx hb gX4_heldSort_0.2.2.2.1 rfl (lv_at0 hl) ?_
    refine gf_X4_27 hC rfl hK hP 0 rfl rfl gX4_heldSort_0.2.2.2.2.1 ?_
    refine lv_iload_n hx hb gX4_heldSort_0.2.2.2.2.2.1 rfl (lv_at1 hl) ?_
    refine aldN hC hK hP 1 rfl (k := js) (by omega) (Nat.le_of_ble_eq_true rfl) (v := fht js) rfl gX4_heldSort_0.2.2.2.2.2.2.1 ?_
    refine lv_goto (tgt := 17) hx hb gX4_heldSort_0.2.2.2.2.2.2.2.1 (by decide) ?_
    refine toQ hQ0 ?_
    exact RP (v := fht js) hC (rfl) rfl gX4_heldSort_0.2.2.2.2.2.2.2.2.2
  · exact absurd wj1 a4871
def K_d_kindX (l : Launch) (G : GG) (h0 : Nat) (jn : Nat) (bb : Nat) (tr9 : Nat) (jr : Nat) (dk : Int32) (dn : Int32) (dp : Int32) (da : Int32) (dq : Int32) (bpersons : Nat) (bpapers : Nat) (bstamps : Nat) (bversions : Nat) (blines : Nat) (bsteps : Nat) (bsayings : Nat) (bfindings : Nat) (bwarnings : Nat) (bquestions : Nat) (td : Int32) (vd : Int32) (vl : Int32) (gp : Int32) (bpapersc : Nat) (kbpapers : Nat) (fbpapers : Nat → Int32) : Prop := MP l G yX2_kindOfPaper cX2_kindOfPaper 3 (some .int) 3 [.ref h0, .int (nI jn)] [(h0, oX2 bb tr9 (nI jr) dk dn dp da dq), (bb, oX0 bpersons bpapers bstamps bversions blines bsteps bsayings bfindings bwarnings bquestions td vd vl gp), (bpapers, oX8 12 6 bpapersc (nI kbpapers)), (bpapersc, iA G 72 fbpapers)] (fun r : Int32 => r = nI (PKn (fbpapers (jn * 6 + 1)) (fbpapers (jn * 6 + 0)) (fbpapers (jn * 6 + 3))))
set_option maxHeartbeats 4000000 in
set_option maxRecDepth 100000 in
theorem d_kindX (l : Launch) (G : GG) (h0 : Nat) (jn : Nat) (bb : Nat) (tr9 : Nat) (jr : Nat) (dk : Int32) (dn : Int32) (dp : Int32) (da : Int32) (dq : Int32) (bpersons : Nat) (bpapers : Nat) (bstamps : Nat) (bversions : Nat) (blines : Nat) (bsteps : Nat) (bsayings : Nat) (bfindings : Nat) (bwarnings : Nat) (bquestions : Nat) (td : Int32) (vd : Int32) (vl : Int32) (gp : Int32) (bpapersc : Nat) (kbpapers : Nat) (fbpapers : Nat → Int32) (hkbpapers : kbpapers ≤ 12) (hjn : jn < kbpapers) : K_d_kindX l G h0 jn bb tr9 jr dk dn dp da dq bpersons bpapers bstamps bversions blines bsteps bsayings bfindings bwarnings bquestions td vd vl gp bpapersc kbpapers fbpapers := by
  refine MP.start (by decide +kernel) (Nat.le_of_ble_eq_true rfl) ?_
  intro p e s m below meth c ls hC hK hP hD hl
  refine absQ (fun Q0 hQ0 => ?_)
  have hl : lv_has ls 3 [(0, .ref h0), (1, .int (nI jn))] := hl
  refine Kan8 hC (fun hx hb hr hml hB hown hlocks hnm => ?_)
  refine lv_aload_n hx hb gX2_kindOfPaper_0.1 rfl (lv_at0 hl) ?_
  refine gf_X2_15 hC rfl hK hP 0 rfl rfl gX2_kindOfPaper_0.2.1 ?_
  refine gf_X2_43 hC rfl hK hP 1 rfl rfl gX2_kindOfPaper_0.2.2.1 ?_
  refine lv_iload_n hx hb gX2_kindOfPaper_0.2.2.2.1 rfl (lv_at1 hl) ?_
  refine lv_iconst (v := 1) hx hb gX2_kindOfPaper_0.2.2.2.2.1 (by decide) ?_
  refine pV hC hK hl hP hD (c_T_at l G bpapers (nI jn) 1 12 6 bpapersc kbpapers fbpapers (hkbpapers) (by omega) (by omega)) si_X2_49 [2, 3] sm_2_3 fm_2_3 nd_2_3 rfl rfl rfl rfl rfl (Nat.le_of_ble_eq_true rfl) rm_3_1_3 ⟨by first | exact Nat.le_of_ble_eq_true rfl | exact Nat.zero_le _, by first | exact Nat.le_of_ble_eq_true rfl | exact Nat.zero_le _⟩ gX2_kindOfPaper_0.2.2.2.2.2.1 (fun r4872 hr4872 => ?_)
  have q4874 : r4872 = fbpapers (jn * 6 + 1) := hr4872.trans (tatr (by omega) (by omega) (by decide) (by decide) rfl)
  refine lv_iconst (v := 1) hx hb gX2_kindOfPaper_0.2.2.2.2.2.2.1 (by decide) ?_
  refine lv_aload_n hx hb gX2_kindOfPaper_0.2.2.2.2.2.2.2.1 rfl (lv_at0 hl) ?_
  refine gf_X2_15 hC rfl hK hP 0 rfl rfl gX2_kindOfPaper_0.2.2.2.2.2.2.2.2.1 ?_
  refine gf_X2_43 hC rfl hK hP 1 rfl rfl gX2_kindOfPaper_0.2.2.2.2.2.2.2.2.2 ?_
  refine lv_iload_n hx hb gX2_kindOfPaper_1.1 rfl (lv_at1 hl) ?_
  refine lv_iconst (v := 0) hx hb gX2_kindOfPaper_1.2.1 (by decide) ?_
  refine pV hC hK hl hP hD (c_T_at l G bpapers (nI jn) 0 12 6 bpapersc kbpapers fbpapers (hkbpapers) (by omega) (by omega)) si_X2_49 [2, 3] sm_2_3 fm_2_3 nd_2_3 rfl rfl rfl rfl rfl (Nat.le_of_ble_eq_true rfl) rm_3_1_3 ⟨by first | exact Nat.le_of_ble_eq_true rfl | exact Nat.zero_le _, by first | exact Nat.le_of_ble_eq_true rfl | exact Nat.zero_le _⟩ gX2_kindOfPaper_1.2.2.1 (fun r4875 hr4875 => ?_)
  have q4877 : r4875 = fbpapers (jn * 6 + 0) := hr4875.trans (tatr (by omega) (by omega) (by decide) (by decide) rfl)
  refine lv_ishl hx hb gX2_kindOfPaper_1.2.2.2.1 ?_
  refine lv_iconst (v := (-1)) hx hb gX2_kindOfPaper_1.2.2.2.2.1 (by decide) ?_
  refine lv_ixor hx hb gX2_kindOfPaper_1.2.2.2.2.2.1 ?_
  refine lv_iand hx hb gX2_kindOfPaper_1.2.2.2.2.2.2.1 ?_
  refine lv_istore_n (lv' := [(2, .int (r4872 &&& ((1 <<< (r4875 &&& 31)) ^^^ (-1)))), (0, .ref h0), (1, .int (nI jn))]) hx hb gX2_kindOfPaper_1.2.2.2.2.2.2.2.1 rfl hl (by decide) rfl (fun ls hl => ?_)
  refine lv_iload_n hx hb gX2_kindOfPaper_1.2.2.2.2.2.2.2.2.1 rfl (lv_at0 hl) ?_
  refine lv_if_ne (tgt := 36) hx hb gX2_kindOfPaper_1.2.2.2.2.2.2.2.2.2 (by decide) (fun c_31_4878 => ?_) (fun c_31_4878 => ?_)
  · refine lv_aload_n hx hb gX2_kindOfPaper_2.2.2.1 rfl (lv_at1 hl) ?_
    refine gf_X2_15 hC rfl hK hP 0 rfl rfl gX2_kindOfPaper_2.2.2.2.1 ?_
    refine gf_X2_43 hC rfl hK hP 1 rfl rfl gX2_kindOfPaper_2.2.2.2.2.1 ?_
    refine lv_iload_n hx hb gX2_kindOfPaper_2.2.2.2.2.2.1 rfl (lv_at2 hl) ?_
    refine lv_iconst (v := 3) hx hb gX2_kindOfPaper_2.2.2.2.2.2.2.1 (by decide) ?_
    refine pV hC hK hl hP hD (c_T_at l G bpapers (nI jn) 3 12 6 bpapersc kbpapers fbpapers (hkbpapers) (by omega) (by omega)) si_X2_49 [2, 3] sm_2_3 fm_2_3 nd_2_3 rfl rfl rfl rfl rfl (Nat.le_of_ble_eq_true rfl) rm_3_1_3 ⟨by first | exact Nat.le_of_ble_eq_true rfl | exact Nat.zero_le _, by first | exact Nat.le_of_ble_eq_true rfl | exact Nat.zero_le _⟩ gX2_kindOfPaper_2.2.2.2.2.2.2.2.1 (fun r4879 hr4879 => ?_)
    have q4881 : r4879 = fbpapers (jn * 6 + 3) := hr4879.trans (tatr (by omega) (by omega) (by decide) (by decide) rfl)
    refine lv_if_le (tgt := 55) hx hb gX2_kindOfPaper_2.2.2.2.2.2.2.2.2.1 (by decide) (fun c_48_4882 => ?_) (fun c_48_4882 => ?_)
    · refine lv_iconst (v := 1) hx hb gX2_kindOfPaper_3.2.1 (by decide) ?_
      refine toQ hQ0 ?_
      exact RP (v := 1) hC ((by unfold PKn; rw [← q4874, ← q4877, ← q4881, ifn_f c_31_4878, ifn_f (q := 0 < r4879) (Int32.not_lt.mpr c_48_4882)]; first | done | rfl)) rfl gX2_kindOfPaper_3.2.2
    · refine lv_iconst (v := 3) hx hb gX2_kindOfPaper_2.2.2.2.2.2.2.2.2.2 (by decide) ?_
      refine lv_goto (tgt := 56) hx hb gX2_kindOfPaper_3.1 (by decide) ?_
      refine toQ hQ0 ?_
      exact RP (v := 3) hC ((by unfold PKn; rw [← q4874, ← q4877, ← q4881, ifn_f c_31_4878, ifn_t (q := 0 < r4879) (Int32.not_le.mp c_48_4882)]; first | done | rfl)) rfl gX2_kindOfPaper_3.2.2
  · refine lv_iconst (v := 2) hx hb gX2_kindOfPaper_2.1 (by decide) ?_
    refine toQ hQ0 ?_
    exact RP (v := 2) hC ((by unfold PKn; rw [← q4874, ← q4877, ifn_t c_31_4878]; first | done | rfl)) rfl gX2_kindOfPaper_2.2.1
def K_d_graspP (l : Launch) (G : GG) (h0 : Nat) (jn : Nat) (bb : Nat) (tr9 : Nat) (jr : Nat) (dk : Int32) (dn : Int32) (dp : Int32) (da : Int32) (dq : Int32) (bpersons : Nat) (bpapers : Nat) (bstamps : Nat) (bversions : Nat) (blines : Nat) (bsteps : Nat) (bsayings : Nat) (bfindings : Nat) (bwarnings : Nat) (bquestions : Nat) (td : Int32) (vd : Int32) (vl : Int32) (gp : Int32) (bpapersc : Nat) (kbpapers : Nat) (fbpapers : Nat → Int32) : Prop := MV l G yX2_grasp cX2_grasp 3 5 0 0 [.ref h0, .int 0, .int (nI jn)] [(h0, oX2 bb tr9 (nI jr) dk dn dp da dq), (bb, oX0 bpersons bpapers bstamps bversions blines bsteps bsayings bfindings bwarnings bquestions td vd vl gp), (bpapers, oX8 12 6 bpapersc (nI kbpapers)), (bpapersc, iA G 72 fbpapers)] (fun u : Unit => True) (fun u : Unit => [(h0, oX2 bb tr9 (nI jr) (nI (PKn (fbpapers (jn * 6 + 1)) (fbpapers (jn * 6 + 0)) (fbpapers (jn * 6 + 3)))) (nI jn) (fbpapers (jn * 6 + 0)) (fbpapers (jn * 6 + 2)) dq), (bb, oX0 bpersons bpapers bstamps bversions blines bsteps bsayings bfindings bwarnings bquestions td vd vl gp), (bpapers, oX8 12 6 bpapersc (nI kbpapers)), (bpapersc, iA G 72 fbpapers)])
set_option maxHeartbeats 4000000 in
set_option maxRecDepth 100000 in
theorem d_graspP (l : Launch) (G : GG) (h0 : Nat) (jn : Nat) (bb : Nat) (tr9 : Nat) (jr : Nat) (dk : Int32) (dn : Int32) (dp : Int32) (da : Int32) (dq : Int32) (bpersons : Nat) (bpapers : Nat) (bstamps : Nat) (bversions : Nat) (blines : Nat) (bsteps : Nat) (bsayings : Nat) (bfindings : Nat) (bwarnings : Nat) (bquestions : Nat) (td : Int32) (vd : Int32) (vl : Int32) (gp : Int32) (bpapersc : Nat) (kbpapers : Nat) (fbpapers : Nat → Int32) (hkbpapers : kbpapers ≤ 12) (hjn : jn < kbpapers) : K_d_graspP l G h0 jn bb tr9 jr dk dn dp da dq bpersons bpapers bstamps bversions blines bsteps bsayings bfindings bwarnings bquestions td vd vl gp bpapersc kbpapers fbpapers := by
  refine MV.start (by decide +kernel) (Nat.le_of_ble_eq_true rfl) ?_
  intro p e s m below meth c A ls hC hK hP hD hS hA hl
  refine absQ (fun Q0 hQ0 => ?_)
  have hl : lv_has ls 3 [(0, .ref h0), (1, .int 0), (2, .int (nI jn))] := hl
  refine Kan8 hC (fun hx hb hr hml hB hown hlocks hnm => ?_)
  refine lv_aload_n hx hb gX2_grasp_0.1 rfl (lv_at0 hl) ?_
  refine lv_iload_n hx hb gX2_grasp_0.2.1 rfl (lv_at2 hl) ?_
  refine pf_X2_26 hC rfl hK hP hD hS 0 (ws' := [(h0, oX2 bb tr9 (nI jr) dk (nI jn) dp da dq), (bb, oX0 bpersons bpapers bstamps bversions blines bsteps bsayings bfindings bwarnings bquestions td vd vl gp), (bpapers, oX8 12 6 bpapersc (nI kbpapers)), (bpapersc, iA G 72 fbpapers)]) rfl (Nat.le_of_ble_eq_true rfl) rfl rfl rfl gX2_grasp_0.2.2.1 (fun H locs hP hD hS => ?_)
  refine lv_iload_n hx hb gX2_grasp_0.2.2.2.1 rfl (lv_at1 hl) ?_
  refine lv_if_ne (tgt := 53) hx hb gX2_grasp_0.2.2.2.2.1 (by decide) (fun c9 => absurd (by decide) c9) (fun _ => ?_)
  refine lv_aload_n hx hb gX2_grasp_0.2.2.2.2.2.1 rfl (lv_at0 hl) ?_
  refine lv_aload_n hx hb gX2_grasp_0.2.2.2.2.2.2.1 rfl (lv_at0 hl) ?_
  refine lv_iload_n hx hb gX2_grasp_0.2.2.2.2.2.2.2.1 rfl (lv_at2 hl) ?_
  refine pV hC hK hl hP hD (d_kindX l G h0 jn bb tr9 jr dk (nI jn) dp da dq bpersons bpapers bstamps bversions blines bsteps bsayings bfindings bwarnings bquestions td vd vl gp bpapersc kbpapers fbpapers (hkbpapers) (hjn)) si_X2_39 [0, 1, 2, 3] sm_0_1_2_3 fm_0_1_2_3 nd_0_1_2_3 rfl rfl rfl rfl rfl (Nat.le_of_ble_eq_true rfl) rm_5_3_3 ⟨by first | exact Nat.le_of_ble_eq_true rfl | exact Nat.zero_le _, by first | exact Nat.le_of_ble_eq_true rfl | exact Nat.zero_le _⟩ gX2_grasp_0.2.2.2.2.2.2.2.2.1 (Keqr ?_)
  refine pf_X2_23 hC rfl hK hP hD hS 0 (ws' := [(h0, oX2 bb tr9 (nI jr) (nI (PKn (fbpapers (jn * 6 + 1)) (fbpapers (jn * 6 + 0)) (fbpapers (jn * 6 + 3)))) (nI jn) dp da dq), (bb, oX0 bpersons bpapers bstamps bversions blines bsteps bsayings bfindings bwarnings bquestions td vd vl gp), (bpapers, oX8 12 6 bpapersc (nI kbpapers)), (bpapersc, iA G 72 fbpapers)]) rfl (Nat.le_of_ble_eq_true rfl) rfl rfl rfl gX2_grasp_0.2.2.2.2.2.2.2.2.2 (fun H locs hP hD hS => ?_)
  refine lv_aload_n hx hb gX2_grasp_1.1 rfl (lv_at0 hl) ?_
  refine lv_aload_n hx hb gX2_grasp_1.2.1 rfl (lv_at0 hl) ?_
  refine gf_X2_15 hC rfl hK hP 0 rfl rfl gX2_grasp_1.2.2.1 ?_
  refine gf_X2_43 hC rfl hK hP 1 rfl rfl gX2_grasp_1.2.2.2.1 ?_
  refine lv_iload_n hx hb gX2_grasp_1.2.2.2.2.1 rfl (lv_at2 hl) ?_
  refine lv_iconst (v := 0) hx hb gX2_grasp_1.2.2.2.2.2.1 (by decide) ?_
  refine pV hC hK hl hP hD (c_T_at l G bpapers (nI jn) 0 12 6 bpapersc kbpapers fbpapers (hkbpapers) (by omega) (by omega)) si_X2_49 [2, 3] sm_2_3 fm_2_3 nd_2_3 rfl rfl rfl rfl rfl (Nat.le_of_ble_eq_true rfl) rm_5_1_3 ⟨by first | exact Nat.le_of_ble_eq_true rfl | exact Nat.zero_le _, by first | exact Nat.le_of_ble_eq_true rfl | exact Nat.zero_le _⟩ gX2_grasp_1.2.2.2.2.2.2.1 (fun r4885 hr4885 => ?_)
  refine eqi (x1 := fbpapers (jn * 6 + 0)) (hr4885.trans (tatr (by omega) (by omega) (by decide) (by decide) rfl)) ?_
  refine pf_X2_29 hC rfl hK hP hD hS 0 (ws' := [(h0, oX2 bb tr9 (nI jr) (nI (PKn (fbpapers (jn * 6 + 1)) (fbpapers (jn * 6 + 0)) (fbpapers (jn * 6 + 3)))) (nI jn) (fbpapers (jn * 6 + 0)) da dq), (bb, oX0 bpersons bpapers bstamps bversions blines bsteps bsayings bfindings bwarnings bquestions td vd vl gp), (bpapers, oX8 12 6 bpapersc (nI kbpapers)), (bpapersc, iA G 72 fbpapers)]) rfl (Nat.le_of_ble_eq_true rfl) rfl rfl rfl gX2_grasp_1.2.2.2.2.2.2.2.1 (fun H locs hP hD hS => ?_)
  refine lv_aload_n hx hb gX2_grasp_1.2.2.2.2.2.2.2.2.1 rfl (lv_at0 hl) ?_
  refine lv_aload_n hx hb gX2_grasp_1.2.2.2.2.2.2.2.2.2 rfl (lv_at0 hl) ?_
  refine gf_X2_15 hC rfl hK hP 0 rfl rfl gX2_grasp_2.1 ?_
  refine gf_X2_43 hC rfl hK hP 1 rfl rfl gX2_grasp_2.2.1 ?_
  refine lv_iload_n hx hb gX2_grasp_2.2.2.1 rfl (lv_at2 hl) ?_
  refine lv_iconst (v := 2) hx hb gX2_grasp_2.2.2.2.1 (by decide) ?_
  refine pV hC hK hl hP hD (c_T_at l G bpapers (nI jn) 2 12 6 bpapersc kbpapers fbpapers (hkbpapers) (by omega) (by omega)) si_X2_49 [2, 3] sm_2_3 fm_2_3 nd_2_3 rfl rfl rfl rfl rfl (Nat.le_of_ble_eq_true rfl) rm_5_1_3 ⟨by first | exact Nat.le_of_ble_eq_true rfl | exact Nat.zero_le _, by first | exact Nat.le_of_ble_eq_true rfl | exact Nat.zero_le _⟩ gX2_grasp_2.2.2.2.2.1 (fun r4887 hr4887 => ?_)
  refine eqi (x1 := fbpapers (jn * 6 + 2)) (hr4887.trans (tatr (by omega) (by omega) (by decide) (by decide) rfl)) ?_
  refine pf_X2_32 hC rfl hK hP hD hS 0 (ws' := [(h0, oX2 bb tr9 (nI jr) (nI (PKn (fbpapers (jn * 6 + 1)) (fbpapers (jn * 6 + 0)) (fbpapers (jn * 6 + 3)))) (nI jn) (fbpapers (jn * 6 + 0)) (fbpapers (jn * 6 + 2)) dq), (bb, oX0 bpersons bpapers bstamps bversions blines bsteps bsayings bfindings bwarnings bquestions td vd vl gp), (bpapers, oX8 12 6 bpapersc (nI kbpapers)), (bpapersc, iA G 72 fbpapers)]) rfl (Nat.le_of_ble_eq_true rfl) rfl rfl rfl gX2_grasp_2.2.2.2.2.2.1 (fun H locs hP hD hS => ?_)
  refine lv_goto (tgt := 156) hx hb gX2_grasp_2.2.2.2.2.2.2.1 (by decide) ?_
  refine toQ hQ0 ?_
  exact RV hC hP hD hS [0, 1, 2, 3] () rfl rfl (by decide) (trivial) gX2_grasp_7.2.2.2.2.2.2.2.2
def K_d_graspS (l : Launch) (G : GG) (h0 : Nat) (jn : Nat) (bb : Nat) (tr9 : Nat) (jr : Nat) (dk : Int32) (dn : Int32) (dp : Int32) (da : Int32) (dq : Int32) (bpersons : Nat) (bpapers : Nat) (bstamps : Nat) (bversions : Nat) (blines : Nat) (bsteps : Nat) (bsayings : Nat) (bfindings : Nat) (bwarnings : Nat) (bquestions : Nat) (td : Int32) (vd : Int32) (vl : Int32) (gp : Int32) (bsayingsc : Nat) (kbsayings : Nat) (fbsayings : Nat → Int32) : Prop := MV l G yX2_grasp cX2_grasp 3 5 0 0 [.ref h0, .int 1, .int (nI jn)] [(h0, oX2 bb tr9 (nI jr) dk dn dp da dq), (bb, oX0 bpersons bpapers bstamps bversions blines bsteps bsayings bfindings bwarnings bquestions td vd vl gp), (bsayings, oX8 16 8 bsayingsc (nI kbsayings)), (bsayingsc, iA G 128 fbsayings)] (fun u : Unit => True) (fun u : Unit => [(h0, oX2 bb tr9 (nI jr) (nI (SKn (fbsayings (jn * 8 + 6)))) (nI jn) (fbsayings (jn * 8 + 0)) (fbsayings (jn * 8 + 4)) dq), (bb, oX0 bpersons bpapers bstamps bversions blines bsteps bsayings bfindings bwarnings bquestions td vd vl gp), (bsayings, oX8 16 8 bsayingsc (nI kbsayings)), (bsayingsc, iA G 128 fbsayings)])
set_option maxHeartbeats 4000000 in
set_option maxRecDepth 100000 in
theorem d_graspS (l : Launch) (G : GG) (h0 : Nat) (jn : Nat) (bb : Nat) (tr9 : Nat) (jr : Nat) (dk : Int32) (dn : Int32) (dp : Int32) (da : Int32) (dq : Int32) (bpersons : Nat) (bpapers : Nat) (bstamps : Nat) (bversions : Nat) (blines : Nat) (bsteps : Nat) (bsayings : Nat) (bfindings : Nat) (bwarnings : Nat) (bquestions : Nat) (td : Int32) (vd : Int32) (vl : Int32) (gp : Int32) (bsayingsc : Nat) (kbsayings : Nat) (fbsayings : Nat → Int32) (hkbsayings : kbsayings ≤ 16) (hjn : jn < kbsayings) : K_d_graspS l G h0 jn bb tr9 jr dk dn dp da dq bpersons bpapers bstamps bversions blines bsteps bsayings bfindings bwarnings bquestions td vd vl gp bsayingsc kbsayings fbsayings := by
  refine MV.start (by decide +kernel) (Nat.le_of_ble_eq_true rfl) ?_
  intro p e s m below meth c A ls hC hK hP hD hS hA hl
  refine absQ (fun Q0 hQ0 => ?_)
  have hl : lv_has ls 3 [(0, .ref h0), (1, .int 1), (2, .int (nI jn))] := hl
  refine Kan8 hC (fun hx hb hr hml hB hown hlocks hnm => ?_)
  refine lv_aload_n hx hb gX2_grasp_0.1 rfl (lv_at0 hl) ?_
  refine lv_iload_n hx hb gX2_grasp_0.2.1 rfl (lv_at2 hl) ?_
  refine pf_X2_26 hC rfl hK hP hD hS 0 (ws' := [(h0, oX2 bb tr9 (nI jr) dk (nI jn) dp da dq), (bb, oX0 bpersons bpapers bstamps bversions blines bsteps bsayings bfindings bwarnings bquestions td vd vl gp), (bsayings, oX8 16 8 bsayingsc (nI kbsayings)), (bsayingsc, iA G 128 fbsayings)]) rfl (Nat.le_of_ble_eq_true rfl) rfl rfl rfl gX2_grasp_0.2.2.1 (fun H locs hP hD hS => ?_)
  refine lv_iload_n hx hb gX2_grasp_0.2.2.2.1 rfl (lv_at1 hl) ?_
  refine lv_if_ne (tgt := 53) hx hb gX2_grasp_0.2.2.2.2.1 (by decide) (fun _ => ?_) (fun c9 => absurd c9 (by decide))
  refine lv_iload_n hx hb gX2_grasp_2.2.2.2.2.2.2.2.1 rfl (lv_at1 hl) ?_
  refine lv_iconst (v := 1) hx hb gX2_grasp_2.2.2.2.2.2.2.2.2.1 (by decide) ?_
  refine lv_icmp_ne (tgt := 118) hx hb gX2_grasp_2.2.2.2.2.2.2.2.2.2 (by decide) (fun c9 => absurd (by decide) c9) (fun _ => ?_)
  refine lv_aload_n hx hb gX2_grasp_3.1 rfl (lv_at0 hl) ?_
  refine lv_aload_n hx hb gX2_grasp_3.2.1 rfl (lv_at0 hl) ?_
  refine gf_X2_15 hC rfl hK hP 0 rfl rfl gX2_grasp_3.2.2.1 ?_
  refine gf_X2_55 hC rfl hK hP 1 rfl rfl gX2_grasp_3.2.2.2.1 ?_
  refine lv_iload_n hx hb gX2_grasp_3.2.2.2.2.1 rfl (lv_at2 hl) ?_
  refine lv_bipush (v := 6) hx hb gX2_grasp_3.2.2.2.2.2.1 (by decide) ?_
  refine pV hC hK hl hP hD (c_T_at l G bsayings (nI jn) 6 16 8 bsayingsc kbsayings fbsayings (hkbsayings) (by omega) (by omega)) si_X2_49 [2, 3] sm_2_3 fm_2_3 nd_2_3 rfl rfl rfl rfl rfl (Nat.le_of_ble_eq_true rfl) rm_5_1_3 ⟨by first | exact Nat.le_of_ble_eq_true rfl | exact Nat.zero_le _, by first | exact Nat.le_of_ble_eq_true rfl | exact Nat.zero_le _⟩ gX2_grasp_3.2.2.2.2.2.2.1 (fun r4889 hr4889 => ?_)
  have q4891 : r4889 = fbsayings (jn * 8 + 6) := hr4889.trans (tatr (by omega) (by omega) (by decide) (by decide) rfl)
  refine lv_if_ge (tgt := 79) hx hb gX2_grasp_3.2.2.2.2.2.2.2.1 (by decide) (fun c_72_4892 => ?_) (fun c_72_4892 => ?_)
  · refine lv_iconst (v := 4) hx hb gX2_grasp_4.1 (by decide) ?_
    refine eqi (x1 := nI (SKn (fbsayings (jn * 8 + 6)))) (by unfold SKn; rw [← q4891, ifn_f (q := r4889 < 0) (Int32.not_lt.mpr c_72_4892)]; first | done | rfl) ?_
    refine pf_X2_23 hC rfl hK hP hD hS 0 (ws' := [(h0, oX2 bb tr9 (nI jr) (nI (SKn (fbsayings (jn * 8 + 6)))) (nI jn) dp da dq), (bb, oX0 bpersons bpapers bstamps bversions blines bsteps bsayings bfindings bwarnings bquestions td vd vl gp), (bsayings, oX8 16 8 bsayingsc (nI kbsayings)), (bsayingsc, iA G 128 fbsayings)]) rfl (Nat.le_of_ble_eq_true rfl) rfl rfl rfl gX2_grasp_4.2.1 (fun H locs hP hD hS => ?_)
    refine lv_aload_n hx hb gX2_grasp_4.2.2.1 rfl (lv_at0 hl) ?_
    refine lv_aload_n hx hb gX2_grasp_4.2.2.2.1 rfl (lv_at0 hl) ?_
    refine gf_X2_15 hC rfl hK hP 0 rfl rfl gX2_grasp_4.2.2.2.2.1 ?_
    refine gf_X2_55 hC rfl hK hP 1 rfl rfl gX2_grasp_4.2.2.2.2.2.1 ?_
    refine lv_iload_n hx hb gX2_grasp_4.2.2.2.2.2.2.1 rfl (lv_at2 hl) ?_
    refine lv_iconst (v := 0) hx hb gX2_grasp_4.2.2.2.2.2.2.2.1 (by decide) ?_
    refine pV hC hK hl hP hD (c_T_at l G bsayings (nI jn) 0 16 8 bsayingsc kbsayings fbsayings (hkbsayings) (by omega) (by omega)) si_X2_49 [2, 3] sm_2_3 fm_2_3 nd_2_3 rfl rfl rfl rfl rfl (Nat.le_of_ble_eq_true rfl) rm_5_1_3 ⟨by first | exact Nat.le_of_ble_eq_true rfl | exact Nat.zero_le _, by first | exact Nat.le_of_ble_eq_true rfl | exact Nat.zero_le _⟩ gX2_grasp_4.2.2.2.2.2.2.2.2.1 (fun r4893 hr4893 => ?_)
    refine eqi (x1 := fbsayings (jn * 8 + 0)) (hr4893.trans (tatr (by omega) (by omega) (by decide) (by decide) rfl)) ?_
    refine pf_X2_29 hC rfl hK hP hD hS 0 (ws' := [(h0, oX2 bb tr9 (nI jr) (nI (SKn (fbsayings (jn * 8 + 6)))) (nI jn) (fbsayings (jn * 8 + 0)) da dq), (bb, oX0 bpersons bpapers bstamps bversions blines bsteps bsayings bfindings bwarnings bquestions td vd vl gp), (bsayings, oX8 16 8 bsayingsc (nI kbsayings)), (bsayingsc, iA G 128 fbsayings)]) rfl (Nat.le_of_ble_eq_true rfl) rfl rfl rfl gX2_grasp_4.2.2.2.2.2.2.2.2.2 (fun H locs hP hD hS => ?_)
    refine lv_aload_n hx hb gX2_grasp_5.1 rfl (lv_at0 hl) ?_
    refine lv_aload_n hx hb gX2_grasp_5.2.1 rfl (lv_at0 hl) ?_
    refine gf_X2_15 hC rfl hK hP 0 rfl rfl gX2_grasp_5.2.2.1 ?_
    refine gf_X2_55 hC rfl hK hP 1 rfl rfl gX2_grasp_5.2.2.2.1 ?_
    refine lv_iload_n hx hb gX2_grasp_5.2.2.2.2.1 rfl (lv_at2 hl) ?_
    refine lv_iconst (v := 4) hx hb gX2_grasp_5.2.2.2.2.2.1 (by decide) ?_
    refine pV hC hK hl hP hD (c_T_at l G bsayings (nI jn) 4 16 8 bsayingsc kbsayings fbsayings (hkbsayings) (by omega) (by omega)) si_X2_49 [2, 3] sm_2_3 fm_2_3 nd_2_3 rfl rfl rfl rfl rfl (Nat.le_of_ble_eq_true rfl) rm_5_1_3 ⟨by first | exact Nat.le_of_ble_eq_true rfl | exact Nat.zero_le _, by first | exact Nat.le_of_ble_eq_true rfl | exact Nat.zero_le _⟩ gX2_grasp_5.2.2.2.2.2.2.1 (fun r4895 hr4895 => ?_)
    refine eqi (x1 := fbsayings (jn * 8 + 4)) (hr4895.trans (tatr (by omega) (by omega) (by decide) (by decide) rfl)) ?_
    refine pf_X2_32 hC rfl hK hP hD hS 0 (ws' := [(h0, oX2 bb tr9 (nI jr) (nI (SKn (fbsayings (jn * 8 + 6)))) (nI jn) (fbsayings (jn * 8 + 0)) (fbsayings (jn * 8 + 4)) dq), (bb, oX0 bpersons bpapers bstamps bversions blines bsteps bsayings bfindings bwarnings bquestions td vd vl gp), (bsayings, oX8 16 8 bsayingsc (nI kbsayings)), (bsayingsc, iA G 128 fbsayings)]) rfl (Nat.le_of_ble_eq_true rfl) rfl rfl rfl gX2_grasp_5.2.2.2.2.2.2.2.1 (fun H locs hP hD hS => ?_)
    refine lv_goto (tgt := 156) hx hb gX2_grasp_5.2.2.2.2.2.2.2.2.1 (by decide) ?_
    refine toQ hQ0 ?_
    exact RV hC hP hD hS [0, 1, 2, 3] () rfl rfl (by decide) (trivial) gX2_grasp_7.2.2.2.2.2.2.2.2
  · refine lv_iconst (v := 5) hx hb gX2_grasp_3.2.2.2.2.2.2.2.2.1 (by decide) ?_
    refine lv_goto (tgt := 80) hx hb gX2_grasp_3.2.2.2.2.2.2.2.2.2 (by decide) ?_
    refine eqi (x1 := nI (SKn (fbsayings (jn * 8 + 6)))) (by unfold SKn; rw [← q4891, ifn_t (q := r4889 < 0) (Int32.not_le.mp c_72_4892)]; first | done | rfl) ?_
    refine pf_X2_23 hC rfl hK hP hD hS 0 (ws' := [(h0, oX2 bb tr9 (nI jr) (nI (SKn (fbsayings (jn * 8 + 6)))) (nI jn) dp da dq), (bb, oX0 bpersons bpapers bstamps bversions blines bsteps bsayings bfindings bwarnings bquestions td vd vl gp), (bsayings, oX8 16 8 bsayingsc (nI kbsayings)), (bsayingsc, iA G 128 fbsayings)]) rfl (Nat.le_of_ble_eq_true rfl) rfl rfl rfl gX2_grasp_4.2.1 (fun H locs hP hD hS => ?_)
    refine lv_aload_n hx hb gX2_grasp_4.2.2.1 rfl (lv_at0 hl) ?_
    refine lv_aload_n hx hb gX2_grasp_4.2.2.2.1 rfl (lv_at0 hl) ?_
    refine gf_X2_15 hC rfl hK hP 0 rfl rfl gX2_grasp_4.2.2.2.2.1 ?_
    refine gf_X2_55 hC rfl hK hP 1 rfl rfl gX2_grasp_4.2.2.2.2.2.1 ?_
    refine lv_iload_n hx hb gX2_grasp_4.2.2.2.2.2.2.1 rfl (lv_at2 hl) ?_
    refine lv_iconst (v := 0) hx hb gX2_grasp_4.2.2.2.2.2.2.2.1 (by decide) ?_
    refine pV hC hK hl hP hD (c_T_at l G bsayings (nI jn) 0 16 8 bsayingsc kbsayings fbsayings (hkbsayings) (by omega) (by omega)) si_X2_49 [2, 3] sm_2_3 fm_2_3 nd_2_3 rfl rfl rfl rfl rfl (Nat.le_of_ble_eq_true rfl) rm_5_1_3 ⟨by first | exact Nat.le_of_ble_eq_true rfl | exact Nat.zero_le _, by first | exact Nat.le_of_ble_eq_true rfl | exact Nat.zero_le _⟩ gX2_grasp_4.2.2.2.2.2.2.2.2.1 (fun r4897 hr4897 => ?_)
    refine eqi (x1 := fbsayings (jn * 8 + 0)) (hr4897.trans (tatr (by omega) (by omega) (by decide) (by decide) rfl)) ?_
    refine pf_X2_29 hC rfl hK hP hD hS 0 (ws' := [(h0, oX2 bb tr9 (nI jr) (nI (SKn (fbsayings (jn * 8 + 6)))) (nI jn) (fbsayings (jn * 8 + 0)) da dq), (bb, oX0 bpersons bpapers bstamps bversions blines bsteps bsayings bfindings bwarnings bquestions td vd vl gp), (bsayings, oX8 16 8 bsayingsc (nI kbsayings)), (bsayingsc, iA G 128 fbsayings)]) rfl (Nat.le_of_ble_eq_true rfl) rfl rfl rfl gX2_grasp_4.2.2.2.2.2.2.2.2.2 (fun H locs hP hD hS => ?_)
    refine lv_aload_n hx hb gX2_grasp_5.1 rfl (lv_at0 hl) ?_
    refine lv_aload_n hx hb gX2_grasp_5.2.1 rfl (lv_at0 hl) ?_
    refine gf_X2_15 hC rfl hK hP 0 rfl rfl gX2_grasp_5.2.2.1 ?_
    refine gf_X2_55 hC rfl hK hP 1 rfl rfl gX2_grasp_5.2.2.2.1 ?_
    refine lv_iload_n hx hb gX2_grasp_5.2.2.2.2.1 rfl (lv_at2 hl) ?_
    refine lv_iconst (v := 4) hx hb gX2_grasp_5.2.2.2.2.2.1 (by decide) ?_
    refine pV hC hK hl hP hD (c_T_at l G bsayings (nI jn) 4 16 8 bsayingsc kbsayings fbsayings (hkbsayings) (by omega) (by omega)) si_X2_49 [2, 3] sm_2_3 fm_2_3 nd_2_3 rfl rfl rfl rfl rfl (Nat.le_of_ble_eq_true rfl) rm_5_1_3 ⟨by first | exact Nat.le_of_ble_eq_true rfl | exact Nat.zero_le _, by first | exact Nat.le_of_ble_eq_true rfl | exact Nat.zero_le _⟩ gX2_grasp_5.2.2.2.2.2.2.1 (fun r4899 hr4899 => ?_)
    refine eqi (x1 := fbsayings (jn * 8 + 4)) (hr4899.trans (tatr (by omega) (by omega) (by decide) (by decide) rfl)) ?_
    refine pf_X2_32 hC rfl hK hP hD hS 0 (ws' := [(h0, oX2 bb tr9 (nI jr) (nI (SKn (fbsayings (jn * 8 + 6)))) (nI jn) (fbsayings (jn * 8 + 0)) (fbsayings (jn * 8 + 4)) dq), (bb, oX0 bpersons bpapers bstamps bversions blines bsteps bsayings bfindings bwarnings bquestions td vd vl gp), (bsayings, oX8 16 8 bsayingsc (nI kbsayings)), (bsayingsc, iA G 128 fbsayings)]) rfl (Nat.le_of_ble_eq_true rfl) rfl rfl rfl gX2_grasp_5.2.2.2.2.2.2.2.1 (fun H locs hP hD hS => ?_)
    refine lv_goto (tgt := 156) hx hb gX2_grasp_5.2.2.2.2.2.2.2.2.1 (by decide) ?_
    refine toQ hQ0 ?_
    exact RV hC hP hD hS [0, 1, 2, 3] () rfl rfl (by decide) (trivial) gX2_grasp_7.2.2.2.2.2.2.2.2
def K_d_graspF (l : Launch) (G : GG) (h0 : Nat) (jn : Nat) (bb : Nat) (tr9 : Nat) (jr : Nat) (dk : Int32) (dn : Int32) (dp : Int32) (da : Int32) (dq : Int32) (bpersons : Nat) (bpapers : Nat) (bstamps : Nat) (bversions : Nat) (blines : Nat) (bsteps : Nat) (bsayings : Nat) (bfindings : Nat) (bwarnings : Nat) (bquestions : Nat) (td : Int32) (vd : Int32) (vl : Int32) (gp : Int32) (bfindingsc : Nat) (kbfindings : Nat) (fbfindings : Nat → Int32) : Prop := MV l G yX2_grasp cX2_grasp 3 5 0 0 [.ref h0, .int 2, .int (nI jn)] [(h0, oX2 bb tr9 (nI jr) dk dn dp da dq), (bb, oX0 bpersons bpapers bstamps bversions blines bsteps bsayings bfindings bwarnings bquestions td vd vl gp), (bfindings, oX8 12 4 bfindingsc (nI kbfindings)), (bfindingsc, iA G 48 fbfindings)] (fun u : Unit => True) (fun u : Unit => [(h0, oX2 bb tr9 (nI jr) 6 (nI jn) (fbfindings (jn * 4 + 0)) (fbfindings (jn * 4 + 2)) dq), (bb, oX0 bpersons bpapers bstamps bversions blines bsteps bsayings bfindings bwarnings bquestions td vd vl gp), (bfindings, oX8 12 4 bfindingsc (nI kbfindings)), (bfindingsc, iA G 48 fbfindings)])
set_option maxHeartbeats 4000000 in
set_option maxRecDepth 100000 in
theorem d_graspF (l : Launch) (G : GG) (h0 : Nat) (jn : Nat) (bb : Nat) (tr9 : Nat) (jr : Nat) (dk : Int32) (dn : Int32) (dp : Int32) (da : Int32) (dq : Int32) (bpersons : Nat) (bpapers : Nat) (bstamps : Nat) (bversions : Nat) (blines : Nat) (bsteps : Nat) (bsayings : Nat) (bfindings : Nat) (bwarnings : Nat) (bquestions : Nat) (td : Int32) (vd : Int32) (vl : Int32) (gp : Int32) (bfindingsc : Nat) (kbfindings : Nat) (fbfindings : Nat → Int32) (hkbfindings : kbfindings ≤ 12) (hjn : jn < kbfindings) : K_d_graspF l G h0 jn bb tr9 jr dk dn dp da dq bpersons bpapers bstamps bversions blines bsteps bsayings bfindings bwarnings bquestions td vd vl gp bfindingsc kbfindings fbfindings := by
  refine MV.start (by decide +kernel) (Nat.le_of_ble_eq_true rfl) ?_
  intro p e s m below meth c A ls hC hK hP hD hS hA hl
  refine absQ (fun Q0 hQ0 => ?_)
  have hl : lv_has ls 3 [(0, .ref h0), (1, .int 2), (2, .int (nI jn))] := hl
  refine Kan8 hC (fun hx hb hr hml hB hown hlocks hnm => ?_)
  refine lv_aload_n hx hb gX2_grasp_0.1 rfl (lv_at0 hl) ?_
  refine lv_iload_n hx hb gX2_grasp_0.2.1 rfl (lv_at2 hl) ?_
  refine pf_X2_26 hC rfl hK hP hD hS 0 (ws' := [(h0, oX2 bb tr9 (nI jr) dk (nI jn) dp da dq), (bb, oX0 bpersons bpapers bstamps bversions blines bsteps bsayings bfindings bwarnings bquestions td vd vl gp), (bfindings, oX8 12 4 bfindingsc (nI kbfindings)), (bfindingsc, iA G 48 fbfindings)]) rfl (Nat.le_of_ble_eq_true rfl) rfl rfl rfl gX2_grasp_0.2.2.1 (fun H locs hP hD hS => ?_)
  refine lv_iload_n hx hb gX2_grasp_0.2.2.2.1 rfl (lv_at1 hl) ?_
  refine lv_if_ne (tgt := 53) hx hb gX2_grasp_0.2.2.2.2.1 (by decide) (fun _ => ?_) (fun c9 => absurd c9 (by decide))
  refine lv_iload_n hx hb gX2_grasp_2.2.2.2.2.2.2.2.1 rfl (lv_at1 hl) ?_
  refine lv_iconst (v := 1) hx hb gX2_grasp_2.2.2.2.2.2.2.2.2.1 (by decide) ?_
  refine lv_icmp_ne (tgt := 118) hx hb gX2_grasp_2.2.2.2.2.2.2.2.2.2 (by decide) (fun _ => ?_) (fun c9 => absurd c9 (by decide))
  refine lv_aload_n hx hb gX2_grasp_5.2.2.2.2.2.2.2.2.2 rfl (lv_at0 hl) ?_
  refine lv_bipush (v := 6) hx hb gX2_grasp_6.1 (by decide) ?_
  refine pf_X2_23 hC rfl hK hP hD hS 0 (ws' := [(h0, oX2 bb tr9 (nI jr) 6 (nI jn) dp da dq), (bb, oX0 bpersons bpapers bstamps bversions blines bsteps bsayings bfindings bwarnings bquestions td vd vl gp), (bfindings, oX8 12 4 bfindingsc (nI kbfindings)), (bfindingsc, iA G 48 fbfindings)]) rfl (Nat.le_of_ble_eq_true rfl) rfl rfl rfl gX2_grasp_6.2.1 (fun H locs hP hD hS => ?_)
  refine lv_aload_n hx hb gX2_grasp_6.2.2.1 rfl (lv_at0 hl) ?_
  refine lv_aload_n hx hb gX2_grasp_6.2.2.2.1 rfl (lv_at0 hl) ?_
  refine gf_X2_15 hC rfl hK hP 0 rfl rfl gX2_grasp_6.2.2.2.2.1 ?_
  refine gf_X2_58 hC rfl hK hP 1 rfl rfl gX2_grasp_6.2.2.2.2.2.1 ?_
  refine lv_iload_n hx hb gX2_grasp_6.2.2.2.2.2.2.1 rfl (lv_at2 hl) ?_
  refine lv_iconst (v := 0) hx hb gX2_grasp_6.2.2.2.2.2.2.2.1 (by decide) ?_
  refine pV hC hK hl hP hD (c_T_at l G bfindings (nI jn) 0 12 4 bfindingsc kbfindings fbfindings (hkbfindings) (by omega) (by omega)) si_X2_49 [2, 3] sm_2_3 fm_2_3 nd_2_3 rfl rfl rfl rfl rfl (Nat.le_of_ble_eq_true rfl) rm_5_1_3 ⟨by first | exact Nat.le_of_ble_eq_true rfl | exact Nat.zero_le _, by first | exact Nat.le_of_ble_eq_true rfl | exact Nat.zero_le _⟩ gX2_grasp_6.2.2.2.2.2.2.2.2.1 (fun r4901 hr4901 => ?_)
  refine eqi (x1 := fbfindings (jn * 4 + 0)) (hr4901.trans (tatr (by omega) (by omega) (by decide) (by decide) rfl)) ?_
  refine pf_X2_29 hC rfl hK hP hD hS 0 (ws' := [(h0, oX2 bb tr9 (nI jr) 6 (nI jn) (fbfindings (jn * 4 + 0)) da dq), (bb, oX0 bpersons bpapers bstamps bversions blines bsteps bsayings bfindings bwarnings bquestions td vd vl gp), (bfindings, oX8 12 4 bfindingsc (nI kbfindings)), (bfindingsc, iA G 48 fbfindings)]) rfl (Nat.le_of_ble_eq_true rfl) rfl rfl rfl gX2_grasp_6.2.2.2.2.2.2.2.2.2 (fun H locs hP hD hS => ?_)
  refine lv_aload_n hx hb gX2_grasp_7.1 rfl (lv_at0 hl) ?_
  refine lv_aload_n hx hb gX2_grasp_7.2.1 rfl (lv_at0 hl) ?_
  refine gf_X2_15 hC rfl hK hP 0 rfl rfl gX2_grasp_7.2.2.1 ?_
  refine gf_X2_58 hC rfl hK hP 1 rfl rfl gX2_grasp_7.2.2.2.1 ?_
  refine lv_iload_n hx hb gX2_grasp_7.2.2.2.2.1 rfl (lv_at2 hl) ?_
  refine lv_iconst (v := 2) hx hb gX2_grasp_7.2.2.2.2.2.1 (by decide) ?_
  refine pV hC hK hl hP hD (c_T_at l G bfindings (nI jn) 2 12 4 bfindingsc kbfindings fbfindings (hkbfindings) (by omega) (by omega)) si_X2_49 [2, 3] sm_2_3 fm_2_3 nd_2_3 rfl rfl rfl rfl rfl (Nat.le_of_ble_eq_true rfl) rm_5_1_3 ⟨by first | exact Nat.le_of_ble_eq_true rfl | exact Nat.zero_le _, by first | exact Nat.le_of_ble_eq_true rfl | exact Nat.zero_le _⟩ gX2_grasp_7.2.2.2.2.2.2.1 (fun r4903 hr4903 => ?_)
  refine eqi (x1 := fbfindings (jn * 4 + 2)) (hr4903.trans (tatr (by omega) (by omega) (by decide) (by decide) rfl)) ?_
  refine pf_X2_32 hC rfl hK hP hD hS 0 (ws' := [(h0, oX2 bb tr9 (nI jr) 6 (nI jn) (fbfindings (jn * 4 + 0)) (fbfindings (jn * 4 + 2)) dq), (bb, oX0 bpersons bpapers bstamps bversions blines bsteps bsayings bfindings bwarnings bquestions td vd vl gp), (bfindings, oX8 12 4 bfindingsc (nI kbfindings)), (bfindingsc, iA G 48 fbfindings)]) rfl (Nat.le_of_ble_eq_true rfl) rfl rfl rfl gX2_grasp_7.2.2.2.2.2.2.2.1 (fun H locs hP hD hS => ?_)
  refine toQ hQ0 ?_
  exact RV hC hP hD hS [0, 1, 2, 3] () rfl rfl (by decide) (trivial) gX2_grasp_7.2.2.2.2.2.2.2.2
def K_d_isUnder0 (l : Launch) (G : GG) (K : OO) (h0 : Nat) (as9 : Int32) (bb : Nat) (tr9 : Nat) (jr : Nat) (dn : Int32) (dp : Int32) (da : Int32) (dq : Int32) : Prop := MPo l G K yX2_isUnder cX2_isUnder 4 (some .boolean) 3 [.ref h0, .int as9] [(h0, oX2 bb tr9 (nI jr) 0 dn dp da dq)] (fun r : Int32 => (r = 1 ∧ UNl 0 as9) ∨ (r = 0 ∧ ¬ UNl 0 as9))
set_option maxHeartbeats 4000000 in
set_option maxRecDepth 100000 in
theorem d_isUnder0 (l : Launch) (G : GG) (K : OO) (h0 : Nat) (as9 : Int32) (bb : Nat) (tr9 : Nat) (jr : Nat) (dn : Int32) (dp : Int32) (da : Int32) (dq : Int32) : K_d_isUnder0 l G K h0 as9 bb tr9 jr dn dp da dq := by
  refine MPo.start (by decide +kernel) (Nat.le_of_ble_eq_true rfl) ?_
  intro p e s m below meth c ls hC hK hP hD hl hO hS
  refine absQ (fun Q0 hQ0 => ?_)
  have hl : lv_has ls 4 [(0, .ref h0), (1, .int as9)] := hl
  refine Kan8 hC (fun hx hb hr hml hB hown hlocks hnm => ?_)
  refine lv_aload_n hx hb gX2_isUnder_0.1 rfl (lv_at0 hl) ?_
  refine gf_X2_23 hC rfl hK hP 0 rfl rfl gX2_isUnder_0.2.1 ?_
  refine lv_istore_n (lv' := [(2, .int 0), (0, .ref h0), (1, .int as9)]) hx hb gX2_isUnder_0.2.2.1 rfl hl (by decide) rfl (fun ls hl => ?_)
  refine lv_iconst (v := 0) hx hb gX2_isUnder_0.2.2.2.1 (by decide) ?_
  refine lv_istore_n (lv' := [(3, .int 0), (2, .int 0), (0, .ref h0), (1, .int as9)]) hx hb gX2_isUnder_0.2.2.2.2.1 rfl hl (by decide) rfl (fun ls hl => ?_)
  refine lv_iload_n hx hb gX2_isUnder_0.2.2.2.2.2.1 rfl (lv_at0 hl) ?_
  refine lv_bipush (v := 7) hx hb gX2_isUnder_0.2.2.2.2.2.2.1 (by decide) ?_
  refine lv_icmp_ge (tgt := 40) hx hb gX2_isUnder_0.2.2.2.2.2.2.2.1 (by decide) (fun c9 => absurd c9 (by decide)) (fun _ => ?_)
  refine lv_iload_n hx hb gX2_isUnder_0.2.2.2.2.2.2.2.2.1 rfl (lv_at1 hl) ?_
  refine lv_iload_n hx hb gX2_isUnder_0.2.2.2.2.2.2.2.2.2 rfl (lv_at3 hl) ?_
  refine lv_icmp_eq (tgt := 40) hx hb gX2_isUnder_1.1 (by decide) (fun c_15_4905 => ?_) (fun c_15_4905 => ?_)
  · refine lv_iload_n hx hb gX2_isUnder_2.2.2.1 rfl (lv_at1 hl) ?_
    refine lv_iload_n hx hb gX2_isUnder_2.2.2.2.1 rfl (lv_at3 hl) ?_
    refine lv_icmp_ne (tgt := 59) hx hb gX2_isUnder_2.2.2.2.2.1 (by decide) (fun c9 => absurd (c_15_4905) c9) (fun _ => ?_)
    refine lv_iload_n hx hb gX2_isUnder_2.2.2.2.2.2.1 rfl (lv_at1 hl) ?_
    refine lv_iconst (v := 0) hx hb gX2_isUnder_2.2.2.2.2.2.2.1 (by decide) ?_
    refine lv_bipush (v := 6) hx hb gX2_isUnder_2.2.2.2.2.2.2.2.1 (by decide) ?_
    refine pSN hC hK hl (c_within l G 0 0 6) si_X2_61 rfl rfl (Nat.le_of_ble_eq_true rfl) rm_3_1_3 ⟨by first | exact Nat.le_of_ble_eq_true rfl | exact Nat.zero_le _, by first | exact Nat.le_of_ble_eq_true rfl | exact Nat.zero_le _⟩ gX2_isUnder_2.2.2.2.2.2.2.2.2.1 (Kors (Keqa fun a4907 => ?_) (Keqa fun a4907 => ?_))
    · refine lv_if_eq (tgt := 59) hx hb gX2_isUnder_2.2.2.2.2.2.2.2.2.2 (by decide) (fun c9 => absurd c9 (by decide)) (fun _ => ?_)
      refine lv_iconst (v := 1) hx hb gX2_isUnder_3.1 (by decide) ?_
      refine lv_goto (tgt := 60) hx hb gX2_isUnder_3.2.1 (by decide) ?_
      refine toQ hQ0 ?_
      exact RP (v := 1) hC (Or.inl ⟨rfl, c_15_4905.symm⟩) (by decide +kernel) gX2_isUnder_3.2.2.2
    · exact absurd (by unfold Wi; decide) a4907
  · refine lv_iload_n hx hb gX2_isUnder_1.2.1 rfl (lv_at1 hl) ?_
    refine lv_iconst (v := 0) hx hb gX2_isUnder_1.2.2.1 (by decide) ?_
    refine lv_bipush (v := 6) hx hb gX2_isUnder_1.2.2.2.1 (by decide) ?_
    refine pSN hC hK hl (c_within l G 0 0 6) si_X2_61 rfl rfl (Nat.le_of_ble_eq_true rfl) rm_3_1_3 ⟨by first | exact Nat.le_of_ble_eq_true rfl | exact Nat.zero_le _, by first | exact Nat.le_of_ble_eq_true rfl | exact Nat.zero_le _⟩ gX2_isUnder_1.2.2.2.2.1 (Kors (Keqa fun a4909 => ?_) (Keqa fun a4909 => ?_))
    · refine lv_if_eq (tgt := 40) hx hb gX2_isUnder_1.2.2.2.2.2.1 (by decide) (fun c9 => absurd c9 (by decide)) (fun _ => ?_)
      refine va_gets hx hb hO.1.2.2.2.1 hS hown (hB _ m_957) (fun _ h => h) gX2_isUnder_1.2.2.2.2.2.2.1 ?_
      refine lv_iload_n hx hb gX2_isUnder_1.2.2.2.2.2.2.2.1 rfl (lv_at1 hl) ?_
      refine va_ti hx hb hO.1.2.2.2.2.1 hS (vin (by decide +kernel)) (v := .int (ABV.getD 0 0)) (congrArg (fun z9 => Value.int (ABV.getD z9 0)) (by decide +kernel)) gX2_isUnder_1.2.2.2.2.2.2.2.2.1 ?_
      refine eqi (x1 := (-1)) (by decide) ?_
      refine lv_istore_n (lv' := [(2, .int (-1)), (3, .int 0), (0, .ref h0), (1, .int as9)]) hx hb gX2_isUnder_1.2.2.2.2.2.2.2.2.2 rfl hl (by decide) rfl (fun ls hl => ?_)
      refine lv_iinc (v := 1) (lv' := [(3, .int 1), (2, .int (-1)), (0, .ref h0), (1, .int as9)]) hx hb gX2_isUnder_2.1 hl (k := 1) rfl (by decide) (by decide) rfl (fun ls hl => ?_)
      refine lv_goto (tgt := 7) hx hb gX2_isUnder_2.2.1 (by decide) ?_
      refine lv_iload_n hx hb gX2_isUnder_0.2.2.2.2.2.1 rfl (lv_at0 hl) ?_
      refine lv_bipush (v := 7) hx hb gX2_isUnder_0.2.2.2.2.2.2.1 (by decide) ?_
      refine lv_icmp_ge (tgt := 40) hx hb gX2_isUnder_0.2.2.2.2.2.2.2.1 (by decide) (fun c9 => absurd c9 (by decide)) (fun _ => ?_)
      refine lv_iload_n hx hb gX2_isUnder_0.2.2.2.2.2.2.2.2.1 rfl (lv_at1 hl) ?_
      refine lv_iload_n hx hb gX2_isUnder_0.2.2.2.2.2.2.2.2.2 rfl (lv_at3 hl) ?_
      refine lv_icmp_eq (tgt := 40) hx hb gX2_isUnder_1.1 (by decide) (fun c_15_4910 => ?_) (fun c_15_4910 => ?_)
      · refine lv_iload_n hx hb gX2_isUnder_2.2.2.1 rfl (lv_at1 hl) ?_
        refine lv_iload_n hx hb gX2_isUnder_2.2.2.2.1 rfl (lv_at3 hl) ?_
        refine lv_icmp_ne (tgt := 59) hx hb gX2_isUnder_2.2.2.2.2.1 (by decide) (fun c9 => absurd (c_15_4910) c9) (fun _ => ?_)
        refine lv_iload_n hx hb gX2_isUnder_2.2.2.2.2.2.1 rfl (lv_at1 hl) ?_
        refine lv_iconst (v := 0) hx hb gX2_isUnder_2.2.2.2.2.2.2.1 (by decide) ?_
        refine lv_bipush (v := 6) hx hb gX2_isUnder_2.2.2.2.2.2.2.2.1 (by decide) ?_
        refine pSN hC hK hl (c_within l G (-1) 0 6) si_X2_61 rfl rfl (Nat.le_of_ble_eq_true rfl) rm_3_1_3 ⟨by first | exact Nat.le_of_ble_eq_true rfl | exact Nat.zero_le _, by first | exact Nat.le_of_ble_eq_true rfl | exact Nat.zero_le _⟩ gX2_isUnder_2.2.2.2.2.2.2.2.2.1 (Kors (Keqa fun a4912 => ?_) (Keqa fun a4912 => ?_))
        · exact absurd a4912 (by unfold Wi; decide)
        · refine lv_if_eq (tgt := 59) hx hb gX2_isUnder_2.2.2.2.2.2.2.2.2.2 (by decide) (fun _ => ?_) (fun c9 => absurd (by decide) c9)
          refine lv_iconst (v := 0) hx hb gX2_isUnder_3.2.2.1 (by decide) ?_
          refine toQ hQ0 ?_
          exact RP (v := 0) hC (Or.inr ⟨rfl, fun h9 => (show False from by
            have h9 : as9 = 0 := h9
            have h8 := h9 <;> (first | exact c_15_4905 h8.symm))⟩) (by decide +kernel) gX2_isUnder_3.2.2.2
      · refine lv_iload_n hx hb gX2_isUnder_1.2.1 rfl (lv_at1 hl) ?_
        refine lv_iconst (v := 0) hx hb gX2_isUnder_1.2.2.1 (by decide) ?_
        refine lv_bipush (v := 6) hx hb gX2_isUnder_1.2.2.2.1 (by decide) ?_
        refine pSN hC hK hl (c_within l G (-1) 0 6) si_X2_61 rfl rfl (Nat.le_of_ble_eq_true rfl) rm_3_1_3 ⟨by first | exact Nat.le_of_ble_eq_true rfl | exact Nat.zero_le _, by first | exact Nat.le_of_ble_eq_true rfl | exact Nat.zero_le _⟩ gX2_isUnder_1.2.2.2.2.1 (Kors (Keqa fun a4914 => ?_) (Keqa fun a4914 => ?_))
        · exact absurd a4914 (by unfold Wi; decide)
        · refine lv_if_eq (tgt := 40) hx hb gX2_isUnder_1.2.2.2.2.2.1 (by decide) (fun _ => ?_) (fun c9 => absurd (by decide) c9)
          refine lv_iload_n hx hb gX2_isUnder_2.2.2.1 rfl (lv_at1 hl) ?_
          refine lv_iload_n hx hb gX2_isUnder_2.2.2.2.1 rfl (lv_at3 hl) ?_
          refine lv_icmp_ne (tgt := 59) hx hb gX2_isUnder_2.2.2.2.2.1 (by decide) (fun _ => ?_) (fun c9 => absurd c9 (c_15_4910))
          refine lv_iconst (v := 0) hx hb gX2_isUnder_3.2.2.1 (by decide) ?_
          refine toQ hQ0 ?_
          exact RP (v := 0) hC (Or.inr ⟨rfl, fun h9 => (show False from by
            have h9 : as9 = 0 := h9
            have h8 := h9 <;> (first | exact c_15_4905 h8.symm))⟩) (by decide +kernel) gX2_isUnder_3.2.2.2
    · exact absurd (by unfold Wi; decide) a4909
def K_d_isUnder1 (l : Launch) (G : GG) (K : OO) (h0 : Nat) (as9 : Int32) (bb : Nat) (tr9 : Nat) (jr : Nat) (dn : Int32) (dp : Int32) (da : Int32) (dq : Int32) : Prop := MPo l G K yX2_isUnder cX2_isUnder 4 (some .boolean) 3 [.ref h0, .int as9] [(h0, oX2 bb tr9 (nI jr) 1 dn dp da dq)] (fun r : Int32 => (r = 1 ∧ UNl 1 as9) ∨ (r = 0 ∧ ¬ UNl 1 as9))
set_option maxHeartbeats 4000000 in
set_option maxRecDepth 100000 in
theorem d_isUnder1 (l : Launch) (G : GG) (K : OO) (h0 : Nat) (as9 : Int32) (bb : Nat) (tr9 : Nat) (jr : Nat) (dn : Int32) (dp : Int32) (da : Int32) (dq : Int32) : K_d_isUnder1 l G K h0 as9 bb tr9 jr dn dp da dq := by
  refine MPo.start (by decide +kernel) (Nat.le_of_ble_eq_true rfl) ?_
  intro p e s m below meth c ls hC hK hP hD hl hO hS
  refine absQ (fun Q0 hQ0 => ?_)
  have hl : lv_has ls 4 [(0, .ref h0), (1, .int as9)] := hl
  refine Kan8 hC (fun hx hb hr hml hB hown hlocks hnm => ?_)
  refine lv_aload_n hx hb gX2_isUnder_0.1 rfl (lv_at0 hl) ?_
  refine gf_X2_23 hC rfl hK hP 0 rfl rfl gX2_isUnder_0.2.1 ?_
  refine lv_istore_n (lv' := [(2, .int 1), (0, .ref h0), (1, .int as9)]) hx hb gX2_isUnder_0.2.2.1 rfl hl (by decide) rfl (fun ls hl => ?_)
  refine lv_iconst (v := 0) hx hb gX2_isUnder_0.2.2.2.1 (by decide) ?_
  refine lv_istore_n (lv' := [(3, .int 0), (2, .int 1), (0, .ref h0), (1, .int as9)]) hx hb gX2_isUnder_0.2.2.2.2.1 rfl hl (by decide) rfl (fun ls hl => ?_)
  refine lv_iload_n hx hb gX2_isUnder_0.2.2.2.2.2.1 rfl (lv_at0 hl) ?_
  refine lv_bipush (v := 7) hx hb gX2_isUnder_0.2.2.2.2.2.2.1 (by decide) ?_
  refine lv_icmp_ge (tgt := 40) hx hb gX2_isUnder_0.2.2.2.2.2.2.2.1 (by decide) (fun c9 => absurd c9 (by decide)) (fun _ => ?_)
  refine lv_iload_n hx hb gX2_isUnder_0.2.2.2.2.2.2.2.2.1 rfl (lv_at1 hl) ?_
  refine lv_iload_n hx hb gX2_isUnder_0.2.2.2.2.2.2.2.2.2 rfl (lv_at3 hl) ?_
  refine lv_icmp_eq (tgt := 40) hx hb gX2_isUnder_1.1 (by decide) (fun c_15_4915 => ?_) (fun c_15_4915 => ?_)
  · refine lv_iload_n hx hb gX2_isUnder_2.2.2.1 rfl (lv_at1 hl) ?_
    refine lv_iload_n hx hb gX2_isUnder_2.2.2.2.1 rfl (lv_at3 hl) ?_
    refine lv_icmp_ne (tgt := 59) hx hb gX2_isUnder_2.2.2.2.2.1 (by decide) (fun c9 => absurd (c_15_4915) c9) (fun _ => ?_)
    refine lv_iload_n hx hb gX2_isUnder_2.2.2.2.2.2.1 rfl (lv_at1 hl) ?_
    refine lv_iconst (v := 0) hx hb gX2_isUnder_2.2.2.2.2.2.2.1 (by decide) ?_
    refine lv_bipush (v := 6) hx hb gX2_isUnder_2.2.2.2.2.2.2.2.1 (by decide) ?_
    refine pSN hC hK hl (c_within l G 1 0 6) si_X2_61 rfl rfl (Nat.le_of_ble_eq_true rfl) rm_3_1_3 ⟨by first | exact Nat.le_of_ble_eq_true rfl | exact Nat.zero_le _, by first | exact Nat.le_of_ble_eq_true rfl | exact Nat.zero_le _⟩ gX2_isUnder_2.2.2.2.2.2.2.2.2.1 (Kors (Keqa fun a4917 => ?_) (Keqa fun a4917 => ?_))
    · refine lv_if_eq (tgt := 59) hx hb gX2_isUnder_2.2.2.2.2.2.2.2.2.2 (by decide) (fun c9 => absurd c9 (by decide)) (fun _ => ?_)
      refine lv_iconst (v := 1) hx hb gX2_isUnder_3.1 (by decide) ?_
      refine lv_goto (tgt := 60) hx hb gX2_isUnder_3.2.1 (by decide) ?_
      refine toQ hQ0 ?_
      exact RP (v := 1) hC (Or.inl ⟨rfl, Or.inl (c_15_4915.symm)⟩) (by decide +kernel) gX2_isUnder_3.2.2.2
    · exact absurd (by unfold Wi; decide) a4917
  · refine lv_iload_n hx hb gX2_isUnder_1.2.1 rfl (lv_at1 hl) ?_
    refine lv_iconst (v := 0) hx hb gX2_isUnder_1.2.2.1 (by decide) ?_
    refine lv_bipush (v := 6) hx hb gX2_isUnder_1.2.2.2.1 (by decide) ?_
    refine pSN hC hK hl (c_within l G 1 0 6) si_X2_61 rfl rfl (Nat.le_of_ble_eq_true rfl) rm_3_1_3 ⟨by first | exact Nat.le_of_ble_eq_true rfl | exact Nat.zero_le _, by first | exact Nat.le_of_ble_eq_true rfl | exact Nat.zero_le _⟩ gX2_isUnder_1.2.2.2.2.1 (Kors (Keqa fun a4919 => ?_) (Keqa fun a4919 => ?_))
    · refine lv_if_eq (tgt := 40) hx hb gX2_isUnder_1.2.2.2.2.2.1 (by decide) (fun c9 => absurd c9 (by decide)) (fun _ => ?_)
      refine va_gets hx hb hO.1.2.2.2.1 hS hown (hB _ m_957) (fun _ h => h) gX2_isUnder_1.2.2.2.2.2.2.1 ?_
      refine lv_iload_n hx hb gX2_isUnder_1.2.2.2.2.2.2.2.1 rfl (lv_at1 hl) ?_
      refine va_ti hx hb hO.1.2.2.2.2.1 hS (vin (by decide +kernel)) (v := .int (ABV.getD 1 0)) (congrArg (fun z9 => Value.int (ABV.getD z9 0)) (by decide +kernel)) gX2_isUnder_1.2.2.2.2.2.2.2.2.1 ?_
      refine eqi (x1 := 0) (by decide) ?_
      refine lv_istore_n (lv' := [(2, .int 0), (3, .int 0), (0, .ref h0), (1, .int as9)]) hx hb gX2_isUnder_1.2.2.2.2.2.2.2.2.2 rfl hl (by decide) rfl (fun ls hl => ?_)
      refine lv_iinc (v := 1) (lv' := [(3, .int 1), (2, .int 0), (0, .ref h0), (1, .int as9)]) hx hb gX2_isUnder_2.1 hl (k := 1) rfl (by decide) (by decide) rfl (fun ls hl => ?_)
      refine lv_goto (tgt := 7) hx hb gX2_isUnder_2.2.1 (by decide) ?_
      refine lv_iload_n hx hb gX2_isUnder_0.2.2.2.2.2.1 rfl (lv_at0 hl) ?_
      refine lv_bipush (v := 7) hx hb gX2_isUnder_0.2.2.2.2.2.2.1 (by decide) ?_
      refine lv_icmp_ge (tgt := 40) hx hb gX2_isUnder_0.2.2.2.2.2.2.2.1 (by decide) (fun c9 => absurd c9 (by decide)) (fun _ => ?_)
      refine lv_iload_n hx hb gX2_isUnder_0.2.2.2.2.2.2.2.2.1 rfl (lv_at1 hl) ?_
      refine lv_iload_n hx hb gX2_isUnder_0.2.2.2.2.2.2.2.2.2 rfl (lv_at3 hl) ?_
      refine lv_icmp_eq (tgt := 40) hx hb gX2_isUnder_1.1 (by decide) (fun c_15_4920 => ?_) (fun c_15_4920 => ?_)
      · refine lv_iload_n hx hb gX2_isUnder_2.2.2.1 rfl (lv_at1 hl) ?_
        refine lv_iload_n hx hb gX2_isUnder_2.2.2.2.1 rfl (lv_at3 hl) ?_
        refine lv_icmp_ne (tgt := 59) hx hb gX2_isUnder_2.2.2.2.2.1 (by decide) (fun c9 => absurd (c_15_4920) c9) (fun _ => ?_)
        refine lv_iload_n hx hb gX2_isUnder_2.2.2.2.2.2.1 rfl (lv_at1 hl) ?_
        refine lv_iconst (v := 0) hx hb gX2_isUnder_2.2.2.2.2.2.2.1 (by decide) ?_
        refine lv_bipush (v := 6) hx hb gX2_isUnder_2.2.2.2.2.2.2.2.1 (by decide) ?_
        refine pSN hC hK hl (c_within l G 0 0 6) si_X2_61 rfl rfl (Nat.le_of_ble_eq_true rfl) rm_3_1_3 ⟨by first | exact Nat.le_of_ble_eq_true rfl | exact Nat.zero_le _, by first | exact Nat.le_of_ble_eq_true rfl | exact Nat.zero_le _⟩ gX2_isUnder_2.2.2.2.2.2.2.2.2.1 (Kors (Keqa fun a4922 => ?_) (Keqa fun a4922 => ?_))
        · refine lv_if_eq (tgt := 59) hx hb gX2_isUnder_2.2.2.2.2.2.2.2.2.2 (by decide) (fun c9 => absurd c9 (by decide)) (fun _ => ?_)
          refine lv_iconst (v := 1) hx hb gX2_isUnder_3.1 (by decide) ?_
          refine lv_goto (tgt := 60) hx hb gX2_isUnder_3.2.1 (by decide) ?_
          refine toQ hQ0 ?_
          exact RP (v := 1) hC (Or.inl ⟨rfl, Or.inr (c_15_4920.symm)⟩) (by decide +kernel) gX2_isUnder_3.2.2.2
        · exact absurd (by unfold Wi; decide) a4922
      · refine lv_iload_n hx hb gX2_isUnder_1.2.1 rfl (lv_at1 hl) ?_
        refine lv_iconst (v := 0) hx hb gX2_isUnder_1.2.2.1 (by decide) ?_
        refine lv_bipush (v := 6) hx hb gX2_isUnder_1.2.2.2.1 (by decide) ?_
        refine pSN hC hK hl (c_within l G 0 0 6) si_X2_61 rfl rfl (Nat.le_of_ble_eq_true rfl) rm_3_1_3 ⟨by first | exact Nat.le_of_ble_eq_true rfl | exact Nat.zero_le _, by first | exact Nat.le_of_ble_eq_true rfl | exact Nat.zero_le _⟩ gX2_isUnder_1.2.2.2.2.1 (Kors (Keqa fun a4924 => ?_) (Keqa fun a4924 => ?_))
        · refine lv_if_eq (tgt := 40) hx hb gX2_isUnder_1.2.2.2.2.2.1 (by decide) (fun c9 => absurd c9 (by decide)) (fun _ => ?_)
          refine va_gets hx hb hO.1.2.2.2.1 hS hown (hB _ m_957) (fun _ h => h) gX2_isUnder_1.2.2.2.2.2.2.1 ?_
          refine lv_iload_n hx hb gX2_isUnder_1.2.2.2.2.2.2.2.1 rfl (lv_at1 hl) ?_
          refine va_ti hx hb hO.1.2.2.2.2.1 hS (vin (by decide +kernel)) (v := .int (ABV.getD 0 0)) (congrArg (fun z9 => Value.int (ABV.getD z9 0)) (by decide +kernel)) gX2_isUnder_1.2.2.2.2.2.2.2.2.1 ?_
          refine eqi (x1 := (-1)) (by decide) ?_
          refine lv_istore_n (lv' := [(2, .int (-1)), (3, .int 1), (0, .ref h0), (1, .int as9)]) hx hb gX2_isUnder_1.2.2.2.2.2.2.2.2.2 rfl hl (by decide) rfl (fun ls hl => ?_)
          refine lv_iinc (v := 2) (lv' := [(3, .int 2), (2, .int (-1)), (0, .ref h0), (1, .int as9)]) hx hb gX2_isUnder_2.1 hl (k := 1) rfl (by decide) (by decide) rfl (fun ls hl => ?_)
          refine lv_goto (tgt := 7) hx hb gX2_isUnder_2.2.1 (by decide) ?_
          refine lv_iload_n hx hb gX2_isUnder_0.2.2.2.2.2.1 rfl (lv_at0 hl) ?_
          refine lv_bipush (v := 7) hx hb gX2_isUnder_0.2.2.2.2.2.2.1 (by decide) ?_
          refine lv_icmp_ge (tgt := 40) hx hb gX2_isUnder_0.2.2.2.2.2.2.2.1 (by decide) (fun c9 => absurd c9 (by decide)) (fun _ => ?_)
          refine lv_iload_n hx hb gX2_isUnder_0.2.2.2.2.2.2.2.2.1 rfl (lv_at1 hl) ?_
          refine lv_iload_n hx hb gX2_isUnder_0.2.2.2.2.2.2.2.2.2 rfl (lv_at3 hl) ?_
          refine lv_icmp_eq (tgt := 40) hx hb gX2_isUnder_1.1 (by decide) (fun c_15_4925 => ?_) (fun c_15_4925 => ?_)
          · refine lv_iload_n hx hb gX2_isUnder_2.2.2.1 rfl (lv_at1 hl) ?_
            refine lv_iload_n hx hb gX2_isUnder_2.2.2.2.1 rfl (lv_at3 hl) ?_
            refine lv_icmp_ne (tgt := 59) hx hb gX2_isUnder_2.2.2.2.2.1 (by decide) (fun c9 => absurd (c_15_4925) c9) (fun _ => ?_)
            refine lv_iload_n hx hb gX2_isUnder_2.2.2.2.2.2.1 rfl (lv_at1 hl) ?_
            refine lv_iconst (v := 0) hx hb gX2_isUnder_2.2.2.2.2.2.2.1 (by decide) ?_
            refine lv_bipush (v := 6) hx hb gX2_isUnder_2.2.2.2.2.2.2.2.1 (by decide) ?_
            refine pSN hC hK hl (c_within l G (-1) 0 6) si_X2_61 rfl rfl (Nat.le_of_ble_eq_true rfl) rm_3_1_3 ⟨by first | exact Nat.le_of_ble_eq_true rfl | exact Nat.zero_le _, by first | exact Nat.le_of_ble_eq_true rfl | exact Nat.zero_le _⟩ gX2_isUnder_2.2.2.2.2.2.2.2.2.1 (Kors (Keqa fun a4927 => ?_) (Keqa fun a4927 => ?_))
            · exact absurd a4927 (by unfold Wi; decide)
            · refine lv_if_eq (tgt := 59) hx hb gX2_isUnder_2.2.2.2.2.2.2.2.2.2 (by decide) (fun _ => ?_) (fun c9 => absurd (by decide) c9)
              refine lv_iconst (v := 0) hx hb gX2_isUnder_3.2.2.1 (by decide) ?_
              refine toQ hQ0 ?_
              exact RP (v := 0) hC (Or.inr ⟨rfl, fun h9 => (show False from by
                have h9 : as9 = 1 ∨ as9 = 0 := h9
                rcases h9 with h8 | h8 <;> (first | exact c_15_4915 h8.symm | exact c_15_4920 h8.symm))⟩) (by decide +kernel) gX2_isUnder_3.2.2.2
          · refine lv_iload_n hx hb gX2_isUnder_1.2.1 rfl (lv_at1 hl) ?_
            refine lv_iconst (v := 0) hx hb gX2_isUnder_1.2.2.1 (by decide) ?_
            refine lv_bipush (v := 6) hx hb gX2_isUnder_1.2.2.2.1 (by decide) ?_
            refine pSN hC hK hl (c_within l G (-1) 0 6) si_X2_61 rfl rfl (Nat.le_of_ble_eq_true rfl) rm_3_1_3 ⟨by first | exact Nat.le_of_ble_eq_true rfl | exact Nat.zero_le _, by first | exact Nat.le_of_ble_eq_true rfl | exact Nat.zero_le _⟩ gX2_isUnder_1.2.2.2.2.1 (Kors (Keqa fun a4929 => ?_) (Keqa fun a4929 => ?_))
            · exact absurd a4929 (by unfold Wi; decide)
            · refine lv_if_eq (tgt := 40) hx hb gX2_isUnder_1.2.2.2.2.2.1 (by decide) (fun _ => ?_) (fun c9 => absurd (by decide) c9)
              refine lv_iload_n hx hb gX2_isUnder_2.2.2.1 rfl (lv_at1 hl) ?_
              refine lv_iload_n hx hb gX2_isUnder_2.2.2.2.1 rfl (lv_at3 hl) ?_
              refine lv_icmp_ne (tgt := 59) hx hb gX2_isUnder_2.2.2.2.2.1 (by decide) (fun _ => ?_) (fun c9 => absurd c9 (c_15_4925))
              refine lv_iconst (v := 0) hx hb gX2_isUnder_3.2.2.1 (by decide) ?_
              refine toQ hQ0 ?_
              exact RP (v := 0) hC (Or.inr ⟨rfl, fun h9 => (show False from by
                have h9 : as9 = 1 ∨ as9 = 0 := h9
                rcases h9 with h8 | h8 <;> (first | exact c_15_4915 h8.symm | exact c_15_4920 h8.symm))⟩) (by decide +kernel) gX2_isUnder_3.2.2.2
        · exact absurd (by unfold Wi; decide) a4924
    · exact absurd (by unfold Wi; decide) a4919
def K_d_isUnder2 (l : Launch) (G : GG) (K : OO) (h0 : Nat) (as9 : Int32) (bb : Nat) (tr9 : Nat) (jr : Nat) (dn : Int32) (dp : Int32) (da : Int32) (dq : Int32) : Prop := MPo l G K yX2_isUnder cX2_isUnder 4 (some .boolean) 3 [.ref h0, .int as9] [(h0, oX2 bb tr9 (nI jr) 2 dn dp da dq)] (fun r : Int32 => (r = 1 ∧ UNl 2 as9) ∨ (r = 0 ∧ ¬ UNl 2 as9))
set_option maxHeartbeats 4000000 in
set_option maxRecDepth 100000 in
theorem d_isUnder2 (l : Launch) (G : GG) (K : OO) (h0 : Nat) (as9 : Int32) (bb : Nat) (tr9 : Nat) (jr : Nat) (dn : Int32) (dp : Int32) (da : Int32) (dq : Int32) : K_d_isUnder2 l G K h0 as9 bb tr9 jr dn dp da dq := by
  refine MPo.start (by decide +kernel) (Nat.le_of_ble_eq_true rfl) ?_
  intro p e s m below meth c ls hC hK hP hD hl hO hS
  refine absQ (fun Q0 hQ0 => ?_)
  have hl : lv_has ls 4 [(0, .ref h0), (1, .int as9)] := hl
  refine Kan8 hC (fun hx hb hr hml hB hown hlocks hnm => ?_)
  refine lv_aload_n hx hb gX2_isUnder_0.1 rfl (lv_at0 hl) ?_
  refine gf_X2_23 hC rfl hK hP 0 rfl rfl gX2_isUnder_0.2.1 ?_
  refine lv_istore_n (lv' := [(2, .int 2), (0, .ref h0), (1, .int as9)]) hx hb gX2_isUnder_0.2.2.1 rfl hl (by decide) rfl (fun ls hl => ?_)
  refine lv_iconst (v := 0) hx hb gX2_isUnder_0.2.2.2.1 (by decide) ?_
  refine lv_istore_n (lv' := [(3, .int 0), (2, .int 2), (0, .ref h0), (1, .int as9)]) hx hb gX2_isUnder_0.2.2.2.2.1 rfl hl (by decide) rfl (fun ls hl => ?_)
  refine lv_iload_n hx hb gX2_isUnder_0.2.2.2.2.2.1 rfl (lv_at0 hl) ?_
  refine lv_bipush (v := 7) hx hb gX2_isUnder_0.2.2.2.2.2.2.1 (by decide) ?_
  refine lv_icmp_ge (tgt := 40) hx hb gX2_isUnder_0.2.2.2.2.2.2.2.1 (by decide) (fun c9 => absurd c9 (by decide)) (fun _ => ?_)
  refine lv_iload_n hx hb gX2_isUnder_0.2.2.2.2.2.2.2.2.1 rfl (lv_at1 hl) ?_
  refine lv_iload_n hx hb gX2_isUnder_0.2.2.2.2.2.2.2.2.2 rfl (lv_at3 hl) ?_
  refine lv_icmp_eq (tgt := 40) hx hb gX2_isUnder_1.1 (by decide) (fun c_15_4930 => ?_) (fun c_15_4930 => ?_)
  · refine lv_iload_n hx hb gX2_isUnder_2.2.2.1 rfl (lv_at1 hl) ?_
    refine lv_iload_n hx hb gX2_isUnder_2.2.2.2.1 rfl (lv_at3 hl) ?_
    refine lv_icmp_ne (tgt := 59) hx hb gX2_isUnder_2.2.2.2.2.1 (by decide) (fun c9 => absurd (c_15_4930) c9) (fun _ => ?_)
    refine lv_iload_n hx hb gX2_isUnder_2.2.2.2.2.2.1 rfl (lv_at1 hl) ?_
    refine lv_iconst (v := 0) hx hb gX2_isUnder_2.2.2.2.2.2.2.1 (by decide) ?_
    refine lv_bipush (v := 6) hx hb gX2_isUnder_2.2.2.2.2.2.2.2.1 (by decide) ?_
    refine pSN hC hK hl (c_within l G 2 0 6) si_X2_61 rfl rfl (Nat.le_of_ble_eq_true rfl) rm_3_1_3 ⟨by first | exact Nat.le_of_ble_eq_true rfl | exact Nat.zero_le _, by first | exact Nat.le_of_ble_eq_true rfl | exact Nat.zero_le _⟩ gX2_isUnder_2.2.2.2.2.2.2.2.2.1 (Kors (Keqa fun a4932 => ?_) (Keqa fun a4932 => ?_))
    · refine lv_if_eq (tgt := 59) hx hb gX2_isUnder_2.2.2.2.2.2.2.2.2.2 (by decide) (fun c9 => absurd c9 (by decide)) (fun _ => ?_)
      refine lv_iconst (v := 1) hx hb gX2_isUnder_3.1 (by decide) ?_
      refine lv_goto (tgt := 60) hx hb gX2_isUnder_3.2.1 (by decide) ?_
      refine toQ hQ0 ?_
      exact RP (v := 1) hC (Or.inl ⟨rfl, Or.inl (c_15_4930.symm)⟩) (by decide +kernel) gX2_isUnder_3.2.2.2
    · exact absurd (by unfold Wi; decide) a4932
  · refine lv_iload_n hx hb gX2_isUnder_1.2.1 rfl (lv_at1 hl) ?_
    refine lv_iconst (v := 0) hx hb gX2_isUnder_1.2.2.1 (by decide) ?_
    refine lv_bipush (v := 6) hx hb gX2_isUnder_1.2.2.2.1 (by decide) ?_
    refine pSN hC hK hl (c_within l G 2 0 6) si_X2_61 rfl rfl (Nat.le_of_ble_eq_true rfl) rm_3_1_3 ⟨by first | exact Nat.le_of_ble_eq_true rfl | exact Nat.zero_le _, by first | exact Nat.le_of_ble_eq_true rfl | exact Nat.zero_le _⟩ gX2_isUnder_1.2.2.2.2.1 (Kors (Keqa fun a4934 => ?_) (Keqa fun a4934 => ?_))
    · refine lv_if_eq (tgt := 40) hx hb gX2_isUnder_1.2.2.2.2.2.1 (by decide) (fun c9 => absurd c9 (by decide)) (fun _ => ?_)
      refine va_gets hx hb hO.1.2.2.2.1 hS hown (hB _ m_957) (fun _ h => h) gX2_isUnder_1.2.2.2.2.2.2.1 ?_
      refine lv_iload_n hx hb gX2_isUnder_1.2.2.2.2.2.2.2.1 rfl (lv_at1 hl) ?_
      refine va_ti hx hb hO.1.2.2.2.2.1 hS (vin (by decide +kernel)) (v := .int (ABV.getD 2 0)) (congrArg (fun z9 => Value.int (ABV.getD z9 0)) (by decide +kernel)) gX2_isUnder_1.2.2.2.2.2.2.2.2.1 ?_
      refine eqi (x1 := 0) (by decide) ?_
      refine lv_istore_n (lv' := [(2, .int 0), (3, .int 0), (0, .ref h0), (1, .int as9)]) hx hb gX2_isUnder_1.2.2.2.2.2.2.2.2.2 rfl hl (by decide) rfl (fun ls hl => ?_)
      refine lv_iinc (v := 1) (lv' := [(3, .int 1), (2, .int 0), (0, .ref h0), (1, .int as9)]) hx hb gX2_isUnder_2.1 hl (k := 1) rfl (by decide) (by decide) rfl (fun ls hl => ?_)
      refine lv_goto (tgt := 7) hx hb gX2_isUnder_2.2.1 (by decide) ?_
      refine lv_iload_n hx hb gX2_isUnder_0.2.2.2.2.2.1 rfl (lv_at0 hl) ?_
      refine lv_bipush (v := 7) hx hb gX2_isUnder_0.2.2.2.2.2.2.1 (by decide) ?_
      refine lv_icmp_ge (tgt := 40) hx hb gX2_isUnder_0.2.2.2.2.2.2.2.1 (by decide) (fun c9 => absurd c9 (by decide)) (fun _ => ?_)
      refine lv_iload_n hx hb gX2_isUnder_0.2.2.2.2.2.2.2.2.1 rfl (lv_at1 hl) ?_
      refine lv_iload_n hx hb gX2_isUnder_0.2.2.2.2.2.2.2.2.2 rfl (lv_at3 hl) ?_
      refine lv_icmp_eq (tgt := 40) hx hb gX2_isUnder_1.1 (by decide) (fun c_15_4935 => ?_) (fun c_15_4935 => ?_)
      · refine lv_iload_n hx hb gX2_isUnder_2.2.2.1 rfl (lv_at1 hl) ?_
        refine lv_iload_n hx hb gX2_isUnder_2.2.2.2.1 rfl (lv_at3 hl) ?_
        refine lv_icmp_ne (tgt := 59) hx hb gX2_isUnder_2.2.2.2.2.1 (by decide) (fun c9 => absurd (c_15_4935) c9) (fun _ => ?_)
        refine lv_iload_n hx hb gX2_isUnder_2.2.2.2.2.2.1 rfl (lv_at1 hl) ?_
        refine lv_iconst (v := 0) hx hb gX2_isUnder_2.2.2.2.2.2.2.1 (by decide) ?_
        refine lv_bipush (v := 6) hx hb gX2_isUnder_2.2.2.2.2.2.2.2.1 (by decide) ?_
        refine pSN hC hK hl (c_within l G 0 0 6) si_X2_61 rfl rfl (Nat.le_of_ble_eq_true rfl) rm_3_1_3 ⟨by first | exact Nat.le_of_ble_eq_true rfl | exact Nat.zero_le _, by first | exact Nat.le_of_ble_eq_true rfl | exact Nat.zero_le _⟩ gX2_isUnder_2.2.2.2.2.2.2.2.2.1 (Kors (Keqa fun a4937 => ?_) (Keqa fun a4937 => ?_))
        · refine lv_if_eq (tgt := 59) hx hb gX2_isUnder_2.2.2.2.2.2.2.2.2.2 (by decide) (fun c9 => absurd c9 (by decide)) (fun _ => ?_)
          refine lv_iconst (v := 1) hx hb gX2_isUnder_3.1 (by decide) ?_
          refine lv_goto (tgt := 60) hx hb gX2_isUnder_3.2.1 (by decide) ?_
          refine toQ hQ0 ?_
          exact RP (v := 1) hC (Or.inl ⟨rfl, Or.inr (c_15_4935.symm)⟩) (by decide +kernel) gX2_isUnder_3.2.2.2
        · exact absurd (by unfold Wi; decide) a4937
      · refine lv_iload_n hx hb gX2_isUnder_1.2.1 rfl (lv_at1 hl) ?_
        refine lv_iconst (v := 0) hx hb gX2_isUnder_1.2.2.1 (by decide) ?_
        refine lv_bipush (v := 6) hx hb gX2_isUnder_1.2.2.2.1 (by decide) ?_
        refine pSN hC hK hl (c_within l G 0 0 6) si_X2_61 rfl rfl (Nat.le_of_ble_eq_true rfl) rm_3_1_3 ⟨by first | exact Nat.le_of_ble_eq_true rfl | exact Nat.zero_le _, by first | exact Nat.le_of_ble_eq_true rfl | exact Nat.zero_le _⟩ gX2_isUnder_1.2.2.2.2.1 (Kors (Keqa fun a4939 => ?_) (Keqa fun a4939 => ?_))
        · refine lv_if_eq (tgt := 40) hx hb gX2_isUnder_1.2.2.2.2.2.1 (by decide) (fun c9 => absurd c9 (by decide)) (fun _ => ?_)
          refine va_gets hx hb hO.1.2.2.2.1 hS hown (hB _ m_957) (fun _ h => h) gX2_isUnder_1.2.2.2.2.2.2.1 ?_
          refine lv_iload_n hx hb gX2_isUnder_1.2.2.2.2.2.2.2.1 rfl (lv_at1 hl) ?_
          refine va_ti hx hb hO.1.2.2.2.2.1 hS (vin (by decide +kernel)) (v := .int (ABV.getD 0 0)) (congrArg (fun z9 => Value.int (ABV.getD z9 0)) (by decide +kernel)) gX2_isUnder_1.2.2.2.2.2.2.2.2.1 ?_
          refine eqi (x1 := (-1)) (by decide) ?_
          refine lv_istore_n (lv' := [(2, .int (-1)), (3, .int 1), (0, .ref h0), (1, .int as9)]) hx hb gX2_isUnder_1.2.2.2.2.2.2.2.2.2 rfl hl (by decide) rfl (fun ls hl => ?_)
          refine lv_iinc (v := 2) (lv' := [(3, .int 2), (2, .int (-1)), (0, .ref h0), (1, .int as9)]) hx hb gX2_isUnder_2.1 hl (k := 1) rfl (by decide) (by decide) rfl (fun ls hl => ?_)
          refine lv_goto (tgt := 7) hx hb gX2_isUnder_2.2.1 (by decide) ?_
          refine lv_iload_n hx hb gX2_isUnder_0.2.2.2.2.2.1 rfl (lv_at0 hl) ?_
          refine lv_bipush (v := 7) hx hb gX2_isUnder_0.2.2.2.2.2.2.1 (by decide) ?_
          refine lv_icmp_ge (tgt := 40) hx hb gX2_isUnder_0.2.2.2.2.2.2.2.1 (by decide) (fun c9 => absurd c9 (by decide)) (fun _ => ?_)
          refine lv_iload_n hx hb gX2_isUnder_0.2.2.2.2.2.2.2.2.1 rfl (lv_at1 hl) ?_
          refine lv_iload_n hx hb gX2_isUnder_0.2.2.2.2.2.2.2.2.2 rfl (lv_at3 hl) ?_
          refine lv_icmp_eq (tgt := 40) hx hb gX2_isUnder_1.1 (by decide) (fun c_15_4940 => ?_) (fun c_15_4940 => ?_)
          · refine lv_iload_n hx hb gX2_isUnder_2.2.2.1 rfl (lv_at1 hl) ?_
            refine lv_iload_n hx hb gX2_isUnder_2.2.2.2.1 rfl (lv_at3 hl) ?_
            refine lv_icmp_ne (tgt := 59) hx hb gX2_isUnder_2.2.2.2.2.1 (by decide) (fun c9 => absurd (c_15_4940) c9) (fun _ => ?_)
            refine lv_iload_n hx hb gX2_isUnder_2.2.2.2.2.2.1 rfl (lv_at1 hl) ?_
            refine lv_iconst (v := 0) hx hb gX2_isUnder_2.2.2.2.2.2.2.1 (by decide) ?_
            refine lv_bipush (v := 6) hx hb gX2_isUnder_2.2.2.2.2.2.2.2.1 (by decide) ?_
            refine pSN hC hK hl (c_within l G (-1) 0 6) si_X2_61 rfl rfl (Nat.le_of_ble_eq_true rfl) rm_3_1_3 ⟨by first | exact Nat.le_of_ble_eq_true rfl | exact Nat.zero_le _, by first | exact Nat.le_of_ble_eq_true rfl | exact Nat.zero_le _⟩ gX2_isUnder_2.2.2.2.2.2.2.2.2.1 (Kors (Keqa fun a4942 => ?_) (Keqa fun a4942 => ?_))
            · exact absurd a4942 (by unfold Wi; decide)
            · refine lv_if_eq (tgt := 59) hx hb gX2_isUnder_2.2.2.2.2.2.2.2.2.2 (by decide) (fun _ => ?_) (fun c9 => absurd (by decide) c9)
              refine lv_iconst (v := 0) hx hb gX2_isUnder_3.2.2.1 (by decide) ?_
              refine toQ hQ0 ?_
              exact RP (v := 0) hC (Or.inr ⟨rfl, fun h9 => (show False from by
                have h9 : as9 = 2 ∨ as9 = 0 := h9
                rcases h9 with h8 | h8 <;> (first | exact c_15_4930 h8.symm | exact c_15_4935 h8.symm))⟩) (by decide +kernel) gX2_isUnder_3.2.2.2
          · refine lv_iload_n hx hb gX2_isUnder_1.2.1 rfl (lv_at1 hl) ?_
            refine lv_iconst (v := 0) hx hb gX2_isUnder_1.2.2.1 (by decide) ?_
            refine lv_bipush (v := 6) hx hb gX2_isUnder_1.2.2.2.1 (by decide) ?_
            refine pSN hC hK hl (c_within l G (-1) 0 6) si_X2_61 rfl rfl (Nat.le_of_ble_eq_true rfl) rm_3_1_3 ⟨by first | exact Nat.le_of_ble_eq_true rfl | exact Nat.zero_le _, by first | exact Nat.le_of_ble_eq_true rfl | exact Nat.zero_le _⟩ gX2_isUnder_1.2.2.2.2.1 (Kors (Keqa fun a4944 => ?_) (Keqa fun a4944 => ?_))
            · exact absurd a4944 (by unfold Wi; decide)
            · refine lv_if_eq (tgt := 40) hx hb gX2_isUnder_1.2.2.2.2.2.1 (by decide) (fun _ => ?_) (fun c9 => absurd (by decide) c9)
              refine lv_iload_n hx hb gX2_isUnder_2.2.2.1 rfl (lv_at1 hl) ?_
              refine lv_iload_n hx hb gX2_isUnder_2.2.2.2.1 rfl (lv_at3 hl) ?_
              refine lv_icmp_ne (tgt := 59) hx hb gX2_isUnder_2.2.2.2.2.1 (by decide) (fun _ => ?_) (fun c9 => absurd c9 (c_15_4940))
              refine lv_iconst (v := 0) hx hb gX2_isUnder_3.2.2.1 (by decide) ?_
              refine toQ hQ0 ?_
              exact RP (v := 0) hC (Or.inr ⟨rfl, fun h9 => (show False from by
                have h9 : as9 = 2 ∨ as9 = 0 := h9
                rcases h9 with h8 | h8 <;> (first | exact c_15_4930 h8.symm | exact c_15_4935 h8.symm))⟩) (by decide +kernel) gX2_isUnder_3.2.2.2
        · exact absurd (by unfold Wi; decide) a4939
    · exact absurd (by unfold Wi; decide) a4934
def K_d_isUnder3 (l : Launch) (G : GG) (K : OO) (h0 : Nat) (as9 : Int32) (bb : Nat) (tr9 : Nat) (jr : Nat) (dn : Int32) (dp : Int32) (da : Int32) (dq : Int32) : Prop := MPo l G K yX2_isUnder cX2_isUnder 4 (some .boolean) 3 [.ref h0, .int as9] [(h0, oX2 bb tr9 (nI jr) 3 dn dp da dq)] (fun r : Int32 => (r = 1 ∧ UNl 3 as9) ∨ (r = 0 ∧ ¬ UNl 3 as9))
set_option maxHeartbeats 4000000 in
set_option maxRecDepth 100000 in
theorem d_isUnder3 (l : Launch) (G : GG) (K : OO) (h0 : Nat) (as9 : Int32) (bb : Nat) (tr9 : Nat) (jr : Nat) (dn : Int32) (dp : Int32) (da : Int32) (dq : Int32) : K_d_isUnder3 l G K h0 as9 bb tr9 jr dn dp da dq := by
  refine MPo.start (by decide +kernel) (Nat.le_of_ble_eq_true rfl) ?_
  intro p e s m below meth c ls hC hK hP hD hl hO hS
  refine absQ (fun Q0 hQ0 => ?_)
  have hl : lv_has ls 4 [(0, .ref h0), (1, .int as9)] := hl
  refine Kan8 hC (fun hx hb hr hml hB hown hlocks hnm => ?_)
  refine lv_aload_n hx hb gX2_isUnder_0.1 rfl (lv_at0 hl) ?_
  refine gf_X2_23 hC rfl hK hP 0 rfl rfl gX2_isUnder_0.2.1 ?_
  refine lv_istore_n (lv' := [(2, .int 3), (0, .ref h0), (1, .int as9)]) hx hb gX2_isUnder_0.2.2.1 rfl hl (by decide) rfl (fun ls hl => ?_)
  refine lv_iconst (v := 0) hx hb gX2_isUnder_0.2.2.2.1 (by decide) ?_
  refine lv_istore_n (lv' := [(3, .int 0), (2, .int 3), (0, .ref h0), (1, .int as9)]) hx hb gX2_isUnder_0.2.2.2.2.1 rfl hl (by decide) rfl (fun ls hl => ?_)
  refine lv_iload_n hx hb gX2_isUnder_0.2.2.2.2.2.1 rfl (lv_at0 hl) ?_
  refine lv_bipush (v := 7) hx hb gX2_isUnder_0.2.2.2.2.2.2.1 (by decide) ?_
  refine lv_icmp_ge (tgt := 40) hx hb gX2_isUnder_0.2.2.2.2.2.2.2.1 (by decide) (fun c9 => absurd c9 (by decide)) (fun _ => ?_)
  refine lv_iload_n hx hb gX2_isUnder_0.2.2.2.2.2.2.2.2.1 rfl (lv_at1 hl) ?_
  refine lv_iload_n hx hb gX2_isUnder_0.2.2.2.2.2.2.2.2.2 rfl (lv_at3 hl) ?_
  refine lv_icmp_eq (tgt := 40) hx hb gX2_isUnder_1.1 (by decide) (fun c_15_4945 => ?_) (fun c_15_4945 => ?_)
  · refine lv_iload_n hx hb gX2_isUnder_2.2.2.1 rfl (lv_at1 hl) ?_
    refine lv_iload_n hx hb gX2_isUnder_2.2.2.2.1 rfl (lv_at3 hl) ?_
    refine lv_icmp_ne (tgt := 59) hx hb gX2_isUnder_2.2.2.2.2.1 (by decide) (fun c9 => absurd (c_15_4945) c9) (fun _ => ?_)
    refine lv_iload_n hx hb gX2_isUnder_2.2.2.2.2.2.1 rfl (lv_at1 hl) ?_
    refine lv_iconst (v := 0) hx hb gX2_isUnder_2.2.2.2.2.2.2.1 (by decide) ?_
    refine lv_bipush (v := 6) hx hb gX2_isUnder_2.2.2.2.2.2.2.2.1 (by decide) ?_
    refine pSN hC hK hl (c_within l G 3 0 6) si_X2_61 rfl rfl (Nat.le_of_ble_eq_true rfl) rm_3_1_3 ⟨by first | exact Nat.le_of_ble_eq_true rfl | exact Nat.zero_le _, by first | exact Nat.le_of_ble_eq_true rfl | exact Nat.zero_le _⟩ gX2_isUnder_2.2.2.2.2.2.2.2.2.1 (Kors (Keqa fun a4947 => ?_) (Keqa fun a4947 => ?_))
    · refine lv_if_eq (tgt := 59) hx hb gX2_isUnder_2.2.2.2.2.2.2.2.2.2 (by decide) (fun c9 => absurd c9 (by decide)) (fun _ => ?_)
      refine lv_iconst (v := 1) hx hb gX2_isUnder_3.1 (by decide) ?_
      refine lv_goto (tgt := 60) hx hb gX2_isUnder_3.2.1 (by decide) ?_
      refine toQ hQ0 ?_
      exact RP (v := 1) hC (Or.inl ⟨rfl, Or.inl (c_15_4945.symm)⟩) (by decide +kernel) gX2_isUnder_3.2.2.2
    · exact absurd (by unfold Wi; decide) a4947
  · refine lv_iload_n hx hb gX2_isUnder_1.2.1 rfl (lv_at1 hl) ?_
    refine lv_iconst (v := 0) hx hb gX2_isUnder_1.2.2.1 (by decide) ?_
    refine lv_bipush (v := 6) hx hb gX2_isUnder_1.2.2.2.1 (by decide) ?_
    refine pSN hC hK hl (c_within l G 3 0 6) si_X2_61 rfl rfl (Nat.le_of_ble_eq_true rfl) rm_3_1_3 ⟨by first | exact Nat.le_of_ble_eq_true rfl | exact Nat.zero_le _, by first | exact Nat.le_of_ble_eq_true rfl | exact Nat.zero_le _⟩ gX2_isUnder_1.2.2.2.2.1 (Kors (Keqa fun a4949 => ?_) (Keqa fun a4949 => ?_))
    · refine lv_if_eq (tgt := 40) hx hb gX2_isUnder_1.2.2.2.2.2.1 (by decide) (fun c9 => absurd c9 (by decide)) (fun _ => ?_)
      refine va_gets hx hb hO.1.2.2.2.1 hS hown (hB _ m_957) (fun _ h => h) gX2_isUnder_1.2.2.2.2.2.2.1 ?_
      refine lv_iload_n hx hb gX2_isUnder_1.2.2.2.2.2.2.2.1 rfl (lv_at1 hl) ?_
      refine va_ti hx hb hO.1.2.2.2.2.1 hS (vin (by decide +kernel)) (v := .int (ABV.getD 3 0)) (congrArg (fun z9 => Value.int (ABV.getD z9 0)) (by decide +kernel)) gX2_isUnder_1.2.2.2.2.2.2.2.2.1 ?_
      refine eqi (x1 := 1) (by decide) ?_
      refine lv_istore_n (lv' := [(2, .int 1), (3, .int 0), (0, .ref h0), (1, .int as9)]) hx hb gX2_isUnder_1.2.2.2.2.2.2.2.2.2 rfl hl (by decide) rfl (fun ls hl => ?_)
      refine lv_iinc (v := 1) (lv' := [(3, .int 1), (2, .int 1), (0, .ref h0), (1, .int as9)]) hx hb gX2_isUnder_2.1 hl (k := 1) rfl (by decide) (by decide) rfl (fun ls hl => ?_)
      refine lv_goto (tgt := 7) hx hb gX2_isUnder_2.2.1 (by decide) ?_
      refine lv_iload_n hx hb gX2_isUnder_0.2.2.2.2.2.1 rfl (lv_at0 hl) ?_
      refine lv_bipush (v := 7) hx hb gX2_isUnder_0.2.2.2.2.2.2.1 (by decide) ?_
      refine lv_icmp_ge (tgt := 40) hx hb gX2_isUnder_0.2.2.2.2.2.2.2.1 (by decide) (fun c9 => absurd c9 (by decide)) (fun _ => ?_)
      refine lv_iload_n hx hb gX2_isUnder_0.2.2.2.2.2.2.2.2.1 rfl (lv_at1 hl) ?_
      refine lv_iload_n hx hb gX2_isUnder_0.2.2.2.2.2.2.2.2.2 rfl (lv_at3 hl) ?_
      refine lv_icmp_eq (tgt := 40) hx hb gX2_isUnder_1.1 (by decide) (fun c_15_4950 => ?_) (fun c_15_4950 => ?_)
      · refine lv_iload_n hx hb gX2_isUnder_2.2.2.1 rfl (lv_at1 hl) ?_
        refine lv_iload_n hx hb gX2_isUnder_2.2.2.2.1 rfl (lv_at3 hl) ?_
        refine lv_icmp_ne (tgt := 59) hx hb gX2_isUnder_2.2.2.2.2.1 (by decide) (fun c9 => absurd (c_15_4950) c9) (fun _ => ?_)
        refine lv_iload_n hx hb gX2_isUnder_2.2.2.2.2.2.1 rfl (lv_at1 hl) ?_
        refine lv_iconst (v := 0) hx hb gX2_isUnder_2.2.2.2.2.2.2.1 (by decide) ?_
        refine lv_bipush (v := 6) hx hb gX2_isUnder_2.2.2.2.2.2.2.2.1 (by decide) ?_
        refine pSN hC hK hl (c_within l G 1 0 6) si_X2_61 rfl rfl (Nat.le_of_ble_eq_true rfl) rm_3_1_3 ⟨by first | exact Nat.le_of_ble_eq_true rfl | exact Nat.zero_le _, by first | exact Nat.le_of_ble_eq_true rfl | exact Nat.zero_le _⟩ gX2_isUnder_2.2.2.2.2.2.2.2.2.1 (Kors (Keqa fun a4952 => ?_) (Keqa fun a4952 => ?_))
        · refine lv_if_eq (tgt := 59) hx hb gX2_isUnder_2.2.2.2.2.2.2.2.2.2 (by decide) (fun c9 => absurd c9 (by decide)) (fun _ => ?_)
          refine lv_iconst (v := 1) hx hb gX2_isUnder_3.1 (by decide) ?_
          refine lv_goto (tgt := 60) hx hb gX2_isUnder_3.2.1 (by decide) ?_
          refine toQ hQ0 ?_
          exact RP (v := 1) hC (Or.inl ⟨rfl, Or.inr (Or.inl (c_15_4950.symm))⟩) (by decide +kernel) gX2_isUnder_3.2.2.2
        · exact absurd (by unfold Wi; decide) a4952
      · refine lv_iload_n hx hb gX2_isUnder_1.2.1 rfl (lv_at1 hl) ?_
        refine lv_iconst (v := 0) hx hb gX2_isUnder_1.2.2.1 (by decide) ?_
        refine lv_bipush (v := 6) hx hb gX2_isUnder_1.2.2.2.1 (by decide) ?_
        refine pSN hC hK hl (c_within l G 1 0 6) si_X2_61 rfl rfl (Nat.le_of_ble_eq_true rfl) rm_3_1_3 ⟨by first | exact Nat.le_of_ble_eq_true rfl | exact Nat.zero_le _, by first | exact Nat.le_of_ble_eq_true rfl | exact Nat.zero_le _⟩ gX2_isUnder_1.2.2.2.2.1 (Kors (Keqa fun a4954 => ?_) (Keqa fun a4954 => ?_))
        · refine lv_if_eq (tgt := 40) hx hb gX2_isUnder_1.2.2.2.2.2.1 (by decide) (fun c9 => absurd c9 (by decide)) (fun _ => ?_)
          refine va_gets hx hb hO.1.2.2.2.1 hS hown (hB _ m_957) (fun _ h => h) gX2_isUnder_1.2.2.2.2.2.2.1 ?_
          refine lv_iload_n hx hb gX2_isUnder_1.2.2.2.2.2.2.2.1 rfl (lv_at1 hl) ?_
          refine va_ti hx hb hO.1.2.2.2.2.1 hS (vin (by decide +kernel)) (v := .int (ABV.getD 1 0)) (congrArg (fun z9 => Value.int (ABV.getD z9 0)) (by decide +kernel)) gX2_isUnder_1.2.2.2.2.2.2.2.2.1 ?_
          refine eqi (x1 := 0) (by decide) ?_
          refine lv_istore_n (lv' := [(2, .int 0), (3, .int 1), (0, .ref h0), (1, .int as9)]) hx hb gX2_isUnder_1.2.2.2.2.2.2.2.2.2 rfl hl (by decide) rfl (fun ls hl => ?_)
          refine lv_iinc (v := 2) (lv' := [(3, .int 2), (2, .int 0), (0, .ref h0), (1, .int as9)]) hx hb gX2_isUnder_2.1 hl (k := 1) rfl (by decide) (by decide) rfl (fun ls hl => ?_)
          refine lv_goto (tgt := 7) hx hb gX2_isUnder_2.2.1 (by decide) ?_
          refine lv_iload_n hx hb gX2_isUnder_0.2.2.2.2.2.1 rfl (lv_at0 hl) ?_
          refine lv_bipush (v := 7) hx hb gX2_isUnder_0.2.2.2.2.2.2.1 (by decide) ?_
          refine lv_icmp_ge (tgt := 40) hx hb gX2_isUnder_0.2.2.2.2.2.2.2.1 (by decide) (fun c9 => absurd c9 (by decide)) (fun _ => ?_)
          refine lv_iload_n hx hb gX2_isUnder_0.2.2.2.2.2.2.2.2.1 rfl (lv_at1 hl) ?_
          refine lv_iload_n hx hb gX2_isUnder_0.2.2.2.2.2.2.2.2.2 rfl (lv_at3 hl) ?_
          refine lv_icmp_eq (tgt := 40) hx hb gX2_isUnder_1.1 (by decide) (fun c_15_4955 => ?_) (fun c_15_4955 => ?_)
          · refine lv_iload_n hx hb gX2_isUnder_2.2.2.1 rfl (lv_at1 hl) ?_
            refine lv_iload_n hx hb gX2_isUnder_2.2.2.2.1 rfl (lv_at3 hl) ?_
            refine lv_icmp_ne (tgt := 59) hx hb gX2_isUnder_2.2.2.2.2.1 (by decide) (fun c9 => absurd (c_15_4955) c9) (fun _ => ?_)
            refine lv_iload_n hx hb gX2_isUnder_2.2.2.2.2.2.1 rfl (lv_at1 hl) ?_
            refine lv_iconst (v := 0) hx hb gX2_isUnder_2.2.2.2.2.2.2.1 (by decide) ?_
            refine lv_bipush (v := 6) hx hb gX2_isUnder_2.2.2.2.2.2.2.2.1 (by decide) ?_
            refine pSN hC hK hl (c_within l G 0 0 6) si_X2_61 rfl rfl (Nat.le_of_ble_eq_true rfl) rm_3_1_3 ⟨by first | exact Nat.le_of_ble_eq_true rfl | exact Nat.zero_le _, by first | exact Nat.le_of_ble_eq_true rfl | exact Nat.zero_le _⟩ gX2_isUnder_2.2.2.2.2.2.2.2.2.1 (Kors (Keqa fun a4957 => ?_) (Keqa fun a4957 => ?_))
            · refine lv_if_eq (tgt := 59) hx hb gX2_isUnder_2.2.2.2.2.2.2.2.2.2 (by decide) (fun c9 => absurd c9 (by decide)) (fun _ => ?_)
              refine lv_iconst (v := 1) hx hb gX2_isUnder_3.1 (by decide) ?_
              refine lv_goto (tgt := 60) hx hb gX2_isUnder_3.2.1 (by decide) ?_
              refine toQ hQ0 ?_
              exact RP (v := 1) hC (Or.inl ⟨rfl, Or.inr (Or.inr (c_15_4955.symm))⟩) (by decide +kernel) gX2_isUnder_3.2.2.2
            · exact absurd (by unfold Wi; decide) a4957
          · refine lv_iload_n hx hb gX2_isUnder_1.2.1 rfl (lv_at1 hl) ?_
            refine lv_iconst (v := 0) hx hb gX2_isUnder_1.2.2.1 (by decide) ?_
            refine lv_bipush (v := 6) hx hb gX2_isUnder_1.2.2.2.1 (by decide) ?_
            refine pSN hC hK hl (c_within l G 0 0 6) si_X2_61 rfl rfl (Nat.le_of_ble_eq_true rfl) rm_3_1_3 ⟨by first | exact Nat.le_of_ble_eq_true rfl | exact Nat.zero_le _, by first | exact Nat.le_of_ble_eq_true rfl | exact Nat.zero_le _⟩ gX2_isUnder_1.2.2.2.2.1 (Kors (Keqa fun a4959 => ?_) (Keqa fun a4959 => ?_))
            · refine lv_if_eq (tgt := 40) hx hb gX2_isUnder_1.2.2.2.2.2.1 (by decide) (fun c9 => absurd c9 (by decide)) (fun _ => ?_)
              refine va_gets hx hb hO.1.2.2.2.1 hS hown (hB _ m_957) (fun _ h => h) gX2_isUnder_1.2.2.2.2.2.2.1 ?_
              refine lv_iload_n hx hb gX2_isUnder_1.2.2.2.2.2.2.2.1 rfl (lv_at1 hl) ?_
              refine va_ti hx hb hO.1.2.2.2.2.1 hS (vin (by decide +kernel)) (v := .int (ABV.getD 0 0)) (congrArg (fun z9 => Value.int (ABV.getD z9 0)) (by decide +kernel)) gX2_isUnder_1.2.2.2.2.2.2.2.2.1 ?_
              refine eqi (x1 := (-1)) (by decide) ?_
              refine lv_istore_n (lv' := [(2, .int (-1)), (3, .int 2), (0, .ref h0), (1, .int as9)]) hx hb gX2_isUnder_1.2.2.2.2.2.2.2.2.2 rfl hl (by decide) rfl (fun ls hl => ?_)
              refine lv_iinc (v := 3) (lv' := [(3, .int 3), (2, .int (-1)), (0, .ref h0), (1, .int as9)]) hx hb gX2_isUnder_2.1 hl (k := 1) rfl (by decide) (by decide) rfl (fun ls hl => ?_)
              refine lv_goto (tgt := 7) hx hb gX2_isUnder_2.2.1 (by decide) ?_
              refine lv_iload_n hx hb gX2_isUnder_0.2.2.2.2.2.1 rfl (lv_at0 hl) ?_
              refine lv_bipush (v := 7) hx hb gX2_isUnder_0.2.2.2.2.2.2.1 (by decide) ?_
              refine lv_icmp_ge (tgt := 40) hx hb gX2_isUnder_0.2.2.2.2.2.2.2.1 (by decide) (fun c9 => absurd c9 (by decide)) (fun _ => ?_)
              refine lv_iload_n hx hb gX2_isUnder_0.2.2.2.2.2.2.2.2.1 rfl (lv_at1 hl) ?_
              refine lv_iload_n hx hb gX2_isUnder_0.2.2.2.2.2.2.2.2.2 rfl (lv_at3 hl) ?_
              refine lv_icmp_eq (tgt := 40) hx hb gX2_isUnder_1.1 (by decide) (fun c_15_4960 => ?_) (fun c_15_4960 => ?_)
              · refine lv_iload_n hx hb gX2_isUnder_2.2.2.1 rfl (lv_at1 hl) ?_
                refine lv_iload_n hx hb gX2_isUnder_2.2.2.2.1 rfl (lv_at3 hl) ?_
                refine lv_icmp_ne (tgt := 59) hx hb gX2_isUnder_2.2.2.2.2.1 (by decide) (fun c9 => absurd (c_15_4960) c9) (fun _ => ?_)
                refine lv_iload_n hx hb gX2_isUnder_2.2.2.2.2.2.1 rfl (lv_at1 hl) ?_
                refine lv_iconst (v := 0) hx hb gX2_isUnder_2.2.2.2.2.2.2.1 (by decide) ?_
                refine lv_bipush (v := 6) hx hb gX2_isUnder_2.2.2.2.2.2.2.2.1 (by decide) ?_
                refine pSN hC hK hl (c_within l G (-1) 0 6) si_X2_61 rfl rfl (Nat.le_of_ble_eq_true rfl) rm_3_1_3 ⟨by first | exact Nat.le_of_ble_eq_true rfl | exact Nat.zero_le _, by first | exact Nat.le_of_ble_eq_true rfl | exact Nat.zero_le _⟩ gX2_isUnder_2.2.2.2.2.2.2.2.2.1 (Kors (Keqa fun a4962 => ?_) (Keqa fun a4962 => ?_))
                · exact absurd a4962 (by unfold Wi; decide)
                · refine lv_if_eq (tgt := 59) hx hb gX2_isUnder_2.2.2.2.2.2.2.2.2.2 (by decide) (fun _ => ?_) (fun c9 => absurd (by decide) c9)
                  refine lv_iconst (v := 0) hx hb gX2_isUnder_3.2.2.1 (by decide) ?_
                  refine toQ hQ0 ?_
                  exact RP (v := 0) hC (Or.inr ⟨rfl, fun h9 => (show False from by
                    have h9 : as9 = 3 ∨ as9 = 1 ∨ as9 = 0 := h9
                    rcases h9 with h8 | h8 | h8 <;> (first | exact c_15_4945 h8.symm | exact c_15_4950 h8.symm | exact c_15_4955 h8.symm))⟩) (by decide +kernel) gX2_isUnder_3.2.2.2
              · refine lv_iload_n hx hb gX2_isUnder_1.2.1 rfl (lv_at1 hl) ?_
                refine lv_iconst (v := 0) hx hb gX2_isUnder_1.2.2.1 (by decide) ?_
                refine lv_bipush (v := 6) hx hb gX2_isUnder_1.2.2.2.1 (by decide) ?_
                refine pSN hC hK hl (c_within l G (-1) 0 6) si_X2_61 rfl rfl (Nat.le_of_ble_eq_true rfl) rm_3_1_3 ⟨by first | exact Nat.le_of_ble_eq_true rfl | exact Nat.zero_le _, by first | exact Nat.le_of_ble_eq_true rfl | exact Nat.zero_le _⟩ gX2_isUnder_1.2.2.2.2.1 (Kors (Keqa fun a4964 => ?_) (Keqa fun a4964 => ?_))
                · exact absurd a4964 (by unfold Wi; decide)
                · refine lv_if_eq (tgt := 40) hx hb gX2_isUnder_1.2.2.2.2.2.1 (by decide) (fun _ => ?_) (fun c9 => absurd (by decide) c9)
                  refine lv_iload_n hx hb gX2_isUnder_2.2.2.1 rfl (lv_at1 hl) ?_
                  refine lv_iload_n hx hb gX2_isUnder_2.2.2.2.1 rfl (lv_at3 hl) ?_
                  refine lv_icmp_ne (tgt := 59) hx hb gX2_isUnder_2.2.2.2.2.1 (by decide) (fun _ => ?_) (fun c9 => absurd c9 (c_15_4960))
                  refine lv_iconst (v := 0) hx hb gX2_isUnder_3.2.2.1 (by decide) ?_
                  refine toQ hQ0 ?_
                  exact RP (v := 0) hC (Or.inr ⟨rfl, fun h9 => (show False from by
                    have h9 : as9 = 3 ∨ as9 = 1 ∨ as9 = 0 := h9
                    rcases h9 with h8 | h8 | h8 <;> (first | exact c_15_4945 h8.symm | exact c_15_4950 h8.symm | exact c_15_4955 h8.symm))⟩) (by decide +kernel) gX2_isUnder_3.2.2.2
            · exact absurd (by unfold Wi; decide) a4959
        · exact absurd (by unfold Wi; decide) a4954
    · exact absurd (by unfold Wi; decide) a4949
def K_d_isUnder4 (l : Launch) (G : GG) (K : OO) (h0 : Nat) (as9 : Int32) (bb : Nat) (tr9 : Nat) (jr : Nat) (dn : Int32) (dp : Int32) (da : Int32) (dq : Int32) : Prop := MPo l G K yX2_isUnder cX2_isUnder 4 (some .boolean) 3 [.ref h0, .int as9] [(h0, oX2 bb tr9 (nI jr) 4 dn dp da dq)] (fun r : Int32 => (r = 1 ∧ UNl 4 as9) ∨ (r = 0 ∧ ¬ UNl 4 as9))
set_option maxHeartbeats 4000000 in
set_option maxRecDepth 100000 in
theorem d_isUnder4 (l : Launch) (G : GG) (K : OO) (h0 : Nat) (as9 : Int32) (bb : Nat) (tr9 : Nat) (jr : Nat) (dn : Int32) (dp : Int32) (da : Int32) (dq : Int32) : K_d_isUnder4 l G K h0 as9 bb tr9 jr dn dp da dq := by
  refine MPo.start (by decide +kernel) (Nat.le_of_ble_eq_true rfl) ?_
  intro p e s m below meth c ls hC hK hP hD hl hO hS
  refine absQ (fun Q0 hQ0 => ?_)
  have hl : lv_has ls 4 [(0, .ref h0), (1, .int as9)] := hl
  refine Kan8 hC (fun hx hb hr hml hB hown hlocks hnm => ?_)
  refine lv_aload_n hx hb gX2_isUnder_0.1 rfl (lv_at0 hl) ?_
  refine gf_X2_23 hC rfl hK hP 0 rfl rfl gX2_isUnder_0.2.1 ?_
  refine lv_istore_n (lv' := [(2, .int 4), (0, .ref h0), (1, .int as9)]) hx hb gX2_isUnder_0.2.2.1 rfl hl (by decide) rfl (fun ls hl => ?_)
  refine lv_iconst (v := 0) hx hb gX2_isUnder_0.2.2.2.1 (by decide) ?_
  refine lv_istore_n (lv' := [(3, .int 0), (2, .int 4), (0, .ref h0), (1, .int as9)]) hx hb gX2_isUnder_0.2.2.2.2.1 rfl hl (by decide) rfl (fun ls hl => ?_)
  refine lv_iload_n hx hb gX2_isUnder_0.2.2.2.2.2.1 rfl (lv_at0 hl) ?_
  refine lv_bipush (v := 7) hx hb gX2_isUnder_0.2.2.2.2.2.2.1 (by decide) ?_
  refine lv_icmp_ge (tgt := 40) hx hb gX2_isUnder_0.2.2.2.2.2.2.2.1 (by decide) (fun c9 => absurd c9 (by decide)) (fun _ => ?_)
  refine lv_iload_n hx hb gX2_isUnder_0.2.2.2.2.2.2.2.2.1 rfl (lv_at1 hl) ?_
  refine lv_iload_n hx hb gX2_isUnder_0.2.2.2.2.2.2.2.2.2 rfl (lv_at3 hl) ?_
  refine lv_icmp_eq (tgt := 40) hx hb gX2_isUnder_1.1 (by decide) (fun c_15_4965 => ?_) (fun c_15_4965 => ?_)
  · refine lv_iload_n hx hb gX2_isUnder_2.2.2.1 rfl (lv_at1 hl) ?_
    refine lv_iload_n hx hb gX2_isUnder_2.2.2.2.1 rfl (lv_at3 hl) ?_
    refine lv_icmp_ne (tgt := 59) hx hb gX2_isUnder_2.2.2.2.2.1 (by decide) (fun c9 => absurd (c_15_4965) c9) (fun _ => ?_)
    refine lv_iload_n hx hb gX2_isUnder_2.2.2.2.2.2.1 rfl (lv_at1 hl) ?_
    refine lv_iconst (v := 0) hx hb gX2_isUnder_2.2.2.2.2.2.2.1 (by decide) ?_
    refine lv_bipush (v := 6) hx hb gX2_isUnder_2.2.2.2.2.2.2.2.1 (by decide) ?_
    refine pSN hC hK hl (c_within l G 4 0 6) si_X2_61 rfl rfl (Nat.le_of_ble_eq_true rfl) rm_3_1_3 ⟨by first | exact Nat.le_of_ble_eq_true rfl | exact Nat.zero_le _, by first | exact Nat.le_of_ble_eq_true rfl | exact Nat.zero_le _⟩ gX2_isUnder_2.2.2.2.2.2.2.2.2.1 (Kors (Keqa fun a4967 => ?_) (Keqa fun a4967 => ?_))
    · refine lv_if_eq (tgt := 59) hx hb gX2_isUnder_2.2.2.2.2.2.2.2.2.2 (by decide) (fun c9 => absurd c9 (by decide)) (fun _ => ?_)
      refine lv_iconst (v := 1) hx hb gX2_isUnder_3.1 (by decide) ?_
      refine lv_goto (tgt := 60) hx hb gX2_isUnder_3.2.1 (by decide) ?_
      refine toQ hQ0 ?_
      exact RP (v := 1) hC (Or.inl ⟨rfl, Or.inl (c_15_4965.symm)⟩) (by decide +kernel) gX2_isUnder_3.2.2.2
    · exact absurd (by unfold Wi; decide) a4967
  · refine lv_iload_n hx hb gX2_isUnder_1.2.1 rfl (lv_at1 hl) ?_
    refine lv_iconst (v := 0) hx hb gX2_isUnder_1.2.2.1 (by decide) ?_
    refine lv_bipush (v := 6) hx hb gX2_isUnder_1.2.2.2.1 (by decide) ?_
    refine pSN hC hK hl (c_within l G 4 0 6) si_X2_61 rfl rfl (Nat.le_of_ble_eq_true rfl) rm_3_1_3 ⟨by first | exact Nat.le_of_ble_eq_true rfl | exact Nat.zero_le _, by first | exact Nat.le_of_ble_eq_true rfl | exact Nat.zero_le _⟩ gX2_isUnder_1.2.2.2.2.1 (Kors (Keqa fun a4969 => ?_) (Keqa fun a4969 => ?_))
    · refine lv_if_eq (tgt := 40) hx hb gX2_isUnder_1.2.2.2.2.2.1 (by decide) (fun c9 => absurd c9 (by decide)) (fun _ => ?_)
      refine va_gets hx hb hO.1.2.2.2.1 hS hown (hB _ m_957) (fun _ h => h) gX2_isUnder_1.2.2.2.2.2.2.1 ?_
      refine lv_iload_n hx hb gX2_isUnder_1.2.2.2.2.2.2.2.1 rfl (lv_at1 hl) ?_
      refine va_ti hx hb hO.1.2.2.2.2.1 hS (vin (by decide +kernel)) (v := .int (ABV.getD 4 0)) (congrArg (fun z9 => Value.int (ABV.getD z9 0)) (by decide +kernel)) gX2_isUnder_1.2.2.2.2.2.2.2.2.1 ?_
      refine eqi (x1 := 0) (by decide) ?_
      refine lv_istore_n (lv' := [(2, .int 0), (3, .int 0), (0, .ref h0), (1, .int as9)]) hx hb gX2_isUnder_1.2.2.2.2.2.2.2.2.2 rfl hl (by decide) rfl (fun ls hl => ?_)
      refine lv_iinc (v := 1) (lv' := [(3, .int 1), (2, .int 0), (0, .ref h0), (1, .int as9)]) hx hb gX2_isUnder_2.1 hl (k := 1) rfl (by decide) (by decide) rfl (fun ls hl => ?_)
      refine lv_goto (tgt := 7) hx hb gX2_isUnder_2.2.1 (by decide) ?_
      refine lv_iload_n hx hb gX2_isUnder_0.2.2.2.2.2.1 rfl (lv_at0 hl) ?_
      refine lv_bipush (v := 7) hx hb gX2_isUnder_0.2.2.2.2.2.2.1 (by decide) ?_
      refine lv_icmp_ge (tgt := 40) hx hb gX2_isUnder_0.2.2.2.2.2.2.2.1 (by decide) (fun c9 => absurd c9 (by decide)) (fun _ => ?_)
      refine lv_iload_n hx hb gX2_isUnder_0.2.2.2.2.2.2.2.2.1 rfl (lv_at1 hl) ?_
      refine lv_iload_n hx hb gX2_isUnder_0.2.2.2.2.2.2.2.2.2 rfl (lv_at3 hl) ?_
      refine lv_icmp_eq (tgt := 40) hx hb gX2_isUnder_1.1 (by decide) (fun c_15_4970 => ?_) (fun c_15_4970 => ?_)
      · refine lv_iload_n hx hb gX2_isUnder_2.2.2.1 rfl (lv_at1 hl) ?_
        refine lv_iload_n hx hb gX2_isUnder_2.2.2.2.1 rfl (lv_at3 hl) ?_
        refine lv_icmp_ne (tgt := 59) hx hb gX2_isUnder_2.2.2.2.2.1 (by decide) (fun c9 => absurd (c_15_4970) c9) (fun _ => ?_)
        refine lv_iload_n hx hb gX2_isUnder_2.2.2.2.2.2.1 rfl (lv_at1 hl) ?_
        refine lv_iconst (v := 0) hx hb gX2_isUnder_2.2.2.2.2.2.2.1 (by decide) ?_
        refine lv_bipush (v := 6) hx hb gX2_isUnder_2.2.2.2.2.2.2.2.1 (by decide) ?_
        refine pSN hC hK hl (c_within l G 0 0 6) si_X2_61 rfl rfl (Nat.le_of_ble_eq_true rfl) rm_3_1_3 ⟨by first | exact Nat.le_of_ble_eq_true rfl | exact Nat.zero_le _, by first | exact Nat.le_of_ble_eq_true rfl | exact Nat.zero_le _⟩ gX2_isUnder_2.2.2.2.2.2.2.2.2.1 (Kors (Keqa fun a4972 => ?_) (Keqa fun a4972 => ?_))
        · refine lv_if_eq (tgt := 59) hx hb gX2_isUnder_2.2.2.2.2.2.2.2.2.2 (by decide) (fun c9 => absurd c9 (by decide)) (fun _ => ?_)
          refine lv_iconst (v := 1) hx hb gX2_isUnder_3.1 (by decide) ?_
          refine lv_goto (tgt := 60) hx hb gX2_isUnder_3.2.1 (by decide) ?_
          refine toQ hQ0 ?_
          exact RP (v := 1) hC (Or.inl ⟨rfl, Or.inr (c_15_4970.symm)⟩) (by decide +kernel) gX2_isUnder_3.2.2.2
        · exact absurd (by unfold Wi; decide) a4972
      · refine lv_iload_n hx hb gX2_isUnder_1.2.1 rfl (lv_at1 hl) ?_
        refine lv_iconst (v := 0) hx hb gX2_isUnder_1.2.2.1 (by decide) ?_
        refine lv_bipush (v := 6) hx hb gX2_isUnder_1.2.2.2.1 (by decide) ?_
        refine pSN hC hK hl (c_within l G 0 0 6) si_X2_61 rfl rfl (Nat.le_of_ble_eq_true rfl) rm_3_1_3 ⟨by first | exact Nat.le_of_ble_eq_true rfl | exact Nat.zero_le _, by first | exact Nat.le_of_ble_eq_true rfl | exact Nat.zero_le _⟩ gX2_isUnder_1.2.2.2.2.1 (Kors (Keqa fun a4974 => ?_) (Keqa fun a4974 => ?_))
        · refine lv_if_eq (tgt := 40) hx hb gX2_isUnder_1.2.2.2.2.2.1 (by decide) (fun c9 => absurd c9 (by decide)) (fun _ => ?_)
          refine va_gets hx hb hO.1.2.2.2.1 hS hown (hB _ m_957) (fun _ h => h) gX2_isUnder_1.2.2.2.2.2.2.1 ?_
          refine lv_iload_n hx hb gX2_isUnder_1.2.2.2.2.2.2.2.1 rfl (lv_at1 hl) ?_
          refine va_ti hx hb hO.1.2.2.2.2.1 hS (vin (by decide +kernel)) (v := .int (ABV.getD 0 0)) (congrArg (fun z9 => Value.int (ABV.getD z9 0)) (by decide +kernel)) gX2_isUnder_1.2.2.2.2.2.2.2.2.1 ?_
          refine eqi (x1 := (-1)) (by decide) ?_
          refine lv_istore_n (lv' := [(2, .int (-1)), (3, .int 1), (0, .ref h0), (1, .int as9)]) hx hb gX2_isUnder_1.2.2.2.2.2.2.2.2.2 rfl hl (by decide) rfl (fun ls hl => ?_)
          refine lv_iinc (v := 2) (lv' := [(3, .int 2), (2, .int (-1)), (0, .ref h0), (1, .int as9)]) hx hb gX2_isUnder_2.1 hl (k := 1) rfl (by decide) (by decide) rfl (fun ls hl => ?_)
          refine lv_goto (tgt := 7) hx hb gX2_isUnder_2.2.1 (by decide) ?_
          refine lv_iload_n hx hb gX2_isUnder_0.2.2.2.2.2.1 rfl (lv_at0 hl) ?_
          refine lv_bipush (v := 7) hx hb gX2_isUnder_0.2.2.2.2.2.2.1 (by decide) ?_
          refine lv_icmp_ge (tgt := 40) hx hb gX2_isUnder_0.2.2.2.2.2.2.2.1 (by decide) (fun c9 => absurd c9 (by decide)) (fun _ => ?_)
          refine lv_iload_n hx hb gX2_isUnder_0.2.2.2.2.2.2.2.2.1 rfl (lv_at1 hl) ?_
          refine lv_iload_n hx hb gX2_isUnder_0.2.2.2.2.2.2.2.2.2 rfl (lv_at3 hl) ?_
          refine lv_icmp_eq (tgt := 40) hx hb gX2_isUnder_1.1 (by decide) (fun c_15_4975 => ?_) (fun c_15_4975 => ?_)
          · refine lv_iload_n hx hb gX2_isUnder_2.2.2.1 rfl (lv_at1 hl) ?_
            refine lv_iload_n hx hb gX2_isUnder_2.2.2.2.1 rfl (lv_at3 hl) ?_
            refine lv_icmp_ne (tgt := 59) hx hb gX2_isUnder_2.2.2.2.2.1 (by decide) (fun c9 => absurd (c_15_4975) c9) (fun _ => ?_)
            refine lv_iload_n hx hb gX2_isUnder_2.2.2.2.2.2.1 rfl (lv_at1 hl) ?_
            refine lv_iconst (v := 0) hx hb gX2_isUnder_2.2.2.2.2.2.2.1 (by decide) ?_
            refine lv_bipush (v := 6) hx hb gX2_isUnder_2.2.2.2.2.2.2.2.1 (by decide) ?_
            refine pSN hC hK hl (c_within l G (-1) 0 6) si_X2_61 rfl rfl (Nat.le_of_ble_eq_true rfl) rm_3_1_3 ⟨by first | exact Nat.le_of_ble_eq_true rfl | exact Nat.zero_le _, by first | exact Nat.le_of_ble_eq_true rfl | exact Nat.zero_le _⟩ gX2_isUnder_2.2.2.2.2.2.2.2.2.1 (Kors (Keqa fun a4977 => ?_) (Keqa fun a4977 => ?_))
            · exact absurd a4977 (by unfold Wi; decide)
            · refine lv_if_eq (tgt := 59) hx hb gX2_isUnder_2.2.2.2.2.2.2.2.2.2 (by decide) (fun _ => ?_) (fun c9 => absurd (by decide) c9)
              refine lv_iconst (v := 0) hx hb gX2_isUnder_3.2.2.1 (by decide) ?_
              refine toQ hQ0 ?_
              exact RP (v := 0) hC (Or.inr ⟨rfl, fun h9 => (show False from by
                have h9 : as9 = 4 ∨ as9 = 0 := h9
                rcases h9 with h8 | h8 <;> (first | exact c_15_4965 h8.symm | exact c_15_4970 h8.symm))⟩) (by decide +kernel) gX2_isUnder_3.2.2.2
          · refine lv_iload_n hx hb gX2_isUnder_1.2.1 rfl (lv_at1 hl) ?_
            refine lv_iconst (v := 0) hx hb gX2_isUnder_1.2.2.1 (by decide) ?_
            refine lv_bipush (v := 6) hx hb gX2_isUnder_1.2.2.2.1 (by decide) ?_
            refine pSN hC hK hl (c_within l G (-1) 0 6) si_X2_61 rfl rfl (Nat.le_of_ble_eq_true rfl) rm_3_1_3 ⟨by first | exact Nat.le_of_ble_eq_true rfl | exact Nat.zero_le _, by first | exact Nat.le_of_ble_eq_true rfl | exact Nat.zero_le _⟩ gX2_isUnder_1.2.2.2.2.1 (Kors (Keqa fun a4979 => ?_) (Keqa fun a4979 => ?_))
            · exact absurd a4979 (by unfold Wi; decide)
            · refine lv_if_eq (tgt := 40) hx hb gX2_isUnder_1.2.2.2.2.2.1 (by decide) (fun _ => ?_) (fun c9 => absurd (by decide) c9)
              refine lv_iload_n hx hb gX2_isUnder_2.2.2.1 rfl (lv_at1 hl) ?_
              refine lv_iload_n hx hb gX2_isUnder_2.2.2.2.1 rfl (lv_at3 hl) ?_
              refine lv_icmp_ne (tgt := 59) hx hb gX2_isUnder_2.2.2.2.2.1 (by decide) (fun _ => ?_) (fun c9 => absurd c9 (c_15_4975))
              refine lv_iconst (v := 0) hx hb gX2_isUnder_3.2.2.1 (by decide) ?_
              refine toQ hQ0 ?_
              exact RP (v := 0) hC (Or.inr ⟨rfl, fun h9 => (show False from by
                have h9 : as9 = 4 ∨ as9 = 0 := h9
                rcases h9 with h8 | h8 <;> (first | exact c_15_4965 h8.symm | exact c_15_4970 h8.symm))⟩) (by decide +kernel) gX2_isUnder_3.2.2.2
        · exact absurd (by unfold Wi; decide) a4974
    · exact absurd (by unfold Wi; decide) a4969
def K_d_isUnder5 (l : Launch) (G : GG) (K : OO) (h0 : Nat) (as9 : Int32) (bb : Nat) (tr9 : Nat) (jr : Nat) (dn : Int32) (dp : Int32) (da : Int32) (dq : Int32) : Prop := MPo l G K yX2_isUnder cX2_isUnder 4 (some .boolean) 3 [.ref h0, .int as9] [(h0, oX2 bb tr9 (nI jr) 5 dn dp da dq)] (fun r : Int32 => (r = 1 ∧ UNl 5 as9) ∨ (r = 0 ∧ ¬ UNl 5 as9))
set_option maxHeartbeats 4000000 in
set_option maxRecDepth 100000 in
theorem d_isUnder5 (l : Launch) (G : GG) (K : OO) (h0 : Nat) (as9 : Int32) (bb : Nat) (tr9 : Nat) (jr : Nat) (dn : Int32) (dp : Int32) (da : Int32) (dq : Int32) : K_d_isUnder5 l G K h0 as9 bb tr9 jr dn dp da dq := by
  refine MPo.start (by decide +kernel) (Nat.le_of_ble_eq_true rfl) ?_
  intro p e s m below meth c ls hC hK hP hD hl hO hS
  refine absQ (fun Q0 hQ0 => ?_)
  have hl : lv_has ls 4 [(0, .ref h0), (1, .int as9)] := hl
  refine Kan8 hC (fun hx hb hr hml hB hown hlocks hnm => ?_)
  refine lv_aload_n hx hb gX2_isUnder_0.1 rfl (lv_at0 hl) ?_
  refine gf_X2_23 hC rfl hK hP 0 rfl rfl gX2_isUnder_0.2.1 ?_
  refine lv_istore_n (lv' := [(2, .int 5), (0, .ref h0), (1, .int as9)]) hx hb gX2_isUnder_0.2.2.1 rfl hl (by decide) rfl (fun ls hl => ?_)
  refine lv_iconst (v := 0) hx hb gX2_isUnder_0.2.2.2.1 (by decide) ?_
  refine lv_istore_n (lv' := [(3, .int 0), (2, .int 5), (0, .ref h0), (1, .int as9)]) hx hb gX2_isUnder_0.2.2.2.2.1 rfl hl (by decide) rfl (fun ls hl => ?_)
  refine lv_iload_n hx hb gX2_isUnder_0.2.2.2.2.2.1 rfl (lv_at0 hl) ?_
  refine lv_bipush (v := 7) hx hb gX2_isUnder_0.2.2.2.2.2.2.1 (by decide) ?_
  refine lv_icmp_ge (tgt := 40) hx hb gX2_isUnder_0.2.2.2.2.2.2.2.1 (by decide) (fun c9 => absurd c9 (by decide)) (fun _ => ?_)
  refine lv_iload_n hx hb gX2_isUnder_0.2.2.2.2.2.2.2.2.1 rfl (lv_at1 hl) ?_
  refine lv_iload_n hx hb gX2_isUnder_0.2.2.2.2.2.2.2.2.2 rfl (lv_at3 hl) ?_
  refine lv_icmp_eq (tgt := 40) hx hb gX2_isUnder_1.1 (by decide) (fun c_15_4980 => ?_) (fun c_15_4980 => ?_)
  · refine lv_iload_n hx hb gX2_isUnder_2.2.2.1 rfl (lv_at1 hl) ?_
    refine lv_iload_n hx hb gX2_isUnder_2.2.2.2.1 rfl (lv_at3 hl) ?_
    refine lv_icmp_ne (tgt := 59) hx hb gX2_isUnder_2.2.2.2.2.1 (by decide) (fun c9 => absurd (c_15_4980) c9) (fun _ => ?_)
    refine lv_iload_n hx hb gX2_isUnder_2.2.2.2.2.2.1 rfl (lv_at1 hl) ?_
    refine lv_iconst (v := 0) hx hb gX2_isUnder_2.2.2.2.2.2.2.1 (by decide) ?_
    refine lv_bipush (v := 6) hx hb gX2_isUnder_2.2.2.2.2.2.2.2.1 (by decide) ?_
    refine pSN hC hK hl (c_within l G 5 0 6) si_X2_61 rfl rfl (Nat.le_of_ble_eq_true rfl) rm_3_1_3 ⟨by first | exact Nat.le_of_ble_eq_true rfl | exact Nat.zero_le _, by first | exact Nat.le_of_ble_eq_true rfl | exact Nat.zero_le _⟩ gX2_isUnder_2.2.2.2.2.2.2.2.2.1 (Kors (Keqa fun a4982 => ?_) (Keqa fun a4982 => ?_))
    · refine lv_if_eq (tgt := 59) hx hb gX2_isUnder_2.2.2.2.2.2.2.2.2.2 (by decide) (fun c9 => absurd c9 (by decide)) (fun _ => ?_)
      refine lv_iconst (v := 1) hx hb gX2_isUnder_3.1 (by decide) ?_
      refine lv_goto (tgt := 60) hx hb gX2_isUnder_3.2.1 (by decide) ?_
      refine toQ hQ0 ?_
      exact RP (v := 1) hC (Or.inl ⟨rfl, Or.inl (c_15_4980.symm)⟩) (by decide +kernel) gX2_isUnder_3.2.2.2
    · exact absurd (by unfold Wi; decide) a4982
  · refine lv_iload_n hx hb gX2_isUnder_1.2.1 rfl (lv_at1 hl) ?_
    refine lv_iconst (v := 0) hx hb gX2_isUnder_1.2.2.1 (by decide) ?_
    refine lv_bipush (v := 6) hx hb gX2_isUnder_1.2.2.2.1 (by decide) ?_
    refine pSN hC hK hl (c_within l G 5 0 6) si_X2_61 rfl rfl (Nat.le_of_ble_eq_true rfl) rm_3_1_3 ⟨by first | exact Nat.le_of_ble_eq_true rfl | exact Nat.zero_le _, by first | exact Nat.le_of_ble_eq_true rfl | exact Nat.zero_le _⟩ gX2_isUnder_1.2.2.2.2.1 (Kors (Keqa fun a4984 => ?_) (Keqa fun a4984 => ?_))
    · refine lv_if_eq (tgt := 40) hx hb gX2_isUnder_1.2.2.2.2.2.1 (by decide) (fun c9 => absurd c9 (by decide)) (fun _ => ?_)
      refine va_gets hx hb hO.1.2.2.2.1 hS hown (hB _ m_957) (fun _ h => h) gX2_isUnder_1.2.2.2.2.2.2.1 ?_
      refine lv_iload_n hx hb gX2_isUnder_1.2.2.2.2.2.2.2.1 rfl (lv_at1 hl) ?_
      refine va_ti hx hb hO.1.2.2.2.2.1 hS (vin (by decide +kernel)) (v := .int (ABV.getD 5 0)) (congrArg (fun z9 => Value.int (ABV.getD z9 0)) (by decide +kernel)) gX2_isUnder_1.2.2.2.2.2.2.2.2.1 ?_
      refine eqi (x1 := 4) (by decide) ?_
      refine lv_istore_n (lv' := [(2, .int 4), (3, .int 0), (0, .ref h0), (1, .int as9)]) hx hb gX2_isUnder_1.2.2.2.2.2.2.2.2.2 rfl hl (by decide) rfl (fun ls hl => ?_)
      refine lv_iinc (v := 1) (lv' := [(3, .int 1), (2, .int 4), (0, .ref h0), (1, .int as9)]) hx hb gX2_isUnder_2.1 hl (k := 1) rfl (by decide) (by decide) rfl (fun ls hl => ?_)
      refine lv_goto (tgt := 7) hx hb gX2_isUnder_2.2.1 (by decide) ?_
      refine lv_iload_n hx hb gX2_isUnder_0.2.2.2.2.2.1 rfl (lv_at0 hl) ?_
      refine lv_bipush (v := 7) hx hb gX2_isUnder_0.2.2.2.2.2.2.1 (by decide) ?_
      refine lv_icmp_ge (tgt := 40) hx hb gX2_isUnder_0.2.2.2.2.2.2.2.1 (by decide) (fun c9 => absurd c9 (by decide)) (fun _ => ?_)
      refine lv_iload_n hx hb gX2_isUnder_0.2.2.2.2.2.2.2.2.1 rfl (lv_at1 hl) ?_
      refine lv_iload_n hx hb gX2_isUnder_0.2.2.2.2.2.2.2.2.2 rfl (lv_at3 hl) ?_
      refine lv_icmp_eq (tgt := 40) hx hb gX2_isUnder_1.1 (by decide) (fun c_15_4985 => ?_) (fun c_15_4985 => ?_)
      · refine lv_iload_n hx hb gX2_isUnder_2.2.2.1 rfl (lv_at1 hl) ?_
        refine lv_iload_n hx hb gX2_isUnder_2.2.2.2.1 rfl (lv_at3 hl) ?_
        refine lv_icmp_ne (tgt := 59) hx hb gX2_isUnder_2.2.2.2.2.1 (by decide) (fun c9 => absurd (c_15_4985) c9) (fun _ => ?_)
        refine lv_iload_n hx hb gX2_isUnder_2.2.2.2.2.2.1 rfl (lv_at1 hl) ?_
        refine lv_iconst (v := 0) hx hb gX2_isUnder_2.2.2.2.2.2.2.1 (by decide) ?_
        refine lv_bipush (v := 6) hx hb gX2_isUnder_2.2.2.2.2.2.2.2.1 (by decide) ?_
        refine pSN hC hK hl (c_within l G 4 0 6) si_X2_61 rfl rfl (Nat.le_of_ble_eq_true rfl) rm_3_1_3 ⟨by first | exact Nat.le_of_ble_eq_true rfl | exact Nat.zero_le _, by first | exact Nat.le_of_ble_eq_true rfl | exact Nat.zero_le _⟩ gX2_isUnder_2.2.2.2.2.2.2.2.2.1 (Kors (Keqa fun a4987 => ?_) (Keqa fun a4987 => ?_))
        · refine lv_if_eq (tgt := 59) hx hb gX2_isUnder_2.2.2.2.2.2.2.2.2.2 (by decide) (fun c9 => absurd c9 (by decide)) (fun _ => ?_)
          refine lv_iconst (v := 1) hx hb gX2_isUnder_3.1 (by decide) ?_
          refine lv_goto (tgt := 60) hx hb gX2_isUnder_3.2.1 (by decide) ?_
          refine toQ hQ0 ?_
          exact RP (v := 1) hC (Or.inl ⟨rfl, Or.inr (Or.inl (c_15_4985.symm))⟩) (by decide +kernel) gX2_isUnder_3.2.2.2
        · exact absurd (by unfold Wi; decide) a4987
      · refine lv_iload_n hx hb gX2_isUnder_1.2.1 rfl (lv_at1 hl) ?_
        refine lv_iconst (v := 0) hx hb gX2_isUnder_1.2.2.1 (by decide) ?_
        refine lv_bipush (v := 6) hx hb gX2_isUnder_1.2.2.2.1 (by decide) ?_
        refine pSN hC hK hl (c_within l G 4 0 6) si_X2_61 rfl rfl (Nat.le_of_ble_eq_true rfl) rm_3_1_3 ⟨by first | exact Nat.le_of_ble_eq_true rfl | exact Nat.zero_le _, by first | exact Nat.le_of_ble_eq_true rfl | exact Nat.zero_le _⟩ gX2_isUnder_1.2.2.2.2.1 (Kors (Keqa fun a4989 => ?_) (Keqa fun a4989 => ?_))
        · refine lv_if_eq (tgt := 40) hx hb gX2_isUnder_1.2.2.2.2.2.1 (by decide) (fun c9 => absurd c9 (by decide)) (fun _ => ?_)
          refine va_gets hx hb hO.1.2.2.2.1 hS hown (hB _ m_957) (fun _ h => h) gX2_isUnder_1.2.2.2.2.2.2.1 ?_
          refine lv_iload_n hx hb gX2_isUnder_1.2.2.2.2.2.2.2.1 rfl (lv_at1 hl) ?_
          refine va_ti hx hb hO.1.2.2.2.2.1 hS (vin (by decide +kernel)) (v := .int (ABV.getD 4 0)) (congrArg (fun z9 => Value.int (ABV.getD z9 0)) (by decide +kernel)) gX2_isUnder_1.2.2.2.2.2.2.2.2.1 ?_
          refine eqi (x1 := 0) (by decide) ?_
          refine lv_istore_n (lv' := [(2, .int 0), (3, .int 1), (0, .ref h0), (1, .int as9)]) hx hb gX2_isUnder_1.2.2.2.2.2.2.2.2.2 rfl hl (by decide) rfl (fun ls hl => ?_)
          refine lv_iinc (v := 2) (lv' := [(3, .int 2), (2, .int 0), (0, .ref h0), (1, .int as9)]) hx hb gX2_isUnder_2.1 hl (k := 1) rfl (by decide) (by decide) rfl (fun ls hl => ?_)
          refine lv_goto (tgt := 7) hx hb gX2_isUnder_2.2.1 (by decide) ?_
          refine lv_iload_n hx hb gX2_isUnder_0.2.2.2.2.2.1 rfl (lv_at0 hl) ?_
          refine lv_bipush (v := 7) hx hb gX2_isUnder_0.2.2.2.2.2.2.1 (by decide) ?_
          refine lv_icmp_ge (tgt := 40) hx hb gX2_isUnder_0.2.2.2.2.2.2.2.1 (by decide) (fun c9 => absurd c9 (by decide)) (fun _ => ?_)
          refine lv_iload_n hx hb gX2_isUnder_0.2.2.2.2.2.2.2.2.1 rfl (lv_at1 hl) ?_
          refine lv_iload_n hx hb gX2_isUnder_0.2.2.2.2.2.2.2.2.2 rfl (lv_at3 hl) ?_
          refine lv_icmp_eq (tgt := 40) hx hb gX2_isUnder_1.1 (by decide) (fun c_15_4990 => ?_) (fun c_15_4990 => ?_)
          · refine lv_iload_n hx hb gX2_isUnder_2.2.2.1 rfl (lv_at1 hl) ?_
            refine lv_iload_n hx hb gX2_isUnder_2.2.2.2.1 rfl (lv_at3 hl) ?_
            refine lv_icmp_ne (tgt := 59) hx hb gX2_isUnder_2.2.2.2.2.1 (by decide) (fun c9 => absurd (c_15_4990) c9) (fun _ => ?_)
            refine lv_iload_n hx hb gX2_isUnder_2.2.2.2.2.2.1 rfl (lv_at1 hl) ?_
            refine lv_iconst (v := 0) hx hb gX2_isUnder_2.2.2.2.2.2.2.1 (by decide) ?_
            refine lv_bipush (v := 6) hx hb gX2_isUnder_2.2.2.2.2.2.2.2.1 (by decide) ?_
            refine pSN hC hK hl (c_within l G 0 0 6) si_X2_61 rfl rfl (Nat.le_of_ble_eq_true rfl) rm_3_1_3 ⟨by first | exact Nat.le_of_ble_eq_true rfl | exact Nat.zero_le _, by first | exact Nat.le_of_ble_eq_true rfl | exact Nat.zero_le _⟩ gX2_isUnder_2.2.2.2.2.2.2.2.2.1 (Kors (Keqa fun a4992 => ?_) (Keqa fun a4992 => ?_))
            · refine lv_if_eq (tgt := 59) hx hb gX2_isUnder_2.2.2.2.2.2.2.2.2.2 (by decide) (fun c9 => absurd c9 (by decide)) (fun _ => ?_)
              refine lv_iconst (v := 1) hx hb gX2_isUnder_3.1 (by decide) ?_
              refine lv_goto (tgt := 60) hx hb gX2_isUnder_3.2.1 (by decide) ?_
              refine toQ hQ0 ?_
              exact RP (v := 1) hC (Or.inl ⟨rfl, Or.inr (Or.inr (c_15_4990.symm))⟩) (by decide +kernel) gX2_isUnder_3.2.2.2
            · exact absurd (by unfold Wi; decide) a4992
          · refine lv_iload_n hx hb gX2_isUnder_1.2.1 rfl (lv_at1 hl) ?_
            refine lv_iconst (v := 0) hx hb gX2_isUnder_1.2.2.1 (by decide) ?_
            refine lv_bipush (v := 6) hx hb gX2_isUnder_1.2.2.2.1 (by decide) ?_
            refine pSN hC hK hl (c_within l G 0 0 6) si_X2_61 rfl rfl (Nat.le_of_ble_eq_true rfl) rm_3_1_3 ⟨by first | exact Nat.le_of_ble_eq_true rfl | exact Nat.zero_le _, by first | exact Nat.le_of_ble_eq_true rfl | exact Nat.zero_le _⟩ gX2_isUnder_1.2.2.2.2.1 (Kors (Keqa fun a4994 => ?_) (Keqa fun a4994 => ?_))
            · refine lv_if_eq (tgt := 40) hx hb gX2_isUnder_1.2.2.2.2.2.1 (by decide) (fun c9 => absurd c9 (by decide)) (fun _ => ?_)
              refine va_gets hx hb hO.1.2.2.2.1 hS hown (hB _ m_957) (fun _ h => h) gX2_isUnder_1.2.2.2.2.2.2.1 ?_
              refine lv_iload_n hx hb gX2_isUnder_1.2.2.2.2.2.2.2.1 rfl (lv_at1 hl) ?_
              refine va_ti hx hb hO.1.2.2.2.2.1 hS (vin (by decide +kernel)) (v := .int (ABV.getD 0 0)) (congrArg (fun z9 => Value.int (ABV.getD z9 0)) (by decide +kernel)) gX2_isUnder_1.2.2.2.2.2.2.2.2.1 ?_
              refine eqi (x1 := (-1)) (by decide) ?_
              refine lv_istore_n (lv' := [(2, .int (-1)), (3, .int 2), (0, .ref h0), (1, .int as9)]) hx hb gX2_isUnder_1.2.2.2.2.2.2.2.2.2 rfl hl (by decide) rfl (fun ls hl => ?_)
              refine lv_iinc (v := 3) (lv' := [(3, .int 3), (2, .int (-1)), (0, .ref h0), (1, .int as9)]) hx hb gX2_isUnder_2.1 hl (k := 1) rfl (by decide) (by decide) rfl (fun ls hl => ?_)
              refine lv_goto (tgt := 7) hx hb gX2_isUnder_2.2.1 (by decide) ?_
              refine lv_iload_n hx hb gX2_isUnder_0.2.2.2.2.2.1 rfl (lv_at0 hl) ?_
              refine lv_bipush (v := 7) hx hb gX2_isUnder_0.2.2.2.2.2.2.1 (by decide) ?_
              refine lv_icmp_ge (tgt := 40) hx hb gX2_isUnder_0.2.2.2.2.2.2.2.1 (by decide) (fun c9 => absurd c9 (by decide)) (fun _ => ?_)
              refine lv_iload_n hx hb gX2_isUnder_0.2.2.2.2.2.2.2.2.1 rfl (lv_at1 hl) ?_
              refine lv_iload_n hx hb gX2_isUnder_0.2.2.2.2.2.2.2.2.2 rfl (lv_at3 hl) ?_
              refine lv_icmp_eq (tgt := 40) hx hb gX2_isUnder_1.1 (by decide) (fun c_15_4995 => ?_) (fun c_15_4995 => ?_)
              · refine lv_iload_n hx hb gX2_isUnder_2.2.2.1 rfl (lv_at1 hl) ?_
                refine lv_iload_n hx hb gX2_isUnder_2.2.2.2.1 rfl (lv_at3 hl) ?_
                refine lv_icmp_ne (tgt := 59) hx hb gX2_isUnder_2.2.2.2.2.1 (by decide) (fun c9 => absurd (c_15_4995) c9) (fun _ => ?_)
                refine lv_iload_n hx hb gX2_isUnder_2.2.2.2.2.2.1 rfl (lv_at1 hl) ?_
                refine lv_iconst (v := 0) hx hb gX2_isUnder_2.2.2.2.2.2.2.1 (by decide) ?_
                refine lv_bipush (v := 6) hx hb gX2_isUnder_2.2.2.2.2.2.2.2.1 (by decide) ?_
                refine pSN hC hK hl (c_within l G (-1) 0 6) si_X2_61 rfl rfl (Nat.le_of_ble_eq_true rfl) rm_3_1_3 ⟨by first | exact Nat.le_of_ble_eq_true rfl | exact Nat.zero_le _, by first | exact Nat.le_of_ble_eq_true rfl | exact Nat.zero_le _⟩ gX2_isUnder_2.2.2.2.2.2.2.2.2.1 (Kors (Keqa fun a4997 => ?_) (Keqa fun a4997 => ?_))
                · exact absurd a4997 (by unfold Wi; decide)
                · refine lv_if_eq (tgt := 59) hx hb gX2_isUnder_2.2.2.2.2.2.2.2.2.2 (by decide) (fun _ => ?_) (fun c9 => absurd (by decide) c9)
                  refine lv_iconst (v := 0) hx hb gX2_isUnder_3.2.2.1 (by decide) ?_
                  refine toQ hQ0 ?_
                  exact RP (v := 0) hC (Or.inr ⟨rfl, fun h9 => (show False from by
                    have h9 : as9 = 5 ∨ as9 = 4 ∨ as9 = 0 := h9
                    rcases h9 with h8 | h8 | h8 <;> (first | exact c_15_4980 h8.symm | exact c_15_4985 h8.symm | exact c_15_4990 h8.symm))⟩) (by decide +kernel) gX2_isUnder_3.2.2.2
              · refine lv_iload_n hx hb gX2_isUnder_1.2.1 rfl (lv_at1 hl) ?_
                refine lv_iconst (v := 0) hx hb gX2_isUnder_1.2.2.1 (by decide) ?_
                refine lv_bipush (v := 6) hx hb gX2_isUnder_1.2.2.2.1 (by decide) ?_
                refine pSN hC hK hl (c_within l G (-1) 0 6) si_X2_61 rfl rfl (Nat.le_of_ble_eq_true rfl) rm_3_1_3 ⟨by first | exact Nat.le_of_ble_eq_true rfl | exact Nat.zero_le _, by first | exact Nat.le_of_ble_eq_true rfl | exact Nat.zero_le _⟩ gX2_isUnder_1.2.2.2.2.1 (Kors (Keqa fun a4999 => ?_) (Keqa fun a4999 => ?_))
                · exact absurd a4999 (by unfold Wi; decide)
                · refine lv_if_eq (tgt := 40) hx hb gX2_isUnder_1.2.2.2.2.2.1 (by decide) (fun _ => ?_) (fun c9 => absurd (by decide) c9)
                  refine lv_iload_n hx hb gX2_isUnder_2.2.2.1 rfl (lv_at1 hl) ?_
                  refine lv_iload_n hx hb gX2_isUnder_2.2.2.2.1 rfl (lv_at3 hl) ?_
                  refine lv_icmp_ne (tgt := 59) hx hb gX2_isUnder_2.2.2.2.2.1 (by decide) (fun _ => ?_) (fun c9 => absurd c9 (c_15_4995))
                  refine lv_iconst (v := 0) hx hb gX2_isUnder_3.2.2.1 (by decide) ?_
                  refine toQ hQ0 ?_
                  exact RP (v := 0) hC (Or.inr ⟨rfl, fun h9 => (show False from by
                    have h9 : as9 = 5 ∨ as9 = 4 ∨ as9 = 0 := h9
                    rcases h9 with h8 | h8 | h8 <;> (first | exact c_15_4980 h8.symm | exact c_15_4985 h8.symm | exact c_15_4990 h8.symm))⟩) (by decide +kernel) gX2_isUnder_3.2.2.2
            · exact absurd (by unfold Wi; decide) a4994
        · exact absurd (by unfold Wi; decide) a4989
    · exact absurd (by unfold Wi; decide) a4984
def K_d_isUnder6 (l : Launch) (G : GG) (K : OO) (h0 : Nat) (as9 : Int32) (bb : Nat) (tr9 : Nat) (jr : Nat) (dn : Int32) (dp : Int32) (da : Int32) (dq : Int32) : Prop := MPo l G K yX2_isUnder cX2_isUnder 4 (some .boolean) 3 [.ref h0, .int as9] [(h0, oX2 bb tr9 (nI jr) 6 dn dp da dq)] (fun r : Int32 => (r = 1 ∧ UNl 6 as9) ∨ (r = 0 ∧ ¬ UNl 6 as9))
set_option maxHeartbeats 4000000 in
set_option maxRecDepth 100000 in
theorem d_isUnder6 (l : Launch) (G : GG) (K : OO) (h0 : Nat) (as9 : Int32) (bb : Nat) (tr9 : Nat) (jr : Nat) (dn : Int32) (dp : Int32) (da : Int32) (dq : Int32) : K_d_isUnder6 l G K h0 as9 bb tr9 jr dn dp da dq := by
  refine MPo.start (by decide +kernel) (Nat.le_of_ble_eq_true rfl) ?_
  intro p e s m below meth c ls hC hK hP hD hl hO hS
  refine absQ (fun Q0 hQ0 => ?_)
  have hl : lv_has ls 4 [(0, .ref h0), (1, .int as9)] := hl
  refine Kan8 hC (fun hx hb hr hml hB hown hlocks hnm => ?_)
  refine lv_aload_n hx hb gX2_isUnder_0.1 rfl (lv_at0 hl) ?_
  refine gf_X2_23 hC rfl hK hP 0 rfl rfl gX2_isUnder_0.2.1 ?_
  refine lv_istore_n (lv' := [(2, .int 6), (0, .ref h0), (1, .int as9)]) hx hb gX2_isUnder_0.2.2.1 rfl hl (by decide) rfl (fun ls hl => ?_)
  refine lv_iconst (v := 0) hx hb gX2_isUnder_0.2.2.2.1 (by decide) ?_
  refine lv_istore_n (lv' := [(3, .int 0), (2, .int 6), (0, .ref h0), (1, .int as9)]) hx hb gX2_isUnder_0.2.2.2.2.1 rfl hl (by decide) rfl (fun ls hl => ?_)
  refine lv_iload_n hx hb gX2_isUnder_0.2.2.2.2.2.1 rfl (lv_at0 hl) ?_
  refine lv_bipush (v := 7) hx hb gX2_isUnder_0.2.2.2.2.2.2.1 (by decide) ?_
  refine lv_icmp_ge (tgt := 40) hx hb gX2_isUnder_0.2.2.2.2.2.2.2.1 (by decide) (fun c9 => absurd c9 (by decide)) (fun _ => ?_)
  refine lv_iload_n hx hb gX2_isUnder_0.2.2.2.2.2.2.2.2.1 rfl (lv_at1 hl) ?_
  refine lv_iload_n hx hb gX2_isUnder_0.2.2.2.2.2.2.2.2.2 rfl (lv_at3 hl) ?_
  refine lv_icmp_eq (tgt := 40) hx hb gX2_isUnder_1.1 (by decide) (fun c_15_5000 => ?_) (fun c_15_5000 => ?_)
  · refine lv_iload_n hx hb gX2_isUnder_2.2.2.1 rfl (lv_at1 hl) ?_
    refine lv_iload_n hx hb gX2_isUnder_2.2.2.2.1 rfl (lv_at3 hl) ?_
    refine lv_icmp_ne (tgt := 59) hx hb gX2_isUnder_2.2.2.2.2.1 (by decide) (fun c9 => absurd (c_15_5000) c9) (fun _ => ?_)
    refine lv_iload_n hx hb gX2_isUnder_2.2.2.2.2.2.1 rfl (lv_at1 hl) ?_
    refine lv_iconst (v := 0) hx hb gX2_isUnder_2.2.2.2.2.2.2.1 (by decide) ?_
    refine lv_bipush (v := 6) hx hb gX2_isUnder_2.2.2.2.2.2.2.2.1 (by decide) ?_
    refine pSN hC hK hl (c_within l G 6 0 6) si_X2_61 rfl rfl (Nat.le_of_ble_eq_true rfl) rm_3_1_3 ⟨by first | exact Nat.le_of_ble_eq_true rfl | exact Nat.zero_le _, by first | exact Nat.le_of_ble_eq_true rfl | exact Nat.zero_le _⟩ gX2_isUnder_2.2.2.2.2.2.2.2.2.1 (Kors (Keqa fun a5002 => ?_) (Keqa fun a5002 => ?_))
    · refine lv_if_eq (tgt := 59) hx hb gX2_isUnder_2.2.2.2.2.2.2.2.2.2 (by decide) (fun c9 => absurd c9 (by decide)) (fun _ => ?_)
      refine lv_iconst (v := 1) hx hb gX2_isUnder_3.1 (by decide) ?_
      refine lv_goto (tgt := 60) hx hb gX2_isUnder_3.2.1 (by decide) ?_
      refine toQ hQ0 ?_
      exact RP (v := 1) hC (Or.inl ⟨rfl, Or.inl (c_15_5000.symm)⟩) (by decide +kernel) gX2_isUnder_3.2.2.2
    · exact absurd (by unfold Wi; decide) a5002
  · refine lv_iload_n hx hb gX2_isUnder_1.2.1 rfl (lv_at1 hl) ?_
    refine lv_iconst (v := 0) hx hb gX2_isUnder_1.2.2.1 (by decide) ?_
    refine lv_bipush (v := 6) hx hb gX2_isUnder_1.2.2.2.1 (by decide) ?_
    refine pSN hC hK hl (c_within l G 6 0 6) si_X2_61 rfl rfl (Nat.le_of_ble_eq_true rfl) rm_3_1_3 ⟨by first | exact Nat.le_of_ble_eq_true rfl | exact Nat.zero_le _, by first | exact Nat.le_of_ble_eq_true rfl | exact Nat.zero_le _⟩ gX2_isUnder_1.2.2.2.2.1 (Kors (Keqa fun a5004 => ?_) (Keqa fun a5004 => ?_))
    · refine lv_if_eq (tgt := 40) hx hb gX2_isUnder_1.2.2.2.2.2.1 (by decide) (fun c9 => absurd c9 (by decide)) (fun _ => ?_)
      refine va_gets hx hb hO.1.2.2.2.1 hS hown (hB _ m_957) (fun _ h => h) gX2_isUnder_1.2.2.2.2.2.2.1 ?_
      refine lv_iload_n hx hb gX2_isUnder_1.2.2.2.2.2.2.2.1 rfl (lv_at1 hl) ?_
      refine va_ti hx hb hO.1.2.2.2.2.1 hS (vin (by decide +kernel)) (v := .int (ABV.getD 6 0)) (congrArg (fun z9 => Value.int (ABV.getD z9 0)) (by decide +kernel)) gX2_isUnder_1.2.2.2.2.2.2.2.2.1 ?_
      refine eqi (x1 := 0) (by decide) ?_
      refine lv_istore_n (lv' := [(2, .int 0), (3, .int 0), (0, .ref h0), (1, .int as9)]) hx hb gX2_isUnder_1.2.2.2.2.2.2.2.2.2 rfl hl (by decide) rfl (fun ls hl => ?_)
      refine lv_iinc (v := 1) (lv' := [(3, .int 1), (2, .int 0), (0, .ref h0), (1, .int as9)]) hx hb gX2_isUnder_2.1 hl (k := 1) rfl (by decide) (by decide) rfl (fun ls hl => ?_)
      refine lv_goto (tgt := 7) hx hb gX2_isUnder_2.2.1 (by decide) ?_
      refine lv_iload_n hx hb gX2_isUnder_0.2.2.2.2.2.1 rfl (lv_at0 hl) ?_
      refine lv_bipush (v := 7) hx hb gX2_isUnder_0.2.2.2.2.2.2.1 (by decide) ?_
      refine lv_icmp_ge (tgt := 40) hx hb gX2_isUnder_0.2.2.2.2.2.2.2.1 (by decide) (fun c9 => absurd c9 (by decide)) (fun _ => ?_)
      refine lv_iload_n hx hb gX2_isUnder_0.2.2.2.2.2.2.2.2.1 rfl (lv_at1 hl) ?_
      refine lv_iload_n hx hb gX2_isUnder_0.2.2.2.2.2.2.2.2.2 rfl (lv_at3 hl) ?_
      refine lv_icmp_eq (tgt := 40) hx hb gX2_isUnder_1.1 (by decide) (fun c_15_5005 => ?_) (fun c_15_5005 => ?_)
      · refine lv_iload_n hx hb gX2_isUnder_2.2.2.1 rfl (lv_at1 hl) ?_
        refine lv_iload_n hx hb gX2_isUnder_2.2.2.2.1 rfl (lv_at3 hl) ?_
        refine lv_icmp_ne (tgt := 59) hx hb gX2_isUnder_2.2.2.2.2.1 (by decide) (fun c9 => absurd (c_15_5005) c9) (fun _ => ?_)
        refine lv_iload_n hx hb gX2_isUnder_2.2.2.2.2.2.1 rfl (lv_at1 hl) ?_
        refine lv_iconst (v := 0) hx hb gX2_isUnder_2.2.2.2.2.2.2.1 (by decide) ?_
        refine lv_bipush (v := 6) hx hb gX2_isUnder_2.2.2.2.2.2.2.2.1 (by decide) ?_
        refine pSN hC hK hl (c_within l G 0 0 6) si_X2_61 rfl rfl (Nat.le_of_ble_eq_true rfl) rm_3_1_3 ⟨by first | exact Nat.le_of_ble_eq_true rfl | exact Nat.zero_le _, by first | exact Nat.le_of_ble_eq_true rfl | exact Nat.zero_le _⟩ gX2_isUnder_2.2.2.2.2.2.2.2.2.1 (Kors (Keqa fun a5007 => ?_) (Keqa fun a5007 => ?_))
        · refine lv_if_eq (tgt := 59) hx hb gX2_isUnder_2.2.2.2.2.2.2.2.2.2 (by decide) (fun c9 => absurd c9 (by decide)) (fun _ => ?_)
          refine lv_iconst (v := 1) hx hb gX2_isUnder_3.1 (by decide) ?_
          refine lv_goto (tgt := 60) hx hb gX2_isUnder_3.2.1 (by decide) ?_
          refine toQ hQ0 ?_
          exact RP (v := 1) hC (Or.inl ⟨rfl, Or.inr (c_15_5005.symm)⟩) (by decide +kernel) gX2_isUnder_3.2.2.2
        · exact absurd (by unfold Wi; decide) a5007
      · refine lv_iload_n hx hb gX2_isUnder_1.2.1 rfl (lv_at1 hl) ?_
        refine lv_iconst (v := 0) hx hb gX2_isUnder_1.2.2.1 (by decide) ?_
        refine lv_bipush (v := 6) hx hb gX2_isUnder_1.2.2.2.1 (by decide) ?_
        refine pSN hC hK hl (c_within l G 0 0 6) si_X2_61 rfl rfl (Nat.le_of_ble_eq_true rfl) rm_3_1_3 ⟨by first | exact Nat.le_of_ble_eq_true rfl | exact Nat.zero_le _, by first | exact Nat.le_of_ble_eq_true rfl | exact Nat.zero_le _⟩ gX2_isUnder_1.2.2.2.2.1 (Kors (Keqa fun a5009 => ?_) (Keqa fun a5009 => ?_))
        · refine lv_if_eq (tgt := 40) hx hb gX2_isUnder_1.2.2.2.2.2.1 (by decide) (fun c9 => absurd c9 (by decide)) (fun _ => ?_)
          refine va_gets hx hb hO.1.2.2.2.1 hS hown (hB _ m_957) (fun _ h => h) gX2_isUnder_1.2.2.2.2.2.2.1 ?_
          refine lv_iload_n hx hb gX2_isUnder_1.2.2.2.2.2.2.2.1 rfl (lv_at1 hl) ?_
          refine va_ti hx hb hO.1.2.2.2.2.1 hS (vin (by decide +kernel)) (v := .int (ABV.getD 0 0)) (congrArg (fun z9 => Value.int (ABV.getD z9 0)) (by decide +kernel)) gX2_isUnder_1.2.2.2.2.2.2.2.2.1 ?_
          refine eqi (x1 := (-1)) (by decide) ?_
          refine lv_istore_n (lv' := [(2, .int (-1)), (3, .int 1), (0, .ref h0), (1, .int as9)]) hx hb gX2_isUnder_1.2.2.2.2.2.2.2.2.2 rfl hl (by decide) rfl (fun ls hl => ?_)
          refine lv_iinc (v := 2) (lv' := [(3, .int 2), (2, .int (-1)), (0, .ref h0), (1, .int as9)]) hx hb gX2_isUnder_2.1 hl (k := 1) rfl (by decide) (by decide) rfl (fun ls hl => ?_)
          refine lv_goto (tgt := 7) hx hb gX2_isUnder_2.2.1 (by decide) ?_
          refine lv_iload_n hx hb gX2_isUnder_0.2.2.2.2.2.1 rfl (lv_at0 hl) ?_
          refine lv_bipush (v := 7) hx hb gX2_isUnder_0.2.2.2.2.2.2.1 (by decide) ?_
          refine lv_icmp_ge (tgt := 40) hx hb gX2_isUnder_0.2.2.2.2.2.2.2.1 (by decide) (fun c9 => absurd c9 (by decide)) (fun _ => ?_)
          refine lv_iload_n hx hb gX2_isUnder_0.2.2.2.2.2.2.2.2.1 rfl (lv_at1 hl) ?_
          refine lv_iload_n hx hb gX2_isUnder_0.2.2.2.2.2.2.2.2.2 rfl (lv_at3 hl) ?_
          refine lv_icmp_eq (tgt := 40) hx hb gX2_isUnder_1.1 (by decide) (fun c_15_5010 => ?_) (fun c_15_5010 => ?_)
          · refine lv_iload_n hx hb gX2_isUnder_2.2.2.1 rfl (lv_at1 hl) ?_
            refine lv_iload_n hx hb gX2_isUnder_2.2.2.2.1 rfl (lv_at3 hl) ?_
            refine lv_icmp_ne (tgt := 59) hx hb gX2_isUnder_2.2.2.2.2.1 (by decide) (fun c9 => absurd (c_15_5010) c9) (fun _ => ?_)
            refine lv_iload_n hx hb gX2_isUnder_2.2.2.2.2.2.1 rfl (lv_at1 hl) ?_
            refine lv_iconst (v := 0) hx hb gX2_isUnder_2.2.2.2.2.2.2.1 (by decide) ?_
            refine lv_bipush (v := 6) hx hb gX2_isUnder_2.2.2.2.2.2.2.2.1 (by decide) ?_
            refine pSN hC hK hl (c_within l G (-1) 0 6) si_X2_61 rfl rfl (Nat.le_of_ble_eq_true rfl) rm_3_1_3 ⟨by first | exact Nat.le_of_ble_eq_true rfl | exact Nat.zero_le _, by first | exact Nat.le_of_ble_eq_true rfl | exact Nat.zero_le _⟩ gX2_isUnder_2.2.2.2.2.2.2.2.2.1 (Kors (Keqa fun a5012 => ?_) (Keqa fun a5012 => ?_))
            · exact absurd a5012 (by unfold Wi; decide)
            · refine lv_if_eq (tgt := 59) hx hb gX2_isUnder_2.2.2.2.2.2.2.2.2.2 (by decide) (fun _ => ?_) (fun c9 => absurd (by decide) c9)
              refine lv_iconst (v := 0) hx hb gX2_isUnder_3.2.2.1 (by decide) ?_
              refine toQ hQ0 ?_
              exact RP (v := 0) hC (Or.inr ⟨rfl, fun h9 => (show False from by
                have h9 : as9 = 6 ∨ as9 = 0 := h9
                rcases h9 with h8 | h8 <;> (first | exact c_15_5000 h8.symm | exact c_15_5005 h8.symm))⟩) (by decide +kernel) gX2_isUnder_3.2.2.2
          · refine lv_iload_n hx hb gX2_isUnder_1.2.1 rfl (lv_at1 hl) ?_
            refine lv_iconst (v := 0) hx hb gX2_isUnder_1.2.2.1 (by decide) ?_
            refine lv_bipush (v := 6) hx hb gX2_isUnder_1.2.2.2.1 (by decide) ?_
            refine pSN hC hK hl (c_within l G (-1) 0 6) si_X2_61 rfl rfl (Nat.le_of_ble_eq_true rfl) rm_3_1_3 ⟨by first | exact Nat.le_of_ble_eq_true rfl | exact Nat.zero_le _, by first | exact Nat.le_of_ble_eq_true rfl | exact Nat.zero_le _⟩ gX2_isUnder_1.2.2.2.2.1 (Kors (Keqa fun a5014 => ?_) (Keqa fun a5014 => ?_))
            · exact absurd a5014 (by unfold Wi; decide)
            · refine lv_if_eq (tgt := 40) hx hb gX2_isUnder_1.2.2.2.2.2.1 (by decide) (fun _ => ?_) (fun c9 => absurd (by decide) c9)
              refine lv_iload_n hx hb gX2_isUnder_2.2.2.1 rfl (lv_at1 hl) ?_
              refine lv_iload_n hx hb gX2_isUnder_2.2.2.2.1 rfl (lv_at3 hl) ?_
              refine lv_icmp_ne (tgt := 59) hx hb gX2_isUnder_2.2.2.2.2.1 (by decide) (fun _ => ?_) (fun c9 => absurd c9 (c_15_5010))
              refine lv_iconst (v := 0) hx hb gX2_isUnder_3.2.2.1 (by decide) ?_
              refine toQ hQ0 ?_
              exact RP (v := 0) hC (Or.inr ⟨rfl, fun h9 => (show False from by
                have h9 : as9 = 6 ∨ as9 = 0 := h9
                rcases h9 with h8 | h8 <;> (first | exact c_15_5000 h8.symm | exact c_15_5005 h8.symm))⟩) (by decide +kernel) gX2_isUnder_3.2.2.2
        · exact absurd (by unfold Wi; decide) a5009
    · exact absurd (by unfold Wi; decide) a5004
def K_d_graspO (l : Launch) (G : GG) (h0 : Nat) (wh : Int32) (nu : Int32) (bb : Nat) (tr9 : Nat) (jr : Nat) (dk : Int32) (dn : Int32) (dp : Int32) (da : Int32) (dq : Int32) (bpersons : Nat) (bpapers : Nat) (bstamps : Nat) (bversions : Nat) (blines : Nat) (bsteps : Nat) (bsayings : Nat) (bfindings : Nat) (bwarnings : Nat) (bquestions : Nat) (td : Int32) (vd : Int32) (vl : Int32) (gp : Int32) (bfindingsc : Nat) (kbfindings : Nat) (fbfindings : Nat → Int32) : Prop := MV l G yX2_grasp cX2_grasp 3 5 0 0 [.ref h0, .int wh, .int nu] [(h0, oX2 bb tr9 (nI jr) dk dn dp da dq), (bb, oX0 bpersons bpapers bstamps bversions blines bsteps bsayings bfindings bwarnings bquestions td vd vl gp), (bfindings, oX8 12 4 bfindingsc (nI kbfindings)), (bfindingsc, iA G 48 fbfindings)] (fun u : Int32 × Int32 => True) (fun u : Int32 × Int32 => [(h0, oX2 bb tr9 (nI jr) 6 nu u.1 u.2 dq), (bb, oX0 bpersons bpapers bstamps bversions blines bsteps bsayings bfindings bwarnings bquestions td vd vl gp), (bfindings, oX8 12 4 bfindingsc (nI kbfindings)), (bfindingsc, iA G 48 fbfindings)])
set_option maxHeartbeats 4000000 in
set_option maxRecDepth 100000 in
theorem d_graspO (l : Launch) (G : GG) (h0 : Nat) (wh : Int32) (nu : Int32) (bb : Nat) (tr9 : Nat) (jr : Nat) (dk : Int32) (dn : Int32) (dp : Int32) (da : Int32) (dq : Int32) (bpersons : Nat) (bpapers : Nat) (bstamps : Nat) (bversions : Nat) (blines : Nat) (bsteps : Nat) (bsayings : Nat) (bfindings : Nat) (bwarnings : Nat) (bquestions : Nat) (td : Int32) (vd : Int32) (vl : Int32) (gp : Int32) (bfindingsc : Nat) (kbfindings : Nat) (fbfindings : Nat → Int32) (hkbfindings : kbfindings ≤ 12) (hw0 : ¬ wh = 0) (hw1 : ¬ wh = 1) : K_d_graspO l G h0 wh nu bb tr9 jr dk dn dp da dq bpersons bpapers bstamps bversions blines bsteps bsayings bfindings bwarnings bquestions td vd vl gp bfindingsc kbfindings fbfindings := by
  refine MV.start (by decide +kernel) (Nat.le_of_ble_eq_true rfl) ?_
  intro p e s m below meth c A ls hC hK hP hD hS hA hl
  refine absQ (fun Q0 hQ0 => ?_)
  have hl : lv_has ls 3 [(0, .ref h0), (1, .int wh), (2, .int nu)] := hl
  refine Kan8 hC (fun hx hb hr hml hB hown hlocks hnm => ?_)
  refine lv_aload_n hx hb gX2_grasp_0.1 rfl (lv_at0 hl) ?_
  refine lv_iload_n hx hb gX2_grasp_0.2.1 rfl (lv_at2 hl) ?_
  refine pf_X2_26 hC rfl hK hP hD hS 0 (ws' := [(h0, oX2 bb tr9 (nI jr) dk nu dp da dq), (bb, oX0 bpersons bpapers bstamps bversions blines bsteps bsayings bfindings bwarnings bquestions td vd vl gp), (bfindings, oX8 12 4 bfindingsc (nI kbfindings)), (bfindingsc, iA G 48 fbfindings)]) rfl (Nat.le_of_ble_eq_true rfl) rfl rfl rfl gX2_grasp_0.2.2.1 (fun H locs hP hD hS => ?_)
  refine lv_iload_n hx hb gX2_grasp_0.2.2.2.1 rfl (lv_at1 hl) ?_
  refine lv_if_ne (tgt := 53) hx hb gX2_grasp_0.2.2.2.2.1 (by decide) (fun _ => ?_) (fun c9 => absurd c9 (hw0))
  refine lv_iload_n hx hb gX2_grasp_2.2.2.2.2.2.2.2.1 rfl (lv_at1 hl) ?_
  refine lv_iconst (v := 1) hx hb gX2_grasp_2.2.2.2.2.2.2.2.2.1 (by decide) ?_
  refine lv_icmp_ne (tgt := 118) hx hb gX2_grasp_2.2.2.2.2.2.2.2.2.2 (by decide) (fun _ => ?_) (fun c9 => absurd c9 (hw1))
  refine lv_aload_n hx hb gX2_grasp_5.2.2.2.2.2.2.2.2.2 rfl (lv_at0 hl) ?_
  refine lv_bipush (v := 6) hx hb gX2_grasp_6.1 (by decide) ?_
  refine pf_X2_23 hC rfl hK hP hD hS 0 (ws' := [(h0, oX2 bb tr9 (nI jr) 6 nu dp da dq), (bb, oX0 bpersons bpapers bstamps bversions blines bsteps bsayings bfindings bwarnings bquestions td vd vl gp), (bfindings, oX8 12 4 bfindingsc (nI kbfindings)), (bfindingsc, iA G 48 fbfindings)]) rfl (Nat.le_of_ble_eq_true rfl) rfl rfl rfl gX2_grasp_6.2.1 (fun H locs hP hD hS => ?_)
  refine lv_aload_n hx hb gX2_grasp_6.2.2.1 rfl (lv_at0 hl) ?_
  refine lv_aload_n hx hb gX2_grasp_6.2.2.2.1 rfl (lv_at0 hl) ?_
  refine gf_X2_15 hC rfl hK hP 0 rfl rfl gX2_grasp_6.2.2.2.2.1 ?_
  refine gf_X2_58 hC rfl hK hP 1 rfl rfl gX2_grasp_6.2.2.2.2.2.1 ?_
  refine lv_iload_n hx hb gX2_grasp_6.2.2.2.2.2.2.1 rfl (lv_at2 hl) ?_
  refine lv_iconst (v := 0) hx hb gX2_grasp_6.2.2.2.2.2.2.2.1 (by decide) ?_
  refine pV hC hK hl hP hD (c_T_at l G bfindings nu 0 12 4 bfindingsc kbfindings fbfindings (hkbfindings) (by omega) (by omega)) si_X2_49 [2, 3] sm_2_3 fm_2_3 nd_2_3 rfl rfl rfl rfl rfl (Nat.le_of_ble_eq_true rfl) rm_5_1_3 ⟨by first | exact Nat.le_of_ble_eq_true rfl | exact Nat.zero_le _, by first | exact Nat.le_of_ble_eq_true rfl | exact Nat.zero_le _⟩ gX2_grasp_6.2.2.2.2.2.2.2.2.1 (fun r5015 hr5015 => ?_)
  refine pf_X2_29 hC rfl hK hP hD hS 0 (ws' := [(h0, oX2 bb tr9 (nI jr) 6 nu r5015 da dq), (bb, oX0 bpersons bpapers bstamps bversions blines bsteps bsayings bfindings bwarnings bquestions td vd vl gp), (bfindings, oX8 12 4 bfindingsc (nI kbfindings)), (bfindingsc, iA G 48 fbfindings)]) rfl (Nat.le_of_ble_eq_true rfl) rfl rfl rfl gX2_grasp_6.2.2.2.2.2.2.2.2.2 (fun H locs hP hD hS => ?_)
  refine lv_aload_n hx hb gX2_grasp_7.1 rfl (lv_at0 hl) ?_
  refine lv_aload_n hx hb gX2_grasp_7.2.1 rfl (lv_at0 hl) ?_
  refine gf_X2_15 hC rfl hK hP 0 rfl rfl gX2_grasp_7.2.2.1 ?_
  refine gf_X2_58 hC rfl hK hP 1 rfl rfl gX2_grasp_7.2.2.2.1 ?_
  refine lv_iload_n hx hb gX2_grasp_7.2.2.2.2.1 rfl (lv_at2 hl) ?_
  refine lv_iconst (v := 2) hx hb gX2_grasp_7.2.2.2.2.2.1 (by decide) ?_
  refine pV hC hK hl hP hD (c_T_at l G bfindings nu 2 12 4 bfindingsc kbfindings fbfindings (hkbfindings) (by omega) (by omega)) si_X2_49 [2, 3] sm_2_3 fm_2_3 nd_2_3 rfl rfl rfl rfl rfl (Nat.le_of_ble_eq_true rfl) rm_5_1_3 ⟨by first | exact Nat.le_of_ble_eq_true rfl | exact Nat.zero_le _, by first | exact Nat.le_of_ble_eq_true rfl | exact Nat.zero_le _⟩ gX2_grasp_7.2.2.2.2.2.2.1 (fun r5017 hr5017 => ?_)
  refine pf_X2_32 hC rfl hK hP hD hS 0 (ws' := [(h0, oX2 bb tr9 (nI jr) 6 nu r5015 r5017 dq), (bb, oX0 bpersons bpapers bstamps bversions blines bsteps bsayings bfindings bwarnings bquestions td vd vl gp), (bfindings, oX8 12 4 bfindingsc (nI kbfindings)), (bfindingsc, iA G 48 fbfindings)]) rfl (Nat.le_of_ble_eq_true rfl) rfl rfl rfl gX2_grasp_7.2.2.2.2.2.2.2.1 (fun H locs hP hD hS => ?_)
  refine toQ hQ0 ?_
  exact RV hC hP hD hS [0, 1, 2, 3] (r5015, r5017) rfl rfl (by decide) (trivial) gX2_grasp_7.2.2.2.2.2.2.2.2
def K_p_taken (l : Launch) (G : GG) (K : OO) (h0 : Nat) (x1 : Int32) (x2 : Int32) (bb : Nat) (kk : Nat) (ikp : Int32) (sg : Nat) (do9 : Nat) (ru9 : Nat) (ta9 : Nat) (tp9 : Nat) (ro9 : Nat) (ho9 : Nat) (de9 : Nat) (bpersons : Nat) (bpapers : Nat) (bstamps : Nat) (bversions : Nat) (blines : Nat) (bsteps : Nat) (bsayings : Nat) (bfindings : Nat) (bwarnings : Nat) (bquestions : Nat) (td : Int32) (vd : Int32) (vl : Int32) (gp : Int32) (bpapersc : Nat) (kbpapers : Nat) (fbpapers : Nat → Int32) (bsayingsc : Nat) (kbsayings : Nat) (fbsayings : Nat → Int32) (bfindingsc : Nat) (kbfindings : Nat) (fbfindings : Nat → Int32) (hs : Nat) (hz : Nat) (hi : Nat) (hw : Nat) (hn : Nat) (ht : Nat) (fhw : Nat → Int32) (fhn : Nat → Int32) (fht : Nat → Int32) (tr9 : Nat) (jr : Nat) (dk : Int32) (dn : Int32) (dp : Int32) (da : Int32) (dq : Int32) : Prop := MIo l G K yX11_taken cX11_taken 4 (some .int) 7 0 0 [.ref h0, .int x1, .int x2] [(h0, oX11 bb kk ikp sg do9 ru9 ta9 tp9 ro9 ho9 de9), (bb, oX0 bpersons bpapers bstamps bversions blines bsteps bsayings bfindings bwarnings bquestions td vd vl gp), (bpapers, oX8 12 6 bpapersc (nI kbpapers)), (bpapersc, iA G 72 fbpapers), (bsayings, oX8 16 8 bsayingsc (nI kbsayings)), (bsayingsc, iA G 128 fbsayings), (bfindings, oX8 12 4 bfindingsc (nI kbfindings)), (bfindingsc, iA G 48 fbfindings), (ho9, oX4 hs hz hi hw hn ht), (hw, iA G 4 fhw), (hn, iA G 4 fhn), (ht, iA G 4 fht), (de9, oX2 bb tr9 (nI jr) dk dn dp da dq)] (fun (r : Int32) (u : Int32 × Int32 × Int32 × Int32) => (r = ifc (Wi x1 0 3) (ifc (Wi x2 0 6 ∨ Wi (x2 - 10) 0 4) (ifc (HLD (fhw x1.toNatClampNeg) (fhn x1.toNatClampNeg) kbpapers kbsayings kbfindings = 4) (-11) (ifc (fhw x1.toNatClampNeg = 3) (ifc (fht x1.toNatClampNeg = x2 - 10) (fhn x1.toNatClampNeg) (-13)) (ifc (UNl (KNn (fhw x1.toNatClampNeg) (fhn x1.toNatClampNeg).toNatClampNeg fbpapers fbsayings) x2) (fhn x1.toNatClampNeg) (-13)))) (-1)) (-1))) (fun u : Int32 × Int32 × Int32 × Int32 => [(h0, oX11 bb kk ikp sg do9 ru9 ta9 tp9 ro9 ho9 de9), (bb, oX0 bpersons bpapers bstamps bversions blines bsteps bsayings bfindings bwarnings bquestions td vd vl gp), (bpapers, oX8 12 6 bpapersc (nI kbpapers)), (bpapersc, iA G 72 fbpapers), (bsayings, oX8 16 8 bsayingsc (nI kbsayings)), (bsayingsc, iA G 128 fbsayings), (bfindings, oX8 12 4 bfindingsc (nI kbfindings)), (bfindingsc, iA G 48 fbfindings), (ho9, oX4 hs hz hi hw hn ht), (hw, iA G 4 fhw), (hn, iA G 4 fhn), (ht, iA G 4 fht), (de9, oX2 bb tr9 (nI jr) u.1 u.2.1 u.2.2.1 u.2.2.2 dq)])
set_option maxHeartbeats 4000000 in
set_option maxRecDepth 100000 in
theorem p_taken (l : Launch) (G : GG) (K : OO) (h0 : Nat) (x1 : Int32) (x2 : Int32) (bb : Nat) (kk : Nat) (ikp : Int32) (sg : Nat) (do9 : Nat) (ru9 : Nat) (ta9 : Nat) (tp9 : Nat) (ro9 : Nat) (ho9 : Nat) (de9 : Nat) (bpersons : Nat) (bpapers : Nat) (bstamps : Nat) (bversions : Nat) (blines : Nat) (bsteps : Nat) (bsayings : Nat) (bfindings : Nat) (bwarnings : Nat) (bquestions : Nat) (td : Int32) (vd : Int32) (vl : Int32) (gp : Int32) (bpapersc : Nat) (kbpapers : Nat) (fbpapers : Nat → Int32) (bsayingsc : Nat) (kbsayings : Nat) (fbsayings : Nat → Int32) (bfindingsc : Nat) (kbfindings : Nat) (fbfindings : Nat → Int32) (hs : Nat) (hz : Nat) (hi : Nat) (hw : Nat) (hn : Nat) (ht : Nat) (fhw : Nat → Int32) (fhn : Nat → Int32) (fht : Nat → Int32) (tr9 : Nat) (jr : Nat) (dk : Int32) (dn : Int32) (dp : Int32) (da : Int32) (dq : Int32) (hkbpapers : kbpapers ≤ 12) (hkbsayings : kbsayings ≤ 16) (hkbfindings : kbfindings ≤ 12) : K_p_taken l G K h0 x1 x2 bb kk ikp sg do9 ru9 ta9 tp9 ro9 ho9 de9 bpersons bpapers bstamps bversions blines bsteps bsayings bfindings bwarnings bquestions td vd vl gp bpapersc kbpapers fbpapers bsayingsc kbsayings fbsayings bfindingsc kbfindings fbfindings hs hz hi hw hn ht fhw fhn fht tr9 jr dk dn dp da dq := by
  refine MIo.start (by decide +kernel) (Nat.le_of_ble_eq_true rfl) ?_
  intro p e s m below meth c A ls hC hK hP hD hS hA hl hO
  refine absQ (fun Q0 hQ0 => ?_)
  have hl : lv_has ls 4 [(0, .ref h0), (1, .int x1), (2, .int x2)] := hl
  refine Kan8 hC (fun hx hb hr hml hB hown hlocks hnm => ?_)
  refine lv_iload_n hx hb gX11_taken_0.1 rfl (lv_at1 hl) ?_
  refine pS hC hK hl (c_isShelf l G x1) si_X11_318 rfl rfl (Nat.le_of_ble_eq_true rfl) rm_7_2_1 ⟨by first | exact Nat.le_of_ble_eq_true rfl | exact Nat.zero_le _, by first | exact Nat.le_of_ble_eq_true rfl | exact Nat.zero_le _⟩ gX11_taken_0.2.1 (Kors (Keqa fun a5020 => ?_) (Keqa fun a5020 => ?_))
  · refine lv_if_eq (tgt := 27) hx hb gX11_taken_0.2.2.1 (by decide) (fun c9 => absurd c9 (by decide)) (fun _ => ?_)
    refine lv_iload_n hx hb gX11_taken_0.2.2.2.1 rfl (lv_at2 hl) ?_
    refine lv_iconst (v := 0) hx hb gX11_taken_0.2.2.2.2.1 (by decide) ?_
    refine lv_bipush (v := 6) hx hb gX11_taken_0.2.2.2.2.2.1 (by decide) ?_
    refine pS hC hK hl (c_within l G x2 0 6) si_X11_83 rfl rfl (Nat.le_of_ble_eq_true rfl) rm_7_1_3 ⟨by first | exact Nat.le_of_ble_eq_true rfl | exact Nat.zero_le _, by first | exact Nat.le_of_ble_eq_true rfl | exact Nat.zero_le _⟩ gX11_taken_0.2.2.2.2.2.2.1 (Kors (Keqa fun a5022 => ?_) (Keqa fun a5022 => ?_))
    · refine lv_if_ne (tgt := 29) hx hb gX11_taken_0.2.2.2.2.2.2.2.1 (by decide) (fun _ => ?_) (fun c9 => absurd c9 (by decide))
      obtain ⟨js, hjs, rfl⟩ := Wi3 a5020
      refine lv_aload_n hx hb gX11_taken_1.2.2.2.2.2.1 rfl (lv_at0 hl) ?_
      refine gf_X11_72 hC rfl hK hP 0 rfl rfl gX11_taken_1.2.2.2.2.2.2.1 ?_
      refine lv_iload_n hx hb gX11_taken_1.2.2.2.2.2.2.2.1 rfl (lv_at1 hl) ?_
      refine lv_aload_n hx hb gX11_taken_1.2.2.2.2.2.2.2.2.1 rfl (lv_at0 hl) ?_
      refine gf_X11_15 hC rfl hK hP 0 rfl rfl gX11_taken_1.2.2.2.2.2.2.2.2.2 ?_
      refine pV hC hK hl hP hD (c_heldX l G ho9 js bb hs hz hi hw hn ht fhw fhn bpersons bpapers bstamps bversions blines bsteps bsayings bfindings bwarnings bquestions td vd vl gp bpapersc kbpapers bsayingsc kbsayings bfindingsc kbfindings (by omega)) si_X11_327 [8, 9, 10, 1, 2, 4, 6] sm_8_9_10_1_2_4_6 fm_8_9_10_1_2_4_6 nd_8_9_10_1_2_4_6 rfl rfl rfl rfl rfl (Nat.le_of_ble_eq_true rfl) rm_7_3_4 ⟨by first | exact Nat.le_of_ble_eq_true rfl | exact Nat.zero_le _, by first | exact Nat.le_of_ble_eq_true rfl | exact Nat.zero_le _⟩ gX11_taken_2.1 (Keqr ?_)
      refine lv_istore_n (lv' := [(3, .int (HLD (fhw js) (fhn js) kbpapers kbsayings kbfindings)), (0, .ref h0), (1, .int (nI js)), (2, .int x2)]) hx hb gX11_taken_2.2.1 rfl hl (by decide) rfl (fun ls hl => ?_)
      refine lv_iload_n hx hb gX11_taken_2.2.2.1 rfl (lv_at0 hl) ?_
      refine lv_iconst (v := 4) hx hb gX11_taken_2.2.2.2.1 (by decide) ?_
      refine lv_icmp_ne (tgt := 50) hx hb gX11_taken_2.2.2.2.2.1 (by decide) (fun c_44_5025 => ?_) (fun c_44_5025 => ?_)
      · refine lv_iload_n hx hb gX11_taken_2.2.2.2.2.2.2.2.1 rfl (lv_at0 hl) ?_
        refine lv_iconst (v := 3) hx hb gX11_taken_2.2.2.2.2.2.2.2.2.1 (by decide) ?_
        refine lv_icmp_ne (tgt := 84) hx hb gX11_taken_2.2.2.2.2.2.2.2.2.2 (by decide) (fun c_52_5026 => ?_) (fun c_52_5026 => ?_)
        · by_cases w0 : fhw js = 0
          · have hin9 : Hs (fhn js) kbpapers := Classical.byContradiction fun h9 => c_44_5025 (by unfold HLD; rw [ifc_t (q := fhw js = 0) w0]; exact ifc_f h9)
            have hval9 : (HLD (fhw js) (fhn js) kbpapers kbsayings kbfindings) = 0 := by unfold HLD; rw [ifc_t (q := fhw js = 0) w0, ifc_t hin9]; exact w0
            obtain ⟨jn, hjn, ejn⟩ := Hs_nat (by omega) hin9
            refine lv_aload_n hx hb gX11_taken_4.2.2.2.2.2.1 rfl (lv_at1 hl) ?_
            refine gf_X11_79 hC rfl hK hP 0 rfl rfl gX11_taken_4.2.2.2.2.2.2.1 ?_
            refine lv_iload_n hx hb gX11_taken_4.2.2.2.2.2.2.2.1 rfl (lv_at0 hl) ?_
            refine eqi (x1 := 0) hval9 ?_
            refine lv_aload_n hx hb gX11_taken_4.2.2.2.2.2.2.2.2.1 rfl (lv_at1 hl) ?_
            refine gf_X11_72 hC rfl hK hP 0 rfl rfl gX11_taken_4.2.2.2.2.2.2.2.2.2 ?_
            refine lv_iload_n hx hb gX11_taken_5.1 rfl (lv_at2 hl) ?_
            refine pV hC hK hl hP hD (c_heldNumberX l G ho9 js hs hz hi hw hn ht fhn (by omega)) si_X11_334 [8, 10] sm_8_10 fm_8_10 nd_8_10 rfl rfl rfl rfl rfl (Nat.le_of_ble_eq_true rfl) rm_7_3_2 ⟨by first | exact Nat.le_of_ble_eq_true rfl | exact Nat.zero_le _, by first | exact Nat.le_of_ble_eq_true rfl | exact Nat.zero_le _⟩ gX11_taken_5.2.1 (Keqr ?_)
            refine eqi (x1 := nI jn) ejn ?_
            refine vV (wr := [(h0, oX11 bb kk ikp sg do9 ru9 ta9 tp9 ro9 ho9 de9), (bsayings, oX8 16 8 bsayingsc (nI kbsayings)), (bsayingsc, iA G 128 fbsayings), (bfindings, oX8 12 4 bfindingsc (nI kbfindings)), (bfindingsc, iA G 48 fbfindings), (ho9, oX4 hs hz hi hw hn ht), (hw, iA G 4 fhw), (hn, iA G 4 fhn), (ht, iA G 4 fht)]) hC hK hl hP hD hS hA (d_graspP l G de9 jn bb tr9 jr dk dn dp da dq bpersons bpapers bstamps bversions blines bsteps bsayings bfindings bwarnings bquestions td vd vl gp bpapersc kbpapers fbpapers (hkbpapers) (by omega)) si_X11_337 [12, 1, 2, 3] [0, 4, 5, 6, 7, 8, 9, 10, 11] sm_12_1_2_3 fm_12_1_2_3 nd_12_1_2_3 sm_0_4_5_6_7_8_9_10_11 nd_0_4_5_6_7_8_9_10_11 dj_12_1_2_3__0_4_5_6_7_8_9_10_11 rfl rfl rfl rfl rfl (Nat.le_of_ble_eq_true rfl) rm_7_5_3 ⟨Nat.le_of_ble_eq_true rfl, Nat.le_of_ble_eq_true rfl⟩ gX11_taken_5.2.2.1 (fun u5030 H locs hr5029 hP hD hS => ?_)
            refine Kpdr (ws := [(h0, oX11 bb kk ikp sg do9 ru9 ta9 tp9 ro9 ho9 de9), (bsayings, oX8 16 8 bsayingsc (nI kbsayings)), (bsayingsc, iA G 128 fbsayings), (bfindings, oX8 12 4 bfindingsc (nI kbfindings)), (bfindingsc, iA G 48 fbfindings), (ho9, oX4 hs hz hi hw hn ht), (hw, iA G 4 fhw), (hn, iA G 4 fhn), (ht, iA G 4 fht), (de9, oX2 bb tr9 (nI jr) (nI (PKn (fbpapers (jn * 6 + 1)) (fbpapers (jn * 6 + 0)) (fbpapers (jn * 6 + 3)))) (nI jn) (fbpapers (jn * 6 + 0)) (fbpapers (jn * 6 + 2)) dq), (bb, oX0 bpersons bpapers bstamps bversions blines bsteps bsayings bfindings bwarnings bquestions td vd vl gp), (bpapers, oX8 12 6 bpapersc (nI kbpapers)), (bpapersc, iA G 72 fbpapers)]) hP hD (fun hP hD => ?_)
            refine lv_aload_n hx hb gX11_taken_5.2.2.2.1 rfl (lv_at1 hl) ?_
            refine gf_X11_79 hC rfl hK hP 0 rfl rfl gX11_taken_5.2.2.2.2.1 ?_
            refine lv_iload_n hx hb gX11_taken_5.2.2.2.2.2.1 rfl (lv_at3 hl) ?_
            rcases (PKn.one : PKn (fbpapers (jn * 6 + 1)) (fbpapers (jn * 6 + 0)) (fbpapers (jn * 6 + 3)) = 1 ∨ PKn (fbpapers (jn * 6 + 1)) (fbpapers (jn * 6 + 0)) (fbpapers (jn * 6 + 3)) = 2 ∨ PKn (fbpapers (jn * 6 + 1)) (fbpapers (jn * 6 + 0)) (fbpapers (jn * 6 + 3)) = 3) with ek9 | ek9 | ek9
            · rw [ek9] at hP hD
              refine Kpdr (ws := [(h0, oX11 bb kk ikp sg do9 ru9 ta9 tp9 ro9 ho9 de9), (bsayings, oX8 16 8 bsayingsc (nI kbsayings)), (bsayingsc, iA G 128 fbsayings), (bfindings, oX8 12 4 bfindingsc (nI kbfindings)), (bfindingsc, iA G 48 fbfindings), (ho9, oX4 hs hz hi hw hn ht), (hw, iA G 4 fhw), (hn, iA G 4 fhn), (ht, iA G 4 fht), (de9, oX2 bb tr9 (nI jr) 1 (nI jn) (fbpapers (jn * 6 + 0)) (fbpapers (jn * 6 + 2)) dq), (bb, oX0 bpersons bpapers bstamps bversions blines bsteps bsayings bfindings bwarnings bquestions td vd vl gp), (bpapers, oX8 12 6 bpapersc (nI kbpapers)), (bpapersc, iA G 72 fbpapers)]) hP hD (fun hP hD => ?_)
              refine pVo hO hS hC hK hl hP hD (d_isUnder1 l G K de9 x2 bb tr9 jr (nI jn) (fbpapers (jn * 6 + 0)) (fbpapers (jn * 6 + 2)) dq) si_X11_340 [9] sm_9 fm_9 nd_9 rfl rfl rfl rfl rfl (Nat.le_of_ble_eq_true rfl) rm_7_3_4 ⟨by first | exact Nat.le_of_ble_eq_true rfl | exact Nat.zero_le _, by first | exact Nat.le_of_ble_eq_true rfl | exact Nat.zero_le _⟩ gX11_taken_5.2.2.2.2.2.2.1 (Kors (Keqa fun a5032 => ?_) (Keqa fun a5032 => ?_))
              · refine lv_if_eq (tgt := 122) hx hb gX11_taken_5.2.2.2.2.2.2.2.1 (by decide) (fun c9 => absurd c9 (by decide)) (fun _ => ?_)
                refine lv_aload_n hx hb gX11_taken_5.2.2.2.2.2.2.2.2.1 rfl (lv_at1 hl) ?_
                refine gf_X11_72 hC rfl hK hP 0 rfl rfl gX11_taken_5.2.2.2.2.2.2.2.2.2 ?_
                refine lv_iload_n hx hb gX11_taken_6.1 rfl (lv_at2 hl) ?_
                refine pV hC hK hl hP hD (c_heldNumberX l G ho9 js hs hz hi hw hn ht fhn (by omega)) si_X11_334 [5, 7] sm_5_7 fm_5_7 nd_5_7 rfl rfl rfl rfl rfl (Nat.le_of_ble_eq_true rfl) rm_7_3_2 ⟨by first | exact Nat.le_of_ble_eq_true rfl | exact Nat.zero_le _, by first | exact Nat.le_of_ble_eq_true rfl | exact Nat.zero_le _⟩ gX11_taken_6.2.1 (Keqr ?_)
                refine lv_goto (tgt := 124) hx hb gX11_taken_6.2.2.1 (by decide) ?_
                refine toQ hQ0 ?_
                exact RI (v := fhn js) hC hP hD hS [0, 10, 11, 12, 1, 2, 3, 4, 5, 6, 7, 8, 9] (1, nI jn, (fbpapers (jn * 6 + 0)), (fbpapers (jn * 6 + 2))) rfl rfl (by decide) ((by first | rfl | (simp only [nI_clamp (n := js) (by omega), ifc_t hkbpapers, ifc_t hkbsayings, ifc_t hkbfindings, ifc_t a5020, ifc_t a5022, ifc_f c_44_5025, ifc_f c_52_5026, ifc_t w0, ifc_t a5032, ifc_t (q := Wi x2 0 6 ∨ Wi (x2 - 10) 0 4) (Or.inl a5022), ifc_f (q := fhw js = 3) (by rw [w0]; decide), ifc_t (q := UNl (KNn (fhw js) (fhn js).toNatClampNeg fbpapers fbsayings) x2) (by unfold KNn; rw [ifn_t w0, ejn, nI_clamp (n := jn) (by omega), ek9]; exact a5032)]; done) | (simp only [nI_clamp (n := js) (by omega), ifc_t hkbpapers, ifc_t hkbsayings, ifc_t hkbfindings, ifc_t a5020, ifc_t a5022, ifc_f c_44_5025, ifc_f c_52_5026, ifc_t w0, ifc_t a5032, ifc_t (q := Wi x2 0 6 ∨ Wi (x2 - 10) 0 4) (Or.inl a5022), ifc_f (q := fhw js = 3) (by rw [w0]; decide), ifc_t (q := UNl (KNn (fhw js) (fhn js).toNatClampNeg fbpapers fbsayings) x2) (by unfold KNn; rw [ifn_t w0, ejn, nI_clamp (n := jn) (by omega), ek9]; exact a5032)]; rfl))) rfl gX11_taken_6.2.2.2.2
              · refine lv_if_eq (tgt := 122) hx hb gX11_taken_5.2.2.2.2.2.2.2.1 (by decide) (fun _ => ?_) (fun c9 => absurd (by decide) c9)
                refine lv_bipush (v := (-13)) hx hb gX11_taken_6.2.2.2.1 (by decide) ?_
                refine toQ hQ0 ?_
                exact RI (v := (-13)) hC hP hD hS [0, 10, 11, 12, 1, 2, 3, 4, 5, 6, 7, 8, 9] (1, nI jn, (fbpapers (jn * 6 + 0)), (fbpapers (jn * 6 + 2))) rfl rfl (by decide) ((by first | rfl | (simp only [nI_clamp (n := js) (by omega), ifc_t hkbpapers, ifc_t hkbsayings, ifc_t hkbfindings, ifc_t a5020, ifc_t a5022, ifc_f c_44_5025, ifc_f c_52_5026, ifc_t w0, ifc_f a5032, ifc_t (q := Wi x2 0 6 ∨ Wi (x2 - 10) 0 4) (Or.inl a5022), ifc_f (q := fhw js = 3) (by rw [w0]; decide), ifc_f (q := UNl (KNn (fhw js) (fhn js).toNatClampNeg fbpapers fbsayings) x2) (by unfold KNn; rw [ifn_t w0, ejn, nI_clamp (n := jn) (by omega), ek9]; exact a5032)]; done) | (simp only [nI_clamp (n := js) (by omega), ifc_t hkbpapers, ifc_t hkbsayings, ifc_t hkbfindings, ifc_t a5020, ifc_t a5022, ifc_f c_44_5025, ifc_f c_52_5026, ifc_t w0, ifc_f a5032, ifc_t (q := Wi x2 0 6 ∨ Wi (x2 - 10) 0 4) (Or.inl a5022), ifc_f (q := fhw js = 3) (by rw [w0]; decide), ifc_f (q := UNl (KNn (fhw js) (fhn js).toNatClampNeg fbpapers fbsayings) x2) (by unfold KNn; rw [ifn_t w0, ejn, nI_clamp (n := jn) (by omega), ek9]; exact a5032)]; rfl))) rfl gX11_taken_6.2.2.2.2
            · rw [ek9] at hP hD
              refine Kpdr (ws := [(h0, oX11 bb kk ikp sg do9 ru9 ta9 tp9 ro9 ho9 de9), (bsayings, oX8 16 8 bsayingsc (nI kbsayings)), (bsayingsc, iA G 128 fbsayings), (bfindings, oX8 12 4 bfindingsc (nI kbfindings)), (bfindingsc, iA G 48 fbfindings), (ho9, oX4 hs hz hi hw hn ht), (hw, iA G 4 fhw), (hn, iA G 4 fhn), (ht, iA G 4 fht), (de9, oX2 bb tr9 (nI jr) 2 (nI jn) (fbpapers (jn * 6 + 0)) (fbpapers (jn * 6 + 2)) dq), (bb, oX0 bpersons bpapers bstamps bversions blines bsteps bsayings bfindings bwarnings bquestions td vd vl gp), (bpapers, oX8 12 6 bpapersc (nI kbpapers)), (bpapersc, iA G 72 fbpapers)]) hP hD (fun hP hD => ?_)
              refine pVo hO hS hC hK hl hP hD (d_isUnder2 l G K de9 x2 bb tr9 jr (nI jn) (fbpapers (jn * 6 + 0)) (fbpapers (jn * 6 + 2)) dq) si_X11_340 [9] sm_9 fm_9 nd_9 rfl rfl rfl rfl rfl (Nat.le_of_ble_eq_true rfl) rm_7_3_4 ⟨by first | exact Nat.le_of_ble_eq_true rfl | exact Nat.zero_le _, by first | exact Nat.le_of_ble_eq_true rfl | exact Nat.zero_le _⟩ gX11_taken_5.2.2.2.2.2.2.1 (Kors (Keqa fun a5036 => ?_) (Keqa fun a5036 => ?_))
              · refine lv_if_eq (tgt := 122) hx hb gX11_taken_5.2.2.2.2.2.2.2.1 (by decide) (fun c9 => absurd c9 (by decide)) (fun _ => ?_)
                refine lv_aload_n hx hb gX11_taken_5.2.2.2.2.2.2.2.2.1 rfl (lv_at1 hl) ?_
                refine gf_X11_72 hC rfl hK hP 0 rfl rfl gX11_taken_5.2.2.2.2.2.2.2.2.2 ?_
                refine lv_iload_n hx hb gX11_taken_6.1 rfl (lv_at2 hl) ?_
                refine pV hC hK hl hP hD (c_heldNumberX l G ho9 js hs hz hi hw hn ht fhn (by omega)) si_X11_334 [5, 7] sm_5_7 fm_5_7 nd_5_7 rfl rfl rfl rfl rfl (Nat.le_of_ble_eq_true rfl) rm_7_3_2 ⟨by first | exact Nat.le_of_ble_eq_true rfl | exact Nat.zero_le _, by first | exact Nat.le_of_ble_eq_true rfl | exact Nat.zero_le _⟩ gX11_taken_6.2.1 (Keqr ?_)
                refine lv_goto (tgt := 124) hx hb gX11_taken_6.2.2.1 (by decide) ?_
                refine toQ hQ0 ?_
                exact RI (v := fhn js) hC hP hD hS [0, 10, 11, 12, 1, 2, 3, 4, 5, 6, 7, 8, 9] (2, nI jn, (fbpapers (jn * 6 + 0)), (fbpapers (jn * 6 + 2))) rfl rfl (by decide) ((by first | rfl | (simp only [nI_clamp (n := js) (by omega), ifc_t hkbpapers, ifc_t hkbsayings, ifc_t hkbfindings, ifc_t a5020, ifc_t a5022, ifc_f c_44_5025, ifc_f c_52_5026, ifc_t w0, ifc_t a5036, ifc_t (q := Wi x2 0 6 ∨ Wi (x2 - 10) 0 4) (Or.inl a5022), ifc_f (q := fhw js = 3) (by rw [w0]; decide), ifc_t (q := UNl (KNn (fhw js) (fhn js).toNatClampNeg fbpapers fbsayings) x2) (by unfold KNn; rw [ifn_t w0, ejn, nI_clamp (n := jn) (by omega), ek9]; exact a5036)]; done) | (simp only [nI_clamp (n := js) (by omega), ifc_t hkbpapers, ifc_t hkbsayings, ifc_t hkbfindings, ifc_t a5020, ifc_t a5022, ifc_f c_44_5025, ifc_f c_52_5026, ifc_t w0, ifc_t a5036, ifc_t (q := Wi x2 0 6 ∨ Wi (x2 - 10) 0 4) (Or.inl a5022), ifc_f (q := fhw js = 3) (by rw [w0]; decide), ifc_t (q := UNl (KNn (fhw js) (fhn js).toNatClampNeg fbpapers fbsayings) x2) (by unfold KNn; rw [ifn_t w0, ejn, nI_clamp (n := jn) (by omega), ek9]; exact a5036)]; rfl))) rfl gX11_taken_6.2.2.2.2
              · refine lv_if_eq (tgt := 122) hx hb gX11_taken_5.2.2.2.2.2.2.2.1 (by decide) (fun _ => ?_) (fun c9 => absurd (by decide) c9)
                refine lv_bipush (v := (-13)) hx hb gX11_taken_6.2.2.2.1 (by decide) ?_
                refine toQ hQ0 ?_
                exact RI (v := (-13)) hC hP hD hS [0, 10, 11, 12, 1, 2, 3, 4, 5, 6, 7, 8, 9] (2, nI jn, (fbpapers (jn * 6 + 0)), (fbpapers (jn * 6 + 2))) rfl rfl (by decide) ((by first | rfl | (simp only [nI_clamp (n := js) (by omega), ifc_t hkbpapers, ifc_t hkbsayings, ifc_t hkbfindings, ifc_t a5020, ifc_t a5022, ifc_f c_44_5025, ifc_f c_52_5026, ifc_t w0, ifc_f a5036, ifc_t (q := Wi x2 0 6 ∨ Wi (x2 - 10) 0 4) (Or.inl a5022), ifc_f (q := fhw js = 3) (by rw [w0]; decide), ifc_f (q := UNl (KNn (fhw js) (fhn js).toNatClampNeg fbpapers fbsayings) x2) (by unfold KNn; rw [ifn_t w0, ejn, nI_clamp (n := jn) (by omega), ek9]; exact a5036)]; done) | (simp only [nI_clamp (n := js) (by omega), ifc_t hkbpapers, ifc_t hkbsayings, ifc_t hkbfindings, ifc_t a5020, ifc_t a5022, ifc_f c_44_5025, ifc_f c_52_5026, ifc_t w0, ifc_f a5036, ifc_t (q := Wi x2 0 6 ∨ Wi (x2 - 10) 0 4) (Or.inl a5022), ifc_f (q := fhw js = 3) (by rw [w0]; decide), ifc_f (q := UNl (KNn (fhw js) (fhn js).toNatClampNeg fbpapers fbsayings) x2) (by unfold KNn; rw [ifn_t w0, ejn, nI_clamp (n := jn) (by omega), ek9]; exact a5036)]; rfl))) rfl gX11_taken_6.2.2.2.2
            · rw [ek9] at hP hD
              refine Kpdr (ws := [(h0, oX11 bb kk ikp sg do9 ru9 ta9 tp9 ro9 ho9 de9), (bsayings, oX8 16 8 bsayingsc (nI kbsayings)), (bsayingsc, iA G 128 fbsayings), (bfindings, oX8 12 4 bfindingsc (nI kbfindings)), (bfindingsc, iA G 48 fbfindings), (ho9, oX4 hs hz hi hw hn ht), (hw, iA G 4 fhw), (hn, iA G 4 fhn), (ht, iA G 4 fht), (de9, oX2 bb tr9 (nI jr) 3 (nI jn) (fbpapers (jn * 6 + 0)) (fbpapers (jn * 6 + 2)) dq), (bb, oX0 bpersons bpapers bstamps bversions blines bsteps bsayings bfindings bwarnings bquestions td vd vl gp), (bpapers, oX8 12 6 bpapersc (nI kbpapers)), (bpapersc, iA G 72 fbpapers)]) hP hD (fun hP hD => ?_)
              refine pVo hO hS hC hK hl hP hD (d_isUnder3 l G K de9 x2 bb tr9 jr (nI jn) (fbpapers (jn * 6 + 0)) (fbpapers (jn * 6 + 2)) dq) si_X11_340 [9] sm_9 fm_9 nd_9 rfl rfl rfl rfl rfl (Nat.le_of_ble_eq_true rfl) rm_7_3_4 ⟨by first | exact Nat.le_of_ble_eq_true rfl | exact Nat.zero_le _, by first | exact Nat.le_of_ble_eq_true rfl | exact Nat.zero_le _⟩ gX11_taken_5.2.2.2.2.2.2.1 (Kors (Keqa fun a5040 => ?_) (Keqa fun a5040 => ?_))
              · refine lv_if_eq (tgt := 122) hx hb gX11_taken_5.2.2.2.2.2.2.2.1 (by decide) (fun c9 => absurd c9 (by decide)) (fun _ => ?_)
                refine lv_aload_n hx hb gX11_taken_5.2.2.2.2.2.2.2.2.1 rfl (lv_at1 hl) ?_
                refine gf_X11_72 hC rfl hK hP 0 rfl rfl gX11_taken_5.2.2.2.2.2.2.2.2.2 ?_
                refine lv_iload_n hx hb gX11_taken_6.1 rfl (lv_at2 hl) ?_
                refine pV hC hK hl hP hD (c_heldNumberX l G ho9 js hs hz hi hw hn ht fhn (by omega)) si_X11_334 [5, 7] sm_5_7 fm_5_7 nd_5_7 rfl rfl rfl rfl rfl (Nat.le_of_ble_eq_true rfl) rm_7_3_2 ⟨by first | exact Nat.le_of_ble_eq_true rfl | exact Nat.zero_le _, by first | exact Nat.le_of_ble_eq_true rfl | exact Nat.zero_le _⟩ gX11_taken_6.2.1 (Keqr ?_)
                refine lv_goto (tgt := 124) hx hb gX11_taken_6.2.2.1 (by decide) ?_
                refine toQ hQ0 ?_
                exact RI (v := fhn js) hC hP hD hS [0, 10, 11, 12, 1, 2, 3, 4, 5, 6, 7, 8, 9] (3, nI jn, (fbpapers (jn * 6 + 0)), (fbpapers (jn * 6 + 2))) rfl rfl (by decide) ((by first | rfl | (simp only [nI_clamp (n := js) (by omega), ifc_t hkbpapers, ifc_t hkbsayings, ifc_t hkbfindings, ifc_t a5020, ifc_t a5022, ifc_f c_44_5025, ifc_f c_52_5026, ifc_t w0, ifc_t a5040, ifc_t (q := Wi x2 0 6 ∨ Wi (x2 - 10) 0 4) (Or.inl a5022), ifc_f (q := fhw js = 3) (by rw [w0]; decide), ifc_t (q := UNl (KNn (fhw js) (fhn js).toNatClampNeg fbpapers fbsayings) x2) (by unfold KNn; rw [ifn_t w0, ejn, nI_clamp (n := jn) (by omega), ek9]; exact a5040)]; done) | (simp only [nI_clamp (n := js) (by omega), ifc_t hkbpapers, ifc_t hkbsayings, ifc_t hkbfindings, ifc_t a5020, ifc_t a5022, ifc_f c_44_5025, ifc_f c_52_5026, ifc_t w0, ifc_t a5040, ifc_t (q := Wi x2 0 6 ∨ Wi (x2 - 10) 0 4) (Or.inl a5022), ifc_f (q := fhw js = 3) (by rw [w0]; decide), ifc_t (q := UNl (KNn (fhw js) (fhn js).toNatClampNeg fbpapers fbsayings) x2) (by unfold KNn; rw [ifn_t w0, ejn, nI_clamp (n := jn) (by omega), ek9]; exact a5040)]; rfl))) rfl gX11_taken_6.2.2.2.2
              · refine lv_if_eq (tgt := 122) hx hb gX11_taken_5.2.2.2.2.2.2.2.1 (by decide) (fun _ => ?_) (fun c9 => absurd (by decide) c9)
                refine lv_bipush (v := (-13)) hx hb gX11_taken_6.2.2.2.1 (by decide) ?_
                refine toQ hQ0 ?_
                exact RI (v := (-13)) hC hP hD hS [0, 10, 11, 12, 1, 2, 3, 4, 5, 6, 7, 8, 9] (3, nI jn, (fbpapers (jn * 6 + 0)), (fbpapers (jn * 6 + 2))) rfl rfl (by decide) ((by first | rfl | (simp only [nI_clamp (n := js) (by omega), ifc_t hkbpapers, ifc_t hkbsayings, ifc_t hkbfindings, ifc_t a5020, ifc_t a5022, ifc_f c_44_5025, ifc_f c_52_5026, ifc_t w0, ifc_f a5040, ifc_t (q := Wi x2 0 6 ∨ Wi (x2 - 10) 0 4) (Or.inl a5022), ifc_f (q := fhw js = 3) (by rw [w0]; decide), ifc_f (q := UNl (KNn (fhw js) (fhn js).toNatClampNeg fbpapers fbsayings) x2) (by unfold KNn; rw [ifn_t w0, ejn, nI_clamp (n := jn) (by omega), ek9]; exact a5040)]; done) | (simp only [nI_clamp (n := js) (by omega), ifc_t hkbpapers, ifc_t hkbsayings, ifc_t hkbfindings, ifc_t a5020, ifc_t a5022, ifc_f c_44_5025, ifc_f c_52_5026, ifc_t w0, ifc_f a5040, ifc_t (q := Wi x2 0 6 ∨ Wi (x2 - 10) 0 4) (Or.inl a5022), ifc_f (q := fhw js = 3) (by rw [w0]; decide), ifc_f (q := UNl (KNn (fhw js) (fhn js).toNatClampNeg fbpapers fbsayings) x2) (by unfold KNn; rw [ifn_t w0, ejn, nI_clamp (n := jn) (by omega), ek9]; exact a5040)]; rfl))) rfl gX11_taken_6.2.2.2.2
          by_cases w1 : fhw js = 1
          · have hin9 : Hs (fhn js) kbsayings := Classical.byContradiction fun h9 => c_44_5025 (by unfold HLD; rw [ifc_f (q := fhw js = 0) w0, ifc_t (q := fhw js = 1) w1]; exact ifc_f h9)
            have hval9 : (HLD (fhw js) (fhn js) kbpapers kbsayings kbfindings) = 1 := by unfold HLD; rw [ifc_f (q := fhw js = 0) w0, ifc_t (q := fhw js = 1) w1, ifc_t hin9]; exact w1
            obtain ⟨jn, hjn, ejn⟩ := Hs_nat (by omega) hin9
            refine lv_aload_n hx hb gX11_taken_4.2.2.2.2.2.1 rfl (lv_at1 hl) ?_
            refine gf_X11_79 hC rfl hK hP 0 rfl rfl gX11_taken_4.2.2.2.2.2.2.1 ?_
            refine lv_iload_n hx hb gX11_taken_4.2.2.2.2.2.2.2.1 rfl (lv_at0 hl) ?_
            refine eqi (x1 := 1) hval9 ?_
            refine lv_aload_n hx hb gX11_taken_4.2.2.2.2.2.2.2.2.1 rfl (lv_at1 hl) ?_
            refine gf_X11_72 hC rfl hK hP 0 rfl rfl gX11_taken_4.2.2.2.2.2.2.2.2.2 ?_
            refine lv_iload_n hx hb gX11_taken_5.1 rfl (lv_at2 hl) ?_
            refine pV hC hK hl hP hD (c_heldNumberX l G ho9 js hs hz hi hw hn ht fhn (by omega)) si_X11_334 [8, 10] sm_8_10 fm_8_10 nd_8_10 rfl rfl rfl rfl rfl (Nat.le_of_ble_eq_true rfl) rm_7_3_2 ⟨by first | exact Nat.le_of_ble_eq_true rfl | exact Nat.zero_le _, by first | exact Nat.le_of_ble_eq_true rfl | exact Nat.zero_le _⟩ gX11_taken_5.2.1 (Keqr ?_)
            refine eqi (x1 := nI jn) ejn ?_
            refine vV (wr := [(h0, oX11 bb kk ikp sg do9 ru9 ta9 tp9 ro9 ho9 de9), (bpapers, oX8 12 6 bpapersc (nI kbpapers)), (bpapersc, iA G 72 fbpapers), (bfindings, oX8 12 4 bfindingsc (nI kbfindings)), (bfindingsc, iA G 48 fbfindings), (ho9, oX4 hs hz hi hw hn ht), (hw, iA G 4 fhw), (hn, iA G 4 fhn), (ht, iA G 4 fht)]) hC hK hl hP hD hS hA (d_graspS l G de9 jn bb tr9 jr dk dn dp da dq bpersons bpapers bstamps bversions blines bsteps bsayings bfindings bwarnings bquestions td vd vl gp bsayingsc kbsayings fbsayings (hkbsayings) (by omega)) si_X11_337 [12, 1, 4, 5] [0, 2, 3, 6, 7, 8, 9, 10, 11] sm_12_1_4_5 fm_12_1_4_5 nd_12_1_4_5 sm_0_2_3_6_7_8_9_10_11 nd_0_2_3_6_7_8_9_10_11 dj_12_1_4_5__0_2_3_6_7_8_9_10_11 rfl rfl rfl rfl rfl (Nat.le_of_ble_eq_true rfl) rm_7_5_3 ⟨Nat.le_of_ble_eq_true rfl, Nat.le_of_ble_eq_true rfl⟩ gX11_taken_5.2.2.1 (fun u5046 H locs hr5045 hP hD hS => ?_)
            refine Kpdr (ws := [(h0, oX11 bb kk ikp sg do9 ru9 ta9 tp9 ro9 ho9 de9), (bpapers, oX8 12 6 bpapersc (nI kbpapers)), (bpapersc, iA G 72 fbpapers), (bfindings, oX8 12 4 bfindingsc (nI kbfindings)), (bfindingsc, iA G 48 fbfindings), (ho9, oX4 hs hz hi hw hn ht), (hw, iA G 4 fhw), (hn, iA G 4 fhn), (ht, iA G 4 fht), (de9, oX2 bb tr9 (nI jr) (nI (SKn (fbsayings (jn * 8 + 6)))) (nI jn) (fbsayings (jn * 8 + 0)) (fbsayings (jn * 8 + 4)) dq), (bb, oX0 bpersons bpapers bstamps bversions blines bsteps bsayings bfindings bwarnings bquestions td vd vl gp), (bsayings, oX8 16 8 bsayingsc (nI kbsayings)), (bsayingsc, iA G 128 fbsayings)]) hP hD (fun hP hD => ?_)
            refine lv_aload_n hx hb gX11_taken_5.2.2.2.1 rfl (lv_at1 hl) ?_
            refine gf_X11_79 hC rfl hK hP 0 rfl rfl gX11_taken_5.2.2.2.2.1 ?_
            refine lv_iload_n hx hb gX11_taken_5.2.2.2.2.2.1 rfl (lv_at3 hl) ?_
            rcases (SKn.one : SKn (fbsayings (jn * 8 + 6)) = 4 ∨ SKn (fbsayings (jn * 8 + 6)) = 5) with ek9 | ek9
            · rw [ek9] at hP hD
              refine Kpdr (ws := [(h0, oX11 bb kk ikp sg do9 ru9 ta9 tp9 ro9 ho9 de9), (bpapers, oX8 12 6 bpapersc (nI kbpapers)), (bpapersc, iA G 72 fbpapers), (bfindings, oX8 12 4 bfindingsc (nI kbfindings)), (bfindingsc, iA G 48 fbfindings), (ho9, oX4 hs hz hi hw hn ht), (hw, iA G 4 fhw), (hn, iA G 4 fhn), (ht, iA G 4 fht), (de9, oX2 bb tr9 (nI jr) 4 (nI jn) (fbsayings (jn * 8 + 0)) (fbsayings (jn * 8 + 4)) dq), (bb, oX0 bpersons bpapers bstamps bversions blines bsteps bsayings bfindings bwarnings bquestions td vd vl gp), (bsayings, oX8 16 8 bsayingsc (nI kbsayings)), (bsayingsc, iA G 128 fbsayings)]) hP hD (fun hP hD => ?_)
              refine pVo hO hS hC hK hl hP hD (d_isUnder4 l G K de9 x2 bb tr9 jr (nI jn) (fbsayings (jn * 8 + 0)) (fbsayings (jn * 8 + 4)) dq) si_X11_340 [9] sm_9 fm_9 nd_9 rfl rfl rfl rfl rfl (Nat.le_of_ble_eq_true rfl) rm_7_3_4 ⟨by first | exact Nat.le_of_ble_eq_true rfl | exact Nat.zero_le _, by first | exact Nat.le_of_ble_eq_true rfl | exact Nat.zero_le _⟩ gX11_taken_5.2.2.2.2.2.2.1 (Kors (Keqa fun a5048 => ?_) (Keqa fun a5048 => ?_))
              · refine lv_if_eq (tgt := 122) hx hb gX11_taken_5.2.2.2.2.2.2.2.1 (by decide) (fun c9 => absurd c9 (by decide)) (fun _ => ?_)
                refine lv_aload_n hx hb gX11_taken_5.2.2.2.2.2.2.2.2.1 rfl (lv_at1 hl) ?_
                refine gf_X11_72 hC rfl hK hP 0 rfl rfl gX11_taken_5.2.2.2.2.2.2.2.2.2 ?_
                refine lv_iload_n hx hb gX11_taken_6.1 rfl (lv_at2 hl) ?_
                refine pV hC hK hl hP hD (c_heldNumberX l G ho9 js hs hz hi hw hn ht fhn (by omega)) si_X11_334 [5, 7] sm_5_7 fm_5_7 nd_5_7 rfl rfl rfl rfl rfl (Nat.le_of_ble_eq_true rfl) rm_7_3_2 ⟨by first | exact Nat.le_of_ble_eq_true rfl | exact Nat.zero_le _, by first | exact Nat.le_of_ble_eq_true rfl | exact Nat.zero_le _⟩ gX11_taken_6.2.1 (Keqr ?_)
                refine lv_goto (tgt := 124) hx hb gX11_taken_6.2.2.1 (by decide) ?_
                refine toQ hQ0 ?_
                exact RI (v := fhn js) hC hP hD hS [0, 10, 1, 2, 11, 12, 3, 4, 5, 6, 7, 8, 9] (4, nI jn, (fbsayings (jn * 8 + 0)), (fbsayings (jn * 8 + 4))) rfl rfl (by decide) ((by first | rfl | (simp only [nI_clamp (n := js) (by omega), ifc_t hkbpapers, ifc_t hkbsayings, ifc_t hkbfindings, ifc_t a5020, ifc_t a5022, ifc_f c_44_5025, ifc_f c_52_5026, ifc_f w0, ifc_t w1, ifc_t a5048, ifc_t (q := Wi x2 0 6 ∨ Wi (x2 - 10) 0 4) (Or.inl a5022), ifc_f (q := fhw js = 3) (by rw [w1]; decide), ifc_t (q := UNl (KNn (fhw js) (fhn js).toNatClampNeg fbpapers fbsayings) x2) (by unfold KNn; rw [ifn_f w0, ifn_t w1, ejn, nI_clamp (n := jn) (by omega), ek9]; exact a5048)]; done) | (simp only [nI_clamp (n := js) (by omega), ifc_t hkbpapers, ifc_t hkbsayings, ifc_t hkbfindings, ifc_t a5020, ifc_t a5022, ifc_f c_44_5025, ifc_f c_52_5026, ifc_f w0, ifc_t w1, ifc_t a5048, ifc_t (q := Wi x2 0 6 ∨ Wi (x2 - 10) 0 4) (Or.inl a5022), ifc_f (q := fhw js = 3) (by rw [w1]; decide), ifc_t (q := UNl (KNn (fhw js) (fhn js).toNatClampNeg fbpapers fbsayings) x2) (by unfold KNn; rw [ifn_f w0, ifn_t w1, ejn, nI_clamp (n := jn) (by omega), ek9]; exact a5048)]; rfl))) rfl gX11_taken_6.2.2.2.2
              · refine lv_if_eq (tgt := 122) hx hb gX11_taken_5.2.2.2.2.2.2.2.1 (by decide) (fun _ => ?_) (fun c9 => absurd (by decide) c9)
                refine lv_bipush (v := (-13)) hx hb gX11_taken_6.2.2.2.1 (by decide) ?_
                refine toQ hQ0 ?_
                exact RI (v := (-13)) hC hP hD hS [0, 10, 1, 2, 11, 12, 3, 4, 5, 6, 7, 8, 9] (4, nI jn, (fbsayings (jn * 8 + 0)), (fbsayings (jn * 8 + 4))) rfl rfl (by decide) ((by first | rfl | (simp only [nI_clamp (n := js) (by omega), ifc_t hkbpapers, ifc_t hkbsayings, ifc_t hkbfindings, ifc_t a5020, ifc_t a5022, ifc_f c_44_5025, ifc_f c_52_5026, ifc_f w0, ifc_t w1, ifc_f a5048, ifc_t (q := Wi x2 0 6 ∨ Wi (x2 - 10) 0 4) (Or.inl a5022), ifc_f (q := fhw js = 3) (by rw [w1]; decide), ifc_f (q := UNl (KNn (fhw js) (fhn js).toNatClampNeg fbpapers fbsayings) x2) (by unfold KNn; rw [ifn_f w0, ifn_t w1, ejn, nI_clamp (n := jn) (by omega), ek9]; exact a5048)]; done) | (simp only [nI_clamp (n := js) (by omega), ifc_t hkbpapers, ifc_t hkbsayings, ifc_t hkbfindings, ifc_t a5020, ifc_t a5022, ifc_f c_44_5025, ifc_f c_52_5026, ifc_f w0, ifc_t w1, ifc_f a5048, ifc_t (q := Wi x2 0 6 ∨ Wi (x2 - 10) 0 4) (Or.inl a5022), ifc_f (q := fhw js = 3) (by rw [w1]; decide), ifc_f (q := UNl (KNn (fhw js) (fhn js).toNatClampNeg fbpapers fbsayings) x2) (by unfold KNn; rw [ifn_f w0, ifn_t w1, ejn, nI_clamp (n := jn) (by omega), ek9]; exact a5048)]; rfl))) rfl gX11_taken_6.2.2.2.2
            · rw [ek9] at hP hD
              refine Kpdr (ws := [(h0, oX11 bb kk ikp sg do9 ru9 ta9 tp9 ro9 ho9 de9), (bpapers, oX8 12 6 bpapersc (nI kbpapers)), (bpapersc, iA G 72 fbpapers), (bfindings, oX8 12 4 bfindingsc (nI kbfindings)), (bfindingsc, iA G 48 fbfindings), (ho9, oX4 hs hz hi hw hn ht), (hw, iA G 4 fhw), (hn, iA G 4 fhn), (ht, iA G 4 fht), (de9, oX2 bb tr9 (nI jr) 5 (nI jn) (fbsayings (jn * 8 + 0)) (fbsayings (jn * 8 + 4)) dq), (bb, oX0 bpersons bpapers bstamps bversions blines bsteps bsayings bfindings bwarnings bquestions td vd vl gp), (bsayings, oX8 16 8 bsayingsc (nI kbsayings)), (bsayingsc, iA G 128 fbsayings)]) hP hD (fun hP hD => ?_)
              refine pVo hO hS hC hK hl hP hD (d_isUnder5 l G K de9 x2 bb tr9 jr (nI jn) (fbsayings (jn * 8 + 0)) (fbsayings (jn * 8 + 4)) dq) si_X11_340 [9] sm_9 fm_9 nd_9 rfl rfl rfl rfl rfl (Nat.le_of_ble_eq_true rfl) rm_7_3_4 ⟨by first | exact Nat.le_of_ble_eq_true rfl | exact Nat.zero_le _, by first | exact Nat.le_of_ble_eq_true rfl | exact Nat.zero_le _⟩ gX11_taken_5.2.2.2.2.2.2.1 (Kors (Keqa fun a5052 => ?_) (Keqa fun a5052 => ?_))
              · refine lv_if_eq (tgt := 122) hx hb gX11_taken_5.2.2.2.2.2.2.2.1 (by decide) (fun c9 => absurd c9 (by decide)) (fun _ => ?_)
                refine lv_aload_n hx hb gX11_taken_5.2.2.2.2.2.2.2.2.1 rfl (lv_at1 hl) ?_
                refine gf_X11_72 hC rfl hK hP 0 rfl rfl gX11_taken_5.2.2.2.2.2.2.2.2.2 ?_
                refine lv_iload_n hx hb gX11_taken_6.1 rfl (lv_at2 hl) ?_
                refine pV hC hK hl hP hD (c_heldNumberX l G ho9 js hs hz hi hw hn ht fhn (by omega)) si_X11_334 [5, 7] sm_5_7 fm_5_7 nd_5_7 rfl rfl rfl rfl rfl (Nat.le_of_ble_eq_true rfl) rm_7_3_2 ⟨by first | exact Nat.le_of_ble_eq_true rfl | exact Nat.zero_le _, by first | exact Nat.le_of_ble_eq_true rfl | exact Nat.zero_le _⟩ gX11_taken_6.2.1 (Keqr ?_)
                refine lv_goto (tgt := 124) hx hb gX11_taken_6.2.2.1 (by decide) ?_
                refine toQ hQ0 ?_
                exact RI (v := fhn js) hC hP hD hS [0, 10, 1, 2, 11, 12, 3, 4, 5, 6, 7, 8, 9] (5, nI jn, (fbsayings (jn * 8 + 0)), (fbsayings (jn * 8 + 4))) rfl rfl (by decide) ((by first | rfl | (simp only [nI_clamp (n := js) (by omega), ifc_t hkbpapers, ifc_t hkbsayings, ifc_t hkbfindings, ifc_t a5020, ifc_t a5022, ifc_f c_44_5025, ifc_f c_52_5026, ifc_f w0, ifc_t w1, ifc_t a5052, ifc_t (q := Wi x2 0 6 ∨ Wi (x2 - 10) 0 4) (Or.inl a5022), ifc_f (q := fhw js = 3) (by rw [w1]; decide), ifc_t (q := UNl (KNn (fhw js) (fhn js).toNatClampNeg fbpapers fbsayings) x2) (by unfold KNn; rw [ifn_f w0, ifn_t w1, ejn, nI_clamp (n := jn) (by omega), ek9]; exact a5052)]; done) | (simp only [nI_clamp (n := js) (by omega), ifc_t hkbpapers, ifc_t hkbsayings, ifc_t hkbfindings, ifc_t a5020, ifc_t a5022, ifc_f c_44_5025, ifc_f c_52_5026, ifc_f w0, ifc_t w1, ifc_t a5052, ifc_t (q := Wi x2 0 6 ∨ Wi (x2 - 10) 0 4) (Or.inl a5022), ifc_f (q := fhw js = 3) (by rw [w1]; decide), ifc_t (q := UNl (KNn (fhw js) (fhn js).toNatClampNeg fbpapers fbsayings) x2) (by unfold KNn; rw [ifn_f w0, ifn_t w1, ejn, nI_clamp (n := jn) (by omega), ek9]; exact a5052)]; rfl))) rfl gX11_taken_6.2.2.2.2
              · refine lv_if_eq (tgt := 122) hx hb gX11_taken_5.2.2.2.2.2.2.2.1 (by decide) (fun _ => ?_) (fun c9 => absurd (by decide) c9)
                refine lv_bipush (v := (-13)) hx hb gX11_taken_6.2.2.2.1 (by decide) ?_
                refine toQ hQ0 ?_
                exact RI (v := (-13)) hC hP hD hS [0, 10, 1, 2, 11, 12, 3, 4, 5, 6, 7, 8, 9] (5, nI jn, (fbsayings (jn * 8 + 0)), (fbsayings (jn * 8 + 4))) rfl rfl (by decide) ((by first | rfl | (simp only [nI_clamp (n := js) (by omega), ifc_t hkbpapers, ifc_t hkbsayings, ifc_t hkbfindings, ifc_t a5020, ifc_t a5022, ifc_f c_44_5025, ifc_f c_52_5026, ifc_f w0, ifc_t w1, ifc_f a5052, ifc_t (q := Wi x2 0 6 ∨ Wi (x2 - 10) 0 4) (Or.inl a5022), ifc_f (q := fhw js = 3) (by rw [w1]; decide), ifc_f (q := UNl (KNn (fhw js) (fhn js).toNatClampNeg fbpapers fbsayings) x2) (by unfold KNn; rw [ifn_f w0, ifn_t w1, ejn, nI_clamp (n := jn) (by omega), ek9]; exact a5052)]; done) | (simp only [nI_clamp (n := js) (by omega), ifc_t hkbpapers, ifc_t hkbsayings, ifc_t hkbfindings, ifc_t a5020, ifc_t a5022, ifc_f c_44_5025, ifc_f c_52_5026, ifc_f w0, ifc_t w1, ifc_f a5052, ifc_t (q := Wi x2 0 6 ∨ Wi (x2 - 10) 0 4) (Or.inl a5022), ifc_f (q := fhw js = 3) (by rw [w1]; decide), ifc_f (q := UNl (KNn (fhw js) (fhn js).toNatClampNeg fbpapers fbsayings) x2) (by unfold KNn; rw [ifn_f w0, ifn_t w1, ejn, nI_clamp (n := jn) (by omega), ek9]; exact a5052)]; rfl))) rfl gX11_taken_6.2.2.2.2
          by_cases w2 : fhw js = 2
          · have hin9 : Hs (fhn js) kbfindings := Classical.byContradiction fun h9 => c_44_5025 (by unfold HLD; rw [ifc_f (q := fhw js = 0) w0, ifc_f (q := fhw js = 1) w1, ifc_t (q := fhw js = 2) w2]; exact ifc_f h9)
            have hval9 : (HLD (fhw js) (fhn js) kbpapers kbsayings kbfindings) = 2 := by unfold HLD; rw [ifc_f (q := fhw js = 0) w0, ifc_f (q := fhw js = 1) w1, ifc_t (q := fhw js = 2) w2, ifc_t hin9]; exact w2
            obtain ⟨jn, hjn, ejn⟩ := Hs_nat (by omega) hin9
            refine lv_aload_n hx hb gX11_taken_4.2.2.2.2.2.1 rfl (lv_at1 hl) ?_
            refine gf_X11_79 hC rfl hK hP 0 rfl rfl gX11_taken_4.2.2.2.2.2.2.1 ?_
            refine lv_iload_n hx hb gX11_taken_4.2.2.2.2.2.2.2.1 rfl (lv_at0 hl) ?_
            refine eqi (x1 := 2) hval9 ?_
            refine lv_aload_n hx hb gX11_taken_4.2.2.2.2.2.2.2.2.1 rfl (lv_at1 hl) ?_
            refine gf_X11_72 hC rfl hK hP 0 rfl rfl gX11_taken_4.2.2.2.2.2.2.2.2.2 ?_
            refine lv_iload_n hx hb gX11_taken_5.1 rfl (lv_at2 hl) ?_
            refine pV hC hK hl hP hD (c_heldNumberX l G ho9 js hs hz hi hw hn ht fhn (by omega)) si_X11_334 [8, 10] sm_8_10 fm_8_10 nd_8_10 rfl rfl rfl rfl rfl (Nat.le_of_ble_eq_true rfl) rm_7_3_2 ⟨by first | exact Nat.le_of_ble_eq_true rfl | exact Nat.zero_le _, by first | exact Nat.le_of_ble_eq_true rfl | exact Nat.zero_le _⟩ gX11_taken_5.2.1 (Keqr ?_)
            refine eqi (x1 := nI jn) ejn ?_
            refine vV (wr := [(h0, oX11 bb kk ikp sg do9 ru9 ta9 tp9 ro9 ho9 de9), (bpapers, oX8 12 6 bpapersc (nI kbpapers)), (bpapersc, iA G 72 fbpapers), (bsayings, oX8 16 8 bsayingsc (nI kbsayings)), (bsayingsc, iA G 128 fbsayings), (ho9, oX4 hs hz hi hw hn ht), (hw, iA G 4 fhw), (hn, iA G 4 fhn), (ht, iA G 4 fht)]) hC hK hl hP hD hS hA (d_graspF l G de9 jn bb tr9 jr dk dn dp da dq bpersons bpapers bstamps bversions blines bsteps bsayings bfindings bwarnings bquestions td vd vl gp bfindingsc kbfindings fbfindings (hkbfindings) (by omega)) si_X11_337 [12, 1, 6, 7] [0, 2, 3, 4, 5, 8, 9, 10, 11] sm_12_1_6_7 fm_12_1_6_7 nd_12_1_6_7 sm_0_2_3_4_5_8_9_10_11 nd_0_2_3_4_5_8_9_10_11 dj_12_1_6_7__0_2_3_4_5_8_9_10_11 rfl rfl rfl rfl rfl (Nat.le_of_ble_eq_true rfl) rm_7_5_3 ⟨Nat.le_of_ble_eq_true rfl, Nat.le_of_ble_eq_true rfl⟩ gX11_taken_5.2.2.1 (fun u5058 H locs hr5057 hP hD hS => ?_)
            refine Kpdr (ws := [(h0, oX11 bb kk ikp sg do9 ru9 ta9 tp9 ro9 ho9 de9), (bpapers, oX8 12 6 bpapersc (nI kbpapers)), (bpapersc, iA G 72 fbpapers), (bsayings, oX8 16 8 bsayingsc (nI kbsayings)), (bsayingsc, iA G 128 fbsayings), (ho9, oX4 hs hz hi hw hn ht), (hw, iA G 4 fhw), (hn, iA G 4 fhn), (ht, iA G 4 fht), (de9, oX2 bb tr9 (nI jr) 6 (nI jn) (fbfindings (jn * 4 + 0)) (fbfindings (jn * 4 + 2)) dq), (bb, oX0 bpersons bpapers bstamps bversions blines bsteps bsayings bfindings bwarnings bquestions td vd vl gp), (bfindings, oX8 12 4 bfindingsc (nI kbfindings)), (bfindingsc, iA G 48 fbfindings)]) hP hD (fun hP hD => ?_)
            refine lv_aload_n hx hb gX11_taken_5.2.2.2.1 rfl (lv_at1 hl) ?_
            refine gf_X11_79 hC rfl hK hP 0 rfl rfl gX11_taken_5.2.2.2.2.1 ?_
            refine lv_iload_n hx hb gX11_taken_5.2.2.2.2.2.1 rfl (lv_at3 hl) ?_
            refine pVo hO hS hC hK hl hP hD (d_isUnder6 l G K de9 x2 bb tr9 jr (nI jn) (fbfindings (jn * 4 + 0)) (fbfindings (jn * 4 + 2)) dq) si_X11_340 [9] sm_9 fm_9 nd_9 rfl rfl rfl rfl rfl (Nat.le_of_ble_eq_true rfl) rm_7_3_4 ⟨by first | exact Nat.le_of_ble_eq_true rfl | exact Nat.zero_le _, by first | exact Nat.le_of_ble_eq_true rfl | exact Nat.zero_le _⟩ gX11_taken_5.2.2.2.2.2.2.1 (Kors (Keqa fun a5060 => ?_) (Keqa fun a5060 => ?_))
            · refine lv_if_eq (tgt := 122) hx hb gX11_taken_5.2.2.2.2.2.2.2.1 (by decide) (fun c9 => absurd c9 (by decide)) (fun _ => ?_)
              refine lv_aload_n hx hb gX11_taken_5.2.2.2.2.2.2.2.2.1 rfl (lv_at1 hl) ?_
              refine gf_X11_72 hC rfl hK hP 0 rfl rfl gX11_taken_5.2.2.2.2.2.2.2.2.2 ?_
              refine lv_iload_n hx hb gX11_taken_6.1 rfl (lv_at2 hl) ?_
              refine pV hC hK hl hP hD (c_heldNumberX l G ho9 js hs hz hi hw hn ht fhn (by omega)) si_X11_334 [5, 7] sm_5_7 fm_5_7 nd_5_7 rfl rfl rfl rfl rfl (Nat.le_of_ble_eq_true rfl) rm_7_3_2 ⟨by first | exact Nat.le_of_ble_eq_true rfl | exact Nat.zero_le _, by first | exact Nat.le_of_ble_eq_true rfl | exact Nat.zero_le _⟩ gX11_taken_6.2.1 (Keqr ?_)
              refine lv_goto (tgt := 124) hx hb gX11_taken_6.2.2.1 (by decide) ?_
              refine toQ hQ0 ?_
              exact RI (v := fhn js) hC hP hD hS [0, 10, 1, 2, 3, 4, 11, 12, 5, 6, 7, 8, 9] (6, nI jn, (fbfindings (jn * 4 + 0)), (fbfindings (jn * 4 + 2))) rfl rfl (by decide) ((by first | rfl | (simp only [nI_clamp (n := js) (by omega), ifc_t hkbpapers, ifc_t hkbsayings, ifc_t hkbfindings, ifc_t a5020, ifc_t a5022, ifc_f c_44_5025, ifc_f c_52_5026, ifc_f w0, ifc_f w1, ifc_t w2, ifc_t a5060, ifc_t (q := Wi x2 0 6 ∨ Wi (x2 - 10) 0 4) (Or.inl a5022), ifc_f (q := fhw js = 3) (by rw [w2]; decide), ifc_t (q := UNl (KNn (fhw js) (fhn js).toNatClampNeg fbpapers fbsayings) x2) (by unfold KNn; rw [ifn_f w0, ifn_f w1]; exact a5060)]; done) | (simp only [nI_clamp (n := js) (by omega), ifc_t hkbpapers, ifc_t hkbsayings, ifc_t hkbfindings, ifc_t a5020, ifc_t a5022, ifc_f c_44_5025, ifc_f c_52_5026, ifc_f w0, ifc_f w1, ifc_t w2, ifc_t a5060, ifc_t (q := Wi x2 0 6 ∨ Wi (x2 - 10) 0 4) (Or.inl a5022), ifc_f (q := fhw js = 3) (by rw [w2]; decide), ifc_t (q := UNl (KNn (fhw js) (fhn js).toNatClampNeg fbpapers fbsayings) x2) (by unfold KNn; rw [ifn_f w0, ifn_f w1]; exact a5060)]; rfl))) rfl gX11_taken_6.2.2.2.2
            · refine lv_if_eq (tgt := 122) hx hb gX11_taken_5.2.2.2.2.2.2.2.1 (by decide) (fun _ => ?_) (fun c9 => absurd (by decide) c9)
              refine lv_bipush (v := (-13)) hx hb gX11_taken_6.2.2.2.1 (by decide) ?_
              refine toQ hQ0 ?_
              exact RI (v := (-13)) hC hP hD hS [0, 10, 1, 2, 3, 4, 11, 12, 5, 6, 7, 8, 9] (6, nI jn, (fbfindings (jn * 4 + 0)), (fbfindings (jn * 4 + 2))) rfl rfl (by decide) ((by first | rfl | (simp only [nI_clamp (n := js) (by omega), ifc_t hkbpapers, ifc_t hkbsayings, ifc_t hkbfindings, ifc_t a5020, ifc_t a5022, ifc_f c_44_5025, ifc_f c_52_5026, ifc_f w0, ifc_f w1, ifc_t w2, ifc_f a5060, ifc_t (q := Wi x2 0 6 ∨ Wi (x2 - 10) 0 4) (Or.inl a5022), ifc_f (q := fhw js = 3) (by rw [w2]; decide), ifc_f (q := UNl (KNn (fhw js) (fhn js).toNatClampNeg fbpapers fbsayings) x2) (by unfold KNn; rw [ifn_f w0, ifn_f w1]; exact a5060)]; done) | (simp only [nI_clamp (n := js) (by omega), ifc_t hkbpapers, ifc_t hkbsayings, ifc_t hkbfindings, ifc_t a5020, ifc_t a5022, ifc_f c_44_5025, ifc_f c_52_5026, ifc_f w0, ifc_f w1, ifc_t w2, ifc_f a5060, ifc_t (q := Wi x2 0 6 ∨ Wi (x2 - 10) 0 4) (Or.inl a5022), ifc_f (q := fhw js = 3) (by rw [w2]; decide), ifc_f (q := UNl (KNn (fhw js) (fhn js).toNatClampNeg fbpapers fbsayings) x2) (by unfold KNn; rw [ifn_f w0, ifn_f w1]; exact a5060)]; rfl))) rfl gX11_taken_6.2.2.2.2
          refine lv_aload_n hx hb gX11_taken_4.2.2.2.2.2.1 rfl (lv_at1 hl) ?_
          refine gf_X11_79 hC rfl hK hP 0 rfl rfl gX11_taken_4.2.2.2.2.2.2.1 ?_
          refine lv_iload_n hx hb gX11_taken_4.2.2.2.2.2.2.2.1 rfl (lv_at0 hl) ?_
          refine lv_aload_n hx hb gX11_taken_4.2.2.2.2.2.2.2.2.1 rfl (lv_at1 hl) ?_
          refine gf_X11_72 hC rfl hK hP 0 rfl rfl gX11_taken_4.2.2.2.2.2.2.2.2.2 ?_
          refine lv_iload_n hx hb gX11_taken_5.1 rfl (lv_at2 hl) ?_
          refine pV hC hK hl hP hD (c_heldNumberX l G ho9 js hs hz hi hw hn ht fhn (by omega)) si_X11_334 [8, 10] sm_8_10 fm_8_10 nd_8_10 rfl rfl rfl rfl rfl (Nat.le_of_ble_eq_true rfl) rm_7_3_2 ⟨by first | exact Nat.le_of_ble_eq_true rfl | exact Nat.zero_le _, by first | exact Nat.le_of_ble_eq_true rfl | exact Nat.zero_le _⟩ gX11_taken_5.2.1 (Keqr ?_)
          have hg0 : ¬ (HLD (fhw js) (fhn js) kbpapers kbsayings kbfindings) = 0 := fun h9 => w0 (by unfold HLD at h9; rw [ifc_f w0, ifc_f w1, ifc_f w2] at h9; exact h9)
          have hg1 : ¬ (HLD (fhw js) (fhn js) kbpapers kbsayings kbfindings) = 1 := fun h9 => w1 (by unfold HLD at h9; rw [ifc_f w0, ifc_f w1, ifc_f w2] at h9; exact h9)
          refine vV (wr := [(h0, oX11 bb kk ikp sg do9 ru9 ta9 tp9 ro9 ho9 de9), (bpapers, oX8 12 6 bpapersc (nI kbpapers)), (bpapersc, iA G 72 fbpapers), (bsayings, oX8 16 8 bsayingsc (nI kbsayings)), (bsayingsc, iA G 128 fbsayings), (ho9, oX4 hs hz hi hw hn ht), (hw, iA G 4 fhw), (hn, iA G 4 fhn), (ht, iA G 4 fht)]) hC hK hl hP hD hS hA (d_graspO l G de9 (HLD (fhw js) (fhn js) kbpapers kbsayings kbfindings) (fhn js) bb tr9 jr dk dn dp da dq bpersons bpapers bstamps bversions blines bsteps bsayings bfindings bwarnings bquestions td vd vl gp bfindingsc kbfindings fbfindings (hkbfindings) (hg0) (hg1)) si_X11_337 [12, 1, 6, 7] [0, 2, 3, 4, 5, 8, 9, 10, 11] sm_12_1_6_7 fm_12_1_6_7 nd_12_1_6_7 sm_0_2_3_4_5_8_9_10_11 nd_0_2_3_4_5_8_9_10_11 dj_12_1_6_7__0_2_3_4_5_8_9_10_11 rfl rfl rfl rfl rfl (Nat.le_of_ble_eq_true rfl) rm_7_5_3 ⟨Nat.le_of_ble_eq_true rfl, Nat.le_of_ble_eq_true rfl⟩ gX11_taken_5.2.2.1 (Ktu2 fun dp15067 da15068 => ?_)
          intro H locs hr5065 hP hD hS
          try dsimp only at hr5065
          refine Kpdr (ws := [(h0, oX11 bb kk ikp sg do9 ru9 ta9 tp9 ro9 ho9 de9), (bpapers, oX8 12 6 bpapersc (nI kbpapers)), (bpapersc, iA G 72 fbpapers), (bsayings, oX8 16 8 bsayingsc (nI kbsayings)), (bsayingsc, iA G 128 fbsayings), (ho9, oX4 hs hz hi hw hn ht), (hw, iA G 4 fhw), (hn, iA G 4 fhn), (ht, iA G 4 fht), (de9, oX2 bb tr9 (nI jr) 6 (fhn js) dp15067 da15068 dq), (bb, oX0 bpersons bpapers bstamps bversions blines bsteps bsayings bfindings bwarnings bquestions td vd vl gp), (bfindings, oX8 12 4 bfindingsc (nI kbfindings)), (bfindingsc, iA G 48 fbfindings)]) hP hD (fun hP hD => ?_)
          refine lv_aload_n hx hb gX11_taken_5.2.2.2.1 rfl (lv_at1 hl) ?_
          refine gf_X11_79 hC rfl hK hP 0 rfl rfl gX11_taken_5.2.2.2.2.1 ?_
          refine lv_iload_n hx hb gX11_taken_5.2.2.2.2.2.1 rfl (lv_at3 hl) ?_
          refine pVo hO hS hC hK hl hP hD (d_isUnder6 l G K de9 x2 bb tr9 jr (fhn js) dp15067 da15068 dq) si_X11_340 [9] sm_9 fm_9 nd_9 rfl rfl rfl rfl rfl (Nat.le_of_ble_eq_true rfl) rm_7_3_4 ⟨by first | exact Nat.le_of_ble_eq_true rfl | exact Nat.zero_le _, by first | exact Nat.le_of_ble_eq_true rfl | exact Nat.zero_le _⟩ gX11_taken_5.2.2.2.2.2.2.1 (Kors (Keqa fun a5070 => ?_) (Keqa fun a5070 => ?_))
          · refine lv_if_eq (tgt := 122) hx hb gX11_taken_5.2.2.2.2.2.2.2.1 (by decide) (fun c9 => absurd c9 (by decide)) (fun _ => ?_)
            refine lv_aload_n hx hb gX11_taken_5.2.2.2.2.2.2.2.2.1 rfl (lv_at1 hl) ?_
            refine gf_X11_72 hC rfl hK hP 0 rfl rfl gX11_taken_5.2.2.2.2.2.2.2.2.2 ?_
            refine lv_iload_n hx hb gX11_taken_6.1 rfl (lv_at2 hl) ?_
            refine pV hC hK hl hP hD (c_heldNumberX l G ho9 js hs hz hi hw hn ht fhn (by omega)) si_X11_334 [5, 7] sm_5_7 fm_5_7 nd_5_7 rfl rfl rfl rfl rfl (Nat.le_of_ble_eq_true rfl) rm_7_3_2 ⟨by first | exact Nat.le_of_ble_eq_true rfl | exact Nat.zero_le _, by first | exact Nat.le_of_ble_eq_true rfl | exact Nat.zero_le _⟩ gX11_taken_6.2.1 (Keqr ?_)
            refine lv_goto (tgt := 124) hx hb gX11_taken_6.2.2.1 (by decide) ?_
            refine toQ hQ0 ?_
            exact RI (v := fhn js) hC hP hD hS [0, 10, 1, 2, 3, 4, 11, 12, 5, 6, 7, 8, 9] (6, fhn js, dp15067, da15068) rfl rfl (by decide) ((by first | rfl | (simp only [nI_clamp (n := js) (by omega), ifc_t hkbpapers, ifc_t hkbsayings, ifc_t hkbfindings, ifc_t a5020, ifc_t a5022, ifc_f c_44_5025, ifc_f c_52_5026, ifc_f w0, ifc_f w1, ifc_f w2, ifc_t a5070, ifc_t (q := Wi x2 0 6 ∨ Wi (x2 - 10) 0 4) (Or.inl a5022), ifc_f (q := fhw js = 3) (fun h9 => c_52_5026 (by unfold HLD; rw [ifc_f w0, ifc_f w1, ifc_f w2]; exact h9)), ifc_t (q := UNl (KNn (fhw js) (fhn js).toNatClampNeg fbpapers fbsayings) x2) (by unfold KNn; rw [ifn_f w0, ifn_f w1]; exact a5070)]; done) | (simp only [nI_clamp (n := js) (by omega), ifc_t hkbpapers, ifc_t hkbsayings, ifc_t hkbfindings, ifc_t a5020, ifc_t a5022, ifc_f c_44_5025, ifc_f c_52_5026, ifc_f w0, ifc_f w1, ifc_f w2, ifc_t a5070, ifc_t (q := Wi x2 0 6 ∨ Wi (x2 - 10) 0 4) (Or.inl a5022), ifc_f (q := fhw js = 3) (fun h9 => c_52_5026 (by unfold HLD; rw [ifc_f w0, ifc_f w1, ifc_f w2]; exact h9)), ifc_t (q := UNl (KNn (fhw js) (fhn js).toNatClampNeg fbpapers fbsayings) x2) (by unfold KNn; rw [ifn_f w0, ifn_f w1]; exact a5070)]; rfl))) rfl gX11_taken_6.2.2.2.2
          · refine lv_if_eq (tgt := 122) hx hb gX11_taken_5.2.2.2.2.2.2.2.1 (by decide) (fun _ => ?_) (fun c9 => absurd (by decide) c9)
            refine lv_bipush (v := (-13)) hx hb gX11_taken_6.2.2.2.1 (by decide) ?_
            refine toQ hQ0 ?_
            exact RI (v := (-13)) hC hP hD hS [0, 10, 1, 2, 3, 4, 11, 12, 5, 6, 7, 8, 9] (6, fhn js, dp15067, da15068) rfl rfl (by decide) ((by first | rfl | (simp only [nI_clamp (n := js) (by omega), ifc_t hkbpapers, ifc_t hkbsayings, ifc_t hkbfindings, ifc_t a5020, ifc_t a5022, ifc_f c_44_5025, ifc_f c_52_5026, ifc_f w0, ifc_f w1, ifc_f w2, ifc_f a5070, ifc_t (q := Wi x2 0 6 ∨ Wi (x2 - 10) 0 4) (Or.inl a5022), ifc_f (q := fhw js = 3) (fun h9 => c_52_5026 (by unfold HLD; rw [ifc_f w0, ifc_f w1, ifc_f w2]; exact h9)), ifc_f (q := UNl (KNn (fhw js) (fhn js).toNatClampNeg fbpapers fbsayings) x2) (by unfold KNn; rw [ifn_f w0, ifn_f w1]; exact a5070)]; done) | (simp only [nI_clamp (n := js) (by omega), ifc_t hkbpapers, ifc_t hkbsayings, ifc_t hkbfindings, ifc_t a5020, ifc_t a5022, ifc_f c_44_5025, ifc_f c_52_5026, ifc_f w0, ifc_f w1, ifc_f w2, ifc_f a5070, ifc_t (q := Wi x2 0 6 ∨ Wi (x2 - 10) 0 4) (Or.inl a5022), ifc_f (q := fhw js = 3) (fun h9 => c_52_5026 (by unfold HLD; rw [ifc_f w0, ifc_f w1, ifc_f w2]; exact h9)), ifc_f (q := UNl (KNn (fhw js) (fhn js).toNatClampNeg fbpapers fbsayings) x2) (by unfold KNn; rw [ifn_f w0, ifn_f w1]; exact a5070)]; rfl))) rfl gX11_taken_6.2.2.2.2
        · refine lv_aload_n hx hb gX11_taken_3.1 rfl (lv_at1 hl) ?_
          refine gf_X11_72 hC rfl hK hP 0 rfl rfl gX11_taken_3.2.1 ?_
          refine lv_iload_n hx hb gX11_taken_3.2.2.1 rfl (lv_at2 hl) ?_
          refine pV hC hK hl hP hD (c_heldSortX l G ho9 js hs hz hi hw hn ht fht (by omega)) si_X11_331 [8, 11] sm_8_11 fm_8_11 nd_8_11 rfl rfl rfl rfl rfl (Nat.le_of_ble_eq_true rfl) rm_7_3_2 ⟨by first | exact Nat.le_of_ble_eq_true rfl | exact Nat.zero_le _, by first | exact Nat.le_of_ble_eq_true rfl | exact Nat.zero_le _⟩ gX11_taken_3.2.2.2.1 (Keqr ?_)
          refine lv_iload_n hx hb gX11_taken_3.2.2.2.2.1 rfl (lv_at3 hl) ?_
          refine lv_bipush (v := 10) hx hb gX11_taken_3.2.2.2.2.2.1 (by decide) ?_
          refine lv_isub hx hb gX11_taken_3.2.2.2.2.2.2.1 ?_
          refine lv_icmp_ne (tgt := 81) hx hb gX11_taken_3.2.2.2.2.2.2.2.1 (by decide) (fun c_67_5075 => ?_) (fun c_67_5075 => ?_)
          · refine lv_bipush (v := (-13)) hx hb gX11_taken_4.2.2.2.1 (by decide) ?_
            refine toQ hQ0 ?_
            exact RI (v := (-13)) hC hP hD hS [0, 1, 2, 3, 4, 5, 6, 7, 8, 9, 10, 11, 12] (dk, dn, dp, da) rfl rfl (by decide) ((by first | rfl | (simp only [nI_clamp (n := js) (by omega), ifc_t hkbpapers, ifc_t hkbsayings, ifc_t hkbfindings, ifc_t a5020, ifc_t a5022, ifc_f c_44_5025, ifc_t c_52_5026, ifc_f c_67_5075, ifc_t (q := Wi x2 0 6 ∨ Wi (x2 - 10) 0 4) (Or.inl a5022), ifc_t (q := fhw js = 3) (HLD.v c_52_5026)]; done) | (simp only [nI_clamp (n := js) (by omega), ifc_t hkbpapers, ifc_t hkbsayings, ifc_t hkbfindings, ifc_t a5020, ifc_t a5022, ifc_f c_44_5025, ifc_t c_52_5026, ifc_f c_67_5075, ifc_t (q := Wi x2 0 6 ∨ Wi (x2 - 10) 0 4) (Or.inl a5022), ifc_t (q := fhw js = 3) (HLD.v c_52_5026)]; rfl))) rfl gX11_taken_4.2.2.2.2.1
          · refine lv_aload_n hx hb gX11_taken_3.2.2.2.2.2.2.2.2.1 rfl (lv_at1 hl) ?_
            refine gf_X11_72 hC rfl hK hP 0 rfl rfl gX11_taken_3.2.2.2.2.2.2.2.2.2 ?_
            refine lv_iload_n hx hb gX11_taken_4.1 rfl (lv_at2 hl) ?_
            refine pV hC hK hl hP hD (c_heldNumberX l G ho9 js hs hz hi hw hn ht fhn (by omega)) si_X11_334 [8, 10] sm_8_10 fm_8_10 nd_8_10 rfl rfl rfl rfl rfl (Nat.le_of_ble_eq_true rfl) rm_7_3_2 ⟨by first | exact Nat.le_of_ble_eq_true rfl | exact Nat.zero_le _, by first | exact Nat.le_of_ble_eq_true rfl | exact Nat.zero_le _⟩ gX11_taken_4.2.1 (Keqr ?_)
            refine lv_goto (tgt := 83) hx hb gX11_taken_4.2.2.1 (by decide) ?_
            refine toQ hQ0 ?_
            exact RI (v := fhn js) hC hP hD hS [0, 1, 2, 3, 4, 5, 6, 7, 8, 9, 10, 11, 12] (dk, dn, dp, da) rfl rfl (by decide) ((by first | rfl | (simp only [nI_clamp (n := js) (by omega), ifc_t hkbpapers, ifc_t hkbsayings, ifc_t hkbfindings, ifc_t a5020, ifc_t a5022, ifc_f c_44_5025, ifc_t c_52_5026, ifc_t c_67_5075, ifc_t (q := Wi x2 0 6 ∨ Wi (x2 - 10) 0 4) (Or.inl a5022), ifc_t (q := fhw js = 3) (HLD.v c_52_5026)]; done) | (simp only [nI_clamp (n := js) (by omega), ifc_t hkbpapers, ifc_t hkbsayings, ifc_t hkbfindings, ifc_t a5020, ifc_t a5022, ifc_f c_44_5025, ifc_t c_52_5026, ifc_t c_67_5075, ifc_t (q := Wi x2 0 6 ∨ Wi (x2 - 10) 0 4) (Or.inl a5022), ifc_t (q := fhw js = 3) (HLD.v c_52_5026)]; rfl))) rfl gX11_taken_4.2.2.2.2.1
      · refine lv_bipush (v := (-11)) hx hb gX11_taken_2.2.2.2.2.2.1 (by decide) ?_
        refine toQ hQ0 ?_
        exact RI (v := (-11)) hC hP hD hS [0, 1, 2, 3, 4, 5, 6, 7, 8, 9, 10, 11, 12] (dk, dn, dp, da) rfl rfl (by decide) ((by first | rfl | (simp only [nI_clamp (n := js) (by omega), ifc_t hkbpapers, ifc_t hkbsayings, ifc_t hkbfindings, ifc_t a5020, ifc_t a5022, ifc_t c_44_5025, ifc_t (q := Wi x2 0 6 ∨ Wi (x2 - 10) 0 4) (Or.inl a5022)]; done) | (simp only [nI_clamp (n := js) (by omega), ifc_t hkbpapers, ifc_t hkbsayings, ifc_t hkbfindings, ifc_t a5020, ifc_t a5022, ifc_t c_44_5025, ifc_t (q := Wi x2 0 6 ∨ Wi (x2 - 10) 0 4) (Or.inl a5022)]; rfl))) rfl gX11_taken_2.2.2.2.2.2.2.1
    · refine lv_if_ne (tgt := 29) hx hb gX11_taken_0.2.2.2.2.2.2.2.1 (by decide) (fun c9 => absurd (by decide) c9) (fun _ => ?_)
      refine lv_iload_n hx hb gX11_taken_0.2.2.2.2.2.2.2.2.1 rfl (lv_at2 hl) ?_
      refine lv_bipush (v := 10) hx hb gX11_taken_0.2.2.2.2.2.2.2.2.2 (by decide) ?_
      refine lv_isub hx hb gX11_taken_1.1 ?_
      refine pS hC hK hl (c_isSort l G (x2 - 10)) si_X11_315 rfl rfl (Nat.le_of_ble_eq_true rfl) rm_7_2_1 ⟨by first | exact Nat.le_of_ble_eq_true rfl | exact Nat.zero_le _, by first | exact Nat.le_of_ble_eq_true rfl | exact Nat.zero_le _⟩ gX11_taken_1.2.1 (Kors (Keqa fun a5079 => ?_) (Keqa fun a5079 => ?_))
      · refine lv_if_ne (tgt := 29) hx hb gX11_taken_1.2.2.1 (by decide) (fun _ => ?_) (fun c9 => absurd c9 (by decide))
        obtain ⟨js, hjs, rfl⟩ := Wi3 a5020
        refine lv_aload_n hx hb gX11_taken_1.2.2.2.2.2.1 rfl (lv_at0 hl) ?_
        refine gf_X11_72 hC rfl hK hP 0 rfl rfl gX11_taken_1.2.2.2.2.2.2.1 ?_
        refine lv_iload_n hx hb gX11_taken_1.2.2.2.2.2.2.2.1 rfl (lv_at1 hl) ?_
        refine lv_aload_n hx hb gX11_taken_1.2.2.2.2.2.2.2.2.1 rfl (lv_at0 hl) ?_
        refine gf_X11_15 hC rfl hK hP 0 rfl rfl gX11_taken_1.2.2.2.2.2.2.2.2.2 ?_
        refine pV hC hK hl hP hD (c_heldX l G ho9 js bb hs hz hi hw hn ht fhw fhn bpersons bpapers bstamps bversions blines bsteps bsayings bfindings bwarnings bquestions td vd vl gp bpapersc kbpapers bsayingsc kbsayings bfindingsc kbfindings (by omega)) si_X11_327 [8, 9, 10, 1, 2, 4, 6] sm_8_9_10_1_2_4_6 fm_8_9_10_1_2_4_6 nd_8_9_10_1_2_4_6 rfl rfl rfl rfl rfl (Nat.le_of_ble_eq_true rfl) rm_7_3_4 ⟨by first | exact Nat.le_of_ble_eq_true rfl | exact Nat.zero_le _, by first | exact Nat.le_of_ble_eq_true rfl | exact Nat.zero_le _⟩ gX11_taken_2.1 (Keqr ?_)
        refine lv_istore_n (lv' := [(3, .int (HLD (fhw js) (fhn js) kbpapers kbsayings kbfindings)), (0, .ref h0), (1, .int (nI js)), (2, .int x2)]) hx hb gX11_taken_2.2.1 rfl hl (by decide) rfl (fun ls hl => ?_)
        refine lv_iload_n hx hb gX11_taken_2.2.2.1 rfl (lv_at0 hl) ?_
        refine lv_iconst (v := 4) hx hb gX11_taken_2.2.2.2.1 (by decide) ?_
        refine lv_icmp_ne (tgt := 50) hx hb gX11_taken_2.2.2.2.2.1 (by decide) (fun c_44_5082 => ?_) (fun c_44_5082 => ?_)
        · refine lv_iload_n hx hb gX11_taken_2.2.2.2.2.2.2.2.1 rfl (lv_at0 hl) ?_
          refine lv_iconst (v := 3) hx hb gX11_taken_2.2.2.2.2.2.2.2.2.1 (by decide) ?_
          refine lv_icmp_ne (tgt := 84) hx hb gX11_taken_2.2.2.2.2.2.2.2.2.2 (by decide) (fun c_52_5083 => ?_) (fun c_52_5083 => ?_)
          · by_cases w0 : fhw js = 0
            · have hin9 : Hs (fhn js) kbpapers := Classical.byContradiction fun h9 => c_44_5082 (by unfold HLD; rw [ifc_t (q := fhw js = 0) w0]; exact ifc_f h9)
              have hval9 : (HLD (fhw js) (fhn js) kbpapers kbsayings kbfindings) = 0 := by unfold HLD; rw [ifc_t (q := fhw js = 0) w0, ifc_t hin9]; exact w0
              obtain ⟨jn, hjn, ejn⟩ := Hs_nat (by omega) hin9
              refine lv_aload_n hx hb gX11_taken_4.2.2.2.2.2.1 rfl (lv_at1 hl) ?_
              refine gf_X11_79 hC rfl hK hP 0 rfl rfl gX11_taken_4.2.2.2.2.2.2.1 ?_
              refine lv_iload_n hx hb gX11_taken_4.2.2.2.2.2.2.2.1 rfl (lv_at0 hl) ?_
              refine eqi (x1 := 0) hval9 ?_
              refine lv_aload_n hx hb gX11_taken_4.2.2.2.2.2.2.2.2.1 rfl (lv_at1 hl) ?_
              refine gf_X11_72 hC rfl hK hP 0 rfl rfl gX11_taken_4.2.2.2.2.2.2.2.2.2 ?_
              refine lv_iload_n hx hb gX11_taken_5.1 rfl (lv_at2 hl) ?_
              refine pV hC hK hl hP hD (c_heldNumberX l G ho9 js hs hz hi hw hn ht fhn (by omega)) si_X11_334 [8, 10] sm_8_10 fm_8_10 nd_8_10 rfl rfl rfl rfl rfl (Nat.le_of_ble_eq_true rfl) rm_7_3_2 ⟨by first | exact Nat.le_of_ble_eq_true rfl | exact Nat.zero_le _, by first | exact Nat.le_of_ble_eq_true rfl | exact Nat.zero_le _⟩ gX11_taken_5.2.1 (Keqr ?_)
              refine eqi (x1 := nI jn) ejn ?_
              refine vV (wr := [(h0, oX11 bb kk ikp sg do9 ru9 ta9 tp9 ro9 ho9 de9), (bsayings, oX8 16 8 bsayingsc (nI kbsayings)), (bsayingsc, iA G 128 fbsayings), (bfindings, oX8 12 4 bfindingsc (nI kbfindings)), (bfindingsc, iA G 48 fbfindings), (ho9, oX4 hs hz hi hw hn ht), (hw, iA G 4 fhw), (hn, iA G 4 fhn), (ht, iA G 4 fht)]) hC hK hl hP hD hS hA (d_graspP l G de9 jn bb tr9 jr dk dn dp da dq bpersons bpapers bstamps bversions blines bsteps bsayings bfindings bwarnings bquestions td vd vl gp bpapersc kbpapers fbpapers (hkbpapers) (by omega)) si_X11_337 [12, 1, 2, 3] [0, 4, 5, 6, 7, 8, 9, 10, 11] sm_12_1_2_3 fm_12_1_2_3 nd_12_1_2_3 sm_0_4_5_6_7_8_9_10_11 nd_0_4_5_6_7_8_9_10_11 dj_12_1_2_3__0_4_5_6_7_8_9_10_11 rfl rfl rfl rfl rfl (Nat.le_of_ble_eq_true rfl) rm_7_5_3 ⟨Nat.le_of_ble_eq_true rfl, Nat.le_of_ble_eq_true rfl⟩ gX11_taken_5.2.2.1 (fun u5087 H locs hr5086 hP hD hS => ?_)
              refine Kpdr (ws := [(h0, oX11 bb kk ikp sg do9 ru9 ta9 tp9 ro9 ho9 de9), (bsayings, oX8 16 8 bsayingsc (nI kbsayings)), (bsayingsc, iA G 128 fbsayings), (bfindings, oX8 12 4 bfindingsc (nI kbfindings)), (bfindingsc, iA G 48 fbfindings), (ho9, oX4 hs hz hi hw hn ht), (hw, iA G 4 fhw), (hn, iA G 4 fhn), (ht, iA G 4 fht), (de9, oX2 bb tr9 (nI jr) (nI (PKn (fbpapers (jn * 6 + 1)) (fbpapers (jn * 6 + 0)) (fbpapers (jn * 6 + 3)))) (nI jn) (fbpapers (jn * 6 + 0)) (fbpapers (jn * 6 + 2)) dq), (bb, oX0 bpersons bpapers bstamps bversions blines bsteps bsayings bfindings bwarnings bquestions td vd vl gp), (bpapers, oX8 12 6 bpapersc (nI kbpapers)), (bpapersc, iA G 72 fbpapers)]) hP hD (fun hP hD => ?_)
              refine lv_aload_n hx hb gX11_taken_5.2.2.2.1 rfl (lv_at1 hl) ?_
              refine gf_X11_79 hC rfl hK hP 0 rfl rfl gX11_taken_5.2.2.2.2.1 ?_
              refine lv_iload_n hx hb gX11_taken_5.2.2.2.2.2.1 rfl (lv_at3 hl) ?_
              rcases (PKn.one : PKn (fbpapers (jn * 6 + 1)) (fbpapers (jn * 6 + 0)) (fbpapers (jn * 6 + 3)) = 1 ∨ PKn (fbpapers (jn * 6 + 1)) (fbpapers (jn * 6 + 0)) (fbpapers (jn * 6 + 3)) = 2 ∨ PKn (fbpapers (jn * 6 + 1)) (fbpapers (jn * 6 + 0)) (fbpapers (jn * 6 + 3)) = 3) with ek9 | ek9 | ek9
              · rw [ek9] at hP hD
                refine Kpdr (ws := [(h0, oX11 bb kk ikp sg do9 ru9 ta9 tp9 ro9 ho9 de9), (bsayings, oX8 16 8 bsayingsc (nI kbsayings)), (bsayingsc, iA G 128 fbsayings), (bfindings, oX8 12 4 bfindingsc (nI kbfindings)), (bfindingsc, iA G 48 fbfindings), (ho9, oX4 hs hz hi hw hn ht), (hw, iA G 4 fhw), (hn, iA G 4 fhn), (ht, iA G 4 fht), (de9, oX2 bb tr9 (nI jr) 1 (nI jn) (fbpapers (jn * 6 + 0)) (fbpapers (jn * 6 + 2)) dq), (bb, oX0 bpersons bpapers bstamps bversions blines bsteps bsayings bfindings bwarnings bquestions td vd vl gp), (bpapers, oX8 12 6 bpapersc (nI kbpapers)), (bpapersc, iA G 72 fbpapers)]) hP hD (fun hP hD => ?_)
                refine pVo hO hS hC hK hl hP hD (d_isUnder1 l G K de9 x2 bb tr9 jr (nI jn) (fbpapers (jn * 6 + 0)) (fbpapers (jn * 6 + 2)) dq) si_X11_340 [9] sm_9 fm_9 nd_9 rfl rfl rfl rfl rfl (Nat.le_of_ble_eq_true rfl) rm_7_3_4 ⟨by first | exact Nat.le_of_ble_eq_true rfl | exact Nat.zero_le _, by first | exact Nat.le_of_ble_eq_true rfl | exact Nat.zero_le _⟩ gX11_taken_5.2.2.2.2.2.2.1 (Kors (Keqa fun a5089 => ?_) (Keqa fun a5089 => ?_))
                · refine lv_if_eq (tgt := 122) hx hb gX11_taken_5.2.2.2.2.2.2.2.1 (by decide) (fun c9 => absurd c9 (by decide)) (fun _ => ?_)
                  refine lv_aload_n hx hb gX11_taken_5.2.2.2.2.2.2.2.2.1 rfl (lv_at1 hl) ?_
                  refine gf_X11_72 hC rfl hK hP 0 rfl rfl gX11_taken_5.2.2.2.2.2.2.2.2.2 ?_
                  refine lv_iload_n hx hb gX11_taken_6.1 rfl (lv_at2 hl) ?_
                  refine pV hC hK hl hP hD (c_heldNumberX l G ho9 js hs hz hi hw hn ht fhn (by omega)) si_X11_334 [5, 7] sm_5_7 fm_5_7 nd_5_7 rfl rfl rfl rfl rfl (Nat.le_of_ble_eq_true rfl) rm_7_3_2 ⟨by first | exact Nat.le_of_ble_eq_true rfl | exact Nat.zero_le _, by first | exact Nat.le_of_ble_eq_true rfl | exact Nat.zero_le _⟩ gX11_taken_6.2.1 (Keqr ?_)
                  refine lv_goto (tgt := 124) hx hb gX11_taken_6.2.2.1 (by decide) ?_
                  refine toQ hQ0 ?_
                  exact RI (v := fhn js) hC hP hD hS [0, 10, 11, 12, 1, 2, 3, 4, 5, 6, 7, 8, 9] (1, nI jn, (fbpapers (jn * 6 + 0)), (fbpapers (jn * 6 + 2))) rfl rfl (by decide) ((by first | rfl | (simp only [nI_clamp (n := js) (by omega), ifc_t hkbpapers, ifc_t hkbsayings, ifc_t hkbfindings, ifc_t a5020, ifc_f a5022, ifc_t a5079, ifc_f c_44_5082, ifc_f c_52_5083, ifc_t w0, ifc_t a5089, ifc_t (q := Wi x2 0 6 ∨ Wi (x2 - 10) 0 4) (Or.inr a5079), ifc_f (q := fhw js = 3) (by rw [w0]; decide), ifc_t (q := UNl (KNn (fhw js) (fhn js).toNatClampNeg fbpapers fbsayings) x2) (by unfold KNn; rw [ifn_t w0, ejn, nI_clamp (n := jn) (by omega), ek9]; exact a5089)]; done) | (simp only [nI_clamp (n := js) (by omega), ifc_t hkbpapers, ifc_t hkbsayings, ifc_t hkbfindings, ifc_t a5020, ifc_f a5022, ifc_t a5079, ifc_f c_44_5082, ifc_f c_52_5083, ifc_t w0, ifc_t a5089, ifc_t (q := Wi x2 0 6 ∨ Wi (x2 - 10) 0 4) (Or.inr a5079), ifc_f (q := fhw js = 3) (by rw [w0]; decide), ifc_t (q := UNl (KNn (fhw js) (fhn js).toNatClampNeg fbpapers fbsayings) x2) (by unfold KNn; rw [ifn_t w0, ejn, nI_clamp (n := jn) (by omega), ek9]; exact a5089)]; rfl))) rfl gX11_taken_6.2.2.2.2
                · refine lv_if_eq (tgt := 122) hx hb gX11_taken_5.2.2.2.2.2.2.2.1 (by decide) (fun _ => ?_) (fun c9 => absurd (by decide) c9)
                  refine lv_bipush (v := (-13)) hx hb gX11_taken_6.2.2.2.1 (by decide) ?_
                  refine toQ hQ0 ?_
                  exact RI (v := (-13)) hC hP hD hS [0, 10, 11, 12, 1, 2, 3, 4, 5, 6, 7, 8, 9] (1, nI jn, (fbpapers (jn * 6 + 0)), (fbpapers (jn * 6 + 2))) rfl rfl (by decide) ((by first | rfl | (simp only [nI_clamp (n := js) (by omega), ifc_t hkbpapers, ifc_t hkbsayings, ifc_t hkbfindings, ifc_t a5020, ifc_f a5022, ifc_t a5079, ifc_f c_44_5082, ifc_f c_52_5083, ifc_t w0, ifc_f a5089, ifc_t (q := Wi x2 0 6 ∨ Wi (x2 - 10) 0 4) (Or.inr a5079), ifc_f (q := fhw js = 3) (by rw [w0]; decide), ifc_f (q := UNl (KNn (fhw js) (fhn js).toNatClampNeg fbpapers fbsayings) x2) (by unfold KNn; rw [ifn_t w0, ejn, nI_clamp (n := jn) (by omega), ek9]; exact a5089)]; done) | (simp only [nI_clamp (n := js) (by omega), ifc_t hkbpapers, ifc_t hkbsayings, ifc_t hkbfindings, ifc_t a5020, ifc_f a5022, ifc_t a5079, ifc_f c_44_5082, ifc_f c_52_5083, ifc_t w0, ifc_f a5089, ifc_t (q := Wi x2 0 6 ∨ Wi (x2 - 10) 0 4) (Or.inr a5079), ifc_f (q := fhw js = 3) (by rw [w0]; decide), ifc_f (q := UNl (KNn (fhw js) (fhn js).toNatClampNeg fbpapers fbsayings) x2) (by unfold KNn; rw [ifn_t w0, ejn, nI_clamp (n := jn) (by omega), ek9]; exact a5089)]; rfl))) rfl gX11_taken_6.2.2.2.2
              · rw [ek9] at hP hD
                refine Kpdr (ws := [(h0, oX11 bb kk ikp sg do9 ru9 ta9 tp9 ro9 ho9 de9), (bsayings, oX8 16 8 bsayingsc (nI kbsayings)), (bsayingsc, iA G 128 fbsayings), (bfindings, oX8 12 4 bfindingsc (nI kbfindings)), (bfindingsc, iA G 48 fbfindings), (ho9, oX4 hs hz hi hw hn ht), (hw, iA G 4 fhw), (hn, iA G 4 fhn), (ht, iA G 4 fht), (de9, oX2 bb tr9 (nI jr) 2 (nI jn) (fbpapers (jn * 6 + 0)) (fbpapers (jn * 6 + 2)) dq), (bb, oX0 bpersons bpapers bstamps bversions blines bsteps bsayings bfindings bwarnings bquestions td vd vl gp), (bpapers, oX8 12 6 bpapersc (nI kbpapers)), (bpapersc, iA G 72 fbpapers)]) hP hD (fun hP hD => ?_)
                refine pVo hO hS hC hK hl hP hD (d_isUnder2 l G K de9 x2 bb tr9 jr (nI jn) (fbpapers (jn * 6 + 0)) (fbpapers (jn * 6 + 2)) dq) si_X11_340 [9] sm_9 fm_9 nd_9 rfl rfl rfl rfl rfl (Nat.le_of_ble_eq_true rfl) rm_7_3_4 ⟨by first | exact Nat.le_of_ble_eq_true rfl | exact Nat.zero_le _, by first | exact Nat.le_of_ble_eq_true rfl | exact Nat.zero_le _⟩ gX11_taken_5.2.2.2.2.2.2.1 (Kors (Keqa fun a5093 => ?_) (Keqa fun a5093 => ?_))
                · refine lv_if_eq (tgt := 122) hx hb gX11_taken_5.2.2.2.2.2.2.2.1 (by decide) (fun c9 => absurd c9 (by decide)) (fun _ => ?_)
                  refine lv_aload_n hx hb gX11_taken_5.2.2.2.2.2.2.2.2.1 rfl (lv_at1 hl) ?_
                  refine gf_X11_72 hC rfl hK hP 0 rfl rfl gX11_taken_5.2.2.2.2.2.2.2.2.2 ?_
                  refine lv_iload_n hx hb gX11_taken_6.1 rfl (lv_at2 hl) ?_
                  refine pV hC hK hl hP hD (c_heldNumberX l G ho9 js hs hz hi hw hn ht fhn (by omega)) si_X11_334 [5, 7] sm_5_7 fm_5_7 nd_5_7 rfl rfl rfl rfl rfl (Nat.le_of_ble_eq_true rfl) rm_7_3_2 ⟨by first | exact Nat.le_of_ble_eq_true rfl | exact Nat.zero_le _, by first | exact Nat.le_of_ble_eq_true rfl | exact Nat.zero_le _⟩ gX11_taken_6.2.1 (Keqr ?_)
                  refine lv_goto (tgt := 124) hx hb gX11_taken_6.2.2.1 (by decide) ?_
                  refine toQ hQ0 ?_
                  exact RI (v := fhn js) hC hP hD hS [0, 10, 11, 12, 1, 2, 3, 4, 5, 6, 7, 8, 9] (2, nI jn, (fbpapers (jn * 6 + 0)), (fbpapers (jn * 6 + 2))) rfl rfl (by decide) ((by first | rfl | (simp only [nI_clamp (n := js) (by omega), ifc_t hkbpapers, ifc_t hkbsayings, ifc_t hkbfindings, ifc_t a5020, ifc_f a5022, ifc_t a5079, ifc_f c_44_5082, ifc_f c_52_5083, ifc_t w0, ifc_t a5093, ifc_t (q := Wi x2 0 6 ∨ Wi (x2 - 10) 0 4) (Or.inr a5079), ifc_f (q := fhw js = 3) (by rw [w0]; decide), ifc_t (q := UNl (KNn (fhw js) (fhn js).toNatClampNeg fbpapers fbsayings) x2) (by unfold KNn; rw [ifn_t w0, ejn, nI_clamp (n := jn) (by omega), ek9]; exact a5093)]; done) | (simp only [nI_clamp (n := js) (by omega), ifc_t hkbpapers, ifc_t hkbsayings, ifc_t hkbfindings, ifc_t a5020, ifc_f a5022, ifc_t a5079, ifc_f c_44_5082, ifc_f c_52_5083, ifc_t w0, ifc_t a5093, ifc_t (q := Wi x2 0 6 ∨ Wi (x2 - 10) 0 4) (Or.inr a5079), ifc_f (q := fhw js = 3) (by rw [w0]; decide), ifc_t (q := UNl (KNn (fhw js) (fhn js).toNatClampNeg fbpapers fbsayings) x2) (by unfold KNn; rw [ifn_t w0, ejn, nI_clamp (n := jn) (by omega), ek9]; exact a5093)]; rfl))) rfl gX11_taken_6.2.2.2.2
                · refine lv_if_eq (tgt := 122) hx hb gX11_taken_5.2.2.2.2.2.2.2.1 (by decide) (fun _ => ?_) (fun c9 => absurd (by decide) c9)
                  refine lv_bipush (v := (-13)) hx hb gX11_taken_6.2.2.2.1 (by decide) ?_
                  refine toQ hQ0 ?_
                  exact RI (v := (-13)) hC hP hD hS [0, 10, 11, 12, 1, 2, 3, 4, 5, 6, 7, 8, 9] (2, nI jn, (fbpapers (jn * 6 + 0)), (fbpapers (jn * 6 + 2))) rfl rfl (by decide) ((by first | rfl | (simp only [nI_clamp (n := js) (by omega), ifc_t hkbpapers, ifc_t hkbsayings, ifc_t hkbfindings, ifc_t a5020, ifc_f a5022, ifc_t a5079, ifc_f c_44_5082, ifc_f c_52_5083, ifc_t w0, ifc_f a5093, ifc_t (q := Wi x2 0 6 ∨ Wi (x2 - 10) 0 4) (Or.inr a5079), ifc_f (q := fhw js = 3) (by rw [w0]; decide), ifc_f (q := UNl (KNn (fhw js) (fhn js).toNatClampNeg fbpapers fbsayings) x2) (by unfold KNn; rw [ifn_t w0, ejn, nI_clamp (n := jn) (by omega), ek9]; exact a5093)]; done) | (simp only [nI_clamp (n := js) (by omega), ifc_t hkbpapers, ifc_t hkbsayings, ifc_t hkbfindings, ifc_t a5020, ifc_f a5022, ifc_t a5079, ifc_f c_44_5082, ifc_f c_52_5083, ifc_t w0, ifc_f a5093, ifc_t (q := Wi x2 0 6 ∨ Wi (x2 - 10) 0 4) (Or.inr a5079), ifc_f (q := fhw js = 3) (by rw [w0]; decide), ifc_f (q := UNl (KNn (fhw js) (fhn js).toNatClampNeg fbpapers fbsayings) x2) (by unfold KNn; rw [ifn_t w0, ejn, nI_clamp (n := jn) (by omega), ek9]; exact a5093)]; rfl))) rfl gX11_taken_6.2.2.2.2
              · rw [ek9] at hP hD
                refine Kpdr (ws := [(h0, oX11 bb kk ikp sg do9 ru9 ta9 tp9 ro9 ho9 de9), (bsayings, oX8 16 8 bsayingsc (nI kbsayings)), (bsayingsc, iA G 128 fbsayings), (bfindings, oX8 12 4 bfindingsc (nI kbfindings)), (bfindingsc, iA G 48 fbfindings), (ho9, oX4 hs hz hi hw hn ht), (hw, iA G 4 fhw), (hn, iA G 4 fhn), (ht, iA G 4 fht), (de9, oX2 bb tr9 (nI jr) 3 (nI jn) (fbpapers (jn * 6 + 0)) (fbpapers (jn * 6 + 2)) dq), (bb, oX0 bpersons bpapers bstamps bversions blines bsteps bsayings bfindings bwarnings bquestions td vd vl gp), (bpapers, oX8 12 6 bpapersc (nI kbpapers)), (bpapersc, iA G 72 fbpapers)]) hP hD (fun hP hD => ?_)
                refine pVo hO hS hC hK hl hP hD (d_isUnder3 l G K de9 x2 bb tr9 jr (nI jn) (fbpapers (jn * 6 + 0)) (fbpapers (jn * 6 + 2)) dq) si_X11_340 [9] sm_9 fm_9 nd_9 rfl rfl rfl rfl rfl (Nat.le_of_ble_eq_true rfl) rm_7_3_4 ⟨by first | exact Nat.le_of_ble_eq_true rfl | exact Nat.zero_le _, by first | exact Nat.le_of_ble_eq_true rfl | exact Nat.zero_le _⟩ gX11_taken_5.2.2.2.2.2.2.1 (Kors (Keqa fun a5097 => ?_) (Keqa fun a5097 => ?_))
                · refine lv_if_eq (tgt := 122) hx hb gX11_taken_5.2.2.2.2.2.2.2.1 (by decide) (fun c9 => absurd c9 (by decide)) (fun _ => ?_)
                  refine lv_aload_n hx hb gX11_taken_5.2.2.2.2.2.2.2.2.1 rfl (lv_at1 hl) ?_
                  refine gf_X11_72 hC rfl hK hP 0 rfl rfl gX11_taken_5.2.2.2.2.2.2.2.2.2 ?_
                  refine lv_iload_n hx hb gX11_taken_6.1 rfl (lv_at2 hl) ?_
                  refine pV hC hK hl hP hD (c_heldNumberX l G ho9 js hs hz hi hw hn ht fhn (by omega)) si_X11_334 [5, 7] sm_5_7 fm_5_7 nd_5_7 rfl rfl rfl rfl rfl (Nat.le_of_ble_eq_true rfl) rm_7_3_2 ⟨by first | exact Nat.le_of_ble_eq_true rfl | exact Nat.zero_le _, by first | exact Nat.le_of_ble_eq_true rfl | exact Nat.zero_le _⟩ gX11_taken_6.2.1 (Keqr ?_)
                  refine lv_goto (tgt := 124) hx hb gX11_taken_6.2.2.1 (by decide) ?_
                  refine toQ hQ0 ?_
                  exact RI (v := fhn js) hC hP hD hS [0, 10, 11, 12, 1, 2, 3, 4, 5, 6, 7, 8, 9] (3, nI jn, (fbpapers (jn * 6 + 0)), (fbpapers (jn * 6 + 2))) rfl rfl (by decide) ((by first | rfl | (simp only [nI_clamp (n := js) (by omega), ifc_t hkbpapers, ifc_t hkbsayings, ifc_t hkbfindings, ifc_t a5020, ifc_f a5022, ifc_t a5079, ifc_f c_44_5082, ifc_f c_52_5083, ifc_t w0, ifc_t a5097, ifc_t (q := Wi x2 0 6 ∨ Wi (x2 - 10) 0 4) (Or.inr a5079), ifc_f (q := fhw js = 3) (by rw [w0]; decide), ifc_t (q := UNl (KNn (fhw js) (fhn js).toNatClampNeg fbpapers fbsayings) x2) (by unfold KNn; rw [ifn_t w0, ejn, nI_clamp (n := jn) (by omega), ek9]; exact a5097)]; done) | (simp only [nI_clamp (n := js) (by omega), ifc_t hkbpapers, ifc_t hkbsayings, ifc_t hkbfindings, ifc_t a5020, ifc_f a5022, ifc_t a5079, ifc_f c_44_5082, ifc_f c_52_5083, ifc_t w0, ifc_t a5097, ifc_t (q := Wi x2 0 6 ∨ Wi (x2 - 10) 0 4) (Or.inr a5079), ifc_f (q := fhw js = 3) (by rw [w0]; decide), ifc_t (q := UNl (KNn (fhw js) (fhn js).toNatClampNeg fbpapers fbsayings) x2) (by unfold KNn; rw [ifn_t w0, ejn, nI_clamp (n := jn) (by omega), ek9]; exact a5097)]; rfl))) rfl gX11_taken_6.2.2.2.2
                · refine lv_if_eq (tgt := 122) hx hb gX11_taken_5.2.2.2.2.2.2.2.1 (by decide) (fun _ => ?_) (fun c9 => absurd (by decide) c9)
                  refine lv_bipush (v := (-13)) hx hb gX11_taken_6.2.2.2.1 (by decide) ?_
                  refine toQ hQ0 ?_
                  exact RI (v := (-13)) hC hP hD hS [0, 10, 11, 12, 1, 2, 3, 4, 5, 6, 7, 8, 9] (3, nI jn, (fbpapers (jn * 6 + 0)), (fbpapers (jn * 6 + 2))) rfl rfl (by decide) ((by first | rfl | (simp only [nI_clamp (n := js) (by omega), ifc_t hkbpapers, ifc_t hkbsayings, ifc_t hkbfindings, ifc_t a5020, ifc_f a5022, ifc_t a5079, ifc_f c_44_5082, ifc_f c_52_5083, ifc_t w0, ifc_f a5097, ifc_t (q := Wi x2 0 6 ∨ Wi (x2 - 10) 0 4) (Or.inr a5079), ifc_f (q := fhw js = 3) (by rw [w0]; decide), ifc_f (q := UNl (KNn (fhw js) (fhn js).toNatClampNeg fbpapers fbsayings) x2) (by unfold KNn; rw [ifn_t w0, ejn, nI_clamp (n := jn) (by omega), ek9]; exact a5097)]; done) | (simp only [nI_clamp (n := js) (by omega), ifc_t hkbpapers, ifc_t hkbsayings, ifc_t hkbfindings, ifc_t a5020, ifc_f a5022, ifc_t a5079, ifc_f c_44_5082, ifc_f c_52_5083, ifc_t w0, ifc_f a5097, ifc_t (q := Wi x2 0 6 ∨ Wi (x2 - 10) 0 4) (Or.inr a5079), ifc_f (q := fhw js = 3) (by rw [w0]; decide), ifc_f (q := UNl (KNn (fhw js) (fhn js).toNatClampNeg fbpapers fbsayings) x2) (by unfold KNn; rw [ifn_t w0, ejn, nI_clamp (n := jn) (by omega), ek9]; exact a5097)]; rfl))) rfl gX11_taken_6.2.2.2.2
            by_cases w1 : fhw js = 1
            · have hin9 : Hs (fhn js) kbsayings := Classical.byContradiction fun h9 => c_44_5082 (by unfold HLD; rw [ifc_f (q := fhw js = 0) w0, ifc_t (q := fhw js = 1) w1]; exact ifc_f h9)
              have hval9 : (HLD (fhw js) (fhn js) kbpapers kbsayings kbfindings) = 1 := by unfold HLD; rw [ifc_f (q := fhw js = 0) w0, ifc_t (q := fhw js = 1) w1, ifc_t hin9]; exact w1
              obtain ⟨jn, hjn, ejn⟩ := Hs_nat (by omega) hin9
              refine lv_aload_n hx hb gX11_taken_4.2.2.2.2.2.1 rfl (lv_at1 hl) ?_
              refine gf_X11_79 hC rfl hK hP 0 rfl rfl gX11_taken_4.2.2.2.2.2.2.1 ?_
              refine lv_iload_n hx hb gX11_taken_4.2.2.2.2.2.2.2.1 rfl (lv_at0 hl) ?_
              refine eqi (x1 := 1) hval9 ?_
              refine lv_aload_n hx hb gX11_taken_4.2.2.2.2.2.2.2.2.1 rfl (lv_at1 hl) ?_
              refine gf_X11_72 hC rfl hK hP 0 rfl rfl gX11_taken_4.2.2.2.2.2.2.2.2.2 ?_
              refine lv_iload_n hx hb gX11_taken_5.1 rfl (lv_at2 hl) ?_
              refine pV hC hK hl hP hD (c_heldNumberX l G ho9 js hs hz hi hw hn ht fhn (by omega)) si_X11_334 [8, 10] sm_8_10 fm_8_10 nd_8_10 rfl rfl rfl rfl rfl (Nat.le_of_ble_eq_true rfl) rm_7_3_2 ⟨by first | exact Nat.le_of_ble_eq_true rfl | exact Nat.zero_le _, by first | exact Nat.le_of_ble_eq_true rfl | exact Nat.zero_le _⟩ gX11_taken_5.2.1 (Keqr ?_)
              refine eqi (x1 := nI jn) ejn ?_
              refine vV (wr := [(h0, oX11 bb kk ikp sg do9 ru9 ta9 tp9 ro9 ho9 de9), (bpapers, oX8 12 6 bpapersc (nI kbpapers)), (bpapersc, iA G 72 fbpapers), (bfindings, oX8 12 4 bfindingsc (nI kbfindings)), (bfindingsc, iA G 48 fbfindings), (ho9, oX4 hs hz hi hw hn ht), (hw, iA G 4 fhw), (hn, iA G 4 fhn), (ht, iA G 4 fht)]) hC hK hl hP hD hS hA (d_graspS l G de9 jn bb tr9 jr dk dn dp da dq bpersons bpapers bstamps bversions blines bsteps bsayings bfindings bwarnings bquestions td vd vl gp bsayingsc kbsayings fbsayings (hkbsayings) (by omega)) si_X11_337 [12, 1, 4, 5] [0, 2, 3, 6, 7, 8, 9, 10, 11] sm_12_1_4_5 fm_12_1_4_5 nd_12_1_4_5 sm_0_2_3_6_7_8_9_10_11 nd_0_2_3_6_7_8_9_10_11 dj_12_1_4_5__0_2_3_6_7_8_9_10_11 rfl rfl rfl rfl rfl (Nat.le_of_ble_eq_true rfl) rm_7_5_3 ⟨Nat.le_of_ble_eq_true rfl, Nat.le_of_ble_eq_true rfl⟩ gX11_taken_5.2.2.1 (fun u5103 H locs hr5102 hP hD hS => ?_)
              refine Kpdr (ws := [(h0, oX11 bb kk ikp sg do9 ru9 ta9 tp9 ro9 ho9 de9), (bpapers, oX8 12 6 bpapersc (nI kbpapers)), (bpapersc, iA G 72 fbpapers), (bfindings, oX8 12 4 bfindingsc (nI kbfindings)), (bfindingsc, iA G 48 fbfindings), (ho9, oX4 hs hz hi hw hn ht), (hw, iA G 4 fhw), (hn, iA G 4 fhn), (ht, iA G 4 fht), (de9, oX2 bb tr9 (nI jr) (nI (SKn (fbsayings (jn * 8 + 6)))) (nI jn) (fbsayings (jn * 8 + 0)) (fbsayings (jn * 8 + 4)) dq), (bb, oX0 bpersons bpapers bstamps bversions blines bsteps bsayings bfindings bwarnings bquestions td vd vl gp), (bsayings, oX8 16 8 bsayingsc (nI kbsayings)), (bsayingsc, iA G 128 fbsayings)]) hP hD (fun hP hD => ?_)
              refine lv_aload_n hx hb gX11_taken_5.2.2.2.1 rfl (lv_at1 hl) ?_
              refine gf_X11_79 hC rfl hK hP 0 rfl rfl gX11_taken_5.2.2.2.2.1 ?_
              refine lv_iload_n hx hb gX11_taken_5.2.2.2.2.2.1 rfl (lv_at3 hl) ?_
              rcases (SKn.one : SKn (fbsayings (jn * 8 + 6)) = 4 ∨ SKn (fbsayings (jn * 8 + 6)) = 5) with ek9 | ek9
              · rw [ek9] at hP hD
                refine Kpdr (ws := [(h0, oX11 bb kk ikp sg do9 ru9 ta9 tp9 ro9 ho9 de9), (bpapers, oX8 12 6 bpapersc (nI kbpapers)), (bpapersc, iA G 72 fbpapers), (bfindings, oX8 12 4 bfindingsc (nI kbfindings)), (bfindingsc, iA G 48 fbfindings), (ho9, oX4 hs hz hi hw hn ht), (hw, iA G 4 fhw), (hn, iA G 4 fhn), (ht, iA G 4 fht), (de9, oX2 bb tr9 (nI jr) 4 (nI jn) (fbsayings (jn * 8 + 0)) (fbsayings (jn * 8 + 4)) dq), (bb, oX0 bpersons bpapers bstamps bversions blines bsteps bsayings bfindings bwarnings bquestions td vd vl gp), (bsayings, oX8 16 8 bsayingsc (nI kbsayings)), (bsayingsc, iA G 128 fbsayings)]) hP hD (fun hP hD => ?_)
                refine pVo hO hS hC hK hl hP hD (d_isUnder4 l G K de9 x2 bb tr9 jr (nI jn) (fbsayings (jn * 8 + 0)) (fbsayings (jn * 8 + 4)) dq) si_X11_340 [9] sm_9 fm_9 nd_9 rfl rfl rfl rfl rfl (Nat.le_of_ble_eq_true rfl) rm_7_3_4 ⟨by first | exact Nat.le_of_ble_eq_true rfl | exact Nat.zero_le _, by first | exact Nat.le_of_ble_eq_true rfl | exact Nat.zero_le _⟩ gX11_taken_5.2.2.2.2.2.2.1 (Kors (Keqa fun a5105 => ?_) (Keqa fun a5105 => ?_))
                · refine lv_if_eq (tgt := 122) hx hb gX11_taken_5.2.2.2.2.2.2.2.1 (by decide) (fun c9 => absurd c9 (by decide)) (fun _ => ?_)
                  refine lv_aload_n hx hb gX11_taken_5.2.2.2.2.2.2.2.2.1 rfl (lv_at1 hl) ?_
                  refine gf_X11_72 hC rfl hK hP 0 rfl rfl gX11_taken_5.2.2.2.2.2.2.2.2.2 ?_
                  refine lv_iload_n hx hb gX11_taken_6.1 rfl (lv_at2 hl) ?_
                  refine pV hC hK hl hP hD (c_heldNumberX l G ho9 js hs hz hi hw hn ht fhn (by omega)) si_X11_334 [5, 7] sm_5_7 fm_5_7 nd_5_7 rfl rfl rfl rfl rfl (Nat.le_of_ble_eq_true rfl) rm_7_3_2 ⟨by first | exact Nat.le_of_ble_eq_true rfl | exact Nat.zero_le _, by first | exact Nat.le_of_ble_eq_true rfl | exact Nat.zero_le _⟩ gX11_taken_6.2.1 (Keqr ?_)
                  refine lv_goto (tgt := 124) hx hb gX11_taken_6.2.2.1 (by decide) ?_
                  refine toQ hQ0 ?_
                  exact RI (v := fhn js) hC hP hD hS [0, 10, 1, 2, 11, 12, 3, 4, 5, 6, 7, 8, 9] (4, nI jn, (fbsayings (jn * 8 + 0)), (fbsayings (jn * 8 + 4))) rfl rfl (by decide) ((by first | rfl | (simp only [nI_clamp (n := js) (by omega), ifc_t hkbpapers, ifc_t hkbsayings, ifc_t hkbfindings, ifc_t a5020, ifc_f a5022, ifc_t a5079, ifc_f c_44_5082, ifc_f c_52_5083, ifc_f w0, ifc_t w1, ifc_t a5105, ifc_t (q := Wi x2 0 6 ∨ Wi (x2 - 10) 0 4) (Or.inr a5079), ifc_f (q := fhw js = 3) (by rw [w1]; decide), ifc_t (q := UNl (KNn (fhw js) (fhn js).toNatClampNeg fbpapers fbsayings) x2) (by unfold KNn; rw [ifn_f w0, ifn_t w1, ejn, nI_clamp (n := jn) (by omega), ek9]; exact a5105)]; done) | (simp only [nI_clamp (n := js) (by omega), ifc_t hkbpapers, ifc_t hkbsayings, ifc_t hkbfindings, ifc_t a5020, ifc_f a5022, ifc_t a5079, ifc_f c_44_5082, ifc_f c_52_5083, ifc_f w0, ifc_t w1, ifc_t a5105, ifc_t (q := Wi x2 0 6 ∨ Wi (x2 - 10) 0 4) (Or.inr a5079), ifc_f (q := fhw js = 3) (by rw [w1]; decide), ifc_t (q := UNl (KNn (fhw js) (fhn js).toNatClampNeg fbpapers fbsayings) x2) (by unfold KNn; rw [ifn_f w0, ifn_t w1, ejn, nI_clamp (n := jn) (by omega), ek9]; exact a5105)]; rfl))) rfl gX11_taken_6.2.2.2.2
                · refine lv_if_eq (tgt := 122) hx hb gX11_taken_5.2.2.2.2.2.2.2.1 (by decide) (fun _ => ?_) (fun c9 => absurd (by decide) c9)
                  refine lv_bipush (v := (-13)) hx hb gX11_taken_6.2.2.2.1 (by decide) ?_
                  refine toQ hQ0 ?_
                  exact RI (v := (-13)) hC hP hD hS [0, 10, 1, 2, 11, 12, 3, 4, 5, 6, 7, 8, 9] (4, nI jn, (fbsayings (jn * 8 + 0)), (fbsayings (jn * 8 + 4))) rfl rfl (by decide) ((by first | rfl | (simp only [nI_clamp (n := js) (by omega), ifc_t hkbpapers, ifc_t hkbsayings, ifc_t hkbfindings, ifc_t a5020, ifc_f a5022, ifc_t a5079, ifc_f c_44_5082, ifc_f c_52_5083, ifc_f w0, ifc_t w1, ifc_f a5105, ifc_t (q := Wi x2 0 6 ∨ Wi (x2 - 10) 0 4) (Or.inr a5079), ifc_f (q := fhw js = 3) (by rw [w1]; decide), ifc_f (q := UNl (KNn (fhw js) (fhn js).toNatClampNeg fbpapers fbsayings) x2) (by unfold KNn; rw [ifn_f w0, ifn_t w1, ejn, nI_clamp (n := jn) (by omega), ek9]; exact a5105)]; done) | (simp only [nI_clamp (n := js) (by omega), ifc_t hkbpapers, ifc_t hkbsayings, ifc_t hkbfindings, ifc_t a5020, ifc_f a5022, ifc_t a5079, ifc_f c_44_5082, ifc_f c_52_5083, ifc_f w0, ifc_t w1, ifc_f a5105, ifc_t (q := Wi x2 0 6 ∨ Wi (x2 - 10) 0 4) (Or.inr a5079), ifc_f (q := fhw js = 3) (by rw [w1]; decide), ifc_f (q := UNl (KNn (fhw js) (fhn js).toNatClampNeg fbpapers fbsayings) x2) (by unfold KNn; rw [ifn_f w0, ifn_t w1, ejn, nI_clamp (n := jn) (by omega), ek9]; exact a5105)]; rfl))) rfl gX11_taken_6.2.2.2.2
              · rw [ek9] at hP hD
                refine Kpdr (ws := [(h0, oX11 bb kk ikp sg do9 ru9 ta9 tp9 ro9 ho9 de9), (bpapers, oX8 12 6 bpapersc (nI kbpapers)), (bpapersc, iA G 72 fbpapers), (bfindings, oX8 12 4 bfindingsc (nI kbfindings)), (bfindingsc, iA G 48 fbfindings), (ho9, oX4 hs hz hi hw hn ht), (hw, iA G 4 fhw), (hn, iA G 4 fhn), (ht, iA G 4 fht), (de9, oX2 bb tr9 (nI jr) 5 (nI jn) (fbsayings (jn * 8 + 0)) (fbsayings (jn * 8 + 4)) dq), (bb, oX0 bpersons bpapers bstamps bversions blines bsteps bsayings bfindings bwarnings bquestions td vd vl gp), (bsayings, oX8 16 8 bsayingsc (nI kbsayings)), (bsayingsc, iA G 128 fbsayings)]) hP hD (fun hP hD => ?_)
                refine pVo hO hS hC hK hl hP hD (d_isUnder5 l G K de9 x2 bb tr9 jr (nI jn) (fbsayings (jn * 8 + 0)) (fbsayings (jn * 8 + 4)) dq) si_X11_340 [9] sm_9 fm_9 nd_9 rfl rfl rfl rfl rfl (Nat.le_of_ble_eq_true rfl) rm_7_3_4 ⟨by first | exact Nat.le_of_ble_eq_true rfl | exact Nat.zero_le _, by first | exact Nat.le_of_ble_eq_true rfl | exact Nat.zero_le _⟩ gX11_taken_5.2.2.2.2.2.2.1 (Kors (Keqa fun a5109 => ?_) (Keqa fun a5109 => ?_))
                · refine lv_if_eq (tgt := 122) hx hb gX11_taken_5.2.2.2.2.2.2.2.1 (by decide) (fun c9 => absurd c9 (by decide)) (fun _ => ?_)
                  refine lv_aload_n hx hb gX11_taken_5.2.2.2.2.2.2.2.2.1 rfl (lv_at1 hl) ?_
                  refine gf_X11_72 hC rfl hK hP 0 rfl rfl gX11_taken_5.2.2.2.2.2.2.2.2.2 ?_
                  refine lv_iload_n hx hb gX11_taken_6.1 rfl (lv_at2 hl) ?_
                  refine pV hC hK hl hP hD (c_heldNumberX l G ho9 js hs hz hi hw hn ht fhn (by omega)) si_X11_334 [5, 7] sm_5_7 fm_5_7 nd_5_7 rfl rfl rfl rfl rfl (Nat.le_of_ble_eq_true rfl) rm_7_3_2 ⟨by first | exact Nat.le_of_ble_eq_true rfl | exact Nat.zero_le _, by first | exact Nat.le_of_ble_eq_true rfl | exact Nat.zero_le _⟩ gX11_taken_6.2.1 (Keqr ?_)
                  refine lv_goto (tgt := 124) hx hb gX11_taken_6.2.2.1 (by decide) ?_
                  refine toQ hQ0 ?_
                  exact RI (v := fhn js) hC hP hD hS [0, 10, 1, 2, 11, 12, 3, 4, 5, 6, 7, 8, 9] (5, nI jn, (fbsayings (jn * 8 + 0)), (fbsayings (jn * 8 + 4))) rfl rfl (by decide) ((by first | rfl | (simp only [nI_clamp (n := js) (by omega), ifc_t hkbpapers, ifc_t hkbsayings, ifc_t hkbfindings, ifc_t a5020, ifc_f a5022, ifc_t a5079, ifc_f c_44_5082, ifc_f c_52_5083, ifc_f w0, ifc_t w1, ifc_t a5109, ifc_t (q := Wi x2 0 6 ∨ Wi (x2 - 10) 0 4) (Or.inr a5079), ifc_f (q := fhw js = 3) (by rw [w1]; decide), ifc_t (q := UNl (KNn (fhw js) (fhn js).toNatClampNeg fbpapers fbsayings) x2) (by unfold KNn; rw [ifn_f w0, ifn_t w1, ejn, nI_clamp (n := jn) (by omega), ek9]; exact a5109)]; done) | (simp only [nI_clamp (n := js) (by omega), ifc_t hkbpapers, ifc_t hkbsayings, ifc_t hkbfindings, ifc_t a5020, ifc_f a5022, ifc_t a5079, ifc_f c_44_5082, ifc_f c_52_5083, ifc_f w0, ifc_t w1, ifc_t a5109, ifc_t (q := Wi x2 0 6 ∨ Wi (x2 - 10) 0 4) (Or.inr a5079), ifc_f (q := fhw js = 3) (by rw [w1]; decide), ifc_t (q := UNl (KNn (fhw js) (fhn js).toNatClampNeg fbpapers fbsayings) x2) (by unfold KNn; rw [ifn_f w0, ifn_t w1, ejn, nI_clamp (n := jn) (by omega), ek9]; exact a5109)]; rfl))) rfl gX11_taken_6.2.2.2.2
                · refine lv_if_eq (tgt := 122) hx hb gX11_taken_5.2.2.2.2.2.2.2.1 (by decide) (fun _ => ?_) (fun c9 => absurd (by decide) c9)
                  refine lv_bipush (v := (-13)) hx hb gX11_taken_6.2.2.2.1 (by decide) ?_
                  refine toQ hQ0 ?_
                  exact RI (v := (-13)) hC hP hD hS [0, 10, 1, 2, 11, 12, 3, 4, 5, 6, 7, 8, 9] (5, nI jn, (fbsayings (jn * 8 + 0)), (fbsayings (jn * 8 + 4))) rfl rfl (by decide) ((by first | rfl | (simp only [nI_clamp (n := js) (by omega), ifc_t hkbpapers, ifc_t hkbsayings, ifc_t hkbfindings, ifc_t a5020, ifc_f a5022, ifc_t a5079, ifc_f c_44_5082, ifc_f c_52_5083, ifc_f w0, ifc_t w1, ifc_f a5109, ifc_t (q := Wi x2 0 6 ∨ Wi (x2 - 10) 0 4) (Or.inr a5079), ifc_f (q := fhw js = 3) (by rw [w1]; decide), ifc_f (q := UNl (KNn (fhw js) (fhn js).toNatClampNeg fbpapers fbsayings) x2) (by unfold KNn; rw [ifn_f w0, ifn_t w1, ejn, nI_clamp (n := jn) (by omega), ek9]; exact a5109)]; done) | (simp only [nI_clamp (n := js) (by omega), ifc_t hkbpapers, ifc_t hkbsayings, ifc_t hkbfindings, ifc_t a5020, ifc_f a5022, ifc_t a5079, ifc_f c_44_5082, ifc_f c_52_5083, ifc_f w0, ifc_t w1, ifc_f a5109, ifc_t (q := Wi x2 0 6 ∨ Wi (x2 - 10) 0 4) (Or.inr a5079), ifc_f (q := fhw js = 3) (by rw [w1]; decide), ifc_f (q := UNl (KNn (fhw js) (fhn js).toNatClampNeg fbpapers fbsayings) x2) (by unfold KNn; rw [ifn_f w0, ifn_t w1, ejn, nI_clamp (n := jn) (by omega), ek9]; exact a5109)]; rfl))) rfl gX11_taken_6.2.2.2.2
            by_cases w2 : fhw js = 2
            · have hin9 : Hs (fhn js) kbfindings := Classical.byContradiction fun h9 => c_44_5082 (by unfold HLD; rw [ifc_f (q := fhw js = 0) w0, ifc_f (q := fhw js = 1) w1, ifc_t (q := fhw js = 2) w2]; exact ifc_f h9)
              have hval9 : (HLD (fhw js) (fhn js) kbpapers kbsayings kbfindings) = 2 := by unfold HLD; rw [ifc_f (q := fhw js = 0) w0, ifc_f (q := fhw js = 1) w1, ifc_t (q := fhw js = 2) w2, ifc_t hin9]; exact w2
              obtain ⟨jn, hjn, ejn⟩ := Hs_nat (by omega) hin9
              refine lv_aload_n hx hb gX11_taken_4.2.2.2.2.2.1 rfl (lv_at1 hl) ?_
              refine gf_X11_79 hC rfl hK hP 0 rfl rfl gX11_taken_4.2.2.2.2.2.2.1 ?_
              refine lv_iload_n hx hb gX11_taken_4.2.2.2.2.2.2.2.1 rfl (lv_at0 hl) ?_
              refine eqi (x1 := 2) hval9 ?_
              refine lv_aload_n hx hb gX11_taken_4.2.2.2.2.2.2.2.2.1 rfl (lv_at1 hl) ?_
              refine gf_X11_72 hC rfl hK hP 0 rfl rfl gX11_taken_4.2.2.2.2.2.2.2.2.2 ?_
              refine lv_iload_n hx hb gX11_taken_5.1 rfl (lv_at2 hl) ?_
              refine pV hC hK hl hP hD (c_heldNumberX l G ho9 js hs hz hi hw hn ht fhn (by omega)) si_X11_334 [8, 10] sm_8_10 fm_8_10 nd_8_10 rfl rfl rfl rfl rfl (Nat.le_of_ble_eq_true rfl) rm_7_3_2 ⟨by first | exact Nat.le_of_ble_eq_true rfl | exact Nat.zero_le _, by first | exact Nat.le_of_ble_eq_true rfl | exact Nat.zero_le _⟩ gX11_taken_5.2.1 (Keqr ?_)
              refine eqi (x1 := nI jn) ejn ?_
              refine vV (wr := [(h0, oX11 bb kk ikp sg do9 ru9 ta9 tp9 ro9 ho9 de9), (bpapers, oX8 12 6 bpapersc (nI kbpapers)), (bpapersc, iA G 72 fbpapers), (bsayings, oX8 16 8 bsayingsc (nI kbsayings)), (bsayingsc, iA G 128 fbsayings), (ho9, oX4 hs hz hi hw hn ht), (hw, iA G 4 fhw), (hn, iA G 4 fhn), (ht, iA G 4 fht)]) hC hK hl hP hD hS hA (d_graspF l G de9 jn bb tr9 jr dk dn dp da dq bpersons bpapers bstamps bversions blines bsteps bsayings bfindings bwarnings bquestions td vd vl gp bfindingsc kbfindings fbfindings (hkbfindings) (by omega)) si_X11_337 [12, 1, 6, 7] [0, 2, 3, 4, 5, 8, 9, 10, 11] sm_12_1_6_7 fm_12_1_6_7 nd_12_1_6_7 sm_0_2_3_4_5_8_9_10_11 nd_0_2_3_4_5_8_9_10_11 dj_12_1_6_7__0_2_3_4_5_8_9_10_11 rfl rfl rfl rfl rfl (Nat.le_of_ble_eq_true rfl) rm_7_5_3 ⟨Nat.le_of_ble_eq_true rfl, Nat.le_of_ble_eq_true rfl⟩ gX11_taken_5.2.2.1 (fun u5115 H locs hr5114 hP hD hS => ?_)
              refine Kpdr (ws := [(h0, oX11 bb kk ikp sg do9 ru9 ta9 tp9 ro9 ho9 de9), (bpapers, oX8 12 6 bpapersc (nI kbpapers)), (bpapersc, iA G 72 fbpapers), (bsayings, oX8 16 8 bsayingsc (nI kbsayings)), (bsayingsc, iA G 128 fbsayings), (ho9, oX4 hs hz hi hw hn ht), (hw, iA G 4 fhw), (hn, iA G 4 fhn), (ht, iA G 4 fht), (de9, oX2 bb tr9 (nI jr) 6 (nI jn) (fbfindings (jn * 4 + 0)) (fbfindings (jn * 4 + 2)) dq), (bb, oX0 bpersons bpapers bstamps bversions blines bsteps bsayings bfindings bwarnings bquestions td vd vl gp), (bfindings, oX8 12 4 bfindingsc (nI kbfindings)), (bfindingsc, iA G 48 fbfindings)]) hP hD (fun hP hD => ?_)
              refine lv_aload_n hx hb gX11_taken_5.2.2.2.1 rfl (lv_at1 hl) ?_
              refine gf_X11_79 hC rfl hK hP 0 rfl rfl gX11_taken_5.2.2.2.2.1 ?_
              refine lv_iload_n hx hb gX11_taken_5.2.2.2.2.2.1 rfl (lv_at3 hl) ?_
              refine pVo hO hS hC hK hl hP hD (d_isUnder6 l G K de9 x2 bb tr9 jr (nI jn) (fbfindings (jn * 4 + 0)) (fbfindings (jn * 4 + 2)) dq) si_X11_340 [9] sm_9 fm_9 nd_9 rfl rfl rfl rfl rfl (Nat.le_of_ble_eq_true rfl) rm_7_3_4 ⟨by first | exact Nat.le_of_ble_eq_true rfl | exact Nat.zero_le _, by first | exact Nat.le_of_ble_eq_true rfl | exact Nat.zero_le _⟩ gX11_taken_5.2.2.2.2.2.2.1 (Kors (Keqa fun a5117 => ?_) (Keqa fun a5117 => ?_))
              · refine lv_if_eq (tgt := 122) hx hb gX11_taken_5.2.2.2.2.2.2.2.1 (by decide) (fun c9 => absurd c9 (by decide)) (fun _ => ?_)
                refine lv_aload_n hx hb gX11_taken_5.2.2.2.2.2.2.2.2.1 rfl (lv_at1 hl) ?_
                refine gf_X11_72 hC rfl hK hP 0 rfl rfl gX11_taken_5.2.2.2.2.2.2.2.2.2 ?_
                refine lv_iload_n hx hb gX11_taken_6.1 rfl (lv_at2 hl) ?_
                refine pV hC hK hl hP hD (c_heldNumberX l G ho9 js hs hz hi hw hn ht fhn (by omega)) si_X11_334 [5, 7] sm_5_7 fm_5_7 nd_5_7 rfl rfl rfl rfl rfl (Nat.le_of_ble_eq_true rfl) rm_7_3_2 ⟨by first | exact Nat.le_of_ble_eq_true rfl | exact Nat.zero_le _, by first | exact Nat.le_of_ble_eq_true rfl | exact Nat.zero_le _⟩ gX11_taken_6.2.1 (Keqr ?_)
                refine lv_goto (tgt := 124) hx hb gX11_taken_6.2.2.1 (by decide) ?_
                refine toQ hQ0 ?_
                exact RI (v := fhn js) hC hP hD hS [0, 10, 1, 2, 3, 4, 11, 12, 5, 6, 7, 8, 9] (6, nI jn, (fbfindings (jn * 4 + 0)), (fbfindings (jn * 4 + 2))) rfl rfl (by decide) ((by first | rfl | (simp only [nI_clamp (n := js) (by omega), ifc_t hkbpapers, ifc_t hkbsayings, ifc_t hkbfindings, ifc_t a5020, ifc_f a5022, ifc_t a5079, ifc_f c_44_5082, ifc_f c_52_5083, ifc_f w0, ifc_f w1, ifc_t w2, ifc_t a5117, ifc_t (q := Wi x2 0 6 ∨ Wi (x2 - 10) 0 4) (Or.inr a5079), ifc_f (q := fhw js = 3) (by rw [w2]; decide), ifc_t (q := UNl (KNn (fhw js) (fhn js).toNatClampNeg fbpapers fbsayings) x2) (by unfold KNn; rw [ifn_f w0, ifn_f w1]; exact a5117)]; done) | (simp only [nI_clamp (n := js) (by omega), ifc_t hkbpapers, ifc_t hkbsayings, ifc_t hkbfindings, ifc_t a5020, ifc_f a5022, ifc_t a5079, ifc_f c_44_5082, ifc_f c_52_5083, ifc_f w0, ifc_f w1, ifc_t w2, ifc_t a5117, ifc_t (q := Wi x2 0 6 ∨ Wi (x2 - 10) 0 4) (Or.inr a5079), ifc_f (q := fhw js = 3) (by rw [w2]; decide), ifc_t (q := UNl (KNn (fhw js) (fhn js).toNatClampNeg fbpapers fbsayings) x2) (by unfold KNn; rw [ifn_f w0, ifn_f w1]; exact a5117)]; rfl))) rfl gX11_taken_6.2.2.2.2
              · refine lv_if_eq (tgt := 122) hx hb gX11_taken_5.2.2.2.2.2.2.2.1 (by decide) (fun _ => ?_) (fun c9 => absurd (by decide) c9)
                refine lv_bipush (v := (-13)) hx hb gX11_taken_6.2.2.2.1 (by decide) ?_
                refine toQ hQ0 ?_
                exact RI (v := (-13)) hC hP hD hS [0, 10, 1, 2, 3, 4, 11, 12, 5, 6, 7, 8, 9] (6, nI jn, (fbfindings (jn * 4 + 0)), (fbfindings (jn * 4 + 2))) rfl rfl (by decide) ((by first | rfl | (simp only [nI_clamp (n := js) (by omega), ifc_t hkbpapers, ifc_t hkbsayings, ifc_t hkbfindings, ifc_t a5020, ifc_f a5022, ifc_t a5079, ifc_f c_44_5082, ifc_f c_52_5083, ifc_f w0, ifc_f w1, ifc_t w2, ifc_f a5117, ifc_t (q := Wi x2 0 6 ∨ Wi (x2 - 10) 0 4) (Or.inr a5079), ifc_f (q := fhw js = 3) (by rw [w2]; decide), ifc_f (q := UNl (KNn (fhw js) (fhn js).toNatClampNeg fbpapers fbsayings) x2) (by unfold KNn; rw [ifn_f w0, ifn_f w1]; exact a5117)]; done) | (simp only [nI_clamp (n := js) (by omega), ifc_t hkbpapers, ifc_t hkbsayings, ifc_t hkbfindings, ifc_t a5020, ifc_f a5022, ifc_t a5079, ifc_f c_44_5082, ifc_f c_52_5083, ifc_f w0, ifc_f w1, ifc_t w2, ifc_f a5117, ifc_t (q := Wi x2 0 6 ∨ Wi (x2 - 10) 0 4) (Or.inr a5079), ifc_f (q := fhw js = 3) (by rw [w2]; decide), ifc_f (q := UNl (KNn (fhw js) (fhn js).toNatClampNeg fbpapers fbsayings) x2) (by unfold KNn; rw [ifn_f w0, ifn_f w1]; exact a5117)]; rfl))) rfl gX11_taken_6.2.2.2.2
            refine lv_aload_n hx hb gX11_taken_4.2.2.2.2.2.1 rfl (lv_at1 hl) ?_
            refine gf_X11_79 hC rfl hK hP 0 rfl rfl gX11_taken_4.2.2.2.2.2.2.1 ?_
            refine lv_iload_n hx hb gX11_taken_4.2.2.2.2.2.2.2.1 rfl (lv_at0 hl) ?_
            refine lv_aload_n hx hb gX11_taken_4.2.2.2.2.2.2.2.2.1 rfl (lv_at1 hl) ?_
            refine gf_X11_72 hC rfl hK hP 0 rfl rfl gX11_taken_4.2.2.2.2.2.2.2.2.2 ?_
            refine lv_iload_n hx hb gX11_taken_5.1 rfl (lv_at2 hl) ?_
            refine pV hC hK hl hP hD (c_heldNumberX l G ho9 js hs hz hi hw hn ht fhn (by omega)) si_X11_334 [8, 10] sm_8_10 fm_8_10 nd_8_10 rfl rfl rfl rfl rfl (Nat.le_of_ble_eq_true rfl) rm_7_3_2 ⟨by first | exact Nat.le_of_ble_eq_true rfl | exact Nat.zero_le _, by first | exact Nat.le_of_ble_eq_true rfl | exact Nat.zero_le _⟩ gX11_taken_5.2.1 (Keqr ?_)
            have hg0 : ¬ (HLD (fhw js) (fhn js) kbpapers kbsayings kbfindings) = 0 := fun h9 => w0 (by unfold HLD at h9; rw [ifc_f w0, ifc_f w1, ifc_f w2] at h9; exact h9)
            have hg1 : ¬ (HLD (fhw js) (fhn js) kbpapers kbsayings kbfindings) = 1 := fun h9 => w1 (by unfold HLD at h9; rw [ifc_f w0, ifc_f w1, ifc_f w2] at h9; exact h9)
            refine vV (wr := [(h0, oX11 bb kk ikp sg do9 ru9 ta9 tp9 ro9 ho9 de9), (bpapers, oX8 12 6 bpapersc (nI kbpapers)), (bpapersc, iA G 72 fbpapers), (bsayings, oX8 16 8 bsayingsc (nI kbsayings)), (bsayingsc, iA G 128 fbsayings), (ho9, oX4 hs hz hi hw hn ht), (hw, iA G 4 fhw), (hn, iA G 4 fhn), (ht, iA G 4 fht)]) hC hK hl hP hD hS hA (d_graspO l G de9 (HLD (fhw js) (fhn js) kbpapers kbsayings kbfindings) (fhn js) bb tr9 jr dk dn dp da dq bpersons bpapers bstamps bversions blines bsteps bsayings bfindings bwarnings bquestions td vd vl gp bfindingsc kbfindings fbfindings (hkbfindings) (hg0) (hg1)) si_X11_337 [12, 1, 6, 7] [0, 2, 3, 4, 5, 8, 9, 10, 11] sm_12_1_6_7 fm_12_1_6_7 nd_12_1_6_7 sm_0_2_3_4_5_8_9_10_11 nd_0_2_3_4_5_8_9_10_11 dj_12_1_6_7__0_2_3_4_5_8_9_10_11 rfl rfl rfl rfl rfl (Nat.le_of_ble_eq_true rfl) rm_7_5_3 ⟨Nat.le_of_ble_eq_true rfl, Nat.le_of_ble_eq_true rfl⟩ gX11_taken_5.2.2.1 (Ktu2 fun dp15124 da15125 => ?_)
            intro H locs hr5122 hP hD hS
            try dsimp only at hr5122
            refine Kpdr (ws := [(h0, oX11 bb kk ikp sg do9 ru9 ta9 tp9 ro9 ho9 de9), (bpapers, oX8 12 6 bpapersc (nI kbpapers)), (bpapersc, iA G 72 fbpapers), (bsayings, oX8 16 8 bsayingsc (nI kbsayings)), (bsayingsc, iA G 128 fbsayings), (ho9, oX4 hs hz hi hw hn ht), (hw, iA G 4 fhw), (hn, iA G 4 fhn), (ht, iA G 4 fht), (de9, oX2 bb tr9 (nI jr) 6 (fhn js) dp15124 da15125 dq), (bb, oX0 bpersons bpapers bstamps bversions blines bsteps bsayings bfindings bwarnings bquestions td vd vl gp), (bfindings, oX8 12 4 bfindingsc (nI kbfindings)), (bfindingsc, iA G 48 fbfindings)]) hP hD (fun hP hD => ?_)
            refine lv_aload_n hx hb gX11_taken_5.2.2.2.1 rfl (lv_at1 hl) ?_
            refine gf_X11_79 hC rfl hK hP 0 rfl rfl gX11_taken_5.2.2.2.2.1 ?_
            refine lv_iload_n hx hb gX11_taken_5.2.2.2.2.2.1 rfl (lv_at3 hl) ?_
            refine pVo hO hS hC hK hl hP hD (d_isUnder6 l G K de9 x2 bb tr9 jr (fhn js) dp15124 da15125 dq) si_X11_340 [9] sm_9 fm_9 nd_9 rfl rfl rfl rfl rfl (Nat.le_of_ble_eq_true rfl) rm_7_3_4 ⟨by first | exact Nat.le_of_ble_eq_true rfl | exact Nat.zero_le _, by first | exact Nat.le_of_ble_eq_true rfl | exact Nat.zero_le _⟩ gX11_taken_5.2.2.2.2.2.2.1 (Kors (Keqa fun a5127 => ?_) (Keqa fun a5127 => ?_))
            · refine lv_if_eq (tgt := 122) hx hb gX11_taken_5.2.2.2.2.2.2.2.1 (by decide) (fun c9 => absurd c9 (by decide)) (fun _ => ?_)
              refine lv_aload_n hx hb gX11_taken_5.2.2.2.2.2.2.2.2.1 rfl (lv_at1 hl) ?_
              refine gf_X11_72 hC rfl hK hP 0 rfl rfl gX11_taken_5.2.2.2.2.2.2.2.2.2 ?_
              refine lv_iload_n hx hb gX11_taken_6.1 rfl (lv_at2 hl) ?_
              refine pV hC hK hl hP hD (c_heldNumberX l G ho9 js hs hz hi hw hn ht fhn (by omega)) si_X11_334 [5, 7] sm_5_7 fm_5_7 nd_5_7 rfl rfl rfl rfl rfl (Nat.le_of_ble_eq_true rfl) rm_7_3_2 ⟨by first | exact Nat.le_of_ble_eq_true rfl | exact Nat.zero_le _, by first | exact Nat.le_of_ble_eq_true rfl | exact Nat.zero_le _⟩ gX11_taken_6.2.1 (Keqr ?_)
              refine lv_goto (tgt := 124) hx hb gX11_taken_6.2.2.1 (by decide) ?_
              refine toQ hQ0 ?_
              exact RI (v := fhn js) hC hP hD hS [0, 10, 1, 2, 3, 4, 11, 12, 5, 6, 7, 8, 9] (6, fhn js, dp15124, da15125) rfl rfl (by decide) ((by first | rfl | (simp only [nI_clamp (n := js) (by omega), ifc_t hkbpapers, ifc_t hkbsayings, ifc_t hkbfindings, ifc_t a5020, ifc_f a5022, ifc_t a5079, ifc_f c_44_5082, ifc_f c_52_5083, ifc_f w0, ifc_f w1, ifc_f w2, ifc_t a5127, ifc_t (q := Wi x2 0 6 ∨ Wi (x2 - 10) 0 4) (Or.inr a5079), ifc_f (q := fhw js = 3) (fun h9 => c_52_5083 (by unfold HLD; rw [ifc_f w0, ifc_f w1, ifc_f w2]; exact h9)), ifc_t (q := UNl (KNn (fhw js) (fhn js).toNatClampNeg fbpapers fbsayings) x2) (by unfold KNn; rw [ifn_f w0, ifn_f w1]; exact a5127)]; done) | (simp only [nI_clamp (n := js) (by omega), ifc_t hkbpapers, ifc_t hkbsayings, ifc_t hkbfindings, ifc_t a5020, ifc_f a5022, ifc_t a5079, ifc_f c_44_5082, ifc_f c_52_5083, ifc_f w0, ifc_f w1, ifc_f w2, ifc_t a5127, ifc_t (q := Wi x2 0 6 ∨ Wi (x2 - 10) 0 4) (Or.inr a5079), ifc_f (q := fhw js = 3) (fun h9 => c_52_5083 (by unfold HLD; rw [ifc_f w0, ifc_f w1, ifc_f w2]; exact h9)), ifc_t (q := UNl (KNn (fhw js) (fhn js).toNatClampNeg fbpapers fbsayings) x2) (by unfold KNn; rw [ifn_f w0, ifn_f w1]; exact a5127)]; rfl))) rfl gX11_taken_6.2.2.2.2
            · refine lv_if_eq (tgt := 122) hx hb gX11_taken_5.2.2.2.2.2.2.2.1 (by decide) (fun _ => ?_) (fun c9 => absurd (by decide) c9)
              refine lv_bipush (v := (-13)) hx hb gX11_taken_6.2.2.2.1 (by decide) ?_
              refine toQ hQ0 ?_
              exact RI (v := (-13)) hC hP hD hS [0, 10, 1, 2, 3, 4, 11, 12, 5, 6, 7, 8, 9] (6, fhn js, dp15124, da15125) rfl rfl (by decide) ((by first | rfl | (simp only [nI_clamp (n := js) (by omega), ifc_t hkbpapers, ifc_t hkbsayings, ifc_t hkbfindings, ifc_t a5020, ifc_f a5022, ifc_t a5079, ifc_f c_44_5082, ifc_f c_52_5083, ifc_f w0, ifc_f w1, ifc_f w2, ifc_f a5127, ifc_t (q := Wi x2 0 6 ∨ Wi (x2 - 10) 0 4) (Or.inr a5079), ifc_f (q := fhw js = 3) (fun h9 => c_52_5083 (by unfold HLD; rw [ifc_f w0, ifc_f w1, ifc_f w2]; exact h9)), ifc_f (q := UNl (KNn (fhw js) (fhn js).toNatClampNeg fbpapers fbsayings) x2) (by unfold KNn; rw [ifn_f w0, ifn_f w1]; exact a5127)]; done) | (simp only [nI_clamp (n := js) (by omega), ifc_t hkbpapers, ifc_t hkbsayings, ifc_t hkbfindings, ifc_t a5020, ifc_f a5022, ifc_t a5079, ifc_f c_44_5082, ifc_f c_52_5083, ifc_f w0, ifc_f w1, ifc_f w2, ifc_f a5127, ifc_t (q := Wi x2 0 6 ∨ Wi (x2 - 10) 0 4) (Or.inr a5079), ifc_f (q := fhw js = 3) (fun h9 => c_52_5083 (by unfold HLD; rw [ifc_f w0, ifc_f w1, ifc_f w2]; exact h9)), ifc_f (q := UNl (KNn (fhw js) (fhn js).toNatClampNeg fbpapers fbsayings) x2) (by unfold KNn; rw [ifn_f w0, ifn_f w1]; exact a5127)]; rfl))) rfl gX11_taken_6.2.2.2.2
          · refine lv_aload_n hx hb gX11_taken_3.1 rfl (lv_at1 hl) ?_
            refine gf_X11_72 hC rfl hK hP 0 rfl rfl gX11_taken_3.2.1 ?_
            refine lv_iload_n hx hb gX11_taken_3.2.2.1 rfl (lv_at2 hl) ?_
            refine pV hC hK hl hP hD (c_heldSortX l G ho9 js hs hz hi hw hn ht fht (by omega)) si_X11_331 [8, 11] sm_8_11 fm_8_11 nd_8_11 rfl rfl rfl rfl rfl (Nat.le_of_ble_eq_true rfl) rm_7_3_2 ⟨by first | exact Nat.le_of_ble_eq_true rfl | exact Nat.zero_le _, by first | exact Nat.le_of_ble_eq_true rfl | exact Nat.zero_le _⟩ gX11_taken_3.2.2.2.1 (Keqr ?_)
            refine lv_iload_n hx hb gX11_taken_3.2.2.2.2.1 rfl (lv_at3 hl) ?_
            refine lv_bipush (v := 10) hx hb gX11_taken_3.2.2.2.2.2.1 (by decide) ?_
            refine lv_isub hx hb gX11_taken_3.2.2.2.2.2.2.1 ?_
            refine lv_icmp_ne (tgt := 81) hx hb gX11_taken_3.2.2.2.2.2.2.2.1 (by decide) (fun c_67_5132 => ?_) (fun c_67_5132 => ?_)
            · refine lv_bipush (v := (-13)) hx hb gX11_taken_4.2.2.2.1 (by decide) ?_
              refine toQ hQ0 ?_
              exact RI (v := (-13)) hC hP hD hS [0, 1, 2, 3, 4, 5, 6, 7, 8, 9, 10, 11, 12] (dk, dn, dp, da) rfl rfl (by decide) ((by first | rfl | (simp only [nI_clamp (n := js) (by omega), ifc_t hkbpapers, ifc_t hkbsayings, ifc_t hkbfindings, ifc_t a5020, ifc_f a5022, ifc_t a5079, ifc_f c_44_5082, ifc_t c_52_5083, ifc_f c_67_5132, ifc_t (q := Wi x2 0 6 ∨ Wi (x2 - 10) 0 4) (Or.inr a5079), ifc_t (q := fhw js = 3) (HLD.v c_52_5083)]; done) | (simp only [nI_clamp (n := js) (by omega), ifc_t hkbpapers, ifc_t hkbsayings, ifc_t hkbfindings, ifc_t a5020, ifc_f a5022, ifc_t a5079, ifc_f c_44_5082, ifc_t c_52_5083, ifc_f c_67_5132, ifc_t (q := Wi x2 0 6 ∨ Wi (x2 - 10) 0 4) (Or.inr a5079), ifc_t (q := fhw js = 3) (HLD.v c_52_5083)]; rfl))) rfl gX11_taken_4.2.2.2.2.1
            · refine lv_aload_n hx hb gX11_taken_3.2.2.2.2.2.2.2.2.1 rfl (lv_at1 hl) ?_
              refine gf_X11_72 hC rfl hK hP 0 rfl rfl gX11_taken_3.2.2.2.2.2.2.2.2.2 ?_
              refine lv_iload_n hx hb gX11_taken_4.1 rfl (lv_at2 hl) ?_
              refine pV hC hK hl hP hD (c_heldNumberX l G ho9 js hs hz hi hw hn ht fhn (by omega)) si_X11_334 [8, 10] sm_8_10 fm_8_10 nd_8_10 rfl rfl rfl rfl rfl (Nat.le_of_ble_eq_true rfl) rm_7_3_2 ⟨by first | exact Nat.le_of_ble_eq_true rfl | exact Nat.zero_le _, by first | exact Nat.le_of_ble_eq_true rfl | exact Nat.zero_le _⟩ gX11_taken_4.2.1 (Keqr ?_)
              refine lv_goto (tgt := 83) hx hb gX11_taken_4.2.2.1 (by decide) ?_
              refine toQ hQ0 ?_
              exact RI (v := fhn js) hC hP hD hS [0, 1, 2, 3, 4, 5, 6, 7, 8, 9, 10, 11, 12] (dk, dn, dp, da) rfl rfl (by decide) ((by first | rfl | (simp only [nI_clamp (n := js) (by omega), ifc_t hkbpapers, ifc_t hkbsayings, ifc_t hkbfindings, ifc_t a5020, ifc_f a5022, ifc_t a5079, ifc_f c_44_5082, ifc_t c_52_5083, ifc_t c_67_5132, ifc_t (q := Wi x2 0 6 ∨ Wi (x2 - 10) 0 4) (Or.inr a5079), ifc_t (q := fhw js = 3) (HLD.v c_52_5083)]; done) | (simp only [nI_clamp (n := js) (by omega), ifc_t hkbpapers, ifc_t hkbsayings, ifc_t hkbfindings, ifc_t a5020, ifc_f a5022, ifc_t a5079, ifc_f c_44_5082, ifc_t c_52_5083, ifc_t c_67_5132, ifc_t (q := Wi x2 0 6 ∨ Wi (x2 - 10) 0 4) (Or.inr a5079), ifc_t (q := fhw js = 3) (HLD.v c_52_5083)]; rfl))) rfl gX11_taken_4.2.2.2.2.1
        · refine lv_bipush (v := (-11)) hx hb gX11_taken_2.2.2.2.2.2.1 (by decide) ?_
          refine toQ hQ0 ?_
          exact RI (v := (-11)) hC hP hD hS [0, 1, 2, 3, 4, 5, 6, 7, 8, 9, 10, 11, 12] (dk, dn, dp, da) rfl rfl (by decide) ((by first | rfl | (simp only [nI_clamp (n := js) (by omega), ifc_t hkbpapers, ifc_t hkbsayings, ifc_t hkbfindings, ifc_t a5020, ifc_f a5022, ifc_t a5079, ifc_t c_44_5082, ifc_t (q := Wi x2 0 6 ∨ Wi (x2 - 10) 0 4) (Or.inr a5079)]; done) | (simp only [nI_clamp (n := js) (by omega), ifc_t hkbpapers, ifc_t hkbsayings, ifc_t hkbfindings, ifc_t a5020, ifc_f a5022, ifc_t a5079, ifc_t c_44_5082, ifc_t (q := Wi x2 0 6 ∨ Wi (x2 - 10) 0 4) (Or.inr a5079)]; rfl))) rfl gX11_taken_2.2.2.2.2.2.2.1
      · refine lv_if_ne (tgt := 29) hx hb gX11_taken_1.2.2.1 (by decide) (fun c9 => absurd (by decide) c9) (fun _ => ?_)
        refine lv_iconst (v := (-1)) hx hb gX11_taken_1.2.2.2.1 (by decide) ?_
        refine toQ hQ0 ?_
        exact RI (v := (-1)) hC hP hD hS [0, 1, 2, 3, 4, 5, 6, 7, 8, 9, 10, 11, 12] (dk, dn, dp, da) rfl rfl (by decide) ((by first | rfl | (simp only [ifc_t hkbpapers, ifc_t hkbsayings, ifc_t hkbfindings, ifc_t a5020, ifc_f a5022, ifc_f a5079, ifc_f (q := Wi x2 0 6 ∨ Wi (x2 - 10) 0 4) (not_or.mpr ⟨a5022, a5079⟩)]; done) | (simp only [ifc_t hkbpapers, ifc_t hkbsayings, ifc_t hkbfindings, ifc_t a5020, ifc_f a5022, ifc_f a5079, ifc_f (q := Wi x2 0 6 ∨ Wi (x2 - 10) 0 4) (not_or.mpr ⟨a5022, a5079⟩)]; rfl))) rfl gX11_taken_1.2.2.2.2.1
  · refine lv_if_eq (tgt := 27) hx hb gX11_taken_0.2.2.1 (by decide) (fun _ => ?_) (fun c9 => absurd (by decide) c9)
    refine lv_iconst (v := (-1)) hx hb gX11_taken_1.2.2.2.1 (by decide) ?_
    refine toQ hQ0 ?_
    exact RI (v := (-1)) hC hP hD hS [0, 1, 2, 3, 4, 5, 6, 7, 8, 9, 10, 11, 12] (dk, dn, dp, da) rfl rfl (by decide) ((by first | rfl | (simp only [ifc_t hkbpapers, ifc_t hkbsayings, ifc_t hkbfindings, ifc_f a5020]; done) | (simp only [ifc_t hkbpapers, ifc_t hkbsayings, ifc_t hkbfindings, ifc_f a5020]; rfl))) rfl gX11_taken_1.2.2.2.2.1
def K_p_deal (l : Launch) (G : GG) (K : OO) (h0 : Nat) (x1 : Int32) (x2 : Int32) (x3 : Int32) (bb : Nat) (kk : Nat) (ikp : Int32) (sg : Nat) (do9 : Nat) (ru9 : Nat) (ta9 : Nat) (tp9 : Nat) (ro9 : Nat) (ho9 : Nat) (de9 : Nat) (bpersons : Nat) (bpapers : Nat) (bstamps : Nat) (bversions : Nat) (blines : Nat) (bsteps : Nat) (bsayings : Nat) (bfindings : Nat) (bwarnings : Nat) (bquestions : Nat) (td : Int32) (vd : Int32) (vl : Int32) (gp : Int32) (bpapersc : Nat) (kbpapers : Nat) (fbpapers : Nat → Int32) (bsayingsc : Nat) (kbsayings : Nat) (fbsayings : Nat → Int32) (bfindingsc : Nat) (kbfindings : Nat) (fbfindings : Nat → Int32) (hs : Nat) (hz : Nat) (hi : Nat) (hw : Nat) (hn : Nat) (ht : Nat) (fhw : Nat → Int32) (fhn : Nat → Int32) (tr9 : Nat) (jr : Nat) (dk : Int32) (dn : Int32) (dp : Int32) (da : Int32) (dq : Int32) (ftr : Nat → Int32) : Prop := MIo l G K yX11_deal cX11_deal 5 (some .int) 66 0 0 [.ref h0, .int x1, .int x2, .int x3] [(h0, oX11 bb kk ikp sg do9 ru9 ta9 tp9 ro9 ho9 de9), (bb, oX0 bpersons bpapers bstamps bversions blines bsteps bsayings bfindings bwarnings bquestions td vd vl gp), (bpapers, oX8 12 6 bpapersc (nI kbpapers)), (bpapersc, iA G 72 fbpapers), (bsayings, oX8 16 8 bsayingsc (nI kbsayings)), (bsayingsc, iA G 128 fbsayings), (bfindings, oX8 12 4 bfindingsc (nI kbfindings)), (bfindingsc, iA G 48 fbfindings), (ho9, oX4 hs hz hi hw hn ht), (hw, iA G 4 fhw), (hn, iA G 4 fhn), (de9, oX2 bb tr9 (nI jr) dk dn dp da dq), (tr9, iA G 30 ftr)] (fun (r : Int32) (u : Int32 × Int32 × Int32 × Int32 × Nat × (Nat → Int32) × Int32) => (True) ∧ (u.2.2.2.2.1 ≤ 30)) (fun u : Int32 × Int32 × Int32 × Int32 × Nat × (Nat → Int32) × Int32 => [(h0, oX11 bb kk ikp sg do9 ru9 ta9 tp9 ro9 ho9 de9), (bb, oX0 bpersons bpapers bstamps bversions blines bsteps bsayings bfindings bwarnings bquestions td vd vl gp), (bpapers, oX8 12 6 bpapersc (nI kbpapers)), (bpapersc, iA G 72 fbpapers), (bsayings, oX8 16 8 bsayingsc (nI kbsayings)), (bsayingsc, iA G 128 fbsayings), (bfindings, oX8 12 4 bfindingsc (nI kbfindings)), (bfindingsc, iA G 48 fbfindings), (ho9, oX4 hs hz hi hw hn ht), (hw, iA G 4 fhw), (hn, iA G 4 fhn), (de9, oX2 bb tr9 (nI u.2.2.2.2.1) u.1 u.2.1 u.2.2.1 u.2.2.2.1 u.2.2.2.2.2.2), (tr9, iA G 30 u.2.2.2.2.2.1)])
set_option maxHeartbeats 4000000 in
set_option maxRecDepth 100000 in
theorem p_deal (l : Launch) (G : GG) (K : OO) (h0 : Nat) (x1 : Int32) (x2 : Int32) (x3 : Int32) (bb : Nat) (kk : Nat) (ikp : Int32) (sg : Nat) (do9 : Nat) (ru9 : Nat) (ta9 : Nat) (tp9 : Nat) (ro9 : Nat) (ho9 : Nat) (de9 : Nat) (bpersons : Nat) (bpapers : Nat) (bstamps : Nat) (bversions : Nat) (blines : Nat) (bsteps : Nat) (bsayings : Nat) (bfindings : Nat) (bwarnings : Nat) (bquestions : Nat) (td : Int32) (vd : Int32) (vl : Int32) (gp : Int32) (bpapersc : Nat) (kbpapers : Nat) (fbpapers : Nat → Int32) (bsayingsc : Nat) (kbsayings : Nat) (fbsayings : Nat → Int32) (bfindingsc : Nat) (kbfindings : Nat) (fbfindings : Nat → Int32) (hs : Nat) (hz : Nat) (hi : Nat) (hw : Nat) (hn : Nat) (ht : Nat) (fhw : Nat → Int32) (fhn : Nat → Int32) (tr9 : Nat) (jr : Nat) (dk : Int32) (dn : Int32) (dp : Int32) (da : Int32) (dq : Int32) (ftr : Nat → Int32) (hkbpapers : kbpapers ≤ 12) (hkbsayings : kbsayings ≤ 16) (hkbfindings : kbfindings ≤ 12) (hjr : jr ≤ 30) : K_p_deal l G K h0 x1 x2 x3 bb kk ikp sg do9 ru9 ta9 tp9 ro9 ho9 de9 bpersons bpapers bstamps bversions blines bsteps bsayings bfindings bwarnings bquestions td vd vl gp bpapersc kbpapers fbpapers bsayingsc kbsayings fbsayings bfindingsc kbfindings fbfindings hs hz hi hw hn ht fhw fhn tr9 jr dk dn dp da dq ftr := by
  refine MIo.start (by decide +kernel) (Nat.le_of_ble_eq_true rfl) ?_
  intro p e s m below meth c A ls hC hK hP hD hS hA hl hO
  refine absQ (fun Q0 hQ0 => ?_)
  have hl : lv_has ls 5 [(0, .ref h0), (1, .int x1), (2, .int x2), (3, .int x3)] := hl
  refine Kan8 hC (fun hx hb hr hml hB hown hlocks hnm => ?_)
  refine lv_aload_n hx hb gX11_deal_0.1 rfl (lv_at0 hl) ?_
  refine gf_X11_79 hC rfl hK hP 0 rfl rfl gX11_deal_0.2.1 ?_
  refine vV (wr := [(h0, oX11 bb kk ikp sg do9 ru9 ta9 tp9 ro9 ho9 de9), (bb, oX0 bpersons bpapers bstamps bversions blines bsteps bsayings bfindings bwarnings bquestions td vd vl gp), (bpapers, oX8 12 6 bpapersc (nI kbpapers)), (bpapersc, iA G 72 fbpapers), (bsayings, oX8 16 8 bsayingsc (nI kbsayings)), (bsayingsc, iA G 128 fbsayings), (bfindings, oX8 12 4 bfindingsc (nI kbfindings)), (bfindingsc, iA G 48 fbfindings), (ho9, oX4 hs hz hi hw hn ht), (hw, iA G 4 fhw), (hn, iA G 4 fhn), (tr9, iA G 30 ftr)]) hC hK hl hP hD hS hA (d_clearTrace l G de9 bb tr9 jr dk dn dp da dq) si_X11_343 [11] [0, 1, 2, 3, 4, 5, 6, 7, 8, 9, 10, 12] sm_11 fm_11 nd_11 sm_0_1_2_3_4_5_6_7_8_9_10_12 nd_0_1_2_3_4_5_6_7_8_9_10_12 dj_11__0_1_2_3_4_5_6_7_8_9_10_12 rfl rfl rfl rfl rfl (Nat.le_of_ble_eq_true rfl) rm_66_1_1 ⟨Nat.le_of_ble_eq_true rfl, Nat.le_of_ble_eq_true rfl⟩ gX11_deal_0.2.2.1 (fun u5136 H locs hr5135 hP hD hS => ?_)
  refine Kpdr (ws := [(h0, oX11 bb kk ikp sg do9 ru9 ta9 tp9 ro9 ho9 de9), (bb, oX0 bpersons bpapers bstamps bversions blines bsteps bsayings bfindings bwarnings bquestions td vd vl gp), (bpapers, oX8 12 6 bpapersc (nI kbpapers)), (bpapersc, iA G 72 fbpapers), (bsayings, oX8 16 8 bsayingsc (nI kbsayings)), (bsayingsc, iA G 128 fbsayings), (bfindings, oX8 12 4 bfindingsc (nI kbfindings)), (bfindingsc, iA G 48 fbfindings), (ho9, oX4 hs hz hi hw hn ht), (hw, iA G 4 fhw), (hn, iA G 4 fhn), (tr9, iA G 30 ftr), (de9, oX2 bb tr9 0 dk dn dp da dq)]) hP hD (fun hP hD => ?_)
  refine lv_iload_n hx hb gX11_deal_0.2.2.2.1 rfl (lv_at1 hl) ?_
  refine pS hC hK hl (c_isShelf l G x1) si_X11_318 rfl rfl (Nat.le_of_ble_eq_true rfl) rm_66_2_1 ⟨by first | exact Nat.le_of_ble_eq_true rfl | exact Nat.zero_le _, by first | exact Nat.le_of_ble_eq_true rfl | exact Nat.zero_le _⟩ gX11_deal_0.2.2.2.2.1 (Kors (Keqa fun a5138 => ?_) (Keqa fun a5138 => ?_))
  · refine lv_if_eq (tgt := 23) hx hb gX11_deal_0.2.2.2.2.2.1 (by decide) (fun c9 => absurd c9 (by decide)) (fun _ => ?_)
    refine lv_iload_n hx hb gX11_deal_0.2.2.2.2.2.2.1 rfl (lv_at2 hl) ?_
    refine lv_iconst (v := 0) hx hb gX11_deal_0.2.2.2.2.2.2.2.1 (by decide) ?_
    refine lv_iconst (v := 3) hx hb gX11_deal_0.2.2.2.2.2.2.2.2.1 (by decide) ?_
    refine pS hC hK hl (c_within l G x2 0 3) si_X11_83 rfl rfl (Nat.le_of_ble_eq_true rfl) rm_66_1_3 ⟨by first | exact Nat.le_of_ble_eq_true rfl | exact Nat.zero_le _, by first | exact Nat.le_of_ble_eq_true rfl | exact Nat.zero_le _⟩ gX11_deal_0.2.2.2.2.2.2.2.2.2 (Kors (Keqa fun a5140 => ?_) (Keqa fun a5140 => ?_))
    · refine lv_if_ne (tgt := 25) hx hb gX11_deal_1.1 (by decide) (fun _ => ?_) (fun c9 => absurd c9 (by decide))
      refine lv_aload_n hx hb gX11_deal_1.2.2.2.1 rfl (lv_at0 hl) ?_
      refine gf_X11_72 hC rfl hK hP 0 rfl rfl gX11_deal_1.2.2.2.2.1 ?_
      refine lv_iload_n hx hb gX11_deal_1.2.2.2.2.2.1 rfl (lv_at1 hl) ?_
      refine lv_aload_n hx hb gX11_deal_1.2.2.2.2.2.2.1 rfl (lv_at0 hl) ?_
      refine gf_X11_15 hC rfl hK hP 0 rfl rfl gX11_deal_1.2.2.2.2.2.2.2.1 ?_
      refine pV hC hK hl hP hD (c_held l G ho9 x1 bb hs hz hi hw hn ht fhw fhn bpersons bpapers bstamps bversions blines bsteps bsayings bfindings bwarnings bquestions td vd vl gp bpapersc kbpapers bsayingsc kbsayings bfindingsc kbfindings) si_X11_327 [8, 9, 10, 1, 2, 4, 6] sm_8_9_10_1_2_4_6 fm_8_9_10_1_2_4_6 nd_8_9_10_1_2_4_6 rfl rfl rfl rfl rfl (Nat.le_of_ble_eq_true rfl) rm_66_3_4 ⟨by first | exact Nat.le_of_ble_eq_true rfl | exact Nat.zero_le _, by first | exact Nat.le_of_ble_eq_true rfl | exact Nat.zero_le _⟩ gX11_deal_1.2.2.2.2.2.2.2.2.1 (fun r5141 hr5141 => ?_)
      refine lv_istore (lv' := [(4, .int r5141), (0, .ref h0), (1, .int x1), (2, .int x2), (3, .int x3)]) hx hb gX11_deal_1.2.2.2.2.2.2.2.2.2 hl (by decide) rfl (fun ls hl => ?_)
      refine lv_iload hx hb gX11_deal_2.1 (lv_at0 hl) ?_
      refine lv_iconst (v := 4) hx hb gX11_deal_2.2.1 (by decide) ?_
      refine lv_icmp_eq (tgt := 51) hx hb gX11_deal_2.2.2.1 (by decide) (fun c_42_5142 => ?_) (fun c_42_5142 => ?_)
      · refine lv_iconst (v := 0) hx hb gX11_deal_2.2.2.2.2.2.2.1 (by decide) ?_
        refine toQ hQ0 ?_
        exact RI (v := 0) hC hP hD hS [0, 1, 2, 3, 4, 5, 6, 7, 8, 9, 10, 12, 11] (dk, dn, dp, da, 0, ftr, dq) rfl rfl (by decide) (⟨trivial, by dsimp only; omega⟩) rfl gX11_deal_2.2.2.2.2.2.2.2.1
      · refine lv_iload hx hb gX11_deal_2.2.2.2.1 (lv_at0 hl) ?_
        refine lv_iconst (v := 3) hx hb gX11_deal_2.2.2.2.2.1 (by decide) ?_
        refine lv_icmp_ne (tgt := 53) hx hb gX11_deal_2.2.2.2.2.2.1 (by decide) (fun c_48_5143 => ?_) (fun c_48_5143 => ?_)
        · refine lv_aload_n hx hb gX11_deal_2.2.2.2.2.2.2.2.2.1 rfl (lv_at1 hl) ?_
          refine gf_X11_79 hC rfl hK hP 0 rfl rfl gX11_deal_2.2.2.2.2.2.2.2.2.2 ?_
          refine lv_iload hx hb gX11_deal_3.1 (lv_at0 hl) ?_
          refine lv_aload_n hx hb gX11_deal_3.2.1 rfl (lv_at1 hl) ?_
          refine gf_X11_72 hC rfl hK hP 0 rfl rfl gX11_deal_3.2.2.1 ?_
          refine lv_iload_n hx hb gX11_deal_3.2.2.2.1 rfl (lv_at2 hl) ?_
          refine pV hC hK hl hP hD (c_heldNumber l G ho9 x1 hs hz hi hw hn ht fhn) si_X11_334 [8, 10] sm_8_10 fm_8_10 nd_8_10 rfl rfl rfl rfl rfl (Nat.le_of_ble_eq_true rfl) rm_66_3_2 ⟨by first | exact Nat.le_of_ble_eq_true rfl | exact Nat.zero_le _, by first | exact Nat.le_of_ble_eq_true rfl | exact Nat.zero_le _⟩ gX11_deal_3.2.2.2.2.1 (fun r5144 hr5144 => ?_)
          refine vV (wr := [(h0, oX11 bb kk ikp sg do9 ru9 ta9 tp9 ro9 ho9 de9), (ho9, oX4 hs hz hi hw hn ht), (hw, iA G 4 fhw), (hn, iA G 4 fhn), (tr9, iA G 30 ftr)]) hC hK hl hP hD hS hA (d_grasp l G de9 r5141 r5144 bb tr9 0 dk dn dp da dq bpersons bpapers bstamps bversions blines bsteps bsayings bfindings bwarnings bquestions td vd vl gp bpapersc kbpapers fbpapers bsayingsc kbsayings fbsayings bfindingsc kbfindings fbfindings (hkbpapers) (hkbsayings) (hkbfindings)) si_X11_337 [12, 1, 2, 3, 4, 5, 6, 7] [0, 8, 9, 10, 11] sm_12_1_2_3_4_5_6_7 fm_12_1_2_3_4_5_6_7 nd_12_1_2_3_4_5_6_7 sm_0_8_9_10_11 nd_0_8_9_10_11 dj_12_1_2_3_4_5_6_7__0_8_9_10_11 rfl rfl rfl rfl rfl (Nat.le_of_ble_eq_true rfl) rm_66_5_3 ⟨Nat.le_of_ble_eq_true rfl, Nat.le_of_ble_eq_true rfl⟩ gX11_deal_3.2.2.2.2.2.1 (Ktu4 fun dk15147 dn15148 dp15149 da15150 => ?_)
          intro H locs hr5145 hP hD hS
          try dsimp only at hr5145
          refine Kpdr (ws := [(h0, oX11 bb kk ikp sg do9 ru9 ta9 tp9 ro9 ho9 de9), (ho9, oX4 hs hz hi hw hn ht), (hw, iA G 4 fhw), (hn, iA G 4 fhn), (tr9, iA G 30 ftr), (de9, oX2 bb tr9 0 dk15147 dn15148 dp15149 da15150 dq), (bb, oX0 bpersons bpapers bstamps bversions blines bsteps bsayings bfindings bwarnings bquestions td vd vl gp), (bpapers, oX8 12 6 bpapersc (nI kbpapers)), (bpapersc, iA G 72 fbpapers), (bsayings, oX8 16 8 bsayingsc (nI kbsayings)), (bsayingsc, iA G 128 fbsayings), (bfindings, oX8 12 4 bfindingsc (nI kbfindings)), (bfindingsc, iA G 48 fbfindings)]) hP hD (fun hP hD => ?_)
          refine lv_aload_n hx hb gX11_deal_3.2.2.2.2.2.2.1 rfl (lv_at1 hl) ?_
          refine gf_X11_79 hC rfl hK hP 0 rfl rfl gX11_deal_3.2.2.2.2.2.2.2.1 ?_
          refine lv_iload_n hx hb gX11_deal_3.2.2.2.2.2.2.2.2.1 rfl (lv_at3 hl) ?_
          refine lv_iload_n hx hb gX11_deal_3.2.2.2.2.2.2.2.2.2 rfl (lv_at4 hl) ?_
          refine iVo (wr := [(h0, oX11 bb kk ikp sg do9 ru9 ta9 tp9 ro9 ho9 de9), (ho9, oX4 hs hz hi hw hn ht), (hw, iA G 4 fhw), (hn, iA G 4 fhn), (bb, oX0 bpersons bpapers bstamps bversions blines bsteps bsayings bfindings bwarnings bquestions td vd vl gp), (bpapers, oX8 12 6 bpapersc (nI kbpapers)), (bpapersc, iA G 72 fbpapers), (bsayings, oX8 16 8 bsayingsc (nI kbsayings)), (bsayingsc, iA G 128 fbsayings), (bfindings, oX8 12 4 bfindingsc (nI kbfindings)), (bfindingsc, iA G 48 fbfindings)]) hO hC hK hl hP hD hS hA (d_answer l G K de9 x2 x3 bb tr9 0 dk15147 dn15148 dp15149 da15150 dq ftr (by omega)) si_X11_346 [5, 4] [0, 1, 2, 3, 6, 7, 8, 9, 10, 11, 12] sm_5_4 fm_5_4 nd_5_4 sm_0_1_2_3_6_7_8_9_10_11_12 nd_0_1_2_3_6_7_8_9_10_11_12 dj_5_4__0_1_2_3_6_7_8_9_10_11_12 rfl rfl rfl rfl rfl (Nat.le_of_ble_eq_true rfl) rm_66_64_4 ⟨Nat.le_of_ble_eq_true rfl, Nat.le_of_ble_eq_true rfl⟩ gX11_deal_4.1 (fun r5151 => Ktu3 fun jr15153 gtr5154 dq15155 => ?_)
          intro H locs hr5151 hP hD hS
          try dsimp only at hr5151
          refine Kpdr (ws := [(h0, oX11 bb kk ikp sg do9 ru9 ta9 tp9 ro9 ho9 de9), (ho9, oX4 hs hz hi hw hn ht), (hw, iA G 4 fhw), (hn, iA G 4 fhn), (bb, oX0 bpersons bpapers bstamps bversions blines bsteps bsayings bfindings bwarnings bquestions td vd vl gp), (bpapers, oX8 12 6 bpapersc (nI kbpapers)), (bpapersc, iA G 72 fbpapers), (bsayings, oX8 16 8 bsayingsc (nI kbsayings)), (bsayingsc, iA G 128 fbsayings), (bfindings, oX8 12 4 bfindingsc (nI kbfindings)), (bfindingsc, iA G 48 fbfindings), (de9, oX2 bb tr9 (nI jr15153) dk15147 dn15148 dp15149 da15150 dq15155), (tr9, iA G 30 gtr5154)]) hP hD (fun hP hD => ?_)
          obtain ⟨hr5151, w5156⟩ := hr5151
          refine toQ hQ0 ?_
          exact RI (v := r5151) hC hP hD hS [0, 4, 5, 6, 7, 8, 9, 10, 1, 2, 3, 11, 12] (dk15147, dn15148, dp15149, da15150, jr15153, gtr5154, dq15155) rfl rfl (by decide) (⟨trivial, by dsimp only; omega⟩) rfl gX11_deal_4.2
        · refine lv_iconst (v := 0) hx hb gX11_deal_2.2.2.2.2.2.2.1 (by decide) ?_
          refine toQ hQ0 ?_
          exact RI (v := 0) hC hP hD hS [0, 1, 2, 3, 4, 5, 6, 7, 8, 9, 10, 12, 11] (dk, dn, dp, da, 0, ftr, dq) rfl rfl (by decide) (⟨trivial, by dsimp only; omega⟩) rfl gX11_deal_2.2.2.2.2.2.2.2.1
    · refine lv_if_ne (tgt := 25) hx hb gX11_deal_1.1 (by decide) (fun c9 => absurd (by decide) c9) (fun _ => ?_)
      refine lv_iconst (v := 0) hx hb gX11_deal_1.2.1 (by decide) ?_
      refine toQ hQ0 ?_
      exact RI (v := 0) hC hP hD hS [0, 1, 2, 3, 4, 5, 6, 7, 8, 9, 10, 12, 11] (dk, dn, dp, da, 0, ftr, dq) rfl rfl (by decide) (⟨trivial, by dsimp only; omega⟩) rfl gX11_deal_1.2.2.1
  · refine lv_if_eq (tgt := 23) hx hb gX11_deal_0.2.2.2.2.2.1 (by decide) (fun _ => ?_) (fun c9 => absurd (by decide) c9)
    refine lv_iconst (v := 0) hx hb gX11_deal_1.2.1 (by decide) ?_
    refine toQ hQ0 ?_
    exact RI (v := 0) hC hP hD hS [0, 1, 2, 3, 4, 5, 6, 7, 8, 9, 10, 12, 11] (dk, dn, dp, da, 0, ftr, dq) rfl rfl (by decide) (⟨trivial, by dsimp only; omega⟩) rfl gX11_deal_1.2.2.1
