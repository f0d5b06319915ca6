section WR
variable {p : Program} {l : Launch} {e : Env} {R : Room} {s : State} {m : MethodId} {args : Array Value} {below : List Frame} {meth : Method} {c : Code} {H : Heap} {locs : List Loc} {cells slots : Nat} {Q : State → Prop}
variable {pc : Nat} {ls : Array Slot} {rest : List Value} {G : GG} {ws : va_W} {A : Nat → Prop} {y0 : MethodName} {b0 : ByteArray} {mL0 : Nat} {rt0 : Option FieldType} {a : Nat} {H0 : Heap}
theorem dX10_byteAt_0 : decode cX10_byteAt 0 = .ok (.iload_n 1, 1) := by decide +kernel
theorem dX10_byteAt_1 : decode cX10_byteAt 1 = .ok (.ifCond .lt 29, 3) := by decide +kernel
theorem dX10_byteAt_30 : decode cX10_byteAt 30 = .ok (.iconst (-1), 1) := by decide +kernel
theorem dX10_byteAt_31 : decode cX10_byteAt 31 = .ok (.ireturn, 1) := by decide +kernel
theorem dX10_byteAt_4 : decode cX10_byteAt 4 = .ok (.iload_n 1, 1) := by decide +kernel
theorem dX10_byteAt_5 : decode cX10_byteAt 5 = .ok (.aload_n 0, 1) := by decide +kernel
theorem dX10_byteAt_6 : decode cX10_byteAt 6 = .ok (.getfield 27, 3) := by decide +kernel
theorem dX10_byteAt_9 : decode cX10_byteAt 9 = .ok (.if_icmp .ge 21, 3) := by decide +kernel
theorem dX10_byteAt_12 : decode cX10_byteAt 12 = .ok (.iload_n 1, 1) := by decide +kernel
theorem dX10_byteAt_13 : decode cX10_byteAt 13 = .ok (.aload_n 0, 1) := by decide +kernel
theorem dX10_byteAt_14 : decode cX10_byteAt 14 = .ok (.getfield 9, 3) := by decide +kernel
theorem dX10_byteAt_17 : decode cX10_byteAt 17 = .ok (.arraylength, 1) := by decide +kernel
theorem dX10_byteAt_18 : decode cX10_byteAt 18 = .ok (.if_icmp .ge 12, 3) := by decide +kernel
theorem dX10_byteAt_21 : decode cX10_byteAt 21 = .ok (.aload_n 0, 1) := by decide +kernel
theorem dX10_byteAt_22 : decode cX10_byteAt 22 = .ok (.getfield 9, 3) := by decide +kernel
theorem dX10_byteAt_25 : decode cX10_byteAt 25 = .ok (.iload_n 1, 1) := by decide +kernel
theorem dX10_byteAt_26 : decode cX10_byteAt 26 = .ok (.iaload, 1) := by decide +kernel
theorem dX10_byteAt_27 : decode cX10_byteAt 27 = .ok (.goto 4, 3) := by decide +kernel
theorem dX10_isLetter_0 : decode cX10_isLetter 0 = .ok (.iload_n 0, 1) := by decide +kernel
theorem dX10_isLetter_1 : decode cX10_isLetter 1 = .ok (.bipush 97, 2) := by decide +kernel
theorem dX10_isLetter_3 : decode cX10_isLetter 3 = .ok (.bipush 122, 2) := by decide +kernel
theorem dX10_isLetter_5 : decode cX10_isLetter 5 = .ok (.invokestatic 89, 3) := by decide +kernel
theorem nm_50 : Cond.methodLinkNest RX10 89 yX11_within RX11 ∈ NestW := List.mem_of_getElem? (i := 50) (by decide +kernel)
theorem si_X10_89 : SSN RX10 RX11 89 yX11_within cX11_within 3 (some .boolean) 3 := ⟨⟨nm_50, m_213, m_2, m_214⟩, ⟨by decide +kernel, by decide +kernel, by decide +kernel⟩⟩
theorem dX10_isLetter_8 : decode cX10_isLetter 8 = .ok (.ireturn, 1) := by decide +kernel
theorem dX10_isDigit_0 : decode cX10_isDigit 0 = .ok (.iload_n 0, 1) := by decide +kernel
theorem dX10_isDigit_1 : decode cX10_isDigit 1 = .ok (.bipush 48, 2) := by decide +kernel
theorem dX10_isDigit_3 : decode cX10_isDigit 3 = .ok (.bipush 57, 2) := by decide +kernel
theorem dX10_isDigit_5 : decode cX10_isDigit 5 = .ok (.invokestatic 89, 3) := by decide +kernel
theorem dX10_isDigit_8 : decode cX10_isDigit 8 = .ok (.ireturn, 1) := by decide +kernel
theorem dX10_refuse_0 : decode cX10_refuse 0 = .ok (.aload_n 0, 1) := by decide +kernel
theorem dX10_refuse_1 : decode cX10_refuse 1 = .ok (.aload_n 0, 1) := by decide +kernel
theorem dX10_refuse_2 : decode cX10_refuse 2 = .ok (.getfield 34, 3) := by decide +kernel
theorem m_145 : Cond.fieldLink RX10 34 "InquiryBench$Tape" "start" "I" ∈ BW := List.mem_of_getElem? (i := 145) (by decide +kernel)
theorem gf_X10_34 (hC : CX p s m meth c y0 b0 mL0 rt0 args) (hy0 : y0.cls = RX10) (hK : KK G s) (hP : va_P G.1 vwCl ws H) (q0 : Nat) {fs : List Value} {v : Value} (he : ws[q0]? = some (a, .inr (10, fs))) (hv : fs[5]? = some v) (hdg : decode b0 pc = .ok (.getfield 34, 3)) (kk : W p l e R s m args below meth c H locs cells slots Q (F0 m (pc + 3) ls (v :: rest))) : W p l e R s m args below meth c H locs cells slots Q (F0 m pc ls (.ref a :: rest)) := by
  obtain ⟨hx, hb, hr, hml, hB, hown, hlocks, hnm⟩ := hC
  rw [hy0] at hown
  exact va_get (ci := 10) (C := RX10) (T := TX10) (N := 8) hx hb hB in_X10 hown hK.1 hP q0 he rfl 5 (by decide) (hB _ m_145) (fun _ h => h) hv hdg kk
theorem dX10_refuse_5 : decode cX10_refuse 5 = .ok (.putfield 40, 3) := by decide +kernel
theorem m_147 : Cond.fieldLink RX10 40 "InquiryBench$Tape" "fault" "I" ∈ BW := List.mem_of_getElem? (i := 147) (by decide +kernel)
theorem pf_X10_40 (hC : CX p s m meth c y0 b0 mL0 rt0 args) (hy0 : y0.cls = RX10) (hK : KK G s) (hP : va_P G.1 vwCl ws H) (hD : va_D A ws) (hS : va_S A H0 H locs) (q0 : Nat) {fs : List Value} {v : Value} {ws' : va_W} (he : ws[q0]? = some (a, .inr (10, fs))) (hl : 7 < fs.length) (hws : ws.set q0 (a, .inr (10, fs.set 7 v)) = ws') (hn : narrow .int v = v) (hfit : fits .int v = true) (hdg : decode b0 pc = .ok (.putfield 40, 3)) (kk : ∀ (H1 : Heap) (locs1 : List Loc), va_P G.1 vwCl ws' H1 → va_D A ws' → va_S A H0 H1 locs1 → W p l e R s m args below meth c H1 locs1 cells slots Q (F0 m (pc + 3) ls rest)) : W p l e R s m args below meth c H locs cells slots Q (F0 m pc ls (v :: .ref a :: rest)) := by
  obtain ⟨hx, hb, hr, hml, hB, hown, hlocks, hnm⟩ := hC
  rw [hy0] at hown
  subst hws
  exact va_put (ci := 10) (ty := .int) (C := RX10) (T := TX10) (N := 8) hx hb hB in_X10 tyX10 tyX10_ok nmX10 hown hK.1 hP hD hS q0 he rfl 7 (by decide) (hB _ m_147) (fun _ h => h) rfl (by decide +kernel) hn hfit hl hdg kk
theorem dX10_refuse_8 : decode cX10_refuse 8 = .ok (.iconst 0, 1) := by decide +kernel
theorem dX10_refuse_9 : decode cX10_refuse 9 = .ok (.ireturn, 1) := by decide +kernel
theorem dX10_clear_0 : decode cX10_clear 0 = .ok (.aload_n 0, 1) := by decide +kernel
theorem dX10_clear_1 : decode cX10_clear 1 = .ok (.iconst 0, 1) := by decide +kernel
theorem dX10_clear_2 : decode cX10_clear 2 = .ok (.putfield 27, 3) := by decide +kernel
theorem dX10_clear_5 : decode cX10_clear 5 = .ok (.return_, 1) := by decide +kernel
theorem dX10_advance_0 : decode cX10_advance 0 = .ok (.aload_n 0, 1) := by decide +kernel
theorem dX10_advance_1 : decode cX10_advance 1 = .ok (.aload_n 0, 1) := by decide +kernel
theorem dX10_advance_2 : decode cX10_advance 2 = .ok (.getfield 37, 3) := by decide +kernel
theorem m_146 : Cond.fieldLink RX10 37 "InquiryBench$Tape" "next" "I" ∈ BW := List.mem_of_getElem? (i := 146) (by decide +kernel)
theorem gf_X10_37 (hC : CX p s m meth c y0 b0 mL0 rt0 args) (hy0 : y0.cls = RX10) (hK : KK G s) (hP : va_P G.1 vwCl ws H) (q0 : Nat) {fs : List Value} {v : Value} (he : ws[q0]? = some (a, .inr (10, fs))) (hv : fs[6]? = some v) (hdg : decode b0 pc = .ok (.getfield 37, 3)) (kk : W p l e R s m args below meth c H locs cells slots Q (F0 m (pc + 3) ls (v :: rest))) : W p l e R s m args below meth c H locs cells slots Q (F0 m pc ls (.ref a :: rest)) := by
  obtain ⟨hx, hb, hr, hml, hB, hown, hlocks, hnm⟩ := hC
  rw [hy0] at hown
  exact va_get (ci := 10) (C := RX10) (T := TX10) (N := 8) hx hb hB in_X10 hown hK.1 hP q0 he rfl 6 (by decide) (hB _ m_146) (fun _ h => h) hv hdg kk
theorem dX10_advance_5 : decode cX10_advance 5 = .ok (.putfield 34, 3) := by decide +kernel
theorem pf_X10_34 (hC : CX p s m meth c y0 b0 mL0 rt0 args) (hy0 : y0.cls = RX10) (hK : KK G s) (hP : va_P G.1 vwCl ws H) (hD : va_D A ws) (hS : va_S A H0 H locs) (q0 : Nat) {fs : List Value} {v : Value} {ws' : va_W} (he : ws[q0]? = some (a, .inr (10, fs))) (hl : 5 < fs.length) (hws : ws.set q0 (a, .inr (10, fs.set 5 v)) = ws') (hn : narrow .int v = v) (hfit : fits .int v = true) (hdg : decode b0 pc = .ok (.putfield 34, 3)) (kk : ∀ (H1 : Heap) (locs1 : List Loc), va_P G.1 vwCl ws' H1 → va_D A ws' → va_S A H0 H1 locs1 → W p l e R s m args below meth c H1 locs1 cells slots Q (F0 m (pc + 3) ls rest)) : W p l e R s m args below meth c H locs cells slots Q (F0 m pc ls (v :: .ref a :: rest)) := by
  obtain ⟨hx, hb, hr, hml, hB, hown, hlocks, hnm⟩ := hC
  rw [hy0] at hown
  subst hws
  exact va_put (ci := 10) (ty := .int) (C := RX10) (T := TX10) (N := 8) hx hb hB in_X10 tyX10 tyX10_ok nmX10 hown hK.1 hP hD hS q0 he rfl 5 (by decide) (hB _ m_145) (fun _ h => h) rfl (by decide +kernel) hn hfit hl hdg kk
theorem dX10_advance_8 : decode cX10_advance 8 = .ok (.aload_n 0, 1) := by decide +kernel
theorem dX10_advance_9 : decode cX10_advance 9 = .ok (.getfield 34, 3) := by decide +kernel
theorem dX10_advance_12 : decode cX10_advance 12 = .ok (.aload_n 0, 1) := by decide +kernel
theorem dX10_advance_13 : decode cX10_advance 13 = .ok (.getfield 27, 3) := by decide +kernel
theorem dX10_advance_16 : decode cX10_advance 16 = .ok (.if_icmp .ge 29, 3) := by decide +kernel
theorem dX10_advance_45 : decode cX10_advance 45 = .ok (.aload_n 0, 1) := by decide +kernel
theorem dX10_advance_46 : decode cX10_advance 46 = .ok (.aload_n 0, 1) := by decide +kernel
theorem dX10_advance_47 : decode cX10_advance 47 = .ok (.getfield 34, 3) := by decide +kernel
theorem dX10_advance_50 : decode cX10_advance 50 = .ok (.putfield 37, 3) := by decide +kernel
theorem pf_X10_37 (hC : CX p s m meth c y0 b0 mL0 rt0 args) (hy0 : y0.cls = RX10) (hK : KK G s) (hP : va_P G.1 vwCl ws H) (hD : va_D A ws) (hS : va_S A H0 H locs) (q0 : Nat) {fs : List Value} {v : Value} {ws' : va_W} (he : ws[q0]? = some (a, .inr (10, fs))) (hl : 6 < fs.length) (hws : ws.set q0 (a, .inr (10, fs.set 6 v)) = ws') (hn : narrow .int v = v) (hfit : fits .int v = true) (hdg : decode b0 pc = .ok (.putfield 37, 3)) (kk : ∀ (H1 : Heap) (locs1 : List Loc), va_P G.1 vwCl ws' H1 → va_D A ws' → va_S A H0 H1 locs1 → W p l e R s m args below meth c H1 locs1 cells slots Q (F0 m (pc + 3) ls rest)) : W p l e R s m args below meth c H locs cells slots Q (F0 m pc ls (v :: .ref a :: rest)) := by
  obtain ⟨hx, hb, hr, hml, hB, hown, hlocks, hnm⟩ := hC
  rw [hy0] at hown
  subst hws
  exact va_put (ci := 10) (ty := .int) (C := RX10) (T := TX10) (N := 8) hx hb hB in_X10 tyX10 tyX10_ok nmX10 hown hK.1 hP hD hS q0 he rfl 6 (by decide) (hB _ m_146) (fun _ h => h) rfl (by decide +kernel) hn hfit hl hdg kk
theorem dX10_advance_53 : decode cX10_advance 53 = .ok (.aload_n 0, 1) := by decide +kernel
theorem dX10_advance_54 : decode cX10_advance 54 = .ok (.aload_n 0, 1) := by decide +kernel
theorem dX10_advance_55 : decode cX10_advance 55 = .ok (.getfield 34, 3) := by decide +kernel
theorem dX10_advance_58 : decode cX10_advance 58 = .ok (.invokevirtual 78, 3) := by decide +kernel
theorem m_771 : Cond.code yX10_byteAt cX10_byteAt 2 (some .int) ∈ BW := List.mem_of_getElem? (i := 771) (by decide +kernel)
theorem m_768 : Cond.methodLink RX10 78 yX10_byteAt ∈ BW := List.mem_of_getElem? (i := 768) (by decide +kernel)
theorem m_769 : Cond.instanceMethod yX10_byteAt ∈ BW := List.mem_of_getElem? (i := 769) (by decide +kernel)
theorem m_770 : Cond.selects RX10 yX10_byteAt yX10_byteAt ∈ BW := List.mem_of_getElem? (i := 770) (by decide +kernel)
theorem si_X10_78 : SV RX10 RX10 78 yX10_byteAt cX10_byteAt 2 (some .int) 1 := ⟨⟨m_768, m_769, m_770, m_37, m_771⟩, rfl, by decide +kernel, by decide +kernel, by decide +kernel⟩
theorem dX10_advance_61 : decode cX10_advance 61 = .ok (.invokestatic 82, 3) := by decide +kernel
theorem m_774 : Cond.code yX10_isLetter cX10_isLetter 1 (some .boolean) ∈ BW := List.mem_of_getElem? (i := 774) (by decide +kernel)
theorem m_772 : Cond.methodLink RX10 82 yX10_isLetter ∈ BW := List.mem_of_getElem? (i := 772) (by decide +kernel)
theorem m_773 : Cond.static yX10_isLetter ∈ BW := List.mem_of_getElem? (i := 773) (by decide +kernel)
theorem si_X10_82 : SS RX10 82 yX10_isLetter cX10_isLetter 1 (some .boolean) 1 := ⟨⟨m_772, m_773, m_37, m_774⟩, ⟨by decide +kernel, by decide +kernel, by decide +kernel⟩⟩
theorem dX10_advance_64 : decode cX10_advance 64 = .ok (.ifCond .eq 47, 3) := by decide +kernel
theorem dX10_advance_67 : decode cX10_advance 67 = .ok (.aload_n 0, 1) := by decide +kernel
theorem dX10_advance_68 : decode cX10_advance 68 = .ok (.bipush (-2), 2) := by decide +kernel
theorem dX10_advance_70 : decode cX10_advance 70 = .ok (.putfield 31, 3) := by decide +kernel
theorem m_144 : Cond.fieldLink RX10 31 "InquiryBench$Tape" "kind" "I" ∈ BW := List.mem_of_getElem? (i := 144) (by decide +kernel)
theorem pf_X10_31 (hC : CX p s m meth c y0 b0 mL0 rt0 args) (hy0 : y0.cls = RX10) (hK : KK G s) (hP : va_P G.1 vwCl ws H) (hD : va_D A ws) (hS : va_S A H0 H locs) (q0 : Nat) {fs : List Value} {v : Value} {ws' : va_W} (he : ws[q0]? = some (a, .inr (10, fs))) (hl : 4 < fs.length) (hws : ws.set q0 (a, .inr (10, fs.set 4 v)) = ws') (hn : narrow .int v = v) (hfit : fits .int v = true) (hdg : decode b0 pc = .ok (.putfield 31, 3)) (kk : ∀ (H1 : Heap) (locs1 : List Loc), va_P G.1 vwCl ws' H1 → va_D A ws' → va_S A H0 H1 locs1 → W p l e R s m args below meth c H1 locs1 cells slots Q (F0 m (pc + 3) ls rest)) : W p l e R s m args below meth c H locs cells slots Q (F0 m pc ls (v :: .ref a :: rest)) := by
  obtain ⟨hx, hb, hr, hml, hB, hown, hlocks, hnm⟩ := hC
  rw [hy0] at hown
  subst hws
  exact va_put (ci := 10) (ty := .int) (C := RX10) (T := TX10) (N := 8) hx hb hB in_X10 tyX10 tyX10_ok nmX10 hown hK.1 hP hD hS q0 he rfl 4 (by decide) (hB _ m_144) (fun _ h => h) rfl (by decide +kernel) hn hfit hl hdg kk
theorem dX10_advance_73 : decode cX10_advance 73 = .ok (.aload_n 0, 1) := by decide +kernel
theorem dX10_advance_74 : decode cX10_advance 74 = .ok (.getfield 37, 3) := by decide +kernel
theorem dX10_advance_77 : decode cX10_advance 77 = .ok (.aload_n 0, 1) := by decide +kernel
theorem dX10_advance_78 : decode cX10_advance 78 = .ok (.getfield 27, 3) := by decide +kernel
theorem dX10_advance_81 : decode cX10_advance 81 = .ok (.if_icmp .ge 118, 3) := by decide +kernel
theorem dX10_advance_199 : decode cX10_advance 199 = .ok (.return_, 1) := by decide +kernel
theorem dX10_advance_84 : decode cX10_advance 84 = .ok (.aload_n 0, 1) := by decide +kernel
theorem dX10_advance_85 : decode cX10_advance 85 = .ok (.aload_n 0, 1) := by decide +kernel
theorem dX10_advance_86 : decode cX10_advance 86 = .ok (.getfield 37, 3) := by decide +kernel
theorem dX10_advance_89 : decode cX10_advance 89 = .ok (.invokevirtual 78, 3) := by decide +kernel
theorem dX10_advance_92 : decode cX10_advance 92 = .ok (.invokestatic 82, 3) := by decide +kernel
theorem dX10_advance_95 : decode cX10_advance 95 = .ok (.ifCond .eq 104, 3) := by decide +kernel
theorem dX10_advance_98 : decode cX10_advance 98 = .ok (.aload_n 0, 1) := by decide +kernel
theorem dX10_advance_99 : decode cX10_advance 99 = .ok (.dup, 1) := by decide +kernel
theorem dX10_advance_100 : decode cX10_advance 100 = .ok (.getfield 37, 3) := by decide +kernel
theorem dX10_advance_103 : decode cX10_advance 103 = .ok (.iconst 1, 1) := by decide +kernel
theorem dX10_advance_104 : decode cX10_advance 104 = .ok (.iadd, 1) := by decide +kernel
theorem dX10_advance_105 : decode cX10_advance 105 = .ok (.putfield 37, 3) := by decide +kernel
theorem dX10_advance_108 : decode cX10_advance 108 = .ok (.goto (-35), 3) := by decide +kernel
theorem dX10_advance_111 : decode cX10_advance 111 = .ok (.aload_n 0, 1) := by decide +kernel
theorem dX10_advance_112 : decode cX10_advance 112 = .ok (.aload_n 0, 1) := by decide +kernel
theorem dX10_advance_113 : decode cX10_advance 113 = .ok (.getfield 34, 3) := by decide +kernel
theorem dX10_advance_116 : decode cX10_advance 116 = .ok (.invokevirtual 78, 3) := by decide +kernel
theorem dX10_advance_119 : decode cX10_advance 119 = .ok (.invokestatic 86, 3) := by decide +kernel
theorem m_777 : Cond.code yX10_isDigit cX10_isDigit 1 (some .boolean) ∈ BW := List.mem_of_getElem? (i := 777) (by decide +kernel)
theorem m_775 : Cond.methodLink RX10 86 yX10_isDigit ∈ BW := List.mem_of_getElem? (i := 775) (by decide +kernel)
theorem m_776 : Cond.static yX10_isDigit ∈ BW := List.mem_of_getElem? (i := 776) (by decide +kernel)
theorem si_X10_86 : SS RX10 86 yX10_isDigit cX10_isDigit 1 (some .boolean) 1 := ⟨⟨m_775, m_776, m_37, m_777⟩, ⟨by decide +kernel, by decide +kernel, by decide +kernel⟩⟩
theorem dX10_advance_122 : decode cX10_advance 122 = .ok (.ifCond .eq 47, 3) := by decide +kernel
theorem dX10_advance_125 : decode cX10_advance 125 = .ok (.aload_n 0, 1) := by decide +kernel
theorem dX10_advance_126 : decode cX10_advance 126 = .ok (.bipush (-3), 2) := by decide +kernel
theorem dX10_advance_128 : decode cX10_advance 128 = .ok (.putfield 31, 3) := by decide +kernel
theorem dX10_advance_131 : decode cX10_advance 131 = .ok (.aload_n 0, 1) := by decide +kernel
theorem dX10_advance_132 : decode cX10_advance 132 = .ok (.getfield 37, 3) := by decide +kernel
theorem dX10_advance_135 : decode cX10_advance 135 = .ok (.aload_n 0, 1) := by decide +kernel
theorem dX10_advance_136 : decode cX10_advance 136 = .ok (.getfield 27, 3) := by decide +kernel
theorem dX10_advance_139 : decode cX10_advance 139 = .ok (.if_icmp .ge 60, 3) := by decide +kernel
theorem dX10_advance_142 : decode cX10_advance 142 = .ok (.aload_n 0, 1) := by decide +kernel
theorem dX10_advance_143 : decode cX10_advance 143 = .ok (.aload_n 0, 1) := by decide +kernel
theorem dX10_advance_144 : decode cX10_advance 144 = .ok (.getfield 37, 3) := by decide +kernel
theorem dX10_advance_147 : decode cX10_advance 147 = .ok (.invokevirtual 78, 3) := by decide +kernel
theorem dX10_advance_150 : decode cX10_advance 150 = .ok (.invokestatic 86, 3) := by decide +kernel
theorem dX10_advance_153 : decode cX10_advance 153 = .ok (.ifCond .eq 46, 3) := by decide +kernel
theorem dX10_advance_156 : decode cX10_advance 156 = .ok (.aload_n 0, 1) := by decide +kernel
theorem dX10_advance_157 : decode cX10_advance 157 = .ok (.dup, 1) := by decide +kernel
theorem dX10_advance_158 : decode cX10_advance 158 = .ok (.getfield 37, 3) := by decide +kernel
theorem dX10_advance_161 : decode cX10_advance 161 = .ok (.iconst 1, 1) := by decide +kernel
theorem dX10_advance_162 : decode cX10_advance 162 = .ok (.iadd, 1) := by decide +kernel
theorem dX10_advance_163 : decode cX10_advance 163 = .ok (.putfield 37, 3) := by decide +kernel
theorem dX10_advance_166 : decode cX10_advance 166 = .ok (.goto (-35), 3) := by decide +kernel
theorem dX10_advance_169 : decode cX10_advance 169 = .ok (.aload_n 0, 1) := by decide +kernel
theorem dX10_advance_170 : decode cX10_advance 170 = .ok (.aload_n 0, 1) := by decide +kernel
theorem dX10_advance_171 : decode cX10_advance 171 = .ok (.aload_n 0, 1) := by decide +kernel
theorem dX10_advance_172 : decode cX10_advance 172 = .ok (.getfield 34, 3) := by decide +kernel
theorem dX10_advance_175 : decode cX10_advance 175 = .ok (.invokevirtual 78, 3) := by decide +kernel
theorem dX10_advance_178 : decode cX10_advance 178 = .ok (.putfield 31, 3) := by decide +kernel
theorem dX10_advance_181 : decode cX10_advance 181 = .ok (.aload_n 0, 1) := by decide +kernel
theorem dX10_advance_182 : decode cX10_advance 182 = .ok (.getfield 31, 3) := by decide +kernel
theorem gf_X10_31 (hC : CX p s m meth c y0 b0 mL0 rt0 args) (hy0 : y0.cls = RX10) (hK : KK G s) (hP : va_P G.1 vwCl ws H) (q0 : Nat) {fs : List Value} {v : Value} (he : ws[q0]? = some (a, .inr (10, fs))) (hv : fs[4]? = some v) (hdg : decode b0 pc = .ok (.getfield 31, 3)) (kk : W p l e R s m args below meth c H locs cells slots Q (F0 m (pc + 3) ls (v :: rest))) : W p l e R s m args below meth c H locs cells slots Q (F0 m pc ls (.ref a :: rest)) := by
  obtain ⟨hx, hb, hr, hml, hB, hown, hlocks, hnm⟩ := hC
  rw [hy0] at hown
  exact va_get (ci := 10) (C := RX10) (T := TX10) (N := 8) hx hb hB in_X10 hown hK.1 hP q0 he rfl 4 (by decide) (hB _ m_144) (fun _ h => h) hv hdg kk
theorem dX10_advance_185 : decode cX10_advance 185 = .ok (.iconst (-1), 1) := by decide +kernel
theorem dX10_advance_186 : decode cX10_advance 186 = .ok (.if_icmp .eq 13, 3) := by decide +kernel
theorem dX10_advance_189 : decode cX10_advance 189 = .ok (.aload_n 0, 1) := by decide +kernel
theorem dX10_advance_190 : decode cX10_advance 190 = .ok (.dup, 1) := by decide +kernel
theorem dX10_advance_191 : decode cX10_advance 191 = .ok (.getfield 37, 3) := by decide +kernel
theorem dX10_advance_194 : decode cX10_advance 194 = .ok (.iconst 1, 1) := by decide +kernel
theorem dX10_advance_195 : decode cX10_advance 195 = .ok (.iadd, 1) := by decide +kernel
theorem dX10_advance_196 : decode cX10_advance 196 = .ok (.putfield 37, 3) := by decide +kernel
theorem dX10_advance_19 : decode cX10_advance 19 = .ok (.aload_n 0, 1) := by decide +kernel
theorem dX10_advance_20 : decode cX10_advance 20 = .ok (.aload_n 0, 1) := by decide +kernel
theorem dX10_advance_21 : decode cX10_advance 21 = .ok (.getfield 34, 3) := by decide +kernel
theorem dX10_advance_24 : decode cX10_advance 24 = .ok (.invokevirtual 78, 3) := by decide +kernel
theorem dX10_advance_27 : decode cX10_advance 27 = .ok (.bipush 32, 2) := by decide +kernel
theorem dX10_advance_29 : decode cX10_advance 29 = .ok (.if_icmp .ne 16, 3) := by decide +kernel
theorem dX10_advance_32 : decode cX10_advance 32 = .ok (.aload_n 0, 1) := by decide +kernel
theorem dX10_advance_33 : decode cX10_advance 33 = .ok (.dup, 1) := by decide +kernel
theorem dX10_advance_34 : decode cX10_advance 34 = .ok (.getfield 34, 3) := by decide +kernel
theorem dX10_advance_37 : decode cX10_advance 37 = .ok (.iconst 1, 1) := by decide +kernel
theorem dX10_advance_38 : decode cX10_advance 38 = .ok (.iadd, 1) := by decide +kernel
theorem dX10_advance_39 : decode cX10_advance 39 = .ok (.putfield 34, 3) := by decide +kernel
theorem dX10_advance_42 : decode cX10_advance 42 = .ok (.goto (-34), 3) := by decide +kernel
theorem dX10_isName_0 : decode cX10_isName 0 = .ok (.aload_n 0, 1) := by decide +kernel
theorem dX10_isName_1 : decode cX10_isName 1 = .ok (.getfield 31, 3) := by decide +kernel
theorem dX10_isName_4 : decode cX10_isName 4 = .ok (.bipush (-2), 2) := by decide +kernel
theorem dX10_isName_6 : decode cX10_isName 6 = .ok (.if_icmp .ne 19, 3) := by decide +kernel
theorem dX10_isName_25 : decode cX10_isName 25 = .ok (.iconst 0, 1) := by decide +kernel
theorem dX10_isName_26 : decode cX10_isName 26 = .ok (.ireturn, 1) := by decide +kernel
theorem dX10_isName_9 : decode cX10_isName 9 = .ok (.aload_n 0, 1) := by decide +kernel
theorem dX10_isName_10 : decode cX10_isName 10 = .ok (.getfield 37, 3) := by decide +kernel
theorem dX10_isName_13 : decode cX10_isName 13 = .ok (.aload_n 0, 1) := by decide +kernel
theorem dX10_isName_14 : decode cX10_isName 14 = .ok (.getfield 34, 3) := by decide +kernel
theorem dX10_isName_17 : decode cX10_isName 17 = .ok (.isub, 1) := by decide +kernel
theorem dX10_isName_18 : decode cX10_isName 18 = .ok (.aload_n 1, 1) := by decide +kernel
theorem dX10_isName_19 : decode cX10_isName 19 = .ok (.invokevirtual 93, 3) := by decide +kernel
theorem m_801 : Cond.code yJ0_length_8abf5 cJ0_length_8abf5 1 (some .int) ∈ BW := List.mem_of_getElem? (i := 801) (by decide +kernel)
theorem m_797 : Cond.methodLink RX10 93 yJ0_length_8abf5 ∈ BW := List.mem_of_getElem? (i := 797) (by decide +kernel)
theorem m_798 : Cond.instanceMethod yJ0_length_8abf5 ∈ BW := List.mem_of_getElem? (i := 798) (by decide +kernel)
theorem m_799 : Cond.selects RJ0 yJ0_length_8abf5 yJ0_length_8abf5 ∈ BW := List.mem_of_getElem? (i := 799) (by decide +kernel)
theorem si_X10_93 : SV RX10 RJ0 93 yJ0_length_8abf5 cJ0_length_8abf5 1 (some .int) 0 := ⟨⟨m_797, m_798, m_799, m_800, m_801⟩, rfl, by decide +kernel, by decide +kernel, by decide +kernel⟩
theorem dX10_isName_22 : decode cX10_isName 22 = .ok (.if_icmp .eq 5, 3) := by decide +kernel
theorem dX10_isName_27 : decode cX10_isName 27 = .ok (.iconst 0, 1) := by decide +kernel
theorem dX10_isName_28 : decode cX10_isName 28 = .ok (.istore_n 2, 1) := by decide +kernel
theorem dX10_isName_29 : decode cX10_isName 29 = .ok (.iload_n 2, 1) := by decide +kernel
theorem dX10_isName_30 : decode cX10_isName 30 = .ok (.aload_n 1, 1) := by decide +kernel
theorem dX10_isName_31 : decode cX10_isName 31 = .ok (.invokevirtual 93, 3) := by decide +kernel
theorem dX10_isName_34 : decode cX10_isName 34 = .ok (.if_icmp .ge 29, 3) := by decide +kernel
theorem dX10_isName_63 : decode cX10_isName 63 = .ok (.iconst 1, 1) := by decide +kernel
theorem dX10_isName_64 : decode cX10_isName 64 = .ok (.ireturn, 1) := by decide +kernel
theorem dX10_isName_37 : decode cX10_isName 37 = .ok (.aload_n 0, 1) := by decide +kernel
theorem dX10_isName_38 : decode cX10_isName 38 = .ok (.aload_n 0, 1) := by decide +kernel
theorem dX10_isName_39 : decode cX10_isName 39 = .ok (.getfield 34, 3) := by decide +kernel
theorem dX10_isName_42 : decode cX10_isName 42 = .ok (.iload_n 2, 1) := by decide +kernel
theorem dX10_isName_43 : decode cX10_isName 43 = .ok (.iadd, 1) := by decide +kernel
theorem dX10_isName_44 : decode cX10_isName 44 = .ok (.invokevirtual 78, 3) := by decide +kernel
theorem dX10_isName_47 : decode cX10_isName 47 = .ok (.aload_n 1, 1) := by decide +kernel
theorem dX10_isName_48 : decode cX10_isName 48 = .ok (.iload_n 2, 1) := by decide +kernel
theorem dX10_isName_49 : decode cX10_isName 49 = .ok (.invokevirtual 98, 3) := by decide +kernel
theorem m_812 : Cond.code yJ0_charAt_5068e cJ0_charAt_5068e 2 (some .char) ∈ BW := List.mem_of_getElem? (i := 812) (by decide +kernel)
theorem m_809 : Cond.methodLink RX10 98 yJ0_charAt_5068e ∈ BW := List.mem_of_getElem? (i := 809) (by decide +kernel)
theorem m_810 : Cond.instanceMethod yJ0_charAt_5068e ∈ BW := List.mem_of_getElem? (i := 810) (by decide +kernel)
theorem m_811 : Cond.selects RJ0 yJ0_charAt_5068e yJ0_charAt_5068e ∈ BW := List.mem_of_getElem? (i := 811) (by decide +kernel)
theorem si_X10_98 : SV RX10 RJ0 98 yJ0_charAt_5068e cJ0_charAt_5068e 2 (some .char) 1 := ⟨⟨m_809, m_810, m_811, m_800, m_812⟩, rfl, by decide +kernel, by decide +kernel, by decide +kernel⟩
theorem dX10_isName_52 : decode cX10_isName 52 = .ok (.if_icmp .eq 5, 3) := by decide +kernel
theorem dX10_isName_57 : decode cX10_isName 57 = .ok (.iinc 2 1, 3) := by decide +kernel
theorem dX10_isName_60 : decode cX10_isName 60 = .ok (.goto (-31), 3) := by decide +kernel
theorem dX10_isName_55 : decode cX10_isName 55 = .ok (.iconst 0, 1) := by decide +kernel
theorem dX10_isName_56 : decode cX10_isName 56 = .ok (.ireturn, 1) := by decide +kernel
theorem dX10_takesName_0 : decode cX10_takesName 0 = .ok (.aload_n 0, 1) := by decide +kernel
theorem dX10_takesName_1 : decode cX10_takesName 1 = .ok (.aload_n 1, 1) := by decide +kernel
theorem dX10_takesName_2 : decode cX10_takesName 2 = .ok (.invokevirtual 102, 3) := by decide +kernel
theorem m_796 : Cond.code yX10_isName cX10_isName 3 (some .boolean) ∈ BW := List.mem_of_getElem? (i := 796) (by decide +kernel)
theorem m_793 : Cond.methodLink RX10 102 yX10_isName ∈ BW := List.mem_of_getElem? (i := 793) (by decide +kernel)
theorem m_794 : Cond.instanceMethod yX10_isName ∈ BW := List.mem_of_getElem? (i := 794) (by decide +kernel)
theorem m_795 : Cond.selects RX10 yX10_isName yX10_isName ∈ BW := List.mem_of_getElem? (i := 795) (by decide +kernel)
theorem si_X10_102 : SV RX10 RX10 102 yX10_isName cX10_isName 3 (some .boolean) 1 := ⟨⟨m_793, m_794, m_795, m_37, m_796⟩, rfl, by decide +kernel, by decide +kernel, by decide +kernel⟩
theorem dX10_takesName_5 : decode cX10_takesName 5 = .ok (.ifCond .ne 8, 3) := by decide +kernel
theorem dX10_takesName_13 : decode cX10_takesName 13 = .ok (.aload_n 0, 1) := by decide +kernel
theorem dX10_takesName_14 : decode cX10_takesName 14 = .ok (.invokevirtual 47, 3) := by decide +kernel
theorem m_767 : Cond.code yX10_advance cX10_advance 1 none ∈ BW := List.mem_of_getElem? (i := 767) (by decide +kernel)
theorem m_764 : Cond.methodLink RX10 47 yX10_advance ∈ BW := List.mem_of_getElem? (i := 764) (by decide +kernel)
theorem m_765 : Cond.instanceMethod yX10_advance ∈ BW := List.mem_of_getElem? (i := 765) (by decide +kernel)
theorem m_766 : Cond.selects RX10 yX10_advance yX10_advance ∈ BW := List.mem_of_getElem? (i := 766) (by decide +kernel)
theorem si_X10_47 : SV RX10 RX10 47 yX10_advance cX10_advance 1 none 0 := ⟨⟨m_764, m_765, m_766, m_37, m_767⟩, rfl, by decide +kernel, by decide +kernel, by decide +kernel⟩
theorem dX10_takesName_17 : decode cX10_takesName 17 = .ok (.iconst 1, 1) := by decide +kernel
theorem dX10_takesName_18 : decode cX10_takesName 18 = .ok (.ireturn, 1) := by decide +kernel
theorem dX10_takesName_8 : decode cX10_takesName 8 = .ok (.aload_n 0, 1) := by decide +kernel
theorem dX10_takesName_9 : decode cX10_takesName 9 = .ok (.invokevirtual 106, 3) := by decide +kernel
theorem m_786 : Cond.code yX10_refuse cX10_refuse 1 (some .boolean) ∈ BW := List.mem_of_getElem? (i := 786) (by decide +kernel)
theorem m_783 : Cond.methodLink RX10 106 yX10_refuse ∈ BW := List.mem_of_getElem? (i := 783) (by decide +kernel)
theorem m_784 : Cond.instanceMethod yX10_refuse ∈ BW := List.mem_of_getElem? (i := 784) (by decide +kernel)
theorem m_785 : Cond.selects RX10 yX10_refuse yX10_refuse ∈ BW := List.mem_of_getElem? (i := 785) (by decide +kernel)
theorem si_X10_106 : SV RX10 RX10 106 yX10_refuse cX10_refuse 1 (some .boolean) 0 := ⟨⟨m_783, m_784, m_785, m_37, m_786⟩, rfl, by decide +kernel, by decide +kernel, by decide +kernel⟩
theorem dX10_takesName_12 : decode cX10_takesName 12 = .ok (.ireturn, 1) := by decide +kernel
theorem dX10_takesByte_0 : decode cX10_takesByte 0 = .ok (.aload_n 0, 1) := by decide +kernel
theorem dX10_takesByte_1 : decode cX10_takesByte 1 = .ok (.getfield 31, 3) := by decide +kernel
theorem dX10_takesByte_4 : decode cX10_takesByte 4 = .ok (.iload_n 1, 1) := by decide +kernel
theorem dX10_takesByte_5 : decode cX10_takesByte 5 = .ok (.if_icmp .eq 8, 3) := by decide +kernel
theorem dX10_takesByte_13 : decode cX10_takesByte 13 = .ok (.aload_n 0, 1) := by decide +kernel
theorem dX10_takesByte_14 : decode cX10_takesByte 14 = .ok (.invokevirtual 47, 3) := by decide +kernel
theorem dX10_takesByte_17 : decode cX10_takesByte 17 = .ok (.iconst 1, 1) := by decide +kernel
theorem dX10_takesByte_18 : decode cX10_takesByte 18 = .ok (.ireturn, 1) := by decide +kernel
theorem dX10_takesByte_8 : decode cX10_takesByte 8 = .ok (.aload_n 0, 1) := by decide +kernel
theorem dX10_takesByte_9 : decode cX10_takesByte 9 = .ok (.invokevirtual 106, 3) := by decide +kernel
theorem dX10_takesByte_12 : decode cX10_takesByte 12 = .ok (.ireturn, 1) := by decide +kernel
theorem dX10_numberHere_0 : decode cX10_numberHere 0 = .ok (.aload_n 0, 1) := by decide +kernel
theorem dX10_numberHere_1 : decode cX10_numberHere 1 = .ok (.getfield 31, 3) := by decide +kernel
theorem dX10_numberHere_4 : decode cX10_numberHere 4 = .ok (.bipush (-3), 2) := by decide +kernel
theorem dX10_numberHere_6 : decode cX10_numberHere 6 = .ok (.if_icmp .ne 16, 3) := by decide +kernel
theorem dX10_numberHere_22 : decode cX10_numberHere 22 = .ok (.iconst (-1), 1) := by decide +kernel
theorem dX10_numberHere_23 : decode cX10_numberHere 23 = .ok (.ireturn, 1) := by decide +kernel
theorem dX10_numberHere_9 : decode cX10_numberHere 9 = .ok (.aload_n 0, 1) := by decide +kernel
theorem dX10_numberHere_10 : decode cX10_numberHere 10 = .ok (.getfield 37, 3) := by decide +kernel
theorem dX10_numberHere_13 : decode cX10_numberHere 13 = .ok (.aload_n 0, 1) := by decide +kernel
theorem dX10_numberHere_14 : decode cX10_numberHere 14 = .ok (.getfield 34, 3) := by decide +kernel
theorem dX10_numberHere_17 : decode cX10_numberHere 17 = .ok (.isub, 1) := by decide +kernel
theorem dX10_numberHere_18 : decode cX10_numberHere 18 = .ok (.iconst 3, 1) := by decide +kernel
theorem dX10_numberHere_19 : decode cX10_numberHere 19 = .ok (.if_icmp .le 5, 3) := by decide +kernel
theorem dX10_numberHere_24 : decode cX10_numberHere 24 = .ok (.iconst 0, 1) := by decide +kernel
theorem dX10_numberHere_25 : decode cX10_numberHere 25 = .ok (.istore_n 1, 1) := by decide +kernel
theorem dX10_numberHere_26 : decode cX10_numberHere 26 = .ok (.aload_n 0, 1) := by decide +kernel
theorem dX10_numberHere_27 : decode cX10_numberHere 27 = .ok (.getfield 34, 3) := by decide +kernel
theorem dX10_numberHere_30 : decode cX10_numberHere 30 = .ok (.istore_n 2, 1) := by decide +kernel
theorem dX10_numberHere_31 : decode cX10_numberHere 31 = .ok (.iload_n 2, 1) := by decide +kernel
theorem dX10_numberHere_32 : decode cX10_numberHere 32 = .ok (.aload_n 0, 1) := by decide +kernel
theorem dX10_numberHere_33 : decode cX10_numberHere 33 = .ok (.getfield 37, 3) := by decide +kernel
theorem dX10_numberHere_36 : decode cX10_numberHere 36 = .ok (.if_icmp .ge 23, 3) := by decide +kernel
theorem dX10_numberHere_59 : decode cX10_numberHere 59 = .ok (.iload_n 1, 1) := by decide +kernel
theorem dX10_numberHere_60 : decode cX10_numberHere 60 = .ok (.ireturn, 1) := by decide +kernel
theorem dX10_numberHere_39 : decode cX10_numberHere 39 = .ok (.iload_n 1, 1) := by decide +kernel
theorem dX10_numberHere_40 : decode cX10_numberHere 40 = .ok (.bipush 10, 2) := by decide +kernel
theorem dX10_numberHere_42 : decode cX10_numberHere 42 = .ok (.imul, 1) := by decide +kernel
theorem dX10_numberHere_43 : decode cX10_numberHere 43 = .ok (.aload_n 0, 1) := by decide +kernel
theorem dX10_numberHere_44 : decode cX10_numberHere 44 = .ok (.iload_n 2, 1) := by decide +kernel
theorem dX10_numberHere_45 : decode cX10_numberHere 45 = .ok (.invokevirtual 78, 3) := by decide +kernel
theorem dX10_numberHere_48 : decode cX10_numberHere 48 = .ok (.iadd, 1) := by decide +kernel
theorem dX10_numberHere_49 : decode cX10_numberHere 49 = .ok (.bipush 48, 2) := by decide +kernel
theorem dX10_numberHere_51 : decode cX10_numberHere 51 = .ok (.isub, 1) := by decide +kernel
theorem dX10_numberHere_52 : decode cX10_numberHere 52 = .ok (.istore_n 1, 1) := by decide +kernel
theorem dX10_numberHere_53 : decode cX10_numberHere 53 = .ok (.iinc 2 1, 3) := by decide +kernel
theorem dX10_numberHere_56 : decode cX10_numberHere 56 = .ok (.goto (-25), 3) := by decide +kernel
theorem dX10_takesNumber_0 : decode cX10_takesNumber 0 = .ok (.aload_n 0, 1) := by decide +kernel
theorem dX10_takesNumber_1 : decode cX10_takesNumber 1 = .ok (.invokevirtual 109, 3) := by decide +kernel
theorem m_857 : Cond.code yX10_numberHere cX10_numberHere 3 (some .int) ∈ BW := List.mem_of_getElem? (i := 857) (by decide +kernel)
theorem m_854 : Cond.methodLink RX10 109 yX10_numberHere ∈ BW := List.mem_of_getElem? (i := 854) (by decide +kernel)
theorem m_855 : Cond.instanceMethod yX10_numberHere ∈ BW := List.mem_of_getElem? (i := 855) (by decide +kernel)
theorem m_856 : Cond.selects RX10 yX10_numberHere yX10_numberHere ∈ BW := List.mem_of_getElem? (i := 856) (by decide +kernel)
theorem si_X10_109 : SV RX10 RX10 109 yX10_numberHere cX10_numberHere 3 (some .int) 0 := ⟨⟨m_854, m_855, m_856, m_37, m_857⟩, rfl, by decide +kernel, by decide +kernel, by decide +kernel⟩
theorem dX10_takesNumber_4 : decode cX10_takesNumber 4 = .ok (.istore 4, 2) := by decide +kernel
theorem dX10_takesNumber_6 : decode cX10_takesNumber 6 = .ok (.iload 4, 2) := by decide +kernel
theorem dX10_takesNumber_8 : decode cX10_takesNumber 8 = .ok (.iconst 0, 1) := by decide +kernel
theorem dX10_takesNumber_9 : decode cX10_takesNumber 9 = .ok (.iload_n 3, 1) := by decide +kernel
theorem dX10_takesNumber_10 : decode cX10_takesNumber 10 = .ok (.invokestatic 89, 3) := by decide +kernel
theorem dX10_takesNumber_13 : decode cX10_takesNumber 13 = .ok (.ifCond .ne 8, 3) := by decide +kernel
theorem dX10_takesNumber_21 : decode cX10_takesNumber 21 = .ok (.aload_n 0, 1) := by decide +kernel
theorem dX10_takesNumber_22 : decode cX10_takesNumber 22 = .ok (.getfield 20, 3) := by decide +kernel
theorem m_141 : Cond.fieldLink RX10 20 "InquiryBench$Tape" "lines" "LInquiryBench$Table;" ∈ BW := List.mem_of_getElem? (i := 141) (by decide +kernel)
theorem gf_X10_20 (hC : CX p s m meth c y0 b0 mL0 rt0 args) (hy0 : y0.cls = RX10) (hK : KK G s) (hP : va_P G.1 vwCl ws H) (q0 : Nat) {fs : List Value} {v : Value} (he : ws[q0]? = some (a, .inr (10, fs))) (hv : fs[2]? = some v) (hdg : decode b0 pc = .ok (.getfield 20, 3)) (kk : W p l e R s m args below meth c H locs cells slots Q (F0 m (pc + 3) ls (v :: rest))) : W p l e R s m args below meth c H locs cells slots Q (F0 m pc ls (.ref a :: rest)) := by
  obtain ⟨hx, hb, hr, hml, hB, hown, hlocks, hnm⟩ := hC
  rw [hy0] at hown
  exact va_get (ci := 10) (C := RX10) (T := TX10) (N := 8) hx hb hB in_X10 hown hK.1 hP q0 he rfl 2 (by decide) (hB _ m_141) (fun _ h => h) hv hdg kk
theorem dX10_takesNumber_25 : decode cX10_takesNumber 25 = .ok (.iload_n 1, 1) := by decide +kernel
theorem dX10_takesNumber_26 : decode cX10_takesNumber 26 = .ok (.iload_n 2, 1) := by decide +kernel
theorem dX10_takesNumber_27 : decode cX10_takesNumber 27 = .ok (.iload 4, 2) := by decide +kernel
theorem dX10_takesNumber_29 : decode cX10_takesNumber 29 = .ok (.invokevirtual 66, 3) := by decide +kernel
theorem m_787 : Cond.methodLink RX10 66 yX8_set ∈ BW := List.mem_of_getElem? (i := 787) (by decide +kernel)
theorem si_X10_66 : SV RX10 RX8 66 yX8_set cX8_set 4 none 3 := ⟨⟨m_787, m_289, m_290, m_56, m_291⟩, rfl, by decide +kernel, by decide +kernel, by decide +kernel⟩
theorem dX10_takesNumber_32 : decode cX10_takesNumber 32 = .ok (.aload_n 0, 1) := by decide +kernel
theorem dX10_takesNumber_33 : decode cX10_takesNumber 33 = .ok (.invokevirtual 47, 3) := by decide +kernel
theorem dX10_takesNumber_36 : decode cX10_takesNumber 36 = .ok (.iconst 1, 1) := by decide +kernel
theorem dX10_takesNumber_37 : decode cX10_takesNumber 37 = .ok (.ireturn, 1) := by decide +kernel
theorem dX10_takesNumber_16 : decode cX10_takesNumber 16 = .ok (.aload_n 0, 1) := by decide +kernel
theorem dX10_takesNumber_17 : decode cX10_takesNumber 17 = .ok (.invokevirtual 106, 3) := by decide +kernel
theorem dX10_takesNumber_20 : decode cX10_takesNumber 20 = .ok (.ireturn, 1) := by decide +kernel
theorem dX10_addStep_0 : decode cX10_addStep 0 = .ok (.aload_n 0, 1) := by decide +kernel
theorem dX10_addStep_1 : decode cX10_addStep 1 = .ok (.getfield 24, 3) := by decide +kernel
theorem m_142 : Cond.fieldLink RX10 24 "InquiryBench$Tape" "steps" "LInquiryBench$Table;" ∈ BW := List.mem_of_getElem? (i := 142) (by decide +kernel)
theorem gf_X10_24 (hC : CX p s m meth c y0 b0 mL0 rt0 args) (hy0 : y0.cls = RX10) (hK : KK G s) (hP : va_P G.1 vwCl ws H) (q0 : Nat) {fs : List Value} {v : Value} (he : ws[q0]? = some (a, .inr (10, fs))) (hv : fs[3]? = some v) (hdg : decode b0 pc = .ok (.getfield 24, 3)) (kk : W p l e R s m args below meth c H locs cells slots Q (F0 m (pc + 3) ls (v :: rest))) : W p l e R s m args below meth c H locs cells slots Q (F0 m pc ls (.ref a :: rest)) := by
  obtain ⟨hx, hb, hr, hml, hB, hown, hlocks, hnm⟩ := hC
  rw [hy0] at hown
  exact va_get (ci := 10) (C := RX10) (T := TX10) (N := 8) hx hb hB in_X10 hown hK.1 hP q0 he rfl 3 (by decide) (hB _ m_142) (fun _ h => h) hv hdg kk
theorem dX10_addStep_4 : decode cX10_addStep 4 = .ok (.aload_n 0, 1) := by decide +kernel
theorem dX10_addStep_5 : decode cX10_addStep 5 = .ok (.getfield 24, 3) := by decide +kernel
theorem dX10_addStep_8 : decode cX10_addStep 8 = .ok (.invokevirtual 59, 3) := by decide +kernel
theorem m_782 : Cond.methodLink RX10 59 yX8_append ∈ BW := List.mem_of_getElem? (i := 782) (by decide +kernel)
theorem si_X10_59 : SV RX10 RX8 59 yX8_append cX8_append 1 (some .int) 0 := ⟨⟨m_782, m_285, m_286, m_56, m_287⟩, rfl, by decide +kernel, by decide +kernel, by decide +kernel⟩
theorem dX10_addStep_11 : decode cX10_addStep 11 = .ok (.iconst 0, 1) := by decide +kernel
theorem dX10_addStep_12 : decode cX10_addStep 12 = .ok (.iload_n 1, 1) := by decide +kernel
theorem dX10_addStep_13 : decode cX10_addStep 13 = .ok (.invokevirtual 66, 3) := by decide +kernel
theorem dX10_addStep_16 : decode cX10_addStep 16 = .ok (.return_, 1) := by decide +kernel
theorem dX10_factHere_0 : decode cX10_factHere 0 = .ok (.aload_n 0, 1) := by decide +kernel
theorem dX10_factHere_1 : decode cX10_factHere 1 = .ok (.ldc 171, 2) := by decide +kernel
theorem dX10_factHere_3 : decode cX10_factHere 3 = .ok (.invokevirtual 102, 3) := by decide +kernel
theorem dX10_factHere_6 : decode cX10_factHere 6 = .ok (.ifCond .eq 5, 3) := by decide +kernel
theorem dX10_factHere_9 : decode cX10_factHere 9 = .ok (.iconst 0, 1) := by decide +kernel
theorem dX10_factHere_10 : decode cX10_factHere 10 = .ok (.ireturn, 1) := by decide +kernel
theorem dX10_factHere_11 : decode cX10_factHere 11 = .ok (.aload_n 0, 1) := by decide +kernel
theorem dX10_factHere_12 : decode cX10_factHere 12 = .ok (.ldc 173, 2) := by decide +kernel
theorem dX10_factHere_14 : decode cX10_factHere 14 = .ok (.invokevirtual 102, 3) := by decide +kernel
theorem dX10_factHere_17 : decode cX10_factHere 17 = .ok (.ifCond .eq 5, 3) := by decide +kernel
theorem dX10_factHere_20 : decode cX10_factHere 20 = .ok (.iconst 1, 1) := by decide +kernel
theorem dX10_factHere_21 : decode cX10_factHere 21 = .ok (.ireturn, 1) := by decide +kernel
theorem dX10_factHere_22 : decode cX10_factHere 22 = .ok (.aload_n 0, 1) := by decide +kernel
theorem dX10_factHere_23 : decode cX10_factHere 23 = .ok (.ldc 175, 2) := by decide +kernel
theorem dX10_factHere_25 : decode cX10_factHere 25 = .ok (.invokevirtual 102, 3) := by decide +kernel
theorem dX10_factHere_28 : decode cX10_factHere 28 = .ok (.ifCond .eq 5, 3) := by decide +kernel
theorem dX10_factHere_31 : decode cX10_factHere 31 = .ok (.iconst 2, 1) := by decide +kernel
theorem dX10_factHere_32 : decode cX10_factHere 32 = .ok (.ireturn, 1) := by decide +kernel
theorem dX10_factHere_33 : decode cX10_factHere 33 = .ok (.aload_n 0, 1) := by decide +kernel
theorem dX10_factHere_34 : decode cX10_factHere 34 = .ok (.ldc 177, 2) := by decide +kernel
theorem dX10_factHere_36 : decode cX10_factHere 36 = .ok (.invokevirtual 102, 3) := by decide +kernel
theorem dX10_factHere_39 : decode cX10_factHere 39 = .ok (.ifCond .eq 5, 3) := by decide +kernel
theorem dX10_factHere_42 : decode cX10_factHere 42 = .ok (.iconst 3, 1) := by decide +kernel
theorem dX10_factHere_43 : decode cX10_factHere 43 = .ok (.ireturn, 1) := by decide +kernel
theorem dX10_factHere_44 : decode cX10_factHere 44 = .ok (.aload_n 0, 1) := by decide +kernel
theorem dX10_factHere_45 : decode cX10_factHere 45 = .ok (.ldc 179, 2) := by decide +kernel
theorem dX10_factHere_47 : decode cX10_factHere 47 = .ok (.invokevirtual 102, 3) := by decide +kernel
theorem dX10_factHere_50 : decode cX10_factHere 50 = .ok (.ifCond .eq 7, 3) := by decide +kernel
theorem dX10_factHere_53 : decode cX10_factHere 53 = .ok (.iconst 4, 1) := by decide +kernel
theorem dX10_factHere_54 : decode cX10_factHere 54 = .ok (.goto 4, 3) := by decide +kernel
theorem dX10_factHere_58 : decode cX10_factHere 58 = .ok (.ireturn, 1) := by decide +kernel
theorem dX10_factHere_57 : decode cX10_factHere 57 = .ok (.iconst (-1), 1) := by decide +kernel
theorem dX10_signHere_0 : decode cX10_signHere 0 = .ok (.aload_n 0, 1) := by decide +kernel
theorem dX10_signHere_1 : decode cX10_signHere 1 = .ok (.getfield 31, 3) := by decide +kernel
theorem dX10_signHere_4 : decode cX10_signHere 4 = .ok (.bipush 60, 2) := by decide +kernel
theorem dX10_signHere_6 : decode cX10_signHere 6 = .ok (.if_icmp .ne 5, 3) := by decide +kernel
theorem dX10_signHere_11 : decode cX10_signHere 11 = .ok (.aload_n 0, 1) := by decide +kernel
theorem dX10_signHere_12 : decode cX10_signHere 12 = .ok (.getfield 31, 3) := by decide +kernel
theorem dX10_signHere_15 : decode cX10_signHere 15 = .ok (.bipush 61, 2) := by decide +kernel
theorem dX10_signHere_17 : decode cX10_signHere 17 = .ok (.if_icmp .ne 5, 3) := by decide +kernel
theorem dX10_signHere_22 : decode cX10_signHere 22 = .ok (.aload_n 0, 1) := by decide +kernel
theorem dX10_signHere_23 : decode cX10_signHere 23 = .ok (.getfield 31, 3) := by decide +kernel
theorem dX10_signHere_26 : decode cX10_signHere 26 = .ok (.bipush 62, 2) := by decide +kernel
theorem dX10_signHere_28 : decode cX10_signHere 28 = .ok (.if_icmp .ne 7, 3) := by decide +kernel
theorem dX10_signHere_35 : decode cX10_signHere 35 = .ok (.iconst (-1), 1) := by decide +kernel
theorem dX10_signHere_36 : decode cX10_signHere 36 = .ok (.ireturn, 1) := by decide +kernel
theorem dX10_signHere_31 : decode cX10_signHere 31 = .ok (.iconst 2, 1) := by decide +kernel
theorem dX10_signHere_32 : decode cX10_signHere 32 = .ok (.goto 4, 3) := by decide +kernel
theorem dX10_signHere_20 : decode cX10_signHere 20 = .ok (.iconst 1, 1) := by decide +kernel
theorem dX10_signHere_21 : decode cX10_signHere 21 = .ok (.ireturn, 1) := by decide +kernel
theorem dX10_signHere_9 : decode cX10_signHere 9 = .ok (.iconst 0, 1) := by decide +kernel
theorem dX10_signHere_10 : decode cX10_signHere 10 = .ok (.ireturn, 1) := by decide +kernel
theorem dX10_sortHere_0 : decode cX10_sortHere 0 = .ok (.aload_n 0, 1) := by decide +kernel
theorem dX10_sortHere_1 : decode cX10_sortHere 1 = .ok (.ldc 127, 2) := by decide +kernel
theorem dX10_sortHere_3 : decode cX10_sortHere 3 = .ok (.invokevirtual 102, 3) := by decide +kernel
theorem dX10_sortHere_6 : decode cX10_sortHere 6 = .ok (.ifCond .eq 5, 3) := by decide +kernel
theorem dX10_sortHere_9 : decode cX10_sortHere 9 = .ok (.iconst 0, 1) := by decide +kernel
theorem dX10_sortHere_10 : decode cX10_sortHere 10 = .ok (.ireturn, 1) := by decide +kernel
theorem dX10_sortHere_11 : decode cX10_sortHere 11 = .ok (.aload_n 0, 1) := by decide +kernel
theorem dX10_sortHere_12 : decode cX10_sortHere 12 = .ok (.ldc 129, 2) := by decide +kernel
theorem dX10_sortHere_14 : decode cX10_sortHere 14 = .ok (.invokevirtual 102, 3) := by decide +kernel
theorem dX10_sortHere_17 : decode cX10_sortHere 17 = .ok (.ifCond .eq 5, 3) := by decide +kernel
theorem dX10_sortHere_20 : decode cX10_sortHere 20 = .ok (.iconst 1, 1) := by decide +kernel
theorem dX10_sortHere_21 : decode cX10_sortHere 21 = .ok (.ireturn, 1) := by decide +kernel
theorem dX10_sortHere_22 : decode cX10_sortHere 22 = .ok (.aload_n 0, 1) := by decide +kernel
theorem dX10_sortHere_23 : decode cX10_sortHere 23 = .ok (.ldc 131, 2) := by decide +kernel
theorem dX10_sortHere_25 : decode cX10_sortHere 25 = .ok (.invokevirtual 102, 3) := by decide +kernel
theorem dX10_sortHere_28 : decode cX10_sortHere 28 = .ok (.ifCond .eq 5, 3) := by decide +kernel
theorem dX10_sortHere_31 : decode cX10_sortHere 31 = .ok (.iconst 2, 1) := by decide +kernel
theorem dX10_sortHere_32 : decode cX10_sortHere 32 = .ok (.ireturn, 1) := by decide +kernel
theorem dX10_sortHere_33 : decode cX10_sortHere 33 = .ok (.aload_n 0, 1) := by decide +kernel
theorem dX10_sortHere_34 : decode cX10_sortHere 34 = .ok (.ldc 133, 2) := by decide +kernel
theorem dX10_sortHere_36 : decode cX10_sortHere 36 = .ok (.invokevirtual 102, 3) := by decide +kernel
theorem dX10_sortHere_39 : decode cX10_sortHere 39 = .ok (.ifCond .eq 7, 3) := by decide +kernel
theorem dX10_sortHere_42 : decode cX10_sortHere 42 = .ok (.iconst 3, 1) := by decide +kernel
theorem dX10_sortHere_43 : decode cX10_sortHere 43 = .ok (.goto 4, 3) := by decide +kernel
theorem dX10_sortHere_47 : decode cX10_sortHere 47 = .ok (.ireturn, 1) := by decide +kernel
theorem dX10_sortHere_46 : decode cX10_sortHere 46 = .ok (.iconst (-1), 1) := by decide +kernel
theorem dX10_takesComparison_0 : decode cX10_takesComparison 0 = .ok (.aload_n 0, 1) := by decide +kernel
theorem dX10_takesComparison_1 : decode cX10_takesComparison 1 = .ok (.invokevirtual 165, 3) := by decide +kernel
theorem m_885 : Cond.code yX10_factHere cX10_factHere 1 (some .int) ∈ BW := List.mem_of_getElem? (i := 885) (by decide +kernel)
theorem m_882 : Cond.methodLink RX10 165 yX10_factHere ∈ BW := List.mem_of_getElem? (i := 882) (by decide +kernel)
theorem m_883 : Cond.instanceMethod yX10_factHere ∈ BW := List.mem_of_getElem? (i := 883) (by decide +kernel)
theorem m_884 : Cond.selects RX10 yX10_factHere yX10_factHere ∈ BW := List.mem_of_getElem? (i := 884) (by decide +kernel)
theorem si_X10_165 : SV RX10 RX10 165 yX10_factHere cX10_factHere 1 (some .int) 0 := ⟨⟨m_882, m_883, m_884, m_37, m_885⟩, rfl, by decide +kernel, by decide +kernel, by decide +kernel⟩
theorem dX10_takesComparison_4 : decode cX10_takesComparison 4 = .ok (.istore_n 1, 1) := by decide +kernel
theorem dX10_takesComparison_5 : decode cX10_takesComparison 5 = .ok (.iload_n 1, 1) := by decide +kernel
theorem dX10_takesComparison_6 : decode cX10_takesComparison 6 = .ok (.ifCond .ge 8, 3) := by decide +kernel
theorem dX10_takesComparison_14 : decode cX10_takesComparison 14 = .ok (.aload_n 0, 1) := by decide +kernel
theorem dX10_takesComparison_15 : decode cX10_takesComparison 15 = .ok (.invokevirtual 47, 3) := by decide +kernel
theorem dX10_takesComparison_18 : decode cX10_takesComparison 18 = .ok (.aload_n 0, 1) := by decide +kernel
theorem dX10_takesComparison_19 : decode cX10_takesComparison 19 = .ok (.invokevirtual 168, 3) := by decide +kernel
theorem m_889 : Cond.code yX10_signHere cX10_signHere 1 (some .int) ∈ BW := List.mem_of_getElem? (i := 889) (by decide +kernel)
theorem m_886 : Cond.methodLink RX10 168 yX10_signHere ∈ BW := List.mem_of_getElem? (i := 886) (by decide +kernel)
theorem m_887 : Cond.instanceMethod yX10_signHere ∈ BW := List.mem_of_getElem? (i := 887) (by decide +kernel)
theorem m_888 : Cond.selects RX10 yX10_signHere yX10_signHere ∈ BW := List.mem_of_getElem? (i := 888) (by decide +kernel)
theorem si_X10_168 : SV RX10 RX10 168 yX10_signHere cX10_signHere 1 (some .int) 0 := ⟨⟨m_886, m_887, m_888, m_37, m_889⟩, rfl, by decide +kernel, by decide +kernel, by decide +kernel⟩
theorem dX10_takesComparison_22 : decode cX10_takesComparison 22 = .ok (.istore_n 2, 1) := by decide +kernel
theorem dX10_takesComparison_23 : decode cX10_takesComparison 23 = .ok (.iload_n 2, 1) := by decide +kernel
theorem dX10_takesComparison_24 : decode cX10_takesComparison 24 = .ok (.ifCond .ge 8, 3) := by decide +kernel
theorem dX10_takesComparison_32 : decode cX10_takesComparison 32 = .ok (.aload_n 0, 1) := by decide +kernel
theorem dX10_takesComparison_33 : decode cX10_takesComparison 33 = .ok (.invokevirtual 47, 3) := by decide +kernel
theorem dX10_takesComparison_36 : decode cX10_takesComparison 36 = .ok (.aload_n 0, 1) := by decide +kernel
theorem dX10_takesComparison_37 : decode cX10_takesComparison 37 = .ok (.invokevirtual 109, 3) := by decide +kernel
theorem dX10_takesComparison_40 : decode cX10_takesComparison 40 = .ok (.istore_n 3, 1) := by decide +kernel
theorem dX10_takesComparison_41 : decode cX10_takesComparison 41 = .ok (.iload_n 3, 1) := by decide +kernel
theorem dX10_takesComparison_42 : decode cX10_takesComparison 42 = .ok (.ifCond .ge 8, 3) := by decide +kernel
theorem dX10_takesComparison_50 : decode cX10_takesComparison 50 = .ok (.aload_n 0, 1) := by decide +kernel
theorem dX10_takesComparison_51 : decode cX10_takesComparison 51 = .ok (.invokevirtual 47, 3) := by decide +kernel
theorem dX10_takesComparison_54 : decode cX10_takesComparison 54 = .ok (.aload_n 0, 1) := by decide +kernel
theorem dX10_takesComparison_55 : decode cX10_takesComparison 55 = .ok (.iload_n 1, 1) := by decide +kernel
theorem dX10_takesComparison_56 : decode cX10_takesComparison 56 = .ok (.iconst 3, 1) := by decide +kernel
theorem dX10_takesComparison_57 : decode cX10_takesComparison 57 = .ok (.imul, 1) := by decide +kernel
theorem dX10_takesComparison_58 : decode cX10_takesComparison 58 = .ok (.iload_n 2, 1) := by decide +kernel
theorem dX10_takesComparison_59 : decode cX10_takesComparison 59 = .ok (.iadd, 1) := by decide +kernel
theorem dX10_takesComparison_60 : decode cX10_takesComparison 60 = .ok (.sipush 1000, 3) := by decide +kernel
theorem dX10_takesComparison_63 : decode cX10_takesComparison 63 = .ok (.imul, 1) := by decide +kernel
theorem dX10_takesComparison_64 : decode cX10_takesComparison 64 = .ok (.iload_n 3, 1) := by decide +kernel
theorem dX10_takesComparison_65 : decode cX10_takesComparison 65 = .ok (.iadd, 1) := by decide +kernel
theorem dX10_takesComparison_66 : decode cX10_takesComparison 66 = .ok (.invokevirtual 152, 3) := by decide +kernel
theorem m_872 : Cond.code yX10_addStep cX10_addStep 2 none ∈ BW := List.mem_of_getElem? (i := 872) (by decide +kernel)
theorem m_869 : Cond.methodLink RX10 152 yX10_addStep ∈ BW := List.mem_of_getElem? (i := 869) (by decide +kernel)
theorem m_870 : Cond.instanceMethod yX10_addStep ∈ BW := List.mem_of_getElem? (i := 870) (by decide +kernel)
theorem m_871 : Cond.selects RX10 yX10_addStep yX10_addStep ∈ BW := List.mem_of_getElem? (i := 871) (by decide +kernel)
theorem si_X10_152 : SV RX10 RX10 152 yX10_addStep cX10_addStep 2 none 1 := ⟨⟨m_869, m_870, m_871, m_37, m_872⟩, rfl, by decide +kernel, by decide +kernel, by decide +kernel⟩
theorem dX10_takesComparison_69 : decode cX10_takesComparison 69 = .ok (.iconst 1, 1) := by decide +kernel
theorem dX10_takesComparison_70 : decode cX10_takesComparison 70 = .ok (.ireturn, 1) := by decide +kernel
theorem dX10_takesComparison_45 : decode cX10_takesComparison 45 = .ok (.aload_n 0, 1) := by decide +kernel
theorem dX10_takesComparison_46 : decode cX10_takesComparison 46 = .ok (.invokevirtual 106, 3) := by decide +kernel
theorem dX10_takesComparison_49 : decode cX10_takesComparison 49 = .ok (.ireturn, 1) := by decide +kernel
theorem dX10_takesComparison_27 : decode cX10_takesComparison 27 = .ok (.aload_n 0, 1) := by decide +kernel
theorem dX10_takesComparison_28 : decode cX10_takesComparison 28 = .ok (.invokevirtual 106, 3) := by decide +kernel
theorem dX10_takesComparison_31 : decode cX10_takesComparison 31 = .ok (.ireturn, 1) := by decide +kernel
theorem dX10_takesComparison_9 : decode cX10_takesComparison 9 = .ok (.aload_n 0, 1) := by decide +kernel
theorem dX10_takesComparison_10 : decode cX10_takesComparison 10 = .ok (.invokevirtual 106, 3) := by decide +kernel
theorem dX10_takesComparison_13 : decode cX10_takesComparison 13 = .ok (.ireturn, 1) := by decide +kernel
theorem dX10_takesOne_0 : decode cX10_takesOne 0 = .ok (.iconst 0, 1) := by decide +kernel
theorem dX10_takesOne_1 : decode cX10_takesOne 1 = .ok (.istore_n 2, 1) := by decide +kernel
theorem dX10_takesOne_2 : decode cX10_takesOne 2 = .ok (.iconst 0, 1) := by decide +kernel
theorem dX10_takesOne_3 : decode cX10_takesOne 3 = .ok (.istore_n 3, 1) := by decide +kernel
theorem dX10_takesOne_4 : decode cX10_takesOne 4 = .ok (.iload_n 3, 1) := by decide +kernel
theorem dX10_takesOne_5 : decode cX10_takesOne 5 = .ok (.sipush 240, 3) := by decide +kernel
theorem dX10_takesOne_8 : decode cX10_takesOne 8 = .ok (.if_icmp .ge 32, 3) := by decide +kernel
theorem dX10_takesOne_40 : decode cX10_takesOne 40 = .ok (.aload_n 0, 1) := by decide +kernel
theorem dX10_takesOne_41 : decode cX10_takesOne 41 = .ok (.getfield 31, 3) := by decide +kernel
theorem dX10_takesOne_44 : decode cX10_takesOne 44 = .ok (.bipush 40, 2) := by decide +kernel
theorem dX10_takesOne_46 : decode cX10_takesOne 46 = .ok (.if_icmp .eq 12, 3) := by decide +kernel
theorem dX10_takesOne_58 : decode cX10_takesOne 58 = .ok (.iload_n 1, 1) := by decide +kernel
theorem dX10_takesOne_59 : decode cX10_takesOne 59 = .ok (.iconst 4, 1) := by decide +kernel
theorem dX10_takesOne_60 : decode cX10_takesOne 60 = .ok (.if_icmp .lt 8, 3) := by decide +kernel
theorem dX10_takesOne_63 : decode cX10_takesOne 63 = .ok (.aload_n 0, 1) := by decide +kernel
theorem dX10_takesOne_64 : decode cX10_takesOne 64 = .ok (.invokevirtual 106, 3) := by decide +kernel
theorem dX10_takesOne_67 : decode cX10_takesOne 67 = .ok (.ireturn, 1) := by decide +kernel
theorem dX10_takesOne_49 : decode cX10_takesOne 49 = .ok (.aload_n 0, 1) := by decide +kernel
theorem dX10_takesOne_50 : decode cX10_takesOne 50 = .ok (.invokevirtual 162, 3) := by decide +kernel
theorem m_881 : Cond.code yX10_takesComparison cX10_takesComparison 4 (some .boolean) ∈ BW := List.mem_of_getElem? (i := 881) (by decide +kernel)
theorem m_878 : Cond.methodLink RX10 162 yX10_takesComparison ∈ BW := List.mem_of_getElem? (i := 878) (by decide +kernel)
theorem m_879 : Cond.instanceMethod yX10_takesComparison ∈ BW := List.mem_of_getElem? (i := 879) (by decide +kernel)
theorem m_880 : Cond.selects RX10 yX10_takesComparison yX10_takesComparison ∈ BW := List.mem_of_getElem? (i := 880) (by decide +kernel)
theorem si_X10_162 : SV RX10 RX10 162 yX10_takesComparison cX10_takesComparison 4 (some .boolean) 0 := ⟨⟨m_878, m_879, m_880, m_37, m_881⟩, rfl, by decide +kernel, by decide +kernel, by decide +kernel⟩
theorem dX10_takesOne_53 : decode cX10_takesOne 53 = .ok (.ifCond .ne 40, 3) := by decide +kernel
theorem dX10_takesOne_93 : decode cX10_takesOne 93 = .ok (.iload_n 2, 1) := by decide +kernel
theorem dX10_takesOne_94 : decode cX10_takesOne 94 = .ok (.ifCond .eq 8, 3) := by decide +kernel
theorem dX10_takesOne_102 : decode cX10_takesOne 102 = .ok (.iconst 1, 1) := by decide +kernel
theorem dX10_takesOne_103 : decode cX10_takesOne 103 = .ok (.ireturn, 1) := by decide +kernel
theorem dX10_takesOne_97 : decode cX10_takesOne 97 = .ok (.aload_n 0, 1) := by decide +kernel
theorem dX10_takesOne_98 : decode cX10_takesOne 98 = .ok (.iconst (-1), 1) := by decide +kernel
theorem dX10_takesOne_99 : decode cX10_takesOne 99 = .ok (.invokevirtual 152, 3) := by decide +kernel
theorem dX10_takesOne_56 : decode cX10_takesOne 56 = .ok (.iconst 0, 1) := by decide +kernel
theorem dX10_takesOne_57 : decode cX10_takesOne 57 = .ok (.ireturn, 1) := by decide +kernel
theorem dX10_takesOne_11 : decode cX10_takesOne 11 = .ok (.aload_n 0, 1) := by decide +kernel
theorem dX10_takesOne_12 : decode cX10_takesOne 12 = .ok (.ldc 160, 2) := by decide +kernel
theorem dX10_takesOne_14 : decode cX10_takesOne 14 = .ok (.invokevirtual 102, 3) := by decide +kernel
theorem dX10_takesOne_17 : decode cX10_takesOne 17 = .ok (.ifCond .eq 23, 3) := by decide +kernel
theorem dX10_takesOne_20 : decode cX10_takesOne 20 = .ok (.aload_n 0, 1) := by decide +kernel
theorem dX10_takesOne_21 : decode cX10_takesOne 21 = .ok (.invokevirtual 47, 3) := by decide +kernel
theorem dX10_takesOne_24 : decode cX10_takesOne 24 = .ok (.iload_n 2, 1) := by decide +kernel
theorem dX10_takesOne_25 : decode cX10_takesOne 25 = .ok (.ifCond .ne 7, 3) := by decide +kernel
theorem dX10_takesOne_32 : decode cX10_takesOne 32 = .ok (.iconst 0, 1) := by decide +kernel
theorem dX10_takesOne_33 : decode cX10_takesOne 33 = .ok (.istore_n 2, 1) := by decide +kernel
theorem dX10_takesOne_34 : decode cX10_takesOne 34 = .ok (.iinc 3 1, 3) := by decide +kernel
theorem dX10_takesOne_37 : decode cX10_takesOne 37 = .ok (.goto (-33), 3) := by decide +kernel
theorem dX10_takesOne_28 : decode cX10_takesOne 28 = .ok (.iconst 1, 1) := by decide +kernel
theorem dX10_takesOne_29 : decode cX10_takesOne 29 = .ok (.goto 4, 3) := by decide +kernel
theorem dX10_takesAll_0 : decode cX10_takesAll 0 = .ok (.aload_n 0, 1) := by decide +kernel
theorem dX10_takesAll_1 : decode cX10_takesAll 1 = .ok (.iload_n 1, 1) := by decide +kernel
theorem dX10_takesAll_2 : decode cX10_takesAll 2 = .ok (.invokevirtual 155, 3) := by decide +kernel
theorem m_877 : Cond.code yX10_takesOne cX10_takesOne 4 (some .boolean) ∈ BW := List.mem_of_getElem? (i := 877) (by decide +kernel)
theorem m_874 : Cond.methodLink RX10 155 yX10_takesOne ∈ BW := List.mem_of_getElem? (i := 874) (by decide +kernel)
theorem m_875 : Cond.instanceMethod yX10_takesOne ∈ BW := List.mem_of_getElem? (i := 875) (by decide +kernel)
theorem m_876 : Cond.selects RX10 yX10_takesOne yX10_takesOne ∈ BW := List.mem_of_getElem? (i := 876) (by decide +kernel)
theorem si_X10_155 : SV RX10 RX10 155 yX10_takesOne cX10_takesOne 4 (some .boolean) 1 := ⟨⟨m_874, m_875, m_876, m_37, m_877⟩, rfl, by decide +kernel, by decide +kernel, by decide +kernel⟩
theorem dX10_takesAll_5 : decode cX10_takesAll 5 = .ok (.ifCond .ne 5, 3) := by decide +kernel
theorem dX10_takesAll_10 : decode cX10_takesAll 10 = .ok (.iconst 0, 1) := by decide +kernel
theorem dX10_takesAll_11 : decode cX10_takesAll 11 = .ok (.istore_n 2, 1) := by decide +kernel
theorem dX10_takesAll_12 : decode cX10_takesAll 12 = .ok (.iload_n 2, 1) := by decide +kernel
theorem dX10_takesAll_13 : decode cX10_takesAll 13 = .ok (.sipush 240, 3) := by decide +kernel
theorem dX10_takesAll_16 : decode cX10_takesAll 16 = .ok (.if_icmp .ge 38, 3) := by decide +kernel
theorem dX10_takesAll_54 : decode cX10_takesAll 54 = .ok (.iconst 1, 1) := by decide +kernel
theorem dX10_takesAll_55 : decode cX10_takesAll 55 = .ok (.ireturn, 1) := by decide +kernel
theorem dX10_takesAll_19 : decode cX10_takesAll 19 = .ok (.aload_n 0, 1) := by decide +kernel
theorem dX10_takesAll_20 : decode cX10_takesAll 20 = .ok (.ldc 158, 2) := by decide +kernel
theorem dX10_takesAll_22 : decode cX10_takesAll 22 = .ok (.invokevirtual 102, 3) := by decide +kernel
theorem dX10_takesAll_25 : decode cX10_takesAll 25 = .ok (.ifCond .eq 29, 3) := by decide +kernel
theorem dX10_takesAll_28 : decode cX10_takesAll 28 = .ok (.aload_n 0, 1) := by decide +kernel
theorem dX10_takesAll_29 : decode cX10_takesAll 29 = .ok (.invokevirtual 47, 3) := by decide +kernel
theorem dX10_takesAll_32 : decode cX10_takesAll 32 = .ok (.aload_n 0, 1) := by decide +kernel
theorem dX10_takesAll_33 : decode cX10_takesAll 33 = .ok (.iload_n 1, 1) := by decide +kernel
theorem dX10_takesAll_34 : decode cX10_takesAll 34 = .ok (.invokevirtual 155, 3) := by decide +kernel
theorem dX10_takesAll_37 : decode cX10_takesAll 37 = .ok (.ifCond .ne 5, 3) := by decide +kernel
theorem dX10_takesAll_42 : decode cX10_takesAll 42 = .ok (.aload_n 0, 1) := by decide +kernel
theorem dX10_takesAll_43 : decode cX10_takesAll 43 = .ok (.bipush (-2), 2) := by decide +kernel
theorem dX10_takesAll_45 : decode cX10_takesAll 45 = .ok (.invokevirtual 152, 3) := by decide +kernel
theorem dX10_takesAll_48 : decode cX10_takesAll 48 = .ok (.iinc 2 1, 3) := by decide +kernel
theorem dX10_takesAll_51 : decode cX10_takesAll 51 = .ok (.goto (-39), 3) := by decide +kernel
theorem dX10_takesAll_40 : decode cX10_takesAll 40 = .ok (.iconst 0, 1) := by decide +kernel
theorem dX10_takesAll_41 : decode cX10_takesAll 41 = .ok (.ireturn, 1) := by decide +kernel
theorem dX10_takesAll_8 : decode cX10_takesAll 8 = .ok (.iconst 0, 1) := by decide +kernel
theorem dX10_takesAll_9 : decode cX10_takesAll 9 = .ok (.ireturn, 1) := by decide +kernel
theorem dX10_takesCond_0 : decode cX10_takesCond 0 = .ok (.aload_n 0, 1) := by decide +kernel
theorem dX10_takesCond_1 : decode cX10_takesCond 1 = .ok (.iload_n 1, 1) := by decide +kernel
theorem dX10_takesCond_2 : decode cX10_takesCond 2 = .ok (.invokevirtual 147, 3) := by decide +kernel
theorem m_873 : Cond.code yX10_takesAll cX10_takesAll 3 (some .boolean) ∈ BW := List.mem_of_getElem? (i := 873) (by decide +kernel)
theorem m_866 : Cond.methodLink RX10 147 yX10_takesAll ∈ BW := List.mem_of_getElem? (i := 866) (by decide +kernel)
theorem m_867 : Cond.instanceMethod yX10_takesAll ∈ BW := List.mem_of_getElem? (i := 867) (by decide +kernel)
theorem m_868 : Cond.selects RX10 yX10_takesAll yX10_takesAll ∈ BW := List.mem_of_getElem? (i := 868) (by decide +kernel)
theorem si_X10_147 : SV RX10 RX10 147 yX10_takesAll cX10_takesAll 3 (some .boolean) 1 := ⟨⟨m_866, m_867, m_868, m_37, m_873⟩, rfl, by decide +kernel, by decide +kernel, by decide +kernel⟩
theorem dX10_takesCond_5 : decode cX10_takesCond 5 = .ok (.ifCond .ne 5, 3) := by decide +kernel
theorem dX10_takesCond_10 : decode cX10_takesCond 10 = .ok (.iconst 0, 1) := by decide +kernel
theorem dX10_takesCond_11 : decode cX10_takesCond 11 = .ok (.istore_n 2, 1) := by decide +kernel
theorem dX10_takesCond_12 : decode cX10_takesCond 12 = .ok (.iload_n 2, 1) := by decide +kernel
theorem dX10_takesCond_13 : decode cX10_takesCond 13 = .ok (.sipush 240, 3) := by decide +kernel
theorem dX10_takesCond_16 : decode cX10_takesCond 16 = .ok (.if_icmp .ge 38, 3) := by decide +kernel
theorem dX10_takesCond_54 : decode cX10_takesCond 54 = .ok (.iconst 1, 1) := by decide +kernel
theorem dX10_takesCond_55 : decode cX10_takesCond 55 = .ok (.ireturn, 1) := by decide +kernel
theorem dX10_takesCond_19 : decode cX10_takesCond 19 = .ok (.aload_n 0, 1) := by decide +kernel
theorem dX10_takesCond_20 : decode cX10_takesCond 20 = .ok (.ldc 150, 2) := by decide +kernel
theorem dX10_takesCond_22 : decode cX10_takesCond 22 = .ok (.invokevirtual 102, 3) := by decide +kernel
theorem dX10_takesCond_25 : decode cX10_takesCond 25 = .ok (.ifCond .eq 29, 3) := by decide +kernel
theorem dX10_takesCond_28 : decode cX10_takesCond 28 = .ok (.aload_n 0, 1) := by decide +kernel
theorem dX10_takesCond_29 : decode cX10_takesCond 29 = .ok (.invokevirtual 47, 3) := by decide +kernel
theorem dX10_takesCond_32 : decode cX10_takesCond 32 = .ok (.aload_n 0, 1) := by decide +kernel
theorem dX10_takesCond_33 : decode cX10_takesCond 33 = .ok (.iload_n 1, 1) := by decide +kernel
theorem dX10_takesCond_34 : decode cX10_takesCond 34 = .ok (.invokevirtual 147, 3) := by decide +kernel
theorem dX10_takesCond_37 : decode cX10_takesCond 37 = .ok (.ifCond .ne 5, 3) := by decide +kernel
theorem dX10_takesCond_42 : decode cX10_takesCond 42 = .ok (.aload_n 0, 1) := by decide +kernel
theorem dX10_takesCond_43 : decode cX10_takesCond 43 = .ok (.bipush (-3), 2) := by decide +kernel
theorem dX10_takesCond_45 : decode cX10_takesCond 45 = .ok (.invokevirtual 152, 3) := by decide +kernel
theorem dX10_takesCond_48 : decode cX10_takesCond 48 = .ok (.iinc 2 1, 3) := by decide +kernel
theorem dX10_takesCond_51 : decode cX10_takesCond 51 = .ok (.goto (-39), 3) := by decide +kernel
theorem dX10_takesCond_40 : decode cX10_takesCond 40 = .ok (.iconst 0, 1) := by decide +kernel
theorem dX10_takesCond_41 : decode cX10_takesCond 41 = .ok (.ireturn, 1) := by decide +kernel
theorem dX10_takesCond_8 : decode cX10_takesCond 8 = .ok (.iconst 0, 1) := by decide +kernel
theorem dX10_takesCond_9 : decode cX10_takesCond 9 = .ok (.ireturn, 1) := by decide +kernel
theorem dX10_takesOne_68 : decode cX10_takesOne 68 = .ok (.aload_n 0, 1) := by decide +kernel
theorem dX10_takesOne_69 : decode cX10_takesOne 69 = .ok (.invokevirtual 47, 3) := by decide +kernel
theorem dX10_takesOne_72 : decode cX10_takesOne 72 = .ok (.aload_n 0, 1) := by decide +kernel
theorem dX10_takesOne_73 : decode cX10_takesOne 73 = .ok (.iload_n 1, 1) := by decide +kernel
theorem dX10_takesOne_74 : decode cX10_takesOne 74 = .ok (.iconst 1, 1) := by decide +kernel
theorem dX10_takesOne_75 : decode cX10_takesOne 75 = .ok (.iadd, 1) := by decide +kernel
theorem dX10_takesOne_76 : decode cX10_takesOne 76 = .ok (.invokevirtual 121, 3) := by decide +kernel
theorem m_865 : Cond.code yX10_takesCond cX10_takesCond 3 (some .boolean) ∈ BW := List.mem_of_getElem? (i := 865) (by decide +kernel)
theorem m_862 : Cond.methodLink RX10 121 yX10_takesCond ∈ BW := List.mem_of_getElem? (i := 862) (by decide +kernel)
theorem m_863 : Cond.instanceMethod yX10_takesCond ∈ BW := List.mem_of_getElem? (i := 863) (by decide +kernel)
theorem m_864 : Cond.selects RX10 yX10_takesCond yX10_takesCond ∈ BW := List.mem_of_getElem? (i := 864) (by decide +kernel)
theorem si_X10_121 : SV RX10 RX10 121 yX10_takesCond cX10_takesCond 3 (some .boolean) 1 := ⟨⟨m_862, m_863, m_864, m_37, m_865⟩, rfl, by decide +kernel, by decide +kernel, by decide +kernel⟩
theorem dX10_takesOne_79 : decode cX10_takesOne 79 = .ok (.ifCond .eq 12, 3) := by decide +kernel
theorem dX10_takesOne_82 : decode cX10_takesOne 82 = .ok (.aload_n 0, 1) := by decide +kernel
theorem dX10_takesOne_83 : decode cX10_takesOne 83 = .ok (.bipush 41, 2) := by decide +kernel
theorem dX10_takesOne_85 : decode cX10_takesOne 85 = .ok (.invokevirtual 124, 3) := by decide +kernel
theorem m_893 : Cond.code yX10_takesByte cX10_takesByte 2 (some .boolean) ∈ BW := List.mem_of_getElem? (i := 893) (by decide +kernel)
theorem m_890 : Cond.methodLink RX10 124 yX10_takesByte ∈ BW := List.mem_of_getElem? (i := 890) (by decide +kernel)
theorem m_891 : Cond.instanceMethod yX10_takesByte ∈ BW := List.mem_of_getElem? (i := 891) (by decide +kernel)
theorem m_892 : Cond.selects RX10 yX10_takesByte yX10_takesByte ∈ BW := List.mem_of_getElem? (i := 892) (by decide +kernel)
theorem si_X10_124 : SV RX10 RX10 124 yX10_takesByte cX10_takesByte 2 (some .boolean) 1 := ⟨⟨m_890, m_891, m_892, m_37, m_893⟩, rfl, by decide +kernel, by decide +kernel, by decide +kernel⟩
theorem dX10_takesOne_88 : decode cX10_takesOne 88 = .ok (.ifCond .ne 5, 3) := by decide +kernel
theorem dX10_takesOne_91 : decode cX10_takesOne 91 = .ok (.iconst 0, 1) := by decide +kernel
theorem dX10_takesOne_92 : decode cX10_takesOne 92 = .ok (.ireturn, 1) := by decide +kernel
end WR
set_option maxHeartbeats 4000000 in
set_option maxRecDepth 100000 in
theorem t_byteAt (l : Launch) (G : GG) (h0 : Nat) (ix : Int32) (tby : Nat) (kt : Nat) (tln : Nat) (tsp : Nat) (tkd : Int32) (ts9 : Int32) (tn9 : Int32) (tf9 : Int32) (fby : Nat → Int32) : MP l G yX10_byteAt cX10_byteAt 2 (some .int) 1 [.ref h0, .int ix] [(h0, .inr (10, [.ref tby, .int (nI kt), .ref tln, .ref tsp, .int tkd, .int ts9, .int tn9, .int tf9])), (tby, .inl (G.2.1, 240, .inl fby))] (fun r : Int32 => True) := by
  refine MP.start (by decide +kernel) (Nat.le_of_ble_eq_true rfl) ?_
  intro p e s m below meth c ls hC hK hP hD hl
  have hl : lv_has ls 2 [(0, .ref h0), (1, .int ix)] := hl
  obtain ⟨hx, hb, hr, hml, hB, hown, hlocks, hnm⟩ := id hC
  refine lv_iload_n hx hb dX10_byteAt_0 rfl (lv_at hl 1 rfl) ?_
  refine lv_if_lt (tgt := 30) hx hb dX10_byteAt_1 (by decide) (fun c_1_2782 => ?_) (fun c_1_2782 => ?_)
  · refine lv_iconst (v := (-1)) hx hb dX10_byteAt_30 (by decide) ?_
    exact RP (v := (-1)) hC (trivial) rfl dX10_byteAt_31
  · refine lv_iload_n hx hb dX10_byteAt_4 rfl (lv_at hl 1 rfl) ?_
    refine lv_aload_n hx hb dX10_byteAt_5 rfl (lv_at hl 0 rfl) ?_
    refine gf_X10_27 hC rfl hK hP 0 rfl rfl dX10_byteAt_6 ?_
    refine lv_icmp_ge (tgt := 30) hx hb dX10_byteAt_9 (by decide) (fun c_9_2783 => ?_) (fun c_9_2783 => ?_)
    · refine lv_iconst (v := (-1)) hx hb dX10_byteAt_30 (by decide) ?_
      exact RP (v := (-1)) hC (trivial) rfl dX10_byteAt_31
    · refine lv_iload_n hx hb dX10_byteAt_12 rfl (lv_at hl 1 rfl) ?_
      refine lv_aload_n hx hb dX10_byteAt_13 rfl (lv_at hl 0 rfl) ?_
      refine gf_X10_9 hC rfl hK hP 0 rfl rfl dX10_byteAt_14 ?_
      refine va_alen (v := 240) hx hb hK.1 hP 1 0 rfl rfl (show Int32.ofNat 240 = 240 by decide) dX10_byteAt_17 ?_
      refine lv_icmp_ge (tgt := 30) hx hb dX10_byteAt_18 (by decide) (fun c_18_2784 => ?_) (fun c_18_2784 => ?_)
      · refine lv_iconst (v := (-1)) hx hb dX10_byteAt_30 (by decide) ?_
        exact RP (v := (-1)) hC (trivial) rfl dX10_byteAt_31
      · refine lv_aload_n hx hb dX10_byteAt_21 rfl (lv_at hl 0 rfl) ?_
        obtain ⟨ji, hji, rfl⟩ := ltN (N := 240) (by decide) c_1_2782 c_18_2784
        refine gf_X10_9 hC rfl hK hP 0 rfl rfl dX10_byteAt_22 ?_
        refine lv_iload_n hx hb dX10_byteAt_25 rfl (lv_at hl 1 rfl) ?_
        refine ald hC hK hP 1 rfl (vp_in_nI (by omega) (by omega)) (k := ji) (nI_clamp (by omega)) (v := fby ji) rfl dX10_byteAt_26 ?_
        refine lv_topi (fun x2785 ex2785 => ?_)
        refine lv_goto (tgt := 31) hx hb dX10_byteAt_27 (by decide) ?_
        exact RP (v := x2785) hC (trivial) rfl dX10_byteAt_31
set_option maxHeartbeats 4000000 in
set_option maxRecDepth 100000 in
theorem t_byteAtN (l : Launch) (G : GG) (h0 : Nat) (j9 : Nat) (tby : Nat) (kt : Nat) (tln : Nat) (tsp : Nat) (tkd : Int32) (ts9 : Int32) (tn9 : Int32) (tf9 : Int32) (fby : Nat → Int32) (hj9 : j9 < 2 ^ 31) : MP l G yX10_byteAt cX10_byteAt 2 (some .int) 1 [.ref h0, .int (nI j9)] [(h0, .inr (10, [.ref tby, .int (nI kt), .ref tln, .ref tsp, .int tkd, .int ts9, .int tn9, .int tf9])), (tby, .inl (G.2.1, 240, .inl fby))] (fun r : Int32 => r = (-1) ∨ (r = (fby j9) ∧ j9 < 240)) := by
  refine MP.start (by decide +kernel) (Nat.le_of_ble_eq_true rfl) ?_
  intro p e s m below meth c ls hC hK hP hD hl
  have hl : lv_has ls 2 [(0, .ref h0), (1, .int (nI j9))] := hl
  obtain ⟨hx, hb, hr, hml, hB, hown, hlocks, hnm⟩ := id hC
  refine lv_iload_n hx hb dX10_byteAt_0 rfl (lv_at hl 1 rfl) ?_
  refine lv_if_lt (tgt := 30) hx hb dX10_byteAt_1 (by decide) (fun c9 => absurd c9 (nI_pos (by omega))) (fun _ => ?_)
  refine lv_iload_n hx hb dX10_byteAt_4 rfl (lv_at hl 1 rfl) ?_
  refine lv_aload_n hx hb dX10_byteAt_5 rfl (lv_at hl 0 rfl) ?_
  refine gf_X10_27 hC rfl hK hP 0 rfl rfl dX10_byteAt_6 ?_
  refine lv_icmp_ge (tgt := 30) hx hb dX10_byteAt_9 (by decide) (fun c_9_2786 => ?_) (fun c_9_2786 => ?_)
  · refine lv_iconst (v := (-1)) hx hb dX10_byteAt_30 (by decide) ?_
    exact RP (v := (-1)) hC (Or.inl rfl) rfl dX10_byteAt_31
  · refine lv_iload_n hx hb dX10_byteAt_12 rfl (lv_at hl 1 rfl) ?_
    refine lv_aload_n hx hb dX10_byteAt_13 rfl (lv_at hl 0 rfl) ?_
    refine gf_X10_9 hC rfl hK hP 0 rfl rfl dX10_byteAt_14 ?_
    refine va_alen (v := 240) hx hb hK.1 hP 1 0 rfl rfl (show Int32.ofNat 240 = 240 by decide) dX10_byteAt_17 ?_
    refine lv_icmp_ge (tgt := 30) hx hb dX10_byteAt_18 (by decide) (fun c_18_2787 => ?_) (fun c_18_2787 => ?_)
    · refine lv_iconst (v := (-1)) hx hb dX10_byteAt_30 (by decide) ?_
      exact RP (v := (-1)) hC (Or.inl rfl) rfl dX10_byteAt_31
    · refine lv_aload_n hx hb dX10_byteAt_21 rfl (lv_at hl 0 rfl) ?_
      have hj240 := nge_nat (R := 240) (k := j9) (by decide) (by omega) c_18_2787
      refine gf_X10_9 hC rfl hK hP 0 rfl rfl dX10_byteAt_22 ?_
      refine lv_iload_n hx hb dX10_byteAt_25 rfl (lv_at hl 1 rfl) ?_
      refine ald hC hK hP 1 rfl (vp_in_nI (by omega) (by omega)) (k := j9) (nI_clamp (by omega)) (v := (fby j9)) (rfl) dX10_byteAt_26 ?_
      refine lv_goto (tgt := 31) hx hb dX10_byteAt_27 (by decide) ?_
      exact RP (v := (fby j9)) hC (Or.inr ⟨rfl, by omega⟩) rfl dX10_byteAt_31
set_option maxHeartbeats 4000000 in
set_option maxRecDepth 100000 in
theorem t_letter (l : Launch) (G : GG) (b9 : Int32) : MP l G yX10_isLetter cX10_isLetter 1 (some .boolean) 2 [.int b9] [] (fun r : Int32 => r = 1 ∨ r = 0) := by
  refine MP.start (by decide +kernel) (Nat.le_of_ble_eq_true rfl) ?_
  intro p e s m below meth c ls hC hK hP hD hl
  have hl : lv_has ls 1 [(0, .int b9)] := hl
  obtain ⟨hx, hb, hr, hml, hB, hown, hlocks, hnm⟩ := id hC
  refine lv_iload_n hx hb dX10_isLetter_0 rfl (lv_at hl 0 rfl) ?_
  refine lv_bipush (v := 97) hx hb dX10_isLetter_1 (by decide) ?_
  refine lv_bipush (v := 122) hx hb dX10_isLetter_3 (by decide) ?_
  refine pSN hC hK hl (c_within l G b9 97 122) si_X10_89 rfl rfl (Nat.le_of_ble_eq_true rfl) ⟨Nat.le_of_ble_eq_true rfl, Nat.le_of_ble_eq_true rfl⟩ ⟨by first | exact Nat.le_of_ble_eq_true rfl | exact Nat.zero_le _, by first | exact Nat.le_of_ble_eq_true rfl | exact Nat.zero_le _⟩ dX10_isLetter_5 (fun r2788 hr2788 => ?_)
  rcases hr2788 with ⟨rfl, a2789⟩ | ⟨rfl, a2789⟩
  · exact RP (v := 1) hC (Or.inl (rfl)) (by decide +kernel) dX10_isLetter_8
  · exact RP (v := 0) hC (Or.inr (rfl)) (by decide +kernel) dX10_isLetter_8
set_option maxHeartbeats 4000000 in
set_option maxRecDepth 100000 in
theorem t_digit (l : Launch) (G : GG) (b9 : Int32) : MP l G yX10_isDigit cX10_isDigit 1 (some .boolean) 2 [.int b9] [] (fun r : Int32 => r = 1 ∨ r = 0) := by
  refine MP.start (by decide +kernel) (Nat.le_of_ble_eq_true rfl) ?_
  intro p e s m below meth c ls hC hK hP hD hl
  have hl : lv_has ls 1 [(0, .int b9)] := hl
  obtain ⟨hx, hb, hr, hml, hB, hown, hlocks, hnm⟩ := id hC
  refine lv_iload_n hx hb dX10_isDigit_0 rfl (lv_at hl 0 rfl) ?_
  refine lv_bipush (v := 48) hx hb dX10_isDigit_1 (by decide) ?_
  refine lv_bipush (v := 57) hx hb dX10_isDigit_3 (by decide) ?_
  refine pSN hC hK hl (c_within l G b9 48 57) si_X10_89 rfl rfl (Nat.le_of_ble_eq_true rfl) ⟨Nat.le_of_ble_eq_true rfl, Nat.le_of_ble_eq_true rfl⟩ ⟨by first | exact Nat.le_of_ble_eq_true rfl | exact Nat.zero_le _, by first | exact Nat.le_of_ble_eq_true rfl | exact Nat.zero_le _⟩ dX10_isDigit_5 (fun r2790 hr2790 => ?_)
  rcases hr2790 with ⟨rfl, a2791⟩ | ⟨rfl, a2791⟩
  · exact RP (v := 1) hC (Or.inl (rfl)) (by decide +kernel) dX10_isDigit_8
  · exact RP (v := 0) hC (Or.inr (rfl)) (by decide +kernel) dX10_isDigit_8
set_option maxHeartbeats 4000000 in
set_option maxRecDepth 100000 in
theorem t_refuse (l : Launch) (G : GG) (h0 : Nat) (tby : Nat) (kt : Nat) (tln : Nat) (tsp : Nat) (tkd : Int32) (ks : Nat) (kn : Nat) (tf9 : Int32) : MI l G yX10_refuse cX10_refuse 1 (some .boolean) 1 0 0 [.ref h0] [(h0, .inr (10, [.ref tby, .int (nI kt), .ref tln, .ref tsp, .int tkd, .int (nI ks), .int (nI kn), .int tf9]))] (fun (r : Int32) (u : Int32) => (r = 0)) (fun u : Int32 => [(h0, .inr (10, [.ref tby, .int (nI kt), .ref tln, .ref tsp, .int tkd, .int (nI ks), .int (nI kn), .int u]))]) := by
  refine MI.start (by decide +kernel) (Nat.le_of_ble_eq_true rfl) ?_
  intro p e s m below meth c A ls hC hK hP hD hS hA hl
  have hl : lv_has ls 1 [(0, .ref h0)] := hl
  obtain ⟨hx, hb, hr, hml, hB, hown, hlocks, hnm⟩ := id hC
  refine lv_aload_n hx hb dX10_refuse_0 rfl (lv_at hl 0 rfl) ?_
  refine lv_aload_n hx hb dX10_refuse_1 rfl (lv_at hl 0 rfl) ?_
  refine gf_X10_34 hC rfl hK hP 0 rfl rfl dX10_refuse_2 ?_
  refine pf_X10_40 hC rfl hK hP hD hS 0 (ws' := [(h0, .inr (10, [.ref tby, .int (nI kt), .ref tln, .ref tsp, .int tkd, .int (nI ks), .int (nI kn), .int (nI ks)]))]) rfl (Nat.le_of_ble_eq_true rfl) rfl rfl rfl dX10_refuse_5 (fun H locs hP hD hS => ?_)
  refine lv_iconst (v := 0) hx hb dX10_refuse_8 (by decide) ?_
  exact RI (v := 0) hC hP hD hS [0] (nI ks) rfl rfl (by decide) (rfl) (by decide +kernel) dX10_refuse_9
set_option maxHeartbeats 4000000 in
set_option maxRecDepth 100000 in
theorem t_clear (l : Launch) (G : GG) (h0 : Nat) (tby : Nat) (kt : Nat) (tln : Nat) (tsp : Nat) (tkd : Int32) (ts9 : Int32) (tn9 : Int32) (tf9 : Int32) : MV l G yX10_clear cX10_clear 1 1 0 0 [.ref h0] [(h0, .inr (10, [.ref tby, .int (nI kt), .ref tln, .ref tsp, .int tkd, .int ts9, .int tn9, .int tf9]))] (fun u : Unit => True) (fun u : Unit => [(h0, .inr (10, [.ref tby, .int 0, .ref tln, .ref tsp, .int tkd, .int ts9, .int tn9, .int tf9]))]) := by
  refine MV.start (by decide +kernel) (Nat.le_of_ble_eq_true rfl) ?_
  intro p e s m below meth c A ls hC hK hP hD hS hA hl
  have hl : lv_has ls 1 [(0, .ref h0)] := hl
  obtain ⟨hx, hb, hr, hml, hB, hown, hlocks, hnm⟩ := id hC
  refine lv_aload_n hx hb dX10_clear_0 rfl (lv_at hl 0 rfl) ?_
  refine lv_iconst (v := 0) hx hb dX10_clear_1 (by decide) ?_
  refine pf_X10_27 hC rfl hK hP hD hS 0 (ws' := [(h0, .inr (10, [.ref tby, .int 0, .ref tln, .ref tsp, .int tkd, .int ts9, .int tn9, .int tf9]))]) rfl (Nat.le_of_ble_eq_true rfl) rfl rfl rfl dX10_clear_2 (fun H locs hP hD hS => ?_)
  exact RV hC hP hD hS [0] () rfl rfl (by decide) (trivial) dX10_clear_5
set_option maxHeartbeats 4000000 in
set_option maxRecDepth 100000 in
theorem t_advance (l : Launch) (G : GG) (h0 : Nat) (tby : Nat) (kt : Nat) (tln : Nat) (tsp : Nat) (tkd : Int32) (ks : Nat) (kn : Nat) (tf9 : Int32) (fby : Nat → Int32) (hkt : kt ≤ 240) (hks : ks ≤ 240) (hkn : kn ≤ 240) : MV l G yX10_advance cX10_advance 1 3 0 0 [.ref h0] [(h0, .inr (10, [.ref tby, .int (nI kt), .ref tln, .ref tsp, .int tkd, .int (nI ks), .int (nI kn), .int tf9])), (tby, .inl (G.2.1, 240, .inl fby))] (fun u : Int32 × Nat × Nat => u.2.1 ≤ 240 ∧ u.2.2 ≤ 240) (fun u : Int32 × Nat × Nat => [(h0, .inr (10, [.ref tby, .int (nI kt), .ref tln, .ref tsp, .int u.1, .int (nI u.2.1), .int (nI u.2.2), .int tf9])), (tby, .inl (G.2.1, 240, .inl fby))]) := by
  refine MV.start (by decide +kernel) (Nat.le_of_ble_eq_true rfl) ?_
  intro p e s m below meth c A ls hC hK hP hD hS hA hl
  have hl : lv_has ls 1 [(0, .ref h0)] := hl
  obtain ⟨hx, hb, hr, hml, hB, hown, hlocks, hnm⟩ := id hC
  refine lv_aload_n hx hb dX10_advance_0 rfl (lv_at hl 0 rfl) ?_
  refine lv_aload_n hx hb dX10_advance_1 rfl (lv_at hl 0 rfl) ?_
  refine gf_X10_37 hC rfl hK hP 0 rfl rfl dX10_advance_2 ?_
  refine pf_X10_34 hC rfl hK hP hD hS 0 (ws' := [(h0, .inr (10, [.ref tby, .int (nI kt), .ref tln, .ref tsp, .int tkd, .int (nI kn), .int (nI kn), .int tf9])), (tby, .inl (G.2.1, 240, .inl fby))]) rfl (Nat.le_of_ble_eq_true rfl) rfl rfl rfl dX10_advance_5 (fun H locs hP hD hS => ?_)
  have keyA : ∀ (nA jA : Nat) (H : Heap) (locs : List Loc) (ls : Array Slot), kt ≤ jA + nA → jA ≤ 240 → va_P G.1 vwCl [(h0, .inr (10, [.ref tby, .int (nI kt), .ref tln, .ref tsp, .int tkd, .int (nI jA), .int (nI kn), .int tf9])), (tby, .inl (G.2.1, 240, .inl fby))] H → va_D A [(h0, .inr (10, [.ref tby, .int (nI kt), .ref tln, .ref tsp, .int tkd, .int (nI jA), .int (nI kn), .int tf9])), (tby, .inl (G.2.1, 240, .inl fby))] → va_S A s.heap H locs → lv_has ls 1 [(0, .ref h0)] → W p l e (RM 3 0 0) s m ([.ref h0] : List Value).toArray below meth c H locs 0 0 (MQ below (QV G (fun u : Int32 × Nat × Nat => u.2.1 ≤ 240 ∧ u.2.2 ≤ 240) (fun u : Int32 × Nat × Nat => [(h0, .inr (10, [.ref tby, .int (nI kt), .ref tln, .ref tsp, .int u.1, .int (nI u.2.1), .int (nI u.2.2), .int tf9])), (tby, .inl (G.2.1, 240, .inl fby))]) A) ([.ref h0] : List Value).toArray s 0 0 A) (F0 m 8 ls []) := by
    intro nA
    induction nA with
    | zero =>
      intro jA H locs ls hkA hmA hP hD hS hl
      have hzA : nI kt ≤ nI jA := (nI_leI (by omega) (by omega)).mpr (by omega)
      refine lv_aload_n hx hb dX10_advance_8 rfl (lv_at hl 0 rfl) ?_
      refine gf_X10_34 hC rfl hK hP 0 rfl rfl dX10_advance_9 ?_
      refine lv_aload_n hx hb dX10_advance_12 rfl (lv_at hl 0 rfl) ?_
      refine gf_X10_27 hC rfl hK hP 0 rfl rfl dX10_advance_13 ?_
      refine lv_icmp_ge (tgt := 45) hx hb dX10_advance_16 (by decide) (fun _ => ?_) (fun c9 => absurd (hzA) c9)
      refine lv_aload_n hx hb dX10_advance_45 rfl (lv_at hl 0 rfl) ?_
      refine lv_aload_n hx hb dX10_advance_46 rfl (lv_at hl 0 rfl) ?_
      refine gf_X10_34 hC rfl hK hP 0 rfl rfl dX10_advance_47 ?_
      refine pf_X10_37 hC rfl hK hP hD hS 0 (ws' := [(h0, .inr (10, [.ref tby, .int (nI kt), .ref tln, .ref tsp, .int tkd, .int (nI jA), .int (nI jA), .int tf9])), (tby, .inl (G.2.1, 240, .inl fby))]) rfl (Nat.le_of_ble_eq_true rfl) rfl rfl rfl dX10_advance_50 (fun H locs hP hD hS => ?_)
      refine lv_aload_n hx hb dX10_advance_53 rfl (lv_at hl 0 rfl) ?_
      refine lv_aload_n hx hb dX10_advance_54 rfl (lv_at hl 0 rfl) ?_
      refine gf_X10_34 hC rfl hK hP 0 rfl rfl dX10_advance_55 ?_
      refine pV hC hK hl hP hD (t_byteAt l G h0 (nI jA) tby kt tln tsp tkd (nI jA) (nI jA) tf9 fby) si_X10_78 [0, 1] rfl rfl (by decide) rfl rfl rfl rfl rfl (Nat.le_of_ble_eq_true rfl) ⟨Nat.le_of_ble_eq_true rfl, Nat.le_of_ble_eq_true rfl⟩ ⟨by first | exact Nat.le_of_ble_eq_true rfl | exact Nat.zero_le _, by first | exact Nat.le_of_ble_eq_true rfl | exact Nat.zero_le _⟩ dX10_advance_58 (fun r2792 hr2792 => ?_)
      refine pS hC hK hl (t_letter l G r2792) si_X10_82 rfl rfl (Nat.le_of_ble_eq_true rfl) ⟨Nat.le_of_ble_eq_true rfl, Nat.le_of_ble_eq_true rfl⟩ ⟨by first | exact Nat.le_of_ble_eq_true rfl | exact Nat.zero_le _, by first | exact Nat.le_of_ble_eq_true rfl | exact Nat.zero_le _⟩ dX10_advance_61 (fun r2793 hr2793 => ?_)
      rcases hr2793 with rfl | rfl
      · refine lv_if_eq (tgt := 111) hx hb dX10_advance_64 (by decide) (fun c9 => absurd c9 (by decide)) (fun _ => ?_)
        refine lv_aload_n hx hb dX10_advance_67 rfl (lv_at hl 0 rfl) ?_
        refine lv_bipush (v := (-2)) hx hb dX10_advance_68 (by decide) ?_
        refine pf_X10_31 hC rfl hK hP hD hS 0 (ws' := [(h0, .inr (10, [.ref tby, .int (nI kt), .ref tln, .ref tsp, .int (-2), .int (nI jA), .int (nI jA), .int tf9])), (tby, .inl (G.2.1, 240, .inl fby))]) rfl (Nat.le_of_ble_eq_true rfl) rfl rfl rfl dX10_advance_70 (fun H locs hP hD hS => ?_)
        have keyB : ∀ (nB jB : Nat) (H : Heap) (locs : List Loc) (ls : Array Slot), kt ≤ jB + nB → jB ≤ 240 → va_P G.1 vwCl [(h0, .inr (10, [.ref tby, .int (nI kt), .ref tln, .ref tsp, .int (-2), .int (nI jA), .int (nI jB), .int tf9])), (tby, .inl (G.2.1, 240, .inl fby))] H → va_D A [(h0, .inr (10, [.ref tby, .int (nI kt), .ref tln, .ref tsp, .int (-2), .int (nI jA), .int (nI jB), .int tf9])), (tby, .inl (G.2.1, 240, .inl fby))] → va_S A s.heap H locs → lv_has ls 1 [(0, .ref h0)] → W p l e (RM 3 0 0) s m ([.ref h0] : List Value).toArray below meth c H locs 0 0 (MQ below (QV G (fun u : Int32 × Nat × Nat => u.2.1 ≤ 240 ∧ u.2.2 ≤ 240) (fun u : Int32 × Nat × Nat => [(h0, .inr (10, [.ref tby, .int (nI kt), .ref tln, .ref tsp, .int u.1, .int (nI u.2.1), .int (nI u.2.2), .int tf9])), (tby, .inl (G.2.1, 240, .inl fby))]) A) ([.ref h0] : List Value).toArray s 0 0 A) (F0 m 73 ls []) := by
          intro nB
          induction nB with
          | zero =>
            intro jB H locs ls hkB hmB hP hD hS hl
            have hzB : nI kt ≤ nI jB := (nI_leI (by omega) (by omega)).mpr (by omega)
            refine lv_aload_n hx hb dX10_advance_73 rfl (lv_at hl 0 rfl) ?_
            refine gf_X10_37 hC rfl hK hP 0 rfl rfl dX10_advance_74 ?_
            refine lv_aload_n hx hb dX10_advance_77 rfl (lv_at hl 0 rfl) ?_
            refine gf_X10_27 hC rfl hK hP 0 rfl rfl dX10_advance_78 ?_
            refine lv_icmp_ge (tgt := 199) hx hb dX10_advance_81 (by decide) (fun _ => ?_) (fun c9 => absurd (hzB) c9)
            exact RV hC hP hD hS [0, 1] ((-2), jA, jB) rfl rfl (by decide) (by dsimp only; omega) dX10_advance_199
          | succ nB ihB =>
            intro jB H locs ls hkB hmB hP hD hS hl
            refine lv_aload_n hx hb dX10_advance_73 rfl (lv_at hl 0 rfl) ?_
            refine gf_X10_37 hC rfl hK hP 0 rfl rfl dX10_advance_74 ?_
            refine lv_aload_n hx hb dX10_advance_77 rfl (lv_at hl 0 rfl) ?_
            refine gf_X10_27 hC rfl hK hP 0 rfl rfl dX10_advance_78 ?_
            refine lv_icmp_ge (tgt := 199) hx hb dX10_advance_81 (by decide) (fun c_81_2795 => ?_) (fun c_81_2795 => ?_)
            · exact RV hC hP hD hS [0, 1] ((-2), jA, jB) rfl rfl (by decide) (by dsimp only; omega) dX10_advance_199
            · refine lv_aload_n hx hb dX10_advance_84 rfl (lv_at hl 0 rfl) ?_
              refine lv_aload_n hx hb dX10_advance_85 rfl (lv_at hl 0 rfl) ?_
              refine gf_X10_37 hC rfl hK hP 0 rfl rfl dX10_advance_86 ?_
              refine pV hC hK hl hP hD (t_byteAt l G h0 (nI jB) tby kt tln tsp (-2) (nI jA) (nI jB) tf9 fby) si_X10_78 [0, 1] rfl rfl (by decide) rfl rfl rfl rfl rfl (Nat.le_of_ble_eq_true rfl) ⟨Nat.le_of_ble_eq_true rfl, Nat.le_of_ble_eq_true rfl⟩ ⟨by first | exact Nat.le_of_ble_eq_true rfl | exact Nat.zero_le _, by first | exact Nat.le_of_ble_eq_true rfl | exact Nat.zero_le _⟩ dX10_advance_89 (fun r2796 hr2796 => ?_)
              refine pS hC hK hl (t_letter l G r2796) si_X10_82 rfl rfl (Nat.le_of_ble_eq_true rfl) ⟨Nat.le_of_ble_eq_true rfl, Nat.le_of_ble_eq_true rfl⟩ ⟨by first | exact Nat.le_of_ble_eq_true rfl | exact Nat.zero_le _, by first | exact Nat.le_of_ble_eq_true rfl | exact Nat.zero_le _⟩ dX10_advance_92 (fun r2797 hr2797 => ?_)
              rcases hr2797 with rfl | rfl
              · refine lv_if_eq (tgt := 199) hx hb dX10_advance_95 (by decide) (fun c9 => absurd c9 (by decide)) (fun _ => ?_)
                refine lv_aload_n hx hb dX10_advance_98 rfl (lv_at hl 0 rfl) ?_
                refine lv_dup hx hb dX10_advance_99 rfl ?_
                refine gf_X10_37 hC rfl hK hP 0 rfl rfl dX10_advance_100 ?_
                refine lv_iconst (v := 1) hx hb dX10_advance_103 (by decide) ?_
                refine lv_iadd hx hb dX10_advance_104 ?_
                refine eqi (x1 := nI (jB + 1)) (nI_1 _) ?_
                refine pf_X10_37 hC rfl hK hP hD hS 0 (ws' := [(h0, .inr (10, [.ref tby, .int (nI kt), .ref tln, .ref tsp, .int (-2), .int (nI jA), .int (nI (jB + 1)), .int tf9])), (tby, .inl (G.2.1, 240, .inl fby))]) rfl (Nat.le_of_ble_eq_true rfl) rfl rfl rfl dX10_advance_105 (fun H locs hP hD hS => ?_)
                refine lv_goto (tgt := 73) hx hb dX10_advance_108 (by decide) ?_
                have hnB9 := nge_nat (R := kt) (k := jB) (by omega) (by omega) c_81_2795
                exact ihB (jB + 1) _ _ _ (by omega) (by omega) hP hD hS (lv_sub hl [0] rfl)
              · refine lv_if_eq (tgt := 199) hx hb dX10_advance_95 (by decide) (fun _ => ?_) (fun c9 => absurd (by decide) c9)
                exact RV hC hP hD hS [0, 1] ((-2), jA, jB) rfl rfl (by decide) (by dsimp only; omega) dX10_advance_199
        exact keyB kt jA _ _ _ (by omega) (by omega) hP hD hS (lv_sub hl [0] rfl)
      · refine lv_if_eq (tgt := 111) hx hb dX10_advance_64 (by decide) (fun _ => ?_) (fun c9 => absurd (by decide) c9)
        refine lv_aload_n hx hb dX10_advance_111 rfl (lv_at hl 0 rfl) ?_
        refine lv_aload_n hx hb dX10_advance_112 rfl (lv_at hl 0 rfl) ?_
        refine gf_X10_34 hC rfl hK hP 0 rfl rfl dX10_advance_113 ?_
        refine pV hC hK hl hP hD (t_byteAt l G h0 (nI jA) tby kt tln tsp tkd (nI jA) (nI jA) tf9 fby) si_X10_78 [0, 1] rfl rfl (by decide) rfl rfl rfl rfl rfl (Nat.le_of_ble_eq_true rfl) ⟨Nat.le_of_ble_eq_true rfl, Nat.le_of_ble_eq_true rfl⟩ ⟨by first | exact Nat.le_of_ble_eq_true rfl | exact Nat.zero_le _, by first | exact Nat.le_of_ble_eq_true rfl | exact Nat.zero_le _⟩ dX10_advance_116 (fun r2799 hr2799 => ?_)
        refine pS hC hK hl (t_digit l G r2799) si_X10_86 rfl rfl (Nat.le_of_ble_eq_true rfl) ⟨Nat.le_of_ble_eq_true rfl, Nat.le_of_ble_eq_true rfl⟩ ⟨by first | exact Nat.le_of_ble_eq_true rfl | exact Nat.zero_le _, by first | exact Nat.le_of_ble_eq_true rfl | exact Nat.zero_le _⟩ dX10_advance_119 (fun r2800 hr2800 => ?_)
        rcases hr2800 with rfl | rfl
        · refine lv_if_eq (tgt := 169) hx hb dX10_advance_122 (by decide) (fun c9 => absurd c9 (by decide)) (fun _ => ?_)
          refine lv_aload_n hx hb dX10_advance_125 rfl (lv_at hl 0 rfl) ?_
          refine lv_bipush (v := (-3)) hx hb dX10_advance_126 (by decide) ?_
          refine pf_X10_31 hC rfl hK hP hD hS 0 (ws' := [(h0, .inr (10, [.ref tby, .int (nI kt), .ref tln, .ref tsp, .int (-3), .int (nI jA), .int (nI jA), .int tf9])), (tby, .inl (G.2.1, 240, .inl fby))]) rfl (Nat.le_of_ble_eq_true rfl) rfl rfl rfl dX10_advance_128 (fun H locs hP hD hS => ?_)
          have keyC : ∀ (nC jC : Nat) (H : Heap) (locs : List Loc) (ls : Array Slot), kt ≤ jC + nC → jC ≤ 240 → va_P G.1 vwCl [(h0, .inr (10, [.ref tby, .int (nI kt), .ref tln, .ref tsp, .int (-3), .int (nI jA), .int (nI jC), .int tf9])), (tby, .inl (G.2.1, 240, .inl fby))] H → va_D A [(h0, .inr (10, [.ref tby, .int (nI kt), .ref tln, .ref tsp, .int (-3), .int (nI jA), .int (nI jC), .int tf9])), (tby, .inl (G.2.1, 240, .inl fby))] → va_S A s.heap H locs → lv_has ls 1 [(0, .ref h0)] → W p l e (RM 3 0 0) s m ([.ref h0] : List Value).toArray below meth c H locs 0 0 (MQ below (QV G (fun u : Int32 × Nat × Nat => u.2.1 ≤ 240 ∧ u.2.2 ≤ 240) (fun u : Int32 × Nat × Nat => [(h0, .inr (10, [.ref tby, .int (nI kt), .ref tln, .ref tsp, .int u.1, .int (nI u.2.1), .int (nI u.2.2), .int tf9])), (tby, .inl (G.2.1, 240, .inl fby))]) A) ([.ref h0] : List Value).toArray s 0 0 A) (F0 m 131 ls []) := by
            intro nC
            induction nC with
            | zero =>
              intro jC H locs ls hkC hmC hP hD hS hl
              have hzC : nI kt ≤ nI jC := (nI_leI (by omega) (by omega)).mpr (by omega)
              refine lv_aload_n hx hb dX10_advance_131 rfl (lv_at hl 0 rfl) ?_
              refine gf_X10_37 hC rfl hK hP 0 rfl rfl dX10_advance_132 ?_
              refine lv_aload_n hx hb dX10_advance_135 rfl (lv_at hl 0 rfl) ?_
              refine gf_X10_27 hC rfl hK hP 0 rfl rfl dX10_advance_136 ?_
              refine lv_icmp_ge (tgt := 199) hx hb dX10_advance_139 (by decide) (fun _ => ?_) (fun c9 => absurd (hzC) c9)
              exact RV hC hP hD hS [0, 1] ((-3), jA, jC) rfl rfl (by decide) (by dsimp only; omega) dX10_advance_199
            | succ nC ihC =>
              intro jC H locs ls hkC hmC hP hD hS hl
              refine lv_aload_n hx hb dX10_advance_131 rfl (lv_at hl 0 rfl) ?_
              refine gf_X10_37 hC rfl hK hP 0 rfl rfl dX10_advance_132 ?_
              refine lv_aload_n hx hb dX10_advance_135 rfl (lv_at hl 0 rfl) ?_
              refine gf_X10_27 hC rfl hK hP 0 rfl rfl dX10_advance_136 ?_
              refine lv_icmp_ge (tgt := 199) hx hb dX10_advance_139 (by decide) (fun c_139_2802 => ?_) (fun c_139_2802 => ?_)
              · exact RV hC hP hD hS [0, 1] ((-3), jA, jC) rfl rfl (by decide) (by dsimp only; omega) dX10_advance_199
              · refine lv_aload_n hx hb dX10_advance_142 rfl (lv_at hl 0 rfl) ?_
                refine lv_aload_n hx hb dX10_advance_143 rfl (lv_at hl 0 rfl) ?_
                refine gf_X10_37 hC rfl hK hP 0 rfl rfl dX10_advance_144 ?_
                refine pV hC hK hl hP hD (t_byteAt l G h0 (nI jC) tby kt tln tsp (-3) (nI jA) (nI jC) tf9 fby) si_X10_78 [0, 1] rfl rfl (by decide) rfl rfl rfl rfl rfl (Nat.le_of_ble_eq_true rfl) ⟨Nat.le_of_ble_eq_true rfl, Nat.le_of_ble_eq_true rfl⟩ ⟨by first | exact Nat.le_of_ble_eq_true rfl | exact Nat.zero_le _, by first | exact Nat.le_of_ble_eq_true rfl | exact Nat.zero_le _⟩ dX10_advance_147 (fun r2803 hr2803 => ?_)
                refine pS hC hK hl (t_digit l G r2803) si_X10_86 rfl rfl (Nat.le_of_ble_eq_true rfl) ⟨Nat.le_of_ble_eq_true rfl, Nat.le_of_ble_eq_true rfl⟩ ⟨by first | exact Nat.le_of_ble_eq_true rfl | exact Nat.zero_le _, by first | exact Nat.le_of_ble_eq_true rfl | exact Nat.zero_le _⟩ dX10_advance_150 (fun r2804 hr2804 => ?_)
                rcases hr2804 with rfl | rfl
                · refine lv_if_eq (tgt := 199) hx hb dX10_advance_153 (by decide) (fun c9 => absurd c9 (by decide)) (fun _ => ?_)
                  refine lv_aload_n hx hb dX10_advance_156 rfl (lv_at hl 0 rfl) ?_
                  refine lv_dup hx hb dX10_advance_157 rfl ?_
                  refine gf_X10_37 hC rfl hK hP 0 rfl rfl dX10_advance_158 ?_
                  refine lv_iconst (v := 1) hx hb dX10_advance_161 (by decide) ?_
                  refine lv_iadd hx hb dX10_advance_162 ?_
                  refine eqi (x1 := nI (jC + 1)) (nI_1 _) ?_
                  refine pf_X10_37 hC rfl hK hP hD hS 0 (ws' := [(h0, .inr (10, [.ref tby, .int (nI kt), .ref tln, .ref tsp, .int (-3), .int (nI jA), .int (nI (jC + 1)), .int tf9])), (tby, .inl (G.2.1, 240, .inl fby))]) rfl (Nat.le_of_ble_eq_true rfl) rfl rfl rfl dX10_advance_163 (fun H locs hP hD hS => ?_)
                  refine lv_goto (tgt := 131) hx hb dX10_advance_166 (by decide) ?_
                  have hnC9 := nge_nat (R := kt) (k := jC) (by omega) (by omega) c_139_2802
                  exact ihC (jC + 1) _ _ _ (by omega) (by omega) hP hD hS (lv_sub hl [0] rfl)
                · refine lv_if_eq (tgt := 199) hx hb dX10_advance_153 (by decide) (fun _ => ?_) (fun c9 => absurd (by decide) c9)
                  exact RV hC hP hD hS [0, 1] ((-3), jA, jC) rfl rfl (by decide) (by dsimp only; omega) dX10_advance_199
          exact keyC kt jA _ _ _ (by omega) (by omega) hP hD hS (lv_sub hl [0] rfl)
        · refine lv_if_eq (tgt := 169) hx hb dX10_advance_122 (by decide) (fun _ => ?_) (fun c9 => absurd (by decide) c9)
          refine lv_aload_n hx hb dX10_advance_169 rfl (lv_at hl 0 rfl) ?_
          refine lv_aload_n hx hb dX10_advance_170 rfl (lv_at hl 0 rfl) ?_
          refine lv_aload_n hx hb dX10_advance_171 rfl (lv_at hl 0 rfl) ?_
          refine gf_X10_34 hC rfl hK hP 0 rfl rfl dX10_advance_172 ?_
          refine pV hC hK hl hP hD (t_byteAtN l G h0 jA tby kt tln tsp tkd (nI jA) (nI jA) tf9 fby (by omega)) si_X10_78 [0, 1] rfl rfl (by decide) rfl rfl rfl rfl rfl (Nat.le_of_ble_eq_true rfl) ⟨Nat.le_of_ble_eq_true rfl, Nat.le_of_ble_eq_true rfl⟩ ⟨by first | exact Nat.le_of_ble_eq_true rfl | exact Nat.zero_le _, by first | exact Nat.le_of_ble_eq_true rfl | exact Nat.zero_le _⟩ dX10_advance_175 (fun r2806 hr2806 => ?_)
          rcases hr2806 with rfl | ⟨rfl, a2807⟩
          · refine pf_X10_31 hC rfl hK hP hD hS 0 (ws' := [(h0, .inr (10, [.ref tby, .int (nI kt), .ref tln, .ref tsp, .int (-1), .int (nI jA), .int (nI jA), .int tf9])), (tby, .inl (G.2.1, 240, .inl fby))]) rfl (Nat.le_of_ble_eq_true rfl) rfl rfl rfl dX10_advance_178 (fun H locs hP hD hS => ?_)
            refine lv_aload_n hx hb dX10_advance_181 rfl (lv_at hl 0 rfl) ?_
            refine gf_X10_31 hC rfl hK hP 0 rfl rfl dX10_advance_182 ?_
            refine lv_iconst (v := (-1)) hx hb dX10_advance_185 (by decide) ?_
            refine lv_icmp_eq (tgt := 199) hx hb dX10_advance_186 (by decide) (fun _ => ?_) (fun c9 => absurd (by decide) c9)
            exact RV hC hP hD hS [0, 1] ((-1), jA, jA) rfl rfl (by decide) (by dsimp only; omega) dX10_advance_199
          · refine pf_X10_31 hC rfl hK hP hD hS 0 (ws' := [(h0, .inr (10, [.ref tby, .int (nI kt), .ref tln, .ref tsp, .int (fby jA), .int (nI jA), .int (nI jA), .int tf9])), (tby, .inl (G.2.1, 240, .inl fby))]) rfl (Nat.le_of_ble_eq_true rfl) rfl rfl rfl dX10_advance_178 (fun H locs hP hD hS => ?_)
            refine lv_aload_n hx hb dX10_advance_181 rfl (lv_at hl 0 rfl) ?_
            refine gf_X10_31 hC rfl hK hP 0 rfl rfl dX10_advance_182 ?_
            refine lv_iconst (v := (-1)) hx hb dX10_advance_185 (by decide) ?_
            refine lv_icmp_eq (tgt := 199) hx hb dX10_advance_186 (by decide) (fun c_186_2808 => ?_) (fun c_186_2808 => ?_)
            · exact RV hC hP hD hS [0, 1] ((fby jA), jA, jA) rfl rfl (by decide) (by dsimp only; omega) dX10_advance_199
            · refine lv_aload_n hx hb dX10_advance_189 rfl (lv_at hl 0 rfl) ?_
              refine lv_dup hx hb dX10_advance_190 rfl ?_
              refine gf_X10_37 hC rfl hK hP 0 rfl rfl dX10_advance_191 ?_
              refine lv_iconst (v := 1) hx hb dX10_advance_194 (by decide) ?_
              refine lv_iadd hx hb dX10_advance_195 ?_
              refine eqi (x1 := nI (jA + 1)) (nI_1 _) ?_
              refine pf_X10_37 hC rfl hK hP hD hS 0 (ws' := [(h0, .inr (10, [.ref tby, .int (nI kt), .ref tln, .ref tsp, .int (fby jA), .int (nI jA), .int (nI (jA + 1)), .int tf9])), (tby, .inl (G.2.1, 240, .inl fby))]) rfl (Nat.le_of_ble_eq_true rfl) rfl rfl rfl dX10_advance_196 (fun H locs hP hD hS => ?_)
              exact RV hC hP hD hS [0, 1] ((fby jA), jA, (jA + 1)) rfl rfl (by decide) (by dsimp only; omega) dX10_advance_199
    | succ nA ihA =>
      intro jA H locs ls hkA hmA hP hD hS hl
      refine lv_aload_n hx hb dX10_advance_8 rfl (lv_at hl 0 rfl) ?_
      refine gf_X10_34 hC rfl hK hP 0 rfl rfl dX10_advance_9 ?_
      refine lv_aload_n hx hb dX10_advance_12 rfl (lv_at hl 0 rfl) ?_
      refine gf_X10_27 hC rfl hK hP 0 rfl rfl dX10_advance_13 ?_
      refine lv_icmp_ge (tgt := 45) hx hb dX10_advance_16 (by decide) (fun c_16_2809 => ?_) (fun c_16_2809 => ?_)
      · refine lv_aload_n hx hb dX10_advance_45 rfl (lv_at hl 0 rfl) ?_
        refine lv_aload_n hx hb dX10_advance_46 rfl (lv_at hl 0 rfl) ?_
        refine gf_X10_34 hC rfl hK hP 0 rfl rfl dX10_advance_47 ?_
        refine pf_X10_37 hC rfl hK hP hD hS 0 (ws' := [(h0, .inr (10, [.ref tby, .int (nI kt), .ref tln, .ref tsp, .int tkd, .int (nI jA), .int (nI jA), .int tf9])), (tby, .inl (G.2.1, 240, .inl fby))]) rfl (Nat.le_of_ble_eq_true rfl) rfl rfl rfl dX10_advance_50 (fun H locs hP hD hS => ?_)
        refine lv_aload_n hx hb dX10_advance_53 rfl (lv_at hl 0 rfl) ?_
        refine lv_aload_n hx hb dX10_advance_54 rfl (lv_at hl 0 rfl) ?_
        refine gf_X10_34 hC rfl hK hP 0 rfl rfl dX10_advance_55 ?_
        refine pV hC hK hl hP hD (t_byteAt l G h0 (nI jA) tby kt tln tsp tkd (nI jA) (nI jA) tf9 fby) si_X10_78 [0, 1] rfl rfl (by decide) rfl rfl rfl rfl rfl (Nat.le_of_ble_eq_true rfl) ⟨Nat.le_of_ble_eq_true rfl, Nat.le_of_ble_eq_true rfl⟩ ⟨by first | exact Nat.le_of_ble_eq_true rfl | exact Nat.zero_le _, by first | exact Nat.le_of_ble_eq_true rfl | exact Nat.zero_le _⟩ dX10_advance_58 (fun r2810 hr2810 => ?_)
        refine pS hC hK hl (t_letter l G r2810) si_X10_82 rfl rfl (Nat.le_of_ble_eq_true rfl) ⟨Nat.le_of_ble_eq_true rfl, Nat.le_of_ble_eq_true rfl⟩ ⟨by first | exact Nat.le_of_ble_eq_true rfl | exact Nat.zero_le _, by first | exact Nat.le_of_ble_eq_true rfl | exact Nat.zero_le _⟩ dX10_advance_61 (fun r2811 hr2811 => ?_)
        rcases hr2811 with rfl | rfl
        · refine lv_if_eq (tgt := 111) hx hb dX10_advance_64 (by decide) (fun c9 => absurd c9 (by decide)) (fun _ => ?_)
          refine lv_aload_n hx hb dX10_advance_67 rfl (lv_at hl 0 rfl) ?_
          refine lv_bipush (v := (-2)) hx hb dX10_advance_68 (by decide) ?_
          refine pf_X10_31 hC rfl hK hP hD hS 0 (ws' := [(h0, .inr (10, [.ref tby, .int (nI kt), .ref tln, .ref tsp, .int (-2), .int (nI jA), .int (nI jA), .int tf9])), (tby, .inl (G.2.1, 240, .inl fby))]) rfl (Nat.le_of_ble_eq_true rfl) rfl rfl rfl dX10_advance_70 (fun H locs hP hD hS => ?_)
          have keyB : ∀ (nB jB : Nat) (H : Heap) (locs : List Loc) (ls : Array Slot), kt ≤ jB + nB → jB ≤ 240 → va_P G.1 vwCl [(h0, .inr (10, [.ref tby, .int (nI kt), .ref tln, .ref tsp, .int (-2), .int (nI jA), .int (nI jB), .int tf9])), (tby, .inl (G.2.1, 240, .inl fby))] H → va_D A [(h0, .inr (10, [.ref tby, .int (nI kt), .ref tln, .ref tsp, .int (-2), .int (nI jA), .int (nI jB), .int tf9])), (tby, .inl (G.2.1, 240, .inl fby))] → va_S A s.heap H locs → lv_has ls 1 [(0, .ref h0)] → W p l e (RM 3 0 0) s m ([.ref h0] : List Value).toArray below meth c H locs 0 0 (MQ below (QV G (fun u : Int32 × Nat × Nat => u.2.1 ≤ 240 ∧ u.2.2 ≤ 240) (fun u : Int32 × Nat × Nat => [(h0, .inr (10, [.ref tby, .int (nI kt), .ref tln, .ref tsp, .int u.1, .int (nI u.2.1), .int (nI u.2.2), .int tf9])), (tby, .inl (G.2.1, 240, .inl fby))]) A) ([.ref h0] : List Value).toArray s 0 0 A) (F0 m 73 ls []) := by
            intro nB
            induction nB with
            | zero =>
              intro jB H locs ls hkB hmB hP hD hS hl
              have hzB : nI kt ≤ nI jB := (nI_leI (by omega) (by omega)).mpr (by omega)
              refine lv_aload_n hx hb dX10_advance_73 rfl (lv_at hl 0 rfl) ?_
              refine gf_X10_37 hC rfl hK hP 0 rfl rfl dX10_advance_74 ?_
              refine lv_aload_n hx hb dX10_advance_77 rfl (lv_at hl 0 rfl) ?_
              refine gf_X10_27 hC rfl hK hP 0 rfl rfl dX10_advance_78 ?_
              refine lv_icmp_ge (tgt := 199) hx hb dX10_advance_81 (by decide) (fun _ => ?_) (fun c9 => absurd (hzB) c9)
              exact RV hC hP hD hS [0, 1] ((-2), jA, jB) rfl rfl (by decide) (by dsimp only; omega) dX10_advance_199
            | succ nB ihB =>
              intro jB H locs ls hkB hmB hP hD hS hl
              refine lv_aload_n hx hb dX10_advance_73 rfl (lv_at hl 0 rfl) ?_
              refine gf_X10_37 hC rfl hK hP 0 rfl rfl dX10_advance_74 ?_
              refine lv_aload_n hx hb dX10_advance_77 rfl (lv_at hl 0 rfl) ?_
              refine gf_X10_27 hC rfl hK hP 0 rfl rfl dX10_advance_78 ?_
              refine lv_icmp_ge (tgt := 199) hx hb dX10_advance_81 (by decide) (fun c_81_2813 => ?_) (fun c_81_2813 => ?_)
              · exact RV hC hP hD hS [0, 1] ((-2), jA, jB) rfl rfl (by decide) (by dsimp only; omega) dX10_advance_199
              · refine lv_aload_n hx hb dX10_advance_84 rfl (lv_at hl 0 rfl) ?_
                refine lv_aload_n hx hb dX10_advance_85 rfl (lv_at hl 0 rfl) ?_
                refine gf_X10_37 hC rfl hK hP 0 rfl rfl dX10_advance_86 ?_
                refine pV hC hK hl hP hD (t_byteAt l G h0 (nI jB) tby kt tln tsp (-2) (nI jA) (nI jB) tf9 fby) si_X10_78 [0, 1] rfl rfl (by decide) rfl rfl rfl rfl rfl (Nat.le_of_ble_eq_true rfl) ⟨Nat.le_of_ble_eq_true rfl, Nat.le_of_ble_eq_true rfl⟩ ⟨by first | exact Nat.le_of_ble_eq_true rfl | exact Nat.zero_le _, by first | exact Nat.le_of_ble_eq_true rfl | exact Nat.zero_le _⟩ dX10_advance_89 (fun r2814 hr2814 => ?_)
                refine pS hC hK hl (t_letter l G r2814) si_X10_82 rfl rfl (Nat.le_of_ble_eq_true rfl) ⟨Nat.le_of_ble_eq_true rfl, Nat.le_of_ble_eq_true rfl⟩ ⟨by first | exact Nat.le_of_ble_eq_true rfl | exact Nat.zero_le _, by first | exact Nat.le_of_ble_eq_true rfl | exact Nat.zero_le _⟩ dX10_advance_92 (fun r2815 hr2815 => ?_)
                rcases hr2815 with rfl | rfl
                · refine lv_if_eq (tgt := 199) hx hb dX10_advance_95 (by decide) (fun c9 => absurd c9 (by decide)) (fun _ => ?_)
                  refine lv_aload_n hx hb dX10_advance_98 rfl (lv_at hl 0 rfl) ?_
                  refine lv_dup hx hb dX10_advance_99 rfl ?_
                  refine gf_X10_37 hC rfl hK hP 0 rfl rfl dX10_advance_100 ?_
                  refine lv_iconst (v := 1) hx hb dX10_advance_103 (by decide) ?_
                  refine lv_iadd hx hb dX10_advance_104 ?_
                  refine eqi (x1 := nI (jB + 1)) (nI_1 _) ?_
                  refine pf_X10_37 hC rfl hK hP hD hS 0 (ws' := [(h0, .inr (10, [.ref tby, .int (nI kt), .ref tln, .ref tsp, .int (-2), .int (nI jA), .int (nI (jB + 1)), .int tf9])), (tby, .inl (G.2.1, 240, .inl fby))]) rfl (Nat.le_of_ble_eq_true rfl) rfl rfl rfl dX10_advance_105 (fun H locs hP hD hS => ?_)
                  refine lv_goto (tgt := 73) hx hb dX10_advance_108 (by decide) ?_
                  have hnB9 := nge_nat (R := kt) (k := jB) (by omega) (by omega) c_81_2813
                  exact ihB (jB + 1) _ _ _ (by omega) (by omega) hP hD hS (lv_sub hl [0] rfl)
                · refine lv_if_eq (tgt := 199) hx hb dX10_advance_95 (by decide) (fun _ => ?_) (fun c9 => absurd (by decide) c9)
                  exact RV hC hP hD hS [0, 1] ((-2), jA, jB) rfl rfl (by decide) (by dsimp only; omega) dX10_advance_199
          exact keyB kt jA _ _ _ (by omega) (by omega) hP hD hS (lv_sub hl [0] rfl)
        · refine lv_if_eq (tgt := 111) hx hb dX10_advance_64 (by decide) (fun _ => ?_) (fun c9 => absurd (by decide) c9)
          refine lv_aload_n hx hb dX10_advance_111 rfl (lv_at hl 0 rfl) ?_
          refine lv_aload_n hx hb dX10_advance_112 rfl (lv_at hl 0 rfl) ?_
          refine gf_X10_34 hC rfl hK hP 0 rfl rfl dX10_advance_113 ?_
          refine pV hC hK hl hP hD (t_byteAt l G h0 (nI jA) tby kt tln tsp tkd (nI jA) (nI jA) tf9 fby) si_X10_78 [0, 1] rfl rfl (by decide) rfl rfl rfl rfl rfl (Nat.le_of_ble_eq_true rfl) ⟨Nat.le_of_ble_eq_true rfl, Nat.le_of_ble_eq_true rfl⟩ ⟨by first | exact Nat.le_of_ble_eq_true rfl | exact Nat.zero_le _, by first | exact Nat.le_of_ble_eq_true rfl | exact Nat.zero_le _⟩ dX10_advance_116 (fun r2817 hr2817 => ?_)
          refine pS hC hK hl (t_digit l G r2817) si_X10_86 rfl rfl (Nat.le_of_ble_eq_true rfl) ⟨Nat.le_of_ble_eq_true rfl, Nat.le_of_ble_eq_true rfl⟩ ⟨by first | exact Nat.le_of_ble_eq_true rfl | exact Nat.zero_le _, by first | exact Nat.le_of_ble_eq_true rfl | exact Nat.zero_le _⟩ dX10_advance_119 (fun r2818 hr2818 => ?_)
          rcases hr2818 with rfl | rfl
          · refine lv_if_eq (tgt := 169) hx hb dX10_advance_122 (by decide) (fun c9 => absurd c9 (by decide)) (fun _ => ?_)
            refine lv_aload_n hx hb dX10_advance_125 rfl (lv_at hl 0 rfl) ?_
            refine lv_bipush (v := (-3)) hx hb dX10_advance_126 (by decide) ?_
            refine pf_X10_31 hC rfl hK hP hD hS 0 (ws' := [(h0, .inr (10, [.ref tby, .int (nI kt), .ref tln, .ref tsp, .int (-3), .int (nI jA), .int (nI jA), .int tf9])), (tby, .inl (G.2.1, 240, .inl fby))]) rfl (Nat.le_of_ble_eq_true rfl) rfl rfl rfl dX10_advance_128 (fun H locs hP hD hS => ?_)
            have keyC : ∀ (nC jC : Nat) (H : Heap) (locs : List Loc) (ls : Array Slot), kt ≤ jC + nC → jC ≤ 240 → va_P G.1 vwCl [(h0, .inr (10, [.ref tby, .int (nI kt), .ref tln, .ref tsp, .int (-3), .int (nI jA), .int (nI jC), .int tf9])), (tby, .inl (G.2.1, 240, .inl fby))] H → va_D A [(h0, .inr (10, [.ref tby, .int (nI kt), .ref tln, .ref tsp, .int (-3), .int (nI jA), .int (nI jC), .int tf9])), (tby, .inl (G.2.1, 240, .inl fby))] → va_S A s.heap H locs → lv_has ls 1 [(0, .ref h0)] → W p l e (RM 3 0 0) s m ([.ref h0] : List Value).toArray below meth c H locs 0 0 (MQ below (QV G (fun u : Int32 × Nat × Nat => u.2.1 ≤ 240 ∧ u.2.2 ≤ 240) (fun u : Int32 × Nat × Nat => [(h0, .inr (10, [.ref tby, .int (nI kt), .ref tln, .ref tsp, .int u.1, .int (nI u.2.1), .int (nI u.2.2), .int tf9])), (tby, .inl (G.2.1, 240, .inl fby))]) A) ([.ref h0] : List Value).toArray s 0 0 A) (F0 m 131 ls []) := by
              intro nC
              induction nC with
              | zero =>
                intro jC H locs ls hkC hmC hP hD hS hl
                have hzC : nI kt ≤ nI jC := (nI_leI (by omega) (by omega)).mpr (by omega)
                refine lv_aload_n hx hb dX10_advance_131 rfl (lv_at hl 0 rfl) ?_
                refine gf_X10_37 hC rfl hK hP 0 rfl rfl dX10_advance_132 ?_
                refine lv_aload_n hx hb dX10_advance_135 rfl (lv_at hl 0 rfl) ?_
                refine gf_X10_27 hC rfl hK hP 0 rfl rfl dX10_advance_136 ?_
                refine lv_icmp_ge (tgt := 199) hx hb dX10_advance_139 (by decide) (fun _ => ?_) (fun c9 => absurd (hzC) c9)
                exact RV hC hP hD hS [0, 1] ((-3), jA, jC) rfl rfl (by decide) (by dsimp only; omega) dX10_advance_199
              | succ nC ihC =>
                intro jC H locs ls hkC hmC hP hD hS hl
                refine lv_aload_n hx hb dX10_advance_131 rfl (lv_at hl 0 rfl) ?_
                refine gf_X10_37 hC rfl hK hP 0 rfl rfl dX10_advance_132 ?_
                refine lv_aload_n hx hb dX10_advance_135 rfl (lv_at hl 0 rfl) ?_
                refine gf_X10_27 hC rfl hK hP 0 rfl rfl dX10_advance_136 ?_
                refine lv_icmp_ge (tgt := 199) hx hb dX10_advance_139 (by decide) (fun c_139_2820 => ?_) (fun c_139_2820 => ?_)
                · exact RV hC hP hD hS [0, 1] ((-3), jA, jC) rfl rfl (by decide) (by dsimp only; omega) dX10_advance_199
                · refine lv_aload_n hx hb dX10_advance_142 rfl (lv_at hl 0 rfl) ?_
                  refine lv_aload_n hx hb dX10_advance_143 rfl (lv_at hl 0 rfl) ?_
                  refine gf_X10_37 hC rfl hK hP 0 rfl rfl dX10_advance_144 ?_
                  refine pV hC hK hl hP hD (t_byteAt l G h0 (nI jC) tby kt tln tsp (-3) (nI jA) (nI jC) tf9 fby) si_X10_78 [0, 1] rfl rfl (by decide) rfl rfl rfl rfl rfl (Nat.le_of_ble_eq_true rfl) ⟨Nat.le_of_ble_eq_true rfl, Nat.le_of_ble_eq_true rfl⟩ ⟨by first | exact Nat.le_of_ble_eq_true rfl | exact Nat.zero_le _, by first | exact Nat.le_of_ble_eq_true rfl | exact Nat.zero_le _⟩ dX10_advance_147 (fun r2821 hr2821 => ?_)
                  refine pS hC hK hl (t_digit l G r2821) si_X10_86 rfl rfl (Nat.le_of_ble_eq_true rfl) ⟨Nat.le_of_ble_eq_true rfl, Nat.le_of_ble_eq_true rfl⟩ ⟨by first | exact Nat.le_of_ble_eq_true rfl | exact Nat.zero_le _, by first | exact Nat.le_of_ble_eq_true rfl | exact Nat.zero_le _⟩ dX10_advance_150 (fun r2822 hr2822 => ?_)
                  rcases hr2822 with rfl | rfl
                  · refine lv_if_eq (tgt := 199) hx hb dX10_advance_153 (by decide) (fun c9 => absurd c9 (by decide)) (fun _ => ?_)
                    refine lv_aload_n hx hb dX10_advance_156 rfl (lv_at hl 0 rfl) ?_
                    refine lv_dup hx hb dX10_advance_157 rfl ?_
                    refine gf_X10_37 hC rfl hK hP 0 rfl rfl dX10_advance_158 ?_
                    refine lv_iconst (v := 1) hx hb dX10_advance_161 (by decide) ?_
                    refine lv_iadd hx hb dX10_advance_162 ?_
                    refine eqi (x1 := nI (jC + 1)) (nI_1 _) ?_
                    refine pf_X10_37 hC rfl hK hP hD hS 0 (ws' := [(h0, .inr (10, [.ref tby, .int (nI kt), .ref tln, .ref tsp, .int (-3), .int (nI jA), .int (nI (jC + 1)), .int tf9])), (tby, .inl (G.2.1, 240, .inl fby))]) rfl (Nat.le_of_ble_eq_true rfl) rfl rfl rfl dX10_advance_163 (fun H locs hP hD hS => ?_)
                    refine lv_goto (tgt := 131) hx hb dX10_advance_166 (by decide) ?_
                    have hnC9 := nge_nat (R := kt) (k := jC) (by omega) (by omega) c_139_2820
                    exact ihC (jC + 1) _ _ _ (by omega) (by omega) hP hD hS (lv_sub hl [0] rfl)
                  · refine lv_if_eq (tgt := 199) hx hb dX10_advance_153 (by decide) (fun _ => ?_) (fun c9 => absurd (by decide) c9)
                    exact RV hC hP hD hS [0, 1] ((-3), jA, jC) rfl rfl (by decide) (by dsimp only; omega) dX10_advance_199
            exact keyC kt jA _ _ _ (by omega) (by omega) hP hD hS (lv_sub hl [0] rfl)
          · refine lv_if_eq (tgt := 169) hx hb dX10_advance_122 (by decide) (fun _ => ?_) (fun c9 => absurd (by decide) c9)
            refine lv_aload_n hx hb dX10_advance_169 rfl (lv_at hl 0 rfl) ?_
            refine lv_aload_n hx hb dX10_advance_170 rfl (lv_at hl 0 rfl) ?_
            refine lv_aload_n hx hb dX10_advance_171 rfl (lv_at hl 0 rfl) ?_
            refine gf_X10_34 hC rfl hK hP 0 rfl rfl dX10_advance_172 ?_
            refine pV hC hK hl hP hD (t_byteAtN l G h0 jA tby kt tln tsp tkd (nI jA) (nI jA) tf9 fby (by omega)) si_X10_78 [0, 1] rfl rfl (by decide) rfl rfl rfl rfl rfl (Nat.le_of_ble_eq_true rfl) ⟨Nat.le_of_ble_eq_true rfl, Nat.le_of_ble_eq_true rfl⟩ ⟨by first | exact Nat.le_of_ble_eq_true rfl | exact Nat.zero_le _, by first | exact Nat.le_of_ble_eq_true rfl | exact Nat.zero_le _⟩ dX10_advance_175 (fun r2824 hr2824 => ?_)
            rcases hr2824 with rfl | ⟨rfl, a2825⟩
            · refine pf_X10_31 hC rfl hK hP hD hS 0 (ws' := [(h0, .inr (10, [.ref tby, .int (nI kt), .ref tln, .ref tsp, .int (-1), .int (nI jA), .int (nI jA), .int tf9])), (tby, .inl (G.2.1, 240, .inl fby))]) rfl (Nat.le_of_ble_eq_true rfl) rfl rfl rfl dX10_advance_178 (fun H locs hP hD hS => ?_)
              refine lv_aload_n hx hb dX10_advance_181 rfl (lv_at hl 0 rfl) ?_
              refine gf_X10_31 hC rfl hK hP 0 rfl rfl dX10_advance_182 ?_
              refine lv_iconst (v := (-1)) hx hb dX10_advance_185 (by decide) ?_
              refine lv_icmp_eq (tgt := 199) hx hb dX10_advance_186 (by decide) (fun _ => ?_) (fun c9 => absurd (by decide) c9)
              exact RV hC hP hD hS [0, 1] ((-1), jA, jA) rfl rfl (by decide) (by dsimp only; omega) dX10_advance_199
            · refine pf_X10_31 hC rfl hK hP hD hS 0 (ws' := [(h0, .inr (10, [.ref tby, .int (nI kt), .ref tln, .ref tsp, .int (fby jA), .int (nI jA), .int (nI jA), .int tf9])), (tby, .inl (G.2.1, 240, .inl fby))]) rfl (Nat.le_of_ble_eq_true rfl) rfl rfl rfl dX10_advance_178 (fun H locs hP hD hS => ?_)
              refine lv_aload_n hx hb dX10_advance_181 rfl (lv_at hl 0 rfl) ?_
              refine gf_X10_31 hC rfl hK hP 0 rfl rfl dX10_advance_182 ?_
              refine lv_iconst (v := (-1)) hx hb dX10_advance_185 (by decide) ?_
              refine lv_icmp_eq (tgt := 199) hx hb dX10_advance_186 (by decide) (fun c_186_2826 => ?_) (fun c_186_2826 => ?_)
              · exact RV hC hP hD hS [0, 1] ((fby jA), jA, jA) rfl rfl (by decide) (by dsimp only; omega) dX10_advance_199
              · refine lv_aload_n hx hb dX10_advance_189 rfl (lv_at hl 0 rfl) ?_
                refine lv_dup hx hb dX10_advance_190 rfl ?_
                refine gf_X10_37 hC rfl hK hP 0 rfl rfl dX10_advance_191 ?_
                refine lv_iconst (v := 1) hx hb dX10_advance_194 (by decide) ?_
                refine lv_iadd hx hb dX10_advance_195 ?_
                refine eqi (x1 := nI (jA + 1)) (nI_1 _) ?_
                refine pf_X10_37 hC rfl hK hP hD hS 0 (ws' := [(h0, .inr (10, [.ref tby, .int (nI kt), .ref tln, .ref tsp, .int (fby jA), .int (nI jA), .int (nI (jA + 1)), .int tf9])), (tby, .inl (G.2.1, 240, .inl fby))]) rfl (Nat.le_of_ble_eq_true rfl) rfl rfl rfl dX10_advance_196 (fun H locs hP hD hS => ?_)
                exact RV hC hP hD hS [0, 1] ((fby jA), jA, (jA + 1)) rfl rfl (by decide) (by dsimp only; omega) dX10_advance_199
      · refine lv_aload_n hx hb dX10_advance_19 rfl (lv_at hl 0 rfl) ?_
        refine lv_aload_n hx hb dX10_advance_20 rfl (lv_at hl 0 rfl) ?_
        refine gf_X10_34 hC rfl hK hP 0 rfl rfl dX10_advance_21 ?_
        refine pV hC hK hl hP hD (t_byteAt l G h0 (nI jA) tby kt tln tsp tkd (nI jA) (nI kn) tf9 fby) si_X10_78 [0, 1] rfl rfl (by decide) rfl rfl rfl rfl rfl (Nat.le_of_ble_eq_true rfl) ⟨Nat.le_of_ble_eq_true rfl, Nat.le_of_ble_eq_true rfl⟩ ⟨by first | exact Nat.le_of_ble_eq_true rfl | exact Nat.zero_le _, by first | exact Nat.le_of_ble_eq_true rfl | exact Nat.zero_le _⟩ dX10_advance_24 (fun r2827 hr2827 => ?_)
        refine lv_bipush (v := 32) hx hb dX10_advance_27 (by decide) ?_
        refine lv_icmp_ne (tgt := 45) hx hb dX10_advance_29 (by decide) (fun c_29_2828 => ?_) (fun c_29_2828 => ?_)
        · refine lv_aload_n hx hb dX10_advance_45 rfl (lv_at hl 0 rfl) ?_
          refine lv_aload_n hx hb dX10_advance_46 rfl (lv_at hl 0 rfl) ?_
          refine gf_X10_34 hC rfl hK hP 0 rfl rfl dX10_advance_47 ?_
          refine pf_X10_37 hC rfl hK hP hD hS 0 (ws' := [(h0, .inr (10, [.ref tby, .int (nI kt), .ref tln, .ref tsp, .int tkd, .int (nI jA), .int (nI jA), .int tf9])), (tby, .inl (G.2.1, 240, .inl fby))]) rfl (Nat.le_of_ble_eq_true rfl) rfl rfl rfl dX10_advance_50 (fun H locs hP hD hS => ?_)
          refine lv_aload_n hx hb dX10_advance_53 rfl (lv_at hl 0 rfl) ?_
          refine lv_aload_n hx hb dX10_advance_54 rfl (lv_at hl 0 rfl) ?_
          refine gf_X10_34 hC rfl hK hP 0 rfl rfl dX10_advance_55 ?_
          refine pV hC hK hl hP hD (t_byteAt l G h0 (nI jA) tby kt tln tsp tkd (nI jA) (nI jA) tf9 fby) si_X10_78 [0, 1] rfl rfl (by decide) rfl rfl rfl rfl rfl (Nat.le_of_ble_eq_true rfl) ⟨Nat.le_of_ble_eq_true rfl, Nat.le_of_ble_eq_true rfl⟩ ⟨by first | exact Nat.le_of_ble_eq_true rfl | exact Nat.zero_le _, by first | exact Nat.le_of_ble_eq_true rfl | exact Nat.zero_le _⟩ dX10_advance_58 (fun r2829 hr2829 => ?_)
          refine pS hC hK hl (t_letter l G r2829) si_X10_82 rfl rfl (Nat.le_of_ble_eq_true rfl) ⟨Nat.le_of_ble_eq_true rfl, Nat.le_of_ble_eq_true rfl⟩ ⟨by first | exact Nat.le_of_ble_eq_true rfl | exact Nat.zero_le _, by first | exact Nat.le_of_ble_eq_true rfl | exact Nat.zero_le _⟩ dX10_advance_61 (fun r2830 hr2830 => ?_)
          rcases hr2830 with rfl | rfl
          · refine lv_if_eq (tgt := 111) hx hb dX10_advance_64 (by decide) (fun c9 => absurd c9 (by decide)) (fun _ => ?_)
            refine lv_aload_n hx hb dX10_advance_67 rfl (lv_at hl 0 rfl) ?_
            refine lv_bipush (v := (-2)) hx hb dX10_advance_68 (by decide) ?_
            refine pf_X10_31 hC rfl hK hP hD hS 0 (ws' := [(h0, .inr (10, [.ref tby, .int (nI kt), .ref tln, .ref tsp, .int (-2), .int (nI jA), .int (nI jA), .int tf9])), (tby, .inl (G.2.1, 240, .inl fby))]) rfl (Nat.le_of_ble_eq_true rfl) rfl rfl rfl dX10_advance_70 (fun H locs hP hD hS => ?_)
            have keyB : ∀ (nB jB : Nat) (H : Heap) (locs : List Loc) (ls : Array Slot), kt ≤ jB + nB → jB ≤ 240 → va_P G.1 vwCl [(h0, .inr (10, [.ref tby, .int (nI kt), .ref tln, .ref tsp, .int (-2), .int (nI jA), .int (nI jB), .int tf9])), (tby, .inl (G.2.1, 240, .inl fby))] H → va_D A [(h0, .inr (10, [.ref tby, .int (nI kt), .ref tln, .ref tsp, .int (-2), .int (nI jA), .int (nI jB), .int tf9])), (tby, .inl (G.2.1, 240, .inl fby))] → va_S A s.heap H locs → lv_has ls 1 [(0, .ref h0)] → W p l e (RM 3 0 0) s m ([.ref h0] : List Value).toArray below meth c H locs 0 0 (MQ below (QV G (fun u : Int32 × Nat × Nat => u.2.1 ≤ 240 ∧ u.2.2 ≤ 240) (fun u : Int32 × Nat × Nat => [(h0, .inr (10, [.ref tby, .int (nI kt), .ref tln, .ref tsp, .int u.1, .int (nI u.2.1), .int (nI u.2.2), .int tf9])), (tby, .inl (G.2.1, 240, .inl fby))]) A) ([.ref h0] : List Value).toArray s 0 0 A) (F0 m 73 ls []) := by
              intro nB
              induction nB with
              | zero =>
                intro jB H locs ls hkB hmB hP hD hS hl
                have hzB : nI kt ≤ nI jB := (nI_leI (by omega) (by omega)).mpr (by omega)
                refine lv_aload_n hx hb dX10_advance_73 rfl (lv_at hl 0 rfl) ?_
                refine gf_X10_37 hC rfl hK hP 0 rfl rfl dX10_advance_74 ?_
                refine lv_aload_n hx hb dX10_advance_77 rfl (lv_at hl 0 rfl) ?_
                refine gf_X10_27 hC rfl hK hP 0 rfl rfl dX10_advance_78 ?_
                refine lv_icmp_ge (tgt := 199) hx hb dX10_advance_81 (by decide) (fun _ => ?_) (fun c9 => absurd (hzB) c9)
                exact RV hC hP hD hS [0, 1] ((-2), jA, jB) rfl rfl (by decide) (by dsimp only; omega) dX10_advance_199
              | succ nB ihB =>
                intro jB H locs ls hkB hmB hP hD hS hl
                refine lv_aload_n hx hb dX10_advance_73 rfl (lv_at hl 0 rfl) ?_
                refine gf_X10_37 hC rfl hK hP 0 rfl rfl dX10_advance_74 ?_
                refine lv_aload_n hx hb dX10_advance_77 rfl (lv_at hl 0 rfl) ?_
                refine gf_X10_27 hC rfl hK hP 0 rfl rfl dX10_advance_78 ?_
                refine lv_icmp_ge (tgt := 199) hx hb dX10_advance_81 (by decide) (fun c_81_2832 => ?_) (fun c_81_2832 => ?_)
                · exact RV hC hP hD hS [0, 1] ((-2), jA, jB) rfl rfl (by decide) (by dsimp only; omega) dX10_advance_199
                · refine lv_aload_n hx hb dX10_advance_84 rfl (lv_at hl 0 rfl) ?_
                  refine lv_aload_n hx hb dX10_advance_85 rfl (lv_at hl 0 rfl) ?_
                  refine gf_X10_37 hC rfl hK hP 0 rfl rfl dX10_advance_86 ?_
                  refine pV hC hK hl hP hD (t_byteAt l G h0 (nI jB) tby kt tln tsp (-2) (nI jA) (nI jB) tf9 fby) si_X10_78 [0, 1] rfl rfl (by decide) rfl rfl rfl rfl rfl (Nat.le_of_ble_eq_true rfl) ⟨Nat.le_of_ble_eq_true rfl, Nat.le_of_ble_eq_true rfl⟩ ⟨by first | exact Nat.le_of_ble_eq_true rfl | exact Nat.zero_le _, by first | exact Nat.le_of_ble_eq_true rfl | exact Nat.zero_le _⟩ dX10_advance_89 (fun r2833 hr2833 => ?_)
                  refine pS hC hK hl (t_letter l G r2833) si_X10_82 rfl rfl (Nat.le_of_ble_eq_true rfl) ⟨Nat.le_of_ble_eq_true rfl, Nat.le_of_ble_eq_true rfl⟩ ⟨by first | exact Nat.le_of_ble_eq_true rfl | exact Nat.zero_le _, by first | exact Nat.le_of_ble_eq_true rfl | exact Nat.zero_le _⟩ dX10_advance_92 (fun r2834 hr2834 => ?_)
                  rcases hr2834 with rfl | rfl
                  · refine lv_if_eq (tgt := 199) hx hb dX10_advance_95 (by decide) (fun c9 => absurd c9 (by decide)) (fun _ => ?_)
                    refine lv_aload_n hx hb dX10_advance_98 rfl (lv_at hl 0 rfl) ?_
                    refine lv_dup hx hb dX10_advance_99 rfl ?_
                    refine gf_X10_37 hC rfl hK hP 0 rfl rfl dX10_advance_100 ?_
                    refine lv_iconst (v := 1) hx hb dX10_advance_103 (by decide) ?_
                    refine lv_iadd hx hb dX10_advance_104 ?_
                    refine eqi (x1 := nI (jB + 1)) (nI_1 _) ?_
                    refine pf_X10_37 hC rfl hK hP hD hS 0 (ws' := [(h0, .inr (10, [.ref tby, .int (nI kt), .ref tln, .ref tsp, .int (-2), .int (nI jA), .int (nI (jB + 1)), .int tf9])), (tby, .inl (G.2.1, 240, .inl fby))]) rfl (Nat.le_of_ble_eq_true rfl) rfl rfl rfl dX10_advance_105 (fun H locs hP hD hS => ?_)
                    refine lv_goto (tgt := 73) hx hb dX10_advance_108 (by decide) ?_
                    have hnB9 := nge_nat (R := kt) (k := jB) (by omega) (by omega) c_81_2832
                    exact ihB (jB + 1) _ _ _ (by omega) (by omega) hP hD hS (lv_sub hl [0] rfl)
                  · refine lv_if_eq (tgt := 199) hx hb dX10_advance_95 (by decide) (fun _ => ?_) (fun c9 => absurd (by decide) c9)
                    exact RV hC hP hD hS [0, 1] ((-2), jA, jB) rfl rfl (by decide) (by dsimp only; omega) dX10_advance_199
            exact keyB kt jA _ _ _ (by omega) (by omega) hP hD hS (lv_sub hl [0] rfl)
          · refine lv_if_eq (tgt := 111) hx hb dX10_advance_64 (by decide) (fun _ => ?_) (fun c9 => absurd (by decide) c9)
            refine lv_aload_n hx hb dX10_advance_111 rfl (lv_at hl 0 rfl) ?_
            refine lv_aload_n hx hb dX10_advance_112 rfl (lv_at hl 0 rfl) ?_
            refine gf_X10_34 hC rfl hK hP 0 rfl rfl dX10_advance_113 ?_
            refine pV hC hK hl hP hD (t_byteAt l G h0 (nI jA) tby kt tln tsp tkd (nI jA) (nI jA) tf9 fby) si_X10_78 [0, 1] rfl rfl (by decide) rfl rfl rfl rfl rfl (Nat.le_of_ble_eq_true rfl) ⟨Nat.le_of_ble_eq_true rfl, Nat.le_of_ble_eq_true rfl⟩ ⟨by first | exact Nat.le_of_ble_eq_true rfl | exact Nat.zero_le _, by first | exact Nat.le_of_ble_eq_true rfl | exact Nat.zero_le _⟩ dX10_advance_116 (fun r2836 hr2836 => ?_)
            refine pS hC hK hl (t_digit l G r2836) si_X10_86 rfl rfl (Nat.le_of_ble_eq_true rfl) ⟨Nat.le_of_ble_eq_true rfl, Nat.le_of_ble_eq_true rfl⟩ ⟨by first | exact Nat.le_of_ble_eq_true rfl | exact Nat.zero_le _, by first | exact Nat.le_of_ble_eq_true rfl | exact Nat.zero_le _⟩ dX10_advance_119 (fun r2837 hr2837 => ?_)
            rcases hr2837 with rfl | rfl
            · refine lv_if_eq (tgt := 169) hx hb dX10_advance_122 (by decide) (fun c9 => absurd c9 (by decide)) (fun _ => ?_)
              refine lv_aload_n hx hb dX10_advance_125 rfl (lv_at hl 0 rfl) ?_
              refine lv_bipush (v := (-3)) hx hb dX10_advance_126 (by decide) ?_
              refine pf_X10_31 hC rfl hK hP hD hS 0 (ws' := [(h0, .inr (10, [.ref tby, .int (nI kt), .ref tln, .ref tsp, .int (-3), .int (nI jA), .int (nI jA), .int tf9])), (tby, .inl (G.2.1, 240, .inl fby))]) rfl (Nat.le_of_ble_eq_true rfl) rfl rfl rfl dX10_advance_128 (fun H locs hP hD hS => ?_)
              have keyC : ∀ (nC jC : Nat) (H : Heap) (locs : List Loc) (ls : Array Slot), kt ≤ jC + nC → jC ≤ 240 → va_P G.1 vwCl [(h0, .inr (10, [.ref tby, .int (nI kt), .ref tln, .ref tsp, .int (-3), .int (nI jA), .int (nI jC), .int tf9])), (tby, .inl (G.2.1, 240, .inl fby))] H → va_D A [(h0, .inr (10, [.ref tby, .int (nI kt), .ref tln, .ref tsp, .int (-3), .int (nI jA), .int (nI jC), .int tf9])), (tby, .inl (G.2.1, 240, .inl fby))] → va_S A s.heap H locs → lv_has ls 1 [(0, .ref h0)] → W p l e (RM 3 0 0) s m ([.ref h0] : List Value).toArray below meth c H locs 0 0 (MQ below (QV G (fun u : Int32 × Nat × Nat => u.2.1 ≤ 240 ∧ u.2.2 ≤ 240) (fun u : Int32 × Nat × Nat => [(h0, .inr (10, [.ref tby, .int (nI kt), .ref tln, .ref tsp, .int u.1, .int (nI u.2.1), .int (nI u.2.2), .int tf9])), (tby, .inl (G.2.1, 240, .inl fby))]) A) ([.ref h0] : List Value).toArray s 0 0 A) (F0 m 131 ls []) := by
                intro nC
                induction nC with
                | zero =>
                  intro jC H locs ls hkC hmC hP hD hS hl
                  have hzC : nI kt ≤ nI jC := (nI_leI (by omega) (by omega)).mpr (by omega)
                  refine lv_aload_n hx hb dX10_advance_131 rfl (lv_at hl 0 rfl) ?_
                  refine gf_X10_37 hC rfl hK hP 0 rfl rfl dX10_advance_132 ?_
                  refine lv_aload_n hx hb dX10_advance_135 rfl (lv_at hl 0 rfl) ?_
                  refine gf_X10_27 hC rfl hK hP 0 rfl rfl dX10_advance_136 ?_
                  refine lv_icmp_ge (tgt := 199) hx hb dX10_advance_139 (by decide) (fun _ => ?_) (fun c9 => absurd (hzC) c9)
                  exact RV hC hP hD hS [0, 1] ((-3), jA, jC) rfl rfl (by decide) (by dsimp only; omega) dX10_advance_199
                | succ nC ihC =>
                  intro jC H locs ls hkC hmC hP hD hS hl
                  refine lv_aload_n hx hb dX10_advance_131 rfl (lv_at hl 0 rfl) ?_
                  refine gf_X10_37 hC rfl hK hP 0 rfl rfl dX10_advance_132 ?_
                  refine lv_aload_n hx hb dX10_advance_135 rfl (lv_at hl 0 rfl) ?_
                  refine gf_X10_27 hC rfl hK hP 0 rfl rfl dX10_advance_136 ?_
                  refine lv_icmp_ge (tgt := 199) hx hb dX10_advance_139 (by decide) (fun c_139_2839 => ?_) (fun c_139_2839 => ?_)
                  · exact RV hC hP hD hS [0, 1] ((-3), jA, jC) rfl rfl (by decide) (by dsimp only; omega) dX10_advance_199
                  · refine lv_aload_n hx hb dX10_advance_142 rfl (lv_at hl 0 rfl) ?_
                    refine lv_aload_n hx hb dX10_advance_143 rfl (lv_at hl 0 rfl) ?_
                    refine gf_X10_37 hC rfl hK hP 0 rfl rfl dX10_advance_144 ?_
                    refine pV hC hK hl hP hD (t_byteAt l G h0 (nI jC) tby kt tln tsp (-3) (nI jA) (nI jC) tf9 fby) si_X10_78 [0, 1] rfl rfl (by decide) rfl rfl rfl rfl rfl (Nat.le_of_ble_eq_true rfl) ⟨Nat.le_of_ble_eq_true rfl, Nat.le_of_ble_eq_true rfl⟩ ⟨by first | exact Nat.le_of_ble_eq_true rfl | exact Nat.zero_le _, by first | exact Nat.le_of_ble_eq_true rfl | exact Nat.zero_le _⟩ dX10_advance_147 (fun r2840 hr2840 => ?_)
                    refine pS hC hK hl (t_digit l G r2840) si_X10_86 rfl rfl (Nat.le_of_ble_eq_true rfl) ⟨Nat.le_of_ble_eq_true rfl, Nat.le_of_ble_eq_true rfl⟩ ⟨by first | exact Nat.le_of_ble_eq_true rfl | exact Nat.zero_le _, by first | exact Nat.le_of_ble_eq_true rfl | exact Nat.zero_le _⟩ dX10_advance_150 (fun r2841 hr2841 => ?_)
                    rcases hr2841 with rfl | rfl
                    · refine lv_if_eq (tgt := 199) hx hb dX10_advance_153 (by decide) (fun c9 => absurd c9 (by decide)) (fun _ => ?_)
                      refine lv_aload_n hx hb dX10_advance_156 rfl (lv_at hl 0 rfl) ?_
                      refine lv_dup hx hb dX10_advance_157 rfl ?_
                      refine gf_X10_37 hC rfl hK hP 0 rfl rfl dX10_advance_158 ?_
                      refine lv_iconst (v := 1) hx hb dX10_advance_161 (by decide) ?_
                      refine lv_iadd hx hb dX10_advance_162 ?_
                      refine eqi (x1 := nI (jC + 1)) (nI_1 _) ?_
                      refine pf_X10_37 hC rfl hK hP hD hS 0 (ws' := [(h0, .inr (10, [.ref tby, .int (nI kt), .ref tln, .ref tsp, .int (-3), .int (nI jA), .int (nI (jC + 1)), .int tf9])), (tby, .inl (G.2.1, 240, .inl fby))]) rfl (Nat.le_of_ble_eq_true rfl) rfl rfl rfl dX10_advance_163 (fun H locs hP hD hS => ?_)
                      refine lv_goto (tgt := 131) hx hb dX10_advance_166 (by decide) ?_
                      have hnC9 := nge_nat (R := kt) (k := jC) (by omega) (by omega) c_139_2839
                      exact ihC (jC + 1) _ _ _ (by omega) (by omega) hP hD hS (lv_sub hl [0] rfl)
                    · refine lv_if_eq (tgt := 199) hx hb dX10_advance_153 (by decide) (fun _ => ?_) (fun c9 => absurd (by decide) c9)
                      exact RV hC hP hD hS [0, 1] ((-3), jA, jC) rfl rfl (by decide) (by dsimp only; omega) dX10_advance_199
              exact keyC kt jA _ _ _ (by omega) (by omega) hP hD hS (lv_sub hl [0] rfl)
            · refine lv_if_eq (tgt := 169) hx hb dX10_advance_122 (by decide) (fun _ => ?_) (fun c9 => absurd (by decide) c9)
              refine lv_aload_n hx hb dX10_advance_169 rfl (lv_at hl 0 rfl) ?_
              refine lv_aload_n hx hb dX10_advance_170 rfl (lv_at hl 0 rfl) ?_
              refine lv_aload_n hx hb dX10_advance_171 rfl (lv_at hl 0 rfl) ?_
              refine gf_X10_34 hC rfl hK hP 0 rfl rfl dX10_advance_172 ?_
              refine pV hC hK hl hP hD (t_byteAtN l G h0 jA tby kt tln tsp tkd (nI jA) (nI jA) tf9 fby (by omega)) si_X10_78 [0, 1] rfl rfl (by decide) rfl rfl rfl rfl rfl (Nat.le_of_ble_eq_true rfl) ⟨Nat.le_of_ble_eq_true rfl, Nat.le_of_ble_eq_true rfl⟩ ⟨by first | exact Nat.le_of_ble_eq_true rfl | exact Nat.zero_le _, by first | exact Nat.le_of_ble_eq_true rfl | exact Nat.zero_le _⟩ dX10_advance_175 (fun r2843 hr2843 => ?_)
              rcases hr2843 with rfl | ⟨rfl, a2844⟩
              · refine pf_X10_31 hC rfl hK hP hD hS 0 (ws' := [(h0, .inr (10, [.ref tby, .int (nI kt), .ref tln, .ref tsp, .int (-1), .int (nI jA), .int (nI jA), .int tf9])), (tby, .inl (G.2.1, 240, .inl fby))]) rfl (Nat.le_of_ble_eq_true rfl) rfl rfl rfl dX10_advance_178 (fun H locs hP hD hS => ?_)
                refine lv_aload_n hx hb dX10_advance_181 rfl (lv_at hl 0 rfl) ?_
                refine gf_X10_31 hC rfl hK hP 0 rfl rfl dX10_advance_182 ?_
                refine lv_iconst (v := (-1)) hx hb dX10_advance_185 (by decide) ?_
                refine lv_icmp_eq (tgt := 199) hx hb dX10_advance_186 (by decide) (fun _ => ?_) (fun c9 => absurd (by decide) c9)
                exact RV hC hP hD hS [0, 1] ((-1), jA, jA) rfl rfl (by decide) (by dsimp only; omega) dX10_advance_199
              · refine pf_X10_31 hC rfl hK hP hD hS 0 (ws' := [(h0, .inr (10, [.ref tby, .int (nI kt), .ref tln, .ref tsp, .int (fby jA), .int (nI jA), .int (nI jA), .int tf9])), (tby, .inl (G.2.1, 240, .inl fby))]) rfl (Nat.le_of_ble_eq_true rfl) rfl rfl rfl dX10_advance_178 (fun H locs hP hD hS => ?_)
                refine lv_aload_n hx hb dX10_advance_181 rfl (lv_at hl 0 rfl) ?_
                refine gf_X10_31 hC rfl hK hP 0 rfl rfl dX10_advance_182 ?_
                refine lv_iconst (v := (-1)) hx hb dX10_advance_185 (by decide) ?_
                refine lv_icmp_eq (tgt := 199) hx hb dX10_advance_186 (by decide) (fun c_186_2845 => ?_) (fun c_186_2845 => ?_)
                · exact RV hC hP hD hS [0, 1] ((fby jA), jA, jA) rfl rfl (by decide) (by dsimp only; omega) dX10_advance_199
                · refine lv_aload_n hx hb dX10_advance_189 rfl (lv_at hl 0 rfl) ?_
                  refine lv_dup hx hb dX10_advance_190 rfl ?_
                  refine gf_X10_37 hC rfl hK hP 0 rfl rfl dX10_advance_191 ?_
                  refine lv_iconst (v := 1) hx hb dX10_advance_194 (by decide) ?_
                  refine lv_iadd hx hb dX10_advance_195 ?_
                  refine eqi (x1 := nI (jA + 1)) (nI_1 _) ?_
                  refine pf_X10_37 hC rfl hK hP hD hS 0 (ws' := [(h0, .inr (10, [.ref tby, .int (nI kt), .ref tln, .ref tsp, .int (fby jA), .int (nI jA), .int (nI (jA + 1)), .int tf9])), (tby, .inl (G.2.1, 240, .inl fby))]) rfl (Nat.le_of_ble_eq_true rfl) rfl rfl rfl dX10_advance_196 (fun H locs hP hD hS => ?_)
                  exact RV hC hP hD hS [0, 1] ((fby jA), jA, (jA + 1)) rfl rfl (by decide) (by dsimp only; omega) dX10_advance_199
        · refine lv_aload_n hx hb dX10_advance_32 rfl (lv_at hl 0 rfl) ?_
          refine lv_dup hx hb dX10_advance_33 rfl ?_
          refine gf_X10_34 hC rfl hK hP 0 rfl rfl dX10_advance_34 ?_
          refine lv_iconst (v := 1) hx hb dX10_advance_37 (by decide) ?_
          refine lv_iadd hx hb dX10_advance_38 ?_
          refine eqi (x1 := nI (jA + 1)) (nI_1 _) ?_
          refine pf_X10_34 hC rfl hK hP hD hS 0 (ws' := [(h0, .inr (10, [.ref tby, .int (nI kt), .ref tln, .ref tsp, .int tkd, .int (nI (jA + 1)), .int (nI kn), .int tf9])), (tby, .inl (G.2.1, 240, .inl fby))]) rfl (Nat.le_of_ble_eq_true rfl) rfl rfl rfl dX10_advance_39 (fun H locs hP hD hS => ?_)
          refine lv_goto (tgt := 8) hx hb dX10_advance_42 (by decide) ?_
          have hnA9 := nge_nat (R := kt) (k := jA) (by omega) (by omega) c_16_2809
          exact ihA (jA + 1) _ _ _ (by omega) (by omega) hP hD hS (lv_sub hl [0] rfl)
  exact keyA kt kn _ _ _ (by omega) (by omega) hP hD hS (lv_sub hl [0] rfl)
set_option maxHeartbeats 4000000 in
set_option maxRecDepth 100000 in
theorem t_isName (l : Launch) (G : GG) (K : OO) (i9 : Nat) (h0 : Nat) (tby : Nat) (kt : Nat) (tln : Nat) (tsp : Nat) (tkd : Int32) (ks : Nat) (kn : Nat) (tf9 : Int32) (fby : Nat → Int32) (hkt : kt ≤ 240) (hks : ks ≤ 240) (hkn : kn ≤ 240) (hi9 : i9 < 16) : MPo l G K yX10_isName cX10_isName 3 (some .boolean) 6 [.ref h0, .ref (K.1 i9)] [(h0, .inr (10, [.ref tby, .int (nI kt), .ref tln, .ref tsp, .int tkd, .int (nI ks), .int (nI kn), .int tf9])), (tby, .inl (G.2.1, 240, .inl fby))] (fun r : Int32 => r = 1 ∨ r = 0) := by
  refine MPo.start (by decide +kernel) (Nat.le_of_ble_eq_true rfl) ?_
  intro p e s m below meth c ls hC hK hP hD hl hO hS
  have hl : lv_has ls 3 [(0, .ref h0), (1, .ref (K.1 i9))] := hl
  obtain ⟨hx, hb, hr, hml, hB, hown, hlocks, hnm⟩ := id hC
  have hs6 := slen6 i9 hi9
  refine lv_aload_n hx hb dX10_isName_0 rfl (lv_at hl 0 rfl) ?_
  refine gf_X10_31 hC rfl hK hP 0 rfl rfl dX10_isName_1 ?_
  refine lv_bipush (v := (-2)) hx hb dX10_isName_4 (by decide) ?_
  refine lv_icmp_ne (tgt := 25) hx hb dX10_isName_6 (by decide) (fun c_6_2846 => ?_) (fun c_6_2846 => ?_)
  · refine lv_iconst (v := 0) hx hb dX10_isName_25 (by decide) ?_
    exact RP (v := 0) hC (Or.inr (rfl)) (by decide +kernel) dX10_isName_26
  · refine lv_aload_n hx hb dX10_isName_9 rfl (lv_at hl 0 rfl) ?_
    refine gf_X10_37 hC rfl hK hP 0 rfl rfl dX10_isName_10 ?_
    refine lv_aload_n hx hb dX10_isName_13 rfl (lv_at hl 0 rfl) ?_
    refine gf_X10_34 hC rfl hK hP 0 rfl rfl dX10_isName_14 ?_
    refine lv_isub hx hb dX10_isName_17 ?_
    refine lv_aload_n hx hb dX10_isName_18 rfl (lv_at hl 1 rfl) ?_
    refine pTo (i := i9) (hi9) hO hS hC hK hl (j_len l G K i9 ((hi9))) si_X10_93 rfl rfl (Nat.le_of_ble_eq_true rfl) ⟨Nat.le_of_ble_eq_true rfl, Nat.le_of_ble_eq_true rfl⟩ ⟨by first | exact Nat.le_of_ble_eq_true rfl | exact Nat.zero_le _, by first | exact Nat.le_of_ble_eq_true rfl | exact Nat.zero_le _⟩ dX10_isName_19 (fun r2847 hr2847 => ?_)
    obtain rfl := hr2847
    refine lv_icmp_eq (tgt := 27) hx hb dX10_isName_22 (by decide) (fun c_22_2849 => ?_) (fun c_22_2849 => ?_)
    · refine lv_iconst (v := 0) hx hb dX10_isName_27 (by decide) ?_
      refine lv_istore_n (lv' := [(2, .int 0), (0, .ref h0), (1, .ref (K.1 i9))]) hx hb dX10_isName_28 rfl hl (by decide) rfl (fun ls hl => ?_)
      have keyP : ∀ (nP kP : Nat) (ls : Array Slot), kP + nP = (SLEN.getD i9 0) → lv_has ls 3 [(2, .int (nI kP)), (0, .ref h0), (1, .ref (K.1 i9))] → W p l e (RM 6 0 0) s m ([.ref h0, .ref (K.1 i9)] : List Value).toArray below meth c s.heap [] 0 0 (MQ below (QP (fun r : Int32 => r = 1 ∨ r = 0)) ([.ref h0, .ref (K.1 i9)] : List Value).toArray s 0 0 (fun _ => False)) (F0 m 29 ls []) := by
        intro nP
        induction nP with
        | zero =>
          intro kP ls hkP hl
          obtain rfl : (SLEN.getD i9 0) = kP := by omega
          have hl : lv_has ls 3 [(2, .int (nI (SLEN.getD i9 0))), (0, .ref h0), (1, .ref (K.1 i9))] := hl
          refine lv_iload_n hx hb dX10_isName_29 rfl (lv_at hl 0 rfl) ?_
          refine lv_aload_n hx hb dX10_isName_30 rfl (lv_at hl 2 rfl) ?_
          refine pTo (i := i9) (hi9) hO hS hC hK hl (j_len l G K i9 ((hi9))) si_X10_93 rfl rfl (Nat.le_of_ble_eq_true rfl) ⟨Nat.le_of_ble_eq_true rfl, Nat.le_of_ble_eq_true rfl⟩ ⟨by first | exact Nat.le_of_ble_eq_true rfl | exact Nat.zero_le _, by first | exact Nat.le_of_ble_eq_true rfl | exact Nat.zero_le _⟩ dX10_isName_31 (fun r2850 hr2850 => ?_)
          obtain rfl := hr2850
          refine lv_icmp_ge (tgt := 63) hx hb dX10_isName_34 (by decide) (fun _ => ?_) (fun c9 => absurd (Int32.le_refl _) c9)
          refine lv_iconst (v := 1) hx hb dX10_isName_63 (by decide) ?_
          exact RP (v := 1) hC (Or.inl (rfl)) (by decide +kernel) dX10_isName_64
        | succ nP ihP =>
          intro kP ls hkP hl
          refine lv_iload_n hx hb dX10_isName_29 rfl (lv_at hl 0 rfl) ?_
          refine lv_aload_n hx hb dX10_isName_30 rfl (lv_at hl 2 rfl) ?_
          refine pTo (i := i9) (hi9) hO hS hC hK hl (j_len l G K i9 ((hi9))) si_X10_93 rfl rfl (Nat.le_of_ble_eq_true rfl) ⟨Nat.le_of_ble_eq_true rfl, Nat.le_of_ble_eq_true rfl⟩ ⟨by first | exact Nat.le_of_ble_eq_true rfl | exact Nat.zero_le _, by first | exact Nat.le_of_ble_eq_true rfl | exact Nat.zero_le _⟩ dX10_isName_31 (fun r2852 hr2852 => ?_)
          obtain rfl := hr2852
          refine lv_icmp_ge (tgt := 63) hx hb dX10_isName_34 (by decide) (fun c9 => absurd c9 (nI_ge (a := kP) (b := (SLEN.getD i9 0)) (by omega) (by omega))) (fun _ => ?_)
          refine lv_aload_n hx hb dX10_isName_37 rfl (lv_at hl 1 rfl) ?_
          refine lv_aload_n hx hb dX10_isName_38 rfl (lv_at hl 1 rfl) ?_
          refine gf_X10_34 hC rfl hK hP 0 rfl rfl dX10_isName_39 ?_
          refine lv_iload_n hx hb dX10_isName_42 rfl (lv_at hl 0 rfl) ?_
          refine lv_iadd hx hb dX10_isName_43 ?_
          refine pV hC hK hl hP hD (t_byteAt l G h0 ((nI ks) + (nI kP)) tby kt tln tsp tkd (nI ks) (nI kn) tf9 fby) si_X10_78 [0, 1] rfl rfl (by decide) rfl rfl rfl rfl rfl (Nat.le_of_ble_eq_true rfl) ⟨Nat.le_of_ble_eq_true rfl, Nat.le_of_ble_eq_true rfl⟩ ⟨by first | exact Nat.le_of_ble_eq_true rfl | exact Nat.zero_le _, by first | exact Nat.le_of_ble_eq_true rfl | exact Nat.zero_le _⟩ dX10_isName_44 (fun r2854 hr2854 => ?_)
          refine lv_aload_n hx hb dX10_isName_47 rfl (lv_at hl 2 rfl) ?_
          refine lv_iload_n hx hb dX10_isName_48 rfl (lv_at hl 0 rfl) ?_
          refine pTo (i := i9) (hi9) hO hS hC hK hl (j_chr l G K i9 kP ((hi9)) (by omega)) si_X10_98 rfl rfl (Nat.le_of_ble_eq_true rfl) ⟨Nat.le_of_ble_eq_true rfl, Nat.le_of_ble_eq_true rfl⟩ ⟨by first | exact Nat.le_of_ble_eq_true rfl | exact Nat.zero_le _, by first | exact Nat.le_of_ble_eq_true rfl | exact Nat.zero_le _⟩ dX10_isName_49 (fun r2855 hr2855 => ?_)
          obtain rfl := hr2855
          refine lv_icmp_eq (tgt := 57) hx hb dX10_isName_52 (by decide) (fun c_52_2857 => ?_) (fun c_52_2857 => ?_)
          · refine lv_iinc (v := nI (kP + 1)) (lv' := [(2, .int (nI (kP + 1))), (0, .ref h0), (1, .ref (K.1 i9))]) hx hb dX10_isName_57 hl (k := 0) rfl (nI_1 _) (by decide) rfl (fun ls hl => ?_)
            refine lv_goto (tgt := 29) hx hb dX10_isName_60 (by decide) ?_
            exact ihP (kP + 1) _ (by omega) (lv_sub hl [0, 1, 2] rfl)
          · refine lv_iconst (v := 0) hx hb dX10_isName_55 (by decide) ?_
            exact RP (v := 0) hC (Or.inr (rfl)) (by decide +kernel) dX10_isName_56
      exact keyP (SLEN.getD i9 0) 0 _ (by omega) (lv_sub hl [0, 1, 2] rfl)
    · refine lv_iconst (v := 0) hx hb dX10_isName_25 (by decide) ?_
      exact RP (v := 0) hC (Or.inr (rfl)) (by decide +kernel) dX10_isName_26
set_option maxHeartbeats 4000000 in
set_option maxRecDepth 100000 in
theorem t_takesName (l : Launch) (G : GG) (K : OO) (i9 : Nat) (h0 : Nat) (tby : Nat) (kt : Nat) (tln : Nat) (tsp : Nat) (tkd : Int32) (ks : Nat) (kn : Nat) (tf9 : Int32) (fby : Nat → Int32) (hkt : kt ≤ 240) (hks : ks ≤ 240) (hkn : kn ≤ 240) (hi9 : i9 < 16) : MIo l G K yX10_takesName cX10_takesName 2 (some .boolean) 7 0 0 [.ref h0, .ref (K.1 i9)] [(h0, .inr (10, [.ref tby, .int (nI kt), .ref tln, .ref tsp, .int tkd, .int (nI ks), .int (nI kn), .int tf9])), (tby, .inl (G.2.1, 240, .inl fby))] (fun (r : Int32) (u : Int32 × Nat × Nat × Int32) => (r = 1 ∨ r = 0) ∧ (u.2.1 ≤ 240 ∧ u.2.2.1 ≤ 240)) (fun u : Int32 × Nat × Nat × Int32 => [(h0, .inr (10, [.ref tby, .int (nI kt), .ref tln, .ref tsp, .int u.1, .int (nI u.2.1), .int (nI u.2.2.1), .int u.2.2.2])), (tby, .inl (G.2.1, 240, .inl fby))]) := by
  refine MIo.start (by decide +kernel) (Nat.le_of_ble_eq_true rfl) ?_
  intro p e s m below meth c A ls hC hK hP hD hS hA hl hO
  have hl : lv_has ls 2 [(0, .ref h0), (1, .ref (K.1 i9))] := hl
  obtain ⟨hx, hb, hr, hml, hB, hown, hlocks, hnm⟩ := id hC
  refine lv_aload_n hx hb dX10_takesName_0 rfl (lv_at hl 0 rfl) ?_
  refine lv_aload_n hx hb dX10_takesName_1 rfl (lv_at hl 1 rfl) ?_
  refine pVo hO hS hC hK hl hP hD (t_isName l G K i9 h0 tby kt tln tsp tkd ks kn tf9 fby (by omega) (by omega) (by omega) ((hi9))) si_X10_102 [0, 1] rfl rfl (by decide) rfl rfl rfl rfl rfl (Nat.le_of_ble_eq_true rfl) ⟨Nat.le_of_ble_eq_true rfl, Nat.le_of_ble_eq_true rfl⟩ ⟨by first | exact Nat.le_of_ble_eq_true rfl | exact Nat.zero_le _, by first | exact Nat.le_of_ble_eq_true rfl | exact Nat.zero_le _⟩ dX10_takesName_2 (fun r2858 hr2858 => ?_)
  rcases hr2858 with rfl | rfl
  · refine lv_if_ne (tgt := 13) hx hb dX10_takesName_5 (by decide) (fun _ => ?_) (fun c9 => absurd c9 (by decide))
    refine lv_aload_n hx hb dX10_takesName_13 rfl (lv_at hl 0 rfl) ?_
    refine vV (wr := []) hC hK hl hP hD hS hA (t_advance l G h0 tby kt tln tsp tkd ks kn tf9 fby (by omega) (by omega) (by omega)) si_X10_47 [0, 1] [] rfl rfl (by decide) rfl (by decide) (by decide) rfl rfl rfl rfl rfl (Nat.le_of_ble_eq_true rfl) ⟨Nat.le_of_ble_eq_true rfl, Nat.le_of_ble_eq_true rfl⟩ ⟨Nat.le_of_ble_eq_true rfl, Nat.le_of_ble_eq_true rfl⟩ dX10_takesName_14 (fun u2861 H locs hr2860 hP hD hS => ?_)
    obtain ⟨kd12862, ks12863, kn12864⟩ := u2861
    try dsimp only at hr2860
    have hP : va_P G.1 vwCl [(h0, .inr (10, [.ref tby, .int (nI kt), .ref tln, .ref tsp, .int kd12862, .int (nI ks12863), .int (nI kn12864), .int tf9])), (tby, .inl (G.2.1, 240, .inl fby))] H := hP
    have hD : va_D A [(h0, .inr (10, [.ref tby, .int (nI kt), .ref tln, .ref tsp, .int kd12862, .int (nI ks12863), .int (nI kn12864), .int tf9])), (tby, .inl (G.2.1, 240, .inl fby))] := hD
    have w2865 := hr2860
    refine lv_iconst (v := 1) hx hb dX10_takesName_17 (by decide) ?_
    exact RI (v := 1) hC hP hD hS [0, 1] (kd12862, ks12863, kn12864, tf9) rfl rfl (by decide) (⟨Or.inl (rfl), by dsimp only; omega⟩) (by decide +kernel) dX10_takesName_18
  · refine lv_if_ne (tgt := 13) hx hb dX10_takesName_5 (by decide) (fun c9 => absurd (by decide) c9) (fun _ => ?_)
    refine lv_aload_n hx hb dX10_takesName_8 rfl (lv_at hl 0 rfl) ?_
    refine iV (wr := [(tby, .inl (G.2.1, 240, .inl fby))]) hC hK hl hP hD hS hA (t_refuse l G h0 tby kt tln tsp tkd ks kn tf9) si_X10_106 [0] [1] rfl rfl (by decide) rfl (by decide) (by decide) rfl rfl rfl rfl rfl (Nat.le_of_ble_eq_true rfl) ⟨Nat.le_of_ble_eq_true rfl, Nat.le_of_ble_eq_true rfl⟩ ⟨Nat.le_of_ble_eq_true rfl, Nat.le_of_ble_eq_true rfl⟩ dX10_takesName_9 (fun r2866 u2867 H locs hr2866 hP hD hS => ?_)
    obtain ⟨tf12868, rfl⟩ : ∃ z9, z9 = u2867 := ⟨_, rfl⟩
    try dsimp only at hr2866
    have hP : va_P G.1 vwCl [(tby, .inl (G.2.1, 240, .inl fby)), (h0, .inr (10, [.ref tby, .int (nI kt), .ref tln, .ref tsp, .int tkd, .int (nI ks), .int (nI kn), .int tf12868]))] H := hP
    have hD : va_D A [(tby, .inl (G.2.1, 240, .inl fby)), (h0, .inr (10, [.ref tby, .int (nI kt), .ref tln, .ref tsp, .int tkd, .int (nI ks), .int (nI kn), .int tf12868]))] := hD
    obtain rfl := hr2866
    exact RI (v := 0) hC hP hD hS [1, 0] (tkd, ks, kn, tf12868) rfl rfl (by decide) (⟨Or.inr (rfl), by dsimp only; omega⟩) (by decide +kernel) dX10_takesName_12
set_option maxHeartbeats 4000000 in
set_option maxRecDepth 100000 in
theorem t_takesByte (l : Launch) (G : GG) (h0 : Nat) (b9 : Int32) (tby : Nat) (kt : Nat) (tln : Nat) (tsp : Nat) (tkd : Int32) (ks : Nat) (kn : Nat) (tf9 : Int32) (fby : Nat → Int32) (hkt : kt ≤ 240) (hks : ks ≤ 240) (hkn : kn ≤ 240) : MI l G yX10_takesByte cX10_takesByte 2 (some .boolean) 4 0 0 [.ref h0, .int b9] [(h0, .inr (10, [.ref tby, .int (nI kt), .ref tln, .ref tsp, .int tkd, .int (nI ks), .int (nI kn), .int tf9])), (tby, .inl (G.2.1, 240, .inl fby))] (fun (r : Int32) (u : Int32 × Nat × Nat × Int32) => (r = 1 ∨ r = 0) ∧ (u.2.1 ≤ 240 ∧ u.2.2.1 ≤ 240)) (fun u : Int32 × Nat × Nat × Int32 => [(h0, .inr (10, [.ref tby, .int (nI kt), .ref tln, .ref tsp, .int u.1, .int (nI u.2.1), .int (nI u.2.2.1), .int u.2.2.2])), (tby, .inl (G.2.1, 240, .inl fby))]) := by
  refine MI.start (by decide +kernel) (Nat.le_of_ble_eq_true rfl) ?_
  intro p e s m below meth c A ls hC hK hP hD hS hA hl
  have hl : lv_has ls 2 [(0, .ref h0), (1, .int b9)] := hl
  obtain ⟨hx, hb, hr, hml, hB, hown, hlocks, hnm⟩ := id hC
  refine lv_aload_n hx hb dX10_takesByte_0 rfl (lv_at hl 0 rfl) ?_
  refine gf_X10_31 hC rfl hK hP 0 rfl rfl dX10_takesByte_1 ?_
  refine lv_iload_n hx hb dX10_takesByte_4 rfl (lv_at hl 1 rfl) ?_
  refine lv_icmp_eq (tgt := 13) hx hb dX10_takesByte_5 (by decide) (fun c_5_2870 => ?_) (fun c_5_2870 => ?_)
  · refine lv_aload_n hx hb dX10_takesByte_13 rfl (lv_at hl 0 rfl) ?_
    refine vV (wr := []) hC hK hl hP hD hS hA (t_advance l G h0 tby kt tln tsp tkd ks kn tf9 fby (by omega) (by omega) (by omega)) si_X10_47 [0, 1] [] rfl rfl (by decide) rfl (by decide) (by decide) rfl rfl rfl rfl rfl (Nat.le_of_ble_eq_true rfl) ⟨Nat.le_of_ble_eq_true rfl, Nat.le_of_ble_eq_true rfl⟩ ⟨Nat.le_of_ble_eq_true rfl, Nat.le_of_ble_eq_true rfl⟩ dX10_takesByte_14 (fun u2872 H locs hr2871 hP hD hS => ?_)
    obtain ⟨kd12873, ks12874, kn12875⟩ := u2872
    try dsimp only at hr2871
    have hP : va_P G.1 vwCl [(h0, .inr (10, [.ref tby, .int (nI kt), .ref tln, .ref tsp, .int kd12873, .int (nI ks12874), .int (nI kn12875), .int tf9])), (tby, .inl (G.2.1, 240, .inl fby))] H := hP
    have hD : va_D A [(h0, .inr (10, [.ref tby, .int (nI kt), .ref tln, .ref tsp, .int kd12873, .int (nI ks12874), .int (nI kn12875), .int tf9])), (tby, .inl (G.2.1, 240, .inl fby))] := hD
    have w2876 := hr2871
    refine lv_iconst (v := 1) hx hb dX10_takesByte_17 (by decide) ?_
    exact RI (v := 1) hC hP hD hS [0, 1] (kd12873, ks12874, kn12875, tf9) rfl rfl (by decide) (⟨Or.inl (rfl), by dsimp only; omega⟩) (by decide +kernel) dX10_takesByte_18
  · refine lv_aload_n hx hb dX10_takesByte_8 rfl (lv_at hl 0 rfl) ?_
    refine iV (wr := [(tby, .inl (G.2.1, 240, .inl fby))]) hC hK hl hP hD hS hA (t_refuse l G h0 tby kt tln tsp tkd ks kn tf9) si_X10_106 [0] [1] rfl rfl (by decide) rfl (by decide) (by decide) rfl rfl rfl rfl rfl (Nat.le_of_ble_eq_true rfl) ⟨Nat.le_of_ble_eq_true rfl, Nat.le_of_ble_eq_true rfl⟩ ⟨Nat.le_of_ble_eq_true rfl, Nat.le_of_ble_eq_true rfl⟩ dX10_takesByte_9 (fun r2877 u2878 H locs hr2877 hP hD hS => ?_)
    obtain ⟨tf12879, rfl⟩ : ∃ z9, z9 = u2878 := ⟨_, rfl⟩
    try dsimp only at hr2877
    have hP : va_P G.1 vwCl [(tby, .inl (G.2.1, 240, .inl fby)), (h0, .inr (10, [.ref tby, .int (nI kt), .ref tln, .ref tsp, .int tkd, .int (nI ks), .int (nI kn), .int tf12879]))] H := hP
    have hD : va_D A [(tby, .inl (G.2.1, 240, .inl fby)), (h0, .inr (10, [.ref tby, .int (nI kt), .ref tln, .ref tsp, .int tkd, .int (nI ks), .int (nI kn), .int tf12879]))] := hD
    obtain rfl := hr2877
    exact RI (v := 0) hC hP hD hS [1, 0] (tkd, ks, kn, tf12879) rfl rfl (by decide) (⟨Or.inr (rfl), by dsimp only; omega⟩) (by decide +kernel) dX10_takesByte_12
set_option maxHeartbeats 4000000 in
set_option maxRecDepth 100000 in
theorem t_numberHere (l : Launch) (G : GG) (h0 : Nat) (tby : Nat) (kt : Nat) (tln : Nat) (tsp : Nat) (tkd : Int32) (ks : Nat) (kn : Nat) (tf9 : Int32) (fby : Nat → Int32) (hkt : kt ≤ 240) (hks : ks ≤ 240) (hkn : kn ≤ 240) : MP l G yX10_numberHere cX10_numberHere 3 (some .int) 3 [.ref h0] [(h0, .inr (10, [.ref tby, .int (nI kt), .ref tln, .ref tsp, .int tkd, .int (nI ks), .int (nI kn), .int tf9])), (tby, .inl (G.2.1, 240, .inl fby))] (fun r : Int32 => True) := by
  refine MP.start (by decide +kernel) (Nat.le_of_ble_eq_true rfl) ?_
  intro p e s m below meth c ls hC hK hP hD hl
  have hl : lv_has ls 3 [(0, .ref h0)] := hl
  obtain ⟨hx, hb, hr, hml, hB, hown, hlocks, hnm⟩ := id hC
  refine lv_aload_n hx hb dX10_numberHere_0 rfl (lv_at hl 0 rfl) ?_
  refine gf_X10_31 hC rfl hK hP 0 rfl rfl dX10_numberHere_1 ?_
  refine lv_bipush (v := (-3)) hx hb dX10_numberHere_4 (by decide) ?_
  refine lv_icmp_ne (tgt := 22) hx hb dX10_numberHere_6 (by decide) (fun c_6_2881 => ?_) (fun c_6_2881 => ?_)
  · refine lv_iconst (v := (-1)) hx hb dX10_numberHere_22 (by decide) ?_
    exact RP (v := (-1)) hC (trivial) rfl dX10_numberHere_23
  · refine lv_aload_n hx hb dX10_numberHere_9 rfl (lv_at hl 0 rfl) ?_
    refine gf_X10_37 hC rfl hK hP 0 rfl rfl dX10_numberHere_10 ?_
    refine lv_aload_n hx hb dX10_numberHere_13 rfl (lv_at hl 0 rfl) ?_
    refine gf_X10_34 hC rfl hK hP 0 rfl rfl dX10_numberHere_14 ?_
    refine lv_isub hx hb dX10_numberHere_17 ?_
    refine lv_iconst (v := 3) hx hb dX10_numberHere_18 (by decide) ?_
    refine lv_icmp_le (tgt := 24) hx hb dX10_numberHere_19 (by decide) (fun c_19_2882 => ?_) (fun c_19_2882 => ?_)
    · refine lv_iconst (v := 0) hx hb dX10_numberHere_24 (by decide) ?_
      refine lv_istore_n (lv' := [(1, .int 0), (0, .ref h0)]) hx hb dX10_numberHere_25 rfl hl (by decide) rfl (fun ls hl => ?_)
      refine lv_aload_n hx hb dX10_numberHere_26 rfl (lv_at hl 1 rfl) ?_
      refine gf_X10_34 hC rfl hK hP 0 rfl rfl dX10_numberHere_27 ?_
      refine lv_istore_n (lv' := [(2, .int (nI ks)), (1, .int 0), (0, .ref h0)]) hx hb dX10_numberHere_30 rfl hl (by decide) rfl (fun ls hl => ?_)
      have keyP : ∀ (nP kP : Nat) (nn : Int32) (ls : Array Slot), kP < 2 ^ 31 → (nI kn).toInt ≤ ((kP + nP : Nat) : Int) → lv_has ls 3 [(2, .int (nI kP)), (1, .int nn), (0, .ref h0)] → W p l e (RM 3 0 0) s m ([.ref h0] : List Value).toArray below meth c s.heap [] 0 0 (MQ below (QP (fun r : Int32 => True)) ([.ref h0] : List Value).toArray s 0 0 (fun _ => False)) (F0 m 31 ls []) := by
        intro nP
        induction nP with
        | zero =>
          intro kP nn ls hjP hkP hl
          have hzP : nI kn ≤ nI kP := bz hjP (by omega)
          refine lv_iload_n hx hb dX10_numberHere_31 rfl (lv_at hl 0 rfl) ?_
          refine lv_aload_n hx hb dX10_numberHere_32 rfl (lv_at hl 2 rfl) ?_
          refine gf_X10_37 hC rfl hK hP 0 rfl rfl dX10_numberHere_33 ?_
          refine lv_icmp_ge (tgt := 59) hx hb dX10_numberHere_36 (by decide) (fun _ => ?_) (fun c9 => absurd (hzP) c9)
          refine lv_iload_n hx hb dX10_numberHere_59 rfl (lv_at hl 1 rfl) ?_
          exact RP (v := nn) hC (trivial) rfl dX10_numberHere_60
        | succ nP ihP =>
          intro kP nn ls hjP hkP hl
          refine lv_iload_n hx hb dX10_numberHere_31 rfl (lv_at hl 0 rfl) ?_
          refine lv_aload_n hx hb dX10_numberHere_32 rfl (lv_at hl 2 rfl) ?_
          refine gf_X10_37 hC rfl hK hP 0 rfl rfl dX10_numberHere_33 ?_
          refine lv_icmp_ge (tgt := 59) hx hb dX10_numberHere_36 (by decide) (fun c_36_2883 => ?_) (fun c_36_2883 => ?_)
          · refine lv_iload_n hx hb dX10_numberHere_59 rfl (lv_at hl 1 rfl) ?_
            exact RP (v := nn) hC (trivial) rfl dX10_numberHere_60
          · refine lv_iload_n hx hb dX10_numberHere_39 rfl (lv_at hl 1 rfl) ?_
            refine lv_bipush (v := 10) hx hb dX10_numberHere_40 (by decide) ?_
            refine lv_imul hx hb dX10_numberHere_42 ?_
            refine lv_aload_n hx hb dX10_numberHere_43 rfl (lv_at hl 2 rfl) ?_
            refine lv_iload_n hx hb dX10_numberHere_44 rfl (lv_at hl 0 rfl) ?_
            refine pV hC hK hl hP hD (t_byteAt l G h0 (nI kP) tby kt tln tsp tkd (nI ks) (nI kn) tf9 fby) si_X10_78 [0, 1] rfl rfl (by decide) rfl rfl rfl rfl rfl (Nat.le_of_ble_eq_true rfl) ⟨Nat.le_of_ble_eq_true rfl, Nat.le_of_ble_eq_true rfl⟩ ⟨by first | exact Nat.le_of_ble_eq_true rfl | exact Nat.zero_le _, by first | exact Nat.le_of_ble_eq_true rfl | exact Nat.zero_le _⟩ dX10_numberHere_45 (fun r2884 hr2884 => ?_)
            refine lv_iadd hx hb dX10_numberHere_48 ?_
            refine lv_bipush (v := 48) hx hb dX10_numberHere_49 (by decide) ?_
            refine lv_isub hx hb dX10_numberHere_51 ?_
            refine lv_istore_n (lv' := [(1, .int (((nn * 10) + r2884) - 48)), (2, .int (nI kP)), (0, .ref h0)]) hx hb dX10_numberHere_52 rfl hl (by decide) rfl (fun ls hl => ?_)
            refine lv_iinc (v := nI (kP + 1)) (lv' := [(2, .int (nI (kP + 1))), (1, .int (((nn * 10) + r2884) - 48)), (0, .ref h0)]) hx hb dX10_numberHere_53 hl (k := 1) rfl (nI_1 _) (by decide) rfl (fun ls hl => ?_)
            refine lv_goto (tgt := 31) hx hb dX10_numberHere_56 (by decide) ?_
            exact ihP (kP + 1) (((nn * 10) + r2884) - 48) _ (bs hjP c_36_2883) (by omega) (lv_sub hl [0, 1, 2] rfl)
      exact keyP (nI kn).toInt.toNat ks 0 _ (by first | decide | omega) (by omega) (lv_sub hl [0, 1, 2] rfl)
    · refine lv_iconst (v := (-1)) hx hb dX10_numberHere_22 (by decide) ?_
      exact RP (v := (-1)) hC (trivial) rfl dX10_numberHere_23
set_option maxHeartbeats 4000000 in
set_option maxRecDepth 100000 in
theorem t_takesNumber (l : Launch) (G : GG) (h0 : Nat) (li : Int32) (co : Int32) (mo : Int32) (tby : Nat) (kt : Nat) (tln : Nat) (tsp : Nat) (tkd : Int32) (ks : Nat) (kn : Nat) (tf9 : Int32) (fby : Nat → Int32) (tlnc : Nat) (kln : Nat) (ftln : Nat → Int32) (hkt : kt ≤ 240) (hks : ks ≤ 240) (hkn : kn ≤ 240) (hkln : kln ≤ 9) : MI l G yX10_takesNumber cX10_takesNumber 5 (some .boolean) 4 0 0 [.ref h0, .int li, .int co, .int mo] [(h0, .inr (10, [.ref tby, .int (nI kt), .ref tln, .ref tsp, .int tkd, .int (nI ks), .int (nI kn), .int tf9])), (tby, .inl (G.2.1, 240, .inl fby)), (tln, .inr (8, [.int 9, .int 7, .ref tlnc, .int (nI kln)])), (tlnc, .inl (G.2.1, 63, .inl ftln))] (fun (r : Int32) (u : Int32 × Nat × Nat × Int32 × (Nat → Int32)) => (r = 1 ∨ r = 0) ∧ (u.2.1 ≤ 240 ∧ u.2.2.1 ≤ 240)) (fun u : Int32 × Nat × Nat × Int32 × (Nat → Int32) => [(h0, .inr (10, [.ref tby, .int (nI kt), .ref tln, .ref tsp, .int u.1, .int (nI u.2.1), .int (nI u.2.2.1), .int u.2.2.2.1])), (tby, .inl (G.2.1, 240, .inl fby)), (tln, .inr (8, [.int 9, .int 7, .ref tlnc, .int (nI kln)])), (tlnc, .inl (G.2.1, 63, .inl u.2.2.2.2))]) := by
  refine MI.start (by decide +kernel) (Nat.le_of_ble_eq_true rfl) ?_
  intro p e s m below meth c A ls hC hK hP hD hS hA hl
  have hl : lv_has ls 5 [(0, .ref h0), (1, .int li), (2, .int co), (3, .int mo)] := hl
  obtain ⟨hx, hb, hr, hml, hB, hown, hlocks, hnm⟩ := id hC
  refine lv_aload_n hx hb dX10_takesNumber_0 rfl (lv_at hl 0 rfl) ?_
  refine pV hC hK hl hP hD (t_numberHere l G h0 tby kt tln tsp tkd ks kn tf9 fby (by omega) (by omega) (by omega)) si_X10_109 [0, 1] rfl rfl (by decide) rfl rfl rfl rfl rfl (Nat.le_of_ble_eq_true rfl) ⟨Nat.le_of_ble_eq_true rfl, Nat.le_of_ble_eq_true rfl⟩ ⟨by first | exact Nat.le_of_ble_eq_true rfl | exact Nat.zero_le _, by first | exact Nat.le_of_ble_eq_true rfl | exact Nat.zero_le _⟩ dX10_takesNumber_1 (fun r2885 hr2885 => ?_)
  refine lv_istore (lv' := [(4, .int r2885), (0, .ref h0), (1, .int li), (2, .int co), (3, .int mo)]) hx hb dX10_takesNumber_4 hl (by decide) rfl (fun ls hl => ?_)
  refine lv_iload hx hb dX10_takesNumber_6 (lv_at hl 0 rfl) ?_
  refine lv_iconst (v := 0) hx hb dX10_takesNumber_8 (by decide) ?_
  refine lv_iload_n hx hb dX10_takesNumber_9 rfl (lv_at hl 4 rfl) ?_
  refine pSN hC hK hl (c_within l G r2885 0 mo) si_X10_89 rfl rfl (Nat.le_of_ble_eq_true rfl) ⟨Nat.le_of_ble_eq_true rfl, Nat.le_of_ble_eq_true rfl⟩ ⟨by first | exact Nat.le_of_ble_eq_true rfl | exact Nat.zero_le _, by first | exact Nat.le_of_ble_eq_true rfl | exact Nat.zero_le _⟩ dX10_takesNumber_10 (fun r2886 hr2886 => ?_)
  rcases hr2886 with ⟨rfl, a2887⟩ | ⟨rfl, a2887⟩
  · refine lv_if_ne (tgt := 21) hx hb dX10_takesNumber_13 (by decide) (fun _ => ?_) (fun c9 => absurd c9 (by decide))
    refine lv_aload_n hx hb dX10_takesNumber_21 rfl (lv_at hl 1 rfl) ?_
    refine gf_X10_20 hC rfl hK hP 0 rfl rfl dX10_takesNumber_22 ?_
    refine lv_iload_n hx hb dX10_takesNumber_25 rfl (lv_at hl 2 rfl) ?_
    refine lv_iload_n hx hb dX10_takesNumber_26 rfl (lv_at hl 3 rfl) ?_
    refine lv_iload hx hb dX10_takesNumber_27 (lv_at hl 0 rfl) ?_
    refine vV (wr := [(h0, .inr (10, [.ref tby, .int (nI kt), .ref tln, .ref tsp, .int tkd, .int (nI ks), .int (nI kn), .int tf9])), (tby, .inl (G.2.1, 240, .inl fby))]) hC hK hl hP hD hS hA (c_T_set l G tln li co r2885 9 7 tlnc kln ftln (by omega) (by omega) (by omega)) si_X10_66 [2, 3] [0, 1] rfl rfl (by decide) rfl (by decide) (by decide) rfl rfl rfl rfl rfl (Nat.le_of_ble_eq_true rfl) ⟨Nat.le_of_ble_eq_true rfl, Nat.le_of_ble_eq_true rfl⟩ ⟨Nat.le_of_ble_eq_true rfl, Nat.le_of_ble_eq_true rfl⟩ dX10_takesNumber_29 (fun u2889 H locs hr2888 hP hD hS => ?_)
    obtain ⟨f12890, rfl⟩ : ∃ z9, z9 = u2889 := ⟨_, rfl⟩
    try dsimp only at hr2888
    have hP : va_P G.1 vwCl [(h0, .inr (10, [.ref tby, .int (nI kt), .ref tln, .ref tsp, .int tkd, .int (nI ks), .int (nI kn), .int tf9])), (tby, .inl (G.2.1, 240, .inl fby)), (tln, .inr (8, [.int 9, .int 7, .ref tlnc, .int (nI kln)])), (tlnc, .inl (G.2.1, 63, .inl f12890))] H := hP
    have hD : va_D A [(h0, .inr (10, [.ref tby, .int (nI kt), .ref tln, .ref tsp, .int tkd, .int (nI ks), .int (nI kn), .int tf9])), (tby, .inl (G.2.1, 240, .inl fby)), (tln, .inr (8, [.int 9, .int 7, .ref tlnc, .int (nI kln)])), (tlnc, .inl (G.2.1, 63, .inl f12890))] := hD
    have w2891 := hr2888
    refine lv_aload_n hx hb dX10_takesNumber_32 rfl (lv_at hl 1 rfl) ?_
    refine vV (wr := [(tln, .inr (8, [.int 9, .int 7, .ref tlnc, .int (nI kln)])), (tlnc, .inl (G.2.1, 63, .inl f12890))]) hC hK hl hP hD hS hA (t_advance l G h0 tby kt tln tsp tkd ks kn tf9 fby (by omega) (by omega) (by omega)) si_X10_47 [0, 1] [2, 3] rfl rfl (by decide) rfl (by decide) (by decide) rfl rfl rfl rfl rfl (Nat.le_of_ble_eq_true rfl) ⟨Nat.le_of_ble_eq_true rfl, Nat.le_of_ble_eq_true rfl⟩ ⟨Nat.le_of_ble_eq_true rfl, Nat.le_of_ble_eq_true rfl⟩ dX10_takesNumber_33 (fun u2893 H locs hr2892 hP hD hS => ?_)
    obtain ⟨kd12894, ks12895, kn12896⟩ := u2893
    try dsimp only at hr2892
    have hP : va_P G.1 vwCl [(tln, .inr (8, [.int 9, .int 7, .ref tlnc, .int (nI kln)])), (tlnc, .inl (G.2.1, 63, .inl f12890)), (h0, .inr (10, [.ref tby, .int (nI kt), .ref tln, .ref tsp, .int kd12894, .int (nI ks12895), .int (nI kn12896), .int tf9])), (tby, .inl (G.2.1, 240, .inl fby))] H := hP
    have hD : va_D A [(tln, .inr (8, [.int 9, .int 7, .ref tlnc, .int (nI kln)])), (tlnc, .inl (G.2.1, 63, .inl f12890)), (h0, .inr (10, [.ref tby, .int (nI kt), .ref tln, .ref tsp, .int kd12894, .int (nI ks12895), .int (nI kn12896), .int tf9])), (tby, .inl (G.2.1, 240, .inl fby))] := hD
    have w2897 := hr2892
    refine lv_iconst (v := 1) hx hb dX10_takesNumber_36 (by decide) ?_
    exact RI (v := 1) hC hP hD hS [2, 3, 0, 1] (kd12894, ks12895, kn12896, tf9, f12890) rfl rfl (by decide) (⟨Or.inl (rfl), by dsimp only; omega⟩) (by decide +kernel) dX10_takesNumber_37
  · refine lv_if_ne (tgt := 21) hx hb dX10_takesNumber_13 (by decide) (fun c9 => absurd (by decide) c9) (fun _ => ?_)
    refine lv_aload_n hx hb dX10_takesNumber_16 rfl (lv_at hl 1 rfl) ?_
    refine iV (wr := [(tby, .inl (G.2.1, 240, .inl fby)), (tln, .inr (8, [.int 9, .int 7, .ref tlnc, .int (nI kln)])), (tlnc, .inl (G.2.1, 63, .inl ftln))]) hC hK hl hP hD hS hA (t_refuse l G h0 tby kt tln tsp tkd ks kn tf9) si_X10_106 [0] [1, 2, 3] rfl rfl (by decide) rfl (by decide) (by decide) rfl rfl rfl rfl rfl (Nat.le_of_ble_eq_true rfl) ⟨Nat.le_of_ble_eq_true rfl, Nat.le_of_ble_eq_true rfl⟩ ⟨Nat.le_of_ble_eq_true rfl, Nat.le_of_ble_eq_true rfl⟩ dX10_takesNumber_17 (fun r2898 u2899 H locs hr2898 hP hD hS => ?_)
    obtain ⟨tf12900, rfl⟩ : ∃ z9, z9 = u2899 := ⟨_, rfl⟩
    try dsimp only at hr2898
    have hP : va_P G.1 vwCl [(tby, .inl (G.2.1, 240, .inl fby)), (tln, .inr (8, [.int 9, .int 7, .ref tlnc, .int (nI kln)])), (tlnc, .inl (G.2.1, 63, .inl ftln)), (h0, .inr (10, [.ref tby, .int (nI kt), .ref tln, .ref tsp, .int tkd, .int (nI ks), .int (nI kn), .int tf12900]))] H := hP
    have hD : va_D A [(tby, .inl (G.2.1, 240, .inl fby)), (tln, .inr (8, [.int 9, .int 7, .ref tlnc, .int (nI kln)])), (tlnc, .inl (G.2.1, 63, .inl ftln)), (h0, .inr (10, [.ref tby, .int (nI kt), .ref tln, .ref tsp, .int tkd, .int (nI ks), .int (nI kn), .int tf12900]))] := hD
    obtain rfl := hr2898
    exact RI (v := 0) hC hP hD hS [3, 0, 1, 2] (tkd, ks, kn, tf12900, ftln) rfl rfl (by decide) (⟨Or.inr (rfl), by dsimp only; omega⟩) (by decide +kernel) dX10_takesNumber_20
set_option maxHeartbeats 4000000 in
set_option maxRecDepth 100000 in
theorem t_addStep (l : Launch) (G : GG) (h0 : Nat) (sp : Int32) (tby : Nat) (kt : Nat) (tln : Nat) (tsp : Nat) (tkd : Int32) (ks : Nat) (kn : Nat) (tf9 : Int32) (tspc : Nat) (ksp : Nat) (ftsp : Nat → Int32) (hksp : ksp ≤ 120) : MV l G yX10_addStep cX10_addStep 2 2 0 0 [.ref h0, .int sp] [(h0, .inr (10, [.ref tby, .int (nI kt), .ref tln, .ref tsp, .int tkd, .int (nI ks), .int (nI kn), .int tf9])), (tsp, .inr (8, [.int 120, .int 1, .ref tspc, .int (nI ksp)])), (tspc, .inl (G.2.1, 120, .inl ftsp))] (fun u : Nat × (Nat → Int32) => u.1 ≤ 120) (fun u : Nat × (Nat → Int32) => [(h0, .inr (10, [.ref tby, .int (nI kt), .ref tln, .ref tsp, .int tkd, .int (nI ks), .int (nI kn), .int tf9])), (tsp, .inr (8, [.int 120, .int 1, .ref tspc, .int (nI u.1)])), (tspc, .inl (G.2.1, 120, .inl u.2))]) := by
  refine MV.start (by decide +kernel) (Nat.le_of_ble_eq_true rfl) ?_
  intro p e s m below meth c A ls hC hK hP hD hS hA hl
  have hl : lv_has ls 2 [(0, .ref h0), (1, .int sp)] := hl
  obtain ⟨hx, hb, hr, hml, hB, hown, hlocks, hnm⟩ := id hC
  refine lv_aload_n hx hb dX10_addStep_0 rfl (lv_at hl 0 rfl) ?_
  refine gf_X10_24 hC rfl hK hP 0 rfl rfl dX10_addStep_1 ?_
  refine lv_aload_n hx hb dX10_addStep_4 rfl (lv_at hl 0 rfl) ?_
  refine gf_X10_24 hC rfl hK hP 0 rfl rfl dX10_addStep_5 ?_
  rcases Nat.lt_or_ge ksp 120 with hcap9 | hcap9
  · refine iV (wr := [(h0, .inr (10, [.ref tby, .int (nI kt), .ref tln, .ref tsp, .int tkd, .int (nI ks), .int (nI kn), .int tf9])), (tspc, .inl (G.2.1, 120, .inl ftsp))]) hC hK hl hP hD hS hA (c_T_append l G tsp 120 1 tspc ksp (by omega) (by omega)) si_X10_59 [1] [0, 2] rfl rfl (by decide) rfl (by decide) (by decide) rfl rfl rfl rfl rfl (Nat.le_of_ble_eq_true rfl) ⟨Nat.le_of_ble_eq_true rfl, Nat.le_of_ble_eq_true rfl⟩ ⟨Nat.le_of_ble_eq_true rfl, Nat.le_of_ble_eq_true rfl⟩ dX10_addStep_8 (fun r2902 u2903 H locs hr2902 hP hD hS => ?_)
    have hP : va_P G.1 vwCl [(h0, .inr (10, [.ref tby, .int (nI kt), .ref tln, .ref tsp, .int tkd, .int (nI ks), .int (nI kn), .int tf9])), (tspc, .inl (G.2.1, 120, .inl ftsp)), (tsp, .inr (8, [.int 120, .int 1, .ref tspc, .int (nI (ksp + 1))]))] H := hP
    have hD : va_D A [(h0, .inr (10, [.ref tby, .int (nI kt), .ref tln, .ref tsp, .int tkd, .int (nI ks), .int (nI kn), .int tf9])), (tspc, .inl (G.2.1, 120, .inl ftsp)), (tsp, .inr (8, [.int 120, .int 1, .ref tspc, .int (nI (ksp + 1))]))] := hD
    obtain rfl := hr2902
    refine lv_iconst (v := 0) hx hb dX10_addStep_11 (by decide) ?_
    refine lv_iload_n hx hb dX10_addStep_12 rfl (lv_at hl 1 rfl) ?_
    refine vV (wr := [(h0, .inr (10, [.ref tby, .int (nI kt), .ref tln, .ref tsp, .int tkd, .int (nI ks), .int (nI kn), .int tf9]))]) hC hK hl hP hD hS hA (c_T_set l G tsp (nI ksp) 0 sp 120 1 tspc (ksp + 1) ftsp (by omega) (by omega) (by omega)) si_X10_66 [2, 1] [0] rfl rfl (by decide) rfl (by decide) (by decide) rfl rfl rfl rfl rfl (Nat.le_of_ble_eq_true rfl) ⟨Nat.le_of_ble_eq_true rfl, Nat.le_of_ble_eq_true rfl⟩ ⟨Nat.le_of_ble_eq_true rfl, Nat.le_of_ble_eq_true rfl⟩ dX10_addStep_13 (fun u2906 H locs hr2905 hP hD hS => ?_)
    obtain ⟨f12907, rfl⟩ : ∃ z9, z9 = u2906 := ⟨_, rfl⟩
    try dsimp only at hr2905
    have hP : va_P G.1 vwCl [(h0, .inr (10, [.ref tby, .int (nI kt), .ref tln, .ref tsp, .int tkd, .int (nI ks), .int (nI kn), .int tf9])), (tsp, .inr (8, [.int 120, .int 1, .ref tspc, .int (nI (ksp + 1))])), (tspc, .inl (G.2.1, 120, .inl f12907))] H := hP
    have hD : va_D A [(h0, .inr (10, [.ref tby, .int (nI kt), .ref tln, .ref tsp, .int tkd, .int (nI ks), .int (nI kn), .int tf9])), (tsp, .inr (8, [.int 120, .int 1, .ref tspc, .int (nI (ksp + 1))])), (tspc, .inl (G.2.1, 120, .inl f12907))] := hD
    have w2908 := hr2905
    exact RV hC hP hD hS [0, 1, 2] ((ksp + 1), f12907) rfl rfl (by decide) (by dsimp only; omega) dX10_addStep_16
  · refine iV (wr := [(h0, .inr (10, [.ref tby, .int (nI kt), .ref tln, .ref tsp, .int tkd, .int (nI ks), .int (nI kn), .int tf9])), (tspc, .inl (G.2.1, 120, .inl ftsp))]) hC hK hl hP hD hS hA (c_T_appendF l G tsp 120 1 tspc ksp (by omega) (by omega)) si_X10_59 [1] [0, 2] rfl rfl (by decide) rfl (by decide) (by decide) rfl rfl rfl rfl rfl (Nat.le_of_ble_eq_true rfl) ⟨Nat.le_of_ble_eq_true rfl, Nat.le_of_ble_eq_true rfl⟩ ⟨Nat.le_of_ble_eq_true rfl, Nat.le_of_ble_eq_true rfl⟩ dX10_addStep_8 (fun r2909 u2910 H locs hr2909 hP hD hS => ?_)
    have hP : va_P G.1 vwCl [(h0, .inr (10, [.ref tby, .int (nI kt), .ref tln, .ref tsp, .int tkd, .int (nI ks), .int (nI kn), .int tf9])), (tspc, .inl (G.2.1, 120, .inl ftsp)), (tsp, .inr (8, [.int 120, .int 1, .ref tspc, .int (nI ksp)]))] H := hP
    have hD : va_D A [(h0, .inr (10, [.ref tby, .int (nI kt), .ref tln, .ref tsp, .int tkd, .int (nI ks), .int (nI kn), .int tf9])), (tspc, .inl (G.2.1, 120, .inl ftsp)), (tsp, .inr (8, [.int 120, .int 1, .ref tspc, .int (nI ksp)]))] := hD
    obtain rfl := hr2909
    refine lv_iconst (v := 0) hx hb dX10_addStep_11 (by decide) ?_
    refine lv_iload_n hx hb dX10_addStep_12 rfl (lv_at hl 1 rfl) ?_
    refine vV (wr := [(h0, .inr (10, [.ref tby, .int (nI kt), .ref tln, .ref tsp, .int tkd, .int (nI ks), .int (nI kn), .int tf9]))]) hC hK hl hP hD hS hA (c_T_set l G tsp (-2) 0 sp 120 1 tspc ksp ftsp (by omega) (by omega) (by omega)) si_X10_66 [2, 1] [0] rfl rfl (by decide) rfl (by decide) (by decide) rfl rfl rfl rfl rfl (Nat.le_of_ble_eq_true rfl) ⟨Nat.le_of_ble_eq_true rfl, Nat.le_of_ble_eq_true rfl⟩ ⟨Nat.le_of_ble_eq_true rfl, Nat.le_of_ble_eq_true rfl⟩ dX10_addStep_13 (fun u2913 H locs hr2912 hP hD hS => ?_)
    obtain ⟨f12914, rfl⟩ : ∃ z9, z9 = u2913 := ⟨_, rfl⟩
    try dsimp only at hr2912
    have hP : va_P G.1 vwCl [(h0, .inr (10, [.ref tby, .int (nI kt), .ref tln, .ref tsp, .int tkd, .int (nI ks), .int (nI kn), .int tf9])), (tsp, .inr (8, [.int 120, .int 1, .ref tspc, .int (nI ksp)])), (tspc, .inl (G.2.1, 120, .inl f12914))] H := hP
    have hD : va_D A [(h0, .inr (10, [.ref tby, .int (nI kt), .ref tln, .ref tsp, .int tkd, .int (nI ks), .int (nI kn), .int tf9])), (tsp, .inr (8, [.int 120, .int 1, .ref tspc, .int (nI ksp)])), (tspc, .inl (G.2.1, 120, .inl f12914))] := hD
    have w2915 := hr2912
    exact RV hC hP hD hS [0, 1, 2] (ksp, f12914) rfl rfl (by decide) (by dsimp only; omega) dX10_addStep_16
set_option maxHeartbeats 4000000 in
set_option maxRecDepth 100000 in
theorem t_factHere (l : Launch) (G : GG) (K : OO) (h0 : Nat) (tby : Nat) (kt : Nat) (tln : Nat) (tsp : Nat) (tkd : Int32) (ks : Nat) (kn : Nat) (tf9 : Int32) (fby : Nat → Int32) (hkt : kt ≤ 240) (hks : ks ≤ 240) (hkn : kn ≤ 240) : MPo l G K yX10_factHere cX10_factHere 1 (some .int) 7 [.ref h0] [(h0, .inr (10, [.ref tby, .int (nI kt), .ref tln, .ref tsp, .int tkd, .int (nI ks), .int (nI kn), .int tf9])), (tby, .inl (G.2.1, 240, .inl fby))] (fun r : Int32 => True) := by
  refine MPo.start (by decide +kernel) (Nat.le_of_ble_eq_true rfl) ?_
  intro p e s m below meth c ls hC hK hP hD hl hO hS
  have hl : lv_has ls 1 [(0, .ref h0)] := hl
  obtain ⟨hx, hb, hr, hml, hB, hown, hlocks, hnm⟩ := id hC
  refine lv_aload_n hx hb dX10_factHere_0 rfl (lv_at hl 0 rfl) ?_
  refine va_ldcS (index := 171) (tx := "person") hx hb hown (hO.2.1 11 (by decide)) dX10_factHere_1 ?_
  refine pVo hO hS hC hK hl hP hD (t_isName l G K 11 h0 tby kt tln tsp tkd ks kn tf9 fby (by omega) (by omega) (by omega) ((by decide))) si_X10_102 [0, 1] rfl rfl (by decide) rfl rfl rfl rfl rfl (Nat.le_of_ble_eq_true rfl) ⟨Nat.le_of_ble_eq_true rfl, Nat.le_of_ble_eq_true rfl⟩ ⟨by first | exact Nat.le_of_ble_eq_true rfl | exact Nat.zero_le _, by first | exact Nat.le_of_ble_eq_true rfl | exact Nat.zero_le _⟩ dX10_factHere_3 (fun r2916 hr2916 => ?_)
  rcases hr2916 with rfl | rfl
  · refine lv_if_eq (tgt := 11) hx hb dX10_factHere_6 (by decide) (fun c9 => absurd c9 (by decide)) (fun _ => ?_)
    refine lv_iconst (v := 0) hx hb dX10_factHere_9 (by decide) ?_
    exact RP (v := 0) hC (trivial) rfl dX10_factHere_10
  · refine lv_if_eq (tgt := 11) hx hb dX10_factHere_6 (by decide) (fun _ => ?_) (fun c9 => absurd (by decide) c9)
    refine lv_aload_n hx hb dX10_factHere_11 rfl (lv_at hl 0 rfl) ?_
    refine va_ldcS (index := 173) (tx := "post") hx hb hown (hO.2.1 12 (by decide)) dX10_factHere_12 ?_
    refine pVo hO hS hC hK hl hP hD (t_isName l G K 12 h0 tby kt tln tsp tkd ks kn tf9 fby (by omega) (by omega) (by omega) ((by decide))) si_X10_102 [0, 1] rfl rfl (by decide) rfl rfl rfl rfl rfl (Nat.le_of_ble_eq_true rfl) ⟨Nat.le_of_ble_eq_true rfl, Nat.le_of_ble_eq_true rfl⟩ ⟨by first | exact Nat.le_of_ble_eq_true rfl | exact Nat.zero_le _, by first | exact Nat.le_of_ble_eq_true rfl | exact Nat.zero_le _⟩ dX10_factHere_14 (fun r2918 hr2918 => ?_)
    rcases hr2918 with rfl | rfl
    · refine lv_if_eq (tgt := 22) hx hb dX10_factHere_17 (by decide) (fun c9 => absurd c9 (by decide)) (fun _ => ?_)
      refine lv_iconst (v := 1) hx hb dX10_factHere_20 (by decide) ?_
      exact RP (v := 1) hC (trivial) rfl dX10_factHere_21
    · refine lv_if_eq (tgt := 22) hx hb dX10_factHere_17 (by decide) (fun _ => ?_) (fun c9 => absurd (by decide) c9)
      refine lv_aload_n hx hb dX10_factHere_22 rfl (lv_at hl 0 rfl) ?_
      refine va_ldcS (index := 175) (tx := "had") hx hb hown (hO.2.1 13 (by decide)) dX10_factHere_23 ?_
      refine pVo hO hS hC hK hl hP hD (t_isName l G K 13 h0 tby kt tln tsp tkd ks kn tf9 fby (by omega) (by omega) (by omega) ((by decide))) si_X10_102 [0, 1] rfl rfl (by decide) rfl rfl rfl rfl rfl (Nat.le_of_ble_eq_true rfl) ⟨Nat.le_of_ble_eq_true rfl, Nat.le_of_ble_eq_true rfl⟩ ⟨by first | exact Nat.le_of_ble_eq_true rfl | exact Nat.zero_le _, by first | exact Nat.le_of_ble_eq_true rfl | exact Nat.zero_le _⟩ dX10_factHere_25 (fun r2920 hr2920 => ?_)
      rcases hr2920 with rfl | rfl
      · refine lv_if_eq (tgt := 33) hx hb dX10_factHere_28 (by decide) (fun c9 => absurd c9 (by decide)) (fun _ => ?_)
        refine lv_iconst (v := 2) hx hb dX10_factHere_31 (by decide) ?_
        exact RP (v := 2) hC (trivial) rfl dX10_factHere_32
      · refine lv_if_eq (tgt := 33) hx hb dX10_factHere_28 (by decide) (fun _ => ?_) (fun c9 => absurd (by decide) c9)
        refine lv_aload_n hx hb dX10_factHere_33 rfl (lv_at hl 0 rfl) ?_
        refine va_ldcS (index := 177) (tx := "made") hx hb hown (hO.2.1 14 (by decide)) dX10_factHere_34 ?_
        refine pVo hO hS hC hK hl hP hD (t_isName l G K 14 h0 tby kt tln tsp tkd ks kn tf9 fby (by omega) (by omega) (by omega) ((by decide))) si_X10_102 [0, 1] rfl rfl (by decide) rfl rfl rfl rfl rfl (Nat.le_of_ble_eq_true rfl) ⟨Nat.le_of_ble_eq_true rfl, Nat.le_of_ble_eq_true rfl⟩ ⟨by first | exact Nat.le_of_ble_eq_true rfl | exact Nat.zero_le _, by first | exact Nat.le_of_ble_eq_true rfl | exact Nat.zero_le _⟩ dX10_factHere_36 (fun r2922 hr2922 => ?_)
        rcases hr2922 with rfl | rfl
        · refine lv_if_eq (tgt := 44) hx hb dX10_factHere_39 (by decide) (fun c9 => absurd c9 (by decide)) (fun _ => ?_)
          refine lv_iconst (v := 3) hx hb dX10_factHere_42 (by decide) ?_
          exact RP (v := 3) hC (trivial) rfl dX10_factHere_43
        · refine lv_if_eq (tgt := 44) hx hb dX10_factHere_39 (by decide) (fun _ => ?_) (fun c9 => absurd (by decide) c9)
          refine lv_aload_n hx hb dX10_factHere_44 rfl (lv_at hl 0 rfl) ?_
          refine va_ldcS (index := 179) (tx := "slow") hx hb hown (hO.2.1 15 (by decide)) dX10_factHere_45 ?_
          refine pVo hO hS hC hK hl hP hD (t_isName l G K 15 h0 tby kt tln tsp tkd ks kn tf9 fby (by omega) (by omega) (by omega) ((by decide))) si_X10_102 [0, 1] rfl rfl (by decide) rfl rfl rfl rfl rfl (Nat.le_of_ble_eq_true rfl) ⟨Nat.le_of_ble_eq_true rfl, Nat.le_of_ble_eq_true rfl⟩ ⟨by first | exact Nat.le_of_ble_eq_true rfl | exact Nat.zero_le _, by first | exact Nat.le_of_ble_eq_true rfl | exact Nat.zero_le _⟩ dX10_factHere_47 (fun r2924 hr2924 => ?_)
          rcases hr2924 with rfl | rfl
          · refine lv_if_eq (tgt := 57) hx hb dX10_factHere_50 (by decide) (fun c9 => absurd c9 (by decide)) (fun _ => ?_)
            refine lv_iconst (v := 4) hx hb dX10_factHere_53 (by decide) ?_
            refine lv_goto (tgt := 58) hx hb dX10_factHere_54 (by decide) ?_
            exact RP (v := 4) hC (trivial) rfl dX10_factHere_58
          · refine lv_if_eq (tgt := 57) hx hb dX10_factHere_50 (by decide) (fun _ => ?_) (fun c9 => absurd (by decide) c9)
            refine lv_iconst (v := (-1)) hx hb dX10_factHere_57 (by decide) ?_
            exact RP (v := (-1)) hC (trivial) rfl dX10_factHere_58
set_option maxHeartbeats 4000000 in
set_option maxRecDepth 100000 in
theorem t_signHere (l : Launch) (G : GG) (h0 : Nat) (tby : Nat) (kt : Nat) (tln : Nat) (tsp : Nat) (tkd : Int32) (ts9 : Int32) (tn9 : Int32) (tf9 : Int32) : MP l G yX10_signHere cX10_signHere 1 (some .int) 1 [.ref h0] [(h0, .inr (10, [.ref tby, .int (nI kt), .ref tln, .ref tsp, .int tkd, .int ts9, .int tn9, .int tf9]))] (fun r : Int32 => True) := by
  refine MP.start (by decide +kernel) (Nat.le_of_ble_eq_true rfl) ?_
  intro p e s m below meth c ls hC hK hP hD hl
  have hl : lv_has ls 1 [(0, .ref h0)] := hl
  obtain ⟨hx, hb, hr, hml, hB, hown, hlocks, hnm⟩ := id hC
  refine lv_aload_n hx hb dX10_signHere_0 rfl (lv_at hl 0 rfl) ?_
  refine gf_X10_31 hC rfl hK hP 0 rfl rfl dX10_signHere_1 ?_
  refine lv_bipush (v := 60) hx hb dX10_signHere_4 (by decide) ?_
  refine lv_icmp_ne (tgt := 11) hx hb dX10_signHere_6 (by decide) (fun c_6_2926 => ?_) (fun c_6_2926 => ?_)
  · refine lv_aload_n hx hb dX10_signHere_11 rfl (lv_at hl 0 rfl) ?_
    refine gf_X10_31 hC rfl hK hP 0 rfl rfl dX10_signHere_12 ?_
    refine lv_bipush (v := 61) hx hb dX10_signHere_15 (by decide) ?_
    refine lv_icmp_ne (tgt := 22) hx hb dX10_signHere_17 (by decide) (fun c_17_2927 => ?_) (fun c_17_2927 => ?_)
    · refine lv_aload_n hx hb dX10_signHere_22 rfl (lv_at hl 0 rfl) ?_
      refine gf_X10_31 hC rfl hK hP 0 rfl rfl dX10_signHere_23 ?_
      refine lv_bipush (v := 62) hx hb dX10_signHere_26 (by decide) ?_
      refine lv_icmp_ne (tgt := 35) hx hb dX10_signHere_28 (by decide) (fun c_28_2928 => ?_) (fun c_28_2928 => ?_)
      · refine lv_iconst (v := (-1)) hx hb dX10_signHere_35 (by decide) ?_
        exact RP (v := (-1)) hC (trivial) rfl dX10_signHere_36
      · refine lv_iconst (v := 2) hx hb dX10_signHere_31 (by decide) ?_
        refine lv_goto (tgt := 36) hx hb dX10_signHere_32 (by decide) ?_
        exact RP (v := 2) hC (trivial) rfl dX10_signHere_36
    · refine lv_iconst (v := 1) hx hb dX10_signHere_20 (by decide) ?_
      exact RP (v := 1) hC (trivial) rfl dX10_signHere_21
  · refine lv_iconst (v := 0) hx hb dX10_signHere_9 (by decide) ?_
    exact RP (v := 0) hC (trivial) rfl dX10_signHere_10
set_option maxHeartbeats 4000000 in
set_option maxRecDepth 100000 in
theorem t_sortHere (l : Launch) (G : GG) (K : OO) (h0 : Nat) (tby : Nat) (kt : Nat) (tln : Nat) (tsp : Nat) (tkd : Int32) (ks : Nat) (kn : Nat) (tf9 : Int32) (fby : Nat → Int32) (hkt : kt ≤ 240) (hks : ks ≤ 240) (hkn : kn ≤ 240) : MPo l G K yX10_sortHere cX10_sortHere 1 (some .int) 7 [.ref h0] [(h0, .inr (10, [.ref tby, .int (nI kt), .ref tln, .ref tsp, .int tkd, .int (nI ks), .int (nI kn), .int tf9])), (tby, .inl (G.2.1, 240, .inl fby))] (fun r : Int32 => True) := by
  refine MPo.start (by decide +kernel) (Nat.le_of_ble_eq_true rfl) ?_
  intro p e s m below meth c ls hC hK hP hD hl hO hS
  have hl : lv_has ls 1 [(0, .ref h0)] := hl
  obtain ⟨hx, hb, hr, hml, hB, hown, hlocks, hnm⟩ := id hC
  refine lv_aload_n hx hb dX10_sortHere_0 rfl (lv_at hl 0 rfl) ?_
  refine va_ldcS (index := 127) (tx := "taken") hx hb hown (hO.2.1 1 (by decide)) dX10_sortHere_1 ?_
  refine pVo hO hS hC hK hl hP hD (t_isName l G K 1 h0 tby kt tln tsp tkd ks kn tf9 fby (by omega) (by omega) (by omega) ((by decide))) si_X10_102 [0, 1] rfl rfl (by decide) rfl rfl rfl rfl rfl (Nat.le_of_ble_eq_true rfl) ⟨Nat.le_of_ble_eq_true rfl, Nat.le_of_ble_eq_true rfl⟩ ⟨by first | exact Nat.le_of_ble_eq_true rfl | exact Nat.zero_le _, by first | exact Nat.le_of_ble_eq_true rfl | exact Nat.zero_le _⟩ dX10_sortHere_3 (fun r2929 hr2929 => ?_)
  rcases hr2929 with rfl | rfl
  · refine lv_if_eq (tgt := 11) hx hb dX10_sortHere_6 (by decide) (fun c9 => absurd c9 (by decide)) (fun _ => ?_)
    refine lv_iconst (v := 0) hx hb dX10_sortHere_9 (by decide) ?_
    exact RP (v := 0) hC (trivial) rfl dX10_sortHere_10
  · refine lv_if_eq (tgt := 11) hx hb dX10_sortHere_6 (by decide) (fun _ => ?_) (fun c9 => absurd (by decide) c9)
    refine lv_aload_n hx hb dX10_sortHere_11 rfl (lv_at hl 0 rfl) ?_
    refine va_ldcS (index := 129) (tx := "warn") hx hb hown (hO.2.1 2 (by decide)) dX10_sortHere_12 ?_
    refine pVo hO hS hC hK hl hP hD (t_isName l G K 2 h0 tby kt tln tsp tkd ks kn tf9 fby (by omega) (by omega) (by omega) ((by decide))) si_X10_102 [0, 1] rfl rfl (by decide) rfl rfl rfl rfl rfl (Nat.le_of_ble_eq_true rfl) ⟨Nat.le_of_ble_eq_true rfl, Nat.le_of_ble_eq_true rfl⟩ ⟨by first | exact Nat.le_of_ble_eq_true rfl | exact Nat.zero_le _, by first | exact Nat.le_of_ble_eq_true rfl | exact Nat.zero_le _⟩ dX10_sortHere_14 (fun r2931 hr2931 => ?_)
    rcases hr2931 with rfl | rfl
    · refine lv_if_eq (tgt := 22) hx hb dX10_sortHere_17 (by decide) (fun c9 => absurd c9 (by decide)) (fun _ => ?_)
      refine lv_iconst (v := 1) hx hb dX10_sortHere_20 (by decide) ?_
      exact RP (v := 1) hC (trivial) rfl dX10_sortHere_21
    · refine lv_if_eq (tgt := 22) hx hb dX10_sortHere_17 (by decide) (fun _ => ?_) (fun c9 => absurd (by decide) c9)
      refine lv_aload_n hx hb dX10_sortHere_22 rfl (lv_at hl 0 rfl) ?_
      refine va_ldcS (index := 131) (tx := "ask") hx hb hown (hO.2.1 3 (by decide)) dX10_sortHere_23 ?_
      refine pVo hO hS hC hK hl hP hD (t_isName l G K 3 h0 tby kt tln tsp tkd ks kn tf9 fby (by omega) (by omega) (by omega) ((by decide))) si_X10_102 [0, 1] rfl rfl (by decide) rfl rfl rfl rfl rfl (Nat.le_of_ble_eq_true rfl) ⟨Nat.le_of_ble_eq_true rfl, Nat.le_of_ble_eq_true rfl⟩ ⟨by first | exact Nat.le_of_ble_eq_true rfl | exact Nat.zero_le _, by first | exact Nat.le_of_ble_eq_true rfl | exact Nat.zero_le _⟩ dX10_sortHere_25 (fun r2933 hr2933 => ?_)
      rcases hr2933 with rfl | rfl
      · refine lv_if_eq (tgt := 33) hx hb dX10_sortHere_28 (by decide) (fun c9 => absurd c9 (by decide)) (fun _ => ?_)
        refine lv_iconst (v := 2) hx hb dX10_sortHere_31 (by decide) ?_
        exact RP (v := 2) hC (trivial) rfl dX10_sortHere_32
      · refine lv_if_eq (tgt := 33) hx hb dX10_sortHere_28 (by decide) (fun _ => ?_) (fun c9 => absurd (by decide) c9)
        refine lv_aload_n hx hb dX10_sortHere_33 rfl (lv_at hl 0 rfl) ?_
        refine va_ldcS (index := 133) (tx := "heard") hx hb hown (hO.2.1 4 (by decide)) dX10_sortHere_34 ?_
        refine pVo hO hS hC hK hl hP hD (t_isName l G K 4 h0 tby kt tln tsp tkd ks kn tf9 fby (by omega) (by omega) (by omega) ((by decide))) si_X10_102 [0, 1] rfl rfl (by decide) rfl rfl rfl rfl rfl (Nat.le_of_ble_eq_true rfl) ⟨Nat.le_of_ble_eq_true rfl, Nat.le_of_ble_eq_true rfl⟩ ⟨by first | exact Nat.le_of_ble_eq_true rfl | exact Nat.zero_le _, by first | exact Nat.le_of_ble_eq_true rfl | exact Nat.zero_le _⟩ dX10_sortHere_36 (fun r2935 hr2935 => ?_)
        rcases hr2935 with rfl | rfl
        · refine lv_if_eq (tgt := 46) hx hb dX10_sortHere_39 (by decide) (fun c9 => absurd c9 (by decide)) (fun _ => ?_)
          refine lv_iconst (v := 3) hx hb dX10_sortHere_42 (by decide) ?_
          refine lv_goto (tgt := 47) hx hb dX10_sortHere_43 (by decide) ?_
          exact RP (v := 3) hC (trivial) rfl dX10_sortHere_47
        · refine lv_if_eq (tgt := 46) hx hb dX10_sortHere_39 (by decide) (fun _ => ?_) (fun c9 => absurd (by decide) c9)
          refine lv_iconst (v := (-1)) hx hb dX10_sortHere_46 (by decide) ?_
          exact RP (v := (-1)) hC (trivial) rfl dX10_sortHere_47
set_option maxHeartbeats 4000000 in
set_option maxRecDepth 100000 in
theorem t_takesComparison (l : Launch) (G : GG) (K : OO) (h0 : Nat) (tby : Nat) (kt : Nat) (tln : Nat) (tsp : Nat) (tkd : Int32) (ks : Nat) (kn : Nat) (tf9 : Int32) (fby : Nat → Int32) (tspc : Nat) (ksp : Nat) (ftsp : Nat → Int32) (hkt : kt ≤ 240) (hks : ks ≤ 240) (hkn : kn ≤ 240) (hksp : ksp ≤ 120) : MIo l G K yX10_takesComparison cX10_takesComparison 4 (some .boolean) 8 0 0 [.ref h0] [(h0, .inr (10, [.ref tby, .int (nI kt), .ref tln, .ref tsp, .int tkd, .int (nI ks), .int (nI kn), .int tf9])), (tby, .inl (G.2.1, 240, .inl fby)), (tsp, .inr (8, [.int 120, .int 1, .ref tspc, .int (nI ksp)])), (tspc, .inl (G.2.1, 120, .inl ftsp))] (fun (r : Int32) (u : Int32 × Nat × Nat × Int32 × Nat × (Nat → Int32)) => (r = 1 ∨ r = 0) ∧ (u.2.1 ≤ 240 ∧ u.2.2.1 ≤ 240 ∧ u.2.2.2.2.1 ≤ 120)) (fun u : Int32 × Nat × Nat × Int32 × Nat × (Nat → Int32) => [(h0, .inr (10, [.ref tby, .int (nI kt), .ref tln, .ref tsp, .int u.1, .int (nI u.2.1), .int (nI u.2.2.1), .int u.2.2.2.1])), (tby, .inl (G.2.1, 240, .inl fby)), (tsp, .inr (8, [.int 120, .int 1, .ref tspc, .int (nI u.2.2.2.2.1)])), (tspc, .inl (G.2.1, 120, .inl u.2.2.2.2.2))]) := by
  refine MIo.start (by decide +kernel) (Nat.le_of_ble_eq_true rfl) ?_
  intro p e s m below meth c A ls hC hK hP hD hS hA hl hO
  have hl : lv_has ls 4 [(0, .ref h0)] := hl
  obtain ⟨hx, hb, hr, hml, hB, hown, hlocks, hnm⟩ := id hC
  refine lv_aload_n hx hb dX10_takesComparison_0 rfl (lv_at hl 0 rfl) ?_
  refine pVo hO hS hC hK hl hP hD (t_factHere l G K h0 tby kt tln tsp tkd ks kn tf9 fby (by omega) (by omega) (by omega)) si_X10_165 [0, 1] rfl rfl (by decide) rfl rfl rfl rfl rfl (Nat.le_of_ble_eq_true rfl) ⟨Nat.le_of_ble_eq_true rfl, Nat.le_of_ble_eq_true rfl⟩ ⟨by first | exact Nat.le_of_ble_eq_true rfl | exact Nat.zero_le _, by first | exact Nat.le_of_ble_eq_true rfl | exact Nat.zero_le _⟩ dX10_takesComparison_1 (fun r2937 hr2937 => ?_)
  refine lv_istore_n (lv' := [(1, .int r2937), (0, .ref h0)]) hx hb dX10_takesComparison_4 rfl hl (by decide) rfl (fun ls hl => ?_)
  refine lv_iload_n hx hb dX10_takesComparison_5 rfl (lv_at hl 0 rfl) ?_
  refine lv_if_ge (tgt := 14) hx hb dX10_takesComparison_6 (by decide) (fun c_6_2938 => ?_) (fun c_6_2938 => ?_)
  · refine lv_aload_n hx hb dX10_takesComparison_14 rfl (lv_at hl 1 rfl) ?_
    refine vV (wr := [(tsp, .inr (8, [.int 120, .int 1, .ref tspc, .int (nI ksp)])), (tspc, .inl (G.2.1, 120, .inl ftsp))]) hC hK hl hP hD hS hA (t_advance l G h0 tby kt tln tsp tkd ks kn tf9 fby (by omega) (by omega) (by omega)) si_X10_47 [0, 1] [2, 3] rfl rfl (by decide) rfl (by decide) (by decide) rfl rfl rfl rfl rfl (Nat.le_of_ble_eq_true rfl) ⟨Nat.le_of_ble_eq_true rfl, Nat.le_of_ble_eq_true rfl⟩ ⟨Nat.le_of_ble_eq_true rfl, Nat.le_of_ble_eq_true rfl⟩ dX10_takesComparison_15 (fun u2940 H locs hr2939 hP hD hS => ?_)
    obtain ⟨kd12941, ks12942, kn12943⟩ := u2940
    try dsimp only at hr2939
    have hP : va_P G.1 vwCl [(tsp, .inr (8, [.int 120, .int 1, .ref tspc, .int (nI ksp)])), (tspc, .inl (G.2.1, 120, .inl ftsp)), (h0, .inr (10, [.ref tby, .int (nI kt), .ref tln, .ref tsp, .int kd12941, .int (nI ks12942), .int (nI kn12943), .int tf9])), (tby, .inl (G.2.1, 240, .inl fby))] H := hP
    have hD : va_D A [(tsp, .inr (8, [.int 120, .int 1, .ref tspc, .int (nI ksp)])), (tspc, .inl (G.2.1, 120, .inl ftsp)), (h0, .inr (10, [.ref tby, .int (nI kt), .ref tln, .ref tsp, .int kd12941, .int (nI ks12942), .int (nI kn12943), .int tf9])), (tby, .inl (G.2.1, 240, .inl fby))] := hD
    have w2944 := hr2939
    refine lv_aload_n hx hb dX10_takesComparison_18 rfl (lv_at hl 1 rfl) ?_
    refine pV hC hK hl hP hD (t_signHere l G h0 tby kt tln tsp kd12941 (nI ks12942) (nI kn12943) tf9) si_X10_168 [2] rfl rfl (by decide) rfl rfl rfl rfl rfl (Nat.le_of_ble_eq_true rfl) ⟨Nat.le_of_ble_eq_true rfl, Nat.le_of_ble_eq_true rfl⟩ ⟨by first | exact Nat.le_of_ble_eq_true rfl | exact Nat.zero_le _, by first | exact Nat.le_of_ble_eq_true rfl | exact Nat.zero_le _⟩ dX10_takesComparison_19 (fun r2945 hr2945 => ?_)
    refine lv_istore_n (lv' := [(2, .int r2945), (1, .int r2937), (0, .ref h0)]) hx hb dX10_takesComparison_22 rfl hl (by decide) rfl (fun ls hl => ?_)
    refine lv_iload_n hx hb dX10_takesComparison_23 rfl (lv_at hl 0 rfl) ?_
    refine lv_if_ge (tgt := 32) hx hb dX10_takesComparison_24 (by decide) (fun c_24_2946 => ?_) (fun c_24_2946 => ?_)
    · refine lv_aload_n hx hb dX10_takesComparison_32 rfl (lv_at hl 2 rfl) ?_
      refine vV (wr := [(tsp, .inr (8, [.int 120, .int 1, .ref tspc, .int (nI ksp)])), (tspc, .inl (G.2.1, 120, .inl ftsp))]) hC hK hl hP hD hS hA (t_advance l G h0 tby kt tln tsp kd12941 ks12942 kn12943 tf9 fby (by omega) (by omega) (by omega)) si_X10_47 [2, 3] [0, 1] rfl rfl (by decide) rfl (by decide) (by decide) rfl rfl rfl rfl rfl (Nat.le_of_ble_eq_true rfl) ⟨Nat.le_of_ble_eq_true rfl, Nat.le_of_ble_eq_true rfl⟩ ⟨Nat.le_of_ble_eq_true rfl, Nat.le_of_ble_eq_true rfl⟩ dX10_takesComparison_33 (fun u2948 H locs hr2947 hP hD hS => ?_)
      obtain ⟨kd12949, ks12950, kn12951⟩ := u2948
      try dsimp only at hr2947
      have hP : va_P G.1 vwCl [(tsp, .inr (8, [.int 120, .int 1, .ref tspc, .int (nI ksp)])), (tspc, .inl (G.2.1, 120, .inl ftsp)), (h0, .inr (10, [.ref tby, .int (nI kt), .ref tln, .ref tsp, .int kd12949, .int (nI ks12950), .int (nI kn12951), .int tf9])), (tby, .inl (G.2.1, 240, .inl fby))] H := hP
      have hD : va_D A [(tsp, .inr (8, [.int 120, .int 1, .ref tspc, .int (nI ksp)])), (tspc, .inl (G.2.1, 120, .inl ftsp)), (h0, .inr (10, [.ref tby, .int (nI kt), .ref tln, .ref tsp, .int kd12949, .int (nI ks12950), .int (nI kn12951), .int tf9])), (tby, .inl (G.2.1, 240, .inl fby))] := hD
      have w2952 := hr2947
      refine lv_aload_n hx hb dX10_takesComparison_36 rfl (lv_at hl 2 rfl) ?_
      refine pV hC hK hl hP hD (t_numberHere l G h0 tby kt tln tsp kd12949 ks12950 kn12951 tf9 fby (by omega) (by omega) (by omega)) si_X10_109 [2, 3] rfl rfl (by decide) rfl rfl rfl rfl rfl (Nat.le_of_ble_eq_true rfl) ⟨Nat.le_of_ble_eq_true rfl, Nat.le_of_ble_eq_true rfl⟩ ⟨by first | exact Nat.le_of_ble_eq_true rfl | exact Nat.zero_le _, by first | exact Nat.le_of_ble_eq_true rfl | exact Nat.zero_le _⟩ dX10_takesComparison_37 (fun r2953 hr2953 => ?_)
      refine lv_istore_n (lv' := [(3, .int r2953), (2, .int r2945), (1, .int r2937), (0, .ref h0)]) hx hb dX10_takesComparison_40 rfl hl (by decide) rfl (fun ls hl => ?_)
      refine lv_iload_n hx hb dX10_takesComparison_41 rfl (lv_at hl 0 rfl) ?_
      refine lv_if_ge (tgt := 50) hx hb dX10_takesComparison_42 (by decide) (fun c_42_2954 => ?_) (fun c_42_2954 => ?_)
      · refine lv_aload_n hx hb dX10_takesComparison_50 rfl (lv_at hl 3 rfl) ?_
        refine vV (wr := [(tsp, .inr (8, [.int 120, .int 1, .ref tspc, .int (nI ksp)])), (tspc, .inl (G.2.1, 120, .inl ftsp))]) hC hK hl hP hD hS hA (t_advance l G h0 tby kt tln tsp kd12949 ks12950 kn12951 tf9 fby (by omega) (by omega) (by omega)) si_X10_47 [2, 3] [0, 1] rfl rfl (by decide) rfl (by decide) (by decide) rfl rfl rfl rfl rfl (Nat.le_of_ble_eq_true rfl) ⟨Nat.le_of_ble_eq_true rfl, Nat.le_of_ble_eq_true rfl⟩ ⟨Nat.le_of_ble_eq_true rfl, Nat.le_of_ble_eq_true rfl⟩ dX10_takesComparison_51 (fun u2956 H locs hr2955 hP hD hS => ?_)
        obtain ⟨kd12957, ks12958, kn12959⟩ := u2956
        try dsimp only at hr2955
        have hP : va_P G.1 vwCl [(tsp, .inr (8, [.int 120, .int 1, .ref tspc, .int (nI ksp)])), (tspc, .inl (G.2.1, 120, .inl ftsp)), (h0, .inr (10, [.ref tby, .int (nI kt), .ref tln, .ref tsp, .int kd12957, .int (nI ks12958), .int (nI kn12959), .int tf9])), (tby, .inl (G.2.1, 240, .inl fby))] H := hP
        have hD : va_D A [(tsp, .inr (8, [.int 120, .int 1, .ref tspc, .int (nI ksp)])), (tspc, .inl (G.2.1, 120, .inl ftsp)), (h0, .inr (10, [.ref tby, .int (nI kt), .ref tln, .ref tsp, .int kd12957, .int (nI ks12958), .int (nI kn12959), .int tf9])), (tby, .inl (G.2.1, 240, .inl fby))] := hD
        have w2960 := hr2955
        refine lv_aload_n hx hb dX10_takesComparison_54 rfl (lv_at hl 3 rfl) ?_
        refine lv_iload_n hx hb dX10_takesComparison_55 rfl (lv_at hl 2 rfl) ?_
        refine lv_iconst (v := 3) hx hb dX10_takesComparison_56 (by decide) ?_
        refine lv_imul hx hb dX10_takesComparison_57 ?_
        refine lv_iload_n hx hb dX10_takesComparison_58 rfl (lv_at hl 1 rfl) ?_
        refine lv_iadd hx hb dX10_takesComparison_59 ?_
        refine lv_sipush (v := 1000) hx hb dX10_takesComparison_60 (by decide) ?_
        refine lv_imul hx hb dX10_takesComparison_63 ?_
        refine lv_iload_n hx hb dX10_takesComparison_64 rfl (lv_at hl 0 rfl) ?_
        refine lv_iadd hx hb dX10_takesComparison_65 ?_
        refine vV (wr := [(tby, .inl (G.2.1, 240, .inl fby))]) hC hK hl hP hD hS hA (t_addStep l G h0 ((((r2937 * 3) + r2945) * 1000) + r2953) tby kt tln tsp kd12957 ks12958 kn12959 tf9 tspc ksp ftsp (by omega)) si_X10_152 [2, 0, 1] [3] rfl rfl (by decide) rfl (by decide) (by decide) rfl rfl rfl rfl rfl (Nat.le_of_ble_eq_true rfl) ⟨Nat.le_of_ble_eq_true rfl, Nat.le_of_ble_eq_true rfl⟩ ⟨Nat.le_of_ble_eq_true rfl, Nat.le_of_ble_eq_true rfl⟩ dX10_takesComparison_66 (fun u2962 H locs hr2961 hP hD hS => ?_)
        obtain ⟨ksp12963, gtsp2964⟩ := u2962
        try dsimp only at hr2961
        have hP : va_P G.1 vwCl [(tby, .inl (G.2.1, 240, .inl fby)), (h0, .inr (10, [.ref tby, .int (nI kt), .ref tln, .ref tsp, .int kd12957, .int (nI ks12958), .int (nI kn12959), .int tf9])), (tsp, .inr (8, [.int 120, .int 1, .ref tspc, .int (nI ksp12963)])), (tspc, .inl (G.2.1, 120, .inl gtsp2964))] H := hP
        have hD : va_D A [(tby, .inl (G.2.1, 240, .inl fby)), (h0, .inr (10, [.ref tby, .int (nI kt), .ref tln, .ref tsp, .int kd12957, .int (nI ks12958), .int (nI kn12959), .int tf9])), (tsp, .inr (8, [.int 120, .int 1, .ref tspc, .int (nI ksp12963)])), (tspc, .inl (G.2.1, 120, .inl gtsp2964))] := hD
        have w2965 := hr2961
        refine lv_iconst (v := 1) hx hb dX10_takesComparison_69 (by decide) ?_
        exact RI (v := 1) hC hP hD hS [1, 0, 2, 3] (kd12957, ks12958, kn12959, tf9, ksp12963, gtsp2964) rfl rfl (by decide) (⟨Or.inl (rfl), by dsimp only; omega⟩) (by decide +kernel) dX10_takesComparison_70
      · refine lv_aload_n hx hb dX10_takesComparison_45 rfl (lv_at hl 3 rfl) ?_
        refine iV (wr := [(tsp, .inr (8, [.int 120, .int 1, .ref tspc, .int (nI ksp)])), (tspc, .inl (G.2.1, 120, .inl ftsp)), (tby, .inl (G.2.1, 240, .inl fby))]) hC hK hl hP hD hS hA (t_refuse l G h0 tby kt tln tsp kd12949 ks12950 kn12951 tf9) si_X10_106 [2] [0, 1, 3] rfl rfl (by decide) rfl (by decide) (by decide) rfl rfl rfl rfl rfl (Nat.le_of_ble_eq_true rfl) ⟨Nat.le_of_ble_eq_true rfl, Nat.le_of_ble_eq_true rfl⟩ ⟨Nat.le_of_ble_eq_true rfl, Nat.le_of_ble_eq_true rfl⟩ dX10_takesComparison_46 (fun r2966 u2967 H locs hr2966 hP hD hS => ?_)
        obtain ⟨tf12968, rfl⟩ : ∃ z9, z9 = u2967 := ⟨_, rfl⟩
        try dsimp only at hr2966
        have hP : va_P G.1 vwCl [(tsp, .inr (8, [.int 120, .int 1, .ref tspc, .int (nI ksp)])), (tspc, .inl (G.2.1, 120, .inl ftsp)), (tby, .inl (G.2.1, 240, .inl fby)), (h0, .inr (10, [.ref tby, .int (nI kt), .ref tln, .ref tsp, .int kd12949, .int (nI ks12950), .int (nI kn12951), .int tf12968]))] H := hP
        have hD : va_D A [(tsp, .inr (8, [.int 120, .int 1, .ref tspc, .int (nI ksp)])), (tspc, .inl (G.2.1, 120, .inl ftsp)), (tby, .inl (G.2.1, 240, .inl fby)), (h0, .inr (10, [.ref tby, .int (nI kt), .ref tln, .ref tsp, .int kd12949, .int (nI ks12950), .int (nI kn12951), .int tf12968]))] := hD
        obtain rfl := hr2966
        exact RI (v := 0) hC hP hD hS [3, 2, 0, 1] (kd12949, ks12950, kn12951, tf12968, ksp, ftsp) rfl rfl (by decide) (⟨Or.inr (rfl), by dsimp only; omega⟩) (by decide +kernel) dX10_takesComparison_49
    · refine lv_aload_n hx hb dX10_takesComparison_27 rfl (lv_at hl 2 rfl) ?_
      refine iV (wr := [(tsp, .inr (8, [.int 120, .int 1, .ref tspc, .int (nI ksp)])), (tspc, .inl (G.2.1, 120, .inl ftsp)), (tby, .inl (G.2.1, 240, .inl fby))]) hC hK hl hP hD hS hA (t_refuse l G h0 tby kt tln tsp kd12941 ks12942 kn12943 tf9) si_X10_106 [2] [0, 1, 3] rfl rfl (by decide) rfl (by decide) (by decide) rfl rfl rfl rfl rfl (Nat.le_of_ble_eq_true rfl) ⟨Nat.le_of_ble_eq_true rfl, Nat.le_of_ble_eq_true rfl⟩ ⟨Nat.le_of_ble_eq_true rfl, Nat.le_of_ble_eq_true rfl⟩ dX10_takesComparison_28 (fun r2970 u2971 H locs hr2970 hP hD hS => ?_)
      obtain ⟨tf12972, rfl⟩ : ∃ z9, z9 = u2971 := ⟨_, rfl⟩
      try dsimp only at hr2970
      have hP : va_P G.1 vwCl [(tsp, .inr (8, [.int 120, .int 1, .ref tspc, .int (nI ksp)])), (tspc, .inl (G.2.1, 120, .inl ftsp)), (tby, .inl (G.2.1, 240, .inl fby)), (h0, .inr (10, [.ref tby, .int (nI kt), .ref tln, .ref tsp, .int kd12941, .int (nI ks12942), .int (nI kn12943), .int tf12972]))] H := hP
      have hD : va_D A [(tsp, .inr (8, [.int 120, .int 1, .ref tspc, .int (nI ksp)])), (tspc, .inl (G.2.1, 120, .inl ftsp)), (tby, .inl (G.2.1, 240, .inl fby)), (h0, .inr (10, [.ref tby, .int (nI kt), .ref tln, .ref tsp, .int kd12941, .int (nI ks12942), .int (nI kn12943), .int tf12972]))] := hD
      obtain rfl := hr2970
      exact RI (v := 0) hC hP hD hS [3, 2, 0, 1] (kd12941, ks12942, kn12943, tf12972, ksp, ftsp) rfl rfl (by decide) (⟨Or.inr (rfl), by dsimp only; omega⟩) (by decide +kernel) dX10_takesComparison_31
  · refine lv_aload_n hx hb dX10_takesComparison_9 rfl (lv_at hl 1 rfl) ?_
    refine iV (wr := [(tby, .inl (G.2.1, 240, .inl fby)), (tsp, .inr (8, [.int 120, .int 1, .ref tspc, .int (nI ksp)])), (tspc, .inl (G.2.1, 120, .inl ftsp))]) hC hK hl hP hD hS hA (t_refuse l G h0 tby kt tln tsp tkd ks kn tf9) si_X10_106 [0] [1, 2, 3] rfl rfl (by decide) rfl (by decide) (by decide) rfl rfl rfl rfl rfl (Nat.le_of_ble_eq_true rfl) ⟨Nat.le_of_ble_eq_true rfl, Nat.le_of_ble_eq_true rfl⟩ ⟨Nat.le_of_ble_eq_true rfl, Nat.le_of_ble_eq_true rfl⟩ dX10_takesComparison_10 (fun r2974 u2975 H locs hr2974 hP hD hS => ?_)
    obtain ⟨tf12976, rfl⟩ : ∃ z9, z9 = u2975 := ⟨_, rfl⟩
    try dsimp only at hr2974
    have hP : va_P G.1 vwCl [(tby, .inl (G.2.1, 240, .inl fby)), (tsp, .inr (8, [.int 120, .int 1, .ref tspc, .int (nI ksp)])), (tspc, .inl (G.2.1, 120, .inl ftsp)), (h0, .inr (10, [.ref tby, .int (nI kt), .ref tln, .ref tsp, .int tkd, .int (nI ks), .int (nI kn), .int tf12976]))] H := hP
    have hD : va_D A [(tby, .inl (G.2.1, 240, .inl fby)), (tsp, .inr (8, [.int 120, .int 1, .ref tspc, .int (nI ksp)])), (tspc, .inl (G.2.1, 120, .inl ftsp)), (h0, .inr (10, [.ref tby, .int (nI kt), .ref tln, .ref tsp, .int tkd, .int (nI ks), .int (nI kn), .int tf12976]))] := hD
    obtain rfl := hr2974
    exact RI (v := 0) hC hP hD hS [3, 0, 1, 2] (tkd, ks, kn, tf12976, ksp, ftsp) rfl rfl (by decide) (⟨Or.inr (rfl), by dsimp only; omega⟩) (by decide +kernel) dX10_takesComparison_13
set_option maxHeartbeats 4000000 in
set_option maxRecDepth 100000 in
theorem t_one4 (l : Launch) (G : GG) (K : OO) (h0 : Nat) (tby : Nat) (kt : Nat) (tln : Nat) (tsp : Nat) (tkd : Int32) (ks : Nat) (kn : Nat) (tf9 : Int32) (fby : Nat → Int32) (tspc : Nat) (ksp : Nat) (ftsp : Nat → Int32) (hkt : kt ≤ 240) (hks : ks ≤ 240) (hkn : kn ≤ 240) (hksp : ksp ≤ 120) : MIo l G K yX10_takesOne cX10_takesOne 4 (some .boolean) 9 0 0 [.ref h0, .int 4] [(h0, .inr (10, [.ref tby, .int (nI kt), .ref tln, .ref tsp, .int tkd, .int (nI ks), .int (nI kn), .int tf9])), (tby, .inl (G.2.1, 240, .inl fby)), (tsp, .inr (8, [.int 120, .int 1, .ref tspc, .int (nI ksp)])), (tspc, .inl (G.2.1, 120, .inl ftsp))] (fun (r : Int32) (u : Int32 × Nat × Nat × Int32 × Nat × (Nat → Int32)) => (r = 1 ∨ r = 0) ∧ (u.2.1 ≤ 240 ∧ u.2.2.1 ≤ 240 ∧ u.2.2.2.2.1 ≤ 120)) (fun u : Int32 × Nat × Nat × Int32 × Nat × (Nat → Int32) => [(h0, .inr (10, [.ref tby, .int (nI kt), .ref tln, .ref tsp, .int u.1, .int (nI u.2.1), .int (nI u.2.2.1), .int u.2.2.2.1])), (tby, .inl (G.2.1, 240, .inl fby)), (tsp, .inr (8, [.int 120, .int 1, .ref tspc, .int (nI u.2.2.2.2.1)])), (tspc, .inl (G.2.1, 120, .inl u.2.2.2.2.2))]) := by
  refine MIo.start (by decide +kernel) (Nat.le_of_ble_eq_true rfl) ?_
  intro p e s m below meth c A ls hC hK hP hD hS hA hl hO
  have hl : lv_has ls 4 [(0, .ref h0), (1, .int 4)] := hl
  obtain ⟨hx, hb, hr, hml, hB, hown, hlocks, hnm⟩ := id hC
  refine lv_iconst (v := 0) hx hb dX10_takesOne_0 (by decide) ?_
  refine lv_istore_n (lv' := [(2, .int 0), (0, .ref h0), (1, .int 4)]) hx hb dX10_takesOne_1 rfl hl (by decide) rfl (fun ls hl => ?_)
  refine lv_iconst (v := 0) hx hb dX10_takesOne_2 (by decide) ?_
  refine lv_istore_n (lv' := [(3, .int 0), (2, .int 0), (0, .ref h0), (1, .int 4)]) hx hb dX10_takesOne_3 rfl hl (by decide) rfl (fun ls hl => ?_)
  have keyP : ∀ (nP kP : Nat) (tu : Int32) (vkd : Int32) (vtf : Int32) (vks : Nat) (vkn : Nat) (H : Heap) (locs : List Loc) (ls : Array Slot), kP + nP = 240 → (vks ≤ 240) → (vkn ≤ 240) → va_P G.1 vwCl [(h0, .inr (10, [.ref tby, .int (nI kt), .ref tln, .ref tsp, .int vkd, .int (nI vks), .int (nI vkn), .int vtf])), (tby, .inl (G.2.1, 240, .inl fby)), (tsp, .inr (8, [.int 120, .int 1, .ref tspc, .int (nI ksp)])), (tspc, .inl (G.2.1, 120, .inl ftsp))] H → va_D A [(h0, .inr (10, [.ref tby, .int (nI kt), .ref tln, .ref tsp, .int vkd, .int (nI vks), .int (nI vkn), .int vtf])), (tby, .inl (G.2.1, 240, .inl fby)), (tsp, .inr (8, [.int 120, .int 1, .ref tspc, .int (nI ksp)])), (tspc, .inl (G.2.1, 120, .inl ftsp))] → va_S A s.heap H locs → lv_has ls 4 [(3, .int (nI kP)), (2, .int tu), (0, .ref h0), (1, .int 4)] → W p l e (RM 9 0 0) s m ([.ref h0, .int 4] : List Value).toArray below meth c H locs 0 0 (MQ below (QI G (fun (r : Int32) (u : Int32 × Nat × Nat × Int32 × Nat × (Nat → Int32)) => (r = 1 ∨ r = 0) ∧ (u.2.1 ≤ 240 ∧ u.2.2.1 ≤ 240 ∧ u.2.2.2.2.1 ≤ 120)) (fun u : Int32 × Nat × Nat × Int32 × Nat × (Nat → Int32) => [(h0, .inr (10, [.ref tby, .int (nI kt), .ref tln, .ref tsp, .int u.1, .int (nI u.2.1), .int (nI u.2.2.1), .int u.2.2.2.1])), (tby, .inl (G.2.1, 240, .inl fby)), (tsp, .inr (8, [.int 120, .int 1, .ref tspc, .int (nI u.2.2.2.2.1)])), (tspc, .inl (G.2.1, 120, .inl u.2.2.2.2.2))]) A) ([.ref h0, .int 4] : List Value).toArray s 0 0 A) (F0 m 4 ls []) := by
    intro nP
    induction nP with
    | zero =>
      intro kP tu vkd vtf vks vkn H locs ls hkP hvks hvkn hP hD hS hl
      obtain rfl : 240 = kP := by omega
      have hl : lv_has ls 4 [(3, .int 240), (2, .int tu), (0, .ref h0), (1, .int 4)] := hl
      refine lv_iload_n hx hb dX10_takesOne_4 rfl (lv_at hl 0 rfl) ?_
      refine lv_sipush (v := 240) hx hb dX10_takesOne_5 (by decide) ?_
      refine lv_icmp_ge (tgt := 40) hx hb dX10_takesOne_8 (by decide) (fun _ => ?_) (fun c9 => absurd (by decide) c9)
      refine lv_aload_n hx hb dX10_takesOne_40 rfl (lv_at hl 2 rfl) ?_
      refine gf_X10_31 hC rfl hK hP 0 rfl rfl dX10_takesOne_41 ?_
      refine lv_bipush (v := 40) hx hb dX10_takesOne_44 (by decide) ?_
      refine lv_icmp_eq (tgt := 58) hx hb dX10_takesOne_46 (by decide) (fun c_46_2978 => ?_) (fun c_46_2978 => ?_)
      · refine lv_iload_n hx hb dX10_takesOne_58 rfl (lv_at hl 3 rfl) ?_
        refine lv_iconst (v := 4) hx hb dX10_takesOne_59 (by decide) ?_
        refine lv_icmp_lt (tgt := 68) hx hb dX10_takesOne_60 (by decide) (fun c9 => absurd c9 (by decide)) (fun _ => ?_)
        refine lv_aload_n hx hb dX10_takesOne_63 rfl (lv_at hl 2 rfl) ?_
        refine iV (wr := [(tby, .inl (G.2.1, 240, .inl fby)), (tsp, .inr (8, [.int 120, .int 1, .ref tspc, .int (nI ksp)])), (tspc, .inl (G.2.1, 120, .inl ftsp))]) hC hK hl hP hD hS hA (t_refuse l G h0 tby kt tln tsp vkd vks vkn vtf) si_X10_106 [0] [1, 2, 3] rfl rfl (by decide) rfl (by decide) (by decide) rfl rfl rfl rfl rfl (Nat.le_of_ble_eq_true rfl) ⟨Nat.le_of_ble_eq_true rfl, Nat.le_of_ble_eq_true rfl⟩ ⟨Nat.le_of_ble_eq_true rfl, Nat.le_of_ble_eq_true rfl⟩ dX10_takesOne_64 (fun r2979 u2980 H locs hr2979 hP hD hS => ?_)
        obtain ⟨tf12981, rfl⟩ : ∃ z9, z9 = u2980 := ⟨_, rfl⟩
        try dsimp only at hr2979
        have hP : va_P G.1 vwCl [(tby, .inl (G.2.1, 240, .inl fby)), (tsp, .inr (8, [.int 120, .int 1, .ref tspc, .int (nI ksp)])), (tspc, .inl (G.2.1, 120, .inl ftsp)), (h0, .inr (10, [.ref tby, .int (nI kt), .ref tln, .ref tsp, .int vkd, .int (nI vks), .int (nI vkn), .int tf12981]))] H := hP
        have hD : va_D A [(tby, .inl (G.2.1, 240, .inl fby)), (tsp, .inr (8, [.int 120, .int 1, .ref tspc, .int (nI ksp)])), (tspc, .inl (G.2.1, 120, .inl ftsp)), (h0, .inr (10, [.ref tby, .int (nI kt), .ref tln, .ref tsp, .int vkd, .int (nI vks), .int (nI vkn), .int tf12981]))] := hD
        obtain rfl := hr2979
        exact RI (v := 0) hC hP hD hS [3, 0, 1, 2] (vkd, vks, vkn, tf12981, ksp, ftsp) rfl rfl (by decide) (⟨Or.inr (rfl), by dsimp only; omega⟩) (by decide +kernel) dX10_takesOne_67
      · refine lv_aload_n hx hb dX10_takesOne_49 rfl (lv_at hl 2 rfl) ?_
        refine iVo (wr := []) hO hC hK hl hP hD hS hA (t_takesComparison l G K h0 tby kt tln tsp vkd vks vkn vtf fby tspc ksp ftsp (by omega) (by omega) (by omega) (by omega)) si_X10_162 [0, 1, 2, 3] [] rfl rfl (by decide) rfl (by decide) (by decide) rfl rfl rfl rfl rfl (Nat.le_of_ble_eq_true rfl) ⟨Nat.le_of_ble_eq_true rfl, Nat.le_of_ble_eq_true rfl⟩ ⟨Nat.le_of_ble_eq_true rfl, Nat.le_of_ble_eq_true rfl⟩ dX10_takesOne_50 (fun r2983 u2984 H locs hr2983 hP hD hS => ?_)
        obtain ⟨kd12985, ks12986, kn12987, tf12988, ksp12989, gtsp2990⟩ := u2984
        try dsimp only at hr2983
        have hP : va_P G.1 vwCl [(h0, .inr (10, [.ref tby, .int (nI kt), .ref tln, .ref tsp, .int kd12985, .int (nI ks12986), .int (nI kn12987), .int tf12988])), (tby, .inl (G.2.1, 240, .inl fby)), (tsp, .inr (8, [.int 120, .int 1, .ref tspc, .int (nI ksp12989)])), (tspc, .inl (G.2.1, 120, .inl gtsp2990))] H := hP
        have hD : va_D A [(h0, .inr (10, [.ref tby, .int (nI kt), .ref tln, .ref tsp, .int kd12985, .int (nI ks12986), .int (nI kn12987), .int tf12988])), (tby, .inl (G.2.1, 240, .inl fby)), (tsp, .inr (8, [.int 120, .int 1, .ref tspc, .int (nI ksp12989)])), (tspc, .inl (G.2.1, 120, .inl gtsp2990))] := hD
        obtain ⟨hr2983, w2991⟩ := hr2983
        rcases hr2983 with rfl | rfl
        · refine lv_if_ne (tgt := 93) hx hb dX10_takesOne_53 (by decide) (fun _ => ?_) (fun c9 => absurd c9 (by decide))
          refine lv_iload_n hx hb dX10_takesOne_93 rfl (lv_at hl 1 rfl) ?_
          refine lv_if_eq (tgt := 102) hx hb dX10_takesOne_94 (by decide) (fun c_94_2993 => ?_) (fun c_94_2993 => ?_)
          · refine lv_iconst (v := 1) hx hb dX10_takesOne_102 (by decide) ?_
            exact RI (v := 1) hC hP hD hS [0, 1, 2, 3] (kd12985, ks12986, kn12987, tf12988, ksp12989, gtsp2990) rfl rfl (by decide) (⟨Or.inl (rfl), by dsimp only; omega⟩) (by decide +kernel) dX10_takesOne_103
          · refine lv_aload_n hx hb dX10_takesOne_97 rfl (lv_at hl 2 rfl) ?_
            refine lv_iconst (v := (-1)) hx hb dX10_takesOne_98 (by decide) ?_
            refine vV (wr := [(tby, .inl (G.2.1, 240, .inl fby))]) hC hK hl hP hD hS hA (t_addStep l G h0 (-1) tby kt tln tsp kd12985 ks12986 kn12987 tf12988 tspc ksp12989 gtsp2990 (by omega)) si_X10_152 [0, 2, 3] [1] rfl rfl (by decide) rfl (by decide) (by decide) rfl rfl rfl rfl rfl (Nat.le_of_ble_eq_true rfl) ⟨Nat.le_of_ble_eq_true rfl, Nat.le_of_ble_eq_true rfl⟩ ⟨Nat.le_of_ble_eq_true rfl, Nat.le_of_ble_eq_true rfl⟩ dX10_takesOne_99 (fun u2995 H locs hr2994 hP hD hS => ?_)
            obtain ⟨ksp12996, gtsp2997⟩ := u2995
            try dsimp only at hr2994
            have hP : va_P G.1 vwCl [(tby, .inl (G.2.1, 240, .inl fby)), (h0, .inr (10, [.ref tby, .int (nI kt), .ref tln, .ref tsp, .int kd12985, .int (nI ks12986), .int (nI kn12987), .int tf12988])), (tsp, .inr (8, [.int 120, .int 1, .ref tspc, .int (nI ksp12996)])), (tspc, .inl (G.2.1, 120, .inl gtsp2997))] H := hP
            have hD : va_D A [(tby, .inl (G.2.1, 240, .inl fby)), (h0, .inr (10, [.ref tby, .int (nI kt), .ref tln, .ref tsp, .int kd12985, .int (nI ks12986), .int (nI kn12987), .int tf12988])), (tsp, .inr (8, [.int 120, .int 1, .ref tspc, .int (nI ksp12996)])), (tspc, .inl (G.2.1, 120, .inl gtsp2997))] := hD
            have w2998 := hr2994
            refine lv_iconst (v := 1) hx hb dX10_takesOne_102 (by decide) ?_
            exact RI (v := 1) hC hP hD hS [1, 0, 2, 3] (kd12985, ks12986, kn12987, tf12988, ksp12996, gtsp2997) rfl rfl (by decide) (⟨Or.inl (rfl), by dsimp only; omega⟩) (by decide +kernel) dX10_takesOne_103
        · refine lv_if_ne (tgt := 93) hx hb dX10_takesOne_53 (by decide) (fun c9 => absurd (by decide) c9) (fun _ => ?_)
          refine lv_iconst (v := 0) hx hb dX10_takesOne_56 (by decide) ?_
          exact RI (v := 0) hC hP hD hS [0, 1, 2, 3] (kd12985, ks12986, kn12987, tf12988, ksp12989, gtsp2990) rfl rfl (by decide) (⟨Or.inr (rfl), by dsimp only; omega⟩) (by decide +kernel) dX10_takesOne_57
    | succ nP ihP =>
      intro kP tu vkd vtf vks vkn H locs ls hkP hvks hvkn hP hD hS hl
      refine lv_iload_n hx hb dX10_takesOne_4 rfl (lv_at hl 0 rfl) ?_
      refine lv_sipush (v := 240) hx hb dX10_takesOne_5 (by decide) ?_
      refine lv_icmp_ge (tgt := 40) hx hb dX10_takesOne_8 (by decide) (fun c9 => absurd c9 (nI_ge (a := kP) (b := 240) (by omega) (by omega))) (fun _ => ?_)
      refine lv_aload_n hx hb dX10_takesOne_11 rfl (lv_at hl 2 rfl) ?_
      refine va_ldcS (index := 160) (tx := "not") hx hb hown (hO.2.1 10 (by decide)) dX10_takesOne_12 ?_
      refine pVo hO hS hC hK hl hP hD (t_isName l G K 10 h0 tby kt tln tsp vkd vks vkn vtf fby (by omega) (by omega) (by omega) ((by decide))) si_X10_102 [0, 1] rfl rfl (by decide) rfl rfl rfl rfl rfl (Nat.le_of_ble_eq_true rfl) ⟨Nat.le_of_ble_eq_true rfl, Nat.le_of_ble_eq_true rfl⟩ ⟨by first | exact Nat.le_of_ble_eq_true rfl | exact Nat.zero_le _, by first | exact Nat.le_of_ble_eq_true rfl | exact Nat.zero_le _⟩ dX10_takesOne_14 (fun r2999 hr2999 => ?_)
      rcases hr2999 with rfl | rfl
      · refine lv_if_eq (tgt := 40) hx hb dX10_takesOne_17 (by decide) (fun c9 => absurd c9 (by decide)) (fun _ => ?_)
        refine lv_aload_n hx hb dX10_takesOne_20 rfl (lv_at hl 2 rfl) ?_
        refine vV (wr := [(tsp, .inr (8, [.int 120, .int 1, .ref tspc, .int (nI ksp)])), (tspc, .inl (G.2.1, 120, .inl ftsp))]) hC hK hl hP hD hS hA (t_advance l G h0 tby kt tln tsp vkd vks vkn vtf fby (by omega) (by omega) (by omega)) si_X10_47 [0, 1] [2, 3] rfl rfl (by decide) rfl (by decide) (by decide) rfl rfl rfl rfl rfl (Nat.le_of_ble_eq_true rfl) ⟨Nat.le_of_ble_eq_true rfl, Nat.le_of_ble_eq_true rfl⟩ ⟨Nat.le_of_ble_eq_true rfl, Nat.le_of_ble_eq_true rfl⟩ dX10_takesOne_21 (fun u3002 H locs hr3001 hP hD hS => ?_)
        obtain ⟨kd13003, ks13004, kn13005⟩ := u3002
        try dsimp only at hr3001
        have hP : va_P G.1 vwCl [(tsp, .inr (8, [.int 120, .int 1, .ref tspc, .int (nI ksp)])), (tspc, .inl (G.2.1, 120, .inl ftsp)), (h0, .inr (10, [.ref tby, .int (nI kt), .ref tln, .ref tsp, .int kd13003, .int (nI ks13004), .int (nI kn13005), .int vtf])), (tby, .inl (G.2.1, 240, .inl fby))] H := hP
        have hD : va_D A [(tsp, .inr (8, [.int 120, .int 1, .ref tspc, .int (nI ksp)])), (tspc, .inl (G.2.1, 120, .inl ftsp)), (h0, .inr (10, [.ref tby, .int (nI kt), .ref tln, .ref tsp, .int kd13003, .int (nI ks13004), .int (nI kn13005), .int vtf])), (tby, .inl (G.2.1, 240, .inl fby))] := hD
        have w3006 := hr3001
        refine lv_iload_n hx hb dX10_takesOne_24 rfl (lv_at hl 1 rfl) ?_
        refine lv_if_ne (tgt := 32) hx hb dX10_takesOne_25 (by decide) (fun c_25_3007 => ?_) (fun c_25_3007 => ?_)
        · refine lv_iconst (v := 0) hx hb dX10_takesOne_32 (by decide) ?_
          refine lv_istore_n (lv' := [(2, .int 0), (3, .int (nI kP)), (0, .ref h0), (1, .int 4)]) hx hb dX10_takesOne_33 rfl hl (by decide) rfl (fun ls hl => ?_)
          refine lv_iinc (v := nI (kP + 1)) (lv' := [(3, .int (nI (kP + 1))), (2, .int 0), (0, .ref h0), (1, .int 4)]) hx hb dX10_takesOne_34 hl (k := 1) rfl (nI_1 _) (by decide) rfl (fun ls hl => ?_)
          refine lv_goto (tgt := 4) hx hb dX10_takesOne_37 (by decide) ?_
          have hP := hP.sub (ws' := [(h0, .inr (10, [.ref tby, .int (nI kt), .ref tln, .ref tsp, .int kd13003, .int (nI ks13004), .int (nI kn13005), .int vtf])), (tby, .inl (G.2.1, 240, .inl fby)), (tsp, .inr (8, [.int 120, .int 1, .ref tspc, .int (nI ksp)])), (tspc, .inl (G.2.1, 120, .inl ftsp))]) [2, 3, 0, 1] rfl
          have hD := hD.sub (ws' := [(h0, .inr (10, [.ref tby, .int (nI kt), .ref tln, .ref tsp, .int kd13003, .int (nI ks13004), .int (nI kn13005), .int vtf])), (tby, .inl (G.2.1, 240, .inl fby)), (tsp, .inr (8, [.int 120, .int 1, .ref tspc, .int (nI ksp)])), (tspc, .inl (G.2.1, 120, .inl ftsp))]) [2, 3, 0, 1] (by decide) rfl
          exact ihP (kP + 1) 0 kd13003 vtf ks13004 kn13005 _ _ _ (by omega) (by first | assumption | exact Or.inl rfl | exact Or.inr rfl | omega) (by first | assumption | exact Or.inl rfl | exact Or.inr rfl | omega) hP hD hS (lv_sub hl [0, 1, 2, 3] rfl)
        · refine lv_iconst (v := 1) hx hb dX10_takesOne_28 (by decide) ?_
          refine lv_goto (tgt := 33) hx hb dX10_takesOne_29 (by decide) ?_
          refine lv_istore_n (lv' := [(2, .int 1), (3, .int (nI kP)), (0, .ref h0), (1, .int 4)]) hx hb dX10_takesOne_33 rfl hl (by decide) rfl (fun ls hl => ?_)
          refine lv_iinc (v := nI (kP + 1)) (lv' := [(3, .int (nI (kP + 1))), (2, .int 1), (0, .ref h0), (1, .int 4)]) hx hb dX10_takesOne_34 hl (k := 1) rfl (nI_1 _) (by decide) rfl (fun ls hl => ?_)
          refine lv_goto (tgt := 4) hx hb dX10_takesOne_37 (by decide) ?_
          have hP := hP.sub (ws' := [(h0, .inr (10, [.ref tby, .int (nI kt), .ref tln, .ref tsp, .int kd13003, .int (nI ks13004), .int (nI kn13005), .int vtf])), (tby, .inl (G.2.1, 240, .inl fby)), (tsp, .inr (8, [.int 120, .int 1, .ref tspc, .int (nI ksp)])), (tspc, .inl (G.2.1, 120, .inl ftsp))]) [2, 3, 0, 1] rfl
          have hD := hD.sub (ws' := [(h0, .inr (10, [.ref tby, .int (nI kt), .ref tln, .ref tsp, .int kd13003, .int (nI ks13004), .int (nI kn13005), .int vtf])), (tby, .inl (G.2.1, 240, .inl fby)), (tsp, .inr (8, [.int 120, .int 1, .ref tspc, .int (nI ksp)])), (tspc, .inl (G.2.1, 120, .inl ftsp))]) [2, 3, 0, 1] (by decide) rfl
          exact ihP (kP + 1) 1 kd13003 vtf ks13004 kn13005 _ _ _ (by omega) (by first | assumption | exact Or.inl rfl | exact Or.inr rfl | omega) (by first | assumption | exact Or.inl rfl | exact Or.inr rfl | omega) hP hD hS (lv_sub hl [0, 1, 2, 3] rfl)
      · refine lv_if_eq (tgt := 40) hx hb dX10_takesOne_17 (by decide) (fun _ => ?_) (fun c9 => absurd (by decide) c9)
        refine lv_aload_n hx hb dX10_takesOne_40 rfl (lv_at hl 2 rfl) ?_
        refine gf_X10_31 hC rfl hK hP 0 rfl rfl dX10_takesOne_41 ?_
        refine lv_bipush (v := 40) hx hb dX10_takesOne_44 (by decide) ?_
        refine lv_icmp_eq (tgt := 58) hx hb dX10_takesOne_46 (by decide) (fun c_46_3008 => ?_) (fun c_46_3008 => ?_)
        · refine lv_iload_n hx hb dX10_takesOne_58 rfl (lv_at hl 3 rfl) ?_
          refine lv_iconst (v := 4) hx hb dX10_takesOne_59 (by decide) ?_
          refine lv_icmp_lt (tgt := 68) hx hb dX10_takesOne_60 (by decide) (fun c9 => absurd c9 (by decide)) (fun _ => ?_)
          refine lv_aload_n hx hb dX10_takesOne_63 rfl (lv_at hl 2 rfl) ?_
          refine iV (wr := [(tby, .inl (G.2.1, 240, .inl fby)), (tsp, .inr (8, [.int 120, .int 1, .ref tspc, .int (nI ksp)])), (tspc, .inl (G.2.1, 120, .inl ftsp))]) hC hK hl hP hD hS hA (t_refuse l G h0 tby kt tln tsp vkd vks vkn vtf) si_X10_106 [0] [1, 2, 3] rfl rfl (by decide) rfl (by decide) (by decide) rfl rfl rfl rfl rfl (Nat.le_of_ble_eq_true rfl) ⟨Nat.le_of_ble_eq_true rfl, Nat.le_of_ble_eq_true rfl⟩ ⟨Nat.le_of_ble_eq_true rfl, Nat.le_of_ble_eq_true rfl⟩ dX10_takesOne_64 (fun r3009 u3010 H locs hr3009 hP hD hS => ?_)
          obtain ⟨tf13011, rfl⟩ : ∃ z9, z9 = u3010 := ⟨_, rfl⟩
          try dsimp only at hr3009
          have hP : va_P G.1 vwCl [(tby, .inl (G.2.1, 240, .inl fby)), (tsp, .inr (8, [.int 120, .int 1, .ref tspc, .int (nI ksp)])), (tspc, .inl (G.2.1, 120, .inl ftsp)), (h0, .inr (10, [.ref tby, .int (nI kt), .ref tln, .ref tsp, .int vkd, .int (nI vks), .int (nI vkn), .int tf13011]))] H := hP
          have hD : va_D A [(tby, .inl (G.2.1, 240, .inl fby)), (tsp, .inr (8, [.int 120, .int 1, .ref tspc, .int (nI ksp)])), (tspc, .inl (G.2.1, 120, .inl ftsp)), (h0, .inr (10, [.ref tby, .int (nI kt), .ref tln, .ref tsp, .int vkd, .int (nI vks), .int (nI vkn), .int tf13011]))] := hD
          obtain rfl := hr3009
          exact RI (v := 0) hC hP hD hS [3, 0, 1, 2] (vkd, vks, vkn, tf13011, ksp, ftsp) rfl rfl (by decide) (⟨Or.inr (rfl), by dsimp only; omega⟩) (by decide +kernel) dX10_takesOne_67
        · refine lv_aload_n hx hb dX10_takesOne_49 rfl (lv_at hl 2 rfl) ?_
          refine iVo (wr := []) hO hC hK hl hP hD hS hA (t_takesComparison l G K h0 tby kt tln tsp vkd vks vkn vtf fby tspc ksp ftsp (by omega) (by omega) (by omega) (by omega)) si_X10_162 [0, 1, 2, 3] [] rfl rfl (by decide) rfl (by decide) (by decide) rfl rfl rfl rfl rfl (Nat.le_of_ble_eq_true rfl) ⟨Nat.le_of_ble_eq_true rfl, Nat.le_of_ble_eq_true rfl⟩ ⟨Nat.le_of_ble_eq_true rfl, Nat.le_of_ble_eq_true rfl⟩ dX10_takesOne_50 (fun r3013 u3014 H locs hr3013 hP hD hS => ?_)
          obtain ⟨kd13015, ks13016, kn13017, tf13018, ksp13019, gtsp3020⟩ := u3014
          try dsimp only at hr3013
          have hP : va_P G.1 vwCl [(h0, .inr (10, [.ref tby, .int (nI kt), .ref tln, .ref tsp, .int kd13015, .int (nI ks13016), .int (nI kn13017), .int tf13018])), (tby, .inl (G.2.1, 240, .inl fby)), (tsp, .inr (8, [.int 120, .int 1, .ref tspc, .int (nI ksp13019)])), (tspc, .inl (G.2.1, 120, .inl gtsp3020))] H := hP
          have hD : va_D A [(h0, .inr (10, [.ref tby, .int (nI kt), .ref tln, .ref tsp, .int kd13015, .int (nI ks13016), .int (nI kn13017), .int tf13018])), (tby, .inl (G.2.1, 240, .inl fby)), (tsp, .inr (8, [.int 120, .int 1, .ref tspc, .int (nI ksp13019)])), (tspc, .inl (G.2.1, 120, .inl gtsp3020))] := hD
          obtain ⟨hr3013, w3021⟩ := hr3013
          rcases hr3013 with rfl | rfl
          · refine lv_if_ne (tgt := 93) hx hb dX10_takesOne_53 (by decide) (fun _ => ?_) (fun c9 => absurd c9 (by decide))
            refine lv_iload_n hx hb dX10_takesOne_93 rfl (lv_at hl 1 rfl) ?_
            refine lv_if_eq (tgt := 102) hx hb dX10_takesOne_94 (by decide) (fun c_94_3023 => ?_) (fun c_94_3023 => ?_)
            · refine lv_iconst (v := 1) hx hb dX10_takesOne_102 (by decide) ?_
              exact RI (v := 1) hC hP hD hS [0, 1, 2, 3] (kd13015, ks13016, kn13017, tf13018, ksp13019, gtsp3020) rfl rfl (by decide) (⟨Or.inl (rfl), by dsimp only; omega⟩) (by decide +kernel) dX10_takesOne_103
            · refine lv_aload_n hx hb dX10_takesOne_97 rfl (lv_at hl 2 rfl) ?_
              refine lv_iconst (v := (-1)) hx hb dX10_takesOne_98 (by decide) ?_
              refine vV (wr := [(tby, .inl (G.2.1, 240, .inl fby))]) hC hK hl hP hD hS hA (t_addStep l G h0 (-1) tby kt tln tsp kd13015 ks13016 kn13017 tf13018 tspc ksp13019 gtsp3020 (by omega)) si_X10_152 [0, 2, 3] [1] rfl rfl (by decide) rfl (by decide) (by decide) rfl rfl rfl rfl rfl (Nat.le_of_ble_eq_true rfl) ⟨Nat.le_of_ble_eq_true rfl, Nat.le_of_ble_eq_true rfl⟩ ⟨Nat.le_of_ble_eq_true rfl, Nat.le_of_ble_eq_true rfl⟩ dX10_takesOne_99 (fun u3025 H locs hr3024 hP hD hS => ?_)
              obtain ⟨ksp13026, gtsp3027⟩ := u3025
              try dsimp only at hr3024
              have hP : va_P G.1 vwCl [(tby, .inl (G.2.1, 240, .inl fby)), (h0, .inr (10, [.ref tby, .int (nI kt), .ref tln, .ref tsp, .int kd13015, .int (nI ks13016), .int (nI kn13017), .int tf13018])), (tsp, .inr (8, [.int 120, .int 1, .ref tspc, .int (nI ksp13026)])), (tspc, .inl (G.2.1, 120, .inl gtsp3027))] H := hP
              have hD : va_D A [(tby, .inl (G.2.1, 240, .inl fby)), (h0, .inr (10, [.ref tby, .int (nI kt), .ref tln, .ref tsp, .int kd13015, .int (nI ks13016), .int (nI kn13017), .int tf13018])), (tsp, .inr (8, [.int 120, .int 1, .ref tspc, .int (nI ksp13026)])), (tspc, .inl (G.2.1, 120, .inl gtsp3027))] := hD
              have w3028 := hr3024
              refine lv_iconst (v := 1) hx hb dX10_takesOne_102 (by decide) ?_
              exact RI (v := 1) hC hP hD hS [1, 0, 2, 3] (kd13015, ks13016, kn13017, tf13018, ksp13026, gtsp3027) rfl rfl (by decide) (⟨Or.inl (rfl), by dsimp only; omega⟩) (by decide +kernel) dX10_takesOne_103
          · refine lv_if_ne (tgt := 93) hx hb dX10_takesOne_53 (by decide) (fun c9 => absurd (by decide) c9) (fun _ => ?_)
            refine lv_iconst (v := 0) hx hb dX10_takesOne_56 (by decide) ?_
            exact RI (v := 0) hC hP hD hS [0, 1, 2, 3] (kd13015, ks13016, kn13017, tf13018, ksp13019, gtsp3020) rfl rfl (by decide) (⟨Or.inr (rfl), by dsimp only; omega⟩) (by decide +kernel) dX10_takesOne_57
  exact keyP 240 0 0 tkd tf9 ks kn _ _ _ (by omega) (by first | assumption | exact Or.inl rfl | exact Or.inr rfl | omega) (by first | assumption | exact Or.inl rfl | exact Or.inr rfl | omega) hP hD hS (lv_sub hl [0, 1, 2, 3] rfl)
set_option maxHeartbeats 4000000 in
set_option maxRecDepth 100000 in
theorem t_all4 (l : Launch) (G : GG) (K : OO) (h0 : Nat) (tby : Nat) (kt : Nat) (tln : Nat) (tsp : Nat) (tkd : Int32) (ks : Nat) (kn : Nat) (tf9 : Int32) (fby : Nat → Int32) (tspc : Nat) (ksp : Nat) (ftsp : Nat → Int32) (hkt : kt ≤ 240) (hks : ks ≤ 240) (hkn : kn ≤ 240) (hksp : ksp ≤ 120) : MIo l G K yX10_takesAll cX10_takesAll 3 (some .boolean) 10 0 0 [.ref h0, .int 4] [(h0, .inr (10, [.ref tby, .int (nI kt), .ref tln, .ref tsp, .int tkd, .int (nI ks), .int (nI kn), .int tf9])), (tby, .inl (G.2.1, 240, .inl fby)), (tsp, .inr (8, [.int 120, .int 1, .ref tspc, .int (nI ksp)])), (tspc, .inl (G.2.1, 120, .inl ftsp))] (fun (r : Int32) (u : Int32 × Nat × Nat × Int32 × Nat × (Nat → Int32)) => (r = 1 ∨ r = 0) ∧ (u.2.1 ≤ 240 ∧ u.2.2.1 ≤ 240 ∧ u.2.2.2.2.1 ≤ 120)) (fun u : Int32 × Nat × Nat × Int32 × Nat × (Nat → Int32) => [(h0, .inr (10, [.ref tby, .int (nI kt), .ref tln, .ref tsp, .int u.1, .int (nI u.2.1), .int (nI u.2.2.1), .int u.2.2.2.1])), (tby, .inl (G.2.1, 240, .inl fby)), (tsp, .inr (8, [.int 120, .int 1, .ref tspc, .int (nI u.2.2.2.2.1)])), (tspc, .inl (G.2.1, 120, .inl u.2.2.2.2.2))]) := by
  refine MIo.start (by decide +kernel) (Nat.le_of_ble_eq_true rfl) ?_
  intro p e s m below meth c A ls hC hK hP hD hS hA hl hO
  have hl : lv_has ls 3 [(0, .ref h0), (1, .int 4)] := hl
  obtain ⟨hx, hb, hr, hml, hB, hown, hlocks, hnm⟩ := id hC
  refine lv_aload_n hx hb dX10_takesAll_0 rfl (lv_at hl 0 rfl) ?_
  refine lv_iload_n hx hb dX10_takesAll_1 rfl (lv_at hl 1 rfl) ?_
  refine iVo (wr := []) hO hC hK hl hP hD hS hA (t_one4 l G K h0 tby kt tln tsp tkd ks kn tf9 fby tspc ksp ftsp (by omega) (by omega) (by omega) (by omega)) si_X10_155 [0, 1, 2, 3] [] rfl rfl (by decide) rfl (by decide) (by decide) rfl rfl rfl rfl rfl (Nat.le_of_ble_eq_true rfl) ⟨Nat.le_of_ble_eq_true rfl, Nat.le_of_ble_eq_true rfl⟩ ⟨Nat.le_of_ble_eq_true rfl, Nat.le_of_ble_eq_true rfl⟩ dX10_takesAll_2 (fun r3029 u3030 H locs hr3029 hP hD hS => ?_)
  obtain ⟨kd13031, ks13032, kn13033, tf13034, ksp13035, gtsp3036⟩ := u3030
  try dsimp only at hr3029
  have hP : va_P G.1 vwCl [(h0, .inr (10, [.ref tby, .int (nI kt), .ref tln, .ref tsp, .int kd13031, .int (nI ks13032), .int (nI kn13033), .int tf13034])), (tby, .inl (G.2.1, 240, .inl fby)), (tsp, .inr (8, [.int 120, .int 1, .ref tspc, .int (nI ksp13035)])), (tspc, .inl (G.2.1, 120, .inl gtsp3036))] H := hP
  have hD : va_D A [(h0, .inr (10, [.ref tby, .int (nI kt), .ref tln, .ref tsp, .int kd13031, .int (nI ks13032), .int (nI kn13033), .int tf13034])), (tby, .inl (G.2.1, 240, .inl fby)), (tsp, .inr (8, [.int 120, .int 1, .ref tspc, .int (nI ksp13035)])), (tspc, .inl (G.2.1, 120, .inl gtsp3036))] := hD
  obtain ⟨hr3029, w3037⟩ := hr3029
  rcases hr3029 with rfl | rfl
  · refine lv_if_ne (tgt := 10) hx hb dX10_takesAll_5 (by decide) (fun _ => ?_) (fun c9 => absurd c9 (by decide))
    refine lv_iconst (v := 0) hx hb dX10_takesAll_10 (by decide) ?_
    refine lv_istore_n (lv' := [(2, .int 0), (0, .ref h0), (1, .int 4)]) hx hb dX10_takesAll_11 rfl hl (by decide) rfl (fun ls hl => ?_)
    have keyP : ∀ (nP kP : Nat) (vkd : Int32) (vtf : Int32) (vtsp : Nat → Int32) (vks : Nat) (vkn : Nat) (vksp : Nat) (H : Heap) (locs : List Loc) (ls : Array Slot), kP + nP = 240 → (vks ≤ 240) → (vkn ≤ 240) → (vksp ≤ 120) → va_P G.1 vwCl [(h0, .inr (10, [.ref tby, .int (nI kt), .ref tln, .ref tsp, .int vkd, .int (nI vks), .int (nI vkn), .int vtf])), (tby, .inl (G.2.1, 240, .inl fby)), (tsp, .inr (8, [.int 120, .int 1, .ref tspc, .int (nI vksp)])), (tspc, .inl (G.2.1, 120, .inl vtsp))] H → va_D A [(h0, .inr (10, [.ref tby, .int (nI kt), .ref tln, .ref tsp, .int vkd, .int (nI vks), .int (nI vkn), .int vtf])), (tby, .inl (G.2.1, 240, .inl fby)), (tsp, .inr (8, [.int 120, .int 1, .ref tspc, .int (nI vksp)])), (tspc, .inl (G.2.1, 120, .inl vtsp))] → va_S A s.heap H locs → lv_has ls 3 [(2, .int (nI kP)), (0, .ref h0), (1, .int 4)] → W p l e (RM 10 0 0) s m ([.ref h0, .int 4] : List Value).toArray below meth c H locs 0 0 (MQ below (QI G (fun (r : Int32) (u : Int32 × Nat × Nat × Int32 × Nat × (Nat → Int32)) => (r = 1 ∨ r = 0) ∧ (u.2.1 ≤ 240 ∧ u.2.2.1 ≤ 240 ∧ u.2.2.2.2.1 ≤ 120)) (fun u : Int32 × Nat × Nat × Int32 × Nat × (Nat → Int32) => [(h0, .inr (10, [.ref tby, .int (nI kt), .ref tln, .ref tsp, .int u.1, .int (nI u.2.1), .int (nI u.2.2.1), .int u.2.2.2.1])), (tby, .inl (G.2.1, 240, .inl fby)), (tsp, .inr (8, [.int 120, .int 1, .ref tspc, .int (nI u.2.2.2.2.1)])), (tspc, .inl (G.2.1, 120, .inl u.2.2.2.2.2))]) A) ([.ref h0, .int 4] : List Value).toArray s 0 0 A) (F0 m 12 ls []) := by
      intro nP
      induction nP with
      | zero =>
        intro kP vkd vtf vtsp vks vkn vksp H locs ls hkP hvks hvkn hvksp hP hD hS hl
        obtain rfl : 240 = kP := by omega
        have hl : lv_has ls 3 [(2, .int 240), (0, .ref h0), (1, .int 4)] := hl
        refine lv_iload_n hx hb dX10_takesAll_12 rfl (lv_at hl 0 rfl) ?_
        refine lv_sipush (v := 240) hx hb dX10_takesAll_13 (by decide) ?_
        refine lv_icmp_ge (tgt := 54) hx hb dX10_takesAll_16 (by decide) (fun _ => ?_) (fun c9 => absurd (by decide) c9)
        refine lv_iconst (v := 1) hx hb dX10_takesAll_54 (by decide) ?_
        exact RI (v := 1) hC hP hD hS [0, 1, 2, 3] (vkd, vks, vkn, vtf, vksp, vtsp) rfl rfl (by decide) (⟨Or.inl (rfl), by dsimp only; omega⟩) (by decide +kernel) dX10_takesAll_55
      | succ nP ihP =>
        intro kP vkd vtf vtsp vks vkn vksp H locs ls hkP hvks hvkn hvksp hP hD hS hl
        refine lv_iload_n hx hb dX10_takesAll_12 rfl (lv_at hl 0 rfl) ?_
        refine lv_sipush (v := 240) hx hb dX10_takesAll_13 (by decide) ?_
        refine lv_icmp_ge (tgt := 54) hx hb dX10_takesAll_16 (by decide) (fun c9 => absurd c9 (nI_ge (a := kP) (b := 240) (by omega) (by omega))) (fun _ => ?_)
        refine lv_aload_n hx hb dX10_takesAll_19 rfl (lv_at hl 1 rfl) ?_
        refine va_ldcS (index := 158) (tx := "and") hx hb hown (hO.2.1 9 (by decide)) dX10_takesAll_20 ?_
        refine pVo hO hS hC hK hl hP hD (t_isName l G K 9 h0 tby kt tln tsp vkd vks vkn vtf fby (by omega) (by omega) (by omega) ((by decide))) si_X10_102 [0, 1] rfl rfl (by decide) rfl rfl rfl rfl rfl (Nat.le_of_ble_eq_true rfl) ⟨Nat.le_of_ble_eq_true rfl, Nat.le_of_ble_eq_true rfl⟩ ⟨by first | exact Nat.le_of_ble_eq_true rfl | exact Nat.zero_le _, by first | exact Nat.le_of_ble_eq_true rfl | exact Nat.zero_le _⟩ dX10_takesAll_22 (fun r3039 hr3039 => ?_)
        rcases hr3039 with rfl | rfl
        · refine lv_if_eq (tgt := 54) hx hb dX10_takesAll_25 (by decide) (fun c9 => absurd c9 (by decide)) (fun _ => ?_)
          refine lv_aload_n hx hb dX10_takesAll_28 rfl (lv_at hl 1 rfl) ?_
          refine vV (wr := [(tsp, .inr (8, [.int 120, .int 1, .ref tspc, .int (nI vksp)])), (tspc, .inl (G.2.1, 120, .inl vtsp))]) hC hK hl hP hD hS hA (t_advance l G h0 tby kt tln tsp vkd vks vkn vtf fby (by omega) (by omega) (by omega)) si_X10_47 [0, 1] [2, 3] rfl rfl (by decide) rfl (by decide) (by decide) rfl rfl rfl rfl rfl (Nat.le_of_ble_eq_true rfl) ⟨Nat.le_of_ble_eq_true rfl, Nat.le_of_ble_eq_true rfl⟩ ⟨Nat.le_of_ble_eq_true rfl, Nat.le_of_ble_eq_true rfl⟩ dX10_takesAll_29 (fun u3042 H locs hr3041 hP hD hS => ?_)
          obtain ⟨kd13043, ks13044, kn13045⟩ := u3042
          try dsimp only at hr3041
          have hP : va_P G.1 vwCl [(tsp, .inr (8, [.int 120, .int 1, .ref tspc, .int (nI vksp)])), (tspc, .inl (G.2.1, 120, .inl vtsp)), (h0, .inr (10, [.ref tby, .int (nI kt), .ref tln, .ref tsp, .int kd13043, .int (nI ks13044), .int (nI kn13045), .int vtf])), (tby, .inl (G.2.1, 240, .inl fby))] H := hP
          have hD : va_D A [(tsp, .inr (8, [.int 120, .int 1, .ref tspc, .int (nI vksp)])), (tspc, .inl (G.2.1, 120, .inl vtsp)), (h0, .inr (10, [.ref tby, .int (nI kt), .ref tln, .ref tsp, .int kd13043, .int (nI ks13044), .int (nI kn13045), .int vtf])), (tby, .inl (G.2.1, 240, .inl fby))] := hD
          have w3046 := hr3041
          refine lv_aload_n hx hb dX10_takesAll_32 rfl (lv_at hl 1 rfl) ?_
          refine lv_iload_n hx hb dX10_takesAll_33 rfl (lv_at hl 2 rfl) ?_
          refine iVo (wr := []) hO hC hK hl hP hD hS hA (t_one4 l G K h0 tby kt tln tsp kd13043 ks13044 kn13045 vtf fby tspc vksp vtsp (by omega) (by omega) (by omega) (by omega)) si_X10_155 [2, 3, 0, 1] [] rfl rfl (by decide) rfl (by decide) (by decide) rfl rfl rfl rfl rfl (Nat.le_of_ble_eq_true rfl) ⟨Nat.le_of_ble_eq_true rfl, Nat.le_of_ble_eq_true rfl⟩ ⟨Nat.le_of_ble_eq_true rfl, Nat.le_of_ble_eq_true rfl⟩ dX10_takesAll_34 (fun r3047 u3048 H locs hr3047 hP hD hS => ?_)
          obtain ⟨kd13049, ks13050, kn13051, tf13052, ksp13053, gtsp3054⟩ := u3048
          try dsimp only at hr3047
          have hP : va_P G.1 vwCl [(h0, .inr (10, [.ref tby, .int (nI kt), .ref tln, .ref tsp, .int kd13049, .int (nI ks13050), .int (nI kn13051), .int tf13052])), (tby, .inl (G.2.1, 240, .inl fby)), (tsp, .inr (8, [.int 120, .int 1, .ref tspc, .int (nI ksp13053)])), (tspc, .inl (G.2.1, 120, .inl gtsp3054))] H := hP
          have hD : va_D A [(h0, .inr (10, [.ref tby, .int (nI kt), .ref tln, .ref tsp, .int kd13049, .int (nI ks13050), .int (nI kn13051), .int tf13052])), (tby, .inl (G.2.1, 240, .inl fby)), (tsp, .inr (8, [.int 120, .int 1, .ref tspc, .int (nI ksp13053)])), (tspc, .inl (G.2.1, 120, .inl gtsp3054))] := hD
          obtain ⟨hr3047, w3055⟩ := hr3047
          rcases hr3047 with rfl | rfl
          · refine lv_if_ne (tgt := 42) hx hb dX10_takesAll_37 (by decide) (fun _ => ?_) (fun c9 => absurd c9 (by decide))
            refine lv_aload_n hx hb dX10_takesAll_42 rfl (lv_at hl 1 rfl) ?_
            refine lv_bipush (v := (-2)) hx hb dX10_takesAll_43 (by decide) ?_
            refine vV (wr := [(tby, .inl (G.2.1, 240, .inl fby))]) hC hK hl hP hD hS hA (t_addStep l G h0 (-2) tby kt tln tsp kd13049 ks13050 kn13051 tf13052 tspc ksp13053 gtsp3054 (by omega)) si_X10_152 [0, 2, 3] [1] rfl rfl (by decide) rfl (by decide) (by decide) rfl rfl rfl rfl rfl (Nat.le_of_ble_eq_true rfl) ⟨Nat.le_of_ble_eq_true rfl, Nat.le_of_ble_eq_true rfl⟩ ⟨Nat.le_of_ble_eq_true rfl, Nat.le_of_ble_eq_true rfl⟩ dX10_takesAll_45 (fun u3058 H locs hr3057 hP hD hS => ?_)
            obtain ⟨ksp13059, gtsp3060⟩ := u3058
            try dsimp only at hr3057
            have hP : va_P G.1 vwCl [(tby, .inl (G.2.1, 240, .inl fby)), (h0, .inr (10, [.ref tby, .int (nI kt), .ref tln, .ref tsp, .int kd13049, .int (nI ks13050), .int (nI kn13051), .int tf13052])), (tsp, .inr (8, [.int 120, .int 1, .ref tspc, .int (nI ksp13059)])), (tspc, .inl (G.2.1, 120, .inl gtsp3060))] H := hP
            have hD : va_D A [(tby, .inl (G.2.1, 240, .inl fby)), (h0, .inr (10, [.ref tby, .int (nI kt), .ref tln, .ref tsp, .int kd13049, .int (nI ks13050), .int (nI kn13051), .int tf13052])), (tsp, .inr (8, [.int 120, .int 1, .ref tspc, .int (nI ksp13059)])), (tspc, .inl (G.2.1, 120, .inl gtsp3060))] := hD
            have w3061 := hr3057
            refine lv_iinc (v := nI (kP + 1)) (lv' := [(2, .int (nI (kP + 1))), (0, .ref h0), (1, .int 4)]) hx hb dX10_takesAll_48 hl (k := 0) rfl (nI_1 _) (by decide) rfl (fun ls hl => ?_)
            refine lv_goto (tgt := 12) hx hb dX10_takesAll_51 (by decide) ?_
            have hP := hP.sub (ws' := [(h0, .inr (10, [.ref tby, .int (nI kt), .ref tln, .ref tsp, .int kd13049, .int (nI ks13050), .int (nI kn13051), .int tf13052])), (tby, .inl (G.2.1, 240, .inl fby)), (tsp, .inr (8, [.int 120, .int 1, .ref tspc, .int (nI ksp13059)])), (tspc, .inl (G.2.1, 120, .inl gtsp3060))]) [1, 0, 2, 3] rfl
            have hD := hD.sub (ws' := [(h0, .inr (10, [.ref tby, .int (nI kt), .ref tln, .ref tsp, .int kd13049, .int (nI ks13050), .int (nI kn13051), .int tf13052])), (tby, .inl (G.2.1, 240, .inl fby)), (tsp, .inr (8, [.int 120, .int 1, .ref tspc, .int (nI ksp13059)])), (tspc, .inl (G.2.1, 120, .inl gtsp3060))]) [1, 0, 2, 3] (by decide) rfl
            exact ihP (kP + 1) kd13049 tf13052 gtsp3060 ks13050 kn13051 ksp13059 _ _ _ (by omega) (by first | assumption | exact Or.inl rfl | exact Or.inr rfl | omega) (by first | assumption | exact Or.inl rfl | exact Or.inr rfl | omega) (by first | assumption | exact Or.inl rfl | exact Or.inr rfl | omega) hP hD hS (lv_sub hl [0, 1, 2] rfl)
          · refine lv_if_ne (tgt := 42) hx hb dX10_takesAll_37 (by decide) (fun c9 => absurd (by decide) c9) (fun _ => ?_)
            refine lv_iconst (v := 0) hx hb dX10_takesAll_40 (by decide) ?_
            exact RI (v := 0) hC hP hD hS [0, 1, 2, 3] (kd13049, ks13050, kn13051, tf13052, ksp13053, gtsp3054) rfl rfl (by decide) (⟨Or.inr (rfl), by dsimp only; omega⟩) (by decide +kernel) dX10_takesAll_41
        · refine lv_if_eq (tgt := 54) hx hb dX10_takesAll_25 (by decide) (fun _ => ?_) (fun c9 => absurd (by decide) c9)
          refine lv_iconst (v := 1) hx hb dX10_takesAll_54 (by decide) ?_
          exact RI (v := 1) hC hP hD hS [0, 1, 2, 3] (vkd, vks, vkn, vtf, vksp, vtsp) rfl rfl (by decide) (⟨Or.inl (rfl), by dsimp only; omega⟩) (by decide +kernel) dX10_takesAll_55
    exact keyP 240 0 kd13031 tf13034 gtsp3036 ks13032 kn13033 ksp13035 _ _ _ (by omega) (by first | assumption | exact Or.inl rfl | exact Or.inr rfl | omega) (by first | assumption | exact Or.inl rfl | exact Or.inr rfl | omega) (by first | assumption | exact Or.inl rfl | exact Or.inr rfl | omega) hP hD hS (lv_sub hl [0, 1, 2] rfl)
  · refine lv_if_ne (tgt := 10) hx hb dX10_takesAll_5 (by decide) (fun c9 => absurd (by decide) c9) (fun _ => ?_)
    refine lv_iconst (v := 0) hx hb dX10_takesAll_8 (by decide) ?_
    exact RI (v := 0) hC hP hD hS [0, 1, 2, 3] (kd13031, ks13032, kn13033, tf13034, ksp13035, gtsp3036) rfl rfl (by decide) (⟨Or.inr (rfl), by dsimp only; omega⟩) (by decide +kernel) dX10_takesAll_9
set_option maxHeartbeats 4000000 in
set_option maxRecDepth 100000 in
theorem t_cond4 (l : Launch) (G : GG) (K : OO) (h0 : Nat) (tby : Nat) (kt : Nat) (tln : Nat) (tsp : Nat) (tkd : Int32) (ks : Nat) (kn : Nat) (tf9 : Int32) (fby : Nat → Int32) (tspc : Nat) (ksp : Nat) (ftsp : Nat → Int32) (hkt : kt ≤ 240) (hks : ks ≤ 240) (hkn : kn ≤ 240) (hksp : ksp ≤ 120) : MIo l G K yX10_takesCond cX10_takesCond 3 (some .boolean) 11 0 0 [.ref h0, .int 4] [(h0, .inr (10, [.ref tby, .int (nI kt), .ref tln, .ref tsp, .int tkd, .int (nI ks), .int (nI kn), .int tf9])), (tby, .inl (G.2.1, 240, .inl fby)), (tsp, .inr (8, [.int 120, .int 1, .ref tspc, .int (nI ksp)])), (tspc, .inl (G.2.1, 120, .inl ftsp))] (fun (r : Int32) (u : Int32 × Nat × Nat × Int32 × Nat × (Nat → Int32)) => (r = 1 ∨ r = 0) ∧ (u.2.1 ≤ 240 ∧ u.2.2.1 ≤ 240 ∧ u.2.2.2.2.1 ≤ 120)) (fun u : Int32 × Nat × Nat × Int32 × Nat × (Nat → Int32) => [(h0, .inr (10, [.ref tby, .int (nI kt), .ref tln, .ref tsp, .int u.1, .int (nI u.2.1), .int (nI u.2.2.1), .int u.2.2.2.1])), (tby, .inl (G.2.1, 240, .inl fby)), (tsp, .inr (8, [.int 120, .int 1, .ref tspc, .int (nI u.2.2.2.2.1)])), (tspc, .inl (G.2.1, 120, .inl u.2.2.2.2.2))]) := by
  refine MIo.start (by decide +kernel) (Nat.le_of_ble_eq_true rfl) ?_
  intro p e s m below meth c A ls hC hK hP hD hS hA hl hO
  have hl : lv_has ls 3 [(0, .ref h0), (1, .int 4)] := hl
  obtain ⟨hx, hb, hr, hml, hB, hown, hlocks, hnm⟩ := id hC
  refine lv_aload_n hx hb dX10_takesCond_0 rfl (lv_at hl 0 rfl) ?_
  refine lv_iload_n hx hb dX10_takesCond_1 rfl (lv_at hl 1 rfl) ?_
  refine iVo (wr := []) hO hC hK hl hP hD hS hA (t_all4 l G K h0 tby kt tln tsp tkd ks kn tf9 fby tspc ksp ftsp (by omega) (by omega) (by omega) (by omega)) si_X10_147 [0, 1, 2, 3] [] rfl rfl (by decide) rfl (by decide) (by decide) rfl rfl rfl rfl rfl (Nat.le_of_ble_eq_true rfl) ⟨Nat.le_of_ble_eq_true rfl, Nat.le_of_ble_eq_true rfl⟩ ⟨Nat.le_of_ble_eq_true rfl, Nat.le_of_ble_eq_true rfl⟩ dX10_takesCond_2 (fun r3062 u3063 H locs hr3062 hP hD hS => ?_)
  obtain ⟨kd13064, ks13065, kn13066, tf13067, ksp13068, gtsp3069⟩ := u3063
  try dsimp only at hr3062
  have hP : va_P G.1 vwCl [(h0, .inr (10, [.ref tby, .int (nI kt), .ref tln, .ref tsp, .int kd13064, .int (nI ks13065), .int (nI kn13066), .int tf13067])), (tby, .inl (G.2.1, 240, .inl fby)), (tsp, .inr (8, [.int 120, .int 1, .ref tspc, .int (nI ksp13068)])), (tspc, .inl (G.2.1, 120, .inl gtsp3069))] H := hP
  have hD : va_D A [(h0, .inr (10, [.ref tby, .int (nI kt), .ref tln, .ref tsp, .int kd13064, .int (nI ks13065), .int (nI kn13066), .int tf13067])), (tby, .inl (G.2.1, 240, .inl fby)), (tsp, .inr (8, [.int 120, .int 1, .ref tspc, .int (nI ksp13068)])), (tspc, .inl (G.2.1, 120, .inl gtsp3069))] := hD
  obtain ⟨hr3062, w3070⟩ := hr3062
  rcases hr3062 with rfl | rfl
  · refine lv_if_ne (tgt := 10) hx hb dX10_takesCond_5 (by decide) (fun _ => ?_) (fun c9 => absurd c9 (by decide))
    refine lv_iconst (v := 0) hx hb dX10_takesCond_10 (by decide) ?_
    refine lv_istore_n (lv' := [(2, .int 0), (0, .ref h0), (1, .int 4)]) hx hb dX10_takesCond_11 rfl hl (by decide) rfl (fun ls hl => ?_)
    have keyP : ∀ (nP kP : Nat) (vkd : Int32) (vtf : Int32) (vtsp : Nat → Int32) (vks : Nat) (vkn : Nat) (vksp : Nat) (H : Heap) (locs : List Loc) (ls : Array Slot), kP + nP = 240 → (vks ≤ 240) → (vkn ≤ 240) → (vksp ≤ 120) → va_P G.1 vwCl [(h0, .inr (10, [.ref tby, .int (nI kt), .ref tln, .ref tsp, .int vkd, .int (nI vks), .int (nI vkn), .int vtf])), (tby, .inl (G.2.1, 240, .inl fby)), (tsp, .inr (8, [.int 120, .int 1, .ref tspc, .int (nI vksp)])), (tspc, .inl (G.2.1, 120, .inl vtsp))] H → va_D A [(h0, .inr (10, [.ref tby, .int (nI kt), .ref tln, .ref tsp, .int vkd, .int (nI vks), .int (nI vkn), .int vtf])), (tby, .inl (G.2.1, 240, .inl fby)), (tsp, .inr (8, [.int 120, .int 1, .ref tspc, .int (nI vksp)])), (tspc, .inl (G.2.1, 120, .inl vtsp))] → va_S A s.heap H locs → lv_has ls 3 [(2, .int (nI kP)), (0, .ref h0), (1, .int 4)] → W p l e (RM 11 0 0) s m ([.ref h0, .int 4] : List Value).toArray below meth c H locs 0 0 (MQ below (QI G (fun (r : Int32) (u : Int32 × Nat × Nat × Int32 × Nat × (Nat → Int32)) => (r = 1 ∨ r = 0) ∧ (u.2.1 ≤ 240 ∧ u.2.2.1 ≤ 240 ∧ u.2.2.2.2.1 ≤ 120)) (fun u : Int32 × Nat × Nat × Int32 × Nat × (Nat → Int32) => [(h0, .inr (10, [.ref tby, .int (nI kt), .ref tln, .ref tsp, .int u.1, .int (nI u.2.1), .int (nI u.2.2.1), .int u.2.2.2.1])), (tby, .inl (G.2.1, 240, .inl fby)), (tsp, .inr (8, [.int 120, .int 1, .ref tspc, .int (nI u.2.2.2.2.1)])), (tspc, .inl (G.2.1, 120, .inl u.2.2.2.2.2))]) A) ([.ref h0, .int 4] : List Value).toArray s 0 0 A) (F0 m 12 ls []) := by
      intro nP
      induction nP with
      | zero =>
        intro kP vkd vtf vtsp vks vkn vksp H locs ls hkP hvks hvkn hvksp hP hD hS hl
        obtain rfl : 240 = kP := by omega
        have hl : lv_has ls 3 [(2, .int 240), (0, .ref h0), (1, .int 4)] := hl
        refine lv_iload_n hx hb dX10_takesCond_12 rfl (lv_at hl 0 rfl) ?_
        refine lv_sipush (v := 240) hx hb dX10_takesCond_13 (by decide) ?_
        refine lv_icmp_ge (tgt := 54) hx hb dX10_takesCond_16 (by decide) (fun _ => ?_) (fun c9 => absurd (by decide) c9)
        refine lv_iconst (v := 1) hx hb dX10_takesCond_54 (by decide) ?_
        exact RI (v := 1) hC hP hD hS [0, 1, 2, 3] (vkd, vks, vkn, vtf, vksp, vtsp) rfl rfl (by decide) (⟨Or.inl (rfl), by dsimp only; omega⟩) (by decide +kernel) dX10_takesCond_55
      | succ nP ihP =>
        intro kP vkd vtf vtsp vks vkn vksp H locs ls hkP hvks hvkn hvksp hP hD hS hl
        refine lv_iload_n hx hb dX10_takesCond_12 rfl (lv_at hl 0 rfl) ?_
        refine lv_sipush (v := 240) hx hb dX10_takesCond_13 (by decide) ?_
        refine lv_icmp_ge (tgt := 54) hx hb dX10_takesCond_16 (by decide) (fun c9 => absurd c9 (nI_ge (a := kP) (b := 240) (by omega) (by omega))) (fun _ => ?_)
        refine lv_aload_n hx hb dX10_takesCond_19 rfl (lv_at hl 1 rfl) ?_
        refine va_ldcS (index := 150) (tx := "o\x72") hx hb hown (hO.2.1 8 (by decide)) dX10_takesCond_20 ?_
        refine pVo hO hS hC hK hl hP hD (t_isName l G K 8 h0 tby kt tln tsp vkd vks vkn vtf fby (by omega) (by omega) (by omega) ((by decide))) si_X10_102 [0, 1] rfl rfl (by decide) rfl rfl rfl rfl rfl (Nat.le_of_ble_eq_true rfl) ⟨Nat.le_of_ble_eq_true rfl, Nat.le_of_ble_eq_true rfl⟩ ⟨by first | exact Nat.le_of_ble_eq_true rfl | exact Nat.zero_le _, by first | exact Nat.le_of_ble_eq_true rfl | exact Nat.zero_le _⟩ dX10_takesCond_22 (fun r3072 hr3072 => ?_)
        rcases hr3072 with rfl | rfl
        · refine lv_if_eq (tgt := 54) hx hb dX10_takesCond_25 (by decide) (fun c9 => absurd c9 (by decide)) (fun _ => ?_)
          refine lv_aload_n hx hb dX10_takesCond_28 rfl (lv_at hl 1 rfl) ?_
          refine vV (wr := [(tsp, .inr (8, [.int 120, .int 1, .ref tspc, .int (nI vksp)])), (tspc, .inl (G.2.1, 120, .inl vtsp))]) hC hK hl hP hD hS hA (t_advance l G h0 tby kt tln tsp vkd vks vkn vtf fby (by omega) (by omega) (by omega)) si_X10_47 [0, 1] [2, 3] rfl rfl (by decide) rfl (by decide) (by decide) rfl rfl rfl rfl rfl (Nat.le_of_ble_eq_true rfl) ⟨Nat.le_of_ble_eq_true rfl, Nat.le_of_ble_eq_true rfl⟩ ⟨Nat.le_of_ble_eq_true rfl, Nat.le_of_ble_eq_true rfl⟩ dX10_takesCond_29 (fun u3075 H locs hr3074 hP hD hS => ?_)
          obtain ⟨kd13076, ks13077, kn13078⟩ := u3075
          try dsimp only at hr3074
          have hP : va_P G.1 vwCl [(tsp, .inr (8, [.int 120, .int 1, .ref tspc, .int (nI vksp)])), (tspc, .inl (G.2.1, 120, .inl vtsp)), (h0, .inr (10, [.ref tby, .int (nI kt), .ref tln, .ref tsp, .int kd13076, .int (nI ks13077), .int (nI kn13078), .int vtf])), (tby, .inl (G.2.1, 240, .inl fby))] H := hP
          have hD : va_D A [(tsp, .inr (8, [.int 120, .int 1, .ref tspc, .int (nI vksp)])), (tspc, .inl (G.2.1, 120, .inl vtsp)), (h0, .inr (10, [.ref tby, .int (nI kt), .ref tln, .ref tsp, .int kd13076, .int (nI ks13077), .int (nI kn13078), .int vtf])), (tby, .inl (G.2.1, 240, .inl fby))] := hD
          have w3079 := hr3074
          refine lv_aload_n hx hb dX10_takesCond_32 rfl (lv_at hl 1 rfl) ?_
          refine lv_iload_n hx hb dX10_takesCond_33 rfl (lv_at hl 2 rfl) ?_
          refine iVo (wr := []) hO hC hK hl hP hD hS hA (t_all4 l G K h0 tby kt tln tsp kd13076 ks13077 kn13078 vtf fby tspc vksp vtsp (by omega) (by omega) (by omega) (by omega)) si_X10_147 [2, 3, 0, 1] [] rfl rfl (by decide) rfl (by decide) (by decide) rfl rfl rfl rfl rfl (Nat.le_of_ble_eq_true rfl) ⟨Nat.le_of_ble_eq_true rfl, Nat.le_of_ble_eq_true rfl⟩ ⟨Nat.le_of_ble_eq_true rfl, Nat.le_of_ble_eq_true rfl⟩ dX10_takesCond_34 (fun r3080 u3081 H locs hr3080 hP hD hS => ?_)
          obtain ⟨kd13082, ks13083, kn13084, tf13085, ksp13086, gtsp3087⟩ := u3081
          try dsimp only at hr3080
          have hP : va_P G.1 vwCl [(h0, .inr (10, [.ref tby, .int (nI kt), .ref tln, .ref tsp, .int kd13082, .int (nI ks13083), .int (nI kn13084), .int tf13085])), (tby, .inl (G.2.1, 240, .inl fby)), (tsp, .inr (8, [.int 120, .int 1, .ref tspc, .int (nI ksp13086)])), (tspc, .inl (G.2.1, 120, .inl gtsp3087))] H := hP
          have hD : va_D A [(h0, .inr (10, [.ref tby, .int (nI kt), .ref tln, .ref tsp, .int kd13082, .int (nI ks13083), .int (nI kn13084), .int tf13085])), (tby, .inl (G.2.1, 240, .inl fby)), (tsp, .inr (8, [.int 120, .int 1, .ref tspc, .int (nI ksp13086)])), (tspc, .inl (G.2.1, 120, .inl gtsp3087))] := hD
          obtain ⟨hr3080, w3088⟩ := hr3080
          rcases hr3080 with rfl | rfl
          · refine lv_if_ne (tgt := 42) hx hb dX10_takesCond_37 (by decide) (fun _ => ?_) (fun c9 => absurd c9 (by decide))
            refine lv_aload_n hx hb dX10_takesCond_42 rfl (lv_at hl 1 rfl) ?_
            refine lv_bipush (v := (-3)) hx hb dX10_takesCond_43 (by decide) ?_
            refine vV (wr := [(tby, .inl (G.2.1, 240, .inl fby))]) hC hK hl hP hD hS hA (t_addStep l G h0 (-3) tby kt tln tsp kd13082 ks13083 kn13084 tf13085 tspc ksp13086 gtsp3087 (by omega)) si_X10_152 [0, 2, 3] [1] rfl rfl (by decide) rfl (by decide) (by decide) rfl rfl rfl rfl rfl (Nat.le_of_ble_eq_true rfl) ⟨Nat.le_of_ble_eq_true rfl, Nat.le_of_ble_eq_true rfl⟩ ⟨Nat.le_of_ble_eq_true rfl, Nat.le_of_ble_eq_true rfl⟩ dX10_takesCond_45 (fun u3091 H locs hr3090 hP hD hS => ?_)
            obtain ⟨ksp13092, gtsp3093⟩ := u3091
            try dsimp only at hr3090
            have hP : va_P G.1 vwCl [(tby, .inl (G.2.1, 240, .inl fby)), (h0, .inr (10, [.ref tby, .int (nI kt), .ref tln, .ref tsp, .int kd13082, .int (nI ks13083), .int (nI kn13084), .int tf13085])), (tsp, .inr (8, [.int 120, .int 1, .ref tspc, .int (nI ksp13092)])), (tspc, .inl (G.2.1, 120, .inl gtsp3093))] H := hP
            have hD : va_D A [(tby, .inl (G.2.1, 240, .inl fby)), (h0, .inr (10, [.ref tby, .int (nI kt), .ref tln, .ref tsp, .int kd13082, .int (nI ks13083), .int (nI kn13084), .int tf13085])), (tsp, .inr (8, [.int 120, .int 1, .ref tspc, .int (nI ksp13092)])), (tspc, .inl (G.2.1, 120, .inl gtsp3093))] := hD
            have w3094 := hr3090
            refine lv_iinc (v := nI (kP + 1)) (lv' := [(2, .int (nI (kP + 1))), (0, .ref h0), (1, .int 4)]) hx hb dX10_takesCond_48 hl (k := 0) rfl (nI_1 _) (by decide) rfl (fun ls hl => ?_)
            refine lv_goto (tgt := 12) hx hb dX10_takesCond_51 (by decide) ?_
            have hP := hP.sub (ws' := [(h0, .inr (10, [.ref tby, .int (nI kt), .ref tln, .ref tsp, .int kd13082, .int (nI ks13083), .int (nI kn13084), .int tf13085])), (tby, .inl (G.2.1, 240, .inl fby)), (tsp, .inr (8, [.int 120, .int 1, .ref tspc, .int (nI ksp13092)])), (tspc, .inl (G.2.1, 120, .inl gtsp3093))]) [1, 0, 2, 3] rfl
            have hD := hD.sub (ws' := [(h0, .inr (10, [.ref tby, .int (nI kt), .ref tln, .ref tsp, .int kd13082, .int (nI ks13083), .int (nI kn13084), .int tf13085])), (tby, .inl (G.2.1, 240, .inl fby)), (tsp, .inr (8, [.int 120, .int 1, .ref tspc, .int (nI ksp13092)])), (tspc, .inl (G.2.1, 120, .inl gtsp3093))]) [1, 0, 2, 3] (by decide) rfl
            exact ihP (kP + 1) kd13082 tf13085 gtsp3093 ks13083 kn13084 ksp13092 _ _ _ (by omega) (by first | assumption | exact Or.inl rfl | exact Or.inr rfl | omega) (by first | assumption | exact Or.inl rfl | exact Or.inr rfl | omega) (by first | assumption | exact Or.inl rfl | exact Or.inr rfl | omega) hP hD hS (lv_sub hl [0, 1, 2] rfl)
          · refine lv_if_ne (tgt := 42) hx hb dX10_takesCond_37 (by decide) (fun c9 => absurd (by decide) c9) (fun _ => ?_)
            refine lv_iconst (v := 0) hx hb dX10_takesCond_40 (by decide) ?_
            exact RI (v := 0) hC hP hD hS [0, 1, 2, 3] (kd13082, ks13083, kn13084, tf13085, ksp13086, gtsp3087) rfl rfl (by decide) (⟨Or.inr (rfl), by dsimp only; omega⟩) (by decide +kernel) dX10_takesCond_41
        · refine lv_if_eq (tgt := 54) hx hb dX10_takesCond_25 (by decide) (fun _ => ?_) (fun c9 => absurd (by decide) c9)
          refine lv_iconst (v := 1) hx hb dX10_takesCond_54 (by decide) ?_
          exact RI (v := 1) hC hP hD hS [0, 1, 2, 3] (vkd, vks, vkn, vtf, vksp, vtsp) rfl rfl (by decide) (⟨Or.inl (rfl), by dsimp only; omega⟩) (by decide +kernel) dX10_takesCond_55
    exact keyP 240 0 kd13064 tf13067 gtsp3069 ks13065 kn13066 ksp13068 _ _ _ (by omega) (by first | assumption | exact Or.inl rfl | exact Or.inr rfl | omega) (by first | assumption | exact Or.inl rfl | exact Or.inr rfl | omega) (by first | assumption | exact Or.inl rfl | exact Or.inr rfl | omega) hP hD hS (lv_sub hl [0, 1, 2] rfl)
  · refine lv_if_ne (tgt := 10) hx hb dX10_takesCond_5 (by decide) (fun c9 => absurd (by decide) c9) (fun _ => ?_)
    refine lv_iconst (v := 0) hx hb dX10_takesCond_8 (by decide) ?_
    exact RI (v := 0) hC hP hD hS [0, 1, 2, 3] (kd13064, ks13065, kn13066, tf13067, ksp13068, gtsp3069) rfl rfl (by decide) (⟨Or.inr (rfl), by dsimp only; omega⟩) (by decide +kernel) dX10_takesCond_9
set_option maxHeartbeats 4000000 in
set_option maxRecDepth 100000 in
theorem t_one3 (l : Launch) (G : GG) (K : OO) (h0 : Nat) (tby : Nat) (kt : Nat) (tln : Nat) (tsp : Nat) (tkd : Int32) (ks : Nat) (kn : Nat) (tf9 : Int32) (fby : Nat → Int32) (tspc : Nat) (ksp : Nat) (ftsp : Nat → Int32) (hkt : kt ≤ 240) (hks : ks ≤ 240) (hkn : kn ≤ 240) (hksp : ksp ≤ 120) : MIo l G K yX10_takesOne cX10_takesOne 4 (some .boolean) 13 0 0 [.ref h0, .int 3] [(h0, .inr (10, [.ref tby, .int (nI kt), .ref tln, .ref tsp, .int tkd, .int (nI ks), .int (nI kn), .int tf9])), (tby, .inl (G.2.1, 240, .inl fby)), (tsp, .inr (8, [.int 120, .int 1, .ref tspc, .int (nI ksp)])), (tspc, .inl (G.2.1, 120, .inl ftsp))] (fun (r : Int32) (u : Int32 × Nat × Nat × Int32 × Nat × (Nat → Int32)) => (r = 1 ∨ r = 0) ∧ (u.2.1 ≤ 240 ∧ u.2.2.1 ≤ 240 ∧ u.2.2.2.2.1 ≤ 120)) (fun u : Int32 × Nat × Nat × Int32 × Nat × (Nat → Int32) => [(h0, .inr (10, [.ref tby, .int (nI kt), .ref tln, .ref tsp, .int u.1, .int (nI u.2.1), .int (nI u.2.2.1), .int u.2.2.2.1])), (tby, .inl (G.2.1, 240, .inl fby)), (tsp, .inr (8, [.int 120, .int 1, .ref tspc, .int (nI u.2.2.2.2.1)])), (tspc, .inl (G.2.1, 120, .inl u.2.2.2.2.2))]) := by
  refine MIo.start (by decide +kernel) (Nat.le_of_ble_eq_true rfl) ?_
  intro p e s m below meth c A ls hC hK hP hD hS hA hl hO
  have hl : lv_has ls 4 [(0, .ref h0), (1, .int 3)] := hl
  obtain ⟨hx, hb, hr, hml, hB, hown, hlocks, hnm⟩ := id hC
  refine lv_iconst (v := 0) hx hb dX10_takesOne_0 (by decide) ?_
  refine lv_istore_n (lv' := [(2, .int 0), (0, .ref h0), (1, .int 3)]) hx hb dX10_takesOne_1 rfl hl (by decide) rfl (fun ls hl => ?_)
  refine lv_iconst (v := 0) hx hb dX10_takesOne_2 (by decide) ?_
  refine lv_istore_n (lv' := [(3, .int 0), (2, .int 0), (0, .ref h0), (1, .int 3)]) hx hb dX10_takesOne_3 rfl hl (by decide) rfl (fun ls hl => ?_)
  have keyP : ∀ (nP kP : Nat) (tu : Int32) (vkd : Int32) (vtf : Int32) (vks : Nat) (vkn : Nat) (H : Heap) (locs : List Loc) (ls : Array Slot), kP + nP = 240 → (vks ≤ 240) → (vkn ≤ 240) → va_P G.1 vwCl [(h0, .inr (10, [.ref tby, .int (nI kt), .ref tln, .ref tsp, .int vkd, .int (nI vks), .int (nI vkn), .int vtf])), (tby, .inl (G.2.1, 240, .inl fby)), (tsp, .inr (8, [.int 120, .int 1, .ref tspc, .int (nI ksp)])), (tspc, .inl (G.2.1, 120, .inl ftsp))] H → va_D A [(h0, .inr (10, [.ref tby, .int (nI kt), .ref tln, .ref tsp, .int vkd, .int (nI vks), .int (nI vkn), .int vtf])), (tby, .inl (G.2.1, 240, .inl fby)), (tsp, .inr (8, [.int 120, .int 1, .ref tspc, .int (nI ksp)])), (tspc, .inl (G.2.1, 120, .inl ftsp))] → va_S A s.heap H locs → lv_has ls 4 [(3, .int (nI kP)), (2, .int tu), (0, .ref h0), (1, .int 3)] → W p l e (RM 13 0 0) s m ([.ref h0, .int 3] : List Value).toArray below meth c H locs 0 0 (MQ below (QI G (fun (r : Int32) (u : Int32 × Nat × Nat × Int32 × Nat × (Nat → Int32)) => (r = 1 ∨ r = 0) ∧ (u.2.1 ≤ 240 ∧ u.2.2.1 ≤ 240 ∧ u.2.2.2.2.1 ≤ 120)) (fun u : Int32 × Nat × Nat × Int32 × Nat × (Nat → Int32) => [(h0, .inr (10, [.ref tby, .int (nI kt), .ref tln, .ref tsp, .int u.1, .int (nI u.2.1), .int (nI u.2.2.1), .int u.2.2.2.1])), (tby, .inl (G.2.1, 240, .inl fby)), (tsp, .inr (8, [.int 120, .int 1, .ref tspc, .int (nI u.2.2.2.2.1)])), (tspc, .inl (G.2.1, 120, .inl u.2.2.2.2.2))]) A) ([.ref h0, .int 3] : List Value).toArray s 0 0 A) (F0 m 4 ls []) := by
    intro nP
    induction nP with
    | zero =>
      intro kP tu vkd vtf vks vkn H locs ls hkP hvks hvkn hP hD hS hl
      obtain rfl : 240 = kP := by omega
      have hl : lv_has ls 4 [(3, .int 240), (2, .int tu), (0, .ref h0), (1, .int 3)] := hl
      refine lv_iload_n hx hb dX10_takesOne_4 rfl (lv_at hl 0 rfl) ?_
      refine lv_sipush (v := 240) hx hb dX10_takesOne_5 (by decide) ?_
      refine lv_icmp_ge (tgt := 40) hx hb dX10_takesOne_8 (by decide) (fun _ => ?_) (fun c9 => absurd (by decide) c9)
      refine lv_aload_n hx hb dX10_takesOne_40 rfl (lv_at hl 2 rfl) ?_
      refine gf_X10_31 hC rfl hK hP 0 rfl rfl dX10_takesOne_41 ?_
      refine lv_bipush (v := 40) hx hb dX10_takesOne_44 (by decide) ?_
      refine lv_icmp_eq (tgt := 58) hx hb dX10_takesOne_46 (by decide) (fun c_46_3095 => ?_) (fun c_46_3095 => ?_)
      · refine lv_iload_n hx hb dX10_takesOne_58 rfl (lv_at hl 3 rfl) ?_
        refine lv_iconst (v := 4) hx hb dX10_takesOne_59 (by decide) ?_
        refine lv_icmp_lt (tgt := 68) hx hb dX10_takesOne_60 (by decide) (fun _ => ?_) (fun c9 => absurd (by decide) c9)
        refine lv_aload_n hx hb dX10_takesOne_68 rfl (lv_at hl 2 rfl) ?_
        refine vV (wr := [(tsp, .inr (8, [.int 120, .int 1, .ref tspc, .int (nI ksp)])), (tspc, .inl (G.2.1, 120, .inl ftsp))]) hC hK hl hP hD hS hA (t_advance l G h0 tby kt tln tsp vkd vks vkn vtf fby (by omega) (by omega) (by omega)) si_X10_47 [0, 1] [2, 3] rfl rfl (by decide) rfl (by decide) (by decide) rfl rfl rfl rfl rfl (Nat.le_of_ble_eq_true rfl) ⟨Nat.le_of_ble_eq_true rfl, Nat.le_of_ble_eq_true rfl⟩ ⟨Nat.le_of_ble_eq_true rfl, Nat.le_of_ble_eq_true rfl⟩ dX10_takesOne_69 (fun u3097 H locs hr3096 hP hD hS => ?_)
        obtain ⟨kd13098, ks13099, kn13100⟩ := u3097
        try dsimp only at hr3096
        have hP : va_P G.1 vwCl [(tsp, .inr (8, [.int 120, .int 1, .ref tspc, .int (nI ksp)])), (tspc, .inl (G.2.1, 120, .inl ftsp)), (h0, .inr (10, [.ref tby, .int (nI kt), .ref tln, .ref tsp, .int kd13098, .int (nI ks13099), .int (nI kn13100), .int vtf])), (tby, .inl (G.2.1, 240, .inl fby))] H := hP
        have hD : va_D A [(tsp, .inr (8, [.int 120, .int 1, .ref tspc, .int (nI ksp)])), (tspc, .inl (G.2.1, 120, .inl ftsp)), (h0, .inr (10, [.ref tby, .int (nI kt), .ref tln, .ref tsp, .int kd13098, .int (nI ks13099), .int (nI kn13100), .int vtf])), (tby, .inl (G.2.1, 240, .inl fby))] := hD
        have w3101 := hr3096
        refine lv_aload_n hx hb dX10_takesOne_72 rfl (lv_at hl 2 rfl) ?_
        refine lv_iload_n hx hb dX10_takesOne_73 rfl (lv_at hl 3 rfl) ?_
        refine lv_iconst (v := 1) hx hb dX10_takesOne_74 (by decide) ?_
        refine lv_iadd hx hb dX10_takesOne_75 ?_
        refine eqi (x1 := 4) (by decide) ?_
        refine iVo (wr := []) hO hC hK hl hP hD hS hA (t_cond4 l G K h0 tby kt tln tsp kd13098 ks13099 kn13100 vtf fby tspc ksp ftsp (by omega) (by omega) (by omega) (by omega)) si_X10_121 [2, 3, 0, 1] [] rfl rfl (by decide) rfl (by decide) (by decide) rfl rfl rfl rfl rfl (Nat.le_of_ble_eq_true rfl) ⟨Nat.le_of_ble_eq_true rfl, Nat.le_of_ble_eq_true rfl⟩ ⟨Nat.le_of_ble_eq_true rfl, Nat.le_of_ble_eq_true rfl⟩ dX10_takesOne_76 (fun r3102 u3103 H locs hr3102 hP hD hS => ?_)
        obtain ⟨kd13104, ks13105, kn13106, tf13107, ksp13108, gtsp3109⟩ := u3103
        try dsimp only at hr3102
        have hP : va_P G.1 vwCl [(h0, .inr (10, [.ref tby, .int (nI kt), .ref tln, .ref tsp, .int kd13104, .int (nI ks13105), .int (nI kn13106), .int tf13107])), (tby, .inl (G.2.1, 240, .inl fby)), (tsp, .inr (8, [.int 120, .int 1, .ref tspc, .int (nI ksp13108)])), (tspc, .inl (G.2.1, 120, .inl gtsp3109))] H := hP
        have hD : va_D A [(h0, .inr (10, [.ref tby, .int (nI kt), .ref tln, .ref tsp, .int kd13104, .int (nI ks13105), .int (nI kn13106), .int tf13107])), (tby, .inl (G.2.1, 240, .inl fby)), (tsp, .inr (8, [.int 120, .int 1, .ref tspc, .int (nI ksp13108)])), (tspc, .inl (G.2.1, 120, .inl gtsp3109))] := hD
        obtain ⟨hr3102, w3110⟩ := hr3102
        rcases hr3102 with rfl | rfl
        · refine lv_if_eq (tgt := 91) hx hb dX10_takesOne_79 (by decide) (fun c9 => absurd c9 (by decide)) (fun _ => ?_)
          refine lv_aload_n hx hb dX10_takesOne_82 rfl (lv_at hl 2 rfl) ?_
          refine lv_bipush (v := 41) hx hb dX10_takesOne_83 (by decide) ?_
          refine iV (wr := [(tsp, .inr (8, [.int 120, .int 1, .ref tspc, .int (nI ksp13108)])), (tspc, .inl (G.2.1, 120, .inl gtsp3109))]) hC hK hl hP hD hS hA (t_takesByte l G h0 41 tby kt tln tsp kd13104 ks13105 kn13106 tf13107 fby (by omega) (by omega) (by omega)) si_X10_124 [0, 1] [2, 3] rfl rfl (by decide) rfl (by decide) (by decide) rfl rfl rfl rfl rfl (Nat.le_of_ble_eq_true rfl) ⟨Nat.le_of_ble_eq_true rfl, Nat.le_of_ble_eq_true rfl⟩ ⟨Nat.le_of_ble_eq_true rfl, Nat.le_of_ble_eq_true rfl⟩ dX10_takesOne_85 (fun r3112 u3113 H locs hr3112 hP hD hS => ?_)
          obtain ⟨kd13114, ks13115, kn13116, tf13117⟩ := u3113
          try dsimp only at hr3112
          have hP : va_P G.1 vwCl [(tsp, .inr (8, [.int 120, .int 1, .ref tspc, .int (nI ksp13108)])), (tspc, .inl (G.2.1, 120, .inl gtsp3109)), (h0, .inr (10, [.ref tby, .int (nI kt), .ref tln, .ref tsp, .int kd13114, .int (nI ks13115), .int (nI kn13116), .int tf13117])), (tby, .inl (G.2.1, 240, .inl fby))] H := hP
          have hD : va_D A [(tsp, .inr (8, [.int 120, .int 1, .ref tspc, .int (nI ksp13108)])), (tspc, .inl (G.2.1, 120, .inl gtsp3109)), (h0, .inr (10, [.ref tby, .int (nI kt), .ref tln, .ref tsp, .int kd13114, .int (nI ks13115), .int (nI kn13116), .int tf13117])), (tby, .inl (G.2.1, 240, .inl fby))] := hD
          obtain ⟨hr3112, w3118⟩ := hr3112
          rcases hr3112 with rfl | rfl
          · refine lv_if_ne (tgt := 93) hx hb dX10_takesOne_88 (by decide) (fun _ => ?_) (fun c9 => absurd c9 (by decide))
            refine lv_iload_n hx hb dX10_takesOne_93 rfl (lv_at hl 1 rfl) ?_
            refine lv_if_eq (tgt := 102) hx hb dX10_takesOne_94 (by decide) (fun c_94_3120 => ?_) (fun c_94_3120 => ?_)
            · refine lv_iconst (v := 1) hx hb dX10_takesOne_102 (by decide) ?_
              exact RI (v := 1) hC hP hD hS [2, 3, 0, 1] (kd13114, ks13115, kn13116, tf13117, ksp13108, gtsp3109) rfl rfl (by decide) (⟨Or.inl (rfl), by dsimp only; omega⟩) (by decide +kernel) dX10_takesOne_103
            · refine lv_aload_n hx hb dX10_takesOne_97 rfl (lv_at hl 2 rfl) ?_
              refine lv_iconst (v := (-1)) hx hb dX10_takesOne_98 (by decide) ?_
              refine vV (wr := [(tby, .inl (G.2.1, 240, .inl fby))]) hC hK hl hP hD hS hA (t_addStep l G h0 (-1) tby kt tln tsp kd13114 ks13115 kn13116 tf13117 tspc ksp13108 gtsp3109 (by omega)) si_X10_152 [2, 0, 1] [3] rfl rfl (by decide) rfl (by decide) (by decide) rfl rfl rfl rfl rfl (Nat.le_of_ble_eq_true rfl) ⟨Nat.le_of_ble_eq_true rfl, Nat.le_of_ble_eq_true rfl⟩ ⟨Nat.le_of_ble_eq_true rfl, Nat.le_of_ble_eq_true rfl⟩ dX10_takesOne_99 (fun u3122 H locs hr3121 hP hD hS => ?_)
              obtain ⟨ksp13123, gtsp3124⟩ := u3122
              try dsimp only at hr3121
              have hP : va_P G.1 vwCl [(tby, .inl (G.2.1, 240, .inl fby)), (h0, .inr (10, [.ref tby, .int (nI kt), .ref tln, .ref tsp, .int kd13114, .int (nI ks13115), .int (nI kn13116), .int tf13117])), (tsp, .inr (8, [.int 120, .int 1, .ref tspc, .int (nI ksp13123)])), (tspc, .inl (G.2.1, 120, .inl gtsp3124))] H := hP
              have hD : va_D A [(tby, .inl (G.2.1, 240, .inl fby)), (h0, .inr (10, [.ref tby, .int (nI kt), .ref tln, .ref tsp, .int kd13114, .int (nI ks13115), .int (nI kn13116), .int tf13117])), (tsp, .inr (8, [.int 120, .int 1, .ref tspc, .int (nI ksp13123)])), (tspc, .inl (G.2.1, 120, .inl gtsp3124))] := hD
              have w3125 := hr3121
              refine lv_iconst (v := 1) hx hb dX10_takesOne_102 (by decide) ?_
              exact RI (v := 1) hC hP hD hS [1, 0, 2, 3] (kd13114, ks13115, kn13116, tf13117, ksp13123, gtsp3124) rfl rfl (by decide) (⟨Or.inl (rfl), by dsimp only; omega⟩) (by decide +kernel) dX10_takesOne_103
          · refine lv_if_ne (tgt := 93) hx hb dX10_takesOne_88 (by decide) (fun c9 => absurd (by decide) c9) (fun _ => ?_)
            refine lv_iconst (v := 0) hx hb dX10_takesOne_91 (by decide) ?_
            exact RI (v := 0) hC hP hD hS [2, 3, 0, 1] (kd13114, ks13115, kn13116, tf13117, ksp13108, gtsp3109) rfl rfl (by decide) (⟨Or.inr (rfl), by dsimp only; omega⟩) (by decide +kernel) dX10_takesOne_92
        · refine lv_if_eq (tgt := 91) hx hb dX10_takesOne_79 (by decide) (fun _ => ?_) (fun c9 => absurd (by decide) c9)
          refine lv_iconst (v := 0) hx hb dX10_takesOne_91 (by decide) ?_
          exact RI (v := 0) hC hP hD hS [0, 1, 2, 3] (kd13104, ks13105, kn13106, tf13107, ksp13108, gtsp3109) rfl rfl (by decide) (⟨Or.inr (rfl), by dsimp only; omega⟩) (by decide +kernel) dX10_takesOne_92
      · refine lv_aload_n hx hb dX10_takesOne_49 rfl (lv_at hl 2 rfl) ?_
        refine iVo (wr := []) hO hC hK hl hP hD hS hA (t_takesComparison l G K h0 tby kt tln tsp vkd vks vkn vtf fby tspc ksp ftsp (by omega) (by omega) (by omega) (by omega)) si_X10_162 [0, 1, 2, 3] [] rfl rfl (by decide) rfl (by decide) (by decide) rfl rfl rfl rfl rfl (Nat.le_of_ble_eq_true rfl) ⟨Nat.le_of_ble_eq_true rfl, Nat.le_of_ble_eq_true rfl⟩ ⟨Nat.le_of_ble_eq_true rfl, Nat.le_of_ble_eq_true rfl⟩ dX10_takesOne_50 (fun r3126 u3127 H locs hr3126 hP hD hS => ?_)
        obtain ⟨kd13128, ks13129, kn13130, tf13131, ksp13132, gtsp3133⟩ := u3127
        try dsimp only at hr3126
        have hP : va_P G.1 vwCl [(h0, .inr (10, [.ref tby, .int (nI kt), .ref tln, .ref tsp, .int kd13128, .int (nI ks13129), .int (nI kn13130), .int tf13131])), (tby, .inl (G.2.1, 240, .inl fby)), (tsp, .inr (8, [.int 120, .int 1, .ref tspc, .int (nI ksp13132)])), (tspc, .inl (G.2.1, 120, .inl gtsp3133))] H := hP
        have hD : va_D A [(h0, .inr (10, [.ref tby, .int (nI kt), .ref tln, .ref tsp, .int kd13128, .int (nI ks13129), .int (nI kn13130), .int tf13131])), (tby, .inl (G.2.1, 240, .inl fby)), (tsp, .inr (8, [.int 120, .int 1, .ref tspc, .int (nI ksp13132)])), (tspc, .inl (G.2.1, 120, .inl gtsp3133))] := hD
        obtain ⟨hr3126, w3134⟩ := hr3126
        rcases hr3126 with rfl | rfl
        · refine lv_if_ne (tgt := 93) hx hb dX10_takesOne_53 (by decide) (fun _ => ?_) (fun c9 => absurd c9 (by decide))
          refine lv_iload_n hx hb dX10_takesOne_93 rfl (lv_at hl 1 rfl) ?_
          refine lv_if_eq (tgt := 102) hx hb dX10_takesOne_94 (by decide) (fun c_94_3136 => ?_) (fun c_94_3136 => ?_)
          · refine lv_iconst (v := 1) hx hb dX10_takesOne_102 (by decide) ?_
            exact RI (v := 1) hC hP hD hS [0, 1, 2, 3] (kd13128, ks13129, kn13130, tf13131, ksp13132, gtsp3133) rfl rfl (by decide) (⟨Or.inl (rfl), by dsimp only; omega⟩) (by decide +kernel) dX10_takesOne_103
          · refine lv_aload_n hx hb dX10_takesOne_97 rfl (lv_at hl 2 rfl) ?_
            refine lv_iconst (v := (-1)) hx hb dX10_takesOne_98 (by decide) ?_
            refine vV (wr := [(tby, .inl (G.2.1, 240, .inl fby))]) hC hK hl hP hD hS hA (t_addStep l G h0 (-1) tby kt tln tsp kd13128 ks13129 kn13130 tf13131 tspc ksp13132 gtsp3133 (by omega)) si_X10_152 [0, 2, 3] [1] rfl rfl (by decide) rfl (by decide) (by decide) rfl rfl rfl rfl rfl (Nat.le_of_ble_eq_true rfl) ⟨Nat.le_of_ble_eq_true rfl, Nat.le_of_ble_eq_true rfl⟩ ⟨Nat.le_of_ble_eq_true rfl, Nat.le_of_ble_eq_true rfl⟩ dX10_takesOne_99 (fun u3138 H locs hr3137 hP hD hS => ?_)
            obtain ⟨ksp13139, gtsp3140⟩ := u3138
            try dsimp only at hr3137
            have hP : va_P G.1 vwCl [(tby, .inl (G.2.1, 240, .inl fby)), (h0, .inr (10, [.ref tby, .int (nI kt), .ref tln, .ref tsp, .int kd13128, .int (nI ks13129), .int (nI kn13130), .int tf13131])), (tsp, .inr (8, [.int 120, .int 1, .ref tspc, .int (nI ksp13139)])), (tspc, .inl (G.2.1, 120, .inl gtsp3140))] H := hP
            have hD : va_D A [(tby, .inl (G.2.1, 240, .inl fby)), (h0, .inr (10, [.ref tby, .int (nI kt), .ref tln, .ref tsp, .int kd13128, .int (nI ks13129), .int (nI kn13130), .int tf13131])), (tsp, .inr (8, [.int 120, .int 1, .ref tspc, .int (nI ksp13139)])), (tspc, .inl (G.2.1, 120, .inl gtsp3140))] := hD
            have w3141 := hr3137
            refine lv_iconst (v := 1) hx hb dX10_takesOne_102 (by decide) ?_
            exact RI (v := 1) hC hP hD hS [1, 0, 2, 3] (kd13128, ks13129, kn13130, tf13131, ksp13139, gtsp3140) rfl rfl (by decide) (⟨Or.inl (rfl), by dsimp only; omega⟩) (by decide +kernel) dX10_takesOne_103
        · refine lv_if_ne (tgt := 93) hx hb dX10_takesOne_53 (by decide) (fun c9 => absurd (by decide) c9) (fun _ => ?_)
          refine lv_iconst (v := 0) hx hb dX10_takesOne_56 (by decide) ?_
          exact RI (v := 0) hC hP hD hS [0, 1, 2, 3] (kd13128, ks13129, kn13130, tf13131, ksp13132, gtsp3133) rfl rfl (by decide) (⟨Or.inr (rfl), by dsimp only; omega⟩) (by decide +kernel) dX10_takesOne_57
    | succ nP ihP =>
      intro kP tu vkd vtf vks vkn H locs ls hkP hvks hvkn hP hD hS hl
      refine lv_iload_n hx hb dX10_takesOne_4 rfl (lv_at hl 0 rfl) ?_
      refine lv_sipush (v := 240) hx hb dX10_takesOne_5 (by decide) ?_
      refine lv_icmp_ge (tgt := 40) hx hb dX10_takesOne_8 (by decide) (fun c9 => absurd c9 (nI_ge (a := kP) (b := 240) (by omega) (by omega))) (fun _ => ?_)
      refine lv_aload_n hx hb dX10_takesOne_11 rfl (lv_at hl 2 rfl) ?_
      refine va_ldcS (index := 160) (tx := "not") hx hb hown (hO.2.1 10 (by decide)) dX10_takesOne_12 ?_
      refine pVo hO hS hC hK hl hP hD (t_isName l G K 10 h0 tby kt tln tsp vkd vks vkn vtf fby (by omega) (by omega) (by omega) ((by decide))) si_X10_102 [0, 1] rfl rfl (by decide) rfl rfl rfl rfl rfl (Nat.le_of_ble_eq_true rfl) ⟨Nat.le_of_ble_eq_true rfl, Nat.le_of_ble_eq_true rfl⟩ ⟨by first | exact Nat.le_of_ble_eq_true rfl | exact Nat.zero_le _, by first | exact Nat.le_of_ble_eq_true rfl | exact Nat.zero_le _⟩ dX10_takesOne_14 (fun r3142 hr3142 => ?_)
      rcases hr3142 with rfl | rfl
      · refine lv_if_eq (tgt := 40) hx hb dX10_takesOne_17 (by decide) (fun c9 => absurd c9 (by decide)) (fun _ => ?_)
        refine lv_aload_n hx hb dX10_takesOne_20 rfl (lv_at hl 2 rfl) ?_
        refine vV (wr := [(tsp, .inr (8, [.int 120, .int 1, .ref tspc, .int (nI ksp)])), (tspc, .inl (G.2.1, 120, .inl ftsp))]) hC hK hl hP hD hS hA (t_advance l G h0 tby kt tln tsp vkd vks vkn vtf fby (by omega) (by omega) (by omega)) si_X10_47 [0, 1] [2, 3] rfl rfl (by decide) rfl (by decide) (by decide) rfl rfl rfl rfl rfl (Nat.le_of_ble_eq_true rfl) ⟨Nat.le_of_ble_eq_true rfl, Nat.le_of_ble_eq_true rfl⟩ ⟨Nat.le_of_ble_eq_true rfl, Nat.le_of_ble_eq_true rfl⟩ dX10_takesOne_21 (fun u3145 H locs hr3144 hP hD hS => ?_)
        obtain ⟨kd13146, ks13147, kn13148⟩ := u3145
        try dsimp only at hr3144
        have hP : va_P G.1 vwCl [(tsp, .inr (8, [.int 120, .int 1, .ref tspc, .int (nI ksp)])), (tspc, .inl (G.2.1, 120, .inl ftsp)), (h0, .inr (10, [.ref tby, .int (nI kt), .ref tln, .ref tsp, .int kd13146, .int (nI ks13147), .int (nI kn13148), .int vtf])), (tby, .inl (G.2.1, 240, .inl fby))] H := hP
        have hD : va_D A [(tsp, .inr (8, [.int 120, .int 1, .ref tspc, .int (nI ksp)])), (tspc, .inl (G.2.1, 120, .inl ftsp)), (h0, .inr (10, [.ref tby, .int (nI kt), .ref tln, .ref tsp, .int kd13146, .int (nI ks13147), .int (nI kn13148), .int vtf])), (tby, .inl (G.2.1, 240, .inl fby))] := hD
        have w3149 := hr3144
        refine lv_iload_n hx hb dX10_takesOne_24 rfl (lv_at hl 1 rfl) ?_
        refine lv_if_ne (tgt := 32) hx hb dX10_takesOne_25 (by decide) (fun c_25_3150 => ?_) (fun c_25_3150 => ?_)
        · refine lv_iconst (v := 0) hx hb dX10_takesOne_32 (by decide) ?_
          refine lv_istore_n (lv' := [(2, .int 0), (3, .int (nI kP)), (0, .ref h0), (1, .int 3)]) hx hb dX10_takesOne_33 rfl hl (by decide) rfl (fun ls hl => ?_)
          refine lv_iinc (v := nI (kP + 1)) (lv' := [(3, .int (nI (kP + 1))), (2, .int 0), (0, .ref h0), (1, .int 3)]) hx hb dX10_takesOne_34 hl (k := 1) rfl (nI_1 _) (by decide) rfl (fun ls hl => ?_)
          refine lv_goto (tgt := 4) hx hb dX10_takesOne_37 (by decide) ?_
          have hP := hP.sub (ws' := [(h0, .inr (10, [.ref tby, .int (nI kt), .ref tln, .ref tsp, .int kd13146, .int (nI ks13147), .int (nI kn13148), .int vtf])), (tby, .inl (G.2.1, 240, .inl fby)), (tsp, .inr (8, [.int 120, .int 1, .ref tspc, .int (nI ksp)])), (tspc, .inl (G.2.1, 120, .inl ftsp))]) [2, 3, 0, 1] rfl
          have hD := hD.sub (ws' := [(h0, .inr (10, [.ref tby, .int (nI kt), .ref tln, .ref tsp, .int kd13146, .int (nI ks13147), .int (nI kn13148), .int vtf])), (tby, .inl (G.2.1, 240, .inl fby)), (tsp, .inr (8, [.int 120, .int 1, .ref tspc, .int (nI ksp)])), (tspc, .inl (G.2.1, 120, .inl ftsp))]) [2, 3, 0, 1] (by decide) rfl
          exact ihP (kP + 1) 0 kd13146 vtf ks13147 kn13148 _ _ _ (by omega) (by first | assumption | exact Or.inl rfl | exact Or.inr rfl | omega) (by first | assumption | exact Or.inl rfl | exact Or.inr rfl | omega) hP hD hS (lv_sub hl [0, 1, 2, 3] rfl)
        · refine lv_iconst (v := 1) hx hb dX10_takesOne_28 (by decide) ?_
          refine lv_goto (tgt := 33) hx hb dX10_takesOne_29 (by decide) ?_
          refine lv_istore_n (lv' := [(2, .int 1), (3, .int (nI kP)), (0, .ref h0), (1, .int 3)]) hx hb dX10_takesOne_33 rfl hl (by decide) rfl (fun ls hl => ?_)
          refine lv_iinc (v := nI (kP + 1)) (lv' := [(3, .int (nI (kP + 1))), (2, .int 1), (0, .ref h0), (1, .int 3)]) hx hb dX10_takesOne_34 hl (k := 1) rfl (nI_1 _) (by decide) rfl (fun ls hl => ?_)
          refine lv_goto (tgt := 4) hx hb dX10_takesOne_37 (by decide) ?_
          have hP := hP.sub (ws' := [(h0, .inr (10, [.ref tby, .int (nI kt), .ref tln, .ref tsp, .int kd13146, .int (nI ks13147), .int (nI kn13148), .int vtf])), (tby, .inl (G.2.1, 240, .inl fby)), (tsp, .inr (8, [.int 120, .int 1, .ref tspc, .int (nI ksp)])), (tspc, .inl (G.2.1, 120, .inl ftsp))]) [2, 3, 0, 1] rfl
          have hD := hD.sub (ws' := [(h0, .inr (10, [.ref tby, .int (nI kt), .ref tln, .ref tsp, .int kd13146, .int (nI ks13147), .int (nI kn13148), .int vtf])), (tby, .inl (G.2.1, 240, .inl fby)), (tsp, .inr (8, [.int 120, .int 1, .ref tspc, .int (nI ksp)])), (tspc, .inl (G.2.1, 120, .inl ftsp))]) [2, 3, 0, 1] (by decide) rfl
          exact ihP (kP + 1) 1 kd13146 vtf ks13147 kn13148 _ _ _ (by omega) (by first | assumption | exact Or.inl rfl | exact Or.inr rfl | omega) (by first | assumption | exact Or.inl rfl | exact Or.inr rfl | omega) hP hD hS (lv_sub hl [0, 1, 2, 3] rfl)
      · refine lv_if_eq (tgt := 40) hx hb dX10_takesOne_17 (by decide) (fun _ => ?_) (fun c9 => absurd (by decide) c9)
        refine lv_aload_n hx hb dX10_takesOne_40 rfl (lv_at hl 2 rfl) ?_
        refine gf_X10_31 hC rfl hK hP 0 rfl rfl dX10_takesOne_41 ?_
        refine lv_bipush (v := 40) hx hb dX10_takesOne_44 (by decide) ?_
        refine lv_icmp_eq (tgt := 58) hx hb dX10_takesOne_46 (by decide) (fun c_46_3151 => ?_) (fun c_46_3151 => ?_)
        · refine lv_iload_n hx hb dX10_takesOne_58 rfl (lv_at hl 3 rfl) ?_
          refine lv_iconst (v := 4) hx hb dX10_takesOne_59 (by decide) ?_
          refine lv_icmp_lt (tgt := 68) hx hb dX10_takesOne_60 (by decide) (fun _ => ?_) (fun c9 => absurd (by decide) c9)
          refine lv_aload_n hx hb dX10_takesOne_68 rfl (lv_at hl 2 rfl) ?_
          refine vV (wr := [(tsp, .inr (8, [.int 120, .int 1, .ref tspc, .int (nI ksp)])), (tspc, .inl (G.2.1, 120, .inl ftsp))]) hC hK hl hP hD hS hA (t_advance l G h0 tby kt tln tsp vkd vks vkn vtf fby (by omega) (by omega) (by omega)) si_X10_47 [0, 1] [2, 3] rfl rfl (by decide) rfl (by decide) (by decide) rfl rfl rfl rfl rfl (Nat.le_of_ble_eq_true rfl) ⟨Nat.le_of_ble_eq_true rfl, Nat.le_of_ble_eq_true rfl⟩ ⟨Nat.le_of_ble_eq_true rfl, Nat.le_of_ble_eq_true rfl⟩ dX10_takesOne_69 (fun u3153 H locs hr3152 hP hD hS => ?_)
          obtain ⟨kd13154, ks13155, kn13156⟩ := u3153
          try dsimp only at hr3152
          have hP : va_P G.1 vwCl [(tsp, .inr (8, [.int 120, .int 1, .ref tspc, .int (nI ksp)])), (tspc, .inl (G.2.1, 120, .inl ftsp)), (h0, .inr (10, [.ref tby, .int (nI kt), .ref tln, .ref tsp, .int kd13154, .int (nI ks13155), .int (nI kn13156), .int vtf])), (tby, .inl (G.2.1, 240, .inl fby))] H := hP
          have hD : va_D A [(tsp, .inr (8, [.int 120, .int 1, .ref tspc, .int (nI ksp)])), (tspc, .inl (G.2.1, 120, .inl ftsp)), (h0, .inr (10, [.ref tby, .int (nI kt), .ref tln, .ref tsp, .int kd13154, .int (nI ks13155), .int (nI kn13156), .int vtf])), (tby, .inl (G.2.1, 240, .inl fby))] := hD
          have w3157 := hr3152
          refine lv_aload_n hx hb dX10_takesOne_72 rfl (lv_at hl 2 rfl) ?_
          refine lv_iload_n hx hb dX10_takesOne_73 rfl (lv_at hl 3 rfl) ?_
          refine lv_iconst (v := 1) hx hb dX10_takesOne_74 (by decide) ?_
          refine lv_iadd hx hb dX10_takesOne_75 ?_
          refine eqi (x1 := 4) (by decide) ?_
          refine iVo (wr := []) hO hC hK hl hP hD hS hA (t_cond4 l G K h0 tby kt tln tsp kd13154 ks13155 kn13156 vtf fby tspc ksp ftsp (by omega) (by omega) (by omega) (by omega)) si_X10_121 [2, 3, 0, 1] [] rfl rfl (by decide) rfl (by decide) (by decide) rfl rfl rfl rfl rfl (Nat.le_of_ble_eq_true rfl) ⟨Nat.le_of_ble_eq_true rfl, Nat.le_of_ble_eq_true rfl⟩ ⟨Nat.le_of_ble_eq_true rfl, Nat.le_of_ble_eq_true rfl⟩ dX10_takesOne_76 (fun r3158 u3159 H locs hr3158 hP hD hS => ?_)
          obtain ⟨kd13160, ks13161, kn13162, tf13163, ksp13164, gtsp3165⟩ := u3159
          try dsimp only at hr3158
          have hP : va_P G.1 vwCl [(h0, .inr (10, [.ref tby, .int (nI kt), .ref tln, .ref tsp, .int kd13160, .int (nI ks13161), .int (nI kn13162), .int tf13163])), (tby, .inl (G.2.1, 240, .inl fby)), (tsp, .inr (8, [.int 120, .int 1, .ref tspc, .int (nI ksp13164)])), (tspc, .inl (G.2.1, 120, .inl gtsp3165))] H := hP
          have hD : va_D A [(h0, .inr (10, [.ref tby, .int (nI kt), .ref tln, .ref tsp, .int kd13160, .int (nI ks13161), .int (nI kn13162), .int tf13163])), (tby, .inl (G.2.1, 240, .inl fby)), (tsp, .inr (8, [.int 120, .int 1, .ref tspc, .int (nI ksp13164)])), (tspc, .inl (G.2.1, 120, .inl gtsp3165))] := hD
          obtain ⟨hr3158, w3166⟩ := hr3158
          rcases hr3158 with rfl | rfl
          · refine lv_if_eq (tgt := 91) hx hb dX10_takesOne_79 (by decide) (fun c9 => absurd c9 (by decide)) (fun _ => ?_)
            refine lv_aload_n hx hb dX10_takesOne_82 rfl (lv_at hl 2 rfl) ?_
            refine lv_bipush (v := 41) hx hb dX10_takesOne_83 (by decide) ?_
            refine iV (wr := [(tsp, .inr (8, [.int 120, .int 1, .ref tspc, .int (nI ksp13164)])), (tspc, .inl (G.2.1, 120, .inl gtsp3165))]) hC hK hl hP hD hS hA (t_takesByte l G h0 41 tby kt tln tsp kd13160 ks13161 kn13162 tf13163 fby (by omega) (by omega) (by omega)) si_X10_124 [0, 1] [2, 3] rfl rfl (by decide) rfl (by decide) (by decide) rfl rfl rfl rfl rfl (Nat.le_of_ble_eq_true rfl) ⟨Nat.le_of_ble_eq_true rfl, Nat.le_of_ble_eq_true rfl⟩ ⟨Nat.le_of_ble_eq_true rfl, Nat.le_of_ble_eq_true rfl⟩ dX10_takesOne_85 (fun r3168 u3169 H locs hr3168 hP hD hS => ?_)
            obtain ⟨kd13170, ks13171, kn13172, tf13173⟩ := u3169
            try dsimp only at hr3168
            have hP : va_P G.1 vwCl [(tsp, .inr (8, [.int 120, .int 1, .ref tspc, .int (nI ksp13164)])), (tspc, .inl (G.2.1, 120, .inl gtsp3165)), (h0, .inr (10, [.ref tby, .int (nI kt), .ref tln, .ref tsp, .int kd13170, .int (nI ks13171), .int (nI kn13172), .int tf13173])), (tby, .inl (G.2.1, 240, .inl fby))] H := hP
            have hD : va_D A [(tsp, .inr (8, [.int 120, .int 1, .ref tspc, .int (nI ksp13164)])), (tspc, .inl (G.2.1, 120, .inl gtsp3165)), (h0, .inr (10, [.ref tby, .int (nI kt), .ref tln, .ref tsp, .int kd13170, .int (nI ks13171), .int (nI kn13172), .int tf13173])), (tby, .inl (G.2.1, 240, .inl fby))] := hD
            obtain ⟨hr3168, w3174⟩ := hr3168
            rcases hr3168 with rfl | rfl
            · refine lv_if_ne (tgt := 93) hx hb dX10_takesOne_88 (by decide) (fun _ => ?_) (fun c9 => absurd c9 (by decide))
              refine lv_iload_n hx hb dX10_takesOne_93 rfl (lv_at hl 1 rfl) ?_
              refine lv_if_eq (tgt := 102) hx hb dX10_takesOne_94 (by decide) (fun c_94_3176 => ?_) (fun c_94_3176 => ?_)
              · refine lv_iconst (v := 1) hx hb dX10_takesOne_102 (by decide) ?_
                exact RI (v := 1) hC hP hD hS [2, 3, 0, 1] (kd13170, ks13171, kn13172, tf13173, ksp13164, gtsp3165) rfl rfl (by decide) (⟨Or.inl (rfl), by dsimp only; omega⟩) (by decide +kernel) dX10_takesOne_103
              · refine lv_aload_n hx hb dX10_takesOne_97 rfl (lv_at hl 2 rfl) ?_
                refine lv_iconst (v := (-1)) hx hb dX10_takesOne_98 (by decide) ?_
                refine vV (wr := [(tby, .inl (G.2.1, 240, .inl fby))]) hC hK hl hP hD hS hA (t_addStep l G h0 (-1) tby kt tln tsp kd13170 ks13171 kn13172 tf13173 tspc ksp13164 gtsp3165 (by omega)) si_X10_152 [2, 0, 1] [3] rfl rfl (by decide) rfl (by decide) (by decide) rfl rfl rfl rfl rfl (Nat.le_of_ble_eq_true rfl) ⟨Nat.le_of_ble_eq_true rfl, Nat.le_of_ble_eq_true rfl⟩ ⟨Nat.le_of_ble_eq_true rfl, Nat.le_of_ble_eq_true rfl⟩ dX10_takesOne_99 (fun u3178 H locs hr3177 hP hD hS => ?_)
                obtain ⟨ksp13179, gtsp3180⟩ := u3178
                try dsimp only at hr3177
                have hP : va_P G.1 vwCl [(tby, .inl (G.2.1, 240, .inl fby)), (h0, .inr (10, [.ref tby, .int (nI kt), .ref tln, .ref tsp, .int kd13170, .int (nI ks13171), .int (nI kn13172), .int tf13173])), (tsp, .inr (8, [.int 120, .int 1, .ref tspc, .int (nI ksp13179)])), (tspc, .inl (G.2.1, 120, .inl gtsp3180))] H := hP
                have hD : va_D A [(tby, .inl (G.2.1, 240, .inl fby)), (h0, .inr (10, [.ref tby, .int (nI kt), .ref tln, .ref tsp, .int kd13170, .int (nI ks13171), .int (nI kn13172), .int tf13173])), (tsp, .inr (8, [.int 120, .int 1, .ref tspc, .int (nI ksp13179)])), (tspc, .inl (G.2.1, 120, .inl gtsp3180))] := hD
                have w3181 := hr3177
                refine lv_iconst (v := 1) hx hb dX10_takesOne_102 (by decide) ?_
                exact RI (v := 1) hC hP hD hS [1, 0, 2, 3] (kd13170, ks13171, kn13172, tf13173, ksp13179, gtsp3180) rfl rfl (by decide) (⟨Or.inl (rfl), by dsimp only; omega⟩) (by decide +kernel) dX10_takesOne_103
            · refine lv_if_ne (tgt := 93) hx hb dX10_takesOne_88 (by decide) (fun c9 => absurd (by decide) c9) (fun _ => ?_)
              refine lv_iconst (v := 0) hx hb dX10_takesOne_91 (by decide) ?_
              exact RI (v := 0) hC hP hD hS [2, 3, 0, 1] (kd13170, ks13171, kn13172, tf13173, ksp13164, gtsp3165) rfl rfl (by decide) (⟨Or.inr (rfl), by dsimp only; omega⟩) (by decide +kernel) dX10_takesOne_92
          · refine lv_if_eq (tgt := 91) hx hb dX10_takesOne_79 (by decide) (fun _ => ?_) (fun c9 => absurd (by decide) c9)
            refine lv_iconst (v := 0) hx hb dX10_takesOne_91 (by decide) ?_
            exact RI (v := 0) hC hP hD hS [0, 1, 2, 3] (kd13160, ks13161, kn13162, tf13163, ksp13164, gtsp3165) rfl rfl (by decide) (⟨Or.inr (rfl), by dsimp only; omega⟩) (by decide +kernel) dX10_takesOne_92
        · refine lv_aload_n hx hb dX10_takesOne_49 rfl (lv_at hl 2 rfl) ?_
          refine iVo (wr := []) hO hC hK hl hP hD hS hA (t_takesComparison l G K h0 tby kt tln tsp vkd vks vkn vtf fby tspc ksp ftsp (by omega) (by omega) (by omega) (by omega)) si_X10_162 [0, 1, 2, 3] [] rfl rfl (by decide) rfl (by decide) (by decide) rfl rfl rfl rfl rfl (Nat.le_of_ble_eq_true rfl) ⟨Nat.le_of_ble_eq_true rfl, Nat.le_of_ble_eq_true rfl⟩ ⟨Nat.le_of_ble_eq_true rfl, Nat.le_of_ble_eq_true rfl⟩ dX10_takesOne_50 (fun r3182 u3183 H locs hr3182 hP hD hS => ?_)
          obtain ⟨kd13184, ks13185, kn13186, tf13187, ksp13188, gtsp3189⟩ := u3183
          try dsimp only at hr3182
          have hP : va_P G.1 vwCl [(h0, .inr (10, [.ref tby, .int (nI kt), .ref tln, .ref tsp, .int kd13184, .int (nI ks13185), .int (nI kn13186), .int tf13187])), (tby, .inl (G.2.1, 240, .inl fby)), (tsp, .inr (8, [.int 120, .int 1, .ref tspc, .int (nI ksp13188)])), (tspc, .inl (G.2.1, 120, .inl gtsp3189))] H := hP
          have hD : va_D A [(h0, .inr (10, [.ref tby, .int (nI kt), .ref tln, .ref tsp, .int kd13184, .int (nI ks13185), .int (nI kn13186), .int tf13187])), (tby, .inl (G.2.1, 240, .inl fby)), (tsp, .inr (8, [.int 120, .int 1, .ref tspc, .int (nI ksp13188)])), (tspc, .inl (G.2.1, 120, .inl gtsp3189))] := hD
          obtain ⟨hr3182, w3190⟩ := hr3182
          rcases hr3182 with rfl | rfl
          · refine lv_if_ne (tgt := 93) hx hb dX10_takesOne_53 (by decide) (fun _ => ?_) (fun c9 => absurd c9 (by decide))
            refine lv_iload_n hx hb dX10_takesOne_93 rfl (lv_at hl 1 rfl) ?_
            refine lv_if_eq (tgt := 102) hx hb dX10_takesOne_94 (by decide) (fun c_94_3192 => ?_) (fun c_94_3192 => ?_)
            · refine lv_iconst (v := 1) hx hb dX10_takesOne_102 (by decide) ?_
              exact RI (v := 1) hC hP hD hS [0, 1, 2, 3] (kd13184, ks13185, kn13186, tf13187, ksp13188, gtsp3189) rfl rfl (by decide) (⟨Or.inl (rfl), by dsimp only; omega⟩) (by decide +kernel) dX10_takesOne_103
            · refine lv_aload_n hx hb dX10_takesOne_97 rfl (lv_at hl 2 rfl) ?_
              refine lv_iconst (v := (-1)) hx hb dX10_takesOne_98 (by decide) ?_
              refine vV (wr := [(tby, .inl (G.2.1, 240, .inl fby))]) hC hK hl hP hD hS hA (t_addStep l G h0 (-1) tby kt tln tsp kd13184 ks13185 kn13186 tf13187 tspc ksp13188 gtsp3189 (by omega)) si_X10_152 [0, 2, 3] [1] rfl rfl (by decide) rfl (by decide) (by decide) rfl rfl rfl rfl rfl (Nat.le_of_ble_eq_true rfl) ⟨Nat.le_of_ble_eq_true rfl, Nat.le_of_ble_eq_true rfl⟩ ⟨Nat.le_of_ble_eq_true rfl, Nat.le_of_ble_eq_true rfl⟩ dX10_takesOne_99 (fun u3194 H locs hr3193 hP hD hS => ?_)
              obtain ⟨ksp13195, gtsp3196⟩ := u3194
              try dsimp only at hr3193
              have hP : va_P G.1 vwCl [(tby, .inl (G.2.1, 240, .inl fby)), (h0, .inr (10, [.ref tby, .int (nI kt), .ref tln, .ref tsp, .int kd13184, .int (nI ks13185), .int (nI kn13186), .int tf13187])), (tsp, .inr (8, [.int 120, .int 1, .ref tspc, .int (nI ksp13195)])), (tspc, .inl (G.2.1, 120, .inl gtsp3196))] H := hP
              have hD : va_D A [(tby, .inl (G.2.1, 240, .inl fby)), (h0, .inr (10, [.ref tby, .int (nI kt), .ref tln, .ref tsp, .int kd13184, .int (nI ks13185), .int (nI kn13186), .int tf13187])), (tsp, .inr (8, [.int 120, .int 1, .ref tspc, .int (nI ksp13195)])), (tspc, .inl (G.2.1, 120, .inl gtsp3196))] := hD
              have w3197 := hr3193
              refine lv_iconst (v := 1) hx hb dX10_takesOne_102 (by decide) ?_
              exact RI (v := 1) hC hP hD hS [1, 0, 2, 3] (kd13184, ks13185, kn13186, tf13187, ksp13195, gtsp3196) rfl rfl (by decide) (⟨Or.inl (rfl), by dsimp only; omega⟩) (by decide +kernel) dX10_takesOne_103
          · refine lv_if_ne (tgt := 93) hx hb dX10_takesOne_53 (by decide) (fun c9 => absurd (by decide) c9) (fun _ => ?_)
            refine lv_iconst (v := 0) hx hb dX10_takesOne_56 (by decide) ?_
            exact RI (v := 0) hC hP hD hS [0, 1, 2, 3] (kd13184, ks13185, kn13186, tf13187, ksp13188, gtsp3189) rfl rfl (by decide) (⟨Or.inr (rfl), by dsimp only; omega⟩) (by decide +kernel) dX10_takesOne_57
  exact keyP 240 0 0 tkd tf9 ks kn _ _ _ (by omega) (by first | assumption | exact Or.inl rfl | exact Or.inr rfl | omega) (by first | assumption | exact Or.inl rfl | exact Or.inr rfl | omega) hP hD hS (lv_sub hl [0, 1, 2, 3] rfl)
set_option maxHeartbeats 4000000 in
set_option maxRecDepth 100000 in
theorem t_all3 (l : Launch) (G : GG) (K : OO) (h0 : Nat) (tby : Nat) (kt : Nat) (tln : Nat) (tsp : Nat) (tkd : Int32) (ks : Nat) (kn : Nat) (tf9 : Int32) (fby : Nat → Int32) (tspc : Nat) (ksp : Nat) (ftsp : Nat → Int32) (hkt : kt ≤ 240) (hks : ks ≤ 240) (hkn : kn ≤ 240) (hksp : ksp ≤ 120) : MIo l G K yX10_takesAll cX10_takesAll 3 (some .boolean) 14 0 0 [.ref h0, .int 3] [(h0, .inr (10, [.ref tby, .int (nI kt), .ref tln, .ref tsp, .int tkd, .int (nI ks), .int (nI kn), .int tf9])), (tby, .inl (G.2.1, 240, .inl fby)), (tsp, .inr (8, [.int 120, .int 1, .ref tspc, .int (nI ksp)])), (tspc, .inl (G.2.1, 120, .inl ftsp))] (fun (r : Int32) (u : Int32 × Nat × Nat × Int32 × Nat × (Nat → Int32)) => (r = 1 ∨ r = 0) ∧ (u.2.1 ≤ 240 ∧ u.2.2.1 ≤ 240 ∧ u.2.2.2.2.1 ≤ 120)) (fun u : Int32 × Nat × Nat × Int32 × Nat × (Nat → Int32) => [(h0, .inr (10, [.ref tby, .int (nI kt), .ref tln, .ref tsp, .int u.1, .int (nI u.2.1), .int (nI u.2.2.1), .int u.2.2.2.1])), (tby, .inl (G.2.1, 240, .inl fby)), (tsp, .inr (8, [.int 120, .int 1, .ref tspc, .int (nI u.2.2.2.2.1)])), (tspc, .inl (G.2.1, 120, .inl u.2.2.2.2.2))]) := by
  refine MIo.start (by decide +kernel) (Nat.le_of_ble_eq_true rfl) ?_
  intro p e s m below meth c A ls hC hK hP hD hS hA hl hO
  have hl : lv_has ls 3 [(0, .ref h0), (1, .int 3)] := hl
  obtain ⟨hx, hb, hr, hml, hB, hown, hlocks, hnm⟩ := id hC
  refine lv_aload_n hx hb dX10_takesAll_0 rfl (lv_at hl 0 rfl) ?_
  refine lv_iload_n hx hb dX10_takesAll_1 rfl (lv_at hl 1 rfl) ?_
  refine iVo (wr := []) hO hC hK hl hP hD hS hA (t_one3 l G K h0 tby kt tln tsp tkd ks kn tf9 fby tspc ksp ftsp (by omega) (by omega) (by omega) (by omega)) si_X10_155 [0, 1, 2, 3] [] rfl rfl (by decide) rfl (by decide) (by decide) rfl rfl rfl rfl rfl (Nat.le_of_ble_eq_true rfl) ⟨Nat.le_of_ble_eq_true rfl, Nat.le_of_ble_eq_true rfl⟩ ⟨Nat.le_of_ble_eq_true rfl, Nat.le_of_ble_eq_true rfl⟩ dX10_takesAll_2 (fun r3198 u3199 H locs hr3198 hP hD hS => ?_)
  obtain ⟨kd13200, ks13201, kn13202, tf13203, ksp13204, gtsp3205⟩ := u3199
  try dsimp only at hr3198
  have hP : va_P G.1 vwCl [(h0, .inr (10, [.ref tby, .int (nI kt), .ref tln, .ref tsp, .int kd13200, .int (nI ks13201), .int (nI kn13202), .int tf13203])), (tby, .inl (G.2.1, 240, .inl fby)), (tsp, .inr (8, [.int 120, .int 1, .ref tspc, .int (nI ksp13204)])), (tspc, .inl (G.2.1, 120, .inl gtsp3205))] H := hP
  have hD : va_D A [(h0, .inr (10, [.ref tby, .int (nI kt), .ref tln, .ref tsp, .int kd13200, .int (nI ks13201), .int (nI kn13202), .int tf13203])), (tby, .inl (G.2.1, 240, .inl fby)), (tsp, .inr (8, [.int 120, .int 1, .ref tspc, .int (nI ksp13204)])), (tspc, .inl (G.2.1, 120, .inl gtsp3205))] := hD
  obtain ⟨hr3198, w3206⟩ := hr3198
  rcases hr3198 with rfl | rfl
  · refine lv_if_ne (tgt := 10) hx hb dX10_takesAll_5 (by decide) (fun _ => ?_) (fun c9 => absurd c9 (by decide))
    refine lv_iconst (v := 0) hx hb dX10_takesAll_10 (by decide) ?_
    refine lv_istore_n (lv' := [(2, .int 0), (0, .ref h0), (1, .int 3)]) hx hb dX10_takesAll_11 rfl hl (by decide) rfl (fun ls hl => ?_)
    have keyP : ∀ (nP kP : Nat) (vkd : Int32) (vtf : Int32) (vtsp : Nat → Int32) (vks : Nat) (vkn : Nat) (vksp : Nat) (H : Heap) (locs : List Loc) (ls : Array Slot), kP + nP = 240 → (vks ≤ 240) → (vkn ≤ 240) → (vksp ≤ 120) → va_P G.1 vwCl [(h0, .inr (10, [.ref tby, .int (nI kt), .ref tln, .ref tsp, .int vkd, .int (nI vks), .int (nI vkn), .int vtf])), (tby, .inl (G.2.1, 240, .inl fby)), (tsp, .inr (8, [.int 120, .int 1, .ref tspc, .int (nI vksp)])), (tspc, .inl (G.2.1, 120, .inl vtsp))] H → va_D A [(h0, .inr (10, [.ref tby, .int (nI kt), .ref tln, .ref tsp, .int vkd, .int (nI vks), .int (nI vkn), .int vtf])), (tby, .inl (G.2.1, 240, .inl fby)), (tsp, .inr (8, [.int 120, .int 1, .ref tspc, .int (nI vksp)])), (tspc, .inl (G.2.1, 120, .inl vtsp))] → va_S A s.heap H locs → lv_has ls 3 [(2, .int (nI kP)), (0, .ref h0), (1, .int 3)] → W p l e (RM 14 0 0) s m ([.ref h0, .int 3] : List Value).toArray below meth c H locs 0 0 (MQ below (QI G (fun (r : Int32) (u : Int32 × Nat × Nat × Int32 × Nat × (Nat → Int32)) => (r = 1 ∨ r = 0) ∧ (u.2.1 ≤ 240 ∧ u.2.2.1 ≤ 240 ∧ u.2.2.2.2.1 ≤ 120)) (fun u : Int32 × Nat × Nat × Int32 × Nat × (Nat → Int32) => [(h0, .inr (10, [.ref tby, .int (nI kt), .ref tln, .ref tsp, .int u.1, .int (nI u.2.1), .int (nI u.2.2.1), .int u.2.2.2.1])), (tby, .inl (G.2.1, 240, .inl fby)), (tsp, .inr (8, [.int 120, .int 1, .ref tspc, .int (nI u.2.2.2.2.1)])), (tspc, .inl (G.2.1, 120, .inl u.2.2.2.2.2))]) A) ([.ref h0, .int 3] : List Value).toArray s 0 0 A) (F0 m 12 ls []) := by
      intro nP
      induction nP with
      | zero =>
        intro kP vkd vtf vtsp vks vkn vksp H locs ls hkP hvks hvkn hvksp hP hD hS hl
        obtain rfl : 240 = kP := by omega
        have hl : lv_has ls 3 [(2, .int 240), (0, .ref h0), (1, .int 3)] := hl
        refine lv_iload_n hx hb dX10_takesAll_12 rfl (lv_at hl 0 rfl) ?_
        refine lv_sipush (v := 240) hx hb dX10_takesAll_13 (by decide) ?_
        refine lv_icmp_ge (tgt := 54) hx hb dX10_takesAll_16 (by decide) (fun _ => ?_) (fun c9 => absurd (by decide) c9)
        refine lv_iconst (v := 1) hx hb dX10_takesAll_54 (by decide) ?_
        exact RI (v := 1) hC hP hD hS [0, 1, 2, 3] (vkd, vks, vkn, vtf, vksp, vtsp) rfl rfl (by decide) (⟨Or.inl (rfl), by dsimp only; omega⟩) (by decide +kernel) dX10_takesAll_55
      | succ nP ihP =>
        intro kP vkd vtf vtsp vks vkn vksp H locs ls hkP hvks hvkn hvksp hP hD hS hl
        refine lv_iload_n hx hb dX10_takesAll_12 rfl (lv_at hl 0 rfl) ?_
        refine lv_sipush (v := 240) hx hb dX10_takesAll_13 (by decide) ?_
        refine lv_icmp_ge (tgt := 54) hx hb dX10_takesAll_16 (by decide) (fun c9 => absurd c9 (nI_ge (a := kP) (b := 240) (by omega) (by omega))) (fun _ => ?_)
        refine lv_aload_n hx hb dX10_takesAll_19 rfl (lv_at hl 1 rfl) ?_
        refine va_ldcS (index := 158) (tx := "and") hx hb hown (hO.2.1 9 (by decide)) dX10_takesAll_20 ?_
        refine pVo hO hS hC hK hl hP hD (t_isName l G K 9 h0 tby kt tln tsp vkd vks vkn vtf fby (by omega) (by omega) (by omega) ((by decide))) si_X10_102 [0, 1] rfl rfl (by decide) rfl rfl rfl rfl rfl (Nat.le_of_ble_eq_true rfl) ⟨Nat.le_of_ble_eq_true rfl, Nat.le_of_ble_eq_true rfl⟩ ⟨by first | exact Nat.le_of_ble_eq_true rfl | exact Nat.zero_le _, by first | exact Nat.le_of_ble_eq_true rfl | exact Nat.zero_le _⟩ dX10_takesAll_22 (fun r3208 hr3208 => ?_)
        rcases hr3208 with rfl | rfl
        · refine lv_if_eq (tgt := 54) hx hb dX10_takesAll_25 (by decide) (fun c9 => absurd c9 (by decide)) (fun _ => ?_)
          refine lv_aload_n hx hb dX10_takesAll_28 rfl (lv_at hl 1 rfl) ?_
          refine vV (wr := [(tsp, .inr (8, [.int 120, .int 1, .ref tspc, .int (nI vksp)])), (tspc, .inl (G.2.1, 120, .inl vtsp))]) hC hK hl hP hD hS hA (t_advance l G h0 tby kt tln tsp vkd vks vkn vtf fby (by omega) (by omega) (by omega)) si_X10_47 [0, 1] [2, 3] rfl rfl (by decide) rfl (by decide) (by decide) rfl rfl rfl rfl rfl (Nat.le_of_ble_eq_true rfl) ⟨Nat.le_of_ble_eq_true rfl, Nat.le_of_ble_eq_true rfl⟩ ⟨Nat.le_of_ble_eq_true rfl, Nat.le_of_ble_eq_true rfl⟩ dX10_takesAll_29 (fun u3211 H locs hr3210 hP hD hS => ?_)
          obtain ⟨kd13212, ks13213, kn13214⟩ := u3211
          try dsimp only at hr3210
          have hP : va_P G.1 vwCl [(tsp, .inr (8, [.int 120, .int 1, .ref tspc, .int (nI vksp)])), (tspc, .inl (G.2.1, 120, .inl vtsp)), (h0, .inr (10, [.ref tby, .int (nI kt), .ref tln, .ref tsp, .int kd13212, .int (nI ks13213), .int (nI kn13214), .int vtf])), (tby, .inl (G.2.1, 240, .inl fby))] H := hP
          have hD : va_D A [(tsp, .inr (8, [.int 120, .int 1, .ref tspc, .int (nI vksp)])), (tspc, .inl (G.2.1, 120, .inl vtsp)), (h0, .inr (10, [.ref tby, .int (nI kt), .ref tln, .ref tsp, .int kd13212, .int (nI ks13213), .int (nI kn13214), .int vtf])), (tby, .inl (G.2.1, 240, .inl fby))] := hD
          have w3215 := hr3210
          refine lv_aload_n hx hb dX10_takesAll_32 rfl (lv_at hl 1 rfl) ?_
          refine lv_iload_n hx hb dX10_takesAll_33 rfl (lv_at hl 2 rfl) ?_
          refine iVo (wr := []) hO hC hK hl hP hD hS hA (t_one3 l G K h0 tby kt tln tsp kd13212 ks13213 kn13214 vtf fby tspc vksp vtsp (by omega) (by omega) (by omega) (by omega)) si_X10_155 [2, 3, 0, 1] [] rfl rfl (by decide) rfl (by decide) (by decide) rfl rfl rfl rfl rfl (Nat.le_of_ble_eq_true rfl) ⟨Nat.le_of_ble_eq_true rfl, Nat.le_of_ble_eq_true rfl⟩ ⟨Nat.le_of_ble_eq_true rfl, Nat.le_of_ble_eq_true rfl⟩ dX10_takesAll_34 (fun r3216 u3217 H locs hr3216 hP hD hS => ?_)
          obtain ⟨kd13218, ks13219, kn13220, tf13221, ksp13222, gtsp3223⟩ := u3217
          try dsimp only at hr3216
          have hP : va_P G.1 vwCl [(h0, .inr (10, [.ref tby, .int (nI kt), .ref tln, .ref tsp, .int kd13218, .int (nI ks13219), .int (nI kn13220), .int tf13221])), (tby, .inl (G.2.1, 240, .inl fby)), (tsp, .inr (8, [.int 120, .int 1, .ref tspc, .int (nI ksp13222)])), (tspc, .inl (G.2.1, 120, .inl gtsp3223))] H := hP
          have hD : va_D A [(h0, .inr (10, [.ref tby, .int (nI kt), .ref tln, .ref tsp, .int kd13218, .int (nI ks13219), .int (nI kn13220), .int tf13221])), (tby, .inl (G.2.1, 240, .inl fby)), (tsp, .inr (8, [.int 120, .int 1, .ref tspc, .int (nI ksp13222)])), (tspc, .inl (G.2.1, 120, .inl gtsp3223))] := hD
          obtain ⟨hr3216, w3224⟩ := hr3216
          rcases hr3216 with rfl | rfl
          · refine lv_if_ne (tgt := 42) hx hb dX10_takesAll_37 (by decide) (fun _ => ?_) (fun c9 => absurd c9 (by decide))
            refine lv_aload_n hx hb dX10_takesAll_42 rfl (lv_at hl 1 rfl) ?_
            refine lv_bipush (v := (-2)) hx hb dX10_takesAll_43 (by decide) ?_
            refine vV (wr := [(tby, .inl (G.2.1, 240, .inl fby))]) hC hK hl hP hD hS hA (t_addStep l G h0 (-2) tby kt tln tsp kd13218 ks13219 kn13220 tf13221 tspc ksp13222 gtsp3223 (by omega)) si_X10_152 [0, 2, 3] [1] rfl rfl (by decide) rfl (by decide) (by decide) rfl rfl rfl rfl rfl (Nat.le_of_ble_eq_true rfl) ⟨Nat.le_of_ble_eq_true rfl, Nat.le_of_ble_eq_true rfl⟩ ⟨Nat.le_of_ble_eq_true rfl, Nat.le_of_ble_eq_true rfl⟩ dX10_takesAll_45 (fun u3227 H locs hr3226 hP hD hS => ?_)
            obtain ⟨ksp13228, gtsp3229⟩ := u3227
            try dsimp only at hr3226
            have hP : va_P G.1 vwCl [(tby, .inl (G.2.1, 240, .inl fby)), (h0, .inr (10, [.ref tby, .int (nI kt), .ref tln, .ref tsp, .int kd13218, .int (nI ks13219), .int (nI kn13220), .int tf13221])), (tsp, .inr (8, [.int 120, .int 1, .ref tspc, .int (nI ksp13228)])), (tspc, .inl (G.2.1, 120, .inl gtsp3229))] H := hP
            have hD : va_D A [(tby, .inl (G.2.1, 240, .inl fby)), (h0, .inr (10, [.ref tby, .int (nI kt), .ref tln, .ref tsp, .int kd13218, .int (nI ks13219), .int (nI kn13220), .int tf13221])), (tsp, .inr (8, [.int 120, .int 1, .ref tspc, .int (nI ksp13228)])), (tspc, .inl (G.2.1, 120, .inl gtsp3229))] := hD
            have w3230 := hr3226
            refine lv_iinc (v := nI (kP + 1)) (lv' := [(2, .int (nI (kP + 1))), (0, .ref h0), (1, .int 3)]) hx hb dX10_takesAll_48 hl (k := 0) rfl (nI_1 _) (by decide) rfl (fun ls hl => ?_)
            refine lv_goto (tgt := 12) hx hb dX10_takesAll_51 (by decide) ?_
            have hP := hP.sub (ws' := [(h0, .inr (10, [.ref tby, .int (nI kt), .ref tln, .ref tsp, .int kd13218, .int (nI ks13219), .int (nI kn13220), .int tf13221])), (tby, .inl (G.2.1, 240, .inl fby)), (tsp, .inr (8, [.int 120, .int 1, .ref tspc, .int (nI ksp13228)])), (tspc, .inl (G.2.1, 120, .inl gtsp3229))]) [1, 0, 2, 3] rfl
            have hD := hD.sub (ws' := [(h0, .inr (10, [.ref tby, .int (nI kt), .ref tln, .ref tsp, .int kd13218, .int (nI ks13219), .int (nI kn13220), .int tf13221])), (tby, .inl (G.2.1, 240, .inl fby)), (tsp, .inr (8, [.int 120, .int 1, .ref tspc, .int (nI ksp13228)])), (tspc, .inl (G.2.1, 120, .inl gtsp3229))]) [1, 0, 2, 3] (by decide) rfl
            exact ihP (kP + 1) kd13218 tf13221 gtsp3229 ks13219 kn13220 ksp13228 _ _ _ (by omega) (by first | assumption | exact Or.inl rfl | exact Or.inr rfl | omega) (by first | assumption | exact Or.inl rfl | exact Or.inr rfl | omega) (by first | assumption | exact Or.inl rfl | exact Or.inr rfl | omega) hP hD hS (lv_sub hl [0, 1, 2] rfl)
          · refine lv_if_ne (tgt := 42) hx hb dX10_takesAll_37 (by decide) (fun c9 => absurd (by decide) c9) (fun _ => ?_)
            refine lv_iconst (v := 0) hx hb dX10_takesAll_40 (by decide) ?_
            exact RI (v := 0) hC hP hD hS [0, 1, 2, 3] (kd13218, ks13219, kn13220, tf13221, ksp13222, gtsp3223) rfl rfl (by decide) (⟨Or.inr (rfl), by dsimp only; omega⟩) (by decide +kernel) dX10_takesAll_41
        · refine lv_if_eq (tgt := 54) hx hb dX10_takesAll_25 (by decide) (fun _ => ?_) (fun c9 => absurd (by decide) c9)
          refine lv_iconst (v := 1) hx hb dX10_takesAll_54 (by decide) ?_
          exact RI (v := 1) hC hP hD hS [0, 1, 2, 3] (vkd, vks, vkn, vtf, vksp, vtsp) rfl rfl (by decide) (⟨Or.inl (rfl), by dsimp only; omega⟩) (by decide +kernel) dX10_takesAll_55
    exact keyP 240 0 kd13200 tf13203 gtsp3205 ks13201 kn13202 ksp13204 _ _ _ (by omega) (by first | assumption | exact Or.inl rfl | exact Or.inr rfl | omega) (by first | assumption | exact Or.inl rfl | exact Or.inr rfl | omega) (by first | assumption | exact Or.inl rfl | exact Or.inr rfl | omega) hP hD hS (lv_sub hl [0, 1, 2] rfl)
  · refine lv_if_ne (tgt := 10) hx hb dX10_takesAll_5 (by decide) (fun c9 => absurd (by decide) c9) (fun _ => ?_)
    refine lv_iconst (v := 0) hx hb dX10_takesAll_8 (by decide) ?_
    exact RI (v := 0) hC hP hD hS [0, 1, 2, 3] (kd13200, ks13201, kn13202, tf13203, ksp13204, gtsp3205) rfl rfl (by decide) (⟨Or.inr (rfl), by dsimp only; omega⟩) (by decide +kernel) dX10_takesAll_9
set_option maxHeartbeats 4000000 in
set_option maxRecDepth 100000 in
theorem t_cond3 (l : Launch) (G : GG) (K : OO) (h0 : Nat) (tby : Nat) (kt : Nat) (tln : Nat) (tsp : Nat) (tkd : Int32) (ks : Nat) (kn : Nat) (tf9 : Int32) (fby : Nat → Int32) (tspc : Nat) (ksp : Nat) (ftsp : Nat → Int32) (hkt : kt ≤ 240) (hks : ks ≤ 240) (hkn : kn ≤ 240) (hksp : ksp ≤ 120) : MIo l G K yX10_takesCond cX10_takesCond 3 (some .boolean) 15 0 0 [.ref h0, .int 3] [(h0, .inr (10, [.ref tby, .int (nI kt), .ref tln, .ref tsp, .int tkd, .int (nI ks), .int (nI kn), .int tf9])), (tby, .inl (G.2.1, 240, .inl fby)), (tsp, .inr (8, [.int 120, .int 1, .ref tspc, .int (nI ksp)])), (tspc, .inl (G.2.1, 120, .inl ftsp))] (fun (r : Int32) (u : Int32 × Nat × Nat × Int32 × Nat × (Nat → Int32)) => (r = 1 ∨ r = 0) ∧ (u.2.1 ≤ 240 ∧ u.2.2.1 ≤ 240 ∧ u.2.2.2.2.1 ≤ 120)) (fun u : Int32 × Nat × Nat × Int32 × Nat × (Nat → Int32) => [(h0, .inr (10, [.ref tby, .int (nI kt), .ref tln, .ref tsp, .int u.1, .int (nI u.2.1), .int (nI u.2.2.1), .int u.2.2.2.1])), (tby, .inl (G.2.1, 240, .inl fby)), (tsp, .inr (8, [.int 120, .int 1, .ref tspc, .int (nI u.2.2.2.2.1)])), (tspc, .inl (G.2.1, 120, .inl u.2.2.2.2.2))]) := by
  refine MIo.start (by decide +kernel) (Nat.le_of_ble_eq_true rfl) ?_
  intro p e s m below meth c A ls hC hK hP hD hS hA hl hO
  have hl : lv_has ls 3 [(0, .ref h0), (1, .int 3)] := hl
  obtain ⟨hx, hb, hr, hml, hB, hown, hlocks, hnm⟩ := id hC
  refine lv_aload_n hx hb dX10_takesCond_0 rfl (lv_at hl 0 rfl) ?_
  refine lv_iload_n hx hb dX10_takesCond_1 rfl (lv_at hl 1 rfl) ?_
  refine iVo (wr := []) hO hC hK hl hP hD hS hA (t_all3 l G K h0 tby kt tln tsp tkd ks kn tf9 fby tspc ksp ftsp (by omega) (by omega) (by omega) (by omega)) si_X10_147 [0, 1, 2, 3] [] rfl rfl (by decide) rfl (by decide) (by decide) rfl rfl rfl rfl rfl (Nat.le_of_ble_eq_true rfl) ⟨Nat.le_of_ble_eq_true rfl, Nat.le_of_ble_eq_true rfl⟩ ⟨Nat.le_of_ble_eq_true rfl, Nat.le_of_ble_eq_true rfl⟩ dX10_takesCond_2 (fun r3231 u3232 H locs hr3231 hP hD hS => ?_)
  obtain ⟨kd13233, ks13234, kn13235, tf13236, ksp13237, gtsp3238⟩ := u3232
  try dsimp only at hr3231
  have hP : va_P G.1 vwCl [(h0, .inr (10, [.ref tby, .int (nI kt), .ref tln, .ref tsp, .int kd13233, .int (nI ks13234), .int (nI kn13235), .int tf13236])), (tby, .inl (G.2.1, 240, .inl fby)), (tsp, .inr (8, [.int 120, .int 1, .ref tspc, .int (nI ksp13237)])), (tspc, .inl (G.2.1, 120, .inl gtsp3238))] H := hP
  have hD : va_D A [(h0, .inr (10, [.ref tby, .int (nI kt), .ref tln, .ref tsp, .int kd13233, .int (nI ks13234), .int (nI kn13235), .int tf13236])), (tby, .inl (G.2.1, 240, .inl fby)), (tsp, .inr (8, [.int 120, .int 1, .ref tspc, .int (nI ksp13237)])), (tspc, .inl (G.2.1, 120, .inl gtsp3238))] := hD
  obtain ⟨hr3231, w3239⟩ := hr3231
  rcases hr3231 with rfl | rfl
  · refine lv_if_ne (tgt := 10) hx hb dX10_takesCond_5 (by decide) (fun _ => ?_) (fun c9 => absurd c9 (by decide))
    refine lv_iconst (v := 0) hx hb dX10_takesCond_10 (by decide) ?_
    refine lv_istore_n (lv' := [(2, .int 0), (0, .ref h0), (1, .int 3)]) hx hb dX10_takesCond_11 rfl hl (by decide) rfl (fun ls hl => ?_)
    have keyP : ∀ (nP kP : Nat) (vkd : Int32) (vtf : Int32) (vtsp : Nat → Int32) (vks : Nat) (vkn : Nat) (vksp : Nat) (H : Heap) (locs : List Loc) (ls : Array Slot), kP + nP = 240 → (vks ≤ 240) → (vkn ≤ 240) → (vksp ≤ 120) → va_P G.1 vwCl [(h0, .inr (10, [.ref tby, .int (nI kt), .ref tln, .ref tsp, .int vkd, .int (nI vks), .int (nI vkn), .int vtf])), (tby, .inl (G.2.1, 240, .inl fby)), (tsp, .inr (8, [.int 120, .int 1, .ref tspc, .int (nI vksp)])), (tspc, .inl (G.2.1, 120, .inl vtsp))] H → va_D A [(h0, .inr (10, [.ref tby, .int (nI kt), .ref tln, .ref tsp, .int vkd, .int (nI vks), .int (nI vkn), .int vtf])), (tby, .inl (G.2.1, 240, .inl fby)), (tsp, .inr (8, [.int 120, .int 1, .ref tspc, .int (nI vksp)])), (tspc, .inl (G.2.1, 120, .inl vtsp))] → va_S A s.heap H locs → lv_has ls 3 [(2, .int (nI kP)), (0, .ref h0), (1, .int 3)] → W p l e (RM 15 0 0) s m ([.ref h0, .int 3] : List Value).toArray below meth c H locs 0 0 (MQ below (QI G (fun (r : Int32) (u : Int32 × Nat × Nat × Int32 × Nat × (Nat → Int32)) => (r = 1 ∨ r = 0) ∧ (u.2.1 ≤ 240 ∧ u.2.2.1 ≤ 240 ∧ u.2.2.2.2.1 ≤ 120)) (fun u : Int32 × Nat × Nat × Int32 × Nat × (Nat → Int32) => [(h0, .inr (10, [.ref tby, .int (nI kt), .ref tln, .ref tsp, .int u.1, .int (nI u.2.1), .int (nI u.2.2.1), .int u.2.2.2.1])), (tby, .inl (G.2.1, 240, .inl fby)), (tsp, .inr (8, [.int 120, .int 1, .ref tspc, .int (nI u.2.2.2.2.1)])), (tspc, .inl (G.2.1, 120, .inl u.2.2.2.2.2))]) A) ([.ref h0, .int 3] : List Value).toArray s 0 0 A) (F0 m 12 ls []) := by
      intro nP
      induction nP with
      | zero =>
        intro kP vkd vtf vtsp vks vkn vksp H locs ls hkP hvks hvkn hvksp hP hD hS hl
        obtain rfl : 240 = kP := by omega
        have hl : lv_has ls 3 [(2, .int 240), (0, .ref h0), (1, .int 3)] := hl
        refine lv_iload_n hx hb dX10_takesCond_12 rfl (lv_at hl 0 rfl) ?_
        refine lv_sipush (v := 240) hx hb dX10_takesCond_13 (by decide) ?_
        refine lv_icmp_ge (tgt := 54) hx hb dX10_takesCond_16 (by decide) (fun _ => ?_) (fun c9 => absurd (by decide) c9)
        refine lv_iconst (v := 1) hx hb dX10_takesCond_54 (by decide) ?_
        exact RI (v := 1) hC hP hD hS [0, 1, 2, 3] (vkd, vks, vkn, vtf, vksp, vtsp) rfl rfl (by decide) (⟨Or.inl (rfl), by dsimp only; omega⟩) (by decide +kernel) dX10_takesCond_55
      | succ nP ihP =>
        intro kP vkd vtf vtsp vks vkn vksp H locs ls hkP hvks hvkn hvksp hP hD hS hl
        refine lv_iload_n hx hb dX10_takesCond_12 rfl (lv_at hl 0 rfl) ?_
        refine lv_sipush (v := 240) hx hb dX10_takesCond_13 (by decide) ?_
        refine lv_icmp_ge (tgt := 54) hx hb dX10_takesCond_16 (by decide) (fun c9 => absurd c9 (nI_ge (a := kP) (b := 240) (by omega) (by omega))) (fun _ => ?_)
        refine lv_aload_n hx hb dX10_takesCond_19 rfl (lv_at hl 1 rfl) ?_
        refine va_ldcS (index := 150) (tx := "o\x72") hx hb hown (hO.2.1 8 (by decide)) dX10_takesCond_20 ?_
        refine pVo hO hS hC hK hl hP hD (t_isName l G K 8 h0 tby kt tln tsp vkd vks vkn vtf fby (by omega) (by omega) (by omega) ((by decide))) si_X10_102 [0, 1] rfl rfl (by decide) rfl rfl rfl rfl rfl (Nat.le_of_ble_eq_true rfl) ⟨Nat.le_of_ble_eq_true rfl, Nat.le_of_ble_eq_true rfl⟩ ⟨by first | exact Nat.le_of_ble_eq_true rfl | exact Nat.zero_le _, by first | exact Nat.le_of_ble_eq_true rfl | exact Nat.zero_le _⟩ dX10_takesCond_22 (fun r3241 hr3241 => ?_)
        rcases hr3241 with rfl | rfl
        · refine lv_if_eq (tgt := 54) hx hb dX10_takesCond_25 (by decide) (fun c9 => absurd c9 (by decide)) (fun _ => ?_)
          refine lv_aload_n hx hb dX10_takesCond_28 rfl (lv_at hl 1 rfl) ?_
          refine vV (wr := [(tsp, .inr (8, [.int 120, .int 1, .ref tspc, .int (nI vksp)])), (tspc, .inl (G.2.1, 120, .inl vtsp))]) hC hK hl hP hD hS hA (t_advance l G h0 tby kt tln tsp vkd vks vkn vtf fby (by omega) (by omega) (by omega)) si_X10_47 [0, 1] [2, 3] rfl rfl (by decide) rfl (by decide) (by decide) rfl rfl rfl rfl rfl (Nat.le_of_ble_eq_true rfl) ⟨Nat.le_of_ble_eq_true rfl, Nat.le_of_ble_eq_true rfl⟩ ⟨Nat.le_of_ble_eq_true rfl, Nat.le_of_ble_eq_true rfl⟩ dX10_takesCond_29 (fun u3244 H locs hr3243 hP hD hS => ?_)
          obtain ⟨kd13245, ks13246, kn13247⟩ := u3244
          try dsimp only at hr3243
          have hP : va_P G.1 vwCl [(tsp, .inr (8, [.int 120, .int 1, .ref tspc, .int (nI vksp)])), (tspc, .inl (G.2.1, 120, .inl vtsp)), (h0, .inr (10, [.ref tby, .int (nI kt), .ref tln, .ref tsp, .int kd13245, .int (nI ks13246), .int (nI kn13247), .int vtf])), (tby, .inl (G.2.1, 240, .inl fby))] H := hP
          have hD : va_D A [(tsp, .inr (8, [.int 120, .int 1, .ref tspc, .int (nI vksp)])), (tspc, .inl (G.2.1, 120, .inl vtsp)), (h0, .inr (10, [.ref tby, .int (nI kt), .ref tln, .ref tsp, .int kd13245, .int (nI ks13246), .int (nI kn13247), .int vtf])), (tby, .inl (G.2.1, 240, .inl fby))] := hD
          have w3248 := hr3243
          refine lv_aload_n hx hb dX10_takesCond_32 rfl (lv_at hl 1 rfl) ?_
          refine lv_iload_n hx hb dX10_takesCond_33 rfl (lv_at hl 2 rfl) ?_
          refine iVo (wr := []) hO hC hK hl hP hD hS hA (t_all3 l G K h0 tby kt tln tsp kd13245 ks13246 kn13247 vtf fby tspc vksp vtsp (by omega) (by omega) (by omega) (by omega)) si_X10_147 [2, 3, 0, 1] [] rfl rfl (by decide) rfl (by decide) (by decide) rfl rfl rfl rfl rfl (Nat.le_of_ble_eq_true rfl) ⟨Nat.le_of_ble_eq_true rfl, Nat.le_of_ble_eq_true rfl⟩ ⟨Nat.le_of_ble_eq_true rfl, Nat.le_of_ble_eq_true rfl⟩ dX10_takesCond_34 (fun r3249 u3250 H locs hr3249 hP hD hS => ?_)
          obtain ⟨kd13251, ks13252, kn13253, tf13254, ksp13255, gtsp3256⟩ := u3250
          try dsimp only at hr3249
          have hP : va_P G.1 vwCl [(h0, .inr (10, [.ref tby, .int (nI kt), .ref tln, .ref tsp, .int kd13251, .int (nI ks13252), .int (nI kn13253), .int tf13254])), (tby, .inl (G.2.1, 240, .inl fby)), (tsp, .inr (8, [.int 120, .int 1, .ref tspc, .int (nI ksp13255)])), (tspc, .inl (G.2.1, 120, .inl gtsp3256))] H := hP
          have hD : va_D A [(h0, .inr (10, [.ref tby, .int (nI kt), .ref tln, .ref tsp, .int kd13251, .int (nI ks13252), .int (nI kn13253), .int tf13254])), (tby, .inl (G.2.1, 240, .inl fby)), (tsp, .inr (8, [.int 120, .int 1, .ref tspc, .int (nI ksp13255)])), (tspc, .inl (G.2.1, 120, .inl gtsp3256))] := hD
          obtain ⟨hr3249, w3257⟩ := hr3249
          rcases hr3249 with rfl | rfl
          · refine lv_if_ne (tgt := 42) hx hb dX10_takesCond_37 (by decide) (fun _ => ?_) (fun c9 => absurd c9 (by decide))
            refine lv_aload_n hx hb dX10_takesCond_42 rfl (lv_at hl 1 rfl) ?_
            refine lv_bipush (v := (-3)) hx hb dX10_takesCond_43 (by decide) ?_
            refine vV (wr := [(tby, .inl (G.2.1, 240, .inl fby))]) hC hK hl hP hD hS hA (t_addStep l G h0 (-3) tby kt tln tsp kd13251 ks13252 kn13253 tf13254 tspc ksp13255 gtsp3256 (by omega)) si_X10_152 [0, 2, 3] [1] rfl rfl (by decide) rfl (by decide) (by decide) rfl rfl rfl rfl rfl (Nat.le_of_ble_eq_true rfl) ⟨Nat.le_of_ble_eq_true rfl, Nat.le_of_ble_eq_true rfl⟩ ⟨Nat.le_of_ble_eq_true rfl, Nat.le_of_ble_eq_true rfl⟩ dX10_takesCond_45 (fun u3260 H locs hr3259 hP hD hS => ?_)
            obtain ⟨ksp13261, gtsp3262⟩ := u3260
            try dsimp only at hr3259
            have hP : va_P G.1 vwCl [(tby, .inl (G.2.1, 240, .inl fby)), (h0, .inr (10, [.ref tby, .int (nI kt), .ref tln, .ref tsp, .int kd13251, .int (nI ks13252), .int (nI kn13253), .int tf13254])), (tsp, .inr (8, [.int 120, .int 1, .ref tspc, .int (nI ksp13261)])), (tspc, .inl (G.2.1, 120, .inl gtsp3262))] H := hP
            have hD : va_D A [(tby, .inl (G.2.1, 240, .inl fby)), (h0, .inr (10, [.ref tby, .int (nI kt), .ref tln, .ref tsp, .int kd13251, .int (nI ks13252), .int (nI kn13253), .int tf13254])), (tsp, .inr (8, [.int 120, .int 1, .ref tspc, .int (nI ksp13261)])), (tspc, .inl (G.2.1, 120, .inl gtsp3262))] := hD
            have w3263 := hr3259
            refine lv_iinc (v := nI (kP + 1)) (lv' := [(2, .int (nI (kP + 1))), (0, .ref h0), (1, .int 3)]) hx hb dX10_takesCond_48 hl (k := 0) rfl (nI_1 _) (by decide) rfl (fun ls hl => ?_)
            refine lv_goto (tgt := 12) hx hb dX10_takesCond_51 (by decide) ?_
            have hP := hP.sub (ws' := [(h0, .inr (10, [.ref tby, .int (nI kt), .ref tln, .ref tsp, .int kd13251, .int (nI ks13252), .int (nI kn13253), .int tf13254])), (tby, .inl (G.2.1, 240, .inl fby)), (tsp, .inr (8, [.int 120, .int 1, .ref tspc, .int (nI ksp13261)])), (tspc, .inl (G.2.1, 120, .inl gtsp3262))]) [1, 0, 2, 3] rfl
            have hD := hD.sub (ws' := [(h0, .inr (10, [.ref tby, .int (nI kt), .ref tln, .ref tsp, .int kd13251, .int (nI ks13252), .int (nI kn13253), .int tf13254])), (tby, .inl (G.2.1, 240, .inl fby)), (tsp, .inr (8, [.int 120, .int 1, .ref tspc, .int (nI ksp13261)])), (tspc, .inl (G.2.1, 120, .inl gtsp3262))]) [1, 0, 2, 3] (by decide) rfl
            exact ihP (kP + 1) kd13251 tf13254 gtsp3262 ks13252 kn13253 ksp13261 _ _ _ (by omega) (by first | assumption | exact Or.inl rfl | exact Or.inr rfl | omega) (by first | assumption | exact Or.inl rfl | exact Or.inr rfl | omega) (by first | assumption | exact Or.inl rfl | exact Or.inr rfl | omega) hP hD hS (lv_sub hl [0, 1, 2] rfl)
          · refine lv_if_ne (tgt := 42) hx hb dX10_takesCond_37 (by decide) (fun c9 => absurd (by decide) c9) (fun _ => ?_)
            refine lv_iconst (v := 0) hx hb dX10_takesCond_40 (by decide) ?_
            exact RI (v := 0) hC hP hD hS [0, 1, 2, 3] (kd13251, ks13252, kn13253, tf13254, ksp13255, gtsp3256) rfl rfl (by decide) (⟨Or.inr (rfl), by dsimp only; omega⟩) (by decide +kernel) dX10_takesCond_41
        · refine lv_if_eq (tgt := 54) hx hb dX10_takesCond_25 (by decide) (fun _ => ?_) (fun c9 => absurd (by decide) c9)
          refine lv_iconst (v := 1) hx hb dX10_takesCond_54 (by decide) ?_
          exact RI (v := 1) hC hP hD hS [0, 1, 2, 3] (vkd, vks, vkn, vtf, vksp, vtsp) rfl rfl (by decide) (⟨Or.inl (rfl), by dsimp only; omega⟩) (by decide +kernel) dX10_takesCond_55
    exact keyP 240 0 kd13233 tf13236 gtsp3238 ks13234 kn13235 ksp13237 _ _ _ (by omega) (by first | assumption | exact Or.inl rfl | exact Or.inr rfl | omega) (by first | assumption | exact Or.inl rfl | exact Or.inr rfl | omega) (by first | assumption | exact Or.inl rfl | exact Or.inr rfl | omega) hP hD hS (lv_sub hl [0, 1, 2] rfl)
  · refine lv_if_ne (tgt := 10) hx hb dX10_takesCond_5 (by decide) (fun c9 => absurd (by decide) c9) (fun _ => ?_)
    refine lv_iconst (v := 0) hx hb dX10_takesCond_8 (by decide) ?_
    exact RI (v := 0) hC hP hD hS [0, 1, 2, 3] (kd13233, ks13234, kn13235, tf13236, ksp13237, gtsp3238) rfl rfl (by decide) (⟨Or.inr (rfl), by dsimp only; omega⟩) (by decide +kernel) dX10_takesCond_9
set_option maxHeartbeats 4000000 in
set_option maxRecDepth 100000 in
theorem t_one2 (l : Launch) (G : GG) (K : OO) (h0 : Nat) (tby : Nat) (kt : Nat) (tln : Nat) (tsp : Nat) (tkd : Int32) (ks : Nat) (kn : Nat) (tf9 : Int32) (fby : Nat → Int32) (tspc : Nat) (ksp : Nat) (ftsp : Nat → Int32) (hkt : kt ≤ 240) (hks : ks ≤ 240) (hkn : kn ≤ 240) (hksp : ksp ≤ 120) : MIo l G K yX10_takesOne cX10_takesOne 4 (some .boolean) 17 0 0 [.ref h0, .int 2] [(h0, .inr (10, [.ref tby, .int (nI kt), .ref tln, .ref tsp, .int tkd, .int (nI ks), .int (nI kn), .int tf9])), (tby, .inl (G.2.1, 240, .inl fby)), (tsp, .inr (8, [.int 120, .int 1, .ref tspc, .int (nI ksp)])), (tspc, .inl (G.2.1, 120, .inl ftsp))] (fun (r : Int32) (u : Int32 × Nat × Nat × Int32 × Nat × (Nat → Int32)) => (r = 1 ∨ r = 0) ∧ (u.2.1 ≤ 240 ∧ u.2.2.1 ≤ 240 ∧ u.2.2.2.2.1 ≤ 120)) (fun u : Int32 × Nat × Nat × Int32 × Nat × (Nat → Int32) => [(h0, .inr (10, [.ref tby, .int (nI kt), .ref tln, .ref tsp, .int u.1, .int (nI u.2.1), .int (nI u.2.2.1), .int u.2.2.2.1])), (tby, .inl (G.2.1, 240, .inl fby)), (tsp, .inr (8, [.int 120, .int 1, .ref tspc, .int (nI u.2.2.2.2.1)])), (tspc, .inl (G.2.1, 120, .inl u.2.2.2.2.2))]) := by
  refine MIo.start (by decide +kernel) (Nat.le_of_ble_eq_true rfl) ?_
  intro p e s m below meth c A ls hC hK hP hD hS hA hl hO
  have hl : lv_has ls 4 [(0, .ref h0), (1, .int 2)] := hl
  obtain ⟨hx, hb, hr, hml, hB, hown, hlocks, hnm⟩ := id hC
  refine lv_iconst (v := 0) hx hb dX10_takesOne_0 (by decide) ?_
  refine lv_istore_n (lv' := [(2, .int 0), (0, .ref h0), (1, .int 2)]) hx hb dX10_takesOne_1 rfl hl (by decide) rfl (fun ls hl => ?_)
  refine lv_iconst (v := 0) hx hb dX10_takesOne_2 (by decide) ?_
  refine lv_istore_n (lv' := [(3, .int 0), (2, .int 0), (0, .ref h0), (1, .int 2)]) hx hb dX10_takesOne_3 rfl hl (by decide) rfl (fun ls hl => ?_)
  have keyP : ∀ (nP kP : Nat) (tu : Int32) (vkd : Int32) (vtf : Int32) (vks : Nat) (vkn : Nat) (H : Heap) (locs : List Loc) (ls : Array Slot), kP + nP = 240 → (vks ≤ 240) → (vkn ≤ 240) → va_P G.1 vwCl [(h0, .inr (10, [.ref tby, .int (nI kt), .ref tln, .ref tsp, .int vkd, .int (nI vks), .int (nI vkn), .int vtf])), (tby, .inl (G.2.1, 240, .inl fby)), (tsp, .inr (8, [.int 120, .int 1, .ref tspc, .int (nI ksp)])), (tspc, .inl (G.2.1, 120, .inl ftsp))] H → va_D A [(h0, .inr (10, [.ref tby, .int (nI kt), .ref tln, .ref tsp, .int vkd, .int (nI vks), .int (nI vkn), .int vtf])), (tby, .inl (G.2.1, 240, .inl fby)), (tsp, .inr (8, [.int 120, .int 1, .ref tspc, .int (nI ksp)])), (tspc, .inl (G.2.1, 120, .inl ftsp))] → va_S A s.heap H locs → lv_has ls 4 [(3, .int (nI kP)), (2, .int tu), (0, .ref h0), (1, .int 2)] → W p l e (RM 17 0 0) s m ([.ref h0, .int 2] : List Value).toArray below meth c H locs 0 0 (MQ below (QI G (fun (r : Int32) (u : Int32 × Nat × Nat × Int32 × Nat × (Nat → Int32)) => (r = 1 ∨ r = 0) ∧ (u.2.1 ≤ 240 ∧ u.2.2.1 ≤ 240 ∧ u.2.2.2.2.1 ≤ 120)) (fun u : Int32 × Nat × Nat × Int32 × Nat × (Nat → Int32) => [(h0, .inr (10, [.ref tby, .int (nI kt), .ref tln, .ref tsp, .int u.1, .int (nI u.2.1), .int (nI u.2.2.1), .int u.2.2.2.1])), (tby, .inl (G.2.1, 240, .inl fby)), (tsp, .inr (8, [.int 120, .int 1, .ref tspc, .int (nI u.2.2.2.2.1)])), (tspc, .inl (G.2.1, 120, .inl u.2.2.2.2.2))]) A) ([.ref h0, .int 2] : List Value).toArray s 0 0 A) (F0 m 4 ls []) := by
    intro nP
    induction nP with
    | zero =>
      intro kP tu vkd vtf vks vkn H locs ls hkP hvks hvkn hP hD hS hl
      obtain rfl : 240 = kP := by omega
      have hl : lv_has ls 4 [(3, .int 240), (2, .int tu), (0, .ref h0), (1, .int 2)] := hl
      refine lv_iload_n hx hb dX10_takesOne_4 rfl (lv_at hl 0 rfl) ?_
      refine lv_sipush (v := 240) hx hb dX10_takesOne_5 (by decide) ?_
      refine lv_icmp_ge (tgt := 40) hx hb dX10_takesOne_8 (by decide) (fun _ => ?_) (fun c9 => absurd (by decide) c9)
      refine lv_aload_n hx hb dX10_takesOne_40 rfl (lv_at hl 2 rfl) ?_
      refine gf_X10_31 hC rfl hK hP 0 rfl rfl dX10_takesOne_41 ?_
      refine lv_bipush (v := 40) hx hb dX10_takesOne_44 (by decide) ?_
      refine lv_icmp_eq (tgt := 58) hx hb dX10_takesOne_46 (by decide) (fun c_46_3264 => ?_) (fun c_46_3264 => ?_)
      · refine lv_iload_n hx hb dX10_takesOne_58 rfl (lv_at hl 3 rfl) ?_
        refine lv_iconst (v := 4) hx hb dX10_takesOne_59 (by decide) ?_
        refine lv_icmp_lt (tgt := 68) hx hb dX10_takesOne_60 (by decide) (fun _ => ?_) (fun c9 => absurd (by decide) c9)
        refine lv_aload_n hx hb dX10_takesOne_68 rfl (lv_at hl 2 rfl) ?_
        refine vV (wr := [(tsp, .inr (8, [.int 120, .int 1, .ref tspc, .int (nI ksp)])), (tspc, .inl (G.2.1, 120, .inl ftsp))]) hC hK hl hP hD hS hA (t_advance l G h0 tby kt tln tsp vkd vks vkn vtf fby (by omega) (by omega) (by omega)) si_X10_47 [0, 1] [2, 3] rfl rfl (by decide) rfl (by decide) (by decide) rfl rfl rfl rfl rfl (Nat.le_of_ble_eq_true rfl) ⟨Nat.le_of_ble_eq_true rfl, Nat.le_of_ble_eq_true rfl⟩ ⟨Nat.le_of_ble_eq_true rfl, Nat.le_of_ble_eq_true rfl⟩ dX10_takesOne_69 (fun u3266 H locs hr3265 hP hD hS => ?_)
        obtain ⟨kd13267, ks13268, kn13269⟩ := u3266
        try dsimp only at hr3265
        have hP : va_P G.1 vwCl [(tsp, .inr (8, [.int 120, .int 1, .ref tspc, .int (nI ksp)])), (tspc, .inl (G.2.1, 120, .inl ftsp)), (h0, .inr (10, [.ref tby, .int (nI kt), .ref tln, .ref tsp, .int kd13267, .int (nI ks13268), .int (nI kn13269), .int vtf])), (tby, .inl (G.2.1, 240, .inl fby))] H := hP
        have hD : va_D A [(tsp, .inr (8, [.int 120, .int 1, .ref tspc, .int (nI ksp)])), (tspc, .inl (G.2.1, 120, .inl ftsp)), (h0, .inr (10, [.ref tby, .int (nI kt), .ref tln, .ref tsp, .int kd13267, .int (nI ks13268), .int (nI kn13269), .int vtf])), (tby, .inl (G.2.1, 240, .inl fby))] := hD
        have w3270 := hr3265
        refine lv_aload_n hx hb dX10_takesOne_72 rfl (lv_at hl 2 rfl) ?_
        refine lv_iload_n hx hb dX10_takesOne_73 rfl (lv_at hl 3 rfl) ?_
        refine lv_iconst (v := 1) hx hb dX10_takesOne_74 (by decide) ?_
        refine lv_iadd hx hb dX10_takesOne_75 ?_
        refine eqi (x1 := 3) (by decide) ?_
        refine iVo (wr := []) hO hC hK hl hP hD hS hA (t_cond3 l G K h0 tby kt tln tsp kd13267 ks13268 kn13269 vtf fby tspc ksp ftsp (by omega) (by omega) (by omega) (by omega)) si_X10_121 [2, 3, 0, 1] [] rfl rfl (by decide) rfl (by decide) (by decide) rfl rfl rfl rfl rfl (Nat.le_of_ble_eq_true rfl) ⟨Nat.le_of_ble_eq_true rfl, Nat.le_of_ble_eq_true rfl⟩ ⟨Nat.le_of_ble_eq_true rfl, Nat.le_of_ble_eq_true rfl⟩ dX10_takesOne_76 (fun r3271 u3272 H locs hr3271 hP hD hS => ?_)
        obtain ⟨kd13273, ks13274, kn13275, tf13276, ksp13277, gtsp3278⟩ := u3272
        try dsimp only at hr3271
        have hP : va_P G.1 vwCl [(h0, .inr (10, [.ref tby, .int (nI kt), .ref tln, .ref tsp, .int kd13273, .int (nI ks13274), .int (nI kn13275), .int tf13276])), (tby, .inl (G.2.1, 240, .inl fby)), (tsp, .inr (8, [.int 120, .int 1, .ref tspc, .int (nI ksp13277)])), (tspc, .inl (G.2.1, 120, .inl gtsp3278))] H := hP
        have hD : va_D A [(h0, .inr (10, [.ref tby, .int (nI kt), .ref tln, .ref tsp, .int kd13273, .int (nI ks13274), .int (nI kn13275), .int tf13276])), (tby, .inl (G.2.1, 240, .inl fby)), (tsp, .inr (8, [.int 120, .int 1, .ref tspc, .int (nI ksp13277)])), (tspc, .inl (G.2.1, 120, .inl gtsp3278))] := hD
        obtain ⟨hr3271, w3279⟩ := hr3271
        rcases hr3271 with rfl | rfl
        · refine lv_if_eq (tgt := 91) hx hb dX10_takesOne_79 (by decide) (fun c9 => absurd c9 (by decide)) (fun _ => ?_)
          refine lv_aload_n hx hb dX10_takesOne_82 rfl (lv_at hl 2 rfl) ?_
          refine lv_bipush (v := 41) hx hb dX10_takesOne_83 (by decide) ?_
          refine iV (wr := [(tsp, .inr (8, [.int 120, .int 1, .ref tspc, .int (nI ksp13277)])), (tspc, .inl (G.2.1, 120, .inl gtsp3278))]) hC hK hl hP hD hS hA (t_takesByte l G h0 41 tby kt tln tsp kd13273 ks13274 kn13275 tf13276 fby (by omega) (by omega) (by omega)) si_X10_124 [0, 1] [2, 3] rfl rfl (by decide) rfl (by decide) (by decide) rfl rfl rfl rfl rfl (Nat.le_of_ble_eq_true rfl) ⟨Nat.le_of_ble_eq_true rfl, Nat.le_of_ble_eq_true rfl⟩ ⟨Nat.le_of_ble_eq_true rfl, Nat.le_of_ble_eq_true rfl⟩ dX10_takesOne_85 (fun r3281 u3282 H locs hr3281 hP hD hS => ?_)
          obtain ⟨kd13283, ks13284, kn13285, tf13286⟩ := u3282
          try dsimp only at hr3281
          have hP : va_P G.1 vwCl [(tsp, .inr (8, [.int 120, .int 1, .ref tspc, .int (nI ksp13277)])), (tspc, .inl (G.2.1, 120, .inl gtsp3278)), (h0, .inr (10, [.ref tby, .int (nI kt), .ref tln, .ref tsp, .int kd13283, .int (nI ks13284), .int (nI kn13285), .int tf13286])), (tby, .inl (G.2.1, 240, .inl fby))] H := hP
          have hD : va_D A [(tsp, .inr (8, [.int 120, .int 1, .ref tspc, .int (nI ksp13277)])), (tspc, .inl (G.2.1, 120, .inl gtsp3278)), (h0, .inr (10, [.ref tby, .int (nI kt), .ref tln, .ref tsp, .int kd13283, .int (nI ks13284), .int (nI kn13285), .int tf13286])), (tby, .inl (G.2.1, 240, .inl fby))] := hD
          obtain ⟨hr3281, w3287⟩ := hr3281
          rcases hr3281 with rfl | rfl
          · refine lv_if_ne (tgt := 93) hx hb dX10_takesOne_88 (by decide) (fun _ => ?_) (fun c9 => absurd c9 (by decide))
            refine lv_iload_n hx hb dX10_takesOne_93 rfl (lv_at hl 1 rfl) ?_
            refine lv_if_eq (tgt := 102) hx hb dX10_takesOne_94 (by decide) (fun c_94_3289 => ?_) (fun c_94_3289 => ?_)
            · refine lv_iconst (v := 1) hx hb dX10_takesOne_102 (by decide) ?_
              exact RI (v := 1) hC hP hD hS [2, 3, 0, 1] (kd13283, ks13284, kn13285, tf13286, ksp13277, gtsp3278) rfl rfl (by decide) (⟨Or.inl (rfl), by dsimp only; omega⟩) (by decide +kernel) dX10_takesOne_103
            · refine lv_aload_n hx hb dX10_takesOne_97 rfl (lv_at hl 2 rfl) ?_
              refine lv_iconst (v := (-1)) hx hb dX10_takesOne_98 (by decide) ?_
              refine vV (wr := [(tby, .inl (G.2.1, 240, .inl fby))]) hC hK hl hP hD hS hA (t_addStep l G h0 (-1) tby kt tln tsp kd13283 ks13284 kn13285 tf13286 tspc ksp13277 gtsp3278 (by omega)) si_X10_152 [2, 0, 1] [3] rfl rfl (by decide) rfl (by decide) (by decide) rfl rfl rfl rfl rfl (Nat.le_of_ble_eq_true rfl) ⟨Nat.le_of_ble_eq_true rfl, Nat.le_of_ble_eq_true rfl⟩ ⟨Nat.le_of_ble_eq_true rfl, Nat.le_of_ble_eq_true rfl⟩ dX10_takesOne_99 (fun u3291 H locs hr3290 hP hD hS => ?_)
              obtain ⟨ksp13292, gtsp3293⟩ := u3291
              try dsimp only at hr3290
              have hP : va_P G.1 vwCl [(tby, .inl (G.2.1, 240, .inl fby)), (h0, .inr (10, [.ref tby, .int (nI kt), .ref tln, .ref tsp, .int kd13283, .int (nI ks13284), .int (nI kn13285), .int tf13286])), (tsp, .inr (8, [.int 120, .int 1, .ref tspc, .int (nI ksp13292)])), (tspc, .inl (G.2.1, 120, .inl gtsp3293))] H := hP
              have hD : va_D A [(tby, .inl (G.2.1, 240, .inl fby)), (h0, .inr (10, [.ref tby, .int (nI kt), .ref tln, .ref tsp, .int kd13283, .int (nI ks13284), .int (nI kn13285), .int tf13286])), (tsp, .inr (8, [.int 120, .int 1, .ref tspc, .int (nI ksp13292)])), (tspc, .inl (G.2.1, 120, .inl gtsp3293))] := hD
              have w3294 := hr3290
              refine lv_iconst (v := 1) hx hb dX10_takesOne_102 (by decide) ?_
              exact RI (v := 1) hC hP hD hS [1, 0, 2, 3] (kd13283, ks13284, kn13285, tf13286, ksp13292, gtsp3293) rfl rfl (by decide) (⟨Or.inl (rfl), by dsimp only; omega⟩) (by decide +kernel) dX10_takesOne_103
          · refine lv_if_ne (tgt := 93) hx hb dX10_takesOne_88 (by decide) (fun c9 => absurd (by decide) c9) (fun _ => ?_)
            refine lv_iconst (v := 0) hx hb dX10_takesOne_91 (by decide) ?_
            exact RI (v := 0) hC hP hD hS [2, 3, 0, 1] (kd13283, ks13284, kn13285, tf13286, ksp13277, gtsp3278) rfl rfl (by decide) (⟨Or.inr (rfl), by dsimp only; omega⟩) (by decide +kernel) dX10_takesOne_92
        · refine lv_if_eq (tgt := 91) hx hb dX10_takesOne_79 (by decide) (fun _ => ?_) (fun c9 => absurd (by decide) c9)
          refine lv_iconst (v := 0) hx hb dX10_takesOne_91 (by decide) ?_
          exact RI (v := 0) hC hP hD hS [0, 1, 2, 3] (kd13273, ks13274, kn13275, tf13276, ksp13277, gtsp3278) rfl rfl (by decide) (⟨Or.inr (rfl), by dsimp only; omega⟩) (by decide +kernel) dX10_takesOne_92
      · refine lv_aload_n hx hb dX10_takesOne_49 rfl (lv_at hl 2 rfl) ?_
        refine iVo (wr := []) hO hC hK hl hP hD hS hA (t_takesComparison l G K h0 tby kt tln tsp vkd vks vkn vtf fby tspc ksp ftsp (by omega) (by omega) (by omega) (by omega)) si_X10_162 [0, 1, 2, 3] [] rfl rfl (by decide) rfl (by decide) (by decide) rfl rfl rfl rfl rfl (Nat.le_of_ble_eq_true rfl) ⟨Nat.le_of_ble_eq_true rfl, Nat.le_of_ble_eq_true rfl⟩ ⟨Nat.le_of_ble_eq_true rfl, Nat.le_of_ble_eq_true rfl⟩ dX10_takesOne_50 (fun r3295 u3296 H locs hr3295 hP hD hS => ?_)
        obtain ⟨kd13297, ks13298, kn13299, tf13300, ksp13301, gtsp3302⟩ := u3296
        try dsimp only at hr3295
        have hP : va_P G.1 vwCl [(h0, .inr (10, [.ref tby, .int (nI kt), .ref tln, .ref tsp, .int kd13297, .int (nI ks13298), .int (nI kn13299), .int tf13300])), (tby, .inl (G.2.1, 240, .inl fby)), (tsp, .inr (8, [.int 120, .int 1, .ref tspc, .int (nI ksp13301)])), (tspc, .inl (G.2.1, 120, .inl gtsp3302))] H := hP
        have hD : va_D A [(h0, .inr (10, [.ref tby, .int (nI kt), .ref tln, .ref tsp, .int kd13297, .int (nI ks13298), .int (nI kn13299), .int tf13300])), (tby, .inl (G.2.1, 240, .inl fby)), (tsp, .inr (8, [.int 120, .int 1, .ref tspc, .int (nI ksp13301)])), (tspc, .inl (G.2.1, 120, .inl gtsp3302))] := hD
        obtain ⟨hr3295, w3303⟩ := hr3295
        rcases hr3295 with rfl | rfl
        · refine lv_if_ne (tgt := 93) hx hb dX10_takesOne_53 (by decide) (fun _ => ?_) (fun c9 => absurd c9 (by decide))
          refine lv_iload_n hx hb dX10_takesOne_93 rfl (lv_at hl 1 rfl) ?_
          refine lv_if_eq (tgt := 102) hx hb dX10_takesOne_94 (by decide) (fun c_94_3305 => ?_) (fun c_94_3305 => ?_)
          · refine lv_iconst (v := 1) hx hb dX10_takesOne_102 (by decide) ?_
            exact RI (v := 1) hC hP hD hS [0, 1, 2, 3] (kd13297, ks13298, kn13299, tf13300, ksp13301, gtsp3302) rfl rfl (by decide) (⟨Or.inl (rfl), by dsimp only; omega⟩) (by decide +kernel) dX10_takesOne_103
          · refine lv_aload_n hx hb dX10_takesOne_97 rfl (lv_at hl 2 rfl) ?_
            refine lv_iconst (v := (-1)) hx hb dX10_takesOne_98 (by decide) ?_
            refine vV (wr := [(tby, .inl (G.2.1, 240, .inl fby))]) hC hK hl hP hD hS hA (t_addStep l G h0 (-1) tby kt tln tsp kd13297 ks13298 kn13299 tf13300 tspc ksp13301 gtsp3302 (by omega)) si_X10_152 [0, 2, 3] [1] rfl rfl (by decide) rfl (by decide) (by decide) rfl rfl rfl rfl rfl (Nat.le_of_ble_eq_true rfl) ⟨Nat.le_of_ble_eq_true rfl, Nat.le_of_ble_eq_true rfl⟩ ⟨Nat.le_of_ble_eq_true rfl, Nat.le_of_ble_eq_true rfl⟩ dX10_takesOne_99 (fun u3307 H locs hr3306 hP hD hS => ?_)
            obtain ⟨ksp13308, gtsp3309⟩ := u3307
            try dsimp only at hr3306
            have hP : va_P G.1 vwCl [(tby, .inl (G.2.1, 240, .inl fby)), (h0, .inr (10, [.ref tby, .int (nI kt), .ref tln, .ref tsp, .int kd13297, .int (nI ks13298), .int (nI kn13299), .int tf13300])), (tsp, .inr (8, [.int 120, .int 1, .ref tspc, .int (nI ksp13308)])), (tspc, .inl (G.2.1, 120, .inl gtsp3309))] H := hP
            have hD : va_D A [(tby, .inl (G.2.1, 240, .inl fby)), (h0, .inr (10, [.ref tby, .int (nI kt), .ref tln, .ref tsp, .int kd13297, .int (nI ks13298), .int (nI kn13299), .int tf13300])), (tsp, .inr (8, [.int 120, .int 1, .ref tspc, .int (nI ksp13308)])), (tspc, .inl (G.2.1, 120, .inl gtsp3309))] := hD
            have w3310 := hr3306
            refine lv_iconst (v := 1) hx hb dX10_takesOne_102 (by decide) ?_
            exact RI (v := 1) hC hP hD hS [1, 0, 2, 3] (kd13297, ks13298, kn13299, tf13300, ksp13308, gtsp3309) rfl rfl (by decide) (⟨Or.inl (rfl), by dsimp only; omega⟩) (by decide +kernel) dX10_takesOne_103
        · refine lv_if_ne (tgt := 93) hx hb dX10_takesOne_53 (by decide) (fun c9 => absurd (by decide) c9) (fun _ => ?_)
          refine lv_iconst (v := 0) hx hb dX10_takesOne_56 (by decide) ?_
          exact RI (v := 0) hC hP hD hS [0, 1, 2, 3] (kd13297, ks13298, kn13299, tf13300, ksp13301, gtsp3302) rfl rfl (by decide) (⟨Or.inr (rfl), by dsimp only; omega⟩) (by decide +kernel) dX10_takesOne_57
    | succ nP ihP =>
      intro kP tu vkd vtf vks vkn H locs ls hkP hvks hvkn hP hD hS hl
      refine lv_iload_n hx hb dX10_takesOne_4 rfl (lv_at hl 0 rfl) ?_
      refine lv_sipush (v := 240) hx hb dX10_takesOne_5 (by decide) ?_
      refine lv_icmp_ge (tgt := 40) hx hb dX10_takesOne_8 (by decide) (fun c9 => absurd c9 (nI_ge (a := kP) (b := 240) (by omega) (by omega))) (fun _ => ?_)
      refine lv_aload_n hx hb dX10_takesOne_11 rfl (lv_at hl 2 rfl) ?_
      refine va_ldcS (index := 160) (tx := "not") hx hb hown (hO.2.1 10 (by decide)) dX10_takesOne_12 ?_
      refine pVo hO hS hC hK hl hP hD (t_isName l G K 10 h0 tby kt tln tsp vkd vks vkn vtf fby (by omega) (by omega) (by omega) ((by decide))) si_X10_102 [0, 1] rfl rfl (by decide) rfl rfl rfl rfl rfl (Nat.le_of_ble_eq_true rfl) ⟨Nat.le_of_ble_eq_true rfl, Nat.le_of_ble_eq_true rfl⟩ ⟨by first | exact Nat.le_of_ble_eq_true rfl | exact Nat.zero_le _, by first | exact Nat.le_of_ble_eq_true rfl | exact Nat.zero_le _⟩ dX10_takesOne_14 (fun r3311 hr3311 => ?_)
      rcases hr3311 with rfl | rfl
      · refine lv_if_eq (tgt := 40) hx hb dX10_takesOne_17 (by decide) (fun c9 => absurd c9 (by decide)) (fun _ => ?_)
        refine lv_aload_n hx hb dX10_takesOne_20 rfl (lv_at hl 2 rfl) ?_
        refine vV (wr := [(tsp, .inr (8, [.int 120, .int 1, .ref tspc, .int (nI ksp)])), (tspc, .inl (G.2.1, 120, .inl ftsp))]) hC hK hl hP hD hS hA (t_advance l G h0 tby kt tln tsp vkd vks vkn vtf fby (by omega) (by omega) (by omega)) si_X10_47 [0, 1] [2, 3] rfl rfl (by decide) rfl (by decide) (by decide) rfl rfl rfl rfl rfl (Nat.le_of_ble_eq_true rfl) ⟨Nat.le_of_ble_eq_true rfl, Nat.le_of_ble_eq_true rfl⟩ ⟨Nat.le_of_ble_eq_true rfl, Nat.le_of_ble_eq_true rfl⟩ dX10_takesOne_21 (fun u3314 H locs hr3313 hP hD hS => ?_)
        obtain ⟨kd13315, ks13316, kn13317⟩ := u3314
        try dsimp only at hr3313
        have hP : va_P G.1 vwCl [(tsp, .inr (8, [.int 120, .int 1, .ref tspc, .int (nI ksp)])), (tspc, .inl (G.2.1, 120, .inl ftsp)), (h0, .inr (10, [.ref tby, .int (nI kt), .ref tln, .ref tsp, .int kd13315, .int (nI ks13316), .int (nI kn13317), .int vtf])), (tby, .inl (G.2.1, 240, .inl fby))] H := hP
        have hD : va_D A [(tsp, .inr (8, [.int 120, .int 1, .ref tspc, .int (nI ksp)])), (tspc, .inl (G.2.1, 120, .inl ftsp)), (h0, .inr (10, [.ref tby, .int (nI kt), .ref tln, .ref tsp, .int kd13315, .int (nI ks13316), .int (nI kn13317), .int vtf])), (tby, .inl (G.2.1, 240, .inl fby))] := hD
        have w3318 := hr3313
        refine lv_iload_n hx hb dX10_takesOne_24 rfl (lv_at hl 1 rfl) ?_
        refine lv_if_ne (tgt := 32) hx hb dX10_takesOne_25 (by decide) (fun c_25_3319 => ?_) (fun c_25_3319 => ?_)
        · refine lv_iconst (v := 0) hx hb dX10_takesOne_32 (by decide) ?_
          refine lv_istore_n (lv' := [(2, .int 0), (3, .int (nI kP)), (0, .ref h0), (1, .int 2)]) hx hb dX10_takesOne_33 rfl hl (by decide) rfl (fun ls hl => ?_)
          refine lv_iinc (v := nI (kP + 1)) (lv' := [(3, .int (nI (kP + 1))), (2, .int 0), (0, .ref h0), (1, .int 2)]) hx hb dX10_takesOne_34 hl (k := 1) rfl (nI_1 _) (by decide) rfl (fun ls hl => ?_)
          refine lv_goto (tgt := 4) hx hb dX10_takesOne_37 (by decide) ?_
          have hP := hP.sub (ws' := [(h0, .inr (10, [.ref tby, .int (nI kt), .ref tln, .ref tsp, .int kd13315, .int (nI ks13316), .int (nI kn13317), .int vtf])), (tby, .inl (G.2.1, 240, .inl fby)), (tsp, .inr (8, [.int 120, .int 1, .ref tspc, .int (nI ksp)])), (tspc, .inl (G.2.1, 120, .inl ftsp))]) [2, 3, 0, 1] rfl
          have hD := hD.sub (ws' := [(h0, .inr (10, [.ref tby, .int (nI kt), .ref tln, .ref tsp, .int kd13315, .int (nI ks13316), .int (nI kn13317), .int vtf])), (tby, .inl (G.2.1, 240, .inl fby)), (tsp, .inr (8, [.int 120, .int 1, .ref tspc, .int (nI ksp)])), (tspc, .inl (G.2.1, 120, .inl ftsp))]) [2, 3, 0, 1] (by decide) rfl
          exact ihP (kP + 1) 0 kd13315 vtf ks13316 kn13317 _ _ _ (by omega) (by first | assumption | exact Or.inl rfl | exact Or.inr rfl | omega) (by first | assumption | exact Or.inl rfl | exact Or.inr rfl | omega) hP hD hS (lv_sub hl [0, 1, 2, 3] rfl)
        · refine lv_iconst (v := 1) hx hb dX10_takesOne_28 (by decide) ?_
          refine lv_goto (tgt := 33) hx hb dX10_takesOne_29 (by decide) ?_
          refine lv_istore_n (lv' := [(2, .int 1), (3, .int (nI kP)), (0, .ref h0), (1, .int 2)]) hx hb dX10_takesOne_33 rfl hl (by decide) rfl (fun ls hl => ?_)
          refine lv_iinc (v := nI (kP + 1)) (lv' := [(3, .int (nI (kP + 1))), (2, .int 1), (0, .ref h0), (1, .int 2)]) hx hb dX10_takesOne_34 hl (k := 1) rfl (nI_1 _) (by decide) rfl (fun ls hl => ?_)
          refine lv_goto (tgt := 4) hx hb dX10_takesOne_37 (by decide) ?_
          have hP := hP.sub (ws' := [(h0, .inr (10, [.ref tby, .int (nI kt), .ref tln, .ref tsp, .int kd13315, .int (nI ks13316), .int (nI kn13317), .int vtf])), (tby, .inl (G.2.1, 240, .inl fby)), (tsp, .inr (8, [.int 120, .int 1, .ref tspc, .int (nI ksp)])), (tspc, .inl (G.2.1, 120, .inl ftsp))]) [2, 3, 0, 1] rfl
          have hD := hD.sub (ws' := [(h0, .inr (10, [.ref tby, .int (nI kt), .ref tln, .ref tsp, .int kd13315, .int (nI ks13316), .int (nI kn13317), .int vtf])), (tby, .inl (G.2.1, 240, .inl fby)), (tsp, .inr (8, [.int 120, .int 1, .ref tspc, .int (nI ksp)])), (tspc, .inl (G.2.1, 120, .inl ftsp))]) [2, 3, 0, 1] (by decide) rfl
          exact ihP (kP + 1) 1 kd13315 vtf ks13316 kn13317 _ _ _ (by omega) (by first | assumption | exact Or.inl rfl | exact Or.inr rfl | omega) (by first | assumption | exact Or.inl rfl | exact Or.inr rfl | omega) hP hD hS (lv_sub hl [0, 1, 2, 3] rfl)
      · refine lv_if_eq (tgt := 40) hx hb dX10_takesOne_17 (by decide) (fun _ => ?_) (fun c9 => absurd (by decide) c9)
        refine lv_aload_n hx hb dX10_takesOne_40 rfl (lv_at hl 2 rfl) ?_
        refine gf_X10_31 hC rfl hK hP 0 rfl rfl dX10_takesOne_41 ?_
        refine lv_bipush (v := 40) hx hb dX10_takesOne_44 (by decide) ?_
        refine lv_icmp_eq (tgt := 58) hx hb dX10_takesOne_46 (by decide) (fun c_46_3320 => ?_) (fun c_46_3320 => ?_)
        · refine lv_iload_n hx hb dX10_takesOne_58 rfl (lv_at hl 3 rfl) ?_
          refine lv_iconst (v := 4) hx hb dX10_takesOne_59 (by decide) ?_
          refine lv_icmp_lt (tgt := 68) hx hb dX10_takesOne_60 (by decide) (fun _ => ?_) (fun c9 => absurd (by decide) c9)
          refine lv_aload_n hx hb dX10_takesOne_68 rfl (lv_at hl 2 rfl) ?_
          refine vV (wr := [(tsp, .inr (8, [.int 120, .int 1, .ref tspc, .int (nI ksp)])), (tspc, .inl (G.2.1, 120, .inl ftsp))]) hC hK hl hP hD hS hA (t_advance l G h0 tby kt tln tsp vkd vks vkn vtf fby (by omega) (by omega) (by omega)) si_X10_47 [0, 1] [2, 3] rfl rfl (by decide) rfl (by decide) (by decide) rfl rfl rfl rfl rfl (Nat.le_of_ble_eq_true rfl) ⟨Nat.le_of_ble_eq_true rfl, Nat.le_of_ble_eq_true rfl⟩ ⟨Nat.le_of_ble_eq_true rfl, Nat.le_of_ble_eq_true rfl⟩ dX10_takesOne_69 (fun u3322 H locs hr3321 hP hD hS => ?_)
          obtain ⟨kd13323, ks13324, kn13325⟩ := u3322
          try dsimp only at hr3321
          have hP : va_P G.1 vwCl [(tsp, .inr (8, [.int 120, .int 1, .ref tspc, .int (nI ksp)])), (tspc, .inl (G.2.1, 120, .inl ftsp)), (h0, .inr (10, [.ref tby, .int (nI kt), .ref tln, .ref tsp, .int kd13323, .int (nI ks13324), .int (nI kn13325), .int vtf])), (tby, .inl (G.2.1, 240, .inl fby))] H := hP
          have hD : va_D A [(tsp, .inr (8, [.int 120, .int 1, .ref tspc, .int (nI ksp)])), (tspc, .inl (G.2.1, 120, .inl ftsp)), (h0, .inr (10, [.ref tby, .int (nI kt), .ref tln, .ref tsp, .int kd13323, .int (nI ks13324), .int (nI kn13325), .int vtf])), (tby, .inl (G.2.1, 240, .inl fby))] := hD
          have w3326 := hr3321
          refine lv_aload_n hx hb dX10_takesOne_72 rfl (lv_at hl 2 rfl) ?_
          refine lv_iload_n hx hb dX10_takesOne_73 rfl (lv_at hl 3 rfl) ?_
          refine lv_iconst (v := 1) hx hb dX10_takesOne_74 (by decide) ?_
          refine lv_iadd hx hb dX10_takesOne_75 ?_
          refine eqi (x1 := 3) (by decide) ?_
          refine iVo (wr := []) hO hC hK hl hP hD hS hA (t_cond3 l G K h0 tby kt tln tsp kd13323 ks13324 kn13325 vtf fby tspc ksp ftsp (by omega) (by omega) (by omega) (by omega)) si_X10_121 [2, 3, 0, 1] [] rfl rfl (by decide) rfl (by decide) (by decide) rfl rfl rfl rfl rfl (Nat.le_of_ble_eq_true rfl) ⟨Nat.le_of_ble_eq_true rfl, Nat.le_of_ble_eq_true rfl⟩ ⟨Nat.le_of_ble_eq_true rfl, Nat.le_of_ble_eq_true rfl⟩ dX10_takesOne_76 (fun r3327 u3328 H locs hr3327 hP hD hS => ?_)
          obtain ⟨kd13329, ks13330, kn13331, tf13332, ksp13333, gtsp3334⟩ := u3328
          try dsimp only at hr3327
          have hP : va_P G.1 vwCl [(h0, .inr (10, [.ref tby, .int (nI kt), .ref tln, .ref tsp, .int kd13329, .int (nI ks13330), .int (nI kn13331), .int tf13332])), (tby, .inl (G.2.1, 240, .inl fby)), (tsp, .inr (8, [.int 120, .int 1, .ref tspc, .int (nI ksp13333)])), (tspc, .inl (G.2.1, 120, .inl gtsp3334))] H := hP
          have hD : va_D A [(h0, .inr (10, [.ref tby, .int (nI kt), .ref tln, .ref tsp, .int kd13329, .int (nI ks13330), .int (nI kn13331), .int tf13332])), (tby, .inl (G.2.1, 240, .inl fby)), (tsp, .inr (8, [.int 120, .int 1, .ref tspc, .int (nI ksp13333)])), (tspc, .inl (G.2.1, 120, .inl gtsp3334))] := hD
          obtain ⟨hr3327, w3335⟩ := hr3327
          rcases hr3327 with rfl | rfl
          · refine lv_if_eq (tgt := 91) hx hb dX10_takesOne_79 (by decide) (fun c9 => absurd c9 (by decide)) (fun _ => ?_)
            refine lv_aload_n hx hb dX10_takesOne_82 rfl (lv_at hl 2 rfl) ?_
            refine lv_bipush (v := 41) hx hb dX10_takesOne_83 (by decide) ?_
            refine iV (wr := [(tsp, .inr (8, [.int 120, .int 1, .ref tspc, .int (nI ksp13333)])), (tspc, .inl (G.2.1, 120, .inl gtsp3334))]) hC hK hl hP hD hS hA (t_takesByte l G h0 41 tby kt tln tsp kd13329 ks13330 kn13331 tf13332 fby (by omega) (by omega) (by omega)) si_X10_124 [0, 1] [2, 3] rfl rfl (by decide) rfl (by decide) (by decide) rfl rfl rfl rfl rfl (Nat.le_of_ble_eq_true rfl) ⟨Nat.le_of_ble_eq_true rfl, Nat.le_of_ble_eq_true rfl⟩ ⟨Nat.le_of_ble_eq_true rfl, Nat.le_of_ble_eq_true rfl⟩ dX10_takesOne_85 (fun r3337 u3338 H locs hr3337 hP hD hS => ?_)
            obtain ⟨kd13339, ks13340, kn13341, tf13342⟩ := u3338
            try dsimp only at hr3337
            have hP : va_P G.1 vwCl [(tsp, .inr (8, [.int 120, .int 1, .ref tspc, .int (nI ksp13333)])), (tspc, .inl (G.2.1, 120, .inl gtsp3334)), (h0, .inr (10, [.ref tby, .int (nI kt), .ref tln, .ref tsp, .int kd13339, .int (nI ks13340), .int (nI kn13341), .int tf13342])), (tby, .inl (G.2.1, 240, .inl fby))] H := hP
            have hD : va_D A [(tsp, .inr (8, [.int 120, .int 1, .ref tspc, .int (nI ksp13333)])), (tspc, .inl (G.2.1, 120, .inl gtsp3334)), (h0, .inr (10, [.ref tby, .int (nI kt), .ref tln, .ref tsp, .int kd13339, .int (nI ks13340), .int (nI kn13341), .int tf13342])), (tby, .inl (G.2.1, 240, .inl fby))] := hD
            obtain ⟨hr3337, w3343⟩ := hr3337
            rcases hr3337 with rfl | rfl
            · refine lv_if_ne (tgt := 93) hx hb dX10_takesOne_88 (by decide) (fun _ => ?_) (fun c9 => absurd c9 (by decide))
              refine lv_iload_n hx hb dX10_takesOne_93 rfl (lv_at hl 1 rfl) ?_
              refine lv_if_eq (tgt := 102) hx hb dX10_takesOne_94 (by decide) (fun c_94_3345 => ?_) (fun c_94_3345 => ?_)
              · refine lv_iconst (v := 1) hx hb dX10_takesOne_102 (by decide) ?_
                exact RI (v := 1) hC hP hD hS [2, 3, 0, 1] (kd13339, ks13340, kn13341, tf13342, ksp13333, gtsp3334) rfl rfl (by decide) (⟨Or.inl (rfl), by dsimp only; omega⟩) (by decide +kernel) dX10_takesOne_103
              · refine lv_aload_n hx hb dX10_takesOne_97 rfl (lv_at hl 2 rfl) ?_
                refine lv_iconst (v := (-1)) hx hb dX10_takesOne_98 (by decide) ?_
                refine vV (wr := [(tby, .inl (G.2.1, 240, .inl fby))]) hC hK hl hP hD hS hA (t_addStep l G h0 (-1) tby kt tln tsp kd13339 ks13340 kn13341 tf13342 tspc ksp13333 gtsp3334 (by omega)) si_X10_152 [2, 0, 1] [3] rfl rfl (by decide) rfl (by decide) (by decide) rfl rfl rfl rfl rfl (Nat.le_of_ble_eq_true rfl) ⟨Nat.le_of_ble_eq_true rfl, Nat.le_of_ble_eq_true rfl⟩ ⟨Nat.le_of_ble_eq_true rfl, Nat.le_of_ble_eq_true rfl⟩ dX10_takesOne_99 (fun u3347 H locs hr3346 hP hD hS => ?_)
                obtain ⟨ksp13348, gtsp3349⟩ := u3347
                try dsimp only at hr3346
                have hP : va_P G.1 vwCl [(tby, .inl (G.2.1, 240, .inl fby)), (h0, .inr (10, [.ref tby, .int (nI kt), .ref tln, .ref tsp, .int kd13339, .int (nI ks13340), .int (nI kn13341), .int tf13342])), (tsp, .inr (8, [.int 120, .int 1, .ref tspc, .int (nI ksp13348)])), (tspc, .inl (G.2.1, 120, .inl gtsp3349))] H := hP
                have hD : va_D A [(tby, .inl (G.2.1, 240, .inl fby)), (h0, .inr (10, [.ref tby, .int (nI kt), .ref tln, .ref tsp, .int kd13339, .int (nI ks13340), .int (nI kn13341), .int tf13342])), (tsp, .inr (8, [.int 120, .int 1, .ref tspc, .int (nI ksp13348)])), (tspc, .inl (G.2.1, 120, .inl gtsp3349))] := hD
                have w3350 := hr3346
                refine lv_iconst (v := 1) hx hb dX10_takesOne_102 (by decide) ?_
                exact RI (v := 1) hC hP hD hS [1, 0, 2, 3] (kd13339, ks13340, kn13341, tf13342, ksp13348, gtsp3349) rfl rfl (by decide) (⟨Or.inl (rfl), by dsimp only; omega⟩) (by decide +kernel) dX10_takesOne_103
            · refine lv_if_ne (tgt := 93) hx hb dX10_takesOne_88 (by decide) (fun c9 => absurd (by decide) c9) (fun _ => ?_)
              refine lv_iconst (v := 0) hx hb dX10_takesOne_91 (by decide) ?_
              exact RI (v := 0) hC hP hD hS [2, 3, 0, 1] (kd13339, ks13340, kn13341, tf13342, ksp13333, gtsp3334) rfl rfl (by decide) (⟨Or.inr (rfl), by dsimp only; omega⟩) (by decide +kernel) dX10_takesOne_92
          · refine lv_if_eq (tgt := 91) hx hb dX10_takesOne_79 (by decide) (fun _ => ?_) (fun c9 => absurd (by decide) c9)
            refine lv_iconst (v := 0) hx hb dX10_takesOne_91 (by decide) ?_
            exact RI (v := 0) hC hP hD hS [0, 1, 2, 3] (kd13329, ks13330, kn13331, tf13332, ksp13333, gtsp3334) rfl rfl (by decide) (⟨Or.inr (rfl), by dsimp only; omega⟩) (by decide +kernel) dX10_takesOne_92
        · refine lv_aload_n hx hb dX10_takesOne_49 rfl (lv_at hl 2 rfl) ?_
          refine iVo (wr := []) hO hC hK hl hP hD hS hA (t_takesComparison l G K h0 tby kt tln tsp vkd vks vkn vtf fby tspc ksp ftsp (by omega) (by omega) (by omega) (by omega)) si_X10_162 [0, 1, 2, 3] [] rfl rfl (by decide) rfl (by decide) (by decide) rfl rfl rfl rfl rfl (Nat.le_of_ble_eq_true rfl) ⟨Nat.le_of_ble_eq_true rfl, Nat.le_of_ble_eq_true rfl⟩ ⟨Nat.le_of_ble_eq_true rfl, Nat.le_of_ble_eq_true rfl⟩ dX10_takesOne_50 (fun r3351 u3352 H locs hr3351 hP hD hS => ?_)
          obtain ⟨kd13353, ks13354, kn13355, tf13356, ksp13357, gtsp3358⟩ := u3352
          try dsimp only at hr3351
          have hP : va_P G.1 vwCl [(h0, .inr (10, [.ref tby, .int (nI kt), .ref tln, .ref tsp, .int kd13353, .int (nI ks13354), .int (nI kn13355), .int tf13356])), (tby, .inl (G.2.1, 240, .inl fby)), (tsp, .inr (8, [.int 120, .int 1, .ref tspc, .int (nI ksp13357)])), (tspc, .inl (G.2.1, 120, .inl gtsp3358))] H := hP
          have hD : va_D A [(h0, .inr (10, [.ref tby, .int (nI kt), .ref tln, .ref tsp, .int kd13353, .int (nI ks13354), .int (nI kn13355), .int tf13356])), (tby, .inl (G.2.1, 240, .inl fby)), (tsp, .inr (8, [.int 120, .int 1, .ref tspc, .int (nI ksp13357)])), (tspc, .inl (G.2.1, 120, .inl gtsp3358))] := hD
          obtain ⟨hr3351, w3359⟩ := hr3351
          rcases hr3351 with rfl | rfl
          · refine lv_if_ne (tgt := 93) hx hb dX10_takesOne_53 (by decide) (fun _ => ?_) (fun c9 => absurd c9 (by decide))
            refine lv_iload_n hx hb dX10_takesOne_93 rfl (lv_at hl 1 rfl) ?_
            refine lv_if_eq (tgt := 102) hx hb dX10_takesOne_94 (by decide) (fun c_94_3361 => ?_) (fun c_94_3361 => ?_)
            · refine lv_iconst (v := 1) hx hb dX10_takesOne_102 (by decide) ?_
              exact RI (v := 1) hC hP hD hS [0, 1, 2, 3] (kd13353, ks13354, kn13355, tf13356, ksp13357, gtsp3358) rfl rfl (by decide) (⟨Or.inl (rfl), by dsimp only; omega⟩) (by decide +kernel) dX10_takesOne_103
            · refine lv_aload_n hx hb dX10_takesOne_97 rfl (lv_at hl 2 rfl) ?_
              refine lv_iconst (v := (-1)) hx hb dX10_takesOne_98 (by decide) ?_
              refine vV (wr := [(tby, .inl (G.2.1, 240, .inl fby))]) hC hK hl hP hD hS hA (t_addStep l G h0 (-1) tby kt tln tsp kd13353 ks13354 kn13355 tf13356 tspc ksp13357 gtsp3358 (by omega)) si_X10_152 [0, 2, 3] [1] rfl rfl (by decide) rfl (by decide) (by decide) rfl rfl rfl rfl rfl (Nat.le_of_ble_eq_true rfl) ⟨Nat.le_of_ble_eq_true rfl, Nat.le_of_ble_eq_true rfl⟩ ⟨Nat.le_of_ble_eq_true rfl, Nat.le_of_ble_eq_true rfl⟩ dX10_takesOne_99 (fun u3363 H locs hr3362 hP hD hS => ?_)
              obtain ⟨ksp13364, gtsp3365⟩ := u3363
              try dsimp only at hr3362
              have hP : va_P G.1 vwCl [(tby, .inl (G.2.1, 240, .inl fby)), (h0, .inr (10, [.ref tby, .int (nI kt), .ref tln, .ref tsp, .int kd13353, .int (nI ks13354), .int (nI kn13355), .int tf13356])), (tsp, .inr (8, [.int 120, .int 1, .ref tspc, .int (nI ksp13364)])), (tspc, .inl (G.2.1, 120, .inl gtsp3365))] H := hP
              have hD : va_D A [(tby, .inl (G.2.1, 240, .inl fby)), (h0, .inr (10, [.ref tby, .int (nI kt), .ref tln, .ref tsp, .int kd13353, .int (nI ks13354), .int (nI kn13355), .int tf13356])), (tsp, .inr (8, [.int 120, .int 1, .ref tspc, .int (nI ksp13364)])), (tspc, .inl (G.2.1, 120, .inl gtsp3365))] := hD
              have w3366 := hr3362
              refine lv_iconst (v := 1) hx hb dX10_takesOne_102 (by decide) ?_
              exact RI (v := 1) hC hP hD hS [1, 0, 2, 3] (kd13353, ks13354, kn13355, tf13356, ksp13364, gtsp3365) rfl rfl (by decide) (⟨Or.inl (rfl), by dsimp only; omega⟩) (by decide +kernel) dX10_takesOne_103
          · refine lv_if_ne (tgt := 93) hx hb dX10_takesOne_53 (by decide) (fun c9 => absurd (by decide) c9) (fun _ => ?_)
            refine lv_iconst (v := 0) hx hb dX10_takesOne_56 (by decide) ?_
            exact RI (v := 0) hC hP hD hS [0, 1, 2, 3] (kd13353, ks13354, kn13355, tf13356, ksp13357, gtsp3358) rfl rfl (by decide) (⟨Or.inr (rfl), by dsimp only; omega⟩) (by decide +kernel) dX10_takesOne_57
  exact keyP 240 0 0 tkd tf9 ks kn _ _ _ (by omega) (by first | assumption | exact Or.inl rfl | exact Or.inr rfl | omega) (by first | assumption | exact Or.inl rfl | exact Or.inr rfl | omega) hP hD hS (lv_sub hl [0, 1, 2, 3] rfl)
set_option maxHeartbeats 4000000 in
set_option maxRecDepth 100000 in
theorem t_all2 (l : Launch) (G : GG) (K : OO) (h0 : Nat) (tby : Nat) (kt : Nat) (tln : Nat) (tsp : Nat) (tkd : Int32) (ks : Nat) (kn : Nat) (tf9 : Int32) (fby : Nat → Int32) (tspc : Nat) (ksp : Nat) (ftsp : Nat → Int32) (hkt : kt ≤ 240) (hks : ks ≤ 240) (hkn : kn ≤ 240) (hksp : ksp ≤ 120) : MIo l G K yX10_takesAll cX10_takesAll 3 (some .boolean) 18 0 0 [.ref h0, .int 2] [(h0, .inr (10, [.ref tby, .int (nI kt), .ref tln, .ref tsp, .int tkd, .int (nI ks), .int (nI kn), .int tf9])), (tby, .inl (G.2.1, 240, .inl fby)), (tsp, .inr (8, [.int 120, .int 1, .ref tspc, .int (nI ksp)])), (tspc, .inl (G.2.1, 120, .inl ftsp))] (fun (r : Int32) (u : Int32 × Nat × Nat × Int32 × Nat × (Nat → Int32)) => (r = 1 ∨ r = 0) ∧ (u.2.1 ≤ 240 ∧ u.2.2.1 ≤ 240 ∧ u.2.2.2.2.1 ≤ 120)) (fun u : Int32 × Nat × Nat × Int32 × Nat × (Nat → Int32) => [(h0, .inr (10, [.ref tby, .int (nI kt), .ref tln, .ref tsp, .int u.1, .int (nI u.2.1), .int (nI u.2.2.1), .int u.2.2.2.1])), (tby, .inl (G.2.1, 240, .inl fby)), (tsp, .inr (8, [.int 120, .int 1, .ref tspc, .int (nI u.2.2.2.2.1)])), (tspc, .inl (G.2.1, 120, .inl u.2.2.2.2.2))]) := by
  refine MIo.start (by decide +kernel) (Nat.le_of_ble_eq_true rfl) ?_
  intro p e s m below meth c A ls hC hK hP hD hS hA hl hO
  have hl : lv_has ls 3 [(0, .ref h0), (1, .int 2)] := hl
  obtain ⟨hx, hb, hr, hml, hB, hown, hlocks, hnm⟩ := id hC
  refine lv_aload_n hx hb dX10_takesAll_0 rfl (lv_at hl 0 rfl) ?_
  refine lv_iload_n hx hb dX10_takesAll_1 rfl (lv_at hl 1 rfl) ?_
  refine iVo (wr := []) hO hC hK hl hP hD hS hA (t_one2 l G K h0 tby kt tln tsp tkd ks kn tf9 fby tspc ksp ftsp (by omega) (by omega) (by omega) (by omega)) si_X10_155 [0, 1, 2, 3] [] rfl rfl (by decide) rfl (by decide) (by decide) rfl rfl rfl rfl rfl (Nat.le_of_ble_eq_true rfl) ⟨Nat.le_of_ble_eq_true rfl, Nat.le_of_ble_eq_true rfl⟩ ⟨Nat.le_of_ble_eq_true rfl, Nat.le_of_ble_eq_true rfl⟩ dX10_takesAll_2 (fun r3367 u3368 H locs hr3367 hP hD hS => ?_)
  obtain ⟨kd13369, ks13370, kn13371, tf13372, ksp13373, gtsp3374⟩ := u3368
  try dsimp only at hr3367
  have hP : va_P G.1 vwCl [(h0, .inr (10, [.ref tby, .int (nI kt), .ref tln, .ref tsp, .int kd13369, .int (nI ks13370), .int (nI kn13371), .int tf13372])), (tby, .inl (G.2.1, 240, .inl fby)), (tsp, .inr (8, [.int 120, .int 1, .ref tspc, .int (nI ksp13373)])), (tspc, .inl (G.2.1, 120, .inl gtsp3374))] H := hP
  have hD : va_D A [(h0, .inr (10, [.ref tby, .int (nI kt), .ref tln, .ref tsp, .int kd13369, .int (nI ks13370), .int (nI kn13371), .int tf13372])), (tby, .inl (G.2.1, 240, .inl fby)), (tsp, .inr (8, [.int 120, .int 1, .ref tspc, .int (nI ksp13373)])), (tspc, .inl (G.2.1, 120, .inl gtsp3374))] := hD
  obtain ⟨hr3367, w3375⟩ := hr3367
  rcases hr3367 with rfl | rfl
  · refine lv_if_ne (tgt := 10) hx hb dX10_takesAll_5 (by decide) (fun _ => ?_) (fun c9 => absurd c9 (by decide))
    refine lv_iconst (v := 0) hx hb dX10_takesAll_10 (by decide) ?_
    refine lv_istore_n (lv' := [(2, .int 0), (0, .ref h0), (1, .int 2)]) hx hb dX10_takesAll_11 rfl hl (by decide) rfl (fun ls hl => ?_)
    have keyP : ∀ (nP kP : Nat) (vkd : Int32) (vtf : Int32) (vtsp : Nat → Int32) (vks : Nat) (vkn : Nat) (vksp : Nat) (H : Heap) (locs : List Loc) (ls : Array Slot), kP + nP = 240 → (vks ≤ 240) → (vkn ≤ 240) → (vksp ≤ 120) → va_P G.1 vwCl [(h0, .inr (10, [.ref tby, .int (nI kt), .ref tln, .ref tsp, .int vkd, .int (nI vks), .int (nI vkn), .int vtf])), (tby, .inl (G.2.1, 240, .inl fby)), (tsp, .inr (8, [.int 120, .int 1, .ref tspc, .int (nI vksp)])), (tspc, .inl (G.2.1, 120, .inl vtsp))] H → va_D A [(h0, .inr (10, [.ref tby, .int (nI kt), .ref tln, .ref tsp, .int vkd, .int (nI vks), .int (nI vkn), .int vtf])), (tby, .inl (G.2.1, 240, .inl fby)), (tsp, .inr (8, [.int 120, .int 1, .ref tspc, .int (nI vksp)])), (tspc, .inl (G.2.1, 120, .inl vtsp))] → va_S A s.heap H locs → lv_has ls 3 [(2, .int (nI kP)), (0, .ref h0), (1, .int 2)] → W p l e (RM 18 0 0) s m ([.ref h0, .int 2] : List Value).toArray below meth c H locs 0 0 (MQ below (QI G (fun (r : Int32) (u : Int32 × Nat × Nat × Int32 × Nat × (Nat → Int32)) => (r = 1 ∨ r = 0) ∧ (u.2.1 ≤ 240 ∧ u.2.2.1 ≤ 240 ∧ u.2.2.2.2.1 ≤ 120)) (fun u : Int32 × Nat × Nat × Int32 × Nat × (Nat → Int32) => [(h0, .inr (10, [.ref tby, .int (nI kt), .ref tln, .ref tsp, .int u.1, .int (nI u.2.1), .int (nI u.2.2.1), .int u.2.2.2.1])), (tby, .inl (G.2.1, 240, .inl fby)), (tsp, .inr (8, [.int 120, .int 1, .ref tspc, .int (nI u.2.2.2.2.1)])), (tspc, .inl (G.2.1, 120, .inl u.2.2.2.2.2))]) A) ([.ref h0, .int 2] : List Value).toArray s 0 0 A) (F0 m 12 ls []) := by
      intro nP
      induction nP with
      | zero =>
        intro kP vkd vtf vtsp vks vkn vksp H locs ls hkP hvks hvkn hvksp hP hD hS hl
        obtain rfl : 240 = kP := by omega
        have hl : lv_has ls 3 [(2, .int 240), (0, .ref h0), (1, .int 2)] := hl
        refine lv_iload_n hx hb dX10_takesAll_12 rfl (lv_at hl 0 rfl) ?_
        refine lv_sipush (v := 240) hx hb dX10_takesAll_13 (by decide) ?_
        refine lv_icmp_ge (tgt := 54) hx hb dX10_takesAll_16 (by decide) (fun _ => ?_) (fun c9 => absurd (by decide) c9)
        refine lv_iconst (v := 1) hx hb dX10_takesAll_54 (by decide) ?_
        exact RI (v := 1) hC hP hD hS [0, 1, 2, 3] (vkd, vks, vkn, vtf, vksp, vtsp) rfl rfl (by decide) (⟨Or.inl (rfl), by dsimp only; omega⟩) (by decide +kernel) dX10_takesAll_55
      | succ nP ihP =>
        intro kP vkd vtf vtsp vks vkn vksp H locs ls hkP hvks hvkn hvksp hP hD hS hl
        refine lv_iload_n hx hb dX10_takesAll_12 rfl (lv_at hl 0 rfl) ?_
        refine lv_sipush (v := 240) hx hb dX10_takesAll_13 (by decide) ?_
        refine lv_icmp_ge (tgt := 54) hx hb dX10_takesAll_16 (by decide) (fun c9 => absurd c9 (nI_ge (a := kP) (b := 240) (by omega) (by omega))) (fun _ => ?_)
        refine lv_aload_n hx hb dX10_takesAll_19 rfl (lv_at hl 1 rfl) ?_
        refine va_ldcS (index := 158) (tx := "and") hx hb hown (hO.2.1 9 (by decide)) dX10_takesAll_20 ?_
        refine pVo hO hS hC hK hl hP hD (t_isName l G K 9 h0 tby kt tln tsp vkd vks vkn vtf fby (by omega) (by omega) (by omega) ((by decide))) si_X10_102 [0, 1] rfl rfl (by decide) rfl rfl rfl rfl rfl (Nat.le_of_ble_eq_true rfl) ⟨Nat.le_of_ble_eq_true rfl, Nat.le_of_ble_eq_true rfl⟩ ⟨by first | exact Nat.le_of_ble_eq_true rfl | exact Nat.zero_le _, by first | exact Nat.le_of_ble_eq_true rfl | exact Nat.zero_le _⟩ dX10_takesAll_22 (fun r3377 hr3377 => ?_)
        rcases hr3377 with rfl | rfl
        · refine lv_if_eq (tgt := 54) hx hb dX10_takesAll_25 (by decide) (fun c9 => absurd c9 (by decide)) (fun _ => ?_)
          refine lv_aload_n hx hb dX10_takesAll_28 rfl (lv_at hl 1 rfl) ?_
          refine vV (wr := [(tsp, .inr (8, [.int 120, .int 1, .ref tspc, .int (nI vksp)])), (tspc, .inl (G.2.1, 120, .inl vtsp))]) hC hK hl hP hD hS hA (t_advance l G h0 tby kt tln tsp vkd vks vkn vtf fby (by omega) (by omega) (by omega)) si_X10_47 [0, 1] [2, 3] rfl rfl (by decide) rfl (by decide) (by decide) rfl rfl rfl rfl rfl (Nat.le_of_ble_eq_true rfl) ⟨Nat.le_of_ble_eq_true rfl, Nat.le_of_ble_eq_true rfl⟩ ⟨Nat.le_of_ble_eq_true rfl, Nat.le_of_ble_eq_true rfl⟩ dX10_takesAll_29 (fun u3380 H locs hr3379 hP hD hS => ?_)
          obtain ⟨kd13381, ks13382, kn13383⟩ := u3380
          try dsimp only at hr3379
          have hP : va_P G.1 vwCl [(tsp, .inr (8, [.int 120, .int 1, .ref tspc, .int (nI vksp)])), (tspc, .inl (G.2.1, 120, .inl vtsp)), (h0, .inr (10, [.ref tby, .int (nI kt), .ref tln, .ref tsp, .int kd13381, .int (nI ks13382), .int (nI kn13383), .int vtf])), (tby, .inl (G.2.1, 240, .inl fby))] H := hP
          have hD : va_D A [(tsp, .inr (8, [.int 120, .int 1, .ref tspc, .int (nI vksp)])), (tspc, .inl (G.2.1, 120, .inl vtsp)), (h0, .inr (10, [.ref tby, .int (nI kt), .ref tln, .ref tsp, .int kd13381, .int (nI ks13382), .int (nI kn13383), .int vtf])), (tby, .inl (G.2.1, 240, .inl fby))] := hD
          have w3384 := hr3379
          refine lv_aload_n hx hb dX10_takesAll_32 rfl (lv_at hl 1 rfl) ?_
          refine lv_iload_n hx hb dX10_takesAll_33 rfl (lv_at hl 2 rfl) ?_
          refine iVo (wr := []) hO hC hK hl hP hD hS hA (t_one2 l G K h0 tby kt tln tsp kd13381 ks13382 kn13383 vtf fby tspc vksp vtsp (by omega) (by omega) (by omega) (by omega)) si_X10_155 [2, 3, 0, 1] [] rfl rfl (by decide) rfl (by decide) (by decide) rfl rfl rfl rfl rfl (Nat.le_of_ble_eq_true rfl) ⟨Nat.le_of_ble_eq_true rfl, Nat.le_of_ble_eq_true rfl⟩ ⟨Nat.le_of_ble_eq_true rfl, Nat.le_of_ble_eq_true rfl⟩ dX10_takesAll_34 (fun r3385 u3386 H locs hr3385 hP hD hS => ?_)
          obtain ⟨kd13387, ks13388, kn13389, tf13390, ksp13391, gtsp3392⟩ := u3386
          try dsimp only at hr3385
          have hP : va_P G.1 vwCl [(h0, .inr (10, [.ref tby, .int (nI kt), .ref tln, .ref tsp, .int kd13387, .int (nI ks13388), .int (nI kn13389), .int tf13390])), (tby, .inl (G.2.1, 240, .inl fby)), (tsp, .inr (8, [.int 120, .int 1, .ref tspc, .int (nI ksp13391)])), (tspc, .inl (G.2.1, 120, .inl gtsp3392))] H := hP
          have hD : va_D A [(h0, .inr (10, [.ref tby, .int (nI kt), .ref tln, .ref tsp, .int kd13387, .int (nI ks13388), .int (nI kn13389), .int tf13390])), (tby, .inl (G.2.1, 240, .inl fby)), (tsp, .inr (8, [.int 120, .int 1, .ref tspc, .int (nI ksp13391)])), (tspc, .inl (G.2.1, 120, .inl gtsp3392))] := hD
          obtain ⟨hr3385, w3393⟩ := hr3385
          rcases hr3385 with rfl | rfl
          · refine lv_if_ne (tgt := 42) hx hb dX10_takesAll_37 (by decide) (fun _ => ?_) (fun c9 => absurd c9 (by decide))
            refine lv_aload_n hx hb dX10_takesAll_42 rfl (lv_at hl 1 rfl) ?_
            refine lv_bipush (v := (-2)) hx hb dX10_takesAll_43 (by decide) ?_
            refine vV (wr := [(tby, .inl (G.2.1, 240, .inl fby))]) hC hK hl hP hD hS hA (t_addStep l G h0 (-2) tby kt tln tsp kd13387 ks13388 kn13389 tf13390 tspc ksp13391 gtsp3392 (by omega)) si_X10_152 [0, 2, 3] [1] rfl rfl (by decide) rfl (by decide) (by decide) rfl rfl rfl rfl rfl (Nat.le_of_ble_eq_true rfl) ⟨Nat.le_of_ble_eq_true rfl, Nat.le_of_ble_eq_true rfl⟩ ⟨Nat.le_of_ble_eq_true rfl, Nat.le_of_ble_eq_true rfl⟩ dX10_takesAll_45 (fun u3396 H locs hr3395 hP hD hS => ?_)
            obtain ⟨ksp13397, gtsp3398⟩ := u3396
            try dsimp only at hr3395
            have hP : va_P G.1 vwCl [(tby, .inl (G.2.1, 240, .inl fby)), (h0, .inr (10, [.ref tby, .int (nI kt), .ref tln, .ref tsp, .int kd13387, .int (nI ks13388), .int (nI kn13389), .int tf13390])), (tsp, .inr (8, [.int 120, .int 1, .ref tspc, .int (nI ksp13397)])), (tspc, .inl (G.2.1, 120, .inl gtsp3398))] H := hP
            have hD : va_D A [(tby, .inl (G.2.1, 240, .inl fby)), (h0, .inr (10, [.ref tby, .int (nI kt), .ref tln, .ref tsp, .int kd13387, .int (nI ks13388), .int (nI kn13389), .int tf13390])), (tsp, .inr (8, [.int 120, .int 1, .ref tspc, .int (nI ksp13397)])), (tspc, .inl (G.2.1, 120, .inl gtsp3398))] := hD
            have w3399 := hr3395
            refine lv_iinc (v := nI (kP + 1)) (lv' := [(2, .int (nI (kP + 1))), (0, .ref h0), (1, .int 2)]) hx hb dX10_takesAll_48 hl (k := 0) rfl (nI_1 _) (by decide) rfl (fun ls hl => ?_)
            refine lv_goto (tgt := 12) hx hb dX10_takesAll_51 (by decide) ?_
            have hP := hP.sub (ws' := [(h0, .inr (10, [.ref tby, .int (nI kt), .ref tln, .ref tsp, .int kd13387, .int (nI ks13388), .int (nI kn13389), .int tf13390])), (tby, .inl (G.2.1, 240, .inl fby)), (tsp, .inr (8, [.int 120, .int 1, .ref tspc, .int (nI ksp13397)])), (tspc, .inl (G.2.1, 120, .inl gtsp3398))]) [1, 0, 2, 3] rfl
            have hD := hD.sub (ws' := [(h0, .inr (10, [.ref tby, .int (nI kt), .ref tln, .ref tsp, .int kd13387, .int (nI ks13388), .int (nI kn13389), .int tf13390])), (tby, .inl (G.2.1, 240, .inl fby)), (tsp, .inr (8, [.int 120, .int 1, .ref tspc, .int (nI ksp13397)])), (tspc, .inl (G.2.1, 120, .inl gtsp3398))]) [1, 0, 2, 3] (by decide) rfl
            exact ihP (kP + 1) kd13387 tf13390 gtsp3398 ks13388 kn13389 ksp13397 _ _ _ (by omega) (by first | assumption | exact Or.inl rfl | exact Or.inr rfl | omega) (by first | assumption | exact Or.inl rfl | exact Or.inr rfl | omega) (by first | assumption | exact Or.inl rfl | exact Or.inr rfl | omega) hP hD hS (lv_sub hl [0, 1, 2] rfl)
          · refine lv_if_ne (tgt := 42) hx hb dX10_takesAll_37 (by decide) (fun c9 => absurd (by decide) c9) (fun _ => ?_)
            refine lv_iconst (v := 0) hx hb dX10_takesAll_40 (by decide) ?_
            exact RI (v := 0) hC hP hD hS [0, 1, 2, 3] (kd13387, ks13388, kn13389, tf13390, ksp13391, gtsp3392) rfl rfl (by decide) (⟨Or.inr (rfl), by dsimp only; omega⟩) (by decide +kernel) dX10_takesAll_41
        · refine lv_if_eq (tgt := 54) hx hb dX10_takesAll_25 (by decide) (fun _ => ?_) (fun c9 => absurd (by decide) c9)
          refine lv_iconst (v := 1) hx hb dX10_takesAll_54 (by decide) ?_
          exact RI (v := 1) hC hP hD hS [0, 1, 2, 3] (vkd, vks, vkn, vtf, vksp, vtsp) rfl rfl (by decide) (⟨Or.inl (rfl), by dsimp only; omega⟩) (by decide +kernel) dX10_takesAll_55
    exact keyP 240 0 kd13369 tf13372 gtsp3374 ks13370 kn13371 ksp13373 _ _ _ (by omega) (by first | assumption | exact Or.inl rfl | exact Or.inr rfl | omega) (by first | assumption | exact Or.inl rfl | exact Or.inr rfl | omega) (by first | assumption | exact Or.inl rfl | exact Or.inr rfl | omega) hP hD hS (lv_sub hl [0, 1, 2] rfl)
  · refine lv_if_ne (tgt := 10) hx hb dX10_takesAll_5 (by decide) (fun c9 => absurd (by decide) c9) (fun _ => ?_)
    refine lv_iconst (v := 0) hx hb dX10_takesAll_8 (by decide) ?_
    exact RI (v := 0) hC hP hD hS [0, 1, 2, 3] (kd13369, ks13370, kn13371, tf13372, ksp13373, gtsp3374) rfl rfl (by decide) (⟨Or.inr (rfl), by dsimp only; omega⟩) (by decide +kernel) dX10_takesAll_9
set_option maxHeartbeats 4000000 in
set_option maxRecDepth 100000 in
theorem t_cond2 (l : Launch) (G : GG) (K : OO) (h0 : Nat) (tby : Nat) (kt : Nat) (tln : Nat) (tsp : Nat) (tkd : Int32) (ks : Nat) (kn : Nat) (tf9 : Int32) (fby : Nat → Int32) (tspc : Nat) (ksp : Nat) (ftsp : Nat → Int32) (hkt : kt ≤ 240) (hks : ks ≤ 240) (hkn : kn ≤ 240) (hksp : ksp ≤ 120) : MIo l G K yX10_takesCond cX10_takesCond 3 (some .boolean) 19 0 0 [.ref h0, .int 2] [(h0, .inr (10, [.ref tby, .int (nI kt), .ref tln, .ref tsp, .int tkd, .int (nI ks), .int (nI kn), .int tf9])), (tby, .inl (G.2.1, 240, .inl fby)), (tsp, .inr (8, [.int 120, .int 1, .ref tspc, .int (nI ksp)])), (tspc, .inl (G.2.1, 120, .inl ftsp))] (fun (r : Int32) (u : Int32 × Nat × Nat × Int32 × Nat × (Nat → Int32)) => (r = 1 ∨ r = 0) ∧ (u.2.1 ≤ 240 ∧ u.2.2.1 ≤ 240 ∧ u.2.2.2.2.1 ≤ 120)) (fun u : Int32 × Nat × Nat × Int32 × Nat × (Nat → Int32) => [(h0, .inr (10, [.ref tby, .int (nI kt), .ref tln, .ref tsp, .int u.1, .int (nI u.2.1), .int (nI u.2.2.1), .int u.2.2.2.1])), (tby, .inl (G.2.1, 240, .inl fby)), (tsp, .inr (8, [.int 120, .int 1, .ref tspc, .int (nI u.2.2.2.2.1)])), (tspc, .inl (G.2.1, 120, .inl u.2.2.2.2.2))]) := by
  refine MIo.start (by decide +kernel) (Nat.le_of_ble_eq_true rfl) ?_
  intro p e s m below meth c A ls hC hK hP hD hS hA hl hO
  have hl : lv_has ls 3 [(0, .ref h0), (1, .int 2)] := hl
  obtain ⟨hx, hb, hr, hml, hB, hown, hlocks, hnm⟩ := id hC
  refine lv_aload_n hx hb dX10_takesCond_0 rfl (lv_at hl 0 rfl) ?_
  refine lv_iload_n hx hb dX10_takesCond_1 rfl (lv_at hl 1 rfl) ?_
  refine iVo (wr := []) hO hC hK hl hP hD hS hA (t_all2 l G K h0 tby kt tln tsp tkd ks kn tf9 fby tspc ksp ftsp (by omega) (by omega) (by omega) (by omega)) si_X10_147 [0, 1, 2, 3] [] rfl rfl (by decide) rfl (by decide) (by decide) rfl rfl rfl rfl rfl (Nat.le_of_ble_eq_true rfl) ⟨Nat.le_of_ble_eq_true rfl, Nat.le_of_ble_eq_true rfl⟩ ⟨Nat.le_of_ble_eq_true rfl, Nat.le_of_ble_eq_true rfl⟩ dX10_takesCond_2 (fun r3400 u3401 H locs hr3400 hP hD hS => ?_)
  obtain ⟨kd13402, ks13403, kn13404, tf13405, ksp13406, gtsp3407⟩ := u3401
  try dsimp only at hr3400
  have hP : va_P G.1 vwCl [(h0, .inr (10, [.ref tby, .int (nI kt), .ref tln, .ref tsp, .int kd13402, .int (nI ks13403), .int (nI kn13404), .int tf13405])), (tby, .inl (G.2.1, 240, .inl fby)), (tsp, .inr (8, [.int 120, .int 1, .ref tspc, .int (nI ksp13406)])), (tspc, .inl (G.2.1, 120, .inl gtsp3407))] H := hP
  have hD : va_D A [(h0, .inr (10, [.ref tby, .int (nI kt), .ref tln, .ref tsp, .int kd13402, .int (nI ks13403), .int (nI kn13404), .int tf13405])), (tby, .inl (G.2.1, 240, .inl fby)), (tsp, .inr (8, [.int 120, .int 1, .ref tspc, .int (nI ksp13406)])), (tspc, .inl (G.2.1, 120, .inl gtsp3407))] := hD
  obtain ⟨hr3400, w3408⟩ := hr3400
  rcases hr3400 with rfl | rfl
  · refine lv_if_ne (tgt := 10) hx hb dX10_takesCond_5 (by decide) (fun _ => ?_) (fun c9 => absurd c9 (by decide))
    refine lv_iconst (v := 0) hx hb dX10_takesCond_10 (by decide) ?_
    refine lv_istore_n (lv' := [(2, .int 0), (0, .ref h0), (1, .int 2)]) hx hb dX10_takesCond_11 rfl hl (by decide) rfl (fun ls hl => ?_)
    have keyP : ∀ (nP kP : Nat) (vkd : Int32) (vtf : Int32) (vtsp : Nat → Int32) (vks : Nat) (vkn : Nat) (vksp : Nat) (H : Heap) (locs : List Loc) (ls : Array Slot), kP + nP = 240 → (vks ≤ 240) → (vkn ≤ 240) → (vksp ≤ 120) → va_P G.1 vwCl [(h0, .inr (10, [.ref tby, .int (nI kt), .ref tln, .ref tsp, .int vkd, .int (nI vks), .int (nI vkn), .int vtf])), (tby, .inl (G.2.1, 240, .inl fby)), (tsp, .inr (8, [.int 120, .int 1, .ref tspc, .int (nI vksp)])), (tspc, .inl (G.2.1, 120, .inl vtsp))] H → va_D A [(h0, .inr (10, [.ref tby, .int (nI kt), .ref tln, .ref tsp, .int vkd, .int (nI vks), .int (nI vkn), .int vtf])), (tby, .inl (G.2.1, 240, .inl fby)), (tsp, .inr (8, [.int 120, .int 1, .ref tspc, .int (nI vksp)])), (tspc, .inl (G.2.1, 120, .inl vtsp))] → va_S A s.heap H locs → lv_has ls 3 [(2, .int (nI kP)), (0, .ref h0), (1, .int 2)] → W p l e (RM 19 0 0) s m ([.ref h0, .int 2] : List Value).toArray below meth c H locs 0 0 (MQ below (QI G (fun (r : Int32) (u : Int32 × Nat × Nat × Int32 × Nat × (Nat → Int32)) => (r = 1 ∨ r = 0) ∧ (u.2.1 ≤ 240 ∧ u.2.2.1 ≤ 240 ∧ u.2.2.2.2.1 ≤ 120)) (fun u : Int32 × Nat × Nat × Int32 × Nat × (Nat → Int32) => [(h0, .inr (10, [.ref tby, .int (nI kt), .ref tln, .ref tsp, .int u.1, .int (nI u.2.1), .int (nI u.2.2.1), .int u.2.2.2.1])), (tby, .inl (G.2.1, 240, .inl fby)), (tsp, .inr (8, [.int 120, .int 1, .ref tspc, .int (nI u.2.2.2.2.1)])), (tspc, .inl (G.2.1, 120, .inl u.2.2.2.2.2))]) A) ([.ref h0, .int 2] : List Value).toArray s 0 0 A) (F0 m 12 ls []) := by
      intro nP
      induction nP with
      | zero =>
        intro kP vkd vtf vtsp vks vkn vksp H locs ls hkP hvks hvkn hvksp hP hD hS hl
        obtain rfl : 240 = kP := by omega
        have hl : lv_has ls 3 [(2, .int 240), (0, .ref h0), (1, .int 2)] := hl
        refine lv_iload_n hx hb dX10_takesCond_12 rfl (lv_at hl 0 rfl) ?_
        refine lv_sipush (v := 240) hx hb dX10_takesCond_13 (by decide) ?_
        refine lv_icmp_ge (tgt := 54) hx hb dX10_takesCond_16 (by decide) (fun _ => ?_) (fun c9 => absurd (by decide) c9)
        refine lv_iconst (v := 1) hx hb dX10_takesCond_54 (by decide) ?_
        exact RI (v := 1) hC hP hD hS [0, 1, 2, 3] (vkd, vks, vkn, vtf, vksp, vtsp) rfl rfl (by decide) (⟨Or.inl (rfl), by dsimp only; omega⟩) (by decide +kernel) dX10_takesCond_55
      | succ nP ihP =>
        intro kP vkd vtf vtsp vks vkn vksp H locs ls hkP hvks hvkn hvksp hP hD hS hl
        refine lv_iload_n hx hb dX10_takesCond_12 rfl (lv_at hl 0 rfl) ?_
        refine lv_sipush (v := 240) hx hb dX10_takesCond_13 (by decide) ?_
        refine lv_icmp_ge (tgt := 54) hx hb dX10_takesCond_16 (by decide) (fun c9 => absurd c9 (nI_ge (a := kP) (b := 240) (by omega) (by omega))) (fun _ => ?_)
        refine lv_aload_n hx hb dX10_takesCond_19 rfl (lv_at hl 1 rfl) ?_
        refine va_ldcS (index := 150) (tx := "o\x72") hx hb hown (hO.2.1 8 (by decide)) dX10_takesCond_20 ?_
        refine pVo hO hS hC hK hl hP hD (t_isName l G K 8 h0 tby kt tln tsp vkd vks vkn vtf fby (by omega) (by omega) (by omega) ((by decide))) si_X10_102 [0, 1] rfl rfl (by decide) rfl rfl rfl rfl rfl (Nat.le_of_ble_eq_true rfl) ⟨Nat.le_of_ble_eq_true rfl, Nat.le_of_ble_eq_true rfl⟩ ⟨by first | exact Nat.le_of_ble_eq_true rfl | exact Nat.zero_le _, by first | exact Nat.le_of_ble_eq_true rfl | exact Nat.zero_le _⟩ dX10_takesCond_22 (fun r3410 hr3410 => ?_)
        rcases hr3410 with rfl | rfl
        · refine lv_if_eq (tgt := 54) hx hb dX10_takesCond_25 (by decide) (fun c9 => absurd c9 (by decide)) (fun _ => ?_)
          refine lv_aload_n hx hb dX10_takesCond_28 rfl (lv_at hl 1 rfl) ?_
          refine vV (wr := [(tsp, .inr (8, [.int 120, .int 1, .ref tspc, .int (nI vksp)])), (tspc, .inl (G.2.1, 120, .inl vtsp))]) hC hK hl hP hD hS hA (t_advance l G h0 tby kt tln tsp vkd vks vkn vtf fby (by omega) (by omega) (by omega)) si_X10_47 [0, 1] [2, 3] rfl rfl (by decide) rfl (by decide) (by decide) rfl rfl rfl rfl rfl (Nat.le_of_ble_eq_true rfl) ⟨Nat.le_of_ble_eq_true rfl, Nat.le_of_ble_eq_true rfl⟩ ⟨Nat.le_of_ble_eq_true rfl, Nat.le_of_ble_eq_true rfl⟩ dX10_takesCond_29 (fun u3413 H locs hr3412 hP hD hS => ?_)
          obtain ⟨kd13414, ks13415, kn13416⟩ := u3413
          try dsimp only at hr3412
          have hP : va_P G.1 vwCl [(tsp, .inr (8, [.int 120, .int 1, .ref tspc, .int (nI vksp)])), (tspc, .inl (G.2.1, 120, .inl vtsp)), (h0, .inr (10, [.ref tby, .int (nI kt), .ref tln, .ref tsp, .int kd13414, .int (nI ks13415), .int (nI kn13416), .int vtf])), (tby, .inl (G.2.1, 240, .inl fby))] H := hP
          have hD : va_D A [(tsp, .inr (8, [.int 120, .int 1, .ref tspc, .int (nI vksp)])), (tspc, .inl (G.2.1, 120, .inl vtsp)), (h0, .inr (10, [.ref tby, .int (nI kt), .ref tln, .ref tsp, .int kd13414, .int (nI ks13415), .int (nI kn13416), .int vtf])), (tby, .inl (G.2.1, 240, .inl fby))] := hD
          have w3417 := hr3412
          refine lv_aload_n hx hb dX10_takesCond_32 rfl (lv_at hl 1 rfl) ?_
          refine lv_iload_n hx hb dX10_takesCond_33 rfl (lv_at hl 2 rfl) ?_
          refine iVo (wr := []) hO hC hK hl hP hD hS hA (t_all2 l G K h0 tby kt tln tsp kd13414 ks13415 kn13416 vtf fby tspc vksp vtsp (by omega) (by omega) (by omega) (by omega)) si_X10_147 [2, 3, 0, 1] [] rfl rfl (by decide) rfl (by decide) (by decide) rfl rfl rfl rfl rfl (Nat.le_of_ble_eq_true rfl) ⟨Nat.le_of_ble_eq_true rfl, Nat.le_of_ble_eq_true rfl⟩ ⟨Nat.le_of_ble_eq_true rfl, Nat.le_of_ble_eq_true rfl⟩ dX10_takesCond_34 (fun r3418 u3419 H locs hr3418 hP hD hS => ?_)
          obtain ⟨kd13420, ks13421, kn13422, tf13423, ksp13424, gtsp3425⟩ := u3419
          try dsimp only at hr3418
          have hP : va_P G.1 vwCl [(h0, .inr (10, [.ref tby, .int (nI kt), .ref tln, .ref tsp, .int kd13420, .int (nI ks13421), .int (nI kn13422), .int tf13423])), (tby, .inl (G.2.1, 240, .inl fby)), (tsp, .inr (8, [.int 120, .int 1, .ref tspc, .int (nI ksp13424)])), (tspc, .inl (G.2.1, 120, .inl gtsp3425))] H := hP
          have hD : va_D A [(h0, .inr (10, [.ref tby, .int (nI kt), .ref tln, .ref tsp, .int kd13420, .int (nI ks13421), .int (nI kn13422), .int tf13423])), (tby, .inl (G.2.1, 240, .inl fby)), (tsp, .inr (8, [.int 120, .int 1, .ref tspc, .int (nI ksp13424)])), (tspc, .inl (G.2.1, 120, .inl gtsp3425))] := hD
          obtain ⟨hr3418, w3426⟩ := hr3418
          rcases hr3418 with rfl | rfl
          · refine lv_if_ne (tgt := 42) hx hb dX10_takesCond_37 (by decide) (fun _ => ?_) (fun c9 => absurd c9 (by decide))
            refine lv_aload_n hx hb dX10_takesCond_42 rfl (lv_at hl 1 rfl) ?_
            refine lv_bipush (v := (-3)) hx hb dX10_takesCond_43 (by decide) ?_
            refine vV (wr := [(tby, .inl (G.2.1, 240, .inl fby))]) hC hK hl hP hD hS hA (t_addStep l G h0 (-3) tby kt tln tsp kd13420 ks13421 kn13422 tf13423 tspc ksp13424 gtsp3425 (by omega)) si_X10_152 [0, 2, 3] [1] rfl rfl (by decide) rfl (by decide) (by decide) rfl rfl rfl rfl rfl (Nat.le_of_ble_eq_true rfl) ⟨Nat.le_of_ble_eq_true rfl, Nat.le_of_ble_eq_true rfl⟩ ⟨Nat.le_of_ble_eq_true rfl, Nat.le_of_ble_eq_true rfl⟩ dX10_takesCond_45 (fun u3429 H locs hr3428 hP hD hS => ?_)
            obtain ⟨ksp13430, gtsp3431⟩ := u3429
            try dsimp only at hr3428
            have hP : va_P G.1 vwCl [(tby, .inl (G.2.1, 240, .inl fby)), (h0, .inr (10, [.ref tby, .int (nI kt), .ref tln, .ref tsp, .int kd13420, .int (nI ks13421), .int (nI kn13422), .int tf13423])), (tsp, .inr (8, [.int 120, .int 1, .ref tspc, .int (nI ksp13430)])), (tspc, .inl (G.2.1, 120, .inl gtsp3431))] H := hP
            have hD : va_D A [(tby, .inl (G.2.1, 240, .inl fby)), (h0, .inr (10, [.ref tby, .int (nI kt), .ref tln, .ref tsp, .int kd13420, .int (nI ks13421), .int (nI kn13422), .int tf13423])), (tsp, .inr (8, [.int 120, .int 1, .ref tspc, .int (nI ksp13430)])), (tspc, .inl (G.2.1, 120, .inl gtsp3431))] := hD
            have w3432 := hr3428
            refine lv_iinc (v := nI (kP + 1)) (lv' := [(2, .int (nI (kP + 1))), (0, .ref h0), (1, .int 2)]) hx hb dX10_takesCond_48 hl (k := 0) rfl (nI_1 _) (by decide) rfl (fun ls hl => ?_)
            refine lv_goto (tgt := 12) hx hb dX10_takesCond_51 (by decide) ?_
            have hP := hP.sub (ws' := [(h0, .inr (10, [.ref tby, .int (nI kt), .ref tln, .ref tsp, .int kd13420, .int (nI ks13421), .int (nI kn13422), .int tf13423])), (tby, .inl (G.2.1, 240, .inl fby)), (tsp, .inr (8, [.int 120, .int 1, .ref tspc, .int (nI ksp13430)])), (tspc, .inl (G.2.1, 120, .inl gtsp3431))]) [1, 0, 2, 3] rfl
            have hD := hD.sub (ws' := [(h0, .inr (10, [.ref tby, .int (nI kt), .ref tln, .ref tsp, .int kd13420, .int (nI ks13421), .int (nI kn13422), .int tf13423])), (tby, .inl (G.2.1, 240, .inl fby)), (tsp, .inr (8, [.int 120, .int 1, .ref tspc, .int (nI ksp13430)])), (tspc, .inl (G.2.1, 120, .inl gtsp3431))]) [1, 0, 2, 3] (by decide) rfl
            exact ihP (kP + 1) kd13420 tf13423 gtsp3431 ks13421 kn13422 ksp13430 _ _ _ (by omega) (by first | assumption | exact Or.inl rfl | exact Or.inr rfl | omega) (by first | assumption | exact Or.inl rfl | exact Or.inr rfl | omega) (by first | assumption | exact Or.inl rfl | exact Or.inr rfl | omega) hP hD hS (lv_sub hl [0, 1, 2] rfl)
          · refine lv_if_ne (tgt := 42) hx hb dX10_takesCond_37 (by decide) (fun c9 => absurd (by decide) c9) (fun _ => ?_)
            refine lv_iconst (v := 0) hx hb dX10_takesCond_40 (by decide) ?_
            exact RI (v := 0) hC hP hD hS [0, 1, 2, 3] (kd13420, ks13421, kn13422, tf13423, ksp13424, gtsp3425) rfl rfl (by decide) (⟨Or.inr (rfl), by dsimp only; omega⟩) (by decide +kernel) dX10_takesCond_41
        · refine lv_if_eq (tgt := 54) hx hb dX10_takesCond_25 (by decide) (fun _ => ?_) (fun c9 => absurd (by decide) c9)
          refine lv_iconst (v := 1) hx hb dX10_takesCond_54 (by decide) ?_
          exact RI (v := 1) hC hP hD hS [0, 1, 2, 3] (vkd, vks, vkn, vtf, vksp, vtsp) rfl rfl (by decide) (⟨Or.inl (rfl), by dsimp only; omega⟩) (by decide +kernel) dX10_takesCond_55
    exact keyP 240 0 kd13402 tf13405 gtsp3407 ks13403 kn13404 ksp13406 _ _ _ (by omega) (by first | assumption | exact Or.inl rfl | exact Or.inr rfl | omega) (by first | assumption | exact Or.inl rfl | exact Or.inr rfl | omega) (by first | assumption | exact Or.inl rfl | exact Or.inr rfl | omega) hP hD hS (lv_sub hl [0, 1, 2] rfl)
  · refine lv_if_ne (tgt := 10) hx hb dX10_takesCond_5 (by decide) (fun c9 => absurd (by decide) c9) (fun _ => ?_)
    refine lv_iconst (v := 0) hx hb dX10_takesCond_8 (by decide) ?_
    exact RI (v := 0) hC hP hD hS [0, 1, 2, 3] (kd13402, ks13403, kn13404, tf13405, ksp13406, gtsp3407) rfl rfl (by decide) (⟨Or.inr (rfl), by dsimp only; omega⟩) (by decide +kernel) dX10_takesCond_9
set_option maxHeartbeats 4000000 in
set_option maxRecDepth 100000 in
theorem t_one1 (l : Launch) (G : GG) (K : OO) (h0 : Nat) (tby : Nat) (kt : Nat) (tln : Nat) (tsp : Nat) (tkd : Int32) (ks : Nat) (kn : Nat) (tf9 : Int32) (fby : Nat → Int32) (tspc : Nat) (ksp : Nat) (ftsp : Nat → Int32) (hkt : kt ≤ 240) (hks : ks ≤ 240) (hkn : kn ≤ 240) (hksp : ksp ≤ 120) : MIo l G K yX10_takesOne cX10_takesOne 4 (some .boolean) 21 0 0 [.ref h0, .int 1] [(h0, .inr (10, [.ref tby, .int (nI kt), .ref tln, .ref tsp, .int tkd, .int (nI ks), .int (nI kn), .int tf9])), (tby, .inl (G.2.1, 240, .inl fby)), (tsp, .inr (8, [.int 120, .int 1, .ref tspc, .int (nI ksp)])), (tspc, .inl (G.2.1, 120, .inl ftsp))] (fun (r : Int32) (u : Int32 × Nat × Nat × Int32 × Nat × (Nat → Int32)) => (r = 1 ∨ r = 0) ∧ (u.2.1 ≤ 240 ∧ u.2.2.1 ≤ 240 ∧ u.2.2.2.2.1 ≤ 120)) (fun u : Int32 × Nat × Nat × Int32 × Nat × (Nat → Int32) => [(h0, .inr (10, [.ref tby, .int (nI kt), .ref tln, .ref tsp, .int u.1, .int (nI u.2.1), .int (nI u.2.2.1), .int u.2.2.2.1])), (tby, .inl (G.2.1, 240, .inl fby)), (tsp, .inr (8, [.int 120, .int 1, .ref tspc, .int (nI u.2.2.2.2.1)])), (tspc, .inl (G.2.1, 120, .inl u.2.2.2.2.2))]) := by
  refine MIo.start (by decide +kernel) (Nat.le_of_ble_eq_true rfl) ?_
  intro p e s m below meth c A ls hC hK hP hD hS hA hl hO
  have hl : lv_has ls 4 [(0, .ref h0), (1, .int 1)] := hl
  obtain ⟨hx, hb, hr, hml, hB, hown, hlocks, hnm⟩ := id hC
  refine lv_iconst (v := 0) hx hb dX10_takesOne_0 (by decide) ?_
  refine lv_istore_n (lv' := [(2, .int 0), (0, .ref h0), (1, .int 1)]) hx hb dX10_takesOne_1 rfl hl (by decide) rfl (fun ls hl => ?_)
  refine lv_iconst (v := 0) hx hb dX10_takesOne_2 (by decide) ?_
  refine lv_istore_n (lv' := [(3, .int 0), (2, .int 0), (0, .ref h0), (1, .int 1)]) hx hb dX10_takesOne_3 rfl hl (by decide) rfl (fun ls hl => ?_)
  have keyP : ∀ (nP kP : Nat) (tu : Int32) (vkd : Int32) (vtf : Int32) (vks : Nat) (vkn : Nat) (H : Heap) (locs : List Loc) (ls : Array Slot), kP + nP = 240 → (vks ≤ 240) → (vkn ≤ 240) → va_P G.1 vwCl [(h0, .inr (10, [.ref tby, .int (nI kt), .ref tln, .ref tsp, .int vkd, .int (nI vks), .int (nI vkn), .int vtf])), (tby, .inl (G.2.1, 240, .inl fby)), (tsp, .inr (8, [.int 120, .int 1, .ref tspc, .int (nI ksp)])), (tspc, .inl (G.2.1, 120, .inl ftsp))] H → va_D A [(h0, .inr (10, [.ref tby, .int (nI kt), .ref tln, .ref tsp, .int vkd, .int (nI vks), .int (nI vkn), .int vtf])), (tby, .inl (G.2.1, 240, .inl fby)), (tsp, .inr (8, [.int 120, .int 1, .ref tspc, .int (nI ksp)])), (tspc, .inl (G.2.1, 120, .inl ftsp))] → va_S A s.heap H locs → lv_has ls 4 [(3, .int (nI kP)), (2, .int tu), (0, .ref h0), (1, .int 1)] → W p l e (RM 21 0 0) s m ([.ref h0, .int 1] : List Value).toArray below meth c H locs 0 0 (MQ below (QI G (fun (r : Int32) (u : Int32 × Nat × Nat × Int32 × Nat × (Nat → Int32)) => (r = 1 ∨ r = 0) ∧ (u.2.1 ≤ 240 ∧ u.2.2.1 ≤ 240 ∧ u.2.2.2.2.1 ≤ 120)) (fun u : Int32 × Nat × Nat × Int32 × Nat × (Nat → Int32) => [(h0, .inr (10, [.ref tby, .int (nI kt), .ref tln, .ref tsp, .int u.1, .int (nI u.2.1), .int (nI u.2.2.1), .int u.2.2.2.1])), (tby, .inl (G.2.1, 240, .inl fby)), (tsp, .inr (8, [.int 120, .int 1, .ref tspc, .int (nI u.2.2.2.2.1)])), (tspc, .inl (G.2.1, 120, .inl u.2.2.2.2.2))]) A) ([.ref h0, .int 1] : List Value).toArray s 0 0 A) (F0 m 4 ls []) := by
    intro nP
    induction nP with
    | zero =>
      intro kP tu vkd vtf vks vkn H locs ls hkP hvks hvkn hP hD hS hl
      obtain rfl : 240 = kP := by omega
      have hl : lv_has ls 4 [(3, .int 240), (2, .int tu), (0, .ref h0), (1, .int 1)] := hl
      refine lv_iload_n hx hb dX10_takesOne_4 rfl (lv_at hl 0 rfl) ?_
      refine lv_sipush (v := 240) hx hb dX10_takesOne_5 (by decide) ?_
      refine lv_icmp_ge (tgt := 40) hx hb dX10_takesOne_8 (by decide) (fun _ => ?_) (fun c9 => absurd (by decide) c9)
      refine lv_aload_n hx hb dX10_takesOne_40 rfl (lv_at hl 2 rfl) ?_
      refine gf_X10_31 hC rfl hK hP 0 rfl rfl dX10_takesOne_41 ?_
      refine lv_bipush (v := 40) hx hb dX10_takesOne_44 (by decide) ?_
      refine lv_icmp_eq (tgt := 58) hx hb dX10_takesOne_46 (by decide) (fun c_46_3433 => ?_) (fun c_46_3433 => ?_)
      · refine lv_iload_n hx hb dX10_takesOne_58 rfl (lv_at hl 3 rfl) ?_
        refine lv_iconst (v := 4) hx hb dX10_takesOne_59 (by decide) ?_
        refine lv_icmp_lt (tgt := 68) hx hb dX10_takesOne_60 (by decide) (fun _ => ?_) (fun c9 => absurd (by decide) c9)
        refine lv_aload_n hx hb dX10_takesOne_68 rfl (lv_at hl 2 rfl) ?_
        refine vV (wr := [(tsp, .inr (8, [.int 120, .int 1, .ref tspc, .int (nI ksp)])), (tspc, .inl (G.2.1, 120, .inl ftsp))]) hC hK hl hP hD hS hA (t_advance l G h0 tby kt tln tsp vkd vks vkn vtf fby (by omega) (by omega) (by omega)) si_X10_47 [0, 1] [2, 3] rfl rfl (by decide) rfl (by decide) (by decide) rfl rfl rfl rfl rfl (Nat.le_of_ble_eq_true rfl) ⟨Nat.le_of_ble_eq_true rfl, Nat.le_of_ble_eq_true rfl⟩ ⟨Nat.le_of_ble_eq_true rfl, Nat.le_of_ble_eq_true rfl⟩ dX10_takesOne_69 (fun u3435 H locs hr3434 hP hD hS => ?_)
        obtain ⟨kd13436, ks13437, kn13438⟩ := u3435
        try dsimp only at hr3434
        have hP : va_P G.1 vwCl [(tsp, .inr (8, [.int 120, .int 1, .ref tspc, .int (nI ksp)])), (tspc, .inl (G.2.1, 120, .inl ftsp)), (h0, .inr (10, [.ref tby, .int (nI kt), .ref tln, .ref tsp, .int kd13436, .int (nI ks13437), .int (nI kn13438), .int vtf])), (tby, .inl (G.2.1, 240, .inl fby))] H := hP
        have hD : va_D A [(tsp, .inr (8, [.int 120, .int 1, .ref tspc, .int (nI ksp)])), (tspc, .inl (G.2.1, 120, .inl ftsp)), (h0, .inr (10, [.ref tby, .int (nI kt), .ref tln, .ref tsp, .int kd13436, .int (nI ks13437), .int (nI kn13438), .int vtf])), (tby, .inl (G.2.1, 240, .inl fby))] := hD
        have w3439 := hr3434
        refine lv_aload_n hx hb dX10_takesOne_72 rfl (lv_at hl 2 rfl) ?_
        refine lv_iload_n hx hb dX10_takesOne_73 rfl (lv_at hl 3 rfl) ?_
        refine lv_iconst (v := 1) hx hb dX10_takesOne_74 (by decide) ?_
        refine lv_iadd hx hb dX10_takesOne_75 ?_
        refine eqi (x1 := 2) (by decide) ?_
        refine iVo (wr := []) hO hC hK hl hP hD hS hA (t_cond2 l G K h0 tby kt tln tsp kd13436 ks13437 kn13438 vtf fby tspc ksp ftsp (by omega) (by omega) (by omega) (by omega)) si_X10_121 [2, 3, 0, 1] [] rfl rfl (by decide) rfl (by decide) (by decide) rfl rfl rfl rfl rfl (Nat.le_of_ble_eq_true rfl) ⟨Nat.le_of_ble_eq_true rfl, Nat.le_of_ble_eq_true rfl⟩ ⟨Nat.le_of_ble_eq_true rfl, Nat.le_of_ble_eq_true rfl⟩ dX10_takesOne_76 (fun r3440 u3441 H locs hr3440 hP hD hS => ?_)
        obtain ⟨kd13442, ks13443, kn13444, tf13445, ksp13446, gtsp3447⟩ := u3441
        try dsimp only at hr3440
        have hP : va_P G.1 vwCl [(h0, .inr (10, [.ref tby, .int (nI kt), .ref tln, .ref tsp, .int kd13442, .int (nI ks13443), .int (nI kn13444), .int tf13445])), (tby, .inl (G.2.1, 240, .inl fby)), (tsp, .inr (8, [.int 120, .int 1, .ref tspc, .int (nI ksp13446)])), (tspc, .inl (G.2.1, 120, .inl gtsp3447))] H := hP
        have hD : va_D A [(h0, .inr (10, [.ref tby, .int (nI kt), .ref tln, .ref tsp, .int kd13442, .int (nI ks13443), .int (nI kn13444), .int tf13445])), (tby, .inl (G.2.1, 240, .inl fby)), (tsp, .inr (8, [.int 120, .int 1, .ref tspc, .int (nI ksp13446)])), (tspc, .inl (G.2.1, 120, .inl gtsp3447))] := hD
        obtain ⟨hr3440, w3448⟩ := hr3440
        rcases hr3440 with rfl | rfl
        · refine lv_if_eq (tgt := 91) hx hb dX10_takesOne_79 (by decide) (fun c9 => absurd c9 (by decide)) (fun _ => ?_)
          refine lv_aload_n hx hb dX10_takesOne_82 rfl (lv_at hl 2 rfl) ?_
          refine lv_bipush (v := 41) hx hb dX10_takesOne_83 (by decide) ?_
          refine iV (wr := [(tsp, .inr (8, [.int 120, .int 1, .ref tspc, .int (nI ksp13446)])), (tspc, .inl (G.2.1, 120, .inl gtsp3447))]) hC hK hl hP hD hS hA (t_takesByte l G h0 41 tby kt tln tsp kd13442 ks13443 kn13444 tf13445 fby (by omega) (by omega) (by omega)) si_X10_124 [0, 1] [2, 3] rfl rfl (by decide) rfl (by decide) (by decide) rfl rfl rfl rfl rfl (Nat.le_of_ble_eq_true rfl) ⟨Nat.le_of_ble_eq_true rfl, Nat.le_of_ble_eq_true rfl⟩ ⟨Nat.le_of_ble_eq_true rfl, Nat.le_of_ble_eq_true rfl⟩ dX10_takesOne_85 (fun r3450 u3451 H locs hr3450 hP hD hS => ?_)
          obtain ⟨kd13452, ks13453, kn13454, tf13455⟩ := u3451
          try dsimp only at hr3450
          have hP : va_P G.1 vwCl [(tsp, .inr (8, [.int 120, .int 1, .ref tspc, .int (nI ksp13446)])), (tspc, .inl (G.2.1, 120, .inl gtsp3447)), (h0, .inr (10, [.ref tby, .int (nI kt), .ref tln, .ref tsp, .int kd13452, .int (nI ks13453), .int (nI kn13454), .int tf13455])), (tby, .inl (G.2.1, 240, .inl fby))] H := hP
          have hD : va_D A [(tsp, .inr (8, [.int 120, .int 1, .ref tspc, .int (nI ksp13446)])), (tspc, .inl (G.2.1, 120, .inl gtsp3447)), (h0, .inr (10, [.ref tby, .int (nI kt), .ref tln, .ref tsp, .int kd13452, .int (nI ks13453), .int (nI kn13454), .int tf13455])), (tby, .inl (G.2.1, 240, .inl fby))] := hD
          obtain ⟨hr3450, w3456⟩ := hr3450
          rcases hr3450 with rfl | rfl
          · refine lv_if_ne (tgt := 93) hx hb dX10_takesOne_88 (by decide) (fun _ => ?_) (fun c9 => absurd c9 (by decide))
            refine lv_iload_n hx hb dX10_takesOne_93 rfl (lv_at hl 1 rfl) ?_
            refine lv_if_eq (tgt := 102) hx hb dX10_takesOne_94 (by decide) (fun c_94_3458 => ?_) (fun c_94_3458 => ?_)
            · refine lv_iconst (v := 1) hx hb dX10_takesOne_102 (by decide) ?_
              exact RI (v := 1) hC hP hD hS [2, 3, 0, 1] (kd13452, ks13453, kn13454, tf13455, ksp13446, gtsp3447) rfl rfl (by decide) (⟨Or.inl (rfl), by dsimp only; omega⟩) (by decide +kernel) dX10_takesOne_103
            · refine lv_aload_n hx hb dX10_takesOne_97 rfl (lv_at hl 2 rfl) ?_
              refine lv_iconst (v := (-1)) hx hb dX10_takesOne_98 (by decide) ?_
              refine vV (wr := [(tby, .inl (G.2.1, 240, .inl fby))]) hC hK hl hP hD hS hA (t_addStep l G h0 (-1) tby kt tln tsp kd13452 ks13453 kn13454 tf13455 tspc ksp13446 gtsp3447 (by omega)) si_X10_152 [2, 0, 1] [3] rfl rfl (by decide) rfl (by decide) (by decide) rfl rfl rfl rfl rfl (Nat.le_of_ble_eq_true rfl) ⟨Nat.le_of_ble_eq_true rfl, Nat.le_of_ble_eq_true rfl⟩ ⟨Nat.le_of_ble_eq_true rfl, Nat.le_of_ble_eq_true rfl⟩ dX10_takesOne_99 (fun u3460 H locs hr3459 hP hD hS => ?_)
              obtain ⟨ksp13461, gtsp3462⟩ := u3460
              try dsimp only at hr3459
              have hP : va_P G.1 vwCl [(tby, .inl (G.2.1, 240, .inl fby)), (h0, .inr (10, [.ref tby, .int (nI kt), .ref tln, .ref tsp, .int kd13452, .int (nI ks13453), .int (nI kn13454), .int tf13455])), (tsp, .inr (8, [.int 120, .int 1, .ref tspc, .int (nI ksp13461)])), (tspc, .inl (G.2.1, 120, .inl gtsp3462))] H := hP
              have hD : va_D A [(tby, .inl (G.2.1, 240, .inl fby)), (h0, .inr (10, [.ref tby, .int (nI kt), .ref tln, .ref tsp, .int kd13452, .int (nI ks13453), .int (nI kn13454), .int tf13455])), (tsp, .inr (8, [.int 120, .int 1, .ref tspc, .int (nI ksp13461)])), (tspc, .inl (G.2.1, 120, .inl gtsp3462))] := hD
              have w3463 := hr3459
              refine lv_iconst (v := 1) hx hb dX10_takesOne_102 (by decide) ?_
              exact RI (v := 1) hC hP hD hS [1, 0, 2, 3] (kd13452, ks13453, kn13454, tf13455, ksp13461, gtsp3462) rfl rfl (by decide) (⟨Or.inl (rfl), by dsimp only; omega⟩) (by decide +kernel) dX10_takesOne_103
          · refine lv_if_ne (tgt := 93) hx hb dX10_takesOne_88 (by decide) (fun c9 => absurd (by decide) c9) (fun _ => ?_)
            refine lv_iconst (v := 0) hx hb dX10_takesOne_91 (by decide) ?_
            exact RI (v := 0) hC hP hD hS [2, 3, 0, 1] (kd13452, ks13453, kn13454, tf13455, ksp13446, gtsp3447) rfl rfl (by decide) (⟨Or.inr (rfl), by dsimp only; omega⟩) (by decide +kernel) dX10_takesOne_92
        · refine lv_if_eq (tgt := 91) hx hb dX10_takesOne_79 (by decide) (fun _ => ?_) (fun c9 => absurd (by decide) c9)
          refine lv_iconst (v := 0) hx hb dX10_takesOne_91 (by decide) ?_
          exact RI (v := 0) hC hP hD hS [0, 1, 2, 3] (kd13442, ks13443, kn13444, tf13445, ksp13446, gtsp3447) rfl rfl (by decide) (⟨Or.inr (rfl), by dsimp only; omega⟩) (by decide +kernel) dX10_takesOne_92
      · refine lv_aload_n hx hb dX10_takesOne_49 rfl (lv_at hl 2 rfl) ?_
        refine iVo (wr := []) hO hC hK hl hP hD hS hA (t_takesComparison l G K h0 tby kt tln tsp vkd vks vkn vtf fby tspc ksp ftsp (by omega) (by omega) (by omega) (by omega)) si_X10_162 [0, 1, 2, 3] [] rfl rfl (by decide) rfl (by decide) (by decide) rfl rfl rfl rfl rfl (Nat.le_of_ble_eq_true rfl) ⟨Nat.le_of_ble_eq_true rfl, Nat.le_of_ble_eq_true rfl⟩ ⟨Nat.le_of_ble_eq_true rfl, Nat.le_of_ble_eq_true rfl⟩ dX10_takesOne_50 (fun r3464 u3465 H locs hr3464 hP hD hS => ?_)
        obtain ⟨kd13466, ks13467, kn13468, tf13469, ksp13470, gtsp3471⟩ := u3465
        try dsimp only at hr3464
        have hP : va_P G.1 vwCl [(h0, .inr (10, [.ref tby, .int (nI kt), .ref tln, .ref tsp, .int kd13466, .int (nI ks13467), .int (nI kn13468), .int tf13469])), (tby, .inl (G.2.1, 240, .inl fby)), (tsp, .inr (8, [.int 120, .int 1, .ref tspc, .int (nI ksp13470)])), (tspc, .inl (G.2.1, 120, .inl gtsp3471))] H := hP
        have hD : va_D A [(h0, .inr (10, [.ref tby, .int (nI kt), .ref tln, .ref tsp, .int kd13466, .int (nI ks13467), .int (nI kn13468), .int tf13469])), (tby, .inl (G.2.1, 240, .inl fby)), (tsp, .inr (8, [.int 120, .int 1, .ref tspc, .int (nI ksp13470)])), (tspc, .inl (G.2.1, 120, .inl gtsp3471))] := hD
        obtain ⟨hr3464, w3472⟩ := hr3464
        rcases hr3464 with rfl | rfl
        · refine lv_if_ne (tgt := 93) hx hb dX10_takesOne_53 (by decide) (fun _ => ?_) (fun c9 => absurd c9 (by decide))
          refine lv_iload_n hx hb dX10_takesOne_93 rfl (lv_at hl 1 rfl) ?_
          refine lv_if_eq (tgt := 102) hx hb dX10_takesOne_94 (by decide) (fun c_94_3474 => ?_) (fun c_94_3474 => ?_)
          · refine lv_iconst (v := 1) hx hb dX10_takesOne_102 (by decide) ?_
            exact RI (v := 1) hC hP hD hS [0, 1, 2, 3] (kd13466, ks13467, kn13468, tf13469, ksp13470, gtsp3471) rfl rfl (by decide) (⟨Or.inl (rfl), by dsimp only; omega⟩) (by decide +kernel) dX10_takesOne_103
          · refine lv_aload_n hx hb dX10_takesOne_97 rfl (lv_at hl 2 rfl) ?_
            refine lv_iconst (v := (-1)) hx hb dX10_takesOne_98 (by decide) ?_
            refine vV (wr := [(tby, .inl (G.2.1, 240, .inl fby))]) hC hK hl hP hD hS hA (t_addStep l G h0 (-1) tby kt tln tsp kd13466 ks13467 kn13468 tf13469 tspc ksp13470 gtsp3471 (by omega)) si_X10_152 [0, 2, 3] [1] rfl rfl (by decide) rfl (by decide) (by decide) rfl rfl rfl rfl rfl (Nat.le_of_ble_eq_true rfl) ⟨Nat.le_of_ble_eq_true rfl, Nat.le_of_ble_eq_true rfl⟩ ⟨Nat.le_of_ble_eq_true rfl, Nat.le_of_ble_eq_true rfl⟩ dX10_takesOne_99 (fun u3476 H locs hr3475 hP hD hS => ?_)
            obtain ⟨ksp13477, gtsp3478⟩ := u3476
            try dsimp only at hr3475
            have hP : va_P G.1 vwCl [(tby, .inl (G.2.1, 240, .inl fby)), (h0, .inr (10, [.ref tby, .int (nI kt), .ref tln, .ref tsp, .int kd13466, .int (nI ks13467), .int (nI kn13468), .int tf13469])), (tsp, .inr (8, [.int 120, .int 1, .ref tspc, .int (nI ksp13477)])), (tspc, .inl (G.2.1, 120, .inl gtsp3478))] H := hP
            have hD : va_D A [(tby, .inl (G.2.1, 240, .inl fby)), (h0, .inr (10, [.ref tby, .int (nI kt), .ref tln, .ref tsp, .int kd13466, .int (nI ks13467), .int (nI kn13468), .int tf13469])), (tsp, .inr (8, [.int 120, .int 1, .ref tspc, .int (nI ksp13477)])), (tspc, .inl (G.2.1, 120, .inl gtsp3478))] := hD
            have w3479 := hr3475
            refine lv_iconst (v := 1) hx hb dX10_takesOne_102 (by decide) ?_
            exact RI (v := 1) hC hP hD hS [1, 0, 2, 3] (kd13466, ks13467, kn13468, tf13469, ksp13477, gtsp3478) rfl rfl (by decide) (⟨Or.inl (rfl), by dsimp only; omega⟩) (by decide +kernel) dX10_takesOne_103
        · refine lv_if_ne (tgt := 93) hx hb dX10_takesOne_53 (by decide) (fun c9 => absurd (by decide) c9) (fun _ => ?_)
          refine lv_iconst (v := 0) hx hb dX10_takesOne_56 (by decide) ?_
          exact RI (v := 0) hC hP hD hS [0, 1, 2, 3] (kd13466, ks13467, kn13468, tf13469, ksp13470, gtsp3471) rfl rfl (by decide) (⟨Or.inr (rfl), by dsimp only; omega⟩) (by decide +kernel) dX10_takesOne_57
    | succ nP ihP =>
      intro kP tu vkd vtf vks vkn H locs ls hkP hvks hvkn hP hD hS hl
      refine lv_iload_n hx hb dX10_takesOne_4 rfl (lv_at hl 0 rfl) ?_
      refine lv_sipush (v := 240) hx hb dX10_takesOne_5 (by decide) ?_
      refine lv_icmp_ge (tgt := 40) hx hb dX10_takesOne_8 (by decide) (fun c9 => absurd c9 (nI_ge (a := kP) (b := 240) (by omega) (by omega))) (fun _ => ?_)
      refine lv_aload_n hx hb dX10_takesOne_11 rfl (lv_at hl 2 rfl) ?_
      refine va_ldcS (index := 160) (tx := "not") hx hb hown (hO.2.1 10 (by decide)) dX10_takesOne_12 ?_
      refine pVo hO hS hC hK hl hP hD (t_isName l G K 10 h0 tby kt tln tsp vkd vks vkn vtf fby (by omega) (by omega) (by omega) ((by decide))) si_X10_102 [0, 1] rfl rfl (by decide) rfl rfl rfl rfl rfl (Nat.le_of_ble_eq_true rfl) ⟨Nat.le_of_ble_eq_true rfl, Nat.le_of_ble_eq_true rfl⟩ ⟨by first | exact Nat.le_of_ble_eq_true rfl | exact Nat.zero_le _, by first | exact Nat.le_of_ble_eq_true rfl | exact Nat.zero_le _⟩ dX10_takesOne_14 (fun r3480 hr3480 => ?_)
      rcases hr3480 with rfl | rfl
      · refine lv_if_eq (tgt := 40) hx hb dX10_takesOne_17 (by decide) (fun c9 => absurd c9 (by decide)) (fun _ => ?_)
        refine lv_aload_n hx hb dX10_takesOne_20 rfl (lv_at hl 2 rfl) ?_
        refine vV (wr := [(tsp, .inr (8, [.int 120, .int 1, .ref tspc, .int (nI ksp)])), (tspc, .inl (G.2.1, 120, .inl ftsp))]) hC hK hl hP hD hS hA (t_advance l G h0 tby kt tln tsp vkd vks vkn vtf fby (by omega) (by omega) (by omega)) si_X10_47 [0, 1] [2, 3] rfl rfl (by decide) rfl (by decide) (by decide) rfl rfl rfl rfl rfl (Nat.le_of_ble_eq_true rfl) ⟨Nat.le_of_ble_eq_true rfl, Nat.le_of_ble_eq_true rfl⟩ ⟨Nat.le_of_ble_eq_true rfl, Nat.le_of_ble_eq_true rfl⟩ dX10_takesOne_21 (fun u3483 H locs hr3482 hP hD hS => ?_)
        obtain ⟨kd13484, ks13485, kn13486⟩ := u3483
        try dsimp only at hr3482
        have hP : va_P G.1 vwCl [(tsp, .inr (8, [.int 120, .int 1, .ref tspc, .int (nI ksp)])), (tspc, .inl (G.2.1, 120, .inl ftsp)), (h0, .inr (10, [.ref tby, .int (nI kt), .ref tln, .ref tsp, .int kd13484, .int (nI ks13485), .int (nI kn13486), .int vtf])), (tby, .inl (G.2.1, 240, .inl fby))] H := hP
        have hD : va_D A [(tsp, .inr (8, [.int 120, .int 1, .ref tspc, .int (nI ksp)])), (tspc, .inl (G.2.1, 120, .inl ftsp)), (h0, .inr (10, [.ref tby, .int (nI kt), .ref tln, .ref tsp, .int kd13484, .int (nI ks13485), .int (nI kn13486), .int vtf])), (tby, .inl (G.2.1, 240, .inl fby))] := hD
        have w3487 := hr3482
        refine lv_iload_n hx hb dX10_takesOne_24 rfl (lv_at hl 1 rfl) ?_
        refine lv_if_ne (tgt := 32) hx hb dX10_takesOne_25 (by decide) (fun c_25_3488 => ?_) (fun c_25_3488 => ?_)
        · refine lv_iconst (v := 0) hx hb dX10_takesOne_32 (by decide) ?_
          refine lv_istore_n (lv' := [(2, .int 0), (3, .int (nI kP)), (0, .ref h0), (1, .int 1)]) hx hb dX10_takesOne_33 rfl hl (by decide) rfl (fun ls hl => ?_)
          refine lv_iinc (v := nI (kP + 1)) (lv' := [(3, .int (nI (kP + 1))), (2, .int 0), (0, .ref h0), (1, .int 1)]) hx hb dX10_takesOne_34 hl (k := 1) rfl (nI_1 _) (by decide) rfl (fun ls hl => ?_)
          refine lv_goto (tgt := 4) hx hb dX10_takesOne_37 (by decide) ?_
          have hP := hP.sub (ws' := [(h0, .inr (10, [.ref tby, .int (nI kt), .ref tln, .ref tsp, .int kd13484, .int (nI ks13485), .int (nI kn13486), .int vtf])), (tby, .inl (G.2.1, 240, .inl fby)), (tsp, .inr (8, [.int 120, .int 1, .ref tspc, .int (nI ksp)])), (tspc, .inl (G.2.1, 120, .inl ftsp))]) [2, 3, 0, 1] rfl
          have hD := hD.sub (ws' := [(h0, .inr (10, [.ref tby, .int (nI kt), .ref tln, .ref tsp, .int kd13484, .int (nI ks13485), .int (nI kn13486), .int vtf])), (tby, .inl (G.2.1, 240, .inl fby)), (tsp, .inr (8, [.int 120, .int 1, .ref tspc, .int (nI ksp)])), (tspc, .inl (G.2.1, 120, .inl ftsp))]) [2, 3, 0, 1] (by decide) rfl
          exact ihP (kP + 1) 0 kd13484 vtf ks13485 kn13486 _ _ _ (by omega) (by first | assumption | exact Or.inl rfl | exact Or.inr rfl | omega) (by first | assumption | exact Or.inl rfl | exact Or.inr rfl | omega) hP hD hS (lv_sub hl [0, 1, 2, 3] rfl)
        · refine lv_iconst (v := 1) hx hb dX10_takesOne_28 (by decide) ?_
          refine lv_goto (tgt := 33) hx hb dX10_takesOne_29 (by decide) ?_
          refine lv_istore_n (lv' := [(2, .int 1), (3, .int (nI kP)), (0, .ref h0), (1, .int 1)]) hx hb dX10_takesOne_33 rfl hl (by decide) rfl (fun ls hl => ?_)
          refine lv_iinc (v := nI (kP + 1)) (lv' := [(3, .int (nI (kP + 1))), (2, .int 1), (0, .ref h0), (1, .int 1)]) hx hb dX10_takesOne_34 hl (k := 1) rfl (nI_1 _) (by decide) rfl (fun ls hl => ?_)
          refine lv_goto (tgt := 4) hx hb dX10_takesOne_37 (by decide) ?_
          have hP := hP.sub (ws' := [(h0, .inr (10, [.ref tby, .int (nI kt), .ref tln, .ref tsp, .int kd13484, .int (nI ks13485), .int (nI kn13486), .int vtf])), (tby, .inl (G.2.1, 240, .inl fby)), (tsp, .inr (8, [.int 120, .int 1, .ref tspc, .int (nI ksp)])), (tspc, .inl (G.2.1, 120, .inl ftsp))]) [2, 3, 0, 1] rfl
          have hD := hD.sub (ws' := [(h0, .inr (10, [.ref tby, .int (nI kt), .ref tln, .ref tsp, .int kd13484, .int (nI ks13485), .int (nI kn13486), .int vtf])), (tby, .inl (G.2.1, 240, .inl fby)), (tsp, .inr (8, [.int 120, .int 1, .ref tspc, .int (nI ksp)])), (tspc, .inl (G.2.1, 120, .inl ftsp))]) [2, 3, 0, 1] (by decide) rfl
          exact ihP (kP + 1) 1 kd13484 vtf ks13485 kn13486 _ _ _ (by omega) (by first | assumption | exact Or.inl rfl | exact Or.inr rfl | omega) (by first | assumption | exact Or.inl rfl | exact Or.inr rfl | omega) hP hD hS (lv_sub hl [0, 1, 2, 3] rfl)
      · refine lv_if_eq (tgt := 40) hx hb dX10_takesOne_17 (by decide) (fun _ => ?_) (fun c9 => absurd (by decide) c9)
        refine lv_aload_n hx hb dX10_takesOne_40 rfl (lv_at hl 2 rfl) ?_
        refine gf_X10_31 hC rfl hK hP 0 rfl rfl dX10_takesOne_41 ?_
        refine lv_bipush (v := 40) hx hb dX10_takesOne_44 (by decide) ?_
        refine lv_icmp_eq (tgt := 58) hx hb dX10_takesOne_46 (by decide) (fun c_46_3489 => ?_) (fun c_46_3489 => ?_)
        · refine lv_iload_n hx hb dX10_takesOne_58 rfl (lv_at hl 3 rfl) ?_
          refine lv_iconst (v := 4) hx hb dX10_takesOne_59 (by decide) ?_
          refine lv_icmp_lt (tgt := 68) hx hb dX10_takesOne_60 (by decide) (fun _ => ?_) (fun c9 => absurd (by decide) c9)
          refine lv_aload_n hx hb dX10_takesOne_68 rfl (lv_at hl 2 rfl) ?_
          refine vV (wr := [(tsp, .inr (8, [.int 120, .int 1, .ref tspc, .int (nI ksp)])), (tspc, .inl (G.2.1, 120, .inl ftsp))]) hC hK hl hP hD hS hA (t_advance l G h0 tby kt tln tsp vkd vks vkn vtf fby (by omega) (by omega) (by omega)) si_X10_47 [0, 1] [2, 3] rfl rfl (by decide) rfl (by decide) (by decide) rfl rfl rfl rfl rfl (Nat.le_of_ble_eq_true rfl) ⟨Nat.le_of_ble_eq_true rfl, Nat.le_of_ble_eq_true rfl⟩ ⟨Nat.le_of_ble_eq_true rfl, Nat.le_of_ble_eq_true rfl⟩ dX10_takesOne_69 (fun u3491 H locs hr3490 hP hD hS => ?_)
          obtain ⟨kd13492, ks13493, kn13494⟩ := u3491
          try dsimp only at hr3490
          have hP : va_P G.1 vwCl [(tsp, .inr (8, [.int 120, .int 1, .ref tspc, .int (nI ksp)])), (tspc, .inl (G.2.1, 120, .inl ftsp)), (h0, .inr (10, [.ref tby, .int (nI kt), .ref tln, .ref tsp, .int kd13492, .int (nI ks13493), .int (nI kn13494), .int vtf])), (tby, .inl (G.2.1, 240, .inl fby))] H := hP
          have hD : va_D A [(tsp, .inr (8, [.int 120, .int 1, .ref tspc, .int (nI ksp)])), (tspc, .inl (G.2.1, 120, .inl ftsp)), (h0, .inr (10, [.ref tby, .int (nI kt), .ref tln, .ref tsp, .int kd13492, .int (nI ks13493), .int (nI kn13494), .int vtf])), (tby, .inl (G.2.1, 240, .inl fby))] := hD
          have w3495 := hr3490
          refine lv_aload_n hx hb dX10_takesOne_72 rfl (lv_at hl 2 rfl) ?_
          refine lv_iload_n hx hb dX10_takesOne_73 rfl (lv_at hl 3 rfl) ?_
          refine lv_iconst (v := 1) hx hb dX10_takesOne_74 (by decide) ?_
          refine lv_iadd hx hb dX10_takesOne_75 ?_
          refine eqi (x1 := 2) (by decide) ?_
          refine iVo (wr := []) hO hC hK hl hP hD hS hA (t_cond2 l G K h0 tby kt tln tsp kd13492 ks13493 kn13494 vtf fby tspc ksp ftsp (by omega) (by omega) (by omega) (by omega)) si_X10_121 [2, 3, 0, 1] [] rfl rfl (by decide) rfl (by decide) (by decide) rfl rfl rfl rfl rfl (Nat.le_of_ble_eq_true rfl) ⟨Nat.le_of_ble_eq_true rfl, Nat.le_of_ble_eq_true rfl⟩ ⟨Nat.le_of_ble_eq_true rfl, Nat.le_of_ble_eq_true rfl⟩ dX10_takesOne_76 (fun r3496 u3497 H locs hr3496 hP hD hS => ?_)
          obtain ⟨kd13498, ks13499, kn13500, tf13501, ksp13502, gtsp3503⟩ := u3497
          try dsimp only at hr3496
          have hP : va_P G.1 vwCl [(h0, .inr (10, [.ref tby, .int (nI kt), .ref tln, .ref tsp, .int kd13498, .int (nI ks13499), .int (nI kn13500), .int tf13501])), (tby, .inl (G.2.1, 240, .inl fby)), (tsp, .inr (8, [.int 120, .int 1, .ref tspc, .int (nI ksp13502)])), (tspc, .inl (G.2.1, 120, .inl gtsp3503))] H := hP
          have hD : va_D A [(h0, .inr (10, [.ref tby, .int (nI kt), .ref tln, .ref tsp, .int kd13498, .int (nI ks13499), .int (nI kn13500), .int tf13501])), (tby, .inl (G.2.1, 240, .inl fby)), (tsp, .inr (8, [.int 120, .int 1, .ref tspc, .int (nI ksp13502)])), (tspc, .inl (G.2.1, 120, .inl gtsp3503))] := hD
          obtain ⟨hr3496, w3504⟩ := hr3496
          rcases hr3496 with rfl | rfl
          · refine lv_if_eq (tgt := 91) hx hb dX10_takesOne_79 (by decide) (fun c9 => absurd c9 (by decide)) (fun _ => ?_)
            refine lv_aload_n hx hb dX10_takesOne_82 rfl (lv_at hl 2 rfl) ?_
            refine lv_bipush (v := 41) hx hb dX10_takesOne_83 (by decide) ?_
            refine iV (wr := [(tsp, .inr (8, [.int 120, .int 1, .ref tspc, .int (nI ksp13502)])), (tspc, .inl (G.2.1, 120, .inl gtsp3503))]) hC hK hl hP hD hS hA (t_takesByte l G h0 41 tby kt tln tsp kd13498 ks13499 kn13500 tf13501 fby (by omega) (by omega) (by omega)) si_X10_124 [0, 1] [2, 3] rfl rfl (by decide) rfl (by decide) (by decide) rfl rfl rfl rfl rfl (Nat.le_of_ble_eq_true rfl) ⟨Nat.le_of_ble_eq_true rfl, Nat.le_of_ble_eq_true rfl⟩ ⟨Nat.le_of_ble_eq_true rfl, Nat.le_of_ble_eq_true rfl⟩ dX10_takesOne_85 (fun r3506 u3507 H locs hr3506 hP hD hS => ?_)
            obtain ⟨kd13508, ks13509, kn13510, tf13511⟩ := u3507
            try dsimp only at hr3506
            have hP : va_P G.1 vwCl [(tsp, .inr (8, [.int 120, .int 1, .ref tspc, .int (nI ksp13502)])), (tspc, .inl (G.2.1, 120, .inl gtsp3503)), (h0, .inr (10, [.ref tby, .int (nI kt), .ref tln, .ref tsp, .int kd13508, .int (nI ks13509), .int (nI kn13510), .int tf13511])), (tby, .inl (G.2.1, 240, .inl fby))] H := hP
            have hD : va_D A [(tsp, .inr (8, [.int 120, .int 1, .ref tspc, .int (nI ksp13502)])), (tspc, .inl (G.2.1, 120, .inl gtsp3503)), (h0, .inr (10, [.ref tby, .int (nI kt), .ref tln, .ref tsp, .int kd13508, .int (nI ks13509), .int (nI kn13510), .int tf13511])), (tby, .inl (G.2.1, 240, .inl fby))] := hD
            obtain ⟨hr3506, w3512⟩ := hr3506
            rcases hr3506 with rfl | rfl
            · refine lv_if_ne (tgt := 93) hx hb dX10_takesOne_88 (by decide) (fun _ => ?_) (fun c9 => absurd c9 (by decide))
              refine lv_iload_n hx hb dX10_takesOne_93 rfl (lv_at hl 1 rfl) ?_
              refine lv_if_eq (tgt := 102) hx hb dX10_takesOne_94 (by decide) (fun c_94_3514 => ?_) (fun c_94_3514 => ?_)
              · refine lv_iconst (v := 1) hx hb dX10_takesOne_102 (by decide) ?_
                exact RI (v := 1) hC hP hD hS [2, 3, 0, 1] (kd13508, ks13509, kn13510, tf13511, ksp13502, gtsp3503) rfl rfl (by decide) (⟨Or.inl (rfl), by dsimp only; omega⟩) (by decide +kernel) dX10_takesOne_103
              · refine lv_aload_n hx hb dX10_takesOne_97 rfl (lv_at hl 2 rfl) ?_
                refine lv_iconst (v := (-1)) hx hb dX10_takesOne_98 (by decide) ?_
                refine vV (wr := [(tby, .inl (G.2.1, 240, .inl fby))]) hC hK hl hP hD hS hA (t_addStep l G h0 (-1) tby kt tln tsp kd13508 ks13509 kn13510 tf13511 tspc ksp13502 gtsp3503 (by omega)) si_X10_152 [2, 0, 1] [3] rfl rfl (by decide) rfl (by decide) (by decide) rfl rfl rfl rfl rfl (Nat.le_of_ble_eq_true rfl) ⟨Nat.le_of_ble_eq_true rfl, Nat.le_of_ble_eq_true rfl⟩ ⟨Nat.le_of_ble_eq_true rfl, Nat.le_of_ble_eq_true rfl⟩ dX10_takesOne_99 (fun u3516 H locs hr3515 hP hD hS => ?_)
                obtain ⟨ksp13517, gtsp3518⟩ := u3516
                try dsimp only at hr3515
                have hP : va_P G.1 vwCl [(tby, .inl (G.2.1, 240, .inl fby)), (h0, .inr (10, [.ref tby, .int (nI kt), .ref tln, .ref tsp, .int kd13508, .int (nI ks13509), .int (nI kn13510), .int tf13511])), (tsp, .inr (8, [.int 120, .int 1, .ref tspc, .int (nI ksp13517)])), (tspc, .inl (G.2.1, 120, .inl gtsp3518))] H := hP
                have hD : va_D A [(tby, .inl (G.2.1, 240, .inl fby)), (h0, .inr (10, [.ref tby, .int (nI kt), .ref tln, .ref tsp, .int kd13508, .int (nI ks13509), .int (nI kn13510), .int tf13511])), (tsp, .inr (8, [.int 120, .int 1, .ref tspc, .int (nI ksp13517)])), (tspc, .inl (G.2.1, 120, .inl gtsp3518))] := hD
                have w3519 := hr3515
                refine lv_iconst (v := 1) hx hb dX10_takesOne_102 (by decide) ?_
                exact RI (v := 1) hC hP hD hS [1, 0, 2, 3] (kd13508, ks13509, kn13510, tf13511, ksp13517, gtsp3518) rfl rfl (by decide) (⟨Or.inl (rfl), by dsimp only; omega⟩) (by decide +kernel) dX10_takesOne_103
            · refine lv_if_ne (tgt := 93) hx hb dX10_takesOne_88 (by decide) (fun c9 => absurd (by decide) c9) (fun _ => ?_)
              refine lv_iconst (v := 0) hx hb dX10_takesOne_91 (by decide) ?_
              exact RI (v := 0) hC hP hD hS [2, 3, 0, 1] (kd13508, ks13509, kn13510, tf13511, ksp13502, gtsp3503) rfl rfl (by decide) (⟨Or.inr (rfl), by dsimp only; omega⟩) (by decide +kernel) dX10_takesOne_92
          · refine lv_if_eq (tgt := 91) hx hb dX10_takesOne_79 (by decide) (fun _ => ?_) (fun c9 => absurd (by decide) c9)
            refine lv_iconst (v := 0) hx hb dX10_takesOne_91 (by decide) ?_
            exact RI (v := 0) hC hP hD hS [0, 1, 2, 3] (kd13498, ks13499, kn13500, tf13501, ksp13502, gtsp3503) rfl rfl (by decide) (⟨Or.inr (rfl), by dsimp only; omega⟩) (by decide +kernel) dX10_takesOne_92
        · refine lv_aload_n hx hb dX10_takesOne_49 rfl (lv_at hl 2 rfl) ?_
          refine iVo (wr := []) hO hC hK hl hP hD hS hA (t_takesComparison l G K h0 tby kt tln tsp vkd vks vkn vtf fby tspc ksp ftsp (by omega) (by omega) (by omega) (by omega)) si_X10_162 [0, 1, 2, 3] [] rfl rfl (by decide) rfl (by decide) (by decide) rfl rfl rfl rfl rfl (Nat.le_of_ble_eq_true rfl) ⟨Nat.le_of_ble_eq_true rfl, Nat.le_of_ble_eq_true rfl⟩ ⟨Nat.le_of_ble_eq_true rfl, Nat.le_of_ble_eq_true rfl⟩ dX10_takesOne_50 (fun r3520 u3521 H locs hr3520 hP hD hS => ?_)
          obtain ⟨kd13522, ks13523, kn13524, tf13525, ksp13526, gtsp3527⟩ := u3521
          try dsimp only at hr3520
          have hP : va_P G.1 vwCl [(h0, .inr (10, [.ref tby, .int (nI kt), .ref tln, .ref tsp, .int kd13522, .int (nI ks13523), .int (nI kn13524), .int tf13525])), (tby, .inl (G.2.1, 240, .inl fby)), (tsp, .inr (8, [.int 120, .int 1, .ref tspc, .int (nI ksp13526)])), (tspc, .inl (G.2.1, 120, .inl gtsp3527))] H := hP
          have hD : va_D A [(h0, .inr (10, [.ref tby, .int (nI kt), .ref tln, .ref tsp, .int kd13522, .int (nI ks13523), .int (nI kn13524), .int tf13525])), (tby, .inl (G.2.1, 240, .inl fby)), (tsp, .inr (8, [.int 120, .int 1, .ref tspc, .int (nI ksp13526)])), (tspc, .inl (G.2.1, 120, .inl gtsp3527))] := hD
          obtain ⟨hr3520, w3528⟩ := hr3520
          rcases hr3520 with rfl | rfl
          · refine lv_if_ne (tgt := 93) hx hb dX10_takesOne_53 (by decide) (fun _ => ?_) (fun c9 => absurd c9 (by decide))
            refine lv_iload_n hx hb dX10_takesOne_93 rfl (lv_at hl 1 rfl) ?_
            refine lv_if_eq (tgt := 102) hx hb dX10_takesOne_94 (by decide) (fun c_94_3530 => ?_) (fun c_94_3530 => ?_)
            · refine lv_iconst (v := 1) hx hb dX10_takesOne_102 (by decide) ?_
              exact RI (v := 1) hC hP hD hS [0, 1, 2, 3] (kd13522, ks13523, kn13524, tf13525, ksp13526, gtsp3527) rfl rfl (by decide) (⟨Or.inl (rfl), by dsimp only; omega⟩) (by decide +kernel) dX10_takesOne_103
            · refine lv_aload_n hx hb dX10_takesOne_97 rfl (lv_at hl 2 rfl) ?_
              refine lv_iconst (v := (-1)) hx hb dX10_takesOne_98 (by decide) ?_
              refine vV (wr := [(tby, .inl (G.2.1, 240, .inl fby))]) hC hK hl hP hD hS hA (t_addStep l G h0 (-1) tby kt tln tsp kd13522 ks13523 kn13524 tf13525 tspc ksp13526 gtsp3527 (by omega)) si_X10_152 [0, 2, 3] [1] rfl rfl (by decide) rfl (by decide) (by decide) rfl rfl rfl rfl rfl (Nat.le_of_ble_eq_true rfl) ⟨Nat.le_of_ble_eq_true rfl, Nat.le_of_ble_eq_true rfl⟩ ⟨Nat.le_of_ble_eq_true rfl, Nat.le_of_ble_eq_true rfl⟩ dX10_takesOne_99 (fun u3532 H locs hr3531 hP hD hS => ?_)
              obtain ⟨ksp13533, gtsp3534⟩ := u3532
              try dsimp only at hr3531
              have hP : va_P G.1 vwCl [(tby, .inl (G.2.1, 240, .inl fby)), (h0, .inr (10, [.ref tby, .int (nI kt), .ref tln, .ref tsp, .int kd13522, .int (nI ks13523), .int (nI kn13524), .int tf13525])), (tsp, .inr (8, [.int 120, .int 1, .ref tspc, .int (nI ksp13533)])), (tspc, .inl (G.2.1, 120, .inl gtsp3534))] H := hP
              have hD : va_D A [(tby, .inl (G.2.1, 240, .inl fby)), (h0, .inr (10, [.ref tby, .int (nI kt), .ref tln, .ref tsp, .int kd13522, .int (nI ks13523), .int (nI kn13524), .int tf13525])), (tsp, .inr (8, [.int 120, .int 1, .ref tspc, .int (nI ksp13533)])), (tspc, .inl (G.2.1, 120, .inl gtsp3534))] := hD
              have w3535 := hr3531
              refine lv_iconst (v := 1) hx hb dX10_takesOne_102 (by decide) ?_
              exact RI (v := 1) hC hP hD hS [1, 0, 2, 3] (kd13522, ks13523, kn13524, tf13525, ksp13533, gtsp3534) rfl rfl (by decide) (⟨Or.inl (rfl), by dsimp only; omega⟩) (by decide +kernel) dX10_takesOne_103
          · refine lv_if_ne (tgt := 93) hx hb dX10_takesOne_53 (by decide) (fun c9 => absurd (by decide) c9) (fun _ => ?_)
            refine lv_iconst (v := 0) hx hb dX10_takesOne_56 (by decide) ?_
            exact RI (v := 0) hC hP hD hS [0, 1, 2, 3] (kd13522, ks13523, kn13524, tf13525, ksp13526, gtsp3527) rfl rfl (by decide) (⟨Or.inr (rfl), by dsimp only; omega⟩) (by decide +kernel) dX10_takesOne_57
  exact keyP 240 0 0 tkd tf9 ks kn _ _ _ (by omega) (by first | assumption | exact Or.inl rfl | exact Or.inr rfl | omega) (by first | assumption | exact Or.inl rfl | exact Or.inr rfl | omega) hP hD hS (lv_sub hl [0, 1, 2, 3] rfl)
set_option maxHeartbeats 4000000 in
set_option maxRecDepth 100000 in
theorem t_all1 (l : Launch) (G : GG) (K : OO) (h0 : Nat) (tby : Nat) (kt : Nat) (tln : Nat) (tsp : Nat) (tkd : Int32) (ks : Nat) (kn : Nat) (tf9 : Int32) (fby : Nat → Int32) (tspc : Nat) (ksp : Nat) (ftsp : Nat → Int32) (hkt : kt ≤ 240) (hks : ks ≤ 240) (hkn : kn ≤ 240) (hksp : ksp ≤ 120) : MIo l G K yX10_takesAll cX10_takesAll 3 (some .boolean) 22 0 0 [.ref h0, .int 1] [(h0, .inr (10, [.ref tby, .int (nI kt), .ref tln, .ref tsp, .int tkd, .int (nI ks), .int (nI kn), .int tf9])), (tby, .inl (G.2.1, 240, .inl fby)), (tsp, .inr (8, [.int 120, .int 1, .ref tspc, .int (nI ksp)])), (tspc, .inl (G.2.1, 120, .inl ftsp))] (fun (r : Int32) (u : Int32 × Nat × Nat × Int32 × Nat × (Nat → Int32)) => (r = 1 ∨ r = 0) ∧ (u.2.1 ≤ 240 ∧ u.2.2.1 ≤ 240 ∧ u.2.2.2.2.1 ≤ 120)) (fun u : Int32 × Nat × Nat × Int32 × Nat × (Nat → Int32) => [(h0, .inr (10, [.ref tby, .int (nI kt), .ref tln, .ref tsp, .int u.1, .int (nI u.2.1), .int (nI u.2.2.1), .int u.2.2.2.1])), (tby, .inl (G.2.1, 240, .inl fby)), (tsp, .inr (8, [.int 120, .int 1, .ref tspc, .int (nI u.2.2.2.2.1)])), (tspc, .inl (G.2.1, 120, .inl u.2.2.2.2.2))]) := by
  refine MIo.start (by decide +kernel) (Nat.le_of_ble_eq_true rfl) ?_
  intro p e s m below meth c A ls hC hK hP hD hS hA hl hO
  have hl : lv_has ls 3 [(0, .ref h0), (1, .int 1)] := hl
  obtain ⟨hx, hb, hr, hml, hB, hown, hlocks, hnm⟩ := id hC
  refine lv_aload_n hx hb dX10_takesAll_0 rfl (lv_at hl 0 rfl) ?_
  refine lv_iload_n hx hb dX10_takesAll_1 rfl (lv_at hl 1 rfl) ?_
  refine iVo (wr := []) hO hC hK hl hP hD hS hA (t_one1 l G K h0 tby kt tln tsp tkd ks kn tf9 fby tspc ksp ftsp (by omega) (by omega) (by omega) (by omega)) si_X10_155 [0, 1, 2, 3] [] rfl rfl (by decide) rfl (by decide) (by decide) rfl rfl rfl rfl rfl (Nat.le_of_ble_eq_true rfl) ⟨Nat.le_of_ble_eq_true rfl, Nat.le_of_ble_eq_true rfl⟩ ⟨Nat.le_of_ble_eq_true rfl, Nat.le_of_ble_eq_true rfl⟩ dX10_takesAll_2 (fun r3536 u3537 H locs hr3536 hP hD hS => ?_)
  obtain ⟨kd13538, ks13539, kn13540, tf13541, ksp13542, gtsp3543⟩ := u3537
  try dsimp only at hr3536
  have hP : va_P G.1 vwCl [(h0, .inr (10, [.ref tby, .int (nI kt), .ref tln, .ref tsp, .int kd13538, .int (nI ks13539), .int (nI kn13540), .int tf13541])), (tby, .inl (G.2.1, 240, .inl fby)), (tsp, .inr (8, [.int 120, .int 1, .ref tspc, .int (nI ksp13542)])), (tspc, .inl (G.2.1, 120, .inl gtsp3543))] H := hP
  have hD : va_D A [(h0, .inr (10, [.ref tby, .int (nI kt), .ref tln, .ref tsp, .int kd13538, .int (nI ks13539), .int (nI kn13540), .int tf13541])), (tby, .inl (G.2.1, 240, .inl fby)), (tsp, .inr (8, [.int 120, .int 1, .ref tspc, .int (nI ksp13542)])), (tspc, .inl (G.2.1, 120, .inl gtsp3543))] := hD
  obtain ⟨hr3536, w3544⟩ := hr3536
  rcases hr3536 with rfl | rfl
  · refine lv_if_ne (tgt := 10) hx hb dX10_takesAll_5 (by decide) (fun _ => ?_) (fun c9 => absurd c9 (by decide))
    refine lv_iconst (v := 0) hx hb dX10_takesAll_10 (by decide) ?_
    refine lv_istore_n (lv' := [(2, .int 0), (0, .ref h0), (1, .int 1)]) hx hb dX10_takesAll_11 rfl hl (by decide) rfl (fun ls hl => ?_)
    have keyP : ∀ (nP kP : Nat) (vkd : Int32) (vtf : Int32) (vtsp : Nat → Int32) (vks : Nat) (vkn : Nat) (vksp : Nat) (H : Heap) (locs : List Loc) (ls : Array Slot), kP + nP = 240 → (vks ≤ 240) → (vkn ≤ 240) → (vksp ≤ 120) → va_P G.1 vwCl [(h0, .inr (10, [.ref tby, .int (nI kt), .ref tln, .ref tsp, .int vkd, .int (nI vks), .int (nI vkn), .int vtf])), (tby, .inl (G.2.1, 240, .inl fby)), (tsp, .inr (8, [.int 120, .int 1, .ref tspc, .int (nI vksp)])), (tspc, .inl (G.2.1, 120, .inl vtsp))] H → va_D A [(h0, .inr (10, [.ref tby, .int (nI kt), .ref tln, .ref tsp, .int vkd, .int (nI vks), .int (nI vkn), .int vtf])), (tby, .inl (G.2.1, 240, .inl fby)), (tsp, .inr (8, [.int 120, .int 1, .ref tspc, .int (nI vksp)])), (tspc, .inl (G.2.1, 120, .inl vtsp))] → va_S A s.heap H locs → lv_has ls 3 [(2, .int (nI kP)), (0, .ref h0), (1, .int 1)] → W p l e (RM 22 0 0) s m ([.ref h0, .int 1] : List Value).toArray below meth c H locs 0 0 (MQ below (QI G (fun (r : Int32) (u : Int32 × Nat × Nat × Int32 × Nat × (Nat → Int32)) => (r = 1 ∨ r = 0) ∧ (u.2.1 ≤ 240 ∧ u.2.2.1 ≤ 240 ∧ u.2.2.2.2.1 ≤ 120)) (fun u : Int32 × Nat × Nat × Int32 × Nat × (Nat → Int32) => [(h0, .inr (10, [.ref tby, .int (nI kt), .ref tln, .ref tsp, .int u.1, .int (nI u.2.1), .int (nI u.2.2.1), .int u.2.2.2.1])), (tby, .inl (G.2.1, 240, .inl fby)), (tsp, .inr (8, [.int 120, .int 1, .ref tspc, .int (nI u.2.2.2.2.1)])), (tspc, .inl (G.2.1, 120, .inl u.2.2.2.2.2))]) A) ([.ref h0, .int 1] : List Value).toArray s 0 0 A) (F0 m 12 ls []) := by
      intro nP
      induction nP with
      | zero =>
        intro kP vkd vtf vtsp vks vkn vksp H locs ls hkP hvks hvkn hvksp hP hD hS hl
        obtain rfl : 240 = kP := by omega
        have hl : lv_has ls 3 [(2, .int 240), (0, .ref h0), (1, .int 1)] := hl
        refine lv_iload_n hx hb dX10_takesAll_12 rfl (lv_at hl 0 rfl) ?_
        refine lv_sipush (v := 240) hx hb dX10_takesAll_13 (by decide) ?_
        refine lv_icmp_ge (tgt := 54) hx hb dX10_takesAll_16 (by decide) (fun _ => ?_) (fun c9 => absurd (by decide) c9)
        refine lv_iconst (v := 1) hx hb dX10_takesAll_54 (by decide) ?_
        exact RI (v := 1) hC hP hD hS [0, 1, 2, 3] (vkd, vks, vkn, vtf, vksp, vtsp) rfl rfl (by decide) (⟨Or.inl (rfl), by dsimp only; omega⟩) (by decide +kernel) dX10_takesAll_55
      | succ nP ihP =>
        intro kP vkd vtf vtsp vks vkn vksp H locs ls hkP hvks hvkn hvksp hP hD hS hl
        refine lv_iload_n hx hb dX10_takesAll_12 rfl (lv_at hl 0 rfl) ?_
        refine lv_sipush (v := 240) hx hb dX10_takesAll_13 (by decide) ?_
        refine lv_icmp_ge (tgt := 54) hx hb dX10_takesAll_16 (by decide) (fun c9 => absurd c9 (nI_ge (a := kP) (b := 240) (by omega) (by omega))) (fun _ => ?_)
        refine lv_aload_n hx hb dX10_takesAll_19 rfl (lv_at hl 1 rfl) ?_
        refine va_ldcS (index := 158) (tx := "and") hx hb hown (hO.2.1 9 (by decide)) dX10_takesAll_20 ?_
        refine pVo hO hS hC hK hl hP hD (t_isName l G K 9 h0 tby kt tln tsp vkd vks vkn vtf fby (by omega) (by omega) (by omega) ((by decide))) si_X10_102 [0, 1] rfl rfl (by decide) rfl rfl rfl rfl rfl (Nat.le_of_ble_eq_true rfl) ⟨Nat.le_of_ble_eq_true rfl, Nat.le_of_ble_eq_true rfl⟩ ⟨by first | exact Nat.le_of_ble_eq_true rfl | exact Nat.zero_le _, by first | exact Nat.le_of_ble_eq_true rfl | exact Nat.zero_le _⟩ dX10_takesAll_22 (fun r3546 hr3546 => ?_)
        rcases hr3546 with rfl | rfl
        · refine lv_if_eq (tgt := 54) hx hb dX10_takesAll_25 (by decide) (fun c9 => absurd c9 (by decide)) (fun _ => ?_)
          refine lv_aload_n hx hb dX10_takesAll_28 rfl (lv_at hl 1 rfl) ?_
          refine vV (wr := [(tsp, .inr (8, [.int 120, .int 1, .ref tspc, .int (nI vksp)])), (tspc, .inl (G.2.1, 120, .inl vtsp))]) hC hK hl hP hD hS hA (t_advance l G h0 tby kt tln tsp vkd vks vkn vtf fby (by omega) (by omega) (by omega)) si_X10_47 [0, 1] [2, 3] rfl rfl (by decide) rfl (by decide) (by decide) rfl rfl rfl rfl rfl (Nat.le_of_ble_eq_true rfl) ⟨Nat.le_of_ble_eq_true rfl, Nat.le_of_ble_eq_true rfl⟩ ⟨Nat.le_of_ble_eq_true rfl, Nat.le_of_ble_eq_true rfl⟩ dX10_takesAll_29 (fun u3549 H locs hr3548 hP hD hS => ?_)
          obtain ⟨kd13550, ks13551, kn13552⟩ := u3549
          try dsimp only at hr3548
          have hP : va_P G.1 vwCl [(tsp, .inr (8, [.int 120, .int 1, .ref tspc, .int (nI vksp)])), (tspc, .inl (G.2.1, 120, .inl vtsp)), (h0, .inr (10, [.ref tby, .int (nI kt), .ref tln, .ref tsp, .int kd13550, .int (nI ks13551), .int (nI kn13552), .int vtf])), (tby, .inl (G.2.1, 240, .inl fby))] H := hP
          have hD : va_D A [(tsp, .inr (8, [.int 120, .int 1, .ref tspc, .int (nI vksp)])), (tspc, .inl (G.2.1, 120, .inl vtsp)), (h0, .inr (10, [.ref tby, .int (nI kt), .ref tln, .ref tsp, .int kd13550, .int (nI ks13551), .int (nI kn13552), .int vtf])), (tby, .inl (G.2.1, 240, .inl fby))] := hD
          have w3553 := hr3548
          refine lv_aload_n hx hb dX10_takesAll_32 rfl (lv_at hl 1 rfl) ?_
          refine lv_iload_n hx hb dX10_takesAll_33 rfl (lv_at hl 2 rfl) ?_
          refine iVo (wr := []) hO hC hK hl hP hD hS hA (t_one1 l G K h0 tby kt tln tsp kd13550 ks13551 kn13552 vtf fby tspc vksp vtsp (by omega) (by omega) (by omega) (by omega)) si_X10_155 [2, 3, 0, 1] [] rfl rfl (by decide) rfl (by decide) (by decide) rfl rfl rfl rfl rfl (Nat.le_of_ble_eq_true rfl) ⟨Nat.le_of_ble_eq_true rfl, Nat.le_of_ble_eq_true rfl⟩ ⟨Nat.le_of_ble_eq_true rfl, Nat.le_of_ble_eq_true rfl⟩ dX10_takesAll_34 (fun r3554 u3555 H locs hr3554 hP hD hS => ?_)
          obtain ⟨kd13556, ks13557, kn13558, tf13559, ksp13560, gtsp3561⟩ := u3555
          try dsimp only at hr3554
          have hP : va_P G.1 vwCl [(h0, .inr (10, [.ref tby, .int (nI kt), .ref tln, .ref tsp, .int kd13556, .int (nI ks13557), .int (nI kn13558), .int tf13559])), (tby, .inl (G.2.1, 240, .inl fby)), (tsp, .inr (8, [.int 120, .int 1, .ref tspc, .int (nI ksp13560)])), (tspc, .inl (G.2.1, 120, .inl gtsp3561))] H := hP
          have hD : va_D A [(h0, .inr (10, [.ref tby, .int (nI kt), .ref tln, .ref tsp, .int kd13556, .int (nI ks13557), .int (nI kn13558), .int tf13559])), (tby, .inl (G.2.1, 240, .inl fby)), (tsp, .inr (8, [.int 120, .int 1, .ref tspc, .int (nI ksp13560)])), (tspc, .inl (G.2.1, 120, .inl gtsp3561))] := hD
          obtain ⟨hr3554, w3562⟩ := hr3554
          rcases hr3554 with rfl | rfl
          · refine lv_if_ne (tgt := 42) hx hb dX10_takesAll_37 (by decide) (fun _ => ?_) (fun c9 => absurd c9 (by decide))
            refine lv_aload_n hx hb dX10_takesAll_42 rfl (lv_at hl 1 rfl) ?_
            refine lv_bipush (v := (-2)) hx hb dX10_takesAll_43 (by decide) ?_
            refine vV (wr := [(tby, .inl (G.2.1, 240, .inl fby))]) hC hK hl hP hD hS hA (t_addStep l G h0 (-2) tby kt tln tsp kd13556 ks13557 kn13558 tf13559 tspc ksp13560 gtsp3561 (by omega)) si_X10_152 [0, 2, 3] [1] rfl rfl (by decide) rfl (by decide) (by decide) rfl rfl rfl rfl rfl (Nat.le_of_ble_eq_true rfl) ⟨Nat.le_of_ble_eq_true rfl, Nat.le_of_ble_eq_true rfl⟩ ⟨Nat.le_of_ble_eq_true rfl, Nat.le_of_ble_eq_true rfl⟩ dX10_takesAll_45 (fun u3565 H locs hr3564 hP hD hS => ?_)
            obtain ⟨ksp13566, gtsp3567⟩ := u3565
            try dsimp only at hr3564
            have hP : va_P G.1 vwCl [(tby, .inl (G.2.1, 240, .inl fby)), (h0, .inr (10, [.ref tby, .int (nI kt), .ref tln, .ref tsp, .int kd13556, .int (nI ks13557), .int (nI kn13558), .int tf13559])), (tsp, .inr (8, [.int 120, .int 1, .ref tspc, .int (nI ksp13566)])), (tspc, .inl (G.2.1, 120, .inl gtsp3567))] H := hP
            have hD : va_D A [(tby, .inl (G.2.1, 240, .inl fby)), (h0, .inr (10, [.ref tby, .int (nI kt), .ref tln, .ref tsp, .int kd13556, .int (nI ks13557), .int (nI kn13558), .int tf13559])), (tsp, .inr (8, [.int 120, .int 1, .ref tspc, .int (nI ksp13566)])), (tspc, .inl (G.2.1, 120, .inl gtsp3567))] := hD
            have w3568 := hr3564
            refine lv_iinc (v := nI (kP + 1)) (lv' := [(2, .int (nI (kP + 1))), (0, .ref h0), (1, .int 1)]) hx hb dX10_takesAll_48 hl (k := 0) rfl (nI_1 _) (by decide) rfl (fun ls hl => ?_)
            refine lv_goto (tgt := 12) hx hb dX10_takesAll_51 (by decide) ?_
            have hP := hP.sub (ws' := [(h0, .inr (10, [.ref tby, .int (nI kt), .ref tln, .ref tsp, .int kd13556, .int (nI ks13557), .int (nI kn13558), .int tf13559])), (tby, .inl (G.2.1, 240, .inl fby)), (tsp, .inr (8, [.int 120, .int 1, .ref tspc, .int (nI ksp13566)])), (tspc, .inl (G.2.1, 120, .inl gtsp3567))]) [1, 0, 2, 3] rfl
            have hD := hD.sub (ws' := [(h0, .inr (10, [.ref tby, .int (nI kt), .ref tln, .ref tsp, .int kd13556, .int (nI ks13557), .int (nI kn13558), .int tf13559])), (tby, .inl (G.2.1, 240, .inl fby)), (tsp, .inr (8, [.int 120, .int 1, .ref tspc, .int (nI ksp13566)])), (tspc, .inl (G.2.1, 120, .inl gtsp3567))]) [1, 0, 2, 3] (by decide) rfl
            exact ihP (kP + 1) kd13556 tf13559 gtsp3567 ks13557 kn13558 ksp13566 _ _ _ (by omega) (by first | assumption | exact Or.inl rfl | exact Or.inr rfl | omega) (by first | assumption | exact Or.inl rfl | exact Or.inr rfl | omega) (by first | assumption | exact Or.inl rfl | exact Or.inr rfl | omega) hP hD hS (lv_sub hl [0, 1, 2] rfl)
          · refine lv_if_ne (tgt := 42) hx hb dX10_takesAll_37 (by decide) (fun c9 => absurd (by decide) c9) (fun _ => ?_)
            refine lv_iconst (v := 0) hx hb dX10_takesAll_40 (by decide) ?_
            exact RI (v := 0) hC hP hD hS [0, 1, 2, 3] (kd13556, ks13557, kn13558, tf13559, ksp13560, gtsp3561) rfl rfl (by decide) (⟨Or.inr (rfl), by dsimp only; omega⟩) (by decide +kernel) dX10_takesAll_41
        · refine lv_if_eq (tgt := 54) hx hb dX10_takesAll_25 (by decide) (fun _ => ?_) (fun c9 => absurd (by decide) c9)
          refine lv_iconst (v := 1) hx hb dX10_takesAll_54 (by decide) ?_
          exact RI (v := 1) hC hP hD hS [0, 1, 2, 3] (vkd, vks, vkn, vtf, vksp, vtsp) rfl rfl (by decide) (⟨Or.inl (rfl), by dsimp only; omega⟩) (by decide +kernel) dX10_takesAll_55
    exact keyP 240 0 kd13538 tf13541 gtsp3543 ks13539 kn13540 ksp13542 _ _ _ (by omega) (by first | assumption | exact Or.inl rfl | exact Or.inr rfl | omega) (by first | assumption | exact Or.inl rfl | exact Or.inr rfl | omega) (by first | assumption | exact Or.inl rfl | exact Or.inr rfl | omega) hP hD hS (lv_sub hl [0, 1, 2] rfl)
  · refine lv_if_ne (tgt := 10) hx hb dX10_takesAll_5 (by decide) (fun c9 => absurd (by decide) c9) (fun _ => ?_)
    refine lv_iconst (v := 0) hx hb dX10_takesAll_8 (by decide) ?_
    exact RI (v := 0) hC hP hD hS [0, 1, 2, 3] (kd13538, ks13539, kn13540, tf13541, ksp13542, gtsp3543) rfl rfl (by decide) (⟨Or.inr (rfl), by dsimp only; omega⟩) (by decide +kernel) dX10_takesAll_9
set_option maxHeartbeats 4000000 in
set_option maxRecDepth 100000 in
theorem t_cond1 (l : Launch) (G : GG) (K : OO) (h0 : Nat) (tby : Nat) (kt : Nat) (tln : Nat) (tsp : Nat) (tkd : Int32) (ks : Nat) (kn : Nat) (tf9 : Int32) (fby : Nat → Int32) (tspc : Nat) (ksp : Nat) (ftsp : Nat → Int32) (hkt : kt ≤ 240) (hks : ks ≤ 240) (hkn : kn ≤ 240) (hksp : ksp ≤ 120) : MIo l G K yX10_takesCond cX10_takesCond 3 (some .boolean) 23 0 0 [.ref h0, .int 1] [(h0, .inr (10, [.ref tby, .int (nI kt), .ref tln, .ref tsp, .int tkd, .int (nI ks), .int (nI kn), .int tf9])), (tby, .inl (G.2.1, 240, .inl fby)), (tsp, .inr (8, [.int 120, .int 1, .ref tspc, .int (nI ksp)])), (tspc, .inl (G.2.1, 120, .inl ftsp))] (fun (r : Int32) (u : Int32 × Nat × Nat × Int32 × Nat × (Nat → Int32)) => (r = 1 ∨ r = 0) ∧ (u.2.1 ≤ 240 ∧ u.2.2.1 ≤ 240 ∧ u.2.2.2.2.1 ≤ 120)) (fun u : Int32 × Nat × Nat × Int32 × Nat × (Nat → Int32) => [(h0, .inr (10, [.ref tby, .int (nI kt), .ref tln, .ref tsp, .int u.1, .int (nI u.2.1), .int (nI u.2.2.1), .int u.2.2.2.1])), (tby, .inl (G.2.1, 240, .inl fby)), (tsp, .inr (8, [.int 120, .int 1, .ref tspc, .int (nI u.2.2.2.2.1)])), (tspc, .inl (G.2.1, 120, .inl u.2.2.2.2.2))]) := by
  refine MIo.start (by decide +kernel) (Nat.le_of_ble_eq_true rfl) ?_
  intro p e s m below meth c A ls hC hK hP hD hS hA hl hO
  have hl : lv_has ls 3 [(0, .ref h0), (1, .int 1)] := hl
  obtain ⟨hx, hb, hr, hml, hB, hown, hlocks, hnm⟩ := id hC
  refine lv_aload_n hx hb dX10_takesCond_0 rfl (lv_at hl 0 rfl) ?_
  refine lv_iload_n hx hb dX10_takesCond_1 rfl (lv_at hl 1 rfl) ?_
  refine iVo (wr := []) hO hC hK hl hP hD hS hA (t_all1 l G K h0 tby kt tln tsp tkd ks kn tf9 fby tspc ksp ftsp (by omega) (by omega) (by omega) (by omega)) si_X10_147 [0, 1, 2, 3] [] rfl rfl (by decide) rfl (by decide) (by decide) rfl rfl rfl rfl rfl (Nat.le_of_ble_eq_true rfl) ⟨Nat.le_of_ble_eq_true rfl, Nat.le_of_ble_eq_true rfl⟩ ⟨Nat.le_of_ble_eq_true rfl, Nat.le_of_ble_eq_true rfl⟩ dX10_takesCond_2 (fun r3569 u3570 H locs hr3569 hP hD hS => ?_)
  obtain ⟨kd13571, ks13572, kn13573, tf13574, ksp13575, gtsp3576⟩ := u3570
  try dsimp only at hr3569
  have hP : va_P G.1 vwCl [(h0, .inr (10, [.ref tby, .int (nI kt), .ref tln, .ref tsp, .int kd13571, .int (nI ks13572), .int (nI kn13573), .int tf13574])), (tby, .inl (G.2.1, 240, .inl fby)), (tsp, .inr (8, [.int 120, .int 1, .ref tspc, .int (nI ksp13575)])), (tspc, .inl (G.2.1, 120, .inl gtsp3576))] H := hP
  have hD : va_D A [(h0, .inr (10, [.ref tby, .int (nI kt), .ref tln, .ref tsp, .int kd13571, .int (nI ks13572), .int (nI kn13573), .int tf13574])), (tby, .inl (G.2.1, 240, .inl fby)), (tsp, .inr (8, [.int 120, .int 1, .ref tspc, .int (nI ksp13575)])), (tspc, .inl (G.2.1, 120, .inl gtsp3576))] := hD
  obtain ⟨hr3569, w3577⟩ := hr3569
  rcases hr3569 with rfl | rfl
  · refine lv_if_ne (tgt := 10) hx hb dX10_takesCond_5 (by decide) (fun _ => ?_) (fun c9 => absurd c9 (by decide))
    refine lv_iconst (v := 0) hx hb dX10_takesCond_10 (by decide) ?_
    refine lv_istore_n (lv' := [(2, .int 0), (0, .ref h0), (1, .int 1)]) hx hb dX10_takesCond_11 rfl hl (by decide) rfl (fun ls hl => ?_)
    have keyP : ∀ (nP kP : Nat) (vkd : Int32) (vtf : Int32) (vtsp : Nat → Int32) (vks : Nat) (vkn : Nat) (vksp : Nat) (H : Heap) (locs : List Loc) (ls : Array Slot), kP + nP = 240 → (vks ≤ 240) → (vkn ≤ 240) → (vksp ≤ 120) → va_P G.1 vwCl [(h0, .inr (10, [.ref tby, .int (nI kt), .ref tln, .ref tsp, .int vkd, .int (nI vks), .int (nI vkn), .int vtf])), (tby, .inl (G.2.1, 240, .inl fby)), (tsp, .inr (8, [.int 120, .int 1, .ref tspc, .int (nI vksp)])), (tspc, .inl (G.2.1, 120, .inl vtsp))] H → va_D A [(h0, .inr (10, [.ref tby, .int (nI kt), .ref tln, .ref tsp, .int vkd, .int (nI vks), .int (nI vkn), .int vtf])), (tby, .inl (G.2.1, 240, .inl fby)), (tsp, .inr (8, [.int 120, .int 1, .ref tspc, .int (nI vksp)])), (tspc, .inl (G.2.1, 120, .inl vtsp))] → va_S A s.heap H locs → lv_has ls 3 [(2, .int (nI kP)), (0, .ref h0), (1, .int 1)] → W p l e (RM 23 0 0) s m ([.ref h0, .int 1] : List Value).toArray below meth c H locs 0 0 (MQ below (QI G (fun (r : Int32) (u : Int32 × Nat × Nat × Int32 × Nat × (Nat → Int32)) => (r = 1 ∨ r = 0) ∧ (u.2.1 ≤ 240 ∧ u.2.2.1 ≤ 240 ∧ u.2.2.2.2.1 ≤ 120)) (fun u : Int32 × Nat × Nat × Int32 × Nat × (Nat → Int32) => [(h0, .inr (10, [.ref tby, .int (nI kt), .ref tln, .ref tsp, .int u.1, .int (nI u.2.1), .int (nI u.2.2.1), .int u.2.2.2.1])), (tby, .inl (G.2.1, 240, .inl fby)), (tsp, .inr (8, [.int 120, .int 1, .ref tspc, .int (nI u.2.2.2.2.1)])), (tspc, .inl (G.2.1, 120, .inl u.2.2.2.2.2))]) A) ([.ref h0, .int 1] : List Value).toArray s 0 0 A) (F0 m 12 ls []) := by
      intro nP
      induction nP with
      | zero =>
        intro kP vkd vtf vtsp vks vkn vksp H locs ls hkP hvks hvkn hvksp hP hD hS hl
        obtain rfl : 240 = kP := by omega
        have hl : lv_has ls 3 [(2, .int 240), (0, .ref h0), (1, .int 1)] := hl
        refine lv_iload_n hx hb dX10_takesCond_12 rfl (lv_at hl 0 rfl) ?_
        refine lv_sipush (v := 240) hx hb dX10_takesCond_13 (by decide) ?_
        refine lv_icmp_ge (tgt := 54) hx hb dX10_takesCond_16 (by decide) (fun _ => ?_) (fun c9 => absurd (by decide) c9)
        refine lv_iconst (v := 1) hx hb dX10_takesCond_54 (by decide) ?_
        exact RI (v := 1) hC hP hD hS [0, 1, 2, 3] (vkd, vks, vkn, vtf, vksp, vtsp) rfl rfl (by decide) (⟨Or.inl (rfl), by dsimp only; omega⟩) (by decide +kernel) dX10_takesCond_55
      | succ nP ihP =>
        intro kP vkd vtf vtsp vks vkn vksp H locs ls hkP hvks hvkn hvksp hP hD hS hl
        refine lv_iload_n hx hb dX10_takesCond_12 rfl (lv_at hl 0 rfl) ?_
        refine lv_sipush (v := 240) hx hb dX10_takesCond_13 (by decide) ?_
        refine lv_icmp_ge (tgt := 54) hx hb dX10_takesCond_16 (by decide) (fun c9 => absurd c9 (nI_ge (a := kP) (b := 240) (by omega) (by omega))) (fun _ => ?_)
        refine lv_aload_n hx hb dX10_takesCond_19 rfl (lv_at hl 1 rfl) ?_
        refine va_ldcS (index := 150) (tx := "o\x72") hx hb hown (hO.2.1 8 (by decide)) dX10_takesCond_20 ?_
        refine pVo hO hS hC hK hl hP hD (t_isName l G K 8 h0 tby kt tln tsp vkd vks vkn vtf fby (by omega) (by omega) (by omega) ((by decide))) si_X10_102 [0, 1] rfl rfl (by decide) rfl rfl rfl rfl rfl (Nat.le_of_ble_eq_true rfl) ⟨Nat.le_of_ble_eq_true rfl, Nat.le_of_ble_eq_true rfl⟩ ⟨by first | exact Nat.le_of_ble_eq_true rfl | exact Nat.zero_le _, by first | exact Nat.le_of_ble_eq_true rfl | exact Nat.zero_le _⟩ dX10_takesCond_22 (fun r3579 hr3579 => ?_)
        rcases hr3579 with rfl | rfl
        · refine lv_if_eq (tgt := 54) hx hb dX10_takesCond_25 (by decide) (fun c9 => absurd c9 (by decide)) (fun _ => ?_)
          refine lv_aload_n hx hb dX10_takesCond_28 rfl (lv_at hl 1 rfl) ?_
          refine vV (wr := [(tsp, .inr (8, [.int 120, .int 1, .ref tspc, .int (nI vksp)])), (tspc, .inl (G.2.1, 120, .inl vtsp))]) hC hK hl hP hD hS hA (t_advance l G h0 tby kt tln tsp vkd vks vkn vtf fby (by omega) (by omega) (by omega)) si_X10_47 [0, 1] [2, 3] rfl rfl (by decide) rfl (by decide) (by decide) rfl rfl rfl rfl rfl (Nat.le_of_ble_eq_true rfl) ⟨Nat.le_of_ble_eq_true rfl, Nat.le_of_ble_eq_true rfl⟩ ⟨Nat.le_of_ble_eq_true rfl, Nat.le_of_ble_eq_true rfl⟩ dX10_takesCond_29 (fun u3582 H locs hr3581 hP hD hS => ?_)
          obtain ⟨kd13583, ks13584, kn13585⟩ := u3582
          try dsimp only at hr3581
          have hP : va_P G.1 vwCl [(tsp, .inr (8, [.int 120, .int 1, .ref tspc, .int (nI vksp)])), (tspc, .inl (G.2.1, 120, .inl vtsp)), (h0, .inr (10, [.ref tby, .int (nI kt), .ref tln, .ref tsp, .int kd13583, .int (nI ks13584), .int (nI kn13585), .int vtf])), (tby, .inl (G.2.1, 240, .inl fby))] H := hP
          have hD : va_D A [(tsp, .inr (8, [.int 120, .int 1, .ref tspc, .int (nI vksp)])), (tspc, .inl (G.2.1, 120, .inl vtsp)), (h0, .inr (10, [.ref tby, .int (nI kt), .ref tln, .ref tsp, .int kd13583, .int (nI ks13584), .int (nI kn13585), .int vtf])), (tby, .inl (G.2.1, 240, .inl fby))] := hD
          have w3586 := hr3581
          refine lv_aload_n hx hb dX10_takesCond_32 rfl (lv_at hl 1 rfl) ?_
          refine lv_iload_n hx hb dX10_takesCond_33 rfl (lv_at hl 2 rfl) ?_
          refine iVo (wr := []) hO hC hK hl hP hD hS hA (t_all1 l G K h0 tby kt tln tsp kd13583 ks13584 kn13585 vtf fby tspc vksp vtsp (by omega) (by omega) (by omega) (by omega)) si_X10_147 [2, 3, 0, 1] [] rfl rfl (by decide) rfl (by decide) (by decide) rfl rfl rfl rfl rfl (Nat.le_of_ble_eq_true rfl) ⟨Nat.le_of_ble_eq_true rfl, Nat.le_of_ble_eq_true rfl⟩ ⟨Nat.le_of_ble_eq_true rfl, Nat.le_of_ble_eq_true rfl⟩ dX10_takesCond_34 (fun r3587 u3588 H locs hr3587 hP hD hS => ?_)
          obtain ⟨kd13589, ks13590, kn13591, tf13592, ksp13593, gtsp3594⟩ := u3588
          try dsimp only at hr3587
          have hP : va_P G.1 vwCl [(h0, .inr (10, [.ref tby, .int (nI kt), .ref tln, .ref tsp, .int kd13589, .int (nI ks13590), .int (nI kn13591), .int tf13592])), (tby, .inl (G.2.1, 240, .inl fby)), (tsp, .inr (8, [.int 120, .int 1, .ref tspc, .int (nI ksp13593)])), (tspc, .inl (G.2.1, 120, .inl gtsp3594))] H := hP
          have hD : va_D A [(h0, .inr (10, [.ref tby, .int (nI kt), .ref tln, .ref tsp, .int kd13589, .int (nI ks13590), .int (nI kn13591), .int tf13592])), (tby, .inl (G.2.1, 240, .inl fby)), (tsp, .inr (8, [.int 120, .int 1, .ref tspc, .int (nI ksp13593)])), (tspc, .inl (G.2.1, 120, .inl gtsp3594))] := hD
          obtain ⟨hr3587, w3595⟩ := hr3587
          rcases hr3587 with rfl | rfl
          · refine lv_if_ne (tgt := 42) hx hb dX10_takesCond_37 (by decide) (fun _ => ?_) (fun c9 => absurd c9 (by decide))
            refine lv_aload_n hx hb dX10_takesCond_42 rfl (lv_at hl 1 rfl) ?_
            refine lv_bipush (v := (-3)) hx hb dX10_takesCond_43 (by decide) ?_
            refine vV (wr := [(tby, .inl (G.2.1, 240, .inl fby))]) hC hK hl hP hD hS hA (t_addStep l G h0 (-3) tby kt tln tsp kd13589 ks13590 kn13591 tf13592 tspc ksp13593 gtsp3594 (by omega)) si_X10_152 [0, 2, 3] [1] rfl rfl (by decide) rfl (by decide) (by decide) rfl rfl rfl rfl rfl (Nat.le_of_ble_eq_true rfl) ⟨Nat.le_of_ble_eq_true rfl, Nat.le_of_ble_eq_true rfl⟩ ⟨Nat.le_of_ble_eq_true rfl, Nat.le_of_ble_eq_true rfl⟩ dX10_takesCond_45 (fun u3598 H locs hr3597 hP hD hS => ?_)
            obtain ⟨ksp13599, gtsp3600⟩ := u3598
            try dsimp only at hr3597
            have hP : va_P G.1 vwCl [(tby, .inl (G.2.1, 240, .inl fby)), (h0, .inr (10, [.ref tby, .int (nI kt), .ref tln, .ref tsp, .int kd13589, .int (nI ks13590), .int (nI kn13591), .int tf13592])), (tsp, .inr (8, [.int 120, .int 1, .ref tspc, .int (nI ksp13599)])), (tspc, .inl (G.2.1, 120, .inl gtsp3600))] H := hP
            have hD : va_D A [(tby, .inl (G.2.1, 240, .inl fby)), (h0, .inr (10, [.ref tby, .int (nI kt), .ref tln, .ref tsp, .int kd13589, .int (nI ks13590), .int (nI kn13591), .int tf13592])), (tsp, .inr (8, [.int 120, .int 1, .ref tspc, .int (nI ksp13599)])), (tspc, .inl (G.2.1, 120, .inl gtsp3600))] := hD
            have w3601 := hr3597
            refine lv_iinc (v := nI (kP + 1)) (lv' := [(2, .int (nI (kP + 1))), (0, .ref h0), (1, .int 1)]) hx hb dX10_takesCond_48 hl (k := 0) rfl (nI_1 _) (by decide) rfl (fun ls hl => ?_)
            refine lv_goto (tgt := 12) hx hb dX10_takesCond_51 (by decide) ?_
            have hP := hP.sub (ws' := [(h0, .inr (10, [.ref tby, .int (nI kt), .ref tln, .ref tsp, .int kd13589, .int (nI ks13590), .int (nI kn13591), .int tf13592])), (tby, .inl (G.2.1, 240, .inl fby)), (tsp, .inr (8, [.int 120, .int 1, .ref tspc, .int (nI ksp13599)])), (tspc, .inl (G.2.1, 120, .inl gtsp3600))]) [1, 0, 2, 3] rfl
            have hD := hD.sub (ws' := [(h0, .inr (10, [.ref tby, .int (nI kt), .ref tln, .ref tsp, .int kd13589, .int (nI ks13590), .int (nI kn13591), .int tf13592])), (tby, .inl (G.2.1, 240, .inl fby)), (tsp, .inr (8, [.int 120, .int 1, .ref tspc, .int (nI ksp13599)])), (tspc, .inl (G.2.1, 120, .inl gtsp3600))]) [1, 0, 2, 3] (by decide) rfl
            exact ihP (kP + 1) kd13589 tf13592 gtsp3600 ks13590 kn13591 ksp13599 _ _ _ (by omega) (by first | assumption | exact Or.inl rfl | exact Or.inr rfl | omega) (by first | assumption | exact Or.inl rfl | exact Or.inr rfl | omega) (by first | assumption | exact Or.inl rfl | exact Or.inr rfl | omega) hP hD hS (lv_sub hl [0, 1, 2] rfl)
          · refine lv_if_ne (tgt := 42) hx hb dX10_takesCond_37 (by decide) (fun c9 => absurd (by decide) c9) (fun _ => ?_)
            refine lv_iconst (v := 0) hx hb dX10_takesCond_40 (by decide) ?_
            exact RI (v := 0) hC hP hD hS [0, 1, 2, 3] (kd13589, ks13590, kn13591, tf13592, ksp13593, gtsp3594) rfl rfl (by decide) (⟨Or.inr (rfl), by dsimp only; omega⟩) (by decide +kernel) dX10_takesCond_41
        · refine lv_if_eq (tgt := 54) hx hb dX10_takesCond_25 (by decide) (fun _ => ?_) (fun c9 => absurd (by decide) c9)
          refine lv_iconst (v := 1) hx hb dX10_takesCond_54 (by decide) ?_
          exact RI (v := 1) hC hP hD hS [0, 1, 2, 3] (vkd, vks, vkn, vtf, vksp, vtsp) rfl rfl (by decide) (⟨Or.inl (rfl), by dsimp only; omega⟩) (by decide +kernel) dX10_takesCond_55
    exact keyP 240 0 kd13571 tf13574 gtsp3576 ks13572 kn13573 ksp13575 _ _ _ (by omega) (by first | assumption | exact Or.inl rfl | exact Or.inr rfl | omega) (by first | assumption | exact Or.inl rfl | exact Or.inr rfl | omega) (by first | assumption | exact Or.inl rfl | exact Or.inr rfl | omega) hP hD hS (lv_sub hl [0, 1, 2] rfl)
  · refine lv_if_ne (tgt := 10) hx hb dX10_takesCond_5 (by decide) (fun c9 => absurd (by decide) c9) (fun _ => ?_)
    refine lv_iconst (v := 0) hx hb dX10_takesCond_8 (by decide) ?_
    exact RI (v := 0) hC hP hD hS [0, 1, 2, 3] (kd13571, ks13572, kn13573, tf13574, ksp13575, gtsp3576) rfl rfl (by decide) (⟨Or.inr (rfl), by dsimp only; omega⟩) (by decide +kernel) dX10_takesCond_9
set_option maxHeartbeats 4000000 in
set_option maxRecDepth 100000 in
theorem t_one0 (l : Launch) (G : GG) (K : OO) (h0 : Nat) (tby : Nat) (kt : Nat) (tln : Nat) (tsp : Nat) (tkd : Int32) (ks : Nat) (kn : Nat) (tf9 : Int32) (fby : Nat → Int32) (tspc : Nat) (ksp : Nat) (ftsp : Nat → Int32) (hkt : kt ≤ 240) (hks : ks ≤ 240) (hkn : kn ≤ 240) (hksp : ksp ≤ 120) : MIo l G K yX10_takesOne cX10_takesOne 4 (some .boolean) 25 0 0 [.ref h0, .int 0] [(h0, .inr (10, [.ref tby, .int (nI kt), .ref tln, .ref tsp, .int tkd, .int (nI ks), .int (nI kn), .int tf9])), (tby, .inl (G.2.1, 240, .inl fby)), (tsp, .inr (8, [.int 120, .int 1, .ref tspc, .int (nI ksp)])), (tspc, .inl (G.2.1, 120, .inl ftsp))] (fun (r : Int32) (u : Int32 × Nat × Nat × Int32 × Nat × (Nat → Int32)) => (r = 1 ∨ r = 0) ∧ (u.2.1 ≤ 240 ∧ u.2.2.1 ≤ 240 ∧ u.2.2.2.2.1 ≤ 120)) (fun u : Int32 × Nat × Nat × Int32 × Nat × (Nat → Int32) => [(h0, .inr (10, [.ref tby, .int (nI kt), .ref tln, .ref tsp, .int u.1, .int (nI u.2.1), .int (nI u.2.2.1), .int u.2.2.2.1])), (tby, .inl (G.2.1, 240, .inl fby)), (tsp, .inr (8, [.int 120, .int 1, .ref tspc, .int (nI u.2.2.2.2.1)])), (tspc, .inl (G.2.1, 120, .inl u.2.2.2.2.2))]) := by
  refine MIo.start (by decide +kernel) (Nat.le_of_ble_eq_true rfl) ?_
  intro p e s m below meth c A ls hC hK hP hD hS hA hl hO
  have hl : lv_has ls 4 [(0, .ref h0), (1, .int 0)] := hl
  obtain ⟨hx, hb, hr, hml, hB, hown, hlocks, hnm⟩ := id hC
  refine lv_iconst (v := 0) hx hb dX10_takesOne_0 (by decide) ?_
  refine lv_istore_n (lv' := [(2, .int 0), (0, .ref h0), (1, .int 0)]) hx hb dX10_takesOne_1 rfl hl (by decide) rfl (fun ls hl => ?_)
  refine lv_iconst (v := 0) hx hb dX10_takesOne_2 (by decide) ?_
  refine lv_istore_n (lv' := [(3, .int 0), (2, .int 0), (0, .ref h0), (1, .int 0)]) hx hb dX10_takesOne_3 rfl hl (by decide) rfl (fun ls hl => ?_)
  have keyP : ∀ (nP kP : Nat) (tu : Int32) (vkd : Int32) (vtf : Int32) (vks : Nat) (vkn : Nat) (H : Heap) (locs : List Loc) (ls : Array Slot), kP + nP = 240 → (vks ≤ 240) → (vkn ≤ 240) → va_P G.1 vwCl [(h0, .inr (10, [.ref tby, .int (nI kt), .ref tln, .ref tsp, .int vkd, .int (nI vks), .int (nI vkn), .int vtf])), (tby, .inl (G.2.1, 240, .inl fby)), (tsp, .inr (8, [.int 120, .int 1, .ref tspc, .int (nI ksp)])), (tspc, .inl (G.2.1, 120, .inl ftsp))] H → va_D A [(h0, .inr (10, [.ref tby, .int (nI kt), .ref tln, .ref tsp, .int vkd, .int (nI vks), .int (nI vkn), .int vtf])), (tby, .inl (G.2.1, 240, .inl fby)), (tsp, .inr (8, [.int 120, .int 1, .ref tspc, .int (nI ksp)])), (tspc, .inl (G.2.1, 120, .inl ftsp))] → va_S A s.heap H locs → lv_has ls 4 [(3, .int (nI kP)), (2, .int tu), (0, .ref h0), (1, .int 0)] → W p l e (RM 25 0 0) s m ([.ref h0, .int 0] : List Value).toArray below meth c H locs 0 0 (MQ below (QI G (fun (r : Int32) (u : Int32 × Nat × Nat × Int32 × Nat × (Nat → Int32)) => (r = 1 ∨ r = 0) ∧ (u.2.1 ≤ 240 ∧ u.2.2.1 ≤ 240 ∧ u.2.2.2.2.1 ≤ 120)) (fun u : Int32 × Nat × Nat × Int32 × Nat × (Nat → Int32) => [(h0, .inr (10, [.ref tby, .int (nI kt), .ref tln, .ref tsp, .int u.1, .int (nI u.2.1), .int (nI u.2.2.1), .int u.2.2.2.1])), (tby, .inl (G.2.1, 240, .inl fby)), (tsp, .inr (8, [.int 120, .int 1, .ref tspc, .int (nI u.2.2.2.2.1)])), (tspc, .inl (G.2.1, 120, .inl u.2.2.2.2.2))]) A) ([.ref h0, .int 0] : List Value).toArray s 0 0 A) (F0 m 4 ls []) := by
    intro nP
    induction nP with
    | zero =>
      intro kP tu vkd vtf vks vkn H locs ls hkP hvks hvkn hP hD hS hl
      obtain rfl : 240 = kP := by omega
      have hl : lv_has ls 4 [(3, .int 240), (2, .int tu), (0, .ref h0), (1, .int 0)] := hl
      refine lv_iload_n hx hb dX10_takesOne_4 rfl (lv_at hl 0 rfl) ?_
      refine lv_sipush (v := 240) hx hb dX10_takesOne_5 (by decide) ?_
      refine lv_icmp_ge (tgt := 40) hx hb dX10_takesOne_8 (by decide) (fun _ => ?_) (fun c9 => absurd (by decide) c9)
      refine lv_aload_n hx hb dX10_takesOne_40 rfl (lv_at hl 2 rfl) ?_
      refine gf_X10_31 hC rfl hK hP 0 rfl rfl dX10_takesOne_41 ?_
      refine lv_bipush (v := 40) hx hb dX10_takesOne_44 (by decide) ?_
      refine lv_icmp_eq (tgt := 58) hx hb dX10_takesOne_46 (by decide) (fun c_46_3602 => ?_) (fun c_46_3602 => ?_)
      · refine lv_iload_n hx hb dX10_takesOne_58 rfl (lv_at hl 3 rfl) ?_
        refine lv_iconst (v := 4) hx hb dX10_takesOne_59 (by decide) ?_
        refine lv_icmp_lt (tgt := 68) hx hb dX10_takesOne_60 (by decide) (fun _ => ?_) (fun c9 => absurd (by decide) c9)
        refine lv_aload_n hx hb dX10_takesOne_68 rfl (lv_at hl 2 rfl) ?_
        refine vV (wr := [(tsp, .inr (8, [.int 120, .int 1, .ref tspc, .int (nI ksp)])), (tspc, .inl (G.2.1, 120, .inl ftsp))]) hC hK hl hP hD hS hA (t_advance l G h0 tby kt tln tsp vkd vks vkn vtf fby (by omega) (by omega) (by omega)) si_X10_47 [0, 1] [2, 3] rfl rfl (by decide) rfl (by decide) (by decide) rfl rfl rfl rfl rfl (Nat.le_of_ble_eq_true rfl) ⟨Nat.le_of_ble_eq_true rfl, Nat.le_of_ble_eq_true rfl⟩ ⟨Nat.le_of_ble_eq_true rfl, Nat.le_of_ble_eq_true rfl⟩ dX10_takesOne_69 (fun u3604 H locs hr3603 hP hD hS => ?_)
        obtain ⟨kd13605, ks13606, kn13607⟩ := u3604
        try dsimp only at hr3603
        have hP : va_P G.1 vwCl [(tsp, .inr (8, [.int 120, .int 1, .ref tspc, .int (nI ksp)])), (tspc, .inl (G.2.1, 120, .inl ftsp)), (h0, .inr (10, [.ref tby, .int (nI kt), .ref tln, .ref tsp, .int kd13605, .int (nI ks13606), .int (nI kn13607), .int vtf])), (tby, .inl (G.2.1, 240, .inl fby))] H := hP
        have hD : va_D A [(tsp, .inr (8, [.int 120, .int 1, .ref tspc, .int (nI ksp)])), (tspc, .inl (G.2.1, 120, .inl ftsp)), (h0, .inr (10, [.ref tby, .int (nI kt), .ref tln, .ref tsp, .int kd13605, .int (nI ks13606), .int (nI kn13607), .int vtf])), (tby, .inl (G.2.1, 240, .inl fby))] := hD
        have w3608 := hr3603
        refine lv_aload_n hx hb dX10_takesOne_72 rfl (lv_at hl 2 rfl) ?_
        refine lv_iload_n hx hb dX10_takesOne_73 rfl (lv_at hl 3 rfl) ?_
        refine lv_iconst (v := 1) hx hb dX10_takesOne_74 (by decide) ?_
        refine lv_iadd hx hb dX10_takesOne_75 ?_
        refine eqi (x1 := 1) (by decide) ?_
        refine iVo (wr := []) hO hC hK hl hP hD hS hA (t_cond1 l G K h0 tby kt tln tsp kd13605 ks13606 kn13607 vtf fby tspc ksp ftsp (by omega) (by omega) (by omega) (by omega)) si_X10_121 [2, 3, 0, 1] [] rfl rfl (by decide) rfl (by decide) (by decide) rfl rfl rfl rfl rfl (Nat.le_of_ble_eq_true rfl) ⟨Nat.le_of_ble_eq_true rfl, Nat.le_of_ble_eq_true rfl⟩ ⟨Nat.le_of_ble_eq_true rfl, Nat.le_of_ble_eq_true rfl⟩ dX10_takesOne_76 (fun r3609 u3610 H locs hr3609 hP hD hS => ?_)
        obtain ⟨kd13611, ks13612, kn13613, tf13614, ksp13615, gtsp3616⟩ := u3610
        try dsimp only at hr3609
        have hP : va_P G.1 vwCl [(h0, .inr (10, [.ref tby, .int (nI kt), .ref tln, .ref tsp, .int kd13611, .int (nI ks13612), .int (nI kn13613), .int tf13614])), (tby, .inl (G.2.1, 240, .inl fby)), (tsp, .inr (8, [.int 120, .int 1, .ref tspc, .int (nI ksp13615)])), (tspc, .inl (G.2.1, 120, .inl gtsp3616))] H := hP
        have hD : va_D A [(h0, .inr (10, [.ref tby, .int (nI kt), .ref tln, .ref tsp, .int kd13611, .int (nI ks13612), .int (nI kn13613), .int tf13614])), (tby, .inl (G.2.1, 240, .inl fby)), (tsp, .inr (8, [.int 120, .int 1, .ref tspc, .int (nI ksp13615)])), (tspc, .inl (G.2.1, 120, .inl gtsp3616))] := hD
        obtain ⟨hr3609, w3617⟩ := hr3609
        rcases hr3609 with rfl | rfl
        · refine lv_if_eq (tgt := 91) hx hb dX10_takesOne_79 (by decide) (fun c9 => absurd c9 (by decide)) (fun _ => ?_)
          refine lv_aload_n hx hb dX10_takesOne_82 rfl (lv_at hl 2 rfl) ?_
          refine lv_bipush (v := 41) hx hb dX10_takesOne_83 (by decide) ?_
          refine iV (wr := [(tsp, .inr (8, [.int 120, .int 1, .ref tspc, .int (nI ksp13615)])), (tspc, .inl (G.2.1, 120, .inl gtsp3616))]) hC hK hl hP hD hS hA (t_takesByte l G h0 41 tby kt tln tsp kd13611 ks13612 kn13613 tf13614 fby (by omega) (by omega) (by omega)) si_X10_124 [0, 1] [2, 3] rfl rfl (by decide) rfl (by decide) (by decide) rfl rfl rfl rfl rfl (Nat.le_of_ble_eq_true rfl) ⟨Nat.le_of_ble_eq_true rfl, Nat.le_of_ble_eq_true rfl⟩ ⟨Nat.le_of_ble_eq_true rfl, Nat.le_of_ble_eq_true rfl⟩ dX10_takesOne_85 (fun r3619 u3620 H locs hr3619 hP hD hS => ?_)
          obtain ⟨kd13621, ks13622, kn13623, tf13624⟩ := u3620
          try dsimp only at hr3619
          have hP : va_P G.1 vwCl [(tsp, .inr (8, [.int 120, .int 1, .ref tspc, .int (nI ksp13615)])), (tspc, .inl (G.2.1, 120, .inl gtsp3616)), (h0, .inr (10, [.ref tby, .int (nI kt), .ref tln, .ref tsp, .int kd13621, .int (nI ks13622), .int (nI kn13623), .int tf13624])), (tby, .inl (G.2.1, 240, .inl fby))] H := hP
          have hD : va_D A [(tsp, .inr (8, [.int 120, .int 1, .ref tspc, .int (nI ksp13615)])), (tspc, .inl (G.2.1, 120, .inl gtsp3616)), (h0, .inr (10, [.ref tby, .int (nI kt), .ref tln, .ref tsp, .int kd13621, .int (nI ks13622), .int (nI kn13623), .int tf13624])), (tby, .inl (G.2.1, 240, .inl fby))] := hD
          obtain ⟨hr3619, w3625⟩ := hr3619
          rcases hr3619 with rfl | rfl
          · refine lv_if_ne (tgt := 93) hx hb dX10_takesOne_88 (by decide) (fun _ => ?_) (fun c9 => absurd c9 (by decide))
            refine lv_iload_n hx hb dX10_takesOne_93 rfl (lv_at hl 1 rfl) ?_
            refine lv_if_eq (tgt := 102) hx hb dX10_takesOne_94 (by decide) (fun c_94_3627 => ?_) (fun c_94_3627 => ?_)
            · refine lv_iconst (v := 1) hx hb dX10_takesOne_102 (by decide) ?_
              exact RI (v := 1) hC hP hD hS [2, 3, 0, 1] (kd13621, ks13622, kn13623, tf13624, ksp13615, gtsp3616) rfl rfl (by decide) (⟨Or.inl (rfl), by dsimp only; omega⟩) (by decide +kernel) dX10_takesOne_103
            · refine lv_aload_n hx hb dX10_takesOne_97 rfl (lv_at hl 2 rfl) ?_
              refine lv_iconst (v := (-1)) hx hb dX10_takesOne_98 (by decide) ?_
              refine vV (wr := [(tby, .inl (G.2.1, 240, .inl fby))]) hC hK hl hP hD hS hA (t_addStep l G h0 (-1) tby kt tln tsp kd13621 ks13622 kn13623 tf13624 tspc ksp13615 gtsp3616 (by omega)) si_X10_152 [2, 0, 1] [3] rfl rfl (by decide) rfl (by decide) (by decide) rfl rfl rfl rfl rfl (Nat.le_of_ble_eq_true rfl) ⟨Nat.le_of_ble_eq_true rfl, Nat.le_of_ble_eq_true rfl⟩ ⟨Nat.le_of_ble_eq_true rfl, Nat.le_of_ble_eq_true rfl⟩ dX10_takesOne_99 (fun u3629 H locs hr3628 hP hD hS => ?_)
              obtain ⟨ksp13630, gtsp3631⟩ := u3629
              try dsimp only at hr3628
              have hP : va_P G.1 vwCl [(tby, .inl (G.2.1, 240, .inl fby)), (h0, .inr (10, [.ref tby, .int (nI kt), .ref tln, .ref tsp, .int kd13621, .int (nI ks13622), .int (nI kn13623), .int tf13624])), (tsp, .inr (8, [.int 120, .int 1, .ref tspc, .int (nI ksp13630)])), (tspc, .inl (G.2.1, 120, .inl gtsp3631))] H := hP
              have hD : va_D A [(tby, .inl (G.2.1, 240, .inl fby)), (h0, .inr (10, [.ref tby, .int (nI kt), .ref tln, .ref tsp, .int kd13621, .int (nI ks13622), .int (nI kn13623), .int tf13624])), (tsp, .inr (8, [.int 120, .int 1, .ref tspc, .int (nI ksp13630)])), (tspc, .inl (G.2.1, 120, .inl gtsp3631))] := hD
              have w3632 := hr3628
              refine lv_iconst (v := 1) hx hb dX10_takesOne_102 (by decide) ?_
              exact RI (v := 1) hC hP hD hS [1, 0, 2, 3] (kd13621, ks13622, kn13623, tf13624, ksp13630, gtsp3631) rfl rfl (by decide) (⟨Or.inl (rfl), by dsimp only; omega⟩) (by decide +kernel) dX10_takesOne_103
          · refine lv_if_ne (tgt := 93) hx hb dX10_takesOne_88 (by decide) (fun c9 => absurd (by decide) c9) (fun _ => ?_)
            refine lv_iconst (v := 0) hx hb dX10_takesOne_91 (by decide) ?_
            exact RI (v := 0) hC hP hD hS [2, 3, 0, 1] (kd13621, ks13622, kn13623, tf13624, ksp13615, gtsp3616) rfl rfl (by decide) (⟨Or.inr (rfl), by dsimp only; omega⟩) (by decide +kernel) dX10_takesOne_92
        · refine lv_if_eq (tgt := 91) hx hb dX10_takesOne_79 (by decide) (fun _ => ?_) (fun c9 => absurd (by decide) c9)
          refine lv_iconst (v := 0) hx hb dX10_takesOne_91 (by decide) ?_
          exact RI (v := 0) hC hP hD hS [0, 1, 2, 3] (kd13611, ks13612, kn13613, tf13614, ksp13615, gtsp3616) rfl rfl (by decide) (⟨Or.inr (rfl), by dsimp only; omega⟩) (by decide +kernel) dX10_takesOne_92
      · refine lv_aload_n hx hb dX10_takesOne_49 rfl (lv_at hl 2 rfl) ?_
        refine iVo (wr := []) hO hC hK hl hP hD hS hA (t_takesComparison l G K h0 tby kt tln tsp vkd vks vkn vtf fby tspc ksp ftsp (by omega) (by omega) (by omega) (by omega)) si_X10_162 [0, 1, 2, 3] [] rfl rfl (by decide) rfl (by decide) (by decide) rfl rfl rfl rfl rfl (Nat.le_of_ble_eq_true rfl) ⟨Nat.le_of_ble_eq_true rfl, Nat.le_of_ble_eq_true rfl⟩ ⟨Nat.le_of_ble_eq_true rfl, Nat.le_of_ble_eq_true rfl⟩ dX10_takesOne_50 (fun r3633 u3634 H locs hr3633 hP hD hS => ?_)
        obtain ⟨kd13635, ks13636, kn13637, tf13638, ksp13639, gtsp3640⟩ := u3634
        try dsimp only at hr3633
        have hP : va_P G.1 vwCl [(h0, .inr (10, [.ref tby, .int (nI kt), .ref tln, .ref tsp, .int kd13635, .int (nI ks13636), .int (nI kn13637), .int tf13638])), (tby, .inl (G.2.1, 240, .inl fby)), (tsp, .inr (8, [.int 120, .int 1, .ref tspc, .int (nI ksp13639)])), (tspc, .inl (G.2.1, 120, .inl gtsp3640))] H := hP
        have hD : va_D A [(h0, .inr (10, [.ref tby, .int (nI kt), .ref tln, .ref tsp, .int kd13635, .int (nI ks13636), .int (nI kn13637), .int tf13638])), (tby, .inl (G.2.1, 240, .inl fby)), (tsp, .inr (8, [.int 120, .int 1, .ref tspc, .int (nI ksp13639)])), (tspc, .inl (G.2.1, 120, .inl gtsp3640))] := hD
        obtain ⟨hr3633, w3641⟩ := hr3633
        rcases hr3633 with rfl | rfl
        · refine lv_if_ne (tgt := 93) hx hb dX10_takesOne_53 (by decide) (fun _ => ?_) (fun c9 => absurd c9 (by decide))
          refine lv_iload_n hx hb dX10_takesOne_93 rfl (lv_at hl 1 rfl) ?_
          refine lv_if_eq (tgt := 102) hx hb dX10_takesOne_94 (by decide) (fun c_94_3643 => ?_) (fun c_94_3643 => ?_)
          · refine lv_iconst (v := 1) hx hb dX10_takesOne_102 (by decide) ?_
            exact RI (v := 1) hC hP hD hS [0, 1, 2, 3] (kd13635, ks13636, kn13637, tf13638, ksp13639, gtsp3640) rfl rfl (by decide) (⟨Or.inl (rfl), by dsimp only; omega⟩) (by decide +kernel) dX10_takesOne_103
          · refine lv_aload_n hx hb dX10_takesOne_97 rfl (lv_at hl 2 rfl) ?_
            refine lv_iconst (v := (-1)) hx hb dX10_takesOne_98 (by decide) ?_
            refine vV (wr := [(tby, .inl (G.2.1, 240, .inl fby))]) hC hK hl hP hD hS hA (t_addStep l G h0 (-1) tby kt tln tsp kd13635 ks13636 kn13637 tf13638 tspc ksp13639 gtsp3640 (by omega)) si_X10_152 [0, 2, 3] [1] rfl rfl (by decide) rfl (by decide) (by decide) rfl rfl rfl rfl rfl (Nat.le_of_ble_eq_true rfl) ⟨Nat.le_of_ble_eq_true rfl, Nat.le_of_ble_eq_true rfl⟩ ⟨Nat.le_of_ble_eq_true rfl, Nat.le_of_ble_eq_true rfl⟩ dX10_takesOne_99 (fun u3645 H locs hr3644 hP hD hS => ?_)
            obtain ⟨ksp13646, gtsp3647⟩ := u3645
            try dsimp only at hr3644
            have hP : va_P G.1 vwCl [(tby, .inl (G.2.1, 240, .inl fby)), (h0, .inr (10, [.ref tby, .int (nI kt), .ref tln, .ref tsp, .int kd13635, .int (nI ks13636), .int (nI kn13637), .int tf13638])), (tsp, .inr (8, [.int 120, .int 1, .ref tspc, .int (nI ksp13646)])), (tspc, .inl (G.2.1, 120, .inl gtsp3647))] H := hP
            have hD : va_D A [(tby, .inl (G.2.1, 240, .inl fby)), (h0, .inr (10, [.ref tby, .int (nI kt), .ref tln, .ref tsp, .int kd13635, .int (nI ks13636), .int (nI kn13637), .int tf13638])), (tsp, .inr (8, [.int 120, .int 1, .ref tspc, .int (nI ksp13646)])), (tspc, .inl (G.2.1, 120, .inl gtsp3647))] := hD
            have w3648 := hr3644
            refine lv_iconst (v := 1) hx hb dX10_takesOne_102 (by decide) ?_
            exact RI (v := 1) hC hP hD hS [1, 0, 2, 3] (kd13635, ks13636, kn13637, tf13638, ksp13646, gtsp3647) rfl rfl (by decide) (⟨Or.inl (rfl), by dsimp only; omega⟩) (by decide +kernel) dX10_takesOne_103
        · refine lv_if_ne (tgt := 93) hx hb dX10_takesOne_53 (by decide) (fun c9 => absurd (by decide) c9) (fun _ => ?_)
          refine lv_iconst (v := 0) hx hb dX10_takesOne_56 (by decide) ?_
          exact RI (v := 0) hC hP hD hS [0, 1, 2, 3] (kd13635, ks13636, kn13637, tf13638, ksp13639, gtsp3640) rfl rfl (by decide) (⟨Or.inr (rfl), by dsimp only; omega⟩) (by decide +kernel) dX10_takesOne_57
    | succ nP ihP =>
      intro kP tu vkd vtf vks vkn H locs ls hkP hvks hvkn hP hD hS hl
      refine lv_iload_n hx hb dX10_takesOne_4 rfl (lv_at hl 0 rfl) ?_
      refine lv_sipush (v := 240) hx hb dX10_takesOne_5 (by decide) ?_
      refine lv_icmp_ge (tgt := 40) hx hb dX10_takesOne_8 (by decide) (fun c9 => absurd c9 (nI_ge (a := kP) (b := 240) (by omega) (by omega))) (fun _ => ?_)
      refine lv_aload_n hx hb dX10_takesOne_11 rfl (lv_at hl 2 rfl) ?_
      refine va_ldcS (index := 160) (tx := "not") hx hb hown (hO.2.1 10 (by decide)) dX10_takesOne_12 ?_
      refine pVo hO hS hC hK hl hP hD (t_isName l G K 10 h0 tby kt tln tsp vkd vks vkn vtf fby (by omega) (by omega) (by omega) ((by decide))) si_X10_102 [0, 1] rfl rfl (by decide) rfl rfl rfl rfl rfl (Nat.le_of_ble_eq_true rfl) ⟨Nat.le_of_ble_eq_true rfl, Nat.le_of_ble_eq_true rfl⟩ ⟨by first | exact Nat.le_of_ble_eq_true rfl | exact Nat.zero_le _, by first | exact Nat.le_of_ble_eq_true rfl | exact Nat.zero_le _⟩ dX10_takesOne_14 (fun r3649 hr3649 => ?_)
      rcases hr3649 with rfl | rfl
      · refine lv_if_eq (tgt := 40) hx hb dX10_takesOne_17 (by decide) (fun c9 => absurd c9 (by decide)) (fun _ => ?_)
        refine lv_aload_n hx hb dX10_takesOne_20 rfl (lv_at hl 2 rfl) ?_
        refine vV (wr := [(tsp, .inr (8, [.int 120, .int 1, .ref tspc, .int (nI ksp)])), (tspc, .inl (G.2.1, 120, .inl ftsp))]) hC hK hl hP hD hS hA (t_advance l G h0 tby kt tln tsp vkd vks vkn vtf fby (by omega) (by omega) (by omega)) si_X10_47 [0, 1] [2, 3] rfl rfl (by decide) rfl (by decide) (by decide) rfl rfl rfl rfl rfl (Nat.le_of_ble_eq_true rfl) ⟨Nat.le_of_ble_eq_true rfl, Nat.le_of_ble_eq_true rfl⟩ ⟨Nat.le_of_ble_eq_true rfl, Nat.le_of_ble_eq_true rfl⟩ dX10_takesOne_21 (fun u3652 H locs hr3651 hP hD hS => ?_)
        obtain ⟨kd13653, ks13654, kn13655⟩ := u3652
        try dsimp only at hr3651
        have hP : va_P G.1 vwCl [(tsp, .inr (8, [.int 120, .int 1, .ref tspc, .int (nI ksp)])), (tspc, .inl (G.2.1, 120, .inl ftsp)), (h0, .inr (10, [.ref tby, .int (nI kt), .ref tln, .ref tsp, .int kd13653, .int (nI ks13654), .int (nI kn13655), .int vtf])), (tby, .inl (G.2.1, 240, .inl fby))] H := hP
        have hD : va_D A [(tsp, .inr (8, [.int 120, .int 1, .ref tspc, .int (nI ksp)])), (tspc, .inl (G.2.1, 120, .inl ftsp)), (h0, .inr (10, [.ref tby, .int (nI kt), .ref tln, .ref tsp, .int kd13653, .int (nI ks13654), .int (nI kn13655), .int vtf])), (tby, .inl (G.2.1, 240, .inl fby))] := hD
        have w3656 := hr3651
        refine lv_iload_n hx hb dX10_takesOne_24 rfl (lv_at hl 1 rfl) ?_
        refine lv_if_ne (tgt := 32) hx hb dX10_takesOne_25 (by decide) (fun c_25_3657 => ?_) (fun c_25_3657 => ?_)
        · refine lv_iconst (v := 0) hx hb dX10_takesOne_32 (by decide) ?_
          refine lv_istore_n (lv' := [(2, .int 0), (3, .int (nI kP)), (0, .ref h0), (1, .int 0)]) hx hb dX10_takesOne_33 rfl hl (by decide) rfl (fun ls hl => ?_)
          refine lv_iinc (v := nI (kP + 1)) (lv' := [(3, .int (nI (kP + 1))), (2, .int 0), (0, .ref h0), (1, .int 0)]) hx hb dX10_takesOne_34 hl (k := 1) rfl (nI_1 _) (by decide) rfl (fun ls hl => ?_)
          refine lv_goto (tgt := 4) hx hb dX10_takesOne_37 (by decide) ?_
          have hP := hP.sub (ws' := [(h0, .inr (10, [.ref tby, .int (nI kt), .ref tln, .ref tsp, .int kd13653, .int (nI ks13654), .int (nI kn13655), .int vtf])), (tby, .inl (G.2.1, 240, .inl fby)), (tsp, .inr (8, [.int 120, .int 1, .ref tspc, .int (nI ksp)])), (tspc, .inl (G.2.1, 120, .inl ftsp))]) [2, 3, 0, 1] rfl
          have hD := hD.sub (ws' := [(h0, .inr (10, [.ref tby, .int (nI kt), .ref tln, .ref tsp, .int kd13653, .int (nI ks13654), .int (nI kn13655), .int vtf])), (tby, .inl (G.2.1, 240, .inl fby)), (tsp, .inr (8, [.int 120, .int 1, .ref tspc, .int (nI ksp)])), (tspc, .inl (G.2.1, 120, .inl ftsp))]) [2, 3, 0, 1] (by decide) rfl
          exact ihP (kP + 1) 0 kd13653 vtf ks13654 kn13655 _ _ _ (by omega) (by first | assumption | exact Or.inl rfl | exact Or.inr rfl | omega) (by first | assumption | exact Or.inl rfl | exact Or.inr rfl | omega) hP hD hS (lv_sub hl [0, 1, 2, 3] rfl)
        · refine lv_iconst (v := 1) hx hb dX10_takesOne_28 (by decide) ?_
          refine lv_goto (tgt := 33) hx hb dX10_takesOne_29 (by decide) ?_
          refine lv_istore_n (lv' := [(2, .int 1), (3, .int (nI kP)), (0, .ref h0), (1, .int 0)]) hx hb dX10_takesOne_33 rfl hl (by decide) rfl (fun ls hl => ?_)
          refine lv_iinc (v := nI (kP + 1)) (lv' := [(3, .int (nI (kP + 1))), (2, .int 1), (0, .ref h0), (1, .int 0)]) hx hb dX10_takesOne_34 hl (k := 1) rfl (nI_1 _) (by decide) rfl (fun ls hl => ?_)
          refine lv_goto (tgt := 4) hx hb dX10_takesOne_37 (by decide) ?_
          have hP := hP.sub (ws' := [(h0, .inr (10, [.ref tby, .int (nI kt), .ref tln, .ref tsp, .int kd13653, .int (nI ks13654), .int (nI kn13655), .int vtf])), (tby, .inl (G.2.1, 240, .inl fby)), (tsp, .inr (8, [.int 120, .int 1, .ref tspc, .int (nI ksp)])), (tspc, .inl (G.2.1, 120, .inl ftsp))]) [2, 3, 0, 1] rfl
          have hD := hD.sub (ws' := [(h0, .inr (10, [.ref tby, .int (nI kt), .ref tln, .ref tsp, .int kd13653, .int (nI ks13654), .int (nI kn13655), .int vtf])), (tby, .inl (G.2.1, 240, .inl fby)), (tsp, .inr (8, [.int 120, .int 1, .ref tspc, .int (nI ksp)])), (tspc, .inl (G.2.1, 120, .inl ftsp))]) [2, 3, 0, 1] (by decide) rfl
          exact ihP (kP + 1) 1 kd13653 vtf ks13654 kn13655 _ _ _ (by omega) (by first | assumption | exact Or.inl rfl | exact Or.inr rfl | omega) (by first | assumption | exact Or.inl rfl | exact Or.inr rfl | omega) hP hD hS (lv_sub hl [0, 1, 2, 3] rfl)
      · refine lv_if_eq (tgt := 40) hx hb dX10_takesOne_17 (by decide) (fun _ => ?_) (fun c9 => absurd (by decide) c9)
        refine lv_aload_n hx hb dX10_takesOne_40 rfl (lv_at hl 2 rfl) ?_
        refine gf_X10_31 hC rfl hK hP 0 rfl rfl dX10_takesOne_41 ?_
        refine lv_bipush (v := 40) hx hb dX10_takesOne_44 (by decide) ?_
        refine lv_icmp_eq (tgt := 58) hx hb dX10_takesOne_46 (by decide) (fun c_46_3658 => ?_) (fun c_46_3658 => ?_)
        · refine lv_iload_n hx hb dX10_takesOne_58 rfl (lv_at hl 3 rfl) ?_
          refine lv_iconst (v := 4) hx hb dX10_takesOne_59 (by decide) ?_
          refine lv_icmp_lt (tgt := 68) hx hb dX10_takesOne_60 (by decide) (fun _ => ?_) (fun c9 => absurd (by decide) c9)
          refine lv_aload_n hx hb dX10_takesOne_68 rfl (lv_at hl 2 rfl) ?_
          refine vV (wr := [(tsp, .inr (8, [.int 120, .int 1, .ref tspc, .int (nI ksp)])), (tspc, .inl (G.2.1, 120, .inl ftsp))]) hC hK hl hP hD hS hA (t_advance l G h0 tby kt tln tsp vkd vks vkn vtf fby (by omega) (by omega) (by omega)) si_X10_47 [0, 1] [2, 3] rfl rfl (by decide) rfl (by decide) (by decide) rfl rfl rfl rfl rfl (Nat.le_of_ble_eq_true rfl) ⟨Nat.le_of_ble_eq_true rfl, Nat.le_of_ble_eq_true rfl⟩ ⟨Nat.le_of_ble_eq_true rfl, Nat.le_of_ble_eq_true rfl⟩ dX10_takesOne_69 (fun u3660 H locs hr3659 hP hD hS => ?_)
          obtain ⟨kd13661, ks13662, kn13663⟩ := u3660
          try dsimp only at hr3659
          have hP : va_P G.1 vwCl [(tsp, .inr (8, [.int 120, .int 1, .ref tspc, .int (nI ksp)])), (tspc, .inl (G.2.1, 120, .inl ftsp)), (h0, .inr (10, [.ref tby, .int (nI kt), .ref tln, .ref tsp, .int kd13661, .int (nI ks13662), .int (nI kn13663), .int vtf])), (tby, .inl (G.2.1, 240, .inl fby))] H := hP
          have hD : va_D A [(tsp, .inr (8, [.int 120, .int 1, .ref tspc, .int (nI ksp)])), (tspc, .inl (G.2.1, 120, .inl ftsp)), (h0, .inr (10, [.ref tby, .int (nI kt), .ref tln, .ref tsp, .int kd13661, .int (nI ks13662), .int (nI kn13663), .int vtf])), (tby, .inl (G.2.1, 240, .inl fby))] := hD
          have w3664 := hr3659
          refine lv_aload_n hx hb dX10_takesOne_72 rfl (lv_at hl 2 rfl) ?_
          refine lv_iload_n hx hb dX10_takesOne_73 rfl (lv_at hl 3 rfl) ?_
          refine lv_iconst (v := 1) hx hb dX10_takesOne_74 (by decide) ?_
          refine lv_iadd hx hb dX10_takesOne_75 ?_
          refine eqi (x1 := 1) (by decide) ?_
          refine iVo (wr := []) hO hC hK hl hP hD hS hA (t_cond1 l G K h0 tby kt tln tsp kd13661 ks13662 kn13663 vtf fby tspc ksp ftsp (by omega) (by omega) (by omega) (by omega)) si_X10_121 [2, 3, 0, 1] [] rfl rfl (by decide) rfl (by decide) (by decide) rfl rfl rfl rfl rfl (Nat.le_of_ble_eq_true rfl) ⟨Nat.le_of_ble_eq_true rfl, Nat.le_of_ble_eq_true rfl⟩ ⟨Nat.le_of_ble_eq_true rfl, Nat.le_of_ble_eq_true rfl⟩ dX10_takesOne_76 (fun r3665 u3666 H locs hr3665 hP hD hS => ?_)
          obtain ⟨kd13667, ks13668, kn13669, tf13670, ksp13671, gtsp3672⟩ := u3666
          try dsimp only at hr3665
          have hP : va_P G.1 vwCl [(h0, .inr (10, [.ref tby, .int (nI kt), .ref tln, .ref tsp, .int kd13667, .int (nI ks13668), .int (nI kn13669), .int tf13670])), (tby, .inl (G.2.1, 240, .inl fby)), (tsp, .inr (8, [.int 120, .int 1, .ref tspc, .int (nI ksp13671)])), (tspc, .inl (G.2.1, 120, .inl gtsp3672))] H := hP
          have hD : va_D A [(h0, .inr (10, [.ref tby, .int (nI kt), .ref tln, .ref tsp, .int kd13667, .int (nI ks13668), .int (nI kn13669), .int tf13670])), (tby, .inl (G.2.1, 240, .inl fby)), (tsp, .inr (8, [.int 120, .int 1, .ref tspc, .int (nI ksp13671)])), (tspc, .inl (G.2.1, 120, .inl gtsp3672))] := hD
          obtain ⟨hr3665, w3673⟩ := hr3665
          rcases hr3665 with rfl | rfl
          · refine lv_if_eq (tgt := 91) hx hb dX10_takesOne_79 (by decide) (fun c9 => absurd c9 (by decide)) (fun _ => ?_)
            refine lv_aload_n hx hb dX10_takesOne_82 rfl (lv_at hl 2 rfl) ?_
            refine lv_bipush (v := 41) hx hb dX10_takesOne_83 (by decide) ?_
            refine iV (wr := [(tsp, .inr (8, [.int 120, .int 1, .ref tspc, .int (nI ksp13671)])), (tspc, .inl (G.2.1, 120, .inl gtsp3672))]) hC hK hl hP hD hS hA (t_takesByte l G h0 41 tby kt tln tsp kd13667 ks13668 kn13669 tf13670 fby (by omega) (by omega) (by omega)) si_X10_124 [0, 1] [2, 3] rfl rfl (by decide) rfl (by decide) (by decide) rfl rfl rfl rfl rfl (Nat.le_of_ble_eq_true rfl) ⟨Nat.le_of_ble_eq_true rfl, Nat.le_of_ble_eq_true rfl⟩ ⟨Nat.le_of_ble_eq_true rfl, Nat.le_of_ble_eq_true rfl⟩ dX10_takesOne_85 (fun r3675 u3676 H locs hr3675 hP hD hS => ?_)
            obtain ⟨kd13677, ks13678, kn13679, tf13680⟩ := u3676
            try dsimp only at hr3675
            have hP : va_P G.1 vwCl [(tsp, .inr (8, [.int 120, .int 1, .ref tspc, .int (nI ksp13671)])), (tspc, .inl (G.2.1, 120, .inl gtsp3672)), (h0, .inr (10, [.ref tby, .int (nI kt), .ref tln, .ref tsp, .int kd13677, .int (nI ks13678), .int (nI kn13679), .int tf13680])), (tby, .inl (G.2.1, 240, .inl fby))] H := hP
            have hD : va_D A [(tsp, .inr (8, [.int 120, .int 1, .ref tspc, .int (nI ksp13671)])), (tspc, .inl (G.2.1, 120, .inl gtsp3672)), (h0, .inr (10, [.ref tby, .int (nI kt), .ref tln, .ref tsp, .int kd13677, .int (nI ks13678), .int (nI kn13679), .int tf13680])), (tby, .inl (G.2.1, 240, .inl fby))] := hD
            obtain ⟨hr3675, w3681⟩ := hr3675
            rcases hr3675 with rfl | rfl
            · refine lv_if_ne (tgt := 93) hx hb dX10_takesOne_88 (by decide) (fun _ => ?_) (fun c9 => absurd c9 (by decide))
              refine lv_iload_n hx hb dX10_takesOne_93 rfl (lv_at hl 1 rfl) ?_
              refine lv_if_eq (tgt := 102) hx hb dX10_takesOne_94 (by decide) (fun c_94_3683 => ?_) (fun c_94_3683 => ?_)
              · refine lv_iconst (v := 1) hx hb dX10_takesOne_102 (by decide) ?_
                exact RI (v := 1) hC hP hD hS [2, 3, 0, 1] (kd13677, ks13678, kn13679, tf13680, ksp13671, gtsp3672) rfl rfl (by decide) (⟨Or.inl (rfl), by dsimp only; omega⟩) (by decide +kernel) dX10_takesOne_103
              · refine lv_aload_n hx hb dX10_takesOne_97 rfl (lv_at hl 2 rfl) ?_
                refine lv_iconst (v := (-1)) hx hb dX10_takesOne_98 (by decide) ?_
                refine vV (wr := [(tby, .inl (G.2.1, 240, .inl fby))]) hC hK hl hP hD hS hA (t_addStep l G h0 (-1) tby kt tln tsp kd13677 ks13678 kn13679 tf13680 tspc ksp13671 gtsp3672 (by omega)) si_X10_152 [2, 0, 1] [3] rfl rfl (by decide) rfl (by decide) (by decide) rfl rfl rfl rfl rfl (Nat.le_of_ble_eq_true rfl) ⟨Nat.le_of_ble_eq_true rfl, Nat.le_of_ble_eq_true rfl⟩ ⟨Nat.le_of_ble_eq_true rfl, Nat.le_of_ble_eq_true rfl⟩ dX10_takesOne_99 (fun u3685 H locs hr3684 hP hD hS => ?_)
                obtain ⟨ksp13686, gtsp3687⟩ := u3685
                try dsimp only at hr3684
                have hP : va_P G.1 vwCl [(tby, .inl (G.2.1, 240, .inl fby)), (h0, .inr (10, [.ref tby, .int (nI kt), .ref tln, .ref tsp, .int kd13677, .int (nI ks13678), .int (nI kn13679), .int tf13680])), (tsp, .inr (8, [.int 120, .int 1, .ref tspc, .int (nI ksp13686)])), (tspc, .inl (G.2.1, 120, .inl gtsp3687))] H := hP
                have hD : va_D A [(tby, .inl (G.2.1, 240, .inl fby)), (h0, .inr (10, [.ref tby, .int (nI kt), .ref tln, .ref tsp, .int kd13677, .int (nI ks13678), .int (nI kn13679), .int tf13680])), (tsp, .inr (8, [.int 120, .int 1, .ref tspc, .int (nI ksp13686)])), (tspc, .inl (G.2.1, 120, .inl gtsp3687))] := hD
                have w3688 := hr3684
                refine lv_iconst (v := 1) hx hb dX10_takesOne_102 (by decide) ?_
                exact RI (v := 1) hC hP hD hS [1, 0, 2, 3] (kd13677, ks13678, kn13679, tf13680, ksp13686, gtsp3687) rfl rfl (by decide) (⟨Or.inl (rfl), by dsimp only; omega⟩) (by decide +kernel) dX10_takesOne_103
            · refine lv_if_ne (tgt := 93) hx hb dX10_takesOne_88 (by decide) (fun c9 => absurd (by decide) c9) (fun _ => ?_)
              refine lv_iconst (v := 0) hx hb dX10_takesOne_91 (by decide) ?_
              exact RI (v := 0) hC hP hD hS [2, 3, 0, 1] (kd13677, ks13678, kn13679, tf13680, ksp13671, gtsp3672) rfl rfl (by decide) (⟨Or.inr (rfl), by dsimp only; omega⟩) (by decide +kernel) dX10_takesOne_92
          · refine lv_if_eq (tgt := 91) hx hb dX10_takesOne_79 (by decide) (fun _ => ?_) (fun c9 => absurd (by decide) c9)
            refine lv_iconst (v := 0) hx hb dX10_takesOne_91 (by decide) ?_
            exact RI (v := 0) hC hP hD hS [0, 1, 2, 3] (kd13667, ks13668, kn13669, tf13670, ksp13671, gtsp3672) rfl rfl (by decide) (⟨Or.inr (rfl), by dsimp only; omega⟩) (by decide +kernel) dX10_takesOne_92
        · refine lv_aload_n hx hb dX10_takesOne_49 rfl (lv_at hl 2 rfl) ?_
          refine iVo (wr := []) hO hC hK hl hP hD hS hA (t_takesComparison l G K h0 tby kt tln tsp vkd vks vkn vtf fby tspc ksp ftsp (by omega) (by omega) (by omega) (by omega)) si_X10_162 [0, 1, 2, 3] [] rfl rfl (by decide) rfl (by decide) (by decide) rfl rfl rfl rfl rfl (Nat.le_of_ble_eq_true rfl) ⟨Nat.le_of_ble_eq_true rfl, Nat.le_of_ble_eq_true rfl⟩ ⟨Nat.le_of_ble_eq_true rfl, Nat.le_of_ble_eq_true rfl⟩ dX10_takesOne_50 (fun r3689 u3690 H locs hr3689 hP hD hS => ?_)
          obtain ⟨kd13691, ks13692, kn13693, tf13694, ksp13695, gtsp3696⟩ := u3690
          try dsimp only at hr3689
          have hP : va_P G.1 vwCl [(h0, .inr (10, [.ref tby, .int (nI kt), .ref tln, .ref tsp, .int kd13691, .int (nI ks13692), .int (nI kn13693), .int tf13694])), (tby, .inl (G.2.1, 240, .inl fby)), (tsp, .inr (8, [.int 120, .int 1, .ref tspc, .int (nI ksp13695)])), (tspc, .inl (G.2.1, 120, .inl gtsp3696))] H := hP
          have hD : va_D A [(h0, .inr (10, [.ref tby, .int (nI kt), .ref tln, .ref tsp, .int kd13691, .int (nI ks13692), .int (nI kn13693), .int tf13694])), (tby, .inl (G.2.1, 240, .inl fby)), (tsp, .inr (8, [.int 120, .int 1, .ref tspc, .int (nI ksp13695)])), (tspc, .inl (G.2.1, 120, .inl gtsp3696))] := hD
          obtain ⟨hr3689, w3697⟩ := hr3689
          rcases hr3689 with rfl | rfl
          · refine lv_if_ne (tgt := 93) hx hb dX10_takesOne_53 (by decide) (fun _ => ?_) (fun c9 => absurd c9 (by decide))
            refine lv_iload_n hx hb dX10_takesOne_93 rfl (lv_at hl 1 rfl) ?_
            refine lv_if_eq (tgt := 102) hx hb dX10_takesOne_94 (by decide) (fun c_94_3699 => ?_) (fun c_94_3699 => ?_)
            · refine lv_iconst (v := 1) hx hb dX10_takesOne_102 (by decide) ?_
              exact RI (v := 1) hC hP hD hS [0, 1, 2, 3] (kd13691, ks13692, kn13693, tf13694, ksp13695, gtsp3696) rfl rfl (by decide) (⟨Or.inl (rfl), by dsimp only; omega⟩) (by decide +kernel) dX10_takesOne_103
            · refine lv_aload_n hx hb dX10_takesOne_97 rfl (lv_at hl 2 rfl) ?_
              refine lv_iconst (v := (-1)) hx hb dX10_takesOne_98 (by decide) ?_
              refine vV (wr := [(tby, .inl (G.2.1, 240, .inl fby))]) hC hK hl hP hD hS hA (t_addStep l G h0 (-1) tby kt tln tsp kd13691 ks13692 kn13693 tf13694 tspc ksp13695 gtsp3696 (by omega)) si_X10_152 [0, 2, 3] [1] rfl rfl (by decide) rfl (by decide) (by decide) rfl rfl rfl rfl rfl (Nat.le_of_ble_eq_true rfl) ⟨Nat.le_of_ble_eq_true rfl, Nat.le_of_ble_eq_true rfl⟩ ⟨Nat.le_of_ble_eq_true rfl, Nat.le_of_ble_eq_true rfl⟩ dX10_takesOne_99 (fun u3701 H locs hr3700 hP hD hS => ?_)
              obtain ⟨ksp13702, gtsp3703⟩ := u3701
              try dsimp only at hr3700
              have hP : va_P G.1 vwCl [(tby, .inl (G.2.1, 240, .inl fby)), (h0, .inr (10, [.ref tby, .int (nI kt), .ref tln, .ref tsp, .int kd13691, .int (nI ks13692), .int (nI kn13693), .int tf13694])), (tsp, .inr (8, [.int 120, .int 1, .ref tspc, .int (nI ksp13702)])), (tspc, .inl (G.2.1, 120, .inl gtsp3703))] H := hP
              have hD : va_D A [(tby, .inl (G.2.1, 240, .inl fby)), (h0, .inr (10, [.ref tby, .int (nI kt), .ref tln, .ref tsp, .int kd13691, .int (nI ks13692), .int (nI kn13693), .int tf13694])), (tsp, .inr (8, [.int 120, .int 1, .ref tspc, .int (nI ksp13702)])), (tspc, .inl (G.2.1, 120, .inl gtsp3703))] := hD
              have w3704 := hr3700
              refine lv_iconst (v := 1) hx hb dX10_takesOne_102 (by decide) ?_
              exact RI (v := 1) hC hP hD hS [1, 0, 2, 3] (kd13691, ks13692, kn13693, tf13694, ksp13702, gtsp3703) rfl rfl (by decide) (⟨Or.inl (rfl), by dsimp only; omega⟩) (by decide +kernel) dX10_takesOne_103
          · refine lv_if_ne (tgt := 93) hx hb dX10_takesOne_53 (by decide) (fun c9 => absurd (by decide) c9) (fun _ => ?_)
            refine lv_iconst (v := 0) hx hb dX10_takesOne_56 (by decide) ?_
            exact RI (v := 0) hC hP hD hS [0, 1, 2, 3] (kd13691, ks13692, kn13693, tf13694, ksp13695, gtsp3696) rfl rfl (by decide) (⟨Or.inr (rfl), by dsimp only; omega⟩) (by decide +kernel) dX10_takesOne_57
  exact keyP 240 0 0 tkd tf9 ks kn _ _ _ (by omega) (by first | assumption | exact Or.inl rfl | exact Or.inr rfl | omega) (by first | assumption | exact Or.inl rfl | exact Or.inr rfl | omega) hP hD hS (lv_sub hl [0, 1, 2, 3] rfl)
set_option maxHeartbeats 4000000 in
set_option maxRecDepth 100000 in
theorem t_all0 (l : Launch) (G : GG) (K : OO) (h0 : Nat) (tby : Nat) (kt : Nat) (tln : Nat) (tsp : Nat) (tkd : Int32) (ks : Nat) (kn : Nat) (tf9 : Int32) (fby : Nat → Int32) (tspc : Nat) (ksp : Nat) (ftsp : Nat → Int32) (hkt : kt ≤ 240) (hks : ks ≤ 240) (hkn : kn ≤ 240) (hksp : ksp ≤ 120) : MIo l G K yX10_takesAll cX10_takesAll 3 (some .boolean) 26 0 0 [.ref h0, .int 0] [(h0, .inr (10, [.ref tby, .int (nI kt), .ref tln, .ref tsp, .int tkd, .int (nI ks), .int (nI kn), .int tf9])), (tby, .inl (G.2.1, 240, .inl fby)), (tsp, .inr (8, [.int 120, .int 1, .ref tspc, .int (nI ksp)])), (tspc, .inl (G.2.1, 120, .inl ftsp))] (fun (r : Int32) (u : Int32 × Nat × Nat × Int32 × Nat × (Nat → Int32)) => (r = 1 ∨ r = 0) ∧ (u.2.1 ≤ 240 ∧ u.2.2.1 ≤ 240 ∧ u.2.2.2.2.1 ≤ 120)) (fun u : Int32 × Nat × Nat × Int32 × Nat × (Nat → Int32) => [(h0, .inr (10, [.ref tby, .int (nI kt), .ref tln, .ref tsp, .int u.1, .int (nI u.2.1), .int (nI u.2.2.1), .int u.2.2.2.1])), (tby, .inl (G.2.1, 240, .inl fby)), (tsp, .inr (8, [.int 120, .int 1, .ref tspc, .int (nI u.2.2.2.2.1)])), (tspc, .inl (G.2.1, 120, .inl u.2.2.2.2.2))]) := by
  refine MIo.start (by decide +kernel) (Nat.le_of_ble_eq_true rfl) ?_
  intro p e s m below meth c A ls hC hK hP hD hS hA hl hO
  have hl : lv_has ls 3 [(0, .ref h0), (1, .int 0)] := hl
  obtain ⟨hx, hb, hr, hml, hB, hown, hlocks, hnm⟩ := id hC
  refine lv_aload_n hx hb dX10_takesAll_0 rfl (lv_at hl 0 rfl) ?_
  refine lv_iload_n hx hb dX10_takesAll_1 rfl (lv_at hl 1 rfl) ?_
  refine iVo (wr := []) hO hC hK hl hP hD hS hA (t_one0 l G K h0 tby kt tln tsp tkd ks kn tf9 fby tspc ksp ftsp (by omega) (by omega) (by omega) (by omega)) si_X10_155 [0, 1, 2, 3] [] rfl rfl (by decide) rfl (by decide) (by decide) rfl rfl rfl rfl rfl (Nat.le_of_ble_eq_true rfl) ⟨Nat.le_of_ble_eq_true rfl, Nat.le_of_ble_eq_true rfl⟩ ⟨Nat.le_of_ble_eq_true rfl, Nat.le_of_ble_eq_true rfl⟩ dX10_takesAll_2 (fun r3705 u3706 H locs hr3705 hP hD hS => ?_)
  obtain ⟨kd13707, ks13708, kn13709, tf13710, ksp13711, gtsp3712⟩ := u3706
  try dsimp only at hr3705
  have hP : va_P G.1 vwCl [(h0, .inr (10, [.ref tby, .int (nI kt), .ref tln, .ref tsp, .int kd13707, .int (nI ks13708), .int (nI kn13709), .int tf13710])), (tby, .inl (G.2.1, 240, .inl fby)), (tsp, .inr (8, [.int 120, .int 1, .ref tspc, .int (nI ksp13711)])), (tspc, .inl (G.2.1, 120, .inl gtsp3712))] H := hP
  have hD : va_D A [(h0, .inr (10, [.ref tby, .int (nI kt), .ref tln, .ref tsp, .int kd13707, .int (nI ks13708), .int (nI kn13709), .int tf13710])), (tby, .inl (G.2.1, 240, .inl fby)), (tsp, .inr (8, [.int 120, .int 1, .ref tspc, .int (nI ksp13711)])), (tspc, .inl (G.2.1, 120, .inl gtsp3712))] := hD
  obtain ⟨hr3705, w3713⟩ := hr3705
  rcases hr3705 with rfl | rfl
  · refine lv_if_ne (tgt := 10) hx hb dX10_takesAll_5 (by decide) (fun _ => ?_) (fun c9 => absurd c9 (by decide))
    refine lv_iconst (v := 0) hx hb dX10_takesAll_10 (by decide) ?_
    refine lv_istore_n (lv' := [(2, .int 0), (0, .ref h0), (1, .int 0)]) hx hb dX10_takesAll_11 rfl hl (by decide) rfl (fun ls hl => ?_)
    have keyP : ∀ (nP kP : Nat) (vkd : Int32) (vtf : Int32) (vtsp : Nat → Int32) (vks : Nat) (vkn : Nat) (vksp : Nat) (H : Heap) (locs : List Loc) (ls : Array Slot), kP + nP = 240 → (vks ≤ 240) → (vkn ≤ 240) → (vksp ≤ 120) → va_P G.1 vwCl [(h0, .inr (10, [.ref tby, .int (nI kt), .ref tln, .ref tsp, .int vkd, .int (nI vks), .int (nI vkn), .int vtf])), (tby, .inl (G.2.1, 240, .inl fby)), (tsp, .inr (8, [.int 120, .int 1, .ref tspc, .int (nI vksp)])), (tspc, .inl (G.2.1, 120, .inl vtsp))] H → va_D A [(h0, .inr (10, [.ref tby, .int (nI kt), .ref tln, .ref tsp, .int vkd, .int (nI vks), .int (nI vkn), .int vtf])), (tby, .inl (G.2.1, 240, .inl fby)), (tsp, .inr (8, [.int 120, .int 1, .ref tspc, .int (nI vksp)])), (tspc, .inl (G.2.1, 120, .inl vtsp))] → va_S A s.heap H locs → lv_has ls 3 [(2, .int (nI kP)), (0, .ref h0), (1, .int 0)] → W p l e (RM 26 0 0) s m ([.ref h0, .int 0] : List Value).toArray below meth c H locs 0 0 (MQ below (QI G (fun (r : Int32) (u : Int32 × Nat × Nat × Int32 × Nat × (Nat → Int32)) => (r = 1 ∨ r = 0) ∧ (u.2.1 ≤ 240 ∧ u.2.2.1 ≤ 240 ∧ u.2.2.2.2.1 ≤ 120)) (fun u : Int32 × Nat × Nat × Int32 × Nat × (Nat → Int32) => [(h0, .inr (10, [.ref tby, .int (nI kt), .ref tln, .ref tsp, .int u.1, .int (nI u.2.1), .int (nI u.2.2.1), .int u.2.2.2.1])), (tby, .inl (G.2.1, 240, .inl fby)), (tsp, .inr (8, [.int 120, .int 1, .ref tspc, .int (nI u.2.2.2.2.1)])), (tspc, .inl (G.2.1, 120, .inl u.2.2.2.2.2))]) A) ([.ref h0, .int 0] : List Value).toArray s 0 0 A) (F0 m 12 ls []) := by
      intro nP
      induction nP with
      | zero =>
        intro kP vkd vtf vtsp vks vkn vksp H locs ls hkP hvks hvkn hvksp hP hD hS hl
        obtain rfl : 240 = kP := by omega
        have hl : lv_has ls 3 [(2, .int 240), (0, .ref h0), (1, .int 0)] := hl
        refine lv_iload_n hx hb dX10_takesAll_12 rfl (lv_at hl 0 rfl) ?_
        refine lv_sipush (v := 240) hx hb dX10_takesAll_13 (by decide) ?_
        refine lv_icmp_ge (tgt := 54) hx hb dX10_takesAll_16 (by decide) (fun _ => ?_) (fun c9 => absurd (by decide) c9)
        refine lv_iconst (v := 1) hx hb dX10_takesAll_54 (by decide) ?_
        exact RI (v := 1) hC hP hD hS [0, 1, 2, 3] (vkd, vks, vkn, vtf, vksp, vtsp) rfl rfl (by decide) (⟨Or.inl (rfl), by dsimp only; omega⟩) (by decide +kernel) dX10_takesAll_55
      | succ nP ihP =>
        intro kP vkd vtf vtsp vks vkn vksp H locs ls hkP hvks hvkn hvksp hP hD hS hl
        refine lv_iload_n hx hb dX10_takesAll_12 rfl (lv_at hl 0 rfl) ?_
        refine lv_sipush (v := 240) hx hb dX10_takesAll_13 (by decide) ?_
        refine lv_icmp_ge (tgt := 54) hx hb dX10_takesAll_16 (by decide) (fun c9 => absurd c9 (nI_ge (a := kP) (b := 240) (by omega) (by omega))) (fun _ => ?_)
        refine lv_aload_n hx hb dX10_takesAll_19 rfl (lv_at hl 1 rfl) ?_
        refine va_ldcS (index := 158) (tx := "and") hx hb hown (hO.2.1 9 (by decide)) dX10_takesAll_20 ?_
        refine pVo hO hS hC hK hl hP hD (t_isName l G K 9 h0 tby kt tln tsp vkd vks vkn vtf fby (by omega) (by omega) (by omega) ((by decide))) si_X10_102 [0, 1] rfl rfl (by decide) rfl rfl rfl rfl rfl (Nat.le_of_ble_eq_true rfl) ⟨Nat.le_of_ble_eq_true rfl, Nat.le_of_ble_eq_true rfl⟩ ⟨by first | exact Nat.le_of_ble_eq_true rfl | exact Nat.zero_le _, by first | exact Nat.le_of_ble_eq_true rfl | exact Nat.zero_le _⟩ dX10_takesAll_22 (fun r3715 hr3715 => ?_)
        rcases hr3715 with rfl | rfl
        · refine lv_if_eq (tgt := 54) hx hb dX10_takesAll_25 (by decide) (fun c9 => absurd c9 (by decide)) (fun _ => ?_)
          refine lv_aload_n hx hb dX10_takesAll_28 rfl (lv_at hl 1 rfl) ?_
          refine vV (wr := [(tsp, .inr (8, [.int 120, .int 1, .ref tspc, .int (nI vksp)])), (tspc, .inl (G.2.1, 120, .inl vtsp))]) hC hK hl hP hD hS hA (t_advance l G h0 tby kt tln tsp vkd vks vkn vtf fby (by omega) (by omega) (by omega)) si_X10_47 [0, 1] [2, 3] rfl rfl (by decide) rfl (by decide) (by decide) rfl rfl rfl rfl rfl (Nat.le_of_ble_eq_true rfl) ⟨Nat.le_of_ble_eq_true rfl, Nat.le_of_ble_eq_true rfl⟩ ⟨Nat.le_of_ble_eq_true rfl, Nat.le_of_ble_eq_true rfl⟩ dX10_takesAll_29 (fun u3718 H locs hr3717 hP hD hS => ?_)
          obtain ⟨kd13719, ks13720, kn13721⟩ := u3718
          try dsimp only at hr3717
          have hP : va_P G.1 vwCl [(tsp, .inr (8, [.int 120, .int 1, .ref tspc, .int (nI vksp)])), (tspc, .inl (G.2.1, 120, .inl vtsp)), (h0, .inr (10, [.ref tby, .int (nI kt), .ref tln, .ref tsp, .int kd13719, .int (nI ks13720), .int (nI kn13721), .int vtf])), (tby, .inl (G.2.1, 240, .inl fby))] H := hP
          have hD : va_D A [(tsp, .inr (8, [.int 120, .int 1, .ref tspc, .int (nI vksp)])), (tspc, .inl (G.2.1, 120, .inl vtsp)), (h0, .inr (10, [.ref tby, .int (nI kt), .ref tln, .ref tsp, .int kd13719, .int (nI ks13720), .int (nI kn13721), .int vtf])), (tby, .inl (G.2.1, 240, .inl fby))] := hD
          have w3722 := hr3717
          refine lv_aload_n hx hb dX10_takesAll_32 rfl (lv_at hl 1 rfl) ?_
          refine lv_iload_n hx hb dX10_takesAll_33 rfl (lv_at hl 2 rfl) ?_
          refine iVo (wr := []) hO hC hK hl hP hD hS hA (t_one0 l G K h0 tby kt tln tsp kd13719 ks13720 kn13721 vtf fby tspc vksp vtsp (by omega) (by omega) (by omega) (by omega)) si_X10_155 [2, 3, 0, 1] [] rfl rfl (by decide) rfl (by decide) (by decide) rfl rfl rfl rfl rfl (Nat.le_of_ble_eq_true rfl) ⟨Nat.le_of_ble_eq_true rfl, Nat.le_of_ble_eq_true rfl⟩ ⟨Nat.le_of_ble_eq_true rfl, Nat.le_of_ble_eq_true rfl⟩ dX10_takesAll_34 (fun r3723 u3724 H locs hr3723 hP hD hS => ?_)
          obtain ⟨kd13725, ks13726, kn13727, tf13728, ksp13729, gtsp3730⟩ := u3724
          try dsimp only at hr3723
          have hP : va_P G.1 vwCl [(h0, .inr (10, [.ref tby, .int (nI kt), .ref tln, .ref tsp, .int kd13725, .int (nI ks13726), .int (nI kn13727), .int tf13728])), (tby, .inl (G.2.1, 240, .inl fby)), (tsp, .inr (8, [.int 120, .int 1, .ref tspc, .int (nI ksp13729)])), (tspc, .inl (G.2.1, 120, .inl gtsp3730))] H := hP
          have hD : va_D A [(h0, .inr (10, [.ref tby, .int (nI kt), .ref tln, .ref tsp, .int kd13725, .int (nI ks13726), .int (nI kn13727), .int tf13728])), (tby, .inl (G.2.1, 240, .inl fby)), (tsp, .inr (8, [.int 120, .int 1, .ref tspc, .int (nI ksp13729)])), (tspc, .inl (G.2.1, 120, .inl gtsp3730))] := hD
          obtain ⟨hr3723, w3731⟩ := hr3723
          rcases hr3723 with rfl | rfl
          · refine lv_if_ne (tgt := 42) hx hb dX10_takesAll_37 (by decide) (fun _ => ?_) (fun c9 => absurd c9 (by decide))
            refine lv_aload_n hx hb dX10_takesAll_42 rfl (lv_at hl 1 rfl) ?_
            refine lv_bipush (v := (-2)) hx hb dX10_takesAll_43 (by decide) ?_
            refine vV (wr := [(tby, .inl (G.2.1, 240, .inl fby))]) hC hK hl hP hD hS hA (t_addStep l G h0 (-2) tby kt tln tsp kd13725 ks13726 kn13727 tf13728 tspc ksp13729 gtsp3730 (by omega)) si_X10_152 [0, 2, 3] [1] rfl rfl (by decide) rfl (by decide) (by decide) rfl rfl rfl rfl rfl (Nat.le_of_ble_eq_true rfl) ⟨Nat.le_of_ble_eq_true rfl, Nat.le_of_ble_eq_true rfl⟩ ⟨Nat.le_of_ble_eq_true rfl, Nat.le_of_ble_eq_true rfl⟩ dX10_takesAll_45 (fun u3734 H locs hr3733 hP hD hS => ?_)
            obtain ⟨ksp13735, gtsp3736⟩ := u3734
            try dsimp only at hr3733
            have hP : va_P G.1 vwCl [(tby, .inl (G.2.1, 240, .inl fby)), (h0, .inr (10, [.ref tby, .int (nI kt), .ref tln, .ref tsp, .int kd13725, .int (nI ks13726), .int (nI kn13727), .int tf13728])), (tsp, .inr (8, [.int 120, .int 1, .ref tspc, .int (nI ksp13735)])), (tspc, .inl (G.2.1, 120, .inl gtsp3736))] H := hP
            have hD : va_D A [(tby, .inl (G.2.1, 240, .inl fby)), (h0, .inr (10, [.ref tby, .int (nI kt), .ref tln, .ref tsp, .int kd13725, .int (nI ks13726), .int (nI kn13727), .int tf13728])), (tsp, .inr (8, [.int 120, .int 1, .ref tspc, .int (nI ksp13735)])), (tspc, .inl (G.2.1, 120, .inl gtsp3736))] := hD
            have w3737 := hr3733
            refine lv_iinc (v := nI (kP + 1)) (lv' := [(2, .int (nI (kP + 1))), (0, .ref h0), (1, .int 0)]) hx hb dX10_takesAll_48 hl (k := 0) rfl (nI_1 _) (by decide) rfl (fun ls hl => ?_)
            refine lv_goto (tgt := 12) hx hb dX10_takesAll_51 (by decide) ?_
            have hP := hP.sub (ws' := [(h0, .inr (10, [.ref tby, .int (nI kt), .ref tln, .ref tsp, .int kd13725, .int (nI ks13726), .int (nI kn13727), .int tf13728])), (tby, .inl (G.2.1, 240, .inl fby)), (tsp, .inr (8, [.int 120, .int 1, .ref tspc, .int (nI ksp13735)])), (tspc, .inl (G.2.1, 120, .inl gtsp3736))]) [1, 0, 2, 3] rfl
            have hD := hD.sub (ws' := [(h0, .inr (10, [.ref tby, .int (nI kt), .ref tln, .ref tsp, .int kd13725, .int (nI ks13726), .int (nI kn13727), .int tf13728])), (tby, .inl (G.2.1, 240, .inl fby)), (tsp, .inr (8, [.int 120, .int 1, .ref tspc, .int (nI ksp13735)])), (tspc, .inl (G.2.1, 120, .inl gtsp3736))]) [1, 0, 2, 3] (by decide) rfl
            exact ihP (kP + 1) kd13725 tf13728 gtsp3736 ks13726 kn13727 ksp13735 _ _ _ (by omega) (by first | assumption | exact Or.inl rfl | exact Or.inr rfl | omega) (by first | assumption | exact Or.inl rfl | exact Or.inr rfl | omega) (by first | assumption | exact Or.inl rfl | exact Or.inr rfl | omega) hP hD hS (lv_sub hl [0, 1, 2] rfl)
          · refine lv_if_ne (tgt := 42) hx hb dX10_takesAll_37 (by decide) (fun c9 => absurd (by decide) c9) (fun _ => ?_)
            refine lv_iconst (v := 0) hx hb dX10_takesAll_40 (by decide) ?_
            exact RI (v := 0) hC hP hD hS [0, 1, 2, 3] (kd13725, ks13726, kn13727, tf13728, ksp13729, gtsp3730) rfl rfl (by decide) (⟨Or.inr (rfl), by dsimp only; omega⟩) (by decide +kernel) dX10_takesAll_41
        · refine lv_if_eq (tgt := 54) hx hb dX10_takesAll_25 (by decide) (fun _ => ?_) (fun c9 => absurd (by decide) c9)
          refine lv_iconst (v := 1) hx hb dX10_takesAll_54 (by decide) ?_
          exact RI (v := 1) hC hP hD hS [0, 1, 2, 3] (vkd, vks, vkn, vtf, vksp, vtsp) rfl rfl (by decide) (⟨Or.inl (rfl), by dsimp only; omega⟩) (by decide +kernel) dX10_takesAll_55
    exact keyP 240 0 kd13707 tf13710 gtsp3712 ks13708 kn13709 ksp13711 _ _ _ (by omega) (by first | assumption | exact Or.inl rfl | exact Or.inr rfl | omega) (by first | assumption | exact Or.inl rfl | exact Or.inr rfl | omega) (by first | assumption | exact Or.inl rfl | exact Or.inr rfl | omega) hP hD hS (lv_sub hl [0, 1, 2] rfl)
  · refine lv_if_ne (tgt := 10) hx hb dX10_takesAll_5 (by decide) (fun c9 => absurd (by decide) c9) (fun _ => ?_)
    refine lv_iconst (v := 0) hx hb dX10_takesAll_8 (by decide) ?_
    exact RI (v := 0) hC hP hD hS [0, 1, 2, 3] (kd13707, ks13708, kn13709, tf13710, ksp13711, gtsp3712) rfl rfl (by decide) (⟨Or.inr (rfl), by dsimp only; omega⟩) (by decide +kernel) dX10_takesAll_9
set_option maxHeartbeats 4000000 in
set_option maxRecDepth 100000 in
theorem t_cond0 (l : Launch) (G : GG) (K : OO) (h0 : Nat) (tby : Nat) (kt : Nat) (tln : Nat) (tsp : Nat) (tkd : Int32) (ks : Nat) (kn : Nat) (tf9 : Int32) (fby : Nat → Int32) (tspc : Nat) (ksp : Nat) (ftsp : Nat → Int32) (hkt : kt ≤ 240) (hks : ks ≤ 240) (hkn : kn ≤ 240) (hksp : ksp ≤ 120) : MIo l G K yX10_takesCond cX10_takesCond 3 (some .boolean) 27 0 0 [.ref h0, .int 0] [(h0, .inr (10, [.ref tby, .int (nI kt), .ref tln, .ref tsp, .int tkd, .int (nI ks), .int (nI kn), .int tf9])), (tby, .inl (G.2.1, 240, .inl fby)), (tsp, .inr (8, [.int 120, .int 1, .ref tspc, .int (nI ksp)])), (tspc, .inl (G.2.1, 120, .inl ftsp))] (fun (r : Int32) (u : Int32 × Nat × Nat × Int32 × Nat × (Nat → Int32)) => (r = 1 ∨ r = 0) ∧ (u.2.1 ≤ 240 ∧ u.2.2.1 ≤ 240 ∧ u.2.2.2.2.1 ≤ 120)) (fun u : Int32 × Nat × Nat × Int32 × Nat × (Nat → Int32) => [(h0, .inr (10, [.ref tby, .int (nI kt), .ref tln, .ref tsp, .int u.1, .int (nI u.2.1), .int (nI u.2.2.1), .int u.2.2.2.1])), (tby, .inl (G.2.1, 240, .inl fby)), (tsp, .inr (8, [.int 120, .int 1, .ref tspc, .int (nI u.2.2.2.2.1)])), (tspc, .inl (G.2.1, 120, .inl u.2.2.2.2.2))]) := by
  refine MIo.start (by decide +kernel) (Nat.le_of_ble_eq_true rfl) ?_
  intro p e s m below meth c A ls hC hK hP hD hS hA hl hO
  have hl : lv_has ls 3 [(0, .ref h0), (1, .int 0)] := hl
  obtain ⟨hx, hb, hr, hml, hB, hown, hlocks, hnm⟩ := id hC
  refine lv_aload_n hx hb dX10_takesCond_0 rfl (lv_at hl 0 rfl) ?_
  refine lv_iload_n hx hb dX10_takesCond_1 rfl (lv_at hl 1 rfl) ?_
  refine iVo (wr := []) hO hC hK hl hP hD hS hA (t_all0 l G K h0 tby kt tln tsp tkd ks kn tf9 fby tspc ksp ftsp (by omega) (by omega) (by omega) (by omega)) si_X10_147 [0, 1, 2, 3] [] rfl rfl (by decide) rfl (by decide) (by decide) rfl rfl rfl rfl rfl (Nat.le_of_ble_eq_true rfl) ⟨Nat.le_of_ble_eq_true rfl, Nat.le_of_ble_eq_true rfl⟩ ⟨Nat.le_of_ble_eq_true rfl, Nat.le_of_ble_eq_true rfl⟩ dX10_takesCond_2 (fun r3738 u3739 H locs hr3738 hP hD hS => ?_)
  obtain ⟨kd13740, ks13741, kn13742, tf13743, ksp13744, gtsp3745⟩ := u3739
  try dsimp only at hr3738
  have hP : va_P G.1 vwCl [(h0, .inr (10, [.ref tby, .int (nI kt), .ref tln, .ref tsp, .int kd13740, .int (nI ks13741), .int (nI kn13742), .int tf13743])), (tby, .inl (G.2.1, 240, .inl fby)), (tsp, .inr (8, [.int 120, .int 1, .ref tspc, .int (nI ksp13744)])), (tspc, .inl (G.2.1, 120, .inl gtsp3745))] H := hP
  have hD : va_D A [(h0, .inr (10, [.ref tby, .int (nI kt), .ref tln, .ref tsp, .int kd13740, .int (nI ks13741), .int (nI kn13742), .int tf13743])), (tby, .inl (G.2.1, 240, .inl fby)), (tsp, .inr (8, [.int 120, .int 1, .ref tspc, .int (nI ksp13744)])), (tspc, .inl (G.2.1, 120, .inl gtsp3745))] := hD
  obtain ⟨hr3738, w3746⟩ := hr3738
  rcases hr3738 with rfl | rfl
  · refine lv_if_ne (tgt := 10) hx hb dX10_takesCond_5 (by decide) (fun _ => ?_) (fun c9 => absurd c9 (by decide))
    refine lv_iconst (v := 0) hx hb dX10_takesCond_10 (by decide) ?_
    refine lv_istore_n (lv' := [(2, .int 0), (0, .ref h0), (1, .int 0)]) hx hb dX10_takesCond_11 rfl hl (by decide) rfl (fun ls hl => ?_)
    have keyP : ∀ (nP kP : Nat) (vkd : Int32) (vtf : Int32) (vtsp : Nat → Int32) (vks : Nat) (vkn : Nat) (vksp : Nat) (H : Heap) (locs : List Loc) (ls : Array Slot), kP + nP = 240 → (vks ≤ 240) → (vkn ≤ 240) → (vksp ≤ 120) → va_P G.1 vwCl [(h0, .inr (10, [.ref tby, .int (nI kt), .ref tln, .ref tsp, .int vkd, .int (nI vks), .int (nI vkn), .int vtf])), (tby, .inl (G.2.1, 240, .inl fby)), (tsp, .inr (8, [.int 120, .int 1, .ref tspc, .int (nI vksp)])), (tspc, .inl (G.2.1, 120, .inl vtsp))] H → va_D A [(h0, .inr (10, [.ref tby, .int (nI kt), .ref tln, .ref tsp, .int vkd, .int (nI vks), .int (nI vkn), .int vtf])), (tby, .inl (G.2.1, 240, .inl fby)), (tsp, .inr (8, [.int 120, .int 1, .ref tspc, .int (nI vksp)])), (tspc, .inl (G.2.1, 120, .inl vtsp))] → va_S A s.heap H locs → lv_has ls 3 [(2, .int (nI kP)), (0, .ref h0), (1, .int 0)] → W p l e (RM 27 0 0) s m ([.ref h0, .int 0] : List Value).toArray below meth c H locs 0 0 (MQ below (QI G (fun (r : Int32) (u : Int32 × Nat × Nat × Int32 × Nat × (Nat → Int32)) => (r = 1 ∨ r = 0) ∧ (u.2.1 ≤ 240 ∧ u.2.2.1 ≤ 240 ∧ u.2.2.2.2.1 ≤ 120)) (fun u : Int32 × Nat × Nat × Int32 × Nat × (Nat → Int32) => [(h0, .inr (10, [.ref tby, .int (nI kt), .ref tln, .ref tsp, .int u.1, .int (nI u.2.1), .int (nI u.2.2.1), .int u.2.2.2.1])), (tby, .inl (G.2.1, 240, .inl fby)), (tsp, .inr (8, [.int 120, .int 1, .ref tspc, .int (nI u.2.2.2.2.1)])), (tspc, .inl (G.2.1, 120, .inl u.2.2.2.2.2))]) A) ([.ref h0, .int 0] : List Value).toArray s 0 0 A) (F0 m 12 ls []) := by
      intro nP
      induction nP with
      | zero =>
        intro kP vkd vtf vtsp vks vkn vksp H locs ls hkP hvks hvkn hvksp hP hD hS hl
        obtain rfl : 240 = kP := by omega
        have hl : lv_has ls 3 [(2, .int 240), (0, .ref h0), (1, .int 0)] := hl
        refine lv_iload_n hx hb dX10_takesCond_12 rfl (lv_at hl 0 rfl) ?_
        refine lv_sipush (v := 240) hx hb dX10_takesCond_13 (by decide) ?_
        refine lv_icmp_ge (tgt := 54) hx hb dX10_takesCond_16 (by decide) (fun _ => ?_) (fun c9 => absurd (by decide) c9)
        refine lv_iconst (v := 1) hx hb dX10_takesCond_54 (by decide) ?_
        exact RI (v := 1) hC hP hD hS [0, 1, 2, 3] (vkd, vks, vkn, vtf, vksp, vtsp) rfl rfl (by decide) (⟨Or.inl (rfl), by dsimp only; omega⟩) (by decide +kernel) dX10_takesCond_55
      | succ nP ihP =>
        intro kP vkd vtf vtsp vks vkn vksp H locs ls hkP hvks hvkn hvksp hP hD hS hl
        refine lv_iload_n hx hb dX10_takesCond_12 rfl (lv_at hl 0 rfl) ?_
        refine lv_sipush (v := 240) hx hb dX10_takesCond_13 (by decide) ?_
        refine lv_icmp_ge (tgt := 54) hx hb dX10_takesCond_16 (by decide) (fun c9 => absurd c9 (nI_ge (a := kP) (b := 240) (by omega) (by omega))) (fun _ => ?_)
        refine lv_aload_n hx hb dX10_takesCond_19 rfl (lv_at hl 1 rfl) ?_
        refine va_ldcS (index := 150) (tx := "o\x72") hx hb hown (hO.2.1 8 (by decide)) dX10_takesCond_20 ?_
        refine pVo hO hS hC hK hl hP hD (t_isName l G K 8 h0 tby kt tln tsp vkd vks vkn vtf fby (by omega) (by omega) (by omega) ((by decide))) si_X10_102 [0, 1] rfl rfl (by decide) rfl rfl rfl rfl rfl (Nat.le_of_ble_eq_true rfl) ⟨Nat.le_of_ble_eq_true rfl, Nat.le_of_ble_eq_true rfl⟩ ⟨by first | exact Nat.le_of_ble_eq_true rfl | exact Nat.zero_le _, by first | exact Nat.le_of_ble_eq_true rfl | exact Nat.zero_le _⟩ dX10_takesCond_22 (fun r3748 hr3748 => ?_)
        rcases hr3748 with rfl | rfl
        · refine lv_if_eq (tgt := 54) hx hb dX10_takesCond_25 (by decide) (fun c9 => absurd c9 (by decide)) (fun _ => ?_)
          refine lv_aload_n hx hb dX10_takesCond_28 rfl (lv_at hl 1 rfl) ?_
          refine vV (wr := [(tsp, .inr (8, [.int 120, .int 1, .ref tspc, .int (nI vksp)])), (tspc, .inl (G.2.1, 120, .inl vtsp))]) hC hK hl hP hD hS hA (t_advance l G h0 tby kt tln tsp vkd vks vkn vtf fby (by omega) (by omega) (by omega)) si_X10_47 [0, 1] [2, 3] rfl rfl (by decide) rfl (by decide) (by decide) rfl rfl rfl rfl rfl (Nat.le_of_ble_eq_true rfl) ⟨Nat.le_of_ble_eq_true rfl, Nat.le_of_ble_eq_true rfl⟩ ⟨Nat.le_of_ble_eq_true rfl, Nat.le_of_ble_eq_true rfl⟩ dX10_takesCond_29 (fun u3751 H locs hr3750 hP hD hS => ?_)
          obtain ⟨kd13752, ks13753, kn13754⟩ := u3751
          try dsimp only at hr3750
          have hP : va_P G.1 vwCl [(tsp, .inr (8, [.int 120, .int 1, .ref tspc, .int (nI vksp)])), (tspc, .inl (G.2.1, 120, .inl vtsp)), (h0, .inr (10, [.ref tby, .int (nI kt), .ref tln, .ref tsp, .int kd13752, .int (nI ks13753), .int (nI kn13754), .int vtf])), (tby, .inl (G.2.1, 240, .inl fby))] H := hP
          have hD : va_D A [(tsp, .inr (8, [.int 120, .int 1, .ref tspc, .int (nI vksp)])), (tspc, .inl (G.2.1, 120, .inl vtsp)), (h0, .inr (10, [.ref tby, .int (nI kt), .ref tln, .ref tsp, .int kd13752, .int (nI ks13753), .int (nI kn13754), .int vtf])), (tby, .inl (G.2.1, 240, .inl fby))] := hD
          have w3755 := hr3750
          refine lv_aload_n hx hb dX10_takesCond_32 rfl (lv_at hl 1 rfl) ?_
          refine lv_iload_n hx hb dX10_takesCond_33 rfl (lv_at hl 2 rfl) ?_
          refine iVo (wr := []) hO hC hK hl hP hD hS hA (t_all0 l G K h0 tby kt tln tsp kd13752 ks13753 kn13754 vtf fby tspc vksp vtsp (by omega) (by omega) (by omega) (by omega)) si_X10_147 [2, 3, 0, 1] [] rfl rfl (by decide) rfl (by decide) (by decide) rfl rfl rfl rfl rfl (Nat.le_of_ble_eq_true rfl) ⟨Nat.le_of_ble_eq_true rfl, Nat.le_of_ble_eq_true rfl⟩ ⟨Nat.le_of_ble_eq_true rfl, Nat.le_of_ble_eq_true rfl⟩ dX10_takesCond_34 (fun r3756 u3757 H locs hr3756 hP hD hS => ?_)
          obtain ⟨kd13758, ks13759, kn13760, tf13761, ksp13762, gtsp3763⟩ := u3757
          try dsimp only at hr3756
          have hP : va_P G.1 vwCl [(h0, .inr (10, [.ref tby, .int (nI kt), .ref tln, .ref tsp, .int kd13758, .int (nI ks13759), .int (nI kn13760), .int tf13761])), (tby, .inl (G.2.1, 240, .inl fby)), (tsp, .inr (8, [.int 120, .int 1, .ref tspc, .int (nI ksp13762)])), (tspc, .inl (G.2.1, 120, .inl gtsp3763))] H := hP
          have hD : va_D A [(h0, .inr (10, [.ref tby, .int (nI kt), .ref tln, .ref tsp, .int kd13758, .int (nI ks13759), .int (nI kn13760), .int tf13761])), (tby, .inl (G.2.1, 240, .inl fby)), (tsp, .inr (8, [.int 120, .int 1, .ref tspc, .int (nI ksp13762)])), (tspc, .inl (G.2.1, 120, .inl gtsp3763))] := hD
          obtain ⟨hr3756, w3764⟩ := hr3756
          rcases hr3756 with rfl | rfl
          · refine lv_if_ne (tgt := 42) hx hb dX10_takesCond_37 (by decide) (fun _ => ?_) (fun c9 => absurd c9 (by decide))
            refine lv_aload_n hx hb dX10_takesCond_42 rfl (lv_at hl 1 rfl) ?_
            refine lv_bipush (v := (-3)) hx hb dX10_takesCond_43 (by decide) ?_
            refine vV (wr := [(tby, .inl (G.2.1, 240, .inl fby))]) hC hK hl hP hD hS hA (t_addStep l G h0 (-3) tby kt tln tsp kd13758 ks13759 kn13760 tf13761 tspc ksp13762 gtsp3763 (by omega)) si_X10_152 [0, 2, 3] [1] rfl rfl (by decide) rfl (by decide) (by decide) rfl rfl rfl rfl rfl (Nat.le_of_ble_eq_true rfl) ⟨Nat.le_of_ble_eq_true rfl, Nat.le_of_ble_eq_true rfl⟩ ⟨Nat.le_of_ble_eq_true rfl, Nat.le_of_ble_eq_true rfl⟩ dX10_takesCond_45 (fun u3767 H locs hr3766 hP hD hS => ?_)
            obtain ⟨ksp13768, gtsp3769⟩ := u3767
            try dsimp only at hr3766
            have hP : va_P G.1 vwCl [(tby, .inl (G.2.1, 240, .inl fby)), (h0, .inr (10, [.ref tby, .int (nI kt), .ref tln, .ref tsp, .int kd13758, .int (nI ks13759), .int (nI kn13760), .int tf13761])), (tsp, .inr (8, [.int 120, .int 1, .ref tspc, .int (nI ksp13768)])), (tspc, .inl (G.2.1, 120, .inl gtsp3769))] H := hP
            have hD : va_D A [(tby, .inl (G.2.1, 240, .inl fby)), (h0, .inr (10, [.ref tby, .int (nI kt), .ref tln, .ref tsp, .int kd13758, .int (nI ks13759), .int (nI kn13760), .int tf13761])), (tsp, .inr (8, [.int 120, .int 1, .ref tspc, .int (nI ksp13768)])), (tspc, .inl (G.2.1, 120, .inl gtsp3769))] := hD
            have w3770 := hr3766
            refine lv_iinc (v := nI (kP + 1)) (lv' := [(2, .int (nI (kP + 1))), (0, .ref h0), (1, .int 0)]) hx hb dX10_takesCond_48 hl (k := 0) rfl (nI_1 _) (by decide) rfl (fun ls hl => ?_)
            refine lv_goto (tgt := 12) hx hb dX10_takesCond_51 (by decide) ?_
            have hP := hP.sub (ws' := [(h0, .inr (10, [.ref tby, .int (nI kt), .ref tln, .ref tsp, .int kd13758, .int (nI ks13759), .int (nI kn13760), .int tf13761])), (tby, .inl (G.2.1, 240, .inl fby)), (tsp, .inr (8, [.int 120, .int 1, .ref tspc, .int (nI ksp13768)])), (tspc, .inl (G.2.1, 120, .inl gtsp3769))]) [1, 0, 2, 3] rfl
            have hD := hD.sub (ws' := [(h0, .inr (10, [.ref tby, .int (nI kt), .ref tln, .ref tsp, .int kd13758, .int (nI ks13759), .int (nI kn13760), .int tf13761])), (tby, .inl (G.2.1, 240, .inl fby)), (tsp, .inr (8, [.int 120, .int 1, .ref tspc, .int (nI ksp13768)])), (tspc, .inl (G.2.1, 120, .inl gtsp3769))]) [1, 0, 2, 3] (by decide) rfl
            exact ihP (kP + 1) kd13758 tf13761 gtsp3769 ks13759 kn13760 ksp13768 _ _ _ (by omega) (by first | assumption | exact Or.inl rfl | exact Or.inr rfl | omega) (by first | assumption | exact Or.inl rfl | exact Or.inr rfl | omega) (by first | assumption | exact Or.inl rfl | exact Or.inr rfl | omega) hP hD hS (lv_sub hl [0, 1, 2] rfl)
          · refine lv_if_ne (tgt := 42) hx hb dX10_takesCond_37 (by decide) (fun c9 => absurd (by decide) c9) (fun _ => ?_)
            refine lv_iconst (v := 0) hx hb dX10_takesCond_40 (by decide) ?_
            exact RI (v := 0) hC hP hD hS [0, 1, 2, 3] (kd13758, ks13759, kn13760, tf13761, ksp13762, gtsp3763) rfl rfl (by decide) (⟨Or.inr (rfl), by dsimp only; omega⟩) (by decide +kernel) dX10_takesCond_41
        · refine lv_if_eq (tgt := 54) hx hb dX10_takesCond_25 (by decide) (fun _ => ?_) (fun c9 => absurd (by decide) c9)
          refine lv_iconst (v := 1) hx hb dX10_takesCond_54 (by decide) ?_
          exact RI (v := 1) hC hP hD hS [0, 1, 2, 3] (vkd, vks, vkn, vtf, vksp, vtsp) rfl rfl (by decide) (⟨Or.inl (rfl), by dsimp only; omega⟩) (by decide +kernel) dX10_takesCond_55
    exact keyP 240 0 kd13740 tf13743 gtsp3745 ks13741 kn13742 ksp13744 _ _ _ (by omega) (by first | assumption | exact Or.inl rfl | exact Or.inr rfl | omega) (by first | assumption | exact Or.inl rfl | exact Or.inr rfl | omega) (by first | assumption | exact Or.inl rfl | exact Or.inr rfl | omega) hP hD hS (lv_sub hl [0, 1, 2] rfl)
  · refine lv_if_ne (tgt := 10) hx hb dX10_takesCond_5 (by decide) (fun c9 => absurd (by decide) c9) (fun _ => ?_)
    refine lv_iconst (v := 0) hx hb dX10_takesCond_8 (by decide) ?_
    exact RI (v := 0) hC hP hD hS [0, 1, 2, 3] (kd13740, ks13741, kn13742, tf13743, ksp13744, gtsp3745) rfl rfl (by decide) (⟨Or.inr (rfl), by dsimp only; omega⟩) (by decide +kernel) dX10_takesCond_9
