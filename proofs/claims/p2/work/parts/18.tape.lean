section WR
variable {p : Program} {l : Launch} {e : Env} {R : Room} {s : State} {m : MethodId} {args : Array Value} {below : List Frame} {meth : Method} {c : Code} {H : Heap} {locs : List Loc} {cells slots : Nat} {Q : State → Prop}
variable {pc : Nat} {ls : Array Slot} {rest : List Value} {G : GG} {ws : va_W} {A : Nat → Prop} {y0 : MethodName} {b0 : ByteArray} {mL0 : Nat} {rt0 : Option FieldType} {a : Nat} {H0 : Heap}
theorem dX10_byteAt_0 : decode cX10_byteAt 0 = .ok (.iload_n 1, 1) := by decide +kernel
theorem dX10_byteAt_1 : decode cX10_byteAt 1 = .ok (.ifCond .lt 29, 3) := by decide +kernel
theorem dX10_byteAt_30 : decode cX10_byteAt 30 = .ok (.iconst (-1), 1) := by decide +kernel
theorem dX10_byteAt_31 : decode cX10_byteAt 31 = .ok (.ireturn, 1) := by decide +kernel
theorem dX10_byteAt_4 : decode cX10_byteAt 4 = .ok (.iload_n 1, 1) := by decide +kernel
theorem dX10_byteAt_5 : decode cX10_byteAt 5 = .ok (.aload_n 0, 1) := by decide +kernel
theorem dX10_byteAt_6 : decode cX10_byteAt 6 = .ok (.getfield 27, 3) := by decide +kernel
theorem dX10_byteAt_9 : decode cX10_byteAt 9 = .ok (.if_icmp .ge 21, 3) := by decide +kernel
theorem dX10_byteAt_12 : decode cX10_byteAt 12 = .ok (.iload_n 1, 1) := by decide +kernel
theorem dX10_byteAt_13 : decode cX10_byteAt 13 = .ok (.aload_n 0, 1) := by decide +kernel
theorem dX10_byteAt_14 : decode cX10_byteAt 14 = .ok (.getfield 9, 3) := by decide +kernel
theorem dX10_byteAt_17 : decode cX10_byteAt 17 = .ok (.arraylength, 1) := by decide +kernel
theorem dX10_byteAt_18 : decode cX10_byteAt 18 = .ok (.if_icmp .ge 12, 3) := by decide +kernel
theorem dX10_byteAt_21 : decode cX10_byteAt 21 = .ok (.aload_n 0, 1) := by decide +kernel
theorem dX10_byteAt_22 : decode cX10_byteAt 22 = .ok (.getfield 9, 3) := by decide +kernel
theorem dX10_byteAt_25 : decode cX10_byteAt 25 = .ok (.iload_n 1, 1) := by decide +kernel
theorem dX10_byteAt_26 : decode cX10_byteAt 26 = .ok (.iaload, 1) := by decide +kernel
theorem dX10_byteAt_27 : decode cX10_byteAt 27 = .ok (.goto 4, 3) := by decide +kernel
theorem dX10_isLetter_0 : decode cX10_isLetter 0 = .ok (.iload_n 0, 1) := by decide +kernel
theorem dX10_isLetter_1 : decode cX10_isLetter 1 = .ok (.bipush 97, 2) := by decide +kernel
theorem dX10_isLetter_3 : decode cX10_isLetter 3 = .ok (.bipush 122, 2) := by decide +kernel
theorem dX10_isLetter_5 : decode cX10_isLetter 5 = .ok (.invokestatic 89, 3) := by decide +kernel
theorem nm_50 : Cond.methodLinkNest RX10 89 yX11_within RX11 ∈ NestW := List.mem_of_getElem? (i := 50) (by decide +kernel)
theorem si_X10_89 : SSN RX10 RX11 89 yX11_within cX11_within 3 (some .boolean) 3 := ⟨⟨nm_50, m_213, m_2, m_214⟩, ⟨by decide +kernel, by decide +kernel, by decide +kernel⟩⟩
theorem dX10_isLetter_8 : decode cX10_isLetter 8 = .ok (.ireturn, 1) := by decide +kernel
theorem dX10_isDigit_0 : decode cX10_isDigit 0 = .ok (.iload_n 0, 1) := by decide +kernel
theorem dX10_isDigit_1 : decode cX10_isDigit 1 = .ok (.bipush 48, 2) := by decide +kernel
theorem dX10_isDigit_3 : decode cX10_isDigit 3 = .ok (.bipush 57, 2) := by decide +kernel
theorem dX10_isDigit_5 : decode cX10_isDigit 5 = .ok (.invokestatic 89, 3) := by decide +kernel
theorem dX10_isDigit_8 : decode cX10_isDigit 8 = .ok (.ireturn, 1) := by decide +kernel
theorem dX10_refuse_0 : decode cX10_refuse 0 = .ok (.aload_n 0, 1) := by decide +kernel
theorem dX10_refuse_1 : decode cX10_refuse 1 = .ok (.aload_n 0, 1) := by decide +kernel
theorem dX10_refuse_2 : decode cX10_refuse 2 = .ok (.getfield 34, 3) := by decide +kernel
theorem m_145 : Cond.fieldLink RX10 34 "InquiryBench$Tape" "start" "I" ∈ BW := List.mem_of_getElem? (i := 145) (by decide +kernel)
theorem gf_X10_34 (hC : CX p s m meth c y0 b0 mL0 rt0 args) (hy0 : y0.cls = RX10) (hK : KK G s) (hP : va_P G.1 vwCl ws H) (q0 : Nat) {fs : List Value} {v : Value} (he : ws[q0]? = some (a, .inr (10, fs))) (hv : fs[5]? = some v) (hdg : decode b0 pc = .ok (.getfield 34, 3)) (kk : W p l e R s m args below meth c H locs cells slots Q (F0 m (pc + 3) ls (v :: rest))) : W p l e R s m args below meth c H locs cells slots Q (F0 m pc ls (.ref a :: rest)) := by
  obtain ⟨hx, hb, hr, hml, hB, hown, hlocks, hnm⟩ := hC
  rw [hy0] at hown
  exact va_get (ci := 10) (C := RX10) (T := TX10) (N := 8) hx hb hB in_X10 hown hK.1 hP q0 he rfl 5 (by decide) (hB _ m_145) (fun _ h => h) hv hdg kk
theorem dX10_refuse_5 : decode cX10_refuse 5 = .ok (.putfield 40, 3) := by decide +kernel
theorem m_147 : Cond.fieldLink RX10 40 "InquiryBench$Tape" "fault" "I" ∈ BW := List.mem_of_getElem? (i := 147) (by decide +kernel)
theorem pf_X10_40 (hC : CX p s m meth c y0 b0 mL0 rt0 args) (hy0 : y0.cls = RX10) (hK : KK G s) (hP : va_P G.1 vwCl ws H) (hD : va_D A ws) (hS : va_S A H0 H locs) (q0 : Nat) {fs : List Value} {v : Value} {ws' : va_W} (he : ws[q0]? = some (a, .inr (10, fs))) (hl : 7 < fs.length) (hws : ws.set q0 (a, .inr (10, fs.set 7 v)) = ws') (hn : narrow .int v = v) (hfit : fits .int v = true) (hdg : decode b0 pc = .ok (.putfield 40, 3)) (kk : ∀ (H1 : Heap) (locs1 : List Loc), va_P G.1 vwCl ws' H1 → va_D A ws' → va_S A H0 H1 locs1 → W p l e R s m args below meth c H1 locs1 cells slots Q (F0 m (pc + 3) ls rest)) : W p l e R s m args below meth c H locs cells slots Q (F0 m pc ls (v :: .ref a :: rest)) := by
  obtain ⟨hx, hb, hr, hml, hB, hown, hlocks, hnm⟩ := hC
  rw [hy0] at hown
  subst hws
  exact va_put (ci := 10) (ty := .int) (C := RX10) (T := TX10) (N := 8) hx hb hB in_X10 tyX10 tyX10_ok nmX10 hown hK.1 hP hD hS q0 he rfl 7 (by decide) (hB _ m_147) (fun _ h => h) rfl (by decide +kernel) hn hfit hl hdg kk
theorem dX10_refuse_8 : decode cX10_refuse 8 = .ok (.iconst 0, 1) := by decide +kernel
theorem dX10_refuse_9 : decode cX10_refuse 9 = .ok (.ireturn, 1) := by decide +kernel
theorem dX10_clear_0 : decode cX10_clear 0 = .ok (.aload_n 0, 1) := by decide +kernel
theorem dX10_clear_1 : decode cX10_clear 1 = .ok (.iconst 0, 1) := by decide +kernel
theorem dX10_clear_2 : decode cX10_clear 2 = .ok (.putfield 27, 3) := by decide +kernel
theorem dX10_clear_5 : decode cX10_clear 5 = .ok (.return_, 1) := by decide +kernel
theorem dX10_advance_0 : decode cX10_advance 0 = .ok (.aload_n 0, 1) := by decide +kernel
theorem dX10_advance_1 : decode cX10_advance 1 = .ok (.aload_n 0, 1) := by decide +kernel
theorem dX10_advance_2 : decode cX10_advance 2 = .ok (.getfield 37, 3) := by decide +kernel
theorem m_146 : Cond.fieldLink RX10 37 "InquiryBench$Tape" "next" "I" ∈ BW := List.mem_of_getElem? (i := 146) (by decide +kernel)
theorem gf_X10_37 (hC : CX p s m meth c y0 b0 mL0 rt0 args) (hy0 : y0.cls = RX10) (hK : KK G s) (hP : va_P G.1 vwCl ws H) (q0 : Nat) {fs : List Value} {v : Value} (he : ws[q0]? = some (a, .inr (10, fs))) (hv : fs[6]? = some v) (hdg : decode b0 pc = .ok (.getfield 37, 3)) (kk : W p l e R s m args below meth c H locs cells slots Q (F0 m (pc + 3) ls (v :: rest))) : W p l e R s m args below meth c H locs cells slots Q (F0 m pc ls (.ref a :: rest)) := by
  obtain ⟨hx, hb, hr, hml, hB, hown, hlocks, hnm⟩ := hC
  rw [hy0] at hown
  exact va_get (ci := 10) (C := RX10) (T := TX10) (N := 8) hx hb hB in_X10 hown hK.1 hP q0 he rfl 6 (by decide) (hB _ m_146) (fun _ h => h) hv hdg kk
theorem dX10_advance_5 : decode cX10_advance 5 = .ok (.putfield 34, 3) := by decide +kernel
theorem pf_X10_34 (hC : CX p s m meth c y0 b0 mL0 rt0 args) (hy0 : y0.cls = RX10) (hK : KK G s) (hP : va_P G.1 vwCl ws H) (hD : va_D A ws) (hS : va_S A H0 H locs) (q0 : Nat) {fs : List Value} {v : Value} {ws' : va_W} (he : ws[q0]? = some (a, .inr (10, fs))) (hl : 5 < fs.length) (hws : ws.set q0 (a, .inr (10, fs.set 5 v)) = ws') (hn : narrow .int v = v) (hfit : fits .int v = true) (hdg : decode b0 pc = .ok (.putfield 34, 3)) (kk : ∀ (H1 : Heap) (locs1 : List Loc), va_P G.1 vwCl ws' H1 → va_D A ws' → va_S A H0 H1 locs1 → W p l e R s m args below meth c H1 locs1 cells slots Q (F0 m (pc + 3) ls rest)) : W p l e R s m args below meth c H locs cells slots Q (F0 m pc ls (v :: .ref a :: rest)) := by
  obtain ⟨hx, hb, hr, hml, hB, hown, hlocks, hnm⟩ := hC
  rw [hy0] at hown
  subst hws
  exact va_put (ci := 10) (ty := .int) (C := RX10) (T := TX10) (N := 8) hx hb hB in_X10 tyX10 tyX10_ok nmX10 hown hK.1 hP hD hS q0 he rfl 5 (by decide) (hB _ m_145) (fun _ h => h) rfl (by decide +kernel) hn hfit hl hdg kk
theorem dX10_advance_8 : decode cX10_advance 8 = .ok (.aload_n 0, 1) := by decide +kernel
theorem dX10_advance_9 : decode cX10_advance 9 = .ok (.getfield 34, 3) := by decide +kernel
theorem dX10_advance_12 : decode cX10_advance 12 = .ok (.aload_n 0, 1) := by decide +kernel
theorem dX10_advance_13 : decode cX10_advance 13 = .ok (.getfield 27, 3) := by decide +kernel
theorem dX10_advance_16 : decode cX10_advance 16 = .ok (.if_icmp .ge 29, 3) := by decide +kernel
theorem dX10_advance_45 : decode cX10_advance 45 = .ok (.aload_n 0, 1) := by decide +kernel
theorem dX10_advance_46 : decode cX10_advance 46 = .ok (.aload_n 0, 1) := by decide +kernel
theorem dX10_advance_47 : decode cX10_advance 47 = .ok (.getfield 34, 3) := by decide +kernel
theorem dX10_advance_50 : decode cX10_advance 50 = .ok (.putfield 37, 3) := by decide +kernel
theorem pf_X10_37 (hC : CX p s m meth c y0 b0 mL0 rt0 args) (hy0 : y0.cls = RX10) (hK : KK G s) (hP : va_P G.1 vwCl ws H) (hD : va_D A ws) (hS : va_S A H0 H locs) (q0 : Nat) {fs : List Value} {v : Value} {ws' : va_W} (he : ws[q0]? = some (a, .inr (10, fs))) (hl : 6 < fs.length) (hws : ws.set q0 (a, .inr (10, fs.set 6 v)) = ws') (hn : narrow .int v = v) (hfit : fits .int v = true) (hdg : decode b0 pc = .ok (.putfield 37, 3)) (kk : ∀ (H1 : Heap) (locs1 : List Loc), va_P G.1 vwCl ws' H1 → va_D A ws' → va_S A H0 H1 locs1 → W p l e R s m args below meth c H1 locs1 cells slots Q (F0 m (pc + 3) ls rest)) : W p l e R s m args below meth c H locs cells slots Q (F0 m pc ls (v :: .ref a :: rest)) := by
  obtain ⟨hx, hb, hr, hml, hB, hown, hlocks, hnm⟩ := hC
  rw [hy0] at hown
  subst hws
  exact va_put (ci := 10) (ty := .int) (C := RX10) (T := TX10) (N := 8) hx hb hB in_X10 tyX10 tyX10_ok nmX10 hown hK.1 hP hD hS q0 he rfl 6 (by decide) (hB _ m_146) (fun _ h => h) rfl (by decide +kernel) hn hfit hl hdg kk
theorem dX10_advance_53 : decode cX10_advance 53 = .ok (.aload_n 0, 1) := by decide +kernel
theorem dX10_advance_54 : decode cX10_advance 54 = .ok (.aload_n 0, 1) := by decide +kernel
theorem dX10_advance_55 : decode cX10_advance 55 = .ok (.getfield 34, 3) := by decide +kernel
theorem dX10_advance_58 : decode cX10_advance 58 = .ok (.invokevirtual 78, 3) := by decide +kernel
theorem m_771 : Cond.code yX10_byteAt cX10_byteAt 2 (some .int) ∈ BW := List.mem_of_getElem? (i := 771) (by decide +kernel)
theorem m_768 : Cond.methodLink RX10 78 yX10_byteAt ∈ BW := List.mem_of_getElem? (i := 768) (by decide +kernel)
theorem m_769 : Cond.instanceMethod yX10_byteAt ∈ BW := List.mem_of_getElem? (i := 769) (by decide +kernel)
theorem m_770 : Cond.selects RX10 yX10_byteAt yX10_byteAt ∈ BW := List.mem_of_getElem? (i := 770) (by decide +kernel)
theorem si_X10_78 : SV RX10 RX10 78 yX10_byteAt cX10_byteAt 2 (some .int) 1 := ⟨⟨m_768, m_769, m_770, m_37, m_771⟩, rfl, by decide +kernel, by decide +kernel, by decide +kernel⟩
theorem dX10_advance_61 : decode cX10_advance 61 = .ok (.invokestatic 82, 3) := by decide +kernel
theorem m_774 : Cond.code yX10_isLetter cX10_isLetter 1 (some .boolean) ∈ BW := List.mem_of_getElem? (i := 774) (by decide +kernel)
theorem m_772 : Cond.methodLink RX10 82 yX10_isLetter ∈ BW := List.mem_of_getElem? (i := 772) (by decide +kernel)
theorem m_773 : Cond.static yX10_isLetter ∈ BW := List.mem_of_getElem? (i := 773) (by decide +kernel)
theorem si_X10_82 : SS RX10 82 yX10_isLetter cX10_isLetter 1 (some .boolean) 1 := ⟨⟨m_772, m_773, m_37, m_774⟩, ⟨by decide +kernel, by decide +kernel, by decide +kernel⟩⟩
theorem dX10_advance_64 : decode cX10_advance 64 = .ok (.ifCond .eq 47, 3) := by decide +kernel
theorem dX10_advance_67 : decode cX10_advance 67 = .ok (.aload_n 0, 1) := by decide +kernel
theorem dX10_advance_68 : decode cX10_advance 68 = .ok (.bipush (-2), 2) := by decide +kernel
theorem dX10_advance_70 : decode cX10_advance 70 = .ok (.putfield 31, 3) := by decide +kernel
theorem m_144 : Cond.fieldLink RX10 31 "InquiryBench$Tape" "kind" "I" ∈ BW := List.mem_of_getElem? (i := 144) (by decide +kernel)
theorem pf_X10_31 (hC : CX p s m meth c y0 b0 mL0 rt0 args) (hy0 : y0.cls = RX10) (hK : KK G s) (hP : va_P G.1 vwCl ws H) (hD : va_D A ws) (hS : va_S A H0 H locs) (q0 : Nat) {fs : List Value} {v : Value} {ws' : va_W} (he : ws[q0]? = some (a, .inr (10, fs))) (hl : 4 < fs.length) (hws : ws.set q0 (a, .inr (10, fs.set 4 v)) = ws') (hn : narrow .int v = v) (hfit : fits .int v = true) (hdg : decode b0 pc = .ok (.putfield 31, 3)) (kk : ∀ (H1 : Heap) (locs1 : List Loc), va_P G.1 vwCl ws' H1 → va_D A ws' → va_S A H0 H1 locs1 → W p l e R s m args below meth c H1 locs1 cells slots Q (F0 m (pc + 3) ls rest)) : W p l e R s m args below meth c H locs cells slots Q (F0 m pc ls (v :: .ref a :: rest)) := by
  obtain ⟨hx, hb, hr, hml, hB, hown, hlocks, hnm⟩ := hC
  rw [hy0] at hown
  subst hws
  exact va_put (ci := 10) (ty := .int) (C := RX10) (T := TX10) (N := 8) hx hb hB in_X10 tyX10 tyX10_ok nmX10 hown hK.1 hP hD hS q0 he rfl 4 (by decide) (hB _ m_144) (fun _ h => h) rfl (by decide +kernel) hn hfit hl hdg kk
theorem dX10_advance_73 : decode cX10_advance 73 = .ok (.aload_n 0, 1) := by decide +kernel
theorem dX10_advance_74 : decode cX10_advance 74 = .ok (.getfield 37, 3) := by decide +kernel
theorem dX10_advance_77 : decode cX10_advance 77 = .ok (.aload_n 0, 1) := by decide +kernel
theorem dX10_advance_78 : decode cX10_advance 78 = .ok (.getfield 27, 3) := by decide +kernel
theorem dX10_advance_81 : decode cX10_advance 81 = .ok (.if_icmp .ge 118, 3) := by decide +kernel
theorem dX10_advance_199 : decode cX10_advance 199 = .ok (.return_, 1) := by decide +kernel
theorem dX10_advance_84 : decode cX10_advance 84 = .ok (.aload_n 0, 1) := by decide +kernel
theorem dX10_advance_85 : decode cX10_advance 85 = .ok (.aload_n 0, 1) := by decide +kernel
theorem dX10_advance_86 : decode cX10_advance 86 = .ok (.getfield 37, 3) := by decide +kernel
theorem dX10_advance_89 : decode cX10_advance 89 = .ok (.invokevirtual 78, 3) := by decide +kernel
theorem dX10_advance_92 : decode cX10_advance 92 = .ok (.invokestatic 82, 3) := by decide +kernel
theorem dX10_advance_95 : decode cX10_advance 95 = .ok (.ifCond .eq 104, 3) := by decide +kernel
theorem dX10_advance_98 : decode cX10_advance 98 = .ok (.aload_n 0, 1) := by decide +kernel
theorem dX10_advance_99 : decode cX10_advance 99 = .ok (.dup, 1) := by decide +kernel
theorem dX10_advance_100 : decode cX10_advance 100 = .ok (.getfield 37, 3) := by decide +kernel
theorem dX10_advance_103 : decode cX10_advance 103 = .ok (.iconst 1, 1) := by decide +kernel
theorem dX10_advance_104 : decode cX10_advance 104 = .ok (.iadd, 1) := by decide +kernel
theorem dX10_advance_105 : decode cX10_advance 105 = .ok (.putfield 37, 3) := by decide +kernel
theorem dX10_advance_108 : decode cX10_advance 108 = .ok (.goto (-35), 3) := by decide +kernel
theorem dX10_advance_111 : decode cX10_advance 111 = .ok (.aload_n 0, 1) := by decide +kernel
theorem dX10_advance_112 : decode cX10_advance 112 = .ok (.aload_n 0, 1) := by decide +kernel
theorem dX10_advance_113 : decode cX10_advance 113 = .ok (.getfield 34, 3) := by decide +kernel
theorem dX10_advance_116 : decode cX10_advance 116 = .ok (.invokevirtual 78, 3) := by decide +kernel
theorem dX10_advance_119 : decode cX10_advance 119 = .ok (.invokestatic 86, 3) := by decide +kernel
theorem m_777 : Cond.code yX10_isDigit cX10_isDigit 1 (some .boolean) ∈ BW := List.mem_of_getElem? (i := 777) (by decide +kernel)
theorem m_775 : Cond.methodLink RX10 86 yX10_isDigit ∈ BW := List.mem_of_getElem? (i := 775) (by decide +kernel)
theorem m_776 : Cond.static yX10_isDigit ∈ BW := List.mem_of_getElem? (i := 776) (by decide +kernel)
theorem si_X10_86 : SS RX10 86 yX10_isDigit cX10_isDigit 1 (some .boolean) 1 := ⟨⟨m_775, m_776, m_37, m_777⟩, ⟨by decide +kernel, by decide +kernel, by decide +kernel⟩⟩
theorem dX10_advance_122 : decode cX10_advance 122 = .ok (.ifCond .eq 47, 3) := by decide +kernel
theorem dX10_advance_125 : decode cX10_advance 125 = .ok (.aload_n 0, 1) := by decide +kernel
theorem dX10_advance_126 : decode cX10_advance 126 = .ok (.bipush (-3), 2) := by decide +kernel
theorem dX10_advance_128 : decode cX10_advance 128 = .ok (.putfield 31, 3) := by decide +kernel
theorem dX10_advance_131 : decode cX10_advance 131 = .ok (.aload_n 0, 1) := by decide +kernel
theorem dX10_advance_132 : decode cX10_advance 132 = .ok (.getfield 37, 3) := by decide +kernel
theorem dX10_advance_135 : decode cX10_advance 135 = .ok (.aload_n 0, 1) := by decide +kernel
theorem dX10_advance_136 : decode cX10_advance 136 = .ok (.getfield 27, 3) := by decide +kernel
theorem dX10_advance_139 : decode cX10_advance 139 = .ok (.if_icmp .ge 60, 3) := by decide +kernel
theorem dX10_advance_142 : decode cX10_advance 142 = .ok (.aload_n 0, 1) := by decide +kernel
theorem dX10_advance_143 : decode cX10_advance 143 = .ok (.aload_n 0, 1) := by decide +kernel
theorem dX10_advance_144 : decode cX10_advance 144 = .ok (.getfield 37, 3) := by decide +kernel
theorem dX10_advance_147 : decode cX10_advance 147 = .ok (.invokevirtual 78, 3) := by decide +kernel
theorem dX10_advance_150 : decode cX10_advance 150 = .ok (.invokestatic 86, 3) := by decide +kernel
theorem dX10_advance_153 : decode cX10_advance 153 = .ok (.ifCond .eq 46, 3) := by decide +kernel
theorem dX10_advance_156 : decode cX10_advance 156 = .ok (.aload_n 0, 1) := by decide +kernel
theorem dX10_advance_157 : decode cX10_advance 157 = .ok (.dup, 1) := by decide +kernel
theorem dX10_advance_158 : decode cX10_advance 158 = .ok (.getfield 37, 3) := by decide +kernel
theorem dX10_advance_161 : decode cX10_advance 161 = .ok (.iconst 1, 1) := by decide +kernel
theorem dX10_advance_162 : decode cX10_advance 162 = .ok (.iadd, 1) := by decide +kernel
theorem dX10_advance_163 : decode cX10_advance 163 = .ok (.putfield 37, 3) := by decide +kernel
theorem dX10_advance_166 : decode cX10_advance 166 = .ok (.goto (-35), 3) := by decide +kernel
theorem dX10_advance_169 : decode cX10_advance 169 = .ok (.aload_n 0, 1) := by decide +kernel
theorem dX10_advance_170 : decode cX10_advance 170 = .ok (.aload_n 0, 1) := by decide +kernel
theorem dX10_advance_171 : decode cX10_advance 171 = .ok (.aload_n 0, 1) := by decide +kernel
theorem dX10_advance_172 : decode cX10_advance 172 = .ok (.getfield 34, 3) := by decide +kernel
theorem dX10_advance_175 : decode cX10_advance 175 = .ok (.invokevirtual 78, 3) := by decide +kernel
theorem dX10_advance_178 : decode cX10_advance 178 = .ok (.putfield 31, 3) := by decide +kernel
theorem dX10_advance_181 : decode cX10_advance 181 = .ok (.aload_n 0, 1) := by decide +kernel
theorem dX10_advance_182 : decode cX10_advance 182 = .ok (.getfield 31, 3) := by decide +kernel
theorem gf_X10_31 (hC : CX p s m meth c y0 b0 mL0 rt0 args) (hy0 : y0.cls = RX10) (hK : KK G s) (hP : va_P G.1 vwCl ws H) (q0 : Nat) {fs : List Value} {v : Value} (he : ws[q0]? = some (a, .inr (10, fs))) (hv : fs[4]? = some v) (hdg : decode b0 pc = .ok (.getfield 31, 3)) (kk : W p l e R s m args below meth c H locs cells slots Q (F0 m (pc + 3) ls (v :: rest))) : W p l e R s m args below meth c H locs cells slots Q (F0 m pc ls (.ref a :: rest)) := by
  obtain ⟨hx, hb, hr, hml, hB, hown, hlocks, hnm⟩ := hC
  rw [hy0] at hown
  exact va_get (ci := 10) (C := RX10) (T := TX10) (N := 8) hx hb hB in_X10 hown hK.1 hP q0 he rfl 4 (by decide) (hB _ m_144) (fun _ h => h) hv hdg kk
theorem dX10_advance_185 : decode cX10_advance 185 = .ok (.iconst (-1), 1) := by decide +kernel
theorem dX10_advance_186 : decode cX10_advance 186 = .ok (.if_icmp .eq 13, 3) := by decide +kernel
theorem dX10_advance_189 : decode cX10_advance 189 = .ok (.aload_n 0, 1) := by decide +kernel
theorem dX10_advance_190 : decode cX10_advance 190 = .ok (.dup, 1) := by decide +kernel
theorem dX10_advance_191 : decode cX10_advance 191 = .ok (.getfield 37, 3) := by decide +kernel
theorem dX10_advance_194 : decode cX10_advance 194 = .ok (.iconst 1, 1) := by decide +kernel
theorem dX10_advance_195 : decode cX10_advance 195 = .ok (.iadd, 1) := by decide +kernel
theorem dX10_advance_196 : decode cX10_advance 196 = .ok (.putfield 37, 3) := by decide +kernel
theorem dX10_advance_19 : decode cX10_advance 19 = .ok (.aload_n 0, 1) := by decide +kernel
theorem dX10_advance_20 : decode cX10_advance 20 = .ok (.aload_n 0, 1) := by decide +kernel
theorem dX10_advance_21 : decode cX10_advance 21 = .ok (.getfield 34, 3) := by decide +kernel
theorem dX10_advance_24 : decode cX10_advance 24 = .ok (.invokevirtual 78, 3) := by decide +kernel
theorem dX10_advance_27 : decode cX10_advance 27 = .ok (.bipush 32, 2) := by decide +kernel
theorem dX10_advance_29 : decode cX10_advance 29 = .ok (.if_icmp .ne 16, 3) := by decide +kernel
theorem dX10_advance_32 : decode cX10_advance 32 = .ok (.aload_n 0, 1) := by decide +kernel
theorem dX10_advance_33 : decode cX10_advance 33 = .ok (.dup, 1) := by decide +kernel
theorem dX10_advance_34 : decode cX10_advance 34 = .ok (.getfield 34, 3) := by decide +kernel
theorem dX10_advance_37 : decode cX10_advance 37 = .ok (.iconst 1, 1) := by decide +kernel
theorem dX10_advance_38 : decode cX10_advance 38 = .ok (.iadd, 1) := by decide +kernel
theorem dX10_advance_39 : decode cX10_advance 39 = .ok (.putfield 34, 3) := by decide +kernel
theorem dX10_advance_42 : decode cX10_advance 42 = .ok (.goto (-34), 3) := by decide +kernel
theorem dX10_isName_0 : decode cX10_isName 0 = .ok (.aload_n 0, 1) := by decide +kernel
theorem dX10_isName_1 : decode cX10_isName 1 = .ok (.getfield 31, 3) := by decide +kernel
theorem dX10_isName_4 : decode cX10_isName 4 = .ok (.bipush (-2), 2) := by decide +kernel
theorem dX10_isName_6 : decode cX10_isName 6 = .ok (.if_icmp .ne 19, 3) := by decide +kernel
theorem dX10_isName_25 : decode cX10_isName 25 = .ok (.iconst 0, 1) := by decide +kernel
theorem dX10_isName_26 : decode cX10_isName 26 = .ok (.ireturn, 1) := by decide +kernel
theorem dX10_isName_9 : decode cX10_isName 9 = .ok (.aload_n 0, 1) := by decide +kernel
theorem dX10_isName_10 : decode cX10_isName 10 = .ok (.getfield 37, 3) := by decide +kernel
theorem dX10_isName_13 : decode cX10_isName 13 = .ok (.aload_n 0, 1) := by decide +kernel
theorem dX10_isName_14 : decode cX10_isName 14 = .ok (.getfield 34, 3) := by decide +kernel
theorem dX10_isName_17 : decode cX10_isName 17 = .ok (.isub, 1) := by decide +kernel
theorem dX10_isName_18 : decode cX10_isName 18 = .ok (.aload_n 1, 1) := by decide +kernel
theorem dX10_isName_19 : decode cX10_isName 19 = .ok (.invokevirtual 93, 3) := by decide +kernel
theorem m_801 : Cond.code yJ0_length_8abf5 cJ0_length_8abf5 1 (some .int) ∈ BW := List.mem_of_getElem? (i := 801) (by decide +kernel)
theorem m_797 : Cond.methodLink RX10 93 yJ0_length_8abf5 ∈ BW := List.mem_of_getElem? (i := 797) (by decide +kernel)
theorem m_798 : Cond.instanceMethod yJ0_length_8abf5 ∈ BW := List.mem_of_getElem? (i := 798) (by decide +kernel)
theorem m_799 : Cond.selects RJ0 yJ0_length_8abf5 yJ0_length_8abf5 ∈ BW := List.mem_of_getElem? (i := 799) (by decide +kernel)
theorem si_X10_93 : SV RX10 RJ0 93 yJ0_length_8abf5 cJ0_length_8abf5 1 (some .int) 0 := ⟨⟨m_797, m_798, m_799, m_800, m_801⟩, rfl, by decide +kernel, by decide +kernel, by decide +kernel⟩
theorem dX10_isName_22 : decode cX10_isName 22 = .ok (.if_icmp .eq 5, 3) := by decide +kernel
theorem dX10_isName_27 : decode cX10_isName 27 = .ok (.iconst 0, 1) := by decide +kernel
theorem dX10_isName_28 : decode cX10_isName 28 = .ok (.istore_n 2, 1) := by decide +kernel
theorem dX10_isName_29 : decode cX10_isName 29 = .ok (.iload_n 2, 1) := by decide +kernel
theorem dX10_isName_30 : decode cX10_isName 30 = .ok (.aload_n 1, 1) := by decide +kernel
theorem dX10_isName_31 : decode cX10_isName 31 = .ok (.invokevirtual 93, 3) := by decide +kernel
theorem dX10_isName_34 : decode cX10_isName 34 = .ok (.if_icmp .ge 29, 3) := by decide +kernel
theorem dX10_isName_63 : decode cX10_isName 63 = .ok (.iconst 1, 1) := by decide +kernel
theorem dX10_isName_64 : decode cX10_isName 64 = .ok (.ireturn, 1) := by decide +kernel
theorem dX10_isName_37 : decode cX10_isName 37 = .ok (.aload_n 0, 1) := by decide +kernel
theorem dX10_isName_38 : decode cX10_isName 38 = .ok (.aload_n 0, 1) := by decide +kernel
theorem dX10_isName_39 : decode cX10_isName 39 = .ok (.getfield 34, 3) := by decide +kernel
theorem dX10_isName_42 : decode cX10_isName 42 = .ok (.iload_n 2, 1) := by decide +kernel
theorem dX10_isName_43 : decode cX10_isName 43 = .ok (.iadd, 1) := by decide +kernel
theorem dX10_isName_44 : decode cX10_isName 44 = .ok (.invokevirtual 78, 3) := by decide +kernel
theorem dX10_isName_47 : decode cX10_isName 47 = .ok (.aload_n 1, 1) := by decide +kernel
theorem dX10_isName_48 : decode cX10_isName 48 = .ok (.iload_n 2, 1) := by decide +kernel
theorem dX10_isName_49 : decode cX10_isName 49 = .ok (.invokevirtual 98, 3) := by decide +kernel
theorem m_812 : Cond.code yJ0_charAt_5068e cJ0_charAt_5068e 2 (some .char) ∈ BW := List.mem_of_getElem? (i := 812) (by decide +kernel)
theorem m_809 : Cond.methodLink RX10 98 yJ0_charAt_5068e ∈ BW := List.mem_of_getElem? (i := 809) (by decide +kernel)
theorem m_810 : Cond.instanceMethod yJ0_charAt_5068e ∈ BW := List.mem_of_getElem? (i := 810) (by decide +kernel)
theorem m_811 : Cond.selects RJ0 yJ0_charAt_5068e yJ0_charAt_5068e ∈ BW := List.mem_of_getElem? (i := 811) (by decide +kernel)
theorem si_X10_98 : SV RX10 RJ0 98 yJ0_charAt_5068e cJ0_charAt_5068e 2 (some .char) 1 := ⟨⟨m_809, m_810, m_811, m_800, m_812⟩, rfl, by decide +kernel, by decide +kernel, by decide +kernel⟩
theorem dX10_isName_52 : decode cX10_isName 52 = .ok (.if_icmp .eq 5, 3) := by decide +kernel
theorem dX10_isName_57 : decode cX10_isName 57 = .ok (.iinc 2 1, 3) := by decide +kernel
theorem dX10_isName_60 : decode cX10_isName 60 = .ok (.goto (-31), 3) := by decide +kernel
theorem dX10_isName_55 : decode cX10_isName 55 = .ok (.iconst 0, 1) := by decide +kernel
theorem dX10_isName_56 : decode cX10_isName 56 = .ok (.ireturn, 1) := by decide +kernel
theorem dX10_takesName_0 : decode cX10_takesName 0 = .ok (.aload_n 0, 1) := by decide +kernel
theorem dX10_takesName_1 : decode cX10_takesName 1 = .ok (.aload_n 1, 1) := by decide +kernel
theorem dX10_takesName_2 : decode cX10_takesName 2 = .ok (.invokevirtual 102, 3) := by decide +kernel
theorem m_796 : Cond.code yX10_isName cX10_isName 3 (some .boolean) ∈ BW := List.mem_of_getElem? (i := 796) (by decide +kernel)
theorem m_793 : Cond.methodLink RX10 102 yX10_isName ∈ BW := List.mem_of_getElem? (i := 793) (by decide +kernel)
theorem m_794 : Cond.instanceMethod yX10_isName ∈ BW := List.mem_of_getElem? (i := 794) (by decide +kernel)
theorem m_795 : Cond.selects RX10 yX10_isName yX10_isName ∈ BW := List.mem_of_getElem? (i := 795) (by decide +kernel)
theorem si_X10_102 : SV RX10 RX10 102 yX10_isName cX10_isName 3 (some .boolean) 1 := ⟨⟨m_793, m_794, m_795, m_37, m_796⟩, rfl, by decide +kernel, by decide +kernel, by decide +kernel⟩
theorem dX10_takesName_5 : decode cX10_takesName 5 = .ok (.ifCond .ne 8, 3) := by decide +kernel
theorem dX10_takesName_13 : decode cX10_takesName 13 = .ok (.aload_n 0, 1) := by decide +kernel
theorem dX10_takesName_14 : decode cX10_takesName 14 = .ok (.invokevirtual 47, 3) := by decide +kernel
theorem m_767 : Cond.code yX10_advance cX10_advance 1 none ∈ BW := List.mem_of_getElem? (i := 767) (by decide +kernel)
theorem m_764 : Cond.methodLink RX10 47 yX10_advance ∈ BW := List.mem_of_getElem? (i := 764) (by decide +kernel)
theorem m_765 : Cond.instanceMethod yX10_advance ∈ BW := List.mem_of_getElem? (i := 765) (by decide +kernel)
theorem m_766 : Cond.selects RX10 yX10_advance yX10_advance ∈ BW := List.mem_of_getElem? (i := 766) (by decide +kernel)
theorem si_X10_47 : SV RX10 RX10 47 yX10_advance cX10_advance 1 none 0 := ⟨⟨m_764, m_765, m_766, m_37, m_767⟩, rfl, by decide +kernel, by decide +kernel, by decide +kernel⟩
theorem dX10_takesName_17 : decode cX10_takesName 17 = .ok (.iconst 1, 1) := by decide +kernel
theorem dX10_takesName_18 : decode cX10_takesName 18 = .ok (.ireturn, 1) := by decide +kernel
theorem dX10_takesName_8 : decode cX10_takesName 8 = .ok (.aload_n 0, 1) := by decide +kernel
theorem dX10_takesName_9 : decode cX10_takesName 9 = .ok (.invokevirtual 106, 3) := by decide +kernel
theorem m_786 : Cond.code yX10_refuse cX10_refuse 1 (some .boolean) ∈ BW := List.mem_of_getElem? (i := 786) (by decide +kernel)
theorem m_783 : Cond.methodLink RX10 106 yX10_refuse ∈ BW := List.mem_of_getElem? (i := 783) (by decide +kernel)
theorem m_784 : Cond.instanceMethod yX10_refuse ∈ BW := List.mem_of_getElem? (i := 784) (by decide +kernel)
theorem m_785 : Cond.selects RX10 yX10_refuse yX10_refuse ∈ BW := List.mem_of_getElem? (i := 785) (by decide +kernel)
theorem si_X10_106 : SV RX10 RX10 106 yX10_refuse cX10_refuse 1 (some .boolean) 0 := ⟨⟨m_783, m_784, m_785, m_37, m_786⟩, rfl, by decide +kernel, by decide +kernel, by decide +kernel⟩
theorem dX10_takesName_12 : decode cX10_takesName 12 = .ok (.ireturn, 1) := by decide +kernel
theorem dX10_takesByte_0 : decode cX10_takesByte 0 = .ok (.aload_n 0, 1) := by decide +kernel
theorem dX10_takesByte_1 : decode cX10_takesByte 1 = .ok (.getfield 31, 3) := by decide +kernel
theorem dX10_takesByte_4 : decode cX10_takesByte 4 = .ok (.iload_n 1, 1) := by decide +kernel
theorem dX10_takesByte_5 : decode cX10_takesByte 5 = .ok (.if_icmp .eq 8, 3) := by decide +kernel
theorem dX10_takesByte_13 : decode cX10_takesByte 13 = .ok (.aload_n 0, 1) := by decide +kernel
theorem dX10_takesByte_14 : decode cX10_takesByte 14 = .ok (.invokevirtual 47, 3) := by decide +kernel
theorem dX10_takesByte_17 : decode cX10_takesByte 17 = .ok (.iconst 1, 1) := by decide +kernel
theorem dX10_takesByte_18 : decode cX10_takesByte 18 = .ok (.ireturn, 1) := by decide +kernel
theorem dX10_takesByte_8 : decode cX10_takesByte 8 = .ok (.aload_n 0, 1) := by decide +kernel
theorem dX10_takesByte_9 : decode cX10_takesByte 9 = .ok (.invokevirtual 106, 3) := by decide +kernel
theorem dX10_takesByte_12 : decode cX10_takesByte 12 = .ok (.ireturn, 1) := by decide +kernel
theorem dX10_numberHere_0 : decode cX10_numberHere 0 = .ok (.aload_n 0, 1) := by decide +kernel
theorem dX10_numberHere_1 : decode cX10_numberHere 1 = .ok (.getfield 31, 3) := by decide +kernel
theorem dX10_numberHere_4 : decode cX10_numberHere 4 = .ok (.bipush (-3), 2) := by decide +kernel
theorem dX10_numberHere_6 : decode cX10_numberHere 6 = .ok (.if_icmp .ne 16, 3) := by decide +kernel
theorem dX10_numberHere_22 : decode cX10_numberHere 22 = .ok (.iconst (-1), 1) := by decide +kernel
theorem dX10_numberHere_23 : decode cX10_numberHere 23 = .ok (.ireturn, 1) := by decide +kernel
theorem dX10_numberHere_9 : decode cX10_numberHere 9 = .ok (.aload_n 0, 1) := by decide +kernel
theorem dX10_numberHere_10 : decode cX10_numberHere 10 = .ok (.getfield 37, 3) := by decide +kernel
theorem dX10_numberHere_13 : decode cX10_numberHere 13 = .ok (.aload_n 0, 1) := by decide +kernel
theorem dX10_numberHere_14 : decode cX10_numberHere 14 = .ok (.getfield 34, 3) := by decide +kernel
theorem dX10_numberHere_17 : decode cX10_numberHere 17 = .ok (.isub, 1) := by decide +kernel
theorem dX10_numberHere_18 : decode cX10_numberHere 18 = .ok (.iconst 3, 1) := by decide +kernel
theorem dX10_numberHere_19 : decode cX10_numberHere 19 = .ok (.if_icmp .le 5, 3) := by decide +kernel
theorem dX10_numberHere_24 : decode cX10_numberHere 24 = .ok (.iconst 0, 1) := by decide +kernel
theorem dX10_numberHere_25 : decode cX10_numberHere 25 = .ok (.istore_n 1, 1) := by decide +kernel
theorem dX10_numberHere_26 : decode cX10_numberHere 26 = .ok (.aload_n 0, 1) := by decide +kernel
theorem dX10_numberHere_27 : decode cX10_numberHere 27 = .ok (.getfield 34, 3) := by decide +kernel
theorem dX10_numberHere_30 : decode cX10_numberHere 30 = .ok (.istore_n 2, 1) := by decide +kernel
theorem dX10_numberHere_31 : decode cX10_numberHere 31 = .ok (.iload_n 2, 1) := by decide +kernel
theorem dX10_numberHere_32 : decode cX10_numberHere 32 = .ok (.aload_n 0, 1) := by decide +kernel
theorem dX10_numberHere_33 : decode cX10_numberHere 33 = .ok (.getfield 37, 3) := by decide +kernel
theorem dX10_numberHere_36 : decode cX10_numberHere 36 = .ok (.if_icmp .ge 23, 3) := by decide +kernel
theorem dX10_numberHere_59 : decode cX10_numberHere 59 = .ok (.iload_n 1, 1) := by decide +kernel
theorem dX10_numberHere_60 : decode cX10_numberHere 60 = .ok (.ireturn, 1) := by decide +kernel
theorem dX10_numberHere_39 : decode cX10_numberHere 39 = .ok (.iload_n 1, 1) := by decide +kernel
theorem dX10_numberHere_40 : decode cX10_numberHere 40 = .ok (.bipush 10, 2) := by decide +kernel
theorem dX10_numberHere_42 : decode cX10_numberHere 42 = .ok (.imul, 1) := by decide +kernel
theorem dX10_numberHere_43 : decode cX10_numberHere 43 = .ok (.aload_n 0, 1) := by decide +kernel
theorem dX10_numberHere_44 : decode cX10_numberHere 44 = .ok (.iload_n 2, 1) := by decide +kernel
theorem dX10_numberHere_45 : decode cX10_numberHere 45 = .ok (.invokevirtual 78, 3) := by decide +kernel
theorem dX10_numberHere_48 : decode cX10_numberHere 48 = .ok (.iadd, 1) := by decide +kernel
theorem dX10_numberHere_49 : decode cX10_numberHere 49 = .ok (.bipush 48, 2) := by decide +kernel
theorem dX10_numberHere_51 : decode cX10_numberHere 51 = .ok (.isub, 1) := by decide +kernel
theorem dX10_numberHere_52 : decode cX10_numberHere 52 = .ok (.istore_n 1, 1) := by decide +kernel
theorem dX10_numberHere_53 : decode cX10_numberHere 53 = .ok (.iinc 2 1, 3) := by decide +kernel
theorem dX10_numberHere_56 : decode cX10_numberHere 56 = .ok (.goto (-25), 3) := by decide +kernel
theorem dX10_takesNumber_0 : decode cX10_takesNumber 0 = .ok (.aload_n 0, 1) := by decide +kernel
theorem dX10_takesNumber_1 : decode cX10_takesNumber 1 = .ok (.invokevirtual 109, 3) := by decide +kernel
theorem m_857 : Cond.code yX10_numberHere cX10_numberHere 3 (some .int) ∈ BW := List.mem_of_getElem? (i := 857) (by decide +kernel)
theorem m_854 : Cond.methodLink RX10 109 yX10_numberHere ∈ BW := List.mem_of_getElem? (i := 854) (by decide +kernel)
theorem m_855 : Cond.instanceMethod yX10_numberHere ∈ BW := List.mem_of_getElem? (i := 855) (by decide +kernel)
theorem m_856 : Cond.selects RX10 yX10_numberHere yX10_numberHere ∈ BW := List.mem_of_getElem? (i := 856) (by decide +kernel)
theorem si_X10_109 : SV RX10 RX10 109 yX10_numberHere cX10_numberHere 3 (some .int) 0 := ⟨⟨m_854, m_855, m_856, m_37, m_857⟩, rfl, by decide +kernel, by decide +kernel, by decide +kernel⟩
theorem dX10_takesNumber_4 : decode cX10_takesNumber 4 = .ok (.istore 4, 2) := by decide +kernel
theorem dX10_takesNumber_6 : decode cX10_takesNumber 6 = .ok (.iload 4, 2) := by decide +kernel
theorem dX10_takesNumber_8 : decode cX10_takesNumber 8 = .ok (.iconst 0, 1) := by decide +kernel
theorem dX10_takesNumber_9 : decode cX10_takesNumber 9 = .ok (.iload_n 3, 1) := by decide +kernel
theorem dX10_takesNumber_10 : decode cX10_takesNumber 10 = .ok (.invokestatic 89, 3) := by decide +kernel
theorem dX10_takesNumber_13 : decode cX10_takesNumber 13 = .ok (.ifCond .ne 8, 3) := by decide +kernel
theorem dX10_takesNumber_21 : decode cX10_takesNumber 21 = .ok (.aload_n 0, 1) := by decide +kernel
theorem dX10_takesNumber_22 : decode cX10_takesNumber 22 = .ok (.getfield 20, 3) := by decide +kernel
theorem m_141 : Cond.fieldLink RX10 20 "InquiryBench$Tape" "lines" "LInquiryBench$Table;" ∈ BW := List.mem_of_getElem? (i := 141) (by decide +kernel)
theorem gf_X10_20 (hC : CX p s m meth c y0 b0 mL0 rt0 args) (hy0 : y0.cls = RX10) (hK : KK G s) (hP : va_P G.1 vwCl ws H) (q0 : Nat) {fs : List Value} {v : Value} (he : ws[q0]? = some (a, .inr (10, fs))) (hv : fs[2]? = some v) (hdg : decode b0 pc = .ok (.getfield 20, 3)) (kk : W p l e R s m args below meth c H locs cells slots Q (F0 m (pc + 3) ls (v :: rest))) : W p l e R s m args below meth c H locs cells slots Q (F0 m pc ls (.ref a :: rest)) := by
  obtain ⟨hx, hb, hr, hml, hB, hown, hlocks, hnm⟩ := hC
  rw [hy0] at hown
  exact va_get (ci := 10) (C := RX10) (T := TX10) (N := 8) hx hb hB in_X10 hown hK.1 hP q0 he rfl 2 (by decide) (hB _ m_141) (fun _ h => h) hv hdg kk
theorem dX10_takesNumber_25 : decode cX10_takesNumber 25 = .ok (.iload_n 1, 1) := by decide +kernel
theorem dX10_takesNumber_26 : decode cX10_takesNumber 26 = .ok (.iload_n 2, 1) := by decide +kernel
theorem dX10_takesNumber_27 : decode cX10_takesNumber 27 = .ok (.iload 4, 2) := by decide +kernel
theorem dX10_takesNumber_29 : decode cX10_takesNumber 29 = .ok (.invokevirtual 66, 3) := by decide +kernel
theorem m_787 : Cond.methodLink RX10 66 yX8_set ∈ BW := List.mem_of_getElem? (i := 787) (by decide +kernel)
theorem si_X10_66 : SV RX10 RX8 66 yX8_set cX8_set 4 none 3 := ⟨⟨m_787, m_289, m_290, m_56, m_291⟩, rfl, by decide +kernel, by decide +kernel, by decide +kernel⟩
theorem dX10_takesNumber_32 : decode cX10_takesNumber 32 = .ok (.aload_n 0, 1) := by decide +kernel
theorem dX10_takesNumber_33 : decode cX10_takesNumber 33 = .ok (.invokevirtual 47, 3) := by decide +kernel
theorem dX10_takesNumber_36 : decode cX10_takesNumber 36 = .ok (.iconst 1, 1) := by decide +kernel
theorem dX10_takesNumber_37 : decode cX10_takesNumber 37 = .ok (.ireturn, 1) := by decide +kernel
theorem dX10_takesNumber_16 : decode cX10_takesNumber 16 = .ok (.aload_n 0, 1) := by decide +kernel
theorem dX10_takesNumber_17 : decode cX10_takesNumber 17 = .ok (.invokevirtual 106, 3) := by decide +kernel
theorem dX10_takesNumber_20 : decode cX10_takesNumber 20 = .ok (.ireturn, 1) := by decide +kernel
theorem dX10_addStep_0 : decode cX10_addStep 0 = .ok (.aload_n 0, 1) := by decide +kernel
theorem dX10_addStep_1 : decode cX10_addStep 1 = .ok (.getfield 24, 3) := by decide +kernel
theorem m_142 : Cond.fieldLink RX10 24 "InquiryBench$Tape" "steps" "LInquiryBench$Table;" ∈ BW := List.mem_of_getElem? (i := 142) (by decide +kernel)
theorem gf_X10_24 (hC : CX p s m meth c y0 b0 mL0 rt0 args) (hy0 : y0.cls = RX10) (hK : KK G s) (hP : va_P G.1 vwCl ws H) (q0 : Nat) {fs : List Value} {v : Value} (he : ws[q0]? = some (a, .inr (10, fs))) (hv : fs[3]? = some v) (hdg : decode b0 pc = .ok (.getfield 24, 3)) (kk : W p l e R s m args below meth c H locs cells slots Q (F0 m (pc + 3) ls (v :: rest))) : W p l e R s m args below meth c H locs cells slots Q (F0 m pc ls (.ref a :: rest)) := by
  obtain ⟨hx, hb, hr, hml, hB, hown, hlocks, hnm⟩ := hC
  rw [hy0] at hown
  exact va_get (ci := 10) (C := RX10) (T := TX10) (N := 8) hx hb hB in_X10 hown hK.1 hP q0 he rfl 3 (by decide) (hB _ m_142) (fun _ h => h) hv hdg kk
theorem dX10_addStep_4 : decode cX10_addStep 4 = .ok (.aload_n 0, 1) := by decide +kernel
theorem dX10_addStep_5 : decode cX10_addStep 5 = .ok (.getfield 24, 3) := by decide +kernel
theorem dX10_addStep_8 : decode cX10_addStep 8 = .ok (.invokevirtual 59, 3) := by decide +kernel
theorem m_782 : Cond.methodLink RX10 59 yX8_append ∈ BW := List.mem_of_getElem? (i := 782) (by decide +kernel)
theorem si_X10_59 : SV RX10 RX8 59 yX8_append cX8_append 1 (some .int) 0 := ⟨⟨m_782, m_285, m_286, m_56, m_287⟩, rfl, by decide +kernel, by decide +kernel, by decide +kernel⟩
theorem dX10_addStep_11 : decode cX10_addStep 11 = .ok (.iconst 0, 1) := by decide +kernel
theorem dX10_addStep_12 : decode cX10_addStep 12 = .ok (.iload_n 1, 1) := by decide +kernel
theorem dX10_addStep_13 : decode cX10_addStep 13 = .ok (.invokevirtual 66, 3) := by decide +kernel
theorem dX10_addStep_16 : decode cX10_addStep 16 = .ok (.return_, 1) := by decide +kernel
theorem dX10_factHere_0 : decode cX10_factHere 0 = .ok (.aload_n 0, 1) := by decide +kernel
theorem dX10_factHere_1 : decode cX10_factHere 1 = .ok (.ldc 171, 2) := by decide +kernel
theorem dX10_factHere_3 : decode cX10_factHere 3 = .ok (.invokevirtual 102, 3) := by decide +kernel
theorem dX10_factHere_6 : decode cX10_factHere 6 = .ok (.ifCond .eq 5, 3) := by decide +kernel
theorem dX10_factHere_9 : decode cX10_factHere 9 = .ok (.iconst 0, 1) := by decide +kernel
theorem dX10_factHere_10 : decode cX10_factHere 10 = .ok (.ireturn, 1) := by decide +kernel
theorem dX10_factHere_11 : decode cX10_factHere 11 = .ok (.aload_n 0, 1) := by decide +kernel
theorem dX10_factHere_12 : decode cX10_factHere 12 = .ok (.ldc 173, 2) := by decide +kernel
theorem dX10_factHere_14 : decode cX10_factHere 14 = .ok (.invokevirtual 102, 3) := by decide +kernel
theorem dX10_factHere_17 : decode cX10_factHere 17 = .ok (.ifCond .eq 5, 3) := by decide +kernel
theorem dX10_factHere_20 : decode cX10_factHere 20 = .ok (.iconst 1, 1) := by decide +kernel
theorem dX10_factHere_21 : decode cX10_factHere 21 = .ok (.ireturn, 1) := by decide +kernel
theorem dX10_factHere_22 : decode cX10_factHere 22 = .ok (.aload_n 0, 1) := by decide +kernel
theorem dX10_factHere_23 : decode cX10_factHere 23 = .ok (.ldc 175, 2) := by decide +kernel
theorem dX10_factHere_25 : decode cX10_factHere 25 = .ok (.invokevirtual 102, 3) := by decide +kernel
theorem dX10_factHere_28 : decode cX10_factHere 28 = .ok (.ifCond .eq 5, 3) := by decide +kernel
theorem dX10_factHere_31 : decode cX10_factHere 31 = .ok (.iconst 2, 1) := by decide +kernel
theorem dX10_factHere_32 : decode cX10_factHere 32 = .ok (.ireturn, 1) := by decide +kernel
theorem dX10_factHere_33 : decode cX10_factHere 33 = .ok (.aload_n 0, 1) := by decide +kernel
theorem dX10_factHere_34 : decode cX10_factHere 34 = .ok (.ldc 177, 2) := by decide +kernel
theorem dX10_factHere_36 : decode cX10_factHere 36 = .ok (.invokevirtual 102, 3) := by decide +kernel
theorem dX10_factHere_39 : decode cX10_factHere 39 = .ok (.ifCond .eq 5, 3) := by decide +kernel
theorem dX10_factHere_42 : decode cX10_factHere 42 = .ok (.iconst 3, 1) := by decide +kernel
theorem dX10_factHere_43 : decode cX10_factHere 43 = .ok (.ireturn, 1) := by decide +kernel
theorem dX10_factHere_44 : decode cX10_factHere 44 = .ok (.aload_n 0, 1) := by decide +kernel
theorem dX10_factHere_45 : decode cX10_factHere 45 = .ok (.ldc 179, 2) := by decide +kernel
theorem dX10_factHere_47 : decode cX10_factHere 47 = .ok (.invokevirtual 102, 3) := by decide +kernel
theorem dX10_factHere_50 : decode cX10_factHere 50 = .ok (.ifCond .eq 7, 3) := by decide +kernel
theorem dX10_factHere_53 : decode cX10_factHere 53 = .ok (.iconst 4, 1) := by decide +kernel
theorem dX10_factHere_54 : decode cX10_factHere 54 = .ok (.goto 4, 3) := by decide +kernel
theorem dX10_factHere_58 : decode cX10_factHere 58 = .ok (.ireturn, 1) := by decide +kernel
theorem dX10_factHere_57 : decode cX10_factHere 57 = .ok (.iconst (-1), 1) := by decide +kernel
theorem dX10_signHere_0 : decode cX10_signHere 0 = .ok (.aload_n 0, 1) := by decide +kernel
theorem dX10_signHere_1 : decode cX10_signHere 1 = .ok (.getfield 31, 3) := by decide +kernel
theorem dX10_signHere_4 : decode cX10_signHere 4 = .ok (.bipush 60, 2) := by decide +kernel
theorem dX10_signHere_6 : decode cX10_signHere 6 = .ok (.if_icmp .ne 5, 3) := by decide +kernel
theorem dX10_signHere_11 : decode cX10_signHere 11 = .ok (.aload_n 0, 1) := by decide +kernel
theorem dX10_signHere_12 : decode cX10_signHere 12 = .ok (.getfield 31, 3) := by decide +kernel
theorem dX10_signHere_15 : decode cX10_signHere 15 = .ok (.bipush 61, 2) := by decide +kernel
theorem dX10_signHere_17 : decode cX10_signHere 17 = .ok (.if_icmp .ne 5, 3) := by decide +kernel
theorem dX10_signHere_22 : decode cX10_signHere 22 = .ok (.aload_n 0, 1) := by decide +kernel
theorem dX10_signHere_23 : decode cX10_signHere 23 = .ok (.getfield 31, 3) := by decide +kernel
theorem dX10_signHere_26 : decode cX10_signHere 26 = .ok (.bipush 62, 2) := by decide +kernel
theorem dX10_signHere_28 : decode cX10_signHere 28 = .ok (.if_icmp .ne 7, 3) := by decide +kernel
theorem dX10_signHere_35 : decode cX10_signHere 35 = .ok (.iconst (-1), 1) := by decide +kernel
theorem dX10_signHere_36 : decode cX10_signHere 36 = .ok (.ireturn, 1) := by decide +kernel
theorem dX10_signHere_31 : decode cX10_signHere 31 = .ok (.iconst 2, 1) := by decide +kernel
theorem dX10_signHere_32 : decode cX10_signHere 32 = .ok (.goto 4, 3) := by decide +kernel
theorem dX10_signHere_20 : decode cX10_signHere 20 = .ok (.iconst 1, 1) := by decide +kernel
theorem dX10_signHere_21 : decode cX10_signHere 21 = .ok (.ireturn, 1) := by decide +kernel
theorem dX10_signHere_9 : decode cX10_signHere 9 = .ok (.iconst 0, 1) := by decide +kernel
theorem dX10_signHere_10 : decode cX10_signHere 10 = .ok (.ireturn, 1) := by decide +kernel
theorem dX10_sortHere_0 : decode cX10_sortHere 0 = .ok (.aload_n 0, 1) := by decide +kernel
theorem dX10_sortHere_1 : decode cX10_sortHere 1 = .ok (.ldc 127, 2) := by decide +kernel
theorem dX10_sortHere_3 : decode cX10_sortHere 3 = .ok (.invokevirtual 102, 3) := by decide +kernel
theorem dX10_sortHere_6 : decode cX10_sortHere 6 = .ok (.ifCond .eq 5, 3) := by decide +kernel
theorem dX10_sortHere_9 : decode cX10_sortHere 9 = .ok (.iconst 0, 1) := by decide +kernel
theorem dX10_sortHere_10 : decode cX10_sortHere 10 = .ok (.ireturn, 1) := by decide +kernel
theorem dX10_sortHere_11 : decode cX10_sortHere 11 = .ok (.aload_n 0, 1) := by decide +kernel
theorem dX10_sortHere_12 : decode cX10_sortHere 12 = .ok (.ldc 129, 2) := by decide +kernel
theorem dX10_sortHere_14 : decode cX10_sortHere 14 = .ok (.invokevirtual 102, 3) := by decide +kernel
theorem dX10_sortHere_17 : decode cX10_sortHere 17 = .ok (.ifCond .eq 5, 3) := by decide +kernel
theorem dX10_sortHere_20 : decode cX10_sortHere 20 = .ok (.iconst 1, 1) := by decide +kernel
theorem dX10_sortHere_21 : decode cX10_sortHere 21 = .ok (.ireturn, 1) := by decide +kernel
theorem dX10_sortHere_22 : decode cX10_sortHere 22 = .ok (.aload_n 0, 1) := by decide +kernel
theorem dX10_sortHere_23 : decode cX10_sortHere 23 = .ok (.ldc 131, 2) := by decide +kernel
theorem dX10_sortHere_25 : decode cX10_sortHere 25 = .ok (.invokevirtual 102, 3) := by decide +kernel
theorem dX10_sortHere_28 : decode cX10_sortHere 28 = .ok (.ifCond .eq 5, 3) := by decide +kernel
theorem dX10_sortHere_31 : decode cX10_sortHere 31 = .ok (.iconst 2, 1) := by decide +kernel
theorem dX10_sortHere_32 : decode cX10_sortHere 32 = .ok (.ireturn, 1) := by decide +kernel
theorem dX10_sortHere_33 : decode cX10_sortHere 33 = .ok (.aload_n 0, 1) := by decide +kernel
theorem dX10_sortHere_34 : decode cX10_sortHere 34 = .ok (.ldc 133, 2) := by decide +kernel
theorem dX10_sortHere_36 : decode cX10_sortHere 36 = .ok (.invokevirtual 102, 3) := by decide +kernel
theorem dX10_sortHere_39 : decode cX10_sortHere 39 = .ok (.ifCond .eq 7, 3) := by decide +kernel
theorem dX10_sortHere_42 : decode cX10_sortHere 42 = .ok (.iconst 3, 1) := by decide +kernel
theorem dX10_sortHere_43 : decode cX10_sortHere 43 = .ok (.goto 4, 3) := by decide +kernel
theorem dX10_sortHere_47 : decode cX10_sortHere 47 = .ok (.ireturn, 1) := by decide +kernel
theorem dX10_sortHere_46 : decode cX10_sortHere 46 = .ok (.iconst (-1), 1) := by decide +kernel
theorem dX10_takesComparison_0 : decode cX10_takesComparison 0 = .ok (.aload_n 0, 1) := by decide +kernel
theorem dX10_takesComparison_1 : decode cX10_takesComparison 1 = .ok (.invokevirtual 165, 3) := by decide +kernel
theorem m_885 : Cond.code yX10_factHere cX10_factHere 1 (some .int) ∈ BW := List.mem_of_getElem? (i := 885) (by decide +kernel)
theorem m_882 : Cond.methodLink RX10 165 yX10_factHere ∈ BW := List.mem_of_getElem? (i := 882) (by decide +kernel)
theorem m_883 : Cond.instanceMethod yX10_factHere ∈ BW := List.mem_of_getElem? (i := 883) (by decide +kernel)
theorem m_884 : Cond.selects RX10 yX10_factHere yX10_factHere ∈ BW := List.mem_of_getElem? (i := 884) (by decide +kernel)
theorem si_X10_165 : SV RX10 RX10 165 yX10_factHere cX10_factHere 1 (some .int) 0 := ⟨⟨m_882, m_883, m_884, m_37, m_885⟩, rfl, by decide +kernel, by decide +kernel, by decide +kernel⟩
theorem dX10_takesComparison_4 : decode cX10_takesComparison 4 = .ok (.istore_n 1, 1) := by decide +kernel
theorem dX10_takesComparison_5 : decode cX10_takesComparison 5 = .ok (.iload_n 1, 1) := by decide +kernel
theorem dX10_takesComparison_6 : decode cX10_takesComparison 6 = .ok (.ifCond .ge 8, 3) := by decide +kernel
theorem dX10_takesComparison_14 : decode cX10_takesComparison 14 = .ok (.aload_n 0, 1) := by decide +kernel
theorem dX10_takesComparison_15 : decode cX10_takesComparison 15 = .ok (.invokevirtual 47, 3) := by decide +kernel
theorem dX10_takesComparison_18 : decode cX10_takesComparison 18 = .ok (.aload_n 0, 1) := by decide +kernel
theorem dX10_takesComparison_19 : decode cX10_takesComparison 19 = .ok (.invokevirtual 168, 3) := by decide +kernel
theorem m_889 : Cond.code yX10_signHere cX10_signHere 1 (some .int) ∈ BW := List.mem_of_getElem? (i := 889) (by decide +kernel)
theorem m_886 : Cond.methodLink RX10 168 yX10_signHere ∈ BW := List.mem_of_getElem? (i := 886) (by decide +kernel)
theorem m_887 : Cond.instanceMethod yX10_signHere ∈ BW := List.mem_of_getElem? (i := 887) (by decide +kernel)
theorem m_888 : Cond.selects RX10 yX10_signHere yX10_signHere ∈ BW := List.mem_of_getElem? (i := 888) (by decide +kernel)
theorem si_X10_168 : SV RX10 RX10 168 yX10_signHere cX10_signHere 1 (some .int) 0 := ⟨⟨m_886, m_887, m_888, m_37, m_889⟩, rfl, by decide +kernel, by decide +kernel, by decide +kernel⟩
theorem dX10_takesComparison_22 : decode cX10_takesComparison 22 = .ok (.istore_n 2, 1) := by decide +kernel
theorem dX10_takesComparison_23 : decode cX10_takesComparison 23 = .ok (.iload_n 2, 1) := by decide +kernel
theorem dX10_takesComparison_24 : decode cX10_takesComparison 24 = .ok (.ifCond .ge 8, 3) := by decide +kernel
theorem dX10_takesComparison_32 : decode cX10_takesComparison 32 = .ok (.aload_n 0, 1) := by decide +kernel
theorem dX10_takesComparison_33 : decode cX10_takesComparison 33 = .ok (.invokevirtual 47, 3) := by decide +kernel
theorem dX10_takesComparison_36 : decode cX10_takesComparison 36 = .ok (.aload_n 0, 1) := by decide +kernel
theorem dX10_takesComparison_37 : decode cX10_takesComparison 37 = .ok (.invokevirtual 109, 3) := by decide +kernel
theorem dX10_takesComparison_40 : decode cX10_takesComparison 40 = .ok (.istore_n 3, 1) := by decide +kernel
theorem dX10_takesComparison_41 : decode cX10_takesComparison 41 = .ok (.iload_n 3, 1) := by decide +kernel
theorem dX10_takesComparison_42 : decode cX10_takesComparison 42 = .ok (.ifCond .ge 8, 3) := by decide +kernel
theorem dX10_takesComparison_50 : decode cX10_takesComparison 50 = .ok (.aload_n 0, 1) := by decide +kernel
theorem dX10_takesComparison_51 : decode cX10_takesComparison 51 = .ok (.invokevirtual 47, 3) := by decide +kernel
theorem dX10_takesComparison_54 : decode cX10_takesComparison 54 = .ok (.aload_n 0, 1) := by decide +kernel
theorem dX10_takesComparison_55 : decode cX10_takesComparison 55 = .ok (.iload_n 1, 1) := by decide +kernel
theorem dX10_takesComparison_56 : decode cX10_takesComparison 56 = .ok (.iconst 3, 1) := by decide +kernel
theorem dX10_takesComparison_57 : decode cX10_takesComparison 57 = .ok (.imul, 1) := by decide +kernel
theorem dX10_takesComparison_58 : decode cX10_takesComparison 58 = .ok (.iload_n 2, 1) := by decide +kernel
theorem dX10_takesComparison_59 : decode cX10_takesComparison 59 = .ok (.iadd, 1) := by decide +kernel
theorem dX10_takesComparison_60 : decode cX10_takesComparison 60 = .ok (.sipush 1000, 3) := by decide +kernel
theorem dX10_takesComparison_63 : decode cX10_takesComparison 63 = .ok (.imul, 1) := by decide +kernel
theorem dX10_takesComparison_64 : decode cX10_takesComparison 64 = .ok (.iload_n 3, 1) := by decide +kernel
theorem dX10_takesComparison_65 : decode cX10_takesComparison 65 = .ok (.iadd, 1) := by decide +kernel
theorem dX10_takesComparison_66 : decode cX10_takesComparison 66 = .ok (.invokevirtual 152, 3) := by decide +kernel
theorem m_872 : Cond.code yX10_addStep cX10_addStep 2 none ∈ BW := List.mem_of_getElem? (i := 872) (by decide +kernel)
theorem m_869 : Cond.methodLink RX10 152 yX10_addStep ∈ BW := List.mem_of_getElem? (i := 869) (by decide +kernel)
theorem m_870 : Cond.instanceMethod yX10_addStep ∈ BW := List.mem_of_getElem? (i := 870) (by decide +kernel)
theorem m_871 : Cond.selects RX10 yX10_addStep yX10_addStep ∈ BW := List.mem_of_getElem? (i := 871) (by decide +kernel)
theorem si_X10_152 : SV RX10 RX10 152 yX10_addStep cX10_addStep 2 none 1 := ⟨⟨m_869, m_870, m_871, m_37, m_872⟩, rfl, by decide +kernel, by decide +kernel, by decide +kernel⟩
theorem dX10_takesComparison_69 : decode cX10_takesComparison 69 = .ok (.iconst 1, 1) := by decide +kernel
theorem dX10_takesComparison_70 : decode cX10_takesComparison 70 = .ok (.ireturn, 1) := by decide +kernel
theorem dX10_takesComparison_45 : decode cX10_takesComparison 45 = .ok (.aload_n 0, 1) := by decide +kernel
theorem dX10_takesComparison_46 : decode cX10_takesComparison 46 = .ok (.invokevirtual 106, 3) := by decide +kernel
theorem dX10_takesComparison_49 : decode cX10_takesComparison 49 = .ok (.ireturn, 1) := by decide +kernel
theorem dX10_takesComparison_27 : decode cX10_takesComparison 27 = .ok (.aload_n 0, 1) := by decide +kernel
theorem dX10_takesComparison_28 : decode cX10_takesComparison 28 = .ok (.invokevirtual 106, 3) := by decide +kernel
theorem dX10_takesComparison_31 : decode cX10_takesComparison 31 = .ok (.ireturn, 1) := by decide +kernel
theorem dX10_takesComparison_9 : decode cX10_takesComparison 9 = .ok (.aload_n 0, 1) := by decide +kernel
theorem dX10_takesComparison_10 : decode cX10_takesComparison 10 = .ok (.invokevirtual 106, 3) := by decide +kernel
theorem dX10_takesComparison_13 : decode cX10_takesComparison 13 = .ok (.ireturn, 1) := by decide +kernel
theorem dX10_takesOne_0 : decode cX10_takesOne 0 = .ok (.iconst 0, 1) := by decide +kernel
theorem dX10_takesOne_1 : decode cX10_takesOne 1 = .ok (.istore_n 2, 1) := by decide +kernel
theorem dX10_takesOne_2 : decode cX10_takesOne 2 = .ok (.iconst 0, 1) := by decide +kernel
theorem dX10_takesOne_3 : decode cX10_takesOne 3 = .ok (.istore_n 3, 1) := by decide +kernel
theorem dX10_takesOne_4 : decode cX10_takesOne 4 = .ok (.iload_n 3, 1) := by decide +kernel
theorem dX10_takesOne_5 : decode cX10_takesOne 5 = .ok (.sipush 240, 3) := by decide +kernel
theorem dX10_takesOne_8 : decode cX10_takesOne 8 = .ok (.if_icmp .ge 32, 3) := by decide +kernel
theorem dX10_takesOne_40 : decode cX10_takesOne 40 = .ok (.aload_n 0, 1) := by decide +kernel
theorem dX10_takesOne_41 : decode cX10_takesOne 41 = .ok (.getfield 31, 3) := by decide +kernel
theorem dX10_takesOne_44 : decode cX10_takesOne 44 = .ok (.bipush 40, 2) := by decide +kernel
theorem dX10_takesOne_46 : decode cX10_takesOne 46 = .ok (.if_icmp .eq 12, 3) := by decide +kernel
theorem dX10_takesOne_58 : decode cX10_takesOne 58 = .ok (.iload_n 1, 1) := by decide +kernel
theorem dX10_takesOne_59 : decode cX10_takesOne 59 = .ok (.iconst 4, 1) := by decide +kernel
theorem dX10_takesOne_60 : decode cX10_takesOne 60 = .ok (.if_icmp .lt 8, 3) := by decide +kernel
theorem dX10_takesOne_63 : decode cX10_takesOne 63 = .ok (.aload_n 0, 1) := by decide +kernel
theorem dX10_takesOne_64 : decode cX10_takesOne 64 = .ok (.invokevirtual 106, 3) := by decide +kernel
theorem dX10_takesOne_67 : decode cX10_takesOne 67 = .ok (.ireturn, 1) := by decide +kernel
theorem dX10_takesOne_49 : decode cX10_takesOne 49 = .ok (.aload_n 0, 1) := by decide +kernel
theorem dX10_takesOne_50 : decode cX10_takesOne 50 = .ok (.invokevirtual 162, 3) := by decide +kernel
theorem m_881 : Cond.code yX10_takesComparison cX10_takesComparison 4 (some .boolean) ∈ BW := List.mem_of_getElem? (i := 881) (by decide +kernel)
theorem m_878 : Cond.methodLink RX10 162 yX10_takesComparison ∈ BW := List.mem_of_getElem? (i := 878) (by decide +kernel)
theorem m_879 : Cond.instanceMethod yX10_takesComparison ∈ BW := List.mem_of_getElem? (i := 879) (by decide +kernel)
theorem m_880 : Cond.selects RX10 yX10_takesComparison yX10_takesComparison ∈ BW := List.mem_of_getElem? (i := 880) (by decide +kernel)
theorem si_X10_162 : SV RX10 RX10 162 yX10_takesComparison cX10_takesComparison 4 (some .boolean) 0 := ⟨⟨m_878, m_879, m_880, m_37, m_881⟩, rfl, by decide +kernel, by decide +kernel, by decide +kernel⟩
theorem dX10_takesOne_53 : decode cX10_takesOne 53 = .ok (.ifCond .ne 40, 3) := by decide +kernel
theorem dX10_takesOne_93 : decode cX10_takesOne 93 = .ok (.iload_n 2, 1) := by decide +kernel
theorem dX10_takesOne_94 : decode cX10_takesOne 94 = .ok (.ifCond .eq 8, 3) := by decide +kernel
theorem dX10_takesOne_102 : decode cX10_takesOne 102 = .ok (.iconst 1, 1) := by decide +kernel
theorem dX10_takesOne_103 : decode cX10_takesOne 103 = .ok (.ireturn, 1) := by decide +kernel
theorem dX10_takesOne_97 : decode cX10_takesOne 97 = .ok (.aload_n 0, 1) := by decide +kernel
theorem dX10_takesOne_98 : decode cX10_takesOne 98 = .ok (.iconst (-1), 1) := by decide +kernel
theorem dX10_takesOne_99 : decode cX10_takesOne 99 = .ok (.invokevirtual 152, 3) := by decide +kernel
theorem dX10_takesOne_56 : decode cX10_takesOne 56 = .ok (.iconst 0, 1) := by decide +kernel
theorem dX10_takesOne_57 : decode cX10_takesOne 57 = .ok (.ireturn, 1) := by decide +kernel
theorem dX10_takesOne_11 : decode cX10_takesOne 11 = .ok (.aload_n 0, 1) := by decide +kernel
theorem dX10_takesOne_12 : decode cX10_takesOne 12 = .ok (.ldc 160, 2) := by decide +kernel
theorem dX10_takesOne_14 : decode cX10_takesOne 14 = .ok (.invokevirtual 102, 3) := by decide +kernel
theorem dX10_takesOne_17 : decode cX10_takesOne 17 = .ok (.ifCond .eq 23, 3) := by decide +kernel
theorem dX10_takesOne_20 : decode cX10_takesOne 20 = .ok (.aload_n 0, 1) := by decide +kernel
theorem dX10_takesOne_21 : decode cX10_takesOne 21 = .ok (.invokevirtual 47, 3) := by decide +kernel
theorem dX10_takesOne_24 : decode cX10_takesOne 24 = .ok (.iload_n 2, 1) := by decide +kernel
theorem dX10_takesOne_25 : decode cX10_takesOne 25 = .ok (.ifCond .ne 7, 3) := by decide +kernel
theorem dX10_takesOne_32 : decode cX10_takesOne 32 = .ok (.iconst 0, 1) := by decide +kernel
theorem dX10_takesOne_33 : decode cX10_takesOne 33 = .ok (.istore_n 2, 1) := by decide +kernel
theorem dX10_takesOne_34 : decode cX10_takesOne 34 = .ok (.iinc 3 1, 3) := by decide +kernel
theorem dX10_takesOne_37 : decode cX10_takesOne 37 = .ok (.goto (-33), 3) := by decide +kernel
theorem dX10_takesOne_28 : decode cX10_takesOne 28 = .ok (.iconst 1, 1) := by decide +kernel
theorem dX10_takesOne_29 : decode cX10_takesOne 29 = .ok (.goto 4, 3) := by decide +kernel
theorem dX10_takesAll_0 : decode cX10_takesAll 0 = .ok (.aload_n 0, 1) := by decide +kernel
theorem dX10_takesAll_1 : decode cX10_takesAll 1 = .ok (.iload_n 1, 1) := by decide +kernel
theorem dX10_takesAll_2 : decode cX10_takesAll 2 = .ok (.invokevirtual 155, 3) := by decide +kernel
theorem m_877 : Cond.code yX10_takesOne cX10_takesOne 4 (some .boolean) ∈ BW := List.mem_of_getElem? (i := 877) (by decide +kernel)
theorem m_874 : Cond.methodLink RX10 155 yX10_takesOne ∈ BW := List.mem_of_getElem? (i := 874) (by decide +kernel)
theorem m_875 : Cond.instanceMethod yX10_takesOne ∈ BW := List.mem_of_getElem? (i := 875) (by decide +kernel)
theorem m_876 : Cond.selects RX10 yX10_takesOne yX10_takesOne ∈ BW := List.mem_of_getElem? (i := 876) (by decide +kernel)
theorem si_X10_155 : SV RX10 RX10 155 yX10_takesOne cX10_takesOne 4 (some .boolean) 1 := ⟨⟨m_874, m_875, m_876, m_37, m_877⟩, rfl, by decide +kernel, by decide +kernel, by decide +kernel⟩
theorem dX10_takesAll_5 : decode cX10_takesAll 5 = .ok (.ifCond .ne 5, 3) := by decide +kernel
theorem dX10_takesAll_10 : decode cX10_takesAll 10 = .ok (.iconst 0, 1) := by decide +kernel
theorem dX10_takesAll_11 : decode cX10_takesAll 11 = .ok (.istore_n 2, 1) := by decide +kernel
theorem dX10_takesAll_12 : decode cX10_takesAll 12 = .ok (.iload_n 2, 1) := by decide +kernel
theorem dX10_takesAll_13 : decode cX10_takesAll 13 = .ok (.sipush 240, 3) := by decide +kernel
theorem dX10_takesAll_16 : decode cX10_takesAll 16 = .ok (.if_icmp .ge 38, 3) := by decide +kernel
theorem dX10_takesAll_54 : decode cX10_takesAll 54 = .ok (.iconst 1, 1) := by decide +kernel
theorem dX10_takesAll_55 : decode cX10_takesAll 55 = .ok (.ireturn, 1) := by decide +kernel
theorem dX10_takesAll_19 : decode cX10_takesAll 19 = .ok (.aload_n 0, 1) := by decide +kernel
theorem dX10_takesAll_20 : decode cX10_takesAll 20 = .ok (.ldc 158, 2) := by decide +kernel
theorem dX10_takesAll_22 : decode cX10_takesAll 22 = .ok (.invokevirtual 102, 3) := by decide +kernel
theorem dX10_takesAll_25 : decode cX10_takesAll 25 = .ok (.ifCond .eq 29, 3) := by decide +kernel
theorem dX10_takesAll_28 : decode cX10_takesAll 28 = .ok (.aload_n 0, 1) := by decide +kernel
theorem dX10_takesAll_29 : decode cX10_takesAll 29 = .ok (.invokevirtual 47, 3) := by decide +kernel
theorem dX10_takesAll_32 : decode cX10_takesAll 32 = .ok (.aload_n 0, 1) := by decide +kernel
theorem dX10_takesAll_33 : decode cX10_takesAll 33 = .ok (.iload_n 1, 1) := by decide +kernel
theorem dX10_takesAll_34 : decode cX10_takesAll 34 = .ok (.invokevirtual 155, 3) := by decide +kernel
theorem dX10_takesAll_37 : decode cX10_takesAll 37 = .ok (.ifCond .ne 5, 3) := by decide +kernel
theorem dX10_takesAll_42 : decode cX10_takesAll 42 = .ok (.aload_n 0, 1) := by decide +kernel
theorem dX10_takesAll_43 : decode cX10_takesAll 43 = .ok (.bipush (-2), 2) := by decide +kernel
theorem dX10_takesAll_45 : decode cX10_takesAll 45 = .ok (.invokevirtual 152, 3) := by decide +kernel
theorem dX10_takesAll_48 : decode cX10_takesAll 48 = .ok (.iinc 2 1, 3) := by decide +kernel
theorem dX10_takesAll_51 : decode cX10_takesAll 51 = .ok (.goto (-39), 3) := by decide +kernel
theorem dX10_takesAll_40 : decode cX10_takesAll 40 = .ok (.iconst 0, 1) := by decide +kernel
theorem dX10_takesAll_41 : decode cX10_takesAll 41 = .ok (.ireturn, 1) := by decide +kernel
theorem dX10_takesAll_8 : decode cX10_takesAll 8 = .ok (.iconst 0, 1) := by decide +kernel
theorem dX10_takesAll_9 : decode cX10_takesAll 9 = .ok (.ireturn, 1) := by decide +kernel
theorem dX10_takesCond_0 : decode cX10_takesCond 0 = .ok (.aload_n 0, 1) := by decide +kernel
theorem dX10_takesCond_1 : decode cX10_takesCond 1 = .ok (.iload_n 1, 1) := by decide +kernel
theorem dX10_takesCond_2 : decode cX10_takesCond 2 = .ok (.invokevirtual 147, 3) := by decide +kernel
theorem m_873 : Cond.code yX10_takesAll cX10_takesAll 3 (some .boolean) ∈ BW := List.mem_of_getElem? (i := 873) (by decide +kernel)
theorem m_866 : Cond.methodLink RX10 147 yX10_takesAll ∈ BW := List.mem_of_getElem? (i := 866) (by decide +kernel)
theorem m_867 : Cond.instanceMethod yX10_takesAll ∈ BW := List.mem_of_getElem? (i := 867) (by decide +kernel)
theorem m_868 : Cond.selects RX10 yX10_takesAll yX10_takesAll ∈ BW := List.mem_of_getElem? (i := 868) (by decide +kernel)
theorem si_X10_147 : SV RX10 RX10 147 yX10_takesAll cX10_takesAll 3 (some .boolean) 1 := ⟨⟨m_866, m_867, m_868, m_37, m_873⟩, rfl, by decide +kernel, by decide +kernel, by decide +kernel⟩
theorem dX10_takesCond_5 : decode cX10_takesCond 5 = .ok (.ifCond .ne 5, 3) := by decide +kernel
theorem dX10_takesCond_10 : decode cX10_takesCond 10 = .ok (.iconst 0, 1) := by decide +kernel
theorem dX10_takesCond_11 : decode cX10_takesCond 11 = .ok (.istore_n 2, 1) := by decide +kernel
theorem dX10_takesCond_12 : decode cX10_takesCond 12 = .ok (.iload_n 2, 1) := by decide +kernel
theorem dX10_takesCond_13 : decode cX10_takesCond 13 = .ok (.sipush 240, 3) := by decide +kernel
theorem dX10_takesCond_16 : decode cX10_takesCond 16 = .ok (.if_icmp .ge 38, 3) := by decide +kernel
theorem dX10_takesCond_54 : decode cX10_takesCond 54 = .ok (.iconst 1, 1) := by decide +kernel
theorem dX10_takesCond_55 : decode cX10_takesCond 55 = .ok (.ireturn, 1) := by decide +kernel
theorem dX10_takesCond_19 : decode cX10_takesCond 19 = .ok (.aload_n 0, 1) := by decide +kernel
theorem dX10_takesCond_20 : decode cX10_takesCond 20 = .ok (.ldc 150, 2) := by decide +kernel
theorem dX10_takesCond_22 : decode cX10_takesCond 22 = .ok (.invokevirtual 102, 3) := by decide +kernel
theorem dX10_takesCond_25 : decode cX10_takesCond 25 = .ok (.ifCond .eq 29, 3) := by decide +kernel
theorem dX10_takesCond_28 : decode cX10_takesCond 28 = .ok (.aload_n 0, 1) := by decide +kernel
theorem dX10_takesCond_29 : decode cX10_takesCond 29 = .ok (.invokevirtual 47, 3) := by decide +kernel
theorem dX10_takesCond_32 : decode cX10_takesCond 32 = .ok (.aload_n 0, 1) := by decide +kernel
theorem dX10_takesCond_33 : decode cX10_takesCond 33 = .ok (.iload_n 1, 1) := by decide +kernel
theorem dX10_takesCond_34 : decode cX10_takesCond 34 = .ok (.invokevirtual 147, 3) := by decide +kernel
theorem dX10_takesCond_37 : decode cX10_takesCond 37 = .ok (.ifCond .ne 5, 3) := by decide +kernel
theorem dX10_takesCond_42 : decode cX10_takesCond 42 = .ok (.aload_n 0, 1) := by decide +kernel
theorem dX10_takesCond_43 : decode cX10_takesCond 43 = .ok (.bipush (-3), 2) := by decide +kernel
theorem dX10_takesCond_45 : decode cX10_takesCond 45 = .ok (.invokevirtual 152, 3) := by decide +kernel
theorem dX10_takesCond_48 : decode cX10_takesCond 48 = .ok (.iinc 2 1, 3) := by decide +kernel
theorem dX10_takesCond_51 : decode cX10_takesCond 51 = .ok (.goto (-39), 3) := by decide +kernel
theorem dX10_takesCond_40 : decode cX10_takesCond 40 = .ok (.iconst 0, 1) := by decide +kernel
theorem dX10_takesCond_41 : decode cX10_takesCond 41 = .ok (.ireturn, 1) := by decide +kernel
theorem dX10_takesCond_8 : decode cX10_takesCond 8 = .ok (.iconst 0, 1) := by decide +kernel
theorem dX10_takesCond_9 : decode cX10_takesCond 9 = .ok (.ireturn, 1) := by decide +kernel
theorem dX10_takesOne_68 : decode cX10_takesOne 68 = .ok (.aload_n 0, 1) := by decide +kernel
theorem dX10_takesOne_69 : decode cX10_takesOne 69 = .ok (.invokevirtual 47, 3) := by decide +kernel
theorem dX10_takesOne_72 : decode cX10_takesOne 72 = .ok (.aload_n 0, 1) := by decide +kernel
theorem dX10_takesOne_73 : decode cX10_takesOne 73 = .ok (.iload_n 1, 1) := by decide +kernel
theorem dX10_takesOne_74 : decode cX10_takesOne 74 = .ok (.iconst 1, 1) := by decide +kernel
theorem dX10_takesOne_75 : decode cX10_takesOne 75 = .ok (.iadd, 1) := by decide +kernel
theorem dX10_takesOne_76 : decode cX10_takesOne 76 = .ok (.invokevirtual 121, 3) := by decide +kernel
theorem m_865 : Cond.code yX10_takesCond cX10_takesCond 3 (some .boolean) ∈ BW := List.mem_of_getElem? (i := 865) (by decide +kernel)
theorem m_862 : Cond.methodLink RX10 121 yX10_takesCond ∈ BW := List.mem_of_getElem? (i := 862) (by decide +kernel)
theorem m_863 : Cond.instanceMethod yX10_takesCond ∈ BW := List.mem_of_getElem? (i := 863) (by decide +kernel)
theorem m_864 : Cond.selects RX10 yX10_takesCond yX10_takesCond ∈ BW := List.mem_of_getElem? (i := 864) (by decide +kernel)
theorem si_X10_121 : SV RX10 RX10 121 yX10_takesCond cX10_takesCond 3 (some .boolean) 1 := ⟨⟨m_862, m_863, m_864, m_37, m_865⟩, rfl, by decide +kernel, by decide +kernel, by decide +kernel⟩
theorem dX10_takesOne_79 : decode cX10_takesOne 79 = .ok (.ifCond .eq 12, 3) := by decide +kernel
theorem dX10_takesOne_82 : decode cX10_takesOne 82 = .ok (.aload_n 0, 1) := by decide +kernel
theorem dX10_takesOne_83 : decode cX10_takesOne 83 = .ok (.bipush 41, 2) := by decide +kernel
theorem dX10_takesOne_85 : decode cX10_takesOne 85 = .ok (.invokevirtual 124, 3) := by decide +kernel
theorem m_893 : Cond.code yX10_takesByte cX10_takesByte 2 (some .boolean) ∈ BW := List.mem_of_getElem? (i := 893) (by decide +kernel)
theorem m_890 : Cond.methodLink RX10 124 yX10_takesByte ∈ BW := List.mem_of_getElem? (i := 890) (by decide +kernel)
theorem m_891 : Cond.instanceMethod yX10_takesByte ∈ BW := List.mem_of_getElem? (i := 891) (by decide +kernel)
theorem m_892 : Cond.selects RX10 yX10_takesByte yX10_takesByte ∈ BW := List.mem_of_getElem? (i := 892) (by decide +kernel)
theorem si_X10_124 : SV RX10 RX10 124 yX10_takesByte cX10_takesByte 2 (some .boolean) 1 := ⟨⟨m_890, m_891, m_892, m_37, m_893⟩, rfl, by decide +kernel, by decide +kernel, by decide +kernel⟩
theorem dX10_takesOne_88 : decode cX10_takesOne 88 = .ok (.ifCond .ne 5, 3) := by decide +kernel
theorem dX10_takesOne_91 : decode cX10_takesOne 91 = .ok (.iconst 0, 1) := by decide +kernel
theorem dX10_takesOne_92 : decode cX10_takesOne 92 = .ok (.ireturn, 1) := by decide +kernel
end WR
set_option maxHeartbeats 4000000 in
set_option maxRecDepth 100000 in
theorem t_byteAt (l : Launch) (G : GG) (h0 : Nat) (ix : Int32) (tby : Nat) (kt : Nat) (tln : Nat) (tsp : Nat) (tkd : Int32) (ts9 : Int32) (tn9 : Int32) (tf9 : Int32) (fby : Nat → Int32) : MP l G yX10_byteAt cX10_byteAt 2 (some .int) 1 [.ref h0, .int ix] [(h0, .inr (10, [.ref tby, .int (nI kt), .ref tln, .ref tsp, .int tkd, .int ts9, .int tn9, .int tf9])), (tby, .inl (G.2.1, 240, .inl fby))] (fun r : Int32 => True) := by
  refine MP.start (by decide +kernel) (Nat.le_of_ble_eq_true rfl) ?_
  intro p e s m below meth c ls hC hK hP hD hl
  have hl : lv_has ls 2 [(0, .ref h0), (1, .int ix)] := hl
  obtain ⟨hx, hb, hr, hml, hB, hown, hlocks, hnm⟩ := id hC
  refine lv_iload_n hx hb dX10_byteAt_0 rfl (lv_at hl 1 rfl) ?_
  refine lv_if_lt (tgt := 30) hx hb dX10_byteAt_1 (by decide) (fun c_1_2694 => ?_) (fun c_1_2694 => ?_)
  · refine lv_iconst (v := (-1)) hx hb dX10_byteAt_30 (by decide) ?_
    exact RP (v := (-1)) hC (trivial) rfl dX10_byteAt_31
  · refine lv_iload_n hx hb dX10_byteAt_4 rfl (lv_at hl 1 rfl) ?_
    refine lv_aload_n hx hb dX10_byteAt_5 rfl (lv_at hl 0 rfl) ?_
    refine gf_X10_27 hC rfl hK hP 0 rfl rfl dX10_byteAt_6 ?_
    refine lv_icmp_ge (tgt := 30) hx hb dX10_byteAt_9 (by decide) (fun c_9_2695 => ?_) (fun c_9_2695 => ?_)
    · refine lv_iconst (v := (-1)) hx hb dX10_byteAt_30 (by decide) ?_
      exact RP (v := (-1)) hC (trivial) rfl dX10_byteAt_31
    · refine lv_iload_n hx hb dX10_byteAt_12 rfl (lv_at hl 1 rfl) ?_
      refine lv_aload_n hx hb dX10_byteAt_13 rfl (lv_at hl 0 rfl) ?_
      refine gf_X10_9 hC rfl hK hP 0 rfl rfl dX10_byteAt_14 ?_
      refine va_alen (v := 240) hx hb hK.1 hP 1 0 rfl rfl (show Int32.ofNat 240 = 240 by decide) dX10_byteAt_17 ?_
      refine lv_icmp_ge (tgt := 30) hx hb dX10_byteAt_18 (by decide) (fun c_18_2696 => ?_) (fun c_18_2696 => ?_)
      · refine lv_iconst (v := (-1)) hx hb dX10_byteAt_30 (by decide) ?_
        exact RP (v := (-1)) hC (trivial) rfl dX10_byteAt_31
      · refine lv_aload_n hx hb dX10_byteAt_21 rfl (lv_at hl 0 rfl) ?_
        obtain ⟨ji, hji, rfl⟩ := ltN (N := 240) (by decide) c_1_2694 c_18_2696
        refine gf_X10_9 hC rfl hK hP 0 rfl rfl dX10_byteAt_22 ?_
        refine lv_iload_n hx hb dX10_byteAt_25 rfl (lv_at hl 1 rfl) ?_
        refine ald hC hK hP 1 rfl (vp_in_nI (by omega) (by omega)) (k := ji) (nI_clamp (by omega)) (v := fby ji) rfl dX10_byteAt_26 ?_
        refine lv_topi (fun x2697 ex2697 => ?_)
        refine lv_goto (tgt := 31) hx hb dX10_byteAt_27 (by decide) ?_
        exact RP (v := x2697) hC (trivial) rfl dX10_byteAt_31
set_option maxHeartbeats 4000000 in
set_option maxRecDepth 100000 in
theorem t_byteAtN (l : Launch) (G : GG) (h0 : Nat) (j9 : Nat) (tby : Nat) (kt : Nat) (tln : Nat) (tsp : Nat) (tkd : Int32) (ts9 : Int32) (tn9 : Int32) (tf9 : Int32) (fby : Nat → Int32) (hj9 : j9 < 2 ^ 31) : MP l G yX10_byteAt cX10_byteAt 2 (some .int) 1 [.ref h0, .int (nI j9)] [(h0, .inr (10, [.ref tby, .int (nI kt), .ref tln, .ref tsp, .int tkd, .int ts9, .int tn9, .int tf9])), (tby, .inl (G.2.1, 240, .inl fby))] (fun r : Int32 => r = (-1) ∨ (r = (fby j9) ∧ j9 < 240)) := by
  refine MP.start (by decide +kernel) (Nat.le_of_ble_eq_true rfl) ?_
  intro p e s m below meth c ls hC hK hP hD hl
  have hl : lv_has ls 2 [(0, .ref h0), (1, .int (nI j9))] := hl
  obtain ⟨hx, hb, hr, hml, hB, hown, hlocks, hnm⟩ := id hC
  refine lv_iload_n hx hb dX10_byteAt_0 rfl (lv_at hl 1 rfl) ?_
  refine lv_if_lt (tgt := 30) hx hb dX10_byteAt_1 (by decide) (fun c9 => absurd c9 (nI_pos (by omega))) (fun _ => ?_)
  refine lv_iload_n hx hb dX10_byteAt_4 rfl (lv_at hl 1 rfl) ?_
  refine lv_aload_n hx hb dX10_byteAt_5 rfl (lv_at hl 0 rfl) ?_
  refine gf_X10_27 hC rfl hK hP 0 rfl rfl dX10_byteAt_6 ?_
  refine lv_icmp_ge (tgt := 30) hx hb dX10_byteAt_9 (by decide) (fun c_9_2698 => ?_) (fun c_9_2698 => ?_)
  · refine lv_iconst (v := (-1)) hx hb dX10_byteAt_30 (by decide) ?_
    exact RP (v := (-1)) hC (Or.inl rfl) rfl dX10_byteAt_31
  · refine lv_iload_n hx hb dX10_byteAt_12 rfl (lv_at hl 1 rfl) ?_
    refine lv_aload_n hx hb dX10_byteAt_13 rfl (lv_at hl 0 rfl) ?_
    refine gf_X10_9 hC rfl hK hP 0 rfl rfl dX10_byteAt_14 ?_
    refine va_alen (v := 240) hx hb hK.1 hP 1 0 rfl rfl (show Int32.ofNat 240 = 240 by decide) dX10_byteAt_17 ?_
    refine lv_icmp_ge (tgt := 30) hx hb dX10_byteAt_18 (by decide) (fun c_18_2699 => ?_) (fun c_18_2699 => ?_)
    · refine lv_iconst (v := (-1)) hx hb dX10_byteAt_30 (by decide) ?_
      exact RP (v := (-1)) hC (Or.inl rfl) rfl dX10_byteAt_31
    · refine lv_aload_n hx hb dX10_byteAt_21 rfl (lv_at hl 0 rfl) ?_
      have hj240 := nge_nat (R := 240) (k := j9) (by decide) (by omega) c_18_2699
      refine gf_X10_9 hC rfl hK hP 0 rfl rfl dX10_byteAt_22 ?_
      refine lv_iload_n hx hb dX10_byteAt_25 rfl (lv_at hl 1 rfl) ?_
      refine ald hC hK hP 1 rfl (vp_in_nI (by omega) (by omega)) (k := j9) (nI_clamp (by omega)) (v := (fby j9)) (rfl) dX10_byteAt_26 ?_
      refine lv_goto (tgt := 31) hx hb dX10_byteAt_27 (by decide) ?_
      exact RP (v := (fby j9)) hC (Or.inr ⟨rfl, by omega⟩) rfl dX10_byteAt_31
set_option maxHeartbeats 4000000 in
set_option maxRecDepth 100000 in
theorem t_letter (l : Launch) (G : GG) (b9 : Int32) : MP l G yX10_isLetter cX10_isLetter 1 (some .boolean) 2 [.int b9] [] (fun r : Int32 => r = 1 ∨ r = 0) := by
  refine MP.start (by decide +kernel) (Nat.le_of_ble_eq_true rfl) ?_
  intro p e s m below meth c ls hC hK hP hD hl
  have hl : lv_has ls 1 [(0, .int b9)] := hl
  obtain ⟨hx, hb, hr, hml, hB, hown, hlocks, hnm⟩ := id hC
  refine lv_iload_n hx hb dX10_isLetter_0 rfl (lv_at hl 0 rfl) ?_
  refine lv_bipush (v := 97) hx hb dX10_isLetter_1 (by decide) ?_
  refine lv_bipush (v := 122) hx hb dX10_isLetter_3 (by decide) ?_
  refine pSN hC hK hl (c_within l G b9 97 122) si_X10_89 rfl rfl (Nat.le_of_ble_eq_true rfl) ⟨Nat.le_of_ble_eq_true rfl, Nat.le_of_ble_eq_true rfl⟩ ⟨by first | exact Nat.le_of_ble_eq_true rfl | exact Nat.zero_le _, by first | exact Nat.le_of_ble_eq_true rfl | exact Nat.zero_le _⟩ dX10_isLetter_5 (fun r2700 hr2700 => ?_)
  rcases hr2700 with ⟨rfl, a2701⟩ | ⟨rfl, a2701⟩
  · exact RP (v := 1) hC (Or.inl (rfl)) (by decide +kernel) dX10_isLetter_8
  · exact RP (v := 0) hC (Or.inr (rfl)) (by decide +kernel) dX10_isLetter_8
set_option maxHeartbeats 4000000 in
set_option maxRecDepth 100000 in
theorem t_digit (l : Launch) (G : GG) (b9 : Int32) : MP l G yX10_isDigit cX10_isDigit 1 (some .boolean) 2 [.int b9] [] (fun r : Int32 => r = 1 ∨ r = 0) := by
  refine MP.start (by decide +kernel) (Nat.le_of_ble_eq_true rfl) ?_
  intro p e s m below meth c ls hC hK hP hD hl
  have hl : lv_has ls 1 [(0, .int b9)] := hl
  obtain ⟨hx, hb, hr, hml, hB, hown, hlocks, hnm⟩ := id hC
  refine lv_iload_n hx hb dX10_isDigit_0 rfl (lv_at hl 0 rfl) ?_
  refine lv_bipush (v := 48) hx hb dX10_isDigit_1 (by decide) ?_
  refine lv_bipush (v := 57) hx hb dX10_isDigit_3 (by decide) ?_
  refine pSN hC hK hl (c_within l G b9 48 57) si_X10_89 rfl rfl (Nat.le_of_ble_eq_true rfl) ⟨Nat.le_of_ble_eq_true rfl, Nat.le_of_ble_eq_true rfl⟩ ⟨by first | exact Nat.le_of_ble_eq_true rfl | exact Nat.zero_le _, by first | exact Nat.le_of_ble_eq_true rfl | exact Nat.zero_le _⟩ dX10_isDigit_5 (fun r2702 hr2702 => ?_)
  rcases hr2702 with ⟨rfl, a2703⟩ | ⟨rfl, a2703⟩
  · exact RP (v := 1) hC (Or.inl (rfl)) (by decide +kernel) dX10_isDigit_8
  · exact RP (v := 0) hC (Or.inr (rfl)) (by decide +kernel) dX10_isDigit_8
set_option maxHeartbeats 4000000 in
set_option maxRecDepth 100000 in
theorem t_refuse (l : Launch) (G : GG) (h0 : Nat) (tby : Nat) (kt : Nat) (tln : Nat) (tsp : Nat) (tkd : Int32) (ks : Nat) (kn : Nat) (tf9 : Int32) : MI l G yX10_refuse cX10_refuse 1 (some .boolean) 1 0 0 [.ref h0] [(h0, .inr (10, [.ref tby, .int (nI kt), .ref tln, .ref tsp, .int tkd, .int (nI ks), .int (nI kn), .int tf9]))] (fun (r : Int32) (u : Int32) => (r = 0)) (fun u : Int32 => [(h0, .inr (10, [.ref tby, .int (nI kt), .ref tln, .ref tsp, .int tkd, .int (nI ks), .int (nI kn), .int u]))]) := by
  refine MI.start (by decide +kernel) (Nat.le_of_ble_eq_true rfl) ?_
  intro p e s m below meth c A ls hC hK hP hD hS hA hl
  have hl : lv_has ls 1 [(0, .ref h0)] := hl
  obtain ⟨hx, hb, hr, hml, hB, hown, hlocks, hnm⟩ := id hC
  refine lv_aload_n hx hb dX10_refuse_0 rfl (lv_at hl 0 rfl) ?_
  refine lv_aload_n hx hb dX10_refuse_1 rfl (lv_at hl 0 rfl) ?_
  refine gf_X10_34 hC rfl hK hP 0 rfl rfl dX10_refuse_2 ?_
  refine pf_X10_40 hC rfl hK hP hD hS 0 (ws' := [(h0, .inr (10, [.ref tby, .int (nI kt), .ref tln, .ref tsp, .int tkd, .int (nI ks), .int (nI kn), .int (nI ks)]))]) rfl (Nat.le_of_ble_eq_true rfl) rfl rfl rfl dX10_refuse_5 (fun H locs hP hD hS => ?_)
  refine lv_iconst (v := 0) hx hb dX10_refuse_8 (by decide) ?_
  exact RI (v := 0) hC hP hD hS [0] (nI ks) rfl rfl (by decide) (rfl) (by decide +kernel) dX10_refuse_9
set_option maxHeartbeats 4000000 in
set_option maxRecDepth 100000 in
theorem t_clear (l : Launch) (G : GG) (h0 : Nat) (tby : Nat) (kt : Nat) (tln : Nat) (tsp : Nat) (tkd : Int32) (ts9 : Int32) (tn9 : Int32) (tf9 : Int32) : MV l G yX10_clear cX10_clear 1 1 0 0 [.ref h0] [(h0, .inr (10, [.ref tby, .int (nI kt), .ref tln, .ref tsp, .int tkd, .int ts9, .int tn9, .int tf9]))] (fun u : Unit => True) (fun u : Unit => [(h0, .inr (10, [.ref tby, .int 0, .ref tln, .ref tsp, .int tkd, .int ts9, .int tn9, .int tf9]))]) := by
  refine MV.start (by decide +kernel) (Nat.le_of_ble_eq_true rfl) ?_
  intro p e s m below meth c A ls hC hK hP hD hS hA hl
  have hl : lv_has ls 1 [(0, .ref h0)] := hl
  obtain ⟨hx, hb, hr, hml, hB, hown, hlocks, hnm⟩ := id hC
  refine lv_aload_n hx hb dX10_clear_0 rfl (lv_at hl 0 rfl) ?_
  refine lv_iconst (v := 0) hx hb dX10_clear_1 (by decide) ?_
  refine pf_X10_27 hC rfl hK hP hD hS 0 (ws' := [(h0, .inr (10, [.ref tby, .int 0, .ref tln, .ref tsp, .int tkd, .int ts9, .int tn9, .int tf9]))]) rfl (Nat.le_of_ble_eq_true rfl) rfl rfl rfl dX10_clear_2 (fun H locs hP hD hS => ?_)
  exact RV hC hP hD hS [0] () rfl rfl (by decide) (trivial) dX10_clear_5
set_option maxHeartbeats 4000000 in
set_option maxRecDepth 100000 in
theorem t_advance (l : Launch) (G : GG) (h0 : Nat) (tby : Nat) (kt : Nat) (tln : Nat) (tsp : Nat) (tkd : Int32) (ks : Nat) (kn : Nat) (tf9 : Int32) (fby : Nat → Int32) (hkt : kt ≤ 240) (hks : ks ≤ 240) (hkn : kn ≤ 240) : MV l G yX10_advance cX10_advance 1 3 0 0 [.ref h0] [(h0, .inr (10, [.ref tby, .int (nI kt), .ref tln, .ref tsp, .int tkd, .int (nI ks), .int (nI kn), .int tf9])), (tby, .inl (G.2.1, 240, .inl fby))] (fun u : Int32 × Nat × Nat => u.2.1 ≤ 240 ∧ u.2.2 ≤ 240) (fun u : Int32 × Nat × Nat => [(h0, .inr (10, [.ref tby, .int (nI kt), .ref tln, .ref tsp, .int u.1, .int (nI u.2.1), .int (nI u.2.2), .int tf9])), (tby, .inl (G.2.1, 240, .inl fby))]) := by
  refine MV.start (by decide +kernel) (Nat.le_of_ble_eq_true rfl) ?_
  intro p e s m below meth c A ls hC hK hP hD hS hA hl
  have hl : lv_has ls 1 [(0, .ref h0)] := hl
  obtain ⟨hx, hb, hr, hml, hB, hown, hlocks, hnm⟩ := id hC
  refine lv_aload_n hx hb dX10_advance_0 rfl (lv_at hl 0 rfl) ?_
  refine lv_aload_n hx hb dX10_advance_1 rfl (lv_at hl 0 rfl) ?_
  refine gf_X10_37 hC rfl hK hP 0 rfl rfl dX10_advance_2 ?_
  refine pf_X10_34 hC rfl hK hP hD hS 0 (ws' := [(h0, .inr (10, [.ref tby, .int (nI kt), .ref tln, .ref tsp, .int tkd, .int (nI kn), .int (nI kn), .int tf9])), (tby, .inl (G.2.1, 240, .inl fby))]) rfl (Nat.le_of_ble_eq_true rfl) rfl rfl rfl dX10_advance_5 (fun H locs hP hD hS => ?_)
  have keyA : ∀ (nA jA : Nat) (H : Heap) (locs : List Loc) (ls : Array Slot), kt ≤ jA + nA → jA ≤ 240 → va_P G.1 vwCl [(h0, .inr (10, [.ref tby, .int (nI kt), .ref tln, .ref tsp, .int tkd, .int (nI jA), .int (nI kn), .int tf9])), (tby, .inl (G.2.1, 240, .inl fby))] H → va_D A [(h0, .inr (10, [.ref tby, .int (nI kt), .ref tln, .ref tsp, .int tkd, .int (nI jA), .int (nI kn), .int tf9])), (tby, .inl (G.2.1, 240, .inl fby))] → va_S A s.heap H locs → lv_has ls 1 [(0, .ref h0)] → W p l e (RM 3 0 0) s m ([.ref h0] : List Value).toArray below meth c H locs 0 0 (MQ below (QV G (fun u : Int32 × Nat × Nat => u.2.1 ≤ 240 ∧ u.2.2 ≤ 240) (fun u : Int32 × Nat × Nat => [(h0, .inr (10, [.ref tby, .int (nI kt), .ref tln, .ref tsp, .int u.1, .int (nI u.2.1), .int (nI u.2.2), .int tf9])), (tby, .inl (G.2.1, 240, .inl fby))]) A) ([.ref h0] : List Value).toArray s 0 0 A) (F0 m 8 ls []) := by
    intro nA
    induction nA with
    | zero =>
      intro jA H locs ls hkA hmA hP hD hS hl
      have hzA : nI kt ≤ nI jA := (nI_leI (by omega) (by omega)).mpr (by omega)
      refine lv_aload_n hx hb dX10_advance_8 rfl (lv_at hl 0 rfl) ?_
      refine gf_X10_34 hC rfl hK hP 0 rfl rfl dX10_advance_9 ?_
      refine lv_aload_n hx hb dX10_advance_12 rfl (lv_at hl 0 rfl) ?_
      refine gf_X10_27 hC rfl hK hP 0 rfl rfl dX10_advance_13 ?_
      refine lv_icmp_ge (tgt := 45) hx hb dX10_advance_16 (by decide) (fun _ => ?_) (fun c9 => absurd (hzA) c9)
      refine lv_aload_n hx hb dX10_advance_45 rfl (lv_at hl 0 rfl) ?_
      refine lv_aload_n hx hb dX10_advance_46 rfl (lv_at hl 0 rfl) ?_
      refine gf_X10_34 hC rfl hK hP 0 rfl rfl dX10_advance_47 ?_
      refine pf_X10_37 hC rfl hK hP hD hS 0 (ws' := [(h0, .inr (10, [.ref tby, .int (nI kt), .ref tln, .ref tsp, .int tkd, .int (nI jA), .int (nI jA), .int tf9])), (tby, .inl (G.2.1, 240, .inl fby))]) rfl (Nat.le_of_ble_eq_true rfl) rfl rfl rfl dX10_advance_50 (fun H locs hP hD hS => ?_)
      refine lv_aload_n hx hb dX10_advance_53 rfl (lv_at hl 0 rfl) ?_
      refine lv_aload_n hx hb dX10_advance_54 rfl (lv_at hl 0 rfl) ?_
      refine gf_X10_34 hC rfl hK hP 0 rfl rfl dX10_advance_55 ?_
      refine pV hC hK hl hP hD (t_byteAt l G h0 (nI jA) tby kt tln tsp tkd (nI jA) (nI jA) tf9 fby) si_X10_78 [0, 1] rfl rfl (by decide) rfl rfl rfl rfl rfl (Nat.le_of_ble_eq_true rfl) ⟨Nat.le_of_ble_eq_true rfl, Nat.le_of_ble_eq_true rfl⟩ ⟨by first | exact Nat.le_of_ble_eq_true rfl | exact Nat.zero_le _, by first | exact Nat.le_of_ble_eq_true rfl | exact Nat.zero_le _⟩ dX10_advance_58 (fun r2704 hr2704 => ?_)
      refine pS hC hK hl (t_letter l G r2704) si_X10_82 rfl rfl (Nat.le_of_ble_eq_true rfl) ⟨Nat.le_of_ble_eq_true rfl, Nat.le_of_ble_eq_true rfl⟩ ⟨by first | exact Nat.le_of_ble_eq_true rfl | exact Nat.zero_le _, by first | exact Nat.le_of_ble_eq_true rfl | exact Nat.zero_le _⟩ dX10_advance_61 (fun r2705 hr2705 => ?_)
      rcases hr2705 with rfl | rfl
      · refine lv_if_eq (tgt := 111) hx hb dX10_advance_64 (by decide) (fun c9 => absurd c9 (by decide)) (fun _ => ?_)
        refine lv_aload_n hx hb dX10_advance_67 rfl (lv_at hl 0 rfl) ?_
        refine lv_bipush (v := (-2)) hx hb dX10_advance_68 (by decide) ?_
        refine pf_X10_31 hC rfl hK hP hD hS 0 (ws' := [(h0, .inr (10, [.ref tby, .int (nI kt), .ref tln, .ref tsp, .int (-2), .int (nI jA), .int (nI jA), .int tf9])), (tby, .inl (G.2.1, 240, .inl fby))]) rfl (Nat.le_of_ble_eq_true rfl) rfl rfl rfl dX10_advance_70 (fun H locs hP hD hS => ?_)
        have keyB : ∀ (nB jB : Nat) (H : Heap) (locs : List Loc) (ls : Array Slot), kt ≤ jB + nB → jB ≤ 240 → va_P G.1 vwCl [(h0, .inr (10, [.ref tby, .int (nI kt), .ref tln, .ref tsp, .int (-2), .int (nI jA), .int (nI jB), .int tf9])), (tby, .inl (G.2.1, 240, .inl fby))] H → va_D A [(h0, .inr (10, [.ref tby, .int (nI kt), .ref tln, .ref tsp, .int (-2), .int (nI jA), .int (nI jB), .int tf9])), (tby, .inl (G.2.1, 240, .inl fby))] → va_S A s.heap H locs → lv_has ls 1 [(0, .ref h0)] → W p l e (RM 3 0 0) s m ([.ref h0] : List Value).toArray below meth c H locs 0 0 (MQ below (QV G (fun u : Int32 × Nat × Nat => u.2.1 ≤ 240 ∧ u.2.2 ≤ 240) (fun u : Int32 × Nat × Nat => [(h0, .inr (10, [.ref tby, .int (nI kt), .ref tln, .ref tsp, .int u.1, .int (nI u.2.1), .int (nI u.2.2), .int tf9])), (tby, .inl (G.2.1, 240, .inl fby))]) A) ([.ref h0] : List Value).toArray s 0 0 A) (F0 m 73 ls []) := by
          intro nB
          induction nB with
          | zero =>
            intro jB H locs ls hkB hmB hP hD hS hl
            have hzB : nI kt ≤ nI jB := (nI_leI (by omega) (by omega)).mpr (by omega)
            refine lv_aload_n hx hb dX10_advance_73 rfl (lv_at hl 0 rfl) ?_
            refine gf_X10_37 hC rfl hK hP 0 rfl rfl dX10_advance_74 ?_
            refine lv_aload_n hx hb dX10_advance_77 rfl (lv_at hl 0 rfl) ?_
            refine gf_X10_27 hC rfl hK hP 0 rfl rfl dX10_advance_78 ?_
            refine lv_icmp_ge (tgt := 199) hx hb dX10_advance_81 (by decide) (fun _ => ?_) (fun c9 => absurd (hzB) c9)
            exact RV hC hP hD hS [0, 1] ((-2), jA, jB) rfl rfl (by decide) (by dsimp only; omega) dX10_advance_199
          | succ nB ihB =>
            intro jB H locs ls hkB hmB hP hD hS hl
            refine lv_aload_n hx hb dX10_advance_73 rfl (lv_at hl 0 rfl) ?_
            refine gf_X10_37 hC rfl hK hP 0 rfl rfl dX10_advance_74 ?_
            refine lv_aload_n hx hb dX10_advance_77 rfl (lv_at hl 0 rfl) ?_
            refine gf_X10_27 hC rfl hK hP 0 rfl rfl dX10_advance_78 ?_
            refine lv_icmp_ge (tgt := 199) hx hb dX10_advance_81 (by decide) (fun c_81_2707 => ?_) (fun c_81_2707 => ?_)
            · exact RV hC hP hD hS [0, 1] ((-2), jA, jB) rfl rfl (by decide) (by dsimp only; omega) dX10_advance_199
            · refine lv_aload_n hx hb dX10_advance_84 rfl (lv_at hl 0 rfl) ?_
              refine lv_aload_n hx hb dX10_advance_85 rfl (lv_at hl 0 rfl) ?_
              refine gf_X10_37 hC rfl hK hP 0 rfl rfl dX10_advance_86 ?_
              refine pV hC hK hl hP hD (t_byteAt l G h0 (nI jB) tby kt tln tsp (-2) (nI jA) (nI jB) tf9 fby) si_X10_78 [0, 1] rfl rfl (by decide) rfl rfl rfl rfl rfl (Nat.le_of_ble_eq_true rfl) ⟨Nat.le_of_ble_eq_true rfl, Nat.le_of_ble_eq_true rfl⟩ ⟨by first | exact Nat.le_of_ble_eq_true rfl | exact Nat.zero_le _, by first | exact Nat.le_of_ble_eq_true rfl | exact Nat.zero_le _⟩ dX10_advance_89 (fun r2708 hr2708 => ?_)
              refine pS hC hK hl (t_letter l G r2708) si_X10_82 rfl rfl (Nat.le_of_ble_eq_true rfl) ⟨Nat.le_of_ble_eq_true rfl, Nat.le_of_ble_eq_true rfl⟩ ⟨by first | exact Nat.le_of_ble_eq_true rfl | exact Nat.zero_le _, by first | exact Nat.le_of_ble_eq_true rfl | exact Nat.zero_le _⟩ dX10_advance_92 (fun r2709 hr2709 => ?_)
              rcases hr2709 with rfl | rfl
              · refine lv_if_eq (tgt := 199) hx hb dX10_advance_95 (by decide) (fun c9 => absurd c9 (by decide)) (fun _ => ?_)
                refine lv_aload_n hx hb dX10_advance_98 rfl (lv_at hl 0 rfl) ?_
                refine lv_dup hx hb dX10_advance_99 rfl ?_
                refine gf_X10_37 hC rfl hK hP 0 rfl rfl dX10_advance_100 ?_
                refine lv_iconst (v := 1) hx hb dX10_advance_103 (by decide) ?_
                refine lv_iadd hx hb dX10_advance_104 ?_
                refine eqi (x1 := nI (jB + 1)) (nI_1 _) ?_
                refine pf_X10_37 hC rfl hK hP hD hS 0 (ws' := [(h0, .inr (10, [.ref tby, .int (nI kt), .ref tln, .ref tsp, .int (-2), .int (nI jA), .int (nI (jB + 1)), .int tf9])), (tby, .inl (G.2.1, 240, .inl fby))]) rfl (Nat.le_of_ble_eq_true rfl) rfl rfl rfl dX10_advance_105 (fun H locs hP hD hS => ?_)
                refine lv_goto (tgt := 73) hx hb dX10_advance_108 (by decide) ?_
                have hnB9 := nge_nat (R := kt) (k := jB) (by omega) (by omega) c_81_2707
                exact ihB (jB + 1) _ _ _ (by omega) (by omega) hP hD hS (lv_sub hl [0] rfl)
              · refine lv_if_eq (tgt := 199) hx hb dX10_advance_95 (by decide) (fun _ => ?_) (fun c9 => absurd (by decide) c9)
                exact RV hC hP hD hS [0, 1] ((-2), jA, jB) rfl rfl (by decide) (by dsimp only; omega) dX10_advance_199
        exact keyB kt jA _ _ _ (by omega) (by omega) hP hD hS (lv_sub hl [0] rfl)
      · refine lv_if_eq (tgt := 111) hx hb dX10_advance_64 (by decide) (fun _ => ?_) (fun c9 => absurd (by decide) c9)
        refine lv_aload_n hx hb dX10_advance_111 rfl (lv_at hl 0 rfl) ?_
        refine lv_aload_n hx hb dX10_advance_112 rfl (lv_at hl 0 rfl) ?_
        refine gf_X10_34 hC rfl hK hP 0 rfl rfl dX10_advance_113 ?_
        refine pV hC hK hl hP hD (t_byteAt l G h0 (nI jA) tby kt tln tsp tkd (nI jA) (nI jA) tf9 fby) si_X10_78 [0, 1] rfl rfl (by decide) rfl rfl rfl rfl rfl (Nat.le_of_ble_eq_true rfl) ⟨Nat.le_of_ble_eq_true rfl, Nat.le_of_ble_eq_true rfl⟩ ⟨by first | exact Nat.le_of_ble_eq_true rfl | exact Nat.zero_le _, by first | exact Nat.le_of_ble_eq_true rfl | exact Nat.zero_le _⟩ dX10_advance_116 (fun r2711 hr2711 => ?_)
        refine pS hC hK hl (t_digit l G r2711) si_X10_86 rfl rfl (Nat.le_of_ble_eq_true rfl) ⟨Nat.le_of_ble_eq_true rfl, Nat.le_of_ble_eq_true rfl⟩ ⟨by first | exact Nat.le_of_ble_eq_true rfl | exact Nat.zero_le _, by first | exact Nat.le_of_ble_eq_true rfl | exact Nat.zero_le _⟩ dX10_advance_119 (fun r2712 hr2712 => ?_)
        rcases hr2712 with rfl | rfl
        · refine lv_if_eq (tgt := 169) hx hb dX10_advance_122 (by decide) (fun c9 => absurd c9 (by decide)) (fun _ => ?_)
          refine lv_aload_n hx hb dX10_advance_125 rfl (lv_at hl 0 rfl) ?_
          refine lv_bipush (v := (-3)) hx hb dX10_advance_126 (by decide) ?_
          refine pf_X10_31 hC rfl hK hP hD hS 0 (ws' := [(h0, .inr (10, [.ref tby, .int (nI kt), .ref tln, .ref tsp, .int (-3), .int (nI jA), .int (nI jA), .int tf9])), (tby, .inl (G.2.1, 240, .inl fby))]) rfl (Nat.le_of_ble_eq_true rfl) rfl rfl rfl dX10_advance_128 (fun H locs hP hD hS => ?_)
          have keyC : ∀ (nC jC : Nat) (H : Heap) (locs : List Loc) (ls : Array Slot), kt ≤ jC + nC → jC ≤ 240 → va_P G.1 vwCl [(h0, .inr (10, [.ref tby, .int (nI kt), .ref tln, .ref tsp, .int (-3), .int (nI jA), .int (nI jC), .int tf9])), (tby, .inl (G.2.1, 240, .inl fby))] H → va_D A [(h0, .inr (10, [.ref tby, .int (nI kt), .ref tln, .ref tsp, .int (-3), .int (nI jA), .int (nI jC), .int tf9])), (tby, .inl (G.2.1, 240, .inl fby))] → va_S A s.heap H locs → lv_has ls 1 [(0, .ref h0)] → W p l e (RM 3 0 0) s m ([.ref h0] : List Value).toArray below meth c H locs 0 0 (MQ below (QV G (fun u : Int32 × Nat × Nat => u.2.1 ≤ 240 ∧ u.2.2 ≤ 240) (fun u : Int32 × Nat × Nat => [(h0, .inr (10, [.ref tby, .int (nI kt), .ref tln, .ref tsp, .int u.1, .int (nI u.2.1), .int (nI u.2.2), .int tf9])), (tby, .inl (G.2.1, 240, .inl fby))]) A) ([.ref h0] : List Value).toArray s 0 0 A) (F0 m 131 ls []) := by
            intro nC
            induction nC with
            | zero =>
              intro jC H locs ls hkC hmC hP hD hS hl
              have hzC : nI kt ≤ nI jC := (nI_leI (by omega) (by omega)).mpr (by omega)
              refine lv_aload_n hx hb dX10_advance_131 rfl (lv_at hl 0 rfl) ?_
              refine gf_X10_37 hC rfl hK hP 0 rfl rfl dX10_advance_132 ?_
              refine lv_aload_n hx hb dX10_advance_135 rfl (lv_at hl 0 rfl) ?_
              refine gf_X10_27 hC rfl hK hP 0 rfl rfl dX10_advance_136 ?_
              refine lv_icmp_ge (tgt := 199) hx hb dX10_advance_139 (by decide) (fun _ => ?_) (fun c9 => absurd (hzC) c9)
              exact RV hC hP hD hS [0, 1] ((-3), jA, jC) rfl rfl (by decide) (by dsimp only; omega) dX10_advance_199
            | succ nC ihC =>
              intro jC H locs ls hkC hmC hP hD hS hl
              refine lv_aload_n hx hb dX10_advance_131 rfl (lv_at hl 0 rfl) ?_
              refine gf_X10_37 hC rfl hK hP 0 rfl rfl dX10_advance_132 ?_
              refine lv_aload_n hx hb dX10_advance_135 rfl (lv_at hl 0 rfl) ?_
              refine gf_X10_27 hC rfl hK hP 0 rfl rfl dX10_advance_136 ?_
              refine lv_icmp_ge (tgt := 199) hx hb dX10_advance_139 (by decide) (fun c_139_2714 => ?_) (fun c_139_2714 => ?_)
              · exact RV hC hP hD hS [0, 1] ((-3), jA, jC) rfl rfl (by decide) (by dsimp only; omega) dX10_advance_199
              · refine lv_aload_n hx hb dX10_advance_142 rfl (lv_at hl 0 rfl) ?_
                refine lv_aload_n hx hb dX10_advance_143 rfl (lv_at hl 0 rfl) ?_
                refine gf_X10_37 hC rfl hK hP 0 rfl rfl dX10_advance_144 ?_
                refine pV hC hK hl hP hD (t_byteAt l G h0 (nI jC) tby kt tln tsp (-3) (nI jA) (nI jC) tf9 fby) si_X10_78 [0, 1] rfl rfl (by decide) rfl rfl rfl rfl rfl (Nat.le_of_ble_eq_true rfl) ⟨Nat.le_of_ble_eq_true rfl, Nat.le_of_ble_eq_true rfl⟩ ⟨by first | exact Nat.le_of_ble_eq_true rfl | exact Nat.zero_le _, by first | exact Nat.le_of_ble_eq_true rfl | exact Nat.zero_le _⟩ dX10_advance_147 (fun r2715 hr2715 => ?_)
                refine pS hC hK hl (t_digit l G r2715) si_X10_86 rfl rfl (Nat.le_of_ble_eq_true rfl) ⟨Nat.le_of_ble_eq_true rfl, Nat.le_of_ble_eq_true rfl⟩ ⟨by first | exact Nat.le_of_ble_eq_true rfl | exact Nat.zero_le _, by first | exact Nat.le_of_ble_eq_true rfl | exact Nat.zero_le _⟩ dX10_advance_150 (fun r2716 hr2716 => ?_)
                rcases hr2716 with rfl | rfl
                · refine lv_if_eq (tgt := 199) hx hb dX10_advance_153 (by decide) (fun c9 => absurd c9 (by decide)) (fun _ => ?_)
                  refine lv_aload_n hx hb dX10_advance_156 rfl (lv_at hl 0 rfl) ?_
                  refine lv_dup hx hb dX10_advance_157 rfl ?_
                  refine gf_X10_37 hC rfl hK hP 0 rfl rfl dX10_advance_158 ?_
                  refine lv_iconst (v := 1) hx hb dX10_advance_161 (by decide) ?_
                  refine lv_iadd hx hb dX10_advance_162 ?_
                  refine eqi (x1 := nI (jC + 1)) (nI_1 _) ?_
                  refine pf_X10_37 hC rfl hK hP hD hS 0 (ws' := [(h0, .inr (10, [.ref tby, .int (nI kt), .ref tln, .ref tsp, .int (-3), .int (nI jA), .int (nI (jC + 1)), .int tf9])), (tby, .inl (G.2.1, 240, .inl fby))]) rfl (Nat.le_of_ble_eq_true rfl) rfl rfl rfl dX10_advance_163 (fun H locs hP hD hS => ?_)
                  refine lv_goto (tgt := 131) hx hb dX10_advance_166 (by decide) ?_
                  have hnC9 := nge_nat (R := kt) (k := jC) (by omega) (by omega) c_139_2714
                  exact ihC (jC + 1) _ _ _ (by omega) (by omega) hP hD hS (lv_sub hl [0] rfl)
                · refine lv_if_eq (tgt := 199) hx hb dX10_advance_153 (by decide) (fun _ => ?_) (fun c9 => absurd (by decide) c9)
                  exact RV hC hP hD hS [0, 1] ((-3), jA, jC) rfl rfl (by decide) (by dsimp only; omega) dX10_advance_199
          exact keyC kt jA _ _ _ (by omega) (by omega) hP hD hS (lv_sub hl [0] rfl)
        · refine lv_if_eq (tgt := 169) hx hb dX10_advance_122 (by decide) (fun _ => ?_) (fun c9 => absurd (by decide) c9)
          refine lv_aload_n hx hb dX10_advance_169 rfl (lv_at hl 0 rfl) ?_
          refine lv_aload_n hx hb dX10_advance_170 rfl (lv_at hl 0 rfl) ?_
          refine lv_aload_n hx hb dX10_advance_171 rfl (lv_at hl 0 rfl) ?_
          refine gf_X10_34 hC rfl hK hP 0 rfl rfl dX10_advance_172 ?_
          refine pV hC hK hl hP hD (t_byteAtN l G h0 jA tby kt tln tsp tkd (nI jA) (nI jA) tf9 fby (by omega)) si_X10_78 [0, 1] rfl rfl (by decide) rfl rfl rfl rfl rfl (Nat.le_of_ble_eq_true rfl) ⟨Nat.le_of_ble_eq_true rfl, Nat.le_of_ble_eq_true rfl⟩ ⟨by first | exact Nat.le_of_ble_eq_true rfl | exact Nat.zero_le _, by first | exact Nat.le_of_ble_eq_true rfl | exact Nat.zero_le _⟩ dX10_advance_175 (fun r2718 hr2718 => ?_)
          rcases hr2718 with rfl | ⟨rfl, a2719⟩
          · refine pf_X10_31 hC rfl hK hP hD hS 0 (ws' := [(h0, .inr (10, [.ref tby, .int (nI kt), .ref tln, .ref tsp, .int (-1), .int (nI jA), .int (nI jA), .int tf9])), (tby, .inl (G.2.1, 240, .inl fby))]) rfl (Nat.le_of_ble_eq_true rfl) rfl rfl rfl dX10_advance_178 (fun H locs hP hD hS => ?_)
            refine lv_aload_n hx hb dX10_advance_181 rfl (lv_at hl 0 rfl) ?_
            refine gf_X10_31 hC rfl hK hP 0 rfl rfl dX10_advance_182 ?_
            refine lv_iconst (v := (-1)) hx hb dX10_advance_185 (by decide) ?_
            refine lv_icmp_eq (tgt := 199) hx hb dX10_advance_186 (by decide) (fun _ => ?_) (fun c9 => absurd (by decide) c9)
            exact RV hC hP hD hS [0, 1] ((-1), jA, jA) rfl rfl (by decide) (by dsimp only; omega) dX10_advance_199
          · refine pf_X10_31 hC rfl hK hP hD hS 0 (ws' := [(h0, .inr (10, [.ref tby, .int (nI kt), .ref tln, .ref tsp, .int (fby jA), .int (nI jA), .int (nI jA), .int tf9])), (tby, .inl (G.2.1, 240, .inl fby))]) rfl (Nat.le_of_ble_eq_true rfl) rfl rfl rfl dX10_advance_178 (fun H locs hP hD hS => ?_)
            refine lv_aload_n hx hb dX10_advance_181 rfl (lv_at hl 0 rfl) ?_
            refine gf_X10_31 hC rfl hK hP 0 rfl rfl dX10_advance_182 ?_
            refine lv_iconst (v := (-1)) hx hb dX10_advance_185 (by decide) ?_
            refine lv_icmp_eq (tgt := 199) hx hb dX10_advance_186 (by decide) (fun c_186_2720 => ?_) (fun c_186_2720 => ?_)
            · exact RV hC hP hD hS [0, 1] ((fby jA), jA, jA) rfl rfl (by decide) (by dsimp only; omega) dX10_advance_199
            · refine lv_aload_n hx hb dX10_advance_189 rfl (lv_at hl 0 rfl) ?_
              refine lv_dup hx hb dX10_advance_190 rfl ?_
              refine gf_X10_37 hC rfl hK hP 0 rfl rfl dX10_advance_191 ?_
              refine lv_iconst (v := 1) hx hb dX10_advance_194 (by decide) ?_
              refine lv_iadd hx hb dX10_advance_195 ?_
              refine eqi (x1 := nI (jA + 1)) (nI_1 _) ?_
              refine pf_X10_37 hC rfl hK hP hD hS 0 (ws' := [(h0, .inr (10, [.ref tby, .int (nI kt), .ref tln, .ref tsp, .int (fby jA), .int (nI jA), .int (nI (jA + 1)), .int tf9])), (tby, .inl (G.2.1, 240, .inl fby))]) rfl (Nat.le_of_ble_eq_true rfl) rfl rfl rfl dX10_advance_196 (fun H locs hP hD hS => ?_)
              exact RV hC hP hD hS [0, 1] ((fby jA), jA, (jA + 1)) rfl rfl (by decide) (by dsimp only; omega) dX10_advance_199
    | succ nA ihA =>
      intro jA H locs ls hkA hmA hP hD hS hl
      refine lv_aload_n hx hb dX10_advance_8 rfl (lv_at hl 0 rfl) ?_
      refine gf_X10_34 hC rfl hK hP 0 rfl rfl dX10_advance_9 ?_
      refine lv_aload_n hx hb dX10_advance_12 rfl (lv_at hl 0 rfl) ?_
      refine gf_X10_27 hC rfl hK hP 0 rfl rfl dX10_advance_13 ?_
      refine lv_icmp_ge (tgt := 45) hx hb dX10_advance_16 (by decide) (fun c_16_2721 => ?_) (fun c_16_2721 => ?_)
      · refine lv_aload_n hx hb dX10_advance_45 rfl (lv_at hl 0 rfl) ?_
        refine lv_aload_n hx hb dX10_advance_46 rfl (lv_at hl 0 rfl) ?_
        refine gf_X10_34 hC rfl hK hP 0 rfl rfl dX10_advance_47 ?_
        refine pf_X10_37 hC rfl hK hP hD hS 0 (ws' := [(h0, .inr (10, [.ref tby, .int (nI kt), .ref tln, .ref tsp, .int tkd, .int (nI jA), .int (nI jA), .int tf9])), (tby, .inl (G.2.1, 240, .inl fby))]) rfl (Nat.le_of_ble_eq_true rfl) rfl rfl rfl dX10_advance_50 (fun H locs hP hD hS => ?_)
        refine lv_aload_n hx hb dX10_advance_53 rfl (lv_at hl 0 rfl) ?_
        refine lv_aload_n hx hb dX10_advance_54 rfl (lv_at hl 0 rfl) ?_
        refine gf_X10_34 hC rfl hK hP 0 rfl rfl dX10_advance_55 ?_
        refine pV hC hK hl hP hD (t_byteAt l G h0 (nI jA) tby kt tln tsp tkd (nI jA) (nI jA) tf9 fby) si_X10_78 [0, 1] rfl rfl (by decide) rfl rfl rfl rfl rfl (Nat.le_of_ble_eq_true rfl) ⟨Nat.le_of_ble_eq_true rfl, Nat.le_of_ble_eq_true rfl⟩ ⟨by first | exact Nat.le_of_ble_eq_true rfl | exact Nat.zero_le _, by first | exact Nat.le_of_ble_eq_true rfl | exact Nat.zero_le _⟩ dX10_advance_58 (fun r2722 hr2722 => ?_)
        refine pS hC hK hl (t_letter l G r2722) si_X10_82 rfl rfl (Nat.le_of_ble_eq_true rfl) ⟨Nat.le_of_ble_eq_true rfl, Nat.le_of_ble_eq_true rfl⟩ ⟨by first | exact Nat.le_of_ble_eq_true rfl | exact Nat.zero_le _, by first | exact Nat.le_of_ble_eq_true rfl | exact Nat.zero_le _⟩ dX10_advance_61 (fun r2723 hr2723 => ?_)
        rcases hr2723 with rfl | rfl
        · refine lv_if_eq (tgt := 111) hx hb dX10_advance_64 (by decide) (fun c9 => absurd c9 (by decide)) (fun _ => ?_)
          refine lv_aload_n hx hb dX10_advance_67 rfl (lv_at hl 0 rfl) ?_
          refine lv_bipush (v := (-2)) hx hb dX10_advance_68 (by decide) ?_
          refine pf_X10_31 hC rfl hK hP hD hS 0 (ws' := [(h0, .inr (10, [.ref tby, .int (nI kt), .ref tln, .ref tsp, .int (-2), .int (nI jA), .int (nI jA), .int tf9])), (tby, .inl (G.2.1, 240, .inl fby))]) rfl (Nat.le_of_ble_eq_true rfl) rfl rfl rfl dX10_advance_70 (fun H locs hP hD hS => ?_)
          have keyB : ∀ (nB jB : Nat) (H : Heap) (locs : List Loc) (ls : Array Slot), kt ≤ jB + nB → jB ≤ 240 → va_P G.1 vwCl [(h0, .inr (10, [.ref tby, .int (nI kt), .ref tln, .ref tsp, .int (-2), .int (nI jA), .int (nI jB), .int tf9])), (tby, .inl (G.2.1, 240, .inl fby))] H → va_D A [(h0, .inr (10, [.ref tby, .int (nI kt), .ref tln, .ref tsp, .int (-2), .int (nI jA), .int (nI jB), .int tf9])), (tby, .inl (G.2.1, 240, .inl fby))] → va_S A s.heap H locs → lv_has ls 1 [(0, .ref h0)] → W p l e (RM 3 0 0) s m ([.ref h0] : List Value).toArray below meth c H locs 0 0 (MQ below (QV G (fun u : Int32 × Nat × Nat => u.2.1 ≤ 240 ∧ u.2.2 ≤ 240) (fun u : Int32 × Nat × Nat => [(h0, .inr (10, [.ref tby, .int (nI kt), .ref tln, .ref tsp, .int u.1, .int (nI u.2.1), .int (nI u.2.2), .int tf9])), (tby, .inl (G.2.1, 240, .inl fby))]) A) ([.ref h0] : List Value).toArray s 0 0 A) (F0 m 73 ls []) := by
            intro nB
            induction nB with
            | zero =>
              intro jB H locs ls hkB hmB hP hD hS hl
              have hzB : nI kt ≤ nI jB := (nI_leI (by omega) (by omega)).mpr (by omega)
              refine lv_aload_n hx hb dX10_advance_73 rfl (lv_at hl 0 rfl) ?_
              refine gf_X10_37 hC rfl hK hP 0 rfl rfl dX10_advance_74 ?_
              refine lv_aload_n hx hb dX10_advance_77 rfl (lv_at hl 0 rfl) ?_
              refine gf_X10_27 hC rfl hK hP 0 rfl rfl dX10_advance_78 ?_
              refine lv_icmp_ge (tgt := 199) hx hb dX10_advance_81 (by decide) (fun _ => ?_) (fun c9 => absurd (hzB) c9)
              exact RV hC hP hD hS [0, 1] ((-2), jA, jB) rfl rfl (by decide) (by dsimp only; omega) dX10_advance_199
            | succ nB ihB =>
              intro jB H locs ls hkB hmB hP hD hS hl
              refine lv_aload_n hx hb dX10_advance_73 rfl (lv_at hl 0 rfl) ?_
              refine gf_X10_37 hC rfl hK hP 0 rfl rfl dX10_advance_74 ?_
              refine lv_aload_n hx hb dX10_advance_77 rfl (lv_at hl 0 rfl) ?_
              refine gf_X10_27 hC rfl hK hP 0 rfl rfl dX10_advance_78 ?_
              refine lv_icmp_ge (tgt := 199) hx hb dX10_advance_81 (by decide) (fun c_81_2725 => ?_) (fun c_81_2725 => ?_)
              · exact RV hC hP hD hS [0, 1] ((-2), jA, jB) rfl rfl (by decide) (by dsimp only; omega) dX10_advance_199
              · refine lv_aload_n hx hb dX10_advance_84 rfl (lv_at hl 0 rfl) ?_
                refine lv_aload_n hx hb dX10_advance_85 rfl (lv_at hl 0 rfl) ?_
                refine gf_X10_37 hC rfl hK hP 0 rfl rfl dX10_advance_86 ?_
                refine pV hC hK hl hP hD (t_byteAt l G h0 (nI jB) tby kt tln tsp (-2) (nI jA) (nI jB) tf9 fby) si_X10_78 [0, 1] rfl rfl (by decide) rfl rfl rfl rfl rfl (Nat.le_of_ble_eq_true rfl) ⟨Nat.le_of_ble_eq_true rfl, Nat.le_of_ble_eq_true rfl⟩ ⟨by first | exact Nat.le_of_ble_eq_true rfl | exact Nat.zero_le _, by first | exact Nat.le_of_ble_eq_true rfl | exact Nat.zero_le _⟩ dX10_advance_89 (fun r2726 hr2726 => ?_)
                refine pS hC hK hl (t_letter l G r2726) si_X10_82 rfl rfl (Nat.le_of_ble_eq_true rfl) ⟨Nat.le_of_ble_eq_true rfl, Nat.le_of_ble_eq_true rfl⟩ ⟨by first | exact Nat.le_of_ble_eq_true rfl | exact Nat.zero_le _, by first | exact Nat.le_of_ble_eq_true rfl | exact Nat.zero_le _⟩ dX10_advance_92 (fun r2727 hr2727 => ?_)
                rcases hr2727 with rfl | rfl
                · refine lv_if_eq (tgt := 199) hx hb dX10_advance_95 (by decide) (fun c9 => absurd c9 (by decide)) (fun _ => ?_)
                  refine lv_aload_n hx hb dX10_advance_98 rfl (lv_at hl 0 rfl) ?_
                  refine lv_dup hx hb dX10_advance_99 rfl ?_
                  refine gf_X10_37 hC rfl hK hP 0 rfl rfl dX10_advance_100 ?_
                  refine lv_iconst (v := 1) hx hb dX10_advance_103 (by decide) ?_
                  refine lv_iadd hx hb dX10_advance_104 ?_
                  refine eqi (x1 := nI (jB + 1)) (nI_1 _) ?_
                  refine pf_X10_37 hC rfl hK hP hD hS 0 (ws' := [(h0, .inr (10, [.ref tby, .int (nI kt), .ref tln, .ref tsp, .int (-2), .int (nI jA), .int (nI (jB + 1)), .int tf9])), (tby, .inl (G.2.1, 240, .inl fby))]) rfl (Nat.le_of_ble_eq_true rfl) rfl rfl rfl dX10_advance_105 (fun H locs hP hD hS => ?_)
                  refine lv_goto (tgt := 73) hx hb dX10_advance_108 (by decide) ?_
                  have hnB9 := nge_nat (R := kt) (k := jB) (by omega) (by omega) c_81_2725
                  exact ihB (jB + 1) _ _ _ (by omega) (by omega) hP hD hS (lv_sub hl [0] rfl)
                · refine lv_if_eq (tgt := 199) hx hb dX10_advance_95 (by decide) (fun _ => ?_) (fun c9 => absurd (by decide) c9)
                  exact RV hC hP hD hS [0, 1] ((-2), jA, jB) rfl rfl (by decide) (by dsimp only; omega) dX10_advance_199
          exact keyB kt jA _ _ _ (by omega) (by omega) hP hD hS (lv_sub hl [0] rfl)
        · refine lv_if_eq (tgt := 111) hx hb dX10_advance_64 (by decide) (fun _ => ?_) (fun c9 => absurd (by decide) c9)
          refine lv_aload_n hx hb dX10_advance_111 rfl (lv_at hl 0 rfl) ?_
          refine lv_aload_n hx hb dX10_advance_112 rfl (lv_at hl 0 rfl) ?_
          refine gf_X10_34 hC rfl hK hP 0 rfl rfl dX10_advance_113 ?_
          refine pV hC hK hl hP hD (t_byteAt l G h0 (nI jA) tby kt tln tsp tkd (nI jA) (nI jA) tf9 fby) si_X10_78 [0, 1] rfl rfl (by decide) rfl rfl rfl rfl rfl (Nat.le_of_ble_eq_true rfl) ⟨Nat.le_of_ble_eq_true rfl, Nat.le_of_ble_eq_true rfl⟩ ⟨by first | exact Nat.le_of_ble_eq_true rfl | exact Nat.zero_le _, by first | exact Nat.le_of_ble_eq_true rfl | exact Nat.zero_le _⟩ dX10_advance_116 (fun r2729 hr2729 => ?_)
          refine pS hC hK hl (t_digit l G r2729) si_X10_86 rfl rfl (Nat.le_of_ble_eq_true rfl) ⟨Nat.le_of_ble_eq_true rfl, Nat.le_of_ble_eq_true rfl⟩ ⟨by first | exact Nat.le_of_ble_eq_true rfl | exact Nat.zero_le _, by first | exact Nat.le_of_ble_eq_true rfl | exact Nat.zero_le _⟩ dX10_advance_119 (fun r2730 hr2730 => ?_)
          rcases hr2730 with rfl | rfl
          · refine lv_if_eq (tgt := 169) hx hb dX10_advance_122 (by decide) (fun c9 => absurd c9 (by decide)) (fun _ => ?_)
            refine lv_aload_n hx hb dX10_advance_125 rfl (lv_at hl 0 rfl) ?_
            refine lv_bipush (v := (-3)) hx hb dX10_advance_126 (by decide) ?_
            refine pf_X10_31 hC rfl hK hP hD hS 0 (ws' := [(h0, .inr (10, [.ref tby, .int (nI kt), .ref tln, .ref tsp, .int (-3), .int (nI jA), .int (nI jA), .int tf9])), (tby, .inl (G.2.1, 240, .inl fby))]) rfl (Nat.le_of_ble_eq_true rfl) rfl rfl rfl dX10_advance_128 (fun H locs hP hD hS => ?_)
            have keyC : ∀ (nC jC : Nat) (H : Heap) (locs : List Loc) (ls : Array Slot), kt ≤ jC + nC → jC ≤ 240 → va_P G.1 vwCl [(h0, .inr (10, [.ref tby, .int (nI kt), .ref tln, .ref tsp, .int (-3), .int (nI jA), .int (nI jC), .int tf9])), (tby, .inl (G.2.1, 240, .inl fby))] H → va_D A [(h0, .inr (10, [.ref tby, .int (nI kt), .ref tln, .ref tsp, .int (-3), .int (nI jA), .int (nI jC), .int tf9])), (tby, .inl (G.2.1, 240, .inl fby))] → va_S A s.heap H locs → lv_has ls 1 [(0, .ref h0)] → W p l e (RM 3 0 0) s m ([.ref h0] : List Value).toArray below meth c H locs 0 0 (MQ below (QV G (fun u : Int32 × Nat × Nat => u.2.1 ≤ 240 ∧ u.2.2 ≤ 240) (fun u : Int32 × Nat × Nat => [(h0, .inr (10, [.ref tby, .int (nI kt), .ref tln, .ref tsp, .int u.1, .int (nI u.2.1), .int (nI u.2.2), .int tf9])), (tby, .inl (G.2.1, 240, .inl fby))]) A) ([.ref h0] : List Value).toArray s 0 0 A) (F0 m 131 ls []) := by
              intro nC
              induction nC with
              | zero =>
                intro jC H locs ls hkC hmC hP hD hS hl
                have hzC : nI kt ≤ nI jC := (nI_leI (by omega) (by omega)).mpr (by omega)
                refine lv_aload_n hx hb dX10_advance_131 rfl (lv_at hl 0 rfl) ?_
                refine gf_X10_37 hC rfl hK hP 0 rfl rfl dX10_advance_132 ?_
                refine lv_aload_n hx hb dX10_advance_135 rfl (lv_at hl 0 rfl) ?_
                refine gf_X10_27 hC rfl hK hP 0 rfl rfl dX10_advance_136 ?_
                refine lv_icmp_ge (tgt := 199) hx hb dX10_advance_139 (by decide) (fun _ => ?_) (fun c9 => absurd (hzC) c9)
                exact RV hC hP hD hS [0, 1] ((-3), jA, jC) rfl rfl (by decide) (by dsimp only; omega) dX10_advance_199
              | succ nC ihC =>
                intro jC H locs ls hkC hmC hP hD hS hl
                refine lv_aload_n hx hb dX10_advance_131 rfl (lv_at hl 0 rfl) ?_
                refine gf_X10_37 hC rfl hK hP 0 rfl rfl dX10_advance_132 ?_
                refine lv_aload_n hx hb dX10_advance_135 rfl (lv_at hl 0 rfl) ?_
                refine gf_X10_27 hC rfl hK hP 0 rfl rfl dX10_advance_136 ?_
                refine lv_icmp_ge (tgt := 199) hx hb dX10_advance_139 (by decide) (fun c_139_2732 => ?_) (fun c_139_2732 => ?_)
                · exact RV hC hP hD hS [0, 1] ((-3), jA, jC) rfl rfl (by decide) (by dsimp only; omega) dX10_advance_199
                · refine lv_aload_n hx hb dX10_advance_142 rfl (lv_at hl 0 rfl) ?_
                  refine lv_aload_n hx hb dX10_advance_143 rfl (lv_at hl 0 rfl) ?_
                  refine gf_X10_37 hC rfl hK hP 0 rfl rfl dX10_advance_144 ?_
                  refine pV hC hK hl hP hD (t_byteAt l G h0 (nI jC) tby kt tln tsp (-3) (nI jA) (nI jC) tf9 fby) si_X10_78 [0, 1] rfl rfl (by decide) rfl rfl rfl rfl rfl (Nat.le_of_ble_eq_true rfl) ⟨Nat.le_of_ble_eq_true rfl, Nat.le_of_ble_eq_true rfl⟩ ⟨by first | exact Nat.le_of_ble_eq_true rfl | exact Nat.zero_le _, by first | exact Nat.le_of_ble_eq_true rfl | exact Nat.zero_le _⟩ dX10_advance_147 (fun r2733 hr2733 => ?_)
                  refine pS hC hK hl (t_digit l G r2733) si_X10_86 rfl rfl (Nat.le_of_ble_eq_true rfl) ⟨Nat.le_of_ble_eq_true rfl, Nat.le_of_ble_eq_true rfl⟩ ⟨by first | exact Nat.le_of_ble_eq_true rfl | exact Nat.zero_le _, by first | exact Nat.le_of_ble_eq_true rfl | exact Nat.zero_le _⟩ dX10_advance_150 (fun r2734 hr2734 => ?_)
                  rcases hr2734 with rfl | rfl
                  · refine lv_if_eq (tgt := 199) hx hb dX10_advance_153 (by decide) (fun c9 => absurd c9 (by decide)) (fun _ => ?_)
                    refine lv_aload_n hx hb dX10_advance_156 rfl (lv_at hl 0 rfl) ?_
                    refine lv_dup hx hb dX10_advance_157 rfl ?_
                    refine gf_X10_37 hC rfl hK hP 0 rfl rfl dX10_advance_158 ?_
                    refine lv_iconst (v := 1) hx hb dX10_advance_161 (by decide) ?_
                    refine lv_iadd hx hb dX10_advance_162 ?_
                    refine eqi (x1 := nI (jC + 1)) (nI_1 _) ?_
                    refine pf_X10_37 hC rfl hK hP hD hS 0 (ws' := [(h0, .inr (10, [.ref tby, .int (nI kt), .ref tln, .ref tsp, .int (-3), .int (nI jA), .int (nI (jC + 1)), .int tf9])), (tby, .inl (G.2.1, 240, .inl fby))]) rfl (Nat.le_of_ble_eq_true rfl) rfl rfl rfl dX10_advance_163 (fun H locs hP hD hS => ?_)
                    refine lv_goto (tgt := 131) hx hb dX10_advance_166 (by decide) ?_
                    have hnC9 := nge_nat (R := kt) (k := jC) (by omega) (by omega) c_139_2732
                    exact ihC (jC + 1) _ _ _ (by omega) (by omega) hP hD hS (lv_sub hl [0] rfl)
                  · refine lv_if_eq (tgt := 199) hx hb dX10_advance_153 (by decide) (fun _ => ?_) (fun c9 => absurd (by decide) c9)
                    exact RV hC hP hD hS [0, 1] ((-3), jA, jC) rfl rfl (by decide) (by dsimp only; omega) dX10_advance_199
            exact keyC kt jA _ _ _ (by omega) (by omega) hP hD hS (lv_sub hl [0] rfl)
          · refine lv_if_eq (tgt := 169) hx hb dX10_advance_122 (by decide) (fun _ => ?_) (fun c9 => absurd (by decide) c9)
            refine lv_aload_n hx hb dX10_advance_169 rfl (lv_at hl 0 rfl) ?_
            refine lv_aload_n hx hb dX10_advance_170 rfl (lv_at hl 0 rfl) ?_
            refine lv_aload_n hx hb dX10_advance_171 rfl (lv_at hl 0 rfl) ?_
            refine gf_X10_34 hC rfl hK hP 0 rfl rfl dX10_advance_172 ?_
            refine pV hC hK hl hP hD (t_byteAtN l G h0 jA tby kt tln tsp tkd (nI jA) (nI jA) tf9 fby (by omega)) si_X10_78 [0, 1] rfl rfl (by decide) rfl rfl rfl rfl rfl (Nat.le_of_ble_eq_true rfl) ⟨Nat.le_of_ble_eq_true rfl, Nat.le_of_ble_eq_true rfl⟩ ⟨by first | exact Nat.le_of_ble_eq_true rfl | exact Nat.zero_le _, by first | exact Nat.le_of_ble_eq_true rfl | exact Nat.zero_le _⟩ dX10_advance_175 (fun r2736 hr2736 => ?_)
            rcases hr2736 with rfl | ⟨rfl, a2737⟩
            · refine pf_X10_31 hC rfl hK hP hD hS 0 (ws' := [(h0, .inr (10, [.ref tby, .int (nI kt), .ref tln, .ref tsp, .int (-1), .int (nI jA), .int (nI jA), .int tf9])), (tby, .inl (G.2.1, 240, .inl fby))]) rfl (Nat.le_of_ble_eq_true rfl) rfl rfl rfl dX10_advance_178 (fun H locs hP hD hS => ?_)
              refine lv_aload_n hx hb dX10_advance_181 rfl (lv_at hl 0 rfl) ?_
              refine gf_X10_31 hC rfl hK hP 0 rfl rfl dX10_advance_182 ?_
              refine lv_iconst (v := (-1)) hx hb dX10_advance_185 (by decide) ?_
              refine lv_icmp_eq (tgt := 199) hx hb dX10_advance_186 (by decide) (fun _ => ?_) (fun c9 => absurd (by decide) c9)
              exact RV hC hP hD hS [0, 1] ((-1), jA, jA) rfl rfl (by decide) (by dsimp only; omega) dX10_advance_199
            · refine pf_X10_31 hC rfl hK hP hD hS 0 (ws' := [(h0, .inr (10, [.ref tby, .int (nI kt), .ref tln, .ref tsp, .int (fby jA), .int (nI jA), .int (nI jA), .int tf9])), (tby, .inl (G.2.1, 240, .inl fby))]) rfl (Nat.le_of_ble_eq_true rfl) rfl rfl rfl dX10_advance_178 (fun H locs hP hD hS => ?_)
              refine lv_aload_n hx hb dX10_advance_181 rfl (lv_at hl 0 rfl) ?_
              refine gf_X10_31 hC rfl hK hP 0 rfl rfl dX10_advance_182 ?_
              refine lv_iconst (v := (-1)) hx hb dX10_advance_185 (by decide) ?_
              refine lv_icmp_eq (tgt := 199) hx hb dX10_advance_186 (by decide) (fun c_186_2738 => ?_) (fun c_186_2738 => ?_)
              · exact RV hC hP hD hS [0, 1] ((fby jA), jA, jA) rfl rfl (by decide) (by dsimp only; omega) dX10_advance_199
              · refine lv_aload_n hx hb dX10_advance_189 rfl (lv_at hl 0 rfl) ?_
                refine lv_dup hx hb dX10_advance_190 rfl ?_
                refine gf_X10_37 hC rfl hK hP 0 rfl rfl dX10_advance_191 ?_
                refine lv_iconst (v := 1) hx hb dX10_advance_194 (by decide) ?_
                refine lv_iadd hx hb dX10_advance_195 ?_
                refine eqi (x1 := nI (jA + 1)) (nI_1 _) ?_
                refine pf_X10_37 hC rfl hK hP hD hS 0 (ws' := [(h0, .inr (10, [.ref tby, .int (nI kt), .ref tln, .ref tsp, .int (fby jA), .int (nI jA), .int (nI (jA + 1)), .int tf9])), (tby, .inl (G.2.1, 240, .inl fby))]) rfl (Nat.le_of_ble_eq_true rfl) rfl rfl rfl dX10_advance_196 (fun H locs hP hD hS => ?_)
                exact RV hC hP hD hS [0, 1] ((fby jA), jA, (jA + 1)) rfl rfl (by decide) (by dsimp only; omega) dX10_advance_199
      · refine lv_aload_n hx hb dX10_advance_19 rfl (lv_at hl 0 rfl) ?_
        refine lv_aload_n hx hb dX10_advance_20 rfl (lv_at hl 0 rfl) ?_
        refine gf_X10_34 hC rfl hK hP 0 rfl rfl dX10_advance_21 ?_
        refine pV hC hK hl hP hD (t_byteAt l G h0 (nI jA) tby kt tln tsp tkd (nI jA) (nI kn) tf9 fby) si_X10_78 [0, 1] rfl rfl (by decide) rfl rfl rfl rfl rfl (Nat.le_of_ble_eq_true rfl) ⟨Nat.le_of_ble_eq_true rfl, Nat.le_of_ble_eq_true rfl⟩ ⟨by first | exact Nat.le_of_ble_eq_true rfl | exact Nat.zero_le _, by first | exact Nat.le_of_ble_eq_true rfl | exact Nat.zero_le _⟩ dX10_advance_24 (fun r2739 hr2739 => ?_)
        refine lv_bipush (v := 32) hx hb dX10_advance_27 (by decide) ?_
        refine lv_icmp_ne (tgt := 45) hx hb dX10_advance_29 (by decide) (fun c_29_2740 => ?_) (fun c_29_2740 => ?_)
        · refine lv_aload_n hx hb dX10_advance_45 rfl (lv_at hl 0 rfl) ?_
          refine lv_aload_n hx hb dX10_advance_46 rfl (lv_at hl 0 rfl) ?_
          refine gf_X10_34 hC rfl hK hP 0 rfl rfl dX10_advance_47 ?_
          refine pf_X10_37 hC rfl hK hP hD hS 0 (ws' := [(h0, .inr (10, [.ref tby, .int (nI kt), .ref tln, .ref tsp, .int tkd, .int (nI jA), .int (nI jA), .int tf9])), (tby, .inl (G.2.1, 240, .inl fby))]) rfl (Nat.le_of_ble_eq_true rfl) rfl rfl rfl dX10_advance_50 (fun H locs hP hD hS => ?_)
          refine lv_aload_n hx hb dX10_advance_53 rfl (lv_at hl 0 rfl) ?_
          refine lv_aload_n hx hb dX10_advance_54 rfl (lv_at hl 0 rfl) ?_
          refine gf_X10_34 hC rfl hK hP 0 rfl rfl dX10_advance_55 ?_
          refine pV hC hK hl hP hD (t_byteAt l G h0 (nI jA) tby kt tln tsp tkd (nI jA) (nI jA) tf9 fby) si_X10_78 [0, 1] rfl rfl (by decide) rfl rfl rfl rfl rfl (Nat.le_of_ble_eq_true rfl) ⟨Nat.le_of_ble_eq_true rfl, Nat.le_of_ble_eq_true rfl⟩ ⟨by first | exact Nat.le_of_ble_eq_true rfl | exact Nat.zero_le _, by first | exact Nat.le_of_ble_eq_true rfl | exact Nat.zero_le _⟩ dX10_advance_58 (fun r2741 hr2741 => ?_)
          refine pS hC hK hl (t_letter l G r2741) si_X10_82 rfl rfl (Nat.le_of_ble_eq_true rfl) ⟨Nat.le_of_ble_eq_true rfl, Nat.le_of_ble_eq_true rfl⟩ ⟨by first | exact Nat.le_of_ble_eq_true rfl | exact Nat.zero_le _, by first | exact Nat.le_of_ble_eq_true rfl | exact Nat.zero_le _⟩ dX10_advance_61 (fun r2742 hr2742 => ?_)
          rcases hr2742 with rfl | rfl
          · refine lv_if_eq (tgt := 111) hx hb dX10_advance_64 (by decide) (fun c9 => absurd c9 (by decide)) (fun _ => ?_)
            refine lv_aload_n hx hb dX10_advance_67 rfl (lv_at hl 0 rfl) ?_
            refine lv_bipush (v := (-2)) hx hb dX10_advance_68 (by decide) ?_
            refine pf_X10_31 hC rfl hK hP hD hS 0 (ws' := [(h0, .inr (10, [.ref tby, .int (nI kt), .ref tln, .ref tsp, .int (-2), .int (nI jA), .int (nI jA), .int tf9])), (tby, .inl (G.2.1, 240, .inl fby))]) rfl (Nat.le_of_ble_eq_true rfl) rfl rfl rfl dX10_advance_70 (fun H locs hP hD hS => ?_)
            have keyB : ∀ (nB jB : Nat) (H : Heap) (locs : List Loc) (ls : Array Slot), kt ≤ jB + nB → jB ≤ 240 → va_P G.1 vwCl [(h0, .inr (10, [.ref tby, .int (nI kt), .ref tln, .ref tsp, .int (-2), .int (nI jA), .int (nI jB), .int tf9])), (tby, .inl (G.2.1, 240, .inl fby))] H → va_D A [(h0, .inr (10, [.ref tby, .int (nI kt), .ref tln, .ref tsp, .int (-2), .int (nI jA), .int (nI jB), .int tf9])), (tby, .inl (G.2.1, 240, .inl fby))] → va_S A s.heap H locs → lv_has ls 1 [(0, .ref h0)] → W p l e (RM 3 0 0) s m ([.ref h0] : List Value).toArray below meth c H locs 0 0 (MQ below (QV G (fun u : Int32 × Nat × Nat => u.2.1 ≤ 240 ∧ u.2.2 ≤ 240) (fun u : Int32 × Nat × Nat => [(h0, .inr (10, [.ref tby, .int (nI kt), .ref tln, .ref tsp, .int u.1, .int (nI u.2.1), .int (nI u.2.2), .int tf9])), (tby, .inl (G.2.1, 240, .inl fby))]) A) ([.ref h0] : List Value).toArray s 0 0 A) (F0 m 73 ls []) := by
              intro nB
              induction nB with
              | zero =>
                intro jB H locs ls hkB hmB hP hD hS hl
                have hzB : nI kt ≤ nI jB := (nI_leI (by omega) (by omega)).mpr (by omega)
                refine lv_aload_n hx hb dX10_advance_73 rfl (lv_at hl 0 rfl) ?_
                refine gf_X10_37 hC rfl hK hP 0 rfl rfl dX10_advance_74 ?_
                refine lv_aload_n hx hb dX10_advance_77 rfl (lv_at hl 0 rfl) ?_
                refine gf_X10_27 hC rfl hK hP 0 rfl rfl dX10_advance_78 ?_
                refine lv_icmp_ge (tgt := 199) hx hb dX10_advance_81 (by decide) (fun _ => ?_) (fun c9 => absurd (hzB) c9)
                exact RV hC hP hD hS [0, 1] ((-2), jA, jB) rfl rfl (by decide) (by dsimp only; omega) dX10_advance_199
              | succ nB ihB =>
                intro jB H locs ls hkB hmB hP hD hS hl
                refine lv_aload_n hx hb dX10_advance_73 rfl (lv_at hl 0 rfl) ?_
                refine gf_X10_37 hC rfl hK hP 0 rfl rfl dX10_advance_74 ?_
                refine lv_aload_n hx hb dX10_advance_77 rfl (lv_at hl 0 rfl) ?_
                refine gf_X10_27 hC rfl hK hP 0 rfl rfl dX10_advance_78 ?_
                refine lv_icmp_ge (tgt := 199) hx hb dX10_advance_81 (by decide) (fun c_81_2744 => ?_) (fun c_81_2744 => ?_)
                · exact RV hC hP hD hS [0, 1] ((-2), jA, jB) rfl rfl (by decide) (by dsimp only; omega) dX10_advance_199
                · refine lv_aload_n hx hb dX10_advance_84 rfl (lv_at hl 0 rfl) ?_
                  refine lv_aload_n hx hb dX10_advance_85 rfl (lv_at hl 0 rfl) ?_
                  refine gf_X10_37 hC rfl hK hP 0 rfl rfl dX10_advance_86 ?_
                  refine pV hC hK hl hP hD (t_byteAt l G h0 (nI jB) tby kt tln tsp (-2) (nI jA) (nI jB) tf9 fby) si_X10_78 [0, 1] rfl rfl (by decide) rfl rfl rfl rfl rfl (Nat.le_of_ble_eq_true rfl) ⟨Nat.le_of_ble_eq_true rfl, Nat.le_of_ble_eq_true rfl⟩ ⟨by first | exact Nat.le_of_ble_eq_true rfl | exact Nat.zero_le _, by first | exact Nat.le_of_ble_eq_true rfl | exact Nat.zero_le _⟩ dX10_advance_89 (fun r2745 hr2745 => ?_)
                  refine pS hC hK hl (t_letter l G r2745) si_X10_82 rfl rfl (Nat.le_of_ble_eq_true rfl) ⟨Nat.le_of_ble_eq_true rfl, Nat.le_of_ble_eq_true rfl⟩ ⟨by first | exact Nat.le_of_ble_eq_true rfl | exact Nat.zero_le _, by first | exact Nat.le_of_ble_eq_true rfl | exact Nat.zero_le _⟩ dX10_advance_92 (fun r2746 hr2746 => ?_)
                  rcases hr2746 with rfl | rfl
                  · refine lv_if_eq (tgt := 199) hx hb dX10_advance_95 (by decide) (fun c9 => absurd c9 (by decide)) (fun _ => ?_)
                    refine lv_aload_n hx hb dX10_advance_98 rfl (lv_at hl 0 rfl) ?_
                    refine lv_dup hx hb dX10_advance_99 rfl ?_
                    refine gf_X10_37 hC rfl hK hP 0 rfl rfl dX10_advance_100 ?_
                    refine lv_iconst (v := 1) hx hb dX10_advance_103 (by decide) ?_
                    refine lv_iadd hx hb dX10_advance_104 ?_
                    refine eqi (x1 := nI (jB + 1)) (nI_1 _) ?_
                    refine pf_X10_37 hC rfl hK hP hD hS 0 (ws' := [(h0, .inr (10, [.ref tby, .int (nI kt), .ref tln, .ref tsp, .int (-2), .int (nI jA), .int (nI (jB + 1)), .int tf9])), (tby, .inl (G.2.1, 240, .inl fby))]) rfl (Nat.le_of_ble_eq_true rfl) rfl rfl rfl dX10_advance_105 (fun H locs hP hD hS => ?_)
                    refine lv_goto (tgt := 73) hx hb dX10_advance_108 (by decide) ?_
                    have hnB9 := nge_nat (R := kt) (k := jB) (by omega) (by omega) c_81_2744
                    exact ihB (jB + 1) _ _ _ (by omega) (by omega) hP hD hS (lv_sub hl [0] rfl)
                  · refine lv_if_eq (tgt := 199) hx hb dX10_advance_95 (by decide) (fun _ => ?_) (fun c9 => absurd (by decide) c9)
                    exact RV hC hP hD hS [0, 1] ((-2), jA, jB) rfl rfl (by decide) (by dsimp only; omega) dX10_advance_199
            exact keyB kt jA _ _ _ (by omega) (by omega) hP hD hS (lv_sub hl [0] rfl)
          · refine lv_if_eq (tgt := 111) hx hb dX10_advance_64 (by decide) (fun _ => ?_) (fun c9 => absurd (by decide) c9)
            refine lv_aload_n hx hb dX10_advance_111 rfl (lv_at hl 0 rfl) ?_
            refine lv_aload_n hx hb dX10_advance_112 rfl (lv_at hl 0 rfl) ?_
            refine gf_X10_34 hC rfl hK hP 0 rfl rfl dX10_advance_113 ?_
            refine pV hC hK hl hP hD (t_byteAt l G h0 (nI jA) tby kt tln tsp tkd (nI jA) (nI jA) tf9 fby) si_X10_78 [0, 1] rfl rfl (by decide) rfl rfl rfl rfl rfl (Nat.le_of_ble_eq_true rfl) ⟨Nat.le_of_ble_eq_true rfl, Nat.le_of_ble_eq_true rfl⟩ ⟨by first | exact Nat.le_of_ble_eq_true rfl | exact Nat.zero_le _, by first | exact Nat.le_of_ble_eq_true rfl | exact Nat.zero_le _⟩ dX10_advance_116 (fun r2748 hr2748 => ?_)
            refine pS hC hK hl (t_digit l G r2748) si_X10_86 rfl rfl (Nat.le_of_ble_eq_true rfl) ⟨Nat.le_of_ble_eq_true rfl, Nat.le_of_ble_eq_true rfl⟩ ⟨by first | exact Nat.le_of_ble_eq_true rfl | exact Nat.zero_le _, by first | exact Nat.le_of_ble_eq_true rfl | exact Nat.zero_le _⟩ dX10_advance_119 (fun r2749 hr2749 => ?_)
            rcases hr2749 with rfl | rfl
            · refine lv_if_eq (tgt := 169) hx hb dX10_advance_122 (by decide) (fun c9 => absurd c9 (by decide)) (fun _ => ?_)
              refine lv_aload_n hx hb dX10_advance_125 rfl (lv_at hl 0 rfl) ?_
              refine lv_bipush (v := (-3)) hx hb dX10_advance_126 (by decide) ?_
              refine pf_X10_31 hC rfl hK hP hD hS 0 (ws' := [(h0, .inr (10, [.ref tby, .int (nI kt), .ref tln, .ref tsp, .int (-3), .int (nI jA), .int (nI jA), .int tf9])), (tby, .inl (G.2.1, 240, .inl fby))]) rfl (Nat.le_of_ble_eq_true rfl) rfl rfl rfl dX10_advance_128 (fun H locs hP hD hS => ?_)
              have keyC : ∀ (nC jC : Nat) (H : Heap) (locs : List Loc) (ls : Array Slot), kt ≤ jC + nC → jC ≤ 240 → va_P G.1 vwCl [(h0, .inr (10, [.ref tby, .int (nI kt), .ref tln, .ref tsp, .int (-3), .int (nI jA), .int (nI jC), .int tf9])), (tby, .inl (G.2.1, 240, .inl fby))] H → va_D A [(h0, .inr (10, [.ref tby, .int (nI kt), .ref tln, .ref tsp, .int (-3), .int (nI jA), .int (nI jC), .int tf9])), (tby, .inl (G.2.1, 240, .inl fby))] → va_S A s.heap H locs → lv_has ls 1 [(0, .ref h0)] → W p l e (RM 3 0 0) s m ([.ref h0] : List Value).toArray below meth c H locs 0 0 (MQ below (QV G (fun u : Int32 × Nat × Nat => u.2.1 ≤ 240 ∧ u.2.2 ≤ 240) (fun u : Int32 × Nat × Nat => [(h0, .inr (10, [.ref tby, .int (nI kt), .ref tln, .ref tsp, .int u.1, .int (nI u.2.1), .int (nI u.2.2), .int tf9])), (tby, .inl (G.2.1, 240, .inl fby))]) A) ([.ref h0] : List Value).toArray s 0 0 A) (F0 m 131 ls []) := by
                intro nC
                induction nC with
                | zero =>
                  intro jC H locs ls hkC hmC hP hD hS hl
                  have hzC : nI kt ≤ nI jC := (nI_leI (by omega) (by omega)).mpr (by omega)
                  refine lv_aload_n hx hb dX10_advance_131 rfl (lv_at hl 0 rfl) ?_
                  refine gf_X10_37 hC rfl hK hP 0 rfl rfl dX10_advance_132 ?_
                  refine lv_aload_n hx hb dX10_advance_135 rfl (lv_at hl 0 rfl) ?_
                  refine gf_X10_27 hC rfl hK hP 0 rfl rfl dX10_advance_136 ?_
                  refine lv_icmp_ge (tgt := 199) hx hb dX10_advance_139 (by decide) (fun _ => ?_) (fun c9 => absurd (hzC) c9)
                  exact RV hC hP hD hS [0, 1] ((-3), jA, jC) rfl rfl (by decide) (by dsimp only; omega) dX10_advance_199
                | succ nC ihC =>
                  intro jC H locs ls hkC hmC hP hD hS hl
                  refine lv_aload_n hx hb dX10_advance_131 rfl (lv_at hl 0 rfl) ?_
                  refine gf_X10_37 hC rfl hK hP 0 rfl rfl dX10_advance_132 ?_
                  refine lv_aload_n hx hb dX10_advance_135 rfl (lv_at hl 0 rfl) ?_
                  refine gf_X10_27 hC rfl hK hP 0 rfl rfl dX10_advance_136 ?_
                  refine lv_icmp_ge (tgt := 199) hx hb dX10_advance_139 (by decide) (fun c_139_2751 => ?_) (fun c_139_2751 => ?_)
                  · exact RV hC hP hD hS [0, 1] ((-3), jA, jC) rfl rfl (by decide) (by dsimp only; omega) dX10_advance_199
                  · refine lv_aload_n hx hb dX10_advance_142 rfl (lv_at hl 0 rfl) ?_
                    refine lv_aload_n hx hb dX10_advance_143 rfl (lv_at hl 0 rfl) ?_
                    refine gf_X10_37 hC rfl hK hP 0 rfl rfl dX10_advance_144 ?_
                    refine pV hC hK hl hP hD (t_byteAt l G h0 (nI jC) tby kt tln tsp (-3) (nI jA) (nI jC) tf9 fby) si_X10_78 [0, 1] rfl rfl (by decide) rfl rfl rfl rfl rfl (Nat.le_of_ble_eq_true rfl) ⟨Nat.le_of_ble_eq_true rfl, Nat.le_of_ble_eq_true rfl⟩ ⟨by first | exact Nat.le_of_ble_eq_true rfl | exact Nat.zero_le _, by first | exact Nat.le_of_ble_eq_true rfl | exact Nat.zero_le _⟩ dX10_advance_147 (fun r2752 hr2752 => ?_)
                    refine pS hC hK hl (t_digit l G r2752) si_X10_86 rfl rfl (Nat.le_of_ble_eq_true rfl) ⟨Nat.le_of_ble_eq_true rfl, Nat.le_of_ble_eq_true rfl⟩ ⟨by first | exact Nat.le_of_ble_eq_true rfl | exact Nat.zero_le _, by first | exact Nat.le_of_ble_eq_true rfl | exact Nat.zero_le _⟩ dX10_advance_150 (fun r2753 hr2753 => ?_)
                    rcases hr2753 with rfl | rfl
                    · refine lv_if_eq (tgt := 199) hx hb dX10_advance_153 (by decide) (fun c9 => absurd c9 (by decide)) (fun _ => ?_)
                      refine lv_aload_n hx hb dX10_advance_156 rfl (lv_at hl 0 rfl) ?_
                      refine lv_dup hx hb dX10_advance_157 rfl ?_
                      refine gf_X10_37 hC rfl hK hP 0 rfl rfl dX10_advance_158 ?_
                      refine lv_iconst (v := 1) hx hb dX10_advance_161 (by decide) ?_
                      refine lv_iadd hx hb dX10_advance_162 ?_
                      refine eqi (x1 := nI (jC + 1)) (nI_1 _) ?_
                      refine pf_X10_37 hC rfl hK hP hD hS 0 (ws' := [(h0, .inr (10, [.ref tby, .int (nI kt), .ref tln, .ref tsp, .int (-3), .int (nI jA), .int (nI (jC + 1)), .int tf9])), (tby, .inl (G.2.1, 240, .inl fby))]) rfl (Nat.le_of_ble_eq_true rfl) rfl rfl rfl dX10_advance_163 (fun H locs hP hD hS => ?_)
                      refine lv_goto (tgt := 131) hx hb dX10_advance_166 (by decide) ?_
                      have hnC9 := nge_nat (R := kt) (k := jC) (by omega) (by omega) c_139_2751
                      exact ihC (jC + 1) _ _ _ (by omega) (by omega) hP hD hS (lv_sub hl [0] rfl)
                    · refine lv_if_eq (tgt := 199) hx hb dX10_advance_153 (by decide) (fun _ => ?_) (fun c9 => absurd (by decide) c9)
                      exact RV hC hP hD hS [0, 1] ((-3), jA, jC) rfl rfl (by decide) (by dsimp only; omega) dX10_advance_199
              exact keyC kt jA _ _ _ (by omega) (by omega) hP hD hS (lv_sub hl [0] rfl)
            · refine lv_if_eq (tgt := 169) hx hb dX10_advance_122 (by decide) (fun _ => ?_) (fun c9 => absurd (by decide) c9)
              refine lv_aload_n hx hb dX10_advance_169 rfl (lv_at hl 0 rfl) ?_
              refine lv_aload_n hx hb dX10_advance_170 rfl (lv_at hl 0 rfl) ?_
              refine lv_aload_n hx hb dX10_advance_171 rfl (lv_at hl 0 rfl) ?_
              refine gf_X10_34 hC rfl hK hP 0 rfl rfl dX10_advance_172 ?_
              refine pV hC hK hl hP hD (t_byteAtN l G h0 jA tby kt tln tsp tkd (nI jA) (nI jA) tf9 fby (by omega)) si_X10_78 [0, 1] rfl rfl (by decide) rfl rfl rfl rfl rfl (Nat.le_of_ble_eq_true rfl) ⟨Nat.le_of_ble_eq_true rfl, Nat.le_of_ble_eq_true rfl⟩ ⟨by first | exact Nat.le_of_ble_eq_true rfl | exact Nat.zero_le _, by first | exact Nat.le_of_ble_eq_true rfl | exact Nat.zero_le _⟩ dX10_advance_175 (fun r2755 hr2755 => ?_)
              rcases hr2755 with rfl | ⟨rfl, a2756⟩
              · refine pf_X10_31 hC rfl hK hP hD hS 0 (ws' := [(h0, .inr (10, [.ref tby, .int (nI kt), .ref tln, .ref tsp, .int (-1), .int (nI jA), .int (nI jA), .int tf9])), (tby, .inl (G.2.1, 240, .inl fby))]) rfl (Nat.le_of_ble_eq_true rfl) rfl rfl rfl dX10_advance_178 (fun H locs hP hD hS => ?_)
                refine lv_aload_n hx hb dX10_advance_181 rfl (lv_at hl 0 rfl) ?_
                refine gf_X10_31 hC rfl hK hP 0 rfl rfl dX10_advance_182 ?_
                refine lv_iconst (v := (-1)) hx hb dX10_advance_185 (by decide) ?_
                refine lv_icmp_eq (tgt := 199) hx hb dX10_advance_186 (by decide) (fun _ => ?_) (fun c9 => absurd (by decide) c9)
                exact RV hC hP hD hS [0, 1] ((-1), jA, jA) rfl rfl (by decide) (by dsimp only; omega) dX10_advance_199
              · refine pf_X10_31 hC rfl hK hP hD hS 0 (ws' := [(h0, .inr (10, [.ref tby, .int (nI kt), .ref tln, .ref tsp, .int (fby jA), .int (nI jA), .int (nI jA), .int tf9])), (tby, .inl (G.2.1, 240, .inl fby))]) rfl (Nat.le_of_ble_eq_true rfl) rfl rfl rfl dX10_advance_178 (fun H locs hP hD hS => ?_)
                refine lv_aload_n hx hb dX10_advance_181 rfl (lv_at hl 0 rfl) ?_
                refine gf_X10_31 hC rfl hK hP 0 rfl rfl dX10_advance_182 ?_
                refine lv_iconst (v := (-1)) hx hb dX10_advance_185 (by decide) ?_
                refine lv_icmp_eq (tgt := 199) hx hb dX10_advance_186 (by decide) (fun c_186_2757 => ?_) (fun c_186_2757 => ?_)
                · exact RV hC hP hD hS [0, 1] ((fby jA), jA, jA) rfl rfl (by decide) (by dsimp only; omega) dX10_advance_199
                · refine lv_aload_n hx hb dX10_advance_189 rfl (lv_at hl 0 rfl) ?_
                  refine lv_dup hx hb dX10_advance_190 rfl ?_
                  refine gf_X10_37 hC rfl hK hP 0 rfl rfl dX10_advance_191 ?_
                  refine lv_iconst (v := 1) hx hb dX10_advance_194 (by decide) ?_
                  refine lv_iadd hx hb dX10_advance_195 ?_
                  refine eqi (x1 := nI (jA + 1)) (nI_1 _) ?_
                  refine pf_X10_37 hC rfl hK hP hD hS 0 (ws' := [(h0, .inr (10, [.ref tby, .int (nI kt), .ref tln, .ref tsp, .int (fby jA), .int (nI jA), .int (nI (jA + 1)), .int tf9])), (tby, .inl (G.2.1, 240, .inl fby))]) rfl (Nat.le_of_ble_eq_true rfl) rfl rfl rfl dX10_advance_196 (fun H locs hP hD hS => ?_)
                  exact RV hC hP hD hS [0, 1] ((fby jA), jA, (jA + 1)) rfl rfl (by decide) (by dsimp only; omega) dX10_advance_199
        · refine lv_aload_n hx hb dX10_advance_32 rfl (lv_at hl 0 rfl) ?_
          refine lv_dup hx hb dX10_advance_33 rfl ?_
          refine gf_X10_34 hC rfl hK hP 0 rfl rfl dX10_advance_34 ?_
          refine lv_iconst (v := 1) hx hb dX10_advance_37 (by decide) ?_
          refine lv_iadd hx hb dX10_advance_38 ?_
          refine eqi (x1 := nI (jA + 1)) (nI_1 _) ?_
          refine pf_X10_34 hC rfl hK hP hD hS 0 (ws' := [(h0, .inr (10, [.ref tby, .int (nI kt), .ref tln, .ref tsp, .int tkd, .int (nI (jA + 1)), .int (nI kn), .int tf9])), (tby, .inl (G.2.1, 240, .inl fby))]) rfl (Nat.le_of_ble_eq_true rfl) rfl rfl rfl dX10_advance_39 (fun H locs hP hD hS => ?_)
          refine lv_goto (tgt := 8) hx hb dX10_advance_42 (by decide) ?_
          have hnA9 := nge_nat (R := kt) (k := jA) (by omega) (by omega) c_16_2721
          exact ihA (jA + 1) _ _ _ (by omega) (by omega) hP hD hS (lv_sub hl [0] rfl)
  exact keyA kt kn _ _ _ (by omega) (by omega) hP hD hS (lv_sub hl [0] rfl)
set_option maxHeartbeats 4000000 in
set_option maxRecDepth 100000 in
theorem t_isName (l : Launch) (G : GG) (K : OO) (i9 : Nat) (h0 : Nat) (tby : Nat) (kt : Nat) (tln : Nat) (tsp : Nat) (tkd : Int32) (ks : Nat) (kn : Nat) (tf9 : Int32) (fby : Nat → Int32) (hkt : kt ≤ 240) (hks : ks ≤ 240) (hkn : kn ≤ 240) (hi9 : i9 < 16) : MPo l G K yX10_isName cX10_isName 3 (some .boolean) 6 [.ref h0, .ref (K.1 i9)] [(h0, .inr (10, [.ref tby, .int (nI kt), .ref tln, .ref tsp, .int tkd, .int (nI ks), .int (nI kn), .int tf9])), (tby, .inl (G.2.1, 240, .inl fby))] (fun r : Int32 => r = 1 ∨ r = 0) := by
  refine MPo.start (by decide +kernel) (Nat.le_of_ble_eq_true rfl) ?_
  intro p e s m below meth c ls hC hK hP hD hl hO hS
  have hl : lv_has ls 3 [(0, .ref h0), (1, .ref (K.1 i9))] := hl
  obtain ⟨hx, hb, hr, hml, hB, hown, hlocks, hnm⟩ := id hC
  have hs6 := slen6 i9 hi9
  refine lv_aload_n hx hb dX10_isName_0 rfl (lv_at hl 0 rfl) ?_
  refine gf_X10_31 hC rfl hK hP 0 rfl rfl dX10_isName_1 ?_
  refine lv_bipush (v := (-2)) hx hb dX10_isName_4 (by decide) ?_
  refine lv_icmp_ne (tgt := 25) hx hb dX10_isName_6 (by decide) (fun c_6_2758 => ?_) (fun c_6_2758 => ?_)
  · refine lv_iconst (v := 0) hx hb dX10_isName_25 (by decide) ?_
    exact RP (v := 0) hC (Or.inr (rfl)) (by decide +kernel) dX10_isName_26
  · refine lv_aload_n hx hb dX10_isName_9 rfl (lv_at hl 0 rfl) ?_
    refine gf_X10_37 hC rfl hK hP 0 rfl rfl dX10_isName_10 ?_
    refine lv_aload_n hx hb dX10_isName_13 rfl (lv_at hl 0 rfl) ?_
    refine gf_X10_34 hC rfl hK hP 0 rfl rfl dX10_isName_14 ?_
    refine lv_isub hx hb dX10_isName_17 ?_
    refine lv_aload_n hx hb dX10_isName_18 rfl (lv_at hl 1 rfl) ?_
    refine pTo (i := i9) (hi9) hO hS hC hK hl (j_len l G K i9 ((hi9))) si_X10_93 rfl rfl (Nat.le_of_ble_eq_true rfl) ⟨Nat.le_of_ble_eq_true rfl, Nat.le_of_ble_eq_true rfl⟩ ⟨by first | exact Nat.le_of_ble_eq_true rfl | exact Nat.zero_le _, by first | exact Nat.le_of_ble_eq_true rfl | exact Nat.zero_le _⟩ dX10_isName_19 (fun r2759 hr2759 => ?_)
    obtain rfl := hr2759
    refine lv_icmp_eq (tgt := 27) hx hb dX10_isName_22 (by decide) (fun c_22_2761 => ?_) (fun c_22_2761 => ?_)
    · refine lv_iconst (v := 0) hx hb dX10_isName_27 (by decide) ?_
      refine lv_istore_n (lv' := [(2, .int 0), (0, .ref h0), (1, .ref (K.1 i9))]) hx hb dX10_isName_28 rfl hl (by decide) rfl (fun ls hl => ?_)
      have keyP : ∀ (nP kP : Nat) (ls : Array Slot), kP + nP = (SLEN.getD i9 0) → lv_has ls 3 [(2, .int (nI kP)), (0, .ref h0), (1, .ref (K.1 i9))] → W p l e (RM 6 0 0) s m ([.ref h0, .ref (K.1 i9)] : List Value).toArray below meth c s.heap [] 0 0 (MQ below (QP (fun r : Int32 => r = 1 ∨ r = 0)) ([.ref h0, .ref (K.1 i9)] : List Value).toArray s 0 0 (fun _ => False)) (F0 m 29 ls []) := by
        intro nP
        induction nP with
        | zero =>
          intro kP ls hkP hl
          obtain rfl : (SLEN.getD i9 0) = kP := by omega
          have hl : lv_has ls 3 [(2, .int (nI (SLEN.getD i9 0))), (0, .ref h0), (1, .ref (K.1 i9))] := hl
          refine lv_iload_n hx hb dX10_isName_29 rfl (lv_at hl 0 rfl) ?_
          refine lv_aload_n hx hb dX10_isName_30 rfl (lv_at hl 2 rfl) ?_
          refine pTo (i := i9) (hi9) hO hS hC hK hl (j_len l G K i9 ((hi9))) si_X10_93 rfl rfl (Nat.le_of_ble_eq_true rfl) ⟨Nat.le_of_ble_eq_true rfl, Nat.le_of_ble_eq_true rfl⟩ ⟨by first | exact Nat.le_of_ble_eq_true rfl | exact Nat.zero_le _, by first | exact Nat.le_of_ble_eq_true rfl | exact Nat.zero_le _⟩ dX10_isName_31 (fun r2762 hr2762 => ?_)
          obtain rfl := hr2762
          refine lv_icmp_ge (tgt := 63) hx hb dX10_isName_34 (by decide) (fun _ => ?_) (fun c9 => absurd (Int32.le_refl _) c9)
          refine lv_iconst (v := 1) hx hb dX10_isName_63 (by decide) ?_
          exact RP (v := 1) hC (Or.inl (rfl)) (by decide +kernel) dX10_isName_64
        | succ nP ihP =>
          intro kP ls hkP hl
          refine lv_iload_n hx hb dX10_isName_29 rfl (lv_at hl 0 rfl) ?_
          refine lv_aload_n hx hb dX10_isName_30 rfl (lv_at hl 2 rfl) ?_
          refine pTo (i := i9) (hi9) hO hS hC hK hl (j_len l G K i9 ((hi9))) si_X10_93 rfl rfl (Nat.le_of_ble_eq_true rfl) ⟨Nat.le_of_ble_eq_true rfl, Nat.le_of_ble_eq_true rfl⟩ ⟨by first | exact Nat.le_of_ble_eq_true rfl | exact Nat.zero_le _, by first | exact Nat.le_of_ble_eq_true rfl | exact Nat.zero_le _⟩ dX10_isName_31 (fun r2764 hr2764 => ?_)
          obtain rfl := hr2764
          refine lv_icmp_ge (tgt := 63) hx hb dX10_isName_34 (by decide) (fun c9 => absurd c9 (nI_ge (a := kP) (b := (SLEN.getD i9 0)) (by omega) (by omega))) (fun _ => ?_)
          refine lv_aload_n hx hb dX10_isName_37 rfl (lv_at hl 1 rfl) ?_
          refine lv_aload_n hx hb dX10_isName_38 rfl (lv_at hl 1 rfl) ?_
          refine gf_X10_34 hC rfl hK hP 0 rfl rfl dX10_isName_39 ?_
          refine lv_iload_n hx hb dX10_isName_42 rfl (lv_at hl 0 rfl) ?_
          refine lv_iadd hx hb dX10_isName_43 ?_
          refine pV hC hK hl hP hD (t_byteAt l G h0 ((nI ks) + (nI kP)) tby kt tln tsp tkd (nI ks) (nI kn) tf9 fby) si_X10_78 [0, 1] rfl rfl (by decide) rfl rfl rfl rfl rfl (Nat.le_of_ble_eq_true rfl) ⟨Nat.le_of_ble_eq_true rfl, Nat.le_of_ble_eq_true rfl⟩ ⟨by first | exact Nat.le_of_ble_eq_true rfl | exact Nat.zero_le _, by first | exact Nat.le_of_ble_eq_true rfl | exact Nat.zero_le _⟩ dX10_isName_44 (fun r2766 hr2766 => ?_)
          refine lv_aload_n hx hb dX10_isName_47 rfl (lv_at hl 2 rfl) ?_
          refine lv_iload_n hx hb dX10_isName_48 rfl (lv_at hl 0 rfl) ?_
          refine pTo (i := i9) (hi9) hO hS hC hK hl (j_chr l G K i9 kP ((hi9)) (by omega)) si_X10_98 rfl rfl (Nat.le_of_ble_eq_true rfl) ⟨Nat.le_of_ble_eq_true rfl, Nat.le_of_ble_eq_true rfl⟩ ⟨by first | exact Nat.le_of_ble_eq_true rfl | exact Nat.zero_le _, by first | exact Nat.le_of_ble_eq_true rfl | exact Nat.zero_le _⟩ dX10_isName_49 (fun r2767 hr2767 => ?_)
          obtain rfl := hr2767
          refine lv_icmp_eq (tgt := 57) hx hb dX10_isName_52 (by decide) (fun c_52_2769 => ?_) (fun c_52_2769 => ?_)
          · refine lv_iinc (v := nI (kP + 1)) (lv' := [(2, .int (nI (kP + 1))), (0, .ref h0), (1, .ref (K.1 i9))]) hx hb dX10_isName_57 hl (k := 0) rfl (nI_1 _) (by decide) rfl (fun ls hl => ?_)
            refine lv_goto (tgt := 29) hx hb dX10_isName_60 (by decide) ?_
            exact ihP (kP + 1) _ (by omega) (lv_sub hl [0, 1, 2] rfl)
          · refine lv_iconst (v := 0) hx hb dX10_isName_55 (by decide) ?_
            exact RP (v := 0) hC (Or.inr (rfl)) (by decide +kernel) dX10_isName_56
      exact keyP (SLEN.getD i9 0) 0 _ (by omega) (lv_sub hl [0, 1, 2] rfl)
    · refine lv_iconst (v := 0) hx hb dX10_isName_25 (by decide) ?_
      exact RP (v := 0) hC (Or.inr (rfl)) (by decide +kernel) dX10_isName_26
set_option maxHeartbeats 4000000 in
set_option maxRecDepth 100000 in
theorem t_takesName (l : Launch) (G : GG) (K : OO) (i9 : Nat) (h0 : Nat) (tby : Nat) (kt : Nat) (tln : Nat) (tsp : Nat) (tkd : Int32) (ks : Nat) (kn : Nat) (tf9 : Int32) (fby : Nat → Int32) (hkt : kt ≤ 240) (hks : ks ≤ 240) (hkn : kn ≤ 240) (hi9 : i9 < 16) : MIo l G K yX10_takesName cX10_takesName 2 (some .boolean) 7 0 0 [.ref h0, .ref (K.1 i9)] [(h0, .inr (10, [.ref tby, .int (nI kt), .ref tln, .ref tsp, .int tkd, .int (nI ks), .int (nI kn), .int tf9])), (tby, .inl (G.2.1, 240, .inl fby))] (fun (r : Int32) (u : Int32 × Nat × Nat × Int32) => (r = 1 ∨ r = 0) ∧ (u.2.1 ≤ 240 ∧ u.2.2.1 ≤ 240)) (fun u : Int32 × Nat × Nat × Int32 => [(h0, .inr (10, [.ref tby, .int (nI kt), .ref tln, .ref tsp, .int u.1, .int (nI u.2.1), .int (nI u.2.2.1), .int u.2.2.2])), (tby, .inl (G.2.1, 240, .inl fby))]) := by
  refine MIo.start (by decide +kernel) (Nat.le_of_ble_eq_true rfl) ?_
  intro p e s m below meth c A ls hC hK hP hD hS hA hl hO
  have hl : lv_has ls 2 [(0, .ref h0), (1, .ref (K.1 i9))] := hl
  obtain ⟨hx, hb, hr, hml, hB, hown, hlocks, hnm⟩ := id hC
  refine lv_aload_n hx hb dX10_takesName_0 rfl (lv_at hl 0 rfl) ?_
  refine lv_aload_n hx hb dX10_takesName_1 rfl (lv_at hl 1 rfl) ?_
  refine pVo hO hS hC hK hl hP hD (t_isName l G K i9 h0 tby kt tln tsp tkd ks kn tf9 fby (by omega) (by omega) (by omega) ((hi9))) si_X10_102 [0, 1] rfl rfl (by decide) rfl rfl rfl rfl rfl (Nat.le_of_ble_eq_true rfl) ⟨Nat.le_of_ble_eq_true rfl, Nat.le_of_ble_eq_true rfl⟩ ⟨by first | exact Nat.le_of_ble_eq_true rfl | exact Nat.zero_le _, by first | exact Nat.le_of_ble_eq_true rfl | exact Nat.zero_le _⟩ dX10_takesName_2 (fun r2770 hr2770 => ?_)
  rcases hr2770 with rfl | rfl
  · refine lv_if_ne (tgt := 13) hx hb dX10_takesName_5 (by decide) (fun _ => ?_) (fun c9 => absurd c9 (by decide))
    refine lv_aload_n hx hb dX10_takesName_13 rfl (lv_at hl 0 rfl) ?_
    refine vV (wr := []) hC hK hl hP hD hS hA (t_advance l G h0 tby kt tln tsp tkd ks kn tf9 fby (by omega) (by omega) (by omega)) si_X10_47 [0, 1] [] rfl rfl (by decide) rfl (by decide) (by decide) rfl rfl rfl rfl rfl (Nat.le_of_ble_eq_true rfl) ⟨Nat.le_of_ble_eq_true rfl, Nat.le_of_ble_eq_true rfl⟩ ⟨Nat.le_of_ble_eq_true rfl, Nat.le_of_ble_eq_true rfl⟩ dX10_takesName_14 (fun u2773 H locs hr2772 hP hD hS => ?_)
    obtain ⟨kd12774, ks12775, kn12776⟩ := u2773
    try dsimp only at hr2772
    have hP : va_P G.1 vwCl [(h0, .inr (10, [.ref tby, .int (nI kt), .ref tln, .ref tsp, .int kd12774, .int (nI ks12775), .int (nI kn12776), .int tf9])), (tby, .inl (G.2.1, 240, .inl fby))] H := hP
    have hD : va_D A [(h0, .inr (10, [.ref tby, .int (nI kt), .ref tln, .ref tsp, .int kd12774, .int (nI ks12775), .int (nI kn12776), .int tf9])), (tby, .inl (G.2.1, 240, .inl fby))] := hD
    have w2777 := hr2772
    refine lv_iconst (v := 1) hx hb dX10_takesName_17 (by decide) ?_
    exact RI (v := 1) hC hP hD hS [0, 1] (kd12774, ks12775, kn12776, tf9) rfl rfl (by decide) (⟨Or.inl (rfl), by dsimp only; omega⟩) (by decide +kernel) dX10_takesName_18
  · refine lv_if_ne (tgt := 13) hx hb dX10_takesName_5 (by decide) (fun c9 => absurd (by decide) c9) (fun _ => ?_)
    refine lv_aload_n hx hb dX10_takesName_8 rfl (lv_at hl 0 rfl) ?_
    refine iV (wr := [(tby, .inl (G.2.1, 240, .inl fby))]) hC hK hl hP hD hS hA (t_refuse l G h0 tby kt tln tsp tkd ks kn tf9) si_X10_106 [0] [1] rfl rfl (by decide) rfl (by decide) (by decide) rfl rfl rfl rfl rfl (Nat.le_of_ble_eq_true rfl) ⟨Nat.le_of_ble_eq_true rfl, Nat.le_of_ble_eq_true rfl⟩ ⟨Nat.le_of_ble_eq_true rfl, Nat.le_of_ble_eq_true rfl⟩ dX10_takesName_9 (fun r2778 u2779 H locs hr2778 hP hD hS => ?_)
    obtain ⟨tf12780, rfl⟩ : ∃ z9, z9 = u2779 := ⟨_, rfl⟩
    try dsimp only at hr2778
    have hP : va_P G.1 vwCl [(tby, .inl (G.2.1, 240, .inl fby)), (h0, .inr (10, [.ref tby, .int (nI kt), .ref tln, .ref tsp, .int tkd, .int (nI ks), .int (nI kn), .int tf12780]))] H := hP
    have hD : va_D A [(tby, .inl (G.2.1, 240, .inl fby)), (h0, .inr (10, [.ref tby, .int (nI kt), .ref tln, .ref tsp, .int tkd, .int (nI ks), .int (nI kn), .int tf12780]))] := hD
    obtain rfl := hr2778
    exact RI (v := 0) hC hP hD hS [1, 0] (tkd, ks, kn, tf12780) rfl rfl (by decide) (⟨Or.inr (rfl), by dsimp only; omega⟩) (by decide +kernel) dX10_takesName_12
set_option maxHeartbeats 4000000 in
set_option maxRecDepth 100000 in
theorem t_takesByte (l : Launch) (G : GG) (h0 : Nat) (b9 : Int32) (tby : Nat) (kt : Nat) (tln : Nat) (tsp : Nat) (tkd : Int32) (ks : Nat) (kn : Nat) (tf9 : Int32) (fby : Nat → Int32) (hkt : kt ≤ 240) (hks : ks ≤ 240) (hkn : kn ≤ 240) : MI l G yX10_takesByte cX10_takesByte 2 (some .boolean) 4 0 0 [.ref h0, .int b9] [(h0, .inr (10, [.ref tby, .int (nI kt), .ref tln, .ref tsp, .int tkd, .int (nI ks), .int (nI kn), .int tf9])), (tby, .inl (G.2.1, 240, .inl fby))] (fun (r : Int32) (u : Int32 × Nat × Nat × Int32) => (r = 1 ∨ r = 0) ∧ (u.2.1 ≤ 240 ∧ u.2.2.1 ≤ 240)) (fun u : Int32 × Nat × Nat × Int32 => [(h0, .inr (10, [.ref tby, .int (nI kt), .ref tln, .ref tsp, .int u.1, .int (nI u.2.1), .int (nI u.2.2.1), .int u.2.2.2])), (tby, .inl (G.2.1, 240, .inl fby))]) := by
  refine MI.start (by decide +kernel) (Nat.le_of_ble_eq_true rfl) ?_
  intro p e s m below meth c A ls hC hK hP hD hS hA hl
  have hl : lv_has ls 2 [(0, .ref h0), (1, .int b9)] := hl
  obtain ⟨hx, hb, hr, hml, hB, hown, hlocks, hnm⟩ := id hC
  refine lv_aload_n hx hb dX10_takesByte_0 rfl (lv_at hl 0 rfl) ?_
  refine gf_X10_31 hC rfl hK hP 0 rfl rfl dX10_takesByte_1 ?_
  refine lv_iload_n hx hb dX10_takesByte_4 rfl (lv_at hl 1 rfl) ?_
  refine lv_icmp_eq (tgt := 13) hx hb dX10_takesByte_5 (by decide) (fun c_5_2782 => ?_) (fun c_5_2782 => ?_)
  · refine lv_aload_n hx hb dX10_takesByte_13 rfl (lv_at hl 0 rfl) ?_
    refine vV (wr := []) hC hK hl hP hD hS hA (t_advance l G h0 tby kt tln tsp tkd ks kn tf9 fby (by omega) (by omega) (by omega)) si_X10_47 [0, 1] [] rfl rfl (by decide) rfl (by decide) (by decide) rfl rfl rfl rfl rfl (Nat.le_of_ble_eq_true rfl) ⟨Nat.le_of_ble_eq_true rfl, Nat.le_of_ble_eq_true rfl⟩ ⟨Nat.le_of_ble_eq_true rfl, Nat.le_of_ble_eq_true rfl⟩ dX10_takesByte_14 (fun u2784 H locs hr2783 hP hD hS => ?_)
    obtain ⟨kd12785, ks12786, kn12787⟩ := u2784
    try dsimp only at hr2783
    have hP : va_P G.1 vwCl [(h0, .inr (10, [.ref tby, .int (nI kt), .ref tln, .ref tsp, .int kd12785, .int (nI ks12786), .int (nI kn12787), .int tf9])), (tby, .inl (G.2.1, 240, .inl fby))] H := hP
    have hD : va_D A [(h0, .inr (10, [.ref tby, .int (nI kt), .ref tln, .ref tsp, .int kd12785, .int (nI ks12786), .int (nI kn12787), .int tf9])), (tby, .inl (G.2.1, 240, .inl fby))] := hD
    have w2788 := hr2783
    refine lv_iconst (v := 1) hx hb dX10_takesByte_17 (by decide) ?_
    exact RI (v := 1) hC hP hD hS [0, 1] (kd12785, ks12786, kn12787, tf9) rfl rfl (by decide) (⟨Or.inl (rfl), by dsimp only; omega⟩) (by decide +kernel) dX10_takesByte_18
  · refine lv_aload_n hx hb dX10_takesByte_8 rfl (lv_at hl 0 rfl) ?_
    refine iV (wr := [(tby, .inl (G.2.1, 240, .inl fby))]) hC hK hl hP hD hS hA (t_refuse l G h0 tby kt tln tsp tkd ks kn tf9) si_X10_106 [0] [1] rfl rfl (by decide) rfl (by decide) (by decide) rfl rfl rfl rfl rfl (Nat.le_of_ble_eq_true rfl) ⟨Nat.le_of_ble_eq_true rfl, Nat.le_of_ble_eq_true rfl⟩ ⟨Nat.le_of_ble_eq_true rfl, Nat.le_of_ble_eq_true rfl⟩ dX10_takesByte_9 (fun r2789 u2790 H locs hr2789 hP hD hS => ?_)
    obtain ⟨tf12791, rfl⟩ : ∃ z9, z9 = u2790 := ⟨_, rfl⟩
    try dsimp only at hr2789
    have hP : va_P G.1 vwCl [(tby, .inl (G.2.1, 240, .inl fby)), (h0, .inr (10, [.ref tby, .int (nI kt), .ref tln, .ref tsp, .int tkd, .int (nI ks), .int (nI kn), .int tf12791]))] H := hP
    have hD : va_D A [(tby, .inl (G.2.1, 240, .inl fby)), (h0, .inr (10, [.ref tby, .int (nI kt), .ref tln, .ref tsp, .int tkd, .int (nI ks), .int (nI kn), .int tf12791]))] := hD
    obtain rfl := hr2789
    exact RI (v := 0) hC hP hD hS [1, 0] (tkd, ks, kn, tf12791) rfl rfl (by decide) (⟨Or.inr (rfl), by dsimp only; omega⟩) (by decide +kernel) dX10_takesByte_12
set_option maxHeartbeats 4000000 in
set_option maxRecDepth 100000 in
theorem t_numberHere (l : Launch) (G : GG) (h0 : Nat) (tby : Nat) (kt : Nat) (tln : Nat) (tsp : Nat) (tkd : Int32) (ks : Nat) (kn : Nat) (tf9 : Int32) (fby : Nat → Int32) (hkt : kt ≤ 240) (hks : ks ≤ 240) (hkn : kn ≤ 240) : MP l G yX10_numberHere cX10_numberHere 3 (some .int) 3 [.ref h0] [(h0, .inr (10, [.ref tby, .int (nI kt), .ref tln, .ref tsp, .int tkd, .int (nI ks), .int (nI kn), .int tf9])), (tby, .inl (G.2.1, 240, .inl fby))] (fun r : Int32 => True) := by
  refine MP.start (by decide +kernel) (Nat.le_of_ble_eq_true rfl) ?_
  intro p e s m below meth c ls hC hK hP hD hl
  have hl : lv_has ls 3 [(0, .ref h0)] := hl
  obtain ⟨hx, hb, hr, hml, hB, hown, hlocks, hnm⟩ := id hC
  refine lv_aload_n hx hb dX10_numberHere_0 rfl (lv_at hl 0 rfl) ?_
  refine gf_X10_31 hC rfl hK hP 0 rfl rfl dX10_numberHere_1 ?_
  refine lv_bipush (v := (-3)) hx hb dX10_numberHere_4 (by decide) ?_
  refine lv_icmp_ne (tgt := 22) hx hb dX10_numberHere_6 (by decide) (fun c_6_2793 => ?_) (fun c_6_2793 => ?_)
  · refine lv_iconst (v := (-1)) hx hb dX10_numberHere_22 (by decide) ?_
    exact RP (v := (-1)) hC (trivial) rfl dX10_numberHere_23
  · refine lv_aload_n hx hb dX10_numberHere_9 rfl (lv_at hl 0 rfl) ?_
    refine gf_X10_37 hC rfl hK hP 0 rfl rfl dX10_numberHere_10 ?_
    refine lv_aload_n hx hb dX10_numberHere_13 rfl (lv_at hl 0 rfl) ?_
    refine gf_X10_34 hC rfl hK hP 0 rfl rfl dX10_numberHere_14 ?_
    refine lv_isub hx hb dX10_numberHere_17 ?_
    refine lv_iconst (v := 3) hx hb dX10_numberHere_18 (by decide) ?_
    refine lv_icmp_le (tgt := 24) hx hb dX10_numberHere_19 (by decide) (fun c_19_2794 => ?_) (fun c_19_2794 => ?_)
    · refine lv_iconst (v := 0) hx hb dX10_numberHere_24 (by decide) ?_
      refine lv_istore_n (lv' := [(1, .int 0), (0, .ref h0)]) hx hb dX10_numberHere_25 rfl hl (by decide) rfl (fun ls hl => ?_)
      refine lv_aload_n hx hb dX10_numberHere_26 rfl (lv_at hl 1 rfl) ?_
      refine gf_X10_34 hC rfl hK hP 0 rfl rfl dX10_numberHere_27 ?_
      refine lv_istore_n (lv' := [(2, .int (nI ks)), (1, .int 0), (0, .ref h0)]) hx hb dX10_numberHere_30 rfl hl (by decide) rfl (fun ls hl => ?_)
      have keyP : ∀ (nP kP : Nat) (nn : Int32) (ls : Array Slot), kP < 2 ^ 31 → (nI kn).toInt ≤ ((kP + nP : Nat) : Int) → lv_has ls 3 [(2, .int (nI kP)), (1, .int nn), (0, .ref h0)] → W p l e (RM 3 0 0) s m ([.ref h0] : List Value).toArray below meth c s.heap [] 0 0 (MQ below (QP (fun r : Int32 => True)) ([.ref h0] : List Value).toArray s 0 0 (fun _ => False)) (F0 m 31 ls []) := by
        intro nP
        induction nP with
        | zero =>
          intro kP nn ls hjP hkP hl
          have hzP : nI kn ≤ nI kP := bz hjP (by omega)
          refine lv_iload_n hx hb dX10_numberHere_31 rfl (lv_at hl 0 rfl) ?_
          refine lv_aload_n hx hb dX10_numberHere_32 rfl (lv_at hl 2 rfl) ?_
          refine gf_X10_37 hC rfl hK hP 0 rfl rfl dX10_numberHere_33 ?_
          refine lv_icmp_ge (tgt := 59) hx hb dX10_numberHere_36 (by decide) (fun _ => ?_) (fun c9 => absurd (hzP) c9)
          refine lv_iload_n hx hb dX10_numberHere_59 rfl (lv_at hl 1 rfl) ?_
          exact RP (v := nn) hC (trivial) rfl dX10_numberHere_60
        | succ nP ihP =>
          intro kP nn ls hjP hkP hl
          refine lv_iload_n hx hb dX10_numberHere_31 rfl (lv_at hl 0 rfl) ?_
          refine lv_aload_n hx hb dX10_numberHere_32 rfl (lv_at hl 2 rfl) ?_
          refine gf_X10_37 hC rfl hK hP 0 rfl rfl dX10_numberHere_33 ?_
          refine lv_icmp_ge (tgt := 59) hx hb dX10_numberHere_36 (by decide) (fun c_36_2795 => ?_) (fun c_36_2795 => ?_)
          · refine lv_iload_n hx hb dX10_numberHere_59 rfl (lv_at hl 1 rfl) ?_
            exact RP (v := nn) hC (trivial) rfl dX10_numberHere_60
          · refine lv_iload_n hx hb dX10_numberHere_39 rfl (lv_at hl 1 rfl) ?_
            refine lv_bipush (v := 10) hx hb dX10_numberHere_40 (by decide) ?_
            refine lv_imul hx hb dX10_numberHere_42 ?_
            refine lv_aload_n hx hb dX10_numberHere_43 rfl (lv_at hl 2 rfl) ?_
            refine lv_iload_n hx hb dX10_numberHere_44 rfl (lv_at hl 0 rfl) ?_
            refine pV hC hK hl hP hD (t_byteAt l G h0 (nI kP) tby kt tln tsp tkd (nI ks) (nI kn) tf9 fby) si_X10_78 [0, 1] rfl rfl (by decide) rfl rfl rfl rfl rfl (Nat.le_of_ble_eq_true rfl) ⟨Nat.le_of_ble_eq_true rfl, Nat.le_of_ble_eq_true rfl⟩ ⟨by first | exact Nat.le_of_ble_eq_true rfl | exact Nat.zero_le _, by first | exact Nat.le_of_ble_eq_true rfl | exact Nat.zero_le _⟩ dX10_numberHere_45 (fun r2796 hr2796 => ?_)
            refine lv_iadd hx hb dX10_numberHere_48 ?_
            refine lv_bipush (v := 48) hx hb dX10_numberHere_49 (by decide) ?_
            refine lv_isub hx hb dX10_numberHere_51 ?_
            refine lv_istore_n (lv' := [(1, .int (((nn * 10) + r2796) - 48)), (2, .int (nI kP)), (0, .ref h0)]) hx hb dX10_numberHere_52 rfl hl (by decide) rfl (fun ls hl => ?_)
            refine lv_iinc (v := nI (kP + 1)) (lv' := [(2, .int (nI (kP + 1))), (1, .int (((nn * 10) + r2796) - 48)), (0, .ref h0)]) hx hb dX10_numberHere_53 hl (k := 1) rfl (nI_1 _) (by decide) rfl (fun ls hl => ?_)
            refine lv_goto (tgt := 31) hx hb dX10_numberHere_56 (by decide) ?_
            exact ihP (kP + 1) (((nn * 10) + r2796) - 48) _ (bs hjP c_36_2795) (by omega) (lv_sub hl [0, 1, 2] rfl)
      exact keyP (nI kn).toInt.toNat ks 0 _ (by first | decide | omega) (by omega) (lv_sub hl [0, 1, 2] rfl)
    · refine lv_iconst (v := (-1)) hx hb dX10_numberHere_22 (by decide) ?_
      exact RP (v := (-1)) hC (trivial) rfl dX10_numberHere_23
set_option maxHeartbeats 4000000 in
set_option maxRecDepth 100000 in
theorem t_takesNumber (l : Launch) (G : GG) (h0 : Nat) (li : Int32) (co : Int32) (mo : Int32) (tby : Nat) (kt : Nat) (tln : Nat) (tsp : Nat) (tkd : Int32) (ks : Nat) (kn : Nat) (tf9 : Int32) (fby : Nat → Int32) (tlnc : Nat) (kln : Nat) (ftln : Nat → Int32) (hkt : kt ≤ 240) (hks : ks ≤ 240) (hkn : kn ≤ 240) (hkln : kln ≤ 9) : MI l G yX10_takesNumber cX10_takesNumber 5 (some .boolean) 4 0 0 [.ref h0, .int li, .int co, .int mo] [(h0, .inr (10, [.ref tby, .int (nI kt), .ref tln, .ref tsp, .int tkd, .int (nI ks), .int (nI kn), .int tf9])), (tby, .inl (G.2.1, 240, .inl fby)), (tln, .inr (8, [.int 9, .int 7, .ref tlnc, .int (nI kln)])), (tlnc, .inl (G.2.1, 63, .inl ftln))] (fun (r : Int32) (u : Int32 × Nat × Nat × Int32 × (Nat → Int32)) => (r = 1 ∨ r = 0) ∧ (u.2.1 ≤ 240 ∧ u.2.2.1 ≤ 240)) (fun u : Int32 × Nat × Nat × Int32 × (Nat → Int32) => [(h0, .inr (10, [.ref tby, .int (nI kt), .ref tln, .ref tsp, .int u.1, .int (nI u.2.1), .int (nI u.2.2.1), .int u.2.2.2.1])), (tby, .inl (G.2.1, 240, .inl fby)), (tln, .inr (8, [.int 9, .int 7, .ref tlnc, .int (nI kln)])), (tlnc, .inl (G.2.1, 63, .inl u.2.2.2.2))]) := by
  refine MI.start (by decide +kernel) (Nat.le_of_ble_eq_true rfl) ?_
  intro p e s m below meth c A ls hC hK hP hD hS hA hl
  have hl : lv_has ls 5 [(0, .ref h0), (1, .int li), (2, .int co), (3, .int mo)] := hl
  obtain ⟨hx, hb, hr, hml, hB, hown, hlocks, hnm⟩ := id hC
  refine lv_aload_n hx hb dX10_takesNumber_0 rfl (lv_at hl 0 rfl) ?_
  refine pV hC hK hl hP hD (t_numberHere l G h0 tby kt tln tsp tkd ks kn tf9 fby (by omega) (by omega) (by omega)) si_X10_109 [0, 1] rfl rfl (by decide) rfl rfl rfl rfl rfl (Nat.le_of_ble_eq_true rfl) ⟨Nat.le_of_ble_eq_true rfl, Nat.le_of_ble_eq_true rfl⟩ ⟨by first | exact Nat.le_of_ble_eq_true rfl | exact Nat.zero_le _, by first | exact Nat.le_of_ble_eq_true rfl | exact Nat.zero_le _⟩ dX10_takesNumber_1 (fun r2797 hr2797 => ?_)
  refine lv_istore (lv' := [(4, .int r2797), (0, .ref h0), (1, .int li), (2, .int co), (3, .int mo)]) hx hb dX10_takesNumber_4 hl (by decide) rfl (fun ls hl => ?_)
  refine lv_iload hx hb dX10_takesNumber_6 (lv_at hl 0 rfl) ?_
  refine lv_iconst (v := 0) hx hb dX10_takesNumber_8 (by decide) ?_
  refine lv_iload_n hx hb dX10_takesNumber_9 rfl (lv_at hl 4 rfl) ?_
  refine pSN hC hK hl (c_within l G r2797 0 mo) si_X10_89 rfl rfl (Nat.le_of_ble_eq_true rfl) ⟨Nat.le_of_ble_eq_true rfl, Nat.le_of_ble_eq_true rfl⟩ ⟨by first | exact Nat.le_of_ble_eq_true rfl | exact Nat.zero_le _, by first | exact Nat.le_of_ble_eq_true rfl | exact Nat.zero_le _⟩ dX10_takesNumber_10 (fun r2798 hr2798 => ?_)
  rcases hr2798 with ⟨rfl, a2799⟩ | ⟨rfl, a2799⟩
  · refine lv_if_ne (tgt := 21) hx hb dX10_takesNumber_13 (by decide) (fun _ => ?_) (fun c9 => absurd c9 (by decide))
    refine lv_aload_n hx hb dX10_takesNumber_21 rfl (lv_at hl 1 rfl) ?_
    refine gf_X10_20 hC rfl hK hP 0 rfl rfl dX10_takesNumber_22 ?_
    refine lv_iload_n hx hb dX10_takesNumber_25 rfl (lv_at hl 2 rfl) ?_
    refine lv_iload_n hx hb dX10_takesNumber_26 rfl (lv_at hl 3 rfl) ?_
    refine lv_iload hx hb dX10_takesNumber_27 (lv_at hl 0 rfl) ?_
    refine vV (wr := [(h0, .inr (10, [.ref tby, .int (nI kt), .ref tln, .ref tsp, .int tkd, .int (nI ks), .int (nI kn), .int tf9])), (tby, .inl (G.2.1, 240, .inl fby))]) hC hK hl hP hD hS hA (c_T_set l G tln li co r2797 9 7 tlnc kln ftln (by omega) (by omega) (by omega)) si_X10_66 [2, 3] [0, 1] rfl rfl (by decide) rfl (by decide) (by decide) rfl rfl rfl rfl rfl (Nat.le_of_ble_eq_true rfl) ⟨Nat.le_of_ble_eq_true rfl, Nat.le_of_ble_eq_true rfl⟩ ⟨Nat.le_of_ble_eq_true rfl, Nat.le_of_ble_eq_true rfl⟩ dX10_takesNumber_29 (fun u2801 H locs hr2800 hP hD hS => ?_)
    obtain ⟨f12802, rfl⟩ : ∃ z9, z9 = u2801 := ⟨_, rfl⟩
    try dsimp only at hr2800
    have hP : va_P G.1 vwCl [(h0, .inr (10, [.ref tby, .int (nI kt), .ref tln, .ref tsp, .int tkd, .int (nI ks), .int (nI kn), .int tf9])), (tby, .inl (G.2.1, 240, .inl fby)), (tln, .inr (8, [.int 9, .int 7, .ref tlnc, .int (nI kln)])), (tlnc, .inl (G.2.1, 63, .inl f12802))] H := hP
    have hD : va_D A [(h0, .inr (10, [.ref tby, .int (nI kt), .ref tln, .ref tsp, .int tkd, .int (nI ks), .int (nI kn), .int tf9])), (tby, .inl (G.2.1, 240, .inl fby)), (tln, .inr (8, [.int 9, .int 7, .ref tlnc, .int (nI kln)])), (tlnc, .inl (G.2.1, 63, .inl f12802))] := hD
    have w2803 := hr2800
    refine lv_aload_n hx hb dX10_takesNumber_32 rfl (lv_at hl 1 rfl) ?_
    refine vV (wr := [(tln, .inr (8, [.int 9, .int 7, .ref tlnc, .int (nI kln)])), (tlnc, .inl (G.2.1, 63, .inl f12802))]) hC hK hl hP hD hS hA (t_advance l G h0 tby kt tln tsp tkd ks kn tf9 fby (by omega) (by omega) (by omega)) si_X10_47 [0, 1] [2, 3] rfl rfl (by decide) rfl (by decide) (by decide) rfl rfl rfl rfl rfl (Nat.le_of_ble_eq_true rfl) ⟨Nat.le_of_ble_eq_true rfl, Nat.le_of_ble_eq_true rfl⟩ ⟨Nat.le_of_ble_eq_true rfl, Nat.le_of_ble_eq_true rfl⟩ dX10_takesNumber_33 (fun u2805 H locs hr2804 hP hD hS => ?_)
    obtain ⟨kd12806, ks12807, kn12808⟩ := u2805
    try dsimp only at hr2804
    have hP : va_P G.1 vwCl [(tln, .inr (8, [.int 9, .int 7, .ref tlnc, .int (nI kln)])), (tlnc, .inl (G.2.1, 63, .inl f12802)), (h0, .inr (10, [.ref tby, .int (nI kt), .ref tln, .ref tsp, .int kd12806, .int (nI ks12807), .int (nI kn12808), .int tf9])), (tby, .inl (G.2.1, 240, .inl fby))] H := hP
    have hD : va_D A [(tln, .inr (8, [.int 9, .int 7, .ref tlnc, .int (nI kln)])), (tlnc, .inl (G.2.1, 63, .inl f12802)), (h0, .inr (10, [.ref tby, .int (nI kt), .ref tln, .ref tsp, .int kd12806, .int (nI ks12807), .int (nI kn12808), .int tf9])), (tby, .inl (G.2.1, 240, .inl fby))] := hD
    have w2809 := hr2804
    refine lv_iconst (v := 1) hx hb dX10_takesNumber_36 (by decide) ?_
    exact RI (v := 1) hC hP hD hS [2, 3, 0, 1] (kd12806, ks12807, kn12808, tf9, f12802) rfl rfl (by decide) (⟨Or.inl (rfl), by dsimp only; omega⟩) (by decide +kernel) dX10_takesNumber_37
  · refine lv_if_ne (tgt := 21) hx hb dX10_takesNumber_13 (by decide) (fun c9 => absurd (by decide) c9) (fun _ => ?_)
    refine lv_aload_n hx hb dX10_takesNumber_16 rfl (lv_at hl 1 rfl) ?_
    refine iV (wr := [(tby, .inl (G.2.1, 240, .inl fby)), (tln, .inr (8, [.int 9, .int 7, .ref tlnc, .int (nI kln)])), (tlnc, .inl (G.2.1, 63, .inl ftln))]) hC hK hl hP hD hS hA (t_refuse l G h0 tby kt tln tsp tkd ks kn tf9) si_X10_106 [0] [1, 2, 3] rfl rfl (by decide) rfl (by decide) (by decide) rfl rfl rfl rfl rfl (Nat.le_of_ble_eq_true rfl) ⟨Nat.le_of_ble_eq_true rfl, Nat.le_of_ble_eq_true rfl⟩ ⟨Nat.le_of_ble_eq_true rfl, Nat.le_of_ble_eq_true rfl⟩ dX10_takesNumber_17 (fun r2810 u2811 H locs hr2810 hP hD hS => ?_)
    obtain ⟨tf12812, rfl⟩ : ∃ z9, z9 = u2811 := ⟨_, rfl⟩
    try dsimp only at hr2810
    have hP : va_P G.1 vwCl [(tby, .inl (G.2.1, 240, .inl fby)), (tln, .inr (8, [.int 9, .int 7, .ref tlnc, .int (nI kln)])), (tlnc, .inl (G.2.1, 63, .inl ftln)), (h0, .inr (10, [.ref tby, .int (nI kt), .ref tln, .ref tsp, .int tkd, .int (nI ks), .int (nI kn), .int tf12812]))] H := hP
    have hD : va_D A [(tby, .inl (G.2.1, 240, .inl fby)), (tln, .inr (8, [.int 9, .int 7, .ref tlnc, .int (nI kln)])), (tlnc, .inl (G.2.1, 63, .inl ftln)), (h0, .inr (10, [.ref tby, .int (nI kt), .ref tln, .ref tsp, .int tkd, .int (nI ks), .int (nI kn), .int tf12812]))] := hD
    obtain rfl := hr2810
    exact RI (v := 0) hC hP hD hS [3, 0, 1, 2] (tkd, ks, kn, tf12812, ftln) rfl rfl (by decide) (⟨Or.inr (rfl), by dsimp only; omega⟩) (by decide +kernel) dX10_takesNumber_20
set_option maxHeartbeats 4000000 in
set_option maxRecDepth 100000 in
theorem t_addStep (l : Launch) (G : GG) (h0 : Nat) (sp : Int32) (tby : Nat) (kt : Nat) (tln : Nat) (tsp : Nat) (tkd : Int32) (ks : Nat) (kn : Nat) (tf9 : Int32) (tspc : Nat) (ksp : Nat) (ftsp : Nat → Int32) (hksp : ksp ≤ 120) : MV l G yX10_addStep cX10_addStep 2 2 0 0 [.ref h0, .int sp] [(h0, .inr (10, [.ref tby, .int (nI kt), .ref tln, .ref tsp, .int tkd, .int (nI ks), .int (nI kn), .int tf9])), (tsp, .inr (8, [.int 120, .int 1, .ref tspc, .int (nI ksp)])), (tspc, .inl (G.2.1, 120, .inl ftsp))] (fun u : Nat × (Nat → Int32) => u.1 ≤ 120) (fun u : Nat × (Nat → Int32) => [(h0, .inr (10, [.ref tby, .int (nI kt), .ref tln, .ref tsp, .int tkd, .int (nI ks), .int (nI kn), .int tf9])), (tsp, .inr (8, [.int 120, .int 1, .ref tspc, .int (nI u.1)])), (tspc, .inl (G.2.1, 120, .inl u.2))]) := by
  refine MV.start (by decide +kernel) (Nat.le_of_ble_eq_true rfl) ?_
  intro p e s m below meth c A ls hC hK hP hD hS hA hl
  have hl : lv_has ls 2 [(0, .ref h0), (1, .int sp)] := hl
  obtain ⟨hx, hb, hr, hml, hB, hown, hlocks, hnm⟩ := id hC
  refine lv_aload_n hx hb dX10_addStep_0 rfl (lv_at hl 0 rfl) ?_
  refine gf_X10_24 hC rfl hK hP 0 rfl rfl dX10_addStep_1 ?_
  refine lv_aload_n hx hb dX10_addStep_4 rfl (lv_at hl 0 rfl) ?_
  refine gf_X10_24 hC rfl hK hP 0 rfl rfl dX10_addStep_5 ?_
  rcases Nat.lt_or_ge ksp 120 with hcap9 | hcap9
  · refine iV (wr := [(h0, .inr (10, [.ref tby, .int (nI kt), .ref tln, .ref tsp, .int tkd, .int (nI ks), .int (nI kn), .int tf9])), (tspc, .inl (G.2.1, 120, .inl ftsp))]) hC hK hl hP hD hS hA (c_T_append l G tsp 120 1 tspc ksp (by omega) (by omega)) si_X10_59 [1] [0, 2] rfl rfl (by decide) rfl (by decide) (by decide) rfl rfl rfl rfl rfl (Nat.le_of_ble_eq_true rfl) ⟨Nat.le_of_ble_eq_true rfl, Nat.le_of_ble_eq_true rfl⟩ ⟨Nat.le_of_ble_eq_true rfl, Nat.le_of_ble_eq_true rfl⟩ dX10_addStep_8 (fun r2814 u2815 H locs hr2814 hP hD hS => ?_)
    have hP : va_P G.1 vwCl [(h0, .inr (10, [.ref tby, .int (nI kt), .ref tln, .ref tsp, .int tkd, .int (nI ks), .int (nI kn), .int tf9])), (tspc, .inl (G.2.1, 120, .inl ftsp)), (tsp, .inr (8, [.int 120, .int 1, .ref tspc, .int (nI (ksp + 1))]))] H := hP
    have hD : va_D A [(h0, .inr (10, [.ref tby, .int (nI kt), .ref tln, .ref tsp, .int tkd, .int (nI ks), .int (nI kn), .int tf9])), (tspc, .inl (G.2.1, 120, .inl ftsp)), (tsp, .inr (8, [.int 120, .int 1, .ref tspc, .int (nI (ksp + 1))]))] := hD
    obtain rfl := hr2814
    refine lv_iconst (v := 0) hx hb dX10_addStep_11 (by decide) ?_
    refine lv_iload_n hx hb dX10_addStep_12 rfl (lv_at hl 1 rfl) ?_
    refine vV (wr := [(h0, .inr (10, [.ref tby, .int (nI kt), .ref tln, .ref tsp, .int tkd, .int (nI ks), .int (nI kn), .int tf9]))]) hC hK hl hP hD hS hA (c_T_set l G tsp (nI ksp) 0 sp 120 1 tspc (ksp + 1) ftsp (by omega) (by omega) (by omega)) si_X10_66 [2, 1] [0] rfl rfl (by decide) rfl (by decide) (by decide) rfl rfl rfl rfl rfl (Nat.le_of_ble_eq_true rfl) ⟨Nat.le_of_ble_eq_true rfl, Nat.le_of_ble_eq_true rfl⟩ ⟨Nat.le_of_ble_eq_true rfl, Nat.le_of_ble_eq_true rfl⟩ dX10_addStep_13 (fun u2818 H locs hr2817 hP hD hS => ?_)
    obtain ⟨f12819, rfl⟩ : ∃ z9, z9 = u2818 := ⟨_, rfl⟩
    try dsimp only at hr2817
    have hP : va_P G.1 vwCl [(h0, .inr (10, [.ref tby, .int (nI kt), .ref tln, .ref tsp, .int tkd, .int (nI ks), .int (nI kn), .int tf9])), (tsp, .inr (8, [.int 120, .int 1, .ref tspc, .int (nI (ksp + 1))])), (tspc, .inl (G.2.1, 120, .inl f12819))] H := hP
    have hD : va_D A [(h0, .inr (10, [.ref tby, .int (nI kt), .ref tln, .ref tsp, .int tkd, .int (nI ks), .int (nI kn), .int tf9])), (tsp, .inr (8, [.int 120, .int 1, .ref tspc, .int (nI (ksp + 1))])), (tspc, .inl (G.2.1, 120, .inl f12819))] := hD
    have w2820 := hr2817
    exact RV hC hP hD hS [0, 1, 2] ((ksp + 1), f12819) rfl rfl (by decide) (by dsimp only; omega) dX10_addStep_16
  · refine iV (wr := [(h0, .inr (10, [.ref tby, .int (nI kt), .ref tln, .ref tsp, .int tkd, .int (nI ks), .int (nI kn), .int tf9])), (tspc, .inl (G.2.1, 120, .inl ftsp))]) hC hK hl hP hD hS hA (c_T_appendF l G tsp 120 1 tspc ksp (by omega) (by omega)) si_X10_59 [1] [0, 2] rfl rfl (by decide) rfl (by decide) (by decide) rfl rfl rfl rfl rfl (Nat.le_of_ble_eq_true rfl) ⟨Nat.le_of_ble_eq_true rfl, Nat.le_of_ble_eq_true rfl⟩ ⟨Nat.le_of_ble_eq_true rfl, Nat.le_of_ble_eq_true rfl⟩ dX10_addStep_8 (fun r2821 u2822 H locs hr2821 hP hD hS => ?_)
    have hP : va_P G.1 vwCl [(h0, .inr (10, [.ref tby, .int (nI kt), .ref tln, .ref tsp, .int tkd, .int (nI ks), .int (nI kn), .int tf9])), (tspc, .inl (G.2.1, 120, .inl ftsp)), (tsp, .inr (8, [.int 120, .int 1, .ref tspc, .int (nI ksp)]))] H := hP
    have hD : va_D A [(h0, .inr (10, [.ref tby, .int (nI kt), .ref tln, .ref tsp, .int tkd, .int (nI ks), .int (nI kn), .int tf9])), (tspc, .inl (G.2.1, 120, .inl ftsp)), (tsp, .inr (8, [.int 120, .int 1, .ref tspc, .int (nI ksp)]))] := hD
    obtain rfl := hr2821
    refine lv_iconst (v := 0) hx hb dX10_addStep_11 (by decide) ?_
    refine lv_iload_n hx hb dX10_addStep_12 rfl (lv_at hl 1 rfl) ?_
    refine vV (wr := [(h0, .inr (10, [.ref tby, .int (nI kt), .ref tln, .ref tsp, .int tkd, .int (nI ks), .int (nI kn), .int tf9]))]) hC hK hl hP hD hS hA (c_T_set l G tsp (-2) 0 sp 120 1 tspc ksp ftsp (by omega) (by omega) (by omega)) si_X10_66 [2, 1] [0] rfl rfl (by decide) rfl (by decide) (by decide) rfl rfl rfl rfl rfl (Nat.le_of_ble_eq_true rfl) ⟨Nat.le_of_ble_eq_true rfl, Nat.le_of_ble_eq_true rfl⟩ ⟨Nat.le_of_ble_eq_true rfl, Nat.le_of_ble_eq_true rfl⟩ dX10_addStep_13 (fun u2825 H locs hr2824 hP hD hS => ?_)
    obtain ⟨f12826, rfl⟩ : ∃ z9, z9 = u2825 := ⟨_, rfl⟩
    try dsimp only at hr2824
    have hP : va_P G.1 vwCl [(h0, .inr (10, [.ref tby, .int (nI kt), .ref tln, .ref tsp, .int tkd, .int (nI ks), .int (nI kn), .int tf9])), (tsp, .inr (8, [.int 120, .int 1, .ref tspc, .int (nI ksp)])), (tspc, .inl (G.2.1, 120, .inl f12826))] H := hP
    have hD : va_D A [(h0, .inr (10, [.ref tby, .int (nI kt), .ref tln, .ref tsp, .int tkd, .int (nI ks), .int (nI kn), .int tf9])), (tsp, .inr (8, [.int 120, .int 1, .ref tspc, .int (nI ksp)])), (tspc, .inl (G.2.1, 120, .inl f12826))] := hD
    have w2827 := hr2824
    exact RV hC hP hD hS [0, 1, 2] (ksp, f12826) rfl rfl (by decide) (by dsimp only; omega) dX10_addStep_16
set_option maxHeartbeats 4000000 in
set_option maxRecDepth 100000 in
theorem t_factHere (l : Launch) (G : GG) (K : OO) (h0 : Nat) (tby : Nat) (kt : Nat) (tln : Nat) (tsp : Nat) (tkd : Int32) (ks : Nat) (kn : Nat) (tf9 : Int32) (fby : Nat → Int32) (hkt : kt ≤ 240) (hks : ks ≤ 240) (hkn : kn ≤ 240) : MPo l G K yX10_factHere cX10_factHere 1 (some .int) 7 [.ref h0] [(h0, .inr (10, [.ref tby, .int (nI kt), .ref tln, .ref tsp, .int tkd, .int (nI ks), .int (nI kn), .int tf9])), (tby, .inl (G.2.1, 240, .inl fby))] (fun r : Int32 => True) := by
  refine MPo.start (by decide +kernel) (Nat.le_of_ble_eq_true rfl) ?_
  intro p e s m below meth c ls hC hK hP hD hl hO hS
  have hl : lv_has ls 1 [(0, .ref h0)] := hl
  obtain ⟨hx, hb, hr, hml, hB, hown, hlocks, hnm⟩ := id hC
  refine lv_aload_n hx hb dX10_factHere_0 rfl (lv_at hl 0 rfl) ?_
  refine va_ldcS (index := 171) (tx := "person") hx hb hown (hO.2.1 11 (by decide)) dX10_factHere_1 ?_
  refine pVo hO hS hC hK hl hP hD (t_isName l G K 11 h0 tby kt tln tsp tkd ks kn tf9 fby (by omega) (by omega) (by omega) ((by decide))) si_X10_102 [0, 1] rfl rfl (by decide) rfl rfl rfl rfl rfl (Nat.le_of_ble_eq_true rfl) ⟨Nat.le_of_ble_eq_true rfl, Nat.le_of_ble_eq_true rfl⟩ ⟨by first | exact Nat.le_of_ble_eq_true rfl | exact Nat.zero_le _, by first | exact Nat.le_of_ble_eq_true rfl | exact Nat.zero_le _⟩ dX10_factHere_3 (fun r2828 hr2828 => ?_)
  rcases hr2828 with rfl | rfl
  · refine lv_if_eq (tgt := 11) hx hb dX10_factHere_6 (by decide) (fun c9 => absurd c9 (by decide)) (fun _ => ?_)
    refine lv_iconst (v := 0) hx hb dX10_factHere_9 (by decide) ?_
    exact RP (v := 0) hC (trivial) rfl dX10_factHere_10
  · refine lv_if_eq (tgt := 11) hx hb dX10_factHere_6 (by decide) (fun _ => ?_) (fun c9 => absurd (by decide) c9)
    refine lv_aload_n hx hb dX10_factHere_11 rfl (lv_at hl 0 rfl) ?_
    refine va_ldcS (index := 173) (tx := "post") hx hb hown (hO.2.1 12 (by decide)) dX10_factHere_12 ?_
    refine pVo hO hS hC hK hl hP hD (t_isName l G K 12 h0 tby kt tln tsp tkd ks kn tf9 fby (by omega) (by omega) (by omega) ((by decide))) si_X10_102 [0, 1] rfl rfl (by decide) rfl rfl rfl rfl rfl (Nat.le_of_ble_eq_true rfl) ⟨Nat.le_of_ble_eq_true rfl, Nat.le_of_ble_eq_true rfl⟩ ⟨by first | exact Nat.le_of_ble_eq_true rfl | exact Nat.zero_le _, by first | exact Nat.le_of_ble_eq_true rfl | exact Nat.zero_le _⟩ dX10_factHere_14 (fun r2830 hr2830 => ?_)
    rcases hr2830 with rfl | rfl
    · refine lv_if_eq (tgt := 22) hx hb dX10_factHere_17 (by decide) (fun c9 => absurd c9 (by decide)) (fun _ => ?_)
      refine lv_iconst (v := 1) hx hb dX10_factHere_20 (by decide) ?_
      exact RP (v := 1) hC (trivial) rfl dX10_factHere_21
    · refine lv_if_eq (tgt := 22) hx hb dX10_factHere_17 (by decide) (fun _ => ?_) (fun c9 => absurd (by decide) c9)
      refine lv_aload_n hx hb dX10_factHere_22 rfl (lv_at hl 0 rfl) ?_
      refine va_ldcS (index := 175) (tx := "had") hx hb hown (hO.2.1 13 (by decide)) dX10_factHere_23 ?_
      refine pVo hO hS hC hK hl hP hD (t_isName l G K 13 h0 tby kt tln tsp tkd ks kn tf9 fby (by omega) (by omega) (by omega) ((by decide))) si_X10_102 [0, 1] rfl rfl (by decide) rfl rfl rfl rfl rfl (Nat.le_of_ble_eq_true rfl) ⟨Nat.le_of_ble_eq_true rfl, Nat.le_of_ble_eq_true rfl⟩ ⟨by first | exact Nat.le_of_ble_eq_true rfl | exact Nat.zero_le _, by first | exact Nat.le_of_ble_eq_true rfl | exact Nat.zero_le _⟩ dX10_factHere_25 (fun r2832 hr2832 => ?_)
      rcases hr2832 with rfl | rfl
      · refine lv_if_eq (tgt := 33) hx hb dX10_factHere_28 (by decide) (fun c9 => absurd c9 (by decide)) (fun _ => ?_)
        refine lv_iconst (v := 2) hx hb dX10_factHere_31 (by decide) ?_
        exact RP (v := 2) hC (trivial) rfl dX10_factHere_32
      · refine lv_if_eq (tgt := 33) hx hb dX10_factHere_28 (by decide) (fun _ => ?_) (fun c9 => absurd (by decide) c9)
        refine lv_aload_n hx hb dX10_factHere_33 rfl (lv_at hl 0 rfl) ?_
        refine va_ldcS (index := 177) (tx := "made") hx hb hown (hO.2.1 14 (by decide)) dX10_factHere_34 ?_
        refine pVo hO hS hC hK hl hP hD (t_isName l G K 14 h0 tby kt tln tsp tkd ks kn tf9 fby (by omega) (by omega) (by omega) ((by decide))) si_X10_102 [0, 1] rfl rfl (by decide) rfl rfl rfl rfl rfl (Nat.le_of_ble_eq_true rfl) ⟨Nat.le_of_ble_eq_true rfl, Nat.le_of_ble_eq_true rfl⟩ ⟨by first | exact Nat.le_of_ble_eq_true rfl | exact Nat.zero_le _, by first | exact Nat.le_of_ble_eq_true rfl | exact Nat.zero_le _⟩ dX10_factHere_36 (fun r2834 hr2834 => ?_)
        rcases hr2834 with rfl | rfl
        · refine lv_if_eq (tgt := 44) hx hb dX10_factHere_39 (by decide) (fun c9 => absurd c9 (by decide)) (fun _ => ?_)
          refine lv_iconst (v := 3) hx hb dX10_factHere_42 (by decide) ?_
          exact RP (v := 3) hC (trivial) rfl dX10_factHere_43
        · refine lv_if_eq (tgt := 44) hx hb dX10_factHere_39 (by decide) (fun _ => ?_) (fun c9 => absurd (by decide) c9)
          refine lv_aload_n hx hb dX10_factHere_44 rfl (lv_at hl 0 rfl) ?_
          refine va_ldcS (index := 179) (tx := "slow") hx hb hown (hO.2.1 15 (by decide)) dX10_factHere_45 ?_
          refine pVo hO hS hC hK hl hP hD (t_isName l G K 15 h0 tby kt tln tsp tkd ks kn tf9 fby (by omega) (by omega) (by omega) ((by decide))) si_X10_102 [0, 1] rfl rfl (by decide) rfl rfl rfl rfl rfl (Nat.le_of_ble_eq_true rfl) ⟨Nat.le_of_ble_eq_true rfl, Nat.le_of_ble_eq_true rfl⟩ ⟨by first | exact Nat.le_of_ble_eq_true rfl | exact Nat.zero_le _, by first | exact Nat.le_of_ble_eq_true rfl | exact Nat.zero_le _⟩ dX10_factHere_47 (fun r2836 hr2836 => ?_)
          rcases hr2836 with rfl | rfl
          · refine lv_if_eq (tgt := 57) hx hb dX10_factHere_50 (by decide) (fun c9 => absurd c9 (by decide)) (fun _ => ?_)
            refine lv_iconst (v := 4) hx hb dX10_factHere_53 (by decide) ?_
            refine lv_goto (tgt := 58) hx hb dX10_factHere_54 (by decide) ?_
            exact RP (v := 4) hC (trivial) rfl dX10_factHere_58
          · refine lv_if_eq (tgt := 57) hx hb dX10_factHere_50 (by decide) (fun _ => ?_) (fun c9 => absurd (by decide) c9)
            refine lv_iconst (v := (-1)) hx hb dX10_factHere_57 (by decide) ?_
            exact RP (v := (-1)) hC (trivial) rfl dX10_factHere_58
set_option maxHeartbeats 4000000 in
set_option maxRecDepth 100000 in
theorem t_signHere (l : Launch) (G : GG) (h0 : Nat) (tby : Nat) (kt : Nat) (tln : Nat) (tsp : Nat) (tkd : Int32) (ts9 : Int32) (tn9 : Int32) (tf9 : Int32) : MP l G yX10_signHere cX10_signHere 1 (some .int) 1 [.ref h0] [(h0, .inr (10, [.ref tby, .int (nI kt), .ref tln, .ref tsp, .int tkd, .int ts9, .int tn9, .int tf9]))] (fun r : Int32 => True) := by
  refine MP.start (by decide +kernel) (Nat.le_of_ble_eq_true rfl) ?_
  intro p e s m below meth c ls hC hK hP hD hl
  have hl : lv_has ls 1 [(0, .ref h0)] := hl
  obtain ⟨hx, hb, hr, hml, hB, hown, hlocks, hnm⟩ := id hC
  refine lv_aload_n hx hb dX10_signHere_0 rfl (lv_at hl 0 rfl) ?_
  refine gf_X10_31 hC rfl hK hP 0 rfl rfl dX10_signHere_1 ?_
  refine lv_bipush (v := 60) hx hb dX10_signHere_4 (by decide) ?_
  refine lv_icmp_ne (tgt := 11) hx hb dX10_signHere_6 (by decide) (fun c_6_2838 => ?_) (fun c_6_2838 => ?_)
  · refine lv_aload_n hx hb dX10_signHere_11 rfl (lv_at hl 0 rfl) ?_
    refine gf_X10_31 hC rfl hK hP 0 rfl rfl dX10_signHere_12 ?_
    refine lv_bipush (v := 61) hx hb dX10_signHere_15 (by decide) ?_
    refine lv_icmp_ne (tgt := 22) hx hb dX10_signHere_17 (by decide) (fun c_17_2839 => ?_) (fun c_17_2839 => ?_)
    · refine lv_aload_n hx hb dX10_signHere_22 rfl (lv_at hl 0 rfl) ?_
      refine gf_X10_31 hC rfl hK hP 0 rfl rfl dX10_signHere_23 ?_
      refine lv_bipush (v := 62) hx hb dX10_signHere_26 (by decide) ?_
      refine lv_icmp_ne (tgt := 35) hx hb dX10_signHere_28 (by decide) (fun c_28_2840 => ?_) (fun c_28_2840 => ?_)
      · refine lv_iconst (v := (-1)) hx hb dX10_signHere_35 (by decide) ?_
        exact RP (v := (-1)) hC (trivial) rfl dX10_signHere_36
      · refine lv_iconst (v := 2) hx hb dX10_signHere_31 (by decide) ?_
        refine lv_goto (tgt := 36) hx hb dX10_signHere_32 (by decide) ?_
        exact RP (v := 2) hC (trivial) rfl dX10_signHere_36
    · refine lv_iconst (v := 1) hx hb dX10_signHere_20 (by decide) ?_
      exact RP (v := 1) hC (trivial) rfl dX10_signHere_21
  · refine lv_iconst (v := 0) hx hb dX10_signHere_9 (by decide) ?_
    exact RP (v := 0) hC (trivial) rfl dX10_signHere_10
set_option maxHeartbeats 4000000 in
set_option maxRecDepth 100000 in
theorem t_sortHere (l : Launch) (G : GG) (K : OO) (h0 : Nat) (tby : Nat) (kt : Nat) (tln : Nat) (tsp : Nat) (tkd : Int32) (ks : Nat) (kn : Nat) (tf9 : Int32) (fby : Nat → Int32) (hkt : kt ≤ 240) (hks : ks ≤ 240) (hkn : kn ≤ 240) : MPo l G K yX10_sortHere cX10_sortHere 1 (some .int) 7 [.ref h0] [(h0, .inr (10, [.ref tby, .int (nI kt), .ref tln, .ref tsp, .int tkd, .int (nI ks), .int (nI kn), .int tf9])), (tby, .inl (G.2.1, 240, .inl fby))] (fun r : Int32 => True) := by
  refine MPo.start (by decide +kernel) (Nat.le_of_ble_eq_true rfl) ?_
  intro p e s m below meth c ls hC hK hP hD hl hO hS
  have hl : lv_has ls 1 [(0, .ref h0)] := hl
  obtain ⟨hx, hb, hr, hml, hB, hown, hlocks, hnm⟩ := id hC
  refine lv_aload_n hx hb dX10_sortHere_0 rfl (lv_at hl 0 rfl) ?_
  refine va_ldcS (index := 127) (tx := "taken") hx hb hown (hO.2.1 1 (by decide)) dX10_sortHere_1 ?_
  refine pVo hO hS hC hK hl hP hD (t_isName l G K 1 h0 tby kt tln tsp tkd ks kn tf9 fby (by omega) (by omega) (by omega) ((by decide))) si_X10_102 [0, 1] rfl rfl (by decide) rfl rfl rfl rfl rfl (Nat.le_of_ble_eq_true rfl) ⟨Nat.le_of_ble_eq_true rfl, Nat.le_of_ble_eq_true rfl⟩ ⟨by first | exact Nat.le_of_ble_eq_true rfl | exact Nat.zero_le _, by first | exact Nat.le_of_ble_eq_true rfl | exact Nat.zero_le _⟩ dX10_sortHere_3 (fun r2841 hr2841 => ?_)
  rcases hr2841 with rfl | rfl
  · refine lv_if_eq (tgt := 11) hx hb dX10_sortHere_6 (by decide) (fun c9 => absurd c9 (by decide)) (fun _ => ?_)
    refine lv_iconst (v := 0) hx hb dX10_sortHere_9 (by decide) ?_
    exact RP (v := 0) hC (trivial) rfl dX10_sortHere_10
  · refine lv_if_eq (tgt := 11) hx hb dX10_sortHere_6 (by decide) (fun _ => ?_) (fun c9 => absurd (by decide) c9)
    refine lv_aload_n hx hb dX10_sortHere_11 rfl (lv_at hl 0 rfl) ?_
    refine va_ldcS (index := 129) (tx := "warn") hx hb hown (hO.2.1 2 (by decide)) dX10_sortHere_12 ?_
    refine pVo hO hS hC hK hl hP hD (t_isName l G K 2 h0 tby kt tln tsp tkd ks kn tf9 fby (by omega) (by omega) (by omega) ((by decide))) si_X10_102 [0, 1] rfl rfl (by decide) rfl rfl rfl rfl rfl (Nat.le_of_ble_eq_true rfl) ⟨Nat.le_of_ble_eq_true rfl, Nat.le_of_ble_eq_true rfl⟩ ⟨by first | exact Nat.le_of_ble_eq_true rfl | exact Nat.zero_le _, by first | exact Nat.le_of_ble_eq_true rfl | exact Nat.zero_le _⟩ dX10_sortHere_14 (fun r2843 hr2843 => ?_)
    rcases hr2843 with rfl | rfl
    · refine lv_if_eq (tgt := 22) hx hb dX10_sortHere_17 (by decide) (fun c9 => absurd c9 (by decide)) (fun _ => ?_)
      refine lv_iconst (v := 1) hx hb dX10_sortHere_20 (by decide) ?_
      exact RP (v := 1) hC (trivial) rfl dX10_sortHere_21
    · refine lv_if_eq (tgt := 22) hx hb dX10_sortHere_17 (by decide) (fun _ => ?_) (fun c9 => absurd (by decide) c9)
      refine lv_aload_n hx hb dX10_sortHere_22 rfl (lv_at hl 0 rfl) ?_
      refine va_ldcS (index := 131) (tx := "ask") hx hb hown (hO.2.1 3 (by decide)) dX10_sortHere_23 ?_
      refine pVo hO hS hC hK hl hP hD (t_isName l G K 3 h0 tby kt tln tsp tkd ks kn tf9 fby (by omega) (by omega) (by omega) ((by decide))) si_X10_102 [0, 1] rfl rfl (by decide) rfl rfl rfl rfl rfl (Nat.le_of_ble_eq_true rfl) ⟨Nat.le_of_ble_eq_true rfl, Nat.le_of_ble_eq_true rfl⟩ ⟨by first | exact Nat.le_of_ble_eq_true rfl | exact Nat.zero_le _, by first | exact Nat.le_of_ble_eq_true rfl | exact Nat.zero_le _⟩ dX10_sortHere_25 (fun r2845 hr2845 => ?_)
      rcases hr2845 with rfl | rfl
      · refine lv_if_eq (tgt := 33) hx hb dX10_sortHere_28 (by decide) (fun c9 => absurd c9 (by decide)) (fun _ => ?_)
        refine lv_iconst (v := 2) hx hb dX10_sortHere_31 (by decide) ?_
        exact RP (v := 2) hC (trivial) rfl dX10_sortHere_32
      · refine lv_if_eq (tgt := 33) hx hb dX10_sortHere_28 (by decide) (fun _ => ?_) (fun c9 => absurd (by decide) c9)
        refine lv_aload_n hx hb dX10_sortHere_33 rfl (lv_at hl 0 rfl) ?_
        refine va_ldcS (index := 133) (tx := "heard") hx hb hown (hO.2.1 4 (by decide)) dX10_sortHere_34 ?_
        refine pVo hO hS hC hK hl hP hD (t_isName l G K 4 h0 tby kt tln tsp tkd ks kn tf9 fby (by omega) (by omega) (by omega) ((by decide))) si_X10_102 [0, 1] rfl rfl (by decide) rfl rfl rfl rfl rfl (Nat.le_of_ble_eq_true rfl) ⟨Nat.le_of_ble_eq_true rfl, Nat.le_of_ble_eq_true rfl⟩ ⟨by first | exact Nat.le_of_ble_eq_true rfl | exact Nat.zero_le _, by first | exact Nat.le_of_ble_eq_true rfl | exact Nat.zero_le _⟩ dX10_sortHere_36 (fun r2847 hr2847 => ?_)
        rcases hr2847 with rfl | rfl
        · refine lv_if_eq (tgt := 46) hx hb dX10_sortHere_39 (by decide) (fun c9 => absurd c9 (by decide)) (fun _ => ?_)
          refine lv_iconst (v := 3) hx hb dX10_sortHere_42 (by decide) ?_
          refine lv_goto (tgt := 47) hx hb dX10_sortHere_43 (by decide) ?_
          exact RP (v := 3) hC (trivial) rfl dX10_sortHere_47
        · refine lv_if_eq (tgt := 46) hx hb dX10_sortHere_39 (by decide) (fun _ => ?_) (fun c9 => absurd (by decide) c9)
          refine lv_iconst (v := (-1)) hx hb dX10_sortHere_46 (by decide) ?_
          exact RP (v := (-1)) hC (trivial) rfl dX10_sortHere_47
set_option maxHeartbeats 4000000 in
set_option maxRecDepth 100000 in
theorem t_takesComparison (l : Launch) (G : GG) (K : OO) (h0 : Nat) (tby : Nat) (kt : Nat) (tln : Nat) (tsp : Nat) (tkd : Int32) (ks : Nat) (kn : Nat) (tf9 : Int32) (fby : Nat → Int32) (tspc : Nat) (ksp : Nat) (ftsp : Nat → Int32) (hkt : kt ≤ 240) (hks : ks ≤ 240) (hkn : kn ≤ 240) (hksp : ksp ≤ 120) : MIo l G K yX10_takesComparison cX10_takesComparison 4 (some .boolean) 8 0 0 [.ref h0] [(h0, .inr (10, [.ref tby, .int (nI kt), .ref tln, .ref tsp, .int tkd, .int (nI ks), .int (nI kn), .int tf9])), (tby, .inl (G.2.1, 240, .inl fby)), (tsp, .inr (8, [.int 120, .int 1, .ref tspc, .int (nI ksp)])), (tspc, .inl (G.2.1, 120, .inl ftsp))] (fun (r : Int32) (u : Int32 × Nat × Nat × Int32 × Nat × (Nat → Int32)) => (r = 1 ∨ r = 0) ∧ (u.2.1 ≤ 240 ∧ u.2.2.1 ≤ 240 ∧ u.2.2.2.2.1 ≤ 120)) (fun u : Int32 × Nat × Nat × Int32 × Nat × (Nat → Int32) => [(h0, .inr (10, [.ref tby, .int (nI kt), .ref tln, .ref tsp, .int u.1, .int (nI u.2.1), .int (nI u.2.2.1), .int u.2.2.2.1])), (tby, .inl (G.2.1, 240, .inl fby)), (tsp, .inr (8, [.int 120, .int 1, .ref tspc, .int (nI u.2.2.2.2.1)])), (tspc, .inl (G.2.1, 120, .inl u.2.2.2.2.2))]) := by
  refine MIo.start (by decide +kernel) (Nat.le_of_ble_eq_true rfl) ?_
  intro p e s m below meth c A ls hC hK hP hD hS hA hl hO
  have hl : lv_has ls 4 [(0, .ref h0)] := hl
  obtain ⟨hx, hb, hr, hml, hB, hown, hlocks, hnm⟩ := id hC
  refine lv_aload_n hx hb dX10_takesComparison_0 rfl (lv_at hl 0 rfl) ?_
  refine pVo hO hS hC hK hl hP hD (t_factHere l G K h0 tby kt tln tsp tkd ks kn tf9 fby (by omega) (by omega) (by omega)) si_X10_165 [0, 1] rfl rfl (by decide) rfl rfl rfl rfl rfl (Nat.le_of_ble_eq_true rfl) ⟨Nat.le_of_ble_eq_true rfl, Nat.le_of_ble_eq_true rfl⟩ ⟨by first | exact Nat.le_of_ble_eq_true rfl | exact Nat.zero_le _, by first | exact Nat.le_of_ble_eq_true rfl | exact Nat.zero_le _⟩ dX10_takesComparison_1 (fun r2849 hr2849 => ?_)
  refine lv_istore_n (lv' := [(1, .int r2849), (0, .ref h0)]) hx hb dX10_takesComparison_4 rfl hl (by decide) rfl (fun ls hl => ?_)
  refine lv_iload_n hx hb dX10_takesComparison_5 rfl (lv_at hl 0 rfl) ?_
  refine lv_if_ge (tgt := 14) hx hb dX10_takesComparison_6 (by decide) (fun c_6_2850 => ?_) (fun c_6_2850 => ?_)
  · refine lv_aload_n hx hb dX10_takesComparison_14 rfl (lv_at hl 1 rfl) ?_
    refine vV (wr := [(tsp, .inr (8, [.int 120, .int 1, .ref tspc, .int (nI ksp)])), (tspc, .inl (G.2.1, 120, .inl ftsp))]) hC hK hl hP hD hS hA (t_advance l G h0 tby kt tln tsp tkd ks kn tf9 fby (by omega) (by omega) (by omega)) si_X10_47 [0, 1] [2, 3] rfl rfl (by decide) rfl (by decide) (by decide) rfl rfl rfl rfl rfl (Nat.le_of_ble_eq_true rfl) ⟨Nat.le_of_ble_eq_true rfl, Nat.le_of_ble_eq_true rfl⟩ ⟨Nat.le_of_ble_eq_true rfl, Nat.le_of_ble_eq_true rfl⟩ dX10_takesComparison_15 (fun u2852 H locs hr2851 hP hD hS => ?_)
    obtain ⟨kd12853, ks12854, kn12855⟩ := u2852
    try dsimp only at hr2851
    have hP : va_P G.1 vwCl [(tsp, .inr (8, [.int 120, .int 1, .ref tspc, .int (nI ksp)])), (tspc, .inl (G.2.1, 120, .inl ftsp)), (h0, .inr (10, [.ref tby, .int (nI kt), .ref tln, .ref tsp, .int kd12853, .int (nI ks12854), .int (nI kn12855), .int tf9])), (tby, .inl (G.2.1, 240, .inl fby))] H := hP
    have hD : va_D A [(tsp, .inr (8, [.int 120, .int 1, .ref tspc, .int (nI ksp)])), (tspc, .inl (G.2.1, 120, .inl ftsp)), (h0, .inr (10, [.ref tby, .int (nI kt), .ref tln, .ref tsp, .int kd12853, .int (nI ks12854), .int (nI kn12855), .int tf9])), (tby, .inl (G.2.1, 240, .inl fby))] := hD
    have w2856 := hr2851
    refine lv_aload_n hx hb dX10_takesComparison_18 rfl (lv_at hl 1 rfl) ?_
    refine pV hC hK hl hP hD (t_signHere l G h0 tby kt tln tsp kd12853 (nI ks12854) (nI kn12855) tf9) si_X10_168 [2] rfl rfl (by decide) rfl rfl rfl rfl rfl (Nat.le_of_ble_eq_true rfl) ⟨Nat.le_of_ble_eq_true rfl, Nat.le_of_ble_eq_true rfl⟩ ⟨by first | exact Nat.le_of_ble_eq_true rfl | exact Nat.zero_le _, by first | exact Nat.le_of_ble_eq_true rfl | exact Nat.zero_le _⟩ dX10_takesComparison_19 (fun r2857 hr2857 => ?_)
    refine lv_istore_n (lv' := [(2, .int r2857), (1, .int r2849), (0, .ref h0)]) hx hb dX10_takesComparison_22 rfl hl (by decide) rfl (fun ls hl => ?_)
    refine lv_iload_n hx hb dX10_takesComparison_23 rfl (lv_at hl 0 rfl) ?_
    refine lv_if_ge (tgt := 32) hx hb dX10_takesComparison_24 (by decide) (fun c_24_2858 => ?_) (fun c_24_2858 => ?_)
    · refine lv_aload_n hx hb dX10_takesComparison_32 rfl (lv_at hl 2 rfl) ?_
      refine vV (wr := [(tsp, .inr (8, [.int 120, .int 1, .ref tspc, .int (nI ksp)])), (tspc, .inl (G.2.1, 120, .inl ftsp))]) hC hK hl hP hD hS hA (t_advance l G h0 tby kt tln tsp kd12853 ks12854 kn12855 tf9 fby (by omega) (by omega) (by omega)) si_X10_47 [2, 3] [0, 1] rfl rfl (by decide) rfl (by decide) (by decide) rfl rfl rfl rfl rfl (Nat.le_of_ble_eq_true rfl) ⟨Nat.le_of_ble_eq_true rfl, Nat.le_of_ble_eq_true rfl⟩ ⟨Nat.le_of_ble_eq_true rfl, Nat.le_of_ble_eq_true rfl⟩ dX10_takesComparison_33 (fun u2860 H locs hr2859 hP hD hS => ?_)
      obtain ⟨kd12861, ks12862, kn12863⟩ := u2860
      try dsimp only at hr2859
      have hP : va_P G.1 vwCl [(tsp, .inr (8, [.int 120, .int 1, .ref tspc, .int (nI ksp)])), (tspc, .inl (G.2.1, 120, .inl ftsp)), (h0, .inr (10, [.ref tby, .int (nI kt), .ref tln, .ref tsp, .int kd12861, .int (nI ks12862), .int (nI kn12863), .int tf9])), (tby, .inl (G.2.1, 240, .inl fby))] H := hP
      have hD : va_D A [(tsp, .inr (8, [.int 120, .int 1, .ref tspc, .int (nI ksp)])), (tspc, .inl (G.2.1, 120, .inl ftsp)), (h0, .inr (10, [.ref tby, .int (nI kt), .ref tln, .ref tsp, .int kd12861, .int (nI ks12862), .int (nI kn12863), .int tf9])), (tby, .inl (G.2.1, 240, .inl fby))] := hD
      have w2864 := hr2859
      refine lv_aload_n hx hb dX10_takesComparison_36 rfl (lv_at hl 2 rfl) ?_
      refine pV hC hK hl hP hD (t_numberHere l G h0 tby kt tln tsp kd12861 ks12862 kn12863 tf9 fby (by omega) (by omega) (by omega)) si_X10_109 [2, 3] rfl rfl (by decide) rfl rfl rfl rfl rfl (Nat.le_of_ble_eq_true rfl) ⟨Nat.le_of_ble_eq_true rfl, Nat.le_of_ble_eq_true rfl⟩ ⟨by first | exact Nat.le_of_ble_eq_true rfl | exact Nat.zero_le _, by first | exact Nat.le_of_ble_eq_true rfl | exact Nat.zero_le _⟩ dX10_takesComparison_37 (fun r2865 hr2865 => ?_)
      refine lv_istore_n (lv' := [(3, .int r2865), (2, .int r2857), (1, .int r2849), (0, .ref h0)]) hx hb dX10_takesComparison_40 rfl hl (by decide) rfl (fun ls hl => ?_)
      refine lv_iload_n hx hb dX10_takesComparison_41 rfl (lv_at hl 0 rfl) ?_
      refine lv_if_ge (tgt := 50) hx hb dX10_takesComparison_42 (by decide) (fun c_42_2866 => ?_) (fun c_42_2866 => ?_)
      · refine lv_aload_n hx hb dX10_takesComparison_50 rfl (lv_at hl 3 rfl) ?_
        refine vV (wr := [(tsp, .inr (8, [.int 120, .int 1, .ref tspc, .int (nI ksp)])), (tspc, .inl (G.2.1, 120, .inl ftsp))]) hC hK hl hP hD hS hA (t_advance l G h0 tby kt tln tsp kd12861 ks12862 kn12863 tf9 fby (by omega) (by omega) (by omega)) si_X10_47 [2, 3] [0, 1] rfl rfl (by decide) rfl (by decide) (by decide) rfl rfl rfl rfl rfl (Nat.le_of_ble_eq_true rfl) ⟨Nat.le_of_ble_eq_true rfl, Nat.le_of_ble_eq_true rfl⟩ ⟨Nat.le_of_ble_eq_true rfl, Nat.le_of_ble_eq_true rfl⟩ dX10_takesComparison_51 (fun u2868 H locs hr2867 hP hD hS => ?_)
        obtain ⟨kd12869, ks12870, kn12871⟩ := u2868
        try dsimp only at hr2867
        have hP : va_P G.1 vwCl [(tsp, .inr (8, [.int 120, .int 1, .ref tspc, .int (nI ksp)])), (tspc, .inl (G.2.1, 120, .inl ftsp)), (h0, .inr (10, [.ref tby, .int (nI kt), .ref tln, .ref tsp, .int kd12869, .int (nI ks12870), .int (nI kn12871), .int tf9])), (tby, .inl (G.2.1, 240, .inl fby))] H := hP
        have hD : va_D A [(tsp, .inr (8, [.int 120, .int 1, .ref tspc, .int (nI ksp)])), (tspc, .inl (G.2.1, 120, .inl ftsp)), (h0, .inr (10, [.ref tby, .int (nI kt), .ref tln, .ref tsp, .int kd12869, .int (nI ks12870), .int (nI kn12871), .int tf9])), (tby, .inl (G.2.1, 240, .inl fby))] := hD
        have w2872 := hr2867
        refine lv_aload_n hx hb dX10_takesComparison_54 rfl (lv_at hl 3 rfl) ?_
        refine lv_iload_n hx hb dX10_takesComparison_55 rfl (lv_at hl 2 rfl) ?_
        refine lv_iconst (v := 3) hx hb dX10_takesComparison_56 (by decide) ?_
        refine lv_imul hx hb dX10_takesComparison_57 ?_
        refine lv_iload_n hx hb dX10_takesComparison_58 rfl (lv_at hl 1 rfl) ?_
        refine lv_iadd hx hb dX10_takesComparison_59 ?_
        refine lv_sipush (v := 1000) hx hb dX10_takesComparison_60 (by decide) ?_
        refine lv_imul hx hb dX10_takesComparison_63 ?_
        refine lv_iload_n hx hb dX10_takesComparison_64 rfl (lv_at hl 0 rfl) ?_
        refine lv_iadd hx hb dX10_takesComparison_65 ?_
        refine vV (wr := [(tby, .inl (G.2.1, 240, .inl fby))]) hC hK hl hP hD hS hA (t_addStep l G h0 ((((r2849 * 3) + r2857) * 1000) + r2865) tby kt tln tsp kd12869 ks12870 kn12871 tf9 tspc ksp ftsp (by omega)) si_X10_152 [2, 0, 1] [3] rfl rfl (by decide) rfl (by decide) (by decide) rfl rfl rfl rfl rfl (Nat.le_of_ble_eq_true rfl) ⟨Nat.le_of_ble_eq_true rfl, Nat.le_of_ble_eq_true rfl⟩ ⟨Nat.le_of_ble_eq_true rfl, Nat.le_of_ble_eq_true rfl⟩ dX10_takesComparison_66 (fun u2874 H locs hr2873 hP hD hS => ?_)
        obtain ⟨ksp12875, gtsp2876⟩ := u2874
        try dsimp only at hr2873
        have hP : va_P G.1 vwCl [(tby, .inl (G.2.1, 240, .inl fby)), (h0, .inr (10, [.ref tby, .int (nI kt), .ref tln, .ref tsp, .int kd12869, .int (nI ks12870), .int (nI kn12871), .int tf9])), (tsp, .inr (8, [.int 120, .int 1, .ref tspc, .int (nI ksp12875)])), (tspc, .inl (G.2.1, 120, .inl gtsp2876))] H := hP
        have hD : va_D A [(tby, .inl (G.2.1, 240, .inl fby)), (h0, .inr (10, [.ref tby, .int (nI kt), .ref tln, .ref tsp, .int kd12869, .int (nI ks12870), .int (nI kn12871), .int tf9])), (tsp, .inr (8, [.int 120, .int 1, .ref tspc, .int (nI ksp12875)])), (tspc, .inl (G.2.1, 120, .inl gtsp2876))] := hD
        have w2877 := hr2873
        refine lv_iconst (v := 1) hx hb dX10_takesComparison_69 (by decide) ?_
        exact RI (v := 1) hC hP hD hS [1, 0, 2, 3] (kd12869, ks12870, kn12871, tf9, ksp12875, gtsp2876) rfl rfl (by decide) (⟨Or.inl (rfl), by dsimp only; omega⟩) (by decide +kernel) dX10_takesComparison_70
      · refine lv_aload_n hx hb dX10_takesComparison_45 rfl (lv_at hl 3 rfl) ?_
        refine iV (wr := [(tsp, .inr (8, [.int 120, .int 1, .ref tspc, .int (nI ksp)])), (tspc, .inl (G.2.1, 120, .inl ftsp)), (tby, .inl (G.2.1, 240, .inl fby))]) hC hK hl hP hD hS hA (t_refuse l G h0 tby kt tln tsp kd12861 ks12862 kn12863 tf9) si_X10_106 [2] [0, 1, 3] rfl rfl (by decide) rfl (by decide) (by decide) rfl rfl rfl rfl rfl (Nat.le_of_ble_eq_true rfl) ⟨Nat.le_of_ble_eq_true rfl, Nat.le_of_ble_eq_true rfl⟩ ⟨Nat.le_of_ble_eq_true rfl, Nat.le_of_ble_eq_true rfl⟩ dX10_takesComparison_46 (fun r2878 u2879 H locs hr2878 hP hD hS => ?_)
        obtain ⟨tf12880, rfl⟩ : ∃ z9, z9 = u2879 := ⟨_, rfl⟩
        try dsimp only at hr2878
        have hP : va_P G.1 vwCl [(tsp, .inr (8, [.int 120, .int 1, .ref tspc, .int (nI ksp)])), (tspc, .inl (G.2.1, 120, .inl ftsp)), (tby, .inl (G.2.1, 240, .inl fby)), (h0, .inr (10, [.ref tby, .int (nI kt), .ref tln, .ref tsp, .int kd12861, .int (nI ks12862), .int (nI kn12863), .int tf12880]))] H := hP
        have hD : va_D A [(tsp, .inr (8, [.int 120, .int 1, .ref tspc, .int (nI ksp)])), (tspc, .inl (G.2.1, 120, .inl ftsp)), (tby, .inl (G.2.1, 240, .inl fby)), (h0, .inr (10, [.ref tby, .int (nI kt), .ref tln, .ref tsp, .int kd12861, .int (nI ks12862), .int (nI kn12863), .int tf12880]))] := hD
        obtain rfl := hr2878
        exact RI (v := 0) hC hP hD hS [3, 2, 0, 1] (kd12861, ks12862, kn12863, tf12880, ksp, ftsp) rfl rfl (by decide) (⟨Or.inr (rfl), by dsimp only; omega⟩) (by decide +kernel) dX10_takesComparison_49
    · refine lv_aload_n hx hb dX10_takesComparison_27 rfl (lv_at hl 2 rfl) ?_
      refine iV (wr := [(tsp, .inr (8, [.int 120, .int 1, .ref tspc, .int (nI ksp)])), (tspc, .inl (G.2.1, 120, .inl ftsp)), (tby, .inl (G.2.1, 240, .inl fby))]) hC hK hl hP hD hS hA (t_refuse l G h0 tby kt tln tsp kd12853 ks12854 kn12855 tf9) si_X10_106 [2] [0, 1, 3] rfl rfl (by decide) rfl (by decide) (by decide) rfl rfl rfl rfl rfl (Nat.le_of_ble_eq_true rfl) ⟨Nat.le_of_ble_eq_true rfl, Nat.le_of_ble_eq_true rfl⟩ ⟨Nat.le_of_ble_eq_true rfl, Nat.le_of_ble_eq_true rfl⟩ dX10_takesComparison_28 (fun r2882 u2883 H locs hr2882 hP hD hS => ?_)
      obtain ⟨tf12884, rfl⟩ : ∃ z9, z9 = u2883 := ⟨_, rfl⟩
      try dsimp only at hr2882
      have hP : va_P G.1 vwCl [(tsp, .inr (8, [.int 120, .int 1, .ref tspc, .int (nI ksp)])), (tspc, .inl (G.2.1, 120, .inl ftsp)), (tby, .inl (G.2.1, 240, .inl fby)), (h0, .inr (10, [.ref tby, .int (nI kt), .ref tln, .ref tsp, .int kd12853, .int (nI ks12854), .int (nI kn12855), .int tf12884]))] H := hP
      have hD : va_D A [(tsp, .inr (8, [.int 120, .int 1, .ref tspc, .int (nI ksp)])), (tspc, .inl (G.2.1, 120, .inl ftsp)), (tby, .inl (G.2.1, 240, .inl fby)), (h0, .inr (10, [.ref tby, .int (nI kt), .ref tln, .ref tsp, .int kd12853, .int (nI ks12854), .int (nI kn12855), .int tf12884]))] := hD
      obtain rfl := hr2882
      exact RI (v := 0) hC hP hD hS [3, 2, 0, 1] (kd12853, ks12854, kn12855, tf12884, ksp, ftsp) rfl rfl (by decide) (⟨Or.inr (rfl), by dsimp only; omega⟩) (by decide +kernel) dX10_takesComparison_31
  · refine lv_aload_n hx hb dX10_takesComparison_9 rfl (lv_at hl 1 rfl) ?_
    refine iV (wr := [(tby, .inl (G.2.1, 240, .inl fby)), (tsp, .inr (8, [.int 120, .int 1, .ref tspc, .int (nI ksp)])), (tspc, .inl (G.2.1, 120, .inl ftsp))]) hC hK hl hP hD hS hA (t_refuse l G h0 tby kt tln tsp tkd ks kn tf9) si_X10_106 [0] [1, 2, 3] rfl rfl (by decide) rfl (by decide) (by decide) rfl rfl rfl rfl rfl (Nat.le_of_ble_eq_true rfl) ⟨Nat.le_of_ble_eq_true rfl, Nat.le_of_ble_eq_true rfl⟩ ⟨Nat.le_of_ble_eq_true rfl, Nat.le_of_ble_eq_true rfl⟩ dX10_takesComparison_10 (fun r2886 u2887 H locs hr2886 hP hD hS => ?_)
    obtain ⟨tf12888, rfl⟩ : ∃ z9, z9 = u2887 := ⟨_, rfl⟩
    try dsimp only at hr2886
    have hP : va_P G.1 vwCl [(tby, .inl (G.2.1, 240, .inl fby)), (tsp, .inr (8, [.int 120, .int 1, .ref tspc, .int (nI ksp)])), (tspc, .inl (G.2.1, 120, .inl ftsp)), (h0, .inr (10, [.ref tby, .int (nI kt), .ref tln, .ref tsp, .int tkd, .int (nI ks), .int (nI kn), .int tf12888]))] H := hP
    have hD : va_D A [(tby, .inl (G.2.1, 240, .inl fby)), (tsp, .inr (8, [.int 120, .int 1, .ref tspc, .int (nI ksp)])), (tspc, .inl (G.2.1, 120, .inl ftsp)), (h0, .inr (10, [.ref tby, .int (nI kt), .ref tln, .ref tsp, .int tkd, .int (nI ks), .int (nI kn), .int tf12888]))] := hD
    obtain rfl := hr2886
    exact RI (v := 0) hC hP hD hS [3, 0, 1, 2] (tkd, ks, kn, tf12888, ksp, ftsp) rfl rfl (by decide) (⟨Or.inr (rfl), by dsimp only; omega⟩) (by decide +kernel) dX10_takesComparison_13
set_option maxHeartbeats 4000000 in
set_option maxRecDepth 100000 in
theorem t_one4 (l : Launch) (G : GG) (K : OO) (h0 : Nat) (tby : Nat) (kt : Nat) (tln : Nat) (tsp : Nat) (tkd : Int32) (ks : Nat) (kn : Nat) (tf9 : Int32) (fby : Nat → Int32) (tspc : Nat) (ksp : Nat) (ftsp : Nat → Int32) (hkt : kt ≤ 240) (hks : ks ≤ 240) (hkn : kn ≤ 240) (hksp : ksp ≤ 120) : MIo l G K yX10_takesOne cX10_takesOne 4 (some .boolean) 9 0 0 [.ref h0, .int 4] [(h0, .inr (10, [.ref tby, .int (nI kt), .ref tln, .ref tsp, .int tkd, .int (nI ks), .int (nI kn), .int tf9])), (tby, .inl (G.2.1, 240, .inl fby)), (tsp, .inr (8, [.int 120, .int 1, .ref tspc, .int (nI ksp)])), (tspc, .inl (G.2.1, 120, .inl ftsp))] (fun (r : Int32) (u : Int32 × Nat × Nat × Int32 × Nat × (Nat → Int32)) => (r = 1 ∨ r = 0) ∧ (u.2.1 ≤ 240 ∧ u.2.2.1 ≤ 240 ∧ u.2.2.2.2.1 ≤ 120)) (fun u : Int32 × Nat × Nat × Int32 × Nat × (Nat → Int32) => [(h0, .inr (10, [.ref tby, .int (nI kt), .ref tln, .ref tsp, .int u.1, .int (nI u.2.1), .int (nI u.2.2.1), .int u.2.2.2.1])), (tby, .inl (G.2.1, 240, .inl fby)), (tsp, .inr (8, [.int 120, .int 1, .ref tspc, .int (nI u.2.2.2.2.1)])), (tspc, .inl (G.2.1, 120, .inl u.2.2.2.2.2))]) := by
  refine MIo.start (by decide +kernel) (Nat.le_of_ble_eq_true rfl) ?_
  intro p e s m below meth c A ls hC hK hP hD hS hA hl hO
  have hl : lv_has ls 4 [(0, .ref h0), (1, .int 4)] := hl
  obtain ⟨hx, hb, hr, hml, hB, hown, hlocks, hnm⟩ := id hC
  refine lv_iconst (v := 0) hx hb dX10_takesOne_0 (by decide) ?_
  refine lv_istore_n (lv' := [(2, .int 0), (0, .ref h0), (1, .int 4)]) hx hb dX10_takesOne_1 rfl hl (by decide) rfl (fun ls hl => ?_)
  refine lv_iconst (v := 0) hx hb dX10_takesOne_2 (by decide) ?_
  refine lv_istore_n (lv' := [(3, .int 0), (2, .int 0), (0, .ref h0), (1, .int 4)]) hx hb dX10_takesOne_3 rfl hl (by decide) rfl (fun ls hl => ?_)
  have keyP : ∀ (nP kP : Nat) (tu : Int32) (vkd : Int32) (vtf : Int32) (vks : Nat) (vkn : Nat) (H : Heap) (locs : List Loc) (ls : Array Slot), kP + nP = 240 → (vks ≤ 240) → (vkn ≤ 240) → va_P G.1 vwCl [(h0, .inr (10, [.ref tby, .int (nI kt), .ref tln, .ref tsp, .int vkd, .int (nI vks), .int (nI vkn), .int vtf])), (tby, .inl (G.2.1, 240, .inl fby)), (tsp, .inr (8, [.int 120, .int 1, .ref tspc, .int (nI ksp)])), (tspc, .inl (G.2.1, 120, .inl ftsp))] H → va_D A [(h0, .inr (10, [.ref tby, .int (nI kt), .ref tln, .ref tsp, .int vkd, .int (nI vks), .int (nI vkn), .int vtf])), (tby, .inl (G.2.1, 240, .inl fby)), (tsp, .inr (8, [.int 120, .int 1, .ref tspc, .int (nI ksp)])), (tspc, .inl (G.2.1, 120, .inl ftsp))] → va_S A s.heap H locs → lv_has ls 4 [(3, .int (nI kP)), (2, .int tu), (0, .ref h0), (1, .int 4)] → W p l e (RM 9 0 0) s m ([.ref h0, .int 4] : List Value).toArray below meth c H locs 0 0 (MQ below (QI G (fun (r : Int32) (u : Int32 × Nat × Nat × Int32 × Nat × (Nat → Int32)) => (r = 1 ∨ r = 0) ∧ (u.2.1 ≤ 240 ∧ u.2.2.1 ≤ 240 ∧ u.2.2.2.2.1 ≤ 120)) (fun u : Int32 × Nat × Nat × Int32 × Nat × (Nat → Int32) => [(h0, .inr (10, [.ref tby, .int (nI kt), .ref tln, .ref tsp, .int u.1, .int (nI u.2.1), .int (nI u.2.2.1), .int u.2.2.2.1])), (tby, .inl (G.2.1, 240, .inl fby)), (tsp, .inr (8, [.int 120, .int 1, .ref tspc, .int (nI u.2.2.2.2.1)])), (tspc, .inl (G.2.1, 120, .inl u.2.2.2.2.2))]) A) ([.ref h0, .int 4] : List Value).toArray s 0 0 A) (F0 m 4 ls []) := by
    intro nP
    induction nP with
    | zero =>
      intro kP tu vkd vtf vks vkn H locs ls hkP hvks hvkn hP hD hS hl
      obtain rfl : 240 = kP := by omega
      have hl : lv_has ls 4 [(3, .int 240), (2, .int tu), (0, .ref h0), (1, .int 4)] := hl
      refine lv_iload_n hx hb dX10_takesOne_4 rfl (lv_at hl 0 rfl) ?_
      refine lv_sipush (v := 240) hx hb dX10_takesOne_5 (by decide) ?_
      refine lv_icmp_ge (tgt := 40) hx hb dX10_takesOne_8 (by decide) (fun _ => ?_) (fun c9 => absurd (by decide) c9)
      refine lv_aload_n hx hb dX10_takesOne_40 rfl (lv_at hl 2 rfl) ?_
      refine gf_X10_31 hC rfl hK hP 0 rfl rfl dX10_takesOne_41 ?_
      refine lv_bipush (v := 40) hx hb dX10_takesOne_44 (by decide) ?_
      refine lv_icmp_eq (tgt := 58) hx hb dX10_takesOne_46 (by decide) (fun c_46_2890 => ?_) (fun c_46_2890 => ?_)
      · refine lv_iload_n hx hb dX10_takesOne_58 rfl (lv_at hl 3 rfl) ?_
        refine lv_iconst (v := 4) hx hb dX10_takesOne_59 (by decide) ?_
        refine lv_icmp_lt (tgt := 68) hx hb dX10_takesOne_60 (by decide) (fun c9 => absurd c9 (by decide)) (fun _ => ?_)
        refine lv_aload_n hx hb dX10_takesOne_63 rfl (lv_at hl 2 rfl) ?_
        refine iV (wr := [(tby, .inl (G.2.1, 240, .inl fby)), (tsp, .inr (8, [.int 120, .int 1, .ref tspc, .int (nI ksp)])), (tspc, .inl (G.2.1, 120, .inl ftsp))]) hC hK hl hP hD hS hA (t_refuse l G h0 tby kt tln tsp vkd vks vkn vtf) si_X10_106 [0] [1, 2, 3] rfl rfl (by decide) rfl (by decide) (by decide) rfl rfl rfl rfl rfl (Nat.le_of_ble_eq_true rfl) ⟨Nat.le_of_ble_eq_true rfl, Nat.le_of_ble_eq_true rfl⟩ ⟨Nat.le_of_ble_eq_true rfl, Nat.le_of_ble_eq_true rfl⟩ dX10_takesOne_64 (fun r2891 u2892 H locs hr2891 hP hD hS => ?_)
        obtain ⟨tf12893, rfl⟩ : ∃ z9, z9 = u2892 := ⟨_, rfl⟩
        try dsimp only at hr2891
        have hP : va_P G.1 vwCl [(tby, .inl (G.2.1, 240, .inl fby)), (tsp, .inr (8, [.int 120, .int 1, .ref tspc, .int (nI ksp)])), (tspc, .inl (G.2.1, 120, .inl ftsp)), (h0, .inr (10, [.ref tby, .int (nI kt), .ref tln, .ref tsp, .int vkd, .int (nI vks), .int (nI vkn), .int tf12893]))] H := hP
        have hD : va_D A [(tby, .inl (G.2.1, 240, .inl fby)), (tsp, .inr (8, [.int 120, .int 1, .ref tspc, .int (nI ksp)])), (tspc, .inl (G.2.1, 120, .inl ftsp)), (h0, .inr (10, [.ref tby, .int (nI kt), .ref tln, .ref tsp, .int vkd, .int (nI vks), .int (nI vkn), .int tf12893]))] := hD
        obtain rfl := hr2891
        exact RI (v := 0) hC hP hD hS [3, 0, 1, 2] (vkd, vks, vkn, tf12893, ksp, ftsp) rfl rfl (by decide) (⟨Or.inr (rfl), by dsimp only; omega⟩) (by decide +kernel) dX10_takesOne_67
      · refine lv_aload_n hx hb dX10_takesOne_49 rfl (lv_at hl 2 rfl) ?_
        refine iVo (wr := []) hO hC hK hl hP hD hS hA (t_takesComparison l G K h0 tby kt tln tsp vkd vks vkn vtf fby tspc ksp ftsp (by omega) (by omega) (by omega) (by omega)) si_X10_162 [0, 1, 2, 3] [] rfl rfl (by decide) rfl (by decide) (by decide) rfl rfl rfl rfl rfl (Nat.le_of_ble_eq_true rfl) ⟨Nat.le_of_ble_eq_true rfl, Nat.le_of_ble_eq_true rfl⟩ ⟨Nat.le_of_ble_eq_true rfl, Nat.le_of_ble_eq_true rfl⟩ dX10_takesOne_50 (fun r2895 u2896 H locs hr2895 hP hD hS => ?_)
        obtain ⟨kd12897, ks12898, kn12899, tf12900, ksp12901, gtsp2902⟩ := u2896
        try dsimp only at hr2895
        have hP : va_P G.1 vwCl [(h0, .inr (10, [.ref tby, .int (nI kt), .ref tln, .ref tsp, .int kd12897, .int (nI ks12898), .int (nI kn12899), .int tf12900])), (tby, .inl (G.2.1, 240, .inl fby)), (tsp, .inr (8, [.int 120, .int 1, .ref tspc, .int (nI ksp12901)])), (tspc, .inl (G.2.1, 120, .inl gtsp2902))] H := hP
        have hD : va_D A [(h0, .inr (10, [.ref tby, .int (nI kt), .ref tln, .ref tsp, .int kd12897, .int (nI ks12898), .int (nI kn12899), .int tf12900])), (tby, .inl (G.2.1, 240, .inl fby)), (tsp, .inr (8, [.int 120, .int 1, .ref tspc, .int (nI ksp12901)])), (tspc, .inl (G.2.1, 120, .inl gtsp2902))] := hD
        obtain ⟨hr2895, w2903⟩ := hr2895
        rcases hr2895 with rfl | rfl
        · refine lv_if_ne (tgt := 93) hx hb dX10_takesOne_53 (by decide) (fun _ => ?_) (fun c9 => absurd c9 (by decide))
          refine lv_iload_n hx hb dX10_takesOne_93 rfl (lv_at hl 1 rfl) ?_
          refine lv_if_eq (tgt := 102) hx hb dX10_takesOne_94 (by decide) (fun c_94_2905 => ?_) (fun c_94_2905 => ?_)
          · refine lv_iconst (v := 1) hx hb dX10_takesOne_102 (by decide) ?_
            exact RI (v := 1) hC hP hD hS [0, 1, 2, 3] (kd12897, ks12898, kn12899, tf12900, ksp12901, gtsp2902) rfl rfl (by decide) (⟨Or.inl (rfl), by dsimp only; omega⟩) (by decide +kernel) dX10_takesOne_103
          · refine lv_aload_n hx hb dX10_takesOne_97 rfl (lv_at hl 2 rfl) ?_
            refine lv_iconst (v := (-1)) hx hb dX10_takesOne_98 (by decide) ?_
            refine vV (wr := [(tby, .inl (G.2.1, 240, .inl fby))]) hC hK hl hP hD hS hA (t_addStep l G h0 (-1) tby kt tln tsp kd12897 ks12898 kn12899 tf12900 tspc ksp12901 gtsp2902 (by omega)) si_X10_152 [0, 2, 3] [1] rfl rfl (by decide) rfl (by decide) (by decide) rfl rfl rfl rfl rfl (Nat.le_of_ble_eq_true rfl) ⟨Nat.le_of_ble_eq_true rfl, Nat.le_of_ble_eq_true rfl⟩ ⟨Nat.le_of_ble_eq_true rfl, Nat.le_of_ble_eq_true rfl⟩ dX10_takesOne_99 (fun u2907 H locs hr2906 hP hD hS => ?_)
            obtain ⟨ksp12908, gtsp2909⟩ := u2907
            try dsimp only at hr2906
            have hP : va_P G.1 vwCl [(tby, .inl (G.2.1, 240, .inl fby)), (h0, .inr (10, [.ref tby, .int (nI kt), .ref tln, .ref tsp, .int kd12897, .int (nI ks12898), .int (nI kn12899), .int tf12900])), (tsp, .inr (8, [.int 120, .int 1, .ref tspc, .int (nI ksp12908)])), (tspc, .inl (G.2.1, 120, .inl gtsp2909))] H := hP
            have hD : va_D A [(tby, .inl (G.2.1, 240, .inl fby)), (h0, .inr (10, [.ref tby, .int (nI kt), .ref tln, .ref tsp, .int kd12897, .int (nI ks12898), .int (nI kn12899), .int tf12900])), (tsp, .inr (8, [.int 120, .int 1, .ref tspc, .int (nI ksp12908)])), (tspc, .inl (G.2.1, 120, .inl gtsp2909))] := hD
            have w2910 := hr2906
            refine lv_iconst (v := 1) hx hb dX10_takesOne_102 (by decide) ?_
            exact RI (v := 1) hC hP hD hS [1, 0, 2, 3] (kd12897, ks12898, kn12899, tf12900, ksp12908, gtsp2909) rfl rfl (by decide) (⟨Or.inl (rfl), by dsimp only; omega⟩) (by decide +kernel) dX10_takesOne_103
        · refine lv_if_ne (tgt := 93) hx hb dX10_takesOne_53 (by decide) (fun c9 => absurd (by decide) c9) (fun _ => ?_)
          refine lv_iconst (v := 0) hx hb dX10_takesOne_56 (by decide) ?_
          exact RI (v := 0) hC hP hD hS [0, 1, 2, 3] (kd12897, ks12898, kn12899, tf12900, ksp12901, gtsp2902) rfl rfl (by decide) (⟨Or.inr (rfl), by dsimp only; omega⟩) (by decide +kernel) dX10_takesOne_57
    | succ nP ihP =>
      intro kP tu vkd vtf vks vkn H locs ls hkP hvks hvkn hP hD hS hl
      refine lv_iload_n hx hb dX10_takesOne_4 rfl (lv_at hl 0 rfl) ?_
      refine lv_sipush (v := 240) hx hb dX10_takesOne_5 (by decide) ?_
      refine lv_icmp_ge (tgt := 40) hx hb dX10_takesOne_8 (by decide) (fun c9 => absurd c9 (nI_ge (a := kP) (b := 240) (by omega) (by omega))) (fun _ => ?_)
      refine lv_aload_n hx hb dX10_takesOne_11 rfl (lv_at hl 2 rfl) ?_
      refine va_ldcS (index := 160) (tx := "not") hx hb hown (hO.2.1 10 (by decide)) dX10_takesOne_12 ?_
      refine pVo hO hS hC hK hl hP hD (t_isName l G K 10 h0 tby kt tln tsp vkd vks vkn vtf fby (by omega) (by omega) (by omega) ((by decide))) si_X10_102 [0, 1] rfl rfl (by decide) rfl rfl rfl rfl rfl (Nat.le_of_ble_eq_true rfl) ⟨Nat.le_of_ble_eq_true rfl, Nat.le_of_ble_eq_true rfl⟩ ⟨by first | exact Nat.le_of_ble_eq_true rfl | exact Nat.zero_le _, by first | exact Nat.le_of_ble_eq_true rfl | exact Nat.zero_le _⟩ dX10_takesOne_14 (fun r2911 hr2911 => ?_)
      rcases hr2911 with rfl | rfl
      · refine lv_if_eq (tgt := 40) hx hb dX10_takesOne_17 (by decide) (fun c9 => absurd c9 (by decide)) (fun _ => ?_)
        refine lv_aload_n hx hb dX10_takesOne_20 rfl (lv_at hl 2 rfl) ?_
        refine vV (wr := [(tsp, .inr (8, [.int 120, .int 1, .ref tspc, .int (nI ksp)])), (tspc, .inl (G.2.1, 120, .inl ftsp))]) hC hK hl hP hD hS hA (t_advance l G h0 tby kt tln tsp vkd vks vkn vtf fby (by omega) (by omega) (by omega)) si_X10_47 [0, 1] [2, 3] rfl rfl (by decide) rfl (by decide) (by decide) rfl rfl rfl rfl rfl (Nat.le_of_ble_eq_true rfl) ⟨Nat.le_of_ble_eq_true rfl, Nat.le_of_ble_eq_true rfl⟩ ⟨Nat.le_of_ble_eq_true rfl, Nat.le_of_ble_eq_true rfl⟩ dX10_takesOne_21 (fun u2914 H locs hr2913 hP hD hS => ?_)
        obtain ⟨kd12915, ks12916, kn12917⟩ := u2914
        try dsimp only at hr2913
        have hP : va_P G.1 vwCl [(tsp, .inr (8, [.int 120, .int 1, .ref tspc, .int (nI ksp)])), (tspc, .inl (G.2.1, 120, .inl ftsp)), (h0, .inr (10, [.ref tby, .int (nI kt), .ref tln, .ref tsp, .int kd12915, .int (nI ks12916), .int (nI kn12917), .int vtf])), (tby, .inl (G.2.1, 240, .inl fby))] H := hP
        have hD : va_D A [(tsp, .inr (8, [.int 120, .int 1, .ref tspc, .int (nI ksp)])), (tspc, .inl (G.2.1, 120, .inl ftsp)), (h0, .inr (10, [.ref tby, .int (nI kt), .ref tln, .ref tsp, .int kd12915, .int (nI ks12916), .int (nI kn12917), .int vtf])), (tby, .inl (G.2.1, 240, .inl fby))] := hD
        have w2918 := hr2913
        refine lv_iload_n hx hb dX10_takesOne_24 rfl (lv_at hl 1 rfl) ?_
        refine lv_if_ne (tgt := 32) hx hb dX10_takesOne_25 (by decide) (fun c_25_2919 => ?_) (fun c_25_2919 => ?_)
        · refine lv_iconst (v := 0) hx hb dX10_takesOne_32 (by decide) ?_
          refine lv_istore_n (lv' := [(2, .int 0), (3, .int (nI kP)), (0, .ref h0), (1, .int 4)]) hx hb dX10_takesOne_33 rfl hl (by decide) rfl (fun ls hl => ?_)
          refine lv_iinc (v := nI (kP + 1)) (lv' := [(3, .int (nI (kP + 1))), (2, .int 0), (0, .ref h0), (1, .int 4)]) hx hb dX10_takesOne_34 hl (k := 1) rfl (nI_1 _) (by decide) rfl (fun ls hl => ?_)
          refine lv_goto (tgt := 4) hx hb dX10_takesOne_37 (by decide) ?_
          have hP := hP.sub (ws' := [(h0, .inr (10, [.ref tby, .int (nI kt), .ref tln, .ref tsp, .int kd12915, .int (nI ks12916), .int (nI kn12917), .int vtf])), (tby, .inl (G.2.1, 240, .inl fby)), (tsp, .inr (8, [.int 120, .int 1, .ref tspc, .int (nI ksp)])), (tspc, .inl (G.2.1, 120, .inl ftsp))]) [2, 3, 0, 1] rfl
          have hD := hD.sub (ws' := [(h0, .inr (10, [.ref tby, .int (nI kt), .ref tln, .ref tsp, .int kd12915, .int (nI ks12916), .int (nI kn12917), .int vtf])), (tby, .inl (G.2.1, 240, .inl fby)), (tsp, .inr (8, [.int 120, .int 1, .ref tspc, .int (nI ksp)])), (tspc, .inl (G.2.1, 120, .inl ftsp))]) [2, 3, 0, 1] (by decide) rfl
          exact ihP (kP + 1) 0 kd12915 vtf ks12916 kn12917 _ _ _ (by omega) (by first | assumption | exact Or.inl rfl | exact Or.inr rfl | omega) (by first | assumption | exact Or.inl rfl | exact Or.inr rfl | omega) hP hD hS (lv_sub hl [0, 1, 2, 3] rfl)
        · refine lv_iconst (v := 1) hx hb dX10_takesOne_28 (by decide) ?_
          refine lv_goto (tgt := 33) hx hb dX10_takesOne_29 (by decide) ?_
          refine lv_istore_n (lv' := [(2, .int 1), (3, .int (nI kP)), (0, .ref h0), (1, .int 4)]) hx hb dX10_takesOne_33 rfl hl (by decide) rfl (fun ls hl => ?_)
          refine lv_iinc (v := nI (kP + 1)) (lv' := [(3, .int (nI (kP + 1))), (2, .int 1), (0, .ref h0), (1, .int 4)]) hx hb dX10_takesOne_34 hl (k := 1) rfl (nI_1 _) (by decide) rfl (fun ls hl => ?_)
          refine lv_goto (tgt := 4) hx hb dX10_takesOne_37 (by decide) ?_
          have hP := hP.sub (ws' := [(h0, .inr (10, [.ref tby, .int (nI kt), .ref tln, .ref tsp, .int kd12915, .int (nI ks12916), .int (nI kn12917), .int vtf])), (tby, .inl (G.2.1, 240, .inl fby)), (tsp, .inr (8, [.int 120, .int 1, .ref tspc, .int (nI ksp)])), (tspc, .inl (G.2.1, 120, .inl ftsp))]) [2, 3, 0, 1] rfl
          have hD := hD.sub (ws' := [(h0, .inr (10, [.ref tby, .int (nI kt), .ref tln, .ref tsp, .int kd12915, .int (nI ks12916), .int (nI kn12917), .int vtf])), (tby, .inl (G.2.1, 240, .inl fby)), (tsp, .inr (8, [.int 120, .int 1, .ref tspc, .int (nI ksp)])), (tspc, .inl (G.2.1, 120, .inl ftsp))]) [2, 3, 0, 1] (by decide) rfl
          exact ihP (kP + 1) 1 kd12915 vtf ks12916 kn12917 _ _ _ (by omega) (by first | assumption | exact Or.inl rfl | exact Or.inr rfl | omega) (by first | assumption | exact Or.inl rfl | exact Or.inr rfl | omega) hP hD hS (lv_sub hl [0, 1, 2, 3] rfl)
      · refine lv_if_eq (tgt := 40) hx hb dX10_takesOne_17 (by decide) (fun _ => ?_) (fun c9 => absurd (by decide) c9)
        refine lv_aload_n hx hb dX10_takesOne_40 rfl (lv_at hl 2 rfl) ?_
        refine gf_X10_31 hC rfl hK hP 0 rfl rfl dX10_takesOne_41 ?_
        refine lv_bipush (v := 40) hx hb dX10_takesOne_44 (by decide) ?_
        refine lv_icmp_eq (tgt := 58) hx hb dX10_takesOne_46 (by decide) (fun c_46_2920 => ?_) (fun c_46_2920 => ?_)
        · refine lv_iload_n hx hb dX10_takesOne_58 rfl (lv_at hl 3 rfl) ?_
          refine lv_iconst (v := 4) hx hb dX10_takesOne_59 (by decide) ?_
          refine lv_icmp_lt (tgt := 68) hx hb dX10_takesOne_60 (by decide) (fun c9 => absurd c9 (by decide)) (fun _ => ?_)
          refine lv_aload_n hx hb dX10_takesOne_63 rfl (lv_at hl 2 rfl) ?_
          refine iV (wr := [(tby, .inl (G.2.1, 240, .inl fby)), (tsp, .inr (8, [.int 120, .int 1, .ref tspc, .int (nI ksp)])), (tspc, .inl (G.2.1, 120, .inl ftsp))]) hC hK hl hP hD hS hA (t_refuse l G h0 tby kt tln tsp vkd vks vkn vtf) si_X10_106 [0] [1, 2, 3] rfl rfl (by decide) rfl (by decide) (by decide) rfl rfl rfl rfl rfl (Nat.le_of_ble_eq_true rfl) ⟨Nat.le_of_ble_eq_true rfl, Nat.le_of_ble_eq_true rfl⟩ ⟨Nat.le_of_ble_eq_true rfl, Nat.le_of_ble_eq_true rfl⟩ dX10_takesOne_64 (fun r2921 u2922 H locs hr2921 hP hD hS => ?_)
          obtain ⟨tf12923, rfl⟩ : ∃ z9, z9 = u2922 := ⟨_, rfl⟩
          try dsimp only at hr2921
          have hP : va_P G.1 vwCl [(tby, .inl (G.2.1, 240, .inl fby)), (tsp, .inr (8, [.int 120, .int 1, .ref tspc, .int (nI ksp)])), (tspc, .inl (G.2.1, 120, .inl ftsp)), (h0, .inr (10, [.ref tby, .int (nI kt), .ref tln, .ref tsp, .int vkd, .int (nI vks), .int (nI vkn), .int tf12923]))] H := hP
          have hD : va_D A [(tby, .inl (G.2.1, 240, .inl fby)), (tsp, .inr (8, [.int 120, .int 1, .ref tspc, .int (nI ksp)])), (tspc, .inl (G.2.1, 120, .inl ftsp)), (h0, .inr (10, [.ref tby, .int (nI kt), .ref tln, .ref tsp, .int vkd, .int (nI vks), .int (nI vkn), .int tf12923]))] := hD
          obtain rfl := hr2921
          exact RI (v := 0) hC hP hD hS [3, 0, 1, 2] (vkd, vks, vkn, tf12923, ksp, ftsp) rfl rfl (by decide) (⟨Or.inr (rfl), by dsimp only; omega⟩) (by decide +kernel) dX10_takesOne_67
        · refine lv_aload_n hx hb dX10_takesOne_49 rfl (lv_at hl 2 rfl) ?_
          refine iVo (wr := []) hO hC hK hl hP hD hS hA (t_takesComparison l G K h0 tby kt tln tsp vkd vks vkn vtf fby tspc ksp ftsp (by omega) (by omega) (by omega) (by omega)) si_X10_162 [0, 1, 2, 3] [] rfl rfl (by decide) rfl (by decide) (by decide) rfl rfl rfl rfl rfl (Nat.le_of_ble_eq_true rfl) ⟨Nat.le_of_ble_eq_true rfl, Nat.le_of_ble_eq_true rfl⟩ ⟨Nat.le_of_ble_eq_true rfl, Nat.le_of_ble_eq_true rfl⟩ dX10_takesOne_50 (fun r2925 u2926 H locs hr2925 hP hD hS => ?_)
          obtain ⟨kd12927, ks12928, kn12929, tf12930, ksp12931, gtsp2932⟩ := u2926
          try dsimp only at hr2925
          have hP : va_P G.1 vwCl [(h0, .inr (10, [.ref tby, .int (nI kt), .ref tln, .ref tsp, .int kd12927, .int (nI ks12928), .int (nI kn12929), .int tf12930])), (tby, .inl (G.2.1, 240, .inl fby)), (tsp, .inr (8, [.int 120, .int 1, .ref tspc, .int (nI ksp12931)])), (tspc, .inl (G.2.1, 120, .inl gtsp2932))] H := hP
          have hD : va_D A [(h0, .inr (10, [.ref tby, .int (nI kt), .ref tln, .ref tsp, .int kd12927, .int (nI ks12928), .int (nI kn12929), .int tf12930])), (tby, .inl (G.2.1, 240, .inl fby)), (tsp, .inr (8, [.int 120, .int 1, .ref tspc, .int (nI ksp12931)])), (tspc, .inl (G.2.1, 120, .inl gtsp2932))] := hD
          obtain ⟨hr2925, w2933⟩ := hr2925
          rcases hr2925 with rfl | rfl
          · refine lv_if_ne (tgt := 93) hx hb dX10_takesOne_53 (by decide) (fun _ => ?_) (fun c9 => absurd c9 (by decide))
            refine lv_iload_n hx hb dX10_takesOne_93 rfl (lv_at hl 1 rfl) ?_
            refine lv_if_eq (tgt := 102) hx hb dX10_takesOne_94 (by decide) (fun c_94_2935 => ?_) (fun c_94_2935 => ?_)
            · refine lv_iconst (v := 1) hx hb dX10_takesOne_102 (by decide) ?_
              exact RI (v := 1) hC hP hD hS [0, 1, 2, 3] (kd12927, ks12928, kn12929, tf12930, ksp12931, gtsp2932) rfl rfl (by decide) (⟨Or.inl (rfl), by dsimp only; omega⟩) (by decide +kernel) dX10_takesOne_103
            · refine lv_aload_n hx hb dX10_takesOne_97 rfl (lv_at hl 2 rfl) ?_
              refine lv_iconst (v := (-1)) hx hb dX10_takesOne_98 (by decide) ?_
              refine vV (wr := [(tby, .inl (G.2.1, 240, .inl fby))]) hC hK hl hP hD hS hA (t_addStep l G h0 (-1) tby kt tln tsp kd12927 ks12928 kn12929 tf12930 tspc ksp12931 gtsp2932 (by omega)) si_X10_152 [0, 2, 3] [1] rfl rfl (by decide) rfl (by decide) (by decide) rfl rfl rfl rfl rfl (Nat.le_of_ble_eq_true rfl) ⟨Nat.le_of_ble_eq_true rfl, Nat.le_of_ble_eq_true rfl⟩ ⟨Nat.le_of_ble_eq_true rfl, Nat.le_of_ble_eq_true rfl⟩ dX10_takesOne_99 (fun u2937 H locs hr2936 hP hD hS => ?_)
              obtain ⟨ksp12938, gtsp2939⟩ := u2937
              try dsimp only at hr2936
              have hP : va_P G.1 vwCl [(tby, .inl (G.2.1, 240, .inl fby)), (h0, .inr (10, [.ref tby, .int (nI kt), .ref tln, .ref tsp, .int kd12927, .int (nI ks12928), .int (nI kn12929), .int tf12930])), (tsp, .inr (8, [.int 120, .int 1, .ref tspc, .int (nI ksp12938)])), (tspc, .inl (G.2.1, 120, .inl gtsp2939))] H := hP
              have hD : va_D A [(tby, .inl (G.2.1, 240, .inl fby)), (h0, .inr (10, [.ref tby, .int (nI kt), .ref tln, .ref tsp, .int kd12927, .int (nI ks12928), .int (nI kn12929), .int tf12930])), (tsp, .inr (8, [.int 120, .int 1, .ref tspc, .int (nI ksp12938)])), (tspc, .inl (G.2.1, 120, .inl gtsp2939))] := hD
              have w2940 := hr2936
              refine lv_iconst (v := 1) hx hb dX10_takesOne_102 (by decide) ?_
              exact RI (v := 1) hC hP hD hS [1, 0, 2, 3] (kd12927, ks12928, kn12929, tf12930, ksp12938, gtsp2939) rfl rfl (by decide) (⟨Or.inl (rfl), by dsimp only; omega⟩) (by decide +kernel) dX10_takesOne_103
          · refine lv_if_ne (tgt := 93) hx hb dX10_takesOne_53 (by decide) (fun c9 => absurd (by decide) c9) (fun _ => ?_)
            refine lv_iconst (v := 0) hx hb dX10_takesOne_56 (by decide) ?_
            exact RI (v := 0) hC hP hD hS [0, 1, 2, 3] (kd12927, ks12928, kn12929, tf12930, ksp12931, gtsp2932) rfl rfl (by decide) (⟨Or.inr (rfl), by dsimp only; omega⟩) (by decide +kernel) dX10_takesOne_57
  exact keyP 240 0 0 tkd tf9 ks kn _ _ _ (by omega) (by first | assumption | exact Or.inl rfl | exact Or.inr rfl | omega) (by first | assumption | exact Or.inl rfl | exact Or.inr rfl | omega) hP hD hS (lv_sub hl [0, 1, 2, 3] rfl)
set_option maxHeartbeats 4000000 in
set_option maxRecDepth 100000 in
theorem t_all4 (l : Launch) (G : GG) (K : OO) (h0 : Nat) (tby : Nat) (kt : Nat) (tln : Nat) (tsp : Nat) (tkd : Int32) (ks : Nat) (kn : Nat) (tf9 : Int32) (fby : Nat → Int32) (tspc : Nat) (ksp : Nat) (ftsp : Nat → Int32) (hkt : kt ≤ 240) (hks : ks ≤ 240) (hkn : kn ≤ 240) (hksp : ksp ≤ 120) : MIo l G K yX10_takesAll cX10_takesAll 3 (some .boolean) 10 0 0 [.ref h0, .int 4] [(h0, .inr (10, [.ref tby, .int (nI kt), .ref tln, .ref tsp, .int tkd, .int (nI ks), .int (nI kn), .int tf9])), (tby, .inl (G.2.1, 240, .inl fby)), (tsp, .inr (8, [.int 120, .int 1, .ref tspc, .int (nI ksp)])), (tspc, .inl (G.2.1, 120, .inl ftsp))] (fun (r : Int32) (u : Int32 × Nat × Nat × Int32 × Nat × (Nat → Int32)) => (r = 1 ∨ r = 0) ∧ (u.2.1 ≤ 240 ∧ u.2.2.1 ≤ 240 ∧ u.2.2.2.2.1 ≤ 120)) (fun u : Int32 × Nat × Nat × Int32 × Nat × (Nat → Int32) => [(h0, .inr (10, [.ref tby, .int (nI kt), .ref tln, .ref tsp, .int u.1, .int (nI u.2.1), .int (nI u.2.2.1), .int u.2.2.2.1])), (tby, .inl (G.2.1, 240, .inl fby)), (tsp, .inr (8, [.int 120, .int 1, .ref tspc, .int (nI u.2.2.2.2.1)])), (tspc, .inl (G.2.1, 120, .inl u.2.2.2.2.2))]) := by
  refine MIo.start (by decide +kernel) (Nat.le_of_ble_eq_true rfl) ?_
  intro p e s m below meth c A ls hC hK hP hD hS hA hl hO
  have hl : lv_has ls 3 [(0, .ref h0), (1, .int 4)] := hl
  obtain ⟨hx, hb, hr, hml, hB, hown, hlocks, hnm⟩ := id hC
  refine lv_aload_n hx hb dX10_takesAll_0 rfl (lv_at hl 0 rfl) ?_
  refine lv_iload_n hx hb dX10_takesAll_1 rfl (lv_at hl 1 rfl) ?_
  refine iVo (wr := []) hO hC hK hl hP hD hS hA (t_one4 l G K h0 tby kt tln tsp tkd ks kn tf9 fby tspc ksp ftsp (by omega) (by omega) (by omega) (by omega)) si_X10_155 [0, 1, 2, 3] [] rfl rfl (by decide) rfl (by decide) (by decide) rfl rfl rfl rfl rfl (Nat.le_of_ble_eq_true rfl) ⟨Nat.le_of_ble_eq_true rfl, Nat.le_of_ble_eq_true rfl⟩ ⟨Nat.le_of_ble_eq_true rfl, Nat.le_of_ble_eq_true rfl⟩ dX10_takesAll_2 (fun r2941 u2942 H locs hr2941 hP hD hS => ?_)
  obtain ⟨kd12943, ks12944, kn12945, tf12946, ksp12947, gtsp2948⟩ := u2942
  try dsimp only at hr2941
  have hP : va_P G.1 vwCl [(h0, .inr (10, [.ref tby, .int (nI kt), .ref tln, .ref tsp, .int kd12943, .int (nI ks12944), .int (nI kn12945), .int tf12946])), (tby, .inl (G.2.1, 240, .inl fby)), (tsp, .inr (8, [.int 120, .int 1, .ref tspc, .int (nI ksp12947)])), (tspc, .inl (G.2.1, 120, .inl gtsp2948))] H := hP
  have hD : va_D A [(h0, .inr (10, [.ref tby, .int (nI kt), .ref tln, .ref tsp, .int kd12943, .int (nI ks12944), .int (nI kn12945), .int tf12946])), (tby, .inl (G.2.1, 240, .inl fby)), (tsp, .inr (8, [.int 120, .int 1, .ref tspc, .int (nI ksp12947)])), (tspc, .inl (G.2.1, 120, .inl gtsp2948))] := hD
  obtain ⟨hr2941, w2949⟩ := hr2941
  rcases hr2941 with rfl | rfl
  · refine lv_if_ne (tgt := 10) hx hb dX10_takesAll_5 (by decide) (fun _ => ?_) (fun c9 => absurd c9 (by decide))
    refine lv_iconst (v := 0) hx hb dX10_takesAll_10 (by decide) ?_
    refine lv_istore_n (lv' := [(2, .int 0), (0, .ref h0), (1, .int 4)]) hx hb dX10_takesAll_11 rfl hl (by decide) rfl (fun ls hl => ?_)
    have keyP : ∀ (nP kP : Nat) (vkd : Int32) (vtf : Int32) (vtsp : Nat → Int32) (vks : Nat) (vkn : Nat) (vksp : Nat) (H : Heap) (locs : List Loc) (ls : Array Slot), kP + nP = 240 → (vks ≤ 240) → (vkn ≤ 240) → (vksp ≤ 120) → va_P G.1 vwCl [(h0, .inr (10, [.ref tby, .int (nI kt), .ref tln, .ref tsp, .int vkd, .int (nI vks), .int (nI vkn), .int vtf])), (tby, .inl (G.2.1, 240, .inl fby)), (tsp, .inr (8, [.int 120, .int 1, .ref tspc, .int (nI vksp)])), (tspc, .inl (G.2.1, 120, .inl vtsp))] H → va_D A [(h0, .inr (10, [.ref tby, .int (nI kt), .ref tln, .ref tsp, .int vkd, .int (nI vks), .int (nI vkn), .int vtf])), (tby, .inl (G.2.1, 240, .inl fby)), (tsp, .inr (8, [.int 120, .int 1, .ref tspc, .int (nI vksp)])), (tspc, .inl (G.2.1, 120, .inl vtsp))] → va_S A s.heap H locs → lv_has ls 3 [(2, .int (nI kP)), (0, .ref h0), (1, .int 4)] → W p l e (RM 10 0 0) s m ([.ref h0, .int 4] : List Value).toArray below meth c H locs 0 0 (MQ below (QI G (fun (r : Int32) (u : Int32 × Nat × Nat × Int32 × Nat × (Nat → Int32)) => (r = 1 ∨ r = 0) ∧ (u.2.1 ≤ 240 ∧ u.2.2.1 ≤ 240 ∧ u.2.2.2.2.1 ≤ 120)) (fun u : Int32 × Nat × Nat × Int32 × Nat × (Nat → Int32) => [(h0, .inr (10, [.ref tby, .int (nI kt), .ref tln, .ref tsp, .int u.1, .int (nI u.2.1), .int (nI u.2.2.1), .int u.2.2.2.1])), (tby, .inl (G.2.1, 240, .inl fby)), (tsp, .inr (8, [.int 120, .int 1, .ref tspc, .int (nI u.2.2.2.2.1)])), (tspc, .inl (G.2.1, 120, .inl u.2.2.2.2.2))]) A) ([.ref h0, .int 4] : List Value).toArray s 0 0 A) (F0 m 12 ls []) := by
      intro nP
      induction nP with
      | zero =>
        intro kP vkd vtf vtsp vks vkn vksp H locs ls hkP hvks hvkn hvksp hP hD hS hl
        obtain rfl : 240 = kP := by omega
        have hl : lv_has ls 3 [(2, .int 240), (0, .ref h0), (1, .int 4)] := hl
        refine lv_iload_n hx hb dX10_takesAll_12 rfl (lv_at hl 0 rfl) ?_
        refine lv_sipush (v := 240) hx hb dX10_takesAll_13 (by decide) ?_
        refine lv_icmp_ge (tgt := 54) hx hb dX10_takesAll_16 (by decide) (fun _ => ?_) (fun c9 => absurd (by decide) c9)
        refine lv_iconst (v := 1) hx hb dX10_takesAll_54 (by decide) ?_
        exact RI (v := 1) hC hP hD hS [0, 1, 2, 3] (vkd, vks, vkn, vtf, vksp, vtsp) rfl rfl (by decide) (⟨Or.inl (rfl), by dsimp only; omega⟩) (by decide +kernel) dX10_takesAll_55
      | succ nP ihP =>
        intro kP vkd vtf vtsp vks vkn vksp H locs ls hkP hvks hvkn hvksp hP hD hS hl
        refine lv_iload_n hx hb dX10_takesAll_12 rfl (lv_at hl 0 rfl) ?_
        refine lv_sipush (v := 240) hx hb dX10_takesAll_13 (by decide) ?_
        refine lv_icmp_ge (tgt := 54) hx hb dX10_takesAll_16 (by decide) (fun c9 => absurd c9 (nI_ge (a := kP) (b := 240) (by omega) (by omega))) (fun _ => ?_)
        refine lv_aload_n hx hb dX10_takesAll_19 rfl (lv_at hl 1 rfl) ?_
        refine va_ldcS (index := 158) (tx := "and") hx hb hown (hO.2.1 9 (by decide)) dX10_takesAll_20 ?_
        refine pVo hO hS hC hK hl hP hD (t_isName l G K 9 h0 tby kt tln tsp vkd vks vkn vtf fby (by omega) (by omega) (by omega) ((by decide))) si_X10_102 [0, 1] rfl rfl (by decide) rfl rfl rfl rfl rfl (Nat.le_of_ble_eq_true rfl) ⟨Nat.le_of_ble_eq_true rfl, Nat.le_of_ble_eq_true rfl⟩ ⟨by first | exact Nat.le_of_ble_eq_true rfl | exact Nat.zero_le _, by first | exact Nat.le_of_ble_eq_true rfl | exact Nat.zero_le _⟩ dX10_takesAll_22 (fun r2951 hr2951 => ?_)
        rcases hr2951 with rfl | rfl
        · refine lv_if_eq (tgt := 54) hx hb dX10_takesAll_25 (by decide) (fun c9 => absurd c9 (by decide)) (fun _ => ?_)
          refine lv_aload_n hx hb dX10_takesAll_28 rfl (lv_at hl 1 rfl) ?_
          refine vV (wr := [(tsp, .inr (8, [.int 120, .int 1, .ref tspc, .int (nI vksp)])), (tspc, .inl (G.2.1, 120, .inl vtsp))]) hC hK hl hP hD hS hA (t_advance l G h0 tby kt tln tsp vkd vks vkn vtf fby (by omega) (by omega) (by omega)) si_X10_47 [0, 1] [2, 3] rfl rfl (by decide) rfl (by decide) (by decide) rfl rfl rfl rfl rfl (Nat.le_of_ble_eq_true rfl) ⟨Nat.le_of_ble_eq_true rfl, Nat.le_of_ble_eq_true rfl⟩ ⟨Nat.le_of_ble_eq_true rfl, Nat.le_of_ble_eq_true rfl⟩ dX10_takesAll_29 (fun u2954 H locs hr2953 hP hD hS => ?_)
          obtain ⟨kd12955, ks12956, kn12957⟩ := u2954
          try dsimp only at hr2953
          have hP : va_P G.1 vwCl [(tsp, .inr (8, [.int 120, .int 1, .ref tspc, .int (nI vksp)])), (tspc, .inl (G.2.1, 120, .inl vtsp)), (h0, .inr (10, [.ref tby, .int (nI kt), .ref tln, .ref tsp, .int kd12955, .int (nI ks12956), .int (nI kn12957), .int vtf])), (tby, .inl (G.2.1, 240, .inl fby))] H := hP
          have hD : va_D A [(tsp, .inr (8, [.int 120, .int 1, .ref tspc, .int (nI vksp)])), (tspc, .inl (G.2.1, 120, .inl vtsp)), (h0, .inr (10, [.ref tby, .int (nI kt), .ref tln, .ref tsp, .int kd12955, .int (nI ks12956), .int (nI kn12957), .int vtf])), (tby, .inl (G.2.1, 240, .inl fby))] := hD
          have w2958 := hr2953
          refine lv_aload_n hx hb dX10_takesAll_32 rfl (lv_at hl 1 rfl) ?_
          refine lv_iload_n hx hb dX10_takesAll_33 rfl (lv_at hl 2 rfl) ?_
          refine iVo (wr := []) hO hC hK hl hP hD hS hA (t_one4 l G K h0 tby kt tln tsp kd12955 ks12956 kn12957 vtf fby tspc vksp vtsp (by omega) (by omega) (by omega) (by omega)) si_X10_155 [2, 3, 0, 1] [] rfl rfl (by decide) rfl (by decide) (by decide) rfl rfl rfl rfl rfl (Nat.le_of_ble_eq_true rfl) ⟨Nat.le_of_ble_eq_true rfl, Nat.le_of_ble_eq_true rfl⟩ ⟨Nat.le_of_ble_eq_true rfl, Nat.le_of_ble_eq_true rfl⟩ dX10_takesAll_34 (fun r2959 u2960 H locs hr2959 hP hD hS => ?_)
          obtain ⟨kd12961, ks12962, kn12963, tf12964, ksp12965, gtsp2966⟩ := u2960
          try dsimp only at hr2959
          have hP : va_P G.1 vwCl [(h0, .inr (10, [.ref tby, .int (nI kt), .ref tln, .ref tsp, .int kd12961, .int (nI ks12962), .int (nI kn12963), .int tf12964])), (tby, .inl (G.2.1, 240, .inl fby)), (tsp, .inr (8, [.int 120, .int 1, .ref tspc, .int (nI ksp12965)])), (tspc, .inl (G.2.1, 120, .inl gtsp2966))] H := hP
          have hD : va_D A [(h0, .inr (10, [.ref tby, .int (nI kt), .ref tln, .ref tsp, .int kd12961, .int (nI ks12962), .int (nI kn12963), .int tf12964])), (tby, .inl (G.2.1, 240, .inl fby)), (tsp, .inr (8, [.int 120, .int 1, .ref tspc, .int (nI ksp12965)])), (tspc, .inl (G.2.1, 120, .inl gtsp2966))] := hD
          obtain ⟨hr2959, w2967⟩ := hr2959
          rcases hr2959 with rfl | rfl
          · refine lv_if_ne (tgt := 42) hx hb dX10_takesAll_37 (by decide) (fun _ => ?_) (fun c9 => absurd c9 (by decide))
            refine lv_aload_n hx hb dX10_takesAll_42 rfl (lv_at hl 1 rfl) ?_
            refine lv_bipush (v := (-2)) hx hb dX10_takesAll_43 (by decide) ?_
            refine vV (wr := [(tby, .inl (G.2.1, 240, .inl fby))]) hC hK hl hP hD hS hA (t_addStep l G h0 (-2) tby kt tln tsp kd12961 ks12962 kn12963 tf12964 tspc ksp12965 gtsp2966 (by omega)) si_X10_152 [0, 2, 3] [1] rfl rfl (by decide) rfl (by decide) (by decide) rfl rfl rfl rfl rfl (Nat.le_of_ble_eq_true rfl) ⟨Nat.le_of_ble_eq_true rfl, Nat.le_of_ble_eq_true rfl⟩ ⟨Nat.le_of_ble_eq_true rfl, Nat.le_of_ble_eq_true rfl⟩ dX10_takesAll_45 (fun u2970 H locs hr2969 hP hD hS => ?_)
            obtain ⟨ksp12971, gtsp2972⟩ := u2970
            try dsimp only at hr2969
            have hP : va_P G.1 vwCl [(tby, .inl (G.2.1, 240, .inl fby)), (h0, .inr (10, [.ref tby, .int (nI kt), .ref tln, .ref tsp, .int kd12961, .int (nI ks12962), .int (nI kn12963), .int tf12964])), (tsp, .inr (8, [.int 120, .int 1, .ref tspc, .int (nI ksp12971)])), (tspc, .inl (G.2.1, 120, .inl gtsp2972))] H := hP
            have hD : va_D A [(tby, .inl (G.2.1, 240, .inl fby)), (h0, .inr (10, [.ref tby, .int (nI kt), .ref tln, .ref tsp, .int kd12961, .int (nI ks12962), .int (nI kn12963), .int tf12964])), (tsp, .inr (8, [.int 120, .int 1, .ref tspc, .int (nI ksp12971)])), (tspc, .inl (G.2.1, 120, .inl gtsp2972))] := hD
            have w2973 := hr2969
            refine lv_iinc (v := nI (kP + 1)) (lv' := [(2, .int (nI (kP + 1))), (0, .ref h0), (1, .int 4)]) hx hb dX10_takesAll_48 hl (k := 0) rfl (nI_1 _) (by decide) rfl (fun ls hl => ?_)
            refine lv_goto (tgt := 12) hx hb dX10_takesAll_51 (by decide) ?_
            have hP := hP.sub (ws' := [(h0, .inr (10, [.ref tby, .int (nI kt), .ref tln, .ref tsp, .int kd12961, .int (nI ks12962), .int (nI kn12963), .int tf12964])), (tby, .inl (G.2.1, 240, .inl fby)), (tsp, .inr (8, [.int 120, .int 1, .ref tspc, .int (nI ksp12971)])), (tspc, .inl (G.2.1, 120, .inl gtsp2972))]) [1, 0, 2, 3] rfl
            have hD := hD.sub (ws' := [(h0, .inr (10, [.ref tby, .int (nI kt), .ref tln, .ref tsp, .int kd12961, .int (nI ks12962), .int (nI kn12963), .int tf12964])), (tby, .inl (G.2.1, 240, .inl fby)), (tsp, .inr (8, [.int 120, .int 1, .ref tspc, .int (nI ksp12971)])), (tspc, .inl (G.2.1, 120, .inl gtsp2972))]) [1, 0, 2, 3] (by decide) rfl
            exact ihP (kP + 1) kd12961 tf12964 gtsp2972 ks12962 kn12963 ksp12971 _ _ _ (by omega) (by first | assumption | exact Or.inl rfl | exact Or.inr rfl | omega) (by first | assumption | exact Or.inl rfl | exact Or.inr rfl | omega) (by first | assumption | exact Or.inl rfl | exact Or.inr rfl | omega) hP hD hS (lv_sub hl [0, 1, 2] rfl)
          · refine lv_if_ne (tgt := 42) hx hb dX10_takesAll_37 (by decide) (fun c9 => absurd (by decide) c9) (fun _ => ?_)
            refine lv_iconst (v := 0) hx hb dX10_takesAll_40 (by decide) ?_
            exact RI (v := 0) hC hP hD hS [0, 1, 2, 3] (kd12961, ks12962, kn12963, tf12964, ksp12965, gtsp2966) rfl rfl (by decide) (⟨Or.inr (rfl), by dsimp only; omega⟩) (by decide +kernel) dX10_takesAll_41
        · refine lv_if_eq (tgt := 54) hx hb dX10_takesAll_25 (by decide) (fun _ => ?_) (fun c9 => absurd (by decide) c9)
          refine lv_iconst (v := 1) hx hb dX10_takesAll_54 (by decide) ?_
          exact RI (v := 1) hC hP hD hS [0, 1, 2, 3] (vkd, vks, vkn, vtf, vksp, vtsp) rfl rfl (by decide) (⟨Or.inl (rfl), by dsimp only; omega⟩) (by decide +kernel) dX10_takesAll_55
    exact keyP 240 0 kd12943 tf12946 gtsp2948 ks12944 kn12945 ksp12947 _ _ _ (by omega) (by first | assumption | exact Or.inl rfl | exact Or.inr rfl | omega) (by first | assumption | exact Or.inl rfl | exact Or.inr rfl | omega) (by first | assumption | exact Or.inl rfl | exact Or.inr rfl | omega) hP hD hS (lv_sub hl [0, 1, 2] rfl)
  · refine lv_if_ne (tgt := 10) hx hb dX10_takesAll_5 (by decide) (fun c9 => absurd (by decide) c9) (fun _ => ?_)
    refine lv_iconst (v := 0) hx hb dX10_takesAll_8 (by decide) ?_
    exact RI (v := 0) hC hP hD hS [0, 1, 2, 3] (kd12943, ks12944, kn12945, tf12946, ksp12947, gtsp2948) rfl rfl (by decide) (⟨Or.inr (rfl), by dsimp only; omega⟩) (by decide +kernel) dX10_takesAll_9
set_option maxHeartbeats 4000000 in
set_option maxRecDepth 100000 in
theorem t_cond4 (l : Launch) (G : GG) (K : OO) (h0 : Nat) (tby : Nat) (kt : Nat) (tln : Nat) (tsp : Nat) (tkd : Int32) (ks : Nat) (kn : Nat) (tf9 : Int32) (fby : Nat → Int32) (tspc : Nat) (ksp : Nat) (ftsp : Nat → Int32) (hkt : kt ≤ 240) (hks : ks ≤ 240) (hkn : kn ≤ 240) (hksp : ksp ≤ 120) : MIo l G K yX10_takesCond cX10_takesCond 3 (some .boolean) 11 0 0 [.ref h0, .int 4] [(h0, .inr (10, [.ref tby, .int (nI kt), .ref tln, .ref tsp, .int tkd, .int (nI ks), .int (nI kn), .int tf9])), (tby, .inl (G.2.1, 240, .inl fby)), (tsp, .inr (8, [.int 120, .int 1, .ref tspc, .int (nI ksp)])), (tspc, .inl (G.2.1, 120, .inl ftsp))] (fun (r : Int32) (u : Int32 × Nat × Nat × Int32 × Nat × (Nat → Int32)) => (r = 1 ∨ r = 0) ∧ (u.2.1 ≤ 240 ∧ u.2.2.1 ≤ 240 ∧ u.2.2.2.2.1 ≤ 120)) (fun u : Int32 × Nat × Nat × Int32 × Nat × (Nat → Int32) => [(h0, .inr (10, [.ref tby, .int (nI kt), .ref tln, .ref tsp, .int u.1, .int (nI u.2.1), .int (nI u.2.2.1), .int u.2.2.2.1])), (tby, .inl (G.2.1, 240, .inl fby)), (tsp, .inr (8, [.int 120, .int 1, .ref tspc, .int (nI u.2.2.2.2.1)])), (tspc, .inl (G.2.1, 120, .inl u.2.2.2.2.2))]) := by
  refine MIo.start (by decide +kernel) (Nat.le_of_ble_eq_true rfl) ?_
  intro p e s m below meth c A ls hC hK hP hD hS hA hl hO
  have hl : lv_has ls 3 [(0, .ref h0), (1, .int 4)] := hl
  obtain ⟨hx, hb, hr, hml, hB, hown, hlocks, hnm⟩ := id hC
  refine lv_aload_n hx hb dX10_takesCond_0 rfl (lv_at hl 0 rfl) ?_
  refine lv_iload_n hx hb dX10_takesCond_1 rfl (lv_at hl 1 rfl) ?_
  refine iVo (wr := []) hO hC hK hl hP hD hS hA (t_all4 l G K h0 tby kt tln tsp tkd ks kn tf9 fby tspc ksp ftsp (by omega) (by omega) (by omega) (by omega)) si_X10_147 [0, 1, 2, 3] [] rfl rfl (by decide) rfl (by decide) (by decide) rfl rfl rfl rfl rfl (Nat.le_of_ble_eq_true rfl) ⟨Nat.le_of_ble_eq_true rfl, Nat.le_of_ble_eq_true rfl⟩ ⟨Nat.le_of_ble_eq_true rfl, Nat.le_of_ble_eq_true rfl⟩ dX10_takesCond_2 (fun r2974 u2975 H locs hr2974 hP hD hS => ?_)
  obtain ⟨kd12976, ks12977, kn12978, tf12979, ksp12980, gtsp2981⟩ := u2975
  try dsimp only at hr2974
  have hP : va_P G.1 vwCl [(h0, .inr (10, [.ref tby, .int (nI kt), .ref tln, .ref tsp, .int kd12976, .int (nI ks12977), .int (nI kn12978), .int tf12979])), (tby, .inl (G.2.1, 240, .inl fby)), (tsp, .inr (8, [.int 120, .int 1, .ref tspc, .int (nI ksp12980)])), (tspc, .inl (G.2.1, 120, .inl gtsp2981))] H := hP
  have hD : va_D A [(h0, .inr (10, [.ref tby, .int (nI kt), .ref tln, .ref tsp, .int kd12976, .int (nI ks12977), .int (nI kn12978), .int tf12979])), (tby, .inl (G.2.1, 240, .inl fby)), (tsp, .inr (8, [.int 120, .int 1, .ref tspc, .int (nI ksp12980)])), (tspc, .inl (G.2.1, 120, .inl gtsp2981))] := hD
  obtain ⟨hr2974, w2982⟩ := hr2974
  rcases hr2974 with rfl | rfl
  · refine lv_if_ne (tgt := 10) hx hb dX10_takesCond_5 (by decide) (fun _ => ?_) (fun c9 => absurd c9 (by decide))
    refine lv_iconst (v := 0) hx hb dX10_takesCond_10 (by decide) ?_
    refine lv_istore_n (lv' := [(2, .int 0), (0, .ref h0), (1, .int 4)]) hx hb dX10_takesCond_11 rfl hl (by decide) rfl (fun ls hl => ?_)
    have keyP : ∀ (nP kP : Nat) (vkd : Int32) (vtf : Int32) (vtsp : Nat → Int32) (vks : Nat) (vkn : Nat) (vksp : Nat) (H : Heap) (locs : List Loc) (ls : Array Slot), kP + nP = 240 → (vks ≤ 240) → (vkn ≤ 240) → (vksp ≤ 120) → va_P G.1 vwCl [(h0, .inr (10, [.ref tby, .int (nI kt), .ref tln, .ref tsp, .int vkd, .int (nI vks), .int (nI vkn), .int vtf])), (tby, .inl (G.2.1, 240, .inl fby)), (tsp, .inr (8, [.int 120, .int 1, .ref tspc, .int (nI vksp)])), (tspc, .inl (G.2.1, 120, .inl vtsp))] H → va_D A [(h0, .inr (10, [.ref tby, .int (nI kt), .ref tln, .ref tsp, .int vkd, .int (nI vks), .int (nI vkn), .int vtf])), (tby, .inl (G.2.1, 240, .inl fby)), (tsp, .inr (8, [.int 120, .int 1, .ref tspc, .int (nI vksp)])), (tspc, .inl (G.2.1, 120, .inl vtsp))] → va_S A s.heap H locs → lv_has ls 3 [(2, .int (nI kP)), (0, .ref h0), (1, .int 4)] → W p l e (RM 11 0 0) s m ([.ref h0, .int 4] : List Value).toArray below meth c H locs 0 0 (MQ below (QI G (fun (r : Int32) (u : Int32 × Nat × Nat × Int32 × Nat × (Nat → Int32)) => (r = 1 ∨ r = 0) ∧ (u.2.1 ≤ 240 ∧ u.2.2.1 ≤ 240 ∧ u.2.2.2.2.1 ≤ 120)) (fun u : Int32 × Nat × Nat × Int32 × Nat × (Nat → Int32) => [(h0, .inr (10, [.ref tby, .int (nI kt), .ref tln, .ref tsp, .int u.1, .int (nI u.2.1), .int (nI u.2.2.1), .int u.2.2.2.1])), (tby, .inl (G.2.1, 240, .inl fby)), (tsp, .inr (8, [.int 120, .int 1, .ref tspc, .int (nI u.2.2.2.2.1)])), (tspc, .inl (G.2.1, 120, .inl u.2.2.2.2.2))]) A) ([.ref h0, .int 4] : List Value).toArray s 0 0 A) (F0 m 12 ls []) := by
      intro nP
      induction nP with
      | zero =>
        intro kP vkd vtf vtsp vks vkn vksp H locs ls hkP hvks hvkn hvksp hP hD hS hl
        obtain rfl : 240 = kP := by omega
        have hl : lv_has ls 3 [(2, .int 240), (0, .ref h0), (1, .int 4)] := hl
        refine lv_iload_n hx hb dX10_takesCond_12 rfl (lv_at hl 0 rfl) ?_
        refine lv_sipush (v := 240) hx hb dX10_takesCond_13 (by decide) ?_
        refine lv_icmp_ge (tgt := 54) hx hb dX10_takesCond_16 (by decide) (fun _ => ?_) (fun c9 => absurd (by decide) c9)
        refine lv_iconst (v := 1) hx hb dX10_takesCond_54 (by decide) ?_
        exact RI (v := 1) hC hP hD hS [0, 1, 2, 3] (vkd, vks, vkn, vtf, vksp, vtsp) rfl rfl (by decide) (⟨Or.inl (rfl), by dsimp only; omega⟩) (by decide +kernel) dX10_takesCond_55
      | succ nP ihP =>
        intro kP vkd vtf vtsp vks vkn vksp H locs ls hkP hvks hvkn hvksp hP hD hS hl
        refine lv_iload_n hx hb dX10_takesCond_12 rfl (lv_at hl 0 rfl) ?_
        refine lv_sipush (v := 240) hx hb dX10_takesCond_13 (by decide) ?_
        refine lv_icmp_ge (tgt := 54) hx hb dX10_takesCond_16 (by decide) (fun c9 => absurd c9 (nI_ge (a := kP) (b := 240) (by omega) (by omega))) (fun _ => ?_)
        refine lv_aload_n hx hb dX10_takesCond_19 rfl (lv_at hl 1 rfl) ?_
        refine va_ldcS (index := 150) (tx := "o\x72") hx hb hown (hO.2.1 8 (by decide)) dX10_takesCond_20 ?_
        refine pVo hO hS hC hK hl hP hD (t_isName l G K 8 h0 tby kt tln tsp vkd vks vkn vtf fby (by omega) (by omega) (by omega) ((by decide))) si_X10_102 [0, 1] rfl rfl (by decide) rfl rfl rfl rfl rfl (Nat.le_of_ble_eq_true rfl) ⟨Nat.le_of_ble_eq_true rfl, Nat.le_of_ble_eq_true rfl⟩ ⟨by first | exact Nat.le_of_ble_eq_true rfl | exact Nat.zero_le _, by first | exact Nat.le_of_ble_eq_true rfl | exact Nat.zero_le _⟩ dX10_takesCond_22 (fun r2984 hr2984 => ?_)
        rcases hr2984 with rfl | rfl
        · refine lv_if_eq (tgt := 54) hx hb dX10_takesCond_25 (by decide) (fun c9 => absurd c9 (by decide)) (fun _ => ?_)
          refine lv_aload_n hx hb dX10_takesCond_28 rfl (lv_at hl 1 rfl) ?_
          refine vV (wr := [(tsp, .inr (8, [.int 120, .int 1, .ref tspc, .int (nI vksp)])), (tspc, .inl (G.2.1, 120, .inl vtsp))]) hC hK hl hP hD hS hA (t_advance l G h0 tby kt tln tsp vkd vks vkn vtf fby (by omega) (by omega) (by omega)) si_X10_47 [0, 1] [2, 3] rfl rfl (by decide) rfl (by decide) (by decide) rfl rfl rfl rfl rfl (Nat.le_of_ble_eq_true rfl) ⟨Nat.le_of_ble_eq_true rfl, Nat.le_of_ble_eq_true rfl⟩ ⟨Nat.le_of_ble_eq_true rfl, Nat.le_of_ble_eq_true rfl⟩ dX10_takesCond_29 (fun u2987 H locs hr2986 hP hD hS => ?_)
          obtain ⟨kd12988, ks12989, kn12990⟩ := u2987
          try dsimp only at hr2986
          have hP : va_P G.1 vwCl [(tsp, .inr (8, [.int 120, .int 1, .ref tspc, .int (nI vksp)])), (tspc, .inl (G.2.1, 120, .inl vtsp)), (h0, .inr (10, [.ref tby, .int (nI kt), .ref tln, .ref tsp, .int kd12988, .int (nI ks12989), .int (nI kn12990), .int vtf])), (tby, .inl (G.2.1, 240, .inl fby))] H := hP
          have hD : va_D A [(tsp, .inr (8, [.int 120, .int 1, .ref tspc, .int (nI vksp)])), (tspc, .inl (G.2.1, 120, .inl vtsp)), (h0, .inr (10, [.ref tby, .int (nI kt), .ref tln, .ref tsp, .int kd12988, .int (nI ks12989), .int (nI kn12990), .int vtf])), (tby, .inl (G.2.1, 240, .inl fby))] := hD
          have w2991 := hr2986
          refine lv_aload_n hx hb dX10_takesCond_32 rfl (lv_at hl 1 rfl) ?_
          refine lv_iload_n hx hb dX10_takesCond_33 rfl (lv_at hl 2 rfl) ?_
          refine iVo (wr := []) hO hC hK hl hP hD hS hA (t_all4 l G K h0 tby kt tln tsp kd12988 ks12989 kn12990 vtf fby tspc vksp vtsp (by omega) (by omega) (by omega) (by omega)) si_X10_147 [2, 3, 0, 1] [] rfl rfl (by decide) rfl (by decide) (by decide) rfl rfl rfl rfl rfl (Nat.le_of_ble_eq_true rfl) ⟨Nat.le_of_ble_eq_true rfl, Nat.le_of_ble_eq_true rfl⟩ ⟨Nat.le_of_ble_eq_true rfl, Nat.le_of_ble_eq_true rfl⟩ dX10_takesCond_34 (fun r2992 u2993 H locs hr2992 hP hD hS => ?_)
          obtain ⟨kd12994, ks12995, kn12996, tf12997, ksp12998, gtsp2999⟩ := u2993
          try dsimp only at hr2992
          have hP : va_P G.1 vwCl [(h0, .inr (10, [.ref tby, .int (nI kt), .ref tln, .ref tsp, .int kd12994, .int (nI ks12995), .int (nI kn12996), .int tf12997])), (tby, .inl (G.2.1, 240, .inl fby)), (tsp, .inr (8, [.int 120, .int 1, .ref tspc, .int (nI ksp12998)])), (tspc, .inl (G.2.1, 120, .inl gtsp2999))] H := hP
          have hD : va_D A [(h0, .inr (10, [.ref tby, .int (nI kt), .ref tln, .ref tsp, .int kd12994, .int (nI ks12995), .int (nI kn12996), .int tf12997])), (tby, .inl (G.2.1, 240, .inl fby)), (tsp, .inr (8, [.int 120, .int 1, .ref tspc, .int (nI ksp12998)])), (tspc, .inl (G.2.1, 120, .inl gtsp2999))] := hD
          obtain ⟨hr2992, w3000⟩ := hr2992
          rcases hr2992 with rfl | rfl
          · refine lv_if_ne (tgt := 42) hx hb dX10_takesCond_37 (by decide) (fun _ => ?_) (fun c9 => absurd c9 (by decide))
            refine lv_aload_n hx hb dX10_takesCond_42 rfl (lv_at hl 1 rfl) ?_
            refine lv_bipush (v := (-3)) hx hb dX10_takesCond_43 (by decide) ?_
            refine vV (wr := [(tby, .inl (G.2.1, 240, .inl fby))]) hC hK hl hP hD hS hA (t_addStep l G h0 (-3) tby kt tln tsp kd12994 ks12995 kn12996 tf12997 tspc ksp12998 gtsp2999 (by omega)) si_X10_152 [0, 2, 3] [1] rfl rfl (by decide) rfl (by decide) (by decide) rfl rfl rfl rfl rfl (Nat.le_of_ble_eq_true rfl) ⟨Nat.le_of_ble_eq_true rfl, Nat.le_of_ble_eq_true rfl⟩ ⟨Nat.le_of_ble_eq_true rfl, Nat.le_of_ble_eq_true rfl⟩ dX10_takesCond_45 (fun u3003 H locs hr3002 hP hD hS => ?_)
            obtain ⟨ksp13004, gtsp3005⟩ := u3003
            try dsimp only at hr3002
            have hP : va_P G.1 vwCl [(tby, .inl (G.2.1, 240, .inl fby)), (h0, .inr (10, [.ref tby, .int (nI kt), .ref tln, .ref tsp, .int kd12994, .int (nI ks12995), .int (nI kn12996), .int tf12997])), (tsp, .inr (8, [.int 120, .int 1, .ref tspc, .int (nI ksp13004)])), (tspc, .inl (G.2.1, 120, .inl gtsp3005))] H := hP
            have hD : va_D A [(tby, .inl (G.2.1, 240, .inl fby)), (h0, .inr (10, [.ref tby, .int (nI kt), .ref tln, .ref tsp, .int kd12994, .int (nI ks12995), .int (nI kn12996), .int tf12997])), (tsp, .inr (8, [.int 120, .int 1, .ref tspc, .int (nI ksp13004)])), (tspc, .inl (G.2.1, 120, .inl gtsp3005))] := hD
            have w3006 := hr3002
            refine lv_iinc (v := nI (kP + 1)) (lv' := [(2, .int (nI (kP + 1))), (0, .ref h0), (1, .int 4)]) hx hb dX10_takesCond_48 hl (k := 0) rfl (nI_1 _) (by decide) rfl (fun ls hl => ?_)
            refine lv_goto (tgt := 12) hx hb dX10_takesCond_51 (by decide) ?_
            have hP := hP.sub (ws' := [(h0, .inr (10, [.ref tby, .int (nI kt), .ref tln, .ref tsp, .int kd12994, .int (nI ks12995), .int (nI kn12996), .int tf12997])), (tby, .inl (G.2.1, 240, .inl fby)), (tsp, .inr (8, [.int 120, .int 1, .ref tspc, .int (nI ksp13004)])), (tspc, .inl (G.2.1, 120, .inl gtsp3005))]) [1, 0, 2, 3] rfl
            have hD := hD.sub (ws' := [(h0, .inr (10, [.ref tby, .int (nI kt), .ref tln, .ref tsp, .int kd12994, .int (nI ks12995), .int (nI kn12996), .int tf12997])), (tby, .inl (G.2.1, 240, .inl fby)), (tsp, .inr (8, [.int 120, .int 1, .ref tspc, .int (nI ksp13004)])), (tspc, .inl (G.2.1, 120, .inl gtsp3005))]) [1, 0, 2, 3] (by decide) rfl
            exact ihP (kP + 1) kd12994 tf12997 gtsp3005 ks12995 kn12996 ksp13004 _ _ _ (by omega) (by first | assumption | exact Or.inl rfl | exact Or.inr rfl | omega) (by first | assumption | exact Or.inl rfl | exact Or.inr rfl | omega) (by first | assumption | exact Or.inl rfl | exact Or.inr rfl | omega) hP hD hS (lv_sub hl [0, 1, 2] rfl)
          · refine lv_if_ne (tgt := 42) hx hb dX10_takesCond_37 (by decide) (fun c9 => absurd (by decide) c9) (fun _ => ?_)
            refine lv_iconst (v := 0) hx hb dX10_takesCond_40 (by decide) ?_
            exact RI (v := 0) hC hP hD hS [0, 1, 2, 3] (kd12994, ks12995, kn12996, tf12997, ksp12998, gtsp2999) rfl rfl (by decide) (⟨Or.inr (rfl), by dsimp only; omega⟩) (by decide +kernel) dX10_takesCond_41
        · refine lv_if_eq (tgt := 54) hx hb dX10_takesCond_25 (by decide) (fun _ => ?_) (fun c9 => absurd (by decide) c9)
          refine lv_iconst (v := 1) hx hb dX10_takesCond_54 (by decide) ?_
          exact RI (v := 1) hC hP hD hS [0, 1, 2, 3] (vkd, vks, vkn, vtf, vksp, vtsp) rfl rfl (by decide) (⟨Or.inl (rfl), by dsimp only; omega⟩) (by decide +kernel) dX10_takesCond_55
    exact keyP 240 0 kd12976 tf12979 gtsp2981 ks12977 kn12978 ksp12980 _ _ _ (by omega) (by first | assumption | exact Or.inl rfl | exact Or.inr rfl | omega) (by first | assumption | exact Or.inl rfl | exact Or.inr rfl | omega) (by first | assumption | exact Or.inl rfl | exact Or.inr rfl | omega) hP hD hS (lv_sub hl [0, 1, 2] rfl)
  · refine lv_if_ne (tgt := 10) hx hb dX10_takesCond_5 (by decide) (fun c9 => absurd (by decide) c9) (fun _ => ?_)
    refine lv_iconst (v := 0) hx hb dX10_takesCond_8 (by decide) ?_
    exact RI (v := 0) hC hP hD hS [0, 1, 2, 3] (kd12976, ks12977, kn12978, tf12979, ksp12980, gtsp2981) rfl rfl (by decide) (⟨Or.inr (rfl), by dsimp only; omega⟩) (by decide +kernel) dX10_takesCond_9
set_option maxHeartbeats 4000000 in
set_option maxRecDepth 100000 in
theorem t_one3 (l : Launch) (G : GG) (K : OO) (h0 : Nat) (tby : Nat) (kt : Nat) (tln : Nat) (tsp : Nat) (tkd : Int32) (ks : Nat) (kn : Nat) (tf9 : Int32) (fby : Nat → Int32) (tspc : Nat) (ksp : Nat) (ftsp : Nat → Int32) (hkt : kt ≤ 240) (hks : ks ≤ 240) (hkn : kn ≤ 240) (hksp : ksp ≤ 120) : MIo l G K yX10_takesOne cX10_takesOne 4 (some .boolean) 13 0 0 [.ref h0, .int 3] [(h0, .inr (10, [.ref tby, .int (nI kt), .ref tln, .ref tsp, .int tkd, .int (nI ks), .int (nI kn), .int tf9])), (tby, .inl (G.2.1, 240, .inl fby)), (tsp, .inr (8, [.int 120, .int 1, .ref tspc, .int (nI ksp)])), (tspc, .inl (G.2.1, 120, .inl ftsp))] (fun (r : Int32) (u : Int32 × Nat × Nat × Int32 × Nat × (Nat → Int32)) => (r = 1 ∨ r = 0) ∧ (u.2.1 ≤ 240 ∧ u.2.2.1 ≤ 240 ∧ u.2.2.2.2.1 ≤ 120)) (fun u : Int32 × Nat × Nat × Int32 × Nat × (Nat → Int32) => [(h0, .inr (10, [.ref tby, .int (nI kt), .ref tln, .ref tsp, .int u.1, .int (nI u.2.1), .int (nI u.2.2.1), .int u.2.2.2.1])), (tby, .inl (G.2.1, 240, .inl fby)), (tsp, .inr (8, [.int 120, .int 1, .ref tspc, .int (nI u.2.2.2.2.1)])), (tspc, .inl (G.2.1, 120, .inl u.2.2.2.2.2))]) := by
  refine MIo.start (by decide +kernel) (Nat.le_of_ble_eq_true rfl) ?_
  intro p e s m below meth c A ls hC hK hP hD hS hA hl hO
  have hl : lv_has ls 4 [(0, .ref h0), (1, .int 3)] := hl
  obtain ⟨hx, hb, hr, hml, hB, hown, hlocks, hnm⟩ := id hC
  refine lv_iconst (v := 0) hx hb dX10_takesOne_0 (by decide) ?_
  refine lv_istore_n (lv' := [(2, .int 0), (0, .ref h0), (1, .int 3)]) hx hb dX10_takesOne_1 rfl hl (by decide) rfl (fun ls hl => ?_)
  refine lv_iconst (v := 0) hx hb dX10_takesOne_2 (by decide) ?_
  refine lv_istore_n (lv' := [(3, .int 0), (2, .int 0), (0, .ref h0), (1, .int 3)]) hx hb dX10_takesOne_3 rfl hl (by decide) rfl (fun ls hl => ?_)
  have keyP : ∀ (nP kP : Nat) (tu : Int32) (vkd : Int32) (vtf : Int32) (vks : Nat) (vkn : Nat) (H : Heap) (locs : List Loc) (ls : Array Slot), kP + nP = 240 → (vks ≤ 240) → (vkn ≤ 240) → va_P G.1 vwCl [(h0, .inr (10, [.ref tby, .int (nI kt), .ref tln, .ref tsp, .int vkd, .int (nI vks), .int (nI vkn), .int vtf])), (tby, .inl (G.2.1, 240, .inl fby)), (tsp, .inr (8, [.int 120, .int 1, .ref tspc, .int (nI ksp)])), (tspc, .inl (G.2.1, 120, .inl ftsp))] H → va_D A [(h0, .inr (10, [.ref tby, .int (nI kt), .ref tln, .ref tsp, .int vkd, .int (nI vks), .int (nI vkn), .int vtf])), (tby, .inl (G.2.1, 240, .inl fby)), (tsp, .inr (8, [.int 120, .int 1, .ref tspc, .int (nI ksp)])), (tspc, .inl (G.2.1, 120, .inl ftsp))] → va_S A s.heap H locs → lv_has ls 4 [(3, .int (nI kP)), (2, .int tu), (0, .ref h0), (1, .int 3)] → W p l e (RM 13 0 0) s m ([.ref h0, .int 3] : List Value).toArray below meth c H locs 0 0 (MQ below (QI G (fun (r : Int32) (u : Int32 × Nat × Nat × Int32 × Nat × (Nat → Int32)) => (r = 1 ∨ r = 0) ∧ (u.2.1 ≤ 240 ∧ u.2.2.1 ≤ 240 ∧ u.2.2.2.2.1 ≤ 120)) (fun u : Int32 × Nat × Nat × Int32 × Nat × (Nat → Int32) => [(h0, .inr (10, [.ref tby, .int (nI kt), .ref tln, .ref tsp, .int u.1, .int (nI u.2.1), .int (nI u.2.2.1), .int u.2.2.2.1])), (tby, .inl (G.2.1, 240, .inl fby)), (tsp, .inr (8, [.int 120, .int 1, .ref tspc, .int (nI u.2.2.2.2.1)])), (tspc, .inl (G.2.1, 120, .inl u.2.2.2.2.2))]) A) ([.ref h0, .int 3] : List Value).toArray s 0 0 A) (F0 m 4 ls []) := by
    intro nP
    induction nP with
    | zero =>
      intro kP tu vkd vtf vks vkn H locs ls hkP hvks hvkn hP hD hS hl
      obtain rfl : 240 = kP := by omega
      have hl : lv_has ls 4 [(3, .int 240), (2, .int tu), (0, .ref h0), (1, .int 3)] := hl
      refine lv_iload_n hx hb dX10_takesOne_4 rfl (lv_at hl 0 rfl) ?_
      refine lv_sipush (v := 240) hx hb dX10_takesOne_5 (by decide) ?_
      refine lv_icmp_ge (tgt := 40) hx hb dX10_takesOne_8 (by decide) (fun _ => ?_) (fun c9 => absurd (by decide) c9)
      refine lv_aload_n hx hb dX10_takesOne_40 rfl (lv_at hl 2 rfl) ?_
      refine gf_X10_31 hC rfl hK hP 0 rfl rfl dX10_takesOne_41 ?_
      refine lv_bipush (v := 40) hx hb dX10_takesOne_44 (by decide) ?_
      refine lv_icmp_eq (tgt := 58) hx hb dX10_takesOne_46 (by decide) (fun c_46_3007 => ?_) (fun c_46_3007 => ?_)
      · refine lv_iload_n hx hb dX10_takesOne_58 rfl (lv_at hl 3 rfl) ?_
        refine lv_iconst (v := 4) hx hb dX10_takesOne_59 (by decide) ?_
        refine lv_icmp_lt (tgt := 68) hx hb dX10_takesOne_60 (by decide) (fun _ => ?_) (fun c9 => absurd (by decide) c9)
        refine lv_aload_n hx hb dX10_takesOne_68 rfl (lv_at hl 2 rfl) ?_
        refine vV (wr := [(tsp, .inr (8, [.int 120, .int 1, .ref tspc, .int (nI ksp)])), (tspc, .inl (G.2.1, 120, .inl ftsp))]) hC hK hl hP hD hS hA (t_advance l G h0 tby kt tln tsp vkd vks vkn vtf fby (by omega) (by omega) (by omega)) si_X10_47 [0, 1] [2, 3] rfl rfl (by decide) rfl (by decide) (by decide) rfl rfl rfl rfl rfl (Nat.le_of_ble_eq_true rfl) ⟨Nat.le_of_ble_eq_true rfl, Nat.le_of_ble_eq_true rfl⟩ ⟨Nat.le_of_ble_eq_true rfl, Nat.le_of_ble_eq_true rfl⟩ dX10_takesOne_69 (fun u3009 H locs hr3008 hP hD hS => ?_)
        obtain ⟨kd13010, ks13011, kn13012⟩ := u3009
        try dsimp only at hr3008
        have hP : va_P G.1 vwCl [(tsp, .inr (8, [.int 120, .int 1, .ref tspc, .int (nI ksp)])), (tspc, .inl (G.2.1, 120, .inl ftsp)), (h0, .inr (10, [.ref tby, .int (nI kt), .ref tln, .ref tsp, .int kd13010, .int (nI ks13011), .int (nI kn13012), .int vtf])), (tby, .inl (G.2.1, 240, .inl fby))] H := hP
        have hD : va_D A [(tsp, .inr (8, [.int 120, .int 1, .ref tspc, .int (nI ksp)])), (tspc, .inl (G.2.1, 120, .inl ftsp)), (h0, .inr (10, [.ref tby, .int (nI kt), .ref tln, .ref tsp, .int kd13010, .int (nI ks13011), .int (nI kn13012), .int vtf])), (tby, .inl (G.2.1, 240, .inl fby))] := hD
        have w3013 := hr3008
        refine lv_aload_n hx hb dX10_takesOne_72 rfl (lv_at hl 2 rfl) ?_
        refine lv_iload_n hx hb dX10_takesOne_73 rfl (lv_at hl 3 rfl) ?_
        refine lv_iconst (v := 1) hx hb dX10_takesOne_74 (by decide) ?_
        refine lv_iadd hx hb dX10_takesOne_75 ?_
        refine eqi (x1 := 4) (by decide) ?_
        refine iVo (wr := []) hO hC hK hl hP hD hS hA (t_cond4 l G K h0 tby kt tln tsp kd13010 ks13011 kn13012 vtf fby tspc ksp ftsp (by omega) (by omega) (by omega) (by omega)) si_X10_121 [2, 3, 0, 1] [] rfl rfl (by decide) rfl (by decide) (by decide) rfl rfl rfl rfl rfl (Nat.le_of_ble_eq_true rfl) ⟨Nat.le_of_ble_eq_true rfl, Nat.le_of_ble_eq_true rfl⟩ ⟨Nat.le_of_ble_eq_true rfl, Nat.le_of_ble_eq_true rfl⟩ dX10_takesOne_76 (fun r3014 u3015 H locs hr3014 hP hD hS => ?_)
        obtain ⟨kd13016, ks13017, kn13018, tf13019, ksp13020, gtsp3021⟩ := u3015
        try dsimp only at hr3014
        have hP : va_P G.1 vwCl [(h0, .inr (10, [.ref tby, .int (nI kt), .ref tln, .ref tsp, .int kd13016, .int (nI ks13017), .int (nI kn13018), .int tf13019])), (tby, .inl (G.2.1, 240, .inl fby)), (tsp, .inr (8, [.int 120, .int 1, .ref tspc, .int (nI ksp13020)])), (tspc, .inl (G.2.1, 120, .inl gtsp3021))] H := hP
        have hD : va_D A [(h0, .inr (10, [.ref tby, .int (nI kt), .ref tln, .ref tsp, .int kd13016, .int (nI ks13017), .int (nI kn13018), .int tf13019])), (tby, .inl (G.2.1, 240, .inl fby)), (tsp, .inr (8, [.int 120, .int 1, .ref tspc, .int (nI ksp13020)])), (tspc, .inl (G.2.1, 120, .inl gtsp3021))] := hD
        obtain ⟨hr3014, w3022⟩ := hr3014
        rcases hr3014 with rfl | rfl
        · refine lv_if_eq (tgt := 91) hx hb dX10_takesOne_79 (by decide) (fun c9 => absurd c9 (by decide)) (fun _ => ?_)
          refine lv_aload_n hx hb dX10_takesOne_82 rfl (lv_at hl 2 rfl) ?_
          refine lv_bipush (v := 41) hx hb dX10_takesOne_83 (by decide) ?_
          refine iV (wr := [(tsp, .inr (8, [.int 120, .int 1, .ref tspc, .int (nI ksp13020)])), (tspc, .inl (G.2.1, 120, .inl gtsp3021))]) hC hK hl hP hD hS hA (t_takesByte l G h0 41 tby kt tln tsp kd13016 ks13017 kn13018 tf13019 fby (by omega) (by omega) (by omega)) si_X10_124 [0, 1] [2, 3] rfl rfl (by decide) rfl (by decide) (by decide) rfl rfl rfl rfl rfl (Nat.le_of_ble_eq_true rfl) ⟨Nat.le_of_ble_eq_true rfl, Nat.le_of_ble_eq_true rfl⟩ ⟨Nat.le_of_ble_eq_true rfl, Nat.le_of_ble_eq_true rfl⟩ dX10_takesOne_85 (fun r3024 u3025 H locs hr3024 hP hD hS => ?_)
          obtain ⟨kd13026, ks13027, kn13028, tf13029⟩ := u3025
          try dsimp only at hr3024
          have hP : va_P G.1 vwCl [(tsp, .inr (8, [.int 120, .int 1, .ref tspc, .int (nI ksp13020)])), (tspc, .inl (G.2.1, 120, .inl gtsp3021)), (h0, .inr (10, [.ref tby, .int (nI kt), .ref tln, .ref tsp, .int kd13026, .int (nI ks13027), .int (nI kn13028), .int tf13029])), (tby, .inl (G.2.1, 240, .inl fby))] H := hP
          have hD : va_D A [(tsp, .inr (8, [.int 120, .int 1, .ref tspc, .int (nI ksp13020)])), (tspc, .inl (G.2.1, 120, .inl gtsp3021)), (h0, .inr (10, [.ref tby, .int (nI kt), .ref tln, .ref tsp, .int kd13026, .int (nI ks13027), .int (nI kn13028), .int tf13029])), (tby, .inl (G.2.1, 240, .inl fby))] := hD
          obtain ⟨hr3024, w3030⟩ := hr3024
          rcases hr3024 with rfl | rfl
          · refine lv_if_ne (tgt := 93) hx hb dX10_takesOne_88 (by decide) (fun _ => ?_) (fun c9 => absurd c9 (by decide))
            refine lv_iload_n hx hb dX10_takesOne_93 rfl (lv_at hl 1 rfl) ?_
            refine lv_if_eq (tgt := 102) hx hb dX10_takesOne_94 (by decide) (fun c_94_3032 => ?_) (fun c_94_3032 => ?_)
            · refine lv_iconst (v := 1) hx hb dX10_takesOne_102 (by decide) ?_
              exact RI (v := 1) hC hP hD hS [2, 3, 0, 1] (kd13026, ks13027, kn13028, tf13029, ksp13020, gtsp3021) rfl rfl (by decide) (⟨Or.inl (rfl), by dsimp only; omega⟩) (by decide +kernel) dX10_takesOne_103
            · refine lv_aload_n hx hb dX10_takesOne_97 rfl (lv_at hl 2 rfl) ?_
              refine lv_iconst (v := (-1)) hx hb dX10_takesOne_98 (by decide) ?_
              refine vV (wr := [(tby, .inl (G.2.1, 240, .inl fby))]) hC hK hl hP hD hS hA (t_addStep l G h0 (-1) tby kt tln tsp kd13026 ks13027 kn13028 tf13029 tspc ksp13020 gtsp3021 (by omega)) si_X10_152 [2, 0, 1] [3] rfl rfl (by decide) rfl (by decide) (by decide) rfl rfl rfl rfl rfl (Nat.le_of_ble_eq_true rfl) ⟨Nat.le_of_ble_eq_true rfl, Nat.le_of_ble_eq_true rfl⟩ ⟨Nat.le_of_ble_eq_true rfl, Nat.le_of_ble_eq_true rfl⟩ dX10_takesOne_99 (fun u3034 H locs hr3033 hP hD hS => ?_)
              obtain ⟨ksp13035, gtsp3036⟩ := u3034
              try dsimp only at hr3033
              have hP : va_P G.1 vwCl [(tby, .inl (G.2.1, 240, .inl fby)), (h0, .inr (10, [.ref tby, .int (nI kt), .ref tln, .ref tsp, .int kd13026, .int (nI ks13027), .int (nI kn13028), .int tf13029])), (tsp, .inr (8, [.int 120, .int 1, .ref tspc, .int (nI ksp13035)])), (tspc, .inl (G.2.1, 120, .inl gtsp3036))] H := hP
              have hD : va_D A [(tby, .inl (G.2.1, 240, .inl fby)), (h0, .inr (10, [.ref tby, .int (nI kt), .ref tln, .ref tsp, .int kd13026, .int (nI ks13027), .int (nI kn13028), .int tf13029])), (tsp, .inr (8, [.int 120, .int 1, .ref tspc, .int (nI ksp13035)])), (tspc, .inl (G.2.1, 120, .inl gtsp3036))] := hD
              have w3037 := hr3033
              refine lv_iconst (v := 1) hx hb dX10_takesOne_102 (by decide) ?_
              exact RI (v := 1) hC hP hD hS [1, 0, 2, 3] (kd13026, ks13027, kn13028, tf13029, ksp13035, gtsp3036) rfl rfl (by decide) (⟨Or.inl (rfl), by dsimp only; omega⟩) (by decide +kernel) dX10_takesOne_103
          · refine lv_if_ne (tgt := 93) hx hb dX10_takesOne_88 (by decide) (fun c9 => absurd (by decide) c9) (fun _ => ?_)
            refine lv_iconst (v := 0) hx hb dX10_takesOne_91 (by decide) ?_
            exact RI (v := 0) hC hP hD hS [2, 3, 0, 1] (kd13026, ks13027, kn13028, tf13029, ksp13020, gtsp3021) rfl rfl (by decide) (⟨Or.inr (rfl), by dsimp only; omega⟩) (by decide +kernel) dX10_takesOne_92
        · refine lv_if_eq (tgt := 91) hx hb dX10_takesOne_79 (by decide) (fun _ => ?_) (fun c9 => absurd (by decide) c9)
          refine lv_iconst (v := 0) hx hb dX10_takesOne_91 (by decide) ?_
          exact RI (v := 0) hC hP hD hS [0, 1, 2, 3] (kd13016, ks13017, kn13018, tf13019, ksp13020, gtsp3021) rfl rfl (by decide) (⟨Or.inr (rfl), by dsimp only; omega⟩) (by decide +kernel) dX10_takesOne_92
      · refine lv_aload_n hx hb dX10_takesOne_49 rfl (lv_at hl 2 rfl) ?_
        refine iVo (wr := []) hO hC hK hl hP hD hS hA (t_takesComparison l G K h0 tby kt tln tsp vkd vks vkn vtf fby tspc ksp ftsp (by omega) (by omega) (by omega) (by omega)) si_X10_162 [0, 1, 2, 3] [] rfl rfl (by decide) rfl (by decide) (by decide) rfl rfl rfl rfl rfl (Nat.le_of_ble_eq_true rfl) ⟨Nat.le_of_ble_eq_true rfl, Nat.le_of_ble_eq_true rfl⟩ ⟨Nat.le_of_ble_eq_true rfl, Nat.le_of_ble_eq_true rfl⟩ dX10_takesOne_50 (fun r3038 u3039 H locs hr3038 hP hD hS => ?_)
        obtain ⟨kd13040, ks13041, kn13042, tf13043, ksp13044, gtsp3045⟩ := u3039
        try dsimp only at hr3038
        have hP : va_P G.1 vwCl [(h0, .inr (10, [.ref tby, .int (nI kt), .ref tln, .ref tsp, .int kd13040, .int (nI ks13041), .int (nI kn13042), .int tf13043])), (tby, .inl (G.2.1, 240, .inl fby)), (tsp, .inr (8, [.int 120, .int 1, .ref tspc, .int (nI ksp13044)])), (tspc, .inl (G.2.1, 120, .inl gtsp3045))] H := hP
        have hD : va_D A [(h0, .inr (10, [.ref tby, .int (nI kt), .ref tln, .ref tsp, .int kd13040, .int (nI ks13041), .int (nI kn13042), .int tf13043])), (tby, .inl (G.2.1, 240, .inl fby)), (tsp, .inr (8, [.int 120, .int 1, .ref tspc, .int (nI ksp13044)])), (tspc, .inl (G.2.1, 120, .inl gtsp3045))] := hD
        obtain ⟨hr3038, w3046⟩ := hr3038
        rcases hr3038 with rfl | rfl
        · refine lv_if_ne (tgt := 93) hx hb dX10_takesOne_53 (by decide) (fun _ => ?_) (fun c9 => absurd c9 (by decide))
          refine lv_iload_n hx hb dX10_takesOne_93 rfl (lv_at hl 1 rfl) ?_
          refine lv_if_eq (tgt := 102) hx hb dX10_takesOne_94 (by decide) (fun c_94_3048 => ?_) (fun c_94_3048 => ?_)
          · refine lv_iconst (v := 1) hx hb dX10_takesOne_102 (by decide) ?_
            exact RI (v := 1) hC hP hD hS [0, 1, 2, 3] (kd13040, ks13041, kn13042, tf13043, ksp13044, gtsp3045) rfl rfl (by decide) (⟨Or.inl (rfl), by dsimp only; omega⟩) (by decide +kernel) dX10_takesOne_103
          · refine lv_aload_n hx hb dX10_takesOne_97 rfl (lv_at hl 2 rfl) ?_
            refine lv_iconst (v := (-1)) hx hb dX10_takesOne_98 (by decide) ?_
            refine vV (wr := [(tby, .inl (G.2.1, 240, .inl fby))]) hC hK hl hP hD hS hA (t_addStep l G h0 (-1) tby kt tln tsp kd13040 ks13041 kn13042 tf13043 tspc ksp13044 gtsp3045 (by omega)) si_X10_152 [0, 2, 3] [1] rfl rfl (by decide) rfl (by decide) (by decide) rfl rfl rfl rfl rfl (Nat.le_of_ble_eq_true rfl) ⟨Nat.le_of_ble_eq_true rfl, Nat.le_of_ble_eq_true rfl⟩ ⟨Nat.le_of_ble_eq_true rfl, Nat.le_of_ble_eq_true rfl⟩ dX10_takesOne_99 (fun u3050 H locs hr3049 hP hD hS => ?_)
            obtain ⟨ksp13051, gtsp3052⟩ := u3050
            try dsimp only at hr3049
            have hP : va_P G.1 vwCl [(tby, .inl (G.2.1, 240, .inl fby)), (h0, .inr (10, [.ref tby, .int (nI kt), .ref tln, .ref tsp, .int kd13040, .int (nI ks13041), .int (nI kn13042), .int tf13043])), (tsp, .inr (8, [.int 120, .int 1, .ref tspc, .int (nI ksp13051)])), (tspc, .inl (G.2.1, 120, .inl gtsp3052))] H := hP
            have hD : va_D A [(tby, .inl (G.2.1, 240, .inl fby)), (h0, .inr (10, [.ref tby, .int (nI kt), .ref tln, .ref tsp, .int kd13040, .int (nI ks13041), .int (nI kn13042), .int tf13043])), (tsp, .inr (8, [.int 120, .int 1, .ref tspc, .int (nI ksp13051)])), (tspc, .inl (G.2.1, 120, .inl gtsp3052))] := hD
            have w3053 := hr3049
            refine lv_iconst (v := 1) hx hb dX10_takesOne_102 (by decide) ?_
            exact RI (v := 1) hC hP hD hS [1, 0, 2, 3] (kd13040, ks13041, kn13042, tf13043, ksp13051, gtsp3052) rfl rfl (by decide) (⟨Or.inl (rfl), by dsimp only; omega⟩) (by decide +kernel) dX10_takesOne_103
        · refine lv_if_ne (tgt := 93) hx hb dX10_takesOne_53 (by decide) (fun c9 => absurd (by decide) c9) (fun _ => ?_)
          refine lv_iconst (v := 0) hx hb dX10_takesOne_56 (by decide) ?_
          exact RI (v := 0) hC hP hD hS [0, 1, 2, 3] (kd13040, ks13041, kn13042, tf13043, ksp13044, gtsp3045) rfl rfl (by decide) (⟨Or.inr (rfl), by dsimp only; omega⟩) (by decide +kernel) dX10_takesOne_57
    | succ nP ihP =>
      intro kP tu vkd vtf vks vkn H locs ls hkP hvks hvkn hP hD hS hl
      refine lv_iload_n hx hb dX10_takesOne_4 rfl (lv_at hl 0 rfl) ?_
      refine lv_sipush (v := 240) hx hb dX10_takesOne_5 (by decide) ?_
      refine lv_icmp_ge (tgt := 40) hx hb dX10_takesOne_8 (by decide) (fun c9 => absurd c9 (nI_ge (a := kP) (b := 240) (by omega) (by omega))) (fun _ => ?_)
      refine lv_aload_n hx hb dX10_takesOne_11 rfl (lv_at hl 2 rfl) ?_
      refine va_ldcS (index := 160) (tx := "not") hx hb hown (hO.2.1 10 (by decide)) dX10_takesOne_12 ?_
      refine pVo hO hS hC hK hl hP hD (t_isName l G K 10 h0 tby kt tln tsp vkd vks vkn vtf fby (by omega) (by omega) (by omega) ((by decide))) si_X10_102 [0, 1] rfl rfl (by decide) rfl rfl rfl rfl rfl (Nat.le_of_ble_eq_true rfl) ⟨Nat.le_of_ble_eq_true rfl, Nat.le_of_ble_eq_true rfl⟩ ⟨by first | exact Nat.le_of_ble_eq_true rfl | exact Nat.zero_le _, by first | exact Nat.le_of_ble_eq_true rfl | exact Nat.zero_le _⟩ dX10_takesOne_14 (fun r3054 hr3054 => ?_)
      rcases hr3054 with rfl | rfl
      · refine lv_if_eq (tgt := 40) hx hb dX10_takesOne_17 (by decide) (fun c9 => absurd c9 (by decide)) (fun _ => ?_)
        refine lv_aload_n hx hb dX10_takesOne_20 rfl (lv_at hl 2 rfl) ?_
        refine vV (wr := [(tsp, .inr (8, [.int 120, .int 1, .ref tspc, .int (nI ksp)])), (tspc, .inl (G.2.1, 120, .inl ftsp))]) hC hK hl hP hD hS hA (t_advance l G h0 tby kt tln tsp vkd vks vkn vtf fby (by omega) (by omega) (by omega)) si_X10_47 [0, 1] [2, 3] rfl rfl (by decide) rfl (by decide) (by decide) rfl rfl rfl rfl rfl (Nat.le_of_ble_eq_true rfl) ⟨Nat.le_of_ble_eq_true rfl, Nat.le_of_ble_eq_true rfl⟩ ⟨Nat.le_of_ble_eq_true rfl, Nat.le_of_ble_eq_true rfl⟩ dX10_takesOne_21 (fun u3057 H locs hr3056 hP hD hS => ?_)
        obtain ⟨kd13058, ks13059, kn13060⟩ := u3057
        try dsimp only at hr3056
        have hP : va_P G.1 vwCl [(tsp, .inr (8, [.int 120, .int 1, .ref tspc, .int (nI ksp)])), (tspc, .inl (G.2.1, 120, .inl ftsp)), (h0, .inr (10, [.ref tby, .int (nI kt), .ref tln, .ref tsp, .int kd13058, .int (nI ks13059), .int (nI kn13060), .int vtf])), (tby, .inl (G.2.1, 240, .inl fby))] H := hP
        have hD : va_D A [(tsp, .inr (8, [.int 120, .int 1, .ref tspc, .int (nI ksp)])), (tspc, .inl (G.2.1, 120, .inl ftsp)), (h0, .inr (10, [.ref tby, .int (nI kt), .ref tln, .ref tsp, .int kd13058, .int (nI ks13059), .int (nI kn13060), .int vtf])), (tby, .inl (G.2.1, 240, .inl fby))] := hD
        have w3061 := hr3056
        refine lv_iload_n hx hb dX10_takesOne_24 rfl (lv_at hl 1 rfl) ?_
        refine lv_if_ne (tgt := 32) hx hb dX10_takesOne_25 (by decide) (fun c_25_3062 => ?_) (fun c_25_3062 => ?_)
        · refine lv_iconst (v := 0) hx hb dX10_takesOne_32 (by decide) ?_
          refine lv_istore_n (lv' := [(2, .int 0), (3, .int (nI kP)), (0, .ref h0), (1, .int 3)]) hx hb dX10_takesOne_33 rfl hl (by decide) rfl (fun ls hl => ?_)
          refine lv_iinc (v := nI (kP + 1)) (lv' := [(3, .int (nI (kP + 1))), (2, .int 0), (0, .ref h0), (1, .int 3)]) hx hb dX10_takesOne_34 hl (k := 1) rfl (nI_1 _) (by decide) rfl (fun ls hl => ?_)
          refine lv_goto (tgt := 4) hx hb dX10_takesOne_37 (by decide) ?_
          have hP := hP.sub (ws' := [(h0, .inr (10, [.ref tby, .int (nI kt), .ref tln, .ref tsp, .int kd13058, .int (nI ks13059), .int (nI kn13060), .int vtf])), (tby, .inl (G.2.1, 240, .inl fby)), (tsp, .inr (8, [.int 120, .int 1, .ref tspc, .int (nI ksp)])), (tspc, .inl (G.2.1, 120, .inl ftsp))]) [2, 3, 0, 1] rfl
          have hD := hD.sub (ws' := [(h0, .inr (10, [.ref tby, .int (nI kt), .ref tln, .ref tsp, .int kd13058, .int (nI ks13059), .int (nI kn13060), .int vtf])), (tby, .inl (G.2.1, 240, .inl fby)), (tsp, .inr (8, [.int 120, .int 1, .ref tspc, .int (nI ksp)])), (tspc, .inl (G.2.1, 120, .inl ftsp))]) [2, 3, 0, 1] (by decide) rfl
          exact ihP (kP + 1) 0 kd13058 vtf ks13059 kn13060 _ _ _ (by omega) (by first | assumption | exact Or.inl rfl | exact Or.inr rfl | omega) (by first | assumption | exact Or.inl rfl | exact Or.inr rfl | omega) hP hD hS (lv_sub hl [0, 1, 2, 3] rfl)
        · refine lv_iconst (v := 1) hx hb dX10_takesOne_28 (by decide) ?_
          refine lv_goto (tgt := 33) hx hb dX10_takesOne_29 (by decide) ?_
          refine lv_istore_n (lv' := [(2, .int 1), (3, .int (nI kP)), (0, .ref h0), (1, .int 3)]) hx hb dX10_takesOne_33 rfl hl (by decide) rfl (fun ls hl => ?_)
          refine lv_iinc (v := nI (kP + 1)) (lv' := [(3, .int (nI (kP + 1))), (2, .int 1), (0, .ref h0), (1, .int 3)]) hx hb dX10_takesOne_34 hl (k := 1) rfl (nI_1 _) (by decide) rfl (fun ls hl => ?_)
          refine lv_goto (tgt := 4) hx hb dX10_takesOne_37 (by decide) ?_
          have hP := hP.sub (ws' := [(h0, .inr (10, [.ref tby, .int (nI kt), .ref tln, .ref tsp, .int kd13058, .int (nI ks13059), .int (nI kn13060), .int vtf])), (tby, .inl (G.2.1, 240, .inl fby)), (tsp, .inr (8, [.int 120, .int 1, .ref tspc, .int (nI ksp)])), (tspc, .inl (G.2.1, 120, .inl ftsp))]) [2, 3, 0, 1] rfl
          have hD := hD.sub (ws' := [(h0, .inr (10, [.ref tby, .int (nI kt), .ref tln, .ref tsp, .int kd13058, .int (nI ks13059), .int (nI kn13060), .int vtf])), (tby, .inl (G.2.1, 240, .inl fby)), (tsp, .inr (8, [.int 120, .int 1, .ref tspc, .int (nI ksp)])), (tspc, .inl (G.2.1, 120, .inl ftsp))]) [2, 3, 0, 1] (by decide) rfl
          exact ihP (kP + 1) 1 kd13058 vtf ks13059 kn13060 _ _ _ (by omega) (by first | assumption | exact Or.inl rfl | exact Or.inr rfl | omega) (by first | assumption | exact Or.inl rfl | exact Or.inr rfl | omega) hP hD hS (lv_sub hl [0, 1, 2, 3] rfl)
      · refine lv_if_eq (tgt := 40) hx hb dX10_takesOne_17 (by decide) (fun _ => ?_) (fun c9 => absurd (by decide) c9)
        refine lv_aload_n hx hb dX10_takesOne_40 rfl (lv_at hl 2 rfl) ?_
        refine gf_X10_31 hC rfl hK hP 0 rfl rfl dX10_takesOne_41 ?_
        refine lv_bipush (v := 40) hx hb dX10_takesOne_44 (by decide) ?_
        refine lv_icmp_eq (tgt := 58) hx hb dX10_takesOne_46 (by decide) (fun c_46_3063 => ?_) (fun c_46_3063 => ?_)
        · refine lv_iload_n hx hb dX10_takesOne_58 rfl (lv_at hl 3 rfl) ?_
          refine lv_iconst (v := 4) hx hb dX10_takesOne_59 (by decide) ?_
          refine lv_icmp_lt (tgt := 68) hx hb dX10_takesOne_60 (by decide) (fun _ => ?_) (fun c9 => absurd (by decide) c9)
          refine lv_aload_n hx hb dX10_takesOne_68 rfl (lv_at hl 2 rfl) ?_
          refine vV (wr := [(tsp, .inr (8, [.int 120, .int 1, .ref tspc, .int (nI ksp)])), (tspc, .inl (G.2.1, 120, .inl ftsp))]) hC hK hl hP hD hS hA (t_advance l G h0 tby kt tln tsp vkd vks vkn vtf fby (by omega) (by omega) (by omega)) si_X10_47 [0, 1] [2, 3] rfl rfl (by decide) rfl (by decide) (by decide) rfl rfl rfl rfl rfl (Nat.le_of_ble_eq_true rfl) ⟨Nat.le_of_ble_eq_true rfl, Nat.le_of_ble_eq_true rfl⟩ ⟨Nat.le_of_ble_eq_true rfl, Nat.le_of_ble_eq_true rfl⟩ dX10_takesOne_69 (fun u3065 H locs hr3064 hP hD hS => ?_)
          obtain ⟨kd13066, ks13067, kn13068⟩ := u3065
          try dsimp only at hr3064
          have hP : va_P G.1 vwCl [(tsp, .inr (8, [.int 120, .int 1, .ref tspc, .int (nI ksp)])), (tspc, .inl (G.2.1, 120, .inl ftsp)), (h0, .inr (10, [.ref tby, .int (nI kt), .ref tln, .ref tsp, .int kd13066, .int (nI ks13067), .int (nI kn13068), .int vtf])), (tby, .inl (G.2.1, 240, .inl fby))] H := hP
          have hD : va_D A [(tsp, .inr (8, [.int 120, .int 1, .ref tspc, .int (nI ksp)])), (tspc, .inl (G.2.1, 120, .inl ftsp)), (h0, .inr (10, [.ref tby, .int (nI kt), .ref tln, .ref tsp, .int kd13066, .int (nI ks13067), .int (nI kn13068), .int vtf])), (tby, .inl (G.2.1, 240, .inl fby))] := hD
          have w3069 := hr3064
          refine lv_aload_n hx hb dX10_takesOne_72 rfl (lv_at hl 2 rfl) ?_
          refine lv_iload_n hx hb dX10_takesOne_73 rfl (lv_at hl 3 rfl) ?_
          refine lv_iconst (v := 1) hx hb dX10_takesOne_74 (by decide) ?_
          refine lv_iadd hx hb dX10_takesOne_75 ?_
          refine eqi (x1 := 4) (by decide) ?_
          refine iVo (wr := []) hO hC hK hl hP hD hS hA (t_cond4 l G K h0 tby kt tln tsp kd13066 ks13067 kn13068 vtf fby tspc ksp ftsp (by omega) (by omega) (by omega) (by omega)) si_X10_121 [2, 3, 0, 1] [] rfl rfl (by decide) rfl (by decide) (by decide) rfl rfl rfl rfl rfl (Nat.le_of_ble_eq_true rfl) ⟨Nat.le_of_ble_eq_true rfl, Nat.le_of_ble_eq_true rfl⟩ ⟨Nat.le_of_ble_eq_true rfl, Nat.le_of_ble_eq_true rfl⟩ dX10_takesOne_76 (fun r3070 u3071 H locs hr3070 hP hD hS => ?_)
          obtain ⟨kd13072, ks13073, kn13074, tf13075, ksp13076, gtsp3077⟩ := u3071
          try dsimp only at hr3070
          have hP : va_P G.1 vwCl [(h0, .inr (10, [.ref tby, .int (nI kt), .ref tln, .ref tsp, .int kd13072, .int (nI ks13073), .int (nI kn13074), .int tf13075])), (tby, .inl (G.2.1, 240, .inl fby)), (tsp, .inr (8, [.int 120, .int 1, .ref tspc, .int (nI ksp13076)])), (tspc, .inl (G.2.1, 120, .inl gtsp3077))] H := hP
          have hD : va_D A [(h0, .inr (10, [.ref tby, .int (nI kt), .ref tln, .ref tsp, .int kd13072, .int (nI ks13073), .int (nI kn13074), .int tf13075])), (tby, .inl (G.2.1, 240, .inl fby)), (tsp, .inr (8, [.int 120, .int 1, .ref tspc, .int (nI ksp13076)])), (tspc, .inl (G.2.1, 120, .inl gtsp3077))] := hD
          obtain ⟨hr3070, w3078⟩ := hr3070
          rcases hr3070 with rfl | rfl
          · refine lv_if_eq (tgt := 91) hx hb dX10_takesOne_79 (by decide) (fun c9 => absurd c9 (by decide)) (fun _ => ?_)
            refine lv_aload_n hx hb dX10_takesOne_82 rfl (lv_at hl 2 rfl) ?_
            refine lv_bipush (v := 41) hx hb dX10_takesOne_83 (by decide) ?_
            refine iV (wr := [(tsp, .inr (8, [.int 120, .int 1, .ref tspc, .int (nI ksp13076)])), (tspc, .inl (G.2.1, 120, .inl gtsp3077))]) hC hK hl hP hD hS hA (t_takesByte l G h0 41 tby kt tln tsp kd13072 ks13073 kn13074 tf13075 fby (by omega) (by omega) (by omega)) si_X10_124 [0, 1] [2, 3] rfl rfl (by decide) rfl (by decide) (by decide) rfl rfl rfl rfl rfl (Nat.le_of_ble_eq_true rfl) ⟨Nat.le_of_ble_eq_true rfl, Nat.le_of_ble_eq_true rfl⟩ ⟨Nat.le_of_ble_eq_true rfl, Nat.le_of_ble_eq_true rfl⟩ dX10_takesOne_85 (fun r3080 u3081 H locs hr3080 hP hD hS => ?_)
            obtain ⟨kd13082, ks13083, kn13084, tf13085⟩ := u3081
            try dsimp only at hr3080
            have hP : va_P G.1 vwCl [(tsp, .inr (8, [.int 120, .int 1, .ref tspc, .int (nI ksp13076)])), (tspc, .inl (G.2.1, 120, .inl gtsp3077)), (h0, .inr (10, [.ref tby, .int (nI kt), .ref tln, .ref tsp, .int kd13082, .int (nI ks13083), .int (nI kn13084), .int tf13085])), (tby, .inl (G.2.1, 240, .inl fby))] H := hP
            have hD : va_D A [(tsp, .inr (8, [.int 120, .int 1, .ref tspc, .int (nI ksp13076)])), (tspc, .inl (G.2.1, 120, .inl gtsp3077)), (h0, .inr (10, [.ref tby, .int (nI kt), .ref tln, .ref tsp, .int kd13082, .int (nI ks13083), .int (nI kn13084), .int tf13085])), (tby, .inl (G.2.1, 240, .inl fby))] := hD
            obtain ⟨hr3080, w3086⟩ := hr3080
            rcases hr3080 with rfl | rfl
            · refine lv_if_ne (tgt := 93) hx hb dX10_takesOne_88 (by decide) (fun _ => ?_) (fun c9 => absurd c9 (by decide))
              refine lv_iload_n hx hb dX10_takesOne_93 rfl (lv_at hl 1 rfl) ?_
              refine lv_if_eq (tgt := 102) hx hb dX10_takesOne_94 (by decide) (fun c_94_3088 => ?_) (fun c_94_3088 => ?_)
              · refine lv_iconst (v := 1) hx hb dX10_takesOne_102 (by decide) ?_
                exact RI (v := 1) hC hP hD hS [2, 3, 0, 1] (kd13082, ks13083, kn13084, tf13085, ksp13076, gtsp3077) rfl rfl (by decide) (⟨Or.inl (rfl), by dsimp only; omega⟩) (by decide +kernel) dX10_takesOne_103
              · refine lv_aload_n hx hb dX10_takesOne_97 rfl (lv_at hl 2 rfl) ?_
                refine lv_iconst (v := (-1)) hx hb dX10_takesOne_98 (by decide) ?_
                refine vV (wr := [(tby, .inl (G.2.1, 240, .inl fby))]) hC hK hl hP hD hS hA (t_addStep l G h0 (-1) tby kt tln tsp kd13082 ks13083 kn13084 tf13085 tspc ksp13076 gtsp3077 (by omega)) si_X10_152 [2, 0, 1] [3] rfl rfl (by decide) rfl (by decide) (by decide) rfl rfl rfl rfl rfl (Nat.le_of_ble_eq_true rfl) ⟨Nat.le_of_ble_eq_true rfl, Nat.le_of_ble_eq_true rfl⟩ ⟨Nat.le_of_ble_eq_true rfl, Nat.le_of_ble_eq_true rfl⟩ dX10_takesOne_99 (fun u3090 H locs hr3089 hP hD hS => ?_)
                obtain ⟨ksp13091, gtsp3092⟩ := u3090
                try dsimp only at hr3089
                have hP : va_P G.1 vwCl [(tby, .inl (G.2.1, 240, .inl fby)), (h0, .inr (10, [.ref tby, .int (nI kt), .ref tln, .ref tsp, .int kd13082, .int (nI ks13083), .int (nI kn13084), .int tf13085])), (tsp, .inr (8, [.int 120, .int 1, .ref tspc, .int (nI ksp13091)])), (tspc, .inl (G.2.1, 120, .inl gtsp3092))] H := hP
                have hD : va_D A [(tby, .inl (G.2.1, 240, .inl fby)), (h0, .inr (10, [.ref tby, .int (nI kt), .ref tln, .ref tsp, .int kd13082, .int (nI ks13083), .int (nI kn13084), .int tf13085])), (tsp, .inr (8, [.int 120, .int 1, .ref tspc, .int (nI ksp13091)])), (tspc, .inl (G.2.1, 120, .inl gtsp3092))] := hD
                have w3093 := hr3089
                refine lv_iconst (v := 1) hx hb dX10_takesOne_102 (by decide) ?_
                exact RI (v := 1) hC hP hD hS [1, 0, 2, 3] (kd13082, ks13083, kn13084, tf13085, ksp13091, gtsp3092) rfl rfl (by decide) (⟨Or.inl (rfl), by dsimp only; omega⟩) (by decide +kernel) dX10_takesOne_103
            · refine lv_if_ne (tgt := 93) hx hb dX10_takesOne_88 (by decide) (fun c9 => absurd (by decide) c9) (fun _ => ?_)
              refine lv_iconst (v := 0) hx hb dX10_takesOne_91 (by decide) ?_
              exact RI (v := 0) hC hP hD hS [2, 3, 0, 1] (kd13082, ks13083, kn13084, tf13085, ksp13076, gtsp3077) rfl rfl (by decide) (⟨Or.inr (rfl), by dsimp only; omega⟩) (by decide +kernel) dX10_takesOne_92
          · refine lv_if_eq (tgt := 91) hx hb dX10_takesOne_79 (by decide) (fun _ => ?_) (fun c9 => absurd (by decide) c9)
            refine lv_iconst (v := 0) hx hb dX10_takesOne_91 (by decide) ?_
            exact RI (v := 0) hC hP hD hS [0, 1, 2, 3] (kd13072, ks13073, kn13074, tf13075, ksp13076, gtsp3077) rfl rfl (by decide) (⟨Or.inr (rfl), by dsimp only; omega⟩) (by decide +kernel) dX10_takesOne_92
        · refine lv_aload_n hx hb dX10_takesOne_49 rfl (lv_at hl 2 rfl) ?_
          refine iVo (wr := []) hO hC hK hl hP hD hS hA (t_takesComparison l G K h0 tby kt tln tsp vkd vks vkn vtf fby tspc ksp ftsp (by omega) (by omega) (by omega) (by omega)) si_X10_162 [0, 1, 2, 3] [] rfl rfl (by decide) rfl (by decide) (by decide) rfl rfl rfl rfl rfl (Nat.le_of_ble_eq_true rfl) ⟨Nat.le_of_ble_eq_true rfl, Nat.le_of_ble_eq_true rfl⟩ ⟨Nat.le_of_ble_eq_true rfl, Nat.le_of_ble_eq_true rfl⟩ dX10_takesOne_50 (fun r3094 u3095 H locs hr3094 hP hD hS => ?_)
          obtain ⟨kd13096, ks13097, kn13098, tf13099, ksp13100, gtsp3101⟩ := u3095
          try dsimp only at hr3094
          have hP : va_P G.1 vwCl [(h0, .inr (10, [.ref tby, .int (nI kt), .ref tln, .ref tsp, .int kd13096, .int (nI ks13097), .int (nI kn13098), .int tf13099])), (tby, .inl (G.2.1, 240, .inl fby)), (tsp, .inr (8, [.int 120, .int 1, .ref tspc, .int (nI ksp13100)])), (tspc, .inl (G.2.1, 120, .inl gtsp3101))] H := hP
          have hD : va_D A [(h0, .inr (10, [.ref tby, .int (nI kt), .ref tln, .ref tsp, .int kd13096, .int (nI ks13097), .int (nI kn13098), .int tf13099])), (tby, .inl (G.2.1, 240, .inl fby)), (tsp, .inr (8, [.int 120, .int 1, .ref tspc, .int (nI ksp13100)])), (tspc, .inl (G.2.1, 120, .inl gtsp3101))] := hD
          obtain ⟨hr3094, w3102⟩ := hr3094
          rcases hr3094 with rfl | rfl
          · refine lv_if_ne (tgt := 93) hx hb dX10_takesOne_53 (by decide) (fun _ => ?_) (fun c9 => absurd c9 (by decide))
            refine lv_iload_n hx hb dX10_takesOne_93 rfl (lv_at hl 1 rfl) ?_
            refine lv_if_eq (tgt := 102) hx hb dX10_takesOne_94 (by decide) (fun c_94_3104 => ?_) (fun c_94_3104 => ?_)
            · refine lv_iconst (v := 1) hx hb dX10_takesOne_102 (by decide) ?_
              exact RI (v := 1) hC hP hD hS [0, 1, 2, 3] (kd13096, ks13097, kn13098, tf13099, ksp13100, gtsp3101) rfl rfl (by decide) (⟨Or.inl (rfl), by dsimp only; omega⟩) (by decide +kernel) dX10_takesOne_103
            · refine lv_aload_n hx hb dX10_takesOne_97 rfl (lv_at hl 2 rfl) ?_
              refine lv_iconst (v := (-1)) hx hb dX10_takesOne_98 (by decide) ?_
              refine vV (wr := [(tby, .inl (G.2.1, 240, .inl fby))]) hC hK hl hP hD hS hA (t_addStep l G h0 (-1) tby kt tln tsp kd13096 ks13097 kn13098 tf13099 tspc ksp13100 gtsp3101 (by omega)) si_X10_152 [0, 2, 3] [1] rfl rfl (by decide) rfl (by decide) (by decide) rfl rfl rfl rfl rfl (Nat.le_of_ble_eq_true rfl) ⟨Nat.le_of_ble_eq_true rfl, Nat.le_of_ble_eq_true rfl⟩ ⟨Nat.le_of_ble_eq_true rfl, Nat.le_of_ble_eq_true rfl⟩ dX10_takesOne_99 (fun u3106 H locs hr3105 hP hD hS => ?_)
              obtain ⟨ksp13107, gtsp3108⟩ := u3106
              try dsimp only at hr3105
              have hP : va_P G.1 vwCl [(tby, .inl (G.2.1, 240, .inl fby)), (h0, .inr (10, [.ref tby, .int (nI kt), .ref tln, .ref tsp, .int kd13096, .int (nI ks13097), .int (nI kn13098), .int tf13099])), (tsp, .inr (8, [.int 120, .int 1, .ref tspc, .int (nI ksp13107)])), (tspc, .inl (G.2.1, 120, .inl gtsp3108))] H := hP
              have hD : va_D A [(tby, .inl (G.2.1, 240, .inl fby)), (h0, .inr (10, [.ref tby, .int (nI kt), .ref tln, .ref tsp, .int kd13096, .int (nI ks13097), .int (nI kn13098), .int tf13099])), (tsp, .inr (8, [.int 120, .int 1, .ref tspc, .int (nI ksp13107)])), (tspc, .inl (G.2.1, 120, .inl gtsp3108))] := hD
              have w3109 := hr3105
              refine lv_iconst (v := 1) hx hb dX10_takesOne_102 (by decide) ?_
              exact RI (v := 1) hC hP hD hS [1, 0, 2, 3] (kd13096, ks13097, kn13098, tf13099, ksp13107, gtsp3108) rfl rfl (by decide) (⟨Or.inl (rfl), by dsimp only; omega⟩) (by decide +kernel) dX10_takesOne_103
          · refine lv_if_ne (tgt := 93) hx hb dX10_takesOne_53 (by decide) (fun c9 => absurd (by decide) c9) (fun _ => ?_)
            refine lv_iconst (v := 0) hx hb dX10_takesOne_56 (by decide) ?_
            exact RI (v := 0) hC hP hD hS [0, 1, 2, 3] (kd13096, ks13097, kn13098, tf13099, ksp13100, gtsp3101) rfl rfl (by decide) (⟨Or.inr (rfl), by dsimp only; omega⟩) (by decide +kernel) dX10_takesOne_57
  exact keyP 240 0 0 tkd tf9 ks kn _ _ _ (by omega) (by first | assumption | exact Or.inl rfl | exact Or.inr rfl | omega) (by first | assumption | exact Or.inl rfl | exact Or.inr rfl | omega) hP hD hS (lv_sub hl [0, 1, 2, 3] rfl)
set_option maxHeartbeats 4000000 in
set_option maxRecDepth 100000 in
theorem t_all3 (l : Launch) (G : GG) (K : OO) (h0 : Nat) (tby : Nat) (kt : Nat) (tln : Nat) (tsp : Nat) (tkd : Int32) (ks : Nat) (kn : Nat) (tf9 : Int32) (fby : Nat → Int32) (tspc : Nat) (ksp : Nat) (ftsp : Nat → Int32) (hkt : kt ≤ 240) (hks : ks ≤ 240) (hkn : kn ≤ 240) (hksp : ksp ≤ 120) : MIo l G K yX10_takesAll cX10_takesAll 3 (some .boolean) 14 0 0 [.ref h0, .int 3] [(h0, .inr (10, [.ref tby, .int (nI kt), .ref tln, .ref tsp, .int tkd, .int (nI ks), .int (nI kn), .int tf9])), (tby, .inl (G.2.1, 240, .inl fby)), (tsp, .inr (8, [.int 120, .int 1, .ref tspc, .int (nI ksp)])), (tspc, .inl (G.2.1, 120, .inl ftsp))] (fun (r : Int32) (u : Int32 × Nat × Nat × Int32 × Nat × (Nat → Int32)) => (r = 1 ∨ r = 0) ∧ (u.2.1 ≤ 240 ∧ u.2.2.1 ≤ 240 ∧ u.2.2.2.2.1 ≤ 120)) (fun u : Int32 × Nat × Nat × Int32 × Nat × (Nat → Int32) => [(h0, .inr (10, [.ref tby, .int (nI kt), .ref tln, .ref tsp, .int u.1, .int (nI u.2.1), .int (nI u.2.2.1), .int u.2.2.2.1])), (tby, .inl (G.2.1, 240, .inl fby)), (tsp, .inr (8, [.int 120, .int 1, .ref tspc, .int (nI u.2.2.2.2.1)])), (tspc, .inl (G.2.1, 120, .inl u.2.2.2.2.2))]) := by
  refine MIo.start (by decide +kernel) (Nat.le_of_ble_eq_true rfl) ?_
  intro p e s m below meth c A ls hC hK hP hD hS hA hl hO
  have hl : lv_has ls 3 [(0, .ref h0), (1, .int 3)] := hl
  obtain ⟨hx, hb, hr, hml, hB, hown, hlocks, hnm⟩ := id hC
  refine lv_aload_n hx hb dX10_takesAll_0 rfl (lv_at hl 0 rfl) ?_
  refine lv_iload_n hx hb dX10_takesAll_1 rfl (lv_at hl 1 rfl) ?_
  refine iVo (wr := []) hO hC hK hl hP hD hS hA (t_one3 l G K h0 tby kt tln tsp tkd ks kn tf9 fby tspc ksp ftsp (by omega) (by omega) (by omega) (by omega)) si_X10_155 [0, 1, 2, 3] [] rfl rfl (by decide) rfl (by decide) (by decide) rfl rfl rfl rfl rfl (Nat.le_of_ble_eq_true rfl) ⟨Nat.le_of_ble_eq_true rfl, Nat.le_of_ble_eq_true rfl⟩ ⟨Nat.le_of_ble_eq_true rfl, Nat.le_of_ble_eq_true rfl⟩ dX10_takesAll_2 (fun r3110 u3111 H locs hr3110 hP hD hS => ?_)
  obtain ⟨kd13112, ks13113, kn13114, tf13115, ksp13116, gtsp3117⟩ := u3111
  try dsimp only at hr3110
  have hP : va_P G.1 vwCl [(h0, .inr (10, [.ref tby, .int (nI kt), .ref tln, .ref tsp, .int kd13112, .int (nI ks13113), .int (nI kn13114), .int tf13115])), (tby, .inl (G.2.1, 240, .inl fby)), (tsp, .inr (8, [.int 120, .int 1, .ref tspc, .int (nI ksp13116)])), (tspc, .inl (G.2.1, 120, .inl gtsp3117))] H := hP
  have hD : va_D A [(h0, .inr (10, [.ref tby, .int (nI kt), .ref tln, .ref tsp, .int kd13112, .int (nI ks13113), .int (nI kn13114), .int tf13115])), (tby, .inl (G.2.1, 240, .inl fby)), (tsp, .inr (8, [.int 120, .int 1, .ref tspc, .int (nI ksp13116)])), (tspc, .inl (G.2.1, 120, .inl gtsp3117))] := hD
  obtain ⟨hr3110, w3118⟩ := hr3110
  rcases hr3110 with rfl | rfl
  · refine lv_if_ne (tgt := 10) hx hb dX10_takesAll_5 (by decide) (fun _ => ?_) (fun c9 => absurd c9 (by decide))
    refine lv_iconst (v := 0) hx hb dX10_takesAll_10 (by decide) ?_
    refine lv_istore_n (lv' := [(2, .int 0), (0, .ref h0), (1, .int 3)]) hx hb dX10_takesAll_11 rfl hl (by decide) rfl (fun ls hl => ?_)
    have keyP : ∀ (nP kP : Nat) (vkd : Int32) (vtf : Int32) (vtsp : Nat → Int32) (vks : Nat) (vkn : Nat) (vksp : Nat) (H : Heap) (locs : List Loc) (ls : Array Slot), kP + nP = 240 → (vks ≤ 240) → (vkn ≤ 240) → (vksp ≤ 120) → va_P G.1 vwCl [(h0, .inr (10, [.ref tby, .int (nI kt), .ref tln, .ref tsp, .int vkd, .int (nI vks), .int (nI vkn), .int vtf])), (tby, .inl (G.2.1, 240, .inl fby)), (tsp, .inr (8, [.int 120, .int 1, .ref tspc, .int (nI vksp)])), (tspc, .inl (G.2.1, 120, .inl vtsp))] H → va_D A [(h0, .inr (10, [.ref tby, .int (nI kt), .ref tln, .ref tsp, .int vkd, .int (nI vks), .int (nI vkn), .int vtf])), (tby, .inl (G.2.1, 240, .inl fby)), (tsp, .inr (8, [.int 120, .int 1, .ref tspc, .int (nI vksp)])), (tspc, .inl (G.2.1, 120, .inl vtsp))] → va_S A s.heap H locs → lv_has ls 3 [(2, .int (nI kP)), (0, .ref h0), (1, .int 3)] → W p l e (RM 14 0 0) s m ([.ref h0, .int 3] : List Value).toArray below meth c H locs 0 0 (MQ below (QI G (fun (r : Int32) (u : Int32 × Nat × Nat × Int32 × Nat × (Nat → Int32)) => (r = 1 ∨ r = 0) ∧ (u.2.1 ≤ 240 ∧ u.2.2.1 ≤ 240 ∧ u.2.2.2.2.1 ≤ 120)) (fun u : Int32 × Nat × Nat × Int32 × Nat × (Nat → Int32) => [(h0, .inr (10, [.ref tby, .int (nI kt), .ref tln, .ref tsp, .int u.1, .int (nI u.2.1), .int (nI u.2.2.1), .int u.2.2.2.1])), (tby, .inl (G.2.1, 240, .inl fby)), (tsp, .inr (8, [.int 120, .int 1, .ref tspc, .int (nI u.2.2.2.2.1)])), (tspc, .inl (G.2.1, 120, .inl u.2.2.2.2.2))]) A) ([.ref h0, .int 3] : List Value).toArray s 0 0 A) (F0 m 12 ls []) := by
      intro nP
      induction nP with
      | zero =>
        intro kP vkd vtf vtsp vks vkn vksp H locs ls hkP hvks hvkn hvksp hP hD hS hl
        obtain rfl : 240 = kP := by omega
        have hl : lv_has ls 3 [(2, .int 240), (0, .ref h0), (1, .int 3)] := hl
        refine lv_iload_n hx hb dX10_takesAll_12 rfl (lv_at hl 0 rfl) ?_
        refine lv_sipush (v := 240) hx hb dX10_takesAll_13 (by decide) ?_
        refine lv_icmp_ge (tgt := 54) hx hb dX10_takesAll_16 (by decide) (fun _ => ?_) (fun c9 => absurd (by decide) c9)
        refine lv_iconst (v := 1) hx hb dX10_takesAll_54 (by decide) ?_
        exact RI (v := 1) hC hP hD hS [0, 1, 2, 3] (vkd, vks, vkn, vtf, vksp, vtsp) rfl rfl (by decide) (⟨Or.inl (rfl), by dsimp only; omega⟩) (by decide +kernel) dX10_takesAll_55
      | succ nP ihP =>
        intro kP vkd vtf vtsp vks vkn vksp H locs ls hkP hvks hvkn hvksp hP hD hS hl
        refine lv_iload_n hx hb dX10_takesAll_12 rfl (lv_at hl 0 rfl) ?_
        refine lv_sipush (v := 240) hx hb dX10_takesAll_13 (by decide) ?_
        refine lv_icmp_ge (tgt := 54) hx hb dX10_takesAll_16 (by decide) (fun c9 => absurd c9 (nI_ge (a := kP) (b := 240) (by omega) (by omega))) (fun _ => ?_)
        refine lv_aload_n hx hb dX10_takesAll_19 rfl (lv_at hl 1 rfl) ?_
        refine va_ldcS (index := 158) (tx := "and") hx hb hown (hO.2.1 9 (by decide)) dX10_takesAll_20 ?_
        refine pVo hO hS hC hK hl hP hD (t_isName l G K 9 h0 tby kt tln tsp vkd vks vkn vtf fby (by omega) (by omega) (by omega) ((by decide))) si_X10_102 [0, 1] rfl rfl (by decide) rfl rfl rfl rfl rfl (Nat.le_of_ble_eq_true rfl) ⟨Nat.le_of_ble_eq_true rfl, Nat.le_of_ble_eq_true rfl⟩ ⟨by first | exact Nat.le_of_ble_eq_true rfl | exact Nat.zero_le _, by first | exact Nat.le_of_ble_eq_true rfl | exact Nat.zero_le _⟩ dX10_takesAll_22 (fun r3120 hr3120 => ?_)
        rcases hr3120 with rfl | rfl
        · refine lv_if_eq (tgt := 54) hx hb dX10_takesAll_25 (by decide) (fun c9 => absurd c9 (by decide)) (fun _ => ?_)
          refine lv_aload_n hx hb dX10_takesAll_28 rfl (lv_at hl 1 rfl) ?_
          refine vV (wr := [(tsp, .inr (8, [.int 120, .int 1, .ref tspc, .int (nI vksp)])), (tspc, .inl (G.2.1, 120, .inl vtsp))]) hC hK hl hP hD hS hA (t_advance l G h0 tby kt tln tsp vkd vks vkn vtf fby (by omega) (by omega) (by omega)) si_X10_47 [0, 1] [2, 3] rfl rfl (by decide) rfl (by decide) (by decide) rfl rfl rfl rfl rfl (Nat.le_of_ble_eq_true rfl) ⟨Nat.le_of_ble_eq_true rfl, Nat.le_of_ble_eq_true rfl⟩ ⟨Nat.le_of_ble_eq_true rfl, Nat.le_of_ble_eq_true rfl⟩ dX10_takesAll_29 (fun u3123 H locs hr3122 hP hD hS => ?_)
          obtain ⟨kd13124, ks13125, kn13126⟩ := u3123
          try dsimp only at hr3122
          have hP : va_P G.1 vwCl [(tsp, .inr (8, [.int 120, .int 1, .ref tspc, .int (nI vksp)])), (tspc, .inl (G.2.1, 120, .inl vtsp)), (h0, .inr (10, [.ref tby, .int (nI kt), .ref tln, .ref tsp, .int kd13124, .int (nI ks13125), .int (nI kn13126), .int vtf])), (tby, .inl (G.2.1, 240, .inl fby))] H := hP
          have hD : va_D A [(tsp, .inr (8, [.int 120, .int 1, .ref tspc, .int (nI vksp)])), (tspc, .inl (G.2.1, 120, .inl vtsp)), (h0, .inr (10, [.ref tby, .int (nI kt), .ref tln, .ref tsp, .int kd13124, .int (nI ks13125), .int (nI kn13126), .int vtf])), (tby, .inl (G.2.1, 240, .inl fby))] := hD
          have w3127 := hr3122
          refine lv_aload_n hx hb dX10_takesAll_32 rfl (lv_at hl 1 rfl) ?_
          refine lv_iload_n hx hb dX10_takesAll_33 rfl (lv_at hl 2 rfl) ?_
          refine iVo (wr := []) hO hC hK hl hP hD hS hA (t_one3 l G K h0 tby kt tln tsp kd13124 ks13125 kn13126 vtf fby tspc vksp vtsp (by omega) (by omega) (by omega) (by omega)) si_X10_155 [2, 3, 0, 1] [] rfl rfl (by decide) rfl (by decide) (by decide) rfl rfl rfl rfl rfl (Nat.le_of_ble_eq_true rfl) ⟨Nat.le_of_ble_eq_true rfl, Nat.le_of_ble_eq_true rfl⟩ ⟨Nat.le_of_ble_eq_true rfl, Nat.le_of_ble_eq_true rfl⟩ dX10_takesAll_34 (fun r3128 u3129 H locs hr3128 hP hD hS => ?_)
          obtain ⟨kd13130, ks13131, kn13132, tf13133, ksp13134, gtsp3135⟩ := u3129
          try dsimp only at hr3128
          have hP : va_P G.1 vwCl [(h0, .inr (10, [.ref tby, .int (nI kt), .ref tln, .ref tsp, .int kd13130, .int (nI ks13131), .int (nI kn13132), .int tf13133])), (tby, .inl (G.2.1, 240, .inl fby)), (tsp, .inr (8, [.int 120, .int 1, .ref tspc, .int (nI ksp13134)])), (tspc, .inl (G.2.1, 120, .inl gtsp3135))] H := hP
          have hD : va_D A [(h0, .inr (10, [.ref tby, .int (nI kt), .ref tln, .ref tsp, .int kd13130, .int (nI ks13131), .int (nI kn13132), .int tf13133])), (tby, .inl (G.2.1, 240, .inl fby)), (tsp, .inr (8, [.int 120, .int 1, .ref tspc, .int (nI ksp13134)])), (tspc, .inl (G.2.1, 120, .inl gtsp3135))] := hD
          obtain ⟨hr3128, w3136⟩ := hr3128
          rcases hr3128 with rfl | rfl
          · refine lv_if_ne (tgt := 42) hx hb dX10_takesAll_37 (by decide) (fun _ => ?_) (fun c9 => absurd c9 (by decide))
            refine lv_aload_n hx hb dX10_takesAll_42 rfl (lv_at hl 1 rfl) ?_
            refine lv_bipush (v := (-2)) hx hb dX10_takesAll_43 (by decide) ?_
            refine vV (wr := [(tby, .inl (G.2.1, 240, .inl fby))]) hC hK hl hP hD hS hA (t_addStep l G h0 (-2) tby kt tln tsp kd13130 ks13131 kn13132 tf13133 tspc ksp13134 gtsp3135 (by omega)) si_X10_152 [0, 2, 3] [1] rfl rfl (by decide) rfl (by decide) (by decide) rfl rfl rfl rfl rfl (Nat.le_of_ble_eq_true rfl) ⟨Nat.le_of_ble_eq_true rfl, Nat.le_of_ble_eq_true rfl⟩ ⟨Nat.le_of_ble_eq_true rfl, Nat.le_of_ble_eq_true rfl⟩ dX10_takesAll_45 (fun u3139 H locs hr3138 hP hD hS => ?_)
            obtain ⟨ksp13140, gtsp3141⟩ := u3139
            try dsimp only at hr3138
            have hP : va_P G.1 vwCl [(tby, .inl (G.2.1, 240, .inl fby)), (h0, .inr (10, [.ref tby, .int (nI kt), .ref tln, .ref tsp, .int kd13130, .int (nI ks13131), .int (nI kn13132), .int tf13133])), (tsp, .inr (8, [.int 120, .int 1, .ref tspc, .int (nI ksp13140)])), (tspc, .inl (G.2.1, 120, .inl gtsp3141))] H := hP
            have hD : va_D A [(tby, .inl (G.2.1, 240, .inl fby)), (h0, .inr (10, [.ref tby, .int (nI kt), .ref tln, .ref tsp, .int kd13130, .int (nI ks13131), .int (nI kn13132), .int tf13133])), (tsp, .inr (8, [.int 120, .int 1, .ref tspc, .int (nI ksp13140)])), (tspc, .inl (G.2.1, 120, .inl gtsp3141))] := hD
            have w3142 := hr3138
            refine lv_iinc (v := nI (kP + 1)) (lv' := [(2, .int (nI (kP + 1))), (0, .ref h0), (1, .int 3)]) hx hb dX10_takesAll_48 hl (k := 0) rfl (nI_1 _) (by decide) rfl (fun ls hl => ?_)
            refine lv_goto (tgt := 12) hx hb dX10_takesAll_51 (by decide) ?_
            have hP := hP.sub (ws' := [(h0, .inr (10, [.ref tby, .int (nI kt), .ref tln, .ref tsp, .int kd13130, .int (nI ks13131), .int (nI kn13132), .int tf13133])), (tby, .inl (G.2.1, 240, .inl fby)), (tsp, .inr (8, [.int 120, .int 1, .ref tspc, .int (nI ksp13140)])), (tspc, .inl (G.2.1, 120, .inl gtsp3141))]) [1, 0, 2, 3] rfl
            have hD := hD.sub (ws' := [(h0, .inr (10, [.ref tby, .int (nI kt), .ref tln, .ref tsp, .int kd13130, .int (nI ks13131), .int (nI kn13132), .int tf13133])), (tby, .inl (G.2.1, 240, .inl fby)), (tsp, .inr (8, [.int 120, .int 1, .ref tspc, .int (nI ksp13140)])), (tspc, .inl (G.2.1, 120, .inl gtsp3141))]) [1, 0, 2, 3] (by decide) rfl
            exact ihP (kP + 1) kd13130 tf13133 gtsp3141 ks13131 kn13132 ksp13140 _ _ _ (by omega) (by first | assumption | exact Or.inl rfl | exact Or.inr rfl | omega) (by first | assumption | exact Or.inl rfl | exact Or.inr rfl | omega) (by first | assumption | exact Or.inl rfl | exact Or.inr rfl | omega) hP hD hS (lv_sub hl [0, 1, 2] rfl)
          · refine lv_if_ne (tgt := 42) hx hb dX10_takesAll_37 (by decide) (fun c9 => absurd (by decide) c9) (fun _ => ?_)
            refine lv_iconst (v := 0) hx hb dX10_takesAll_40 (by decide) ?_
            exact RI (v := 0) hC hP hD hS [0, 1, 2, 3] (kd13130, ks13131, kn13132, tf13133, ksp13134, gtsp3135) rfl rfl (by decide) (⟨Or.inr (rfl), by dsimp only; omega⟩) (by decide +kernel) dX10_takesAll_41
        · refine lv_if_eq (tgt := 54) hx hb dX10_takesAll_25 (by decide) (fun _ => ?_) (fun c9 => absurd (by decide) c9)
          refine lv_iconst (v := 1) hx hb dX10_takesAll_54 (by decide) ?_
          exact RI (v := 1) hC hP hD hS [0, 1, 2, 3] (vkd, vks, vkn, vtf, vksp, vtsp) rfl rfl (by decide) (⟨Or.inl (rfl), by dsimp only; omega⟩) (by decide +kernel) dX10_takesAll_55
    exact keyP 240 0 kd13112 tf13115 gtsp3117 ks13113 kn13114 ksp13116 _ _ _ (by omega) (by first | assumption | exact Or.inl rfl | exact Or.inr rfl | omega) (by first | assumption | exact Or.inl rfl | exact Or.inr rfl | omega) (by first | assumption | exact Or.inl rfl | exact Or.inr rfl | omega) hP hD hS (lv_sub hl [0, 1, 2] rfl)
  · refine lv_if_ne (tgt := 10) hx hb dX10_takesAll_5 (by decide) (fun c9 => absurd (by decide) c9) (fun _ => ?_)
    refine lv_iconst (v := 0) hx hb dX10_takesAll_8 (by decide) ?_
    exact RI (v := 0) hC hP hD hS [0, 1, 2, 3] (kd13112, ks13113, kn13114, tf13115, ksp13116, gtsp3117) rfl rfl (by decide) (⟨Or.inr (rfl), by dsimp only; omega⟩) (by decide +kernel) dX10_takesAll_9
set_option maxHeartbeats 4000000 in
set_option maxRecDepth 100000 in
theorem t_cond3 (l : Launch) (G : GG) (K : OO) (h0 : Nat) (tby : Nat) (kt : Nat) (tln : Nat) (tsp : Nat) (tkd : Int32) (ks : Nat) (kn : Nat) (tf9 : Int32) (fby : Nat → Int32) (tspc : Nat) (ksp : Nat) (ftsp : Nat → Int32) (hkt : kt ≤ 240) (hks : ks ≤ 240) (hkn : kn ≤ 240) (hksp : ksp ≤ 120) : MIo l G K yX10_takesCond cX10_takesCond 3 (some .boolean) 15 0 0 [.ref h0, .int 3] [(h0, .inr (10, [.ref tby, .int (nI kt), .ref tln, .ref tsp, .int tkd, .int (nI ks), .int (nI kn), .int tf9])), (tby, .inl (G.2.1, 240, .inl fby)), (tsp, .inr (8, [.int 120, .int 1, .ref tspc, .int (nI ksp)])), (tspc, .inl (G.2.1, 120, .inl ftsp))] (fun (r : Int32) (u : Int32 × Nat × Nat × Int32 × Nat × (Nat → Int32)) => (r = 1 ∨ r = 0) ∧ (u.2.1 ≤ 240 ∧ u.2.2.1 ≤ 240 ∧ u.2.2.2.2.1 ≤ 120)) (fun u : Int32 × Nat × Nat × Int32 × Nat × (Nat → Int32) => [(h0, .inr (10, [.ref tby, .int (nI kt), .ref tln, .ref tsp, .int u.1, .int (nI u.2.1), .int (nI u.2.2.1), .int u.2.2.2.1])), (tby, .inl (G.2.1, 240, .inl fby)), (tsp, .inr (8, [.int 120, .int 1, .ref tspc, .int (nI u.2.2.2.2.1)])), (tspc, .inl (G.2.1, 120, .inl u.2.2.2.2.2))]) := by
  refine MIo.start (by decide +kernel) (Nat.le_of_ble_eq_true rfl) ?_
  intro p e s m below meth c A ls hC hK hP hD hS hA hl hO
  have hl : lv_has ls 3 [(0, .ref h0), (1, .int 3)] := hl
  obtain ⟨hx, hb, hr, hml, hB, hown, hlocks, hnm⟩ := id hC
  refine lv_aload_n hx hb dX10_takesCond_0 rfl (lv_at hl 0 rfl) ?_
  refine lv_iload_n hx hb dX10_takesCond_1 rfl (lv_at hl 1 rfl) ?_
  refine iVo (wr := []) hO hC hK hl hP hD hS hA (t_all3 l G K h0 tby kt tln tsp tkd ks kn tf9 fby tspc ksp ftsp (by omega) (by omega) (by omega) (by omega)) si_X10_147 [0, 1, 2, 3] [] rfl rfl (by decide) rfl (by decide) (by decide) rfl rfl rfl rfl rfl (Nat.le_of_ble_eq_true rfl) ⟨Nat.le_of_ble_eq_true rfl, Nat.le_of_ble_eq_true rfl⟩ ⟨Nat.le_of_ble_eq_true rfl, Nat.le_of_ble_eq_true rfl⟩ dX10_takesCond_2 (fun r3143 u3144 H locs hr3143 hP hD hS => ?_)
  obtain ⟨kd13145, ks13146, kn13147, tf13148, ksp13149, gtsp3150⟩ := u3144
  try dsimp only at hr3143
  have hP : va_P G.1 vwCl [(h0, .inr (10, [.ref tby, .int (nI kt), .ref tln, .ref tsp, .int kd13145, .int (nI ks13146), .int (nI kn13147), .int tf13148])), (tby, .inl (G.2.1, 240, .inl fby)), (tsp, .inr (8, [.int 120, .int 1, .ref tspc, .int (nI ksp13149)])), (tspc, .inl (G.2.1, 120, .inl gtsp3150))] H := hP
  have hD : va_D A [(h0, .inr (10, [.ref tby, .int (nI kt), .ref tln, .ref tsp, .int kd13145, .int (nI ks13146), .int (nI kn13147), .int tf13148])), (tby, .inl (G.2.1, 240, .inl fby)), (tsp, .inr (8, [.int 120, .int 1, .ref tspc, .int (nI ksp13149)])), (tspc, .inl (G.2.1, 120, .inl gtsp3150))] := hD
  obtain ⟨hr3143, w3151⟩ := hr3143
  rcases hr3143 with rfl | rfl
  · refine lv_if_ne (tgt := 10) hx hb dX10_takesCond_5 (by decide) (fun _ => ?_) (fun c9 => absurd c9 (by decide))
    refine lv_iconst (v := 0) hx hb dX10_takesCond_10 (by decide) ?_
    refine lv_istore_n (lv' := [(2, .int 0), (0, .ref h0), (1, .int 3)]) hx hb dX10_takesCond_11 rfl hl (by decide) rfl (fun ls hl => ?_)
    have keyP : ∀ (nP kP : Nat) (vkd : Int32) (vtf : Int32) (vtsp : Nat → Int32) (vks : Nat) (vkn : Nat) (vksp : Nat) (H : Heap) (locs : List Loc) (ls : Array Slot), kP + nP = 240 → (vks ≤ 240) → (vkn ≤ 240) → (vksp ≤ 120) → va_P G.1 vwCl [(h0, .inr (10, [.ref tby, .int (nI kt), .ref tln, .ref tsp, .int vkd, .int (nI vks), .int (nI vkn), .int vtf])), (tby, .inl (G.2.1, 240, .inl fby)), (tsp, .inr (8, [.int 120, .int 1, .ref tspc, .int (nI vksp)])), (tspc, .inl (G.2.1, 120, .inl vtsp))] H → va_D A [(h0, .inr (10, [.ref tby, .int (nI kt), .ref tln, .ref tsp, .int vkd, .int (nI vks), .int (nI vkn), .int vtf])), (tby, .inl (G.2.1, 240, .inl fby)), (tsp, .inr (8, [.int 120, .int 1, .ref tspc, .int (nI vksp)])), (tspc, .inl (G.2.1, 120, .inl vtsp))] → va_S A s.heap H locs → lv_has ls 3 [(2, .int (nI kP)), (0, .ref h0), (1, .int 3)] → W p l e (RM 15 0 0) s m ([.ref h0, .int 3] : List Value).toArray below meth c H locs 0 0 (MQ below (QI G (fun (r : Int32) (u : Int32 × Nat × Nat × Int32 × Nat × (Nat → Int32)) => (r = 1 ∨ r = 0) ∧ (u.2.1 ≤ 240 ∧ u.2.2.1 ≤ 240 ∧ u.2.2.2.2.1 ≤ 120)) (fun u : Int32 × Nat × Nat × Int32 × Nat × (Nat → Int32) => [(h0, .inr (10, [.ref tby, .int (nI kt), .ref tln, .ref tsp, .int u.1, .int (nI u.2.1), .int (nI u.2.2.1), .int u.2.2.2.1])), (tby, .inl (G.2.1, 240, .inl fby)), (tsp, .inr (8, [.int 120, .int 1, .ref tspc, .int (nI u.2.2.2.2.1)])), (tspc, .inl (G.2.1, 120, .inl u.2.2.2.2.2))]) A) ([.ref h0, .int 3] : List Value).toArray s 0 0 A) (F0 m 12 ls []) := by
      intro nP
      induction nP with
      | zero =>
        intro kP vkd vtf vtsp vks vkn vksp H locs ls hkP hvks hvkn hvksp hP hD hS hl
        obtain rfl : 240 = kP := by omega
        have hl : lv_has ls 3 [(2, .int 240), (0, .ref h0), (1, .int 3)] := hl
        refine lv_iload_n hx hb dX10_takesCond_12 rfl (lv_at hl 0 rfl) ?_
        refine lv_sipush (v := 240) hx hb dX10_takesCond_13 (by decide) ?_
        refine lv_icmp_ge (tgt := 54) hx hb dX10_takesCond_16 (by decide) (fun _ => ?_) (fun c9 => absurd (by decide) c9)
        refine lv_iconst (v := 1) hx hb dX10_takesCond_54 (by decide) ?_
        exact RI (v := 1) hC hP hD hS [0, 1, 2, 3] (vkd, vks, vkn, vtf, vksp, vtsp) rfl rfl (by decide) (⟨Or.inl (rfl), by dsimp only; omega⟩) (by decide +kernel) dX10_takesCond_55
      | succ nP ihP =>
        intro kP vkd vtf vtsp vks vkn vksp H locs ls hkP hvks hvkn hvksp hP hD hS hl
        refine lv_iload_n hx hb dX10_takesCond_12 rfl (lv_at hl 0 rfl) ?_
        refine lv_sipush (v := 240) hx hb dX10_takesCond_13 (by decide) ?_
        refine lv_icmp_ge (tgt := 54) hx hb dX10_takesCond_16 (by decide) (fun c9 => absurd c9 (nI_ge (a := kP) (b := 240) (by omega) (by omega))) (fun _ => ?_)
        refine lv_aload_n hx hb dX10_takesCond_19 rfl (lv_at hl 1 rfl) ?_
        refine va_ldcS (index := 150) (tx := "o\x72") hx hb hown (hO.2.1 8 (by decide)) dX10_takesCond_20 ?_
        refine pVo hO hS hC hK hl hP hD (t_isName l G K 8 h0 tby kt tln tsp vkd vks vkn vtf fby (by omega) (by omega) (by omega) ((by decide))) si_X10_102 [0, 1] rfl rfl (by decide) rfl rfl rfl rfl rfl (Nat.le_of_ble_eq_true rfl) ⟨Nat.le_of_ble_eq_true rfl, Nat.le_of_ble_eq_true rfl⟩ ⟨by first | exact Nat.le_of_ble_eq_true rfl | exact Nat.zero_le _, by first | exact Nat.le_of_ble_eq_true rfl | exact Nat.zero_le _⟩ dX10_takesCond_22 (fun r3153 hr3153 => ?_)
        rcases hr3153 with rfl | rfl
        · refine lv_if_eq (tgt := 54) hx hb dX10_takesCond_25 (by decide) (fun c9 => absurd c9 (by decide)) (fun _ => ?_)
          refine lv_aload_n hx hb dX10_takesCond_28 rfl (lv_at hl 1 rfl) ?_
          refine vV (wr := [(tsp, .inr (8, [.int 120, .int 1, .ref tspc, .int (nI vksp)])), (tspc, .inl (G.2.1, 120, .inl vtsp))]) hC hK hl hP hD hS hA (t_advance l G h0 tby kt tln tsp vkd vks vkn vtf fby (by omega) (by omega) (by omega)) si_X10_47 [0, 1] [2, 3] rfl rfl (by decide) rfl (by decide) (by decide) rfl rfl rfl rfl rfl (Nat.le_of_ble_eq_true rfl) ⟨Nat.le_of_ble_eq_true rfl, Nat.le_of_ble_eq_true rfl⟩ ⟨Nat.le_of_ble_eq_true rfl, Nat.le_of_ble_eq_true rfl⟩ dX10_takesCond_29 (fun u3156 H locs hr3155 hP hD hS => ?_)
          obtain ⟨kd13157, ks13158, kn13159⟩ := u3156
          try dsimp only at hr3155
          have hP : va_P G.1 vwCl [(tsp, .inr (8, [.int 120, .int 1, .ref tspc, .int (nI vksp)])), (tspc, .inl (G.2.1, 120, .inl vtsp)), (h0, .inr (10, [.ref tby, .int (nI kt), .ref tln, .ref tsp, .int kd13157, .int (nI ks13158), .int (nI kn13159), .int vtf])), (tby, .inl (G.2.1, 240, .inl fby))] H := hP
          have hD : va_D A [(tsp, .inr (8, [.int 120, .int 1, .ref tspc, .int (nI vksp)])), (tspc, .inl (G.2.1, 120, .inl vtsp)), (h0, .inr (10, [.ref tby, .int (nI kt), .ref tln, .ref tsp, .int kd13157, .int (nI ks13158), .int (nI kn13159), .int vtf])), (tby, .inl (G.2.1, 240, .inl fby))] := hD
          have w3160 := hr3155
          refine lv_aload_n hx hb dX10_takesCond_32 rfl (lv_at hl 1 rfl) ?_
          refine lv_iload_n hx hb dX10_takesCond_33 rfl (lv_at hl 2 rfl) ?_
          refine iVo (wr := []) hO hC hK hl hP hD hS hA (t_all3 l G K h0 tby kt tln tsp kd13157 ks13158 kn13159 vtf fby tspc vksp vtsp (by omega) (by omega) (by omega) (by omega)) si_X10_147 [2, 3, 0, 1] [] rfl rfl (by decide) rfl (by decide) (by decide) rfl rfl rfl rfl rfl (Nat.le_of_ble_eq_true rfl) ⟨Nat.le_of_ble_eq_true rfl, Nat.le_of_ble_eq_true rfl⟩ ⟨Nat.le_of_ble_eq_true rfl, Nat.le_of_ble_eq_true rfl⟩ dX10_takesCond_34 (fun r3161 u3162 H locs hr3161 hP hD hS => ?_)
          obtain ⟨kd13163, ks13164, kn13165, tf13166, ksp13167, gtsp3168⟩ := u3162
          try dsimp only at hr3161
          have hP : va_P G.1 vwCl [(h0, .inr (10, [.ref tby, .int (nI kt), .ref tln, .ref tsp, .int kd13163, .int (nI ks13164), .int (nI kn13165), .int tf13166])), (tby, .inl (G.2.1, 240, .inl fby)), (tsp, .inr (8, [.int 120, .int 1, .ref tspc, .int (nI ksp13167)])), (tspc, .inl (G.2.1, 120, .inl gtsp3168))] H := hP
          have hD : va_D A [(h0, .inr (10, [.ref tby, .int (nI kt), .ref tln, .ref tsp, .int kd13163, .int (nI ks13164), .int (nI kn13165), .int tf13166])), (tby, .inl (G.2.1, 240, .inl fby)), (tsp, .inr (8, [.int 120, .int 1, .ref tspc, .int (nI ksp13167)])), (tspc, .inl (G.2.1, 120, .inl gtsp3168))] := hD
          obtain ⟨hr3161, w3169⟩ := hr3161
          rcases hr3161 with rfl | rfl
          · refine lv_if_ne (tgt := 42) hx hb dX10_takesCond_37 (by decide) (fun _ => ?_) (fun c9 => absurd c9 (by decide))
            refine lv_aload_n hx hb dX10_takesCond_42 rfl (lv_at hl 1 rfl) ?_
            refine lv_bipush (v := (-3)) hx hb dX10_takesCond_43 (by decide) ?_
            refine vV (wr := [(tby, .inl (G.2.1, 240, .inl fby))]) hC hK hl hP hD hS hA (t_addStep l G h0 (-3) tby kt tln tsp kd13163 ks13164 kn13165 tf13166 tspc ksp13167 gtsp3168 (by omega)) si_X10_152 [0, 2, 3] [1] rfl rfl (by decide) rfl (by decide) (by decide) rfl rfl rfl rfl rfl (Nat.le_of_ble_eq_true rfl) ⟨Nat.le_of_ble_eq_true rfl, Nat.le_of_ble_eq_true rfl⟩ ⟨Nat.le_of_ble_eq_true rfl, Nat.le_of_ble_eq_true rfl⟩ dX10_takesCond_45 (fun u3172 H locs hr3171 hP hD hS => ?_)
            obtain ⟨ksp13173, gtsp3174⟩ := u3172
            try dsimp only at hr3171
            have hP : va_P G.1 vwCl [(tby, .inl (G.2.1, 240, .inl fby)), (h0, .inr (10, [.ref tby, .int (nI kt), .ref tln, .ref tsp, .int kd13163, .int (nI ks13164), .int (nI kn13165), .int tf13166])), (tsp, .inr (8, [.int 120, .int 1, .ref tspc, .int (nI ksp13173)])), (tspc, .inl (G.2.1, 120, .inl gtsp3174))] H := hP
            have hD : va_D A [(tby, .inl (G.2.1, 240, .inl fby)), (h0, .inr (10, [.ref tby, .int (nI kt), .ref tln, .ref tsp, .int kd13163, .int (nI ks13164), .int (nI kn13165), .int tf13166])), (tsp, .inr (8, [.int 120, .int 1, .ref tspc, .int (nI ksp13173)])), (tspc, .inl (G.2.1, 120, .inl gtsp3174))] := hD
            have w3175 := hr3171
            refine lv_iinc (v := nI (kP + 1)) (lv' := [(2, .int (nI (kP + 1))), (0, .ref h0), (1, .int 3)]) hx hb dX10_takesCond_48 hl (k := 0) rfl (nI_1 _) (by decide) rfl (fun ls hl => ?_)
            refine lv_goto (tgt := 12) hx hb dX10_takesCond_51 (by decide) ?_
            have hP := hP.sub (ws' := [(h0, .inr (10, [.ref tby, .int (nI kt), .ref tln, .ref tsp, .int kd13163, .int (nI ks13164), .int (nI kn13165), .int tf13166])), (tby, .inl (G.2.1, 240, .inl fby)), (tsp, .inr (8, [.int 120, .int 1, .ref tspc, .int (nI ksp13173)])), (tspc, .inl (G.2.1, 120, .inl gtsp3174))]) [1, 0, 2, 3] rfl
            have hD := hD.sub (ws' := [(h0, .inr (10, [.ref tby, .int (nI kt), .ref tln, .ref tsp, .int kd13163, .int (nI ks13164), .int (nI kn13165), .int tf13166])), (tby, .inl (G.2.1, 240, .inl fby)), (tsp, .inr (8, [.int 120, .int 1, .ref tspc, .int (nI ksp13173)])), (tspc, .inl (G.2.1, 120, .inl gtsp3174))]) [1, 0, 2, 3] (by decide) rfl
            exact ihP (kP + 1) kd13163 tf13166 gtsp3174 ks13164 kn13165 ksp13173 _ _ _ (by omega) (by first | assumption | exact Or.inl rfl | exact Or.inr rfl | omega) (by first | assumption | exact Or.inl rfl | exact Or.inr rfl | omega) (by first | assumption | exact Or.inl rfl | exact Or.inr rfl | omega) hP hD hS (lv_sub hl [0, 1, 2] rfl)
          · refine lv_if_ne (tgt := 42) hx hb dX10_takesCond_37 (by decide) (fun c9 => absurd (by decide) c9) (fun _ => ?_)
            refine lv_iconst (v := 0) hx hb dX10_takesCond_40 (by decide) ?_
            exact RI (v := 0) hC hP hD hS [0, 1, 2, 3] (kd13163, ks13164, kn13165, tf13166, ksp13167, gtsp3168) rfl rfl (by decide) (⟨Or.inr (rfl), by dsimp only; omega⟩) (by decide +kernel) dX10_takesCond_41
        · refine lv_if_eq (tgt := 54) hx hb dX10_takesCond_25 (by decide) (fun _ => ?_) (fun c9 => absurd (by decide) c9)
          refine lv_iconst (v := 1) hx hb dX10_takesCond_54 (by decide) ?_
          exact RI (v := 1) hC hP hD hS [0, 1, 2, 3] (vkd, vks, vkn, vtf, vksp, vtsp) rfl rfl (by decide) (⟨Or.inl (rfl), by dsimp only; omega⟩) (by decide +kernel) dX10_takesCond_55
    exact keyP 240 0 kd13145 tf13148 gtsp3150 ks13146 kn13147 ksp13149 _ _ _ (by omega) (by first | assumption | exact Or.inl rfl | exact Or.inr rfl | omega) (by first | assumption | exact Or.inl rfl | exact Or.inr rfl | omega) (by first | assumption | exact Or.inl rfl | exact Or.inr rfl | omega) hP hD hS (lv_sub hl [0, 1, 2] rfl)
  · refine lv_if_ne (tgt := 10) hx hb dX10_takesCond_5 (by decide) (fun c9 => absurd (by decide) c9) (fun _ => ?_)
    refine lv_iconst (v := 0) hx hb dX10_takesCond_8 (by decide) ?_
    exact RI (v := 0) hC hP hD hS [0, 1, 2, 3] (kd13145, ks13146, kn13147, tf13148, ksp13149, gtsp3150) rfl rfl (by decide) (⟨Or.inr (rfl), by dsimp only; omega⟩) (by decide +kernel) dX10_takesCond_9
set_option maxHeartbeats 4000000 in
set_option maxRecDepth 100000 in
theorem t_one2 (l : Launch) (G : GG) (K : OO) (h0 : Nat) (tby : Nat) (kt : Nat) (tln : Nat) (tsp : Nat) (tkd : Int32) (ks : Nat) (kn : Nat) (tf9 : Int32) (fby : Nat → Int32) (tspc : Nat) (ksp : Nat) (ftsp : Nat → Int32) (hkt : kt ≤ 240) (hks : ks ≤ 240) (hkn : kn ≤ 240) (hksp : ksp ≤ 120) : MIo l G K yX10_takesOne cX10_takesOne 4 (some .boolean) 17 0 0 [.ref h0, .int 2] [(h0, .inr (10, [.ref tby, .int (nI kt), .ref tln, .ref tsp, .int tkd, .int (nI ks), .int (nI kn), .int tf9])), (tby, .inl (G.2.1, 240, .inl fby)), (tsp, .inr (8, [.int 120, .int 1, .ref tspc, .int (nI ksp)])), (tspc, .inl (G.2.1, 120, .inl ftsp))] (fun (r : Int32) (u : Int32 × Nat × Nat × Int32 × Nat × (Nat → Int32)) => (r = 1 ∨ r = 0) ∧ (u.2.1 ≤ 240 ∧ u.2.2.1 ≤ 240 ∧ u.2.2.2.2.1 ≤ 120)) (fun u : Int32 × Nat × Nat × Int32 × Nat × (Nat → Int32) => [(h0, .inr (10, [.ref tby, .int (nI kt), .ref tln, .ref tsp, .int u.1, .int (nI u.2.1), .int (nI u.2.2.1), .int u.2.2.2.1])), (tby, .inl (G.2.1, 240, .inl fby)), (tsp, .inr (8, [.int 120, .int 1, .ref tspc, .int (nI u.2.2.2.2.1)])), (tspc, .inl (G.2.1, 120, .inl u.2.2.2.2.2))]) := by
  refine MIo.start (by decide +kernel) (Nat.le_of_ble_eq_true rfl) ?_
  intro p e s m below meth c A ls hC hK hP hD hS hA hl hO
  have hl : lv_has ls 4 [(0, .ref h0), (1, .int 2)] := hl
  obtain ⟨hx, hb, hr, hml, hB, hown, hlocks, hnm⟩ := id hC
  refine lv_iconst (v := 0) hx hb dX10_takesOne_0 (by decide) ?_
  refine lv_istore_n (lv' := [(2, .int 0), (0, .ref h0), (1, .int 2)]) hx hb dX10_takesOne_1 rfl hl (by decide) rfl (fun ls hl => ?_)
  refine lv_iconst (v := 0) hx hb dX10_takesOne_2 (by decide) ?_
  refine lv_istore_n (lv' := [(3, .int 0), (2, .int 0), (0, .ref h0), (1, .int 2)]) hx hb dX10_takesOne_3 rfl hl (by decide) rfl (fun ls hl => ?_)
  have keyP : ∀ (nP kP : Nat) (tu : Int32) (vkd : Int32) (vtf : Int32) (vks : Nat) (vkn : Nat) (H : Heap) (locs : List Loc) (ls : Array Slot), kP + nP = 240 → (vks ≤ 240) → (vkn ≤ 240) → va_P G.1 vwCl [(h0, .inr (10, [.ref tby, .int (nI kt), .ref tln, .ref tsp, .int vkd, .int (nI vks), .int (nI vkn), .int vtf])), (tby, .inl (G.2.1, 240, .inl fby)), (tsp, .inr (8, [.int 120, .int 1, .ref tspc, .int (nI ksp)])), (tspc, .inl (G.2.1, 120, .inl ftsp))] H → va_D A [(h0, .inr (10, [.ref tby, .int (nI kt), .ref tln, .ref tsp, .int vkd, .int (nI vks), .int (nI vkn), .int vtf])), (tby, .inl (G.2.1, 240, .inl fby)), (tsp, .inr (8, [.int 120, .int 1, .ref tspc, .int (nI ksp)])), (tspc, .inl (G.2.1, 120, .inl ftsp))] → va_S A s.heap H locs → lv_has ls 4 [(3, .int (nI kP)), (2, .int tu), (0, .ref h0), (1, .int 2)] → W p l e (RM 17 0 0) s m ([.ref h0, .int 2] : List Value).toArray below meth c H locs 0 0 (MQ below (QI G (fun (r : Int32) (u : Int32 × Nat × Nat × Int32 × Nat × (Nat → Int32)) => (r = 1 ∨ r = 0) ∧ (u.2.1 ≤ 240 ∧ u.2.2.1 ≤ 240 ∧ u.2.2.2.2.1 ≤ 120)) (fun u : Int32 × Nat × Nat × Int32 × Nat × (Nat → Int32) => [(h0, .inr (10, [.ref tby, .int (nI kt), .ref tln, .ref tsp, .int u.1, .int (nI u.2.1), .int (nI u.2.2.1), .int u.2.2.2.1])), (tby, .inl (G.2.1, 240, .inl fby)), (tsp, .inr (8, [.int 120, .int 1, .ref tspc, .int (nI u.2.2.2.2.1)])), (tspc, .inl (G.2.1, 120, .inl u.2.2.2.2.2))]) A) ([.ref h0, .int 2] : List Value).toArray s 0 0 A) (F0 m 4 ls []) := by
    intro nP
    induction nP with
    | zero =>
      intro kP tu vkd vtf vks vkn H locs ls hkP hvks hvkn hP hD hS hl
      obtain rfl : 240 = kP := by omega
      have hl : lv_has ls 4 [(3, .int 240), (2, .int tu), (0, .ref h0), (1, .int 2)] := hl
      refine lv_iload_n hx hb dX10_takesOne_4 rfl (lv_at hl 0 rfl) ?_
      refine lv_sipush (v := 240) hx hb dX10_takesOne_5 (by decide) ?_
      refine lv_icmp_ge (tgt := 40) hx hb dX10_takesOne_8 (by decide) (fun _ => ?_) (fun c9 => absurd (by decide) c9)
      refine lv_aload_n hx hb dX10_takesOne_40 rfl (lv_at hl 2 rfl) ?_
      refine gf_X10_31 hC rfl hK hP 0 rfl rfl dX10_takesOne_41 ?_
      refine lv_bipush (v := 40) hx hb dX10_takesOne_44 (by decide) ?_
      refine lv_icmp_eq (tgt := 58) hx hb dX10_takesOne_46 (by decide) (fun c_46_3176 => ?_) (fun c_46_3176 => ?_)
      · refine lv_iload_n hx hb dX10_takesOne_58 rfl (lv_at hl 3 rfl) ?_
        refine lv_iconst (v := 4) hx hb dX10_takesOne_59 (by decide) ?_
        refine lv_icmp_lt (tgt := 68) hx hb dX10_takesOne_60 (by decide) (fun _ => ?_) (fun c9 => absurd (by decide) c9)
        refine lv_aload_n hx hb dX10_takesOne_68 rfl (lv_at hl 2 rfl) ?_
        refine vV (wr := [(tsp, .inr (8, [.int 120, .int 1, .ref tspc, .int (nI ksp)])), (tspc, .inl (G.2.1, 120, .inl ftsp))]) hC hK hl hP hD hS hA (t_advance l G h0 tby kt tln tsp vkd vks vkn vtf fby (by omega) (by omega) (by omega)) si_X10_47 [0, 1] [2, 3] rfl rfl (by decide) rfl (by decide) (by decide) rfl rfl rfl rfl rfl (Nat.le_of_ble_eq_true rfl) ⟨Nat.le_of_ble_eq_true rfl, Nat.le_of_ble_eq_true rfl⟩ ⟨Nat.le_of_ble_eq_true rfl, Nat.le_of_ble_eq_true rfl⟩ dX10_takesOne_69 (fun u3178 H locs hr3177 hP hD hS => ?_)
        obtain ⟨kd13179, ks13180, kn13181⟩ := u3178
        try dsimp only at hr3177
        have hP : va_P G.1 vwCl [(tsp, .inr (8, [.int 120, .int 1, .ref tspc, .int (nI ksp)])), (tspc, .inl (G.2.1, 120, .inl ftsp)), (h0, .inr (10, [.ref tby, .int (nI kt), .ref tln, .ref tsp, .int kd13179, .int (nI ks13180), .int (nI kn13181), .int vtf])), (tby, .inl (G.2.1, 240, .inl fby))] H := hP
        have hD : va_D A [(tsp, .inr (8, [.int 120, .int 1, .ref tspc, .int (nI ksp)])), (tspc, .inl (G.2.1, 120, .inl ftsp)), (h0, .inr (10, [.ref tby, .int (nI kt), .ref tln, .ref tsp, .int kd13179, .int (nI ks13180), .int (nI kn13181), .int vtf])), (tby, .inl (G.2.1, 240, .inl fby))] := hD
        have w3182 := hr3177
        refine lv_aload_n hx hb dX10_takesOne_72 rfl (lv_at hl 2 rfl) ?_
        refine lv_iload_n hx hb dX10_takesOne_73 rfl (lv_at hl 3 rfl) ?_
        refine lv_iconst (v := 1) hx hb dX10_takesOne_74 (by decide) ?_
        refine lv_iadd hx hb dX10_takesOne_75 ?_
        refine eqi (x1 := 3) (by decide) ?_
        refine iVo (wr := []) hO hC hK hl hP hD hS hA (t_cond3 l G K h0 tby kt tln tsp kd13179 ks13180 kn13181 vtf fby tspc ksp ftsp (by omega) (by omega) (by omega) (by omega)) si_X10_121 [2, 3, 0, 1] [] rfl rfl (by decide) rfl (by decide) (by decide) rfl rfl rfl rfl rfl (Nat.le_of_ble_eq_true rfl) ⟨Nat.le_of_ble_eq_true rfl, Nat.le_of_ble_eq_true rfl⟩ ⟨Nat.le_of_ble_eq_true rfl, Nat.le_of_ble_eq_true rfl⟩ dX10_takesOne_76 (fun r3183 u3184 H locs hr3183 hP hD hS => ?_)
        obtain ⟨kd13185, ks13186, kn13187, tf13188, ksp13189, gtsp3190⟩ := u3184
        try dsimp only at hr3183
        have hP : va_P G.1 vwCl [(h0, .inr (10, [.ref tby, .int (nI kt), .ref tln, .ref tsp, .int kd13185, .int (nI ks13186), .int (nI kn13187), .int tf13188])), (tby, .inl (G.2.1, 240, .inl fby)), (tsp, .inr (8, [.int 120, .int 1, .ref tspc, .int (nI ksp13189)])), (tspc, .inl (G.2.1, 120, .inl gtsp3190))] H := hP
        have hD : va_D A [(h0, .inr (10, [.ref tby, .int (nI kt), .ref tln, .ref tsp, .int kd13185, .int (nI ks13186), .int (nI kn13187), .int tf13188])), (tby, .inl (G.2.1, 240, .inl fby)), (tsp, .inr (8, [.int 120, .int 1, .ref tspc, .int (nI ksp13189)])), (tspc, .inl (G.2.1, 120, .inl gtsp3190))] := hD
        obtain ⟨hr3183, w3191⟩ := hr3183
        rcases hr3183 with rfl | rfl
        · refine lv_if_eq (tgt := 91) hx hb dX10_takesOne_79 (by decide) (fun c9 => absurd c9 (by decide)) (fun _ => ?_)
          refine lv_aload_n hx hb dX10_takesOne_82 rfl (lv_at hl 2 rfl) ?_
          refine lv_bipush (v := 41) hx hb dX10_takesOne_83 (by decide) ?_
          refine iV (wr := [(tsp, .inr (8, [.int 120, .int 1, .ref tspc, .int (nI ksp13189)])), (tspc, .inl (G.2.1, 120, .inl gtsp3190))]) hC hK hl hP hD hS hA (t_takesByte l G h0 41 tby kt tln tsp kd13185 ks13186 kn13187 tf13188 fby (by omega) (by omega) (by omega)) si_X10_124 [0, 1] [2, 3] rfl rfl (by decide) rfl (by decide) (by decide) rfl rfl rfl rfl rfl (Nat.le_of_ble_eq_true rfl) ⟨Nat.le_of_ble_eq_true rfl, Nat.le_of_ble_eq_true rfl⟩ ⟨Nat.le_of_ble_eq_true rfl, Nat.le_of_ble_eq_true rfl⟩ dX10_takesOne_85 (fun r3193 u3194 H locs hr3193 hP hD hS => ?_)
          obtain ⟨kd13195, ks13196, kn13197, tf13198⟩ := u3194
          try dsimp only at hr3193
          have hP : va_P G.1 vwCl [(tsp, .inr (8, [.int 120, .int 1, .ref tspc, .int (nI ksp13189)])), (tspc, .inl (G.2.1, 120, .inl gtsp3190)), (h0, .inr (10, [.ref tby, .int (nI kt), .ref tln, .ref tsp, .int kd13195, .int (nI ks13196), .int (nI kn13197), .int tf13198])), (tby, .inl (G.2.1, 240, .inl fby))] H := hP
          have hD : va_D A [(tsp, .inr (8, [.int 120, .int 1, .ref tspc, .int (nI ksp13189)])), (tspc, .inl (G.2.1, 120, .inl gtsp3190)), (h0, .inr (10, [.ref tby, .int (nI kt), .ref tln, .ref tsp, .int kd13195, .int (nI ks13196), .int (nI kn13197), .int tf13198])), (tby, .inl (G.2.1, 240, .inl fby))] := hD
          obtain ⟨hr3193, w3199⟩ := hr3193
          rcases hr3193 with rfl | rfl
          · refine lv_if_ne (tgt := 93) hx hb dX10_takesOne_88 (by decide) (fun _ => ?_) (fun c9 => absurd c9 (by decide))
            refine lv_iload_n hx hb dX10_takesOne_93 rfl (lv_at hl 1 rfl) ?_
            refine lv_if_eq (tgt := 102) hx hb dX10_takesOne_94 (by decide) (fun c_94_3201 => ?_) (fun c_94_3201 => ?_)
            · refine lv_iconst (v := 1) hx hb dX10_takesOne_102 (by decide) ?_
              exact RI (v := 1) hC hP hD hS [2, 3, 0, 1] (kd13195, ks13196, kn13197, tf13198, ksp13189, gtsp3190) rfl rfl (by decide) (⟨Or.inl (rfl), by dsimp only; omega⟩) (by decide +kernel) dX10_takesOne_103
            · refine lv_aload_n hx hb dX10_takesOne_97 rfl (lv_at hl 2 rfl) ?_
              refine lv_iconst (v := (-1)) hx hb dX10_takesOne_98 (by decide) ?_
              refine vV (wr := [(tby, .inl (G.2.1, 240, .inl fby))]) hC hK hl hP hD hS hA (t_addStep l G h0 (-1) tby kt tln tsp kd13195 ks13196 kn13197 tf13198 tspc ksp13189 gtsp3190 (by omega)) si_X10_152 [2, 0, 1] [3] rfl rfl (by decide) rfl (by decide) (by decide) rfl rfl rfl rfl rfl (Nat.le_of_ble_eq_true rfl) ⟨Nat.le_of_ble_eq_true rfl, Nat.le_of_ble_eq_true rfl⟩ ⟨Nat.le_of_ble_eq_true rfl, Nat.le_of_ble_eq_true rfl⟩ dX10_takesOne_99 (fun u3203 H locs hr3202 hP hD hS => ?_)
              obtain ⟨ksp13204, gtsp3205⟩ := u3203
              try dsimp only at hr3202
              have hP : va_P G.1 vwCl [(tby, .inl (G.2.1, 240, .inl fby)), (h0, .inr (10, [.ref tby, .int (nI kt), .ref tln, .ref tsp, .int kd13195, .int (nI ks13196), .int (nI kn13197), .int tf13198])), (tsp, .inr (8, [.int 120, .int 1, .ref tspc, .int (nI ksp13204)])), (tspc, .inl (G.2.1, 120, .inl gtsp3205))] H := hP
              have hD : va_D A [(tby, .inl (G.2.1, 240, .inl fby)), (h0, .inr (10, [.ref tby, .int (nI kt), .ref tln, .ref tsp, .int kd13195, .int (nI ks13196), .int (nI kn13197), .int tf13198])), (tsp, .inr (8, [.int 120, .int 1, .ref tspc, .int (nI ksp13204)])), (tspc, .inl (G.2.1, 120, .inl gtsp3205))] := hD
              have w3206 := hr3202
              refine lv_iconst (v := 1) hx hb dX10_takesOne_102 (by decide) ?_
              exact RI (v := 1) hC hP hD hS [1, 0, 2, 3] (kd13195, ks13196, kn13197, tf13198, ksp13204, gtsp3205) rfl rfl (by decide) (⟨Or.inl (rfl), by dsimp only; omega⟩) (by decide +kernel) dX10_takesOne_103
          · refine lv_if_ne (tgt := 93) hx hb dX10_takesOne_88 (by decide) (fun c9 => absurd (by decide) c9) (fun _ => ?_)
            refine lv_iconst (v := 0) hx hb dX10_takesOne_91 (by decide) ?_
            exact RI (v := 0) hC hP hD hS [2, 3, 0, 1] (kd13195, ks13196, kn13197, tf13198, ksp13189, gtsp3190) rfl rfl (by decide) (⟨Or.inr (rfl), by dsimp only; omega⟩) (by decide +kernel) dX10_takesOne_92
        · refine lv_if_eq (tgt := 91) hx hb dX10_takesOne_79 (by decide) (fun _ => ?_) (fun c9 => absurd (by decide) c9)
          refine lv_iconst (v := 0) hx hb dX10_takesOne_91 (by decide) ?_
          exact RI (v := 0) hC hP hD hS [0, 1, 2, 3] (kd13185, ks13186, kn13187, tf13188, ksp13189, gtsp3190) rfl rfl (by decide) (⟨Or.inr (rfl), by dsimp only; omega⟩) (by decide +kernel) dX10_takesOne_92
      · refine lv_aload_n hx hb dX10_takesOne_49 rfl (lv_at hl 2 rfl) ?_
        refine iVo (wr := []) hO hC hK hl hP hD hS hA (t_takesComparison l G K h0 tby kt tln tsp vkd vks vkn vtf fby tspc ksp ftsp (by omega) (by omega) (by omega) (by omega)) si_X10_162 [0, 1, 2, 3] [] rfl rfl (by decide) rfl (by decide) (by decide) rfl rfl rfl rfl rfl (Nat.le_of_ble_eq_true rfl) ⟨Nat.le_of_ble_eq_true rfl, Nat.le_of_ble_eq_true rfl⟩ ⟨Nat.le_of_ble_eq_true rfl, Nat.le_of_ble_eq_true rfl⟩ dX10_takesOne_50 (fun r3207 u3208 H locs hr3207 hP hD hS => ?_)
        obtain ⟨kd13209, ks13210, kn13211, tf13212, ksp13213, gtsp3214⟩ := u3208
        try dsimp only at hr3207
        have hP : va_P G.1 vwCl [(h0, .inr (10, [.ref tby, .int (nI kt), .ref tln, .ref tsp, .int kd13209, .int (nI ks13210), .int (nI kn13211), .int tf13212])), (tby, .inl (G.2.1, 240, .inl fby)), (tsp, .inr (8, [.int 120, .int 1, .ref tspc, .int (nI ksp13213)])), (tspc, .inl (G.2.1, 120, .inl gtsp3214))] H := hP
        have hD : va_D A [(h0, .inr (10, [.ref tby, .int (nI kt), .ref tln, .ref tsp, .int kd13209, .int (nI ks13210), .int (nI kn13211), .int tf13212])), (tby, .inl (G.2.1, 240, .inl fby)), (tsp, .inr (8, [.int 120, .int 1, .ref tspc, .int (nI ksp13213)])), (tspc, .inl (G.2.1, 120, .inl gtsp3214))] := hD
        obtain ⟨hr3207, w3215⟩ := hr3207
        rcases hr3207 with rfl | rfl
        · refine lv_if_ne (tgt := 93) hx hb dX10_takesOne_53 (by decide) (fun _ => ?_) (fun c9 => absurd c9 (by decide))
          refine lv_iload_n hx hb dX10_takesOne_93 rfl (lv_at hl 1 rfl) ?_
          refine lv_if_eq (tgt := 102) hx hb dX10_takesOne_94 (by decide) (fun c_94_3217 => ?_) (fun c_94_3217 => ?_)
          · refine lv_iconst (v := 1) hx hb dX10_takesOne_102 (by decide) ?_
            exact RI (v := 1) hC hP hD hS [0, 1, 2, 3] (kd13209, ks13210, kn13211, tf13212, ksp13213, gtsp3214) rfl rfl (by decide) (⟨Or.inl (rfl), by dsimp only; omega⟩) (by decide +kernel) dX10_takesOne_103
          · refine lv_aload_n hx hb dX10_takesOne_97 rfl (lv_at hl 2 rfl) ?_
            refine lv_iconst (v := (-1)) hx hb dX10_takesOne_98 (by decide) ?_
            refine vV (wr := [(tby, .inl (G.2.1, 240, .inl fby))]) hC hK hl hP hD hS hA (t_addStep l G h0 (-1) tby kt tln tsp kd13209 ks13210 kn13211 tf13212 tspc ksp13213 gtsp3214 (by omega)) si_X10_152 [0, 2, 3] [1] rfl rfl (by decide) rfl (by decide) (by decide) rfl rfl rfl rfl rfl (Nat.le_of_ble_eq_true rfl) ⟨Nat.le_of_ble_eq_true rfl, Nat.le_of_ble_eq_true rfl⟩ ⟨Nat.le_of_ble_eq_true rfl, Nat.le_of_ble_eq_true rfl⟩ dX10_takesOne_99 (fun u3219 H locs hr3218 hP hD hS => ?_)
            obtain ⟨ksp13220, gtsp3221⟩ := u3219
            try dsimp only at hr3218
            have hP : va_P G.1 vwCl [(tby, .inl (G.2.1, 240, .inl fby)), (h0, .inr (10, [.ref tby, .int (nI kt), .ref tln, .ref tsp, .int kd13209, .int (nI ks13210), .int (nI kn13211), .int tf13212])), (tsp, .inr (8, [.int 120, .int 1, .ref tspc, .int (nI ksp13220)])), (tspc, .inl (G.2.1, 120, .inl gtsp3221))] H := hP
            have hD : va_D A [(tby, .inl (G.2.1, 240, .inl fby)), (h0, .inr (10, [.ref tby, .int (nI kt), .ref tln, .ref tsp, .int kd13209, .int (nI ks13210), .int (nI kn13211), .int tf13212])), (tsp, .inr (8, [.int 120, .int 1, .ref tspc, .int (nI ksp13220)])), (tspc, .inl (G.2.1, 120, .inl gtsp3221))] := hD
            have w3222 := hr3218
            refine lv_iconst (v := 1) hx hb dX10_takesOne_102 (by decide) ?_
            exact RI (v := 1) hC hP hD hS [1, 0, 2, 3] (kd13209, ks13210, kn13211, tf13212, ksp13220, gtsp3221) rfl rfl (by decide) (⟨Or.inl (rfl), by dsimp only; omega⟩) (by decide +kernel) dX10_takesOne_103
        · refine lv_if_ne (tgt := 93) hx hb dX10_takesOne_53 (by decide) (fun c9 => absurd (by decide) c9) (fun _ => ?_)
          refine lv_iconst (v := 0) hx hb dX10_takesOne_56 (by decide) ?_
          exact RI (v := 0) hC hP hD hS [0, 1, 2, 3] (kd13209, ks13210, kn13211, tf13212, ksp13213, gtsp3214) rfl rfl (by decide) (⟨Or.inr (rfl), by dsimp only; omega⟩) (by decide +kernel) dX10_takesOne_57
    | succ nP ihP =>
      intro kP tu vkd vtf vks vkn H locs ls hkP hvks hvkn hP hD hS hl
      refine lv_iload_n hx hb dX10_takesOne_4 rfl (lv_at hl 0 rfl) ?_
      refine lv_sipush (v := 240) hx hb dX10_takesOne_5 (by decide) ?_
      refine lv_icmp_ge (tgt := 40) hx hb dX10_takesOne_8 (by decide) (fun c9 => absurd c9 (nI_ge (a := kP) (b := 240) (by omega) (by omega))) (fun _ => ?_)
      refine lv_aload_n hx hb dX10_takesOne_11 rfl (lv_at hl 2 rfl) ?_
      refine va_ldcS (index := 160) (tx := "not") hx hb hown (hO.2.1 10 (by decide)) dX10_takesOne_12 ?_
      refine pVo hO hS hC hK hl hP hD (t_isName l G K 10 h0 tby kt tln tsp vkd vks vkn vtf fby (by omega) (by omega) (by omega) ((by decide))) si_X10_102 [0, 1] rfl rfl (by decide) rfl rfl rfl rfl rfl (Nat.le_of_ble_eq_true rfl) ⟨Nat.le_of_ble_eq_true rfl, Nat.le_of_ble_eq_true rfl⟩ ⟨by first | exact Nat.le_of_ble_eq_true rfl | exact Nat.zero_le _, by first | exact Nat.le_of_ble_eq_true rfl | exact Nat.zero_le _⟩ dX10_takesOne_14 (fun r3223 hr3223 => ?_)
      rcases hr3223 with rfl | rfl
      · refine lv_if_eq (tgt := 40) hx hb dX10_takesOne_17 (by decide) (fun c9 => absurd c9 (by decide)) (fun _ => ?_)
        refine lv_aload_n hx hb dX10_takesOne_20 rfl (lv_at hl 2 rfl) ?_
        refine vV (wr := [(tsp, .inr (8, [.int 120, .int 1, .ref tspc, .int (nI ksp)])), (tspc, .inl (G.2.1, 120, .inl ftsp))]) hC hK hl hP hD hS hA (t_advance l G h0 tby kt tln tsp vkd vks vkn vtf fby (by omega) (by omega) (by omega)) si_X10_47 [0, 1] [2, 3] rfl rfl (by decide) rfl (by decide) (by decide) rfl rfl rfl rfl rfl (Nat.le_of_ble_eq_true rfl) ⟨Nat.le_of_ble_eq_true rfl, Nat.le_of_ble_eq_true rfl⟩ ⟨Nat.le_of_ble_eq_true rfl, Nat.le_of_ble_eq_true rfl⟩ dX10_takesOne_21 (fun u3226 H locs hr3225 hP hD hS => ?_)
        obtain ⟨kd13227, ks13228, kn13229⟩ := u3226
        try dsimp only at hr3225
        have hP : va_P G.1 vwCl [(tsp, .inr (8, [.int 120, .int 1, .ref tspc, .int (nI ksp)])), (tspc, .inl (G.2.1, 120, .inl ftsp)), (h0, .inr (10, [.ref tby, .int (nI kt), .ref tln, .ref tsp, .int kd13227, .int (nI ks13228), .int (nI kn13229), .int vtf])), (tby, .inl (G.2.1, 240, .inl fby))] H := hP
        have hD : va_D A [(tsp, .inr (8, [.int 120, .int 1, .ref tspc, .int (nI ksp)])), (tspc, .inl (G.2.1, 120, .inl ftsp)), (h0, .inr (10, [.ref tby, .int (nI kt), .ref tln, .ref tsp, .int kd13227, .int (nI ks13228), .int (nI kn13229), .int vtf])), (tby, .inl (G.2.1, 240, .inl fby))] := hD
        have w3230 := hr3225
        refine lv_iload_n hx hb dX10_takesOne_24 rfl (lv_at hl 1 rfl) ?_
        refine lv_if_ne (tgt := 32) hx hb dX10_takesOne_25 (by decide) (fun c_25_3231 => ?_) (fun c_25_3231 => ?_)
        · refine lv_iconst (v := 0) hx hb dX10_takesOne_32 (by decide) ?_
          refine lv_istore_n (lv' := [(2, .int 0), (3, .int (nI kP)), (0, .ref h0), (1, .int 2)]) hx hb dX10_takesOne_33 rfl hl (by decide) rfl (fun ls hl => ?_)
          refine lv_iinc (v := nI (kP + 1)) (lv' := [(3, .int (nI (kP + 1))), (2, .int 0), (0, .ref h0), (1, .int 2)]) hx hb dX10_takesOne_34 hl (k := 1) rfl (nI_1 _) (by decide) rfl (fun ls hl => ?_)
          refine lv_goto (tgt := 4) hx hb dX10_takesOne_37 (by decide) ?_
          have hP := hP.sub (ws' := [(h0, .inr (10, [.ref tby, .int (nI kt), .ref tln, .ref tsp, .int kd13227, .int (nI ks13228), .int (nI kn13229), .int vtf])), (tby, .inl (G.2.1, 240, .inl fby)), (tsp, .inr (8, [.int 120, .int 1, .ref tspc, .int (nI ksp)])), (tspc, .inl (G.2.1, 120, .inl ftsp))]) [2, 3, 0, 1] rfl
          have hD := hD.sub (ws' := [(h0, .inr (10, [.ref tby, .int (nI kt), .ref tln, .ref tsp, .int kd13227, .int (nI ks13228), .int (nI kn13229), .int vtf])), (tby, .inl (G.2.1, 240, .inl fby)), (tsp, .inr (8, [.int 120, .int 1, .ref tspc, .int (nI ksp)])), (tspc, .inl (G.2.1, 120, .inl ftsp))]) [2, 3, 0, 1] (by decide) rfl
          exact ihP (kP + 1) 0 kd13227 vtf ks13228 kn13229 _ _ _ (by omega) (by first | assumption | exact Or.inl rfl | exact Or.inr rfl | omega) (by first | assumption | exact Or.inl rfl | exact Or.inr rfl | omega) hP hD hS (lv_sub hl [0, 1, 2, 3] rfl)
        · refine lv_iconst (v := 1) hx hb dX10_takesOne_28 (by decide) ?_
          refine lv_goto (tgt := 33) hx hb dX10_takesOne_29 (by decide) ?_
          refine lv_istore_n (lv' := [(2, .int 1), (3, .int (nI kP)), (0, .ref h0), (1, .int 2)]) hx hb dX10_takesOne_33 rfl hl (by decide) rfl (fun ls hl => ?_)
          refine lv_iinc (v := nI (kP + 1)) (lv' := [(3, .int (nI (kP + 1))), (2, .int 1), (0, .ref h0), (1, .int 2)]) hx hb dX10_takesOne_34 hl (k := 1) rfl (nI_1 _) (by decide) rfl (fun ls hl => ?_)
          refine lv_goto (tgt := 4) hx hb dX10_takesOne_37 (by decide) ?_
          have hP := hP.sub (ws' := [(h0, .inr (10, [.ref tby, .int (nI kt), .ref tln, .ref tsp, .int kd13227, .int (nI ks13228), .int (nI kn13229), .int vtf])), (tby, .inl (G.2.1, 240, .inl fby)), (tsp, .inr (8, [.int 120, .int 1, .ref tspc, .int (nI ksp)])), (tspc, .inl (G.2.1, 120, .inl ftsp))]) [2, 3, 0, 1] rfl
          have hD := hD.sub (ws' := [(h0, .inr (10, [.ref tby, .int (nI kt), .ref tln, .ref tsp, .int kd13227, .int (nI ks13228), .int (nI kn13229), .int vtf])), (tby, .inl (G.2.1, 240, .inl fby)), (tsp, .inr (8, [.int 120, .int 1, .ref tspc, .int (nI ksp)])), (tspc, .inl (G.2.1, 120, .inl ftsp))]) [2, 3, 0, 1] (by decide) rfl
          exact ihP (kP + 1) 1 kd13227 vtf ks13228 kn13229 _ _ _ (by omega) (by first | assumption | exact Or.inl rfl | exact Or.inr rfl | omega) (by first | assumption | exact Or.inl rfl | exact Or.inr rfl | omega) hP hD hS (lv_sub hl [0, 1, 2, 3] rfl)
      · refine lv_if_eq (tgt := 40) hx hb dX10_takesOne_17 (by decide) (fun _ => ?_) (fun c9 => absurd (by decide) c9)
        refine lv_aload_n hx hb dX10_takesOne_40 rfl (lv_at hl 2 rfl) ?_
        refine gf_X10_31 hC rfl hK hP 0 rfl rfl dX10_takesOne_41 ?_
        refine lv_bipush (v := 40) hx hb dX10_takesOne_44 (by decide) ?_
        refine lv_icmp_eq (tgt := 58) hx hb dX10_takesOne_46 (by decide) (fun c_46_3232 => ?_) (fun c_46_3232 => ?_)
        · refine lv_iload_n hx hb dX10_takesOne_58 rfl (lv_at hl 3 rfl) ?_
          refine lv_iconst (v := 4) hx hb dX10_takesOne_59 (by decide) ?_
          refine lv_icmp_lt (tgt := 68) hx hb dX10_takesOne_60 (by decide) (fun _ => ?_) (fun c9 => absurd (by decide) c9)
          refine lv_aload_n hx hb dX10_takesOne_68 rfl (lv_at hl 2 rfl) ?_
          refine vV (wr := [(tsp, .inr (8, [.int 120, .int 1, .ref tspc, .int (nI ksp)])), (tspc, .inl (G.2.1, 120, .inl ftsp))]) hC hK hl hP hD hS hA (t_advance l G h0 tby kt tln tsp vkd vks vkn vtf fby (by omega) (by omega) (by omega)) si_X10_47 [0, 1] [2, 3] rfl rfl (by decide) rfl (by decide) (by decide) rfl rfl rfl rfl rfl (Nat.le_of_ble_eq_true rfl) ⟨Nat.le_of_ble_eq_true rfl, Nat.le_of_ble_eq_true rfl⟩ ⟨Nat.le_of_ble_eq_true rfl, Nat.le_of_ble_eq_true rfl⟩ dX10_takesOne_69 (fun u3234 H locs hr3233 hP hD hS => ?_)
          obtain ⟨kd13235, ks13236, kn13237⟩ := u3234
          try dsimp only at hr3233
          have hP : va_P G.1 vwCl [(tsp, .inr (8, [.int 120, .int 1, .ref tspc, .int (nI ksp)])), (tspc, .inl (G.2.1, 120, .inl ftsp)), (h0, .inr (10, [.ref tby, .int (nI kt), .ref tln, .ref tsp, .int kd13235, .int (nI ks13236), .int (nI kn13237), .int vtf])), (tby, .inl (G.2.1, 240, .inl fby))] H := hP
          have hD : va_D A [(tsp, .inr (8, [.int 120, .int 1, .ref tspc, .int (nI ksp)])), (tspc, .inl (G.2.1, 120, .inl ftsp)), (h0, .inr (10, [.ref tby, .int (nI kt), .ref tln, .ref tsp, .int kd13235, .int (nI ks13236), .int (nI kn13237), .int vtf])), (tby, .inl (G.2.1, 240, .inl fby))] := hD
          have w3238 := hr3233
          refine lv_aload_n hx hb dX10_takesOne_72 rfl (lv_at hl 2 rfl) ?_
          refine lv_iload_n hx hb dX10_takesOne_73 rfl (lv_at hl 3 rfl) ?_
          refine lv_iconst (v := 1) hx hb dX10_takesOne_74 (by decide) ?_
          refine lv_iadd hx hb dX10_takesOne_75 ?_
          refine eqi (x1 := 3) (by decide) ?_
          refine iVo (wr := []) hO hC hK hl hP hD hS hA (t_cond3 l G K h0 tby kt tln tsp kd13235 ks13236 kn13237 vtf fby tspc ksp ftsp (by omega) (by omega) (by omega) (by omega)) si_X10_121 [2, 3, 0, 1] [] rfl rfl (by decide) rfl (by decide) (by decide) rfl rfl rfl rfl rfl (Nat.le_of_ble_eq_true rfl) ⟨Nat.le_of_ble_eq_true rfl, Nat.le_of_ble_eq_true rfl⟩ ⟨Nat.le_of_ble_eq_true rfl, Nat.le_of_ble_eq_true rfl⟩ dX10_takesOne_76 (fun r3239 u3240 H locs hr3239 hP hD hS => ?_)
          obtain ⟨kd13241, ks13242, kn13243, tf13244, ksp13245, gtsp3246⟩ := u3240
          try dsimp only at hr3239
          have hP : va_P G.1 vwCl [(h0, .inr (10, [.ref tby, .int (nI kt), .ref tln, .ref tsp, .int kd13241, .int (nI ks13242), .int (nI kn13243), .int tf13244])), (tby, .inl (G.2.1, 240, .inl fby)), (tsp, .inr (8, [.int 120, .int 1, .ref tspc, .int (nI ksp13245)])), (tspc, .inl (G.2.1, 120, .inl gtsp3246))] H := hP
          have hD : va_D A [(h0, .inr (10, [.ref tby, .int (nI kt), .ref tln, .ref tsp, .int kd13241, .int (nI ks13242), .int (nI kn13243), .int tf13244])), (tby, .inl (G.2.1, 240, .inl fby)), (tsp, .inr (8, [.int 120, .int 1, .ref tspc, .int (nI ksp13245)])), (tspc, .inl (G.2.1, 120, .inl gtsp3246))] := hD
          obtain ⟨hr3239, w3247⟩ := hr3239
          rcases hr3239 with rfl | rfl
          · refine lv_if_eq (tgt := 91) hx hb dX10_takesOne_79 (by decide) (fun c9 => absurd c9 (by decide)) (fun _ => ?_)
            refine lv_aload_n hx hb dX10_takesOne_82 rfl (lv_at hl 2 rfl) ?_
            refine lv_bipush (v := 41) hx hb dX10_takesOne_83 (by decide) ?_
            refine iV (wr := [(tsp, .inr (8, [.int 120, .int 1, .ref tspc, .int (nI ksp13245)])), (tspc, .inl (G.2.1, 120, .inl gtsp3246))]) hC hK hl hP hD hS hA (t_takesByte l G h0 41 tby kt tln tsp kd13241 ks13242 kn13243 tf13244 fby (by omega) (by omega) (by omega)) si_X10_124 [0, 1] [2, 3] rfl rfl (by decide) rfl (by decide) (by decide) rfl rfl rfl rfl rfl (Nat.le_of_ble_eq_true rfl) ⟨Nat.le_of_ble_eq_true rfl, Nat.le_of_ble_eq_true rfl⟩ ⟨Nat.le_of_ble_eq_true rfl, Nat.le_of_ble_eq_true rfl⟩ dX10_takesOne_85 (fun r3249 u3250 H locs hr3249 hP hD hS => ?_)
            obtain ⟨kd13251, ks13252, kn13253, tf13254⟩ := u3250
            try dsimp only at hr3249
            have hP : va_P G.1 vwCl [(tsp, .inr (8, [.int 120, .int 1, .ref tspc, .int (nI ksp13245)])), (tspc, .inl (G.2.1, 120, .inl gtsp3246)), (h0, .inr (10, [.ref tby, .int (nI kt), .ref tln, .ref tsp, .int kd13251, .int (nI ks13252), .int (nI kn13253), .int tf13254])), (tby, .inl (G.2.1, 240, .inl fby))] H := hP
            have hD : va_D A [(tsp, .inr (8, [.int 120, .int 1, .ref tspc, .int (nI ksp13245)])), (tspc, .inl (G.2.1, 120, .inl gtsp3246)), (h0, .inr (10, [.ref tby, .int (nI kt), .ref tln, .ref tsp, .int kd13251, .int (nI ks13252), .int (nI kn13253), .int tf13254])), (tby, .inl (G.2.1, 240, .inl fby))] := hD
            obtain ⟨hr3249, w3255⟩ := hr3249
            rcases hr3249 with rfl | rfl
            · refine lv_if_ne (tgt := 93) hx hb dX10_takesOne_88 (by decide) (fun _ => ?_) (fun c9 => absurd c9 (by decide))
              refine lv_iload_n hx hb dX10_takesOne_93 rfl (lv_at hl 1 rfl) ?_
              refine lv_if_eq (tgt := 102) hx hb dX10_takesOne_94 (by decide) (fun c_94_3257 => ?_) (fun c_94_3257 => ?_)
              · refine lv_iconst (v := 1) hx hb dX10_takesOne_102 (by decide) ?_
                exact RI (v := 1) hC hP hD hS [2, 3, 0, 1] (kd13251, ks13252, kn13253, tf13254, ksp13245, gtsp3246) rfl rfl (by decide) (⟨Or.inl (rfl), by dsimp only; omega⟩) (by decide +kernel) dX10_takesOne_103
              · refine lv_aload_n hx hb dX10_takesOne_97 rfl (lv_at hl 2 rfl) ?_
                refine lv_iconst (v := (-1)) hx hb dX10_takesOne_98 (by decide) ?_
                refine vV (wr := [(tby, .inl (G.2.1, 240, .inl fby))]) hC hK hl hP hD hS hA (t_addStep l G h0 (-1) tby kt tln tsp kd13251 ks13252 kn13253 tf13254 tspc ksp13245 gtsp3246 (by omega)) si_X10_152 [2, 0, 1] [3] rfl rfl (by decide) rfl (by decide) (by decide) rfl rfl rfl rfl rfl (Nat.le_of_ble_eq_true rfl) ⟨Nat.le_of_ble_eq_true rfl, Nat.le_of_ble_eq_true rfl⟩ ⟨Nat.le_of_ble_eq_true rfl, Nat.le_of_ble_eq_true rfl⟩ dX10_takesOne_99 (fun u3259 H locs hr3258 hP hD hS => ?_)
                obtain ⟨ksp13260, gtsp3261⟩ := u3259
                try dsimp only at hr3258
                have hP : va_P G.1 vwCl [(tby, .inl (G.2.1, 240, .inl fby)), (h0, .inr (10, [.ref tby, .int (nI kt), .ref tln, .ref tsp, .int kd13251, .int (nI ks13252), .int (nI kn13253), .int tf13254])), (tsp, .inr (8, [.int 120, .int 1, .ref tspc, .int (nI ksp13260)])), (tspc, .inl (G.2.1, 120, .inl gtsp3261))] H := hP
                have hD : va_D A [(tby, .inl (G.2.1, 240, .inl fby)), (h0, .inr (10, [.ref tby, .int (nI kt), .ref tln, .ref tsp, .int kd13251, .int (nI ks13252), .int (nI kn13253), .int tf13254])), (tsp, .inr (8, [.int 120, .int 1, .ref tspc, .int (nI ksp13260)])), (tspc, .inl (G.2.1, 120, .inl gtsp3261))] := hD
                have w3262 := hr3258
                refine lv_iconst (v := 1) hx hb dX10_takesOne_102 (by decide) ?_
                exact RI (v := 1) hC hP hD hS [1, 0, 2, 3] (kd13251, ks13252, kn13253, tf13254, ksp13260, gtsp3261) rfl rfl (by decide) (⟨Or.inl (rfl), by dsimp only; omega⟩) (by decide +kernel) dX10_takesOne_103
            · refine lv_if_ne (tgt := 93) hx hb dX10_takesOne_88 (by decide) (fun c9 => absurd (by decide) c9) (fun _ => ?_)
              refine lv_iconst (v := 0) hx hb dX10_takesOne_91 (by decide) ?_
              exact RI (v := 0) hC hP hD hS [2, 3, 0, 1] (kd13251, ks13252, kn13253, tf13254, ksp13245, gtsp3246) rfl rfl (by decide) (⟨Or.inr (rfl), by dsimp only; omega⟩) (by decide +kernel) dX10_takesOne_92
          · refine lv_if_eq (tgt := 91) hx hb dX10_takesOne_79 (by decide) (fun _ => ?_) (fun c9 => absurd (by decide) c9)
            refine lv_iconst (v := 0) hx hb dX10_takesOne_91 (by decide) ?_
            exact RI (v := 0) hC hP hD hS [0, 1, 2, 3] (kd13241, ks13242, kn13243, tf13244, ksp13245, gtsp3246) rfl rfl (by decide) (⟨Or.inr (rfl), by dsimp only; omega⟩) (by decide +kernel) dX10_takesOne_92
        · refine lv_aload_n hx hb dX10_takesOne_49 rfl (lv_at hl 2 rfl) ?_
          refine iVo (wr := []) hO hC hK hl hP hD hS hA (t_takesComparison l G K h0 tby kt tln tsp vkd vks vkn vtf fby tspc ksp ftsp (by omega) (by omega) (by omega) (by omega)) si_X10_162 [0, 1, 2, 3] [] rfl rfl (by decide) rfl (by decide) (by decide) rfl rfl rfl rfl rfl (Nat.le_of_ble_eq_true rfl) ⟨Nat.le_of_ble_eq_true rfl, Nat.le_of_ble_eq_true rfl⟩ ⟨Nat.le_of_ble_eq_true rfl, Nat.le_of_ble_eq_true rfl⟩ dX10_takesOne_50 (fun r3263 u3264 H locs hr3263 hP hD hS => ?_)
          obtain ⟨kd13265, ks13266, kn13267, tf13268, ksp13269, gtsp3270⟩ := u3264
          try dsimp only at hr3263
          have hP : va_P G.1 vwCl [(h0, .inr (10, [.ref tby, .int (nI kt), .ref tln, .ref tsp, .int kd13265, .int (nI ks13266), .int (nI kn13267), .int tf13268])), (tby, .inl (G.2.1, 240, .inl fby)), (tsp, .inr (8, [.int 120, .int 1, .ref tspc, .int (nI ksp13269)])), (tspc, .inl (G.2.1, 120, .inl gtsp3270))] H := hP
          have hD : va_D A [(h0, .inr (10, [.ref tby, .int (nI kt), .ref tln, .ref tsp, .int kd13265, .int (nI ks13266), .int (nI kn13267), .int tf13268])), (tby, .inl (G.2.1, 240, .inl fby)), (tsp, .inr (8, [.int 120, .int 1, .ref tspc, .int (nI ksp13269)])), (tspc, .inl (G.2.1, 120, .inl gtsp3270))] := hD
          obtain ⟨hr3263, w3271⟩ := hr3263
          rcases hr3263 with rfl | rfl
          · refine lv_if_ne (tgt := 93) hx hb dX10_takesOne_53 (by decide) (fun _ => ?_) (fun c9 => absurd c9 (by decide))
            refine lv_iload_n hx hb dX10_takesOne_93 rfl (lv_at hl 1 rfl) ?_
            refine lv_if_eq (tgt := 102) hx hb dX10_takesOne_94 (by decide) (fun c_94_3273 => ?_) (fun c_94_3273 => ?_)
            · refine lv_iconst (v := 1) hx hb dX10_takesOne_102 (by decide) ?_
              exact RI (v := 1) hC hP hD hS [0, 1, 2, 3] (kd13265, ks13266, kn13267, tf13268, ksp13269, gtsp3270) rfl rfl (by decide) (⟨Or.inl (rfl), by dsimp only; omega⟩) (by decide +kernel) dX10_takesOne_103
            · refine lv_aload_n hx hb dX10_takesOne_97 rfl (lv_at hl 2 rfl) ?_
              refine lv_iconst (v := (-1)) hx hb dX10_takesOne_98 (by decide) ?_
              refine vV (wr := [(tby, .inl (G.2.1, 240, .inl fby))]) hC hK hl hP hD hS hA (t_addStep l G h0 (-1) tby kt tln tsp kd13265 ks13266 kn13267 tf13268 tspc ksp13269 gtsp3270 (by omega)) si_X10_152 [0, 2, 3] [1] rfl rfl (by decide) rfl (by decide) (by decide) rfl rfl rfl rfl rfl (Nat.le_of_ble_eq_true rfl) ⟨Nat.le_of_ble_eq_true rfl, Nat.le_of_ble_eq_true rfl⟩ ⟨Nat.le_of_ble_eq_true rfl, Nat.le_of_ble_eq_true rfl⟩ dX10_takesOne_99 (fun u3275 H locs hr3274 hP hD hS => ?_)
              obtain ⟨ksp13276, gtsp3277⟩ := u3275
              try dsimp only at hr3274
              have hP : va_P G.1 vwCl [(tby, .inl (G.2.1, 240, .inl fby)), (h0, .inr (10, [.ref tby, .int (nI kt), .ref tln, .ref tsp, .int kd13265, .int (nI ks13266), .int (nI kn13267), .int tf13268])), (tsp, .inr (8, [.int 120, .int 1, .ref tspc, .int (nI ksp13276)])), (tspc, .inl (G.2.1, 120, .inl gtsp3277))] H := hP
              have hD : va_D A [(tby, .inl (G.2.1, 240, .inl fby)), (h0, .inr (10, [.ref tby, .int (nI kt), .ref tln, .ref tsp, .int kd13265, .int (nI ks13266), .int (nI kn13267), .int tf13268])), (tsp, .inr (8, [.int 120, .int 1, .ref tspc, .int (nI ksp13276)])), (tspc, .inl (G.2.1, 120, .inl gtsp3277))] := hD
              have w3278 := hr3274
              refine lv_iconst (v := 1) hx hb dX10_takesOne_102 (by decide) ?_
              exact RI (v := 1) hC hP hD hS [1, 0, 2, 3] (kd13265, ks13266, kn13267, tf13268, ksp13276, gtsp3277) rfl rfl (by decide) (⟨Or.inl (rfl), by dsimp only; omega⟩) (by decide +kernel) dX10_takesOne_103
          · refine lv_if_ne (tgt := 93) hx hb dX10_takesOne_53 (by decide) (fun c9 => absurd (by decide) c9) (fun _ => ?_)
            refine lv_iconst (v := 0) hx hb dX10_takesOne_56 (by decide) ?_
            exact RI (v := 0) hC hP hD hS [0, 1, 2, 3] (kd13265, ks13266, kn13267, tf13268, ksp13269, gtsp3270) rfl rfl (by decide) (⟨Or.inr (rfl), by dsimp only; omega⟩) (by decide +kernel) dX10_takesOne_57
  exact keyP 240 0 0 tkd tf9 ks kn _ _ _ (by omega) (by first | assumption | exact Or.inl rfl | exact Or.inr rfl | omega) (by first | assumption | exact Or.inl rfl | exact Or.inr rfl | omega) hP hD hS (lv_sub hl [0, 1, 2, 3] rfl)
set_option maxHeartbeats 4000000 in
set_option maxRecDepth 100000 in
theorem t_all2 (l : Launch) (G : GG) (K : OO) (h0 : Nat) (tby : Nat) (kt : Nat) (tln : Nat) (tsp : Nat) (tkd : Int32) (ks : Nat) (kn : Nat) (tf9 : Int32) (fby : Nat → Int32) (tspc : Nat) (ksp : Nat) (ftsp : Nat → Int32) (hkt : kt ≤ 240) (hks : ks ≤ 240) (hkn : kn ≤ 240) (hksp : ksp ≤ 120) : MIo l G K yX10_takesAll cX10_takesAll 3 (some .boolean) 18 0 0 [.ref h0, .int 2] [(h0, .inr (10, [.ref tby, .int (nI kt), .ref tln, .ref tsp, .int tkd, .int (nI ks), .int (nI kn), .int tf9])), (tby, .inl (G.2.1, 240, .inl fby)), (tsp, .inr (8, [.int 120, .int 1, .ref tspc, .int (nI ksp)])), (tspc, .inl (G.2.1, 120, .inl ftsp))] (fun (r : Int32) (u : Int32 × Nat × Nat × Int32 × Nat × (Nat → Int32)) => (r = 1 ∨ r = 0) ∧ (u.2.1 ≤ 240 ∧ u.2.2.1 ≤ 240 ∧ u.2.2.2.2.1 ≤ 120)) (fun u : Int32 × Nat × Nat × Int32 × Nat × (Nat → Int32) => [(h0, .inr (10, [.ref tby, .int (nI kt), .ref tln, .ref tsp, .int u.1, .int (nI u.2.1), .int (nI u.2.2.1), .int u.2.2.2.1])), (tby, .inl (G.2.1, 240, .inl fby)), (tsp, .inr (8, [.int 120, .int 1, .ref tspc, .int (nI u.2.2.2.2.1)])), (tspc, .inl (G.2.1, 120, .inl u.2.2.2.2.2))]) := by
  refine MIo.start (by decide +kernel) (Nat.le_of_ble_eq_true rfl) ?_
  intro p e s m below meth c A ls hC hK hP hD hS hA hl hO
  have hl : lv_has ls 3 [(0, .ref h0), (1, .int 2)] := hl
  obtain ⟨hx, hb, hr, hml, hB, hown, hlocks, hnm⟩ := id hC
  refine lv_aload_n hx hb dX10_takesAll_0 rfl (lv_at hl 0 rfl) ?_
  refine lv_iload_n hx hb dX10_takesAll_1 rfl (lv_at hl 1 rfl) ?_
  refine iVo (wr := []) hO hC hK hl hP hD hS hA (t_one2 l G K h0 tby kt tln tsp tkd ks kn tf9 fby tspc ksp ftsp (by omega) (by omega) (by omega) (by omega)) si_X10_155 [0, 1, 2, 3] [] rfl rfl (by decide) rfl (by decide) (by decide) rfl rfl rfl rfl rfl (Nat.le_of_ble_eq_true rfl) ⟨Nat.le_of_ble_eq_true rfl, Nat.le_of_ble_eq_true rfl⟩ ⟨Nat.le_of_ble_eq_true rfl, Nat.le_of_ble_eq_true rfl⟩ dX10_takesAll_2 (fun r3279 u3280 H locs hr3279 hP hD hS => ?_)
  obtain ⟨kd13281, ks13282, kn13283, tf13284, ksp13285, gtsp3286⟩ := u3280
  try dsimp only at hr3279
  have hP : va_P G.1 vwCl [(h0, .inr (10, [.ref tby, .int (nI kt), .ref tln, .ref tsp, .int kd13281, .int (nI ks13282), .int (nI kn13283), .int tf13284])), (tby, .inl (G.2.1, 240, .inl fby)), (tsp, .inr (8, [.int 120, .int 1, .ref tspc, .int (nI ksp13285)])), (tspc, .inl (G.2.1, 120, .inl gtsp3286))] H := hP
  have hD : va_D A [(h0, .inr (10, [.ref tby, .int (nI kt), .ref tln, .ref tsp, .int kd13281, .int (nI ks13282), .int (nI kn13283), .int tf13284])), (tby, .inl (G.2.1, 240, .inl fby)), (tsp, .inr (8, [.int 120, .int 1, .ref tspc, .int (nI ksp13285)])), (tspc, .inl (G.2.1, 120, .inl gtsp3286))] := hD
  obtain ⟨hr3279, w3287⟩ := hr3279
  rcases hr3279 with rfl | rfl
  · refine lv_if_ne (tgt := 10) hx hb dX10_takesAll_5 (by decide) (fun _ => ?_) (fun c9 => absurd c9 (by decide))
    refine lv_iconst (v := 0) hx hb dX10_takesAll_10 (by decide) ?_
    refine lv_istore_n (lv' := [(2, .int 0), (0, .ref h0), (1, .int 2)]) hx hb dX10_takesAll_11 rfl hl (by decide) rfl (fun ls hl => ?_)
    have keyP : ∀ (nP kP : Nat) (vkd : Int32) (vtf : Int32) (vtsp : Nat → Int32) (vks : Nat) (vkn : Nat) (vksp : Nat) (H : Heap) (locs : List Loc) (ls : Array Slot), kP + nP = 240 → (vks ≤ 240) → (vkn ≤ 240) → (vksp ≤ 120) → va_P G.1 vwCl [(h0, .inr (10, [.ref tby, .int (nI kt), .ref tln, .ref tsp, .int vkd, .int (nI vks), .int (nI vkn), .int vtf])), (tby, .inl (G.2.1, 240, .inl fby)), (tsp, .inr (8, [.int 120, .int 1, .ref tspc, .int (nI vksp)])), (tspc, .inl (G.2.1, 120, .inl vtsp))] H → va_D A [(h0, .inr (10, [.ref tby, .int (nI kt), .ref tln, .ref tsp, .int vkd, .int (nI vks), .int (nI vkn), .int vtf])), (tby, .inl (G.2.1, 240, .inl fby)), (tsp, .inr (8, [.int 120, .int 1, .ref tspc, .int (nI vksp)])), (tspc, .inl (G.2.1, 120, .inl vtsp))] → va_S A s.heap H locs → lv_has ls 3 [(2, .int (nI kP)), (0, .ref h0), (1, .int 2)] → W p l e (RM 18 0 0) s m ([.ref h0, .int 2] : List Value).toArray below meth c H locs 0 0 (MQ below (QI G (fun (r : Int32) (u : Int32 × Nat × Nat × Int32 × Nat × (Nat → Int32)) => (r = 1 ∨ r = 0) ∧ (u.2.1 ≤ 240 ∧ u.2.2.1 ≤ 240 ∧ u.2.2.2.2.1 ≤ 120)) (fun u : Int32 × Nat × Nat × Int32 × Nat × (Nat → Int32) => [(h0, .inr (10, [.ref tby, .int (nI kt), .ref tln, .ref tsp, .int u.1, .int (nI u.2.1), .int (nI u.2.2.1), .int u.2.2.2.1])), (tby, .inl (G.2.1, 240, .inl fby)), (tsp, .inr (8, [.int 120, .int 1, .ref tspc, .int (nI u.2.2.2.2.1)])), (tspc, .inl (G.2.1, 120, .inl u.2.2.2.2.2))]) A) ([.ref h0, .int 2] : List Value).toArray s 0 0 A) (F0 m 12 ls []) := by
      intro nP
      induction nP with
      | zero =>
        intro kP vkd vtf vtsp vks vkn vksp H locs ls hkP hvks hvkn hvksp hP hD hS hl
        obtain rfl : 240 = kP := by omega
        have hl : lv_has ls 3 [(2, .int 240), (0, .ref h0), (1, .int 2)] := hl
        refine lv_iload_n hx hb dX10_takesAll_12 rfl (lv_at hl 0 rfl) ?_
        refine lv_sipush (v := 240) hx hb dX10_takesAll_13 (by decide) ?_
        refine lv_icmp_ge (tgt := 54) hx hb dX10_takesAll_16 (by decide) (fun _ => ?_) (fun c9 => absurd (by decide) c9)
        refine lv_iconst (v := 1) hx hb dX10_takesAll_54 (by decide) ?_
        exact RI (v := 1) hC hP hD hS [0, 1, 2, 3] (vkd, vks, vkn, vtf, vksp, vtsp) rfl rfl (by decide) (⟨Or.inl (rfl), by dsimp only; omega⟩) (by decide +kernel) dX10_takesAll_55
      | succ nP ihP =>
        intro kP vkd vtf vtsp vks vkn vksp H locs ls hkP hvks hvkn hvksp hP hD hS hl
        refine lv_iload_n hx hb dX10_takesAll_12 rfl (lv_at hl 0 rfl) ?_
        refine lv_sipush (v := 240) hx hb dX10_takesAll_13 (by decide) ?_
        refine lv_icmp_ge (tgt := 54) hx hb dX10_takesAll_16 (by decide) (fun c9 => absurd c9 (nI_ge (a := kP) (b := 240) (by omega) (by omega))) (fun _ => ?_)
        refine lv_aload_n hx hb dX10_takesAll_19 rfl (lv_at hl 1 rfl) ?_
        refine va_ldcS (index := 158) (tx := "and") hx hb hown (hO.2.1 9 (by decide)) dX10_takesAll_20 ?_
        refine pVo hO hS hC hK hl hP hD (t_isName l G K 9 h0 tby kt tln tsp vkd vks vkn vtf fby (by omega) (by omega) (by omega) ((by decide))) si_X10_102 [0, 1] rfl rfl (by decide) rfl rfl rfl rfl rfl (Nat.le_of_ble_eq_true rfl) ⟨Nat.le_of_ble_eq_true rfl, Nat.le_of_ble_eq_true rfl⟩ ⟨by first | exact Nat.le_of_ble_eq_true rfl | exact Nat.zero_le _, by first | exact Nat.le_of_ble_eq_true rfl | exact Nat.zero_le _⟩ dX10_takesAll_22 (fun r3289 hr3289 => ?_)
        rcases hr3289 with rfl | rfl
        · refine lv_if_eq (tgt := 54) hx hb dX10_takesAll_25 (by decide) (fun c9 => absurd c9 (by decide)) (fun _ => ?_)
          refine lv_aload_n hx hb dX10_takesAll_28 rfl (lv_at hl 1 rfl) ?_
          refine vV (wr := [(tsp, .inr (8, [.int 120, .int 1, .ref tspc, .int (nI vksp)])), (tspc, .inl (G.2.1, 120, .inl vtsp))]) hC hK hl hP hD hS hA (t_advance l G h0 tby kt tln tsp vkd vks vkn vtf fby (by omega) (by omega) (by omega)) si_X10_47 [0, 1] [2, 3] rfl rfl (by decide) rfl (by decide) (by decide) rfl rfl rfl rfl rfl (Nat.le_of_ble_eq_true rfl) ⟨Nat.le_of_ble_eq_true rfl, Nat.le_of_ble_eq_true rfl⟩ ⟨Nat.le_of_ble_eq_true rfl, Nat.le_of_ble_eq_true rfl⟩ dX10_takesAll_29 (fun u3292 H locs hr3291 hP hD hS => ?_)
          obtain ⟨kd13293, ks13294, kn13295⟩ := u3292
          try dsimp only at hr3291
          have hP : va_P G.1 vwCl [(tsp, .inr (8, [.int 120, .int 1, .ref tspc, .int (nI vksp)])), (tspc, .inl (G.2.1, 120, .inl vtsp)), (h0, .inr (10, [.ref tby, .int (nI kt), .ref tln, .ref tsp, .int kd13293, .int (nI ks13294), .int (nI kn13295), .int vtf])), (tby, .inl (G.2.1, 240, .inl fby))] H := hP
          have hD : va_D A [(tsp, .inr (8, [.int 120, .int 1, .ref tspc, .int (nI vksp)])), (tspc, .inl (G.2.1, 120, .inl vtsp)), (h0, .inr (10, [.ref tby, .int (nI kt), .ref tln, .ref tsp, .int kd13293, .int (nI ks13294), .int (nI kn13295), .int vtf])), (tby, .inl (G.2.1, 240, .inl fby))] := hD
          have w3296 := hr3291
          refine lv_aload_n hx hb dX10_takesAll_32 rfl (lv_at hl 1 rfl) ?_
          refine lv_iload_n hx hb dX10_takesAll_33 rfl (lv_at hl 2 rfl) ?_
          refine iVo (wr := []) hO hC hK hl hP hD hS hA (t_one2 l G K h0 tby kt tln tsp kd13293 ks13294 kn13295 vtf fby tspc vksp vtsp (by omega) (by omega) (by omega) (by omega)) si_X10_155 [2, 3, 0, 1] [] rfl rfl (by decide) rfl (by decide) (by decide) rfl rfl rfl rfl rfl (Nat.le_of_ble_eq_true rfl) ⟨Nat.le_of_ble_eq_true rfl, Nat.le_of_ble_eq_true rfl⟩ ⟨Nat.le_of_ble_eq_true rfl, Nat.le_of_ble_eq_true rfl⟩ dX10_takesAll_34 (fun r3297 u3298 H locs hr3297 hP hD hS => ?_)
          obtain ⟨kd13299, ks13300, kn13301, tf13302, ksp13303, gtsp3304⟩ := u3298
          try dsimp only at hr3297
          have hP : va_P G.1 vwCl [(h0, .inr (10, [.ref tby, .int (nI kt), .ref tln, .ref tsp, .int kd13299, .int (nI ks13300), .int (nI kn13301), .int tf13302])), (tby, .inl (G.2.1, 240, .inl fby)), (tsp, .inr (8, [.int 120, .int 1, .ref tspc, .int (nI ksp13303)])), (tspc, .inl (G.2.1, 120, .inl gtsp3304))] H := hP
          have hD : va_D A [(h0, .inr (10, [.ref tby, .int (nI kt), .ref tln, .ref tsp, .int kd13299, .int (nI ks13300), .int (nI kn13301), .int tf13302])), (tby, .inl (G.2.1, 240, .inl fby)), (tsp, .inr (8, [.int 120, .int 1, .ref tspc, .int (nI ksp13303)])), (tspc, .inl (G.2.1, 120, .inl gtsp3304))] := hD
          obtain ⟨hr3297, w3305⟩ := hr3297
          rcases hr3297 with rfl | rfl
          · refine lv_if_ne (tgt := 42) hx hb dX10_takesAll_37 (by decide) (fun _ => ?_) (fun c9 => absurd c9 (by decide))
            refine lv_aload_n hx hb dX10_takesAll_42 rfl (lv_at hl 1 rfl) ?_
            refine lv_bipush (v := (-2)) hx hb dX10_takesAll_43 (by decide) ?_
            refine vV (wr := [(tby, .inl (G.2.1, 240, .inl fby))]) hC hK hl hP hD hS hA (t_addStep l G h0 (-2) tby kt tln tsp kd13299 ks13300 kn13301 tf13302 tspc ksp13303 gtsp3304 (by omega)) si_X10_152 [0, 2, 3] [1] rfl rfl (by decide) rfl (by decide) (by decide) rfl rfl rfl rfl rfl (Nat.le_of_ble_eq_true rfl) ⟨Nat.le_of_ble_eq_true rfl, Nat.le_of_ble_eq_true rfl⟩ ⟨Nat.le_of_ble_eq_true rfl, Nat.le_of_ble_eq_true rfl⟩ dX10_takesAll_45 (fun u3308 H locs hr3307 hP hD hS => ?_)
            obtain ⟨ksp13309, gtsp3310⟩ := u3308
            try dsimp only at hr3307
            have hP : va_P G.1 vwCl [(tby, .inl (G.2.1, 240, .inl fby)), (h0, .inr (10, [.ref tby, .int (nI kt), .ref tln, .ref tsp, .int kd13299, .int (nI ks13300), .int (nI kn13301), .int tf13302])), (tsp, .inr (8, [.int 120, .int 1, .ref tspc, .int (nI ksp13309)])), (tspc, .inl (G.2.1, 120, .inl gtsp3310))] H := hP
            have hD : va_D A [(tby, .inl (G.2.1, 240, .inl fby)), (h0, .inr (10, [.ref tby, .int (nI kt), .ref tln, .ref tsp, .int kd13299, .int (nI ks13300), .int (nI kn13301), .int tf13302])), (tsp, .inr (8, [.int 120, .int 1, .ref tspc, .int (nI ksp13309)])), (tspc, .inl (G.2.1, 120, .inl gtsp3310))] := hD
            have w3311 := hr3307
            refine lv_iinc (v := nI (kP + 1)) (lv' := [(2, .int (nI (kP + 1))), (0, .ref h0), (1, .int 2)]) hx hb dX10_takesAll_48 hl (k := 0) rfl (nI_1 _) (by decide) rfl (fun ls hl => ?_)
            refine lv_goto (tgt := 12) hx hb dX10_takesAll_51 (by decide) ?_
            have hP := hP.sub (ws' := [(h0, .inr (10, [.ref tby, .int (nI kt), .ref tln, .ref tsp, .int kd13299, .int (nI ks13300), .int (nI kn13301), .int tf13302])), (tby, .inl (G.2.1, 240, .inl fby)), (tsp, .inr (8, [.int 120, .int 1, .ref tspc, .int (nI ksp13309)])), (tspc, .inl (G.2.1, 120, .inl gtsp3310))]) [1, 0, 2, 3] rfl
            have hD := hD.sub (ws' := [(h0, .inr (10, [.ref tby, .int (nI kt), .ref tln, .ref tsp, .int kd13299, .int (nI ks13300), .int (nI kn13301), .int tf13302])), (tby, .inl (G.2.1, 240, .inl fby)), (tsp, .inr (8, [.int 120, .int 1, .ref tspc, .int (nI ksp13309)])), (tspc, .inl (G.2.1, 120, .inl gtsp3310))]) [1, 0, 2, 3] (by decide) rfl
            exact ihP (kP + 1) kd13299 tf13302 gtsp3310 ks13300 kn13301 ksp13309 _ _ _ (by omega) (by first | assumption | exact Or.inl rfl | exact Or.inr rfl | omega) (by first | assumption | exact Or.inl rfl | exact Or.inr rfl | omega) (by first | assumption | exact Or.inl rfl | exact Or.inr rfl | omega) hP hD hS (lv_sub hl [0, 1, 2] rfl)
          · refine lv_if_ne (tgt := 42) hx hb dX10_takesAll_37 (by decide) (fun c9 => absurd (by decide) c9) (fun _ => ?_)
            refine lv_iconst (v := 0) hx hb dX10_takesAll_40 (by decide) ?_
            exact RI (v := 0) hC hP hD hS [0, 1, 2, 3] (kd13299, ks13300, kn13301, tf13302, ksp13303, gtsp3304) rfl rfl (by decide) (⟨Or.inr (rfl), by dsimp only; omega⟩) (by decide +kernel) dX10_takesAll_41
        · refine lv_if_eq (tgt := 54) hx hb dX10_takesAll_25 (by decide) (fun _ => ?_) (fun c9 => absurd (by decide) c9)
          refine lv_iconst (v := 1) hx hb dX10_takesAll_54 (by decide) ?_
          exact RI (v := 1) hC hP hD hS [0, 1, 2, 3] (vkd, vks, vkn, vtf, vksp, vtsp) rfl rfl (by decide) (⟨Or.inl (rfl), by dsimp only; omega⟩) (by decide +kernel) dX10_takesAll_55
    exact keyP 240 0 kd13281 tf13284 gtsp3286 ks13282 kn13283 ksp13285 _ _ _ (by omega) (by first | assumption | exact Or.inl rfl | exact Or.inr rfl | omega) (by first | assumption | exact Or.inl rfl | exact Or.inr rfl | omega) (by first | assumption | exact Or.inl rfl | exact Or.inr rfl | omega) hP hD hS (lv_sub hl [0, 1, 2] rfl)
  · refine lv_if_ne (tgt := 10) hx hb dX10_takesAll_5 (by decide) (fun c9 => absurd (by decide) c9) (fun _ => ?_)
    refine lv_iconst (v := 0) hx hb dX10_takesAll_8 (by decide) ?_
    exact RI (v := 0) hC hP hD hS [0, 1, 2, 3] (kd13281, ks13282, kn13283, tf13284, ksp13285, gtsp3286) rfl rfl (by decide) (⟨Or.inr (rfl), by dsimp only; omega⟩) (by decide +kernel) dX10_takesAll_9
set_option maxHeartbeats 4000000 in
set_option maxRecDepth 100000 in
theorem t_cond2 (l : Launch) (G : GG) (K : OO) (h0 : Nat) (tby : Nat) (kt : Nat) (tln : Nat) (tsp : Nat) (tkd : Int32) (ks : Nat) (kn : Nat) (tf9 : Int32) (fby : Nat → Int32) (tspc : Nat) (ksp : Nat) (ftsp : Nat → Int32) (hkt : kt ≤ 240) (hks : ks ≤ 240) (hkn : kn ≤ 240) (hksp : ksp ≤ 120) : MIo l G K yX10_takesCond cX10_takesCond 3 (some .boolean) 19 0 0 [.ref h0, .int 2] [(h0, .inr (10, [.ref tby, .int (nI kt), .ref tln, .ref tsp, .int tkd, .int (nI ks), .int (nI kn), .int tf9])), (tby, .inl (G.2.1, 240, .inl fby)), (tsp, .inr (8, [.int 120, .int 1, .ref tspc, .int (nI ksp)])), (tspc, .inl (G.2.1, 120, .inl ftsp))] (fun (r : Int32) (u : Int32 × Nat × Nat × Int32 × Nat × (Nat → Int32)) => (r = 1 ∨ r = 0) ∧ (u.2.1 ≤ 240 ∧ u.2.2.1 ≤ 240 ∧ u.2.2.2.2.1 ≤ 120)) (fun u : Int32 × Nat × Nat × Int32 × Nat × (Nat → Int32) => [(h0, .inr (10, [.ref tby, .int (nI kt), .ref tln, .ref tsp, .int u.1, .int (nI u.2.1), .int (nI u.2.2.1), .int u.2.2.2.1])), (tby, .inl (G.2.1, 240, .inl fby)), (tsp, .inr (8, [.int 120, .int 1, .ref tspc, .int (nI u.2.2.2.2.1)])), (tspc, .inl (G.2.1, 120, .inl u.2.2.2.2.2))]) := by
  refine MIo.start (by decide +kernel) (Nat.le_of_ble_eq_true rfl) ?_
  intro p e s m below meth c A ls hC hK hP hD hS hA hl hO
  have hl : lv_has ls 3 [(0, .ref h0), (1, .int 2)] := hl
  obtain ⟨hx, hb, hr, hml, hB, hown, hlocks, hnm⟩ := id hC
  refine lv_aload_n hx hb dX10_takesCond_0 rfl (lv_at hl 0 rfl) ?_
  refine lv_iload_n hx hb dX10_takesCond_1 rfl (lv_at hl 1 rfl) ?_
  refine iVo (wr := []) hO hC hK hl hP hD hS hA (t_all2 l G K h0 tby kt tln tsp tkd ks kn tf9 fby tspc ksp ftsp (by omega) (by omega) (by omega) (by omega)) si_X10_147 [0, 1, 2, 3] [] rfl rfl (by decide) rfl (by decide) (by decide) rfl rfl rfl rfl rfl (Nat.le_of_ble_eq_true rfl) ⟨Nat.le_of_ble_eq_true rfl, Nat.le_of_ble_eq_true rfl⟩ ⟨Nat.le_of_ble_eq_true rfl, Nat.le_of_ble_eq_true rfl⟩ dX10_takesCond_2 (fun r3312 u3313 H locs hr3312 hP hD hS => ?_)
  obtain ⟨kd13314, ks13315, kn13316, tf13317, ksp13318, gtsp3319⟩ := u3313
  try dsimp only at hr3312
  have hP : va_P G.1 vwCl [(h0, .inr (10, [.ref tby, .int (nI kt), .ref tln, .ref tsp, .int kd13314, .int (nI ks13315), .int (nI kn13316), .int tf13317])), (tby, .inl (G.2.1, 240, .inl fby)), (tsp, .inr (8, [.int 120, .int 1, .ref tspc, .int (nI ksp13318)])), (tspc, .inl (G.2.1, 120, .inl gtsp3319))] H := hP
  have hD : va_D A [(h0, .inr (10, [.ref tby, .int (nI kt), .ref tln, .ref tsp, .int kd13314, .int (nI ks13315), .int (nI kn13316), .int tf13317])), (tby, .inl (G.2.1, 240, .inl fby)), (tsp, .inr (8, [.int 120, .int 1, .ref tspc, .int (nI ksp13318)])), (tspc, .inl (G.2.1, 120, .inl gtsp3319))] := hD
  obtain ⟨hr3312, w3320⟩ := hr3312
  rcases hr3312 with rfl | rfl
  · refine lv_if_ne (tgt := 10) hx hb dX10_takesCond_5 (by decide) (fun _ => ?_) (fun c9 => absurd c9 (by decide))
    refine lv_iconst (v := 0) hx hb dX10_takesCond_10 (by decide) ?_
    refine lv_istore_n (lv' := [(2, .int 0), (0, .ref h0), (1, .int 2)]) hx hb dX10_takesCond_11 rfl hl (by decide) rfl (fun ls hl => ?_)
    have keyP : ∀ (nP kP : Nat) (vkd : Int32) (vtf : Int32) (vtsp : Nat → Int32) (vks : Nat) (vkn : Nat) (vksp : Nat) (H : Heap) (locs : List Loc) (ls : Array Slot), kP + nP = 240 → (vks ≤ 240) → (vkn ≤ 240) → (vksp ≤ 120) → va_P G.1 vwCl [(h0, .inr (10, [.ref tby, .int (nI kt), .ref tln, .ref tsp, .int vkd, .int (nI vks), .int (nI vkn), .int vtf])), (tby, .inl (G.2.1, 240, .inl fby)), (tsp, .inr (8, [.int 120, .int 1, .ref tspc, .int (nI vksp)])), (tspc, .inl (G.2.1, 120, .inl vtsp))] H → va_D A [(h0, .inr (10, [.ref tby, .int (nI kt), .ref tln, .ref tsp, .int vkd, .int (nI vks), .int (nI vkn), .int vtf])), (tby, .inl (G.2.1, 240, .inl fby)), (tsp, .inr (8, [.int 120, .int 1, .ref tspc, .int (nI vksp)])), (tspc, .inl (G.2.1, 120, .inl vtsp))] → va_S A s.heap H locs → lv_has ls 3 [(2, .int (nI kP)), (0, .ref h0), (1, .int 2)] → W p l e (RM 19 0 0) s m ([.ref h0, .int 2] : List Value).toArray below meth c H locs 0 0 (MQ below (QI G (fun (r : Int32) (u : Int32 × Nat × Nat × Int32 × Nat × (Nat → Int32)) => (r = 1 ∨ r = 0) ∧ (u.2.1 ≤ 240 ∧ u.2.2.1 ≤ 240 ∧ u.2.2.2.2.1 ≤ 120)) (fun u : Int32 × Nat × Nat × Int32 × Nat × (Nat → Int32) => [(h0, .inr (10, [.ref tby, .int (nI kt), .ref tln, .ref tsp, .int u.1, .int (nI u.2.1), .int (nI u.2.2.1), .int u.2.2.2.1])), (tby, .inl (G.2.1, 240, .inl fby)), (tsp, .inr (8, [.int 120, .int 1, .ref tspc, .int (nI u.2.2.2.2.1)])), (tspc, .inl (G.2.1, 120, .inl u.2.2.2.2.2))]) A) ([.ref h0, .int 2] : List Value).toArray s 0 0 A) (F0 m 12 ls []) := by
      intro nP
      induction nP with
      | zero =>
        intro kP vkd vtf vtsp vks vkn vksp H locs ls hkP hvks hvkn hvksp hP hD hS hl
        obtain rfl : 240 = kP := by omega
        have hl : lv_has ls 3 [(2, .int 240), (0, .ref h0), (1, .int 2)] := hl
        refine lv_iload_n hx hb dX10_takesCond_12 rfl (lv_at hl 0 rfl) ?_
        refine lv_sipush (v := 240) hx hb dX10_takesCond_13 (by decide) ?_
        refine lv_icmp_ge (tgt := 54) hx hb dX10_takesCond_16 (by decide) (fun _ => ?_) (fun c9 => absurd (by decide) c9)
        refine lv_iconst (v := 1) hx hb dX10_takesCond_54 (by decide) ?_
        exact RI (v := 1) hC hP hD hS [0, 1, 2, 3] (vkd, vks, vkn, vtf, vksp, vtsp) rfl rfl (by decide) (⟨Or.inl (rfl), by dsimp only; omega⟩) (by decide +kernel) dX10_takesCond_55
      | succ nP ihP =>
        intro kP vkd vtf vtsp vks vkn vksp H locs ls hkP hvks hvkn hvksp hP hD hS hl
        refine lv_iload_n hx hb dX10_takesCond_12 rfl (lv_at hl 0 rfl) ?_
        refine lv_sipush (v := 240) hx hb dX10_takesCond_13 (by decide) ?_
        refine lv_icmp_ge (tgt := 54) hx hb dX10_takesCond_16 (by decide) (fun c9 => absurd c9 (nI_ge (a := kP) (b := 240) (by omega) (by omega))) (fun _ => ?_)
        refine lv_aload_n hx hb dX10_takesCond_19 rfl (lv_at hl 1 rfl) ?_
        refine va_ldcS (index := 150) (tx := "o\x72") hx hb hown (hO.2.1 8 (by decide)) dX10_takesCond_20 ?_
        refine pVo hO hS hC hK hl hP hD (t_isName l G K 8 h0 tby kt tln tsp vkd vks vkn vtf fby (by omega) (by omega) (by omega) ((by decide))) si_X10_102 [0, 1] rfl rfl (by decide) rfl rfl rfl rfl rfl (Nat.le_of_ble_eq_true rfl) ⟨Nat.le_of_ble_eq_true rfl, Nat.le_of_ble_eq_true rfl⟩ ⟨by first | exact Nat.le_of_ble_eq_true rfl | exact Nat.zero_le _, by first | exact Nat.le_of_ble_eq_true rfl | exact Nat.zero_le _⟩ dX10_takesCond_22 (fun r3322 hr3322 => ?_)
        rcases hr3322 with rfl | rfl
        · refine lv_if_eq (tgt := 54) hx hb dX10_takesCond_25 (by decide) (fun c9 => absurd c9 (by decide)) (fun _ => ?_)
          refine lv_aload_n hx hb dX10_takesCond_28 rfl (lv_at hl 1 rfl) ?_
          refine vV (wr := [(tsp, .inr (8, [.int 120, .int 1, .ref tspc, .int (nI vksp)])), (tspc, .inl (G.2.1, 120, .inl vtsp))]) hC hK hl hP hD hS hA (t_advance l G h0 tby kt tln tsp vkd vks vkn vtf fby (by omega) (by omega) (by omega)) si_X10_47 [0, 1] [2, 3] rfl rfl (by decide) rfl (by decide) (by decide) rfl rfl rfl rfl rfl (Nat.le_of_ble_eq_true rfl) ⟨Nat.le_of_ble_eq_true rfl, Nat.le_of_ble_eq_true rfl⟩ ⟨Nat.le_of_ble_eq_true rfl, Nat.le_of_ble_eq_true rfl⟩ dX10_takesCond_29 (fun u3325 H locs hr3324 hP hD hS => ?_)
          obtain ⟨kd13326, ks13327, kn13328⟩ := u3325
          try dsimp only at hr3324
          have hP : va_P G.1 vwCl [(tsp, .inr (8, [.int 120, .int 1, .ref tspc, .int (nI vksp)])), (tspc, .inl (G.2.1, 120, .inl vtsp)), (h0, .inr (10, [.ref tby, .int (nI kt), .ref tln, .ref tsp, .int kd13326, .int (nI ks13327), .int (nI kn13328), .int vtf])), (tby, .inl (G.2.1, 240, .inl fby))] H := hP
          have hD : va_D A [(tsp, .inr (8, [.int 120, .int 1, .ref tspc, .int (nI vksp)])), (tspc, .inl (G.2.1, 120, .inl vtsp)), (h0, .inr (10, [.ref tby, .int (nI kt), .ref tln, .ref tsp, .int kd13326, .int (nI ks13327), .int (nI kn13328), .int vtf])), (tby, .inl (G.2.1, 240, .inl fby))] := hD
          have w3329 := hr3324
          refine lv_aload_n hx hb dX10_takesCond_32 rfl (lv_at hl 1 rfl) ?_
          refine lv_iload_n hx hb dX10_takesCond_33 rfl (lv_at hl 2 rfl) ?_
          refine iVo (wr := []) hO hC hK hl hP hD hS hA (t_all2 l G K h0 tby kt tln tsp kd13326 ks13327 kn13328 vtf fby tspc vksp vtsp (by omega) (by omega) (by omega) (by omega)) si_X10_147 [2, 3, 0, 1] [] rfl rfl (by decide) rfl (by decide) (by decide) rfl rfl rfl rfl rfl (Nat.le_of_ble_eq_true rfl) ⟨Nat.le_of_ble_eq_true rfl, Nat.le_of_ble_eq_true rfl⟩ ⟨Nat.le_of_ble_eq_true rfl, Nat.le_of_ble_eq_true rfl⟩ dX10_takesCond_34 (fun r3330 u3331 H locs hr3330 hP hD hS => ?_)
          obtain ⟨kd13332, ks13333, kn13334, tf13335, ksp13336, gtsp3337⟩ := u3331
          try dsimp only at hr3330
          have hP : va_P G.1 vwCl [(h0, .inr (10, [.ref tby, .int (nI kt), .ref tln, .ref tsp, .int kd13332, .int (nI ks13333), .int (nI kn13334), .int tf13335])), (tby, .inl (G.2.1, 240, .inl fby)), (tsp, .inr (8, [.int 120, .int 1, .ref tspc, .int (nI ksp13336)])), (tspc, .inl (G.2.1, 120, .inl gtsp3337))] H := hP
          have hD : va_D A [(h0, .inr (10, [.ref tby, .int (nI kt), .ref tln, .ref tsp, .int kd13332, .int (nI ks13333), .int (nI kn13334), .int tf13335])), (tby, .inl (G.2.1, 240, .inl fby)), (tsp, .inr (8, [.int 120, .int 1, .ref tspc, .int (nI ksp13336)])), (tspc, .inl (G.2.1, 120, .inl gtsp3337))] := hD
          obtain ⟨hr3330, w3338⟩ := hr3330
          rcases hr3330 with rfl | rfl
          · refine lv_if_ne (tgt := 42) hx hb dX10_takesCond_37 (by decide) (fun _ => ?_) (fun c9 => absurd c9 (by decide))
            refine lv_aload_n hx hb dX10_takesCond_42 rfl (lv_at hl 1 rfl) ?_
            refine lv_bipush (v := (-3)) hx hb dX10_takesCond_43 (by decide) ?_
            refine vV (wr := [(tby, .inl (G.2.1, 240, .inl fby))]) hC hK hl hP hD hS hA (t_addStep l G h0 (-3) tby kt tln tsp kd13332 ks13333 kn13334 tf13335 tspc ksp13336 gtsp3337 (by omega)) si_X10_152 [0, 2, 3] [1] rfl rfl (by decide) rfl (by decide) (by decide) rfl rfl rfl rfl rfl (Nat.le_of_ble_eq_true rfl) ⟨Nat.le_of_ble_eq_true rfl, Nat.le_of_ble_eq_true rfl⟩ ⟨Nat.le_of_ble_eq_true rfl, Nat.le_of_ble_eq_true rfl⟩ dX10_takesCond_45 (fun u3341 H locs hr3340 hP hD hS => ?_)
            obtain ⟨ksp13342, gtsp3343⟩ := u3341
            try dsimp only at hr3340
            have hP : va_P G.1 vwCl [(tby, .inl (G.2.1, 240, .inl fby)), (h0, .inr (10, [.ref tby, .int (nI kt), .ref tln, .ref tsp, .int kd13332, .int (nI ks13333), .int (nI kn13334), .int tf13335])), (tsp, .inr (8, [.int 120, .int 1, .ref tspc, .int (nI ksp13342)])), (tspc, .inl (G.2.1, 120, .inl gtsp3343))] H := hP
            have hD : va_D A [(tby, .inl (G.2.1, 240, .inl fby)), (h0, .inr (10, [.ref tby, .int (nI kt), .ref tln, .ref tsp, .int kd13332, .int (nI ks13333), .int (nI kn13334), .int tf13335])), (tsp, .inr (8, [.int 120, .int 1, .ref tspc, .int (nI ksp13342)])), (tspc, .inl (G.2.1, 120, .inl gtsp3343))] := hD
            have w3344 := hr3340
            refine lv_iinc (v := nI (kP + 1)) (lv' := [(2, .int (nI (kP + 1))), (0, .ref h0), (1, .int 2)]) hx hb dX10_takesCond_48 hl (k := 0) rfl (nI_1 _) (by decide) rfl (fun ls hl => ?_)
            refine lv_goto (tgt := 12) hx hb dX10_takesCond_51 (by decide) ?_
            have hP := hP.sub (ws' := [(h0, .inr (10, [.ref tby, .int (nI kt), .ref tln, .ref tsp, .int kd13332, .int (nI ks13333), .int (nI kn13334), .int tf13335])), (tby, .inl (G.2.1, 240, .inl fby)), (tsp, .inr (8, [.int 120, .int 1, .ref tspc, .int (nI ksp13342)])), (tspc, .inl (G.2.1, 120, .inl gtsp3343))]) [1, 0, 2, 3] rfl
            have hD := hD.sub (ws' := [(h0, .inr (10, [.ref tby, .int (nI kt), .ref tln, .ref tsp, .int kd13332, .int (nI ks13333), .int (nI kn13334), .int tf13335])), (tby, .inl (G.2.1, 240, .inl fby)), (tsp, .inr (8, [.int 120, .int 1, .ref tspc, .int (nI ksp13342)])), (tspc, .inl (G.2.1, 120, .inl gtsp3343))]) [1, 0, 2, 3] (by decide) rfl
            exact ihP (kP + 1) kd13332 tf13335 gtsp3343 ks13333 kn13334 ksp13342 _ _ _ (by omega) (by first | assumption | exact Or.inl rfl | exact Or.inr rfl | omega) (by first | assumption | exact Or.inl rfl | exact Or.inr rfl | omega) (by first | assumption | exact Or.inl rfl | exact Or.inr rfl | omega) hP hD hS (lv_sub hl [0, 1, 2] rfl)
          · refine lv_if_ne (tgt := 42) hx hb dX10_takesCond_37 (by decide) (fun c9 => absurd (by decide) c9) (fun _ => ?_)
            refine lv_iconst (v := 0) hx hb dX10_takesCond_40 (by decide) ?_
            exact RI (v := 0) hC hP hD hS [0, 1, 2, 3] (kd13332, ks13333, kn13334, tf13335, ksp13336, gtsp3337) rfl rfl (by decide) (⟨Or.inr (rfl), by dsimp only; omega⟩) (by decide +kernel) dX10_takesCond_41
        · refine lv_if_eq (tgt := 54) hx hb dX10_takesCond_25 (by decide) (fun _ => ?_) (fun c9 => absurd (by decide) c9)
          refine lv_iconst (v := 1) hx hb dX10_takesCond_54 (by decide) ?_
          exact RI (v := 1) hC hP hD hS [0, 1, 2, 3] (vkd, vks, vkn, vtf, vksp, vtsp) rfl rfl (by decide) (⟨Or.inl (rfl), by dsimp only; omega⟩) (by decide +kernel) dX10_takesCond_55
    exact keyP 240 0 kd13314 tf13317 gtsp3319 ks13315 kn13316 ksp13318 _ _ _ (by omega) (by first | assumption | exact Or.inl rfl | exact Or.inr rfl | omega) (by first | assumption | exact Or.inl rfl | exact Or.inr rfl | omega) (by first | assumption | exact Or.inl rfl | exact Or.inr rfl | omega) hP hD hS (lv_sub hl [0, 1, 2] rfl)
  · refine lv_if_ne (tgt := 10) hx hb dX10_takesCond_5 (by decide) (fun c9 => absurd (by decide) c9) (fun _ => ?_)
    refine lv_iconst (v := 0) hx hb dX10_takesCond_8 (by decide) ?_
    exact RI (v := 0) hC hP hD hS [0, 1, 2, 3] (kd13314, ks13315, kn13316, tf13317, ksp13318, gtsp3319) rfl rfl (by decide) (⟨Or.inr (rfl), by dsimp only; omega⟩) (by decide +kernel) dX10_takesCond_9
set_option maxHeartbeats 4000000 in
set_option maxRecDepth 100000 in
theorem t_one1 (l : Launch) (G : GG) (K : OO) (h0 : Nat) (tby : Nat) (kt : Nat) (tln : Nat) (tsp : Nat) (tkd : Int32) (ks : Nat) (kn : Nat) (tf9 : Int32) (fby : Nat → Int32) (tspc : Nat) (ksp : Nat) (ftsp : Nat → Int32) (hkt : kt ≤ 240) (hks : ks ≤ 240) (hkn : kn ≤ 240) (hksp : ksp ≤ 120) : MIo l G K yX10_takesOne cX10_takesOne 4 (some .boolean) 21 0 0 [.ref h0, .int 1] [(h0, .inr (10, [.ref tby, .int (nI kt), .ref tln, .ref tsp, .int tkd, .int (nI ks), .int (nI kn), .int tf9])), (tby, .inl (G.2.1, 240, .inl fby)), (tsp, .inr (8, [.int 120, .int 1, .ref tspc, .int (nI ksp)])), (tspc, .inl (G.2.1, 120, .inl ftsp))] (fun (r : Int32) (u : Int32 × Nat × Nat × Int32 × Nat × (Nat → Int32)) => (r = 1 ∨ r = 0) ∧ (u.2.1 ≤ 240 ∧ u.2.2.1 ≤ 240 ∧ u.2.2.2.2.1 ≤ 120)) (fun u : Int32 × Nat × Nat × Int32 × Nat × (Nat → Int32) => [(h0, .inr (10, [.ref tby, .int (nI kt), .ref tln, .ref tsp, .int u.1, .int (nI u.2.1), .int (nI u.2.2.1), .int u.2.2.2.1])), (tby, .inl (G.2.1, 240, .inl fby)), (tsp, .inr (8, [.int 120, .int 1, .ref tspc, .int (nI u.2.2.2.2.1)])), (tspc, .inl (G.2.1, 120, .inl u.2.2.2.2.2))]) := by
  refine MIo.start (by decide +kernel) (Nat.le_of_ble_eq_true rfl) ?_
  intro p e s m below meth c A ls hC hK hP hD hS hA hl hO
  have hl : lv_has ls 4 [(0, .ref h0), (1, .int 1)] := hl
  obtain ⟨hx, hb, hr, hml, hB, hown, hlocks, hnm⟩ := id hC
  refine lv_iconst (v := 0) hx hb dX10_takesOne_0 (by decide) ?_
  refine lv_istore_n (lv' := [(2, .int 0), (0, .ref h0), (1, .int 1)]) hx hb dX10_takesOne_1 rfl hl (by decide) rfl (fun ls hl => ?_)
  refine lv_iconst (v := 0) hx hb dX10_takesOne_2 (by decide) ?_
  refine lv_istore_n (lv' := [(3, .int 0), (2, .int 0), (0, .ref h0), (1, .int 1)]) hx hb dX10_takesOne_3 rfl hl (by decide) rfl (fun ls hl => ?_)
  have keyP : ∀ (nP kP : Nat) (tu : Int32) (vkd : Int32) (vtf : Int32) (vks : Nat) (vkn : Nat) (H : Heap) (locs : List Loc) (ls : Array Slot), kP + nP = 240 → (vks ≤ 240) → (vkn ≤ 240) → va_P G.1 vwCl [(h0, .inr (10, [.ref tby, .int (nI kt), .ref tln, .ref tsp, .int vkd, .int (nI vks), .int (nI vkn), .int vtf])), (tby, .inl (G.2.1, 240, .inl fby)), (tsp, .inr (8, [.int 120, .int 1, .ref tspc, .int (nI ksp)])), (tspc, .inl (G.2.1, 120, .inl ftsp))] H → va_D A [(h0, .inr (10, [.ref tby, .int (nI kt), .ref tln, .ref tsp, .int vkd, .int (nI vks), .int (nI vkn), .int vtf])), (tby, .inl (G.2.1, 240, .inl fby)), (tsp, .inr (8, [.int 120, .int 1, .ref tspc, .int (nI ksp)])), (tspc, .inl (G.2.1, 120, .inl ftsp))] → va_S A s.heap H locs → lv_has ls 4 [(3, .int (nI kP)), (2, .int tu), (0, .ref h0), (1, .int 1)] → W p l e (RM 21 0 0) s m ([.ref h0, .int 1] : List Value).toArray below meth c H locs 0 0 (MQ below (QI G (fun (r : Int32) (u : Int32 × Nat × Nat × Int32 × Nat × (Nat → Int32)) => (r = 1 ∨ r = 0) ∧ (u.2.1 ≤ 240 ∧ u.2.2.1 ≤ 240 ∧ u.2.2.2.2.1 ≤ 120)) (fun u : Int32 × Nat × Nat × Int32 × Nat × (Nat → Int32) => [(h0, .inr (10, [.ref tby, .int (nI kt), .ref tln, .ref tsp, .int u.1, .int (nI u.2.1), .int (nI u.2.2.1), .int u.2.2.2.1])), (tby, .inl (G.2.1, 240, .inl fby)), (tsp, .inr (8, [.int 120, .int 1, .ref tspc, .int (nI u.2.2.2.2.1)])), (tspc, .inl (G.2.1, 120, .inl u.2.2.2.2.2))]) A) ([.ref h0, .int 1] : List Value).toArray s 0 0 A) (F0 m 4 ls []) := by
    intro nP
    induction nP with
    | zero =>
      intro kP tu vkd vtf vks vkn H locs ls hkP hvks hvkn hP hD hS hl
      obtain rfl : 240 = kP := by omega
      have hl : lv_has ls 4 [(3, .int 240), (2, .int tu), (0, .ref h0), (1, .int 1)] := hl
      refine lv_iload_n hx hb dX10_takesOne_4 rfl (lv_at hl 0 rfl) ?_
      refine lv_sipush (v := 240) hx hb dX10_takesOne_5 (by decide) ?_
      refine lv_icmp_ge (tgt := 40) hx hb dX10_takesOne_8 (by decide) (fun _ => ?_) (fun c9 => absurd (by decide) c9)
      refine lv_aload_n hx hb dX10_takesOne_40 rfl (lv_at hl 2 rfl) ?_
      refine gf_X10_31 hC rfl hK hP 0 rfl rfl dX10_takesOne_41 ?_
      refine lv_bipush (v := 40) hx hb dX10_takesOne_44 (by decide) ?_
      refine lv_icmp_eq (tgt := 58) hx hb dX10_takesOne_46 (by decide) (fun c_46_3345 => ?_) (fun c_46_3345 => ?_)
      · refine lv_iload_n hx hb dX10_takesOne_58 rfl (lv_at hl 3 rfl) ?_
        refine lv_iconst (v := 4) hx hb dX10_takesOne_59 (by decide) ?_
        refine lv_icmp_lt (tgt := 68) hx hb dX10_takesOne_60 (by decide) (fun _ => ?_) (fun c9 => absurd (by decide) c9)
        refine lv_aload_n hx hb dX10_takesOne_68 rfl (lv_at hl 2 rfl) ?_
        refine vV (wr := [(tsp, .inr (8, [.int 120, .int 1, .ref tspc, .int (nI ksp)])), (tspc, .inl (G.2.1, 120, .inl ftsp))]) hC hK hl hP hD hS hA (t_advance l G h0 tby kt tln tsp vkd vks vkn vtf fby (by omega) (by omega) (by omega)) si_X10_47 [0, 1] [2, 3] rfl rfl (by decide) rfl (by decide) (by decide) rfl rfl rfl rfl rfl (Nat.le_of_ble_eq_true rfl) ⟨Nat.le_of_ble_eq_true rfl, Nat.le_of_ble_eq_true rfl⟩ ⟨Nat.le_of_ble_eq_true rfl, Nat.le_of_ble_eq_true rfl⟩ dX10_takesOne_69 (fun u3347 H locs hr3346 hP hD hS => ?_)
        obtain ⟨kd13348, ks13349, kn13350⟩ := u3347
        try dsimp only at hr3346
        have hP : va_P G.1 vwCl [(tsp, .inr (8, [.int 120, .int 1, .ref tspc, .int (nI ksp)])), (tspc, .inl (G.2.1, 120, .inl ftsp)), (h0, .inr (10, [.ref tby, .int (nI kt), .ref tln, .ref tsp, .int kd13348, .int (nI ks13349), .int (nI kn13350), .int vtf])), (tby, .inl (G.2.1, 240, .inl fby))] H := hP
        have hD : va_D A [(tsp, .inr (8, [.int 120, .int 1, .ref tspc, .int (nI ksp)])), (tspc, .inl (G.2.1, 120, .inl ftsp)), (h0, .inr (10, [.ref tby, .int (nI kt), .ref tln, .ref tsp, .int kd13348, .int (nI ks13349), .int (nI kn13350), .int vtf])), (tby, .inl (G.2.1, 240, .inl fby))] := hD
        have w3351 := hr3346
        refine lv_aload_n hx hb dX10_takesOne_72 rfl (lv_at hl 2 rfl) ?_
        refine lv_iload_n hx hb dX10_takesOne_73 rfl (lv_at hl 3 rfl) ?_
        refine lv_iconst (v := 1) hx hb dX10_takesOne_74 (by decide) ?_
        refine lv_iadd hx hb dX10_takesOne_75 ?_
        refine eqi (x1 := 2) (by decide) ?_
        refine iVo (wr := []) hO hC hK hl hP hD hS hA (t_cond2 l G K h0 tby kt tln tsp kd13348 ks13349 kn13350 vtf fby tspc ksp ftsp (by omega) (by omega) (by omega) (by omega)) si_X10_121 [2, 3, 0, 1] [] rfl rfl (by decide) rfl (by decide) (by decide) rfl rfl rfl rfl rfl (Nat.le_of_ble_eq_true rfl) ⟨Nat.le_of_ble_eq_true rfl, Nat.le_of_ble_eq_true rfl⟩ ⟨Nat.le_of_ble_eq_true rfl, Nat.le_of_ble_eq_true rfl⟩ dX10_takesOne_76 (fun r3352 u3353 H locs hr3352 hP hD hS => ?_)
        obtain ⟨kd13354, ks13355, kn13356, tf13357, ksp13358, gtsp3359⟩ := u3353
        try dsimp only at hr3352
        have hP : va_P G.1 vwCl [(h0, .inr (10, [.ref tby, .int (nI kt), .ref tln, .ref tsp, .int kd13354, .int (nI ks13355), .int (nI kn13356), .int tf13357])), (tby, .inl (G.2.1, 240, .inl fby)), (tsp, .inr (8, [.int 120, .int 1, .ref tspc, .int (nI ksp13358)])), (tspc, .inl (G.2.1, 120, .inl gtsp3359))] H := hP
        have hD : va_D A [(h0, .inr (10, [.ref tby, .int (nI kt), .ref tln, .ref tsp, .int kd13354, .int (nI ks13355), .int (nI kn13356), .int tf13357])), (tby, .inl (G.2.1, 240, .inl fby)), (tsp, .inr (8, [.int 120, .int 1, .ref tspc, .int (nI ksp13358)])), (tspc, .inl (G.2.1, 120, .inl gtsp3359))] := hD
        obtain ⟨hr3352, w3360⟩ := hr3352
        rcases hr3352 with rfl | rfl
        · refine lv_if_eq (tgt := 91) hx hb dX10_takesOne_79 (by decide) (fun c9 => absurd c9 (by decide)) (fun _ => ?_)
          refine lv_aload_n hx hb dX10_takesOne_82 rfl (lv_at hl 2 rfl) ?_
          refine lv_bipush (v := 41) hx hb dX10_takesOne_83 (by decide) ?_
          refine iV (wr := [(tsp, .inr (8, [.int 120, .int 1, .ref tspc, .int (nI ksp13358)])), (tspc, .inl (G.2.1, 120, .inl gtsp3359))]) hC hK hl hP hD hS hA (t_takesByte l G h0 41 tby kt tln tsp kd13354 ks13355 kn13356 tf13357 fby (by omega) (by omega) (by omega)) si_X10_124 [0, 1] [2, 3] rfl rfl (by decide) rfl (by decide) (by decide) rfl rfl rfl rfl rfl (Nat.le_of_ble_eq_true rfl) ⟨Nat.le_of_ble_eq_true rfl, Nat.le_of_ble_eq_true rfl⟩ ⟨Nat.le_of_ble_eq_true rfl, Nat.le_of_ble_eq_true rfl⟩ dX10_takesOne_85 (fun r3362 u3363 H locs hr3362 hP hD hS => ?_)
          obtain ⟨kd13364, ks13365, kn13366, tf13367⟩ := u3363
          try dsimp only at hr3362
          have hP : va_P G.1 vwCl [(tsp, .inr (8, [.int 120, .int 1, .ref tspc, .int (nI ksp13358)])), (tspc, .inl (G.2.1, 120, .inl gtsp3359)), (h0, .inr (10, [.ref tby, .int (nI kt), .ref tln, .ref tsp, .int kd13364, .int (nI ks13365), .int (nI kn13366), .int tf13367])), (tby, .inl (G.2.1, 240, .inl fby))] H := hP
          have hD : va_D A [(tsp, .inr (8, [.int 120, .int 1, .ref tspc, .int (nI ksp13358)])), (tspc, .inl (G.2.1, 120, .inl gtsp3359)), (h0, .inr (10, [.ref tby, .int (nI kt), .ref tln, .ref tsp, .int kd13364, .int (nI ks13365), .int (nI kn13366), .int tf13367])), (tby, .inl (G.2.1, 240, .inl fby))] := hD
          obtain ⟨hr3362, w3368⟩ := hr3362
          rcases hr3362 with rfl | rfl
          · refine lv_if_ne (tgt := 93) hx hb dX10_takesOne_88 (by decide) (fun _ => ?_) (fun c9 => absurd c9 (by decide))
            refine lv_iload_n hx hb dX10_takesOne_93 rfl (lv_at hl 1 rfl) ?_
            refine lv_if_eq (tgt := 102) hx hb dX10_takesOne_94 (by decide) (fun c_94_3370 => ?_) (fun c_94_3370 => ?_)
            · refine lv_iconst (v := 1) hx hb dX10_takesOne_102 (by decide) ?_
              exact RI (v := 1) hC hP hD hS [2, 3, 0, 1] (kd13364, ks13365, kn13366, tf13367, ksp13358, gtsp3359) rfl rfl (by decide) (⟨Or.inl (rfl), by dsimp only; omega⟩) (by decide +kernel) dX10_takesOne_103
            · refine lv_aload_n hx hb dX10_takesOne_97 rfl (lv_at hl 2 rfl) ?_
              refine lv_iconst (v := (-1)) hx hb dX10_takesOne_98 (by decide) ?_
              refine vV (wr := [(tby, .inl (G.2.1, 240, .inl fby))]) hC hK hl hP hD hS hA (t_addStep l G h0 (-1) tby kt tln tsp kd13364 ks13365 kn13366 tf13367 tspc ksp13358 gtsp3359 (by omega)) si_X10_152 [2, 0, 1] [3] rfl rfl (by decide) rfl (by decide) (by decide) rfl rfl rfl rfl rfl (Nat.le_of_ble_eq_true rfl) ⟨Nat.le_of_ble_eq_true rfl, Nat.le_of_ble_eq_true rfl⟩ ⟨Nat.le_of_ble_eq_true rfl, Nat.le_of_ble_eq_true rfl⟩ dX10_takesOne_99 (fun u3372 H locs hr3371 hP hD hS => ?_)
              obtain ⟨ksp13373, gtsp3374⟩ := u3372
              try dsimp only at hr3371
              have hP : va_P G.1 vwCl [(tby, .inl (G.2.1, 240, .inl fby)), (h0, .inr (10, [.ref tby, .int (nI kt), .ref tln, .ref tsp, .int kd13364, .int (nI ks13365), .int (nI kn13366), .int tf13367])), (tsp, .inr (8, [.int 120, .int 1, .ref tspc, .int (nI ksp13373)])), (tspc, .inl (G.2.1, 120, .inl gtsp3374))] H := hP
              have hD : va_D A [(tby, .inl (G.2.1, 240, .inl fby)), (h0, .inr (10, [.ref tby, .int (nI kt), .ref tln, .ref tsp, .int kd13364, .int (nI ks13365), .int (nI kn13366), .int tf13367])), (tsp, .inr (8, [.int 120, .int 1, .ref tspc, .int (nI ksp13373)])), (tspc, .inl (G.2.1, 120, .inl gtsp3374))] := hD
              have w3375 := hr3371
              refine lv_iconst (v := 1) hx hb dX10_takesOne_102 (by decide) ?_
              exact RI (v := 1) hC hP hD hS [1, 0, 2, 3] (kd13364, ks13365, kn13366, tf13367, ksp13373, gtsp3374) rfl rfl (by decide) (⟨Or.inl (rfl), by dsimp only; omega⟩) (by decide +kernel) dX10_takesOne_103
          · refine lv_if_ne (tgt := 93) hx hb dX10_takesOne_88 (by decide) (fun c9 => absurd (by decide) c9) (fun _ => ?_)
            refine lv_iconst (v := 0) hx hb dX10_takesOne_91 (by decide) ?_
            exact RI (v := 0) hC hP hD hS [2, 3, 0, 1] (kd13364, ks13365, kn13366, tf13367, ksp13358, gtsp3359) rfl rfl (by decide) (⟨Or.inr (rfl), by dsimp only; omega⟩) (by decide +kernel) dX10_takesOne_92
        · refine lv_if_eq (tgt := 91) hx hb dX10_takesOne_79 (by decide) (fun _ => ?_) (fun c9 => absurd (by decide) c9)
          refine lv_iconst (v := 0) hx hb dX10_takesOne_91 (by decide) ?_
          exact RI (v := 0) hC hP hD hS [0, 1, 2, 3] (kd13354, ks13355, kn13356, tf13357, ksp13358, gtsp3359) rfl rfl (by decide) (⟨Or.inr (rfl), by dsimp only; omega⟩) (by decide +kernel) dX10_takesOne_92
      · refine lv_aload_n hx hb dX10_takesOne_49 rfl (lv_at hl 2 rfl) ?_
        refine iVo (wr := []) hO hC hK hl hP hD hS hA (t_takesComparison l G K h0 tby kt tln tsp vkd vks vkn vtf fby tspc ksp ftsp (by omega) (by omega) (by omega) (by omega)) si_X10_162 [0, 1, 2, 3] [] rfl rfl (by decide) rfl (by decide) (by decide) rfl rfl rfl rfl rfl (Nat.le_of_ble_eq_true rfl) ⟨Nat.le_of_ble_eq_true rfl, Nat.le_of_ble_eq_true rfl⟩ ⟨Nat.le_of_ble_eq_true rfl, Nat.le_of_ble_eq_true rfl⟩ dX10_takesOne_50 (fun r3376 u3377 H locs hr3376 hP hD hS => ?_)
        obtain ⟨kd13378, ks13379, kn13380, tf13381, ksp13382, gtsp3383⟩ := u3377
        try dsimp only at hr3376
        have hP : va_P G.1 vwCl [(h0, .inr (10, [.ref tby, .int (nI kt), .ref tln, .ref tsp, .int kd13378, .int (nI ks13379), .int (nI kn13380), .int tf13381])), (tby, .inl (G.2.1, 240, .inl fby)), (tsp, .inr (8, [.int 120, .int 1, .ref tspc, .int (nI ksp13382)])), (tspc, .inl (G.2.1, 120, .inl gtsp3383))] H := hP
        have hD : va_D A [(h0, .inr (10, [.ref tby, .int (nI kt), .ref tln, .ref tsp, .int kd13378, .int (nI ks13379), .int (nI kn13380), .int tf13381])), (tby, .inl (G.2.1, 240, .inl fby)), (tsp, .inr (8, [.int 120, .int 1, .ref tspc, .int (nI ksp13382)])), (tspc, .inl (G.2.1, 120, .inl gtsp3383))] := hD
        obtain ⟨hr3376, w3384⟩ := hr3376
        rcases hr3376 with rfl | rfl
        · refine lv_if_ne (tgt := 93) hx hb dX10_takesOne_53 (by decide) (fun _ => ?_) (fun c9 => absurd c9 (by decide))
          refine lv_iload_n hx hb dX10_takesOne_93 rfl (lv_at hl 1 rfl) ?_
          refine lv_if_eq (tgt := 102) hx hb dX10_takesOne_94 (by decide) (fun c_94_3386 => ?_) (fun c_94_3386 => ?_)
          · refine lv_iconst (v := 1) hx hb dX10_takesOne_102 (by decide) ?_
            exact RI (v := 1) hC hP hD hS [0, 1, 2, 3] (kd13378, ks13379, kn13380, tf13381, ksp13382, gtsp3383) rfl rfl (by decide) (⟨Or.inl (rfl), by dsimp only; omega⟩) (by decide +kernel) dX10_takesOne_103
          · refine lv_aload_n hx hb dX10_takesOne_97 rfl (lv_at hl 2 rfl) ?_
            refine lv_iconst (v := (-1)) hx hb dX10_takesOne_98 (by decide) ?_
            refine vV (wr := [(tby, .inl (G.2.1, 240, .inl fby))]) hC hK hl hP hD hS hA (t_addStep l G h0 (-1) tby kt tln tsp kd13378 ks13379 kn13380 tf13381 tspc ksp13382 gtsp3383 (by omega)) si_X10_152 [0, 2, 3] [1] rfl rfl (by decide) rfl (by decide) (by decide) rfl rfl rfl rfl rfl (Nat.le_of_ble_eq_true rfl) ⟨Nat.le_of_ble_eq_true rfl, Nat.le_of_ble_eq_true rfl⟩ ⟨Nat.le_of_ble_eq_true rfl, Nat.le_of_ble_eq_true rfl⟩ dX10_takesOne_99 (fun u3388 H locs hr3387 hP hD hS => ?_)
            obtain ⟨ksp13389, gtsp3390⟩ := u3388
            try dsimp only at hr3387
            have hP : va_P G.1 vwCl [(tby, .inl (G.2.1, 240, .inl fby)), (h0, .inr (10, [.ref tby, .int (nI kt), .ref tln, .ref tsp, .int kd13378, .int (nI ks13379), .int (nI kn13380), .int tf13381])), (tsp, .inr (8, [.int 120, .int 1, .ref tspc, .int (nI ksp13389)])), (tspc, .inl (G.2.1, 120, .inl gtsp3390))] H := hP
            have hD : va_D A [(tby, .inl (G.2.1, 240, .inl fby)), (h0, .inr (10, [.ref tby, .int (nI kt), .ref tln, .ref tsp, .int kd13378, .int (nI ks13379), .int (nI kn13380), .int tf13381])), (tsp, .inr (8, [.int 120, .int 1, .ref tspc, .int (nI ksp13389)])), (tspc, .inl (G.2.1, 120, .inl gtsp3390))] := hD
            have w3391 := hr3387
            refine lv_iconst (v := 1) hx hb dX10_takesOne_102 (by decide) ?_
            exact RI (v := 1) hC hP hD hS [1, 0, 2, 3] (kd13378, ks13379, kn13380, tf13381, ksp13389, gtsp3390) rfl rfl (by decide) (⟨Or.inl (rfl), by dsimp only; omega⟩) (by decide +kernel) dX10_takesOne_103
        · refine lv_if_ne (tgt := 93) hx hb dX10_takesOne_53 (by decide) (fun c9 => absurd (by decide) c9) (fun _ => ?_)
          refine lv_iconst (v := 0) hx hb dX10_takesOne_56 (by decide) ?_
          exact RI (v := 0) hC hP hD hS [0, 1, 2, 3] (kd13378, ks13379, kn13380, tf13381, ksp13382, gtsp3383) rfl rfl (by decide) (⟨Or.inr (rfl), by dsimp only; omega⟩) (by decide +kernel) dX10_takesOne_57
    | succ nP ihP =>
      intro kP tu vkd vtf vks vkn H locs ls hkP hvks hvkn hP hD hS hl
      refine lv_iload_n hx hb dX10_takesOne_4 rfl (lv_at hl 0 rfl) ?_
      refine lv_sipush (v := 240) hx hb dX10_takesOne_5 (by decide) ?_
      refine lv_icmp_ge (tgt := 40) hx hb dX10_takesOne_8 (by decide) (fun c9 => absurd c9 (nI_ge (a := kP) (b := 240) (by omega) (by omega))) (fun _ => ?_)
      refine lv_aload_n hx hb dX10_takesOne_11 rfl (lv_at hl 2 rfl) ?_
      refine va_ldcS (index := 160) (tx := "not") hx hb hown (hO.2.1 10 (by decide)) dX10_takesOne_12 ?_
      refine pVo hO hS hC hK hl hP hD (t_isName l G K 10 h0 tby kt tln tsp vkd vks vkn vtf fby (by omega) (by omega) (by omega) ((by decide))) si_X10_102 [0, 1] rfl rfl (by decide) rfl rfl rfl rfl rfl (Nat.le_of_ble_eq_true rfl) ⟨Nat.le_of_ble_eq_true rfl, Nat.le_of_ble_eq_true rfl⟩ ⟨by first | exact Nat.le_of_ble_eq_true rfl | exact Nat.zero_le _, by first | exact Nat.le_of_ble_eq_true rfl | exact Nat.zero_le _⟩ dX10_takesOne_14 (fun r3392 hr3392 => ?_)
      rcases hr3392 with rfl | rfl
      · refine lv_if_eq (tgt := 40) hx hb dX10_takesOne_17 (by decide) (fun c9 => absurd c9 (by decide)) (fun _ => ?_)
        refine lv_aload_n hx hb dX10_takesOne_20 rfl (lv_at hl 2 rfl) ?_
        refine vV (wr := [(tsp, .inr (8, [.int 120, .int 1, .ref tspc, .int (nI ksp)])), (tspc, .inl (G.2.1, 120, .inl ftsp))]) hC hK hl hP hD hS hA (t_advance l G h0 tby kt tln tsp vkd vks vkn vtf fby (by omega) (by omega) (by omega)) si_X10_47 [0, 1] [2, 3] rfl rfl (by decide) rfl (by decide) (by decide) rfl rfl rfl rfl rfl (Nat.le_of_ble_eq_true rfl) ⟨Nat.le_of_ble_eq_true rfl, Nat.le_of_ble_eq_true rfl⟩ ⟨Nat.le_of_ble_eq_true rfl, Nat.le_of_ble_eq_true rfl⟩ dX10_takesOne_21 (fun u3395 H locs hr3394 hP hD hS => ?_)
        obtain ⟨kd13396, ks13397, kn13398⟩ := u3395
        try dsimp only at hr3394
        have hP : va_P G.1 vwCl [(tsp, .inr (8, [.int 120, .int 1, .ref tspc, .int (nI ksp)])), (tspc, .inl (G.2.1, 120, .inl ftsp)), (h0, .inr (10, [.ref tby, .int (nI kt), .ref tln, .ref tsp, .int kd13396, .int (nI ks13397), .int (nI kn13398), .int vtf])), (tby, .inl (G.2.1, 240, .inl fby))] H := hP
        have hD : va_D A [(tsp, .inr (8, [.int 120, .int 1, .ref tspc, .int (nI ksp)])), (tspc, .inl (G.2.1, 120, .inl ftsp)), (h0, .inr (10, [.ref tby, .int (nI kt), .ref tln, .ref tsp, .int kd13396, .int (nI ks13397), .int (nI kn13398), .int vtf])), (tby, .inl (G.2.1, 240, .inl fby))] := hD
        have w3399 := hr3394
        refine lv_iload_n hx hb dX10_takesOne_24 rfl (lv_at hl 1 rfl) ?_
        refine lv_if_ne (tgt := 32) hx hb dX10_takesOne_25 (by decide) (fun c_25_3400 => ?_) (fun c_25_3400 => ?_)
        · refine lv_iconst (v := 0) hx hb dX10_takesOne_32 (by decide) ?_
          refine lv_istore_n (lv' := [(2, .int 0), (3, .int (nI kP)), (0, .ref h0), (1, .int 1)]) hx hb dX10_takesOne_33 rfl hl (by decide) rfl (fun ls hl => ?_)
          refine lv_iinc (v := nI (kP + 1)) (lv' := [(3, .int (nI (kP + 1))), (2, .int 0), (0, .ref h0), (1, .int 1)]) hx hb dX10_takesOne_34 hl (k := 1) rfl (nI_1 _) (by decide) rfl (fun ls hl => ?_)
          refine lv_goto (tgt := 4) hx hb dX10_takesOne_37 (by decide) ?_
          have hP := hP.sub (ws' := [(h0, .inr (10, [.ref tby, .int (nI kt), .ref tln, .ref tsp, .int kd13396, .int (nI ks13397), .int (nI kn13398), .int vtf])), (tby, .inl (G.2.1, 240, .inl fby)), (tsp, .inr (8, [.int 120, .int 1, .ref tspc, .int (nI ksp)])), (tspc, .inl (G.2.1, 120, .inl ftsp))]) [2, 3, 0, 1] rfl
          have hD := hD.sub (ws' := [(h0, .inr (10, [.ref tby, .int (nI kt), .ref tln, .ref tsp, .int kd13396, .int (nI ks13397), .int (nI kn13398), .int vtf])), (tby, .inl (G.2.1, 240, .inl fby)), (tsp, .inr (8, [.int 120, .int 1, .ref tspc, .int (nI ksp)])), (tspc, .inl (G.2.1, 120, .inl ftsp))]) [2, 3, 0, 1] (by decide) rfl
          exact ihP (kP + 1) 0 kd13396 vtf ks13397 kn13398 _ _ _ (by omega) (by first | assumption | exact Or.inl rfl | exact Or.inr rfl | omega) (by first | assumption | exact Or.inl rfl | exact Or.inr rfl | omega) hP hD hS (lv_sub hl [0, 1, 2, 3] rfl)
        · refine lv_iconst (v := 1) hx hb dX10_takesOne_28 (by decide) ?_
          refine lv_goto (tgt := 33) hx hb dX10_takesOne_29 (by decide) ?_
          refine lv_istore_n (lv' := [(2, .int 1), (3, .int (nI kP)), (0, .ref h0), (1, .int 1)]) hx hb dX10_takesOne_33 rfl hl (by decide) rfl (fun ls hl => ?_)
          refine lv_iinc (v := nI (kP + 1)) (lv' := [(3, .int (nI (kP + 1))), (2, .int 1), (0, .ref h0), (1, .int 1)]) hx hb dX10_takesOne_34 hl (k := 1) rfl (nI_1 _) (by decide) rfl (fun ls hl => ?_)
          refine lv_goto (tgt := 4) hx hb dX10_takesOne_37 (by decide) ?_
          have hP := hP.sub (ws' := [(h0, .inr (10, [.ref tby, .int (nI kt), .ref tln, .ref tsp, .int kd13396, .int (nI ks13397), .int (nI kn13398), .int vtf])), (tby, .inl (G.2.1, 240, .inl fby)), (tsp, .inr (8, [.int 120, .int 1, .ref tspc, .int (nI ksp)])), (tspc, .inl (G.2.1, 120, .inl ftsp))]) [2, 3, 0, 1] rfl
          have hD := hD.sub (ws' := [(h0, .inr (10, [.ref tby, .int (nI kt), .ref tln, .ref tsp, .int kd13396, .int (nI ks13397), .int (nI kn13398), .int vtf])), (tby, .inl (G.2.1, 240, .inl fby)), (tsp, .inr (8, [.int 120, .int 1, .ref tspc, .int (nI ksp)])), (tspc, .inl (G.2.1, 120, .inl ftsp))]) [2, 3, 0, 1] (by decide) rfl
          exact ihP (kP + 1) 1 kd13396 vtf ks13397 kn13398 _ _ _ (by omega) (by first | assumption | exact Or.inl rfl | exact Or.inr rfl | omega) (by first | assumption | exact Or.inl rfl | exact Or.inr rfl | omega) hP hD hS (lv_sub hl [0, 1, 2, 3] rfl)
      · refine lv_if_eq (tgt := 40) hx hb dX10_takesOne_17 (by decide) (fun _ => ?_) (fun c9 => absurd (by decide) c9)
        refine lv_aload_n hx hb dX10_takesOne_40 rfl (lv_at hl 2 rfl) ?_
        refine gf_X10_31 hC rfl hK hP 0 rfl rfl dX10_takesOne_41 ?_
        refine lv_bipush (v := 40) hx hb dX10_takesOne_44 (by decide) ?_
        refine lv_icmp_eq (tgt := 58) hx hb dX10_takesOne_46 (by decide) (fun c_46_3401 => ?_) (fun c_46_3401 => ?_)
        · refine lv_iload_n hx hb dX10_takesOne_58 rfl (lv_at hl 3 rfl) ?_
          refine lv_iconst (v := 4) hx hb dX10_takesOne_59 (by decide) ?_
          refine lv_icmp_lt (tgt := 68) hx hb dX10_takesOne_60 (by decide) (fun _ => ?_) (fun c9 => absurd (by decide) c9)
          refine lv_aload_n hx hb dX10_takesOne_68 rfl (lv_at hl 2 rfl) ?_
          refine vV (wr := [(tsp, .inr (8, [.int 120, .int 1, .ref tspc, .int (nI ksp)])), (tspc, .inl (G.2.1, 120, .inl ftsp))]) hC hK hl hP hD hS hA (t_advance l G h0 tby kt tln tsp vkd vks vkn vtf fby (by omega) (by omega) (by omega)) si_X10_47 [0, 1] [2, 3] rfl rfl (by decide) rfl (by decide) (by decide) rfl rfl rfl rfl rfl (Nat.le_of_ble_eq_true rfl) ⟨Nat.le_of_ble_eq_true rfl, Nat.le_of_ble_eq_true rfl⟩ ⟨Nat.le_of_ble_eq_true rfl, Nat.le_of_ble_eq_true rfl⟩ dX10_takesOne_69 (fun u3403 H locs hr3402 hP hD hS => ?_)
          obtain ⟨kd13404, ks13405, kn13406⟩ := u3403
          try dsimp only at hr3402
          have hP : va_P G.1 vwCl [(tsp, .inr (8, [.int 120, .int 1, .ref tspc, .int (nI ksp)])), (tspc, .inl (G.2.1, 120, .inl ftsp)), (h0, .inr (10, [.ref tby, .int (nI kt), .ref tln, .ref tsp, .int kd13404, .int (nI ks13405), .int (nI kn13406), .int vtf])), (tby, .inl (G.2.1, 240, .inl fby))] H := hP
          have hD : va_D A [(tsp, .inr (8, [.int 120, .int 1, .ref tspc, .int (nI ksp)])), (tspc, .inl (G.2.1, 120, .inl ftsp)), (h0, .inr (10, [.ref tby, .int (nI kt), .ref tln, .ref tsp, .int kd13404, .int (nI ks13405), .int (nI kn13406), .int vtf])), (tby, .inl (G.2.1, 240, .inl fby))] := hD
          have w3407 := hr3402
          refine lv_aload_n hx hb dX10_takesOne_72 rfl (lv_at hl 2 rfl) ?_
          refine lv_iload_n hx hb dX10_takesOne_73 rfl (lv_at hl 3 rfl) ?_
          refine lv_iconst (v := 1) hx hb dX10_takesOne_74 (by decide) ?_
          refine lv_iadd hx hb dX10_takesOne_75 ?_
          refine eqi (x1 := 2) (by decide) ?_
          refine iVo (wr := []) hO hC hK hl hP hD hS hA (t_cond2 l G K h0 tby kt tln tsp kd13404 ks13405 kn13406 vtf fby tspc ksp ftsp (by omega) (by omega) (by omega) (by omega)) si_X10_121 [2, 3, 0, 1] [] rfl rfl (by decide) rfl (by decide) (by decide) rfl rfl rfl rfl rfl (Nat.le_of_ble_eq_true rfl) ⟨Nat.le_of_ble_eq_true rfl, Nat.le_of_ble_eq_true rfl⟩ ⟨Nat.le_of_ble_eq_true rfl, Nat.le_of_ble_eq_true rfl⟩ dX10_takesOne_76 (fun r3408 u3409 H locs hr3408 hP hD hS => ?_)
          obtain ⟨kd13410, ks13411, kn13412, tf13413, ksp13414, gtsp3415⟩ := u3409
          try dsimp only at hr3408
          have hP : va_P G.1 vwCl [(h0, .inr (10, [.ref tby, .int (nI kt), .ref tln, .ref tsp, .int kd13410, .int (nI ks13411), .int (nI kn13412), .int tf13413])), (tby, .inl (G.2.1, 240, .inl fby)), (tsp, .inr (8, [.int 120, .int 1, .ref tspc, .int (nI ksp13414)])), (tspc, .inl (G.2.1, 120, .inl gtsp3415))] H := hP
          have hD : va_D A [(h0, .inr (10, [.ref tby, .int (nI kt), .ref tln, .ref tsp, .int kd13410, .int (nI ks13411), .int (nI kn13412), .int tf13413])), (tby, .inl (G.2.1, 240, .inl fby)), (tsp, .inr (8, [.int 120, .int 1, .ref tspc, .int (nI ksp13414)])), (tspc, .inl (G.2.1, 120, .inl gtsp3415))] := hD
          obtain ⟨hr3408, w3416⟩ := hr3408
          rcases hr3408 with rfl | rfl
          · refine lv_if_eq (tgt := 91) hx hb dX10_takesOne_79 (by decide) (fun c9 => absurd c9 (by decide)) (fun _ => ?_)
            refine lv_aload_n hx hb dX10_takesOne_82 rfl (lv_at hl 2 rfl) ?_
            refine lv_bipush (v := 41) hx hb dX10_takesOne_83 (by decide) ?_
            refine iV (wr := [(tsp, .inr (8, [.int 120, .int 1, .ref tspc, .int (nI ksp13414)])), (tspc, .inl (G.2.1, 120, .inl gtsp3415))]) hC hK hl hP hD hS hA (t_takesByte l G h0 41 tby kt tln tsp kd13410 ks13411 kn13412 tf13413 fby (by omega) (by omega) (by omega)) si_X10_124 [0, 1] [2, 3] rfl rfl (by decide) rfl (by decide) (by decide) rfl rfl rfl rfl rfl (Nat.le_of_ble_eq_true rfl) ⟨Nat.le_of_ble_eq_true rfl, Nat.le_of_ble_eq_true rfl⟩ ⟨Nat.le_of_ble_eq_true rfl, Nat.le_of_ble_eq_true rfl⟩ dX10_takesOne_85 (fun r3418 u3419 H locs hr3418 hP hD hS => ?_)
            obtain ⟨kd13420, ks13421, kn13422, tf13423⟩ := u3419
            try dsimp only at hr3418
            have hP : va_P G.1 vwCl [(tsp, .inr (8, [.int 120, .int 1, .ref tspc, .int (nI ksp13414)])), (tspc, .inl (G.2.1, 120, .inl gtsp3415)), (h0, .inr (10, [.ref tby, .int (nI kt), .ref tln, .ref tsp, .int kd13420, .int (nI ks13421), .int (nI kn13422), .int tf13423])), (tby, .inl (G.2.1, 240, .inl fby))] H := hP
            have hD : va_D A [(tsp, .inr (8, [.int 120, .int 1, .ref tspc, .int (nI ksp13414)])), (tspc, .inl (G.2.1, 120, .inl gtsp3415)), (h0, .inr (10, [.ref tby, .int (nI kt), .ref tln, .ref tsp, .int kd13420, .int (nI ks13421), .int (nI kn13422), .int tf13423])), (tby, .inl (G.2.1, 240, .inl fby))] := hD
            obtain ⟨hr3418, w3424⟩ := hr3418
            rcases hr3418 with rfl | rfl
            · refine lv_if_ne (tgt := 93) hx hb dX10_takesOne_88 (by decide) (fun _ => ?_) (fun c9 => absurd c9 (by decide))
              refine lv_iload_n hx hb dX10_takesOne_93 rfl (lv_at hl 1 rfl) ?_
              refine lv_if_eq (tgt := 102) hx hb dX10_takesOne_94 (by decide) (fun c_94_3426 => ?_) (fun c_94_3426 => ?_)
              · refine lv_iconst (v := 1) hx hb dX10_takesOne_102 (by decide) ?_
                exact RI (v := 1) hC hP hD hS [2, 3, 0, 1] (kd13420, ks13421, kn13422, tf13423, ksp13414, gtsp3415) rfl rfl (by decide) (⟨Or.inl (rfl), by dsimp only; omega⟩) (by decide +kernel) dX10_takesOne_103
              · refine lv_aload_n hx hb dX10_takesOne_97 rfl (lv_at hl 2 rfl) ?_
                refine lv_iconst (v := (-1)) hx hb dX10_takesOne_98 (by decide) ?_
                refine vV (wr := [(tby, .inl (G.2.1, 240, .inl fby))]) hC hK hl hP hD hS hA (t_addStep l G h0 (-1) tby kt tln tsp kd13420 ks13421 kn13422 tf13423 tspc ksp13414 gtsp3415 (by omega)) si_X10_152 [2, 0, 1] [3] rfl rfl (by decide) rfl (by decide) (by decide) rfl rfl rfl rfl rfl (Nat.le_of_ble_eq_true rfl) ⟨Nat.le_of_ble_eq_true rfl, Nat.le_of_ble_eq_true rfl⟩ ⟨Nat.le_of_ble_eq_true rfl, Nat.le_of_ble_eq_true rfl⟩ dX10_takesOne_99 (fun u3428 H locs hr3427 hP hD hS => ?_)
                obtain ⟨ksp13429, gtsp3430⟩ := u3428
                try dsimp only at hr3427
                have hP : va_P G.1 vwCl [(tby, .inl (G.2.1, 240, .inl fby)), (h0, .inr (10, [.ref tby, .int (nI kt), .ref tln, .ref tsp, .int kd13420, .int (nI ks13421), .int (nI kn13422), .int tf13423])), (tsp, .inr (8, [.int 120, .int 1, .ref tspc, .int (nI ksp13429)])), (tspc, .inl (G.2.1, 120, .inl gtsp3430))] H := hP
                have hD : va_D A [(tby, .inl (G.2.1, 240, .inl fby)), (h0, .inr (10, [.ref tby, .int (nI kt), .ref tln, .ref tsp, .int kd13420, .int (nI ks13421), .int (nI kn13422), .int tf13423])), (tsp, .inr (8, [.int 120, .int 1, .ref tspc, .int (nI ksp13429)])), (tspc, .inl (G.2.1, 120, .inl gtsp3430))] := hD
                have w3431 := hr3427
                refine lv_iconst (v := 1) hx hb dX10_takesOne_102 (by decide) ?_
                exact RI (v := 1) hC hP hD hS [1, 0, 2, 3] (kd13420, ks13421, kn13422, tf13423, ksp13429, gtsp3430) rfl rfl (by decide) (⟨Or.inl (rfl), by dsimp only; omega⟩) (by decide +kernel) dX10_takesOne_103
            · refine lv_if_ne (tgt := 93) hx hb dX10_takesOne_88 (by decide) (fun c9 => absurd (by decide) c9) (fun _ => ?_)
              refine lv_iconst (v := 0) hx hb dX10_takesOne_91 (by decide) ?_
              exact RI (v := 0) hC hP hD hS [2, 3, 0, 1] (kd13420, ks13421, kn13422, tf13423, ksp13414, gtsp3415) rfl rfl (by decide) (⟨Or.inr (rfl), by dsimp only; omega⟩) (by decide +kernel) dX10_takesOne_92
          · refine lv_if_eq (tgt := 91) hx hb dX10_takesOne_79 (by decide) (fun _ => ?_) (fun c9 => absurd (by decide) c9)
            refine lv_iconst (v := 0) hx hb dX10_takesOne_91 (by decide) ?_
            exact RI (v := 0) hC hP hD hS [0, 1, 2, 3] (kd13410, ks13411, kn13412, tf13413, ksp13414, gtsp3415) rfl rfl (by decide) (⟨Or.inr (rfl), by dsimp only; omega⟩) (by decide +kernel) dX10_takesOne_92
        · refine lv_aload_n hx hb dX10_takesOne_49 rfl (lv_at hl 2 rfl) ?_
          refine iVo (wr := []) hO hC hK hl hP hD hS hA (t_takesComparison l G K h0 tby kt tln tsp vkd vks vkn vtf fby tspc ksp ftsp (by omega) (by omega) (by omega) (by omega)) si_X10_162 [0, 1, 2, 3] [] rfl rfl (by decide) rfl (by decide) (by decide) rfl rfl rfl rfl rfl (Nat.le_of_ble_eq_true rfl) ⟨Nat.le_of_ble_eq_true rfl, Nat.le_of_ble_eq_true rfl⟩ ⟨Nat.le_of_ble_eq_true rfl, Nat.le_of_ble_eq_true rfl⟩ dX10_takesOne_50 (fun r3432 u3433 H locs hr3432 hP hD hS => ?_)
          obtain ⟨kd13434, ks13435, kn13436, tf13437, ksp13438, gtsp3439⟩ := u3433
          try dsimp only at hr3432
          have hP : va_P G.1 vwCl [(h0, .inr (10, [.ref tby, .int (nI kt), .ref tln, .ref tsp, .int kd13434, .int (nI ks13435), .int (nI kn13436), .int tf13437])), (tby, .inl (G.2.1, 240, .inl fby)), (tsp, .inr (8, [.int 120, .int 1, .ref tspc, .int (nI ksp13438)])), (tspc, .inl (G.2.1, 120, .inl gtsp3439))] H := hP
          have hD : va_D A [(h0, .inr (10, [.ref tby, .int (nI kt), .ref tln, .ref tsp, .int kd13434, .int (nI ks13435), .int (nI kn13436), .int tf13437])), (tby, .inl (G.2.1, 240, .inl fby)), (tsp, .inr (8, [.int 120, .int 1, .ref tspc, .int (nI ksp13438)])), (tspc, .inl (G.2.1, 120, .inl gtsp3439))] := hD
          obtain ⟨hr3432, w3440⟩ := hr3432
          rcases hr3432 with rfl | rfl
          · refine lv_if_ne (tgt := 93) hx hb dX10_takesOne_53 (by decide) (fun _ => ?_) (fun c9 => absurd c9 (by decide))
            refine lv_iload_n hx hb dX10_takesOne_93 rfl (lv_at hl 1 rfl) ?_
            refine lv_if_eq (tgt := 102) hx hb dX10_takesOne_94 (by decide) (fun c_94_3442 => ?_) (fun c_94_3442 => ?_)
            · refine lv_iconst (v := 1) hx hb dX10_takesOne_102 (by decide) ?_
              exact RI (v := 1) hC hP hD hS [0, 1, 2, 3] (kd13434, ks13435, kn13436, tf13437, ksp13438, gtsp3439) rfl rfl (by decide) (⟨Or.inl (rfl), by dsimp only; omega⟩) (by decide +kernel) dX10_takesOne_103
            · refine lv_aload_n hx hb dX10_takesOne_97 rfl (lv_at hl 2 rfl) ?_
              refine lv_iconst (v := (-1)) hx hb dX10_takesOne_98 (by decide) ?_
              refine vV (wr := [(tby, .inl (G.2.1, 240, .inl fby))]) hC hK hl hP hD hS hA (t_addStep l G h0 (-1) tby kt tln tsp kd13434 ks13435 kn13436 tf13437 tspc ksp13438 gtsp3439 (by omega)) si_X10_152 [0, 2, 3] [1] rfl rfl (by decide) rfl (by decide) (by decide) rfl rfl rfl rfl rfl (Nat.le_of_ble_eq_true rfl) ⟨Nat.le_of_ble_eq_true rfl, Nat.le_of_ble_eq_true rfl⟩ ⟨Nat.le_of_ble_eq_true rfl, Nat.le_of_ble_eq_true rfl⟩ dX10_takesOne_99 (fun u3444 H locs hr3443 hP hD hS => ?_)
              obtain ⟨ksp13445, gtsp3446⟩ := u3444
              try dsimp only at hr3443
              have hP : va_P G.1 vwCl [(tby, .inl (G.2.1, 240, .inl fby)), (h0, .inr (10, [.ref tby, .int (nI kt), .ref tln, .ref tsp, .int kd13434, .int (nI ks13435), .int (nI kn13436), .int tf13437])), (tsp, .inr (8, [.int 120, .int 1, .ref tspc, .int (nI ksp13445)])), (tspc, .inl (G.2.1, 120, .inl gtsp3446))] H := hP
              have hD : va_D A [(tby, .inl (G.2.1, 240, .inl fby)), (h0, .inr (10, [.ref tby, .int (nI kt), .ref tln, .ref tsp, .int kd13434, .int (nI ks13435), .int (nI kn13436), .int tf13437])), (tsp, .inr (8, [.int 120, .int 1, .ref tspc, .int (nI ksp13445)])), (tspc, .inl (G.2.1, 120, .inl gtsp3446))] := hD
              have w3447 := hr3443
              refine lv_iconst (v := 1) hx hb dX10_takesOne_102 (by decide) ?_
              exact RI (v := 1) hC hP hD hS [1, 0, 2, 3] (kd13434, ks13435, kn13436, tf13437, ksp13445, gtsp3446) rfl rfl (by decide) (⟨Or.inl (rfl), by dsimp only; omega⟩) (by decide +kernel) dX10_takesOne_103
          · refine lv_if_ne (tgt := 93) hx hb dX10_takesOne_53 (by decide) (fun c9 => absurd (by decide) c9) (fun _ => ?_)
            refine lv_iconst (v := 0) hx hb dX10_takesOne_56 (by decide) ?_
            exact RI (v := 0) hC hP hD hS [0, 1, 2, 3] (kd13434, ks13435, kn13436, tf13437, ksp13438, gtsp3439) rfl rfl (by decide) (⟨Or.inr (rfl), by dsimp only; omega⟩) (by decide +kernel) dX10_takesOne_57
  exact keyP 240 0 0 tkd tf9 ks kn _ _ _ (by omega) (by first | assumption | exact Or.inl rfl | exact Or.inr rfl | omega) (by first | assumption | exact Or.inl rfl | exact Or.inr rfl | omega) hP hD hS (lv_sub hl [0, 1, 2, 3] rfl)
set_option maxHeartbeats 4000000 in
set_option maxRecDepth 100000 in
theorem t_all1 (l : Launch) (G : GG) (K : OO) (h0 : Nat) (tby : Nat) (kt : Nat) (tln : Nat) (tsp : Nat) (tkd : Int32) (ks : Nat) (kn : Nat) (tf9 : Int32) (fby : Nat → Int32) (tspc : Nat) (ksp : Nat) (ftsp : Nat → Int32) (hkt : kt ≤ 240) (hks : ks ≤ 240) (hkn : kn ≤ 240) (hksp : ksp ≤ 120) : MIo l G K yX10_takesAll cX10_takesAll 3 (some .boolean) 22 0 0 [.ref h0, .int 1] [(h0, .inr (10, [.ref tby, .int (nI kt), .ref tln, .ref tsp, .int tkd, .int (nI ks), .int (nI kn), .int tf9])), (tby, .inl (G.2.1, 240, .inl fby)), (tsp, .inr (8, [.int 120, .int 1, .ref tspc, .int (nI ksp)])), (tspc, .inl (G.2.1, 120, .inl ftsp))] (fun (r : Int32) (u : Int32 × Nat × Nat × Int32 × Nat × (Nat → Int32)) => (r = 1 ∨ r = 0) ∧ (u.2.1 ≤ 240 ∧ u.2.2.1 ≤ 240 ∧ u.2.2.2.2.1 ≤ 120)) (fun u : Int32 × Nat × Nat × Int32 × Nat × (Nat → Int32) => [(h0, .inr (10, [.ref tby, .int (nI kt), .ref tln, .ref tsp, .int u.1, .int (nI u.2.1), .int (nI u.2.2.1), .int u.2.2.2.1])), (tby, .inl (G.2.1, 240, .inl fby)), (tsp, .inr (8, [.int 120, .int 1, .ref tspc, .int (nI u.2.2.2.2.1)])), (tspc, .inl (G.2.1, 120, .inl u.2.2.2.2.2))]) := by
  refine MIo.start (by decide +kernel) (Nat.le_of_ble_eq_true rfl) ?_
  intro p e s m below meth c A ls hC hK hP hD hS hA hl hO
  have hl : lv_has ls 3 [(0, .ref h0), (1, .int 1)] := hl
  obtain ⟨hx, hb, hr, hml, hB, hown, hlocks, hnm⟩ := id hC
  refine lv_aload_n hx hb dX10_takesAll_0 rfl (lv_at hl 0 rfl) ?_
  refine lv_iload_n hx hb dX10_takesAll_1 rfl (lv_at hl 1 rfl) ?_
  refine iVo (wr := []) hO hC hK hl hP hD hS hA (t_one1 l G K h0 tby kt tln tsp tkd ks kn tf9 fby tspc ksp ftsp (by omega) (by omega) (by omega) (by omega)) si_X10_155 [0, 1, 2, 3] [] rfl rfl (by decide) rfl (by decide) (by decide) rfl rfl rfl rfl rfl (Nat.le_of_ble_eq_true rfl) ⟨Nat.le_of_ble_eq_true rfl, Nat.le_of_ble_eq_true rfl⟩ ⟨Nat.le_of_ble_eq_true rfl, Nat.le_of_ble_eq_true rfl⟩ dX10_takesAll_2 (fun r3448 u3449 H locs hr3448 hP hD hS => ?_)
  obtain ⟨kd13450, ks13451, kn13452, tf13453, ksp13454, gtsp3455⟩ := u3449
  try dsimp only at hr3448
  have hP : va_P G.1 vwCl [(h0, .inr (10, [.ref tby, .int (nI kt), .ref tln, .ref tsp, .int kd13450, .int (nI ks13451), .int (nI kn13452), .int tf13453])), (tby, .inl (G.2.1, 240, .inl fby)), (tsp, .inr (8, [.int 120, .int 1, .ref tspc, .int (nI ksp13454)])), (tspc, .inl (G.2.1, 120, .inl gtsp3455))] H := hP
  have hD : va_D A [(h0, .inr (10, [.ref tby, .int (nI kt), .ref tln, .ref tsp, .int kd13450, .int (nI ks13451), .int (nI kn13452), .int tf13453])), (tby, .inl (G.2.1, 240, .inl fby)), (tsp, .inr (8, [.int 120, .int 1, .ref tspc, .int (nI ksp13454)])), (tspc, .inl (G.2.1, 120, .inl gtsp3455))] := hD
  obtain ⟨hr3448, w3456⟩ := hr3448
  rcases hr3448 with rfl | rfl
  · refine lv_if_ne (tgt := 10) hx hb dX10_takesAll_5 (by decide) (fun _ => ?_) (fun c9 => absurd c9 (by decide))
    refine lv_iconst (v := 0) hx hb dX10_takesAll_10 (by decide) ?_
    refine lv_istore_n (lv' := [(2, .int 0), (0, .ref h0), (1, .int 1)]) hx hb dX10_takesAll_11 rfl hl (by decide) rfl (fun ls hl => ?_)
    have keyP : ∀ (nP kP : Nat) (vkd : Int32) (vtf : Int32) (vtsp : Nat → Int32) (vks : Nat) (vkn : Nat) (vksp : Nat) (H : Heap) (locs : List Loc) (ls : Array Slot), kP + nP = 240 → (vks ≤ 240) → (vkn ≤ 240) → (vksp ≤ 120) → va_P G.1 vwCl [(h0, .inr (10, [.ref tby, .int (nI kt), .ref tln, .ref tsp, .int vkd, .int (nI vks), .int (nI vkn), .int vtf])), (tby, .inl (G.2.1, 240, .inl fby)), (tsp, .inr (8, [.int 120, .int 1, .ref tspc, .int (nI vksp)])), (tspc, .inl (G.2.1, 120, .inl vtsp))] H → va_D A [(h0, .inr (10, [.ref tby, .int (nI kt), .ref tln, .ref tsp, .int vkd, .int (nI vks), .int (nI vkn), .int vtf])), (tby, .inl (G.2.1, 240, .inl fby)), (tsp, .inr (8, [.int 120, .int 1, .ref tspc, .int (nI vksp)])), (tspc, .inl (G.2.1, 120, .inl vtsp))] → va_S A s.heap H locs → lv_has ls 3 [(2, .int (nI kP)), (0, .ref h0), (1, .int 1)] → W p l e (RM 22 0 0) s m ([.ref h0, .int 1] : List Value).toArray below meth c H locs 0 0 (MQ below (QI G (fun (r : Int32) (u : Int32 × Nat × Nat × Int32 × Nat × (Nat → Int32)) => (r = 1 ∨ r = 0) ∧ (u.2.1 ≤ 240 ∧ u.2.2.1 ≤ 240 ∧ u.2.2.2.2.1 ≤ 120)) (fun u : Int32 × Nat × Nat × Int32 × Nat × (Nat → Int32) => [(h0, .inr (10, [.ref tby, .int (nI kt), .ref tln, .ref tsp, .int u.1, .int (nI u.2.1), .int (nI u.2.2.1), .int u.2.2.2.1])), (tby, .inl (G.2.1, 240, .inl fby)), (tsp, .inr (8, [.int 120, .int 1, .ref tspc, .int (nI u.2.2.2.2.1)])), (tspc, .inl (G.2.1, 120, .inl u.2.2.2.2.2))]) A) ([.ref h0, .int 1] : List Value).toArray s 0 0 A) (F0 m 12 ls []) := by
      intro nP
      induction nP with
      | zero =>
        intro kP vkd vtf vtsp vks vkn vksp H locs ls hkP hvks hvkn hvksp hP hD hS hl
        obtain rfl : 240 = kP := by omega
        have hl : lv_has ls 3 [(2, .int 240), (0, .ref h0), (1, .int 1)] := hl
        refine lv_iload_n hx hb dX10_takesAll_12 rfl (lv_at hl 0 rfl) ?_
        refine lv_sipush (v := 240) hx hb dX10_takesAll_13 (by decide) ?_
        refine lv_icmp_ge (tgt := 54) hx hb dX10_takesAll_16 (by decide) (fun _ => ?_) (fun c9 => absurd (by decide) c9)
        refine lv_iconst (v := 1) hx hb dX10_takesAll_54 (by decide) ?_
        exact RI (v := 1) hC hP hD hS [0, 1, 2, 3] (vkd, vks, vkn, vtf, vksp, vtsp) rfl rfl (by decide) (⟨Or.inl (rfl), by dsimp only; omega⟩) (by decide +kernel) dX10_takesAll_55
      | succ nP ihP =>
        intro kP vkd vtf vtsp vks vkn vksp H locs ls hkP hvks hvkn hvksp hP hD hS hl
        refine lv_iload_n hx hb dX10_takesAll_12 rfl (lv_at hl 0 rfl) ?_
        refine lv_sipush (v := 240) hx hb dX10_takesAll_13 (by decide) ?_
        refine lv_icmp_ge (tgt := 54) hx hb dX10_takesAll_16 (by decide) (fun c9 => absurd c9 (nI_ge (a := kP) (b := 240) (by omega) (by omega))) (fun _ => ?_)
        refine lv_aload_n hx hb dX10_takesAll_19 rfl (lv_at hl 1 rfl) ?_
        refine va_ldcS (index := 158) (tx := "and") hx hb hown (hO.2.1 9 (by decide)) dX10_takesAll_20 ?_
        refine pVo hO hS hC hK hl hP hD (t_isName l G K 9 h0 tby kt tln tsp vkd vks vkn vtf fby (by omega) (by omega) (by omega) ((by decide))) si_X10_102 [0, 1] rfl rfl (by decide) rfl rfl rfl rfl rfl (Nat.le_of_ble_eq_true rfl) ⟨Nat.le_of_ble_eq_true rfl, Nat.le_of_ble_eq_true rfl⟩ ⟨by first | exact Nat.le_of_ble_eq_true rfl | exact Nat.zero_le _, by first | exact Nat.le_of_ble_eq_true rfl | exact Nat.zero_le _⟩ dX10_takesAll_22 (fun r3458 hr3458 => ?_)
        rcases hr3458 with rfl | rfl
        · refine lv_if_eq (tgt := 54) hx hb dX10_takesAll_25 (by decide) (fun c9 => absurd c9 (by decide)) (fun _ => ?_)
          refine lv_aload_n hx hb dX10_takesAll_28 rfl (lv_at hl 1 rfl) ?_
          refine vV (wr := [(tsp, .inr (8, [.int 120, .int 1, .ref tspc, .int (nI vksp)])), (tspc, .inl (G.2.1, 120, .inl vtsp))]) hC hK hl hP hD hS hA (t_advance l G h0 tby kt tln tsp vkd vks vkn vtf fby (by omega) (by omega) (by omega)) si_X10_47 [0, 1] [2, 3] rfl rfl (by decide) rfl (by decide) (by decide) rfl rfl rfl rfl rfl (Nat.le_of_ble_eq_true rfl) ⟨Nat.le_of_ble_eq_true rfl, Nat.le_of_ble_eq_true rfl⟩ ⟨Nat.le_of_ble_eq_true rfl, Nat.le_of_ble_eq_true rfl⟩ dX10_takesAll_29 (fun u3461 H locs hr3460 hP hD hS => ?_)
          obtain ⟨kd13462, ks13463, kn13464⟩ := u3461
          try dsimp only at hr3460
          have hP : va_P G.1 vwCl [(tsp, .inr (8, [.int 120, .int 1, .ref tspc, .int (nI vksp)])), (tspc, .inl (G.2.1, 120, .inl vtsp)), (h0, .inr (10, [.ref tby, .int (nI kt), .ref tln, .ref tsp, .int kd13462, .int (nI ks13463), .int (nI kn13464), .int vtf])), (tby, .inl (G.2.1, 240, .inl fby))] H := hP
          have hD : va_D A [(tsp, .inr (8, [.int 120, .int 1, .ref tspc, .int (nI vksp)])), (tspc, .inl (G.2.1, 120, .inl vtsp)), (h0, .inr (10, [.ref tby, .int (nI kt), .ref tln, .ref tsp, .int kd13462, .int (nI ks13463), .int (nI kn13464), .int vtf])), (tby, .inl (G.2.1, 240, .inl fby))] := hD
          have w3465 := hr3460
          refine lv_aload_n hx hb dX10_takesAll_32 rfl (lv_at hl 1 rfl) ?_
          refine lv_iload_n hx hb dX10_takesAll_33 rfl (lv_at hl 2 rfl) ?_
          refine iVo (wr := []) hO hC hK hl hP hD hS hA (t_one1 l G K h0 tby kt tln tsp kd13462 ks13463 kn13464 vtf fby tspc vksp vtsp (by omega) (by omega) (by omega) (by omega)) si_X10_155 [2, 3, 0, 1] [] rfl rfl (by decide) rfl (by decide) (by decide) rfl rfl rfl rfl rfl (Nat.le_of_ble_eq_true rfl) ⟨Nat.le_of_ble_eq_true rfl, Nat.le_of_ble_eq_true rfl⟩ ⟨Nat.le_of_ble_eq_true rfl, Nat.le_of_ble_eq_true rfl⟩ dX10_takesAll_34 (fun r3466 u3467 H locs hr3466 hP hD hS => ?_)
          obtain ⟨kd13468, ks13469, kn13470, tf13471, ksp13472, gtsp3473⟩ := u3467
          try dsimp only at hr3466
          have hP : va_P G.1 vwCl [(h0, .inr (10, [.ref tby, .int (nI kt), .ref tln, .ref tsp, .int kd13468, .int (nI ks13469), .int (nI kn13470), .int tf13471])), (tby, .inl (G.2.1, 240, .inl fby)), (tsp, .inr (8, [.int 120, .int 1, .ref tspc, .int (nI ksp13472)])), (tspc, .inl (G.2.1, 120, .inl gtsp3473))] H := hP
          have hD : va_D A [(h0, .inr (10, [.ref tby, .int (nI kt), .ref tln, .ref tsp, .int kd13468, .int (nI ks13469), .int (nI kn13470), .int tf13471])), (tby, .inl (G.2.1, 240, .inl fby)), (tsp, .inr (8, [.int 120, .int 1, .ref tspc, .int (nI ksp13472)])), (tspc, .inl (G.2.1, 120, .inl gtsp3473))] := hD
          obtain ⟨hr3466, w3474⟩ := hr3466
          rcases hr3466 with rfl | rfl
          · refine lv_if_ne (tgt := 42) hx hb dX10_takesAll_37 (by decide) (fun _ => ?_) (fun c9 => absurd c9 (by decide))
            refine lv_aload_n hx hb dX10_takesAll_42 rfl (lv_at hl 1 rfl) ?_
            refine lv_bipush (v := (-2)) hx hb dX10_takesAll_43 (by decide) ?_
            refine vV (wr := [(tby, .inl (G.2.1, 240, .inl fby))]) hC hK hl hP hD hS hA (t_addStep l G h0 (-2) tby kt tln tsp kd13468 ks13469 kn13470 tf13471 tspc ksp13472 gtsp3473 (by omega)) si_X10_152 [0, 2, 3] [1] rfl rfl (by decide) rfl (by decide) (by decide) rfl rfl rfl rfl rfl (Nat.le_of_ble_eq_true rfl) ⟨Nat.le_of_ble_eq_true rfl, Nat.le_of_ble_eq_true rfl⟩ ⟨Nat.le_of_ble_eq_true rfl, Nat.le_of_ble_eq_true rfl⟩ dX10_takesAll_45 (fun u3477 H locs hr3476 hP hD hS => ?_)
            obtain ⟨ksp13478, gtsp3479⟩ := u3477
            try dsimp only at hr3476
            have hP : va_P G.1 vwCl [(tby, .inl (G.2.1, 240, .inl fby)), (h0, .inr (10, [.ref tby, .int (nI kt), .ref tln, .ref tsp, .int kd13468, .int (nI ks13469), .int (nI kn13470), .int tf13471])), (tsp, .inr (8, [.int 120, .int 1, .ref tspc, .int (nI ksp13478)])), (tspc, .inl (G.2.1, 120, .inl gtsp3479))] H := hP
            have hD : va_D A [(tby, .inl (G.2.1, 240, .inl fby)), (h0, .inr (10, [.ref tby, .int (nI kt), .ref tln, .ref tsp, .int kd13468, .int (nI ks13469), .int (nI kn13470), .int tf13471])), (tsp, .inr (8, [.int 120, .int 1, .ref tspc, .int (nI ksp13478)])), (tspc, .inl (G.2.1, 120, .inl gtsp3479))] := hD
            have w3480 := hr3476
            refine lv_iinc (v := nI (kP + 1)) (lv' := [(2, .int (nI (kP + 1))), (0, .ref h0), (1, .int 1)]) hx hb dX10_takesAll_48 hl (k := 0) rfl (nI_1 _) (by decide) rfl (fun ls hl => ?_)
            refine lv_goto (tgt := 12) hx hb dX10_takesAll_51 (by decide) ?_
            have hP := hP.sub (ws' := [(h0, .inr (10, [.ref tby, .int (nI kt), .ref tln, .ref tsp, .int kd13468, .int (nI ks13469), .int (nI kn13470), .int tf13471])), (tby, .inl (G.2.1, 240, .inl fby)), (tsp, .inr (8, [.int 120, .int 1, .ref tspc, .int (nI ksp13478)])), (tspc, .inl (G.2.1, 120, .inl gtsp3479))]) [1, 0, 2, 3] rfl
            have hD := hD.sub (ws' := [(h0, .inr (10, [.ref tby, .int (nI kt), .ref tln, .ref tsp, .int kd13468, .int (nI ks13469), .int (nI kn13470), .int tf13471])), (tby, .inl (G.2.1, 240, .inl fby)), (tsp, .inr (8, [.int 120, .int 1, .ref tspc, .int (nI ksp13478)])), (tspc, .inl (G.2.1, 120, .inl gtsp3479))]) [1, 0, 2, 3] (by decide) rfl
            exact ihP (kP + 1) kd13468 tf13471 gtsp3479 ks13469 kn13470 ksp13478 _ _ _ (by omega) (by first | assumption | exact Or.inl rfl | exact Or.inr rfl | omega) (by first | assumption | exact Or.inl rfl | exact Or.inr rfl | omega) (by first | assumption | exact Or.inl rfl | exact Or.inr rfl | omega) hP hD hS (lv_sub hl [0, 1, 2] rfl)
          · refine lv_if_ne (tgt := 42) hx hb dX10_takesAll_37 (by decide) (fun c9 => absurd (by decide) c9) (fun _ => ?_)
            refine lv_iconst (v := 0) hx hb dX10_takesAll_40 (by decide) ?_
            exact RI (v := 0) hC hP hD hS [0, 1, 2, 3] (kd13468, ks13469, kn13470, tf13471, ksp13472, gtsp3473) rfl rfl (by decide) (⟨Or.inr (rfl), by dsimp only; omega⟩) (by decide +kernel) dX10_takesAll_41
        · refine lv_if_eq (tgt := 54) hx hb dX10_takesAll_25 (by decide) (fun _ => ?_) (fun c9 => absurd (by decide) c9)
          refine lv_iconst (v := 1) hx hb dX10_takesAll_54 (by decide) ?_
          exact RI (v := 1) hC hP hD hS [0, 1, 2, 3] (vkd, vks, vkn, vtf, vksp, vtsp) rfl rfl (by decide) (⟨Or.inl (rfl), by dsimp only; omega⟩) (by decide +kernel) dX10_takesAll_55
    exact keyP 240 0 kd13450 tf13453 gtsp3455 ks13451 kn13452 ksp13454 _ _ _ (by omega) (by first | assumption | exact Or.inl rfl | exact Or.inr rfl | omega) (by first | assumption | exact Or.inl rfl | exact Or.inr rfl | omega) (by first | assumption | exact Or.inl rfl | exact Or.inr rfl | omega) hP hD hS (lv_sub hl [0, 1, 2] rfl)
  · refine lv_if_ne (tgt := 10) hx hb dX10_takesAll_5 (by decide) (fun c9 => absurd (by decide) c9) (fun _ => ?_)
    refine lv_iconst (v := 0) hx hb dX10_takesAll_8 (by decide) ?_
    exact RI (v := 0) hC hP hD hS [0, 1, 2, 3] (kd13450, ks13451, kn13452, tf13453, ksp13454, gtsp3455) rfl rfl (by decide) (⟨Or.inr (rfl), by dsimp only; omega⟩) (by decide +kernel) dX10_takesAll_9
set_option maxHeartbeats 4000000 in
set_option maxRecDepth 100000 in
theorem t_cond1 (l : Launch) (G : GG) (K : OO) (h0 : Nat) (tby : Nat) (kt : Nat) (tln : Nat) (tsp : Nat) (tkd : Int32) (ks : Nat) (kn : Nat) (tf9 : Int32) (fby : Nat → Int32) (tspc : Nat) (ksp : Nat) (ftsp : Nat → Int32) (hkt : kt ≤ 240) (hks : ks ≤ 240) (hkn : kn ≤ 240) (hksp : ksp ≤ 120) : MIo l G K yX10_takesCond cX10_takesCond 3 (some .boolean) 23 0 0 [.ref h0, .int 1] [(h0, .inr (10, [.ref tby, .int (nI kt), .ref tln, .ref tsp, .int tkd, .int (nI ks), .int (nI kn), .int tf9])), (tby, .inl (G.2.1, 240, .inl fby)), (tsp, .inr (8, [.int 120, .int 1, .ref tspc, .int (nI ksp)])), (tspc, .inl (G.2.1, 120, .inl ftsp))] (fun (r : Int32) (u : Int32 × Nat × Nat × Int32 × Nat × (Nat → Int32)) => (r = 1 ∨ r = 0) ∧ (u.2.1 ≤ 240 ∧ u.2.2.1 ≤ 240 ∧ u.2.2.2.2.1 ≤ 120)) (fun u : Int32 × Nat × Nat × Int32 × Nat × (Nat → Int32) => [(h0, .inr (10, [.ref tby, .int (nI kt), .ref tln, .ref tsp, .int u.1, .int (nI u.2.1), .int (nI u.2.2.1), .int u.2.2.2.1])), (tby, .inl (G.2.1, 240, .inl fby)), (tsp, .inr (8, [.int 120, .int 1, .ref tspc, .int (nI u.2.2.2.2.1)])), (tspc, .inl (G.2.1, 120, .inl u.2.2.2.2.2))]) := by
  refine MIo.start (by decide +kernel) (Nat.le_of_ble_eq_true rfl) ?_
  intro p e s m below meth c A ls hC hK hP hD hS hA hl hO
  have hl : lv_has ls 3 [(0, .ref h0), (1, .int 1)] := hl
  obtain ⟨hx, hb, hr, hml, hB, hown, hlocks, hnm⟩ := id hC
  refine lv_aload_n hx hb dX10_takesCond_0 rfl (lv_at hl 0 rfl) ?_
  refine lv_iload_n hx hb dX10_takesCond_1 rfl (lv_at hl 1 rfl) ?_
  refine iVo (wr := []) hO hC hK hl hP hD hS hA (t_all1 l G K h0 tby kt tln tsp tkd ks kn tf9 fby tspc ksp ftsp (by omega) (by omega) (by omega) (by omega)) si_X10_147 [0, 1, 2, 3] [] rfl rfl (by decide) rfl (by decide) (by decide) rfl rfl rfl rfl rfl (Nat.le_of_ble_eq_true rfl) ⟨Nat.le_of_ble_eq_true rfl, Nat.le_of_ble_eq_true rfl⟩ ⟨Nat.le_of_ble_eq_true rfl, Nat.le_of_ble_eq_true rfl⟩ dX10_takesCond_2 (fun r3481 u3482 H locs hr3481 hP hD hS => ?_)
  obtain ⟨kd13483, ks13484, kn13485, tf13486, ksp13487, gtsp3488⟩ := u3482
  try dsimp only at hr3481
  have hP : va_P G.1 vwCl [(h0, .inr (10, [.ref tby, .int (nI kt), .ref tln, .ref tsp, .int kd13483, .int (nI ks13484), .int (nI kn13485), .int tf13486])), (tby, .inl (G.2.1, 240, .inl fby)), (tsp, .inr (8, [.int 120, .int 1, .ref tspc, .int (nI ksp13487)])), (tspc, .inl (G.2.1, 120, .inl gtsp3488))] H := hP
  have hD : va_D A [(h0, .inr (10, [.ref tby, .int (nI kt), .ref tln, .ref tsp, .int kd13483, .int (nI ks13484), .int (nI kn13485), .int tf13486])), (tby, .inl (G.2.1, 240, .inl fby)), (tsp, .inr (8, [.int 120, .int 1, .ref tspc, .int (nI ksp13487)])), (tspc, .inl (G.2.1, 120, .inl gtsp3488))] := hD
  obtain ⟨hr3481, w3489⟩ := hr3481
  rcases hr3481 with rfl | rfl
  · refine lv_if_ne (tgt := 10) hx hb dX10_takesCond_5 (by decide) (fun _ => ?_) (fun c9 => absurd c9 (by decide))
    refine lv_iconst (v := 0) hx hb dX10_takesCond_10 (by decide) ?_
    refine lv_istore_n (lv' := [(2, .int 0), (0, .ref h0), (1, .int 1)]) hx hb dX10_takesCond_11 rfl hl (by decide) rfl (fun ls hl => ?_)
    have keyP : ∀ (nP kP : Nat) (vkd : Int32) (vtf : Int32) (vtsp : Nat → Int32) (vks : Nat) (vkn : Nat) (vksp : Nat) (H : Heap) (locs : List Loc) (ls : Array Slot), kP + nP = 240 → (vks ≤ 240) → (vkn ≤ 240) → (vksp ≤ 120) → va_P G.1 vwCl [(h0, .inr (10, [.ref tby, .int (nI kt), .ref tln, .ref tsp, .int vkd, .int (nI vks), .int (nI vkn), .int vtf])), (tby, .inl (G.2.1, 240, .inl fby)), (tsp, .inr (8, [.int 120, .int 1, .ref tspc, .int (nI vksp)])), (tspc, .inl (G.2.1, 120, .inl vtsp))] H → va_D A [(h0, .inr (10, [.ref tby, .int (nI kt), .ref tln, .ref tsp, .int vkd, .int (nI vks), .int (nI vkn), .int vtf])), (tby, .inl (G.2.1, 240, .inl fby)), (tsp, .inr (8, [.int 120, .int 1, .ref tspc, .int (nI vksp)])), (tspc, .inl (G.2.1, 120, .inl vtsp))] → va_S A s.heap H locs → lv_has ls 3 [(2, .int (nI kP)), (0, .ref h0), (1, .int 1)] → W p l e (RM 23 0 0) s m ([.ref h0, .int 1] : List Value).toArray below meth c H locs 0 0 (MQ below (QI G (fun (r : Int32) (u : Int32 × Nat × Nat × Int32 × Nat × (Nat → Int32)) => (r = 1 ∨ r = 0) ∧ (u.2.1 ≤ 240 ∧ u.2.2.1 ≤ 240 ∧ u.2.2.2.2.1 ≤ 120)) (fun u : Int32 × Nat × Nat × Int32 × Nat × (Nat → Int32) => [(h0, .inr (10, [.ref tby, .int (nI kt), .ref tln, .ref tsp, .int u.1, .int (nI u.2.1), .int (nI u.2.2.1), .int u.2.2.2.1])), (tby, .inl (G.2.1, 240, .inl fby)), (tsp, .inr (8, [.int 120, .int 1, .ref tspc, .int (nI u.2.2.2.2.1)])), (tspc, .inl (G.2.1, 120, .inl u.2.2.2.2.2))]) A) ([.ref h0, .int 1] : List Value).toArray s 0 0 A) (F0 m 12 ls []) := by
      intro nP
      induction nP with
      | zero =>
        intro kP vkd vtf vtsp vks vkn vksp H locs ls hkP hvks hvkn hvksp hP hD hS hl
        obtain rfl : 240 = kP := by omega
        have hl : lv_has ls 3 [(2, .int 240), (0, .ref h0), (1, .int 1)] := hl
        refine lv_iload_n hx hb dX10_takesCond_12 rfl (lv_at hl 0 rfl) ?_
        refine lv_sipush (v := 240) hx hb dX10_takesCond_13 (by decide) ?_
        refine lv_icmp_ge (tgt := 54) hx hb dX10_takesCond_16 (by decide) (fun _ => ?_) (fun c9 => absurd (by decide) c9)
        refine lv_iconst (v := 1) hx hb dX10_takesCond_54 (by decide) ?_
        exact RI (v := 1) hC hP hD hS [0, 1, 2, 3] (vkd, vks, vkn, vtf, vksp, vtsp) rfl rfl (by decide) (⟨Or.inl (rfl), by dsimp only; omega⟩) (by decide +kernel) dX10_takesCond_55
      | succ nP ihP =>
        intro kP vkd vtf vtsp vks vkn vksp H locs ls hkP hvks hvkn hvksp hP hD hS hl
        refine lv_iload_n hx hb dX10_takesCond_12 rfl (lv_at hl 0 rfl) ?_
        refine lv_sipush (v := 240) hx hb dX10_takesCond_13 (by decide) ?_
        refine lv_icmp_ge (tgt := 54) hx hb dX10_takesCond_16 (by decide) (fun c9 => absurd c9 (nI_ge (a := kP) (b := 240) (by omega) (by omega))) (fun _ => ?_)
        refine lv_aload_n hx hb dX10_takesCond_19 rfl (lv_at hl 1 rfl) ?_
        refine va_ldcS (index := 150) (tx := "o\x72") hx hb hown (hO.2.1 8 (by decide)) dX10_takesCond_20 ?_
        refine pVo hO hS hC hK hl hP hD (t_isName l G K 8 h0 tby kt tln tsp vkd vks vkn vtf fby (by omega) (by omega) (by omega) ((by decide))) si_X10_102 [0, 1] rfl rfl (by decide) rfl rfl rfl rfl rfl (Nat.le_of_ble_eq_true rfl) ⟨Nat.le_of_ble_eq_true rfl, Nat.le_of_ble_eq_true rfl⟩ ⟨by first | exact Nat.le_of_ble_eq_true rfl | exact Nat.zero_le _, by first | exact Nat.le_of_ble_eq_true rfl | exact Nat.zero_le _⟩ dX10_takesCond_22 (fun r3491 hr3491 => ?_)
        rcases hr3491 with rfl | rfl
        · refine lv_if_eq (tgt := 54) hx hb dX10_takesCond_25 (by decide) (fun c9 => absurd c9 (by decide)) (fun _ => ?_)
          refine lv_aload_n hx hb dX10_takesCond_28 rfl (lv_at hl 1 rfl) ?_
          refine vV (wr := [(tsp, .inr (8, [.int 120, .int 1, .ref tspc, .int (nI vksp)])), (tspc, .inl (G.2.1, 120, .inl vtsp))]) hC hK hl hP hD hS hA (t_advance l G h0 tby kt tln tsp vkd vks vkn vtf fby (by omega) (by omega) (by omega)) si_X10_47 [0, 1] [2, 3] rfl rfl (by decide) rfl (by decide) (by decide) rfl rfl rfl rfl rfl (Nat.le_of_ble_eq_true rfl) ⟨Nat.le_of_ble_eq_true rfl, Nat.le_of_ble_eq_true rfl⟩ ⟨Nat.le_of_ble_eq_true rfl, Nat.le_of_ble_eq_true rfl⟩ dX10_takesCond_29 (fun u3494 H locs hr3493 hP hD hS => ?_)
          obtain ⟨kd13495, ks13496, kn13497⟩ := u3494
          try dsimp only at hr3493
          have hP : va_P G.1 vwCl [(tsp, .inr (8, [.int 120, .int 1, .ref tspc, .int (nI vksp)])), (tspc, .inl (G.2.1, 120, .inl vtsp)), (h0, .inr (10, [.ref tby, .int (nI kt), .ref tln, .ref tsp, .int kd13495, .int (nI ks13496), .int (nI kn13497), .int vtf])), (tby, .inl (G.2.1, 240, .inl fby))] H := hP
          have hD : va_D A [(tsp, .inr (8, [.int 120, .int 1, .ref tspc, .int (nI vksp)])), (tspc, .inl (G.2.1, 120, .inl vtsp)), (h0, .inr (10, [.ref tby, .int (nI kt), .ref tln, .ref tsp, .int kd13495, .int (nI ks13496), .int (nI kn13497), .int vtf])), (tby, .inl (G.2.1, 240, .inl fby))] := hD
          have w3498 := hr3493
          refine lv_aload_n hx hb dX10_takesCond_32 rfl (lv_at hl 1 rfl) ?_
          refine lv_iload_n hx hb dX10_takesCond_33 rfl (lv_at hl 2 rfl) ?_
          refine iVo (wr := []) hO hC hK hl hP hD hS hA (t_all1 l G K h0 tby kt tln tsp kd13495 ks13496 kn13497 vtf fby tspc vksp vtsp (by omega) (by omega) (by omega) (by omega)) si_X10_147 [2, 3, 0, 1] [] rfl rfl (by decide) rfl (by decide) (by decide) rfl rfl rfl rfl rfl (Nat.le_of_ble_eq_true rfl) ⟨Nat.le_of_ble_eq_true rfl, Nat.le_of_ble_eq_true rfl⟩ ⟨Nat.le_of_ble_eq_true rfl, Nat.le_of_ble_eq_true rfl⟩ dX10_takesCond_34 (fun r3499 u3500 H locs hr3499 hP hD hS => ?_)
          obtain ⟨kd13501, ks13502, kn13503, tf13504, ksp13505, gtsp3506⟩ := u3500
          try dsimp only at hr3499
          have hP : va_P G.1 vwCl [(h0, .inr (10, [.ref tby, .int (nI kt), .ref tln, .ref tsp, .int kd13501, .int (nI ks13502), .int (nI kn13503), .int tf13504])), (tby, .inl (G.2.1, 240, .inl fby)), (tsp, .inr (8, [.int 120, .int 1, .ref tspc, .int (nI ksp13505)])), (tspc, .inl (G.2.1, 120, .inl gtsp3506))] H := hP
          have hD : va_D A [(h0, .inr (10, [.ref tby, .int (nI kt), .ref tln, .ref tsp, .int kd13501, .int (nI ks13502), .int (nI kn13503), .int tf13504])), (tby, .inl (G.2.1, 240, .inl fby)), (tsp, .inr (8, [.int 120, .int 1, .ref tspc, .int (nI ksp13505)])), (tspc, .inl (G.2.1, 120, .inl gtsp3506))] := hD
          obtain ⟨hr3499, w3507⟩ := hr3499
          rcases hr3499 with rfl | rfl
          · refine lv_if_ne (tgt := 42) hx hb dX10_takesCond_37 (by decide) (fun _ => ?_) (fun c9 => absurd c9 (by decide))
            refine lv_aload_n hx hb dX10_takesCond_42 rfl (lv_at hl 1 rfl) ?_
            refine lv_bipush (v := (-3)) hx hb dX10_takesCond_43 (by decide) ?_
            refine vV (wr := [(tby, .inl (G.2.1, 240, .inl fby))]) hC hK hl hP hD hS hA (t_addStep l G h0 (-3) tby kt tln tsp kd13501 ks13502 kn13503 tf13504 tspc ksp13505 gtsp3506 (by omega)) si_X10_152 [0, 2, 3] [1] rfl rfl (by decide) rfl (by decide) (by decide) rfl rfl rfl rfl rfl (Nat.le_of_ble_eq_true rfl) ⟨Nat.le_of_ble_eq_true rfl, Nat.le_of_ble_eq_true rfl⟩ ⟨Nat.le_of_ble_eq_true rfl, Nat.le_of_ble_eq_true rfl⟩ dX10_takesCond_45 (fun u3510 H locs hr3509 hP hD hS => ?_)
            obtain ⟨ksp13511, gtsp3512⟩ := u3510
            try dsimp only at hr3509
            have hP : va_P G.1 vwCl [(tby, .inl (G.2.1, 240, .inl fby)), (h0, .inr (10, [.ref tby, .int (nI kt), .ref tln, .ref tsp, .int kd13501, .int (nI ks13502), .int (nI kn13503), .int tf13504])), (tsp, .inr (8, [.int 120, .int 1, .ref tspc, .int (nI ksp13511)])), (tspc, .inl (G.2.1, 120, .inl gtsp3512))] H := hP
            have hD : va_D A [(tby, .inl (G.2.1, 240, .inl fby)), (h0, .inr (10, [.ref tby, .int (nI kt), .ref tln, .ref tsp, .int kd13501, .int (nI ks13502), .int (nI kn13503), .int tf13504])), (tsp, .inr (8, [.int 120, .int 1, .ref tspc, .int (nI ksp13511)])), (tspc, .inl (G.2.1, 120, .inl gtsp3512))] := hD
            have w3513 := hr3509
            refine lv_iinc (v := nI (kP + 1)) (lv' := [(2, .int (nI (kP + 1))), (0, .ref h0), (1, .int 1)]) hx hb dX10_takesCond_48 hl (k := 0) rfl (nI_1 _) (by decide) rfl (fun ls hl => ?_)
            refine lv_goto (tgt := 12) hx hb dX10_takesCond_51 (by decide) ?_
            have hP := hP.sub (ws' := [(h0, .inr (10, [.ref tby, .int (nI kt), .ref tln, .ref tsp, .int kd13501, .int (nI ks13502), .int (nI kn13503), .int tf13504])), (tby, .inl (G.2.1, 240, .inl fby)), (tsp, .inr (8, [.int 120, .int 1, .ref tspc, .int (nI ksp13511)])), (tspc, .inl (G.2.1, 120, .inl gtsp3512))]) [1, 0, 2, 3] rfl
            have hD := hD.sub (ws' := [(h0, .inr (10, [.ref tby, .int (nI kt), .ref tln, .ref tsp, .int kd13501, .int (nI ks13502), .int (nI kn13503), .int tf13504])), (tby, .inl (G.2.1, 240, .inl fby)), (tsp, .inr (8, [.int 120, .int 1, .ref tspc, .int (nI ksp13511)])), (tspc, .inl (G.2.1, 120, .inl gtsp3512))]) [1, 0, 2, 3] (by decide) rfl
            exact ihP (kP + 1) kd13501 tf13504 gtsp3512 ks13502 kn13503 ksp13511 _ _ _ (by omega) (by first | assumption | exact Or.inl rfl | exact Or.inr rfl | omega) (by first | assumption | exact Or.inl rfl | exact Or.inr rfl | omega) (by first | assumption | exact Or.inl rfl | exact Or.inr rfl | omega) hP hD hS (lv_sub hl [0, 1, 2] rfl)
          · refine lv_if_ne (tgt := 42) hx hb dX10_takesCond_37 (by decide) (fun c9 => absurd (by decide) c9) (fun _ => ?_)
            refine lv_iconst (v := 0) hx hb dX10_takesCond_40 (by decide) ?_
            exact RI (v := 0) hC hP hD hS [0, 1, 2, 3] (kd13501, ks13502, kn13503, tf13504, ksp13505, gtsp3506) rfl rfl (by decide) (⟨Or.inr (rfl), by dsimp only; omega⟩) (by decide +kernel) dX10_takesCond_41
        · refine lv_if_eq (tgt := 54) hx hb dX10_takesCond_25 (by decide) (fun _ => ?_) (fun c9 => absurd (by decide) c9)
          refine lv_iconst (v := 1) hx hb dX10_takesCond_54 (by decide) ?_
          exact RI (v := 1) hC hP hD hS [0, 1, 2, 3] (vkd, vks, vkn, vtf, vksp, vtsp) rfl rfl (by decide) (⟨Or.inl (rfl), by dsimp only; omega⟩) (by decide +kernel) dX10_takesCond_55
    exact keyP 240 0 kd13483 tf13486 gtsp3488 ks13484 kn13485 ksp13487 _ _ _ (by omega) (by first | assumption | exact Or.inl rfl | exact Or.inr rfl | omega) (by first | assumption | exact Or.inl rfl | exact Or.inr rfl | omega) (by first | assumption | exact Or.inl rfl | exact Or.inr rfl | omega) hP hD hS (lv_sub hl [0, 1, 2] rfl)
  · refine lv_if_ne (tgt := 10) hx hb dX10_takesCond_5 (by decide) (fun c9 => absurd (by decide) c9) (fun _ => ?_)
    refine lv_iconst (v := 0) hx hb dX10_takesCond_8 (by decide) ?_
    exact RI (v := 0) hC hP hD hS [0, 1, 2, 3] (kd13483, ks13484, kn13485, tf13486, ksp13487, gtsp3488) rfl rfl (by decide) (⟨Or.inr (rfl), by dsimp only; omega⟩) (by decide +kernel) dX10_takesCond_9
set_option maxHeartbeats 4000000 in
set_option maxRecDepth 100000 in
theorem t_one0 (l : Launch) (G : GG) (K : OO) (h0 : Nat) (tby : Nat) (kt : Nat) (tln : Nat) (tsp : Nat) (tkd : Int32) (ks : Nat) (kn : Nat) (tf9 : Int32) (fby : Nat → Int32) (tspc : Nat) (ksp : Nat) (ftsp : Nat → Int32) (hkt : kt ≤ 240) (hks : ks ≤ 240) (hkn : kn ≤ 240) (hksp : ksp ≤ 120) : MIo l G K yX10_takesOne cX10_takesOne 4 (some .boolean) 25 0 0 [.ref h0, .int 0] [(h0, .inr (10, [.ref tby, .int (nI kt), .ref tln, .ref tsp, .int tkd, .int (nI ks), .int (nI kn), .int tf9])), (tby, .inl (G.2.1, 240, .inl fby)), (tsp, .inr (8, [.int 120, .int 1, .ref tspc, .int (nI ksp)])), (tspc, .inl (G.2.1, 120, .inl ftsp))] (fun (r : Int32) (u : Int32 × Nat × Nat × Int32 × Nat × (Nat → Int32)) => (r = 1 ∨ r = 0) ∧ (u.2.1 ≤ 240 ∧ u.2.2.1 ≤ 240 ∧ u.2.2.2.2.1 ≤ 120)) (fun u : Int32 × Nat × Nat × Int32 × Nat × (Nat → Int32) => [(h0, .inr (10, [.ref tby, .int (nI kt), .ref tln, .ref tsp, .int u.1, .int (nI u.2.1), .int (nI u.2.2.1), .int u.2.2.2.1])), (tby, .inl (G.2.1, 240, .inl fby)), (tsp, .inr (8, [.int 120, .int 1, .ref tspc, .int (nI u.2.2.2.2.1)])), (tspc, .inl (G.2.1, 120, .inl u.2.2.2.2.2))]) := by
  refine MIo.start (by decide +kernel) (Nat.le_of_ble_eq_true rfl) ?_
  intro p e s m below meth c A ls hC hK hP hD hS hA hl hO
  have hl : lv_has ls 4 [(0, .ref h0), (1, .int 0)] := hl
  obtain ⟨hx, hb, hr, hml, hB, hown, hlocks, hnm⟩ := id hC
  refine lv_iconst (v := 0) hx hb dX10_takesOne_0 (by decide) ?_
  refine lv_istore_n (lv' := [(2, .int 0), (0, .ref h0), (1, .int 0)]) hx hb dX10_takesOne_1 rfl hl (by decide) rfl (fun ls hl => ?_)
  refine lv_iconst (v := 0) hx hb dX10_takesOne_2 (by decide) ?_
  refine lv_istore_n (lv' := [(3, .int 0), (2, .int 0), (0, .ref h0), (1, .int 0)]) hx hb dX10_takesOne_3 rfl hl (by decide) rfl (fun ls hl => ?_)
  have keyP : ∀ (nP kP : Nat) (tu : Int32) (vkd : Int32) (vtf : Int32) (vks : Nat) (vkn : Nat) (H : Heap) (locs : List Loc) (ls : Array Slot), kP + nP = 240 → (vks ≤ 240) → (vkn ≤ 240) → va_P G.1 vwCl [(h0, .inr (10, [.ref tby, .int (nI kt), .ref tln, .ref tsp, .int vkd, .int (nI vks), .int (nI vkn), .int vtf])), (tby, .inl (G.2.1, 240, .inl fby)), (tsp, .inr (8, [.int 120, .int 1, .ref tspc, .int (nI ksp)])), (tspc, .inl (G.2.1, 120, .inl ftsp))] H → va_D A [(h0, .inr (10, [.ref tby, .int (nI kt), .ref tln, .ref tsp, .int vkd, .int (nI vks), .int (nI vkn), .int vtf])), (tby, .inl (G.2.1, 240, .inl fby)), (tsp, .inr (8, [.int 120, .int 1, .ref tspc, .int (nI ksp)])), (tspc, .inl (G.2.1, 120, .inl ftsp))] → va_S A s.heap H locs → lv_has ls 4 [(3, .int (nI kP)), (2, .int tu), (0, .ref h0), (1, .int 0)] → W p l e (RM 25 0 0) s m ([.ref h0, .int 0] : List Value).toArray below meth c H locs 0 0 (MQ below (QI G (fun (r : Int32) (u : Int32 × Nat × Nat × Int32 × Nat × (Nat → Int32)) => (r = 1 ∨ r = 0) ∧ (u.2.1 ≤ 240 ∧ u.2.2.1 ≤ 240 ∧ u.2.2.2.2.1 ≤ 120)) (fun u : Int32 × Nat × Nat × Int32 × Nat × (Nat → Int32) => [(h0, .inr (10, [.ref tby, .int (nI kt), .ref tln, .ref tsp, .int u.1, .int (nI u.2.1), .int (nI u.2.2.1), .int u.2.2.2.1])), (tby, .inl (G.2.1, 240, .inl fby)), (tsp, .inr (8, [.int 120, .int 1, .ref tspc, .int (nI u.2.2.2.2.1)])), (tspc, .inl (G.2.1, 120, .inl u.2.2.2.2.2))]) A) ([.ref h0, .int 0] : List Value).toArray s 0 0 A) (F0 m 4 ls []) := by
    intro nP
    induction nP with
    | zero =>
      intro kP tu vkd vtf vks vkn H locs ls hkP hvks hvkn hP hD hS hl
      obtain rfl : 240 = kP := by omega
      have hl : lv_has ls 4 [(3, .int 240), (2, .int tu), (0, .ref h0), (1, .int 0)] := hl
      refine lv_iload_n hx hb dX10_takesOne_4 rfl (lv_at hl 0 rfl) ?_
      refine lv_sipush (v := 240) hx hb dX10_takesOne_5 (by decide) ?_
      refine lv_icmp_ge (tgt := 40) hx hb dX10_takesOne_8 (by decide) (fun _ => ?_) (fun c9 => absurd (by decide) c9)
      refine lv_aload_n hx hb dX10_takesOne_40 rfl (lv_at hl 2 rfl) ?_
      refine gf_X10_31 hC rfl hK hP 0 rfl rfl dX10_takesOne_41 ?_
      refine lv_bipush (v := 40) hx hb dX10_takesOne_44 (by decide) ?_
      refine lv_icmp_eq (tgt := 58) hx hb dX10_takesOne_46 (by decide) (fun c_46_3514 => ?_) (fun c_46_3514 => ?_)
      · refine lv_iload_n hx hb dX10_takesOne_58 rfl (lv_at hl 3 rfl) ?_
        refine lv_iconst (v := 4) hx hb dX10_takesOne_59 (by decide) ?_
        refine lv_icmp_lt (tgt := 68) hx hb dX10_takesOne_60 (by decide) (fun _ => ?_) (fun c9 => absurd (by decide) c9)
        refine lv_aload_n hx hb dX10_takesOne_68 rfl (lv_at hl 2 rfl) ?_
        refine vV (wr := [(tsp, .inr (8, [.int 120, .int 1, .ref tspc, .int (nI ksp)])), (tspc, .inl (G.2.1, 120, .inl ftsp))]) hC hK hl hP hD hS hA (t_advance l G h0 tby kt tln tsp vkd vks vkn vtf fby (by omega) (by omega) (by omega)) si_X10_47 [0, 1] [2, 3] rfl rfl (by decide) rfl (by decide) (by decide) rfl rfl rfl rfl rfl (Nat.le_of_ble_eq_true rfl) ⟨Nat.le_of_ble_eq_true rfl, Nat.le_of_ble_eq_true rfl⟩ ⟨Nat.le_of_ble_eq_true rfl, Nat.le_of_ble_eq_true rfl⟩ dX10_takesOne_69 (fun u3516 H locs hr3515 hP hD hS => ?_)
        obtain ⟨kd13517, ks13518, kn13519⟩ := u3516
        try dsimp only at hr3515
        have hP : va_P G.1 vwCl [(tsp, .inr (8, [.int 120, .int 1, .ref tspc, .int (nI ksp)])), (tspc, .inl (G.2.1, 120, .inl ftsp)), (h0, .inr (10, [.ref tby, .int (nI kt), .ref tln, .ref tsp, .int kd13517, .int (nI ks13518), .int (nI kn13519), .int vtf])), (tby, .inl (G.2.1, 240, .inl fby))] H := hP
        have hD : va_D A [(tsp, .inr (8, [.int 120, .int 1, .ref tspc, .int (nI ksp)])), (tspc, .inl (G.2.1, 120, .inl ftsp)), (h0, .inr (10, [.ref tby, .int (nI kt), .ref tln, .ref tsp, .int kd13517, .int (nI ks13518), .int (nI kn13519), .int vtf])), (tby, .inl (G.2.1, 240, .inl fby))] := hD
        have w3520 := hr3515
        refine lv_aload_n hx hb dX10_takesOne_72 rfl (lv_at hl 2 rfl) ?_
        refine lv_iload_n hx hb dX10_takesOne_73 rfl (lv_at hl 3 rfl) ?_
        refine lv_iconst (v := 1) hx hb dX10_takesOne_74 (by decide) ?_
        refine lv_iadd hx hb dX10_takesOne_75 ?_
        refine eqi (x1 := 1) (by decide) ?_
        refine iVo (wr := []) hO hC hK hl hP hD hS hA (t_cond1 l G K h0 tby kt tln tsp kd13517 ks13518 kn13519 vtf fby tspc ksp ftsp (by omega) (by omega) (by omega) (by omega)) si_X10_121 [2, 3, 0, 1] [] rfl rfl (by decide) rfl (by decide) (by decide) rfl rfl rfl rfl rfl (Nat.le_of_ble_eq_true rfl) ⟨Nat.le_of_ble_eq_true rfl, Nat.le_of_ble_eq_true rfl⟩ ⟨Nat.le_of_ble_eq_true rfl, Nat.le_of_ble_eq_true rfl⟩ dX10_takesOne_76 (fun r3521 u3522 H locs hr3521 hP hD hS => ?_)
        obtain ⟨kd13523, ks13524, kn13525, tf13526, ksp13527, gtsp3528⟩ := u3522
        try dsimp only at hr3521
        have hP : va_P G.1 vwCl [(h0, .inr (10, [.ref tby, .int (nI kt), .ref tln, .ref tsp, .int kd13523, .int (nI ks13524), .int (nI kn13525), .int tf13526])), (tby, .inl (G.2.1, 240, .inl fby)), (tsp, .inr (8, [.int 120, .int 1, .ref tspc, .int (nI ksp13527)])), (tspc, .inl (G.2.1, 120, .inl gtsp3528))] H := hP
        have hD : va_D A [(h0, .inr (10, [.ref tby, .int (nI kt), .ref tln, .ref tsp, .int kd13523, .int (nI ks13524), .int (nI kn13525), .int tf13526])), (tby, .inl (G.2.1, 240, .inl fby)), (tsp, .inr (8, [.int 120, .int 1, .ref tspc, .int (nI ksp13527)])), (tspc, .inl (G.2.1, 120, .inl gtsp3528))] := hD
        obtain ⟨hr3521, w3529⟩ := hr3521
        rcases hr3521 with rfl | rfl
        · refine lv_if_eq (tgt := 91) hx hb dX10_takesOne_79 (by decide) (fun c9 => absurd c9 (by decide)) (fun _ => ?_)
          refine lv_aload_n hx hb dX10_takesOne_82 rfl (lv_at hl 2 rfl) ?_
          refine lv_bipush (v := 41) hx hb dX10_takesOne_83 (by decide) ?_
          refine iV (wr := [(tsp, .inr (8, [.int 120, .int 1, .ref tspc, .int (nI ksp13527)])), (tspc, .inl (G.2.1, 120, .inl gtsp3528))]) hC hK hl hP hD hS hA (t_takesByte l G h0 41 tby kt tln tsp kd13523 ks13524 kn13525 tf13526 fby (by omega) (by omega) (by omega)) si_X10_124 [0, 1] [2, 3] rfl rfl (by decide) rfl (by decide) (by decide) rfl rfl rfl rfl rfl (Nat.le_of_ble_eq_true rfl) ⟨Nat.le_of_ble_eq_true rfl, Nat.le_of_ble_eq_true rfl⟩ ⟨Nat.le_of_ble_eq_true rfl, Nat.le_of_ble_eq_true rfl⟩ dX10_takesOne_85 (fun r3531 u3532 H locs hr3531 hP hD hS => ?_)
          obtain ⟨kd13533, ks13534, kn13535, tf13536⟩ := u3532
          try dsimp only at hr3531
          have hP : va_P G.1 vwCl [(tsp, .inr (8, [.int 120, .int 1, .ref tspc, .int (nI ksp13527)])), (tspc, .inl (G.2.1, 120, .inl gtsp3528)), (h0, .inr (10, [.ref tby, .int (nI kt), .ref tln, .ref tsp, .int kd13533, .int (nI ks13534), .int (nI kn13535), .int tf13536])), (tby, .inl (G.2.1, 240, .inl fby))] H := hP
          have hD : va_D A [(tsp, .inr (8, [.int 120, .int 1, .ref tspc, .int (nI ksp13527)])), (tspc, .inl (G.2.1, 120, .inl gtsp3528)), (h0, .inr (10, [.ref tby, .int (nI kt), .ref tln, .ref tsp, .int kd13533, .int (nI ks13534), .int (nI kn13535), .int tf13536])), (tby, .inl (G.2.1, 240, .inl fby))] := hD
          obtain ⟨hr3531, w3537⟩ := hr3531
          rcases hr3531 with rfl | rfl
          · refine lv_if_ne (tgt := 93) hx hb dX10_takesOne_88 (by decide) (fun _ => ?_) (fun c9 => absurd c9 (by decide))
            refine lv_iload_n hx hb dX10_takesOne_93 rfl (lv_at hl 1 rfl) ?_
            refine lv_if_eq (tgt := 102) hx hb dX10_takesOne_94 (by decide) (fun c_94_3539 => ?_) (fun c_94_3539 => ?_)
            · refine lv_iconst (v := 1) hx hb dX10_takesOne_102 (by decide) ?_
              exact RI (v := 1) hC hP hD hS [2, 3, 0, 1] (kd13533, ks13534, kn13535, tf13536, ksp13527, gtsp3528) rfl rfl (by decide) (⟨Or.inl (rfl), by dsimp only; omega⟩) (by decide +kernel) dX10_takesOne_103
            · refine lv_aload_n hx hb dX10_takesOne_97 rfl (lv_at hl 2 rfl) ?_
              refine lv_iconst (v := (-1)) hx hb dX10_takesOne_98 (by decide) ?_
              refine vV (wr := [(tby, .inl (G.2.1, 240, .inl fby))]) hC hK hl hP hD hS hA (t_addStep l G h0 (-1) tby kt tln tsp kd13533 ks13534 kn13535 tf13536 tspc ksp13527 gtsp3528 (by omega)) si_X10_152 [2, 0, 1] [3] rfl rfl (by decide) rfl (by decide) (by decide) rfl rfl rfl rfl rfl (Nat.le_of_ble_eq_true rfl) ⟨Nat.le_of_ble_eq_true rfl, Nat.le_of_ble_eq_true rfl⟩ ⟨Nat.le_of_ble_eq_true rfl, Nat.le_of_ble_eq_true rfl⟩ dX10_takesOne_99 (fun u3541 H locs hr3540 hP hD hS => ?_)
              obtain ⟨ksp13542, gtsp3543⟩ := u3541
              try dsimp only at hr3540
              have hP : va_P G.1 vwCl [(tby, .inl (G.2.1, 240, .inl fby)), (h0, .inr (10, [.ref tby, .int (nI kt), .ref tln, .ref tsp, .int kd13533, .int (nI ks13534), .int (nI kn13535), .int tf13536])), (tsp, .inr (8, [.int 120, .int 1, .ref tspc, .int (nI ksp13542)])), (tspc, .inl (G.2.1, 120, .inl gtsp3543))] H := hP
              have hD : va_D A [(tby, .inl (G.2.1, 240, .inl fby)), (h0, .inr (10, [.ref tby, .int (nI kt), .ref tln, .ref tsp, .int kd13533, .int (nI ks13534), .int (nI kn13535), .int tf13536])), (tsp, .inr (8, [.int 120, .int 1, .ref tspc, .int (nI ksp13542)])), (tspc, .inl (G.2.1, 120, .inl gtsp3543))] := hD
              have w3544 := hr3540
              refine lv_iconst (v := 1) hx hb dX10_takesOne_102 (by decide) ?_
              exact RI (v := 1) hC hP hD hS [1, 0, 2, 3] (kd13533, ks13534, kn13535, tf13536, ksp13542, gtsp3543) rfl rfl (by decide) (⟨Or.inl (rfl), by dsimp only; omega⟩) (by decide +kernel) dX10_takesOne_103
          · refine lv_if_ne (tgt := 93) hx hb dX10_takesOne_88 (by decide) (fun c9 => absurd (by decide) c9) (fun _ => ?_)
            refine lv_iconst (v := 0) hx hb dX10_takesOne_91 (by decide) ?_
            exact RI (v := 0) hC hP hD hS [2, 3, 0, 1] (kd13533, ks13534, kn13535, tf13536, ksp13527, gtsp3528) rfl rfl (by decide) (⟨Or.inr (rfl), by dsimp only; omega⟩) (by decide +kernel) dX10_takesOne_92
        · refine lv_if_eq (tgt := 91) hx hb dX10_takesOne_79 (by decide) (fun _ => ?_) (fun c9 => absurd (by decide) c9)
          refine lv_iconst (v := 0) hx hb dX10_takesOne_91 (by decide) ?_
          exact RI (v := 0) hC hP hD hS [0, 1, 2, 3] (kd13523, ks13524, kn13525, tf13526, ksp13527, gtsp3528) rfl rfl (by decide) (⟨Or.inr (rfl), by dsimp only; omega⟩) (by decide +kernel) dX10_takesOne_92
      · refine lv_aload_n hx hb dX10_takesOne_49 rfl (lv_at hl 2 rfl) ?_
        refine iVo (wr := []) hO hC hK hl hP hD hS hA (t_takesComparison l G K h0 tby kt tln tsp vkd vks vkn vtf fby tspc ksp ftsp (by omega) (by omega) (by omega) (by omega)) si_X10_162 [0, 1, 2, 3] [] rfl rfl (by decide) rfl (by decide) (by decide) rfl rfl rfl rfl rfl (Nat.le_of_ble_eq_true rfl) ⟨Nat.le_of_ble_eq_true rfl, Nat.le_of_ble_eq_true rfl⟩ ⟨Nat.le_of_ble_eq_true rfl, Nat.le_of_ble_eq_true rfl⟩ dX10_takesOne_50 (fun r3545 u3546 H locs hr3545 hP hD hS => ?_)
        obtain ⟨kd13547, ks13548, kn13549, tf13550, ksp13551, gtsp3552⟩ := u3546
        try dsimp only at hr3545
        have hP : va_P G.1 vwCl [(h0, .inr (10, [.ref tby, .int (nI kt), .ref tln, .ref tsp, .int kd13547, .int (nI ks13548), .int (nI kn13549), .int tf13550])), (tby, .inl (G.2.1, 240, .inl fby)), (tsp, .inr (8, [.int 120, .int 1, .ref tspc, .int (nI ksp13551)])), (tspc, .inl (G.2.1, 120, .inl gtsp3552))] H := hP
        have hD : va_D A [(h0, .inr (10, [.ref tby, .int (nI kt), .ref tln, .ref tsp, .int kd13547, .int (nI ks13548), .int (nI kn13549), .int tf13550])), (tby, .inl (G.2.1, 240, .inl fby)), (tsp, .inr (8, [.int 120, .int 1, .ref tspc, .int (nI ksp13551)])), (tspc, .inl (G.2.1, 120, .inl gtsp3552))] := hD
        obtain ⟨hr3545, w3553⟩ := hr3545
        rcases hr3545 with rfl | rfl
        · refine lv_if_ne (tgt := 93) hx hb dX10_takesOne_53 (by decide) (fun _ => ?_) (fun c9 => absurd c9 (by decide))
          refine lv_iload_n hx hb dX10_takesOne_93 rfl (lv_at hl 1 rfl) ?_
          refine lv_if_eq (tgt := 102) hx hb dX10_takesOne_94 (by decide) (fun c_94_3555 => ?_) (fun c_94_3555 => ?_)
          · refine lv_iconst (v := 1) hx hb dX10_takesOne_102 (by decide) ?_
            exact RI (v := 1) hC hP hD hS [0, 1, 2, 3] (kd13547, ks13548, kn13549, tf13550, ksp13551, gtsp3552) rfl rfl (by decide) (⟨Or.inl (rfl), by dsimp only; omega⟩) (by decide +kernel) dX10_takesOne_103
          · refine lv_aload_n hx hb dX10_takesOne_97 rfl (lv_at hl 2 rfl) ?_
            refine lv_iconst (v := (-1)) hx hb dX10_takesOne_98 (by decide) ?_
            refine vV (wr := [(tby, .inl (G.2.1, 240, .inl fby))]) hC hK hl hP hD hS hA (t_addStep l G h0 (-1) tby kt tln tsp kd13547 ks13548 kn13549 tf13550 tspc ksp13551 gtsp3552 (by omega)) si_X10_152 [0, 2, 3] [1] rfl rfl (by decide) rfl (by decide) (by decide) rfl rfl rfl rfl rfl (Nat.le_of_ble_eq_true rfl) ⟨Nat.le_of_ble_eq_true rfl, Nat.le_of_ble_eq_true rfl⟩ ⟨Nat.le_of_ble_eq_true rfl, Nat.le_of_ble_eq_true rfl⟩ dX10_takesOne_99 (fun u3557 H locs hr3556 hP hD hS => ?_)
            obtain ⟨ksp13558, gtsp3559⟩ := u3557
            try dsimp only at hr3556
            have hP : va_P G.1 vwCl [(tby, .inl (G.2.1, 240, .inl fby)), (h0, .inr (10, [.ref tby, .int (nI kt), .ref tln, .ref tsp, .int kd13547, .int (nI ks13548), .int (nI kn13549), .int tf13550])), (tsp, .inr (8, [.int 120, .int 1, .ref tspc, .int (nI ksp13558)])), (tspc, .inl (G.2.1, 120, .inl gtsp3559))] H := hP
            have hD : va_D A [(tby, .inl (G.2.1, 240, .inl fby)), (h0, .inr (10, [.ref tby, .int (nI kt), .ref tln, .ref tsp, .int kd13547, .int (nI ks13548), .int (nI kn13549), .int tf13550])), (tsp, .inr (8, [.int 120, .int 1, .ref tspc, .int (nI ksp13558)])), (tspc, .inl (G.2.1, 120, .inl gtsp3559))] := hD
            have w3560 := hr3556
            refine lv_iconst (v := 1) hx hb dX10_takesOne_102 (by decide) ?_
            exact RI (v := 1) hC hP hD hS [1, 0, 2, 3] (kd13547, ks13548, kn13549, tf13550, ksp13558, gtsp3559) rfl rfl (by decide) (⟨Or.inl (rfl), by dsimp only; omega⟩) (by decide +kernel) dX10_takesOne_103
        · refine lv_if_ne (tgt := 93) hx hb dX10_takesOne_53 (by decide) (fun c9 => absurd (by decide) c9) (fun _ => ?_)
          refine lv_iconst (v := 0) hx hb dX10_takesOne_56 (by decide) ?_
          exact RI (v := 0) hC hP hD hS [0, 1, 2, 3] (kd13547, ks13548, kn13549, tf13550, ksp13551, gtsp3552) rfl rfl (by decide) (⟨Or.inr (rfl), by dsimp only; omega⟩) (by decide +kernel) dX10_takesOne_57
    | succ nP ihP =>
      intro kP tu vkd vtf vks vkn H locs ls hkP hvks hvkn hP hD hS hl
      refine lv_iload_n hx hb dX10_takesOne_4 rfl (lv_at hl 0 rfl) ?_
      refine lv_sipush (v := 240) hx hb dX10_takesOne_5 (by decide) ?_
      refine lv_icmp_ge (tgt := 40) hx hb dX10_takesOne_8 (by decide) (fun c9 => absurd c9 (nI_ge (a := kP) (b := 240) (by omega) (by omega))) (fun _ => ?_)
      refine lv_aload_n hx hb dX10_takesOne_11 rfl (lv_at hl 2 rfl) ?_
      refine va_ldcS (index := 160) (tx := "not") hx hb hown (hO.2.1 10 (by decide)) dX10_takesOne_12 ?_
      refine pVo hO hS hC hK hl hP hD (t_isName l G K 10 h0 tby kt tln tsp vkd vks vkn vtf fby (by omega) (by omega) (by omega) ((by decide))) si_X10_102 [0, 1] rfl rfl (by decide) rfl rfl rfl rfl rfl (Nat.le_of_ble_eq_true rfl) ⟨Nat.le_of_ble_eq_true rfl, Nat.le_of_ble_eq_true rfl⟩ ⟨by first | exact Nat.le_of_ble_eq_true rfl | exact Nat.zero_le _, by first | exact Nat.le_of_ble_eq_true rfl | exact Nat.zero_le _⟩ dX10_takesOne_14 (fun r3561 hr3561 => ?_)
      rcases hr3561 with rfl | rfl
      · refine lv_if_eq (tgt := 40) hx hb dX10_takesOne_17 (by decide) (fun c9 => absurd c9 (by decide)) (fun _ => ?_)
        refine lv_aload_n hx hb dX10_takesOne_20 rfl (lv_at hl 2 rfl) ?_
        refine vV (wr := [(tsp, .inr (8, [.int 120, .int 1, .ref tspc, .int (nI ksp)])), (tspc, .inl (G.2.1, 120, .inl ftsp))]) hC hK hl hP hD hS hA (t_advance l G h0 tby kt tln tsp vkd vks vkn vtf fby (by omega) (by omega) (by omega)) si_X10_47 [0, 1] [2, 3] rfl rfl (by decide) rfl (by decide) (by decide) rfl rfl rfl rfl rfl (Nat.le_of_ble_eq_true rfl) ⟨Nat.le_of_ble_eq_true rfl, Nat.le_of_ble_eq_true rfl⟩ ⟨Nat.le_of_ble_eq_true rfl, Nat.le_of_ble_eq_true rfl⟩ dX10_takesOne_21 (fun u3564 H locs hr3563 hP hD hS => ?_)
        obtain ⟨kd13565, ks13566, kn13567⟩ := u3564
        try dsimp only at hr3563
        have hP : va_P G.1 vwCl [(tsp, .inr (8, [.int 120, .int 1, .ref tspc, .int (nI ksp)])), (tspc, .inl (G.2.1, 120, .inl ftsp)), (h0, .inr (10, [.ref tby, .int (nI kt), .ref tln, .ref tsp, .int kd13565, .int (nI ks13566), .int (nI kn13567), .int vtf])), (tby, .inl (G.2.1, 240, .inl fby))] H := hP
        have hD : va_D A [(tsp, .inr (8, [.int 120, .int 1, .ref tspc, .int (nI ksp)])), (tspc, .inl (G.2.1, 120, .inl ftsp)), (h0, .inr (10, [.ref tby, .int (nI kt), .ref tln, .ref tsp, .int kd13565, .int (nI ks13566), .int (nI kn13567), .int vtf])), (tby, .inl (G.2.1, 240, .inl fby))] := hD
        have w3568 := hr3563
        refine lv_iload_n hx hb dX10_takesOne_24 rfl (lv_at hl 1 rfl) ?_
        refine lv_if_ne (tgt := 32) hx hb dX10_takesOne_25 (by decide) (fun c_25_3569 => ?_) (fun c_25_3569 => ?_)
        · refine lv_iconst (v := 0) hx hb dX10_takesOne_32 (by decide) ?_
          refine lv_istore_n (lv' := [(2, .int 0), (3, .int (nI kP)), (0, .ref h0), (1, .int 0)]) hx hb dX10_takesOne_33 rfl hl (by decide) rfl (fun ls hl => ?_)
          refine lv_iinc (v := nI (kP + 1)) (lv' := [(3, .int (nI (kP + 1))), (2, .int 0), (0, .ref h0), (1, .int 0)]) hx hb dX10_takesOne_34 hl (k := 1) rfl (nI_1 _) (by decide) rfl (fun ls hl => ?_)
          refine lv_goto (tgt := 4) hx hb dX10_takesOne_37 (by decide) ?_
          have hP := hP.sub (ws' := [(h0, .inr (10, [.ref tby, .int (nI kt), .ref tln, .ref tsp, .int kd13565, .int (nI ks13566), .int (nI kn13567), .int vtf])), (tby, .inl (G.2.1, 240, .inl fby)), (tsp, .inr (8, [.int 120, .int 1, .ref tspc, .int (nI ksp)])), (tspc, .inl (G.2.1, 120, .inl ftsp))]) [2, 3, 0, 1] rfl
          have hD := hD.sub (ws' := [(h0, .inr (10, [.ref tby, .int (nI kt), .ref tln, .ref tsp, .int kd13565, .int (nI ks13566), .int (nI kn13567), .int vtf])), (tby, .inl (G.2.1, 240, .inl fby)), (tsp, .inr (8, [.int 120, .int 1, .ref tspc, .int (nI ksp)])), (tspc, .inl (G.2.1, 120, .inl ftsp))]) [2, 3, 0, 1] (by decide) rfl
          exact ihP (kP + 1) 0 kd13565 vtf ks13566 kn13567 _ _ _ (by omega) (by first | assumption | exact Or.inl rfl | exact Or.inr rfl | omega) (by first | assumption | exact Or.inl rfl | exact Or.inr rfl | omega) hP hD hS (lv_sub hl [0, 1, 2, 3] rfl)
        · refine lv_iconst (v := 1) hx hb dX10_takesOne_28 (by decide) ?_
          refine lv_goto (tgt := 33) hx hb dX10_takesOne_29 (by decide) ?_
          refine lv_istore_n (lv' := [(2, .int 1), (3, .int (nI kP)), (0, .ref h0), (1, .int 0)]) hx hb dX10_takesOne_33 rfl hl (by decide) rfl (fun ls hl => ?_)
          refine lv_iinc (v := nI (kP + 1)) (lv' := [(3, .int (nI (kP + 1))), (2, .int 1), (0, .ref h0), (1, .int 0)]) hx hb dX10_takesOne_34 hl (k := 1) rfl (nI_1 _) (by decide) rfl (fun ls hl => ?_)
          refine lv_goto (tgt := 4) hx hb dX10_takesOne_37 (by decide) ?_
          have hP := hP.sub (ws' := [(h0, .inr (10, [.ref tby, .int (nI kt), .ref tln, .ref tsp, .int kd13565, .int (nI ks13566), .int (nI kn13567), .int vtf])), (tby, .inl (G.2.1, 240, .inl fby)), (tsp, .inr (8, [.int 120, .int 1, .ref tspc, .int (nI ksp)])), (tspc, .inl (G.2.1, 120, .inl ftsp))]) [2, 3, 0, 1] rfl
          have hD := hD.sub (ws' := [(h0, .inr (10, [.ref tby, .int (nI kt), .ref tln, .ref tsp, .int kd13565, .int (nI ks13566), .int (nI kn13567), .int vtf])), (tby, .inl (G.2.1, 240, .inl fby)), (tsp, .inr (8, [.int 120, .int 1, .ref tspc, .int (nI ksp)])), (tspc, .inl (G.2.1, 120, .inl ftsp))]) [2, 3, 0, 1] (by decide) rfl
          exact ihP (kP + 1) 1 kd13565 vtf ks13566 kn13567 _ _ _ (by omega) (by first | assumption | exact Or.inl rfl | exact Or.inr rfl | omega) (by first | assumption | exact Or.inl rfl | exact Or.inr rfl | omega) hP hD hS (lv_sub hl [0, 1, 2, 3] rfl)
      · refine lv_if_eq (tgt := 40) hx hb dX10_takesOne_17 (by decide) (fun _ => ?_) (fun c9 => absurd (by decide) c9)
        refine lv_aload_n hx hb dX10_takesOne_40 rfl (lv_at hl 2 rfl) ?_
        refine gf_X10_31 hC rfl hK hP 0 rfl rfl dX10_takesOne_41 ?_
        refine lv_bipush (v := 40) hx hb dX10_takesOne_44 (by decide) ?_
        refine lv_icmp_eq (tgt := 58) hx hb dX10_takesOne_46 (by decide) (fun c_46_3570 => ?_) (fun c_46_3570 => ?_)
        · refine lv_iload_n hx hb dX10_takesOne_58 rfl (lv_at hl 3 rfl) ?_
          refine lv_iconst (v := 4) hx hb dX10_takesOne_59 (by decide) ?_
          refine lv_icmp_lt (tgt := 68) hx hb dX10_takesOne_60 (by decide) (fun _ => ?_) (fun c9 => absurd (by decide) c9)
          refine lv_aload_n hx hb dX10_takesOne_68 rfl (lv_at hl 2 rfl) ?_
          refine vV (wr := [(tsp, .inr (8, [.int 120, .int 1, .ref tspc, .int (nI ksp)])), (tspc, .inl (G.2.1, 120, .inl ftsp))]) hC hK hl hP hD hS hA (t_advance l G h0 tby kt tln tsp vkd vks vkn vtf fby (by omega) (by omega) (by omega)) si_X10_47 [0, 1] [2, 3] rfl rfl (by decide) rfl (by decide) (by decide) rfl rfl rfl rfl rfl (Nat.le_of_ble_eq_true rfl) ⟨Nat.le_of_ble_eq_true rfl, Nat.le_of_ble_eq_true rfl⟩ ⟨Nat.le_of_ble_eq_true rfl, Nat.le_of_ble_eq_true rfl⟩ dX10_takesOne_69 (fun u3572 H locs hr3571 hP hD hS => ?_)
          obtain ⟨kd13573, ks13574, kn13575⟩ := u3572
          try dsimp only at hr3571
          have hP : va_P G.1 vwCl [(tsp, .inr (8, [.int 120, .int 1, .ref tspc, .int (nI ksp)])), (tspc, .inl (G.2.1, 120, .inl ftsp)), (h0, .inr (10, [.ref tby, .int (nI kt), .ref tln, .ref tsp, .int kd13573, .int (nI ks13574), .int (nI kn13575), .int vtf])), (tby, .inl (G.2.1, 240, .inl fby))] H := hP
          have hD : va_D A [(tsp, .inr (8, [.int 120, .int 1, .ref tspc, .int (nI ksp)])), (tspc, .inl (G.2.1, 120, .inl ftsp)), (h0, .inr (10, [.ref tby, .int (nI kt), .ref tln, .ref tsp, .int kd13573, .int (nI ks13574), .int (nI kn13575), .int vtf])), (tby, .inl (G.2.1, 240, .inl fby))] := hD
          have w3576 := hr3571
          refine lv_aload_n hx hb dX10_takesOne_72 rfl (lv_at hl 2 rfl) ?_
          refine lv_iload_n hx hb dX10_takesOne_73 rfl (lv_at hl 3 rfl) ?_
          refine lv_iconst (v := 1) hx hb dX10_takesOne_74 (by decide) ?_
          refine lv_iadd hx hb dX10_takesOne_75 ?_
          refine eqi (x1 := 1) (by decide) ?_
          refine iVo (wr := []) hO hC hK hl hP hD hS hA (t_cond1 l G K h0 tby kt tln tsp kd13573 ks13574 kn13575 vtf fby tspc ksp ftsp (by omega) (by omega) (by omega) (by omega)) si_X10_121 [2, 3, 0, 1] [] rfl rfl (by decide) rfl (by decide) (by decide) rfl rfl rfl rfl rfl (Nat.le_of_ble_eq_true rfl) ⟨Nat.le_of_ble_eq_true rfl, Nat.le_of_ble_eq_true rfl⟩ ⟨Nat.le_of_ble_eq_true rfl, Nat.le_of_ble_eq_true rfl⟩ dX10_takesOne_76 (fun r3577 u3578 H locs hr3577 hP hD hS => ?_)
          obtain ⟨kd13579, ks13580, kn13581, tf13582, ksp13583, gtsp3584⟩ := u3578
          try dsimp only at hr3577
          have hP : va_P G.1 vwCl [(h0, .inr (10, [.ref tby, .int (nI kt), .ref tln, .ref tsp, .int kd13579, .int (nI ks13580), .int (nI kn13581), .int tf13582])), (tby, .inl (G.2.1, 240, .inl fby)), (tsp, .inr (8, [.int 120, .int 1, .ref tspc, .int (nI ksp13583)])), (tspc, .inl (G.2.1, 120, .inl gtsp3584))] H := hP
          have hD : va_D A [(h0, .inr (10, [.ref tby, .int (nI kt), .ref tln, .ref tsp, .int kd13579, .int (nI ks13580), .int (nI kn13581), .int tf13582])), (tby, .inl (G.2.1, 240, .inl fby)), (tsp, .inr (8, [.int 120, .int 1, .ref tspc, .int (nI ksp13583)])), (tspc, .inl (G.2.1, 120, .inl gtsp3584))] := hD
          obtain ⟨hr3577, w3585⟩ := hr3577
          rcases hr3577 with rfl | rfl
          · refine lv_if_eq (tgt := 91) hx hb dX10_takesOne_79 (by decide) (fun c9 => absurd c9 (by decide)) (fun _ => ?_)
            refine lv_aload_n hx hb dX10_takesOne_82 rfl (lv_at hl 2 rfl) ?_
            refine lv_bipush (v := 41) hx hb dX10_takesOne_83 (by decide) ?_
            refine iV (wr := [(tsp, .inr (8, [.int 120, .int 1, .ref tspc, .int (nI ksp13583)])), (tspc, .inl (G.2.1, 120, .inl gtsp3584))]) hC hK hl hP hD hS hA (t_takesByte l G h0 41 tby kt tln tsp kd13579 ks13580 kn13581 tf13582 fby (by omega) (by omega) (by omega)) si_X10_124 [0, 1] [2, 3] rfl rfl (by decide) rfl (by decide) (by decide) rfl rfl rfl rfl rfl (Nat.le_of_ble_eq_true rfl) ⟨Nat.le_of_ble_eq_true rfl, Nat.le_of_ble_eq_true rfl⟩ ⟨Nat.le_of_ble_eq_true rfl, Nat.le_of_ble_eq_true rfl⟩ dX10_takesOne_85 (fun r3587 u3588 H locs hr3587 hP hD hS => ?_)
            obtain ⟨kd13589, ks13590, kn13591, tf13592⟩ := u3588
            try dsimp only at hr3587
            have hP : va_P G.1 vwCl [(tsp, .inr (8, [.int 120, .int 1, .ref tspc, .int (nI ksp13583)])), (tspc, .inl (G.2.1, 120, .inl gtsp3584)), (h0, .inr (10, [.ref tby, .int (nI kt), .ref tln, .ref tsp, .int kd13589, .int (nI ks13590), .int (nI kn13591), .int tf13592])), (tby, .inl (G.2.1, 240, .inl fby))] H := hP
            have hD : va_D A [(tsp, .inr (8, [.int 120, .int 1, .ref tspc, .int (nI ksp13583)])), (tspc, .inl (G.2.1, 120, .inl gtsp3584)), (h0, .inr (10, [.ref tby, .int (nI kt), .ref tln, .ref tsp, .int kd13589, .int (nI ks13590), .int (nI kn13591), .int tf13592])), (tby, .inl (G.2.1, 240, .inl fby))] := hD
            obtain ⟨hr3587, w3593⟩ := hr3587
            rcases hr3587 with rfl | rfl
            · refine lv_if_ne (tgt := 93) hx hb dX10_takesOne_88 (by decide) (fun _ => ?_) (fun c9 => absurd c9 (by decide))
              refine lv_iload_n hx hb dX10_takesOne_93 rfl (lv_at hl 1 rfl) ?_
              refine lv_if_eq (tgt := 102) hx hb dX10_takesOne_94 (by decide) (fun c_94_3595 => ?_) (fun c_94_3595 => ?_)
              · refine lv_iconst (v := 1) hx hb dX10_takesOne_102 (by decide) ?_
                exact RI (v := 1) hC hP hD hS [2, 3, 0, 1] (kd13589, ks13590, kn13591, tf13592, ksp13583, gtsp3584) rfl rfl (by decide) (⟨Or.inl (rfl), by dsimp only; omega⟩) (by decide +kernel) dX10_takesOne_103
              · refine lv_aload_n hx hb dX10_takesOne_97 rfl (lv_at hl 2 rfl) ?_
                refine lv_iconst (v := (-1)) hx hb dX10_takesOne_98 (by decide) ?_
                refine vV (wr := [(tby, .inl (G.2.1, 240, .inl fby))]) hC hK hl hP hD hS hA (t_addStep l G h0 (-1) tby kt tln tsp kd13589 ks13590 kn13591 tf13592 tspc ksp13583 gtsp3584 (by omega)) si_X10_152 [2, 0, 1] [3] rfl rfl (by decide) rfl (by decide) (by decide) rfl rfl rfl rfl rfl (Nat.le_of_ble_eq_true rfl) ⟨Nat.le_of_ble_eq_true rfl, Nat.le_of_ble_eq_true rfl⟩ ⟨Nat.le_of_ble_eq_true rfl, Nat.le_of_ble_eq_true rfl⟩ dX10_takesOne_99 (fun u3597 H locs hr3596 hP hD hS => ?_)
                obtain ⟨ksp13598, gtsp3599⟩ := u3597
                try dsimp only at hr3596
                have hP : va_P G.1 vwCl [(tby, .inl (G.2.1, 240, .inl fby)), (h0, .inr (10, [.ref tby, .int (nI kt), .ref tln, .ref tsp, .int kd13589, .int (nI ks13590), .int (nI kn13591), .int tf13592])), (tsp, .inr (8, [.int 120, .int 1, .ref tspc, .int (nI ksp13598)])), (tspc, .inl (G.2.1, 120, .inl gtsp3599))] H := hP
                have hD : va_D A [(tby, .inl (G.2.1, 240, .inl fby)), (h0, .inr (10, [.ref tby, .int (nI kt), .ref tln, .ref tsp, .int kd13589, .int (nI ks13590), .int (nI kn13591), .int tf13592])), (tsp, .inr (8, [.int 120, .int 1, .ref tspc, .int (nI ksp13598)])), (tspc, .inl (G.2.1, 120, .inl gtsp3599))] := hD
                have w3600 := hr3596
                refine lv_iconst (v := 1) hx hb dX10_takesOne_102 (by decide) ?_
                exact RI (v := 1) hC hP hD hS [1, 0, 2, 3] (kd13589, ks13590, kn13591, tf13592, ksp13598, gtsp3599) rfl rfl (by decide) (⟨Or.inl (rfl), by dsimp only; omega⟩) (by decide +kernel) dX10_takesOne_103
            · refine lv_if_ne (tgt := 93) hx hb dX10_takesOne_88 (by decide) (fun c9 => absurd (by decide) c9) (fun _ => ?_)
              refine lv_iconst (v := 0) hx hb dX10_takesOne_91 (by decide) ?_
              exact RI (v := 0) hC hP hD hS [2, 3, 0, 1] (kd13589, ks13590, kn13591, tf13592, ksp13583, gtsp3584) rfl rfl (by decide) (⟨Or.inr (rfl), by dsimp only; omega⟩) (by decide +kernel) dX10_takesOne_92
          · refine lv_if_eq (tgt := 91) hx hb dX10_takesOne_79 (by decide) (fun _ => ?_) (fun c9 => absurd (by decide) c9)
            refine lv_iconst (v := 0) hx hb dX10_takesOne_91 (by decide) ?_
            exact RI (v := 0) hC hP hD hS [0, 1, 2, 3] (kd13579, ks13580, kn13581, tf13582, ksp13583, gtsp3584) rfl rfl (by decide) (⟨Or.inr (rfl), by dsimp only; omega⟩) (by decide +kernel) dX10_takesOne_92
        · refine lv_aload_n hx hb dX10_takesOne_49 rfl (lv_at hl 2 rfl) ?_
          refine iVo (wr := []) hO hC hK hl hP hD hS hA (t_takesComparison l G K h0 tby kt tln tsp vkd vks vkn vtf fby tspc ksp ftsp (by omega) (by omega) (by omega) (by omega)) si_X10_162 [0, 1, 2, 3] [] rfl rfl (by decide) rfl (by decide) (by decide) rfl rfl rfl rfl rfl (Nat.le_of_ble_eq_true rfl) ⟨Nat.le_of_ble_eq_true rfl, Nat.le_of_ble_eq_true rfl⟩ ⟨Nat.le_of_ble_eq_true rfl, Nat.le_of_ble_eq_true rfl⟩ dX10_takesOne_50 (fun r3601 u3602 H locs hr3601 hP hD hS => ?_)
          obtain ⟨kd13603, ks13604, kn13605, tf13606, ksp13607, gtsp3608⟩ := u3602
          try dsimp only at hr3601
          have hP : va_P G.1 vwCl [(h0, .inr (10, [.ref tby, .int (nI kt), .ref tln, .ref tsp, .int kd13603, .int (nI ks13604), .int (nI kn13605), .int tf13606])), (tby, .inl (G.2.1, 240, .inl fby)), (tsp, .inr (8, [.int 120, .int 1, .ref tspc, .int (nI ksp13607)])), (tspc, .inl (G.2.1, 120, .inl gtsp3608))] H := hP
          have hD : va_D A [(h0, .inr (10, [.ref tby, .int (nI kt), .ref tln, .ref tsp, .int kd13603, .int (nI ks13604), .int (nI kn13605), .int tf13606])), (tby, .inl (G.2.1, 240, .inl fby)), (tsp, .inr (8, [.int 120, .int 1, .ref tspc, .int (nI ksp13607)])), (tspc, .inl (G.2.1, 120, .inl gtsp3608))] := hD
          obtain ⟨hr3601, w3609⟩ := hr3601
          rcases hr3601 with rfl | rfl
          · refine lv_if_ne (tgt := 93) hx hb dX10_takesOne_53 (by decide) (fun _ => ?_) (fun c9 => absurd c9 (by decide))
            refine lv_iload_n hx hb dX10_takesOne_93 rfl (lv_at hl 1 rfl) ?_
            refine lv_if_eq (tgt := 102) hx hb dX10_takesOne_94 (by decide) (fun c_94_3611 => ?_) (fun c_94_3611 => ?_)
            · refine lv_iconst (v := 1) hx hb dX10_takesOne_102 (by decide) ?_
              exact RI (v := 1) hC hP hD hS [0, 1, 2, 3] (kd13603, ks13604, kn13605, tf13606, ksp13607, gtsp3608) rfl rfl (by decide) (⟨Or.inl (rfl), by dsimp only; omega⟩) (by decide +kernel) dX10_takesOne_103
            · refine lv_aload_n hx hb dX10_takesOne_97 rfl (lv_at hl 2 rfl) ?_
              refine lv_iconst (v := (-1)) hx hb dX10_takesOne_98 (by decide) ?_
              refine vV (wr := [(tby, .inl (G.2.1, 240, .inl fby))]) hC hK hl hP hD hS hA (t_addStep l G h0 (-1) tby kt tln tsp kd13603 ks13604 kn13605 tf13606 tspc ksp13607 gtsp3608 (by omega)) si_X10_152 [0, 2, 3] [1] rfl rfl (by decide) rfl (by decide) (by decide) rfl rfl rfl rfl rfl (Nat.le_of_ble_eq_true rfl) ⟨Nat.le_of_ble_eq_true rfl, Nat.le_of_ble_eq_true rfl⟩ ⟨Nat.le_of_ble_eq_true rfl, Nat.le_of_ble_eq_true rfl⟩ dX10_takesOne_99 (fun u3613 H locs hr3612 hP hD hS => ?_)
              obtain ⟨ksp13614, gtsp3615⟩ := u3613
              try dsimp only at hr3612
              have hP : va_P G.1 vwCl [(tby, .inl (G.2.1, 240, .inl fby)), (h0, .inr (10, [.ref tby, .int (nI kt), .ref tln, .ref tsp, .int kd13603, .int (nI ks13604), .int (nI kn13605), .int tf13606])), (tsp, .inr (8, [.int 120, .int 1, .ref tspc, .int (nI ksp13614)])), (tspc, .inl (G.2.1, 120, .inl gtsp3615))] H := hP
              have hD : va_D A [(tby, .inl (G.2.1, 240, .inl fby)), (h0, .inr (10, [.ref tby, .int (nI kt), .ref tln, .ref tsp, .int kd13603, .int (nI ks13604), .int (nI kn13605), .int tf13606])), (tsp, .inr (8, [.int 120, .int 1, .ref tspc, .int (nI ksp13614)])), (tspc, .inl (G.2.1, 120, .inl gtsp3615))] := hD
              have w3616 := hr3612
              refine lv_iconst (v := 1) hx hb dX10_takesOne_102 (by decide) ?_
              exact RI (v := 1) hC hP hD hS [1, 0, 2, 3] (kd13603, ks13604, kn13605, tf13606, ksp13614, gtsp3615) rfl rfl (by decide) (⟨Or.inl (rfl), by dsimp only; omega⟩) (by decide +kernel) dX10_takesOne_103
          · refine lv_if_ne (tgt := 93) hx hb dX10_takesOne_53 (by decide) (fun c9 => absurd (by decide) c9) (fun _ => ?_)
            refine lv_iconst (v := 0) hx hb dX10_takesOne_56 (by decide) ?_
            exact RI (v := 0) hC hP hD hS [0, 1, 2, 3] (kd13603, ks13604, kn13605, tf13606, ksp13607, gtsp3608) rfl rfl (by decide) (⟨Or.inr (rfl), by dsimp only; omega⟩) (by decide +kernel) dX10_takesOne_57
  exact keyP 240 0 0 tkd tf9 ks kn _ _ _ (by omega) (by first | assumption | exact Or.inl rfl | exact Or.inr rfl | omega) (by first | assumption | exact Or.inl rfl | exact Or.inr rfl | omega) hP hD hS (lv_sub hl [0, 1, 2, 3] rfl)
set_option maxHeartbeats 4000000 in
set_option maxRecDepth 100000 in
theorem t_all0 (l : Launch) (G : GG) (K : OO) (h0 : Nat) (tby : Nat) (kt : Nat) (tln : Nat) (tsp : Nat) (tkd : Int32) (ks : Nat) (kn : Nat) (tf9 : Int32) (fby : Nat → Int32) (tspc : Nat) (ksp : Nat) (ftsp : Nat → Int32) (hkt : kt ≤ 240) (hks : ks ≤ 240) (hkn : kn ≤ 240) (hksp : ksp ≤ 120) : MIo l G K yX10_takesAll cX10_takesAll 3 (some .boolean) 26 0 0 [.ref h0, .int 0] [(h0, .inr (10, [.ref tby, .int (nI kt), .ref tln, .ref tsp, .int tkd, .int (nI ks), .int (nI kn), .int tf9])), (tby, .inl (G.2.1, 240, .inl fby)), (tsp, .inr (8, [.int 120, .int 1, .ref tspc, .int (nI ksp)])), (tspc, .inl (G.2.1, 120, .inl ftsp))] (fun (r : Int32) (u : Int32 × Nat × Nat × Int32 × Nat × (Nat → Int32)) => (r = 1 ∨ r = 0) ∧ (u.2.1 ≤ 240 ∧ u.2.2.1 ≤ 240 ∧ u.2.2.2.2.1 ≤ 120)) (fun u : Int32 × Nat × Nat × Int32 × Nat × (Nat → Int32) => [(h0, .inr (10, [.ref tby, .int (nI kt), .ref tln, .ref tsp, .int u.1, .int (nI u.2.1), .int (nI u.2.2.1), .int u.2.2.2.1])), (tby, .inl (G.2.1, 240, .inl fby)), (tsp, .inr (8, [.int 120, .int 1, .ref tspc, .int (nI u.2.2.2.2.1)])), (tspc, .inl (G.2.1, 120, .inl u.2.2.2.2.2))]) := by
  refine MIo.start (by decide +kernel) (Nat.le_of_ble_eq_true rfl) ?_
  intro p e s m below meth c A ls hC hK hP hD hS hA hl hO
  have hl : lv_has ls 3 [(0, .ref h0), (1, .int 0)] := hl
  obtain ⟨hx, hb, hr, hml, hB, hown, hlocks, hnm⟩ := id hC
  refine lv_aload_n hx hb dX10_takesAll_0 rfl (lv_at hl 0 rfl) ?_
  refine lv_iload_n hx hb dX10_takesAll_1 rfl (lv_at hl 1 rfl) ?_
  refine iVo (wr := []) hO hC hK hl hP hD hS hA (t_one0 l G K h0 tby kt tln tsp tkd ks kn tf9 fby tspc ksp ftsp (by omega) (by omega) (by omega) (by omega)) si_X10_155 [0, 1, 2, 3] [] rfl rfl (by decide) rfl (by decide) (by decide) rfl rfl rfl rfl rfl (Nat.le_of_ble_eq_true rfl) ⟨Nat.le_of_ble_eq_true rfl, Nat.le_of_ble_eq_true rfl⟩ ⟨Nat.le_of_ble_eq_true rfl, Nat.le_of_ble_eq_true rfl⟩ dX10_takesAll_2 (fun r3617 u3618 H locs hr3617 hP hD hS => ?_)
  obtain ⟨kd13619, ks13620, kn13621, tf13622, ksp13623, gtsp3624⟩ := u3618
  try dsimp only at hr3617
  have hP : va_P G.1 vwCl [(h0, .inr (10, [.ref tby, .int (nI kt), .ref tln, .ref tsp, .int kd13619, .int (nI ks13620), .int (nI kn13621), .int tf13622])), (tby, .inl (G.2.1, 240, .inl fby)), (tsp, .inr (8, [.int 120, .int 1, .ref tspc, .int (nI ksp13623)])), (tspc, .inl (G.2.1, 120, .inl gtsp3624))] H := hP
  have hD : va_D A [(h0, .inr (10, [.ref tby, .int (nI kt), .ref tln, .ref tsp, .int kd13619, .int (nI ks13620), .int (nI kn13621), .int tf13622])), (tby, .inl (G.2.1, 240, .inl fby)), (tsp, .inr (8, [.int 120, .int 1, .ref tspc, .int (nI ksp13623)])), (tspc, .inl (G.2.1, 120, .inl gtsp3624))] := hD
  obtain ⟨hr3617, w3625⟩ := hr3617
  rcases hr3617 with rfl | rfl
  · refine lv_if_ne (tgt := 10) hx hb dX10_takesAll_5 (by decide) (fun _ => ?_) (fun c9 => absurd c9 (by decide))
    refine lv_iconst (v := 0) hx hb dX10_takesAll_10 (by decide) ?_
    refine lv_istore_n (lv' := [(2, .int 0), (0, .ref h0), (1, .int 0)]) hx hb dX10_takesAll_11 rfl hl (by decide) rfl (fun ls hl => ?_)
    have keyP : ∀ (nP kP : Nat) (vkd : Int32) (vtf : Int32) (vtsp : Nat → Int32) (vks : Nat) (vkn : Nat) (vksp : Nat) (H : Heap) (locs : List Loc) (ls : Array Slot), kP + nP = 240 → (vks ≤ 240) → (vkn ≤ 240) → (vksp ≤ 120) → va_P G.1 vwCl [(h0, .inr (10, [.ref tby, .int (nI kt), .ref tln, .ref tsp, .int vkd, .int (nI vks), .int (nI vkn), .int vtf])), (tby, .inl (G.2.1, 240, .inl fby)), (tsp, .inr (8, [.int 120, .int 1, .ref tspc, .int (nI vksp)])), (tspc, .inl (G.2.1, 120, .inl vtsp))] H → va_D A [(h0, .inr (10, [.ref tby, .int (nI kt), .ref tln, .ref tsp, .int vkd, .int (nI vks), .int (nI vkn), .int vtf])), (tby, .inl (G.2.1, 240, .inl fby)), (tsp, .inr (8, [.int 120, .int 1, .ref tspc, .int (nI vksp)])), (tspc, .inl (G.2.1, 120, .inl vtsp))] → va_S A s.heap H locs → lv_has ls 3 [(2, .int (nI kP)), (0, .ref h0), (1, .int 0)] → W p l e (RM 26 0 0) s m ([.ref h0, .int 0] : List Value).toArray below meth c H locs 0 0 (MQ below (QI G (fun (r : Int32) (u : Int32 × Nat × Nat × Int32 × Nat × (Nat → Int32)) => (r = 1 ∨ r = 0) ∧ (u.2.1 ≤ 240 ∧ u.2.2.1 ≤ 240 ∧ u.2.2.2.2.1 ≤ 120)) (fun u : Int32 × Nat × Nat × Int32 × Nat × (Nat → Int32) => [(h0, .inr (10, [.ref tby, .int (nI kt), .ref tln, .ref tsp, .int u.1, .int (nI u.2.1), .int (nI u.2.2.1), .int u.2.2.2.1])), (tby, .inl (G.2.1, 240, .inl fby)), (tsp, .inr (8, [.int 120, .int 1, .ref tspc, .int (nI u.2.2.2.2.1)])), (tspc, .inl (G.2.1, 120, .inl u.2.2.2.2.2))]) A) ([.ref h0, .int 0] : List Value).toArray s 0 0 A) (F0 m 12 ls []) := by
      intro nP
      induction nP with
      | zero =>
        intro kP vkd vtf vtsp vks vkn vksp H locs ls hkP hvks hvkn hvksp hP hD hS hl
        obtain rfl : 240 = kP := by omega
        have hl : lv_has ls 3 [(2, .int 240), (0, .ref h0), (1, .int 0)] := hl
        refine lv_iload_n hx hb dX10_takesAll_12 rfl (lv_at hl 0 rfl) ?_
        refine lv_sipush (v := 240) hx hb dX10_takesAll_13 (by decide) ?_
        refine lv_icmp_ge (tgt := 54) hx hb dX10_takesAll_16 (by decide) (fun _ => ?_) (fun c9 => absurd (by decide) c9)
        refine lv_iconst (v := 1) hx hb dX10_takesAll_54 (by decide) ?_
        exact RI (v := 1) hC hP hD hS [0, 1, 2, 3] (vkd, vks, vkn, vtf, vksp, vtsp) rfl rfl (by decide) (⟨Or.inl (rfl), by dsimp only; omega⟩) (by decide +kernel) dX10_takesAll_55
      | succ nP ihP =>
        intro kP vkd vtf vtsp vks vkn vksp H locs ls hkP hvks hvkn hvksp hP hD hS hl
        refine lv_iload_n hx hb dX10_takesAll_12 rfl (lv_at hl 0 rfl) ?_
        refine lv_sipush (v := 240) hx hb dX10_takesAll_13 (by decide) ?_
        refine lv_icmp_ge (tgt := 54) hx hb dX10_takesAll_16 (by decide) (fun c9 => absurd c9 (nI_ge (a := kP) (b := 240) (by omega) (by omega))) (fun _ => ?_)
        refine lv_aload_n hx hb dX10_takesAll_19 rfl (lv_at hl 1 rfl) ?_
        refine va_ldcS (index := 158) (tx := "and") hx hb hown (hO.2.1 9 (by decide)) dX10_takesAll_20 ?_
        refine pVo hO hS hC hK hl hP hD (t_isName l G K 9 h0 tby kt tln tsp vkd vks vkn vtf fby (by omega) (by omega) (by omega) ((by decide))) si_X10_102 [0, 1] rfl rfl (by decide) rfl rfl rfl rfl rfl (Nat.le_of_ble_eq_true rfl) ⟨Nat.le_of_ble_eq_true rfl, Nat.le_of_ble_eq_true rfl⟩ ⟨by first | exact Nat.le_of_ble_eq_true rfl | exact Nat.zero_le _, by first | exact Nat.le_of_ble_eq_true rfl | exact Nat.zero_le _⟩ dX10_takesAll_22 (fun r3627 hr3627 => ?_)
        rcases hr3627 with rfl | rfl
        · refine lv_if_eq (tgt := 54) hx hb dX10_takesAll_25 (by decide) (fun c9 => absurd c9 (by decide)) (fun _ => ?_)
          refine lv_aload_n hx hb dX10_takesAll_28 rfl (lv_at hl 1 rfl) ?_
          refine vV (wr := [(tsp, .inr (8, [.int 120, .int 1, .ref tspc, .int (nI vksp)])), (tspc, .inl (G.2.1, 120, .inl vtsp))]) hC hK hl hP hD hS hA (t_advance l G h0 tby kt tln tsp vkd vks vkn vtf fby (by omega) (by omega) (by omega)) si_X10_47 [0, 1] [2, 3] rfl rfl (by decide) rfl (by decide) (by decide) rfl rfl rfl rfl rfl (Nat.le_of_ble_eq_true rfl) ⟨Nat.le_of_ble_eq_true rfl, Nat.le_of_ble_eq_true rfl⟩ ⟨Nat.le_of_ble_eq_true rfl, Nat.le_of_ble_eq_true rfl⟩ dX10_takesAll_29 (fun u3630 H locs hr3629 hP hD hS => ?_)
          obtain ⟨kd13631, ks13632, kn13633⟩ := u3630
          try dsimp only at hr3629
          have hP : va_P G.1 vwCl [(tsp, .inr (8, [.int 120, .int 1, .ref tspc, .int (nI vksp)])), (tspc, .inl (G.2.1, 120, .inl vtsp)), (h0, .inr (10, [.ref tby, .int (nI kt), .ref tln, .ref tsp, .int kd13631, .int (nI ks13632), .int (nI kn13633), .int vtf])), (tby, .inl (G.2.1, 240, .inl fby))] H := hP
          have hD : va_D A [(tsp, .inr (8, [.int 120, .int 1, .ref tspc, .int (nI vksp)])), (tspc, .inl (G.2.1, 120, .inl vtsp)), (h0, .inr (10, [.ref tby, .int (nI kt), .ref tln, .ref tsp, .int kd13631, .int (nI ks13632), .int (nI kn13633), .int vtf])), (tby, .inl (G.2.1, 240, .inl fby))] := hD
          have w3634 := hr3629
          refine lv_aload_n hx hb dX10_takesAll_32 rfl (lv_at hl 1 rfl) ?_
          refine lv_iload_n hx hb dX10_takesAll_33 rfl (lv_at hl 2 rfl) ?_
          refine iVo (wr := []) hO hC hK hl hP hD hS hA (t_one0 l G K h0 tby kt tln tsp kd13631 ks13632 kn13633 vtf fby tspc vksp vtsp (by omega) (by omega) (by omega) (by omega)) si_X10_155 [2, 3, 0, 1] [] rfl rfl (by decide) rfl (by decide) (by decide) rfl rfl rfl rfl rfl (Nat.le_of_ble_eq_true rfl) ⟨Nat.le_of_ble_eq_true rfl, Nat.le_of_ble_eq_true rfl⟩ ⟨Nat.le_of_ble_eq_true rfl, Nat.le_of_ble_eq_true rfl⟩ dX10_takesAll_34 (fun r3635 u3636 H locs hr3635 hP hD hS => ?_)
          obtain ⟨kd13637, ks13638, kn13639, tf13640, ksp13641, gtsp3642⟩ := u3636
          try dsimp only at hr3635
          have hP : va_P G.1 vwCl [(h0, .inr (10, [.ref tby, .int (nI kt), .ref tln, .ref tsp, .int kd13637, .int (nI ks13638), .int (nI kn13639), .int tf13640])), (tby, .inl (G.2.1, 240, .inl fby)), (tsp, .inr (8, [.int 120, .int 1, .ref tspc, .int (nI ksp13641)])), (tspc, .inl (G.2.1, 120, .inl gtsp3642))] H := hP
          have hD : va_D A [(h0, .inr (10, [.ref tby, .int (nI kt), .ref tln, .ref tsp, .int kd13637, .int (nI ks13638), .int (nI kn13639), .int tf13640])), (tby, .inl (G.2.1, 240, .inl fby)), (tsp, .inr (8, [.int 120, .int 1, .ref tspc, .int (nI ksp13641)])), (tspc, .inl (G.2.1, 120, .inl gtsp3642))] := hD
          obtain ⟨hr3635, w3643⟩ := hr3635
          rcases hr3635 with rfl | rfl
          · refine lv_if_ne (tgt := 42) hx hb dX10_takesAll_37 (by decide) (fun _ => ?_) (fun c9 => absurd c9 (by decide))
            refine lv_aload_n hx hb dX10_takesAll_42 rfl (lv_at hl 1 rfl) ?_
            refine lv_bipush (v := (-2)) hx hb dX10_takesAll_43 (by decide) ?_
            refine vV (wr := [(tby, .inl (G.2.1, 240, .inl fby))]) hC hK hl hP hD hS hA (t_addStep l G h0 (-2) tby kt tln tsp kd13637 ks13638 kn13639 tf13640 tspc ksp13641 gtsp3642 (by omega)) si_X10_152 [0, 2, 3] [1] rfl rfl (by decide) rfl (by decide) (by decide) rfl rfl rfl rfl rfl (Nat.le_of_ble_eq_true rfl) ⟨Nat.le_of_ble_eq_true rfl, Nat.le_of_ble_eq_true rfl⟩ ⟨Nat.le_of_ble_eq_true rfl, Nat.le_of_ble_eq_true rfl⟩ dX10_takesAll_45 (fun u3646 H locs hr3645 hP hD hS => ?_)
            obtain ⟨ksp13647, gtsp3648⟩ := u3646
            try dsimp only at hr3645
            have hP : va_P G.1 vwCl [(tby, .inl (G.2.1, 240, .inl fby)), (h0, .inr (10, [.ref tby, .int (nI kt), .ref tln, .ref tsp, .int kd13637, .int (nI ks13638), .int (nI kn13639), .int tf13640])), (tsp, .inr (8, [.int 120, .int 1, .ref tspc, .int (nI ksp13647)])), (tspc, .inl (G.2.1, 120, .inl gtsp3648))] H := hP
            have hD : va_D A [(tby, .inl (G.2.1, 240, .inl fby)), (h0, .inr (10, [.ref tby, .int (nI kt), .ref tln, .ref tsp, .int kd13637, .int (nI ks13638), .int (nI kn13639), .int tf13640])), (tsp, .inr (8, [.int 120, .int 1, .ref tspc, .int (nI ksp13647)])), (tspc, .inl (G.2.1, 120, .inl gtsp3648))] := hD
            have w3649 := hr3645
            refine lv_iinc (v := nI (kP + 1)) (lv' := [(2, .int (nI (kP + 1))), (0, .ref h0), (1, .int 0)]) hx hb dX10_takesAll_48 hl (k := 0) rfl (nI_1 _) (by decide) rfl (fun ls hl => ?_)
            refine lv_goto (tgt := 12) hx hb dX10_takesAll_51 (by decide) ?_
            have hP := hP.sub (ws' := [(h0, .inr (10, [.ref tby, .int (nI kt), .ref tln, .ref tsp, .int kd13637, .int (nI ks13638), .int (nI kn13639), .int tf13640])), (tby, .inl (G.2.1, 240, .inl fby)), (tsp, .inr (8, [.int 120, .int 1, .ref tspc, .int (nI ksp13647)])), (tspc, .inl (G.2.1, 120, .inl gtsp3648))]) [1, 0, 2, 3] rfl
            have hD := hD.sub (ws' := [(h0, .inr (10, [.ref tby, .int (nI kt), .ref tln, .ref tsp, .int kd13637, .int (nI ks13638), .int (nI kn13639), .int tf13640])), (tby, .inl (G.2.1, 240, .inl fby)), (tsp, .inr (8, [.int 120, .int 1, .ref tspc, .int (nI ksp13647)])), (tspc, .inl (G.2.1, 120, .inl gtsp3648))]) [1, 0, 2, 3] (by decide) rfl
            exact ihP (kP + 1) kd13637 tf13640 gtsp3648 ks13638 kn13639 ksp13647 _ _ _ (by omega) (by first | assumption | exact Or.inl rfl | exact Or.inr rfl | omega) (by first | assumption | exact Or.inl rfl | exact Or.inr rfl | omega) (by first | assumption | exact Or.inl rfl | exact Or.inr rfl | omega) hP hD hS (lv_sub hl [0, 1, 2] rfl)
          · refine lv_if_ne (tgt := 42) hx hb dX10_takesAll_37 (by decide) (fun c9 => absurd (by decide) c9) (fun _ => ?_)
            refine lv_iconst (v := 0) hx hb dX10_takesAll_40 (by decide) ?_
            exact RI (v := 0) hC hP hD hS [0, 1, 2, 3] (kd13637, ks13638, kn13639, tf13640, ksp13641, gtsp3642) rfl rfl (by decide) (⟨Or.inr (rfl), by dsimp only; omega⟩) (by decide +kernel) dX10_takesAll_41
        · refine lv_if_eq (tgt := 54) hx hb dX10_takesAll_25 (by decide) (fun _ => ?_) (fun c9 => absurd (by decide) c9)
          refine lv_iconst (v := 1) hx hb dX10_takesAll_54 (by decide) ?_
          exact RI (v := 1) hC hP hD hS [0, 1, 2, 3] (vkd, vks, vkn, vtf, vksp, vtsp) rfl rfl (by decide) (⟨Or.inl (rfl), by dsimp only; omega⟩) (by decide +kernel) dX10_takesAll_55
    exact keyP 240 0 kd13619 tf13622 gtsp3624 ks13620 kn13621 ksp13623 _ _ _ (by omega) (by first | assumption | exact Or.inl rfl | exact Or.inr rfl | omega) (by first | assumption | exact Or.inl rfl | exact Or.inr rfl | omega) (by first | assumption | exact Or.inl rfl | exact Or.inr rfl | omega) hP hD hS (lv_sub hl [0, 1, 2] rfl)
  · refine lv_if_ne (tgt := 10) hx hb dX10_takesAll_5 (by decide) (fun c9 => absurd (by decide) c9) (fun _ => ?_)
    refine lv_iconst (v := 0) hx hb dX10_takesAll_8 (by decide) ?_
    exact RI (v := 0) hC hP hD hS [0, 1, 2, 3] (kd13619, ks13620, kn13621, tf13622, ksp13623, gtsp3624) rfl rfl (by decide) (⟨Or.inr (rfl), by dsimp only; omega⟩) (by decide +kernel) dX10_takesAll_9
set_option maxHeartbeats 4000000 in
set_option maxRecDepth 100000 in
theorem t_cond0 (l : Launch) (G : GG) (K : OO) (h0 : Nat) (tby : Nat) (kt : Nat) (tln : Nat) (tsp : Nat) (tkd : Int32) (ks : Nat) (kn : Nat) (tf9 : Int32) (fby : Nat → Int32) (tspc : Nat) (ksp : Nat) (ftsp : Nat → Int32) (hkt : kt ≤ 240) (hks : ks ≤ 240) (hkn : kn ≤ 240) (hksp : ksp ≤ 120) : MIo l G K yX10_takesCond cX10_takesCond 3 (some .boolean) 27 0 0 [.ref h0, .int 0] [(h0, .inr (10, [.ref tby, .int (nI kt), .ref tln, .ref tsp, .int tkd, .int (nI ks), .int (nI kn), .int tf9])), (tby, .inl (G.2.1, 240, .inl fby)), (tsp, .inr (8, [.int 120, .int 1, .ref tspc, .int (nI ksp)])), (tspc, .inl (G.2.1, 120, .inl ftsp))] (fun (r : Int32) (u : Int32 × Nat × Nat × Int32 × Nat × (Nat → Int32)) => (r = 1 ∨ r = 0) ∧ (u.2.1 ≤ 240 ∧ u.2.2.1 ≤ 240 ∧ u.2.2.2.2.1 ≤ 120)) (fun u : Int32 × Nat × Nat × Int32 × Nat × (Nat → Int32) => [(h0, .inr (10, [.ref tby, .int (nI kt), .ref tln, .ref tsp, .int u.1, .int (nI u.2.1), .int (nI u.2.2.1), .int u.2.2.2.1])), (tby, .inl (G.2.1, 240, .inl fby)), (tsp, .inr (8, [.int 120, .int 1, .ref tspc, .int (nI u.2.2.2.2.1)])), (tspc, .inl (G.2.1, 120, .inl u.2.2.2.2.2))]) := by
  refine MIo.start (by decide +kernel) (Nat.le_of_ble_eq_true rfl) ?_
  intro p e s m below meth c A ls hC hK hP hD hS hA hl hO
  have hl : lv_has ls 3 [(0, .ref h0), (1, .int 0)] := hl
  obtain ⟨hx, hb, hr, hml, hB, hown, hlocks, hnm⟩ := id hC
  refine lv_aload_n hx hb dX10_takesCond_0 rfl (lv_at hl 0 rfl) ?_
  refine lv_iload_n hx hb dX10_takesCond_1 rfl (lv_at hl 1 rfl) ?_
  refine iVo (wr := []) hO hC hK hl hP hD hS hA (t_all0 l G K h0 tby kt tln tsp tkd ks kn tf9 fby tspc ksp ftsp (by omega) (by omega) (by omega) (by omega)) si_X10_147 [0, 1, 2, 3] [] rfl rfl (by decide) rfl (by decide) (by decide) rfl rfl rfl rfl rfl (Nat.le_of_ble_eq_true rfl) ⟨Nat.le_of_ble_eq_true rfl, Nat.le_of_ble_eq_true rfl⟩ ⟨Nat.le_of_ble_eq_true rfl, Nat.le_of_ble_eq_true rfl⟩ dX10_takesCond_2 (fun r3650 u3651 H locs hr3650 hP hD hS => ?_)
  obtain ⟨kd13652, ks13653, kn13654, tf13655, ksp13656, gtsp3657⟩ := u3651
  try dsimp only at hr3650
  have hP : va_P G.1 vwCl [(h0, .inr (10, [.ref tby, .int (nI kt), .ref tln, .ref tsp, .int kd13652, .int (nI ks13653), .int (nI kn13654), .int tf13655])), (tby, .inl (G.2.1, 240, .inl fby)), (tsp, .inr (8, [.int 120, .int 1, .ref tspc, .int (nI ksp13656)])), (tspc, .inl (G.2.1, 120, .inl gtsp3657))] H := hP
  have hD : va_D A [(h0, .inr (10, [.ref tby, .int (nI kt), .ref tln, .ref tsp, .int kd13652, .int (nI ks13653), .int (nI kn13654), .int tf13655])), (tby, .inl (G.2.1, 240, .inl fby)), (tsp, .inr (8, [.int 120, .int 1, .ref tspc, .int (nI ksp13656)])), (tspc, .inl (G.2.1, 120, .inl gtsp3657))] := hD
  obtain ⟨hr3650, w3658⟩ := hr3650
  rcases hr3650 with rfl | rfl
  · refine lv_if_ne (tgt := 10) hx hb dX10_takesCond_5 (by decide) (fun _ => ?_) (fun c9 => absurd c9 (by decide))
    refine lv_iconst (v := 0) hx hb dX10_takesCond_10 (by decide) ?_
    refine lv_istore_n (lv' := [(2, .int 0), (0, .ref h0), (1, .int 0)]) hx hb dX10_takesCond_11 rfl hl (by decide) rfl (fun ls hl => ?_)
    have keyP : ∀ (nP kP : Nat) (vkd : Int32) (vtf : Int32) (vtsp : Nat → Int32) (vks : Nat) (vkn : Nat) (vksp : Nat) (H : Heap) (locs : List Loc) (ls : Array Slot), kP + nP = 240 → (vks ≤ 240) → (vkn ≤ 240) → (vksp ≤ 120) → va_P G.1 vwCl [(h0, .inr (10, [.ref tby, .int (nI kt), .ref tln, .ref tsp, .int vkd, .int (nI vks), .int (nI vkn), .int vtf])), (tby, .inl (G.2.1, 240, .inl fby)), (tsp, .inr (8, [.int 120, .int 1, .ref tspc, .int (nI vksp)])), (tspc, .inl (G.2.1, 120, .inl vtsp))] H → va_D A [(h0, .inr (10, [.ref tby, .int (nI kt), .ref tln, .ref tsp, .int vkd, .int (nI vks), .int (nI vkn), .int vtf])), (tby, .inl (G.2.1, 240, .inl fby)), (tsp, .inr (8, [.int 120, .int 1, .ref tspc, .int (nI vksp)])), (tspc, .inl (G.2.1, 120, .inl vtsp))] → va_S A s.heap H locs → lv_has ls 3 [(2, .int (nI kP)), (0, .ref h0), (1, .int 0)] → W p l e (RM 27 0 0) s m ([.ref h0, .int 0] : List Value).toArray below meth c H locs 0 0 (MQ below (QI G (fun (r : Int32) (u : Int32 × Nat × Nat × Int32 × Nat × (Nat → Int32)) => (r = 1 ∨ r = 0) ∧ (u.2.1 ≤ 240 ∧ u.2.2.1 ≤ 240 ∧ u.2.2.2.2.1 ≤ 120)) (fun u : Int32 × Nat × Nat × Int32 × Nat × (Nat → Int32) => [(h0, .inr (10, [.ref tby, .int (nI kt), .ref tln, .ref tsp, .int u.1, .int (nI u.2.1), .int (nI u.2.2.1), .int u.2.2.2.1])), (tby, .inl (G.2.1, 240, .inl fby)), (tsp, .inr (8, [.int 120, .int 1, .ref tspc, .int (nI u.2.2.2.2.1)])), (tspc, .inl (G.2.1, 120, .inl u.2.2.2.2.2))]) A) ([.ref h0, .int 0] : List Value).toArray s 0 0 A) (F0 m 12 ls []) := by
      intro nP
      induction nP with
      | zero =>
        intro kP vkd vtf vtsp vks vkn vksp H locs ls hkP hvks hvkn hvksp hP hD hS hl
        obtain rfl : 240 = kP := by omega
        have hl : lv_has ls 3 [(2, .int 240), (0, .ref h0), (1, .int 0)] := hl
        refine lv_iload_n hx hb dX10_takesCond_12 rfl (lv_at hl 0 rfl) ?_
        refine lv_sipush (v := 240) hx hb dX10_takesCond_13 (by decide) ?_
        refine lv_icmp_ge (tgt := 54) hx hb dX10_takesCond_16 (by decide) (fun _ => ?_) (fun c9 => absurd (by decide) c9)
        refine lv_iconst (v := 1) hx hb dX10_takesCond_54 (by decide) ?_
        exact RI (v := 1) hC hP hD hS [0, 1, 2, 3] (vkd, vks, vkn, vtf, vksp, vtsp) rfl rfl (by decide) (⟨Or.inl (rfl), by dsimp only; omega⟩) (by decide +kernel) dX10_takesCond_55
      | succ nP ihP =>
        intro kP vkd vtf vtsp vks vkn vksp H locs ls hkP hvks hvkn hvksp hP hD hS hl
        refine lv_iload_n hx hb dX10_takesCond_12 rfl (lv_at hl 0 rfl) ?_
        refine lv_sipush (v := 240) hx hb dX10_takesCond_13 (by decide) ?_
        refine lv_icmp_ge (tgt := 54) hx hb dX10_takesCond_16 (by decide) (fun c9 => absurd c9 (nI_ge (a := kP) (b := 240) (by omega) (by omega))) (fun _ => ?_)
        refine lv_aload_n hx hb dX10_takesCond_19 rfl (lv_at hl 1 rfl) ?_
        refine va_ldcS (index := 150) (tx := "o\x72") hx hb hown (hO.2.1 8 (by decide)) dX10_takesCond_20 ?_
        refine pVo hO hS hC hK hl hP hD (t_isName l G K 8 h0 tby kt tln tsp vkd vks vkn vtf fby (by omega) (by omega) (by omega) ((by decide))) si_X10_102 [0, 1] rfl rfl (by decide) rfl rfl rfl rfl rfl (Nat.le_of_ble_eq_true rfl) ⟨Nat.le_of_ble_eq_true rfl, Nat.le_of_ble_eq_true rfl⟩ ⟨by first | exact Nat.le_of_ble_eq_true rfl | exact Nat.zero_le _, by first | exact Nat.le_of_ble_eq_true rfl | exact Nat.zero_le _⟩ dX10_takesCond_22 (fun r3660 hr3660 => ?_)
        rcases hr3660 with rfl | rfl
        · refine lv_if_eq (tgt := 54) hx hb dX10_takesCond_25 (by decide) (fun c9 => absurd c9 (by decide)) (fun _ => ?_)
          refine lv_aload_n hx hb dX10_takesCond_28 rfl (lv_at hl 1 rfl) ?_
          refine vV (wr := [(tsp, .inr (8, [.int 120, .int 1, .ref tspc, .int (nI vksp)])), (tspc, .inl (G.2.1, 120, .inl vtsp))]) hC hK hl hP hD hS hA (t_advance l G h0 tby kt tln tsp vkd vks vkn vtf fby (by omega) (by omega) (by omega)) si_X10_47 [0, 1] [2, 3] rfl rfl (by decide) rfl (by decide) (by decide) rfl rfl rfl rfl rfl (Nat.le_of_ble_eq_true rfl) ⟨Nat.le_of_ble_eq_true rfl, Nat.le_of_ble_eq_true rfl⟩ ⟨Nat.le_of_ble_eq_true rfl, Nat.le_of_ble_eq_true rfl⟩ dX10_takesCond_29 (fun u3663 H locs hr3662 hP hD hS => ?_)
          obtain ⟨kd13664, ks13665, kn13666⟩ := u3663
          try dsimp only at hr3662
          have hP : va_P G.1 vwCl [(tsp, .inr (8, [.int 120, .int 1, .ref tspc, .int (nI vksp)])), (tspc, .inl (G.2.1, 120, .inl vtsp)), (h0, .inr (10, [.ref tby, .int (nI kt), .ref tln, .ref tsp, .int kd13664, .int (nI ks13665), .int (nI kn13666), .int vtf])), (tby, .inl (G.2.1, 240, .inl fby))] H := hP
          have hD : va_D A [(tsp, .inr (8, [.int 120, .int 1, .ref tspc, .int (nI vksp)])), (tspc, .inl (G.2.1, 120, .inl vtsp)), (h0, .inr (10, [.ref tby, .int (nI kt), .ref tln, .ref tsp, .int kd13664, .int (nI ks13665), .int (nI kn13666), .int vtf])), (tby, .inl (G.2.1, 240, .inl fby))] := hD
          have w3667 := hr3662
          refine lv_aload_n hx hb dX10_takesCond_32 rfl (lv_at hl 1 rfl) ?_
          refine lv_iload_n hx hb dX10_takesCond_33 rfl (lv_at hl 2 rfl) ?_
          refine iVo (wr := []) hO hC hK hl hP hD hS hA (t_all0 l G K h0 tby kt tln tsp kd13664 ks13665 kn13666 vtf fby tspc vksp vtsp (by omega) (by omega) (by omega) (by omega)) si_X10_147 [2, 3, 0, 1] [] rfl rfl (by decide) rfl (by decide) (by decide) rfl rfl rfl rfl rfl (Nat.le_of_ble_eq_true rfl) ⟨Nat.le_of_ble_eq_true rfl, Nat.le_of_ble_eq_true rfl⟩ ⟨Nat.le_of_ble_eq_true rfl, Nat.le_of_ble_eq_true rfl⟩ dX10_takesCond_34 (fun r3668 u3669 H locs hr3668 hP hD hS => ?_)
          obtain ⟨kd13670, ks13671, kn13672, tf13673, ksp13674, gtsp3675⟩ := u3669
          try dsimp only at hr3668
          have hP : va_P G.1 vwCl [(h0, .inr (10, [.ref tby, .int (nI kt), .ref tln, .ref tsp, .int kd13670, .int (nI ks13671), .int (nI kn13672), .int tf13673])), (tby, .inl (G.2.1, 240, .inl fby)), (tsp, .inr (8, [.int 120, .int 1, .ref tspc, .int (nI ksp13674)])), (tspc, .inl (G.2.1, 120, .inl gtsp3675))] H := hP
          have hD : va_D A [(h0, .inr (10, [.ref tby, .int (nI kt), .ref tln, .ref tsp, .int kd13670, .int (nI ks13671), .int (nI kn13672), .int tf13673])), (tby, .inl (G.2.1, 240, .inl fby)), (tsp, .inr (8, [.int 120, .int 1, .ref tspc, .int (nI ksp13674)])), (tspc, .inl (G.2.1, 120, .inl gtsp3675))] := hD
          obtain ⟨hr3668, w3676⟩ := hr3668
          rcases hr3668 with rfl | rfl
          · refine lv_if_ne (tgt := 42) hx hb dX10_takesCond_37 (by decide) (fun _ => ?_) (fun c9 => absurd c9 (by decide))
            refine lv_aload_n hx hb dX10_takesCond_42 rfl (lv_at hl 1 rfl) ?_
            refine lv_bipush (v := (-3)) hx hb dX10_takesCond_43 (by decide) ?_
            refine vV (wr := [(tby, .inl (G.2.1, 240, .inl fby))]) hC hK hl hP hD hS hA (t_addStep l G h0 (-3) tby kt tln tsp kd13670 ks13671 kn13672 tf13673 tspc ksp13674 gtsp3675 (by omega)) si_X10_152 [0, 2, 3] [1] rfl rfl (by decide) rfl (by decide) (by decide) rfl rfl rfl rfl rfl (Nat.le_of_ble_eq_true rfl) ⟨Nat.le_of_ble_eq_true rfl, Nat.le_of_ble_eq_true rfl⟩ ⟨Nat.le_of_ble_eq_true rfl, Nat.le_of_ble_eq_true rfl⟩ dX10_takesCond_45 (fun u3679 H locs hr3678 hP hD hS => ?_)
            obtain ⟨ksp13680, gtsp3681⟩ := u3679
            try dsimp only at hr3678
            have hP : va_P G.1 vwCl [(tby, .inl (G.2.1, 240, .inl fby)), (h0, .inr (10, [.ref tby, .int (nI kt), .ref tln, .ref tsp, .int kd13670, .int (nI ks13671), .int (nI kn13672), .int tf13673])), (tsp, .inr (8, [.int 120, .int 1, .ref tspc, .int (nI ksp13680)])), (tspc, .inl (G.2.1, 120, .inl gtsp3681))] H := hP
            have hD : va_D A [(tby, .inl (G.2.1, 240, .inl fby)), (h0, .inr (10, [.ref tby, .int (nI kt), .ref tln, .ref tsp, .int kd13670, .int (nI ks13671), .int (nI kn13672), .int tf13673])), (tsp, .inr (8, [.int 120, .int 1, .ref tspc, .int (nI ksp13680)])), (tspc, .inl (G.2.1, 120, .inl gtsp3681))] := hD
            have w3682 := hr3678
            refine lv_iinc (v := nI (kP + 1)) (lv' := [(2, .int (nI (kP + 1))), (0, .ref h0), (1, .int 0)]) hx hb dX10_takesCond_48 hl (k := 0) rfl (nI_1 _) (by decide) rfl (fun ls hl => ?_)
            refine lv_goto (tgt := 12) hx hb dX10_takesCond_51 (by decide) ?_
            have hP := hP.sub (ws' := [(h0, .inr (10, [.ref tby, .int (nI kt), .ref tln, .ref tsp, .int kd13670, .int (nI ks13671), .int (nI kn13672), .int tf13673])), (tby, .inl (G.2.1, 240, .inl fby)), (tsp, .inr (8, [.int 120, .int 1, .ref tspc, .int (nI ksp13680)])), (tspc, .inl (G.2.1, 120, .inl gtsp3681))]) [1, 0, 2, 3] rfl
            have hD := hD.sub (ws' := [(h0, .inr (10, [.ref tby, .int (nI kt), .ref tln, .ref tsp, .int kd13670, .int (nI ks13671), .int (nI kn13672), .int tf13673])), (tby, .inl (G.2.1, 240, .inl fby)), (tsp, .inr (8, [.int 120, .int 1, .ref tspc, .int (nI ksp13680)])), (tspc, .inl (G.2.1, 120, .inl gtsp3681))]) [1, 0, 2, 3] (by decide) rfl
            exact ihP (kP + 1) kd13670 tf13673 gtsp3681 ks13671 kn13672 ksp13680 _ _ _ (by omega) (by first | assumption | exact Or.inl rfl | exact Or.inr rfl | omega) (by first | assumption | exact Or.inl rfl | exact Or.inr rfl | omega) (by first | assumption | exact Or.inl rfl | exact Or.inr rfl | omega) hP hD hS (lv_sub hl [0, 1, 2] rfl)
          · refine lv_if_ne (tgt := 42) hx hb dX10_takesCond_37 (by decide) (fun c9 => absurd (by decide) c9) (fun _ => ?_)
            refine lv_iconst (v := 0) hx hb dX10_takesCond_40 (by decide) ?_
            exact RI (v := 0) hC hP hD hS [0, 1, 2, 3] (kd13670, ks13671, kn13672, tf13673, ksp13674, gtsp3675) rfl rfl (by decide) (⟨Or.inr (rfl), by dsimp only; omega⟩) (by decide +kernel) dX10_takesCond_41
        · refine lv_if_eq (tgt := 54) hx hb dX10_takesCond_25 (by decide) (fun _ => ?_) (fun c9 => absurd (by decide) c9)
          refine lv_iconst (v := 1) hx hb dX10_takesCond_54 (by decide) ?_
          exact RI (v := 1) hC hP hD hS [0, 1, 2, 3] (vkd, vks, vkn, vtf, vksp, vtsp) rfl rfl (by decide) (⟨Or.inl (rfl), by dsimp only; omega⟩) (by decide +kernel) dX10_takesCond_55
    exact keyP 240 0 kd13652 tf13655 gtsp3657 ks13653 kn13654 ksp13656 _ _ _ (by omega) (by first | assumption | exact Or.inl rfl | exact Or.inr rfl | omega) (by first | assumption | exact Or.inl rfl | exact Or.inr rfl | omega) (by first | assumption | exact Or.inl rfl | exact Or.inr rfl | omega) hP hD hS (lv_sub hl [0, 1, 2] rfl)
  · refine lv_if_ne (tgt := 10) hx hb dX10_takesCond_5 (by decide) (fun c9 => absurd (by decide) c9) (fun _ => ?_)
    refine lv_iconst (v := 0) hx hb dX10_takesCond_8 (by decide) ?_
    exact RI (v := 0) hC hP hD hS [0, 1, 2, 3] (kd13652, ks13653, kn13654, tf13655, ksp13656, gtsp3657) rfl rfl (by decide) (⟨Or.inr (rfl), by dsimp only; omega⟩) (by decide +kernel) dX10_takesCond_9
